def xTab_r0 (n0 : Nat) : Nat → Option Nat := fun j => match j with
  | 0 => some (n0 + 1)
  | 1 => some (n0 + 32)
  | 2 => some (n0 + 33)
  | 3 => some (n0 + 43)
  | 4 => some (n0 + 50)
  | 5 => some (n0 + 55)
  | 6 => some (n0 + 57)
  | _ => none
def xTab_r1 (n0 : Nat) : Nat → Option Nat := fun j => match j with
  | 0 => some (n0 + 2)
  | 1 => some (n0 + 11)
  | 2 => some (n0 + 13)
  | 3 => some (n0 + 22)
  | 4 => some (n0 + 31)
  | _ => none
def xTab_r2 (n0 : Nat) : Nat → Option Nat := fun j => match j with
  | 0 => some (n0 + 3)
  | 1 => some (n0 + 4)
  | 2 => some (n0 + 5)
  | 3 => some (n0 + 6)
  | 4 => some (n0 + 7)
  | 5 => some (n0 + 8)
  | 6 => some (n0 + 9)
  | 7 => some (n0 + 10)
  | _ => none
def xTab_r11 (n0 : Nat) : Nat → Option Nat := fun j => match j with
  | 0 => some (n0 + 12)
  | _ => none
def xTab_r13 (n0 : Nat) : Nat → Option Nat := fun j => match j with
  | 1 => some (n0 + 14)
  | 2 => some (n0 + 15)
  | 3 => some (n0 + 16)
  | 4 => some (n0 + 17)
  | 5 => some (n0 + 18)
  | 6 => some (n0 + 19)
  | 7 => some (n0 + 20)
  | 8 => some (n0 + 21)
  | _ => none
def xTab_r22 (n0 : Nat) : Nat → Option Nat := fun j => match j with
  | 1 => some (n0 + 23)
  | 2 => some (n0 + 24)
  | 3 => some (n0 + 25)
  | 4 => some (n0 + 26)
  | 5 => some (n0 + 27)
  | 6 => some (n0 + 28)
  | 7 => some (n0 + 29)
  | 8 => some (n0 + 30)
  | _ => none
def xTab_r31 (n0 : Nat) : Nat → Option Nat := fun j => match j with
  | _ => none
def xTab_r33 (n0 : Nat) : Nat → Option Nat := fun j => match j with
  | 0 => some (n0 + 34)
  | 3 => some (n0 + 11)
  | _ => none
def xTab_r34 (n0 : Nat) : Nat → Option Nat := fun j => match j with
  | 1 => some (n0 + 35)
  | 2 => some (n0 + 36)
  | 3 => some (n0 + 37)
  | 4 => some (n0 + 38)
  | 5 => some (n0 + 39)
  | 6 => some (n0 + 40)
  | 7 => some (n0 + 41)
  | 8 => some (n0 + 42)
  | _ => none
def xTab_r43 (n0 : Nat) : Nat → Option Nat := fun j => match j with
  | 1 => some (n0 + 44)
  | 2 => some (n0 + 45)
  | 3 => some (n0 + 46)
  | 4 => some (n0 + 47)
  | 5 => some (n0 + 48)
  | 6 => some (n0 + 49)
  | _ => none
def xTab_r50 (n0 : Nat) : Nat → Option Nat := fun j => match j with
  | 2 => some (n0 + 51)
  | 3 => some (n0 + 52)
  | 4 => some (n0 + 53)
  | 6 => some (n0 + 54)
  | _ => none
def xTab_r55 (n0 : Nat) : Nat → Option Nat := fun j => match j with
  | 0 => some (n0 + 56)
  | _ => none
def xTab (n0 : Nat) : List (Nat × ASh) := [(0, (9, 0, xTab_r0 n0)), (1, (7, 0, xTab_r1 n0)), (2, (0, 0, xTab_r2 n0)), (3, (11, 352, fun _ => none)), (4, (11, 352, fun _ => none)), (5, (11, 32, fun _ => none)), (6, (11, 32, fun _ => none)), (7, (11, 400, fun _ => none)), (8, (11, 400, fun _ => none)), (9, (11, 400, fun _ => none)), (10, (11, 400, fun _ => none)), (11, (8, 0, xTab_r11 n0)), (12, (13, 500, fun _ => none)), (13, (5, 0, xTab_r13 n0)), (14, (11, 16, fun _ => none)), (15, (11, 16, fun _ => none)), (16, (11, 16, fun _ => none)), (17, (11, 16, fun _ => none)), (18, (11, 64, fun _ => none)), (19, (11, 64, fun _ => none)), (20, (11, 64, fun _ => none)), (21, (14, 64, fun _ => none)), (22, (5, 0, xTab_r22 n0)), (23, (11, 16, fun _ => none)), (24, (11, 16, fun _ => none)), (25, (11, 16, fun _ => none)), (26, (11, 16, fun _ => none)), (27, (11, 64, fun _ => none)), (28, (11, 64, fun _ => none)), (29, (11, 64, fun _ => none)), (30, (14, 64, fun _ => none)), (31, (1, 0, xTab_r31 n0)), (33, (4, 0, xTab_r33 n0)), (34, (5, 0, xTab_r34 n0)), (35, (11, 16, fun _ => none)), (36, (11, 16, fun _ => none)), (37, (11, 16, fun _ => none)), (38, (11, 16, fun _ => none)), (39, (11, 64, fun _ => none)), (40, (11, 64, fun _ => none)), (41, (11, 64, fun _ => none)), (42, (14, 64, fun _ => none)), (43, (3, 0, xTab_r43 n0)), (44, (11, 32, fun _ => none)), (45, (11, 32, fun _ => none)), (46, (11, 32, fun _ => none)), (47, (11, 32, fun _ => none)), (48, (11, 32, fun _ => none)), (49, (11, 8, fun _ => none)), (50, (6, 0, xTab_r50 n0)), (51, (11, 301, fun _ => none)), (52, (11, 301, fun _ => none)), (53, (11, 301, fun _ => none)), (54, (11, 1312, fun _ => none)), (55, (2, 0, xTab_r55 n0)), (56, (12, 33, fun _ => none)), (57, (11, 8, fun _ => none))]
def aLX (g : AGl) : Prop := ∀ (k : Nat) (S : ASh), (k, S) ∈ xTab g.1 → aAt g k S
theorem lX_0 {g : AGl} (h : aLX g) : aAt g 0 (9, 0, xTab_r0 g.1) := h _ _ (List.mem_of_getElem? (i := 0) rfl)
theorem lX_1 {g : AGl} (h : aLX g) : aAt g 1 (7, 0, xTab_r1 g.1) := h _ _ (List.mem_of_getElem? (i := 1) rfl)
theorem lX_2 {g : AGl} (h : aLX g) : aAt g 2 (0, 0, xTab_r2 g.1) := h _ _ (List.mem_of_getElem? (i := 2) rfl)
theorem lX_3 {g : AGl} (h : aLX g) : aAt g 3 (11, 352, fun _ => none) := h _ _ (List.mem_of_getElem? (i := 3) rfl)
theorem lX_4 {g : AGl} (h : aLX g) : aAt g 4 (11, 352, fun _ => none) := h _ _ (List.mem_of_getElem? (i := 4) rfl)
theorem lX_5 {g : AGl} (h : aLX g) : aAt g 5 (11, 32, fun _ => none) := h _ _ (List.mem_of_getElem? (i := 5) rfl)
theorem lX_6 {g : AGl} (h : aLX g) : aAt g 6 (11, 32, fun _ => none) := h _ _ (List.mem_of_getElem? (i := 6) rfl)
theorem lX_7 {g : AGl} (h : aLX g) : aAt g 7 (11, 400, fun _ => none) := h _ _ (List.mem_of_getElem? (i := 7) rfl)
theorem lX_8 {g : AGl} (h : aLX g) : aAt g 8 (11, 400, fun _ => none) := h _ _ (List.mem_of_getElem? (i := 8) rfl)
theorem lX_9 {g : AGl} (h : aLX g) : aAt g 9 (11, 400, fun _ => none) := h _ _ (List.mem_of_getElem? (i := 9) rfl)
theorem lX_10 {g : AGl} (h : aLX g) : aAt g 10 (11, 400, fun _ => none) := h _ _ (List.mem_of_getElem? (i := 10) rfl)
theorem lX_11 {g : AGl} (h : aLX g) : aAt g 11 (8, 0, xTab_r11 g.1) := h _ _ (List.mem_of_getElem? (i := 11) rfl)
theorem lX_12 {g : AGl} (h : aLX g) : aAt g 12 (13, 500, fun _ => none) := h _ _ (List.mem_of_getElem? (i := 12) rfl)
theorem lX_13 {g : AGl} (h : aLX g) : aAt g 13 (5, 0, xTab_r13 g.1) := h _ _ (List.mem_of_getElem? (i := 13) rfl)
theorem lX_14 {g : AGl} (h : aLX g) : aAt g 14 (11, 16, fun _ => none) := h _ _ (List.mem_of_getElem? (i := 14) rfl)
theorem lX_15 {g : AGl} (h : aLX g) : aAt g 15 (11, 16, fun _ => none) := h _ _ (List.mem_of_getElem? (i := 15) rfl)
theorem lX_16 {g : AGl} (h : aLX g) : aAt g 16 (11, 16, fun _ => none) := h _ _ (List.mem_of_getElem? (i := 16) rfl)
theorem lX_17 {g : AGl} (h : aLX g) : aAt g 17 (11, 16, fun _ => none) := h _ _ (List.mem_of_getElem? (i := 17) rfl)
theorem lX_18 {g : AGl} (h : aLX g) : aAt g 18 (11, 64, fun _ => none) := h _ _ (List.mem_of_getElem? (i := 18) rfl)
theorem lX_19 {g : AGl} (h : aLX g) : aAt g 19 (11, 64, fun _ => none) := h _ _ (List.mem_of_getElem? (i := 19) rfl)
theorem lX_20 {g : AGl} (h : aLX g) : aAt g 20 (11, 64, fun _ => none) := h _ _ (List.mem_of_getElem? (i := 20) rfl)
theorem lX_21 {g : AGl} (h : aLX g) : aAt g 21 (14, 64, fun _ => none) := h _ _ (List.mem_of_getElem? (i := 21) rfl)
theorem lX_22 {g : AGl} (h : aLX g) : aAt g 22 (5, 0, xTab_r22 g.1) := h _ _ (List.mem_of_getElem? (i := 22) rfl)
theorem lX_23 {g : AGl} (h : aLX g) : aAt g 23 (11, 16, fun _ => none) := h _ _ (List.mem_of_getElem? (i := 23) rfl)
theorem lX_24 {g : AGl} (h : aLX g) : aAt g 24 (11, 16, fun _ => none) := h _ _ (List.mem_of_getElem? (i := 24) rfl)
theorem lX_25 {g : AGl} (h : aLX g) : aAt g 25 (11, 16, fun _ => none) := h _ _ (List.mem_of_getElem? (i := 25) rfl)
theorem lX_26 {g : AGl} (h : aLX g) : aAt g 26 (11, 16, fun _ => none) := h _ _ (List.mem_of_getElem? (i := 26) rfl)
theorem lX_27 {g : AGl} (h : aLX g) : aAt g 27 (11, 64, fun _ => none) := h _ _ (List.mem_of_getElem? (i := 27) rfl)
theorem lX_28 {g : AGl} (h : aLX g) : aAt g 28 (11, 64, fun _ => none) := h _ _ (List.mem_of_getElem? (i := 28) rfl)
theorem lX_29 {g : AGl} (h : aLX g) : aAt g 29 (11, 64, fun _ => none) := h _ _ (List.mem_of_getElem? (i := 29) rfl)
theorem lX_30 {g : AGl} (h : aLX g) : aAt g 30 (14, 64, fun _ => none) := h _ _ (List.mem_of_getElem? (i := 30) rfl)
theorem lX_31 {g : AGl} (h : aLX g) : aAt g 31 (1, 0, xTab_r31 g.1) := h _ _ (List.mem_of_getElem? (i := 31) rfl)
theorem lX_33 {g : AGl} (h : aLX g) : aAt g 33 (4, 0, xTab_r33 g.1) := h _ _ (List.mem_of_getElem? (i := 32) rfl)
theorem lX_34 {g : AGl} (h : aLX g) : aAt g 34 (5, 0, xTab_r34 g.1) := h _ _ (List.mem_of_getElem? (i := 33) rfl)
theorem lX_35 {g : AGl} (h : aLX g) : aAt g 35 (11, 16, fun _ => none) := h _ _ (List.mem_of_getElem? (i := 34) rfl)
theorem lX_36 {g : AGl} (h : aLX g) : aAt g 36 (11, 16, fun _ => none) := h _ _ (List.mem_of_getElem? (i := 35) rfl)
theorem lX_37 {g : AGl} (h : aLX g) : aAt g 37 (11, 16, fun _ => none) := h _ _ (List.mem_of_getElem? (i := 36) rfl)
theorem lX_38 {g : AGl} (h : aLX g) : aAt g 38 (11, 16, fun _ => none) := h _ _ (List.mem_of_getElem? (i := 37) rfl)
theorem lX_39 {g : AGl} (h : aLX g) : aAt g 39 (11, 64, fun _ => none) := h _ _ (List.mem_of_getElem? (i := 38) rfl)
theorem lX_40 {g : AGl} (h : aLX g) : aAt g 40 (11, 64, fun _ => none) := h _ _ (List.mem_of_getElem? (i := 39) rfl)
theorem lX_41 {g : AGl} (h : aLX g) : aAt g 41 (11, 64, fun _ => none) := h _ _ (List.mem_of_getElem? (i := 40) rfl)
theorem lX_42 {g : AGl} (h : aLX g) : aAt g 42 (14, 64, fun _ => none) := h _ _ (List.mem_of_getElem? (i := 41) rfl)
theorem lX_43 {g : AGl} (h : aLX g) : aAt g 43 (3, 0, xTab_r43 g.1) := h _ _ (List.mem_of_getElem? (i := 42) rfl)
theorem lX_44 {g : AGl} (h : aLX g) : aAt g 44 (11, 32, fun _ => none) := h _ _ (List.mem_of_getElem? (i := 43) rfl)
theorem lX_45 {g : AGl} (h : aLX g) : aAt g 45 (11, 32, fun _ => none) := h _ _ (List.mem_of_getElem? (i := 44) rfl)
theorem lX_46 {g : AGl} (h : aLX g) : aAt g 46 (11, 32, fun _ => none) := h _ _ (List.mem_of_getElem? (i := 45) rfl)
theorem lX_47 {g : AGl} (h : aLX g) : aAt g 47 (11, 32, fun _ => none) := h _ _ (List.mem_of_getElem? (i := 46) rfl)
theorem lX_48 {g : AGl} (h : aLX g) : aAt g 48 (11, 32, fun _ => none) := h _ _ (List.mem_of_getElem? (i := 47) rfl)
theorem lX_49 {g : AGl} (h : aLX g) : aAt g 49 (11, 8, fun _ => none) := h _ _ (List.mem_of_getElem? (i := 48) rfl)
theorem lX_50 {g : AGl} (h : aLX g) : aAt g 50 (6, 0, xTab_r50 g.1) := h _ _ (List.mem_of_getElem? (i := 49) rfl)
theorem lX_51 {g : AGl} (h : aLX g) : aAt g 51 (11, 301, fun _ => none) := h _ _ (List.mem_of_getElem? (i := 50) rfl)
theorem lX_52 {g : AGl} (h : aLX g) : aAt g 52 (11, 301, fun _ => none) := h _ _ (List.mem_of_getElem? (i := 51) rfl)
theorem lX_53 {g : AGl} (h : aLX g) : aAt g 53 (11, 301, fun _ => none) := h _ _ (List.mem_of_getElem? (i := 52) rfl)
theorem lX_54 {g : AGl} (h : aLX g) : aAt g 54 (11, 1312, fun _ => none) := h _ _ (List.mem_of_getElem? (i := 53) rfl)
theorem lX_55 {g : AGl} (h : aLX g) : aAt g 55 (2, 0, xTab_r55 g.1) := h _ _ (List.mem_of_getElem? (i := 54) rfl)
theorem lX_56 {g : AGl} (h : aLX g) : aAt g 56 (12, 33, fun _ => none) := h _ _ (List.mem_of_getElem? (i := 55) rfl)
theorem lX_57 {g : AGl} (h : aLX g) : aAt g 57 (11, 8, fun _ => none) := h _ _ (List.mem_of_getElem? (i := 56) rfl)
def mTab_r0 (n0 : Nat) : Nat → Option Nat := fun j => match j with
  | 1 => some (n0 + 1)
  | 2 => some (n0 + 2)
  | 3 => some (n0 + 3)
  | 4 => some (n0 + 4)
  | 5 => some (n0 + 5)
  | 6 => some (n0 + 6)
  | 7 => some (n0 + 7)
  | 8 => some (n0 + 8)
  | 9 => some (n0 + 9)
  | 10 => some (n0 + 10)
  | 11 => some (n0 + 11)
  | 12 => some (n0 + 12)
  | 13 => some (n0 + 13)
  | 14 => some (n0 + 14)
  | 15 => some (n0 + 15)
  | 16 => some (n0 + 16)
  | 17 => some (n0 + 17)
  | 18 => some (n0 + 18)
  | 19 => some (n0 + 19)
  | 20 => some (n0 + 20)
  | 21 => some (n0 + 21)
  | 22 => some (n0 + 22)
  | 33 => some (n0 + 23)
  | 34 => some (n0 + 24)
  | 35 => some (n0 + 25)
  | 36 => some (n0 + 26)
  | 37 => some (n0 + 27)
  | 38 => some (n0 + 28)
  | 39 => some (n0 + 29)
  | 40 => some (n0 + 30)
  | 42 => some (n0 + 31)
  | 43 => some (n0 + 32)
  | 44 => some (n0 + 33)
  | 45 => some (n0 + 34)
  | 46 => some (n0 + 35)
  | 47 => some (n0 + 36)
  | 48 => some (n0 + 37)
  | 49 => some (n0 + 38)
  | 50 => some (n0 + 39)
  | _ => none
def mTab (n0 : Nat) : List (Nat × ASh) := [(0, (10, 0, mTab_r0 n0)), (1, (13, 2000, fun _ => none)), (2, (11, 4, fun _ => none)), (3, (11, 4, fun _ => none)), (4, (11, 4, fun _ => none)), (5, (11, 4, fun _ => none)), (6, (11, 4, fun _ => none)), (7, (11, 4, fun _ => none)), (8, (11, 4, fun _ => none)), (9, (11, 6400, fun _ => none)), (10, (11, 384, fun _ => none)), (11, (11, 4, fun _ => none)), (12, (11, 4, fun _ => none)), (13, (11, 8, fun _ => none)), (14, (11, 4, fun _ => none)), (15, (11, 8, fun _ => none)), (16, (11, 128, fun _ => none)), (17, (11, 512, fun _ => none)), (18, (11, 512, fun _ => none)), (19, (11, 512, fun _ => none)), (20, (11, 128, fun _ => none)), (21, (11, 128, fun _ => none)), (22, (11, 128, fun _ => none)), (23, (11, 17, fun _ => none)), (24, (11, 64, fun _ => none)), (25, (11, 64, fun _ => none)), (26, (11, 64, fun _ => none)), (27, (11, 17, fun _ => none)), (28, (11, 17, fun _ => none)), (29, (11, 17, fun _ => none)), (30, (11, 8, fun _ => none)), (31, (14, 32, fun _ => none)), (32, (11, 352, fun _ => none)), (33, (11, 32, fun _ => none)), (34, (11, 32, fun _ => none)), (35, (14, 32, fun _ => none)), (36, (11, 301, fun _ => none)), (37, (12, 33, fun _ => none)), (38, (14, 32, fun _ => none)), (39, (14, 3, fun _ => none))]
def aLM (g : AGl) : Prop := ∀ (k : Nat) (S : ASh), (k, S) ∈ mTab g.1 → aAt g k S
theorem lM_0 {g : AGl} (h : aLM g) : aAt g 0 (10, 0, mTab_r0 g.1) := h _ _ (List.mem_of_getElem? (i := 0) rfl)
theorem lM_1 {g : AGl} (h : aLM g) : aAt g 1 (13, 2000, fun _ => none) := h _ _ (List.mem_of_getElem? (i := 1) rfl)
theorem lM_2 {g : AGl} (h : aLM g) : aAt g 2 (11, 4, fun _ => none) := h _ _ (List.mem_of_getElem? (i := 2) rfl)
theorem lM_3 {g : AGl} (h : aLM g) : aAt g 3 (11, 4, fun _ => none) := h _ _ (List.mem_of_getElem? (i := 3) rfl)
theorem lM_4 {g : AGl} (h : aLM g) : aAt g 4 (11, 4, fun _ => none) := h _ _ (List.mem_of_getElem? (i := 4) rfl)
theorem lM_5 {g : AGl} (h : aLM g) : aAt g 5 (11, 4, fun _ => none) := h _ _ (List.mem_of_getElem? (i := 5) rfl)
theorem lM_6 {g : AGl} (h : aLM g) : aAt g 6 (11, 4, fun _ => none) := h _ _ (List.mem_of_getElem? (i := 6) rfl)
theorem lM_7 {g : AGl} (h : aLM g) : aAt g 7 (11, 4, fun _ => none) := h _ _ (List.mem_of_getElem? (i := 7) rfl)
theorem lM_8 {g : AGl} (h : aLM g) : aAt g 8 (11, 4, fun _ => none) := h _ _ (List.mem_of_getElem? (i := 8) rfl)
theorem lM_9 {g : AGl} (h : aLM g) : aAt g 9 (11, 6400, fun _ => none) := h _ _ (List.mem_of_getElem? (i := 9) rfl)
theorem lM_10 {g : AGl} (h : aLM g) : aAt g 10 (11, 384, fun _ => none) := h _ _ (List.mem_of_getElem? (i := 10) rfl)
theorem lM_11 {g : AGl} (h : aLM g) : aAt g 11 (11, 4, fun _ => none) := h _ _ (List.mem_of_getElem? (i := 11) rfl)
theorem lM_12 {g : AGl} (h : aLM g) : aAt g 12 (11, 4, fun _ => none) := h _ _ (List.mem_of_getElem? (i := 12) rfl)
theorem lM_13 {g : AGl} (h : aLM g) : aAt g 13 (11, 8, fun _ => none) := h _ _ (List.mem_of_getElem? (i := 13) rfl)
theorem lM_14 {g : AGl} (h : aLM g) : aAt g 14 (11, 4, fun _ => none) := h _ _ (List.mem_of_getElem? (i := 14) rfl)
theorem lM_15 {g : AGl} (h : aLM g) : aAt g 15 (11, 8, fun _ => none) := h _ _ (List.mem_of_getElem? (i := 15) rfl)
theorem lM_16 {g : AGl} (h : aLM g) : aAt g 16 (11, 128, fun _ => none) := h _ _ (List.mem_of_getElem? (i := 16) rfl)
theorem lM_17 {g : AGl} (h : aLM g) : aAt g 17 (11, 512, fun _ => none) := h _ _ (List.mem_of_getElem? (i := 17) rfl)
theorem lM_18 {g : AGl} (h : aLM g) : aAt g 18 (11, 512, fun _ => none) := h _ _ (List.mem_of_getElem? (i := 18) rfl)
theorem lM_19 {g : AGl} (h : aLM g) : aAt g 19 (11, 512, fun _ => none) := h _ _ (List.mem_of_getElem? (i := 19) rfl)
theorem lM_20 {g : AGl} (h : aLM g) : aAt g 20 (11, 128, fun _ => none) := h _ _ (List.mem_of_getElem? (i := 20) rfl)
theorem lM_21 {g : AGl} (h : aLM g) : aAt g 21 (11, 128, fun _ => none) := h _ _ (List.mem_of_getElem? (i := 21) rfl)
theorem lM_22 {g : AGl} (h : aLM g) : aAt g 22 (11, 128, fun _ => none) := h _ _ (List.mem_of_getElem? (i := 22) rfl)
theorem lM_23 {g : AGl} (h : aLM g) : aAt g 23 (11, 17, fun _ => none) := h _ _ (List.mem_of_getElem? (i := 23) rfl)
theorem lM_24 {g : AGl} (h : aLM g) : aAt g 24 (11, 64, fun _ => none) := h _ _ (List.mem_of_getElem? (i := 24) rfl)
theorem lM_25 {g : AGl} (h : aLM g) : aAt g 25 (11, 64, fun _ => none) := h _ _ (List.mem_of_getElem? (i := 25) rfl)
theorem lM_26 {g : AGl} (h : aLM g) : aAt g 26 (11, 64, fun _ => none) := h _ _ (List.mem_of_getElem? (i := 26) rfl)
theorem lM_27 {g : AGl} (h : aLM g) : aAt g 27 (11, 17, fun _ => none) := h _ _ (List.mem_of_getElem? (i := 27) rfl)
theorem lM_28 {g : AGl} (h : aLM g) : aAt g 28 (11, 17, fun _ => none) := h _ _ (List.mem_of_getElem? (i := 28) rfl)
theorem lM_29 {g : AGl} (h : aLM g) : aAt g 29 (11, 17, fun _ => none) := h _ _ (List.mem_of_getElem? (i := 29) rfl)
theorem lM_30 {g : AGl} (h : aLM g) : aAt g 30 (11, 8, fun _ => none) := h _ _ (List.mem_of_getElem? (i := 30) rfl)
theorem lM_31 {g : AGl} (h : aLM g) : aAt g 31 (14, 32, fun _ => none) := h _ _ (List.mem_of_getElem? (i := 31) rfl)
theorem lM_32 {g : AGl} (h : aLM g) : aAt g 32 (11, 352, fun _ => none) := h _ _ (List.mem_of_getElem? (i := 32) rfl)
theorem lM_33 {g : AGl} (h : aLM g) : aAt g 33 (11, 32, fun _ => none) := h _ _ (List.mem_of_getElem? (i := 33) rfl)
theorem lM_34 {g : AGl} (h : aLM g) : aAt g 34 (11, 32, fun _ => none) := h _ _ (List.mem_of_getElem? (i := 34) rfl)
theorem lM_35 {g : AGl} (h : aLM g) : aAt g 35 (14, 32, fun _ => none) := h _ _ (List.mem_of_getElem? (i := 35) rfl)
theorem lM_36 {g : AGl} (h : aLM g) : aAt g 36 (11, 301, fun _ => none) := h _ _ (List.mem_of_getElem? (i := 36) rfl)
theorem lM_37 {g : AGl} (h : aLM g) : aAt g 37 (12, 33, fun _ => none) := h _ _ (List.mem_of_getElem? (i := 37) rfl)
theorem lM_38 {g : AGl} (h : aLM g) : aAt g 38 (14, 32, fun _ => none) := h _ _ (List.mem_of_getElem? (i := 38) rfl)
theorem lM_39 {g : AGl} (h : aLM g) : aAt g 39 (14, 3, fun _ => none) := h _ _ (List.mem_of_getElem? (i := 39) rfl)
def rR (n0 o : Nat) : Nat → Option Nat := fun j => match j with
  | 1 => some (n0 + (o + 1))
  | 2 => some (n0 + (o + 2))
  | 3 => some (n0 + (o + 3))
  | 4 => some (n0 + (o + 4))
  | 5 => some (n0 + (o + 5))
  | 6 => some (n0 + (o + 6))
  | 7 => some (n0 + (o + 7))
  | 8 => some (n0 + (o + 8))
  | _ => none
def aLR (g : AGl) (o : Nat) : Prop := aAt g o (5, 0, rR g.1 o) ∧ aAt g (o + 1) (11, 16, fun _ => none) ∧ aAt g (o + 2) (11, 16, fun _ => none) ∧ aAt g (o + 3) (11, 16, fun _ => none) ∧ aAt g (o + 4) (11, 16, fun _ => none) ∧ aAt g (o + 5) (11, 64, fun _ => none) ∧ aAt g (o + 6) (11, 64, fun _ => none) ∧ aAt g (o + 7) (11, 64, fun _ => none) ∧ aAt g (o + 8) (14, 64, fun _ => none)
def rB (n0 o : Nat) : Nat → Option Nat := fun j => match j with
  | 0 => some (n0 + (o + 1))
  | 1 => some (n0 + (o + 2))
  | 2 => some (n0 + (o + 3))
  | 3 => some (n0 + (o + 4))
  | 4 => some (n0 + (o + 5))
  | 5 => some (n0 + (o + 6))
  | 6 => some (n0 + (o + 7))
  | 7 => some (n0 + (o + 8))
  | _ => none
def rT (n0 o : Nat) : Nat → Option Nat := fun j => match j with
  | 0 => some (n0 + (o + 1))
  | _ => none
def rS (n0 o : Nat) : Nat → Option Nat := fun j => match j with
  | 0 => some (n0 + (o + 1))
  | 1 => some (n0 + (o + 10))
  | 2 => some (n0 + (o + 12))
  | 3 => some (n0 + (o + 21))
  | 4 => some (n0 + (o + 30))
  | _ => none
def aLB (g : AGl) (o : Nat) : Prop := aAt g o (0, 0, rB g.1 o) ∧ aAt g (o + 1) (11, 352, fun _ => none) ∧ aAt g (o + 2) (11, 352, fun _ => none) ∧ aAt g (o + 3) (11, 32, fun _ => none) ∧ aAt g (o + 4) (11, 32, fun _ => none) ∧ aAt g (o + 5) (11, 400, fun _ => none) ∧ aAt g (o + 6) (11, 400, fun _ => none) ∧ aAt g (o + 7) (11, 400, fun _ => none) ∧ aAt g (o + 8) (11, 400, fun _ => none)
def aLT (g : AGl) (o : Nat) : Prop := aAt g o (8, 0, rT g.1 o) ∧ aAt g (o + 1) (13, 500, fun _ => none)
def aLC (g : AGl) (o : Nat) : Prop := aAt g o (1, 0, fun _ => none)
def aLS (g : AGl) (o : Nat) : Prop := aAt g o (7, 0, rS g.1 o) ∧ aLB g (o + 1) ∧ aLT g (o + 10) ∧ aLR g (o + 12) ∧ aLR g (o + 21) ∧ aLC g (o + 30)
theorem lR_13 {g : AGl} (h : aLX g) : aLR g 13 := ⟨lX_13 h, lX_14 h, lX_15 h, lX_16 h, lX_17 h, lX_18 h, lX_19 h, lX_20 h, lX_21 h⟩
theorem lR_22 {g : AGl} (h : aLX g) : aLR g 22 := ⟨lX_22 h, lX_23 h, lX_24 h, lX_25 h, lX_26 h, lX_27 h, lX_28 h, lX_29 h, lX_30 h⟩
theorem lR_34 {g : AGl} (h : aLX g) : aLR g 34 := ⟨lX_34 h, lX_35 h, lX_36 h, lX_37 h, lX_38 h, lX_39 h, lX_40 h, lX_41 h, lX_42 h⟩
theorem w_1 : Cond.initialized RX10 ∈ aT := aT_m (tm_1_0 mq_1) gw_initialized
theorem w_10 : Cond.initialized RX3 ∈ aT := aT_m (tm_1_0 mq_10) gw_initialized
theorem w_1003 : Cond.fieldLink RX11 130 "StonesOfWeightModel" "code" "I" ∈ aT := aT_m (tm_5_2 mq_11) gw_fieldLink
theorem w_1004 : Cond.fieldLink RX11 7 "StonesOfWeightModel" "tape" "[B" ∈ aT := aT_m (tm_5_2 mq_12) gw_fieldLink
theorem w_1005 : Cond.fieldLink RX11 13 "StonesOfWeightModel" "size" "[I" ∈ aT := aT_m (tm_5_2 mq_13) gw_fieldLink
theorem w_1006 : Cond.fieldLink RX11 17 "StonesOfWeightModel" "fault" "[I" ∈ aT := aT_m (tm_5_2 mq_14) gw_fieldLink
theorem w_1007 : Cond.fieldLink RX11 20 "StonesOfWeightModel" "faultPlace" "[I" ∈ aT := aT_m (tm_5_2 mq_15) gw_fieldLink
theorem w_1008 : Cond.fieldLink RX11 23 "StonesOfWeightModel" "stones" "[I" ∈ aT := aT_m (tm_5_3 mq_0) gw_fieldLink
theorem w_1009 : Cond.fieldLink RX11 26 "StonesOfWeightModel" "days" "[I" ∈ aT := aT_m (tm_5_3 mq_1) gw_fieldLink
theorem w_1010 : Cond.fieldLink RX11 29 "StonesOfWeightModel" "viewed" "[I" ∈ aT := aT_m (tm_5_3 mq_2) gw_fieldLink
theorem w_1011 : Cond.fieldLink RX11 32 "StonesOfWeightModel" "entries" "[I" ∈ aT := aT_m (tm_5_3 mq_3) gw_fieldLink
theorem w_1012 : Cond.fieldLink RX11 35 "StonesOfWeightModel" "entry" "[I" ∈ aT := aT_m (tm_5_3 mq_4) gw_fieldLink
theorem w_1013 : Cond.fieldLink RX11 38 "StonesOfWeightModel" "listed" "[I" ∈ aT := aT_m (tm_5_3 mq_5) gw_fieldLink
theorem w_1014 : Cond.fieldLink RX11 41 "StonesOfWeightModel" "towns" "[I" ∈ aT := aT_m (tm_5_3 mq_6) gw_fieldLink
theorem w_1015 : Cond.fieldLink RX11 44 "StonesOfWeightModel" "stuffs" "[I" ∈ aT := aT_m (tm_5_3 mq_7) gw_fieldLink
theorem w_1016 : Cond.fieldLink RX11 47 "StonesOfWeightModel" "years" "[I" ∈ aT := aT_m (tm_5_3 mq_8) gw_fieldLink
theorem w_1017 : Cond.fieldLink RX11 50 "StonesOfWeightModel" "marks" "[I" ∈ aT := aT_m (tm_5_3 mq_9) gw_fieldLink
theorem w_1018 : Cond.fieldLink RX11 53 "StonesOfWeightModel" "lines" "[I" ∈ aT := aT_m (tm_5_3 mq_10) gw_fieldLink
theorem w_1019 : Cond.fieldLink RX11 56 "StonesOfWeightModel" "lineTests" "[I" ∈ aT := aT_m (tm_5_3 mq_11) gw_fieldLink
theorem w_1020 : Cond.fieldLink RX11 59 "StonesOfWeightModel" "testWhat" "[I" ∈ aT := aT_m (tm_5_3 mq_12) gw_fieldLink
theorem w_1021 : Cond.fieldLink RX11 62 "StonesOfWeightModel" "testSign" "[I" ∈ aT := aT_m (tm_5_3 mq_13) gw_fieldLink
theorem w_1022 : Cond.fieldLink RX11 65 "StonesOfWeightModel" "testThan" "[I" ∈ aT := aT_m (tm_5_3 mq_14) gw_fieldLink
theorem w_1023 : Cond.fieldLink RX11 68 "StonesOfWeightModel" "lineAct" "[I" ∈ aT := aT_m (tm_5_3 mq_15) gw_fieldLink
theorem w_1024 : Cond.fieldLink RX11 71 "StonesOfWeightModel" "lineOne" "[I" ∈ aT := aT_m (tm_5_4 mq_0) gw_fieldLink
theorem w_1025 : Cond.fieldLink RX11 74 "StonesOfWeightModel" "lineTwo" "[I" ∈ aT := aT_m (tm_5_4 mq_1) gw_fieldLink
theorem w_1026 : Cond.fieldLink RX11 166 "StonesOfWeightModel" "ahead" "I" ∈ aT := aT_m (tm_5_4 mq_2) gw_fieldLink
theorem w_1027 : Cond.fieldLink RX11 169 "StonesOfWeightModel" "length" "I" ∈ aT := aT_m (tm_5_4 mq_3) gw_fieldLink
theorem w_1028 : Cond.fieldLink RX11 175 "StonesOfWeightModel" "begins" "I" ∈ aT := aT_m (tm_5_4 mq_4) gw_fieldLink
theorem w_1029 : Cond.fieldLink RX11 185 "StonesOfWeightModel" "sort" "I" ∈ aT := aT_m (tm_5_4 mq_5) gw_fieldLink
theorem w_1030 : Cond.fieldLink RX11 178 "StonesOfWeightModel" "value" "I" ∈ aT := aT_m (tm_5_4 mq_6) gw_fieldLink
theorem w_1031 : Cond.fieldLink RX11 181 "StonesOfWeightModel" "word" "J" ∈ aT := aT_m (tm_5_4 mq_7) gw_fieldLink
theorem w_1032 : Cond.fieldLink RX11 188 "StonesOfWeightModel" "wrongAt" "I" ∈ aT := aT_m (tm_5_4 mq_8) gw_fieldLink
theorem w_1033 : Cond.fieldLink RX11 191 "StonesOfWeightModel" "laterFault" "I" ∈ aT := aT_m (tm_5_4 mq_9) gw_fieldLink
theorem w_1034 : Cond.fieldLink RX11 194 "StonesOfWeightModel" "laterPlace" "I" ∈ aT := aT_m (tm_5_4 mq_10) gw_fieldLink
theorem w_1035 : Cond.fieldLink RX11 267 "StonesOfWeightModel" "newLines" "I" ∈ aT := aT_m (tm_5_4 mq_11) gw_fieldLink
theorem w_1036 : Cond.fieldLink RX11 77 "StonesOfWeightModel" "newTests" "[I" ∈ aT := aT_m (tm_5_4 mq_12) gw_fieldLink
theorem w_1037 : Cond.fieldLink RX11 80 "StonesOfWeightModel" "newWhat" "[I" ∈ aT := aT_m (tm_5_4 mq_13) gw_fieldLink
theorem w_1038 : Cond.fieldLink RX11 83 "StonesOfWeightModel" "newSign" "[I" ∈ aT := aT_m (tm_5_4 mq_14) gw_fieldLink
theorem w_1039 : Cond.fieldLink RX11 86 "StonesOfWeightModel" "newThan" "[I" ∈ aT := aT_m (tm_5_4 mq_15) gw_fieldLink
theorem w_1040 : Cond.fieldLink RX11 89 "StonesOfWeightModel" "newAct" "[I" ∈ aT := aT_m (tm_5_5 mq_0) gw_fieldLink
theorem w_1041 : Cond.fieldLink RX11 92 "StonesOfWeightModel" "newOne" "[I" ∈ aT := aT_m (tm_5_5 mq_1) gw_fieldLink
theorem w_1042 : Cond.fieldLink RX11 95 "StonesOfWeightModel" "newTwo" "[I" ∈ aT := aT_m (tm_5_5 mq_2) gw_fieldLink
theorem w_1043 : Cond.fieldLink RX11 98 "StonesOfWeightModel" "seen" "[I" ∈ aT := aT_m (tm_5_5 mq_3) gw_fieldLink
theorem w_1044 : Cond.fieldLink RX11 302 "StonesOfWeightModel" "many" "I" ∈ aT := aT_m (tm_5_5 mq_4) gw_fieldLink
theorem w_1045 : Cond.fieldLink RX11 101 "StonesOfWeightModel" "there" "[Z" ∈ aT := aT_m (tm_5_5 mq_5) gw_fieldLink
theorem w_1046 : Cond.fieldLink RX11 105 "StonesOfWeightModel" "facts" "[I" ∈ aT := aT_m (tm_5_5 mq_6) gw_fieldLink
theorem w_1047 : Cond.fieldLink RX11 108 "StonesOfWeightModel" "low" "[I" ∈ aT := aT_m (tm_5_5 mq_7) gw_fieldLink
theorem w_1048 : Cond.fieldLink RX11 111 "StonesOfWeightModel" "high" "[I" ∈ aT := aT_m (tm_5_5 mq_8) gw_fieldLink
theorem w_1049 : Cond.fieldLink RX11 114 "StonesOfWeightModel" "chosen" "[Z" ∈ aT := aT_m (tm_5_5 mq_9) gw_fieldLink
theorem w_1050 : Cond.fieldLink RX11 117 "StonesOfWeightModel" "scores" "[I" ∈ aT := aT_m (tm_5_5 mq_10) gw_fieldLink
theorem w_1051 : Cond.fieldLink RX11 120 "StonesOfWeightModel" "chances" "[J" ∈ aT := aT_m (tm_5_5 mq_11) gw_fieldLink
theorem w_1052 : Cond.fieldLink RX11 124 "StonesOfWeightModel" "all" "[Z" ∈ aT := aT_m (tm_5_5 mq_12) gw_fieldLink
theorem w_1053 : Cond.fieldLink RX11 127 "StonesOfWeightModel" "kept" "[Z" ∈ aT := aT_m (tm_5_5 mq_13) gw_fieldLink
theorem w_108 : Cond.fieldLink RX6 9 "StonesOfWeight$Rules" "lines" "I" ∈ aT := aT_m (tm_1_6 mq_12) gw_fieldLink
theorem w_109 : Cond.fieldLink RX5 42 "StonesOfWeight$Rules" "lines" "I" ∈ aT := aT_m (tm_1_6 mq_13) gw_fieldLink
theorem w_11 : Cond.initialized RX11 ∈ aT := aT_m (tm_1_0 mq_11) gw_initialized
theorem w_110 : Cond.fieldLink RX10 130 "StonesOfWeight$Rules" "lines" "I" ∈ aT := aT_m (tm_1_6 mq_14) gw_fieldLink
theorem w_111 : Cond.fieldLink RX4 148 "StonesOfWeight$Rules" "lines" "I" ∈ aT := aT_m (tm_1_6 mq_15) gw_fieldLink
theorem w_112 : Cond.fieldLink RX6 15 "StonesOfWeight$Rules" "deed" "[I" ∈ aT := aT_m (tm_1_7 mq_0) gw_fieldLink
theorem w_113 : Cond.fieldLink RX6 19 "StonesOfWeight$Rules" "least" "[I" ∈ aT := aT_m (tm_1_7 mq_1) gw_fieldLink
theorem w_114 : Cond.fieldLink RX6 22 "StonesOfWeight$Rules" "most" "[I" ∈ aT := aT_m (tm_1_7 mq_2) gw_fieldLink
theorem w_115 : Cond.fieldLink RX6 25 "StonesOfWeight$Rules" "tests" "[I" ∈ aT := aT_m (tm_1_7 mq_3) gw_fieldLink
theorem w_116 : Cond.fieldLink RX6 28 "StonesOfWeight$Rules" "testKey" "[I" ∈ aT := aT_m (tm_1_7 mq_4) gw_fieldLink
theorem w_1161 : Cond.methodLink RX11 (138) yX11_is ∈ aT := aT_m (tm_5_12 mq_9) gw_methodLink
theorem w_1162 : Cond.static yX11_is ∈ aT := aT_m (tm_5_12 mq_10) gw_static
theorem w_1163 : Cond.code yX11_is cX11_is 3 (some .boolean) ∈ aT := aT_m (tm_5_12 mq_11) gw_code
theorem w_1164 : Cond.methodLink RX11 (146) yX11_enter ∈ aT := aT_m (tm_5_12 mq_12) gw_methodLink
theorem w_1166 : Cond.instanceMethod yX11_enter ∈ aT := aT_m (tm_5_12 mq_14) gw_instanceMethod
theorem w_1167 : Cond.code yX11_enter cX11_enter 5 none ∈ aT := aT_m (tm_5_12 mq_15) gw_code
theorem w_117 : Cond.fieldLink RX6 31 "StonesOfWeight$Rules" "testSign" "[I" ∈ aT := aT_m (tm_1_7 mq_5) gw_fieldLink
theorem w_1172 : Cond.methodLink RX11 (154) yX11_canBe ∈ aT := aT_m (tm_5_13 mq_4) gw_methodLink
theorem w_1174 : Cond.instanceMethod yX11_canBe ∈ aT := aT_m (tm_5_13 mq_6) gw_instanceMethod
theorem w_1175 : Cond.code yX11_canBe cX11_canBe 4 (some .boolean) ∈ aT := aT_m (tm_5_13 mq_7) gw_code
theorem w_1176 : Cond.methodLink RX11 (150) yX11_factOn ∈ aT := aT_m (tm_5_13 mq_8) gw_methodLink
theorem w_1178 : Cond.instanceMethod yX11_factOn ∈ aT := aT_m (tm_5_13 mq_10) gw_instanceMethod
theorem w_1179 : Cond.code yX11_factOn cX11_factOn 8 (some .int) ∈ aT := aT_m (tm_5_13 mq_11) gw_code
theorem w_118 : Cond.fieldLink RX6 34 "StonesOfWeight$Rules" "testBound" "[I" ∈ aT := aT_m (tm_1_7 mq_6) gw_fieldLink
theorem w_119 : Cond.fieldLink RX6 37 "StonesOfWeight$Rules" "testNot" "[Z" ∈ aT := aT_m (tm_1_7 mq_7) gw_fieldLink
theorem w_1192 : Cond.methodLink RX11 (157) yX11_isStone ∈ aT := aT_m (tm_5_14 mq_8) gw_methodLink
theorem w_1194 : Cond.instanceMethod yX11_isStone ∈ aT := aT_m (tm_5_14 mq_10) gw_instanceMethod
theorem w_1195 : Cond.code yX11_isStone cX11_isStone 2 (some .boolean) ∈ aT := aT_m (tm_5_14 mq_11) gw_code
theorem w_1196 : Cond.methodLink RX11 (142) yX11_dayOfView ∈ aT := aT_m (tm_5_14 mq_12) gw_methodLink
theorem w_1198 : Cond.instanceMethod yX11_dayOfView ∈ aT := aT_m (tm_5_14 mq_14) gw_instanceMethod
theorem w_1199 : Cond.code yX11_dayOfView cX11_dayOfView 1 (some .int) ∈ aT := aT_m (tm_5_14 mq_15) gw_code
theorem w_12 : Cond.initialized RJ0 ∈ aT := aT_m (tm_1_0 mq_12) gw_initialized
theorem w_1200 : Cond.constant RX11 (161) (-100000) ∈ aT := aT_m (tm_6_0 mq_0) gw_constant
theorem w_1209 : Cond.methodLink RX11 (162) yX11_four ∈ aT := aT_m (tm_6_0 mq_9) gw_methodLink
theorem w_1211 : Cond.instanceMethod yX11_four ∈ aT := aT_m (tm_6_0 mq_11) gw_instanceMethod
theorem w_1212 : Cond.code yX11_four cX11_four 3 none ∈ aT := aT_m (tm_6_0 mq_12) gw_code
theorem w_1221 : Cond.methodLink RX11 (204) yX11_next ∈ aT := aT_m (tm_6_1 mq_5) gw_methodLink
theorem w_1223 : Cond.instanceMethod yX11_next ∈ aT := aT_m (tm_6_1 mq_7) gw_instanceMethod
theorem w_1224 : Cond.code yX11_next cX11_next 3 none ∈ aT := aT_m (tm_6_1 mq_8) gw_code
theorem w_1225 : Cond.methodLink RX11 (172) yX11_see ∈ aT := aT_m (tm_6_1 mq_9) gw_methodLink
theorem w_1227 : Cond.instanceMethod yX11_see ∈ aT := aT_m (tm_6_1 mq_11) gw_instanceMethod
theorem w_1228 : Cond.code yX11_see cX11_see 1 (some .int) ∈ aT := aT_m (tm_6_1 mq_12) gw_code
theorem w_1229 : Cond.methodLink RX11 (287) yX11_oneLine ∈ aT := aT_m (tm_6_1 mq_13) gw_methodLink
theorem w_1231 : Cond.instanceMethod yX11_oneLine ∈ aT := aT_m (tm_6_1 mq_15) gw_instanceMethod
theorem w_1232 : Cond.code yX11_oneLine cX11_oneLine 5 (some .boolean) ∈ aT := aT_m (tm_6_2 mq_0) gw_code
theorem w_1233 : Cond.methodLink RX11 (255) yX11_later ∈ aT := aT_m (tm_6_2 mq_1) gw_methodLink
theorem w_1235 : Cond.instanceMethod yX11_later ∈ aT := aT_m (tm_6_2 mq_3) gw_instanceMethod
theorem w_1236 : Cond.code yX11_later cX11_later 3 none ∈ aT := aT_m (tm_6_2 mq_4) gw_code
theorem w_1237 : Cond.constantLong RX11 (270) (26982) ∈ aT := aT_m (tm_6_2 mq_5) gw_constantLong
theorem w_1238 : Cond.methodLink RX11 (209) yX11_isWord ∈ aT := aT_m (tm_6_2 mq_6) gw_methodLink
theorem w_1240 : Cond.instanceMethod yX11_isWord ∈ aT := aT_m (tm_6_2 mq_8) gw_instanceMethod
theorem w_1241 : Cond.code yX11_isWord cX11_isWord 3 (some .boolean) ∈ aT := aT_m (tm_6_2 mq_9) gw_code
theorem w_1242 : Cond.methodLink RX11 (272) yX11_test ∈ aT := aT_m (tm_6_2 mq_10) gw_methodLink
theorem w_1244 : Cond.instanceMethod yX11_test ∈ aT := aT_m (tm_6_2 mq_12) gw_instanceMethod
theorem w_1245 : Cond.code yX11_test cX11_test 9 (some .boolean) ∈ aT := aT_m (tm_6_2 mq_13) gw_code
theorem w_1246 : Cond.constantLong RX11 (259) (7237492) ∈ aT := aT_m (tm_6_2 mq_14) gw_constantLong
theorem w_1247 : Cond.methodLink RX11 (261) yX11_testWord ∈ aT := aT_m (tm_6_2 mq_15) gw_methodLink
theorem w_1249 : Cond.instanceMethod yX11_testWord ∈ aT := aT_m (tm_6_3 mq_1) gw_instanceMethod
theorem w_1250 : Cond.code yX11_testWord cX11_testWord 2 (some .int) ∈ aT := aT_m (tm_6_3 mq_2) gw_code
theorem w_1251 : Cond.constantLong RX11 (207) (1835101817) ∈ aT := aT_m (tm_6_3 mq_3) gw_constantLong
theorem w_1252 : Cond.constantLong RX11 (213) (1852137842) ∈ aT := aT_m (tm_6_3 mq_4) gw_constantLong
theorem w_1253 : Cond.constantLong RX11 (215) (1835360622) ∈ aT := aT_m (tm_6_3 mq_5) gw_constantLong
theorem w_1254 : Cond.constantLong RX11 (217) (109299962372965) ∈ aT := aT_m (tm_6_3 mq_6) gw_constantLong
theorem w_1255 : Cond.constantLong RX11 (219) (500135716196) ∈ aT := aT_m (tm_6_3 mq_7) gw_constantLong
theorem w_1256 : Cond.constantLong RX11 (221) (482854658917) ∈ aT := aT_m (tm_6_3 mq_8) gw_constantLong
theorem w_1257 : Cond.constantLong RX11 (223) (500086304371) ∈ aT := aT_m (tm_6_3 mq_9) gw_constantLong
theorem w_1258 : Cond.constantLong RX11 (225) (469786323827) ∈ aT := aT_m (tm_6_3 mq_10) gw_constantLong
theorem w_1259 : Cond.constantLong RX11 (227) (495875090022) ∈ aT := aT_m (tm_6_3 mq_11) gw_constantLong
theorem w_1260 : Cond.constantLong RX11 (229) (426953502835) ∈ aT := aT_m (tm_6_3 mq_12) gw_constantLong
theorem w_1261 : Cond.constantLong RX11 (231) (1818583396) ∈ aT := aT_m (tm_6_3 mq_13) gw_constantLong
theorem w_1262 : Cond.constantLong RX11 (233) (1953462126) ∈ aT := aT_m (tm_6_3 mq_14) gw_constantLong
theorem w_1263 : Cond.constantLong RX11 (235) (1835102827) ∈ aT := aT_m (tm_6_3 mq_15) gw_constantLong
theorem w_1264 : Cond.constantLong RX11 (237) (478745093490) ∈ aT := aT_m (tm_6_4 mq_0) gw_constantLong
theorem w_1265 : Cond.constantLong RX11 (239) (6383461) ∈ aT := aT_m (tm_6_4 mq_1) gw_constantLong
theorem w_1266 : Cond.methodLink RX11 (200) yX11_wrong ∈ aT := aT_m (tm_6_4 mq_2) gw_methodLink
theorem w_1268 : Cond.instanceMethod yX11_wrong ∈ aT := aT_m (tm_6_4 mq_4) gw_instanceMethod
theorem w_1269 : Cond.code yX11_wrong cX11_wrong 1 (some .boolean) ∈ aT := aT_m (tm_6_4 mq_5) gw_code
theorem w_1270 : Cond.constantLong RX11 (276) (6385252) ∈ aT := aT_m (tm_6_4 mq_6) gw_constantLong
theorem w_1271 : Cond.methodLink RX11 (278) yX11_need ∈ aT := aT_m (tm_6_4 mq_7) gw_methodLink
theorem w_1273 : Cond.instanceMethod yX11_need ∈ aT := aT_m (tm_6_4 mq_9) gw_instanceMethod
theorem w_1274 : Cond.code yX11_need cX11_need 2 (some .boolean) ∈ aT := aT_m (tm_6_4 mq_10) gw_code
theorem w_1275 : Cond.methodLink RX11 (197) yX11_isSign ∈ aT := aT_m (tm_6_4 mq_11) gw_methodLink
theorem w_1277 : Cond.instanceMethod yX11_isSign ∈ aT := aT_m (tm_6_4 mq_13) gw_instanceMethod
theorem w_1278 : Cond.code yX11_isSign cX11_isSign 2 (some .boolean) ∈ aT := aT_m (tm_6_4 mq_14) gw_code
theorem w_1279 : Cond.methodLink RX11 (281) yX11_actWord ∈ aT := aT_m (tm_6_4 mq_15) gw_methodLink
theorem w_1281 : Cond.instanceMethod yX11_actWord ∈ aT := aT_m (tm_6_5 mq_1) gw_instanceMethod
theorem w_1282 : Cond.code yX11_actWord cX11_actWord 2 (some .int) ∈ aT := aT_m (tm_6_5 mq_2) gw_code
theorem w_1283 : Cond.constantLong RX11 (241) (1937076837) ∈ aT := aT_m (tm_6_5 mq_3) gw_constantLong
theorem w_1284 : Cond.constantLong RX11 (243) (119200029174905) ∈ aT := aT_m (tm_6_5 mq_4) gw_constantLong
theorem w_1285 : Cond.constantLong RX11 (245) (1869636974) ∈ aT := aT_m (tm_6_5 mq_5) gw_constantLong
theorem w_1286 : Cond.constantLong RX11 (247) (27416740819268468) ∈ aT := aT_m (tm_6_5 mq_6) gw_constantLong
theorem w_1287 : Cond.constantLong RX11 (249) (1836020325) ∈ aT := aT_m (tm_6_5 mq_7) gw_constantLong
theorem w_1288 : Cond.constantLong RX11 (251) (1818588019) ∈ aT := aT_m (tm_6_5 mq_8) gw_constantLong
theorem w_1289 : Cond.constantLong RX11 (253) (1937010544) ∈ aT := aT_m (tm_6_5 mq_9) gw_constantLong
theorem w_1290 : Cond.methodLink RX11 (284) yX11_numbers ∈ aT := aT_m (tm_6_5 mq_10) gw_methodLink
theorem w_1292 : Cond.instanceMethod yX11_numbers ∈ aT := aT_m (tm_6_5 mq_12) gw_instanceMethod
theorem w_1293 : Cond.code yX11_numbers cX11_numbers 2 (some .boolean) ∈ aT := aT_m (tm_6_5 mq_13) gw_code
theorem w_1294 : Cond.constantLong RX11 (265) (29807) ∈ aT := aT_m (tm_6_5 mq_14) gw_constantLong
theorem w_13 : Cond.initialized RJ1 ∈ aT := aT_m (tm_1_0 mq_13) gw_initialized
theorem w_1307 : Cond.methodLink RX11 (311) yX11_look ∈ aT := aT_m (tm_6_6 mq_11) gw_methodLink
theorem w_1309 : Cond.instanceMethod yX11_look ∈ aT := aT_m (tm_6_6 mq_13) gw_instanceMethod
theorem w_1310 : Cond.code yX11_look cX11_look 5 none ∈ aT := aT_m (tm_6_6 mq_14) gw_code
theorem w_1311 : Cond.methodLink RX11 (305) yX11_findSpan ∈ aT := aT_m (tm_6_6 mq_15) gw_methodLink
theorem w_1313 : Cond.instanceMethod yX11_findSpan ∈ aT := aT_m (tm_6_7 mq_1) gw_instanceMethod
theorem w_1314 : Cond.code yX11_findSpan cX11_findSpan 8 none ∈ aT := aT_m (tm_6_7 mq_2) gw_code
theorem w_1315 : Cond.methodLink RX11 (291) yX11_f ∈ aT := aT_m (tm_6_7 mq_3) gw_methodLink
theorem w_1317 : Cond.instanceMethod yX11_f ∈ aT := aT_m (tm_6_7 mq_5) gw_instanceMethod
theorem w_1318 : Cond.code yX11_f cX11_f 3 (some .int) ∈ aT := aT_m (tm_6_7 mq_6) gw_code
theorem w_1319 : Cond.methodLink RX11 (295) yX11_holds ∈ aT := aT_m (tm_6_7 mq_7) gw_methodLink
theorem w_1321 : Cond.instanceMethod yX11_holds ∈ aT := aT_m (tm_6_7 mq_9) gw_instanceMethod
theorem w_1322 : Cond.code yX11_holds cX11_holds 6 (some .boolean) ∈ aT := aT_m (tm_6_7 mq_10) gw_code
theorem w_1323 : Cond.methodLink RX11 (298) yX11_held ∈ aT := aT_m (tm_6_7 mq_11) gw_methodLink
theorem w_1324 : Cond.static yX11_held ∈ aT := aT_m (tm_6_7 mq_12) gw_static
theorem w_1325 : Cond.code yX11_held cX11_held 1 (some .int) ∈ aT := aT_m (tm_6_7 mq_13) gw_code
theorem w_1326 : Cond.methodLink RX11 (308) yX11_isChosen ∈ aT := aT_m (tm_6_7 mq_14) gw_methodLink
theorem w_1328 : Cond.instanceMethod yX11_isChosen ∈ aT := aT_m (tm_6_8 mq_0) gw_instanceMethod
theorem w_1329 : Cond.code yX11_isChosen cX11_isChosen 4 (some .boolean) ∈ aT := aT_m (tm_6_8 mq_1) gw_code
theorem w_1334 : Cond.methodLink RX11 (314) yX11_isUnit ∈ aT := aT_m (tm_6_8 mq_6) gw_methodLink
theorem w_1335 : Cond.static yX11_isUnit ∈ aT := aT_m (tm_6_8 mq_7) gw_static
theorem w_1336 : Cond.code yX11_isUnit cX11_isUnit 1 (some .boolean) ∈ aT := aT_m (tm_6_8 mq_8) gw_code
theorem w_1337 : Cond.methodLink RX11 (323) yX11_off ∈ aT := aT_m (tm_6_8 mq_9) gw_methodLink
theorem w_1339 : Cond.instanceMethod yX11_off ∈ aT := aT_m (tm_6_8 mq_11) gw_instanceMethod
theorem w_1340 : Cond.code yX11_off cX11_off 4 (some .int) ∈ aT := aT_m (tm_6_8 mq_12) gw_code
theorem w_1341 : Cond.methodLink RX11 (320) yX11_timesOf ∈ aT := aT_m (tm_6_8 mq_13) gw_methodLink
theorem w_1343 : Cond.instanceMethod yX11_timesOf ∈ aT := aT_m (tm_6_8 mq_15) gw_instanceMethod
theorem w_1344 : Cond.code yX11_timesOf cX11_timesOf 5 (some .int) ∈ aT := aT_m (tm_6_9 mq_0) gw_code
theorem w_1345 : Cond.methodLink RX11 (317) yX11_far ∈ aT := aT_m (tm_6_9 mq_1) gw_methodLink
theorem w_1346 : Cond.static yX11_far ∈ aT := aT_m (tm_6_9 mq_2) gw_static
theorem w_1347 : Cond.code yX11_far cX11_far 3 (some .int) ∈ aT := aT_m (tm_6_9 mq_3) gw_code
theorem w_1348 : Cond.methodLink RX11 (326) yX11_shortOf ∈ aT := aT_m (tm_6_9 mq_4) gw_methodLink
theorem w_1350 : Cond.instanceMethod yX11_shortOf ∈ aT := aT_m (tm_6_9 mq_6) gw_instanceMethod
theorem w_1351 : Cond.code yX11_shortOf cX11_shortOf 5 (some .int) ∈ aT := aT_m (tm_6_9 mq_7) gw_code
theorem w_1356 : Cond.constant RX11 (329) (-1000000000) ∈ aT := aT_m (tm_6_9 mq_12) gw_constant
theorem w_1357 : Cond.methodLink RX11 (330) yX11_scoreOf ∈ aT := aT_m (tm_6_9 mq_13) gw_methodLink
theorem w_1359 : Cond.instanceMethod yX11_scoreOf ∈ aT := aT_m (tm_6_9 mq_15) gw_instanceMethod
theorem w_1360 : Cond.code yX11_scoreOf cX11_scoreOf 4 (some .int) ∈ aT := aT_m (tm_6_10 mq_0) gw_code
theorem w_1365 : Cond.methodLink RX11 (340) yX11_areUnits ∈ aT := aT_m (tm_6_10 mq_5) gw_methodLink
theorem w_1366 : Cond.static yX11_areUnits ∈ aT := aT_m (tm_6_10 mq_6) gw_static
theorem w_1367 : Cond.code yX11_areUnits cX11_areUnits 2 (some .boolean) ∈ aT := aT_m (tm_6_10 mq_7) gw_code
theorem w_1368 : Cond.methodLink RX11 (344) yX11_those ∈ aT := aT_m (tm_6_10 mq_8) gw_methodLink
theorem w_1370 : Cond.instanceMethod yX11_those ∈ aT := aT_m (tm_6_10 mq_10) gw_instanceMethod
theorem w_1371 : Cond.code yX11_those cX11_those 3 (some .int) ∈ aT := aT_m (tm_6_10 mq_11) gw_code
theorem w_1372 : Cond.methodLink RX11 (347) yX11_bestOf ∈ aT := aT_m (tm_6_10 mq_12) gw_methodLink
theorem w_1374 : Cond.instanceMethod yX11_bestOf ∈ aT := aT_m (tm_6_10 mq_14) gw_instanceMethod
theorem w_1375 : Cond.code yX11_bestOf cX11_bestOf 5 (some .int) ∈ aT := aT_m (tm_6_10 mq_15) gw_code
theorem w_1376 : Cond.methodLink RX11 (333) yX11_findScores ∈ aT := aT_m (tm_6_11 mq_0) gw_methodLink
theorem w_1378 : Cond.instanceMethod yX11_findScores ∈ aT := aT_m (tm_6_11 mq_2) gw_instanceMethod
theorem w_1379 : Cond.code yX11_findScores cX11_findScores 4 none ∈ aT := aT_m (tm_6_11 mq_3) gw_code
theorem w_1380 : Cond.methodLink RX11 (336) yX11_against ∈ aT := aT_m (tm_6_11 mq_4) gw_methodLink
theorem w_1382 : Cond.instanceMethod yX11_against ∈ aT := aT_m (tm_6_11 mq_6) gw_instanceMethod
theorem w_1383 : Cond.code yX11_against cX11_against 4 (some .long) ∈ aT := aT_m (tm_6_11 mq_7) gw_code
theorem w_1388 : Cond.methodLink RX11 (353) yX11_placeOf ∈ aT := aT_m (tm_6_11 mq_12) gw_methodLink
theorem w_1390 : Cond.instanceMethod yX11_placeOf ∈ aT := aT_m (tm_6_11 mq_14) gw_instanceMethod
theorem w_1391 : Cond.code yX11_placeOf cX11_placeOf 8 (some .int) ∈ aT := aT_m (tm_6_11 mq_15) gw_code
theorem w_1392 : Cond.methodLink RX11 (350) yX11_isPeak ∈ aT := aT_m (tm_6_12 mq_0) gw_methodLink
theorem w_1394 : Cond.instanceMethod yX11_isPeak ∈ aT := aT_m (tm_6_12 mq_2) gw_instanceMethod
theorem w_1395 : Cond.code yX11_isPeak cX11_isPeak 4 (some .boolean) ∈ aT := aT_m (tm_6_12 mq_3) gw_code
theorem w_14 : Cond.initialized RJ3 ∈ aT := aT_m (tm_1_0 mq_14) gw_initialized
theorem w_1400 : Cond.methodLink RX11 (356) yX11_sumOf ∈ aT := aT_m (tm_6_12 mq_8) gw_methodLink
theorem w_1402 : Cond.instanceMethod yX11_sumOf ∈ aT := aT_m (tm_6_12 mq_10) gw_instanceMethod
theorem w_1403 : Cond.code yX11_sumOf cX11_sumOf 8 (some .long) ∈ aT := aT_m (tm_6_12 mq_11) gw_code
theorem w_1408 : Cond.constantLong RX11 (360) (-1000000000000) ∈ aT := aT_m (tm_6_13 mq_0) gw_constantLong
theorem w_1413 : Cond.methodLink RX11 (380) yX11_chanceOf ∈ aT := aT_m (tm_6_13 mq_5) gw_methodLink
theorem w_1415 : Cond.instanceMethod yX11_chanceOf ∈ aT := aT_m (tm_6_13 mq_7) gw_instanceMethod
theorem w_1416 : Cond.code yX11_chanceOf cX11_chanceOf 3 (some .long) ∈ aT := aT_m (tm_6_13 mq_8) gw_code
theorem w_1417 : Cond.methodLink RX11 (364) yX11_beginChances ∈ aT := aT_m (tm_6_13 mq_9) gw_methodLink
theorem w_1419 : Cond.instanceMethod yX11_beginChances ∈ aT := aT_m (tm_6_13 mq_11) gw_instanceMethod
theorem w_1420 : Cond.code yX11_beginChances cX11_beginChances 2 none ∈ aT := aT_m (tm_6_13 mq_12) gw_code
theorem w_1421 : Cond.constantLong RX11 (362) (1000000000) ∈ aT := aT_m (tm_6_13 mq_13) gw_constantLong
theorem w_1422 : Cond.methodLink RX11 (367) yX11_likely ∈ aT := aT_m (tm_6_13 mq_14) gw_methodLink
theorem w_1423 : Cond.static yX11_likely ∈ aT := aT_m (tm_6_13 mq_15) gw_static
theorem w_1424 : Cond.code yX11_likely cX11_likely 6 (some .int) ∈ aT := aT_m (tm_6_14 mq_0) gw_code
theorem w_1425 : Cond.methodLink RX11 (370) yX11_draw ∈ aT := aT_m (tm_6_14 mq_1) gw_methodLink
theorem w_1427 : Cond.instanceMethod yX11_draw ∈ aT := aT_m (tm_6_14 mq_3) gw_instanceMethod
theorem w_1428 : Cond.code yX11_draw cX11_draw 4 none ∈ aT := aT_m (tm_6_14 mq_4) gw_code
theorem w_1429 : Cond.methodLink RX11 (373) yX11_nearOf ∈ aT := aT_m (tm_6_14 mq_5) gw_methodLink
theorem w_1431 : Cond.instanceMethod yX11_nearOf ∈ aT := aT_m (tm_6_14 mq_7) gw_instanceMethod
theorem w_1432 : Cond.code yX11_nearOf cX11_nearOf 4 (some .int) ∈ aT := aT_m (tm_6_14 mq_8) gw_code
theorem w_1433 : Cond.methodLink RX11 (376) yX11_chancesFrom ∈ aT := aT_m (tm_6_14 mq_9) gw_methodLink
theorem w_1435 : Cond.instanceMethod yX11_chancesFrom ∈ aT := aT_m (tm_6_14 mq_11) gw_instanceMethod
theorem w_1436 : Cond.code yX11_chancesFrom cX11_chancesFrom 5 (some .long) ∈ aT := aT_m (tm_6_14 mq_12) gw_code
theorem w_1441 : Cond.methodLink RX11 (391) yX11_findProof ∈ aT := aT_m (tm_7_0 mq_1) gw_methodLink
theorem w_1443 : Cond.instanceMethod yX11_findProof ∈ aT := aT_m (tm_7_0 mq_3) gw_instanceMethod
theorem w_1444 : Cond.code yX11_findProof cX11_findProof 13 none ∈ aT := aT_m (tm_7_0 mq_4) gw_code
theorem w_1445 : Cond.constantLong RX11 (383) (1000) ∈ aT := aT_m (tm_7_0 mq_5) gw_constantLong
theorem w_1446 : Cond.methodLink RX11 (387) yX11_thousands ∈ aT := aT_m (tm_7_0 mq_6) gw_methodLink
theorem w_1447 : Cond.static yX11_thousands ∈ aT := aT_m (tm_7_0 mq_7) gw_static
theorem w_1448 : Cond.code yX11_thousands cX11_thousands 4 (some .int) ∈ aT := aT_m (tm_7_0 mq_8) gw_code
theorem w_1449 : Cond.constantLong RX11 (385) (9999) ∈ aT := aT_m (tm_7_0 mq_9) gw_constantLong
theorem w_1454 : Cond.methodLink RX11 (394) yX11_isOfSet ∈ aT := aT_m (tm_7_0 mq_14) gw_methodLink
theorem w_1456 : Cond.instanceMethod yX11_isOfSet ∈ aT := aT_m (tm_7_1 mq_0) gw_instanceMethod
theorem w_1457 : Cond.code yX11_isOfSet cX11_isOfSet 3 (some .boolean) ∈ aT := aT_m (tm_7_1 mq_1) gw_code
theorem w_146 : Cond.fieldLink RX1 9 "StonesOfWeight$Choice" "towns" "I" ∈ aT := aT_m (tm_1_9 mq_2) gw_fieldLink
theorem w_1462 : Cond.methodLink RX11 (397) yX11_keepChosen ∈ aT := aT_m (tm_7_1 mq_6) gw_methodLink
theorem w_1464 : Cond.instanceMethod yX11_keepChosen ∈ aT := aT_m (tm_7_1 mq_8) gw_instanceMethod
theorem w_1465 : Cond.code yX11_keepChosen cX11_keepChosen 2 none ∈ aT := aT_m (tm_7_1 mq_9) gw_code
theorem w_1466 : Cond.methodLink RX11 (400) yX11_bestOfTown ∈ aT := aT_m (tm_7_1 mq_10) gw_methodLink
theorem w_1468 : Cond.instanceMethod yX11_bestOfTown ∈ aT := aT_m (tm_7_1 mq_12) gw_instanceMethod
theorem w_1469 : Cond.code yX11_bestOfTown cX11_bestOfTown 5 (some .int) ∈ aT := aT_m (tm_7_1 mq_13) gw_code
theorem w_147 : Cond.fieldLink RX1 15 "StonesOfWeight$Choice" "stuffs" "I" ∈ aT := aT_m (tm_1_9 mq_3) gw_fieldLink
theorem w_1470 : Cond.methodLink RX11 (403) yX11_gcd ∈ aT := aT_m (tm_7_1 mq_14) gw_methodLink
theorem w_1471 : Cond.static yX11_gcd ∈ aT := aT_m (tm_7_1 mq_15) gw_static
theorem w_1472 : Cond.code yX11_gcd cX11_gcd 5 (some .int) ∈ aT := aT_m (tm_7_2 mq_0) gw_code
theorem w_148 : Cond.fieldLink RX1 18 "StonesOfWeight$Choice" "firstYear" "I" ∈ aT := aT_m (tm_1_9 mq_4) gw_fieldLink
theorem w_1485 : Cond.methodLink RX11 (406) yX11_areTwins ∈ aT := aT_m (tm_7_2 mq_13) gw_methodLink
theorem w_1487 : Cond.instanceMethod yX11_areTwins ∈ aT := aT_m (tm_7_2 mq_15) gw_instanceMethod
theorem w_1488 : Cond.code yX11_areTwins cX11_areTwins 5 (some .boolean) ∈ aT := aT_m (tm_7_3 mq_0) gw_code
theorem w_149 : Cond.fieldLink RX1 21 "StonesOfWeight$Choice" "lastYear" "I" ∈ aT := aT_m (tm_1_9 mq_5) gw_fieldLink
theorem w_1493 : Cond.methodLink RX11 (409) yX11_worthOf ∈ aT := aT_m (tm_7_3 mq_5) gw_methodLink
theorem w_1495 : Cond.instanceMethod yX11_worthOf ∈ aT := aT_m (tm_7_3 mq_7) gw_instanceMethod
theorem w_1496 : Cond.code yX11_worthOf cX11_worthOf 8 (some .int) ∈ aT := aT_m (tm_7_3 mq_8) gw_code
theorem w_150 : Cond.fieldLink RX1 24 "StonesOfWeight$Choice" "marks" "I" ∈ aT := aT_m (tm_1_9 mq_6) gw_fieldLink
theorem w_1509 : Cond.methodLink RX11 (412) yX11_copy ∈ aT := aT_m (tm_7_4 mq_5) gw_methodLink
theorem w_1511 : Cond.instanceMethod yX11_copy ∈ aT := aT_m (tm_7_4 mq_7) gw_instanceMethod
theorem w_1512 : Cond.code yX11_copy cX11_copy 4 none ∈ aT := aT_m (tm_7_4 mq_8) gw_code
theorem w_1513 : Cond.methodLink RX11 (134) yX11_move ∈ aT := aT_m (tm_7_4 mq_9) gw_methodLink
theorem w_1514 : Cond.static yX11_move ∈ aT := aT_m (tm_7_4 mq_10) gw_static
theorem w_1515 : Cond.code yX11_move cX11_move 5 none ∈ aT := aT_m (tm_7_4 mq_11) gw_code
theorem w_1520 : Cond.fieldLink RJ0 9 "java/lang/String" "value" "[B" ∈ aT := aT_m (tm_7_5 mq_0) gw_fieldLink
theorem w_1521 : Cond.fieldLink RJ0 15 "java/lang/String" "coder" "B" ∈ aT := aT_m (tm_7_5 mq_1) gw_fieldLink
theorem w_16 : Cond.initialized RJ9 ∈ aT := aT_m (tm_1_1 mq_0) gw_initialized
theorem w_162 : Cond.fieldLink RX8 12 "StonesOfWeight$State" "book" "LStonesOfWeight$Book;" ∈ aT := aT_m (tm_1_10 mq_2) gw_fieldLink
theorem w_163 : Cond.fieldLink RX10 58 "StonesOfWeight$State" "book" "LStonesOfWeight$Book;" ∈ aT := aT_m (tm_1_10 mq_3) gw_fieldLink
theorem w_164 : Cond.fieldLink RX4 34 "StonesOfWeight$State" "book" "LStonesOfWeight$Book;" ∈ aT := aT_m (tm_1_10 mq_4) gw_fieldLink
theorem w_165 : Cond.fieldLink RX8 21 "StonesOfWeight$State" "tape" "LStonesOfWeight$Tape;" ∈ aT := aT_m (tm_1_10 mq_5) gw_fieldLink
theorem w_166 : Cond.fieldLink RX10 22 "StonesOfWeight$State" "tape" "LStonesOfWeight$Tape;" ∈ aT := aT_m (tm_1_10 mq_6) gw_fieldLink
theorem w_167 : Cond.fieldLink RX8 28 "StonesOfWeight$State" "wear" "LStonesOfWeight$Rules;" ∈ aT := aT_m (tm_1_10 mq_7) gw_fieldLink
theorem w_168 : Cond.fieldLink RX10 118 "StonesOfWeight$State" "wear" "LStonesOfWeight$Rules;" ∈ aT := aT_m (tm_1_10 mq_8) gw_fieldLink
theorem w_169 : Cond.fieldLink RX4 136 "StonesOfWeight$State" "wear" "LStonesOfWeight$Rules;" ∈ aT := aT_m (tm_1_10 mq_9) gw_fieldLink
theorem w_17 : Cond.initialized RJ10 ∈ aT := aT_m (tm_1_1 mq_1) gw_initialized
theorem w_170 : Cond.fieldLink RX8 32 "StonesOfWeight$State" "proof" "LStonesOfWeight$Rules;" ∈ aT := aT_m (tm_1_10 mq_10) gw_fieldLink
theorem w_171 : Cond.fieldLink RX10 114 "StonesOfWeight$State" "proof" "LStonesOfWeight$Rules;" ∈ aT := aT_m (tm_1_10 mq_11) gw_fieldLink
theorem w_172 : Cond.fieldLink RX8 38 "StonesOfWeight$State" "choice" "LStonesOfWeight$Choice;" ∈ aT := aT_m (tm_1_10 mq_12) gw_fieldLink
theorem w_173 : Cond.fieldLink RX10 133 "StonesOfWeight$State" "choice" "LStonesOfWeight$Choice;" ∈ aT := aT_m (tm_1_10 mq_13) gw_fieldLink
theorem w_174 : Cond.fieldLink RX4 126 "StonesOfWeight$State" "choice" "LStonesOfWeight$Choice;" ∈ aT := aT_m (tm_1_10 mq_14) gw_fieldLink
theorem w_175 : Cond.fieldLink RX8 42 "StonesOfWeight$State" "fault" "I" ∈ aT := aT_m (tm_1_10 mq_15) gw_fieldLink
theorem w_176 : Cond.fieldLink RX10 109 "StonesOfWeight$State" "fault" "I" ∈ aT := aT_m (tm_1_11 mq_0) gw_fieldLink
theorem w_177 : Cond.fieldLink RX8 46 "StonesOfWeight$State" "place" "I" ∈ aT := aT_m (tm_1_11 mq_1) gw_fieldLink
theorem w_178 : Cond.fieldLink RX10 113 "StonesOfWeight$State" "place" "I" ∈ aT := aT_m (tm_1_11 mq_2) gw_fieldLink
theorem w_18 : Cond.initialized RX2 ∈ aT := aT_m (tm_1_1 mq_2) gw_initialized
theorem w_19 : Cond.initialized RJ13 ∈ aT := aT_m (tm_1_1 mq_3) gw_initialized
theorem w_20 : Cond.initialized RJ6 ∈ aT := aT_m (tm_1_1 mq_4) gw_initialized
theorem w_203 : Cond.fieldLink RX5 12 "StonesOfWeight$Reader" "rules" "LStonesOfWeight$Rules;" ∈ aT := aT_m (tm_1_12 mq_11) gw_fieldLink
theorem w_204 : Cond.fieldLink RX10 121 "StonesOfWeight$Reader" "rules" "LStonesOfWeight$Rules;" ∈ aT := aT_m (tm_1_12 mq_12) gw_fieldLink
theorem w_205 : Cond.fieldLink RX5 18 "StonesOfWeight$Reader" "fault" "I" ∈ aT := aT_m (tm_1_12 mq_13) gw_fieldLink
theorem w_206 : Cond.fieldLink RX10 106 "StonesOfWeight$Reader" "fault" "I" ∈ aT := aT_m (tm_1_12 mq_14) gw_fieldLink
theorem w_207 : Cond.fieldLink RX5 22 "StonesOfWeight$Reader" "place" "I" ∈ aT := aT_m (tm_1_12 mq_15) gw_fieldLink
theorem w_208 : Cond.fieldLink RX10 110 "StonesOfWeight$Reader" "place" "I" ∈ aT := aT_m (tm_1_13 mq_0) gw_fieldLink
theorem w_209 : Cond.fieldLink RX5 38 "StonesOfWeight$Reader" "tape" "LStonesOfWeight$Tape;" ∈ aT := aT_m (tm_1_13 mq_1) gw_fieldLink
theorem w_210 : Cond.fieldLink RX5 25 "StonesOfWeight$Reader" "proof" "Z" ∈ aT := aT_m (tm_1_13 mq_2) gw_fieldLink
theorem w_211 : Cond.fieldLink RX5 29 "StonesOfWeight$Reader" "kind" "I" ∈ aT := aT_m (tm_1_13 mq_3) gw_fieldLink
theorem w_212 : Cond.fieldLink RX5 32 "StonesOfWeight$Reader" "start" "I" ∈ aT := aT_m (tm_1_13 mq_4) gw_fieldLink
theorem w_213 : Cond.fieldLink RX5 35 "StonesOfWeight$Reader" "stop" "I" ∈ aT := aT_m (tm_1_13 mq_5) gw_fieldLink
theorem w_237 : Cond.fieldLink RX4 9 "StonesOfWeight$Pile" "many" "I" ∈ aT := aT_m (tm_1_14 mq_13) gw_fieldLink
theorem w_238 : Cond.fieldLink RX3 18 "StonesOfWeight$Pile" "many" "I" ∈ aT := aT_m (tm_1_14 mq_14) gw_fieldLink
theorem w_239 : Cond.fieldLink RX7 76 "StonesOfWeight$Pile" "many" "I" ∈ aT := aT_m (tm_1_14 mq_15) gw_fieldLink
theorem w_240 : Cond.fieldLink RX10 223 "StonesOfWeight$Pile" "many" "I" ∈ aT := aT_m (tm_2_0 mq_0) gw_fieldLink
theorem w_241 : Cond.fieldLink RX4 15 "StonesOfWeight$Pile" "low" "[I" ∈ aT := aT_m (tm_2_0 mq_1) gw_fieldLink
theorem w_242 : Cond.fieldLink RX7 59 "StonesOfWeight$Pile" "low" "[I" ∈ aT := aT_m (tm_2_0 mq_2) gw_fieldLink
theorem w_243 : Cond.fieldLink RX10 147 "StonesOfWeight$Pile" "low" "[I" ∈ aT := aT_m (tm_2_0 mq_3) gw_fieldLink
theorem w_244 : Cond.fieldLink RX4 19 "StonesOfWeight$Pile" "high" "[I" ∈ aT := aT_m (tm_2_0 mq_4) gw_fieldLink
theorem w_245 : Cond.fieldLink RX7 62 "StonesOfWeight$Pile" "high" "[I" ∈ aT := aT_m (tm_2_0 mq_5) gw_fieldLink
theorem w_246 : Cond.fieldLink RX10 150 "StonesOfWeight$Pile" "high" "[I" ∈ aT := aT_m (tm_2_0 mq_6) gw_fieldLink
theorem w_247 : Cond.fieldLink RX4 22 "StonesOfWeight$Pile" "number" "[I" ∈ aT := aT_m (tm_2_0 mq_7) gw_fieldLink
theorem w_248 : Cond.fieldLink RX4 25 "StonesOfWeight$Pile" "mark" "[I" ∈ aT := aT_m (tm_2_0 mq_8) gw_fieldLink
theorem w_249 : Cond.fieldLink RX4 28 "StonesOfWeight$Pile" "town" "[I" ∈ aT := aT_m (tm_2_0 mq_9) gw_fieldLink
theorem w_250 : Cond.fieldLink RX4 31 "StonesOfWeight$Pile" "traits" "[I" ∈ aT := aT_m (tm_2_0 mq_10) gw_fieldLink
theorem w_272 : Cond.fieldLink RX7 9 "StonesOfWeight$Search" "from" "I" ∈ aT := aT_m (tm_2_2 mq_0) gw_fieldLink
theorem w_273 : Cond.fieldLink RX7 15 "StonesOfWeight$Search" "to" "I" ∈ aT := aT_m (tm_2_2 mq_1) gw_fieldLink
theorem w_274 : Cond.fieldLink RX7 18 "StonesOfWeight$Search" "scores" "[I" ∈ aT := aT_m (tm_2_2 mq_2) gw_fieldLink
theorem w_275 : Cond.fieldLink RX7 22 "StonesOfWeight$Search" "scoresBeside" "[I" ∈ aT := aT_m (tm_2_2 mq_3) gw_fieldLink
theorem w_276 : Cond.fieldLink RX7 25 "StonesOfWeight$Search" "peaks" "[I" ∈ aT := aT_m (tm_2_2 mq_4) gw_fieldLink
theorem w_277 : Cond.fieldLink RX7 28 "StonesOfWeight$Search" "peakCount" "I" ∈ aT := aT_m (tm_2_2 mq_5) gw_fieldLink
theorem w_278 : Cond.fieldLink RX7 31 "StonesOfWeight$Search" "offs" "[I" ∈ aT := aT_m (tm_2_2 mq_6) gw_fieldLink
theorem w_3 : Cond.initialized RX0 ∈ aT := aT_m (tm_1_0 mq_3) gw_initialized
theorem w_300 : Cond.fieldLink RX3 9 "StonesOfWeight$Odds" "row" "[J" ∈ aT := aT_m (tm_2_3 mq_12) gw_fieldLink
theorem w_305 : Cond.fieldLink RX10 10 "StonesOfWeight" "now" "LStonesOfWeight$State;" ∈ aT := aT_m (tm_2_4 mq_1) gw_fieldLink
theorem w_307 : Cond.fieldLink RX10 29 "StonesOfWeight" "reader" "LStonesOfWeight$Reader;" ∈ aT := aT_m (tm_2_4 mq_3) gw_fieldLink
theorem w_308 : Cond.fieldLink RX10 36 "StonesOfWeight" "pile" "LStonesOfWeight$Pile;" ∈ aT := aT_m (tm_2_4 mq_4) gw_fieldLink
theorem w_309 : Cond.fieldLink RX10 43 "StonesOfWeight" "search" "LStonesOfWeight$Search;" ∈ aT := aT_m (tm_2_4 mq_5) gw_fieldLink
theorem w_310 : Cond.fieldLink RX10 50 "StonesOfWeight" "odds" "LStonesOfWeight$Odds;" ∈ aT := aT_m (tm_2_4 mq_6) gw_fieldLink
theorem w_311 : Cond.fieldLink RX10 54 "StonesOfWeight" "findings" "[I" ∈ aT := aT_m (tm_2_4 mq_7) gw_fieldLink
theorem w_331 : Cond.methodLink RX10 (62) yX0_list ∈ aT := aT_m (tm_2_5 mq_11) gw_methodLink
theorem w_332 : Cond.instanceMethod yX0_list ∈ aT := aT_m (tm_2_5 mq_12) gw_instanceMethod
theorem w_333 : Cond.selects RX0 yX0_list yX0_list ∈ aT := aT_m (tm_2_5 mq_13) gw_selects
theorem w_334 : Cond.code yX0_list cX0_list 5 (some .int) ∈ aT := aT_m (tm_2_5 mq_14) gw_code
theorem w_335 : Cond.methodLink RX0 (52) yX0_inRange ∈ aT := aT_m (tm_2_5 mq_15) gw_methodLink
theorem w_336 : Cond.static yX0_inRange ∈ aT := aT_m (tm_2_6 mq_0) gw_static
theorem w_337 : Cond.code yX0_inRange cX0_inRange 2 (some .boolean) ∈ aT := aT_m (tm_2_6 mq_1) gw_code
theorem w_342 : Cond.methodLink RX0 (56) yX0_write ∈ aT := aT_m (tm_2_6 mq_6) gw_methodLink
theorem w_344 : Cond.instanceMethod yX0_write ∈ aT := aT_m (tm_2_6 mq_8) gw_instanceMethod
theorem w_345 : Cond.code yX0_write cX0_write 5 none ∈ aT := aT_m (tm_2_6 mq_9) gw_code
theorem w_346 : Cond.methodLink RX0 (85) yX0_apply ∈ aT := aT_m (tm_2_6 mq_10) gw_methodLink
theorem w_348 : Cond.instanceMethod yX0_apply ∈ aT := aT_m (tm_2_6 mq_12) gw_instanceMethod
theorem w_349 : Cond.code yX0_apply cX0_apply 7 none ∈ aT := aT_m (tm_2_6 mq_13) gw_code
theorem w_350 : Cond.methodLink RX0 (64) yX0_isSeen ∈ aT := aT_m (tm_2_6 mq_14) gw_methodLink
theorem w_352 : Cond.instanceMethod yX0_isSeen ∈ aT := aT_m (tm_2_7 mq_0) gw_instanceMethod
theorem w_353 : Cond.code yX0_isSeen cX0_isSeen 2 (some .boolean) ∈ aT := aT_m (tm_2_7 mq_1) gw_code
theorem w_354 : Cond.methodLink RX0 (68) yX0_see ∈ aT := aT_m (tm_2_7 mq_2) gw_methodLink
theorem w_356 : Cond.instanceMethod yX0_see ∈ aT := aT_m (tm_2_7 mq_4) gw_instanceMethod
theorem w_357 : Cond.code yX0_see cX0_see 2 none ∈ aT := aT_m (tm_2_7 mq_5) gw_code
theorem w_362 : Cond.methodLink RX10 (68) yX0_retell ∈ aT := aT_m (tm_2_7 mq_10) gw_methodLink
theorem w_363 : Cond.instanceMethod yX0_retell ∈ aT := aT_m (tm_2_7 mq_11) gw_instanceMethod
theorem w_364 : Cond.selects RX0 yX0_retell yX0_retell ∈ aT := aT_m (tm_2_7 mq_12) gw_selects
theorem w_365 : Cond.code yX0_retell cX0_retell 4 (some .boolean) ∈ aT := aT_m (tm_2_7 mq_13) gw_code
theorem w_366 : Cond.methodLink RX0 (60) yX0_agrees ∈ aT := aT_m (tm_2_7 mq_14) gw_methodLink
theorem w_368 : Cond.instanceMethod yX0_agrees ∈ aT := aT_m (tm_2_8 mq_0) gw_instanceMethod
theorem w_369 : Cond.code yX0_agrees cX0_agrees 5 (some .boolean) ∈ aT := aT_m (tm_2_8 mq_1) gw_code
theorem w_374 : Cond.methodLink RX10 (72) yX0_turnTo ∈ aT := aT_m (tm_2_8 mq_6) gw_methodLink
theorem w_375 : Cond.instanceMethod yX0_turnTo ∈ aT := aT_m (tm_2_8 mq_7) gw_instanceMethod
theorem w_376 : Cond.selects RX0 yX0_turnTo yX0_turnTo ∈ aT := aT_m (tm_2_8 mq_8) gw_selects
theorem w_377 : Cond.code yX0_turnTo cX0_turnTo 2 (some .boolean) ∈ aT := aT_m (tm_2_8 mq_9) gw_code
theorem w_382 : Cond.methodLink RX10 (76) yX0_lookFrom ∈ aT := aT_m (tm_2_8 mq_14) gw_methodLink
theorem w_383 : Cond.instanceMethod yX0_lookFrom ∈ aT := aT_m (tm_2_8 mq_15) gw_instanceMethod
theorem w_384 : Cond.selects RX0 yX0_lookFrom yX0_lookFrom ∈ aT := aT_m (tm_2_9 mq_0) gw_selects
theorem w_385 : Cond.code yX0_lookFrom cX0_lookFrom 3 (some .boolean) ∈ aT := aT_m (tm_2_9 mq_1) gw_code
theorem w_390 : Cond.methodLink RX10 (79) yX0_known ∈ aT := aT_m (tm_2_9 mq_6) gw_methodLink
theorem w_391 : Cond.instanceMethod yX0_known ∈ aT := aT_m (tm_2_9 mq_7) gw_instanceMethod
theorem w_392 : Cond.selects RX0 yX0_known yX0_known ∈ aT := aT_m (tm_2_9 mq_8) gw_selects
theorem w_393 : Cond.code yX0_known cX0_known 3 (some .int) ∈ aT := aT_m (tm_2_9 mq_9) gw_code
theorem w_394 : Cond.constant RX0 (72) (-100000) ∈ aT := aT_m (tm_2_9 mq_10) gw_constant
theorem w_399 : Cond.methodLink RX10 (83) yX0_written ∈ aT := aT_m (tm_2_9 mq_15) gw_methodLink
theorem w_4 : Cond.initialized RX9 ∈ aT := aT_m (tm_1_0 mq_4) gw_initialized
theorem w_400 : Cond.instanceMethod yX0_written ∈ aT := aT_m (tm_2_10 mq_0) gw_instanceMethod
theorem w_401 : Cond.selects RX0 yX0_written yX0_written ∈ aT := aT_m (tm_2_10 mq_1) gw_selects
theorem w_402 : Cond.code yX0_written cX0_written 3 (some .int) ∈ aT := aT_m (tm_2_10 mq_2) gw_code
theorem w_407 : Cond.methodLink RX10 (86) yX9_hasRoom ∈ aT := aT_m (tm_2_10 mq_7) gw_methodLink
theorem w_408 : Cond.instanceMethod yX9_hasRoom ∈ aT := aT_m (tm_2_10 mq_8) gw_instanceMethod
theorem w_409 : Cond.selects RX9 yX9_hasRoom yX9_hasRoom ∈ aT := aT_m (tm_2_10 mq_9) gw_selects
theorem w_41 : Cond.fieldLink RX0 9 "StonesOfWeight$Book" "facts" "[I" ∈ aT := aT_m (tm_1_2 mq_9) gw_fieldLink
theorem w_410 : Cond.code yX9_hasRoom cX9_hasRoom 2 (some .boolean) ∈ aT := aT_m (tm_2_10 mq_10) gw_code
theorem w_411 : Cond.methodLink RX10 (91) yX9_add ∈ aT := aT_m (tm_2_10 mq_11) gw_methodLink
theorem w_412 : Cond.instanceMethod yX9_add ∈ aT := aT_m (tm_2_10 mq_12) gw_instanceMethod
theorem w_413 : Cond.selects RX9 yX9_add yX9_add ∈ aT := aT_m (tm_2_10 mq_13) gw_selects
theorem w_414 : Cond.code yX9_add cX9_add 3 none ∈ aT := aT_m (tm_2_10 mq_14) gw_code
theorem w_419 : Cond.methodLink RX10 (99) yX9_cut ∈ aT := aT_m (tm_2_11 mq_3) gw_methodLink
theorem w_42 : Cond.fieldLink RX0 15 "StonesOfWeight$Book" "seen" "[I" ∈ aT := aT_m (tm_1_2 mq_10) gw_fieldLink
theorem w_420 : Cond.instanceMethod yX9_cut ∈ aT := aT_m (tm_2_11 mq_4) gw_instanceMethod
theorem w_421 : Cond.selects RX9 yX9_cut yX9_cut ∈ aT := aT_m (tm_2_11 mq_5) gw_selects
theorem w_422 : Cond.code yX9_cut cX9_cut 2 (some .boolean) ∈ aT := aT_m (tm_2_11 mq_6) gw_code
theorem w_427 : Cond.methodLink RX10 (102) yX5_read ∈ aT := aT_m (tm_2_11 mq_11) gw_methodLink
theorem w_428 : Cond.instanceMethod yX5_read ∈ aT := aT_m (tm_2_11 mq_12) gw_instanceMethod
theorem w_429 : Cond.selects RX5 yX5_read yX5_read ∈ aT := aT_m (tm_2_11 mq_13) gw_selects
theorem w_43 : Cond.fieldLink RX0 18 "StonesOfWeight$Book" "firstStuff" "[I" ∈ aT := aT_m (tm_1_2 mq_11) gw_fieldLink
theorem w_430 : Cond.code yX5_read cX5_read 3 (some .boolean) ∈ aT := aT_m (tm_2_11 mq_14) gw_code
theorem w_431 : Cond.methodLink RX5 (45) yX5_advance ∈ aT := aT_m (tm_2_11 mq_15) gw_methodLink
theorem w_433 : Cond.instanceMethod yX5_advance ∈ aT := aT_m (tm_2_12 mq_1) gw_instanceMethod
theorem w_434 : Cond.code yX5_advance cX5_advance 2 none ∈ aT := aT_m (tm_2_12 mq_2) gw_code
theorem w_435 : Cond.methodLink RX5 (99) yX9_byteAt ∈ aT := aT_m (tm_2_12 mq_3) gw_methodLink
theorem w_436 : Cond.instanceMethod yX9_byteAt ∈ aT := aT_m (tm_2_12 mq_4) gw_instanceMethod
theorem w_437 : Cond.selects RX9 yX9_byteAt yX9_byteAt ∈ aT := aT_m (tm_2_12 mq_5) gw_selects
theorem w_438 : Cond.code yX9_byteAt cX9_byteAt 2 (some .int) ∈ aT := aT_m (tm_2_12 mq_6) gw_code
theorem w_439 : Cond.methodLink RX5 (136) yX5_isBlank ∈ aT := aT_m (tm_2_12 mq_7) gw_methodLink
theorem w_44 : Cond.fieldLink RX0 21 "StonesOfWeight$Book" "firstTown" "[I" ∈ aT := aT_m (tm_1_2 mq_12) gw_fieldLink
theorem w_440 : Cond.static yX5_isBlank ∈ aT := aT_m (tm_2_12 mq_8) gw_static
theorem w_441 : Cond.code yX5_isBlank cX5_isBlank 1 (some .boolean) ∈ aT := aT_m (tm_2_12 mq_9) gw_code
theorem w_442 : Cond.methodLink RX5 (139) yX5_isLetter ∈ aT := aT_m (tm_2_12 mq_10) gw_methodLink
theorem w_443 : Cond.static yX5_isLetter ∈ aT := aT_m (tm_2_12 mq_11) gw_static
theorem w_444 : Cond.code yX5_isLetter cX5_isLetter 1 (some .boolean) ∈ aT := aT_m (tm_2_12 mq_12) gw_code
theorem w_445 : Cond.methodLink RX5 (142) yX5_isDigit ∈ aT := aT_m (tm_2_12 mq_13) gw_methodLink
theorem w_446 : Cond.static yX5_isDigit ∈ aT := aT_m (tm_2_12 mq_14) gw_static
theorem w_447 : Cond.code yX5_isDigit cX5_isDigit 1 (some .boolean) ∈ aT := aT_m (tm_2_12 mq_15) gw_code
theorem w_448 : Cond.methodLink RX5 (145) yX5_isSignByte ∈ aT := aT_m (tm_2_13 mq_0) gw_methodLink
theorem w_449 : Cond.static yX5_isSignByte ∈ aT := aT_m (tm_2_13 mq_1) gw_static
theorem w_45 : Cond.fieldLink RX0 24 "StonesOfWeight$Book" "entryDay" "[I" ∈ aT := aT_m (tm_1_2 mq_13) gw_fieldLink
theorem w_450 : Cond.code yX5_isSignByte cX5_isSignByte 1 (some .boolean) ∈ aT := aT_m (tm_2_13 mq_2) gw_code
theorem w_451 : Cond.methodLink RX5 (48) yX5_remark ∈ aT := aT_m (tm_2_13 mq_3) gw_methodLink
theorem w_453 : Cond.instanceMethod yX5_remark ∈ aT := aT_m (tm_2_13 mq_5) gw_instanceMethod
theorem w_454 : Cond.code yX5_remark cX5_remark 3 none ∈ aT := aT_m (tm_2_13 mq_6) gw_code
theorem w_455 : Cond.methodLink RX5 (52) yX5_readLine ∈ aT := aT_m (tm_2_13 mq_7) gw_methodLink
theorem w_457 : Cond.instanceMethod yX5_readLine ∈ aT := aT_m (tm_2_13 mq_9) gw_instanceMethod
theorem w_458 : Cond.code yX5_readLine cX5_readLine 2 (some .boolean) ∈ aT := aT_m (tm_2_13 mq_10) gw_code
theorem w_459 : Cond.methodLink RX5 (62) yX6_clearTests ∈ aT := aT_m (tm_2_13 mq_11) gw_methodLink
theorem w_46 : Cond.fieldLink RX0 27 "StonesOfWeight$Book" "entryStone" "[I" ∈ aT := aT_m (tm_1_2 mq_14) gw_fieldLink
theorem w_460 : Cond.instanceMethod yX6_clearTests ∈ aT := aT_m (tm_2_13 mq_12) gw_instanceMethod
theorem w_461 : Cond.selects RX6 yX6_clearTests yX6_clearTests ∈ aT := aT_m (tm_2_13 mq_13) gw_selects
theorem w_462 : Cond.code yX6_clearTests cX6_clearTests 2 none ∈ aT := aT_m (tm_2_13 mq_14) gw_code
theorem w_463 : Cond.methodLink RX6 (41) yX6_hasLine ∈ aT := aT_m (tm_2_13 mq_15) gw_methodLink
theorem w_464 : Cond.static yX6_hasLine ∈ aT := aT_m (tm_2_14 mq_0) gw_static
theorem w_465 : Cond.code yX6_hasLine cX6_hasLine 1 (some .boolean) ∈ aT := aT_m (tm_2_14 mq_1) gw_code
theorem w_467 : Cond.methodLink RX5 (68) yX5_wordIn ∈ aT := aT_m (tm_2_14 mq_3) gw_methodLink
theorem w_469 : Cond.instanceMethod yX5_wordIn ∈ aT := aT_m (tm_2_14 mq_5) gw_instanceMethod
theorem w_47 : Cond.fieldLink RX0 30 "StonesOfWeight$Book" "entryFact" "[I" ∈ aT := aT_m (tm_1_2 mq_15) gw_fieldLink
theorem w_470 : Cond.code yX5_wordIn cX5_wordIn 6 (some .int) ∈ aT := aT_m (tm_2_14 mq_6) gw_code
theorem w_471 : Cond.methodLink RX5 (127) yJ0_length_8abf5 ∈ aT := aT_m (tm_2_14 mq_7) gw_methodLink
theorem w_472 : Cond.instanceMethod yJ0_length_8abf5 ∈ aT := aT_m (tm_2_14 mq_8) gw_instanceMethod
theorem w_473 : Cond.selects RJ0 yJ0_length_8abf5 yJ0_length_8abf5 ∈ aT := aT_m (tm_2_14 mq_9) gw_selects
theorem w_474 : Cond.code yJ0_length_8abf5 cJ0_length_8abf5 1 (some .int) ∈ aT := aT_m (tm_2_14 mq_10) gw_code
theorem w_475 : Cond.methodLink RJ0 (335) yJ0_coder_7d493 ∈ aT := aT_m (tm_2_14 mq_11) gw_methodLink
theorem w_476 : Cond.instanceMethod yJ0_coder_7d493 ∈ aT := aT_m (tm_2_14 mq_12) gw_instanceMethod
theorem w_477 : Cond.selects RJ0 yJ0_coder_7d493 yJ0_coder_7d493 ∈ aT := aT_m (tm_2_14 mq_13) gw_selects
theorem w_478 : Cond.code yJ0_coder_7d493 cJ0_coder_7d493 1 (some .byte) ∈ aT := aT_m (tm_2_14 mq_14) gw_code
theorem w_479 : Cond.fieldLink RJ0 38 "java/lang/String" "COMPACT_STRINGS" "Z" ∈ aT := aT_m (tm_2_14 mq_15) gw_fieldLink
theorem w_48 : Cond.fieldLink RX0 33 "StonesOfWeight$Book" "entryValue" "[I" ∈ aT := aT_m (tm_1_3 mq_0) gw_fieldLink
theorem w_481 : Cond.methodLink RX5 (132) yJ0_charAt_5068e ∈ aT := aT_m (tm_3_0 mq_1) gw_methodLink
theorem w_482 : Cond.instanceMethod yJ0_charAt_5068e ∈ aT := aT_m (tm_3_0 mq_2) gw_instanceMethod
theorem w_483 : Cond.selects RJ0 yJ0_charAt_5068e yJ0_charAt_5068e ∈ aT := aT_m (tm_3_0 mq_3) gw_selects
theorem w_484 : Cond.code yJ0_charAt_5068e cJ0_charAt_5068e 2 (some .char) ∈ aT := aT_m (tm_3_0 mq_4) gw_code
theorem w_485 : Cond.methodLink RJ0 (492) yJ0_isLatin1_aae02 ∈ aT := aT_m (tm_3_0 mq_5) gw_methodLink
theorem w_486 : Cond.instanceMethod yJ0_isLatin1_aae02 ∈ aT := aT_m (tm_3_0 mq_6) gw_instanceMethod
theorem w_487 : Cond.selects RJ0 yJ0_isLatin1_aae02 yJ0_isLatin1_aae02 ∈ aT := aT_m (tm_3_0 mq_7) gw_selects
theorem w_488 : Cond.code yJ0_isLatin1_aae02 cJ0_isLatin1_aae02 1 (some .boolean) ∈ aT := aT_m (tm_3_0 mq_8) gw_code
theorem w_489 : Cond.methodLink RJ0 (495) yJ1_charAt_3b067 ∈ aT := aT_m (tm_3_0 mq_9) gw_methodLink
theorem w_49 : Cond.fieldLink RX0 36 "StonesOfWeight$Book" "stones" "I" ∈ aT := aT_m (tm_1_3 mq_1) gw_fieldLink
theorem w_490 : Cond.static yJ1_charAt_3b067 ∈ aT := aT_m (tm_3_0 mq_10) gw_static
theorem w_491 : Cond.code yJ1_charAt_3b067 cJ1_charAt_3b067 2 (some .char) ∈ aT := aT_m (tm_3_0 mq_11) gw_code
theorem w_492 : Cond.methodLink RJ1 (9) yJ0_checkIndex_df160 ∈ aT := aT_m (tm_3_0 mq_12) gw_methodLink
theorem w_493 : Cond.static yJ0_checkIndex_df160 ∈ aT := aT_m (tm_3_0 mq_13) gw_static
theorem w_494 : Cond.code yJ0_checkIndex_df160 cJ0_checkIndex_df160 2 none ∈ aT := aT_m (tm_3_0 mq_14) gw_code
theorem w_495 : Cond.fieldLink RJ0 1053 "jdk/internal/util/Preconditions" "SIOOBE_FORMATTER" "Ljava/util/function/BiFunction;" ∈ aT := aT_m (tm_3_0 mq_15) gw_fieldLink
theorem w_497 : Cond.methodLink RJ0 (1059) yJ3_checkIndex_8e157 ∈ aT := aT_m (tm_3_1 mq_1) gw_methodLink
theorem w_498 : Cond.static yJ3_checkIndex_8e157 ∈ aT := aT_m (tm_3_1 mq_2) gw_static
theorem w_499 : Cond.code yJ3_checkIndex_8e157 cJ3_checkIndex_8e157 3 (some .int) ∈ aT := aT_m (tm_3_1 mq_3) gw_code
theorem w_5 : Cond.initialized RX6 ∈ aT := aT_m (tm_1_0 mq_5) gw_initialized
theorem w_50 : Cond.fieldLink RX0 40 "StonesOfWeight$Book" "seenStones" "I" ∈ aT := aT_m (tm_1_3 mq_2) gw_fieldLink
theorem w_51 : Cond.fieldLink RX4 40 "StonesOfWeight$Book" "seenStones" "I" ∈ aT := aT_m (tm_1_3 mq_3) gw_fieldLink
theorem w_519 : Cond.methodLink RX5 (72) yX5_readTests ∈ aT := aT_m (tm_3_2 mq_7) gw_methodLink
theorem w_52 : Cond.fieldLink RX10 262 "StonesOfWeight$Book" "seenStones" "I" ∈ aT := aT_m (tm_1_3 mq_4) gw_fieldLink
theorem w_521 : Cond.instanceMethod yX5_readTests ∈ aT := aT_m (tm_3_2 mq_9) gw_instanceMethod
theorem w_522 : Cond.code yX5_readTests cX5_readTests 3 (some .boolean) ∈ aT := aT_m (tm_3_2 mq_10) gw_code
theorem w_523 : Cond.methodLink RX5 (81) yX5_readTest ∈ aT := aT_m (tm_3_2 mq_11) gw_methodLink
theorem w_525 : Cond.instanceMethod yX5_readTest ∈ aT := aT_m (tm_3_2 mq_13) gw_instanceMethod
theorem w_526 : Cond.code yX5_readTest cX5_readTest 5 (some .boolean) ∈ aT := aT_m (tm_3_2 mq_14) gw_code
theorem w_53 : Cond.fieldLink RX0 43 "StonesOfWeight$Book" "entries" "I" ∈ aT := aT_m (tm_1_3 mq_5) gw_fieldLink
theorem w_530 : Cond.methodLink RX5 (92) yX5_refuse ∈ aT := aT_m (tm_3_3 mq_2) gw_methodLink
theorem w_532 : Cond.instanceMethod yX5_refuse ∈ aT := aT_m (tm_3_3 mq_4) gw_instanceMethod
theorem w_533 : Cond.code yX5_refuse cX5_refuse 1 (some .boolean) ∈ aT := aT_m (tm_3_3 mq_5) gw_code
theorem w_534 : Cond.methodLink RX5 (96) yX5_isSign ∈ aT := aT_m (tm_3_3 mq_6) gw_methodLink
theorem w_536 : Cond.instanceMethod yX5_isSign ∈ aT := aT_m (tm_3_3 mq_8) gw_instanceMethod
theorem w_537 : Cond.code yX5_isSign cX5_isSign 2 (some .boolean) ∈ aT := aT_m (tm_3_3 mq_9) gw_code
theorem w_538 : Cond.methodLink RX5 (105) yX5_number ∈ aT := aT_m (tm_3_3 mq_10) gw_methodLink
theorem w_54 : Cond.fieldLink RX10 265 "StonesOfWeight$Book" "entries" "I" ∈ aT := aT_m (tm_1_3 mq_6) gw_fieldLink
theorem w_540 : Cond.instanceMethod yX5_number ∈ aT := aT_m (tm_3_3 mq_12) gw_instanceMethod
theorem w_541 : Cond.code yX5_number cX5_number 3 (some .int) ∈ aT := aT_m (tm_3_3 mq_13) gw_code
theorem w_542 : Cond.methodLink RX5 (109) yX6_addTest ∈ aT := aT_m (tm_3_3 mq_14) gw_methodLink
theorem w_543 : Cond.instanceMethod yX6_addTest ∈ aT := aT_m (tm_3_3 mq_15) gw_instanceMethod
theorem w_544 : Cond.selects RX6 yX6_addTest yX6_addTest ∈ aT := aT_m (tm_3_4 mq_0) gw_selects
theorem w_545 : Cond.code yX6_addTest cX6_addTest 7 none ∈ aT := aT_m (tm_3_4 mq_1) gw_code
theorem w_547 : Cond.methodLink RX5 (78) yX5_pass ∈ aT := aT_m (tm_3_4 mq_3) gw_methodLink
theorem w_549 : Cond.instanceMethod yX5_pass ∈ aT := aT_m (tm_3_4 mq_5) gw_instanceMethod
theorem w_55 : Cond.fieldLink RX0 46 "StonesOfWeight$Book" "today" "I" ∈ aT := aT_m (tm_1_3 mq_7) gw_fieldLink
theorem w_550 : Cond.code yX5_pass cX5_pass 2 (some .boolean) ∈ aT := aT_m (tm_3_4 mq_6) gw_code
theorem w_551 : Cond.methodLink RX5 (75) yX5_readDeed ∈ aT := aT_m (tm_3_4 mq_7) gw_methodLink
theorem w_553 : Cond.instanceMethod yX5_readDeed ∈ aT := aT_m (tm_3_4 mq_9) gw_instanceMethod
theorem w_554 : Cond.code yX5_readDeed cX5_readDeed 3 (some .boolean) ∈ aT := aT_m (tm_3_4 mq_10) gw_code
theorem w_557 : Cond.methodLink RX5 (117) yX6_setDeed ∈ aT := aT_m (tm_3_4 mq_13) gw_methodLink
theorem w_558 : Cond.instanceMethod yX6_setDeed ∈ aT := aT_m (tm_3_4 mq_14) gw_instanceMethod
theorem w_559 : Cond.selects RX6 yX6_setDeed yX6_setDeed ∈ aT := aT_m (tm_3_4 mq_15) gw_selects
theorem w_56 : Cond.fieldLink RX10 268 "StonesOfWeight$Book" "today" "I" ∈ aT := aT_m (tm_1_3 mq_8) gw_fieldLink
theorem w_560 : Cond.code yX6_setDeed cX6_setDeed 5 none ∈ aT := aT_m (tm_3_5 mq_0) gw_code
theorem w_561 : Cond.methodLink RX5 (121) yX5_readAmounts ∈ aT := aT_m (tm_3_5 mq_1) gw_methodLink
theorem w_563 : Cond.instanceMethod yX5_readAmounts ∈ aT := aT_m (tm_3_5 mq_3) gw_instanceMethod
theorem w_564 : Cond.code yX5_readAmounts cX5_readAmounts 5 (some .boolean) ∈ aT := aT_m (tm_3_5 mq_4) gw_code
theorem w_566 : Cond.methodLink RX5 (56) yJ9_min_7cf53 ∈ aT := aT_m (tm_3_5 mq_6) gw_methodLink
theorem w_567 : Cond.static yJ9_min_7cf53 ∈ aT := aT_m (tm_3_5 mq_7) gw_static
theorem w_568 : Cond.code yJ9_min_7cf53 cJ9_min_7cf53 2 (some .int) ∈ aT := aT_m (tm_3_5 mq_8) gw_code
theorem w_569 : Cond.methodLink RX10 (124) yX6_copyFrom ∈ aT := aT_m (tm_3_5 mq_9) gw_methodLink
theorem w_57 : Cond.fieldLink RX0 49 "StonesOfWeight$Book" "seenDay" "I" ∈ aT := aT_m (tm_1_3 mq_9) gw_fieldLink
theorem w_570 : Cond.instanceMethod yX6_copyFrom ∈ aT := aT_m (tm_3_5 mq_10) gw_instanceMethod
theorem w_571 : Cond.selects RX6 yX6_copyFrom yX6_copyFrom ∈ aT := aT_m (tm_3_5 mq_11) gw_selects
theorem w_572 : Cond.code yX6_copyFrom cX6_copyFrom 2 none ∈ aT := aT_m (tm_3_5 mq_12) gw_code
theorem w_573 : Cond.methodLink RX6 (49) ⟨"java/lang/System", "arraycopy", "(Ljava/lang/Object;ILjava/lang/Object;II)V"⟩ ∈ aT := aT_m (tm_3_5 mq_13) gw_methodLink
theorem w_574 : Cond.static ⟨"java/lang/System", "arraycopy", "(Ljava/lang/Object;ILjava/lang/Object;II)V"⟩ ∈ aT := aT_m (tm_3_5 mq_14) gw_static
theorem w_575 : Cond.native ⟨"java/lang/System", "arraycopy", "(Ljava/lang/Object;ILjava/lang/Object;II)V"⟩ ∈ aT := aT_m (tm_3_5 mq_15) gw_native
theorem w_58 : Cond.fieldLink RX10 271 "StonesOfWeight$Book" "seenDay" "I" ∈ aT := aT_m (tm_1_3 mq_10) gw_fieldLink
theorem w_584 : Cond.methodLink RX10 (137) yX1_change ∈ aT := aT_m (tm_3_6 mq_8) gw_methodLink
theorem w_585 : Cond.instanceMethod yX1_change ∈ aT := aT_m (tm_3_6 mq_9) gw_instanceMethod
theorem w_586 : Cond.selects RX1 yX1_change yX1_change ∈ aT := aT_m (tm_3_6 mq_10) gw_selects
theorem w_587 : Cond.code yX1_change cX1_change 6 (some .boolean) ∈ aT := aT_m (tm_3_6 mq_11) gw_code
theorem w_592 : Cond.methodLink RX10 (143) yX4_takeAlone ∈ aT := aT_m (tm_3_7 mq_0) gw_methodLink
theorem w_593 : Cond.instanceMethod yX4_takeAlone ∈ aT := aT_m (tm_3_7 mq_1) gw_instanceMethod
theorem w_594 : Cond.selects RX4 yX4_takeAlone yX4_takeAlone ∈ aT := aT_m (tm_3_7 mq_2) gw_selects
theorem w_595 : Cond.code yX4_takeAlone cX4_takeAlone 3 (some .boolean) ∈ aT := aT_m (tm_3_7 mq_3) gw_code
theorem w_596 : Cond.methodLink RX4 (49) yX4_lay ∈ aT := aT_m (tm_3_7 mq_4) gw_methodLink
theorem w_598 : Cond.instanceMethod yX4_lay ∈ aT := aT_m (tm_3_7 mq_6) gw_instanceMethod
theorem w_599 : Cond.code yX4_lay cX4_lay 5 none ∈ aT := aT_m (tm_3_7 mq_7) gw_code
theorem w_6 : Cond.initialized RX1 ∈ aT := aT_m (tm_1_0 mq_6) gw_initialized
theorem w_600 : Cond.methodLink RX4 (123) yX0_known ∈ aT := aT_m (tm_3_7 mq_8) gw_methodLink
theorem w_601 : Cond.methodLink RX4 (140) yX4_measure ∈ aT := aT_m (tm_3_7 mq_9) gw_methodLink
theorem w_603 : Cond.instanceMethod yX4_measure ∈ aT := aT_m (tm_3_7 mq_11) gw_instanceMethod
theorem w_604 : Cond.code yX4_measure cX4_measure 9 none ∈ aT := aT_m (tm_3_7 mq_12) gw_code
theorem w_605 : Cond.methodLink RX4 (144) yX4_listTraits ∈ aT := aT_m (tm_3_7 mq_13) gw_methodLink
theorem w_607 : Cond.instanceMethod yX4_listTraits ∈ aT := aT_m (tm_3_7 mq_15) gw_instanceMethod
theorem w_608 : Cond.code yX4_listTraits cX4_listTraits 3 none ∈ aT := aT_m (tm_3_8 mq_0) gw_code
theorem w_609 : Cond.methodLink RX4 (153) yX6_holds ∈ aT := aT_m (tm_3_8 mq_1) gw_methodLink
theorem w_610 : Cond.instanceMethod yX6_holds ∈ aT := aT_m (tm_3_8 mq_2) gw_instanceMethod
theorem w_611 : Cond.selects RX6 yX6_holds yX6_holds ∈ aT := aT_m (tm_3_8 mq_3) gw_selects
theorem w_612 : Cond.code yX6_holds cX6_holds 4 (some .boolean) ∈ aT := aT_m (tm_3_8 mq_4) gw_code
theorem w_613 : Cond.methodLink RX6 (45) yX6_passes ∈ aT := aT_m (tm_3_8 mq_5) gw_methodLink
theorem w_615 : Cond.instanceMethod yX6_passes ∈ aT := aT_m (tm_3_8 mq_7) gw_instanceMethod
theorem w_616 : Cond.code yX6_passes cX6_passes 4 (some .boolean) ∈ aT := aT_m (tm_3_8 mq_8) gw_code
theorem w_617 : Cond.methodLink RX4 (157) yX6_deedOf ∈ aT := aT_m (tm_3_8 mq_9) gw_methodLink
theorem w_618 : Cond.instanceMethod yX6_deedOf ∈ aT := aT_m (tm_3_8 mq_10) gw_instanceMethod
theorem w_619 : Cond.selects RX6 yX6_deedOf yX6_deedOf ∈ aT := aT_m (tm_3_8 mq_11) gw_selects
theorem w_620 : Cond.code yX6_deedOf cX6_deedOf 2 (some .int) ∈ aT := aT_m (tm_3_8 mq_12) gw_code
theorem w_621 : Cond.methodLink RX4 (160) yX6_mostOf ∈ aT := aT_m (tm_3_8 mq_13) gw_methodLink
theorem w_622 : Cond.instanceMethod yX6_mostOf ∈ aT := aT_m (tm_3_8 mq_14) gw_instanceMethod
theorem w_623 : Cond.selects RX6 yX6_mostOf yX6_mostOf ∈ aT := aT_m (tm_3_8 mq_15) gw_selects
theorem w_624 : Cond.code yX6_mostOf cX6_mostOf 2 (some .int) ∈ aT := aT_m (tm_3_9 mq_0) gw_code
theorem w_625 : Cond.methodLink RX4 (163) yX6_leastOf ∈ aT := aT_m (tm_3_9 mq_1) gw_methodLink
theorem w_626 : Cond.instanceMethod yX6_leastOf ∈ aT := aT_m (tm_3_9 mq_2) gw_instanceMethod
theorem w_627 : Cond.selects RX6 yX6_leastOf yX6_leastOf ∈ aT := aT_m (tm_3_9 mq_3) gw_selects
theorem w_628 : Cond.code yX6_leastOf cX6_leastOf 2 (some .int) ∈ aT := aT_m (tm_3_9 mq_4) gw_code
theorem w_629 : Cond.methodLink RX4 (166) yX2_whenNew ∈ aT := aT_m (tm_3_9 mq_5) gw_methodLink
theorem w_630 : Cond.static yX2_whenNew ∈ aT := aT_m (tm_3_9 mq_6) gw_static
theorem w_631 : Cond.code yX2_whenNew cX2_whenNew 3 (some .int) ∈ aT := aT_m (tm_3_9 mq_7) gw_code
theorem w_632 : Cond.methodLink RX2 (9) yJ9_min_7cf53 ∈ aT := aT_m (tm_3_9 mq_8) gw_methodLink
theorem w_633 : Cond.methodLink RX2 (15) yJ9_max_7cf53 ∈ aT := aT_m (tm_3_9 mq_9) gw_methodLink
theorem w_634 : Cond.static yJ9_max_7cf53 ∈ aT := aT_m (tm_3_9 mq_10) gw_static
theorem w_635 : Cond.code yJ9_max_7cf53 cJ9_max_7cf53 2 (some .int) ∈ aT := aT_m (tm_3_9 mq_11) gw_code
theorem w_636 : Cond.methodLink RX10 (153) yX1_takes ∈ aT := aT_m (tm_3_9 mq_12) gw_methodLink
theorem w_637 : Cond.instanceMethod yX1_takes ∈ aT := aT_m (tm_3_9 mq_13) gw_instanceMethod
theorem w_638 : Cond.selects RX1 yX1_takes yX1_takes ∈ aT := aT_m (tm_3_9 mq_14) gw_selects
theorem w_639 : Cond.code yX1_takes cX1_takes 3 (some .boolean) ∈ aT := aT_m (tm_3_9 mq_15) gw_code
theorem w_640 : Cond.methodLink RX1 (27) yX0_known ∈ aT := aT_m (tm_3_10 mq_0) gw_methodLink
theorem w_641 : Cond.methodLink RX1 (33) yX1_takesMark ∈ aT := aT_m (tm_3_10 mq_1) gw_methodLink
theorem w_643 : Cond.instanceMethod yX1_takesMark ∈ aT := aT_m (tm_3_10 mq_3) gw_instanceMethod
theorem w_644 : Cond.code yX1_takesMark cX1_takesMark 2 (some .boolean) ∈ aT := aT_m (tm_3_10 mq_4) gw_code
theorem w_649 : Cond.methodLink RX10 (157) yX10_isUnit ∈ aT := aT_m (tm_3_10 mq_9) gw_methodLink
theorem w_650 : Cond.static yX10_isUnit ∈ aT := aT_m (tm_3_10 mq_10) gw_static
theorem w_651 : Cond.code yX10_isUnit cX10_isUnit 1 (some .boolean) ∈ aT := aT_m (tm_3_10 mq_11) gw_code
theorem w_652 : Cond.methodLink RX10 (160) yX4_offOf ∈ aT := aT_m (tm_3_10 mq_12) gw_methodLink
theorem w_653 : Cond.instanceMethod yX4_offOf ∈ aT := aT_m (tm_3_10 mq_13) gw_instanceMethod
theorem w_654 : Cond.selects RX4 yX4_offOf yX4_offOf ∈ aT := aT_m (tm_3_10 mq_14) gw_selects
theorem w_655 : Cond.code yX4_offOf cX4_offOf 3 (some .int) ∈ aT := aT_m (tm_3_10 mq_15) gw_code
theorem w_656 : Cond.methodLink RX4 (53) yX4_has ∈ aT := aT_m (tm_3_11 mq_0) gw_methodLink
theorem w_658 : Cond.instanceMethod yX4_has ∈ aT := aT_m (tm_3_11 mq_2) gw_instanceMethod
theorem w_659 : Cond.code yX4_has cX4_has 2 (some .boolean) ∈ aT := aT_m (tm_3_11 mq_3) gw_code
theorem w_660 : Cond.methodLink RX4 (61) yX2_off ∈ aT := aT_m (tm_3_11 mq_4) gw_methodLink
theorem w_661 : Cond.static yX2_off ∈ aT := aT_m (tm_3_11 mq_5) gw_static
theorem w_662 : Cond.code yX2_off cX2_off 6 (some .int) ∈ aT := aT_m (tm_3_11 mq_6) gw_code
theorem w_663 : Cond.methodLink RX2 (18) yX2_times ∈ aT := aT_m (tm_3_11 mq_7) gw_methodLink
theorem w_664 : Cond.static yX2_times ∈ aT := aT_m (tm_3_11 mq_8) gw_static
theorem w_665 : Cond.code yX2_times cX2_times 7 (some .int) ∈ aT := aT_m (tm_3_11 mq_9) gw_code
theorem w_666 : Cond.methodLink RX10 (163) yX4_isNear ∈ aT := aT_m (tm_3_11 mq_10) gw_methodLink
theorem w_667 : Cond.instanceMethod yX4_isNear ∈ aT := aT_m (tm_3_11 mq_11) gw_instanceMethod
theorem w_668 : Cond.selects RX4 yX4_isNear yX4_isNear ∈ aT := aT_m (tm_3_11 mq_12) gw_selects
theorem w_669 : Cond.code yX4_isNear cX4_isNear 3 (some .boolean) ∈ aT := aT_m (tm_3_11 mq_13) gw_code
theorem w_670 : Cond.methodLink RX4 (67) yX4_offOf ∈ aT := aT_m (tm_3_11 mq_14) gw_methodLink
theorem w_671 : Cond.methodLink RX10 (167) yX4_shortOf ∈ aT := aT_m (tm_3_11 mq_15) gw_methodLink
theorem w_672 : Cond.instanceMethod yX4_shortOf ∈ aT := aT_m (tm_3_12 mq_0) gw_instanceMethod
theorem w_673 : Cond.selects RX4 yX4_shortOf yX4_shortOf ∈ aT := aT_m (tm_3_12 mq_1) gw_selects
theorem w_674 : Cond.code yX4_shortOf cX4_shortOf 3 (some .int) ∈ aT := aT_m (tm_3_12 mq_2) gw_code
theorem w_675 : Cond.methodLink RX4 (74) yX2_shortage ∈ aT := aT_m (tm_3_12 mq_3) gw_methodLink
theorem w_676 : Cond.static yX2_shortage ∈ aT := aT_m (tm_3_12 mq_4) gw_static
theorem w_677 : Cond.code yX2_shortage cX2_shortage 5 (some .int) ∈ aT := aT_m (tm_3_12 mq_5) gw_code
theorem w_678 : Cond.methodLink RX10 (170) yX4_timesOf ∈ aT := aT_m (tm_3_12 mq_6) gw_methodLink
theorem w_679 : Cond.instanceMethod yX4_timesOf ∈ aT := aT_m (tm_3_12 mq_7) gw_instanceMethod
theorem w_680 : Cond.selects RX4 yX4_timesOf yX4_timesOf ∈ aT := aT_m (tm_3_12 mq_8) gw_selects
theorem w_681 : Cond.code yX4_timesOf cX4_timesOf 3 (some .int) ∈ aT := aT_m (tm_3_12 mq_9) gw_code
theorem w_682 : Cond.methodLink RX4 (71) yX2_times ∈ aT := aT_m (tm_3_12 mq_10) gw_methodLink
theorem w_687 : Cond.constant RX10 (173) (-1000000000) ∈ aT := aT_m (tm_3_12 mq_15) gw_constant
theorem w_688 : Cond.methodLink RX10 (174) yX4_gather ∈ aT := aT_m (tm_3_13 mq_0) gw_methodLink
theorem w_689 : Cond.instanceMethod yX4_gather ∈ aT := aT_m (tm_3_13 mq_1) gw_instanceMethod
theorem w_690 : Cond.selects RX4 yX4_gather yX4_gather ∈ aT := aT_m (tm_3_13 mq_2) gw_selects
theorem w_691 : Cond.code yX4_gather cX4_gather 5 (some .int) ∈ aT := aT_m (tm_3_13 mq_3) gw_code
theorem w_692 : Cond.methodLink RX4 (45) yX4_belongs ∈ aT := aT_m (tm_3_13 mq_4) gw_methodLink
theorem w_693 : Cond.static yX4_belongs ∈ aT := aT_m (tm_3_13 mq_5) gw_static
theorem w_694 : Cond.code yX4_belongs cX4_belongs 5 (some .boolean) ∈ aT := aT_m (tm_3_13 mq_6) gw_code
theorem w_695 : Cond.methodLink RX4 (130) yX1_takes ∈ aT := aT_m (tm_3_13 mq_7) gw_methodLink
theorem w_696 : Cond.methodLink RX10 (178) yX4_scoreBy ∈ aT := aT_m (tm_3_13 mq_8) gw_methodLink
theorem w_697 : Cond.instanceMethod yX4_scoreBy ∈ aT := aT_m (tm_3_13 mq_9) gw_instanceMethod
theorem w_698 : Cond.selects RX4 yX4_scoreBy yX4_scoreBy ∈ aT := aT_m (tm_3_13 mq_10) gw_selects
theorem w_699 : Cond.code yX4_scoreBy cX4_scoreBy 4 (some .int) ∈ aT := aT_m (tm_3_13 mq_11) gw_code
theorem w_7 : Cond.initialized RX5 ∈ aT := aT_m (tm_1_0 mq_7) gw_initialized
theorem w_704 : Cond.methodLink RX10 (182) yX10_isRange ∈ aT := aT_m (tm_3_14 mq_0) gw_methodLink
theorem w_705 : Cond.static yX10_isRange ∈ aT := aT_m (tm_3_14 mq_1) gw_static
theorem w_706 : Cond.code yX10_isRange cX10_isRange 3 (some .boolean) ∈ aT := aT_m (tm_3_14 mq_2) gw_code
theorem w_707 : Cond.methodLink RX10 (185) yX10_bestAmong ∈ aT := aT_m (tm_3_14 mq_3) gw_methodLink
theorem w_709 : Cond.instanceMethod yX10_bestAmong ∈ aT := aT_m (tm_3_14 mq_5) gw_instanceMethod
theorem w_710 : Cond.code yX10_bestAmong cX10_bestAmong 5 (some .int) ∈ aT := aT_m (tm_3_14 mq_6) gw_code
theorem w_711 : Cond.methodLink RX10 (189) yX7_scoreUnits ∈ aT := aT_m (tm_3_14 mq_7) gw_methodLink
theorem w_712 : Cond.instanceMethod yX7_scoreUnits ∈ aT := aT_m (tm_3_14 mq_8) gw_instanceMethod
theorem w_713 : Cond.selects RX7 yX7_scoreUnits yX7_scoreUnits ∈ aT := aT_m (tm_3_14 mq_9) gw_selects
theorem w_714 : Cond.code yX7_scoreUnits cX7_scoreUnits 5 none ∈ aT := aT_m (tm_3_14 mq_10) gw_code
theorem w_715 : Cond.methodLink RX7 (34) yJ9_min_7cf53 ∈ aT := aT_m (tm_3_14 mq_11) gw_methodLink
theorem w_716 : Cond.methodLink RX7 (40) yX4_scoreBy ∈ aT := aT_m (tm_3_14 mq_12) gw_methodLink
theorem w_717 : Cond.methodLink RX10 (277) yX7_bestUnit ∈ aT := aT_m (tm_3_14 mq_13) gw_methodLink
theorem w_718 : Cond.instanceMethod yX7_bestUnit ∈ aT := aT_m (tm_3_14 mq_14) gw_instanceMethod
theorem w_719 : Cond.selects RX7 yX7_bestUnit yX7_bestUnit ∈ aT := aT_m (tm_3_14 mq_15) gw_selects
theorem w_720 : Cond.code yX7_bestUnit cX7_bestUnit 3 (some .int) ∈ aT := aT_m (tm_4_0 mq_0) gw_code
theorem w_721 : Cond.methodLink RX7 (46) yX7_compare ∈ aT := aT_m (tm_4_0 mq_1) gw_methodLink
theorem w_723 : Cond.instanceMethod yX7_compare ∈ aT := aT_m (tm_4_0 mq_3) gw_instanceMethod
theorem w_724 : Cond.code yX7_compare cX7_compare 3 (some .int) ∈ aT := aT_m (tm_4_0 mq_4) gw_code
theorem w_725 : Cond.methodLink RX7 (92) yX7_inReach ∈ aT := aT_m (tm_4_0 mq_5) gw_methodLink
theorem w_727 : Cond.instanceMethod yX7_inReach ∈ aT := aT_m (tm_4_0 mq_7) gw_instanceMethod
theorem w_728 : Cond.code yX7_inReach cX7_inReach 2 (some .boolean) ∈ aT := aT_m (tm_4_0 mq_8) gw_code
theorem w_729 : Cond.methodLink RX7 (95) yJ13_compare_74951 ∈ aT := aT_m (tm_4_0 mq_9) gw_methodLink
theorem w_730 : Cond.static yJ13_compare_74951 ∈ aT := aT_m (tm_4_0 mq_10) gw_static
theorem w_731 : Cond.code yJ13_compare_74951 cJ13_compare_74951 4 (some .int) ∈ aT := aT_m (tm_4_0 mq_11) gw_code
theorem w_736 : Cond.methodLink RX10 (193) yX7_peakAt ∈ aT := aT_m (tm_4_1 mq_0) gw_methodLink
theorem w_737 : Cond.instanceMethod yX7_peakAt ∈ aT := aT_m (tm_4_1 mq_1) gw_instanceMethod
theorem w_738 : Cond.selects RX7 yX7_peakAt yX7_peakAt ∈ aT := aT_m (tm_4_1 mq_2) gw_selects
theorem w_739 : Cond.code yX7_peakAt cX7_peakAt 3 (some .int) ∈ aT := aT_m (tm_4_1 mq_3) gw_code
theorem w_740 : Cond.methodLink RX7 (49) yX7_listPeaks ∈ aT := aT_m (tm_4_1 mq_4) gw_methodLink
theorem w_742 : Cond.instanceMethod yX7_listPeaks ∈ aT := aT_m (tm_4_1 mq_6) gw_instanceMethod
theorem w_743 : Cond.code yX7_listPeaks cX7_listPeaks 2 none ∈ aT := aT_m (tm_4_1 mq_7) gw_code
theorem w_744 : Cond.methodLink RX7 (55) yX7_isPeak ∈ aT := aT_m (tm_4_1 mq_8) gw_methodLink
theorem w_746 : Cond.instanceMethod yX7_isPeak ∈ aT := aT_m (tm_4_1 mq_10) gw_instanceMethod
theorem w_747 : Cond.code yX7_isPeak cX7_isPeak 2 (some .boolean) ∈ aT := aT_m (tm_4_1 mq_11) gw_code
theorem w_748 : Cond.methodLink RX7 (52) yX7_betterPeaks ∈ aT := aT_m (tm_4_1 mq_12) gw_methodLink
theorem w_750 : Cond.instanceMethod yX7_betterPeaks ∈ aT := aT_m (tm_4_1 mq_14) gw_instanceMethod
theorem w_751 : Cond.code yX7_betterPeaks cX7_betterPeaks 4 (some .int) ∈ aT := aT_m (tm_4_1 mq_15) gw_code
theorem w_752 : Cond.methodLink RX7 (100) yX7_isBetter ∈ aT := aT_m (tm_4_2 mq_0) gw_methodLink
theorem w_754 : Cond.instanceMethod yX7_isBetter ∈ aT := aT_m (tm_4_2 mq_2) gw_instanceMethod
theorem w_755 : Cond.code yX7_isBetter cX7_isBetter 4 (some .boolean) ∈ aT := aT_m (tm_4_2 mq_3) gw_code
theorem w_760 : Cond.methodLink RX10 (196) yX7_bestPair ∈ aT := aT_m (tm_4_2 mq_8) gw_methodLink
theorem w_761 : Cond.instanceMethod yX7_bestPair ∈ aT := aT_m (tm_4_2 mq_9) gw_instanceMethod
theorem w_762 : Cond.selects RX7 yX7_bestPair yX7_bestPair ∈ aT := aT_m (tm_4_2 mq_10) gw_selects
theorem w_763 : Cond.code yX7_bestPair cX7_bestPair 12 (some .int) ∈ aT := aT_m (tm_4_2 mq_11) gw_code
theorem w_764 : Cond.methodLink RX7 (84) yX7_listOffs ∈ aT := aT_m (tm_4_2 mq_12) gw_methodLink
theorem w_766 : Cond.instanceMethod yX7_listOffs ∈ aT := aT_m (tm_4_2 mq_14) gw_instanceMethod
theorem w_767 : Cond.code yX7_listOffs cX7_listOffs 6 none ∈ aT := aT_m (tm_4_2 mq_15) gw_code
theorem w_768 : Cond.methodLink RX7 (79) yX4_offOf ∈ aT := aT_m (tm_4_3 mq_0) gw_methodLink
theorem w_769 : Cond.methodLink RX7 (88) yX7_sumOfListed ∈ aT := aT_m (tm_4_3 mq_1) gw_methodLink
theorem w_771 : Cond.instanceMethod yX7_sumOfListed ∈ aT := aT_m (tm_4_3 mq_3) gw_instanceMethod
theorem w_772 : Cond.code yX7_sumOfListed cX7_sumOfListed 10 (some .long) ∈ aT := aT_m (tm_4_3 mq_4) gw_code
theorem w_773 : Cond.constantLong RX7 (82) (4) ∈ aT := aT_m (tm_4_3 mq_5) gw_constantLong
theorem w_778 : Cond.constantLong RX10 (200) (-1000000000000) ∈ aT := aT_m (tm_4_3 mq_10) gw_constantLong
theorem w_779 : Cond.methodLink RX10 (202) yX7_sumOfTwo ∈ aT := aT_m (tm_4_3 mq_11) gw_methodLink
theorem w_780 : Cond.instanceMethod yX7_sumOfTwo ∈ aT := aT_m (tm_4_3 mq_12) gw_instanceMethod
theorem w_781 : Cond.selects RX7 yX7_sumOfTwo yX7_sumOfTwo ∈ aT := aT_m (tm_4_3 mq_13) gw_selects
theorem w_782 : Cond.code yX7_sumOfTwo cX7_sumOfTwo 7 (some .long) ∈ aT := aT_m (tm_4_3 mq_14) gw_code
theorem w_787 : Cond.methodLink RX10 (206) yX4_nearBy ∈ aT := aT_m (tm_4_4 mq_3) gw_methodLink
theorem w_788 : Cond.instanceMethod yX4_nearBy ∈ aT := aT_m (tm_4_4 mq_4) gw_instanceMethod
theorem w_789 : Cond.selects RX4 yX4_nearBy yX4_nearBy ∈ aT := aT_m (tm_4_4 mq_5) gw_selects
theorem w_790 : Cond.code yX4_nearBy cX4_nearBy 4 (some .int) ∈ aT := aT_m (tm_4_4 mq_6) gw_code
theorem w_791 : Cond.methodLink RX4 (81) yX4_isNear ∈ aT := aT_m (tm_4_4 mq_7) gw_methodLink
theorem w_792 : Cond.methodLink RX10 (209) yX3_ofNear ∈ aT := aT_m (tm_4_4 mq_8) gw_methodLink
theorem w_793 : Cond.instanceMethod yX3_ofNear ∈ aT := aT_m (tm_4_4 mq_9) gw_instanceMethod
theorem w_794 : Cond.selects RX3 yX3_ofNear yX3_ofNear ∈ aT := aT_m (tm_4_4 mq_10) gw_selects
theorem w_795 : Cond.code yX3_ofNear cX3_ofNear 5 (some .int) ∈ aT := aT_m (tm_4_4 mq_11) gw_code
theorem w_796 : Cond.methodLink RX3 (15) yX3_begin ∈ aT := aT_m (tm_4_4 mq_12) gw_methodLink
theorem w_798 : Cond.instanceMethod yX3_begin ∈ aT := aT_m (tm_4_4 mq_14) gw_instanceMethod
theorem w_799 : Cond.code yX3_begin cX3_begin 2 none ∈ aT := aT_m (tm_4_4 mq_15) gw_code
theorem w_8 : Cond.initialized RX4 ∈ aT := aT_m (tm_1_0 mq_8) gw_initialized
theorem w_800 : Cond.constantLong RX3 (36) (1000000000) ∈ aT := aT_m (tm_4_5 mq_0) gw_constantLong
theorem w_801 : Cond.methodLink RX3 (24) yX4_luckyOf ∈ aT := aT_m (tm_4_5 mq_1) gw_methodLink
theorem w_802 : Cond.instanceMethod yX4_luckyOf ∈ aT := aT_m (tm_4_5 mq_2) gw_instanceMethod
theorem w_803 : Cond.selects RX4 yX4_luckyOf yX4_luckyOf ∈ aT := aT_m (tm_4_5 mq_3) gw_selects
theorem w_804 : Cond.code yX4_luckyOf cX4_luckyOf 3 (some .int) ∈ aT := aT_m (tm_4_5 mq_4) gw_code
theorem w_805 : Cond.methodLink RX4 (78) yX2_luckyPlaces ∈ aT := aT_m (tm_4_5 mq_5) gw_methodLink
theorem w_806 : Cond.static yX2_luckyPlaces ∈ aT := aT_m (tm_4_5 mq_6) gw_static
theorem w_807 : Cond.code yX2_luckyPlaces cX2_luckyPlaces 2 (some .int) ∈ aT := aT_m (tm_4_5 mq_7) gw_code
theorem w_808 : Cond.methodLink RX3 (28) yX3_draw ∈ aT := aT_m (tm_4_5 mq_8) gw_methodLink
theorem w_810 : Cond.instanceMethod yX3_draw ∈ aT := aT_m (tm_4_5 mq_10) gw_instanceMethod
theorem w_811 : Cond.code yX3_draw cX3_draw 4 none ∈ aT := aT_m (tm_4_5 mq_11) gw_code
theorem w_812 : Cond.methodLink RX3 (32) yX3_from ∈ aT := aT_m (tm_4_5 mq_12) gw_methodLink
theorem w_814 : Cond.instanceMethod yX3_from ∈ aT := aT_m (tm_4_5 mq_14) gw_instanceMethod
theorem w_815 : Cond.code yX3_from cX3_from 5 (some .int) ∈ aT := aT_m (tm_4_5 mq_15) gw_code
theorem w_816 : Cond.methodLink RX3 (38) yJ9_max_7cf53 ∈ aT := aT_m (tm_4_6 mq_0) gw_methodLink
theorem w_821 : Cond.methodLink RX10 (212) yX10_weighEvidence ∈ aT := aT_m (tm_4_6 mq_5) gw_methodLink
theorem w_823 : Cond.instanceMethod yX10_weighEvidence ∈ aT := aT_m (tm_4_6 mq_7) gw_instanceMethod
theorem w_824 : Cond.code yX10_weighEvidence cX10_weighEvidence 10 none ∈ aT := aT_m (tm_4_6 mq_8) gw_code
theorem w_825 : Cond.constantLong RX10 (292) (1000000000) ∈ aT := aT_m (tm_4_6 mq_9) gw_constantLong
theorem w_826 : Cond.methodLink RX10 (294) yJ9_min_f86c9 ∈ aT := aT_m (tm_4_6 mq_10) gw_methodLink
theorem w_827 : Cond.static yJ9_min_f86c9 ∈ aT := aT_m (tm_4_6 mq_11) gw_static
theorem w_828 : Cond.code yJ9_min_f86c9 cJ9_min_f86c9 4 (some .long) ∈ aT := aT_m (tm_4_6 mq_12) gw_code
theorem w_829 : Cond.constantLong RX10 (297) (9999) ∈ aT := aT_m (tm_4_6 mq_13) gw_constantLong
theorem w_830 : Cond.constantLong RX10 (299) (1000) ∈ aT := aT_m (tm_4_6 mq_14) gw_constantLong
theorem w_831 : Cond.methodLink RX10 (301) yX7_placeOf ∈ aT := aT_m (tm_4_6 mq_15) gw_methodLink
theorem w_832 : Cond.instanceMethod yX7_placeOf ∈ aT := aT_m (tm_4_7 mq_0) gw_instanceMethod
theorem w_833 : Cond.selects RX7 yX7_placeOf yX7_placeOf ∈ aT := aT_m (tm_4_7 mq_1) gw_selects
theorem w_834 : Cond.code yX7_placeOf cX7_placeOf 2 (some .int) ∈ aT := aT_m (tm_4_7 mq_2) gw_code
theorem w_835 : Cond.methodLink RX10 (304) yX4_townsNear ∈ aT := aT_m (tm_4_7 mq_3) gw_methodLink
theorem w_836 : Cond.instanceMethod yX4_townsNear ∈ aT := aT_m (tm_4_7 mq_4) gw_instanceMethod
theorem w_837 : Cond.selects RX4 yX4_townsNear yX4_townsNear ∈ aT := aT_m (tm_4_7 mq_5) gw_selects
theorem w_838 : Cond.code yX4_townsNear cX4_townsNear 4 (some .int) ∈ aT := aT_m (tm_4_7 mq_6) gw_code
theorem w_839 : Cond.methodLink RX4 (85) yX4_townOf ∈ aT := aT_m (tm_4_7 mq_7) gw_methodLink
theorem w_840 : Cond.instanceMethod yX4_townOf ∈ aT := aT_m (tm_4_7 mq_8) gw_instanceMethod
theorem w_841 : Cond.selects RX4 yX4_townOf yX4_townOf ∈ aT := aT_m (tm_4_7 mq_9) gw_selects
theorem w_842 : Cond.code yX4_townOf cX4_townOf 2 (some .int) ∈ aT := aT_m (tm_4_7 mq_10) gw_code
theorem w_843 : Cond.methodLink RX4 (88) yJ6_bitCount_0f7a4 ∈ aT := aT_m (tm_4_7 mq_11) gw_methodLink
theorem w_844 : Cond.static yJ6_bitCount_0f7a4 ∈ aT := aT_m (tm_4_7 mq_12) gw_static
theorem w_845 : Cond.code yJ6_bitCount_0f7a4 cJ6_bitCount_0f7a4 1 (some .int) ∈ aT := aT_m (tm_4_7 mq_13) gw_code
theorem w_846 : Cond.constant RJ6 (265) (1431655765) ∈ aT := aT_m (tm_4_7 mq_14) gw_constant
theorem w_847 : Cond.constant RJ6 (266) (858993459) ∈ aT := aT_m (tm_4_7 mq_15) gw_constant
theorem w_848 : Cond.constant RJ6 (267) (252645135) ∈ aT := aT_m (tm_4_8 mq_0) gw_constant
theorem w_849 : Cond.methodLink RX10 (307) yX4_marksNear ∈ aT := aT_m (tm_4_8 mq_1) gw_methodLink
theorem w_850 : Cond.instanceMethod yX4_marksNear ∈ aT := aT_m (tm_4_8 mq_2) gw_instanceMethod
theorem w_851 : Cond.selects RX4 yX4_marksNear yX4_marksNear ∈ aT := aT_m (tm_4_8 mq_3) gw_selects
theorem w_852 : Cond.code yX4_marksNear cX4_marksNear 4 (some .int) ∈ aT := aT_m (tm_4_8 mq_4) gw_code
theorem w_853 : Cond.methodLink RX4 (93) yX4_markOf ∈ aT := aT_m (tm_4_8 mq_5) gw_methodLink
theorem w_854 : Cond.instanceMethod yX4_markOf ∈ aT := aT_m (tm_4_8 mq_6) gw_instanceMethod
theorem w_855 : Cond.selects RX4 yX4_markOf yX4_markOf ∈ aT := aT_m (tm_4_8 mq_7) gw_selects
theorem w_856 : Cond.code yX4_markOf cX4_markOf 2 (some .int) ∈ aT := aT_m (tm_4_8 mq_8) gw_code
theorem w_857 : Cond.methodLink RX10 (216) yX6_holds ∈ aT := aT_m (tm_4_8 mq_9) gw_methodLink
theorem w_858 : Cond.methodLink RX10 (220) yX6_deedOf ∈ aT := aT_m (tm_4_8 mq_10) gw_methodLink
theorem w_863 : Cond.methodLink RX10 (226) yX4_doublesBy ∈ aT := aT_m (tm_4_8 mq_15) gw_methodLink
theorem w_864 : Cond.instanceMethod yX4_doublesBy ∈ aT := aT_m (tm_4_9 mq_0) gw_instanceMethod
theorem w_865 : Cond.selects RX4 yX4_doublesBy yX4_doublesBy ∈ aT := aT_m (tm_4_9 mq_1) gw_selects
theorem w_866 : Cond.code yX4_doublesBy cX4_doublesBy 4 (some .int) ∈ aT := aT_m (tm_4_9 mq_2) gw_code
theorem w_867 : Cond.methodLink RX4 (99) yX4_timesOf ∈ aT := aT_m (tm_4_9 mq_3) gw_methodLink
theorem w_868 : Cond.methodLink RX4 (102) yX4_firstWithTimes ∈ aT := aT_m (tm_4_9 mq_4) gw_methodLink
theorem w_870 : Cond.instanceMethod yX4_firstWithTimes ∈ aT := aT_m (tm_4_9 mq_6) gw_instanceMethod
theorem w_871 : Cond.code yX4_firstWithTimes cX4_firstWithTimes 4 (some .int) ∈ aT := aT_m (tm_4_9 mq_7) gw_code
theorem w_872 : Cond.methodLink RX10 (229) yX4_lacksBy ∈ aT := aT_m (tm_4_9 mq_8) gw_methodLink
theorem w_873 : Cond.instanceMethod yX4_lacksBy ∈ aT := aT_m (tm_4_9 mq_9) gw_instanceMethod
theorem w_874 : Cond.selects RX4 yX4_lacksBy yX4_lacksBy ∈ aT := aT_m (tm_4_9 mq_10) gw_selects
theorem w_875 : Cond.code yX4_lacksBy cX4_lacksBy 5 (some .int) ∈ aT := aT_m (tm_4_9 mq_11) gw_code
theorem w_876 : Cond.methodLink RX4 (105) yX4_greatestTimes ∈ aT := aT_m (tm_4_9 mq_12) gw_methodLink
theorem w_877 : Cond.instanceMethod yX4_greatestTimes ∈ aT := aT_m (tm_4_9 mq_13) gw_instanceMethod
theorem w_878 : Cond.selects RX4 yX4_greatestTimes yX4_greatestTimes ∈ aT := aT_m (tm_4_9 mq_14) gw_selects
theorem w_879 : Cond.code yX4_greatestTimes cX4_greatestTimes 4 (some .int) ∈ aT := aT_m (tm_4_9 mq_15) gw_code
theorem w_880 : Cond.methodLink RX4 (108) yJ9_max_7cf53 ∈ aT := aT_m (tm_4_10 mq_0) gw_methodLink
theorem w_881 : Cond.methodLink RX10 (232) yX4_greatestTimes ∈ aT := aT_m (tm_4_10 mq_1) gw_methodLink
theorem w_886 : Cond.methodLink RX10 (235) yX10_isTown ∈ aT := aT_m (tm_4_10 mq_6) gw_methodLink
theorem w_887 : Cond.static yX10_isTown ∈ aT := aT_m (tm_4_10 mq_7) gw_static
theorem w_888 : Cond.code yX10_isTown cX10_isTown 1 (some .boolean) ∈ aT := aT_m (tm_4_10 mq_8) gw_code
theorem w_889 : Cond.methodLink RX10 (238) yX10_simplestRate ∈ aT := aT_m (tm_4_10 mq_9) gw_methodLink
theorem w_890 : Cond.static yX10_simplestRate ∈ aT := aT_m (tm_4_10 mq_10) gw_static
theorem w_891 : Cond.code yX10_simplestRate cX10_simplestRate 8 (some .int) ∈ aT := aT_m (tm_4_10 mq_11) gw_code
theorem w_892 : Cond.methodLink RX10 (281) yJ9_max_7cf53 ∈ aT := aT_m (tm_4_10 mq_12) gw_methodLink
theorem w_893 : Cond.methodLink RX10 (286) yJ9_min_7cf53 ∈ aT := aT_m (tm_4_10 mq_13) gw_methodLink
theorem w_894 : Cond.methodLink RX10 (289) yJ9_abs_0f7a4 ∈ aT := aT_m (tm_4_10 mq_14) gw_methodLink
theorem w_895 : Cond.static yJ9_abs_0f7a4 ∈ aT := aT_m (tm_4_10 mq_15) gw_static
theorem w_896 : Cond.code yJ9_abs_0f7a4 cJ9_abs_0f7a4 1 (some .int) ∈ aT := aT_m (tm_4_11 mq_0) gw_code
theorem w_9 : Cond.initialized RX7 ∈ aT := aT_m (tm_1_0 mq_9) gw_initialized
theorem w_901 : Cond.constant RX10 (241) (-100000) ∈ aT := aT_m (tm_4_11 mq_5) gw_constant
theorem w_906 : Cond.methodLink RX10 (242) yX4_shortsBy ∈ aT := aT_m (tm_4_11 mq_10) gw_methodLink
theorem w_907 : Cond.instanceMethod yX4_shortsBy ∈ aT := aT_m (tm_4_11 mq_11) gw_instanceMethod
theorem w_908 : Cond.selects RX4 yX4_shortsBy yX4_shortsBy ∈ aT := aT_m (tm_4_11 mq_12) gw_selects
theorem w_909 : Cond.code yX4_shortsBy cX4_shortsBy 4 (some .int) ∈ aT := aT_m (tm_4_11 mq_13) gw_code
theorem w_910 : Cond.methodLink RX4 (96) yX4_shortOf ∈ aT := aT_m (tm_4_11 mq_14) gw_methodLink
theorem w_911 : Cond.methodLink RX10 (245) yX3_ofShort ∈ aT := aT_m (tm_4_11 mq_15) gw_methodLink
theorem w_912 : Cond.instanceMethod yX3_ofShort ∈ aT := aT_m (tm_4_12 mq_0) gw_instanceMethod
theorem w_913 : Cond.selects RX3 yX3_ofShort yX3_ofShort ∈ aT := aT_m (tm_4_12 mq_1) gw_selects
theorem w_914 : Cond.code yX3_ofShort cX3_ofShort 4 (some .int) ∈ aT := aT_m (tm_4_12 mq_2) gw_code
theorem w_919 : Cond.methodLink RX10 (248) yX4_indexOf ∈ aT := aT_m (tm_4_12 mq_7) gw_methodLink
theorem w_920 : Cond.instanceMethod yX4_indexOf ∈ aT := aT_m (tm_4_12 mq_8) gw_instanceMethod
theorem w_921 : Cond.selects RX4 yX4_indexOf yX4_indexOf ∈ aT := aT_m (tm_4_12 mq_9) gw_selects
theorem w_922 : Cond.code yX4_indexOf cX4_indexOf 3 (some .int) ∈ aT := aT_m (tm_4_12 mq_10) gw_code
theorem w_923 : Cond.methodLink RX4 (57) yX4_numberOf ∈ aT := aT_m (tm_4_12 mq_11) gw_methodLink
theorem w_924 : Cond.instanceMethod yX4_numberOf ∈ aT := aT_m (tm_4_12 mq_12) gw_instanceMethod
theorem w_925 : Cond.selects RX4 yX4_numberOf yX4_numberOf ∈ aT := aT_m (tm_4_12 mq_13) gw_selects
theorem w_926 : Cond.code yX4_numberOf cX4_numberOf 2 (some .int) ∈ aT := aT_m (tm_4_12 mq_14) gw_code
theorem w_927 : Cond.methodLink RX10 (251) yX4_leastOfHeap ∈ aT := aT_m (tm_4_12 mq_15) gw_methodLink
theorem w_928 : Cond.instanceMethod yX4_leastOfHeap ∈ aT := aT_m (tm_4_13 mq_0) gw_instanceMethod
theorem w_929 : Cond.selects RX4 yX4_leastOfHeap yX4_leastOfHeap ∈ aT := aT_m (tm_4_13 mq_1) gw_selects
theorem w_93 : Cond.fieldLink RX9 9 "StonesOfWeight$Tape" "bytes" "[B" ∈ aT := aT_m (tm_1_5 mq_13) gw_fieldLink
theorem w_930 : Cond.code yX4_leastOfHeap cX4_leastOfHeap 11 (some .int) ∈ aT := aT_m (tm_4_13 mq_2) gw_code
theorem w_931 : Cond.constantLong RX4 (113) (-1) ∈ aT := aT_m (tm_4_13 mq_3) gw_constantLong
theorem w_932 : Cond.methodLink RX4 (115) yX4_firstIn ∈ aT := aT_m (tm_4_13 mq_4) gw_methodLink
theorem w_933 : Cond.static yX4_firstIn ∈ aT := aT_m (tm_4_13 mq_5) gw_static
theorem w_934 : Cond.code yX4_firstIn cX4_firstIn 3 (some .int) ∈ aT := aT_m (tm_4_13 mq_6) gw_code
theorem w_935 : Cond.methodLink RX4 (119) yX4_areTwins ∈ aT := aT_m (tm_4_13 mq_7) gw_methodLink
theorem w_937 : Cond.instanceMethod yX4_areTwins ∈ aT := aT_m (tm_4_13 mq_9) gw_instanceMethod
theorem w_938 : Cond.code yX4_areTwins cX4_areTwins 7 (some .boolean) ∈ aT := aT_m (tm_4_13 mq_10) gw_code
theorem w_939 : Cond.methodLink RX4 (169) yJ9_abs_0f7a4 ∈ aT := aT_m (tm_4_13 mq_11) gw_methodLink
theorem w_94 : Cond.fieldLink RX9 15 "StonesOfWeight$Tape" "length" "I" ∈ aT := aT_m (tm_1_5 mq_14) gw_fieldLink
theorem w_944 : Cond.methodLink RX10 (255) yX7_worthOf ∈ aT := aT_m (tm_4_14 mq_0) gw_methodLink
theorem w_945 : Cond.instanceMethod yX7_worthOf ∈ aT := aT_m (tm_4_14 mq_1) gw_instanceMethod
theorem w_946 : Cond.selects RX7 yX7_worthOf yX7_worthOf ∈ aT := aT_m (tm_4_14 mq_2) gw_selects
theorem w_947 : Cond.code yX7_worthOf cX7_worthOf 5 (some .int) ∈ aT := aT_m (tm_4_14 mq_3) gw_code
theorem w_948 : Cond.methodLink RX7 (65) yX7_setAside ∈ aT := aT_m (tm_4_14 mq_4) gw_methodLink
theorem w_95 : Cond.fieldLink RX10 95 "StonesOfWeight$Tape" "length" "I" ∈ aT := aT_m (tm_1_5 mq_15) gw_fieldLink
theorem w_950 : Cond.instanceMethod yX7_setAside ∈ aT := aT_m (tm_4_14 mq_6) gw_instanceMethod
theorem w_951 : Cond.code yX7_setAside cX7_setAside 4 none ∈ aT := aT_m (tm_4_14 mq_7) gw_code
theorem w_952 : Cond.methodLink RX7 (69) yX7_bestIf ∈ aT := aT_m (tm_4_14 mq_8) gw_methodLink
theorem w_954 : Cond.instanceMethod yX7_bestIf ∈ aT := aT_m (tm_4_14 mq_10) gw_instanceMethod
theorem w_955 : Cond.code yX7_bestIf cX7_bestIf 10 (some .int) ∈ aT := aT_m (tm_4_14 mq_11) gw_code
theorem w_956 : Cond.methodLink RX7 (104) yX4_offIf ∈ aT := aT_m (tm_4_14 mq_12) gw_methodLink
theorem w_957 : Cond.instanceMethod yX4_offIf ∈ aT := aT_m (tm_4_14 mq_13) gw_instanceMethod
theorem w_958 : Cond.selects RX4 yX4_offIf yX4_offIf ∈ aT := aT_m (tm_4_14 mq_14) gw_selects
theorem w_959 : Cond.code yX4_offIf cX4_offIf 4 (some .int) ∈ aT := aT_m (tm_4_14 mq_15) gw_code
theorem w_960 : Cond.methodLink RX7 (73) yJ9_abs_0f7a4 ∈ aT := aT_m (tm_5_0 mq_0) gw_methodLink
theorem w_961 : Cond.methodLink RX10 (259) yX4_numberOf ∈ aT := aT_m (tm_5_0 mq_1) gw_methodLink
theorem w_978 : Cond.methodLink RX8 (49) yX0_copyFrom ∈ aT := aT_m (tm_5_1 mq_2) gw_methodLink
theorem w_979 : Cond.instanceMethod yX0_copyFrom ∈ aT := aT_m (tm_5_1 mq_3) gw_instanceMethod
theorem w_980 : Cond.selects RX0 yX0_copyFrom yX0_copyFrom ∈ aT := aT_m (tm_5_1 mq_4) gw_selects
theorem w_981 : Cond.code yX0_copyFrom cX0_copyFrom 2 none ∈ aT := aT_m (tm_5_1 mq_5) gw_code
theorem w_982 : Cond.methodLink RX0 (73) ⟨"java/lang/System", "arraycopy", "(Ljava/lang/Object;ILjava/lang/Object;II)V"⟩ ∈ aT := aT_m (tm_5_1 mq_6) gw_methodLink
theorem w_983 : Cond.methodLink RX8 (53) yX9_copyFrom ∈ aT := aT_m (tm_5_1 mq_7) gw_methodLink
theorem w_984 : Cond.instanceMethod yX9_copyFrom ∈ aT := aT_m (tm_5_1 mq_8) gw_instanceMethod
theorem w_985 : Cond.selects RX9 yX9_copyFrom yX9_copyFrom ∈ aT := aT_m (tm_5_1 mq_9) gw_selects
theorem w_986 : Cond.code yX9_copyFrom cX9_copyFrom 2 none ∈ aT := aT_m (tm_5_1 mq_10) gw_code
theorem w_987 : Cond.methodLink RX9 (19) ⟨"java/lang/System", "arraycopy", "(Ljava/lang/Object;ILjava/lang/Object;II)V"⟩ ∈ aT := aT_m (tm_5_1 mq_11) gw_methodLink
theorem w_988 : Cond.methodLink RX8 (56) yX6_copyFrom ∈ aT := aT_m (tm_5_1 mq_12) gw_methodLink
theorem w_989 : Cond.methodLink RX8 (59) yX1_copyFrom ∈ aT := aT_m (tm_5_1 mq_13) gw_methodLink
theorem w_990 : Cond.instanceMethod yX1_copyFrom ∈ aT := aT_m (tm_5_1 mq_14) gw_instanceMethod
theorem w_991 : Cond.selects RX1 yX1_copyFrom yX1_copyFrom ∈ aT := aT_m (tm_5_1 mq_15) gw_selects
theorem w_992 : Cond.code yX1_copyFrom cX1_copyFrom 2 none ∈ aT := aT_m (tm_5_2 mq_0) gw_code
theorem ws_0 : Cond.selects yX0_write.cls yX0_write yX0_write ∈ aT := aT_s (q := (yX0_write, 13)) (ts_1 mq_0)
theorem ws_1 : Cond.selects yX0_apply.cls yX0_apply yX0_apply ∈ aT := aT_s (q := (yX0_apply, 13)) (ts_1 mq_1)
theorem ws_10 : Cond.selects yX5_readTest.cls yX5_readTest yX5_readTest ∈ aT := aT_s (q := (yX5_readTest, 8)) (ts_1 mq_10)
theorem ws_11 : Cond.selects yX5_refuse.cls yX5_refuse yX5_refuse ∈ aT := aT_s (q := (yX5_refuse, 8)) (ts_1 mq_11)
theorem ws_12 : Cond.selects yX5_isSign.cls yX5_isSign yX5_isSign ∈ aT := aT_s (q := (yX5_isSign, 8)) (ts_1 mq_12)
theorem ws_13 : Cond.selects yX5_number.cls yX5_number yX5_number ∈ aT := aT_s (q := (yX5_number, 8)) (ts_1 mq_13)
theorem ws_14 : Cond.selects yX5_pass.cls yX5_pass yX5_pass ∈ aT := aT_s (q := (yX5_pass, 8)) (ts_1 mq_14)
theorem ws_15 : Cond.selects yX5_readDeed.cls yX5_readDeed yX5_readDeed ∈ aT := aT_s (q := (yX5_readDeed, 8)) (ts_1 mq_15)
theorem ws_16 : Cond.selects yX5_readAmounts.cls yX5_readAmounts yX5_readAmounts ∈ aT := aT_s (q := (yX5_readAmounts, 8)) (ts_2 mq_0)
theorem ws_17 : Cond.selects yX4_lay.cls yX4_lay yX4_lay ∈ aT := aT_s (q := (yX4_lay, 7)) (ts_2 mq_1)
theorem ws_18 : Cond.selects yX4_measure.cls yX4_measure yX4_measure ∈ aT := aT_s (q := (yX4_measure, 7)) (ts_2 mq_2)
theorem ws_19 : Cond.selects yX4_listTraits.cls yX4_listTraits yX4_listTraits ∈ aT := aT_s (q := (yX4_listTraits, 7)) (ts_2 mq_3)
theorem ws_2 : Cond.selects yX0_isSeen.cls yX0_isSeen yX0_isSeen ∈ aT := aT_s (q := (yX0_isSeen, 13)) (ts_1 mq_2)
theorem ws_20 : Cond.selects yX6_passes.cls yX6_passes yX6_passes ∈ aT := aT_s (q := (yX6_passes, 9)) (ts_2 mq_4)
theorem ws_21 : Cond.selects yX1_takesMark.cls yX1_takesMark yX1_takesMark ∈ aT := aT_s (q := (yX1_takesMark, 5)) (ts_2 mq_5)
theorem ws_22 : Cond.selects yX4_has.cls yX4_has yX4_has ∈ aT := aT_s (q := (yX4_has, 7)) (ts_2 mq_6)
theorem ws_23 : Cond.selects yX10_bestAmong.cls yX10_bestAmong yX10_bestAmong ∈ aT := aT_s (q := (yX10_bestAmong, 7)) (ts_2 mq_7)
theorem ws_24 : Cond.selects yX7_compare.cls yX7_compare yX7_compare ∈ aT := aT_s (q := (yX7_compare, 7)) (ts_2 mq_8)
theorem ws_25 : Cond.selects yX7_inReach.cls yX7_inReach yX7_inReach ∈ aT := aT_s (q := (yX7_inReach, 7)) (ts_2 mq_9)
theorem ws_26 : Cond.selects yX7_listPeaks.cls yX7_listPeaks yX7_listPeaks ∈ aT := aT_s (q := (yX7_listPeaks, 7)) (ts_2 mq_10)
theorem ws_27 : Cond.selects yX7_isPeak.cls yX7_isPeak yX7_isPeak ∈ aT := aT_s (q := (yX7_isPeak, 7)) (ts_2 mq_11)
theorem ws_28 : Cond.selects yX7_betterPeaks.cls yX7_betterPeaks yX7_betterPeaks ∈ aT := aT_s (q := (yX7_betterPeaks, 7)) (ts_2 mq_12)
theorem ws_29 : Cond.selects yX7_isBetter.cls yX7_isBetter yX7_isBetter ∈ aT := aT_s (q := (yX7_isBetter, 7)) (ts_2 mq_13)
theorem ws_3 : Cond.selects yX0_see.cls yX0_see yX0_see ∈ aT := aT_s (q := (yX0_see, 13)) (ts_1 mq_3)
theorem ws_30 : Cond.selects yX7_listOffs.cls yX7_listOffs yX7_listOffs ∈ aT := aT_s (q := (yX7_listOffs, 7)) (ts_2 mq_14)
theorem ws_31 : Cond.selects yX7_sumOfListed.cls yX7_sumOfListed yX7_sumOfListed ∈ aT := aT_s (q := (yX7_sumOfListed, 7)) (ts_2 mq_15)
theorem ws_32 : Cond.selects yX3_begin.cls yX3_begin yX3_begin ∈ aT := aT_s (q := (yX3_begin, 1)) (ts_3 mq_0)
theorem ws_33 : Cond.selects yX3_draw.cls yX3_draw yX3_draw ∈ aT := aT_s (q := (yX3_draw, 1)) (ts_3 mq_1)
theorem ws_34 : Cond.selects yX3_from.cls yX3_from yX3_from ∈ aT := aT_s (q := (yX3_from, 1)) (ts_3 mq_2)
theorem ws_35 : Cond.selects yX10_weighEvidence.cls yX10_weighEvidence yX10_weighEvidence ∈ aT := aT_s (q := (yX10_weighEvidence, 7)) (ts_3 mq_3)
theorem ws_36 : Cond.selects yX4_firstWithTimes.cls yX4_firstWithTimes yX4_firstWithTimes ∈ aT := aT_s (q := (yX4_firstWithTimes, 7)) (ts_3 mq_4)
theorem ws_37 : Cond.selects yX4_areTwins.cls yX4_areTwins yX4_areTwins ∈ aT := aT_s (q := (yX4_areTwins, 7)) (ts_3 mq_5)
theorem ws_38 : Cond.selects yX7_setAside.cls yX7_setAside yX7_setAside ∈ aT := aT_s (q := (yX7_setAside, 7)) (ts_3 mq_6)
theorem ws_39 : Cond.selects yX7_bestIf.cls yX7_bestIf yX7_bestIf ∈ aT := aT_s (q := (yX7_bestIf, 7)) (ts_3 mq_7)
theorem ws_4 : Cond.selects yX0_agrees.cls yX0_agrees yX0_agrees ∈ aT := aT_s (q := (yX0_agrees, 13)) (ts_1 mq_4)
theorem ws_40 : Cond.selects yX11_enter.cls yX11_enter yX11_enter ∈ aT := aT_s (q := (yX11_enter, 51)) (ts_3 mq_8)
theorem ws_41 : Cond.selects yX11_canBe.cls yX11_canBe yX11_canBe ∈ aT := aT_s (q := (yX11_canBe, 51)) (ts_3 mq_9)
theorem ws_42 : Cond.selects yX11_factOn.cls yX11_factOn yX11_factOn ∈ aT := aT_s (q := (yX11_factOn, 51)) (ts_3 mq_10)
theorem ws_43 : Cond.selects yX11_isStone.cls yX11_isStone yX11_isStone ∈ aT := aT_s (q := (yX11_isStone, 51)) (ts_3 mq_11)
theorem ws_44 : Cond.selects yX11_dayOfView.cls yX11_dayOfView yX11_dayOfView ∈ aT := aT_s (q := (yX11_dayOfView, 51)) (ts_3 mq_12)
theorem ws_45 : Cond.selects yX11_four.cls yX11_four yX11_four ∈ aT := aT_s (q := (yX11_four, 51)) (ts_3 mq_13)
theorem ws_46 : Cond.selects yX11_next.cls yX11_next yX11_next ∈ aT := aT_s (q := (yX11_next, 51)) (ts_3 mq_14)
theorem ws_47 : Cond.selects yX11_see.cls yX11_see yX11_see ∈ aT := aT_s (q := (yX11_see, 51)) (ts_3 mq_15)
theorem ws_48 : Cond.selects yX11_oneLine.cls yX11_oneLine yX11_oneLine ∈ aT := aT_s (q := (yX11_oneLine, 51)) (ts_4 mq_0)
theorem ws_49 : Cond.selects yX11_later.cls yX11_later yX11_later ∈ aT := aT_s (q := (yX11_later, 51)) (ts_4 mq_1)
theorem ws_5 : Cond.selects yX5_advance.cls yX5_advance yX5_advance ∈ aT := aT_s (q := (yX5_advance, 8)) (ts_1 mq_5)
theorem ws_50 : Cond.selects yX11_isWord.cls yX11_isWord yX11_isWord ∈ aT := aT_s (q := (yX11_isWord, 51)) (ts_4 mq_2)
theorem ws_51 : Cond.selects yX11_test.cls yX11_test yX11_test ∈ aT := aT_s (q := (yX11_test, 51)) (ts_4 mq_3)
theorem ws_52 : Cond.selects yX11_testWord.cls yX11_testWord yX11_testWord ∈ aT := aT_s (q := (yX11_testWord, 51)) (ts_4 mq_4)
theorem ws_53 : Cond.selects yX11_wrong.cls yX11_wrong yX11_wrong ∈ aT := aT_s (q := (yX11_wrong, 51)) (ts_4 mq_5)
theorem ws_54 : Cond.selects yX11_need.cls yX11_need yX11_need ∈ aT := aT_s (q := (yX11_need, 51)) (ts_4 mq_6)
theorem ws_55 : Cond.selects yX11_isSign.cls yX11_isSign yX11_isSign ∈ aT := aT_s (q := (yX11_isSign, 51)) (ts_4 mq_7)
theorem ws_56 : Cond.selects yX11_actWord.cls yX11_actWord yX11_actWord ∈ aT := aT_s (q := (yX11_actWord, 51)) (ts_4 mq_8)
theorem ws_57 : Cond.selects yX11_numbers.cls yX11_numbers yX11_numbers ∈ aT := aT_s (q := (yX11_numbers, 51)) (ts_4 mq_9)
theorem ws_58 : Cond.selects yX11_look.cls yX11_look yX11_look ∈ aT := aT_s (q := (yX11_look, 51)) (ts_4 mq_10)
theorem ws_59 : Cond.selects yX11_findSpan.cls yX11_findSpan yX11_findSpan ∈ aT := aT_s (q := (yX11_findSpan, 51)) (ts_4 mq_11)
theorem ws_6 : Cond.selects yX5_remark.cls yX5_remark yX5_remark ∈ aT := aT_s (q := (yX5_remark, 8)) (ts_1 mq_6)
theorem ws_60 : Cond.selects yX11_f.cls yX11_f yX11_f ∈ aT := aT_s (q := (yX11_f, 51)) (ts_4 mq_12)
theorem ws_61 : Cond.selects yX11_holds.cls yX11_holds yX11_holds ∈ aT := aT_s (q := (yX11_holds, 51)) (ts_4 mq_13)
theorem ws_62 : Cond.selects yX11_isChosen.cls yX11_isChosen yX11_isChosen ∈ aT := aT_s (q := (yX11_isChosen, 51)) (ts_4 mq_14)
theorem ws_63 : Cond.selects yX11_off.cls yX11_off yX11_off ∈ aT := aT_s (q := (yX11_off, 51)) (ts_4 mq_15)
theorem ws_64 : Cond.selects yX11_timesOf.cls yX11_timesOf yX11_timesOf ∈ aT := aT_s (q := (yX11_timesOf, 51)) (ts_5 mq_0)
theorem ws_65 : Cond.selects yX11_shortOf.cls yX11_shortOf yX11_shortOf ∈ aT := aT_s (q := (yX11_shortOf, 51)) (ts_5 mq_1)
theorem ws_66 : Cond.selects yX11_scoreOf.cls yX11_scoreOf yX11_scoreOf ∈ aT := aT_s (q := (yX11_scoreOf, 51)) (ts_5 mq_2)
theorem ws_67 : Cond.selects yX11_those.cls yX11_those yX11_those ∈ aT := aT_s (q := (yX11_those, 51)) (ts_5 mq_3)
theorem ws_68 : Cond.selects yX11_bestOf.cls yX11_bestOf yX11_bestOf ∈ aT := aT_s (q := (yX11_bestOf, 51)) (ts_5 mq_4)
theorem ws_69 : Cond.selects yX11_findScores.cls yX11_findScores yX11_findScores ∈ aT := aT_s (q := (yX11_findScores, 51)) (ts_5 mq_5)
theorem ws_7 : Cond.selects yX5_readLine.cls yX5_readLine yX5_readLine ∈ aT := aT_s (q := (yX5_readLine, 8)) (ts_1 mq_7)
theorem ws_70 : Cond.selects yX11_against.cls yX11_against yX11_against ∈ aT := aT_s (q := (yX11_against, 51)) (ts_5 mq_6)
theorem ws_71 : Cond.selects yX11_placeOf.cls yX11_placeOf yX11_placeOf ∈ aT := aT_s (q := (yX11_placeOf, 51)) (ts_5 mq_7)
theorem ws_72 : Cond.selects yX11_isPeak.cls yX11_isPeak yX11_isPeak ∈ aT := aT_s (q := (yX11_isPeak, 51)) (ts_5 mq_8)
theorem ws_73 : Cond.selects yX11_sumOf.cls yX11_sumOf yX11_sumOf ∈ aT := aT_s (q := (yX11_sumOf, 51)) (ts_5 mq_9)
theorem ws_74 : Cond.selects yX11_chanceOf.cls yX11_chanceOf yX11_chanceOf ∈ aT := aT_s (q := (yX11_chanceOf, 51)) (ts_5 mq_10)
theorem ws_75 : Cond.selects yX11_beginChances.cls yX11_beginChances yX11_beginChances ∈ aT := aT_s (q := (yX11_beginChances, 51)) (ts_5 mq_11)
theorem ws_76 : Cond.selects yX11_draw.cls yX11_draw yX11_draw ∈ aT := aT_s (q := (yX11_draw, 51)) (ts_5 mq_12)
theorem ws_77 : Cond.selects yX11_nearOf.cls yX11_nearOf yX11_nearOf ∈ aT := aT_s (q := (yX11_nearOf, 51)) (ts_5 mq_13)
theorem ws_78 : Cond.selects yX11_chancesFrom.cls yX11_chancesFrom yX11_chancesFrom ∈ aT := aT_s (q := (yX11_chancesFrom, 51)) (ts_5 mq_14)
theorem ws_79 : Cond.selects yX11_findProof.cls yX11_findProof yX11_findProof ∈ aT := aT_s (q := (yX11_findProof, 51)) (ts_5 mq_15)
theorem ws_8 : Cond.selects yX5_wordIn.cls yX5_wordIn yX5_wordIn ∈ aT := aT_s (q := (yX5_wordIn, 8)) (ts_1 mq_8)
theorem ws_80 : Cond.selects yX11_isOfSet.cls yX11_isOfSet yX11_isOfSet ∈ aT := aT_s (q := (yX11_isOfSet, 51)) (ts_6 mq_0)
theorem ws_81 : Cond.selects yX11_keepChosen.cls yX11_keepChosen yX11_keepChosen ∈ aT := aT_s (q := (yX11_keepChosen, 51)) (ts_6 mq_1)
theorem ws_82 : Cond.selects yX11_bestOfTown.cls yX11_bestOfTown yX11_bestOfTown ∈ aT := aT_s (q := (yX11_bestOfTown, 51)) (ts_6 mq_2)
theorem ws_83 : Cond.selects yX11_areTwins.cls yX11_areTwins yX11_areTwins ∈ aT := aT_s (q := (yX11_areTwins, 51)) (ts_6 mq_3)
theorem ws_84 : Cond.selects yX11_worthOf.cls yX11_worthOf yX11_worthOf ∈ aT := aT_s (q := (yX11_worthOf, 51)) (ts_6 mq_4)
theorem ws_85 : Cond.selects yX11_copy.cls yX11_copy yX11_copy ∈ aT := aT_s (q := (yX11_copy, 51)) (ts_6 mq_5)
theorem ws_9 : Cond.selects yX5_readTests.cls yX5_readTests yX5_readTests ∈ aT := aT_s (q := (yX5_readTests, 8)) (ts_1 mq_9)
theorem kl_kX0_0 : u_lay RX0 TX0 0 ∈ aT := aT_m (tm_1_3 mq_11) gw_laysFinal
theorem kl_kX0_1 : u_lay RX0 TX0 1 ∈ aT := aT_m (tm_1_3 mq_13) gw_laysFinal
theorem kl_kX0_2 : u_lay RX0 TX0 2 ∈ aT := aT_m (tm_1_3 mq_15) gw_laysFinal
theorem kl_kX0_3 : u_lay RX0 TX0 3 ∈ aT := aT_m (tm_1_4 mq_1) gw_laysFinal
theorem kl_kX0_4 : u_lay RX0 TX0 4 ∈ aT := aT_m (tm_1_4 mq_3) gw_laysFinal
theorem kl_kX0_5 : u_lay RX0 TX0 5 ∈ aT := aT_m (tm_1_4 mq_5) gw_laysFinal
theorem kl_kX0_6 : u_lay RX0 TX0 6 ∈ aT := aT_m (tm_1_4 mq_7) gw_laysFinal
theorem kl_kX0_7 : u_lay RX0 TX0 7 ∈ aT := aT_m (tm_1_4 mq_9) gw_laysFinal
theorem kl_kX0_8 : u_lay RX0 TX0 8 ∈ aT := aT_m (tm_1_4 mq_11) gw_lays
theorem kl_kX0_9 : u_lay RX0 TX0 9 ∈ aT := aT_m (tm_1_4 mq_13) gw_lays
theorem kl_kX0_10 : u_lay RX0 TX0 10 ∈ aT := aT_m (tm_1_4 mq_15) gw_lays
theorem kl_kX0_11 : u_lay RX0 TX0 11 ∈ aT := aT_m (tm_1_5 mq_1) gw_lays
theorem kl_kX0_12 : u_lay RX0 TX0 12 ∈ aT := aT_m (tm_1_5 mq_3) gw_lays
theorem kw_kX0 : ∀ w ∈ u_ws RX0 TX0 13, w ∈ aT := by
  show ∀ w ∈ [u_lay RX0 TX0 0, u_lay RX0 TX0 1, u_lay RX0 TX0 2, u_lay RX0 TX0 3, u_lay RX0 TX0 4, u_lay RX0 TX0 5, u_lay RX0 TX0 6, u_lay RX0 TX0 7, u_lay RX0 TX0 8, u_lay RX0 TX0 9, u_lay RX0 TX0 10, u_lay RX0 TX0 11, u_lay RX0 TX0 12], w ∈ aT
  exact List.forall_mem_cons.mpr ⟨kl_kX0_0, List.forall_mem_cons.mpr ⟨kl_kX0_1, List.forall_mem_cons.mpr ⟨kl_kX0_2, List.forall_mem_cons.mpr ⟨kl_kX0_3, List.forall_mem_cons.mpr ⟨kl_kX0_4, List.forall_mem_cons.mpr ⟨kl_kX0_5, List.forall_mem_cons.mpr ⟨kl_kX0_6, List.forall_mem_cons.mpr ⟨kl_kX0_7, List.forall_mem_cons.mpr ⟨kl_kX0_8, List.forall_mem_cons.mpr ⟨kl_kX0_9, List.forall_mem_cons.mpr ⟨kl_kX0_10, List.forall_mem_cons.mpr ⟨kl_kX0_11, List.forall_mem_cons.mpr ⟨kl_kX0_12, List.forall_mem_nil _⟩⟩⟩⟩⟩⟩⟩⟩⟩⟩⟩⟩⟩
theorem kX0 : aCl 0 RX0 TX0 13 tyX0 := ⟨rfl, kw_kX0, tyX0_ok, nmX0⟩
theorem kl_kX1_0 : u_lay RX1 TX1 0 ∈ aT := aT_m (tm_1_9 mq_7) gw_lays
theorem kl_kX1_1 : u_lay RX1 TX1 1 ∈ aT := aT_m (tm_1_9 mq_9) gw_lays
theorem kl_kX1_2 : u_lay RX1 TX1 2 ∈ aT := aT_m (tm_1_9 mq_11) gw_lays
theorem kl_kX1_3 : u_lay RX1 TX1 3 ∈ aT := aT_m (tm_1_9 mq_13) gw_lays
theorem kl_kX1_4 : u_lay RX1 TX1 4 ∈ aT := aT_m (tm_1_9 mq_15) gw_lays
theorem kw_kX1 : ∀ w ∈ u_ws RX1 TX1 5, w ∈ aT := by
  show ∀ w ∈ [u_lay RX1 TX1 0, u_lay RX1 TX1 1, u_lay RX1 TX1 2, u_lay RX1 TX1 3, u_lay RX1 TX1 4], w ∈ aT
  exact List.forall_mem_cons.mpr ⟨kl_kX1_0, List.forall_mem_cons.mpr ⟨kl_kX1_1, List.forall_mem_cons.mpr ⟨kl_kX1_2, List.forall_mem_cons.mpr ⟨kl_kX1_3, List.forall_mem_cons.mpr ⟨kl_kX1_4, List.forall_mem_nil _⟩⟩⟩⟩⟩
theorem kX1 : aCl 1 RX1 TX1 5 tyX1 := ⟨rfl, kw_kX1, tyX1_ok, nmX1⟩
theorem kl_kX10_0 : u_lay RX10 TX10 0 ∈ aT := aT_m (tm_2_4 mq_8) gw_laysFinal
theorem kl_kX10_1 : u_lay RX10 TX10 1 ∈ aT := aT_m (tm_2_4 mq_10) gw_laysFinal
theorem kl_kX10_2 : u_lay RX10 TX10 2 ∈ aT := aT_m (tm_2_4 mq_12) gw_laysFinal
theorem kl_kX10_3 : u_lay RX10 TX10 3 ∈ aT := aT_m (tm_2_4 mq_14) gw_laysFinal
theorem kl_kX10_4 : u_lay RX10 TX10 4 ∈ aT := aT_m (tm_2_5 mq_0) gw_laysFinal
theorem kl_kX10_5 : u_lay RX10 TX10 5 ∈ aT := aT_m (tm_2_5 mq_2) gw_laysFinal
theorem kl_kX10_6 : u_lay RX10 TX10 6 ∈ aT := aT_m (tm_2_5 mq_4) gw_laysFinal
theorem kw_kX10 : ∀ w ∈ u_ws RX10 TX10 7, w ∈ aT := by
  show ∀ w ∈ [u_lay RX10 TX10 0, u_lay RX10 TX10 1, u_lay RX10 TX10 2, u_lay RX10 TX10 3, u_lay RX10 TX10 4, u_lay RX10 TX10 5, u_lay RX10 TX10 6], w ∈ aT
  exact List.forall_mem_cons.mpr ⟨kl_kX10_0, List.forall_mem_cons.mpr ⟨kl_kX10_1, List.forall_mem_cons.mpr ⟨kl_kX10_2, List.forall_mem_cons.mpr ⟨kl_kX10_3, List.forall_mem_cons.mpr ⟨kl_kX10_4, List.forall_mem_cons.mpr ⟨kl_kX10_5, List.forall_mem_cons.mpr ⟨kl_kX10_6, List.forall_mem_nil _⟩⟩⟩⟩⟩⟩⟩
theorem kX10 : aCl 9 RX10 TX10 7 tyX10 := ⟨rfl, kw_kX10, tyX10_ok, nmX10⟩
theorem kl_kX11_0 : u_lay RX11 TX11 0 ∈ aT := aT_m (tm_5_5 mq_14) gw_lays
theorem kl_kX11_1 : u_lay RX11 TX11 1 ∈ aT := aT_m (tm_5_6 mq_0) gw_laysFinal
theorem kl_kX11_2 : u_lay RX11 TX11 2 ∈ aT := aT_m (tm_5_6 mq_2) gw_laysFinal
theorem kl_kX11_3 : u_lay RX11 TX11 3 ∈ aT := aT_m (tm_5_6 mq_4) gw_laysFinal
theorem kl_kX11_4 : u_lay RX11 TX11 4 ∈ aT := aT_m (tm_5_6 mq_6) gw_laysFinal
theorem kl_kX11_5 : u_lay RX11 TX11 5 ∈ aT := aT_m (tm_5_6 mq_8) gw_laysFinal
theorem kl_kX11_6 : u_lay RX11 TX11 6 ∈ aT := aT_m (tm_5_6 mq_10) gw_laysFinal
theorem kl_kX11_7 : u_lay RX11 TX11 7 ∈ aT := aT_m (tm_5_6 mq_12) gw_laysFinal
theorem kl_kX11_8 : u_lay RX11 TX11 8 ∈ aT := aT_m (tm_5_6 mq_14) gw_laysFinal
theorem kl_kX11_9 : u_lay RX11 TX11 9 ∈ aT := aT_m (tm_5_7 mq_0) gw_laysFinal
theorem kl_kX11_10 : u_lay RX11 TX11 10 ∈ aT := aT_m (tm_5_7 mq_2) gw_laysFinal
theorem kl_kX11_11 : u_lay RX11 TX11 11 ∈ aT := aT_m (tm_5_7 mq_4) gw_laysFinal
theorem kl_kX11_12 : u_lay RX11 TX11 12 ∈ aT := aT_m (tm_5_7 mq_6) gw_laysFinal
theorem kl_kX11_13 : u_lay RX11 TX11 13 ∈ aT := aT_m (tm_5_7 mq_8) gw_laysFinal
theorem kl_kX11_14 : u_lay RX11 TX11 14 ∈ aT := aT_m (tm_5_7 mq_10) gw_laysFinal
theorem kl_kX11_15 : u_lay RX11 TX11 15 ∈ aT := aT_m (tm_5_7 mq_12) gw_laysFinal
theorem kl_kX11_16 : u_lay RX11 TX11 16 ∈ aT := aT_m (tm_5_7 mq_14) gw_laysFinal
theorem kl_kX11_17 : u_lay RX11 TX11 17 ∈ aT := aT_m (tm_5_8 mq_0) gw_laysFinal
theorem kl_kX11_18 : u_lay RX11 TX11 18 ∈ aT := aT_m (tm_5_8 mq_2) gw_laysFinal
theorem kl_kX11_19 : u_lay RX11 TX11 19 ∈ aT := aT_m (tm_5_8 mq_4) gw_laysFinal
theorem kl_kX11_20 : u_lay RX11 TX11 20 ∈ aT := aT_m (tm_5_8 mq_6) gw_laysFinal
theorem kl_kX11_21 : u_lay RX11 TX11 21 ∈ aT := aT_m (tm_5_8 mq_8) gw_laysFinal
theorem kl_kX11_22 : u_lay RX11 TX11 22 ∈ aT := aT_m (tm_5_8 mq_10) gw_laysFinal
theorem kl_kX11_23 : u_lay RX11 TX11 23 ∈ aT := aT_m (tm_5_8 mq_12) gw_lays
theorem kl_kX11_24 : u_lay RX11 TX11 24 ∈ aT := aT_m (tm_5_8 mq_14) gw_lays
theorem kl_kX11_25 : u_lay RX11 TX11 25 ∈ aT := aT_m (tm_5_9 mq_0) gw_lays
theorem kl_kX11_26 : u_lay RX11 TX11 26 ∈ aT := aT_m (tm_5_9 mq_2) gw_lays
theorem kl_kX11_27 : u_lay RX11 TX11 27 ∈ aT := aT_m (tm_5_9 mq_4) gw_lays
theorem kl_kX11_28 : u_lay RX11 TX11 28 ∈ aT := aT_m (tm_5_9 mq_6) gw_lays
theorem kl_kX11_29 : u_lay RX11 TX11 29 ∈ aT := aT_m (tm_5_9 mq_8) gw_lays
theorem kl_kX11_30 : u_lay RX11 TX11 30 ∈ aT := aT_m (tm_5_9 mq_10) gw_lays
theorem kl_kX11_31 : u_lay RX11 TX11 31 ∈ aT := aT_m (tm_5_9 mq_12) gw_lays
theorem kl_kX11_32 : u_lay RX11 TX11 32 ∈ aT := aT_m (tm_5_9 mq_14) gw_lays
theorem kl_kX11_33 : u_lay RX11 TX11 33 ∈ aT := aT_m (tm_5_10 mq_0) gw_laysFinal
theorem kl_kX11_34 : u_lay RX11 TX11 34 ∈ aT := aT_m (tm_5_10 mq_2) gw_laysFinal
theorem kl_kX11_35 : u_lay RX11 TX11 35 ∈ aT := aT_m (tm_5_10 mq_4) gw_laysFinal
theorem kl_kX11_36 : u_lay RX11 TX11 36 ∈ aT := aT_m (tm_5_10 mq_6) gw_laysFinal
theorem kl_kX11_37 : u_lay RX11 TX11 37 ∈ aT := aT_m (tm_5_10 mq_8) gw_laysFinal
theorem kl_kX11_38 : u_lay RX11 TX11 38 ∈ aT := aT_m (tm_5_10 mq_10) gw_laysFinal
theorem kl_kX11_39 : u_lay RX11 TX11 39 ∈ aT := aT_m (tm_5_10 mq_12) gw_laysFinal
theorem kl_kX11_40 : u_lay RX11 TX11 40 ∈ aT := aT_m (tm_5_10 mq_14) gw_laysFinal
theorem kl_kX11_41 : u_lay RX11 TX11 41 ∈ aT := aT_m (tm_5_11 mq_0) gw_lays
theorem kl_kX11_42 : u_lay RX11 TX11 42 ∈ aT := aT_m (tm_5_11 mq_2) gw_laysFinal
theorem kl_kX11_43 : u_lay RX11 TX11 43 ∈ aT := aT_m (tm_5_11 mq_4) gw_laysFinal
theorem kl_kX11_44 : u_lay RX11 TX11 44 ∈ aT := aT_m (tm_5_11 mq_6) gw_laysFinal
theorem kl_kX11_45 : u_lay RX11 TX11 45 ∈ aT := aT_m (tm_5_11 mq_8) gw_laysFinal
theorem kl_kX11_46 : u_lay RX11 TX11 46 ∈ aT := aT_m (tm_5_11 mq_10) gw_laysFinal
theorem kl_kX11_47 : u_lay RX11 TX11 47 ∈ aT := aT_m (tm_5_11 mq_12) gw_laysFinal
theorem kl_kX11_48 : u_lay RX11 TX11 48 ∈ aT := aT_m (tm_5_11 mq_14) gw_laysFinal
theorem kl_kX11_49 : u_lay RX11 TX11 49 ∈ aT := aT_m (tm_5_12 mq_0) gw_laysFinal
theorem kl_kX11_50 : u_lay RX11 TX11 50 ∈ aT := aT_m (tm_5_12 mq_2) gw_laysFinal
theorem kw_kX11 : ∀ w ∈ u_ws RX11 TX11 51, w ∈ aT := by
  show ∀ w ∈ [u_lay RX11 TX11 0, u_lay RX11 TX11 1, u_lay RX11 TX11 2, u_lay RX11 TX11 3, u_lay RX11 TX11 4, u_lay RX11 TX11 5, u_lay RX11 TX11 6, u_lay RX11 TX11 7, u_lay RX11 TX11 8, u_lay RX11 TX11 9, u_lay RX11 TX11 10, u_lay RX11 TX11 11, u_lay RX11 TX11 12, u_lay RX11 TX11 13, u_lay RX11 TX11 14, u_lay RX11 TX11 15, u_lay RX11 TX11 16, u_lay RX11 TX11 17, u_lay RX11 TX11 18, u_lay RX11 TX11 19, u_lay RX11 TX11 20, u_lay RX11 TX11 21, u_lay RX11 TX11 22, u_lay RX11 TX11 23, u_lay RX11 TX11 24, u_lay RX11 TX11 25, u_lay RX11 TX11 26, u_lay RX11 TX11 27, u_lay RX11 TX11 28, u_lay RX11 TX11 29, u_lay RX11 TX11 30, u_lay RX11 TX11 31, u_lay RX11 TX11 32, u_lay RX11 TX11 33, u_lay RX11 TX11 34, u_lay RX11 TX11 35, u_lay RX11 TX11 36, u_lay RX11 TX11 37, u_lay RX11 TX11 38, u_lay RX11 TX11 39, u_lay RX11 TX11 40, u_lay RX11 TX11 41, u_lay RX11 TX11 42, u_lay RX11 TX11 43, u_lay RX11 TX11 44, u_lay RX11 TX11 45, u_lay RX11 TX11 46, u_lay RX11 TX11 47, u_lay RX11 TX11 48, u_lay RX11 TX11 49, u_lay RX11 TX11 50], w ∈ aT
  exact List.forall_mem_cons.mpr ⟨kl_kX11_0, List.forall_mem_cons.mpr ⟨kl_kX11_1, List.forall_mem_cons.mpr ⟨kl_kX11_2, List.forall_mem_cons.mpr ⟨kl_kX11_3, List.forall_mem_cons.mpr ⟨kl_kX11_4, List.forall_mem_cons.mpr ⟨kl_kX11_5, List.forall_mem_cons.mpr ⟨kl_kX11_6, List.forall_mem_cons.mpr ⟨kl_kX11_7, List.forall_mem_cons.mpr ⟨kl_kX11_8, List.forall_mem_cons.mpr ⟨kl_kX11_9, List.forall_mem_cons.mpr ⟨kl_kX11_10, List.forall_mem_cons.mpr ⟨kl_kX11_11, List.forall_mem_cons.mpr ⟨kl_kX11_12, List.forall_mem_cons.mpr ⟨kl_kX11_13, List.forall_mem_cons.mpr ⟨kl_kX11_14, List.forall_mem_cons.mpr ⟨kl_kX11_15, List.forall_mem_cons.mpr ⟨kl_kX11_16, List.forall_mem_cons.mpr ⟨kl_kX11_17, List.forall_mem_cons.mpr ⟨kl_kX11_18, List.forall_mem_cons.mpr ⟨kl_kX11_19, List.forall_mem_cons.mpr ⟨kl_kX11_20, List.forall_mem_cons.mpr ⟨kl_kX11_21, List.forall_mem_cons.mpr ⟨kl_kX11_22, List.forall_mem_cons.mpr ⟨kl_kX11_23, List.forall_mem_cons.mpr ⟨kl_kX11_24, List.forall_mem_cons.mpr ⟨kl_kX11_25, List.forall_mem_cons.mpr ⟨kl_kX11_26, List.forall_mem_cons.mpr ⟨kl_kX11_27, List.forall_mem_cons.mpr ⟨kl_kX11_28, List.forall_mem_cons.mpr ⟨kl_kX11_29, List.forall_mem_cons.mpr ⟨kl_kX11_30, List.forall_mem_cons.mpr ⟨kl_kX11_31, List.forall_mem_cons.mpr ⟨kl_kX11_32, List.forall_mem_cons.mpr ⟨kl_kX11_33, List.forall_mem_cons.mpr ⟨kl_kX11_34, List.forall_mem_cons.mpr ⟨kl_kX11_35, List.forall_mem_cons.mpr ⟨kl_kX11_36, List.forall_mem_cons.mpr ⟨kl_kX11_37, List.forall_mem_cons.mpr ⟨kl_kX11_38, List.forall_mem_cons.mpr ⟨kl_kX11_39, List.forall_mem_cons.mpr ⟨kl_kX11_40, List.forall_mem_cons.mpr ⟨kl_kX11_41, List.forall_mem_cons.mpr ⟨kl_kX11_42, List.forall_mem_cons.mpr ⟨kl_kX11_43, List.forall_mem_cons.mpr ⟨kl_kX11_44, List.forall_mem_cons.mpr ⟨kl_kX11_45, List.forall_mem_cons.mpr ⟨kl_kX11_46, List.forall_mem_cons.mpr ⟨kl_kX11_47, List.forall_mem_cons.mpr ⟨kl_kX11_48, List.forall_mem_cons.mpr ⟨kl_kX11_49, List.forall_mem_cons.mpr ⟨kl_kX11_50, List.forall_mem_nil _⟩⟩⟩⟩⟩⟩⟩⟩⟩⟩⟩⟩⟩⟩⟩⟩⟩⟩⟩⟩⟩⟩⟩⟩⟩⟩⟩⟩⟩⟩⟩⟩⟩⟩⟩⟩⟩⟩⟩⟩⟩⟩⟩⟩⟩⟩⟩⟩⟩⟩⟩
theorem kX11 : aCl 10 RX11 TX11 51 tyX11 := ⟨rfl, kw_kX11, tyX11_ok, nmX11⟩
theorem kl_kX3_0 : u_lay RX3 TX3 0 ∈ aT := aT_m (tm_2_3 mq_13) gw_laysFinal
theorem kw_kX3 : ∀ w ∈ u_ws RX3 TX3 1, w ∈ aT := by
  show ∀ w ∈ [u_lay RX3 TX3 0], w ∈ aT
  exact List.forall_mem_cons.mpr ⟨kl_kX3_0, List.forall_mem_nil _⟩
theorem kX3 : aCl 2 RX3 TX3 1 tyX3 := ⟨rfl, kw_kX3, tyX3_ok, nmX3⟩
theorem kl_kX4_0 : u_lay RX4 TX4 0 ∈ aT := aT_m (tm_2_0 mq_11) gw_lays
theorem kl_kX4_1 : u_lay RX4 TX4 1 ∈ aT := aT_m (tm_2_0 mq_13) gw_laysFinal
theorem kl_kX4_2 : u_lay RX4 TX4 2 ∈ aT := aT_m (tm_2_0 mq_15) gw_laysFinal
theorem kl_kX4_3 : u_lay RX4 TX4 3 ∈ aT := aT_m (tm_2_1 mq_1) gw_laysFinal
theorem kl_kX4_4 : u_lay RX4 TX4 4 ∈ aT := aT_m (tm_2_1 mq_3) gw_laysFinal
theorem kl_kX4_5 : u_lay RX4 TX4 5 ∈ aT := aT_m (tm_2_1 mq_5) gw_laysFinal
theorem kl_kX4_6 : u_lay RX4 TX4 6 ∈ aT := aT_m (tm_2_1 mq_7) gw_laysFinal
theorem kw_kX4 : ∀ w ∈ u_ws RX4 TX4 7, w ∈ aT := by
  show ∀ w ∈ [u_lay RX4 TX4 0, u_lay RX4 TX4 1, u_lay RX4 TX4 2, u_lay RX4 TX4 3, u_lay RX4 TX4 4, u_lay RX4 TX4 5, u_lay RX4 TX4 6], w ∈ aT
  exact List.forall_mem_cons.mpr ⟨kl_kX4_0, List.forall_mem_cons.mpr ⟨kl_kX4_1, List.forall_mem_cons.mpr ⟨kl_kX4_2, List.forall_mem_cons.mpr ⟨kl_kX4_3, List.forall_mem_cons.mpr ⟨kl_kX4_4, List.forall_mem_cons.mpr ⟨kl_kX4_5, List.forall_mem_cons.mpr ⟨kl_kX4_6, List.forall_mem_nil _⟩⟩⟩⟩⟩⟩⟩
theorem kX4 : aCl 3 RX4 TX4 7 tyX4 := ⟨rfl, kw_kX4, tyX4_ok, nmX4⟩
theorem kl_kX5_0 : u_lay RX5 TX5 0 ∈ aT := aT_m (tm_1_13 mq_6) gw_laysFinal
theorem kl_kX5_1 : u_lay RX5 TX5 1 ∈ aT := aT_m (tm_1_13 mq_8) gw_lays
theorem kl_kX5_2 : u_lay RX5 TX5 2 ∈ aT := aT_m (tm_1_13 mq_10) gw_lays
theorem kl_kX5_3 : u_lay RX5 TX5 3 ∈ aT := aT_m (tm_1_13 mq_12) gw_laysFinal
theorem kl_kX5_4 : u_lay RX5 TX5 4 ∈ aT := aT_m (tm_1_13 mq_14) gw_lays
theorem kl_kX5_5 : u_lay RX5 TX5 5 ∈ aT := aT_m (tm_1_14 mq_0) gw_lays
theorem kl_kX5_6 : u_lay RX5 TX5 6 ∈ aT := aT_m (tm_1_14 mq_2) gw_lays
theorem kl_kX5_7 : u_lay RX5 TX5 7 ∈ aT := aT_m (tm_1_14 mq_4) gw_lays
theorem kw_kX5 : ∀ w ∈ u_ws RX5 TX5 8, w ∈ aT := by
  show ∀ w ∈ [u_lay RX5 TX5 0, u_lay RX5 TX5 1, u_lay RX5 TX5 2, u_lay RX5 TX5 3, u_lay RX5 TX5 4, u_lay RX5 TX5 5, u_lay RX5 TX5 6, u_lay RX5 TX5 7], w ∈ aT
  exact List.forall_mem_cons.mpr ⟨kl_kX5_0, List.forall_mem_cons.mpr ⟨kl_kX5_1, List.forall_mem_cons.mpr ⟨kl_kX5_2, List.forall_mem_cons.mpr ⟨kl_kX5_3, List.forall_mem_cons.mpr ⟨kl_kX5_4, List.forall_mem_cons.mpr ⟨kl_kX5_5, List.forall_mem_cons.mpr ⟨kl_kX5_6, List.forall_mem_cons.mpr ⟨kl_kX5_7, List.forall_mem_nil _⟩⟩⟩⟩⟩⟩⟩⟩
theorem kX5 : aCl 4 RX5 TX5 8 tyX5 := ⟨rfl, kw_kX5, tyX5_ok, nmX5⟩
theorem kl_kX6_0 : u_lay RX6 TX6 0 ∈ aT := aT_m (tm_1_7 mq_8) gw_lays
theorem kl_kX6_1 : u_lay RX6 TX6 1 ∈ aT := aT_m (tm_1_7 mq_10) gw_laysFinal
theorem kl_kX6_2 : u_lay RX6 TX6 2 ∈ aT := aT_m (tm_1_7 mq_12) gw_laysFinal
theorem kl_kX6_3 : u_lay RX6 TX6 3 ∈ aT := aT_m (tm_1_7 mq_14) gw_laysFinal
theorem kl_kX6_4 : u_lay RX6 TX6 4 ∈ aT := aT_m (tm_1_8 mq_0) gw_laysFinal
theorem kl_kX6_5 : u_lay RX6 TX6 5 ∈ aT := aT_m (tm_1_8 mq_2) gw_laysFinal
theorem kl_kX6_6 : u_lay RX6 TX6 6 ∈ aT := aT_m (tm_1_8 mq_4) gw_laysFinal
theorem kl_kX6_7 : u_lay RX6 TX6 7 ∈ aT := aT_m (tm_1_8 mq_6) gw_laysFinal
theorem kl_kX6_8 : u_lay RX6 TX6 8 ∈ aT := aT_m (tm_1_8 mq_8) gw_laysFinal
theorem kw_kX6 : ∀ w ∈ u_ws RX6 TX6 9, w ∈ aT := by
  show ∀ w ∈ [u_lay RX6 TX6 0, u_lay RX6 TX6 1, u_lay RX6 TX6 2, u_lay RX6 TX6 3, u_lay RX6 TX6 4, u_lay RX6 TX6 5, u_lay RX6 TX6 6, u_lay RX6 TX6 7, u_lay RX6 TX6 8], w ∈ aT
  exact List.forall_mem_cons.mpr ⟨kl_kX6_0, List.forall_mem_cons.mpr ⟨kl_kX6_1, List.forall_mem_cons.mpr ⟨kl_kX6_2, List.forall_mem_cons.mpr ⟨kl_kX6_3, List.forall_mem_cons.mpr ⟨kl_kX6_4, List.forall_mem_cons.mpr ⟨kl_kX6_5, List.forall_mem_cons.mpr ⟨kl_kX6_6, List.forall_mem_cons.mpr ⟨kl_kX6_7, List.forall_mem_cons.mpr ⟨kl_kX6_8, List.forall_mem_nil _⟩⟩⟩⟩⟩⟩⟩⟩⟩
theorem kX6 : aCl 5 RX6 TX6 9 tyX6 := ⟨rfl, kw_kX6, tyX6_ok, nmX6⟩
theorem kl_kX7_0 : u_lay RX7 TX7 0 ∈ aT := aT_m (tm_2_2 mq_7) gw_lays
theorem kl_kX7_1 : u_lay RX7 TX7 1 ∈ aT := aT_m (tm_2_2 mq_9) gw_lays
theorem kl_kX7_2 : u_lay RX7 TX7 2 ∈ aT := aT_m (tm_2_2 mq_11) gw_laysFinal
theorem kl_kX7_3 : u_lay RX7 TX7 3 ∈ aT := aT_m (tm_2_2 mq_13) gw_laysFinal
theorem kl_kX7_4 : u_lay RX7 TX7 4 ∈ aT := aT_m (tm_2_2 mq_15) gw_laysFinal
theorem kl_kX7_5 : u_lay RX7 TX7 5 ∈ aT := aT_m (tm_2_3 mq_1) gw_lays
theorem kl_kX7_6 : u_lay RX7 TX7 6 ∈ aT := aT_m (tm_2_3 mq_3) gw_laysFinal
theorem kw_kX7 : ∀ w ∈ u_ws RX7 TX7 7, w ∈ aT := by
  show ∀ w ∈ [u_lay RX7 TX7 0, u_lay RX7 TX7 1, u_lay RX7 TX7 2, u_lay RX7 TX7 3, u_lay RX7 TX7 4, u_lay RX7 TX7 5, u_lay RX7 TX7 6], w ∈ aT
  exact List.forall_mem_cons.mpr ⟨kl_kX7_0, List.forall_mem_cons.mpr ⟨kl_kX7_1, List.forall_mem_cons.mpr ⟨kl_kX7_2, List.forall_mem_cons.mpr ⟨kl_kX7_3, List.forall_mem_cons.mpr ⟨kl_kX7_4, List.forall_mem_cons.mpr ⟨kl_kX7_5, List.forall_mem_cons.mpr ⟨kl_kX7_6, List.forall_mem_nil _⟩⟩⟩⟩⟩⟩⟩
theorem kX7 : aCl 6 RX7 TX7 7 tyX7 := ⟨rfl, kw_kX7, tyX7_ok, nmX7⟩
theorem kl_kX8_0 : u_lay RX8 TX8 0 ∈ aT := aT_m (tm_1_11 mq_3) gw_laysFinal
theorem kl_kX8_1 : u_lay RX8 TX8 1 ∈ aT := aT_m (tm_1_11 mq_5) gw_laysFinal
theorem kl_kX8_2 : u_lay RX8 TX8 2 ∈ aT := aT_m (tm_1_11 mq_7) gw_laysFinal
theorem kl_kX8_3 : u_lay RX8 TX8 3 ∈ aT := aT_m (tm_1_11 mq_9) gw_laysFinal
theorem kl_kX8_4 : u_lay RX8 TX8 4 ∈ aT := aT_m (tm_1_11 mq_11) gw_laysFinal
theorem kl_kX8_5 : u_lay RX8 TX8 5 ∈ aT := aT_m (tm_1_11 mq_13) gw_lays
theorem kl_kX8_6 : u_lay RX8 TX8 6 ∈ aT := aT_m (tm_1_11 mq_15) gw_lays
theorem kw_kX8 : ∀ w ∈ u_ws RX8 TX8 7, w ∈ aT := by
  show ∀ w ∈ [u_lay RX8 TX8 0, u_lay RX8 TX8 1, u_lay RX8 TX8 2, u_lay RX8 TX8 3, u_lay RX8 TX8 4, u_lay RX8 TX8 5, u_lay RX8 TX8 6], w ∈ aT
  exact List.forall_mem_cons.mpr ⟨kl_kX8_0, List.forall_mem_cons.mpr ⟨kl_kX8_1, List.forall_mem_cons.mpr ⟨kl_kX8_2, List.forall_mem_cons.mpr ⟨kl_kX8_3, List.forall_mem_cons.mpr ⟨kl_kX8_4, List.forall_mem_cons.mpr ⟨kl_kX8_5, List.forall_mem_cons.mpr ⟨kl_kX8_6, List.forall_mem_nil _⟩⟩⟩⟩⟩⟩⟩
theorem kX8 : aCl 7 RX8 TX8 7 tyX8 := ⟨rfl, kw_kX8, tyX8_ok, nmX8⟩
theorem kl_kX9_0 : u_lay RX9 TX9 0 ∈ aT := aT_m (tm_1_6 mq_0) gw_laysFinal
theorem kl_kX9_1 : u_lay RX9 TX9 1 ∈ aT := aT_m (tm_1_6 mq_2) gw_lays
theorem kw_kX9 : ∀ w ∈ u_ws RX9 TX9 2, w ∈ aT := by
  show ∀ w ∈ [u_lay RX9 TX9 0, u_lay RX9 TX9 1], w ∈ aT
  exact List.forall_mem_cons.mpr ⟨kl_kX9_0, List.forall_mem_cons.mpr ⟨kl_kX9_1, List.forall_mem_nil _⟩⟩
theorem kX9 : aCl 8 RX9 TX9 2 tyX9 := ⟨rfl, kw_kX9, tyX9_ok, nmX9⟩
theorem yc_J0_1059 : aYS RJ0 1059 yJ3_checkIndex_8e157 cJ3_checkIndex_8e157 3 (some .int) 3 := ⟨w_497, w_498, w_14, w_499, yk_RJ3.1, yk_RJ3.2, yd_0⟩
theorem yc_J0_335 : aYV RJ0 335 yJ0_coder_7d493 cJ0_coder_7d493 1 (some .byte) 0 := ⟨w_475, w_476, w_477, w_12, w_478, yk_RJ0.1, yk_RJ0.2, yd_1⟩
theorem yc_J0_492 : aYV RJ0 492 yJ0_isLatin1_aae02 cJ0_isLatin1_aae02 1 (some .boolean) 0 := ⟨w_485, w_486, w_487, w_12, w_488, yk_RJ0.1, yk_RJ0.2, yd_2⟩
theorem yc_J0_495 : aYS RJ0 495 yJ1_charAt_3b067 cJ1_charAt_3b067 2 (some .char) 2 := ⟨w_489, w_490, w_13, w_491, yk_RJ1.1, yk_RJ1.2, yd_3⟩
theorem yc_J1_9 : aYS RJ1 9 yJ0_checkIndex_df160 cJ0_checkIndex_df160 2 none 2 := ⟨w_492, w_493, w_12, w_494, yk_RJ0.1, yk_RJ0.2, yd_4⟩
theorem yc_X0_52 : aYS RX0 52 yX0_inRange cX0_inRange 2 (some .boolean) 2 := ⟨w_335, w_336, w_3, w_337, yk_RX0.1, yk_RX0.2, yd_5⟩
theorem yc_X0_56 : aYV RX0 56 yX0_write cX0_write 5 none 3 := ⟨w_342, w_344, ws_0, w_3, w_345, yk_RX0.1, yk_RX0.2, yd_6⟩
theorem yc_X0_60 : aYV RX0 60 yX0_agrees cX0_agrees 5 (some .boolean) 3 := ⟨w_366, w_368, ws_4, w_3, w_369, yk_RX0.1, yk_RX0.2, yd_7⟩
theorem yc_X0_64 : aYV RX0 64 yX0_isSeen cX0_isSeen 2 (some .boolean) 1 := ⟨w_350, w_352, ws_2, w_3, w_353, yk_RX0.1, yk_RX0.2, yd_8⟩
theorem yc_X0_68 : aYV RX0 68 yX0_see cX0_see 2 none 1 := ⟨w_354, w_356, ws_3, w_3, w_357, yk_RX0.1, yk_RX0.2, yd_9⟩
theorem yc_X0_85 : aYV RX0 85 yX0_apply cX0_apply 7 none 2 := ⟨w_346, w_348, ws_1, w_3, w_349, yk_RX0.1, yk_RX0.2, yd_10⟩
theorem yc_X10_102 : aYV RX10 102 yX5_read cX5_read 3 (some .boolean) 1 := ⟨w_427, w_428, w_429, w_7, w_430, yk_RX5.1, yk_RX5.2, yd_11⟩
theorem yc_X10_124 : aYV RX10 124 yX6_copyFrom cX6_copyFrom 2 none 1 := ⟨w_569, w_570, w_571, w_5, w_572, yk_RX6.1, yk_RX6.2, yd_12⟩
theorem yc_X10_137 : aYV RX10 137 yX1_change cX1_change 6 (some .boolean) 5 := ⟨w_584, w_585, w_586, w_6, w_587, yk_RX1.1, yk_RX1.2, yd_13⟩
theorem yc_X10_143 : aYV RX10 143 yX4_takeAlone cX4_takeAlone 3 (some .boolean) 2 := ⟨w_592, w_593, w_594, w_8, w_595, yk_RX4.1, yk_RX4.2, yd_14⟩
theorem yc_X10_153 : aYV RX10 153 yX1_takes cX1_takes 3 (some .boolean) 2 := ⟨w_636, w_637, w_638, w_6, w_639, yk_RX1.1, yk_RX1.2, yd_15⟩
theorem yc_X10_157 : aYS RX10 157 yX10_isUnit cX10_isUnit 1 (some .boolean) 1 := ⟨w_649, w_650, w_1, w_651, yk_RX10.1, yk_RX10.2, yd_8⟩
theorem yc_X10_160 : aYV RX10 160 yX4_offOf cX4_offOf 3 (some .int) 2 := ⟨w_652, w_653, w_654, w_8, w_655, yk_RX4.1, yk_RX4.2, yd_16⟩
theorem yc_X10_163 : aYV RX10 163 yX4_isNear cX4_isNear 3 (some .boolean) 2 := ⟨w_666, w_667, w_668, w_8, w_669, yk_RX4.1, yk_RX4.2, yd_5⟩
theorem yc_X10_167 : aYV RX10 167 yX4_shortOf cX4_shortOf 3 (some .int) 2 := ⟨w_671, w_672, w_673, w_8, w_674, yk_RX4.1, yk_RX4.2, yd_16⟩
theorem yc_X10_170 : aYV RX10 170 yX4_timesOf cX4_timesOf 3 (some .int) 2 := ⟨w_678, w_679, w_680, w_8, w_681, yk_RX4.1, yk_RX4.2, yd_16⟩
theorem yc_X10_174 : aYV RX10 174 yX4_gather cX4_gather 5 (some .int) 3 := ⟨w_688, w_689, w_690, w_8, w_691, yk_RX4.1, yk_RX4.2, yd_17⟩
theorem yc_X10_178 : aYV RX10 178 yX4_scoreBy cX4_scoreBy 4 (some .int) 1 := ⟨w_696, w_697, w_698, w_8, w_699, yk_RX4.1, yk_RX4.2, yd_18⟩
theorem yc_X10_182 : aYS RX10 182 yX10_isRange cX10_isRange 3 (some .boolean) 3 := ⟨w_704, w_705, w_1, w_706, yk_RX10.1, yk_RX10.2, yd_7⟩
theorem yc_X10_185 : aYV RX10 185 yX10_bestAmong cX10_bestAmong 5 (some .int) 4 := ⟨w_707, w_709, ws_23, w_1, w_710, yk_RX10.1, yk_RX10.2, yd_19⟩
theorem yc_X10_189 : aYV RX10 189 yX7_scoreUnits cX7_scoreUnits 5 none 3 := ⟨w_711, w_712, w_713, w_9, w_714, yk_RX7.1, yk_RX7.2, yd_20⟩
theorem yc_X10_193 : aYV RX10 193 yX7_peakAt cX7_peakAt 3 (some .int) 1 := ⟨w_736, w_737, w_738, w_9, w_739, yk_RX7.1, yk_RX7.2, yd_18⟩
theorem yc_X10_196 : aYV RX10 196 yX7_bestPair cX7_bestPair 12 (some .int) 3 := ⟨w_760, w_761, w_762, w_9, w_763, yk_RX7.1, yk_RX7.2, yd_21⟩
theorem yc_X10_202 : aYV RX10 202 yX7_sumOfTwo cX7_sumOfTwo 7 (some .long) 3 := ⟨w_779, w_780, w_781, w_9, w_782, yk_RX7.1, yk_RX7.2, yd_22⟩
theorem yc_X10_206 : aYV RX10 206 yX4_nearBy cX4_nearBy 4 (some .int) 1 := ⟨w_787, w_788, w_789, w_8, w_790, yk_RX4.1, yk_RX4.2, yd_18⟩
theorem yc_X10_209 : aYV RX10 209 yX3_ofNear cX3_ofNear 5 (some .int) 3 := ⟨w_792, w_793, w_794, w_10, w_795, yk_RX3.1, yk_RX3.2, yd_21⟩
theorem yc_X10_212 : aYV RX10 212 yX10_weighEvidence cX10_weighEvidence 10 none 2 := ⟨w_821, w_823, ws_35, w_1, w_824, yk_RX10.1, yk_RX10.2, yd_4⟩
theorem yc_X10_216 : aYV RX10 216 yX6_holds cX6_holds 4 (some .boolean) 2 := ⟨w_857, w_610, w_611, w_5, w_612, yk_RX6.1, yk_RX6.2, yd_23⟩
theorem yc_X10_220 : aYV RX10 220 yX6_deedOf cX6_deedOf 2 (some .int) 1 := ⟨w_858, w_618, w_619, w_5, w_620, yk_RX6.1, yk_RX6.2, yd_18⟩
theorem yc_X10_226 : aYV RX10 226 yX4_doublesBy cX4_doublesBy 4 (some .int) 1 := ⟨w_863, w_864, w_865, w_8, w_866, yk_RX4.1, yk_RX4.2, yd_18⟩
theorem yc_X10_229 : aYV RX10 229 yX4_lacksBy cX4_lacksBy 5 (some .int) 1 := ⟨w_872, w_873, w_874, w_8, w_875, yk_RX4.1, yk_RX4.2, yd_18⟩
theorem yc_X10_232 : aYV RX10 232 yX4_greatestTimes cX4_greatestTimes 4 (some .int) 1 := ⟨w_881, w_877, w_878, w_8, w_879, yk_RX4.1, yk_RX4.2, yd_18⟩
theorem yc_X10_235 : aYS RX10 235 yX10_isTown cX10_isTown 1 (some .boolean) 1 := ⟨w_886, w_887, w_1, w_888, yk_RX10.1, yk_RX10.2, yd_8⟩
theorem yc_X10_238 : aYS RX10 238 yX10_simplestRate cX10_simplestRate 8 (some .int) 3 := ⟨w_889, w_890, w_1, w_891, yk_RX10.1, yk_RX10.2, yd_24⟩
theorem yc_X10_242 : aYV RX10 242 yX4_shortsBy cX4_shortsBy 4 (some .int) 1 := ⟨w_906, w_907, w_908, w_8, w_909, yk_RX4.1, yk_RX4.2, yd_18⟩
theorem yc_X10_245 : aYV RX10 245 yX3_ofShort cX3_ofShort 4 (some .int) 2 := ⟨w_911, w_912, w_913, w_10, w_914, yk_RX3.1, yk_RX3.2, yd_16⟩
theorem yc_X10_248 : aYV RX10 248 yX4_indexOf cX4_indexOf 3 (some .int) 1 := ⟨w_919, w_920, w_921, w_8, w_922, yk_RX4.1, yk_RX4.2, yd_18⟩
theorem yc_X10_251 : aYV RX10 251 yX4_leastOfHeap cX4_leastOfHeap 11 (some .int) 3 := ⟨w_927, w_928, w_929, w_8, w_930, yk_RX4.1, yk_RX4.2, yd_25⟩
theorem yc_X10_255 : aYV RX10 255 yX7_worthOf cX7_worthOf 5 (some .int) 2 := ⟨w_944, w_945, w_946, w_9, w_947, yk_RX7.1, yk_RX7.2, yd_26⟩
theorem yc_X10_259 : aYV RX10 259 yX4_numberOf cX4_numberOf 2 (some .int) 1 := ⟨w_961, w_924, w_925, w_8, w_926, yk_RX4.1, yk_RX4.2, yd_18⟩
theorem yc_X10_277 : aYV RX10 277 yX7_bestUnit cX7_bestUnit 3 (some .int) 0 := ⟨w_717, w_718, w_719, w_9, w_720, yk_RX7.1, yk_RX7.2, yd_27⟩
theorem yc_X10_301 : aYV RX10 301 yX7_placeOf cX7_placeOf 2 (some .int) 1 := ⟨w_831, w_832, w_833, w_9, w_834, yk_RX7.1, yk_RX7.2, yd_18⟩
theorem yc_X10_304 : aYV RX10 304 yX4_townsNear cX4_townsNear 4 (some .int) 1 := ⟨w_835, w_836, w_837, w_8, w_838, yk_RX4.1, yk_RX4.2, yd_18⟩
theorem yc_X10_307 : aYV RX10 307 yX4_marksNear cX4_marksNear 4 (some .int) 1 := ⟨w_849, w_850, w_851, w_8, w_852, yk_RX4.1, yk_RX4.2, yd_18⟩
theorem yc_X10_62 : aYV RX10 62 yX0_list cX0_list 5 (some .int) 3 := ⟨w_331, w_332, w_333, w_3, w_334, yk_RX0.1, yk_RX0.2, yd_24⟩
theorem yc_X10_68 : aYV RX10 68 yX0_retell cX0_retell 4 (some .boolean) 3 := ⟨w_362, w_363, w_364, w_3, w_365, yk_RX0.1, yk_RX0.2, yd_7⟩
theorem yc_X10_72 : aYV RX10 72 yX0_turnTo cX0_turnTo 2 (some .boolean) 1 := ⟨w_374, w_375, w_376, w_3, w_377, yk_RX0.1, yk_RX0.2, yd_8⟩
theorem yc_X10_76 : aYV RX10 76 yX0_lookFrom cX0_lookFrom 3 (some .boolean) 1 := ⟨w_382, w_383, w_384, w_3, w_385, yk_RX0.1, yk_RX0.2, yd_8⟩
theorem yc_X10_79 : aYV RX10 79 yX0_known cX0_known 3 (some .int) 2 := ⟨w_390, w_391, w_392, w_3, w_393, yk_RX0.1, yk_RX0.2, yd_16⟩
theorem yc_X10_83 : aYV RX10 83 yX0_written cX0_written 3 (some .int) 2 := ⟨w_399, w_400, w_401, w_3, w_402, yk_RX0.1, yk_RX0.2, yd_16⟩
theorem yc_X10_86 : aYV RX10 86 yX9_hasRoom cX9_hasRoom 2 (some .boolean) 1 := ⟨w_407, w_408, w_409, w_4, w_410, yk_RX9.1, yk_RX9.2, yd_8⟩
theorem yc_X10_91 : aYV RX10 91 yX9_add cX9_add 3 none 1 := ⟨w_411, w_412, w_413, w_4, w_414, yk_RX9.1, yk_RX9.2, yd_9⟩
theorem yc_X10_99 : aYV RX10 99 yX9_cut cX9_cut 2 (some .boolean) 1 := ⟨w_419, w_420, w_421, w_4, w_422, yk_RX9.1, yk_RX9.2, yd_8⟩
theorem yc_X11_134 : aYS RX11 134 yX11_move cX11_move 5 none 4 := ⟨w_1513, w_1514, w_11, w_1515, yk_RX11.1, yk_RX11.2, yd_28⟩
theorem yc_X11_138 : aYS RX11 138 yX11_is cX11_is 3 (some .boolean) 3 := ⟨w_1161, w_1162, w_11, w_1163, yk_RX11.1, yk_RX11.2, yd_7⟩
theorem yc_X11_142 : aYV RX11 142 yX11_dayOfView cX11_dayOfView 1 (some .int) 0 := ⟨w_1196, w_1198, ws_44, w_11, w_1199, yk_RX11.1, yk_RX11.2, yd_27⟩
theorem yc_X11_146 : aYV RX11 146 yX11_enter cX11_enter 5 none 3 := ⟨w_1164, w_1166, ws_40, w_11, w_1167, yk_RX11.1, yk_RX11.2, yd_6⟩
theorem yc_X11_150 : aYV RX11 150 yX11_factOn cX11_factOn 8 (some .int) 3 := ⟨w_1176, w_1178, ws_42, w_11, w_1179, yk_RX11.1, yk_RX11.2, yd_24⟩
theorem yc_X11_154 : aYV RX11 154 yX11_canBe cX11_canBe 4 (some .boolean) 3 := ⟨w_1172, w_1174, ws_41, w_11, w_1175, yk_RX11.1, yk_RX11.2, yd_7⟩
theorem yc_X11_157 : aYV RX11 157 yX11_isStone cX11_isStone 2 (some .boolean) 1 := ⟨w_1192, w_1194, ws_43, w_11, w_1195, yk_RX11.1, yk_RX11.2, yd_8⟩
theorem yc_X11_162 : aYV RX11 162 yX11_four cX11_four 3 none 1 := ⟨w_1209, w_1211, ws_45, w_11, w_1212, yk_RX11.1, yk_RX11.2, yd_9⟩
theorem yc_X11_172 : aYV RX11 172 yX11_see cX11_see 1 (some .int) 0 := ⟨w_1225, w_1227, ws_47, w_11, w_1228, yk_RX11.1, yk_RX11.2, yd_27⟩
theorem yc_X11_197 : aYV RX11 197 yX11_isSign cX11_isSign 2 (some .boolean) 1 := ⟨w_1275, w_1277, ws_55, w_11, w_1278, yk_RX11.1, yk_RX11.2, yd_8⟩
theorem yc_X11_200 : aYV RX11 200 yX11_wrong cX11_wrong 1 (some .boolean) 0 := ⟨w_1266, w_1268, ws_53, w_11, w_1269, yk_RX11.1, yk_RX11.2, yd_2⟩
theorem yc_X11_204 : aYV RX11 204 yX11_next cX11_next 3 none 0 := ⟨w_1221, w_1223, ws_46, w_11, w_1224, yk_RX11.1, yk_RX11.2, yd_29⟩
theorem yc_X11_209 : aYV RX11 209 yX11_isWord cX11_isWord 3 (some .boolean) 1 := ⟨w_1238, w_1240, ws_50, w_11, w_1241, yk_RX11.1, yk_RX11.2, yd_30⟩
theorem yc_X11_255 : aYV RX11 255 yX11_later cX11_later 3 none 2 := ⟨w_1233, w_1235, ws_49, w_11, w_1236, yk_RX11.1, yk_RX11.2, yd_4⟩
theorem yc_X11_261 : aYV RX11 261 yX11_testWord cX11_testWord 2 (some .int) 1 := ⟨w_1247, w_1249, ws_52, w_11, w_1250, yk_RX11.1, yk_RX11.2, yd_31⟩
theorem yc_X11_272 : aYV RX11 272 yX11_test cX11_test 9 (some .boolean) 3 := ⟨w_1242, w_1244, ws_51, w_11, w_1245, yk_RX11.1, yk_RX11.2, yd_32⟩
theorem yc_X11_278 : aYV RX11 278 yX11_need cX11_need 2 (some .boolean) 1 := ⟨w_1271, w_1273, ws_54, w_11, w_1274, yk_RX11.1, yk_RX11.2, yd_8⟩
theorem yc_X11_281 : aYV RX11 281 yX11_actWord cX11_actWord 2 (some .int) 1 := ⟨w_1279, w_1281, ws_56, w_11, w_1282, yk_RX11.1, yk_RX11.2, yd_31⟩
theorem yc_X11_284 : aYV RX11 284 yX11_numbers cX11_numbers 2 (some .boolean) 1 := ⟨w_1290, w_1292, ws_57, w_11, w_1293, yk_RX11.1, yk_RX11.2, yd_8⟩
theorem yc_X11_287 : aYV RX11 287 yX11_oneLine cX11_oneLine 5 (some .boolean) 1 := ⟨w_1229, w_1231, ws_48, w_11, w_1232, yk_RX11.1, yk_RX11.2, yd_11⟩
theorem yc_X11_291 : aYV RX11 291 yX11_f cX11_f 3 (some .int) 2 := ⟨w_1315, w_1317, ws_60, w_11, w_1318, yk_RX11.1, yk_RX11.2, yd_16⟩
theorem yc_X11_295 : aYV RX11 295 yX11_holds cX11_holds 6 (some .boolean) 1 := ⟨w_1319, w_1321, ws_61, w_11, w_1322, yk_RX11.1, yk_RX11.2, yd_8⟩
theorem yc_X11_298 : aYS RX11 298 yX11_held cX11_held 1 (some .int) 1 := ⟨w_1323, w_1324, w_11, w_1325, yk_RX11.1, yk_RX11.2, yd_18⟩
theorem yc_X11_305 : aYV RX11 305 yX11_findSpan cX11_findSpan 8 none 1 := ⟨w_1311, w_1313, ws_59, w_11, w_1314, yk_RX11.1, yk_RX11.2, yd_9⟩
theorem yc_X11_308 : aYV RX11 308 yX11_isChosen cX11_isChosen 4 (some .boolean) 1 := ⟨w_1326, w_1328, ws_62, w_11, w_1329, yk_RX11.1, yk_RX11.2, yd_8⟩
theorem yc_X11_311 : aYV RX11 311 yX11_look cX11_look 5 none 0 := ⟨w_1307, w_1309, ws_58, w_11, w_1310, yk_RX11.1, yk_RX11.2, yd_29⟩
theorem yc_X11_314 : aYS RX11 314 yX11_isUnit cX11_isUnit 1 (some .boolean) 1 := ⟨w_1334, w_1335, w_11, w_1336, yk_RX11.1, yk_RX11.2, yd_8⟩
theorem yc_X11_317 : aYS RX11 317 yX11_far cX11_far 3 (some .int) 3 := ⟨w_1345, w_1346, w_11, w_1347, yk_RX11.1, yk_RX11.2, yd_24⟩
theorem yc_X11_320 : aYV RX11 320 yX11_timesOf cX11_timesOf 5 (some .int) 2 := ⟨w_1341, w_1343, ws_64, w_11, w_1344, yk_RX11.1, yk_RX11.2, yd_16⟩
theorem yc_X11_323 : aYV RX11 323 yX11_off cX11_off 4 (some .int) 2 := ⟨w_1337, w_1339, ws_63, w_11, w_1340, yk_RX11.1, yk_RX11.2, yd_16⟩
theorem yc_X11_326 : aYV RX11 326 yX11_shortOf cX11_shortOf 5 (some .int) 2 := ⟨w_1348, w_1350, ws_65, w_11, w_1351, yk_RX11.1, yk_RX11.2, yd_16⟩
theorem yc_X11_330 : aYV RX11 330 yX11_scoreOf cX11_scoreOf 4 (some .int) 1 := ⟨w_1357, w_1359, ws_66, w_11, w_1360, yk_RX11.1, yk_RX11.2, yd_18⟩
theorem yc_X11_333 : aYV RX11 333 yX11_findScores cX11_findScores 4 none 2 := ⟨w_1376, w_1378, ws_69, w_11, w_1379, yk_RX11.1, yk_RX11.2, yd_4⟩
theorem yc_X11_336 : aYV RX11 336 yX11_against cX11_against 4 (some .long) 3 := ⟨w_1380, w_1382, ws_70, w_11, w_1383, yk_RX11.1, yk_RX11.2, yd_33⟩
theorem yc_X11_340 : aYS RX11 340 yX11_areUnits cX11_areUnits 2 (some .boolean) 2 := ⟨w_1365, w_1366, w_11, w_1367, yk_RX11.1, yk_RX11.2, yd_5⟩
theorem yc_X11_344 : aYV RX11 344 yX11_those cX11_those 3 (some .int) 0 := ⟨w_1368, w_1370, ws_67, w_11, w_1371, yk_RX11.1, yk_RX11.2, yd_27⟩
theorem yc_X11_347 : aYV RX11 347 yX11_bestOf cX11_bestOf 5 (some .int) 2 := ⟨w_1372, w_1374, ws_68, w_11, w_1375, yk_RX11.1, yk_RX11.2, yd_16⟩
theorem yc_X11_350 : aYV RX11 350 yX11_isPeak cX11_isPeak 4 (some .boolean) 3 := ⟨w_1392, w_1394, ws_72, w_11, w_1395, yk_RX11.1, yk_RX11.2, yd_7⟩
theorem yc_X11_353 : aYV RX11 353 yX11_placeOf cX11_placeOf 8 (some .int) 3 := ⟨w_1388, w_1390, ws_71, w_11, w_1391, yk_RX11.1, yk_RX11.2, yd_24⟩
theorem yc_X11_356 : aYV RX11 356 yX11_sumOf cX11_sumOf 8 (some .long) 2 := ⟨w_1400, w_1402, ws_73, w_11, w_1403, yk_RX11.1, yk_RX11.2, yd_34⟩
theorem yc_X11_364 : aYV RX11 364 yX11_beginChances cX11_beginChances 2 none 0 := ⟨w_1417, w_1419, ws_75, w_11, w_1420, yk_RX11.1, yk_RX11.2, yd_29⟩
theorem yc_X11_367 : aYS RX11 367 yX11_likely cX11_likely 6 (some .int) 2 := ⟨w_1422, w_1423, w_11, w_1424, yk_RX11.1, yk_RX11.2, yd_16⟩
theorem yc_X11_370 : aYV RX11 370 yX11_draw cX11_draw 4 none 2 := ⟨w_1425, w_1427, ws_76, w_11, w_1428, yk_RX11.1, yk_RX11.2, yd_4⟩
theorem yc_X11_373 : aYV RX11 373 yX11_nearOf cX11_nearOf 4 (some .int) 1 := ⟨w_1429, w_1431, ws_77, w_11, w_1432, yk_RX11.1, yk_RX11.2, yd_18⟩
theorem yc_X11_376 : aYV RX11 376 yX11_chancesFrom cX11_chancesFrom 5 (some .long) 1 := ⟨w_1433, w_1435, ws_78, w_11, w_1436, yk_RX11.1, yk_RX11.2, yd_35⟩
theorem yc_X11_380 : aYV RX11 380 yX11_chanceOf cX11_chanceOf 3 (some .long) 1 := ⟨w_1413, w_1415, ws_74, w_11, w_1416, yk_RX11.1, yk_RX11.2, yd_35⟩
theorem yc_X11_387 : aYS RX11 387 yX11_thousands cX11_thousands 4 (some .int) 1 := ⟨w_1446, w_1447, w_11, w_1448, yk_RX11.1, yk_RX11.2, yd_36⟩
theorem yc_X11_391 : aYV RX11 391 yX11_findProof cX11_findProof 13 none 3 := ⟨w_1441, w_1443, ws_79, w_11, w_1444, yk_RX11.1, yk_RX11.2, yd_6⟩
theorem yc_X11_394 : aYV RX11 394 yX11_isOfSet cX11_isOfSet 3 (some .boolean) 2 := ⟨w_1454, w_1456, ws_80, w_11, w_1457, yk_RX11.1, yk_RX11.2, yd_5⟩
theorem yc_X11_397 : aYV RX11 397 yX11_keepChosen cX11_keepChosen 2 none 0 := ⟨w_1462, w_1464, ws_81, w_11, w_1465, yk_RX11.1, yk_RX11.2, yd_29⟩
theorem yc_X11_400 : aYV RX11 400 yX11_bestOfTown cX11_bestOfTown 5 (some .int) 3 := ⟨w_1466, w_1468, ws_82, w_11, w_1469, yk_RX11.1, yk_RX11.2, yd_24⟩
theorem yc_X11_403 : aYS RX11 403 yX11_gcd cX11_gcd 5 (some .int) 2 := ⟨w_1470, w_1471, w_11, w_1472, yk_RX11.1, yk_RX11.2, yd_16⟩
theorem yc_X11_406 : aYV RX11 406 yX11_areTwins cX11_areTwins 5 (some .boolean) 3 := ⟨w_1485, w_1487, ws_83, w_11, w_1488, yk_RX11.1, yk_RX11.2, yd_7⟩
theorem yc_X11_409 : aYV RX11 409 yX11_worthOf cX11_worthOf 8 (some .int) 3 := ⟨w_1493, w_1495, ws_84, w_11, w_1496, yk_RX11.1, yk_RX11.2, yd_24⟩
theorem yc_X11_412 : aYV RX11 412 yX11_copy cX11_copy 4 none 2 := ⟨w_1509, w_1511, ws_85, w_11, w_1512, yk_RX11.1, yk_RX11.2, yd_4⟩
theorem yc_X1_27 : aYV RX1 27 yX0_known cX0_known 3 (some .int) 2 := ⟨w_640, w_391, w_392, w_3, w_393, yk_RX0.1, yk_RX0.2, yd_16⟩
theorem yc_X1_33 : aYV RX1 33 yX1_takesMark cX1_takesMark 2 (some .boolean) 1 := ⟨w_641, w_643, ws_21, w_6, w_644, yk_RX1.1, yk_RX1.2, yd_8⟩
theorem yc_X2_18 : aYS RX2 18 yX2_times cX2_times 7 (some .int) 4 := ⟨w_663, w_664, w_18, w_665, yk_RX2.1, yk_RX2.2, yd_19⟩
theorem yc_X3_15 : aYV RX3 15 yX3_begin cX3_begin 2 none 0 := ⟨w_796, w_798, ws_32, w_10, w_799, yk_RX3.1, yk_RX3.2, yd_29⟩
theorem yc_X3_24 : aYV RX3 24 yX4_luckyOf cX4_luckyOf 3 (some .int) 2 := ⟨w_801, w_802, w_803, w_8, w_804, yk_RX4.1, yk_RX4.2, yd_16⟩
theorem yc_X3_28 : aYV RX3 28 yX3_draw cX3_draw 4 none 2 := ⟨w_808, w_810, ws_33, w_10, w_811, yk_RX3.1, yk_RX3.2, yd_4⟩
theorem yc_X3_32 : aYV RX3 32 yX3_from cX3_from 5 (some .int) 1 := ⟨w_812, w_814, ws_34, w_10, w_815, yk_RX3.1, yk_RX3.2, yd_18⟩
theorem yc_X4_102 : aYV RX4 102 yX4_firstWithTimes cX4_firstWithTimes 4 (some .int) 2 := ⟨w_868, w_870, ws_36, w_8, w_871, yk_RX4.1, yk_RX4.2, yd_16⟩
theorem yc_X4_105 : aYV RX4 105 yX4_greatestTimes cX4_greatestTimes 4 (some .int) 1 := ⟨w_876, w_877, w_878, w_8, w_879, yk_RX4.1, yk_RX4.2, yd_18⟩
theorem yc_X4_115 : aYS RX4 115 yX4_firstIn cX4_firstIn 3 (some .int) 1 := ⟨w_932, w_933, w_8, w_934, yk_RX4.1, yk_RX4.2, yd_36⟩
theorem yc_X4_119 : aYV RX4 119 yX4_areTwins cX4_areTwins 7 (some .boolean) 4 := ⟨w_935, w_937, ws_37, w_8, w_938, yk_RX4.1, yk_RX4.2, yd_37⟩
theorem yc_X4_123 : aYV RX4 123 yX0_known cX0_known 3 (some .int) 2 := ⟨w_600, w_391, w_392, w_3, w_393, yk_RX0.1, yk_RX0.2, yd_16⟩
theorem yc_X4_130 : aYV RX4 130 yX1_takes cX1_takes 3 (some .boolean) 2 := ⟨w_695, w_637, w_638, w_6, w_639, yk_RX1.1, yk_RX1.2, yd_15⟩
theorem yc_X4_140 : aYV RX4 140 yX4_measure cX4_measure 9 none 3 := ⟨w_601, w_603, ws_18, w_8, w_604, yk_RX4.1, yk_RX4.2, yd_38⟩
theorem yc_X4_144 : aYV RX4 144 yX4_listTraits cX4_listTraits 3 none 2 := ⟨w_605, w_607, ws_19, w_8, w_608, yk_RX4.1, yk_RX4.2, yd_39⟩
theorem yc_X4_153 : aYV RX4 153 yX6_holds cX6_holds 4 (some .boolean) 2 := ⟨w_609, w_610, w_611, w_5, w_612, yk_RX6.1, yk_RX6.2, yd_23⟩
theorem yc_X4_157 : aYV RX4 157 yX6_deedOf cX6_deedOf 2 (some .int) 1 := ⟨w_617, w_618, w_619, w_5, w_620, yk_RX6.1, yk_RX6.2, yd_18⟩
theorem yc_X4_160 : aYV RX4 160 yX6_mostOf cX6_mostOf 2 (some .int) 1 := ⟨w_621, w_622, w_623, w_5, w_624, yk_RX6.1, yk_RX6.2, yd_18⟩
theorem yc_X4_163 : aYV RX4 163 yX6_leastOf cX6_leastOf 2 (some .int) 1 := ⟨w_625, w_626, w_627, w_5, w_628, yk_RX6.1, yk_RX6.2, yd_18⟩
theorem yc_X4_166 : aYS RX4 166 yX2_whenNew cX2_whenNew 3 (some .int) 2 := ⟨w_629, w_630, w_18, w_631, yk_RX2.1, yk_RX2.2, yd_16⟩
theorem yc_X4_45 : aYS RX4 45 yX4_belongs cX4_belongs 5 (some .boolean) 4 := ⟨w_692, w_693, w_8, w_694, yk_RX4.1, yk_RX4.2, yd_40⟩
theorem yc_X4_49 : aYV RX4 49 yX4_lay cX4_lay 5 none 2 := ⟨w_596, w_598, ws_17, w_8, w_599, yk_RX4.1, yk_RX4.2, yd_41⟩
theorem yc_X4_53 : aYV RX4 53 yX4_has cX4_has 2 (some .boolean) 1 := ⟨w_656, w_658, ws_22, w_8, w_659, yk_RX4.1, yk_RX4.2, yd_8⟩
theorem yc_X4_57 : aYV RX4 57 yX4_numberOf cX4_numberOf 2 (some .int) 1 := ⟨w_923, w_924, w_925, w_8, w_926, yk_RX4.1, yk_RX4.2, yd_18⟩
theorem yc_X4_61 : aYS RX4 61 yX2_off cX2_off 6 (some .int) 4 := ⟨w_660, w_661, w_18, w_662, yk_RX2.1, yk_RX2.2, yd_19⟩
theorem yc_X4_67 : aYV RX4 67 yX4_offOf cX4_offOf 3 (some .int) 2 := ⟨w_670, w_653, w_654, w_8, w_655, yk_RX4.1, yk_RX4.2, yd_16⟩
theorem yc_X4_71 : aYS RX4 71 yX2_times cX2_times 7 (some .int) 4 := ⟨w_682, w_664, w_18, w_665, yk_RX2.1, yk_RX2.2, yd_19⟩
theorem yc_X4_74 : aYS RX4 74 yX2_shortage cX2_shortage 5 (some .int) 3 := ⟨w_675, w_676, w_18, w_677, yk_RX2.1, yk_RX2.2, yd_24⟩
theorem yc_X4_78 : aYS RX4 78 yX2_luckyPlaces cX2_luckyPlaces 2 (some .int) 2 := ⟨w_805, w_806, w_18, w_807, yk_RX2.1, yk_RX2.2, yd_16⟩
theorem yc_X4_81 : aYV RX4 81 yX4_isNear cX4_isNear 3 (some .boolean) 2 := ⟨w_791, w_667, w_668, w_8, w_669, yk_RX4.1, yk_RX4.2, yd_5⟩
theorem yc_X4_85 : aYV RX4 85 yX4_townOf cX4_townOf 2 (some .int) 1 := ⟨w_839, w_840, w_841, w_8, w_842, yk_RX4.1, yk_RX4.2, yd_18⟩
theorem yc_X4_88 : aYS RX4 88 yJ6_bitCount_0f7a4 cJ6_bitCount_0f7a4 1 (some .int) 1 := ⟨w_843, w_844, w_20, w_845, yk_RJ6.1, yk_RJ6.2, yd_18⟩
theorem yc_X4_93 : aYV RX4 93 yX4_markOf cX4_markOf 2 (some .int) 1 := ⟨w_853, w_854, w_855, w_8, w_856, yk_RX4.1, yk_RX4.2, yd_18⟩
theorem yc_X4_96 : aYV RX4 96 yX4_shortOf cX4_shortOf 3 (some .int) 2 := ⟨w_910, w_672, w_673, w_8, w_674, yk_RX4.1, yk_RX4.2, yd_16⟩
theorem yc_X4_99 : aYV RX4 99 yX4_timesOf cX4_timesOf 3 (some .int) 2 := ⟨w_867, w_679, w_680, w_8, w_681, yk_RX4.1, yk_RX4.2, yd_16⟩
theorem yc_X5_105 : aYV RX5 105 yX5_number cX5_number 3 (some .int) 0 := ⟨w_538, w_540, ws_13, w_7, w_541, yk_RX5.1, yk_RX5.2, yd_27⟩
theorem yc_X5_109 : aYV RX5 109 yX6_addTest cX6_addTest 7 none 5 := ⟨w_542, w_543, w_544, w_5, w_545, yk_RX6.1, yk_RX6.2, yd_42⟩
theorem yc_X5_117 : aYV RX5 117 yX6_setDeed cX6_setDeed 5 none 4 := ⟨w_557, w_558, w_559, w_5, w_560, yk_RX6.1, yk_RX6.2, yd_43⟩
theorem yc_X5_121 : aYV RX5 121 yX5_readAmounts cX5_readAmounts 5 (some .boolean) 2 := ⟨w_561, w_563, ws_16, w_7, w_564, yk_RX5.1, yk_RX5.2, yd_5⟩
theorem yc_X5_127 : aYV RX5 127 yJ0_length_8abf5 cJ0_length_8abf5 1 (some .int) 0 := ⟨w_471, w_472, w_473, w_12, w_474, yk_RJ0.1, yk_RJ0.2, yd_27⟩
theorem yc_X5_132 : aYV RX5 132 yJ0_charAt_5068e cJ0_charAt_5068e 2 (some .char) 1 := ⟨w_481, w_482, w_483, w_12, w_484, yk_RJ0.1, yk_RJ0.2, yd_44⟩
theorem yc_X5_136 : aYS RX5 136 yX5_isBlank cX5_isBlank 1 (some .boolean) 1 := ⟨w_439, w_440, w_7, w_441, yk_RX5.1, yk_RX5.2, yd_8⟩
theorem yc_X5_139 : aYS RX5 139 yX5_isLetter cX5_isLetter 1 (some .boolean) 1 := ⟨w_442, w_443, w_7, w_444, yk_RX5.1, yk_RX5.2, yd_8⟩
theorem yc_X5_142 : aYS RX5 142 yX5_isDigit cX5_isDigit 1 (some .boolean) 1 := ⟨w_445, w_446, w_7, w_447, yk_RX5.1, yk_RX5.2, yd_8⟩
theorem yc_X5_145 : aYS RX5 145 yX5_isSignByte cX5_isSignByte 1 (some .boolean) 1 := ⟨w_448, w_449, w_7, w_450, yk_RX5.1, yk_RX5.2, yd_8⟩
theorem yc_X5_45 : aYV RX5 45 yX5_advance cX5_advance 2 none 0 := ⟨w_431, w_433, ws_5, w_7, w_434, yk_RX5.1, yk_RX5.2, yd_29⟩
theorem yc_X5_48 : aYV RX5 48 yX5_remark cX5_remark 3 none 2 := ⟨w_451, w_453, ws_6, w_7, w_454, yk_RX5.1, yk_RX5.2, yd_4⟩
theorem yc_X5_52 : aYV RX5 52 yX5_readLine cX5_readLine 2 (some .boolean) 1 := ⟨w_455, w_457, ws_7, w_7, w_458, yk_RX5.1, yk_RX5.2, yd_8⟩
theorem yc_X5_62 : aYV RX5 62 yX6_clearTests cX6_clearTests 2 none 1 := ⟨w_459, w_460, w_461, w_5, w_462, yk_RX6.1, yk_RX6.2, yd_9⟩
theorem yc_X5_68 : aYV RX5 68 yX5_wordIn cX5_wordIn 6 (some .int) 1 := ⟨w_467, w_469, ws_8, w_7, w_470, yk_RX5.1, yk_RX5.2, yd_45⟩
theorem yc_X5_72 : aYV RX5 72 yX5_readTests cX5_readTests 3 (some .boolean) 1 := ⟨w_519, w_521, ws_9, w_7, w_522, yk_RX5.1, yk_RX5.2, yd_8⟩
theorem yc_X5_75 : aYV RX5 75 yX5_readDeed cX5_readDeed 3 (some .boolean) 1 := ⟨w_551, w_553, ws_15, w_7, w_554, yk_RX5.1, yk_RX5.2, yd_8⟩
theorem yc_X5_78 : aYV RX5 78 yX5_pass cX5_pass 2 (some .boolean) 1 := ⟨w_547, w_549, ws_14, w_7, w_550, yk_RX5.1, yk_RX5.2, yd_8⟩
theorem yc_X5_81 : aYV RX5 81 yX5_readTest cX5_readTest 5 (some .boolean) 1 := ⟨w_523, w_525, ws_10, w_7, w_526, yk_RX5.1, yk_RX5.2, yd_8⟩
theorem yc_X5_92 : aYV RX5 92 yX5_refuse cX5_refuse 1 (some .boolean) 0 := ⟨w_530, w_532, ws_11, w_7, w_533, yk_RX5.1, yk_RX5.2, yd_2⟩
theorem yc_X5_96 : aYV RX5 96 yX5_isSign cX5_isSign 2 (some .boolean) 1 := ⟨w_534, w_536, ws_12, w_7, w_537, yk_RX5.1, yk_RX5.2, yd_8⟩
theorem yc_X5_99 : aYV RX5 99 yX9_byteAt cX9_byteAt 2 (some .int) 1 := ⟨w_435, w_436, w_437, w_4, w_438, yk_RX9.1, yk_RX9.2, yd_18⟩
theorem yc_X6_41 : aYS RX6 41 yX6_hasLine cX6_hasLine 1 (some .boolean) 1 := ⟨w_463, w_464, w_5, w_465, yk_RX6.1, yk_RX6.2, yd_8⟩
theorem yc_X6_45 : aYV RX6 45 yX6_passes cX6_passes 4 (some .boolean) 2 := ⟨w_613, w_615, ws_20, w_5, w_616, yk_RX6.1, yk_RX6.2, yd_23⟩
theorem yc_X7_100 : aYV RX7 100 yX7_isBetter cX7_isBetter 4 (some .boolean) 2 := ⟨w_752, w_754, ws_29, w_9, w_755, yk_RX7.1, yk_RX7.2, yd_5⟩
theorem yc_X7_104 : aYV RX7 104 yX4_offIf cX4_offIf 4 (some .int) 3 := ⟨w_956, w_957, w_958, w_8, w_959, yk_RX4.1, yk_RX4.2, yd_24⟩
theorem yc_X7_40 : aYV RX7 40 yX4_scoreBy cX4_scoreBy 4 (some .int) 1 := ⟨w_716, w_697, w_698, w_8, w_699, yk_RX4.1, yk_RX4.2, yd_18⟩
theorem yc_X7_46 : aYV RX7 46 yX7_compare cX7_compare 3 (some .int) 2 := ⟨w_721, w_723, ws_24, w_9, w_724, yk_RX7.1, yk_RX7.2, yd_16⟩
theorem yc_X7_49 : aYV RX7 49 yX7_listPeaks cX7_listPeaks 2 none 0 := ⟨w_740, w_742, ws_26, w_9, w_743, yk_RX7.1, yk_RX7.2, yd_29⟩
theorem yc_X7_52 : aYV RX7 52 yX7_betterPeaks cX7_betterPeaks 4 (some .int) 1 := ⟨w_748, w_750, ws_28, w_9, w_751, yk_RX7.1, yk_RX7.2, yd_18⟩
theorem yc_X7_55 : aYV RX7 55 yX7_isPeak cX7_isPeak 2 (some .boolean) 1 := ⟨w_744, w_746, ws_27, w_9, w_747, yk_RX7.1, yk_RX7.2, yd_8⟩
theorem yc_X7_65 : aYV RX7 65 yX7_setAside cX7_setAside 4 none 2 := ⟨w_948, w_950, ws_38, w_9, w_951, yk_RX7.1, yk_RX7.2, yd_46⟩
theorem yc_X7_69 : aYV RX7 69 yX7_bestIf cX7_bestIf 10 (some .int) 3 := ⟨w_952, w_954, ws_39, w_9, w_955, yk_RX7.1, yk_RX7.2, yd_21⟩
theorem yc_X7_79 : aYV RX7 79 yX4_offOf cX4_offOf 3 (some .int) 2 := ⟨w_768, w_653, w_654, w_8, w_655, yk_RX4.1, yk_RX4.2, yd_16⟩
theorem yc_X7_84 : aYV RX7 84 yX7_listOffs cX7_listOffs 6 none 3 := ⟨w_764, w_766, ws_30, w_9, w_767, yk_RX7.1, yk_RX7.2, yd_20⟩
theorem yc_X7_88 : aYV RX7 88 yX7_sumOfListed cX7_sumOfListed 10 (some .long) 4 := ⟨w_769, w_771, ws_31, w_9, w_772, yk_RX7.1, yk_RX7.2, yd_47⟩
theorem yc_X7_92 : aYV RX7 92 yX7_inReach cX7_inReach 2 (some .boolean) 1 := ⟨w_725, w_727, ws_25, w_9, w_728, yk_RX7.1, yk_RX7.2, yd_8⟩
theorem yc_X7_95 : aYS RX7 95 yJ13_compare_74951 cJ13_compare_74951 4 (some .int) 2 := ⟨w_729, w_730, w_19, w_731, yk_RJ13.1, yk_RJ13.2, yd_48⟩
theorem yc_X8_49 : aYV RX8 49 yX0_copyFrom cX0_copyFrom 2 none 1 := ⟨w_978, w_979, w_980, w_3, w_981, yk_RX0.1, yk_RX0.2, yd_49⟩
theorem yc_X8_53 : aYV RX8 53 yX9_copyFrom cX9_copyFrom 2 none 1 := ⟨w_983, w_984, w_985, w_4, w_986, yk_RX9.1, yk_RX9.2, yd_50⟩
theorem yc_X8_56 : aYV RX8 56 yX6_copyFrom cX6_copyFrom 2 none 1 := ⟨w_988, w_570, w_571, w_5, w_572, yk_RX6.1, yk_RX6.2, yd_12⟩
theorem yc_X8_59 : aYV RX8 59 yX1_copyFrom cX1_copyFrom 2 none 1 := ⟨w_989, w_990, w_991, w_6, w_992, yk_RX1.1, yk_RX1.2, yd_51⟩
