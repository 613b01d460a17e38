/-! the cells that the two constructors make -/
def shT : List (Nat × Nat) := [(7, 0), (3, 40), (11, 0), (0, 120), (0, 241), (4, 4), (5, 10), (13, 0), (0, 8), (0, 8), (0, 8), (12, 0), (1, 256), (1, 256), (1, 256), (9, 0), (0, 30), (8, 0), (0, 40), (0, 40), (0, 40), (17, 0), (0, 50), (0, 24), (6, 6), (14, 0), (1, 60), (14, 0), (1, 60), (14, 0), (1, 60), (14, 0), (1, 60), (14, 0), (1, 60), (14, 0), (1, 60), (18, 0), (0, 40), (0, 40), (0, 40), (0, 40), (0, 320), (0, 320), (2, 40), (0, 120), (0, 800), (0, 4), (0, 10), (0, 10), (0, 10), (0, 10), (0, 10), (0, 10), (0, 10), (0, 30), (0, 40), (0, 40), (0, 40), (0, 50), (0, 24), (0, 6), (0, 6), (0, 6), (1, 360), (0, 8), (0, 130), (0, 8), (0, 8), (1, 3200), (1, 60)]
def rfT : List (Nat × Nat × Nat) := [(0, 0, 1), (0, 2, 2), (0, 3, 5), (0, 5, 6), (0, 7, 7), (0, 8, 11), (0, 9, 15), (0, 10, 17), (0, 11, 21), (0, 12, 24), (2, 0, 3), (2, 1, 4), (7, 0, 8), (7, 1, 9), (7, 2, 10), (11, 0, 12), (11, 1, 13), (11, 2, 14), (15, 0, 16), (17, 0, 18), (17, 1, 19), (17, 2, 20), (21, 0, 22), (21, 1, 23), (24, 0, 25), (24, 1, 27), (24, 2, 29), (24, 3, 31), (24, 4, 33), (24, 5, 35), (25, 0, 26), (27, 0, 28), (29, 0, 30), (31, 0, 32), (33, 0, 34), (35, 0, 36), (37, 1, 38), (37, 2, 39), (37, 3, 40), (37, 4, 41), (37, 5, 42), (37, 6, 43), (37, 7, 44), (37, 8, 45), (37, 10, 46), (37, 11, 47), (37, 14, 48), (37, 15, 49), (37, 16, 50), (37, 17, 51), (37, 18, 52), (37, 19, 53), (37, 20, 54), (37, 22, 55), (37, 23, 56), (37, 24, 57), (37, 25, 58), (37, 29, 59), (37, 31, 60), (37, 32, 61), (37, 33, 62), (37, 34, 63), (37, 35, 64), (37, 40, 65), (37, 41, 66), (37, 45, 67), (37, 46, 68), (37, 47, 69), (37, 49, 70)]
/-- the static cells are as the constructors left them -/
def SF (sh : Nat → Nat × Nat) (R : Nat → Nat → Option Nat) : Prop := (∀ a, a < 71 → sh a = shT.getD a (0, 0)) ∧ ∀ q, q ∈ rfT → R q.1 q.2.1 = some q.2.2
theorem zS0 {sh : Nat → Nat × Nat} {R : Nat → Nat → Option Nat} (h : SF sh R) : sh 0 = (7, 0) := h.1 0 (Nat.le_of_ble_eq_true rfl)
theorem zS1 {sh : Nat → Nat × Nat} {R : Nat → Nat → Option Nat} (h : SF sh R) : sh 1 = (3, 40) := h.1 1 (Nat.le_of_ble_eq_true rfl)
theorem zS2 {sh : Nat → Nat × Nat} {R : Nat → Nat → Option Nat} (h : SF sh R) : sh 2 = (11, 0) := h.1 2 (Nat.le_of_ble_eq_true rfl)
theorem zS3 {sh : Nat → Nat × Nat} {R : Nat → Nat → Option Nat} (h : SF sh R) : sh 3 = (0, 120) := h.1 3 (Nat.le_of_ble_eq_true rfl)
theorem zS4 {sh : Nat → Nat × Nat} {R : Nat → Nat → Option Nat} (h : SF sh R) : sh 4 = (0, 241) := h.1 4 (Nat.le_of_ble_eq_true rfl)
theorem zS5 {sh : Nat → Nat × Nat} {R : Nat → Nat → Option Nat} (h : SF sh R) : sh 5 = (4, 4) := h.1 5 (Nat.le_of_ble_eq_true rfl)
theorem zS6 {sh : Nat → Nat × Nat} {R : Nat → Nat → Option Nat} (h : SF sh R) : sh 6 = (5, 10) := h.1 6 (Nat.le_of_ble_eq_true rfl)
theorem zS7 {sh : Nat → Nat × Nat} {R : Nat → Nat → Option Nat} (h : SF sh R) : sh 7 = (13, 0) := h.1 7 (Nat.le_of_ble_eq_true rfl)
theorem zS8 {sh : Nat → Nat × Nat} {R : Nat → Nat → Option Nat} (h : SF sh R) : sh 8 = (0, 8) := h.1 8 (Nat.le_of_ble_eq_true rfl)
theorem zS9 {sh : Nat → Nat × Nat} {R : Nat → Nat → Option Nat} (h : SF sh R) : sh 9 = (0, 8) := h.1 9 (Nat.le_of_ble_eq_true rfl)
theorem zS10 {sh : Nat → Nat × Nat} {R : Nat → Nat → Option Nat} (h : SF sh R) : sh 10 = (0, 8) := h.1 10 (Nat.le_of_ble_eq_true rfl)
theorem zS11 {sh : Nat → Nat × Nat} {R : Nat → Nat → Option Nat} (h : SF sh R) : sh 11 = (12, 0) := h.1 11 (Nat.le_of_ble_eq_true rfl)
theorem zS12 {sh : Nat → Nat × Nat} {R : Nat → Nat → Option Nat} (h : SF sh R) : sh 12 = (1, 256) := h.1 12 (Nat.le_of_ble_eq_true rfl)
theorem zS13 {sh : Nat → Nat × Nat} {R : Nat → Nat → Option Nat} (h : SF sh R) : sh 13 = (1, 256) := h.1 13 (Nat.le_of_ble_eq_true rfl)
theorem zS14 {sh : Nat → Nat × Nat} {R : Nat → Nat → Option Nat} (h : SF sh R) : sh 14 = (1, 256) := h.1 14 (Nat.le_of_ble_eq_true rfl)
theorem zS15 {sh : Nat → Nat × Nat} {R : Nat → Nat → Option Nat} (h : SF sh R) : sh 15 = (9, 0) := h.1 15 (Nat.le_of_ble_eq_true rfl)
theorem zS16 {sh : Nat → Nat × Nat} {R : Nat → Nat → Option Nat} (h : SF sh R) : sh 16 = (0, 30) := h.1 16 (Nat.le_of_ble_eq_true rfl)
theorem zS17 {sh : Nat → Nat × Nat} {R : Nat → Nat → Option Nat} (h : SF sh R) : sh 17 = (8, 0) := h.1 17 (Nat.le_of_ble_eq_true rfl)
theorem zS18 {sh : Nat → Nat × Nat} {R : Nat → Nat → Option Nat} (h : SF sh R) : sh 18 = (0, 40) := h.1 18 (Nat.le_of_ble_eq_true rfl)
theorem zS19 {sh : Nat → Nat × Nat} {R : Nat → Nat → Option Nat} (h : SF sh R) : sh 19 = (0, 40) := h.1 19 (Nat.le_of_ble_eq_true rfl)
theorem zS20 {sh : Nat → Nat × Nat} {R : Nat → Nat → Option Nat} (h : SF sh R) : sh 20 = (0, 40) := h.1 20 (Nat.le_of_ble_eq_true rfl)
theorem zS21 {sh : Nat → Nat × Nat} {R : Nat → Nat → Option Nat} (h : SF sh R) : sh 21 = (17, 0) := h.1 21 (Nat.le_of_ble_eq_true rfl)
theorem zS22 {sh : Nat → Nat × Nat} {R : Nat → Nat → Option Nat} (h : SF sh R) : sh 22 = (0, 50) := h.1 22 (Nat.le_of_ble_eq_true rfl)
theorem zS23 {sh : Nat → Nat × Nat} {R : Nat → Nat → Option Nat} (h : SF sh R) : sh 23 = (0, 24) := h.1 23 (Nat.le_of_ble_eq_true rfl)
theorem zS24 {sh : Nat → Nat × Nat} {R : Nat → Nat → Option Nat} (h : SF sh R) : sh 24 = (6, 6) := h.1 24 (Nat.le_of_ble_eq_true rfl)
theorem zS25 {sh : Nat → Nat × Nat} {R : Nat → Nat → Option Nat} (h : SF sh R) : sh 25 = (14, 0) := h.1 25 (Nat.le_of_ble_eq_true rfl)
theorem zS26 {sh : Nat → Nat × Nat} {R : Nat → Nat → Option Nat} (h : SF sh R) : sh 26 = (1, 60) := h.1 26 (Nat.le_of_ble_eq_true rfl)
theorem zS27 {sh : Nat → Nat × Nat} {R : Nat → Nat → Option Nat} (h : SF sh R) : sh 27 = (14, 0) := h.1 27 (Nat.le_of_ble_eq_true rfl)
theorem zS28 {sh : Nat → Nat × Nat} {R : Nat → Nat → Option Nat} (h : SF sh R) : sh 28 = (1, 60) := h.1 28 (Nat.le_of_ble_eq_true rfl)
theorem zS29 {sh : Nat → Nat × Nat} {R : Nat → Nat → Option Nat} (h : SF sh R) : sh 29 = (14, 0) := h.1 29 (Nat.le_of_ble_eq_true rfl)
theorem zS30 {sh : Nat → Nat × Nat} {R : Nat → Nat → Option Nat} (h : SF sh R) : sh 30 = (1, 60) := h.1 30 (Nat.le_of_ble_eq_true rfl)
theorem zS31 {sh : Nat → Nat × Nat} {R : Nat → Nat → Option Nat} (h : SF sh R) : sh 31 = (14, 0) := h.1 31 (Nat.le_of_ble_eq_true rfl)
theorem zS32 {sh : Nat → Nat × Nat} {R : Nat → Nat → Option Nat} (h : SF sh R) : sh 32 = (1, 60) := h.1 32 (Nat.le_of_ble_eq_true rfl)
theorem zS33 {sh : Nat → Nat × Nat} {R : Nat → Nat → Option Nat} (h : SF sh R) : sh 33 = (14, 0) := h.1 33 (Nat.le_of_ble_eq_true rfl)
theorem zS34 {sh : Nat → Nat × Nat} {R : Nat → Nat → Option Nat} (h : SF sh R) : sh 34 = (1, 60) := h.1 34 (Nat.le_of_ble_eq_true rfl)
theorem zS35 {sh : Nat → Nat × Nat} {R : Nat → Nat → Option Nat} (h : SF sh R) : sh 35 = (14, 0) := h.1 35 (Nat.le_of_ble_eq_true rfl)
theorem zS36 {sh : Nat → Nat × Nat} {R : Nat → Nat → Option Nat} (h : SF sh R) : sh 36 = (1, 60) := h.1 36 (Nat.le_of_ble_eq_true rfl)
theorem zS37 {sh : Nat → Nat × Nat} {R : Nat → Nat → Option Nat} (h : SF sh R) : sh 37 = (18, 0) := h.1 37 (Nat.le_of_ble_eq_true rfl)
theorem zS38 {sh : Nat → Nat × Nat} {R : Nat → Nat → Option Nat} (h : SF sh R) : sh 38 = (0, 40) := h.1 38 (Nat.le_of_ble_eq_true rfl)
theorem zS39 {sh : Nat → Nat × Nat} {R : Nat → Nat → Option Nat} (h : SF sh R) : sh 39 = (0, 40) := h.1 39 (Nat.le_of_ble_eq_true rfl)
theorem zS40 {sh : Nat → Nat × Nat} {R : Nat → Nat → Option Nat} (h : SF sh R) : sh 40 = (0, 40) := h.1 40 (Nat.le_of_ble_eq_true rfl)
theorem zS41 {sh : Nat → Nat × Nat} {R : Nat → Nat → Option Nat} (h : SF sh R) : sh 41 = (0, 40) := h.1 41 (Nat.le_of_ble_eq_true rfl)
theorem zS42 {sh : Nat → Nat × Nat} {R : Nat → Nat → Option Nat} (h : SF sh R) : sh 42 = (0, 320) := h.1 42 (Nat.le_of_ble_eq_true rfl)
theorem zS43 {sh : Nat → Nat × Nat} {R : Nat → Nat → Option Nat} (h : SF sh R) : sh 43 = (0, 320) := h.1 43 (Nat.le_of_ble_eq_true rfl)
theorem zS44 {sh : Nat → Nat × Nat} {R : Nat → Nat → Option Nat} (h : SF sh R) : sh 44 = (2, 40) := h.1 44 (Nat.le_of_ble_eq_true rfl)
theorem zS45 {sh : Nat → Nat × Nat} {R : Nat → Nat → Option Nat} (h : SF sh R) : sh 45 = (0, 120) := h.1 45 (Nat.le_of_ble_eq_true rfl)
theorem zS46 {sh : Nat → Nat × Nat} {R : Nat → Nat → Option Nat} (h : SF sh R) : sh 46 = (0, 800) := h.1 46 (Nat.le_of_ble_eq_true rfl)
theorem zS47 {sh : Nat → Nat × Nat} {R : Nat → Nat → Option Nat} (h : SF sh R) : sh 47 = (0, 4) := h.1 47 (Nat.le_of_ble_eq_true rfl)
theorem zS48 {sh : Nat → Nat × Nat} {R : Nat → Nat → Option Nat} (h : SF sh R) : sh 48 = (0, 10) := h.1 48 (Nat.le_of_ble_eq_true rfl)
theorem zS49 {sh : Nat → Nat × Nat} {R : Nat → Nat → Option Nat} (h : SF sh R) : sh 49 = (0, 10) := h.1 49 (Nat.le_of_ble_eq_true rfl)
theorem zS50 {sh : Nat → Nat × Nat} {R : Nat → Nat → Option Nat} (h : SF sh R) : sh 50 = (0, 10) := h.1 50 (Nat.le_of_ble_eq_true rfl)
theorem zS51 {sh : Nat → Nat × Nat} {R : Nat → Nat → Option Nat} (h : SF sh R) : sh 51 = (0, 10) := h.1 51 (Nat.le_of_ble_eq_true rfl)
theorem zS52 {sh : Nat → Nat × Nat} {R : Nat → Nat → Option Nat} (h : SF sh R) : sh 52 = (0, 10) := h.1 52 (Nat.le_of_ble_eq_true rfl)
theorem zS53 {sh : Nat → Nat × Nat} {R : Nat → Nat → Option Nat} (h : SF sh R) : sh 53 = (0, 10) := h.1 53 (Nat.le_of_ble_eq_true rfl)
theorem zS54 {sh : Nat → Nat × Nat} {R : Nat → Nat → Option Nat} (h : SF sh R) : sh 54 = (0, 10) := h.1 54 (Nat.le_of_ble_eq_true rfl)
theorem zS55 {sh : Nat → Nat × Nat} {R : Nat → Nat → Option Nat} (h : SF sh R) : sh 55 = (0, 30) := h.1 55 (Nat.le_of_ble_eq_true rfl)
theorem zS56 {sh : Nat → Nat × Nat} {R : Nat → Nat → Option Nat} (h : SF sh R) : sh 56 = (0, 40) := h.1 56 (Nat.le_of_ble_eq_true rfl)
theorem zS57 {sh : Nat → Nat × Nat} {R : Nat → Nat → Option Nat} (h : SF sh R) : sh 57 = (0, 40) := h.1 57 (Nat.le_of_ble_eq_true rfl)
theorem zS58 {sh : Nat → Nat × Nat} {R : Nat → Nat → Option Nat} (h : SF sh R) : sh 58 = (0, 40) := h.1 58 (Nat.le_of_ble_eq_true rfl)
theorem zS59 {sh : Nat → Nat × Nat} {R : Nat → Nat → Option Nat} (h : SF sh R) : sh 59 = (0, 50) := h.1 59 (Nat.le_of_ble_eq_true rfl)
theorem zS60 {sh : Nat → Nat × Nat} {R : Nat → Nat → Option Nat} (h : SF sh R) : sh 60 = (0, 24) := h.1 60 (Nat.le_of_ble_eq_true rfl)
theorem zS61 {sh : Nat → Nat × Nat} {R : Nat → Nat → Option Nat} (h : SF sh R) : sh 61 = (0, 6) := h.1 61 (Nat.le_of_ble_eq_true rfl)
theorem zS62 {sh : Nat → Nat × Nat} {R : Nat → Nat → Option Nat} (h : SF sh R) : sh 62 = (0, 6) := h.1 62 (Nat.le_of_ble_eq_true rfl)
theorem zS63 {sh : Nat → Nat × Nat} {R : Nat → Nat → Option Nat} (h : SF sh R) : sh 63 = (0, 6) := h.1 63 (Nat.le_of_ble_eq_true rfl)
theorem zS64 {sh : Nat → Nat × Nat} {R : Nat → Nat → Option Nat} (h : SF sh R) : sh 64 = (1, 360) := h.1 64 (Nat.le_of_ble_eq_true rfl)
theorem zS65 {sh : Nat → Nat × Nat} {R : Nat → Nat → Option Nat} (h : SF sh R) : sh 65 = (0, 8) := h.1 65 (Nat.le_of_ble_eq_true rfl)
theorem zS66 {sh : Nat → Nat × Nat} {R : Nat → Nat → Option Nat} (h : SF sh R) : sh 66 = (0, 130) := h.1 66 (Nat.le_of_ble_eq_true rfl)
theorem zS67 {sh : Nat → Nat × Nat} {R : Nat → Nat → Option Nat} (h : SF sh R) : sh 67 = (0, 8) := h.1 67 (Nat.le_of_ble_eq_true rfl)
theorem zS68 {sh : Nat → Nat × Nat} {R : Nat → Nat → Option Nat} (h : SF sh R) : sh 68 = (0, 8) := h.1 68 (Nat.le_of_ble_eq_true rfl)
theorem zS69 {sh : Nat → Nat × Nat} {R : Nat → Nat → Option Nat} (h : SF sh R) : sh 69 = (1, 3200) := h.1 69 (Nat.le_of_ble_eq_true rfl)
theorem zS70 {sh : Nat → Nat × Nat} {R : Nat → Nat → Option Nat} (h : SF sh R) : sh 70 = (1, 60) := h.1 70 (Nat.le_of_ble_eq_true rfl)
theorem zR0_0 {sh : Nat → Nat × Nat} {R : Nat → Nat → Option Nat} (h : SF sh R) : R 0 0 = some 1 := h.2 (0, 0, 1) (List.mem_of_getElem? (i := 0) rfl)
theorem zR0_2 {sh : Nat → Nat × Nat} {R : Nat → Nat → Option Nat} (h : SF sh R) : R 0 2 = some 2 := h.2 (0, 2, 2) (List.mem_of_getElem? (i := 1) rfl)
theorem zR0_3 {sh : Nat → Nat × Nat} {R : Nat → Nat → Option Nat} (h : SF sh R) : R 0 3 = some 5 := h.2 (0, 3, 5) (List.mem_of_getElem? (i := 2) rfl)
theorem zR0_5 {sh : Nat → Nat × Nat} {R : Nat → Nat → Option Nat} (h : SF sh R) : R 0 5 = some 6 := h.2 (0, 5, 6) (List.mem_of_getElem? (i := 3) rfl)
theorem zR0_7 {sh : Nat → Nat × Nat} {R : Nat → Nat → Option Nat} (h : SF sh R) : R 0 7 = some 7 := h.2 (0, 7, 7) (List.mem_of_getElem? (i := 4) rfl)
theorem zR0_8 {sh : Nat → Nat × Nat} {R : Nat → Nat → Option Nat} (h : SF sh R) : R 0 8 = some 11 := h.2 (0, 8, 11) (List.mem_of_getElem? (i := 5) rfl)
theorem zR0_9 {sh : Nat → Nat × Nat} {R : Nat → Nat → Option Nat} (h : SF sh R) : R 0 9 = some 15 := h.2 (0, 9, 15) (List.mem_of_getElem? (i := 6) rfl)
theorem zR0_10 {sh : Nat → Nat × Nat} {R : Nat → Nat → Option Nat} (h : SF sh R) : R 0 10 = some 17 := h.2 (0, 10, 17) (List.mem_of_getElem? (i := 7) rfl)
theorem zR0_11 {sh : Nat → Nat × Nat} {R : Nat → Nat → Option Nat} (h : SF sh R) : R 0 11 = some 21 := h.2 (0, 11, 21) (List.mem_of_getElem? (i := 8) rfl)
theorem zR0_12 {sh : Nat → Nat × Nat} {R : Nat → Nat → Option Nat} (h : SF sh R) : R 0 12 = some 24 := h.2 (0, 12, 24) (List.mem_of_getElem? (i := 9) rfl)
theorem zR2_0 {sh : Nat → Nat × Nat} {R : Nat → Nat → Option Nat} (h : SF sh R) : R 2 0 = some 3 := h.2 (2, 0, 3) (List.mem_of_getElem? (i := 10) rfl)
theorem zR2_1 {sh : Nat → Nat × Nat} {R : Nat → Nat → Option Nat} (h : SF sh R) : R 2 1 = some 4 := h.2 (2, 1, 4) (List.mem_of_getElem? (i := 11) rfl)
theorem zR7_0 {sh : Nat → Nat × Nat} {R : Nat → Nat → Option Nat} (h : SF sh R) : R 7 0 = some 8 := h.2 (7, 0, 8) (List.mem_of_getElem? (i := 12) rfl)
theorem zR7_1 {sh : Nat → Nat × Nat} {R : Nat → Nat → Option Nat} (h : SF sh R) : R 7 1 = some 9 := h.2 (7, 1, 9) (List.mem_of_getElem? (i := 13) rfl)
theorem zR7_2 {sh : Nat → Nat × Nat} {R : Nat → Nat → Option Nat} (h : SF sh R) : R 7 2 = some 10 := h.2 (7, 2, 10) (List.mem_of_getElem? (i := 14) rfl)
theorem zR11_0 {sh : Nat → Nat × Nat} {R : Nat → Nat → Option Nat} (h : SF sh R) : R 11 0 = some 12 := h.2 (11, 0, 12) (List.mem_of_getElem? (i := 15) rfl)
theorem zR11_1 {sh : Nat → Nat × Nat} {R : Nat → Nat → Option Nat} (h : SF sh R) : R 11 1 = some 13 := h.2 (11, 1, 13) (List.mem_of_getElem? (i := 16) rfl)
theorem zR11_2 {sh : Nat → Nat × Nat} {R : Nat → Nat → Option Nat} (h : SF sh R) : R 11 2 = some 14 := h.2 (11, 2, 14) (List.mem_of_getElem? (i := 17) rfl)
theorem zR15_0 {sh : Nat → Nat × Nat} {R : Nat → Nat → Option Nat} (h : SF sh R) : R 15 0 = some 16 := h.2 (15, 0, 16) (List.mem_of_getElem? (i := 18) rfl)
theorem zR17_0 {sh : Nat → Nat × Nat} {R : Nat → Nat → Option Nat} (h : SF sh R) : R 17 0 = some 18 := h.2 (17, 0, 18) (List.mem_of_getElem? (i := 19) rfl)
theorem zR17_1 {sh : Nat → Nat × Nat} {R : Nat → Nat → Option Nat} (h : SF sh R) : R 17 1 = some 19 := h.2 (17, 1, 19) (List.mem_of_getElem? (i := 20) rfl)
theorem zR17_2 {sh : Nat → Nat × Nat} {R : Nat → Nat → Option Nat} (h : SF sh R) : R 17 2 = some 20 := h.2 (17, 2, 20) (List.mem_of_getElem? (i := 21) rfl)
theorem zR21_0 {sh : Nat → Nat × Nat} {R : Nat → Nat → Option Nat} (h : SF sh R) : R 21 0 = some 22 := h.2 (21, 0, 22) (List.mem_of_getElem? (i := 22) rfl)
theorem zR21_1 {sh : Nat → Nat × Nat} {R : Nat → Nat → Option Nat} (h : SF sh R) : R 21 1 = some 23 := h.2 (21, 1, 23) (List.mem_of_getElem? (i := 23) rfl)
theorem zR24_0 {sh : Nat → Nat × Nat} {R : Nat → Nat → Option Nat} (h : SF sh R) : R 24 0 = some 25 := h.2 (24, 0, 25) (List.mem_of_getElem? (i := 24) rfl)
theorem zR24_1 {sh : Nat → Nat × Nat} {R : Nat → Nat → Option Nat} (h : SF sh R) : R 24 1 = some 27 := h.2 (24, 1, 27) (List.mem_of_getElem? (i := 25) rfl)
theorem zR24_2 {sh : Nat → Nat × Nat} {R : Nat → Nat → Option Nat} (h : SF sh R) : R 24 2 = some 29 := h.2 (24, 2, 29) (List.mem_of_getElem? (i := 26) rfl)
theorem zR24_3 {sh : Nat → Nat × Nat} {R : Nat → Nat → Option Nat} (h : SF sh R) : R 24 3 = some 31 := h.2 (24, 3, 31) (List.mem_of_getElem? (i := 27) rfl)
theorem zR24_4 {sh : Nat → Nat × Nat} {R : Nat → Nat → Option Nat} (h : SF sh R) : R 24 4 = some 33 := h.2 (24, 4, 33) (List.mem_of_getElem? (i := 28) rfl)
theorem zR24_5 {sh : Nat → Nat × Nat} {R : Nat → Nat → Option Nat} (h : SF sh R) : R 24 5 = some 35 := h.2 (24, 5, 35) (List.mem_of_getElem? (i := 29) rfl)
theorem zR25_0 {sh : Nat → Nat × Nat} {R : Nat → Nat → Option Nat} (h : SF sh R) : R 25 0 = some 26 := h.2 (25, 0, 26) (List.mem_of_getElem? (i := 30) rfl)
theorem zR27_0 {sh : Nat → Nat × Nat} {R : Nat → Nat → Option Nat} (h : SF sh R) : R 27 0 = some 28 := h.2 (27, 0, 28) (List.mem_of_getElem? (i := 31) rfl)
theorem zR29_0 {sh : Nat → Nat × Nat} {R : Nat → Nat → Option Nat} (h : SF sh R) : R 29 0 = some 30 := h.2 (29, 0, 30) (List.mem_of_getElem? (i := 32) rfl)
theorem zR31_0 {sh : Nat → Nat × Nat} {R : Nat → Nat → Option Nat} (h : SF sh R) : R 31 0 = some 32 := h.2 (31, 0, 32) (List.mem_of_getElem? (i := 33) rfl)
theorem zR33_0 {sh : Nat → Nat × Nat} {R : Nat → Nat → Option Nat} (h : SF sh R) : R 33 0 = some 34 := h.2 (33, 0, 34) (List.mem_of_getElem? (i := 34) rfl)
theorem zR35_0 {sh : Nat → Nat × Nat} {R : Nat → Nat → Option Nat} (h : SF sh R) : R 35 0 = some 36 := h.2 (35, 0, 36) (List.mem_of_getElem? (i := 35) rfl)
theorem zR37_1 {sh : Nat → Nat × Nat} {R : Nat → Nat → Option Nat} (h : SF sh R) : R 37 1 = some 38 := h.2 (37, 1, 38) (List.mem_of_getElem? (i := 36) rfl)
theorem zR37_2 {sh : Nat → Nat × Nat} {R : Nat → Nat → Option Nat} (h : SF sh R) : R 37 2 = some 39 := h.2 (37, 2, 39) (List.mem_of_getElem? (i := 37) rfl)
theorem zR37_3 {sh : Nat → Nat × Nat} {R : Nat → Nat → Option Nat} (h : SF sh R) : R 37 3 = some 40 := h.2 (37, 3, 40) (List.mem_of_getElem? (i := 38) rfl)
theorem zR37_4 {sh : Nat → Nat × Nat} {R : Nat → Nat → Option Nat} (h : SF sh R) : R 37 4 = some 41 := h.2 (37, 4, 41) (List.mem_of_getElem? (i := 39) rfl)
theorem zR37_5 {sh : Nat → Nat × Nat} {R : Nat → Nat → Option Nat} (h : SF sh R) : R 37 5 = some 42 := h.2 (37, 5, 42) (List.mem_of_getElem? (i := 40) rfl)
theorem zR37_6 {sh : Nat → Nat × Nat} {R : Nat → Nat → Option Nat} (h : SF sh R) : R 37 6 = some 43 := h.2 (37, 6, 43) (List.mem_of_getElem? (i := 41) rfl)
theorem zR37_7 {sh : Nat → Nat × Nat} {R : Nat → Nat → Option Nat} (h : SF sh R) : R 37 7 = some 44 := h.2 (37, 7, 44) (List.mem_of_getElem? (i := 42) rfl)
theorem zR37_8 {sh : Nat → Nat × Nat} {R : Nat → Nat → Option Nat} (h : SF sh R) : R 37 8 = some 45 := h.2 (37, 8, 45) (List.mem_of_getElem? (i := 43) rfl)
theorem zR37_10 {sh : Nat → Nat × Nat} {R : Nat → Nat → Option Nat} (h : SF sh R) : R 37 10 = some 46 := h.2 (37, 10, 46) (List.mem_of_getElem? (i := 44) rfl)
theorem zR37_11 {sh : Nat → Nat × Nat} {R : Nat → Nat → Option Nat} (h : SF sh R) : R 37 11 = some 47 := h.2 (37, 11, 47) (List.mem_of_getElem? (i := 45) rfl)
theorem zR37_14 {sh : Nat → Nat × Nat} {R : Nat → Nat → Option Nat} (h : SF sh R) : R 37 14 = some 48 := h.2 (37, 14, 48) (List.mem_of_getElem? (i := 46) rfl)
theorem zR37_15 {sh : Nat → Nat × Nat} {R : Nat → Nat → Option Nat} (h : SF sh R) : R 37 15 = some 49 := h.2 (37, 15, 49) (List.mem_of_getElem? (i := 47) rfl)
theorem zR37_16 {sh : Nat → Nat × Nat} {R : Nat → Nat → Option Nat} (h : SF sh R) : R 37 16 = some 50 := h.2 (37, 16, 50) (List.mem_of_getElem? (i := 48) rfl)
theorem zR37_17 {sh : Nat → Nat × Nat} {R : Nat → Nat → Option Nat} (h : SF sh R) : R 37 17 = some 51 := h.2 (37, 17, 51) (List.mem_of_getElem? (i := 49) rfl)
theorem zR37_18 {sh : Nat → Nat × Nat} {R : Nat → Nat → Option Nat} (h : SF sh R) : R 37 18 = some 52 := h.2 (37, 18, 52) (List.mem_of_getElem? (i := 50) rfl)
theorem zR37_19 {sh : Nat → Nat × Nat} {R : Nat → Nat → Option Nat} (h : SF sh R) : R 37 19 = some 53 := h.2 (37, 19, 53) (List.mem_of_getElem? (i := 51) rfl)
theorem zR37_20 {sh : Nat → Nat × Nat} {R : Nat → Nat → Option Nat} (h : SF sh R) : R 37 20 = some 54 := h.2 (37, 20, 54) (List.mem_of_getElem? (i := 52) rfl)
theorem zR37_22 {sh : Nat → Nat × Nat} {R : Nat → Nat → Option Nat} (h : SF sh R) : R 37 22 = some 55 := h.2 (37, 22, 55) (List.mem_of_getElem? (i := 53) rfl)
theorem zR37_23 {sh : Nat → Nat × Nat} {R : Nat → Nat → Option Nat} (h : SF sh R) : R 37 23 = some 56 := h.2 (37, 23, 56) (List.mem_of_getElem? (i := 54) rfl)
theorem zR37_24 {sh : Nat → Nat × Nat} {R : Nat → Nat → Option Nat} (h : SF sh R) : R 37 24 = some 57 := h.2 (37, 24, 57) (List.mem_of_getElem? (i := 55) rfl)
theorem zR37_25 {sh : Nat → Nat × Nat} {R : Nat → Nat → Option Nat} (h : SF sh R) : R 37 25 = some 58 := h.2 (37, 25, 58) (List.mem_of_getElem? (i := 56) rfl)
theorem zR37_29 {sh : Nat → Nat × Nat} {R : Nat → Nat → Option Nat} (h : SF sh R) : R 37 29 = some 59 := h.2 (37, 29, 59) (List.mem_of_getElem? (i := 57) rfl)
theorem zR37_31 {sh : Nat → Nat × Nat} {R : Nat → Nat → Option Nat} (h : SF sh R) : R 37 31 = some 60 := h.2 (37, 31, 60) (List.mem_of_getElem? (i := 58) rfl)
theorem zR37_32 {sh : Nat → Nat × Nat} {R : Nat → Nat → Option Nat} (h : SF sh R) : R 37 32 = some 61 := h.2 (37, 32, 61) (List.mem_of_getElem? (i := 59) rfl)
theorem zR37_33 {sh : Nat → Nat × Nat} {R : Nat → Nat → Option Nat} (h : SF sh R) : R 37 33 = some 62 := h.2 (37, 33, 62) (List.mem_of_getElem? (i := 60) rfl)
theorem zR37_34 {sh : Nat → Nat × Nat} {R : Nat → Nat → Option Nat} (h : SF sh R) : R 37 34 = some 63 := h.2 (37, 34, 63) (List.mem_of_getElem? (i := 61) rfl)
theorem zR37_35 {sh : Nat → Nat × Nat} {R : Nat → Nat → Option Nat} (h : SF sh R) : R 37 35 = some 64 := h.2 (37, 35, 64) (List.mem_of_getElem? (i := 62) rfl)
theorem zR37_40 {sh : Nat → Nat × Nat} {R : Nat → Nat → Option Nat} (h : SF sh R) : R 37 40 = some 65 := h.2 (37, 40, 65) (List.mem_of_getElem? (i := 63) rfl)
theorem zR37_41 {sh : Nat → Nat × Nat} {R : Nat → Nat → Option Nat} (h : SF sh R) : R 37 41 = some 66 := h.2 (37, 41, 66) (List.mem_of_getElem? (i := 64) rfl)
theorem zR37_45 {sh : Nat → Nat × Nat} {R : Nat → Nat → Option Nat} (h : SF sh R) : R 37 45 = some 67 := h.2 (37, 45, 67) (List.mem_of_getElem? (i := 65) rfl)
theorem zR37_46 {sh : Nat → Nat × Nat} {R : Nat → Nat → Option Nat} (h : SF sh R) : R 37 46 = some 68 := h.2 (37, 46, 68) (List.mem_of_getElem? (i := 66) rfl)
theorem zR37_47 {sh : Nat → Nat × Nat} {R : Nat → Nat → Option Nat} (h : SF sh R) : R 37 47 = some 69 := h.2 (37, 47, 69) (List.mem_of_getElem? (i := 67) rfl)
theorem zR37_49 {sh : Nat → Nat × Nat} {R : Nat → Nat → Option Nat} (h : SF sh R) : R 37 49 = some 70 := h.2 (37, 49, 70) (List.mem_of_getElem? (i := 68) rfl)
theorem u2_pa {α : Type} {f : Nat → Nat → α} {a k b j : Nat} {x : α} (h : b ≠ a) : u2 f a k x b j = f b j := by unfold u2; rw [if_neg (fun z => h z.1)]
theorem u2_pj {α : Type} {f : Nat → Nat → α} {a b k j : Nat} {x : α} (h : j ≠ k) : u2 f a k x b j = f b j := by unfold u2; rw [if_neg (fun z => h z.2)]
theorem u2_at0 {α : Type} {f : Nat → Nat → α} {a k : Nat} {x : α} : u2 f a k x a k = x := by unfold u2; rw [if_pos ⟨rfl, rfl⟩]
theorem tq {α : Type} {a b c : α} (h1 : a = b) (h2 : b = c) : a = c := h1.trans h2
theorem cat_i {x : Int32} : (Value.int x).category = 1 := rfl
theorem cat_l {x : Int64} : (Value.long x).category = 2 := rfl
theorem cat_r {x : Nat} : (Value.ref x).category = 1 := rfl
def ush (x y : Int32) : Int32 := (x.toUInt32 >>> (y.toUInt32 &&& Int32.toUInt32 31)).toInt32
theorem E_ush {X : XX} {d y pc n : Nat} {k k2 : List Nat} {ls r : List Value} {h : HP} {x y' : Int32} (hf : fr y pc = some (.iushr, n, k, k2)) : exe X d y pc ls (.int y' :: .int x :: r) h = exe X d y (pc + n) (kil k ls) (.int (ush x y') :: r) h := E_iushr hf
theorem exe_i {X : XX} {d y pc : Nat} {ls st : List Value} {h : HP} {x x' : Int32} (e : x = x') : exe X d y pc ls (.int x :: st) h = exe X d y pc ls (.int x' :: st) h := by rw [e]
section GP
variable {X : XX} {d y pc n : Nat} {k k2 : List Nat} {ls r : List Value} {sz sl : Nat} {sh : Nat → Nat × Nat} {R : Nat → Nat → Option Nat} {I : Nat → Nat → Int32} {J : Nat → Nat → Int64}
theorem G0 {v : Value} (hf : fr y pc = some (.getfield 0, n, k, k2)) : exe X d y pc ls (v :: r) (sz, sl, sh, R, I, J) = rf v fun p => if sh p = (7, 0) then exe X d y (pc + n) (kil k ls) (rfv (R p 0) :: r) (sz, sl, sh, R, I, J) else none := E_getR (by decide +kernel) (by decide +kernel) (by decide +kernel) (by decide +kernel) hf
theorem P0 {v w : Value} (hf : fr y pc = some (.putfield 0, n, k, k2)) : exe X d y pc ls (w :: v :: r) (sz, sl, sh, R, I, J) = rf v fun p => orf w fun q => if sh p = (7, 0) then exe X d y (pc + n) (kil k ls) r (sz, sl, sh, u2 R p 0 q, I, J) else none := E_putR (by decide +kernel) (by decide +kernel) (by decide +kernel) (by decide +kernel) hf
theorem G1 {v : Value} (hf : fr y pc = some (.getfield 1, n, k, k2)) : exe X d y pc ls (v :: r) (sz, sl, sh, R, I, J) = rf v fun p => if sh p = (7, 0) then exe X d y (pc + n) (kil k ls) (.int (I p 1) :: r) (sz, sl, sh, R, I, J) else none := E_getI (by decide +kernel) (by decide +kernel) (by decide +kernel) (by decide +kernel) hf
theorem P1 {v : Value} {x : Int32} (hf : fr y pc = some (.putfield 1, n, k, k2)) : exe X d y pc ls (.int x :: v :: r) (sz, sl, sh, R, I, J) = rf v fun p => if sh p = (7, 0) then exe X d y (pc + n) (kil k ls) r (sz, sl, sh, R, u2 I p 1 x, J) else none := E_putI (by decide +kernel) (by decide +kernel) (by decide +kernel) (by decide +kernel) hf
theorem G2 {v : Value} (hf : fr y pc = some (.getfield 2, n, k, k2)) : exe X d y pc ls (v :: r) (sz, sl, sh, R, I, J) = rf v fun p => if sh p = (7, 0) then exe X d y (pc + n) (kil k ls) (rfv (R p 2) :: r) (sz, sl, sh, R, I, J) else none := E_getR (by decide +kernel) (by decide +kernel) (by decide +kernel) (by decide +kernel) hf
theorem P2 {v w : Value} (hf : fr y pc = some (.putfield 2, n, k, k2)) : exe X d y pc ls (w :: v :: r) (sz, sl, sh, R, I, J) = rf v fun p => orf w fun q => if sh p = (7, 0) then exe X d y (pc + n) (kil k ls) r (sz, sl, sh, u2 R p 2 q, I, J) else none := E_putR (by decide +kernel) (by decide +kernel) (by decide +kernel) (by decide +kernel) hf
theorem G3 {v : Value} (hf : fr y pc = some (.getfield 3, n, k, k2)) : exe X d y pc ls (v :: r) (sz, sl, sh, R, I, J) = rf v fun p => if sh p = (7, 0) then exe X d y (pc + n) (kil k ls) (rfv (R p 3) :: r) (sz, sl, sh, R, I, J) else none := E_getR (by decide +kernel) (by decide +kernel) (by decide +kernel) (by decide +kernel) hf
theorem P3 {v w : Value} (hf : fr y pc = some (.putfield 3, n, k, k2)) : exe X d y pc ls (w :: v :: r) (sz, sl, sh, R, I, J) = rf v fun p => orf w fun q => if sh p = (7, 0) then exe X d y (pc + n) (kil k ls) r (sz, sl, sh, u2 R p 3 q, I, J) else none := E_putR (by decide +kernel) (by decide +kernel) (by decide +kernel) (by decide +kernel) hf
theorem G4 {v : Value} (hf : fr y pc = some (.getfield 4, n, k, k2)) : exe X d y pc ls (v :: r) (sz, sl, sh, R, I, J) = rf v fun p => if sh p = (7, 0) then exe X d y (pc + n) (kil k ls) (.int (I p 4) :: r) (sz, sl, sh, R, I, J) else none := E_getI (by decide +kernel) (by decide +kernel) (by decide +kernel) (by decide +kernel) hf
theorem P4 {v : Value} {x : Int32} (hf : fr y pc = some (.putfield 4, n, k, k2)) : exe X d y pc ls (.int x :: v :: r) (sz, sl, sh, R, I, J) = rf v fun p => if sh p = (7, 0) then exe X d y (pc + n) (kil k ls) r (sz, sl, sh, R, u2 I p 4 x, J) else none := E_putI (by decide +kernel) (by decide +kernel) (by decide +kernel) (by decide +kernel) hf
theorem G5 {v : Value} (hf : fr y pc = some (.getfield 5, n, k, k2)) : exe X d y pc ls (v :: r) (sz, sl, sh, R, I, J) = rf v fun p => if sh p = (7, 0) then exe X d y (pc + n) (kil k ls) (rfv (R p 5) :: r) (sz, sl, sh, R, I, J) else none := E_getR (by decide +kernel) (by decide +kernel) (by decide +kernel) (by decide +kernel) hf
theorem P5 {v w : Value} (hf : fr y pc = some (.putfield 5, n, k, k2)) : exe X d y pc ls (w :: v :: r) (sz, sl, sh, R, I, J) = rf v fun p => orf w fun q => if sh p = (7, 0) then exe X d y (pc + n) (kil k ls) r (sz, sl, sh, u2 R p 5 q, I, J) else none := E_putR (by decide +kernel) (by decide +kernel) (by decide +kernel) (by decide +kernel) hf
theorem G6 {v : Value} (hf : fr y pc = some (.getfield 6, n, k, k2)) : exe X d y pc ls (v :: r) (sz, sl, sh, R, I, J) = rf v fun p => if sh p = (7, 0) then exe X d y (pc + n) (kil k ls) (.int (I p 6) :: r) (sz, sl, sh, R, I, J) else none := E_getI (by decide +kernel) (by decide +kernel) (by decide +kernel) (by decide +kernel) hf
theorem P6 {v : Value} {x : Int32} (hf : fr y pc = some (.putfield 6, n, k, k2)) : exe X d y pc ls (.int x :: v :: r) (sz, sl, sh, R, I, J) = rf v fun p => if sh p = (7, 0) then exe X d y (pc + n) (kil k ls) r (sz, sl, sh, R, u2 I p 6 x, J) else none := E_putI (by decide +kernel) (by decide +kernel) (by decide +kernel) (by decide +kernel) hf
theorem G7 {v : Value} (hf : fr y pc = some (.getfield 7, n, k, k2)) : exe X d y pc ls (v :: r) (sz, sl, sh, R, I, J) = rf v fun p => if sh p = (7, 0) then exe X d y (pc + n) (kil k ls) (rfv (R p 7) :: r) (sz, sl, sh, R, I, J) else none := E_getR (by decide +kernel) (by decide +kernel) (by decide +kernel) (by decide +kernel) hf
theorem P7 {v w : Value} (hf : fr y pc = some (.putfield 7, n, k, k2)) : exe X d y pc ls (w :: v :: r) (sz, sl, sh, R, I, J) = rf v fun p => orf w fun q => if sh p = (7, 0) then exe X d y (pc + n) (kil k ls) r (sz, sl, sh, u2 R p 7 q, I, J) else none := E_putR (by decide +kernel) (by decide +kernel) (by decide +kernel) (by decide +kernel) hf
theorem G8 {v : Value} (hf : fr y pc = some (.getfield 8, n, k, k2)) : exe X d y pc ls (v :: r) (sz, sl, sh, R, I, J) = rf v fun p => if sh p = (7, 0) then exe X d y (pc + n) (kil k ls) (rfv (R p 8) :: r) (sz, sl, sh, R, I, J) else none := E_getR (by decide +kernel) (by decide +kernel) (by decide +kernel) (by decide +kernel) hf
theorem P8 {v w : Value} (hf : fr y pc = some (.putfield 8, n, k, k2)) : exe X d y pc ls (w :: v :: r) (sz, sl, sh, R, I, J) = rf v fun p => orf w fun q => if sh p = (7, 0) then exe X d y (pc + n) (kil k ls) r (sz, sl, sh, u2 R p 8 q, I, J) else none := E_putR (by decide +kernel) (by decide +kernel) (by decide +kernel) (by decide +kernel) hf
theorem G9 {v : Value} (hf : fr y pc = some (.getfield 9, n, k, k2)) : exe X d y pc ls (v :: r) (sz, sl, sh, R, I, J) = rf v fun p => if sh p = (7, 0) then exe X d y (pc + n) (kil k ls) (rfv (R p 9) :: r) (sz, sl, sh, R, I, J) else none := E_getR (by decide +kernel) (by decide +kernel) (by decide +kernel) (by decide +kernel) hf
theorem P9 {v w : Value} (hf : fr y pc = some (.putfield 9, n, k, k2)) : exe X d y pc ls (w :: v :: r) (sz, sl, sh, R, I, J) = rf v fun p => orf w fun q => if sh p = (7, 0) then exe X d y (pc + n) (kil k ls) r (sz, sl, sh, u2 R p 9 q, I, J) else none := E_putR (by decide +kernel) (by decide +kernel) (by decide +kernel) (by decide +kernel) hf
theorem G10 {v : Value} (hf : fr y pc = some (.getfield 10, n, k, k2)) : exe X d y pc ls (v :: r) (sz, sl, sh, R, I, J) = rf v fun p => if sh p = (7, 0) then exe X d y (pc + n) (kil k ls) (rfv (R p 10) :: r) (sz, sl, sh, R, I, J) else none := E_getR (by decide +kernel) (by decide +kernel) (by decide +kernel) (by decide +kernel) hf
theorem P10 {v w : Value} (hf : fr y pc = some (.putfield 10, n, k, k2)) : exe X d y pc ls (w :: v :: r) (sz, sl, sh, R, I, J) = rf v fun p => orf w fun q => if sh p = (7, 0) then exe X d y (pc + n) (kil k ls) r (sz, sl, sh, u2 R p 10 q, I, J) else none := E_putR (by decide +kernel) (by decide +kernel) (by decide +kernel) (by decide +kernel) hf
theorem G11 {v : Value} (hf : fr y pc = some (.getfield 11, n, k, k2)) : exe X d y pc ls (v :: r) (sz, sl, sh, R, I, J) = rf v fun p => if sh p = (7, 0) then exe X d y (pc + n) (kil k ls) (rfv (R p 11) :: r) (sz, sl, sh, R, I, J) else none := E_getR (by decide +kernel) (by decide +kernel) (by decide +kernel) (by decide +kernel) hf
theorem P11 {v w : Value} (hf : fr y pc = some (.putfield 11, n, k, k2)) : exe X d y pc ls (w :: v :: r) (sz, sl, sh, R, I, J) = rf v fun p => orf w fun q => if sh p = (7, 0) then exe X d y (pc + n) (kil k ls) r (sz, sl, sh, u2 R p 11 q, I, J) else none := E_putR (by decide +kernel) (by decide +kernel) (by decide +kernel) (by decide +kernel) hf
theorem G12 {v : Value} (hf : fr y pc = some (.getfield 12, n, k, k2)) : exe X d y pc ls (v :: r) (sz, sl, sh, R, I, J) = rf v fun p => if sh p = (7, 0) then exe X d y (pc + n) (kil k ls) (rfv (R p 12) :: r) (sz, sl, sh, R, I, J) else none := E_getR (by decide +kernel) (by decide +kernel) (by decide +kernel) (by decide +kernel) hf
theorem P12 {v w : Value} (hf : fr y pc = some (.putfield 12, n, k, k2)) : exe X d y pc ls (w :: v :: r) (sz, sl, sh, R, I, J) = rf v fun p => orf w fun q => if sh p = (7, 0) then exe X d y (pc + n) (kil k ls) r (sz, sl, sh, u2 R p 12 q, I, J) else none := E_putR (by decide +kernel) (by decide +kernel) (by decide +kernel) (by decide +kernel) hf
theorem G1000 {v : Value} (hf : fr y pc = some (.getfield 1000, n, k, k2)) : exe X d y pc ls (v :: r) (sz, sl, sh, R, I, J) = rf v fun p => if sh p = (8, 0) then exe X d y (pc + n) (kil k ls) (rfv (R p 0) :: r) (sz, sl, sh, R, I, J) else none := E_getR (by decide +kernel) (by decide +kernel) (by decide +kernel) (by decide +kernel) hf
theorem P1000 {v w : Value} (hf : fr y pc = some (.putfield 1000, n, k, k2)) : exe X d y pc ls (w :: v :: r) (sz, sl, sh, R, I, J) = rf v fun p => orf w fun q => if sh p = (8, 0) then exe X d y (pc + n) (kil k ls) r (sz, sl, sh, u2 R p 0 q, I, J) else none := E_putR (by decide +kernel) (by decide +kernel) (by decide +kernel) (by decide +kernel) hf
theorem G1001 {v : Value} (hf : fr y pc = some (.getfield 1001, n, k, k2)) : exe X d y pc ls (v :: r) (sz, sl, sh, R, I, J) = rf v fun p => if sh p = (8, 0) then exe X d y (pc + n) (kil k ls) (rfv (R p 1) :: r) (sz, sl, sh, R, I, J) else none := E_getR (by decide +kernel) (by decide +kernel) (by decide +kernel) (by decide +kernel) hf
theorem P1001 {v w : Value} (hf : fr y pc = some (.putfield 1001, n, k, k2)) : exe X d y pc ls (w :: v :: r) (sz, sl, sh, R, I, J) = rf v fun p => orf w fun q => if sh p = (8, 0) then exe X d y (pc + n) (kil k ls) r (sz, sl, sh, u2 R p 1 q, I, J) else none := E_putR (by decide +kernel) (by decide +kernel) (by decide +kernel) (by decide +kernel) hf
theorem G1002 {v : Value} (hf : fr y pc = some (.getfield 1002, n, k, k2)) : exe X d y pc ls (v :: r) (sz, sl, sh, R, I, J) = rf v fun p => if sh p = (8, 0) then exe X d y (pc + n) (kil k ls) (rfv (R p 2) :: r) (sz, sl, sh, R, I, J) else none := E_getR (by decide +kernel) (by decide +kernel) (by decide +kernel) (by decide +kernel) hf
theorem P1002 {v w : Value} (hf : fr y pc = some (.putfield 1002, n, k, k2)) : exe X d y pc ls (w :: v :: r) (sz, sl, sh, R, I, J) = rf v fun p => orf w fun q => if sh p = (8, 0) then exe X d y (pc + n) (kil k ls) r (sz, sl, sh, u2 R p 2 q, I, J) else none := E_putR (by decide +kernel) (by decide +kernel) (by decide +kernel) (by decide +kernel) hf
theorem G1003 {v : Value} (hf : fr y pc = some (.getfield 1003, n, k, k2)) : exe X d y pc ls (v :: r) (sz, sl, sh, R, I, J) = rf v fun p => if sh p = (8, 0) then exe X d y (pc + n) (kil k ls) (.int (I p 3) :: r) (sz, sl, sh, R, I, J) else none := E_getI (by decide +kernel) (by decide +kernel) (by decide +kernel) (by decide +kernel) hf
theorem P1003 {v : Value} {x : Int32} (hf : fr y pc = some (.putfield 1003, n, k, k2)) : exe X d y pc ls (.int x :: v :: r) (sz, sl, sh, R, I, J) = rf v fun p => if sh p = (8, 0) then exe X d y (pc + n) (kil k ls) r (sz, sl, sh, R, u2 I p 3 x, J) else none := E_putI (by decide +kernel) (by decide +kernel) (by decide +kernel) (by decide +kernel) hf
theorem G1004 {v : Value} (hf : fr y pc = some (.getfield 1004, n, k, k2)) : exe X d y pc ls (v :: r) (sz, sl, sh, R, I, J) = rf v fun p => if sh p = (8, 0) then exe X d y (pc + n) (kil k ls) (.int (I p 4) :: r) (sz, sl, sh, R, I, J) else none := E_getI (by decide +kernel) (by decide +kernel) (by decide +kernel) (by decide +kernel) hf
theorem P1004 {v : Value} {x : Int32} (hf : fr y pc = some (.putfield 1004, n, k, k2)) : exe X d y pc ls (.int x :: v :: r) (sz, sl, sh, R, I, J) = rf v fun p => if sh p = (8, 0) then exe X d y (pc + n) (kil k ls) r (sz, sl, sh, R, u2 I p 4 x, J) else none := E_putI (by decide +kernel) (by decide +kernel) (by decide +kernel) (by decide +kernel) hf
theorem G2000 {v : Value} (hf : fr y pc = some (.getfield 2000, n, k, k2)) : exe X d y pc ls (v :: r) (sz, sl, sh, R, I, J) = rf v fun p => if sh p = (9, 0) then exe X d y (pc + n) (kil k ls) (rfv (R p 0) :: r) (sz, sl, sh, R, I, J) else none := E_getR (by decide +kernel) (by decide +kernel) (by decide +kernel) (by decide +kernel) hf
theorem P2000 {v w : Value} (hf : fr y pc = some (.putfield 2000, n, k, k2)) : exe X d y pc ls (w :: v :: r) (sz, sl, sh, R, I, J) = rf v fun p => orf w fun q => if sh p = (9, 0) then exe X d y (pc + n) (kil k ls) r (sz, sl, sh, u2 R p 0 q, I, J) else none := E_putR (by decide +kernel) (by decide +kernel) (by decide +kernel) (by decide +kernel) hf
theorem G2001 {v : Value} (hf : fr y pc = some (.getfield 2001, n, k, k2)) : exe X d y pc ls (v :: r) (sz, sl, sh, R, I, J) = rf v fun p => if sh p = (9, 0) then exe X d y (pc + n) (kil k ls) (.int (I p 1) :: r) (sz, sl, sh, R, I, J) else none := E_getI (by decide +kernel) (by decide +kernel) (by decide +kernel) (by decide +kernel) hf
theorem P2001 {v : Value} {x : Int32} (hf : fr y pc = some (.putfield 2001, n, k, k2)) : exe X d y pc ls (.int x :: v :: r) (sz, sl, sh, R, I, J) = rf v fun p => if sh p = (9, 0) then exe X d y (pc + n) (kil k ls) r (sz, sl, sh, R, u2 I p 1 x, J) else none := E_putI (by decide +kernel) (by decide +kernel) (by decide +kernel) (by decide +kernel) hf
theorem G3000 {v : Value} (hf : fr y pc = some (.getfield 3000, n, k, k2)) : exe X d y pc ls (v :: r) (sz, sl, sh, R, I, J) = rf v fun p => if sh p = (10, 0) then exe X d y (pc + n) (kil k ls) (rfv (R p 0) :: r) (sz, sl, sh, R, I, J) else none := E_getR (by decide +kernel) (by decide +kernel) (by decide +kernel) (by decide +kernel) hf
theorem P3000 {v w : Value} (hf : fr y pc = some (.putfield 3000, n, k, k2)) : exe X d y pc ls (w :: v :: r) (sz, sl, sh, R, I, J) = rf v fun p => orf w fun q => if sh p = (10, 0) then exe X d y (pc + n) (kil k ls) r (sz, sl, sh, u2 R p 0 q, I, J) else none := E_putR (by decide +kernel) (by decide +kernel) (by decide +kernel) (by decide +kernel) hf
theorem G3001 {v : Value} (hf : fr y pc = some (.getfield 3001, n, k, k2)) : exe X d y pc ls (v :: r) (sz, sl, sh, R, I, J) = rf v fun p => if sh p = (10, 0) then exe X d y (pc + n) (kil k ls) (rfv (R p 1) :: r) (sz, sl, sh, R, I, J) else none := E_getR (by decide +kernel) (by decide +kernel) (by decide +kernel) (by decide +kernel) hf
theorem P3001 {v w : Value} (hf : fr y pc = some (.putfield 3001, n, k, k2)) : exe X d y pc ls (w :: v :: r) (sz, sl, sh, R, I, J) = rf v fun p => orf w fun q => if sh p = (10, 0) then exe X d y (pc + n) (kil k ls) r (sz, sl, sh, u2 R p 1 q, I, J) else none := E_putR (by decide +kernel) (by decide +kernel) (by decide +kernel) (by decide +kernel) hf
theorem G3002 {v : Value} (hf : fr y pc = some (.getfield 3002, n, k, k2)) : exe X d y pc ls (v :: r) (sz, sl, sh, R, I, J) = rf v fun p => if sh p = (10, 0) then exe X d y (pc + n) (kil k ls) (rfv (R p 2) :: r) (sz, sl, sh, R, I, J) else none := E_getR (by decide +kernel) (by decide +kernel) (by decide +kernel) (by decide +kernel) hf
theorem P3002 {v w : Value} (hf : fr y pc = some (.putfield 3002, n, k, k2)) : exe X d y pc ls (w :: v :: r) (sz, sl, sh, R, I, J) = rf v fun p => orf w fun q => if sh p = (10, 0) then exe X d y (pc + n) (kil k ls) r (sz, sl, sh, u2 R p 2 q, I, J) else none := E_putR (by decide +kernel) (by decide +kernel) (by decide +kernel) (by decide +kernel) hf
theorem G4000 {v : Value} (hf : fr y pc = some (.getfield 4000, n, k, k2)) : exe X d y pc ls (v :: r) (sz, sl, sh, R, I, J) = rf v fun p => if sh p = (11, 0) then exe X d y (pc + n) (kil k ls) (rfv (R p 0) :: r) (sz, sl, sh, R, I, J) else none := E_getR (by decide +kernel) (by decide +kernel) (by decide +kernel) (by decide +kernel) hf
theorem P4000 {v w : Value} (hf : fr y pc = some (.putfield 4000, n, k, k2)) : exe X d y pc ls (w :: v :: r) (sz, sl, sh, R, I, J) = rf v fun p => orf w fun q => if sh p = (11, 0) then exe X d y (pc + n) (kil k ls) r (sz, sl, sh, u2 R p 0 q, I, J) else none := E_putR (by decide +kernel) (by decide +kernel) (by decide +kernel) (by decide +kernel) hf
theorem G4001 {v : Value} (hf : fr y pc = some (.getfield 4001, n, k, k2)) : exe X d y pc ls (v :: r) (sz, sl, sh, R, I, J) = rf v fun p => if sh p = (11, 0) then exe X d y (pc + n) (kil k ls) (rfv (R p 1) :: r) (sz, sl, sh, R, I, J) else none := E_getR (by decide +kernel) (by decide +kernel) (by decide +kernel) (by decide +kernel) hf
theorem P4001 {v w : Value} (hf : fr y pc = some (.putfield 4001, n, k, k2)) : exe X d y pc ls (w :: v :: r) (sz, sl, sh, R, I, J) = rf v fun p => orf w fun q => if sh p = (11, 0) then exe X d y (pc + n) (kil k ls) r (sz, sl, sh, u2 R p 1 q, I, J) else none := E_putR (by decide +kernel) (by decide +kernel) (by decide +kernel) (by decide +kernel) hf
theorem G4002 {v : Value} (hf : fr y pc = some (.getfield 4002, n, k, k2)) : exe X d y pc ls (v :: r) (sz, sl, sh, R, I, J) = rf v fun p => if sh p = (11, 0) then exe X d y (pc + n) (kil k ls) (.int (I p 2) :: r) (sz, sl, sh, R, I, J) else none := E_getI (by decide +kernel) (by decide +kernel) (by decide +kernel) (by decide +kernel) hf
theorem P4002 {v : Value} {x : Int32} (hf : fr y pc = some (.putfield 4002, n, k, k2)) : exe X d y pc ls (.int x :: v :: r) (sz, sl, sh, R, I, J) = rf v fun p => if sh p = (11, 0) then exe X d y (pc + n) (kil k ls) r (sz, sl, sh, R, u2 I p 2 x, J) else none := E_putI (by decide +kernel) (by decide +kernel) (by decide +kernel) (by decide +kernel) hf
theorem G4003 {v : Value} (hf : fr y pc = some (.getfield 4003, n, k, k2)) : exe X d y pc ls (v :: r) (sz, sl, sh, R, I, J) = rf v fun p => if sh p = (11, 0) then exe X d y (pc + n) (kil k ls) (.int (I p 3) :: r) (sz, sl, sh, R, I, J) else none := E_getI (by decide +kernel) (by decide +kernel) (by decide +kernel) (by decide +kernel) hf
theorem P4003 {v : Value} {x : Int32} (hf : fr y pc = some (.putfield 4003, n, k, k2)) : exe X d y pc ls (.int x :: v :: r) (sz, sl, sh, R, I, J) = rf v fun p => if sh p = (11, 0) then exe X d y (pc + n) (kil k ls) r (sz, sl, sh, R, u2 I p 3 x, J) else none := E_putI (by decide +kernel) (by decide +kernel) (by decide +kernel) (by decide +kernel) hf
theorem G4004 {v : Value} (hf : fr y pc = some (.getfield 4004, n, k, k2)) : exe X d y pc ls (v :: r) (sz, sl, sh, R, I, J) = rf v fun p => if sh p = (11, 0) then exe X d y (pc + n) (kil k ls) (.int (I p 4) :: r) (sz, sl, sh, R, I, J) else none := E_getI (by decide +kernel) (by decide +kernel) (by decide +kernel) (by decide +kernel) hf
theorem P4004 {v : Value} {x : Int32} (hf : fr y pc = some (.putfield 4004, n, k, k2)) : exe X d y pc ls (.int x :: v :: r) (sz, sl, sh, R, I, J) = rf v fun p => if sh p = (11, 0) then exe X d y (pc + n) (kil k ls) r (sz, sl, sh, R, u2 I p 4 x, J) else none := E_putI (by decide +kernel) (by decide +kernel) (by decide +kernel) (by decide +kernel) hf
theorem G5000 {v : Value} (hf : fr y pc = some (.getfield 5000, n, k, k2)) : exe X d y pc ls (v :: r) (sz, sl, sh, R, I, J) = rf v fun p => if sh p = (12, 0) then exe X d y (pc + n) (kil k ls) (rfv (R p 0) :: r) (sz, sl, sh, R, I, J) else none := E_getR (by decide +kernel) (by decide +kernel) (by decide +kernel) (by decide +kernel) hf
theorem P5000 {v w : Value} (hf : fr y pc = some (.putfield 5000, n, k, k2)) : exe X d y pc ls (w :: v :: r) (sz, sl, sh, R, I, J) = rf v fun p => orf w fun q => if sh p = (12, 0) then exe X d y (pc + n) (kil k ls) r (sz, sl, sh, u2 R p 0 q, I, J) else none := E_putR (by decide +kernel) (by decide +kernel) (by decide +kernel) (by decide +kernel) hf
theorem G5001 {v : Value} (hf : fr y pc = some (.getfield 5001, n, k, k2)) : exe X d y pc ls (v :: r) (sz, sl, sh, R, I, J) = rf v fun p => if sh p = (12, 0) then exe X d y (pc + n) (kil k ls) (rfv (R p 1) :: r) (sz, sl, sh, R, I, J) else none := E_getR (by decide +kernel) (by decide +kernel) (by decide +kernel) (by decide +kernel) hf
theorem P5001 {v w : Value} (hf : fr y pc = some (.putfield 5001, n, k, k2)) : exe X d y pc ls (w :: v :: r) (sz, sl, sh, R, I, J) = rf v fun p => orf w fun q => if sh p = (12, 0) then exe X d y (pc + n) (kil k ls) r (sz, sl, sh, u2 R p 1 q, I, J) else none := E_putR (by decide +kernel) (by decide +kernel) (by decide +kernel) (by decide +kernel) hf
theorem G5002 {v : Value} (hf : fr y pc = some (.getfield 5002, n, k, k2)) : exe X d y pc ls (v :: r) (sz, sl, sh, R, I, J) = rf v fun p => if sh p = (12, 0) then exe X d y (pc + n) (kil k ls) (rfv (R p 2) :: r) (sz, sl, sh, R, I, J) else none := E_getR (by decide +kernel) (by decide +kernel) (by decide +kernel) (by decide +kernel) hf
theorem P5002 {v w : Value} (hf : fr y pc = some (.putfield 5002, n, k, k2)) : exe X d y pc ls (w :: v :: r) (sz, sl, sh, R, I, J) = rf v fun p => orf w fun q => if sh p = (12, 0) then exe X d y (pc + n) (kil k ls) r (sz, sl, sh, u2 R p 2 q, I, J) else none := E_putR (by decide +kernel) (by decide +kernel) (by decide +kernel) (by decide +kernel) hf
theorem G5003 {v : Value} (hf : fr y pc = some (.getfield 5003, n, k, k2)) : exe X d y pc ls (v :: r) (sz, sl, sh, R, I, J) = rf v fun p => if sh p = (12, 0) then exe X d y (pc + n) (kil k ls) (.int (I p 3) :: r) (sz, sl, sh, R, I, J) else none := E_getI (by decide +kernel) (by decide +kernel) (by decide +kernel) (by decide +kernel) hf
theorem P5003 {v : Value} {x : Int32} (hf : fr y pc = some (.putfield 5003, n, k, k2)) : exe X d y pc ls (.int x :: v :: r) (sz, sl, sh, R, I, J) = rf v fun p => if sh p = (12, 0) then exe X d y (pc + n) (kil k ls) r (sz, sl, sh, R, u2 I p 3 x, J) else none := E_putI (by decide +kernel) (by decide +kernel) (by decide +kernel) (by decide +kernel) hf
theorem G6000 {v : Value} (hf : fr y pc = some (.getfield 6000, n, k, k2)) : exe X d y pc ls (v :: r) (sz, sl, sh, R, I, J) = rf v fun p => if sh p = (13, 0) then exe X d y (pc + n) (kil k ls) (rfv (R p 0) :: r) (sz, sl, sh, R, I, J) else none := E_getR (by decide +kernel) (by decide +kernel) (by decide +kernel) (by decide +kernel) hf
theorem P6000 {v w : Value} (hf : fr y pc = some (.putfield 6000, n, k, k2)) : exe X d y pc ls (w :: v :: r) (sz, sl, sh, R, I, J) = rf v fun p => orf w fun q => if sh p = (13, 0) then exe X d y (pc + n) (kil k ls) r (sz, sl, sh, u2 R p 0 q, I, J) else none := E_putR (by decide +kernel) (by decide +kernel) (by decide +kernel) (by decide +kernel) hf
theorem G6001 {v : Value} (hf : fr y pc = some (.getfield 6001, n, k, k2)) : exe X d y pc ls (v :: r) (sz, sl, sh, R, I, J) = rf v fun p => if sh p = (13, 0) then exe X d y (pc + n) (kil k ls) (rfv (R p 1) :: r) (sz, sl, sh, R, I, J) else none := E_getR (by decide +kernel) (by decide +kernel) (by decide +kernel) (by decide +kernel) hf
theorem P6001 {v w : Value} (hf : fr y pc = some (.putfield 6001, n, k, k2)) : exe X d y pc ls (w :: v :: r) (sz, sl, sh, R, I, J) = rf v fun p => orf w fun q => if sh p = (13, 0) then exe X d y (pc + n) (kil k ls) r (sz, sl, sh, u2 R p 1 q, I, J) else none := E_putR (by decide +kernel) (by decide +kernel) (by decide +kernel) (by decide +kernel) hf
theorem G6002 {v : Value} (hf : fr y pc = some (.getfield 6002, n, k, k2)) : exe X d y pc ls (v :: r) (sz, sl, sh, R, I, J) = rf v fun p => if sh p = (13, 0) then exe X d y (pc + n) (kil k ls) (rfv (R p 2) :: r) (sz, sl, sh, R, I, J) else none := E_getR (by decide +kernel) (by decide +kernel) (by decide +kernel) (by decide +kernel) hf
theorem P6002 {v w : Value} (hf : fr y pc = some (.putfield 6002, n, k, k2)) : exe X d y pc ls (w :: v :: r) (sz, sl, sh, R, I, J) = rf v fun p => orf w fun q => if sh p = (13, 0) then exe X d y (pc + n) (kil k ls) r (sz, sl, sh, u2 R p 2 q, I, J) else none := E_putR (by decide +kernel) (by decide +kernel) (by decide +kernel) (by decide +kernel) hf
theorem G6003 {v : Value} (hf : fr y pc = some (.getfield 6003, n, k, k2)) : exe X d y pc ls (v :: r) (sz, sl, sh, R, I, J) = rf v fun p => if sh p = (13, 0) then exe X d y (pc + n) (kil k ls) (.int (I p 3) :: r) (sz, sl, sh, R, I, J) else none := E_getI (by decide +kernel) (by decide +kernel) (by decide +kernel) (by decide +kernel) hf
theorem P6003 {v : Value} {x : Int32} (hf : fr y pc = some (.putfield 6003, n, k, k2)) : exe X d y pc ls (.int x :: v :: r) (sz, sl, sh, R, I, J) = rf v fun p => if sh p = (13, 0) then exe X d y (pc + n) (kil k ls) r (sz, sl, sh, R, u2 I p 3 x, J) else none := E_putI (by decide +kernel) (by decide +kernel) (by decide +kernel) (by decide +kernel) hf
theorem G6004 {v : Value} (hf : fr y pc = some (.getfield 6004, n, k, k2)) : exe X d y pc ls (v :: r) (sz, sl, sh, R, I, J) = rf v fun p => if sh p = (13, 0) then exe X d y (pc + n) (kil k ls) (.int (I p 4) :: r) (sz, sl, sh, R, I, J) else none := E_getI (by decide +kernel) (by decide +kernel) (by decide +kernel) (by decide +kernel) hf
theorem P6004 {v : Value} {x : Int32} (hf : fr y pc = some (.putfield 6004, n, k, k2)) : exe X d y pc ls (.int x :: v :: r) (sz, sl, sh, R, I, J) = rf v fun p => if sh p = (13, 0) then exe X d y (pc + n) (kil k ls) r (sz, sl, sh, R, u2 I p 4 x, J) else none := E_putI (by decide +kernel) (by decide +kernel) (by decide +kernel) (by decide +kernel) hf
theorem G6005 {v : Value} (hf : fr y pc = some (.getfield 6005, n, k, k2)) : exe X d y pc ls (v :: r) (sz, sl, sh, R, I, J) = rf v fun p => if sh p = (13, 0) then exe X d y (pc + n) (kil k ls) (.int (I p 5) :: r) (sz, sl, sh, R, I, J) else none := E_getI (by decide +kernel) (by decide +kernel) (by decide +kernel) (by decide +kernel) hf
theorem P6005 {v : Value} {x : Int32} (hf : fr y pc = some (.putfield 6005, n, k, k2)) : exe X d y pc ls (.int x :: v :: r) (sz, sl, sh, R, I, J) = rf v fun p => if sh p = (13, 0) then exe X d y (pc + n) (kil k ls) r (sz, sl, sh, R, u2 I p 5 x, J) else none := E_putI (by decide +kernel) (by decide +kernel) (by decide +kernel) (by decide +kernel) hf
theorem G7000 {v : Value} (hf : fr y pc = some (.getfield 7000, n, k, k2)) : exe X d y pc ls (v :: r) (sz, sl, sh, R, I, J) = rf v fun p => if sh p = (14, 0) then exe X d y (pc + n) (kil k ls) (rfv (R p 0) :: r) (sz, sl, sh, R, I, J) else none := E_getR (by decide +kernel) (by decide +kernel) (by decide +kernel) (by decide +kernel) hf
theorem P7000 {v w : Value} (hf : fr y pc = some (.putfield 7000, n, k, k2)) : exe X d y pc ls (w :: v :: r) (sz, sl, sh, R, I, J) = rf v fun p => orf w fun q => if sh p = (14, 0) then exe X d y (pc + n) (kil k ls) r (sz, sl, sh, u2 R p 0 q, I, J) else none := E_putR (by decide +kernel) (by decide +kernel) (by decide +kernel) (by decide +kernel) hf
theorem G7001 {v : Value} (hf : fr y pc = some (.getfield 7001, n, k, k2)) : exe X d y pc ls (v :: r) (sz, sl, sh, R, I, J) = rf v fun p => if sh p = (14, 0) then exe X d y (pc + n) (kil k ls) (.int (I p 1) :: r) (sz, sl, sh, R, I, J) else none := E_getI (by decide +kernel) (by decide +kernel) (by decide +kernel) (by decide +kernel) hf
theorem P7001 {v : Value} {x : Int32} (hf : fr y pc = some (.putfield 7001, n, k, k2)) : exe X d y pc ls (.int x :: v :: r) (sz, sl, sh, R, I, J) = rf v fun p => if sh p = (14, 0) then exe X d y (pc + n) (kil k ls) r (sz, sl, sh, R, u2 I p 1 x, J) else none := E_putI (by decide +kernel) (by decide +kernel) (by decide +kernel) (by decide +kernel) hf
theorem G7002 {v : Value} (hf : fr y pc = some (.getfield 7002, n, k, k2)) : exe X d y pc ls (v :: r) (sz, sl, sh, R, I, J) = rf v fun p => if sh p = (14, 0) then exe X d y (pc + n) (kil k ls) (.int (I p 2) :: r) (sz, sl, sh, R, I, J) else none := E_getI (by decide +kernel) (by decide +kernel) (by decide +kernel) (by decide +kernel) hf
theorem P7002 {v : Value} {x : Int32} (hf : fr y pc = some (.putfield 7002, n, k, k2)) : exe X d y pc ls (.int x :: v :: r) (sz, sl, sh, R, I, J) = rf v fun p => if sh p = (14, 0) then exe X d y (pc + n) (kil k ls) r (sz, sl, sh, R, u2 I p 2 x, J) else none := E_putI (by decide +kernel) (by decide +kernel) (by decide +kernel) (by decide +kernel) hf
theorem G7003 {v : Value} (hf : fr y pc = some (.getfield 7003, n, k, k2)) : exe X d y pc ls (v :: r) (sz, sl, sh, R, I, J) = rf v fun p => if sh p = (14, 0) then exe X d y (pc + n) (kil k ls) (.int (I p 3) :: r) (sz, sl, sh, R, I, J) else none := E_getI (by decide +kernel) (by decide +kernel) (by decide +kernel) (by decide +kernel) hf
theorem P7003 {v : Value} {x : Int32} (hf : fr y pc = some (.putfield 7003, n, k, k2)) : exe X d y pc ls (.int x :: v :: r) (sz, sl, sh, R, I, J) = rf v fun p => if sh p = (14, 0) then exe X d y (pc + n) (kil k ls) r (sz, sl, sh, R, u2 I p 3 x, J) else none := E_putI (by decide +kernel) (by decide +kernel) (by decide +kernel) (by decide +kernel) hf
theorem G7004 {v : Value} (hf : fr y pc = some (.getfield 7004, n, k, k2)) : exe X d y pc ls (v :: r) (sz, sl, sh, R, I, J) = rf v fun p => if sh p = (14, 0) then exe X d y (pc + n) (kil k ls) (.int (I p 4) :: r) (sz, sl, sh, R, I, J) else none := E_getI (by decide +kernel) (by decide +kernel) (by decide +kernel) (by decide +kernel) hf
theorem P7004 {v : Value} {x : Int32} (hf : fr y pc = some (.putfield 7004, n, k, k2)) : exe X d y pc ls (.int x :: v :: r) (sz, sl, sh, R, I, J) = rf v fun p => if sh p = (14, 0) then exe X d y (pc + n) (kil k ls) r (sz, sl, sh, R, u2 I p 4 x, J) else none := E_putI (by decide +kernel) (by decide +kernel) (by decide +kernel) (by decide +kernel) hf
theorem G8000 {v : Value} (hf : fr y pc = some (.getfield 8000, n, k, k2)) : exe X d y pc ls (v :: r) (sz, sl, sh, R, I, J) = rf v fun p => if sh p = (15, 0) then exe X d y (pc + n) (kil k ls) (rfv (R p 0) :: r) (sz, sl, sh, R, I, J) else none := E_getR (by decide +kernel) (by decide +kernel) (by decide +kernel) (by decide +kernel) hf
theorem P8000 {v w : Value} (hf : fr y pc = some (.putfield 8000, n, k, k2)) : exe X d y pc ls (w :: v :: r) (sz, sl, sh, R, I, J) = rf v fun p => orf w fun q => if sh p = (15, 0) then exe X d y (pc + n) (kil k ls) r (sz, sl, sh, u2 R p 0 q, I, J) else none := E_putR (by decide +kernel) (by decide +kernel) (by decide +kernel) (by decide +kernel) hf
theorem G8001 {v : Value} (hf : fr y pc = some (.getfield 8001, n, k, k2)) : exe X d y pc ls (v :: r) (sz, sl, sh, R, I, J) = rf v fun p => if sh p = (15, 0) then exe X d y (pc + n) (kil k ls) (.int (I p 1) :: r) (sz, sl, sh, R, I, J) else none := E_getI (by decide +kernel) (by decide +kernel) (by decide +kernel) (by decide +kernel) hf
theorem P8001 {v : Value} {x : Int32} (hf : fr y pc = some (.putfield 8001, n, k, k2)) : exe X d y pc ls (.int x :: v :: r) (sz, sl, sh, R, I, J) = rf v fun p => if sh p = (15, 0) then exe X d y (pc + n) (kil k ls) r (sz, sl, sh, R, u2 I p 1 x, J) else none := E_putI (by decide +kernel) (by decide +kernel) (by decide +kernel) (by decide +kernel) hf
theorem G8002 {v : Value} (hf : fr y pc = some (.getfield 8002, n, k, k2)) : exe X d y pc ls (v :: r) (sz, sl, sh, R, I, J) = rf v fun p => if sh p = (15, 0) then exe X d y (pc + n) (kil k ls) (.int (I p 2) :: r) (sz, sl, sh, R, I, J) else none := E_getI (by decide +kernel) (by decide +kernel) (by decide +kernel) (by decide +kernel) hf
theorem P8002 {v : Value} {x : Int32} (hf : fr y pc = some (.putfield 8002, n, k, k2)) : exe X d y pc ls (.int x :: v :: r) (sz, sl, sh, R, I, J) = rf v fun p => if sh p = (15, 0) then exe X d y (pc + n) (kil k ls) r (sz, sl, sh, R, u2 I p 2 x, J) else none := E_putI (by decide +kernel) (by decide +kernel) (by decide +kernel) (by decide +kernel) hf
theorem G8003 {v : Value} (hf : fr y pc = some (.getfield 8003, n, k, k2)) : exe X d y pc ls (v :: r) (sz, sl, sh, R, I, J) = rf v fun p => if sh p = (15, 0) then exe X d y (pc + n) (kil k ls) (.int (I p 3) :: r) (sz, sl, sh, R, I, J) else none := E_getI (by decide +kernel) (by decide +kernel) (by decide +kernel) (by decide +kernel) hf
theorem P8003 {v : Value} {x : Int32} (hf : fr y pc = some (.putfield 8003, n, k, k2)) : exe X d y pc ls (.int x :: v :: r) (sz, sl, sh, R, I, J) = rf v fun p => if sh p = (15, 0) then exe X d y (pc + n) (kil k ls) r (sz, sl, sh, R, u2 I p 3 x, J) else none := E_putI (by decide +kernel) (by decide +kernel) (by decide +kernel) (by decide +kernel) hf
theorem G8004 {v : Value} (hf : fr y pc = some (.getfield 8004, n, k, k2)) : exe X d y pc ls (v :: r) (sz, sl, sh, R, I, J) = rf v fun p => if sh p = (15, 0) then exe X d y (pc + n) (kil k ls) (.int (I p 4) :: r) (sz, sl, sh, R, I, J) else none := E_getI (by decide +kernel) (by decide +kernel) (by decide +kernel) (by decide +kernel) hf
theorem P8004 {v : Value} {x : Int32} (hf : fr y pc = some (.putfield 8004, n, k, k2)) : exe X d y pc ls (.int x :: v :: r) (sz, sl, sh, R, I, J) = rf v fun p => if sh p = (15, 0) then exe X d y (pc + n) (kil k ls) r (sz, sl, sh, R, u2 I p 4 x, J) else none := E_putI (by decide +kernel) (by decide +kernel) (by decide +kernel) (by decide +kernel) hf
theorem G8005 {v : Value} (hf : fr y pc = some (.getfield 8005, n, k, k2)) : exe X d y pc ls (v :: r) (sz, sl, sh, R, I, J) = rf v fun p => if sh p = (15, 0) then exe X d y (pc + n) (kil k ls) (.int (I p 5) :: r) (sz, sl, sh, R, I, J) else none := E_getZ (by decide +kernel) (by decide +kernel) (by decide +kernel) (by decide +kernel) hf
theorem P8005 {v : Value} {x : Int32} (hx : x = 0 ∨ x = 1) (hf : fr y pc = some (.putfield 8005, n, k, k2)) : exe X d y pc ls (.int x :: v :: r) (sz, sl, sh, R, I, J) = rf v fun p => if sh p = (15, 0) then exe X d y (pc + n) (kil k ls) r (sz, sl, sh, R, u2 I p 5 x, J) else none := E_putZ (by decide +kernel) (by decide +kernel) (by decide +kernel) (by decide +kernel) hx hf
theorem G8006 {v : Value} (hf : fr y pc = some (.getfield 8006, n, k, k2)) : exe X d y pc ls (v :: r) (sz, sl, sh, R, I, J) = rf v fun p => if sh p = (15, 0) then exe X d y (pc + n) (kil k ls) (rfv (R p 6) :: r) (sz, sl, sh, R, I, J) else none := E_getR (by decide +kernel) (by decide +kernel) (by decide +kernel) (by decide +kernel) hf
theorem P8006 {v w : Value} (hf : fr y pc = some (.putfield 8006, n, k, k2)) : exe X d y pc ls (w :: v :: r) (sz, sl, sh, R, I, J) = rf v fun p => orf w fun q => if sh p = (15, 0) then exe X d y (pc + n) (kil k ls) r (sz, sl, sh, u2 R p 6 q, I, J) else none := E_putR (by decide +kernel) (by decide +kernel) (by decide +kernel) (by decide +kernel) hf
theorem G8007 {v : Value} (hf : fr y pc = some (.getfield 8007, n, k, k2)) : exe X d y pc ls (v :: r) (sz, sl, sh, R, I, J) = rf v fun p => if sh p = (15, 0) then exe X d y (pc + n) (kil k ls) (rfv (R p 7) :: r) (sz, sl, sh, R, I, J) else none := E_getR (by decide +kernel) (by decide +kernel) (by decide +kernel) (by decide +kernel) hf
theorem P8007 {v w : Value} (hf : fr y pc = some (.putfield 8007, n, k, k2)) : exe X d y pc ls (w :: v :: r) (sz, sl, sh, R, I, J) = rf v fun p => orf w fun q => if sh p = (15, 0) then exe X d y (pc + n) (kil k ls) r (sz, sl, sh, u2 R p 7 q, I, J) else none := E_putR (by decide +kernel) (by decide +kernel) (by decide +kernel) (by decide +kernel) hf
theorem G9000 {v : Value} (hf : fr y pc = some (.getfield 9000, n, k, k2)) : exe X d y pc ls (v :: r) (sz, sl, sh, R, I, J) = rf v fun p => if sh p = (16, 0) then exe X d y (pc + n) (kil k ls) (.int (I p 0) :: r) (sz, sl, sh, R, I, J) else none := E_getI (by decide +kernel) (by decide +kernel) (by decide +kernel) (by decide +kernel) hf
theorem P9000 {v : Value} {x : Int32} (hf : fr y pc = some (.putfield 9000, n, k, k2)) : exe X d y pc ls (.int x :: v :: r) (sz, sl, sh, R, I, J) = rf v fun p => if sh p = (16, 0) then exe X d y (pc + n) (kil k ls) r (sz, sl, sh, R, u2 I p 0 x, J) else none := E_putI (by decide +kernel) (by decide +kernel) (by decide +kernel) (by decide +kernel) hf
theorem G9001 {v : Value} (hf : fr y pc = some (.getfield 9001, n, k, k2)) : exe X d y pc ls (v :: r) (sz, sl, sh, R, I, J) = rf v fun p => if sh p = (16, 0) then exe X d y (pc + n) (kil k ls) (.int (I p 1) :: r) (sz, sl, sh, R, I, J) else none := E_getI (by decide +kernel) (by decide +kernel) (by decide +kernel) (by decide +kernel) hf
theorem P9001 {v : Value} {x : Int32} (hf : fr y pc = some (.putfield 9001, n, k, k2)) : exe X d y pc ls (.int x :: v :: r) (sz, sl, sh, R, I, J) = rf v fun p => if sh p = (16, 0) then exe X d y (pc + n) (kil k ls) r (sz, sl, sh, R, u2 I p 1 x, J) else none := E_putI (by decide +kernel) (by decide +kernel) (by decide +kernel) (by decide +kernel) hf
theorem G9002 {v : Value} (hf : fr y pc = some (.getfield 9002, n, k, k2)) : exe X d y pc ls (v :: r) (sz, sl, sh, R, I, J) = rf v fun p => if sh p = (16, 0) then exe X d y (pc + n) (kil k ls) (.int (I p 2) :: r) (sz, sl, sh, R, I, J) else none := E_getI (by decide +kernel) (by decide +kernel) (by decide +kernel) (by decide +kernel) hf
theorem P9002 {v : Value} {x : Int32} (hf : fr y pc = some (.putfield 9002, n, k, k2)) : exe X d y pc ls (.int x :: v :: r) (sz, sl, sh, R, I, J) = rf v fun p => if sh p = (16, 0) then exe X d y (pc + n) (kil k ls) r (sz, sl, sh, R, u2 I p 2 x, J) else none := E_putI (by decide +kernel) (by decide +kernel) (by decide +kernel) (by decide +kernel) hf
theorem G9003 {v : Value} (hf : fr y pc = some (.getfield 9003, n, k, k2)) : exe X d y pc ls (v :: r) (sz, sl, sh, R, I, J) = rf v fun p => if sh p = (16, 0) then exe X d y (pc + n) (kil k ls) (.int (I p 3) :: r) (sz, sl, sh, R, I, J) else none := E_getI (by decide +kernel) (by decide +kernel) (by decide +kernel) (by decide +kernel) hf
theorem P9003 {v : Value} {x : Int32} (hf : fr y pc = some (.putfield 9003, n, k, k2)) : exe X d y pc ls (.int x :: v :: r) (sz, sl, sh, R, I, J) = rf v fun p => if sh p = (16, 0) then exe X d y (pc + n) (kil k ls) r (sz, sl, sh, R, u2 I p 3 x, J) else none := E_putI (by decide +kernel) (by decide +kernel) (by decide +kernel) (by decide +kernel) hf
theorem G9004 {v : Value} (hf : fr y pc = some (.getfield 9004, n, k, k2)) : exe X d y pc ls (v :: r) (sz, sl, sh, R, I, J) = rf v fun p => if sh p = (16, 0) then exe X d y (pc + n) (kil k ls) (.int (I p 4) :: r) (sz, sl, sh, R, I, J) else none := E_getI (by decide +kernel) (by decide +kernel) (by decide +kernel) (by decide +kernel) hf
theorem P9004 {v : Value} {x : Int32} (hf : fr y pc = some (.putfield 9004, n, k, k2)) : exe X d y pc ls (.int x :: v :: r) (sz, sl, sh, R, I, J) = rf v fun p => if sh p = (16, 0) then exe X d y (pc + n) (kil k ls) r (sz, sl, sh, R, u2 I p 4 x, J) else none := E_putI (by decide +kernel) (by decide +kernel) (by decide +kernel) (by decide +kernel) hf
theorem G9005 {v : Value} (hf : fr y pc = some (.getfield 9005, n, k, k2)) : exe X d y pc ls (v :: r) (sz, sl, sh, R, I, J) = rf v fun p => if sh p = (16, 0) then exe X d y (pc + n) (kil k ls) (.int (I p 5) :: r) (sz, sl, sh, R, I, J) else none := E_getI (by decide +kernel) (by decide +kernel) (by decide +kernel) (by decide +kernel) hf
theorem P9005 {v : Value} {x : Int32} (hf : fr y pc = some (.putfield 9005, n, k, k2)) : exe X d y pc ls (.int x :: v :: r) (sz, sl, sh, R, I, J) = rf v fun p => if sh p = (16, 0) then exe X d y (pc + n) (kil k ls) r (sz, sl, sh, R, u2 I p 5 x, J) else none := E_putI (by decide +kernel) (by decide +kernel) (by decide +kernel) (by decide +kernel) hf
theorem G9006 {v : Value} (hf : fr y pc = some (.getfield 9006, n, k, k2)) : exe X d y pc ls (v :: r) (sz, sl, sh, R, I, J) = rf v fun p => if sh p = (16, 0) then exe X d y (pc + n) (kil k ls) (.int (I p 6) :: r) (sz, sl, sh, R, I, J) else none := E_getI (by decide +kernel) (by decide +kernel) (by decide +kernel) (by decide +kernel) hf
theorem P9006 {v : Value} {x : Int32} (hf : fr y pc = some (.putfield 9006, n, k, k2)) : exe X d y pc ls (.int x :: v :: r) (sz, sl, sh, R, I, J) = rf v fun p => if sh p = (16, 0) then exe X d y (pc + n) (kil k ls) r (sz, sl, sh, R, u2 I p 6 x, J) else none := E_putI (by decide +kernel) (by decide +kernel) (by decide +kernel) (by decide +kernel) hf
theorem G10000 {v : Value} (hf : fr y pc = some (.getfield 10000, n, k, k2)) : exe X d y pc ls (v :: r) (sz, sl, sh, R, I, J) = rf v fun p => if sh p = (17, 0) then exe X d y (pc + n) (kil k ls) (rfv (R p 0) :: r) (sz, sl, sh, R, I, J) else none := E_getR (by decide +kernel) (by decide +kernel) (by decide +kernel) (by decide +kernel) hf
theorem P10000 {v w : Value} (hf : fr y pc = some (.putfield 10000, n, k, k2)) : exe X d y pc ls (w :: v :: r) (sz, sl, sh, R, I, J) = rf v fun p => orf w fun q => if sh p = (17, 0) then exe X d y (pc + n) (kil k ls) r (sz, sl, sh, u2 R p 0 q, I, J) else none := E_putR (by decide +kernel) (by decide +kernel) (by decide +kernel) (by decide +kernel) hf
theorem G10001 {v : Value} (hf : fr y pc = some (.getfield 10001, n, k, k2)) : exe X d y pc ls (v :: r) (sz, sl, sh, R, I, J) = rf v fun p => if sh p = (17, 0) then exe X d y (pc + n) (kil k ls) (rfv (R p 1) :: r) (sz, sl, sh, R, I, J) else none := E_getR (by decide +kernel) (by decide +kernel) (by decide +kernel) (by decide +kernel) hf
theorem P10001 {v w : Value} (hf : fr y pc = some (.putfield 10001, n, k, k2)) : exe X d y pc ls (w :: v :: r) (sz, sl, sh, R, I, J) = rf v fun p => orf w fun q => if sh p = (17, 0) then exe X d y (pc + n) (kil k ls) r (sz, sl, sh, u2 R p 1 q, I, J) else none := E_putR (by decide +kernel) (by decide +kernel) (by decide +kernel) (by decide +kernel) hf
theorem G10002 {v : Value} (hf : fr y pc = some (.getfield 10002, n, k, k2)) : exe X d y pc ls (v :: r) (sz, sl, sh, R, I, J) = rf v fun p => if sh p = (17, 0) then exe X d y (pc + n) (kil k ls) (.int (I p 2) :: r) (sz, sl, sh, R, I, J) else none := E_getI (by decide +kernel) (by decide +kernel) (by decide +kernel) (by decide +kernel) hf
theorem P10002 {v : Value} {x : Int32} (hf : fr y pc = some (.putfield 10002, n, k, k2)) : exe X d y pc ls (.int x :: v :: r) (sz, sl, sh, R, I, J) = rf v fun p => if sh p = (17, 0) then exe X d y (pc + n) (kil k ls) r (sz, sl, sh, R, u2 I p 2 x, J) else none := E_putI (by decide +kernel) (by decide +kernel) (by decide +kernel) (by decide +kernel) hf
theorem G10003 {v : Value} (hf : fr y pc = some (.getfield 10003, n, k, k2)) : exe X d y pc ls (v :: r) (sz, sl, sh, R, I, J) = rf v fun p => if sh p = (17, 0) then exe X d y (pc + n) (kil k ls) (.int (I p 3) :: r) (sz, sl, sh, R, I, J) else none := E_getI (by decide +kernel) (by decide +kernel) (by decide +kernel) (by decide +kernel) hf
theorem P10003 {v : Value} {x : Int32} (hf : fr y pc = some (.putfield 10003, n, k, k2)) : exe X d y pc ls (.int x :: v :: r) (sz, sl, sh, R, I, J) = rf v fun p => if sh p = (17, 0) then exe X d y (pc + n) (kil k ls) r (sz, sl, sh, R, u2 I p 3 x, J) else none := E_putI (by decide +kernel) (by decide +kernel) (by decide +kernel) (by decide +kernel) hf
theorem G10004 {v : Value} (hf : fr y pc = some (.getfield 10004, n, k, k2)) : exe X d y pc ls (v :: r) (sz, sl, sh, R, I, J) = rf v fun p => if sh p = (17, 0) then exe X d y (pc + n) (kil k ls) (.int (I p 4) :: r) (sz, sl, sh, R, I, J) else none := E_getI (by decide +kernel) (by decide +kernel) (by decide +kernel) (by decide +kernel) hf
theorem P10004 {v : Value} {x : Int32} (hf : fr y pc = some (.putfield 10004, n, k, k2)) : exe X d y pc ls (.int x :: v :: r) (sz, sl, sh, R, I, J) = rf v fun p => if sh p = (17, 0) then exe X d y (pc + n) (kil k ls) r (sz, sl, sh, R, u2 I p 4 x, J) else none := E_putI (by decide +kernel) (by decide +kernel) (by decide +kernel) (by decide +kernel) hf
theorem G11000 {v : Value} (hf : fr y pc = some (.getfield 11000, n, k, k2)) : exe X d y pc ls (v :: r) (sz, sl, sh, R, I, J) = rf v fun p => if sh p = (18, 0) then exe X d y (pc + n) (kil k ls) (.int (I p 0) :: r) (sz, sl, sh, R, I, J) else none := E_getI (by decide +kernel) (by decide +kernel) (by decide +kernel) (by decide +kernel) hf
theorem P11000 {v : Value} {x : Int32} (hf : fr y pc = some (.putfield 11000, n, k, k2)) : exe X d y pc ls (.int x :: v :: r) (sz, sl, sh, R, I, J) = rf v fun p => if sh p = (18, 0) then exe X d y (pc + n) (kil k ls) r (sz, sl, sh, R, u2 I p 0 x, J) else none := E_putI (by decide +kernel) (by decide +kernel) (by decide +kernel) (by decide +kernel) hf
theorem G11001 {v : Value} (hf : fr y pc = some (.getfield 11001, n, k, k2)) : exe X d y pc ls (v :: r) (sz, sl, sh, R, I, J) = rf v fun p => if sh p = (18, 0) then exe X d y (pc + n) (kil k ls) (rfv (R p 1) :: r) (sz, sl, sh, R, I, J) else none := E_getR (by decide +kernel) (by decide +kernel) (by decide +kernel) (by decide +kernel) hf
theorem P11001 {v w : Value} (hf : fr y pc = some (.putfield 11001, n, k, k2)) : exe X d y pc ls (w :: v :: r) (sz, sl, sh, R, I, J) = rf v fun p => orf w fun q => if sh p = (18, 0) then exe X d y (pc + n) (kil k ls) r (sz, sl, sh, u2 R p 1 q, I, J) else none := E_putR (by decide +kernel) (by decide +kernel) (by decide +kernel) (by decide +kernel) hf
theorem G11002 {v : Value} (hf : fr y pc = some (.getfield 11002, n, k, k2)) : exe X d y pc ls (v :: r) (sz, sl, sh, R, I, J) = rf v fun p => if sh p = (18, 0) then exe X d y (pc + n) (kil k ls) (rfv (R p 2) :: r) (sz, sl, sh, R, I, J) else none := E_getR (by decide +kernel) (by decide +kernel) (by decide +kernel) (by decide +kernel) hf
theorem P11002 {v w : Value} (hf : fr y pc = some (.putfield 11002, n, k, k2)) : exe X d y pc ls (w :: v :: r) (sz, sl, sh, R, I, J) = rf v fun p => orf w fun q => if sh p = (18, 0) then exe X d y (pc + n) (kil k ls) r (sz, sl, sh, u2 R p 2 q, I, J) else none := E_putR (by decide +kernel) (by decide +kernel) (by decide +kernel) (by decide +kernel) hf
theorem G11003 {v : Value} (hf : fr y pc = some (.getfield 11003, n, k, k2)) : exe X d y pc ls (v :: r) (sz, sl, sh, R, I, J) = rf v fun p => if sh p = (18, 0) then exe X d y (pc + n) (kil k ls) (rfv (R p 3) :: r) (sz, sl, sh, R, I, J) else none := E_getR (by decide +kernel) (by decide +kernel) (by decide +kernel) (by decide +kernel) hf
theorem P11003 {v w : Value} (hf : fr y pc = some (.putfield 11003, n, k, k2)) : exe X d y pc ls (w :: v :: r) (sz, sl, sh, R, I, J) = rf v fun p => orf w fun q => if sh p = (18, 0) then exe X d y (pc + n) (kil k ls) r (sz, sl, sh, u2 R p 3 q, I, J) else none := E_putR (by decide +kernel) (by decide +kernel) (by decide +kernel) (by decide +kernel) hf
theorem G11004 {v : Value} (hf : fr y pc = some (.getfield 11004, n, k, k2)) : exe X d y pc ls (v :: r) (sz, sl, sh, R, I, J) = rf v fun p => if sh p = (18, 0) then exe X d y (pc + n) (kil k ls) (rfv (R p 4) :: r) (sz, sl, sh, R, I, J) else none := E_getR (by decide +kernel) (by decide +kernel) (by decide +kernel) (by decide +kernel) hf
theorem P11004 {v w : Value} (hf : fr y pc = some (.putfield 11004, n, k, k2)) : exe X d y pc ls (w :: v :: r) (sz, sl, sh, R, I, J) = rf v fun p => orf w fun q => if sh p = (18, 0) then exe X d y (pc + n) (kil k ls) r (sz, sl, sh, u2 R p 4 q, I, J) else none := E_putR (by decide +kernel) (by decide +kernel) (by decide +kernel) (by decide +kernel) hf
theorem G11005 {v : Value} (hf : fr y pc = some (.getfield 11005, n, k, k2)) : exe X d y pc ls (v :: r) (sz, sl, sh, R, I, J) = rf v fun p => if sh p = (18, 0) then exe X d y (pc + n) (kil k ls) (rfv (R p 5) :: r) (sz, sl, sh, R, I, J) else none := E_getR (by decide +kernel) (by decide +kernel) (by decide +kernel) (by decide +kernel) hf
theorem P11005 {v w : Value} (hf : fr y pc = some (.putfield 11005, n, k, k2)) : exe X d y pc ls (w :: v :: r) (sz, sl, sh, R, I, J) = rf v fun p => orf w fun q => if sh p = (18, 0) then exe X d y (pc + n) (kil k ls) r (sz, sl, sh, u2 R p 5 q, I, J) else none := E_putR (by decide +kernel) (by decide +kernel) (by decide +kernel) (by decide +kernel) hf
theorem G11006 {v : Value} (hf : fr y pc = some (.getfield 11006, n, k, k2)) : exe X d y pc ls (v :: r) (sz, sl, sh, R, I, J) = rf v fun p => if sh p = (18, 0) then exe X d y (pc + n) (kil k ls) (rfv (R p 6) :: r) (sz, sl, sh, R, I, J) else none := E_getR (by decide +kernel) (by decide +kernel) (by decide +kernel) (by decide +kernel) hf
theorem P11006 {v w : Value} (hf : fr y pc = some (.putfield 11006, n, k, k2)) : exe X d y pc ls (w :: v :: r) (sz, sl, sh, R, I, J) = rf v fun p => orf w fun q => if sh p = (18, 0) then exe X d y (pc + n) (kil k ls) r (sz, sl, sh, u2 R p 6 q, I, J) else none := E_putR (by decide +kernel) (by decide +kernel) (by decide +kernel) (by decide +kernel) hf
theorem G11007 {v : Value} (hf : fr y pc = some (.getfield 11007, n, k, k2)) : exe X d y pc ls (v :: r) (sz, sl, sh, R, I, J) = rf v fun p => if sh p = (18, 0) then exe X d y (pc + n) (kil k ls) (rfv (R p 7) :: r) (sz, sl, sh, R, I, J) else none := E_getR (by decide +kernel) (by decide +kernel) (by decide +kernel) (by decide +kernel) hf
theorem P11007 {v w : Value} (hf : fr y pc = some (.putfield 11007, n, k, k2)) : exe X d y pc ls (w :: v :: r) (sz, sl, sh, R, I, J) = rf v fun p => orf w fun q => if sh p = (18, 0) then exe X d y (pc + n) (kil k ls) r (sz, sl, sh, u2 R p 7 q, I, J) else none := E_putR (by decide +kernel) (by decide +kernel) (by decide +kernel) (by decide +kernel) hf
theorem G11008 {v : Value} (hf : fr y pc = some (.getfield 11008, n, k, k2)) : exe X d y pc ls (v :: r) (sz, sl, sh, R, I, J) = rf v fun p => if sh p = (18, 0) then exe X d y (pc + n) (kil k ls) (rfv (R p 8) :: r) (sz, sl, sh, R, I, J) else none := E_getR (by decide +kernel) (by decide +kernel) (by decide +kernel) (by decide +kernel) hf
theorem P11008 {v w : Value} (hf : fr y pc = some (.putfield 11008, n, k, k2)) : exe X d y pc ls (w :: v :: r) (sz, sl, sh, R, I, J) = rf v fun p => orf w fun q => if sh p = (18, 0) then exe X d y (pc + n) (kil k ls) r (sz, sl, sh, u2 R p 8 q, I, J) else none := E_putR (by decide +kernel) (by decide +kernel) (by decide +kernel) (by decide +kernel) hf
theorem G11009 {v : Value} (hf : fr y pc = some (.getfield 11009, n, k, k2)) : exe X d y pc ls (v :: r) (sz, sl, sh, R, I, J) = rf v fun p => if sh p = (18, 0) then exe X d y (pc + n) (kil k ls) (.int (I p 9) :: r) (sz, sl, sh, R, I, J) else none := E_getI (by decide +kernel) (by decide +kernel) (by decide +kernel) (by decide +kernel) hf
theorem P11009 {v : Value} {x : Int32} (hf : fr y pc = some (.putfield 11009, n, k, k2)) : exe X d y pc ls (.int x :: v :: r) (sz, sl, sh, R, I, J) = rf v fun p => if sh p = (18, 0) then exe X d y (pc + n) (kil k ls) r (sz, sl, sh, R, u2 I p 9 x, J) else none := E_putI (by decide +kernel) (by decide +kernel) (by decide +kernel) (by decide +kernel) hf
theorem G11010 {v : Value} (hf : fr y pc = some (.getfield 11010, n, k, k2)) : exe X d y pc ls (v :: r) (sz, sl, sh, R, I, J) = rf v fun p => if sh p = (18, 0) then exe X d y (pc + n) (kil k ls) (rfv (R p 10) :: r) (sz, sl, sh, R, I, J) else none := E_getR (by decide +kernel) (by decide +kernel) (by decide +kernel) (by decide +kernel) hf
theorem P11010 {v w : Value} (hf : fr y pc = some (.putfield 11010, n, k, k2)) : exe X d y pc ls (w :: v :: r) (sz, sl, sh, R, I, J) = rf v fun p => orf w fun q => if sh p = (18, 0) then exe X d y (pc + n) (kil k ls) r (sz, sl, sh, u2 R p 10 q, I, J) else none := E_putR (by decide +kernel) (by decide +kernel) (by decide +kernel) (by decide +kernel) hf
theorem G11011 {v : Value} (hf : fr y pc = some (.getfield 11011, n, k, k2)) : exe X d y pc ls (v :: r) (sz, sl, sh, R, I, J) = rf v fun p => if sh p = (18, 0) then exe X d y (pc + n) (kil k ls) (rfv (R p 11) :: r) (sz, sl, sh, R, I, J) else none := E_getR (by decide +kernel) (by decide +kernel) (by decide +kernel) (by decide +kernel) hf
theorem P11011 {v w : Value} (hf : fr y pc = some (.putfield 11011, n, k, k2)) : exe X d y pc ls (w :: v :: r) (sz, sl, sh, R, I, J) = rf v fun p => orf w fun q => if sh p = (18, 0) then exe X d y (pc + n) (kil k ls) r (sz, sl, sh, u2 R p 11 q, I, J) else none := E_putR (by decide +kernel) (by decide +kernel) (by decide +kernel) (by decide +kernel) hf
theorem G11012 {v : Value} (hf : fr y pc = some (.getfield 11012, n, k, k2)) : exe X d y pc ls (v :: r) (sz, sl, sh, R, I, J) = rf v fun p => if sh p = (18, 0) then exe X d y (pc + n) (kil k ls) (.int (I p 12) :: r) (sz, sl, sh, R, I, J) else none := E_getI (by decide +kernel) (by decide +kernel) (by decide +kernel) (by decide +kernel) hf
theorem P11012 {v : Value} {x : Int32} (hf : fr y pc = some (.putfield 11012, n, k, k2)) : exe X d y pc ls (.int x :: v :: r) (sz, sl, sh, R, I, J) = rf v fun p => if sh p = (18, 0) then exe X d y (pc + n) (kil k ls) r (sz, sl, sh, R, u2 I p 12 x, J) else none := E_putI (by decide +kernel) (by decide +kernel) (by decide +kernel) (by decide +kernel) hf
theorem G11013 {v : Value} (hf : fr y pc = some (.getfield 11013, n, k, k2)) : exe X d y pc ls (v :: r) (sz, sl, sh, R, I, J) = rf v fun p => if sh p = (18, 0) then exe X d y (pc + n) (kil k ls) (.int (I p 13) :: r) (sz, sl, sh, R, I, J) else none := E_getI (by decide +kernel) (by decide +kernel) (by decide +kernel) (by decide +kernel) hf
theorem P11013 {v : Value} {x : Int32} (hf : fr y pc = some (.putfield 11013, n, k, k2)) : exe X d y pc ls (.int x :: v :: r) (sz, sl, sh, R, I, J) = rf v fun p => if sh p = (18, 0) then exe X d y (pc + n) (kil k ls) r (sz, sl, sh, R, u2 I p 13 x, J) else none := E_putI (by decide +kernel) (by decide +kernel) (by decide +kernel) (by decide +kernel) hf
theorem G11014 {v : Value} (hf : fr y pc = some (.getfield 11014, n, k, k2)) : exe X d y pc ls (v :: r) (sz, sl, sh, R, I, J) = rf v fun p => if sh p = (18, 0) then exe X d y (pc + n) (kil k ls) (rfv (R p 14) :: r) (sz, sl, sh, R, I, J) else none := E_getR (by decide +kernel) (by decide +kernel) (by decide +kernel) (by decide +kernel) hf
theorem P11014 {v w : Value} (hf : fr y pc = some (.putfield 11014, n, k, k2)) : exe X d y pc ls (w :: v :: r) (sz, sl, sh, R, I, J) = rf v fun p => orf w fun q => if sh p = (18, 0) then exe X d y (pc + n) (kil k ls) r (sz, sl, sh, u2 R p 14 q, I, J) else none := E_putR (by decide +kernel) (by decide +kernel) (by decide +kernel) (by decide +kernel) hf
theorem G11015 {v : Value} (hf : fr y pc = some (.getfield 11015, n, k, k2)) : exe X d y pc ls (v :: r) (sz, sl, sh, R, I, J) = rf v fun p => if sh p = (18, 0) then exe X d y (pc + n) (kil k ls) (rfv (R p 15) :: r) (sz, sl, sh, R, I, J) else none := E_getR (by decide +kernel) (by decide +kernel) (by decide +kernel) (by decide +kernel) hf
theorem P11015 {v w : Value} (hf : fr y pc = some (.putfield 11015, n, k, k2)) : exe X d y pc ls (w :: v :: r) (sz, sl, sh, R, I, J) = rf v fun p => orf w fun q => if sh p = (18, 0) then exe X d y (pc + n) (kil k ls) r (sz, sl, sh, u2 R p 15 q, I, J) else none := E_putR (by decide +kernel) (by decide +kernel) (by decide +kernel) (by decide +kernel) hf
theorem G11016 {v : Value} (hf : fr y pc = some (.getfield 11016, n, k, k2)) : exe X d y pc ls (v :: r) (sz, sl, sh, R, I, J) = rf v fun p => if sh p = (18, 0) then exe X d y (pc + n) (kil k ls) (rfv (R p 16) :: r) (sz, sl, sh, R, I, J) else none := E_getR (by decide +kernel) (by decide +kernel) (by decide +kernel) (by decide +kernel) hf
theorem P11016 {v w : Value} (hf : fr y pc = some (.putfield 11016, n, k, k2)) : exe X d y pc ls (w :: v :: r) (sz, sl, sh, R, I, J) = rf v fun p => orf w fun q => if sh p = (18, 0) then exe X d y (pc + n) (kil k ls) r (sz, sl, sh, u2 R p 16 q, I, J) else none := E_putR (by decide +kernel) (by decide +kernel) (by decide +kernel) (by decide +kernel) hf
theorem G11017 {v : Value} (hf : fr y pc = some (.getfield 11017, n, k, k2)) : exe X d y pc ls (v :: r) (sz, sl, sh, R, I, J) = rf v fun p => if sh p = (18, 0) then exe X d y (pc + n) (kil k ls) (rfv (R p 17) :: r) (sz, sl, sh, R, I, J) else none := E_getR (by decide +kernel) (by decide +kernel) (by decide +kernel) (by decide +kernel) hf
theorem P11017 {v w : Value} (hf : fr y pc = some (.putfield 11017, n, k, k2)) : exe X d y pc ls (w :: v :: r) (sz, sl, sh, R, I, J) = rf v fun p => orf w fun q => if sh p = (18, 0) then exe X d y (pc + n) (kil k ls) r (sz, sl, sh, u2 R p 17 q, I, J) else none := E_putR (by decide +kernel) (by decide +kernel) (by decide +kernel) (by decide +kernel) hf
theorem G11018 {v : Value} (hf : fr y pc = some (.getfield 11018, n, k, k2)) : exe X d y pc ls (v :: r) (sz, sl, sh, R, I, J) = rf v fun p => if sh p = (18, 0) then exe X d y (pc + n) (kil k ls) (rfv (R p 18) :: r) (sz, sl, sh, R, I, J) else none := E_getR (by decide +kernel) (by decide +kernel) (by decide +kernel) (by decide +kernel) hf
theorem P11018 {v w : Value} (hf : fr y pc = some (.putfield 11018, n, k, k2)) : exe X d y pc ls (w :: v :: r) (sz, sl, sh, R, I, J) = rf v fun p => orf w fun q => if sh p = (18, 0) then exe X d y (pc + n) (kil k ls) r (sz, sl, sh, u2 R p 18 q, I, J) else none := E_putR (by decide +kernel) (by decide +kernel) (by decide +kernel) (by decide +kernel) hf
theorem G11019 {v : Value} (hf : fr y pc = some (.getfield 11019, n, k, k2)) : exe X d y pc ls (v :: r) (sz, sl, sh, R, I, J) = rf v fun p => if sh p = (18, 0) then exe X d y (pc + n) (kil k ls) (rfv (R p 19) :: r) (sz, sl, sh, R, I, J) else none := E_getR (by decide +kernel) (by decide +kernel) (by decide +kernel) (by decide +kernel) hf
theorem P11019 {v w : Value} (hf : fr y pc = some (.putfield 11019, n, k, k2)) : exe X d y pc ls (w :: v :: r) (sz, sl, sh, R, I, J) = rf v fun p => orf w fun q => if sh p = (18, 0) then exe X d y (pc + n) (kil k ls) r (sz, sl, sh, u2 R p 19 q, I, J) else none := E_putR (by decide +kernel) (by decide +kernel) (by decide +kernel) (by decide +kernel) hf
theorem G11020 {v : Value} (hf : fr y pc = some (.getfield 11020, n, k, k2)) : exe X d y pc ls (v :: r) (sz, sl, sh, R, I, J) = rf v fun p => if sh p = (18, 0) then exe X d y (pc + n) (kil k ls) (rfv (R p 20) :: r) (sz, sl, sh, R, I, J) else none := E_getR (by decide +kernel) (by decide +kernel) (by decide +kernel) (by decide +kernel) hf
theorem P11020 {v w : Value} (hf : fr y pc = some (.putfield 11020, n, k, k2)) : exe X d y pc ls (w :: v :: r) (sz, sl, sh, R, I, J) = rf v fun p => orf w fun q => if sh p = (18, 0) then exe X d y (pc + n) (kil k ls) r (sz, sl, sh, u2 R p 20 q, I, J) else none := E_putR (by decide +kernel) (by decide +kernel) (by decide +kernel) (by decide +kernel) hf
theorem G11021 {v : Value} (hf : fr y pc = some (.getfield 11021, n, k, k2)) : exe X d y pc ls (v :: r) (sz, sl, sh, R, I, J) = rf v fun p => if sh p = (18, 0) then exe X d y (pc + n) (kil k ls) (.int (I p 21) :: r) (sz, sl, sh, R, I, J) else none := E_getI (by decide +kernel) (by decide +kernel) (by decide +kernel) (by decide +kernel) hf
theorem P11021 {v : Value} {x : Int32} (hf : fr y pc = some (.putfield 11021, n, k, k2)) : exe X d y pc ls (.int x :: v :: r) (sz, sl, sh, R, I, J) = rf v fun p => if sh p = (18, 0) then exe X d y (pc + n) (kil k ls) r (sz, sl, sh, R, u2 I p 21 x, J) else none := E_putI (by decide +kernel) (by decide +kernel) (by decide +kernel) (by decide +kernel) hf
theorem G11022 {v : Value} (hf : fr y pc = some (.getfield 11022, n, k, k2)) : exe X d y pc ls (v :: r) (sz, sl, sh, R, I, J) = rf v fun p => if sh p = (18, 0) then exe X d y (pc + n) (kil k ls) (rfv (R p 22) :: r) (sz, sl, sh, R, I, J) else none := E_getR (by decide +kernel) (by decide +kernel) (by decide +kernel) (by decide +kernel) hf
theorem P11022 {v w : Value} (hf : fr y pc = some (.putfield 11022, n, k, k2)) : exe X d y pc ls (w :: v :: r) (sz, sl, sh, R, I, J) = rf v fun p => orf w fun q => if sh p = (18, 0) then exe X d y (pc + n) (kil k ls) r (sz, sl, sh, u2 R p 22 q, I, J) else none := E_putR (by decide +kernel) (by decide +kernel) (by decide +kernel) (by decide +kernel) hf
theorem G11023 {v : Value} (hf : fr y pc = some (.getfield 11023, n, k, k2)) : exe X d y pc ls (v :: r) (sz, sl, sh, R, I, J) = rf v fun p => if sh p = (18, 0) then exe X d y (pc + n) (kil k ls) (rfv (R p 23) :: r) (sz, sl, sh, R, I, J) else none := E_getR (by decide +kernel) (by decide +kernel) (by decide +kernel) (by decide +kernel) hf
theorem P11023 {v w : Value} (hf : fr y pc = some (.putfield 11023, n, k, k2)) : exe X d y pc ls (w :: v :: r) (sz, sl, sh, R, I, J) = rf v fun p => orf w fun q => if sh p = (18, 0) then exe X d y (pc + n) (kil k ls) r (sz, sl, sh, u2 R p 23 q, I, J) else none := E_putR (by decide +kernel) (by decide +kernel) (by decide +kernel) (by decide +kernel) hf
theorem G11024 {v : Value} (hf : fr y pc = some (.getfield 11024, n, k, k2)) : exe X d y pc ls (v :: r) (sz, sl, sh, R, I, J) = rf v fun p => if sh p = (18, 0) then exe X d y (pc + n) (kil k ls) (rfv (R p 24) :: r) (sz, sl, sh, R, I, J) else none := E_getR (by decide +kernel) (by decide +kernel) (by decide +kernel) (by decide +kernel) hf
theorem P11024 {v w : Value} (hf : fr y pc = some (.putfield 11024, n, k, k2)) : exe X d y pc ls (w :: v :: r) (sz, sl, sh, R, I, J) = rf v fun p => orf w fun q => if sh p = (18, 0) then exe X d y (pc + n) (kil k ls) r (sz, sl, sh, u2 R p 24 q, I, J) else none := E_putR (by decide +kernel) (by decide +kernel) (by decide +kernel) (by decide +kernel) hf
theorem G11025 {v : Value} (hf : fr y pc = some (.getfield 11025, n, k, k2)) : exe X d y pc ls (v :: r) (sz, sl, sh, R, I, J) = rf v fun p => if sh p = (18, 0) then exe X d y (pc + n) (kil k ls) (rfv (R p 25) :: r) (sz, sl, sh, R, I, J) else none := E_getR (by decide +kernel) (by decide +kernel) (by decide +kernel) (by decide +kernel) hf
theorem P11025 {v w : Value} (hf : fr y pc = some (.putfield 11025, n, k, k2)) : exe X d y pc ls (w :: v :: r) (sz, sl, sh, R, I, J) = rf v fun p => orf w fun q => if sh p = (18, 0) then exe X d y (pc + n) (kil k ls) r (sz, sl, sh, u2 R p 25 q, I, J) else none := E_putR (by decide +kernel) (by decide +kernel) (by decide +kernel) (by decide +kernel) hf
theorem G11026 {v : Value} (hf : fr y pc = some (.getfield 11026, n, k, k2)) : exe X d y pc ls (v :: r) (sz, sl, sh, R, I, J) = rf v fun p => if sh p = (18, 0) then exe X d y (pc + n) (kil k ls) (.int (I p 26) :: r) (sz, sl, sh, R, I, J) else none := E_getI (by decide +kernel) (by decide +kernel) (by decide +kernel) (by decide +kernel) hf
theorem P11026 {v : Value} {x : Int32} (hf : fr y pc = some (.putfield 11026, n, k, k2)) : exe X d y pc ls (.int x :: v :: r) (sz, sl, sh, R, I, J) = rf v fun p => if sh p = (18, 0) then exe X d y (pc + n) (kil k ls) r (sz, sl, sh, R, u2 I p 26 x, J) else none := E_putI (by decide +kernel) (by decide +kernel) (by decide +kernel) (by decide +kernel) hf
theorem G11027 {v : Value} (hf : fr y pc = some (.getfield 11027, n, k, k2)) : exe X d y pc ls (v :: r) (sz, sl, sh, R, I, J) = rf v fun p => if sh p = (18, 0) then exe X d y (pc + n) (kil k ls) (.int (I p 27) :: r) (sz, sl, sh, R, I, J) else none := E_getI (by decide +kernel) (by decide +kernel) (by decide +kernel) (by decide +kernel) hf
theorem P11027 {v : Value} {x : Int32} (hf : fr y pc = some (.putfield 11027, n, k, k2)) : exe X d y pc ls (.int x :: v :: r) (sz, sl, sh, R, I, J) = rf v fun p => if sh p = (18, 0) then exe X d y (pc + n) (kil k ls) r (sz, sl, sh, R, u2 I p 27 x, J) else none := E_putI (by decide +kernel) (by decide +kernel) (by decide +kernel) (by decide +kernel) hf
theorem G11028 {v : Value} (hf : fr y pc = some (.getfield 11028, n, k, k2)) : exe X d y pc ls (v :: r) (sz, sl, sh, R, I, J) = rf v fun p => if sh p = (18, 0) then exe X d y (pc + n) (kil k ls) (.int (I p 28) :: r) (sz, sl, sh, R, I, J) else none := E_getI (by decide +kernel) (by decide +kernel) (by decide +kernel) (by decide +kernel) hf
theorem P11028 {v : Value} {x : Int32} (hf : fr y pc = some (.putfield 11028, n, k, k2)) : exe X d y pc ls (.int x :: v :: r) (sz, sl, sh, R, I, J) = rf v fun p => if sh p = (18, 0) then exe X d y (pc + n) (kil k ls) r (sz, sl, sh, R, u2 I p 28 x, J) else none := E_putI (by decide +kernel) (by decide +kernel) (by decide +kernel) (by decide +kernel) hf
theorem G11029 {v : Value} (hf : fr y pc = some (.getfield 11029, n, k, k2)) : exe X d y pc ls (v :: r) (sz, sl, sh, R, I, J) = rf v fun p => if sh p = (18, 0) then exe X d y (pc + n) (kil k ls) (rfv (R p 29) :: r) (sz, sl, sh, R, I, J) else none := E_getR (by decide +kernel) (by decide +kernel) (by decide +kernel) (by decide +kernel) hf
theorem P11029 {v w : Value} (hf : fr y pc = some (.putfield 11029, n, k, k2)) : exe X d y pc ls (w :: v :: r) (sz, sl, sh, R, I, J) = rf v fun p => orf w fun q => if sh p = (18, 0) then exe X d y (pc + n) (kil k ls) r (sz, sl, sh, u2 R p 29 q, I, J) else none := E_putR (by decide +kernel) (by decide +kernel) (by decide +kernel) (by decide +kernel) hf
theorem G11030 {v : Value} (hf : fr y pc = some (.getfield 11030, n, k, k2)) : exe X d y pc ls (v :: r) (sz, sl, sh, R, I, J) = rf v fun p => if sh p = (18, 0) then exe X d y (pc + n) (kil k ls) (.int (I p 30) :: r) (sz, sl, sh, R, I, J) else none := E_getI (by decide +kernel) (by decide +kernel) (by decide +kernel) (by decide +kernel) hf
theorem P11030 {v : Value} {x : Int32} (hf : fr y pc = some (.putfield 11030, n, k, k2)) : exe X d y pc ls (.int x :: v :: r) (sz, sl, sh, R, I, J) = rf v fun p => if sh p = (18, 0) then exe X d y (pc + n) (kil k ls) r (sz, sl, sh, R, u2 I p 30 x, J) else none := E_putI (by decide +kernel) (by decide +kernel) (by decide +kernel) (by decide +kernel) hf
theorem G11031 {v : Value} (hf : fr y pc = some (.getfield 11031, n, k, k2)) : exe X d y pc ls (v :: r) (sz, sl, sh, R, I, J) = rf v fun p => if sh p = (18, 0) then exe X d y (pc + n) (kil k ls) (rfv (R p 31) :: r) (sz, sl, sh, R, I, J) else none := E_getR (by decide +kernel) (by decide +kernel) (by decide +kernel) (by decide +kernel) hf
theorem P11031 {v w : Value} (hf : fr y pc = some (.putfield 11031, n, k, k2)) : exe X d y pc ls (w :: v :: r) (sz, sl, sh, R, I, J) = rf v fun p => orf w fun q => if sh p = (18, 0) then exe X d y (pc + n) (kil k ls) r (sz, sl, sh, u2 R p 31 q, I, J) else none := E_putR (by decide +kernel) (by decide +kernel) (by decide +kernel) (by decide +kernel) hf
theorem G11032 {v : Value} (hf : fr y pc = some (.getfield 11032, n, k, k2)) : exe X d y pc ls (v :: r) (sz, sl, sh, R, I, J) = rf v fun p => if sh p = (18, 0) then exe X d y (pc + n) (kil k ls) (rfv (R p 32) :: r) (sz, sl, sh, R, I, J) else none := E_getR (by decide +kernel) (by decide +kernel) (by decide +kernel) (by decide +kernel) hf
theorem P11032 {v w : Value} (hf : fr y pc = some (.putfield 11032, n, k, k2)) : exe X d y pc ls (w :: v :: r) (sz, sl, sh, R, I, J) = rf v fun p => orf w fun q => if sh p = (18, 0) then exe X d y (pc + n) (kil k ls) r (sz, sl, sh, u2 R p 32 q, I, J) else none := E_putR (by decide +kernel) (by decide +kernel) (by decide +kernel) (by decide +kernel) hf
theorem G11033 {v : Value} (hf : fr y pc = some (.getfield 11033, n, k, k2)) : exe X d y pc ls (v :: r) (sz, sl, sh, R, I, J) = rf v fun p => if sh p = (18, 0) then exe X d y (pc + n) (kil k ls) (rfv (R p 33) :: r) (sz, sl, sh, R, I, J) else none := E_getR (by decide +kernel) (by decide +kernel) (by decide +kernel) (by decide +kernel) hf
theorem P11033 {v w : Value} (hf : fr y pc = some (.putfield 11033, n, k, k2)) : exe X d y pc ls (w :: v :: r) (sz, sl, sh, R, I, J) = rf v fun p => orf w fun q => if sh p = (18, 0) then exe X d y (pc + n) (kil k ls) r (sz, sl, sh, u2 R p 33 q, I, J) else none := E_putR (by decide +kernel) (by decide +kernel) (by decide +kernel) (by decide +kernel) hf
theorem G11034 {v : Value} (hf : fr y pc = some (.getfield 11034, n, k, k2)) : exe X d y pc ls (v :: r) (sz, sl, sh, R, I, J) = rf v fun p => if sh p = (18, 0) then exe X d y (pc + n) (kil k ls) (rfv (R p 34) :: r) (sz, sl, sh, R, I, J) else none := E_getR (by decide +kernel) (by decide +kernel) (by decide +kernel) (by decide +kernel) hf
theorem P11034 {v w : Value} (hf : fr y pc = some (.putfield 11034, n, k, k2)) : exe X d y pc ls (w :: v :: r) (sz, sl, sh, R, I, J) = rf v fun p => orf w fun q => if sh p = (18, 0) then exe X d y (pc + n) (kil k ls) r (sz, sl, sh, u2 R p 34 q, I, J) else none := E_putR (by decide +kernel) (by decide +kernel) (by decide +kernel) (by decide +kernel) hf
theorem G11035 {v : Value} (hf : fr y pc = some (.getfield 11035, n, k, k2)) : exe X d y pc ls (v :: r) (sz, sl, sh, R, I, J) = rf v fun p => if sh p = (18, 0) then exe X d y (pc + n) (kil k ls) (rfv (R p 35) :: r) (sz, sl, sh, R, I, J) else none := E_getR (by decide +kernel) (by decide +kernel) (by decide +kernel) (by decide +kernel) hf
theorem P11035 {v w : Value} (hf : fr y pc = some (.putfield 11035, n, k, k2)) : exe X d y pc ls (w :: v :: r) (sz, sl, sh, R, I, J) = rf v fun p => orf w fun q => if sh p = (18, 0) then exe X d y (pc + n) (kil k ls) r (sz, sl, sh, u2 R p 35 q, I, J) else none := E_putR (by decide +kernel) (by decide +kernel) (by decide +kernel) (by decide +kernel) hf
theorem G11036 {v : Value} (hf : fr y pc = some (.getfield 11036, n, k, k2)) : exe X d y pc ls (v :: r) (sz, sl, sh, R, I, J) = rf v fun p => if sh p = (18, 0) then exe X d y (pc + n) (kil k ls) (.int (I p 36) :: r) (sz, sl, sh, R, I, J) else none := E_getI (by decide +kernel) (by decide +kernel) (by decide +kernel) (by decide +kernel) hf
theorem P11036 {v : Value} {x : Int32} (hf : fr y pc = some (.putfield 11036, n, k, k2)) : exe X d y pc ls (.int x :: v :: r) (sz, sl, sh, R, I, J) = rf v fun p => if sh p = (18, 0) then exe X d y (pc + n) (kil k ls) r (sz, sl, sh, R, u2 I p 36 x, J) else none := E_putI (by decide +kernel) (by decide +kernel) (by decide +kernel) (by decide +kernel) hf
theorem G11037 {v : Value} (hf : fr y pc = some (.getfield 11037, n, k, k2)) : exe X d y pc ls (v :: r) (sz, sl, sh, R, I, J) = rf v fun p => if sh p = (18, 0) then exe X d y (pc + n) (kil k ls) (.int (I p 37) :: r) (sz, sl, sh, R, I, J) else none := E_getI (by decide +kernel) (by decide +kernel) (by decide +kernel) (by decide +kernel) hf
theorem P11037 {v : Value} {x : Int32} (hf : fr y pc = some (.putfield 11037, n, k, k2)) : exe X d y pc ls (.int x :: v :: r) (sz, sl, sh, R, I, J) = rf v fun p => if sh p = (18, 0) then exe X d y (pc + n) (kil k ls) r (sz, sl, sh, R, u2 I p 37 x, J) else none := E_putI (by decide +kernel) (by decide +kernel) (by decide +kernel) (by decide +kernel) hf
theorem G11038 {v : Value} (hf : fr y pc = some (.getfield 11038, n, k, k2)) : exe X d y pc ls (v :: r) (sz, sl, sh, R, I, J) = rf v fun p => if sh p = (18, 0) then exe X d y (pc + n) (kil k ls) (.int (I p 38) :: r) (sz, sl, sh, R, I, J) else none := E_getI (by decide +kernel) (by decide +kernel) (by decide +kernel) (by decide +kernel) hf
theorem P11038 {v : Value} {x : Int32} (hf : fr y pc = some (.putfield 11038, n, k, k2)) : exe X d y pc ls (.int x :: v :: r) (sz, sl, sh, R, I, J) = rf v fun p => if sh p = (18, 0) then exe X d y (pc + n) (kil k ls) r (sz, sl, sh, R, u2 I p 38 x, J) else none := E_putI (by decide +kernel) (by decide +kernel) (by decide +kernel) (by decide +kernel) hf
theorem G11039 {v : Value} (hf : fr y pc = some (.getfield 11039, n, k, k2)) : exe X d y pc ls (v :: r) (sz, sl, sh, R, I, J) = rf v fun p => if sh p = (18, 0) then exe X d y (pc + n) (kil k ls) (.int (I p 39) :: r) (sz, sl, sh, R, I, J) else none := E_getI (by decide +kernel) (by decide +kernel) (by decide +kernel) (by decide +kernel) hf
theorem P11039 {v : Value} {x : Int32} (hf : fr y pc = some (.putfield 11039, n, k, k2)) : exe X d y pc ls (.int x :: v :: r) (sz, sl, sh, R, I, J) = rf v fun p => if sh p = (18, 0) then exe X d y (pc + n) (kil k ls) r (sz, sl, sh, R, u2 I p 39 x, J) else none := E_putI (by decide +kernel) (by decide +kernel) (by decide +kernel) (by decide +kernel) hf
theorem G11040 {v : Value} (hf : fr y pc = some (.getfield 11040, n, k, k2)) : exe X d y pc ls (v :: r) (sz, sl, sh, R, I, J) = rf v fun p => if sh p = (18, 0) then exe X d y (pc + n) (kil k ls) (rfv (R p 40) :: r) (sz, sl, sh, R, I, J) else none := E_getR (by decide +kernel) (by decide +kernel) (by decide +kernel) (by decide +kernel) hf
theorem P11040 {v w : Value} (hf : fr y pc = some (.putfield 11040, n, k, k2)) : exe X d y pc ls (w :: v :: r) (sz, sl, sh, R, I, J) = rf v fun p => orf w fun q => if sh p = (18, 0) then exe X d y (pc + n) (kil k ls) r (sz, sl, sh, u2 R p 40 q, I, J) else none := E_putR (by decide +kernel) (by decide +kernel) (by decide +kernel) (by decide +kernel) hf
theorem G11041 {v : Value} (hf : fr y pc = some (.getfield 11041, n, k, k2)) : exe X d y pc ls (v :: r) (sz, sl, sh, R, I, J) = rf v fun p => if sh p = (18, 0) then exe X d y (pc + n) (kil k ls) (rfv (R p 41) :: r) (sz, sl, sh, R, I, J) else none := E_getR (by decide +kernel) (by decide +kernel) (by decide +kernel) (by decide +kernel) hf
theorem P11041 {v w : Value} (hf : fr y pc = some (.putfield 11041, n, k, k2)) : exe X d y pc ls (w :: v :: r) (sz, sl, sh, R, I, J) = rf v fun p => orf w fun q => if sh p = (18, 0) then exe X d y (pc + n) (kil k ls) r (sz, sl, sh, u2 R p 41 q, I, J) else none := E_putR (by decide +kernel) (by decide +kernel) (by decide +kernel) (by decide +kernel) hf
theorem G11042 {v : Value} (hf : fr y pc = some (.getfield 11042, n, k, k2)) : exe X d y pc ls (v :: r) (sz, sl, sh, R, I, J) = rf v fun p => if sh p = (18, 0) then exe X d y (pc + n) (kil k ls) (.int (I p 42) :: r) (sz, sl, sh, R, I, J) else none := E_getI (by decide +kernel) (by decide +kernel) (by decide +kernel) (by decide +kernel) hf
theorem P11042 {v : Value} {x : Int32} (hf : fr y pc = some (.putfield 11042, n, k, k2)) : exe X d y pc ls (.int x :: v :: r) (sz, sl, sh, R, I, J) = rf v fun p => if sh p = (18, 0) then exe X d y (pc + n) (kil k ls) r (sz, sl, sh, R, u2 I p 42 x, J) else none := E_putI (by decide +kernel) (by decide +kernel) (by decide +kernel) (by decide +kernel) hf
theorem G11043 {v : Value} (hf : fr y pc = some (.getfield 11043, n, k, k2)) : exe X d y pc ls (v :: r) (sz, sl, sh, R, I, J) = rf v fun p => if sh p = (18, 0) then exe X d y (pc + n) (kil k ls) (.int (I p 43) :: r) (sz, sl, sh, R, I, J) else none := E_getI (by decide +kernel) (by decide +kernel) (by decide +kernel) (by decide +kernel) hf
theorem P11043 {v : Value} {x : Int32} (hf : fr y pc = some (.putfield 11043, n, k, k2)) : exe X d y pc ls (.int x :: v :: r) (sz, sl, sh, R, I, J) = rf v fun p => if sh p = (18, 0) then exe X d y (pc + n) (kil k ls) r (sz, sl, sh, R, u2 I p 43 x, J) else none := E_putI (by decide +kernel) (by decide +kernel) (by decide +kernel) (by decide +kernel) hf
theorem G11044 {v : Value} (hf : fr y pc = some (.getfield 11044, n, k, k2)) : exe X d y pc ls (v :: r) (sz, sl, sh, R, I, J) = rf v fun p => if sh p = (18, 0) then exe X d y (pc + n) (kil k ls) (.long (J p 44) :: r) (sz, sl, sh, R, I, J) else none := E_getL (by decide +kernel) (by decide +kernel) (by decide +kernel) (by decide +kernel) hf
theorem P11044 {v : Value} {x : Int64} (hf : fr y pc = some (.putfield 11044, n, k, k2)) : exe X d y pc ls (.long x :: v :: r) (sz, sl, sh, R, I, J) = rf v fun p => if sh p = (18, 0) then exe X d y (pc + n) (kil k ls) r (sz, sl, sh, R, I, u2 J p 44 x) else none := E_putL (by decide +kernel) (by decide +kernel) (by decide +kernel) (by decide +kernel) hf
theorem G11045 {v : Value} (hf : fr y pc = some (.getfield 11045, n, k, k2)) : exe X d y pc ls (v :: r) (sz, sl, sh, R, I, J) = rf v fun p => if sh p = (18, 0) then exe X d y (pc + n) (kil k ls) (rfv (R p 45) :: r) (sz, sl, sh, R, I, J) else none := E_getR (by decide +kernel) (by decide +kernel) (by decide +kernel) (by decide +kernel) hf
theorem P11045 {v w : Value} (hf : fr y pc = some (.putfield 11045, n, k, k2)) : exe X d y pc ls (w :: v :: r) (sz, sl, sh, R, I, J) = rf v fun p => orf w fun q => if sh p = (18, 0) then exe X d y (pc + n) (kil k ls) r (sz, sl, sh, u2 R p 45 q, I, J) else none := E_putR (by decide +kernel) (by decide +kernel) (by decide +kernel) (by decide +kernel) hf
theorem G11046 {v : Value} (hf : fr y pc = some (.getfield 11046, n, k, k2)) : exe X d y pc ls (v :: r) (sz, sl, sh, R, I, J) = rf v fun p => if sh p = (18, 0) then exe X d y (pc + n) (kil k ls) (rfv (R p 46) :: r) (sz, sl, sh, R, I, J) else none := E_getR (by decide +kernel) (by decide +kernel) (by decide +kernel) (by decide +kernel) hf
theorem P11046 {v w : Value} (hf : fr y pc = some (.putfield 11046, n, k, k2)) : exe X d y pc ls (w :: v :: r) (sz, sl, sh, R, I, J) = rf v fun p => orf w fun q => if sh p = (18, 0) then exe X d y (pc + n) (kil k ls) r (sz, sl, sh, u2 R p 46 q, I, J) else none := E_putR (by decide +kernel) (by decide +kernel) (by decide +kernel) (by decide +kernel) hf
theorem G11047 {v : Value} (hf : fr y pc = some (.getfield 11047, n, k, k2)) : exe X d y pc ls (v :: r) (sz, sl, sh, R, I, J) = rf v fun p => if sh p = (18, 0) then exe X d y (pc + n) (kil k ls) (rfv (R p 47) :: r) (sz, sl, sh, R, I, J) else none := E_getR (by decide +kernel) (by decide +kernel) (by decide +kernel) (by decide +kernel) hf
theorem P11047 {v w : Value} (hf : fr y pc = some (.putfield 11047, n, k, k2)) : exe X d y pc ls (w :: v :: r) (sz, sl, sh, R, I, J) = rf v fun p => orf w fun q => if sh p = (18, 0) then exe X d y (pc + n) (kil k ls) r (sz, sl, sh, u2 R p 47 q, I, J) else none := E_putR (by decide +kernel) (by decide +kernel) (by decide +kernel) (by decide +kernel) hf
theorem G11048 {v : Value} (hf : fr y pc = some (.getfield 11048, n, k, k2)) : exe X d y pc ls (v :: r) (sz, sl, sh, R, I, J) = rf v fun p => if sh p = (18, 0) then exe X d y (pc + n) (kil k ls) (.int (I p 48) :: r) (sz, sl, sh, R, I, J) else none := E_getI (by decide +kernel) (by decide +kernel) (by decide +kernel) (by decide +kernel) hf
theorem P11048 {v : Value} {x : Int32} (hf : fr y pc = some (.putfield 11048, n, k, k2)) : exe X d y pc ls (.int x :: v :: r) (sz, sl, sh, R, I, J) = rf v fun p => if sh p = (18, 0) then exe X d y (pc + n) (kil k ls) r (sz, sl, sh, R, u2 I p 48 x, J) else none := E_putI (by decide +kernel) (by decide +kernel) (by decide +kernel) (by decide +kernel) hf
theorem G11049 {v : Value} (hf : fr y pc = some (.getfield 11049, n, k, k2)) : exe X d y pc ls (v :: r) (sz, sl, sh, R, I, J) = rf v fun p => if sh p = (18, 0) then exe X d y (pc + n) (kil k ls) (rfv (R p 49) :: r) (sz, sl, sh, R, I, J) else none := E_getR (by decide +kernel) (by decide +kernel) (by decide +kernel) (by decide +kernel) hf
theorem P11049 {v w : Value} (hf : fr y pc = some (.putfield 11049, n, k, k2)) : exe X d y pc ls (w :: v :: r) (sz, sl, sh, R, I, J) = rf v fun p => orf w fun q => if sh p = (18, 0) then exe X d y (pc + n) (kil k ls) r (sz, sl, sh, u2 R p 49 q, I, J) else none := E_putR (by decide +kernel) (by decide +kernel) (by decide +kernel) (by decide +kernel) hf
end GP
theorem pn_0 : pna 0 = 1 := by decide +kernel
theorem pc_0 : pci 0 = 99 := by decide +kernel
theorem pr_0 : pret 0 = some FieldType.boolean := by decide +kernel
theorem pn_1 : pna 1 = 0 := by decide +kernel
theorem pc_1 : pci 1 = 0 := by decide +kernel
theorem pr_1 : pret 1 = none := by decide +kernel
theorem pn_2 : pna 2 = 0 := by decide +kernel
theorem pc_2 : pci 2 = 4 := by decide +kernel
theorem pr_2 : pret 2 = none := by decide +kernel
theorem pn_3 : pna 3 = 0 := by decide +kernel
theorem pc_3 : pci 3 = 6 := by decide +kernel
theorem pr_3 : pret 3 = none := by decide +kernel
theorem pn_4 : pna 4 = 0 := by decide +kernel
theorem pc_4 : pci 4 = 5 := by decide +kernel
theorem pr_4 : pret 4 = none := by decide +kernel
theorem pn_5 : pna 5 = 0 := by decide +kernel
theorem pc_5 : pci 5 = 2 := by decide +kernel
theorem pr_5 : pret 5 = none := by decide +kernel
theorem pn_6 : pna 6 = 0 := by decide +kernel
theorem pc_6 : pci 6 = 1 := by decide +kernel
theorem pr_6 : pret 6 = none := by decide +kernel
theorem pn_7 : pna 7 = 0 := by decide +kernel
theorem pc_7 : pci 7 = 10 := by decide +kernel
theorem pr_7 : pret 7 = none := by decide +kernel
theorem pn_8 : pna 8 = 0 := by decide +kernel
theorem pc_8 : pci 8 = 7 := by decide +kernel
theorem pr_8 : pret 8 = none := by decide +kernel
theorem pn_9 : pna 9 = 3 := by decide +kernel
theorem pc_9 : pci 9 = 0 := by decide +kernel
theorem pr_9 : pret 9 = some FieldType.int := by decide +kernel
theorem pn_10 : pna 10 = 3 := by decide +kernel
theorem pc_10 : pci 10 = 0 := by decide +kernel
theorem pr_10 : pret 10 = some FieldType.boolean := by decide +kernel
theorem pn_11 : pna 11 = 1 := by decide +kernel
theorem pc_11 : pci 11 = 0 := by decide +kernel
theorem pr_11 : pret 11 = some FieldType.boolean := by decide +kernel
theorem pn_12 : pna 12 = 1 := by decide +kernel
theorem pc_12 : pci 12 = 0 := by decide +kernel
theorem pr_12 : rfR (pret 12) = true := by decide +kernel
theorem pn_13 : pna 13 = 5 := by decide +kernel
theorem pc_13 : pci 13 = 8 := by decide +kernel
theorem pr_13 : pret 13 = none := by decide +kernel
theorem pn_14 : pna 14 = 2 := by decide +kernel
theorem pc_14 : pci 14 = 0 := by decide +kernel
theorem pr_14 : pret 14 = some FieldType.int := by decide +kernel
theorem pn_15 : pna 15 = 0 := by decide +kernel
theorem pc_15 : pci 15 = 8 := by decide +kernel
theorem pr_15 : pret 15 = some FieldType.int := by decide +kernel
theorem pn_16 : pna 16 = 1 := by decide +kernel
theorem pc_16 : pci 16 = 8 := by decide +kernel
theorem pr_16 : pret 16 = some FieldType.int := by decide +kernel
theorem pn_17 : pna 17 = 2 := by decide +kernel
theorem pc_17 : pci 17 = 0 := by decide +kernel
theorem pr_17 : pret 17 = some FieldType.int := by decide +kernel
theorem pn_18 : pna 18 = 1 := by decide +kernel
theorem pc_18 : pci 18 = 0 := by decide +kernel
theorem pr_18 : rfR (pret 18) = true := by decide +kernel
theorem pn_19 : pna 19 = 2 := by decide +kernel
theorem pc_19 : pci 19 = 0 := by decide +kernel
theorem pr_19 : pret 19 = some FieldType.int := by decide +kernel
theorem pn_20 : pna 20 = 2 := by decide +kernel
theorem pc_20 : pci 20 = 0 := by decide +kernel
theorem pr_20 : pret 20 = some FieldType.int := by decide +kernel
theorem pn_21 : pna 21 = 2 := by decide +kernel
theorem pc_21 : pci 21 = 8 := by decide +kernel
theorem pr_21 : pret 21 = some FieldType.int := by decide +kernel
theorem pn_22 : pna 22 = 3 := by decide +kernel
theorem pc_22 : pci 22 = 1 := by decide +kernel
theorem pr_22 : pret 22 = none := by decide +kernel
theorem pn_23 : pna 23 = 0 := by decide +kernel
theorem pc_23 : pci 23 = 1 := by decide +kernel
theorem pr_23 : pret 23 = none := by decide +kernel
theorem pn_24 : pna 24 = 3 := by decide +kernel
theorem pc_24 : pci 24 = 0 := by decide +kernel
theorem pr_24 : pret 24 = some FieldType.int := by decide +kernel
theorem pn_25 : pna 25 = 4 := by decide +kernel
theorem pc_25 : pci 25 = 0 := by decide +kernel
theorem pr_25 : pret 25 = some FieldType.int := by decide +kernel
theorem pn_26 : pna 26 = 1 := by decide +kernel
theorem pc_26 : pci 26 = 0 := by decide +kernel
theorem pr_26 : rfR (pret 26) = true := by decide +kernel
theorem pn_27 : pna 27 = 0 := by decide +kernel
theorem pc_27 : pci 27 = 7 := by decide +kernel
theorem pr_27 : pret 27 = some FieldType.boolean := by decide +kernel
theorem pn_28 : pna 28 = 0 := by decide +kernel
theorem pc_28 : pci 28 = 7 := by decide +kernel
theorem pr_28 : pret 28 = some FieldType.boolean := by decide +kernel
theorem pn_29 : pna 29 = 0 := by decide +kernel
theorem pc_29 : pci 29 = 7 := by decide +kernel
theorem pr_29 : pret 29 = some FieldType.boolean := by decide +kernel
theorem pn_30 : pna 30 = 1 := by decide +kernel
theorem pc_30 : pci 30 = 7 := by decide +kernel
theorem pr_30 : pret 30 = some FieldType.boolean := by decide +kernel
theorem pn_31 : pna 31 = 1 := by decide +kernel
theorem pc_31 : pci 31 = 7 := by decide +kernel
theorem pr_31 : pret 31 = some FieldType.long := by decide +kernel
theorem pn_32 : pna 32 = 1 := by decide +kernel
theorem pc_32 : pci 32 = 0 := by decide +kernel
theorem pr_32 : pret 32 = some FieldType.boolean := by decide +kernel
theorem pn_33 : pna 33 = 2 := by decide +kernel
theorem pc_33 : pci 33 = 0 := by decide +kernel
theorem pr_33 : pret 33 = some FieldType.int := by decide +kernel
theorem pn_34 : pna 34 = 0 := by decide +kernel
theorem pc_34 : pci 34 = 8 := by decide +kernel
theorem pr_34 : pret 34 = some FieldType.int := by decide +kernel
theorem pn_35 : pna 35 = 3 := by decide +kernel
theorem pc_35 : pci 35 = 8 := by decide +kernel
theorem pr_35 : pret 35 = some FieldType.int := by decide +kernel
theorem pn_36 : pna 36 = 1 := by decide +kernel
theorem pc_36 : pci 36 = 8 := by decide +kernel
theorem pr_36 : pret 36 = none := by decide +kernel
theorem pn_37 : pna 37 = 1 := by decide +kernel
theorem pc_37 : pci 37 = 0 := by decide +kernel
theorem pr_37 : pret 37 = some FieldType.int := by decide +kernel
theorem pn_38 : pna 38 = 0 := by decide +kernel
theorem pc_38 : pci 38 = 8 := by decide +kernel
theorem pr_38 : pret 38 = some FieldType.int := by decide +kernel
theorem pn_39 : pna 39 = 2 := by decide +kernel
theorem pc_39 : pci 39 = 0 := by decide +kernel
theorem pr_39 : pret 39 = some FieldType.int := by decide +kernel
theorem pn_40 : pna 40 = 2 := by decide +kernel
theorem pc_40 : pci 40 = 4 := by decide +kernel
theorem pr_40 : pret 40 = some FieldType.boolean := by decide +kernel
theorem pn_41 : pna 41 = 0 := by decide +kernel
theorem pc_41 : pci 41 = 0 := by decide +kernel
theorem pr_41 : pret 41 = some FieldType.int := by decide +kernel
theorem pn_42 : pna 42 = 0 := by decide +kernel
theorem pc_42 : pci 42 = 4 := by decide +kernel
theorem pr_42 : rfR (pret 42) = true := by decide +kernel
theorem pn_43 : pna 43 = 0 := by decide +kernel
theorem pc_43 : pci 43 = 4 := by decide +kernel
theorem pr_43 : pret 43 = some FieldType.boolean := by decide +kernel
theorem pn_44 : pna 44 = 2 := by decide +kernel
theorem pc_44 : pci 44 = 4 := by decide +kernel
theorem pr_44 : pret 44 = some FieldType.boolean := by decide +kernel
theorem pn_45 : pna 45 = 1 := by decide +kernel
theorem pc_45 : pci 45 = 4 := by decide +kernel
theorem pr_45 : pret 45 = some FieldType.boolean := by decide +kernel
theorem pn_46 : pna 46 = 0 := by decide +kernel
theorem pc_46 : pci 46 = 4 := by decide +kernel
theorem pr_46 : pret 46 = some FieldType.int := by decide +kernel
theorem pn_47 : pna 47 = 1 := by decide +kernel
theorem pc_47 : pci 47 = 4 := by decide +kernel
theorem pr_47 : pret 47 = some FieldType.int := by decide +kernel
theorem pn_48 : pna 48 = 1 := by decide +kernel
theorem pc_48 : pci 48 = 4 := by decide +kernel
theorem pr_48 : pret 48 = none := by decide +kernel
theorem pn_49 : pna 49 = 1 := by decide +kernel
theorem pc_49 : pci 49 = 4 := by decide +kernel
theorem pr_49 : pret 49 = some FieldType.boolean := by decide +kernel
theorem pn_50 : pna 50 = 0 := by decide +kernel
theorem pc_50 : pci 50 = 4 := by decide +kernel
theorem pr_50 : pret 50 = none := by decide +kernel
theorem pn_51 : pna 51 = 1 := by decide +kernel
theorem pc_51 : pci 51 = 4 := by decide +kernel
theorem pr_51 : pret 51 = some FieldType.boolean := by decide +kernel
theorem pn_52 : pna 52 = 1 := by decide +kernel
theorem pc_52 : pci 52 = 4 := by decide +kernel
theorem pr_52 : pret 52 = some FieldType.boolean := by decide +kernel
theorem pn_53 : pna 53 = 1 := by decide +kernel
theorem pc_53 : pci 53 = 4 := by decide +kernel
theorem pr_53 : pret 53 = some FieldType.boolean := by decide +kernel
theorem pn_54 : pna 54 = 1 := by decide +kernel
theorem pc_54 : pci 54 = 4 := by decide +kernel
theorem pr_54 : pret 54 = some FieldType.int := by decide +kernel
theorem pn_55 : pna 55 = 2 := by decide +kernel
theorem pc_55 : pci 55 = 3 := by decide +kernel
theorem pr_55 : pret 55 = none := by decide +kernel
theorem pn_56 : pna 56 = 3 := by decide +kernel
theorem pc_56 : pci 56 = 0 := by decide +kernel
theorem pr_56 : pret 56 = some FieldType.int := by decide +kernel
theorem pn_57 : pna 57 = 1 := by decide +kernel
theorem pc_57 : pci 57 = 0 := by decide +kernel
theorem pr_57 : rfR (pret 57) = true := by decide +kernel
theorem pn_58 : pna 58 = 6 := by decide +kernel
theorem pc_58 : pci 58 = 3 := by decide +kernel
theorem pr_58 : pret 58 = some FieldType.int := by decide +kernel
theorem pn_59 : pna 59 = 7 := by decide +kernel
theorem pc_59 : pci 59 = 3 := by decide +kernel
theorem pr_59 : pret 59 = some FieldType.int := by decide +kernel
theorem pn_60 : pna 60 = 1 := by decide +kernel
theorem pc_60 : pci 60 = 3 := by decide +kernel
theorem pr_60 : pret 60 = some FieldType.int := by decide +kernel
theorem pn_61 : pna 61 = 3 := by decide +kernel
theorem pc_61 : pci 61 = 3 := by decide +kernel
theorem pr_61 : pret 61 = some FieldType.int := by decide +kernel
theorem pn_62 : pna 62 = 3 := by decide +kernel
theorem pc_62 : pci 62 = 0 := by decide +kernel
theorem pr_62 : pret 62 = some FieldType.int := by decide +kernel
theorem pn_63 : pna 63 = 7 := by decide +kernel
theorem pc_63 : pci 63 = 9 := by decide +kernel
theorem pr_63 : pret 63 = none := by decide +kernel
theorem pn_64 : pna 64 = 3 := by decide +kernel
theorem pc_64 : pci 64 = 0 := by decide +kernel
theorem pr_64 : pret 64 = some FieldType.int := by decide +kernel
theorem pn_65 : pna 65 = 1 := by decide +kernel
theorem pc_65 : pci 65 = 0 := by decide +kernel
theorem pr_65 : pret 65 = some FieldType.boolean := by decide +kernel
theorem pn_66 : pna 66 = 4 := by decide +kernel
theorem pc_66 : pci 66 = 0 := by decide +kernel
theorem pr_66 : pret 66 = some FieldType.long := by decide +kernel
theorem pn_67 : pna 67 = 3 := by decide +kernel
theorem pc_67 : pci 67 = 9 := by decide +kernel
theorem pr_67 : pret 67 = some FieldType.long := by decide +kernel
theorem pn_68 : pna 68 = 1 := by decide +kernel
theorem pc_68 : pci 68 = 0 := by decide +kernel
theorem pr_68 : pret 68 = some FieldType.int := by decide +kernel
theorem pn_69 : pna 69 = 2 := by decide +kernel
theorem pc_69 : pci 69 = 0 := by decide +kernel
theorem pr_69 : pret 69 = some FieldType.int := by decide +kernel
theorem pn_70 : pna 70 = 3 := by decide +kernel
theorem pc_70 : pci 70 = 0 := by decide +kernel
theorem pr_70 : pret 70 = some FieldType.int := by decide +kernel
theorem pn_71 : pna 71 = 2 := by decide +kernel
theorem pc_71 : pci 71 = 0 := by decide +kernel
theorem pr_71 : pret 71 = some FieldType.int := by decide +kernel
theorem pn_72 : pna 72 = 0 := by decide +kernel
theorem pc_72 : pci 72 = 8 := by decide +kernel
theorem pr_72 : pret 72 = some FieldType.int := by decide +kernel
theorem pn_73 : pna 73 = 0 := by decide +kernel
theorem pc_73 : pci 73 = 8 := by decide +kernel
theorem pr_73 : pret 73 = some FieldType.int := by decide +kernel
theorem pn_74 : pna 74 = 0 := by decide +kernel
theorem pc_74 : pci 74 = 8 := by decide +kernel
theorem pr_74 : pret 74 = some FieldType.int := by decide +kernel
theorem pn_75 : pna 75 = 3 := by decide +kernel
theorem pc_75 : pci 75 = 0 := by decide +kernel
theorem pr_75 : pret 75 = some FieldType.int := by decide +kernel
theorem pn_76 : pna 76 = 3 := by decide +kernel
theorem pc_76 : pci 76 = 8 := by decide +kernel
theorem pr_76 : pret 76 = some FieldType.int := by decide +kernel
theorem pn_77 : pna 77 = 4 := by decide +kernel
theorem pc_77 : pci 77 = 0 := by decide +kernel
theorem pr_77 : pret 77 = some FieldType.int := by decide +kernel
theorem pn_78 : pna 78 = 4 := by decide +kernel
theorem pc_78 : pci 78 = 0 := by decide +kernel
theorem pr_78 : pret 78 = some FieldType.int := by decide +kernel
theorem pn_79 : pna 79 = 4 := by decide +kernel
theorem pc_79 : pci 79 = 6 := by decide +kernel
theorem pr_79 : pret 79 = none := by decide +kernel
theorem pn_80 : pna 80 = 1 := by decide +kernel
theorem pc_80 : pci 80 = 6 := by decide +kernel
theorem pr_80 : pret 80 = none := by decide +kernel
theorem pn_81 : pna 81 = 1 := by decide +kernel
theorem pc_81 : pci 81 = 6 := by decide +kernel
theorem pr_81 : pret 81 = some FieldType.int := by decide +kernel
theorem pn_82 : pna 82 = 2 := by decide +kernel
theorem pc_82 : pci 82 = 0 := by decide +kernel
theorem pr_82 : pret 82 = some FieldType.int := by decide +kernel
theorem pn_83 : pna 83 = 0 := by decide +kernel
theorem pc_83 : pci 83 = 8 := by decide +kernel
theorem pr_83 : pret 83 = some FieldType.int := by decide +kernel
theorem pn_84 : pna 84 = 3 := by decide +kernel
theorem pc_84 : pci 84 = 0 := by decide +kernel
theorem pr_84 : pret 84 = some FieldType.int := by decide +kernel
theorem pn_85 : pna 85 = 4 := by decide +kernel
theorem pc_85 : pci 85 = 0 := by decide +kernel
theorem pr_85 : pret 85 = some FieldType.int := by decide +kernel
theorem pn_86 : pna 86 = 1 := by decide +kernel
theorem pc_86 : pci 86 = 99 := by decide +kernel
theorem pr_86 : pret 86 = some FieldType.int := by decide +kernel
theorem pn_87 : pna 87 = 2 := by decide +kernel
theorem pc_87 : pci 87 = 0 := by decide +kernel
theorem pr_87 : pret 87 = some FieldType.boolean := by decide +kernel
theorem pn_88 : pna 88 = 0 := by decide +kernel
theorem pc_88 : pci 88 = 5 := by decide +kernel
theorem pr_88 : pret 88 = none := by decide +kernel
theorem pn_89 : pna 89 = 4 := by decide +kernel
theorem pc_89 : pci 89 = 0 := by decide +kernel
theorem pr_89 : pret 89 = none := by decide +kernel
theorem pn_90 : pna 90 = 0 := by decide +kernel
theorem pc_90 : pci 90 = 5 := by decide +kernel
theorem pr_90 : pret 90 = none := by decide +kernel
theorem pn_91 : pna 91 = 1 := by decide +kernel
theorem pc_91 : pci 91 = 5 := by decide +kernel
theorem pr_91 : pret 91 = none := by decide +kernel
theorem pn_92 : pna 92 = 1 := by decide +kernel
theorem pc_92 : pci 92 = 5 := by decide +kernel
theorem pr_92 : pret 92 = none := by decide +kernel
theorem pn_93 : pna 93 = 1 := by decide +kernel
theorem pc_93 : pci 93 = 5 := by decide +kernel
theorem pr_93 : pret 93 = some FieldType.int := by decide +kernel
theorem pn_94 : pna 94 = 1 := by decide +kernel
theorem pc_94 : pci 94 = 5 := by decide +kernel
theorem pr_94 : pret 94 = some FieldType.int := by decide +kernel
theorem pn_95 : pna 95 = 2 := by decide +kernel
theorem pc_95 : pci 95 = 0 := by decide +kernel
theorem pr_95 : pret 95 = some FieldType.int := by decide +kernel
theorem pn_96 : pna 96 = 3 := by decide +kernel
theorem pc_96 : pci 96 = 0 := by decide +kernel
theorem pr_96 : pret 96 = some FieldType.int := by decide +kernel
theorem pn_97 : pna 97 = 0 := by decide +kernel
theorem pc_97 : pci 97 = 5 := by decide +kernel
theorem pr_97 : pret 97 = some FieldType.int := by decide +kernel
theorem pn_98 : pna 98 = 1 := by decide +kernel
theorem pc_98 : pci 98 = 5 := by decide +kernel
theorem pr_98 : pret 98 = some FieldType.long := by decide +kernel
theorem pn_99 : pna 99 = 3 := by decide +kernel
theorem pc_99 : pci 99 = 0 := by decide +kernel
theorem pr_99 : pret 99 = some FieldType.int := by decide +kernel
theorem pn_100 : pna 100 = 4 := by decide +kernel
theorem pc_100 : pci 100 = 0 := by decide +kernel
theorem pr_100 : pret 100 = some FieldType.long := by decide +kernel
theorem pn_101 : pna 101 = 3 := by decide +kernel
theorem pc_101 : pci 101 = 0 := by decide +kernel
theorem pr_101 : pret 101 = some FieldType.int := by decide +kernel
theorem pn_102 : pna 102 = 0 := by decide +kernel
theorem pc_102 : pci 102 = 0 := by decide +kernel
theorem pr_102 : pret 102 = some FieldType.int := by decide +kernel
theorem pn_103 : pna 103 = 1 := by decide +kernel
theorem pc_103 : pci 103 = 0 := by decide +kernel
theorem pr_103 : pret 103 = some FieldType.int := by decide +kernel
theorem pn_104 : pna 104 = 1 := by decide +kernel
theorem pc_104 : pci 104 = 2 := by decide +kernel
theorem pr_104 : pret 104 = some FieldType.boolean := by decide +kernel
theorem pn_105 : pna 105 = 1 := by decide +kernel
theorem pc_105 : pci 105 = 0 := by decide +kernel
theorem pr_105 : pret 105 = some FieldType.int := by decide +kernel
theorem pn_106 : pna 106 = 0 := by decide +kernel
theorem pc_106 : pci 106 = 2 := by decide +kernel
theorem pr_106 : pret 106 = some FieldType.int := by decide +kernel
theorem pn_107 : pna 107 = 0 := by decide +kernel
theorem pc_107 : pci 107 = 2 := by decide +kernel
theorem pr_107 : pret 107 = some FieldType.int := by decide +kernel
theorem pn_108 : pna 108 = 1 := by decide +kernel
theorem pc_108 : pci 108 = 2 := by decide +kernel
theorem pr_108 : pret 108 = some FieldType.int := by decide +kernel
theorem pn_109 : pna 109 = 2 := by decide +kernel
theorem pc_109 : pci 109 = 0 := by decide +kernel
theorem pr_109 : pret 109 = some FieldType.int := by decide +kernel
theorem pn_110 : pna 110 = 2 := by decide +kernel
theorem pc_110 : pci 110 = 2 := by decide +kernel
theorem pr_110 : pret 110 = some FieldType.int := by decide +kernel
theorem pn_111 : pna 111 = 0 := by decide +kernel
theorem pc_111 : pci 111 = 0 := by decide +kernel
theorem pr_111 : pret 111 = some FieldType.int := by decide +kernel
theorem pn_112 : pna 112 = 1 := by decide +kernel
theorem pc_112 : pci 112 = 1 := by decide +kernel
theorem pr_112 : pret 112 = some FieldType.int := by decide +kernel
theorem pn_113 : pna 113 = 1 := by decide +kernel
theorem pc_113 : pci 113 = 1 := by decide +kernel
theorem pr_113 : pret 113 = some FieldType.int := by decide +kernel
theorem pn_114 : pna 114 = 0 := by decide +kernel
theorem pc_114 : pci 114 = 0 := by decide +kernel
theorem pr_114 : pret 114 = some FieldType.int := by decide +kernel
theorem pn_115 : pna 115 = 1 := by decide +kernel
theorem pc_115 : pci 115 = 1 := by decide +kernel
theorem pr_115 : pret 115 = some FieldType.int := by decide +kernel
theorem pn_116 : pna 116 = 1 := by decide +kernel
theorem pc_116 : pci 116 = 0 := by decide +kernel
theorem pr_116 : pret 116 = some FieldType.int := by decide +kernel
theorem pn_117 : pna 117 = 1 := by decide +kernel
theorem pc_117 : pci 117 = 10 := by decide +kernel
theorem pr_117 : pret 117 = some FieldType.boolean := by decide +kernel
theorem pn_118 : pna 118 = 1 := by decide +kernel
theorem pc_118 : pci 118 = 10 := by decide +kernel
theorem pr_118 : pret 118 = some FieldType.boolean := by decide +kernel
theorem pn_119 : pna 119 = 3 := by decide +kernel
theorem pc_119 : pci 119 = 0 := by decide +kernel
theorem pr_119 : pret 119 = some FieldType.int := by decide +kernel
theorem pn_120 : pna 120 = 3 := by decide +kernel
theorem pc_120 : pci 120 = 10 := by decide +kernel
theorem pr_120 : pret 120 = some FieldType.int := by decide +kernel
theorem pn_121 : pna 121 = 1 := by decide +kernel
theorem pc_121 : pci 121 = 10 := by decide +kernel
theorem pr_121 : pret 121 = some FieldType.int := by decide +kernel
theorem pn_122 : pna 122 = 3 := by decide +kernel
theorem pc_122 : pci 122 = 10 := by decide +kernel
theorem pr_122 : pret 122 = some FieldType.int := by decide +kernel
theorem pn_123 : pna 123 = 4 := by decide +kernel
theorem pc_123 : pci 123 = 10 := by decide +kernel
theorem pr_123 : pret 123 = some FieldType.int := by decide +kernel
theorem pn_124 : pna 124 = 1 := by decide +kernel
theorem pc_124 : pci 124 = 10 := by decide +kernel
theorem pr_124 : pret 124 = none := by decide +kernel
theorem pn_125 : pna 125 = 1 := by decide +kernel
theorem pc_125 : pci 125 = 10 := by decide +kernel
theorem pr_125 : pret 125 = some FieldType.int := by decide +kernel
theorem pn_126 : pna 126 = 4 := by decide +kernel
theorem pc_126 : pci 126 = 10 := by decide +kernel
theorem pr_126 : pret 126 = some FieldType.int := by decide +kernel
theorem pn_127 : pna 127 = 1 := by decide +kernel
theorem pc_127 : pci 127 = 0 := by decide +kernel
theorem pr_127 : pret 127 = some FieldType.int := by decide +kernel
theorem pn_128 : pna 128 = 0 := by decide +kernel
theorem pc_128 : pci 128 = 10 := by decide +kernel
theorem pr_128 : pret 128 = some FieldType.int := by decide +kernel
theorem pn_129 : pna 129 = 1 := by decide +kernel
theorem pc_129 : pci 129 = 10 := by decide +kernel
theorem pr_129 : pret 129 = some FieldType.int := by decide +kernel
theorem pn_130 : pna 130 = 2 := by decide +kernel
theorem pc_130 : pci 130 = 0 := by decide +kernel
theorem pr_130 : pret 130 = some FieldType.int := by decide +kernel
theorem pn_131 : pna 131 = 0 := by decide +kernel
theorem pc_131 : pci 131 = 7 := by decide +kernel
theorem pr_131 : pret 131 = none := by decide +kernel
theorem pn_132 : pna 132 = 1 := by decide +kernel
theorem pc_132 : pci 132 = 7 := by decide +kernel
theorem pr_132 : pret 132 = none := by decide +kernel
theorem pn_133 : pna 133 = 3 := by decide +kernel
theorem pc_133 : pci 133 = 0 := by decide +kernel
theorem pr_133 : pret 133 = some FieldType.int := by decide +kernel
theorem pn_134 : pna 134 = 1 := by decide +kernel
theorem pc_134 : pci 134 = 7 := by decide +kernel
theorem pr_134 : pret 134 = some FieldType.boolean := by decide +kernel
theorem pn_135 : pna 135 = 2 := by decide +kernel
theorem pc_135 : pci 135 = 7 := by decide +kernel
theorem pr_135 : pret 135 = none := by decide +kernel
theorem pn_136 : pna 136 = 3 := by decide +kernel
theorem pc_136 : pci 136 = 0 := by decide +kernel
theorem pr_136 : pret 136 = some FieldType.int := by decide +kernel
theorem pn_137 : pna 137 = 2 := by decide +kernel
theorem pc_137 : pci 137 = 0 := by decide +kernel
theorem pr_137 : pret 137 = some FieldType.int := by decide +kernel
theorem pn_138 : pna 138 = 2 := by decide +kernel
theorem pc_138 : pci 138 = 7 := by decide +kernel
theorem pr_138 : pret 138 = none := by decide +kernel
theorem pn_139 : pna 139 = 1 := by decide +kernel
theorem pc_139 : pci 139 = 7 := by decide +kernel
theorem pr_139 : pret 139 = some FieldType.long := by decide +kernel
theorem pn_140 : pna 140 = 2 := by decide +kernel
theorem pc_140 : pci 140 = 0 := by decide +kernel
theorem pr_140 : pret 140 = some FieldType.long := by decide +kernel
theorem pn_141 : pna 141 = 5 := by decide +kernel
theorem pc_141 : pci 141 = 0 := by decide +kernel
theorem pr_141 : pret 141 = some FieldType.int := by decide +kernel
theorem pn_142 : pna 142 = 2 := by decide +kernel
theorem pc_142 : pci 142 = 7 := by decide +kernel
theorem pr_142 : pret 142 = some FieldType.boolean := by decide +kernel
theorem pn_143 : pna 143 = 2 := by decide +kernel
theorem pc_143 : pci 143 = 0 := by decide +kernel
theorem pr_143 : pret 143 = some FieldType.int := by decide +kernel
theorem pn_144 : pna 144 = 2 := by decide +kernel
theorem pc_144 : pci 144 = 10 := by decide +kernel
theorem pr_144 : pret 144 = some FieldType.boolean := by decide +kernel
theorem pn_145 : pna 145 = 1 := by decide +kernel
theorem pc_145 : pci 145 = 0 := by decide +kernel
theorem pr_145 : pret 145 = some FieldType.int := by decide +kernel
theorem pn_146 : pna 146 = 0 := by decide +kernel
theorem pc_146 : pci 146 = 11 := by decide +kernel
theorem pr_146 : pret 146 = none := by decide +kernel
theorem pn_147 : pna 147 = 3 := by decide +kernel
theorem pc_147 : pci 147 = 11 := by decide +kernel
theorem pr_147 : pret 147 = some FieldType.int := by decide +kernel
theorem pn_148 : pna 148 = 3 := by decide +kernel
theorem pc_148 : pci 148 = 11 := by decide +kernel
theorem pr_148 : pret 148 = some FieldType.boolean := by decide +kernel
theorem pn_149 : pna 149 = 2 := by decide +kernel
theorem pc_149 : pci 149 = 11 := by decide +kernel
theorem pr_149 : pret 149 = some FieldType.int := by decide +kernel
theorem pn_150 : pna 150 = 1 := by decide +kernel
theorem pc_150 : pci 150 = 11 := by decide +kernel
theorem pr_150 : pret 150 = some FieldType.boolean := by decide +kernel
theorem pn_151 : pna 151 = 1 := by decide +kernel
theorem pc_151 : pci 151 = 11 := by decide +kernel
theorem pr_151 : pret 151 = some FieldType.int := by decide +kernel
theorem pn_152 : pna 152 = 1 := by decide +kernel
theorem pc_152 : pci 152 = 11 := by decide +kernel
theorem pr_152 : pret 152 = some FieldType.long := by decide +kernel
theorem pn_153 : pna 153 = 2 := by decide +kernel
theorem pc_153 : pci 153 = 11 := by decide +kernel
theorem pr_153 : pret 153 = some FieldType.int := by decide +kernel
theorem pn_154 : pna 154 = 1 := by decide +kernel
theorem pc_154 : pci 154 = 11 := by decide +kernel
theorem pr_154 : pret 154 = some FieldType.boolean := by decide +kernel
theorem pn_155 : pna 155 = 2 := by decide +kernel
theorem pc_155 : pci 155 = 11 := by decide +kernel
theorem pr_155 : pret 155 = some FieldType.int := by decide +kernel
theorem pn_156 : pna 156 = 1 := by decide +kernel
theorem pc_156 : pci 156 = 11 := by decide +kernel
theorem pr_156 : pret 156 = some FieldType.int := by decide +kernel
theorem pn_157 : pna 157 = 2 := by decide +kernel
theorem pc_157 : pci 157 = 11 := by decide +kernel
theorem pr_157 : pret 157 = none := by decide +kernel
theorem pn_158 : pna 158 = 3 := by decide +kernel
theorem pc_158 : pci 158 = 11 := by decide +kernel
theorem pr_158 : pret 158 = some FieldType.int := by decide +kernel
theorem pn_159 : pna 159 = 4 := by decide +kernel
theorem pc_159 : pci 159 = 11 := by decide +kernel
theorem pr_159 : pret 159 = some FieldType.int := by decide +kernel
theorem pn_160 : pna 160 = 1 := by decide +kernel
theorem pc_160 : pci 160 = 11 := by decide +kernel
theorem pr_160 : pret 160 = some FieldType.boolean := by decide +kernel
theorem pn_161 : pna 161 = 2 := by decide +kernel
theorem pc_161 : pci 161 = 11 := by decide +kernel
theorem pr_161 : pret 161 = some FieldType.int := by decide +kernel
theorem pn_162 : pna 162 = 1 := by decide +kernel
theorem pc_162 : pci 162 = 11 := by decide +kernel
theorem pr_162 : pret 162 = some FieldType.int := by decide +kernel
theorem pn_163 : pna 163 = 1 := by decide +kernel
theorem pc_163 : pci 163 = 11 := by decide +kernel
theorem pr_163 : pret 163 = some FieldType.int := by decide +kernel
theorem pn_164 : pna 164 = 2 := by decide +kernel
theorem pc_164 : pci 164 = 11 := by decide +kernel
theorem pr_164 : pret 164 = some FieldType.int := by decide +kernel
theorem pn_165 : pna 165 = 0 := by decide +kernel
theorem pc_165 : pci 165 = 11 := by decide +kernel
theorem pr_165 : pret 165 = some FieldType.int := by decide +kernel
theorem pn_166 : pna 166 = 1 := by decide +kernel
theorem pc_166 : pci 166 = 11 := by decide +kernel
theorem pr_166 : pret 166 = some FieldType.int := by decide +kernel
theorem pn_167 : pna 167 = 0 := by decide +kernel
theorem pc_167 : pci 167 = 11 := by decide +kernel
theorem pr_167 : pret 167 = some FieldType.boolean := by decide +kernel
theorem pn_168 : pna 168 = 0 := by decide +kernel
theorem pc_168 : pci 168 = 11 := by decide +kernel
theorem pr_168 : pret 168 = some FieldType.boolean := by decide +kernel
theorem pn_169 : pna 169 = 0 := by decide +kernel
theorem pc_169 : pci 169 = 11 := by decide +kernel
theorem pr_169 : pret 169 = some FieldType.boolean := by decide +kernel
theorem pn_170 : pna 170 = 0 := by decide +kernel
theorem pc_170 : pci 170 = 11 := by decide +kernel
theorem pr_170 : pret 170 = some FieldType.boolean := by decide +kernel
theorem pn_171 : pna 171 = 0 := by decide +kernel
theorem pc_171 : pci 171 = 11 := by decide +kernel
theorem pr_171 : pret 171 = some FieldType.boolean := by decide +kernel
theorem pn_172 : pna 172 = 0 := by decide +kernel
theorem pc_172 : pci 172 = 11 := by decide +kernel
theorem pr_172 : pret 172 = some FieldType.boolean := by decide +kernel
theorem pn_173 : pna 173 = 0 := by decide +kernel
theorem pc_173 : pci 173 = 11 := by decide +kernel
theorem pr_173 : pret 173 = some FieldType.boolean := by decide +kernel
theorem pn_174 : pna 174 = 0 := by decide +kernel
theorem pc_174 : pci 174 = 11 := by decide +kernel
theorem pr_174 : pret 174 = some FieldType.int := by decide +kernel
theorem pn_175 : pna 175 = 0 := by decide +kernel
theorem pc_175 : pci 175 = 11 := by decide +kernel
theorem pr_175 : pret 175 = some FieldType.boolean := by decide +kernel
theorem pn_176 : pna 176 = 1 := by decide +kernel
theorem pc_176 : pci 176 = 11 := by decide +kernel
theorem pr_176 : pret 176 = none := by decide +kernel
theorem pn_177 : pna 177 = 1 := by decide +kernel
theorem pc_177 : pci 177 = 11 := by decide +kernel
theorem pr_177 : pret 177 = some FieldType.int := by decide +kernel
theorem pn_178 : pna 178 = 3 := by decide +kernel
theorem pc_178 : pci 178 = 11 := by decide +kernel
theorem pr_178 : pret 178 = some FieldType.int := by decide +kernel
theorem pn_179 : pna 179 = 1 := by decide +kernel
theorem pc_179 : pci 179 = 11 := by decide +kernel
theorem pr_179 : pret 179 = some FieldType.boolean := by decide +kernel
theorem pn_180 : pna 180 = 7 := by decide +kernel
theorem pc_180 : pci 180 = 11 := by decide +kernel
theorem pr_180 : pret 180 = some FieldType.int := by decide +kernel
theorem pn_181 : pna 181 = 8 := by decide +kernel
theorem pc_181 : pci 181 = 11 := by decide +kernel
theorem pr_181 : pret 181 = some FieldType.int := by decide +kernel
theorem pn_182 : pna 182 = 7 := by decide +kernel
theorem pc_182 : pci 182 = 11 := by decide +kernel
theorem pr_182 : pret 182 = some FieldType.int := by decide +kernel
theorem pn_183 : pna 183 = 1 := by decide +kernel
theorem pc_183 : pci 183 = 11 := by decide +kernel
theorem pr_183 : pret 183 = some FieldType.int := by decide +kernel
theorem pn_184 : pna 184 = 3 := by decide +kernel
theorem pc_184 : pci 184 = 11 := by decide +kernel
theorem pr_184 : pret 184 = some FieldType.int := by decide +kernel
theorem pn_185 : pna 185 = 3 := by decide +kernel
theorem pc_185 : pci 185 = 11 := by decide +kernel
theorem pr_185 : pret 185 = some FieldType.int := by decide +kernel
theorem pn_186 : pna 186 = 3 := by decide +kernel
theorem pc_186 : pci 186 = 11 := by decide +kernel
theorem pr_186 : pret 186 = some FieldType.int := by decide +kernel
theorem pn_187 : pna 187 = 1 := by decide +kernel
theorem pc_187 : pci 187 = 11 := by decide +kernel
theorem pr_187 : pret 187 = some FieldType.boolean := by decide +kernel
theorem pn_188 : pna 188 = 4 := by decide +kernel
theorem pc_188 : pci 188 = 11 := by decide +kernel
theorem pr_188 : pret 188 = some FieldType.long := by decide +kernel
theorem pn_189 : pna 189 = 4 := by decide +kernel
theorem pc_189 : pci 189 = 11 := by decide +kernel
theorem pr_189 : pret 189 = some FieldType.long := by decide +kernel
theorem pn_190 : pna 190 = 1 := by decide +kernel
theorem pc_190 : pci 190 = 11 := by decide +kernel
theorem pr_190 : pret 190 = some FieldType.int := by decide +kernel
theorem pn_191 : pna 191 = 2 := by decide +kernel
theorem pc_191 : pci 191 = 11 := by decide +kernel
theorem pr_191 : pret 191 = some FieldType.int := by decide +kernel
theorem pn_192 : pna 192 = 3 := by decide +kernel
theorem pc_192 : pci 192 = 11 := by decide +kernel
theorem pr_192 : pret 192 = some FieldType.int := by decide +kernel
theorem pn_193 : pna 193 = 2 := by decide +kernel
theorem pc_193 : pci 193 = 11 := by decide +kernel
theorem pr_193 : pret 193 = some FieldType.int := by decide +kernel
theorem pn_194 : pna 194 = 1 := by decide +kernel
theorem pc_194 : pci 194 = 11 := by decide +kernel
theorem pr_194 : pret 194 = some FieldType.int := by decide +kernel
theorem pn_195 : pna 195 = 2 := by decide +kernel
theorem pc_195 : pci 195 = 11 := by decide +kernel
theorem pr_195 : pret 195 = some FieldType.int := by decide +kernel
theorem pn_196 : pna 196 = 1 := by decide +kernel
theorem pc_196 : pci 196 = 11 := by decide +kernel
theorem pr_196 : pret 196 = some FieldType.int := by decide +kernel
theorem pn_197 : pna 197 = 3 := by decide +kernel
theorem pc_197 : pci 197 = 11 := by decide +kernel
theorem pr_197 : pret 197 = some FieldType.int := by decide +kernel
theorem pn_198 : pna 198 = 4 := by decide +kernel
theorem pc_198 : pci 198 = 11 := by decide +kernel
theorem pr_198 : pret 198 = some FieldType.int := by decide +kernel
theorem pn_199 : pna 199 = 4 := by decide +kernel
theorem pc_199 : pci 199 = 11 := by decide +kernel
theorem pr_199 : pret 199 = some FieldType.int := by decide +kernel
theorem pn_200 : pna 200 = 3 := by decide +kernel
theorem pc_200 : pci 200 = 11 := by decide +kernel
theorem pr_200 : pret 200 = none := by decide +kernel
theorem pn_201 : pna 201 = 2 := by decide +kernel
theorem pc_201 : pci 201 = 11 := by decide +kernel
theorem pr_201 : pret 201 = some FieldType.int := by decide +kernel
theorem pn_202 : pna 202 = 3 := by decide +kernel
theorem pc_202 : pci 202 = 11 := by decide +kernel
theorem pr_202 : pret 202 = some FieldType.int := by decide +kernel
theorem pn_203 : pna 203 = 4 := by decide +kernel
theorem pc_203 : pci 203 = 11 := by decide +kernel
theorem pr_203 : pret 203 = some FieldType.int := by decide +kernel
theorem pn_204 : pna 204 = 1 := by decide +kernel
theorem pc_204 : pci 204 = 11 := by decide +kernel
theorem pr_204 : pret 204 = some FieldType.int := by decide +kernel
theorem pn_205 : pna 205 = 0 := by decide +kernel
theorem pc_205 : pci 205 = 11 := by decide +kernel
theorem pr_205 : pret 205 = some FieldType.boolean := by decide +kernel
theorem pn_206 : pna 206 = 2 := by decide +kernel
theorem pc_206 : pci 206 = 11 := by decide +kernel
theorem pr_206 : pret 206 = none := by decide +kernel
theorem pn_207 : pna 207 = 2 := by decide +kernel
theorem pc_207 : pci 207 = 11 := by decide +kernel
theorem pr_207 : pret 207 = some FieldType.boolean := by decide +kernel
theorem pn_208 : pna 208 = 2 := by decide +kernel
theorem pc_208 : pci 208 = 11 := by decide +kernel
theorem pr_208 : pret 208 = some FieldType.long := by decide +kernel
theorem pn_209 : pna 209 = 3 := by decide +kernel
theorem pc_209 : pci 209 = 11 := by decide +kernel
theorem pr_209 : pret 209 = some FieldType.int := by decide +kernel
theorem pn_210 : pna 210 = 3 := by decide +kernel
theorem pc_210 : pci 210 = 11 := by decide +kernel
theorem pr_210 : pret 210 = some FieldType.int := by decide +kernel
theorem pn_211 : pna 211 = 3 := by decide +kernel
theorem pc_211 : pci 211 = 11 := by decide +kernel
theorem pr_211 : pret 211 = some FieldType.int := by decide +kernel
theorem pn_212 : pna 212 = 1 := by decide +kernel
theorem pc_212 : pci 212 = 11 := by decide +kernel
theorem pr_212 : pret 212 = some FieldType.int := by decide +kernel
theorem pn_213 : pna 213 = 1 := by decide +kernel
theorem pc_213 : pci 213 = 11 := by decide +kernel
theorem pr_213 : pret 213 = some FieldType.int := by decide +kernel
theorem pn_214 : pna 214 = 2 := by decide +kernel
theorem pc_214 : pci 214 = 11 := by decide +kernel
theorem pr_214 : pret 214 = some FieldType.int := by decide +kernel
theorem pn_215 : pna 215 = 0 := by decide +kernel
theorem pc_215 : pci 215 = 11 := by decide +kernel
theorem pr_215 : pret 215 = some FieldType.int := by decide +kernel
theorem pn_216 : pna 216 = 0 := by decide +kernel
theorem pc_216 : pci 216 = 11 := by decide +kernel
theorem pr_216 : pret 216 = some FieldType.int := by decide +kernel
theorem pn_217 : pna 217 = 1 := by decide +kernel
theorem pc_217 : pci 217 = 11 := by decide +kernel
theorem pr_217 : pret 217 = some FieldType.int := by decide +kernel
theorem pn_218 : pna 218 = 3 := by decide +kernel
theorem pc_218 : pci 218 = 11 := by decide +kernel
theorem pr_218 : pret 218 = some FieldType.int := by decide +kernel
theorem pn_219 : pna 219 = 2 := by decide +kernel
theorem pc_219 : pci 219 = 11 := by decide +kernel
theorem pr_219 : pret 219 = some FieldType.int := by decide +kernel
theorem pn_220 : pna 220 = 1 := by decide +kernel
theorem pc_220 : pci 220 = 11 := by decide +kernel
theorem pr_220 : pret 220 = none := by decide +kernel
theorem pn_221 : pna 221 = 1 := by decide +kernel
theorem pc_221 : pci 221 = 11 := by decide +kernel
theorem pr_221 : pret 221 = some FieldType.int := by decide +kernel
theorem pn_222 : pna 222 = 2 := by decide +kernel
theorem pc_222 : pci 222 = 11 := by decide +kernel
theorem pr_222 : pret 222 = some FieldType.int := by decide +kernel
theorem pn_223 : pna 223 = 2 := by decide +kernel
theorem pc_223 : pci 223 = 11 := by decide +kernel
theorem pr_223 : pret 223 = some FieldType.int := by decide +kernel
theorem pn_224 : pna 224 = 2 := by decide +kernel
theorem pc_224 : pci 224 = 11 := by decide +kernel
theorem pr_224 : pret 224 = some FieldType.int := by decide +kernel
theorem pn_225 : pna 225 = 1 := by decide +kernel
theorem pc_225 : pci 225 = 11 := by decide +kernel
theorem pr_225 : pret 225 = some FieldType.int := by decide +kernel
theorem pn_226 : pna 226 = 2 := by decide +kernel
theorem pc_226 : pci 226 = 11 := by decide +kernel
theorem pr_226 : pret 226 = some FieldType.int := by decide +kernel
theorem pn_227 : pna 227 = 3 := by decide +kernel
theorem pc_227 : pci 227 = 11 := by decide +kernel
theorem pr_227 : pret 227 = some FieldType.int := by decide +kernel
theorem pn_228 : pna 228 = 3 := by decide +kernel
theorem pc_228 : pci 228 = 11 := by decide +kernel
theorem pr_228 : pret 228 = some FieldType.int := by decide +kernel
theorem pn_229 : pna 229 = 2 := by decide +kernel
theorem pc_229 : pci 229 = 11 := by decide +kernel
theorem pr_229 : pret 229 = some FieldType.int := by decide +kernel
theorem pn_230 : pna 230 = 2 := by decide +kernel
theorem pc_230 : pci 230 = 11 := by decide +kernel
theorem pr_230 : pret 230 = some FieldType.long := by decide +kernel
theorem pn_231 : pna 231 = 2 := by decide +kernel
theorem pc_231 : pci 231 = 11 := by decide +kernel
theorem pr_231 : pret 231 = some FieldType.long := by decide +kernel
theorem pn_232 : pna 232 = 5 := by decide +kernel
theorem pc_232 : pci 232 = 11 := by decide +kernel
theorem pr_232 : pret 232 = some FieldType.int := by decide +kernel
theorem pn_233 : pna 233 = 2 := by decide +kernel
theorem pc_233 : pci 233 = 11 := by decide +kernel
theorem pr_233 : pret 233 = some FieldType.int := by decide +kernel
theorem pn_234 : pna 234 = 2 := by decide +kernel
theorem pc_234 : pci 234 = 11 := by decide +kernel
theorem pr_234 : pret 234 = some FieldType.boolean := by decide +kernel
theorem pn_235 : pna 235 = 1 := by decide +kernel
theorem pc_235 : pci 235 = 11 := by decide +kernel
theorem pr_235 : pret 235 = some FieldType.int := by decide +kernel
theorem sw_c {x : Int32} {a o d : Int} {r : List (Int × Int)} {X : XX} {e y : Nat} {ls st : List Value} {h : HP} {A B : Option Rs} {v : Int32} (hv : Int32.ofInt a = v) (h1 : exe X e y o.toNat ls st h = A) (h2 : exe X e y (swt r d x) ls st h = B) : exe X e y (swt ((a, o) :: r) d x) ls st h = if x = v then A else B := by
  subst hv h1 h2
  show exe X e y (if x = Int32.ofInt a then o.toNat else swt r d x) ls st h = _
  split <;> rfl
