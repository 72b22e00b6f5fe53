def tgX : List (Nat × Nat) := [(0, 12), (1, 25), (2, 25), (3, 4), (4, 24), (5, 9), (6, 21), (13, 25), (14, 26), (15, 21), (16, 21), (17, 21), (18, 6), (19, 21), (20, 21), (21, 8), (22, 21), (23, 21), (25, 21), (24, 23), (26, 9), (27, 21), (28, 11), (29, 21), (30, 22), (31, 22), (32, 21), (33, 9), (34, 21), (35, 9), (36, 21), (37, 9), (38, 21), (39, 9), (40, 21), (41, 9), (42, 21), (43, 9), (44, 21), (45, 9), (46, 21), (47, 9), (48, 21), (49, 9), (50, 21), (51, 9), (52, 21), (53, 9), (54, 21), (55, 9), (56, 21), (57, 9), (58, 21)]
def lnX : List (Nat × Nat) := [(1, 6), (2, 4), (4, 6), (6, 60), (13, 3), (14, 3), (15, 6), (16, 6), (17, 6), (19, 6), (20, 6), (22, 64), (23, 64), (25, 64), (24, 64), (27, 6), (29, 60), (30, 60), (31, 60), (32, 6), (34, 40), (36, 40), (38, 40), (40, 40), (42, 40), (44, 40), (46, 60), (48, 60), (50, 60), (52, 60), (54, 60), (56, 60), (58, 60)]
def ptX : List (Nat × Nat × Nat) := [(0, 0, 1), (0, 1, 2), (0, 2, 3), (0, 3, 13), (0, 4, 14), (0, 5, 18), (0, 6, 21), (0, 7, 26), (0, 8, 28), (0, 9, 32), (1, 0, 33), (1, 1, 35), (1, 2, 37), (1, 3, 39), (1, 4, 41), (1, 5, 43), (2, 0, 45), (2, 1, 47), (2, 2, 49), (2, 3, 51), (3, 0, 4), (3, 1, 5), (5, 0, 6), (13, 0, 53), (13, 1, 55), (13, 2, 57), (14, 0, 15), (14, 1, 16), (14, 2, 17), (18, 0, 19), (18, 1, 20), (21, 0, 22), (21, 1, 23), (21, 2, 24), (21, 3, 25), (26, 0, 27), (28, 0, 29), (28, 1, 30), (28, 2, 31), (33, 0, 34), (35, 0, 36), (37, 0, 38), (39, 0, 40), (41, 0, 42), (43, 0, 44), (45, 0, 46), (47, 0, 48), (49, 0, 50), (51, 0, 52), (53, 0, 54), (55, 0, 56), (57, 0, 58)]
def LX (μ : Mm) (a : Nat) : Prop := (∀ q ∈ tgX, tg μ (a + q.1) = q.2) ∧ (∀ q ∈ lnX, ln μ (a + q.1) = q.2) ∧ (∀ q ∈ ptX, mP μ (a + q.1) q.2.1 = some (a + q.2.2))
theorem LX.t0 {μ : Mm} {a : Nat} (h : LX μ a) : tg μ a = 12 := h.1 (0, 12) (by decide)
theorem LX.p0_0 {μ : Mm} {a : Nat} (h : LX μ a) : mP μ a 0 = some (a + 1) := h.2.2 (0, 0, 1) (by decide)
theorem LX.p0_1 {μ : Mm} {a : Nat} (h : LX μ a) : mP μ a 1 = some (a + 2) := h.2.2 (0, 1, 2) (by decide)
theorem LX.p0_2 {μ : Mm} {a : Nat} (h : LX μ a) : mP μ a 2 = some (a + 3) := h.2.2 (0, 2, 3) (by decide)
theorem LX.p0_3 {μ : Mm} {a : Nat} (h : LX μ a) : mP μ a 3 = some (a + 13) := h.2.2 (0, 3, 13) (by decide)
theorem LX.p0_4 {μ : Mm} {a : Nat} (h : LX μ a) : mP μ a 4 = some (a + 14) := h.2.2 (0, 4, 14) (by decide)
theorem LX.p0_5 {μ : Mm} {a : Nat} (h : LX μ a) : mP μ a 5 = some (a + 18) := h.2.2 (0, 5, 18) (by decide)
theorem LX.p0_6 {μ : Mm} {a : Nat} (h : LX μ a) : mP μ a 6 = some (a + 21) := h.2.2 (0, 6, 21) (by decide)
theorem LX.p0_7 {μ : Mm} {a : Nat} (h : LX μ a) : mP μ a 7 = some (a + 26) := h.2.2 (0, 7, 26) (by decide)
theorem LX.p0_8 {μ : Mm} {a : Nat} (h : LX μ a) : mP μ a 8 = some (a + 28) := h.2.2 (0, 8, 28) (by decide)
theorem LX.p0_9 {μ : Mm} {a : Nat} (h : LX μ a) : mP μ a 9 = some (a + 32) := h.2.2 (0, 9, 32) (by decide)
theorem LX.t1 {μ : Mm} {a : Nat} (h : LX μ a) : tg μ (a + 1) = 25 := h.1 (1, 25) (by decide)
theorem LX.n1 {μ : Mm} {a : Nat} (h : LX μ a) : ln μ (a + 1) = 6 := h.2.1 (1, 6) (by decide)
theorem LX.p1_0 {μ : Mm} {a : Nat} (h : LX μ a) : mP μ (a + 1) 0 = some (a + 33) := h.2.2 (1, 0, 33) (by decide)
theorem LX.p1_1 {μ : Mm} {a : Nat} (h : LX μ a) : mP μ (a + 1) 1 = some (a + 35) := h.2.2 (1, 1, 35) (by decide)
theorem LX.p1_2 {μ : Mm} {a : Nat} (h : LX μ a) : mP μ (a + 1) 2 = some (a + 37) := h.2.2 (1, 2, 37) (by decide)
theorem LX.p1_3 {μ : Mm} {a : Nat} (h : LX μ a) : mP μ (a + 1) 3 = some (a + 39) := h.2.2 (1, 3, 39) (by decide)
theorem LX.p1_4 {μ : Mm} {a : Nat} (h : LX μ a) : mP μ (a + 1) 4 = some (a + 41) := h.2.2 (1, 4, 41) (by decide)
theorem LX.p1_5 {μ : Mm} {a : Nat} (h : LX μ a) : mP μ (a + 1) 5 = some (a + 43) := h.2.2 (1, 5, 43) (by decide)
theorem LX.t2 {μ : Mm} {a : Nat} (h : LX μ a) : tg μ (a + 2) = 25 := h.1 (2, 25) (by decide)
theorem LX.n2 {μ : Mm} {a : Nat} (h : LX μ a) : ln μ (a + 2) = 4 := h.2.1 (2, 4) (by decide)
theorem LX.p2_0 {μ : Mm} {a : Nat} (h : LX μ a) : mP μ (a + 2) 0 = some (a + 45) := h.2.2 (2, 0, 45) (by decide)
theorem LX.p2_1 {μ : Mm} {a : Nat} (h : LX μ a) : mP μ (a + 2) 1 = some (a + 47) := h.2.2 (2, 1, 47) (by decide)
theorem LX.p2_2 {μ : Mm} {a : Nat} (h : LX μ a) : mP μ (a + 2) 2 = some (a + 49) := h.2.2 (2, 2, 49) (by decide)
theorem LX.p2_3 {μ : Mm} {a : Nat} (h : LX μ a) : mP μ (a + 2) 3 = some (a + 51) := h.2.2 (2, 3, 51) (by decide)
theorem LX.t3 {μ : Mm} {a : Nat} (h : LX μ a) : tg μ (a + 3) = 4 := h.1 (3, 4) (by decide)
theorem LX.p3_0 {μ : Mm} {a : Nat} (h : LX μ a) : mP μ (a + 3) 0 = some (a + 4) := h.2.2 (3, 0, 4) (by decide)
theorem LX.p3_1 {μ : Mm} {a : Nat} (h : LX μ a) : mP μ (a + 3) 1 = some (a + 5) := h.2.2 (3, 1, 5) (by decide)
theorem LX.t4 {μ : Mm} {a : Nat} (h : LX μ a) : tg μ (a + 4) = 24 := h.1 (4, 24) (by decide)
theorem LX.n4 {μ : Mm} {a : Nat} (h : LX μ a) : ln μ (a + 4) = 6 := h.2.1 (4, 6) (by decide)
theorem LX.t5 {μ : Mm} {a : Nat} (h : LX μ a) : tg μ (a + 5) = 9 := h.1 (5, 9) (by decide)
theorem LX.p5_0 {μ : Mm} {a : Nat} (h : LX μ a) : mP μ (a + 5) 0 = some (a + 6) := h.2.2 (5, 0, 6) (by decide)
theorem LX.t6 {μ : Mm} {a : Nat} (h : LX μ a) : tg μ (a + 6) = 21 := h.1 (6, 21) (by decide)
theorem LX.n6 {μ : Mm} {a : Nat} (h : LX μ a) : ln μ (a + 6) = 60 := h.2.1 (6, 60) (by decide)
theorem LX.t13 {μ : Mm} {a : Nat} (h : LX μ a) : tg μ (a + 13) = 25 := h.1 (13, 25) (by decide)
theorem LX.n13 {μ : Mm} {a : Nat} (h : LX μ a) : ln μ (a + 13) = 3 := h.2.1 (13, 3) (by decide)
theorem LX.p13_0 {μ : Mm} {a : Nat} (h : LX μ a) : mP μ (a + 13) 0 = some (a + 53) := h.2.2 (13, 0, 53) (by decide)
theorem LX.p13_1 {μ : Mm} {a : Nat} (h : LX μ a) : mP μ (a + 13) 1 = some (a + 55) := h.2.2 (13, 1, 55) (by decide)
theorem LX.p13_2 {μ : Mm} {a : Nat} (h : LX μ a) : mP μ (a + 13) 2 = some (a + 57) := h.2.2 (13, 2, 57) (by decide)
theorem LX.t14 {μ : Mm} {a : Nat} (h : LX μ a) : tg μ (a + 14) = 26 := h.1 (14, 26) (by decide)
theorem LX.n14 {μ : Mm} {a : Nat} (h : LX μ a) : ln μ (a + 14) = 3 := h.2.1 (14, 3) (by decide)
theorem LX.p14_0 {μ : Mm} {a : Nat} (h : LX μ a) : mP μ (a + 14) 0 = some (a + 15) := h.2.2 (14, 0, 15) (by decide)
theorem LX.p14_1 {μ : Mm} {a : Nat} (h : LX μ a) : mP μ (a + 14) 1 = some (a + 16) := h.2.2 (14, 1, 16) (by decide)
theorem LX.p14_2 {μ : Mm} {a : Nat} (h : LX μ a) : mP μ (a + 14) 2 = some (a + 17) := h.2.2 (14, 2, 17) (by decide)
theorem LX.t15 {μ : Mm} {a : Nat} (h : LX μ a) : tg μ (a + 15) = 21 := h.1 (15, 21) (by decide)
theorem LX.n15 {μ : Mm} {a : Nat} (h : LX μ a) : ln μ (a + 15) = 6 := h.2.1 (15, 6) (by decide)
theorem LX.t16 {μ : Mm} {a : Nat} (h : LX μ a) : tg μ (a + 16) = 21 := h.1 (16, 21) (by decide)
theorem LX.n16 {μ : Mm} {a : Nat} (h : LX μ a) : ln μ (a + 16) = 6 := h.2.1 (16, 6) (by decide)
theorem LX.t17 {μ : Mm} {a : Nat} (h : LX μ a) : tg μ (a + 17) = 21 := h.1 (17, 21) (by decide)
theorem LX.n17 {μ : Mm} {a : Nat} (h : LX μ a) : ln μ (a + 17) = 6 := h.2.1 (17, 6) (by decide)
theorem LX.t18 {μ : Mm} {a : Nat} (h : LX μ a) : tg μ (a + 18) = 6 := h.1 (18, 6) (by decide)
theorem LX.p18_0 {μ : Mm} {a : Nat} (h : LX μ a) : mP μ (a + 18) 0 = some (a + 19) := h.2.2 (18, 0, 19) (by decide)
theorem LX.p18_1 {μ : Mm} {a : Nat} (h : LX μ a) : mP μ (a + 18) 1 = some (a + 20) := h.2.2 (18, 1, 20) (by decide)
theorem LX.t19 {μ : Mm} {a : Nat} (h : LX μ a) : tg μ (a + 19) = 21 := h.1 (19, 21) (by decide)
theorem LX.n19 {μ : Mm} {a : Nat} (h : LX μ a) : ln μ (a + 19) = 6 := h.2.1 (19, 6) (by decide)
theorem LX.t20 {μ : Mm} {a : Nat} (h : LX μ a) : tg μ (a + 20) = 21 := h.1 (20, 21) (by decide)
theorem LX.n20 {μ : Mm} {a : Nat} (h : LX μ a) : ln μ (a + 20) = 6 := h.2.1 (20, 6) (by decide)
theorem LX.t21 {μ : Mm} {a : Nat} (h : LX μ a) : tg μ (a + 21) = 8 := h.1 (21, 8) (by decide)
theorem LX.p21_0 {μ : Mm} {a : Nat} (h : LX μ a) : mP μ (a + 21) 0 = some (a + 22) := h.2.2 (21, 0, 22) (by decide)
theorem LX.p21_1 {μ : Mm} {a : Nat} (h : LX μ a) : mP μ (a + 21) 1 = some (a + 23) := h.2.2 (21, 1, 23) (by decide)
theorem LX.p21_2 {μ : Mm} {a : Nat} (h : LX μ a) : mP μ (a + 21) 2 = some (a + 24) := h.2.2 (21, 2, 24) (by decide)
theorem LX.p21_3 {μ : Mm} {a : Nat} (h : LX μ a) : mP μ (a + 21) 3 = some (a + 25) := h.2.2 (21, 3, 25) (by decide)
theorem LX.t22 {μ : Mm} {a : Nat} (h : LX μ a) : tg μ (a + 22) = 21 := h.1 (22, 21) (by decide)
theorem LX.n22 {μ : Mm} {a : Nat} (h : LX μ a) : ln μ (a + 22) = 64 := h.2.1 (22, 64) (by decide)
theorem LX.t23 {μ : Mm} {a : Nat} (h : LX μ a) : tg μ (a + 23) = 21 := h.1 (23, 21) (by decide)
theorem LX.n23 {μ : Mm} {a : Nat} (h : LX μ a) : ln μ (a + 23) = 64 := h.2.1 (23, 64) (by decide)
theorem LX.t25 {μ : Mm} {a : Nat} (h : LX μ a) : tg μ (a + 25) = 21 := h.1 (25, 21) (by decide)
theorem LX.n25 {μ : Mm} {a : Nat} (h : LX μ a) : ln μ (a + 25) = 64 := h.2.1 (25, 64) (by decide)
theorem LX.t24 {μ : Mm} {a : Nat} (h : LX μ a) : tg μ (a + 24) = 23 := h.1 (24, 23) (by decide)
theorem LX.n24 {μ : Mm} {a : Nat} (h : LX μ a) : ln μ (a + 24) = 64 := h.2.1 (24, 64) (by decide)
theorem LX.t26 {μ : Mm} {a : Nat} (h : LX μ a) : tg μ (a + 26) = 9 := h.1 (26, 9) (by decide)
theorem LX.p26_0 {μ : Mm} {a : Nat} (h : LX μ a) : mP μ (a + 26) 0 = some (a + 27) := h.2.2 (26, 0, 27) (by decide)
theorem LX.t27 {μ : Mm} {a : Nat} (h : LX μ a) : tg μ (a + 27) = 21 := h.1 (27, 21) (by decide)
theorem LX.n27 {μ : Mm} {a : Nat} (h : LX μ a) : ln μ (a + 27) = 6 := h.2.1 (27, 6) (by decide)
theorem LX.t28 {μ : Mm} {a : Nat} (h : LX μ a) : tg μ (a + 28) = 11 := h.1 (28, 11) (by decide)
theorem LX.p28_0 {μ : Mm} {a : Nat} (h : LX μ a) : mP μ (a + 28) 0 = some (a + 29) := h.2.2 (28, 0, 29) (by decide)
theorem LX.p28_1 {μ : Mm} {a : Nat} (h : LX μ a) : mP μ (a + 28) 1 = some (a + 30) := h.2.2 (28, 1, 30) (by decide)
theorem LX.p28_2 {μ : Mm} {a : Nat} (h : LX μ a) : mP μ (a + 28) 2 = some (a + 31) := h.2.2 (28, 2, 31) (by decide)
theorem LX.t29 {μ : Mm} {a : Nat} (h : LX μ a) : tg μ (a + 29) = 21 := h.1 (29, 21) (by decide)
theorem LX.n29 {μ : Mm} {a : Nat} (h : LX μ a) : ln μ (a + 29) = 60 := h.2.1 (29, 60) (by decide)
theorem LX.t30 {μ : Mm} {a : Nat} (h : LX μ a) : tg μ (a + 30) = 22 := h.1 (30, 22) (by decide)
theorem LX.n30 {μ : Mm} {a : Nat} (h : LX μ a) : ln μ (a + 30) = 60 := h.2.1 (30, 60) (by decide)
theorem LX.t31 {μ : Mm} {a : Nat} (h : LX μ a) : tg μ (a + 31) = 22 := h.1 (31, 22) (by decide)
theorem LX.n31 {μ : Mm} {a : Nat} (h : LX μ a) : ln μ (a + 31) = 60 := h.2.1 (31, 60) (by decide)
theorem LX.t32 {μ : Mm} {a : Nat} (h : LX μ a) : tg μ (a + 32) = 21 := h.1 (32, 21) (by decide)
theorem LX.n32 {μ : Mm} {a : Nat} (h : LX μ a) : ln μ (a + 32) = 6 := h.2.1 (32, 6) (by decide)
theorem LX.t33 {μ : Mm} {a : Nat} (h : LX μ a) : tg μ (a + 33) = 9 := h.1 (33, 9) (by decide)
theorem LX.p33_0 {μ : Mm} {a : Nat} (h : LX μ a) : mP μ (a + 33) 0 = some (a + 34) := h.2.2 (33, 0, 34) (by decide)
theorem LX.t34 {μ : Mm} {a : Nat} (h : LX μ a) : tg μ (a + 34) = 21 := h.1 (34, 21) (by decide)
theorem LX.n34 {μ : Mm} {a : Nat} (h : LX μ a) : ln μ (a + 34) = 40 := h.2.1 (34, 40) (by decide)
theorem LX.t35 {μ : Mm} {a : Nat} (h : LX μ a) : tg μ (a + 35) = 9 := h.1 (35, 9) (by decide)
theorem LX.p35_0 {μ : Mm} {a : Nat} (h : LX μ a) : mP μ (a + 35) 0 = some (a + 36) := h.2.2 (35, 0, 36) (by decide)
theorem LX.t36 {μ : Mm} {a : Nat} (h : LX μ a) : tg μ (a + 36) = 21 := h.1 (36, 21) (by decide)
theorem LX.n36 {μ : Mm} {a : Nat} (h : LX μ a) : ln μ (a + 36) = 40 := h.2.1 (36, 40) (by decide)
theorem LX.t37 {μ : Mm} {a : Nat} (h : LX μ a) : tg μ (a + 37) = 9 := h.1 (37, 9) (by decide)
theorem LX.p37_0 {μ : Mm} {a : Nat} (h : LX μ a) : mP μ (a + 37) 0 = some (a + 38) := h.2.2 (37, 0, 38) (by decide)
theorem LX.t38 {μ : Mm} {a : Nat} (h : LX μ a) : tg μ (a + 38) = 21 := h.1 (38, 21) (by decide)
theorem LX.n38 {μ : Mm} {a : Nat} (h : LX μ a) : ln μ (a + 38) = 40 := h.2.1 (38, 40) (by decide)
theorem LX.t39 {μ : Mm} {a : Nat} (h : LX μ a) : tg μ (a + 39) = 9 := h.1 (39, 9) (by decide)
theorem LX.p39_0 {μ : Mm} {a : Nat} (h : LX μ a) : mP μ (a + 39) 0 = some (a + 40) := h.2.2 (39, 0, 40) (by decide)
theorem LX.t40 {μ : Mm} {a : Nat} (h : LX μ a) : tg μ (a + 40) = 21 := h.1 (40, 21) (by decide)
theorem LX.n40 {μ : Mm} {a : Nat} (h : LX μ a) : ln μ (a + 40) = 40 := h.2.1 (40, 40) (by decide)
theorem LX.t41 {μ : Mm} {a : Nat} (h : LX μ a) : tg μ (a + 41) = 9 := h.1 (41, 9) (by decide)
theorem LX.p41_0 {μ : Mm} {a : Nat} (h : LX μ a) : mP μ (a + 41) 0 = some (a + 42) := h.2.2 (41, 0, 42) (by decide)
theorem LX.t42 {μ : Mm} {a : Nat} (h : LX μ a) : tg μ (a + 42) = 21 := h.1 (42, 21) (by decide)
theorem LX.n42 {μ : Mm} {a : Nat} (h : LX μ a) : ln μ (a + 42) = 40 := h.2.1 (42, 40) (by decide)
theorem LX.t43 {μ : Mm} {a : Nat} (h : LX μ a) : tg μ (a + 43) = 9 := h.1 (43, 9) (by decide)
theorem LX.p43_0 {μ : Mm} {a : Nat} (h : LX μ a) : mP μ (a + 43) 0 = some (a + 44) := h.2.2 (43, 0, 44) (by decide)
theorem LX.t44 {μ : Mm} {a : Nat} (h : LX μ a) : tg μ (a + 44) = 21 := h.1 (44, 21) (by decide)
theorem LX.n44 {μ : Mm} {a : Nat} (h : LX μ a) : ln μ (a + 44) = 40 := h.2.1 (44, 40) (by decide)
theorem LX.t45 {μ : Mm} {a : Nat} (h : LX μ a) : tg μ (a + 45) = 9 := h.1 (45, 9) (by decide)
theorem LX.p45_0 {μ : Mm} {a : Nat} (h : LX μ a) : mP μ (a + 45) 0 = some (a + 46) := h.2.2 (45, 0, 46) (by decide)
theorem LX.t46 {μ : Mm} {a : Nat} (h : LX μ a) : tg μ (a + 46) = 21 := h.1 (46, 21) (by decide)
theorem LX.n46 {μ : Mm} {a : Nat} (h : LX μ a) : ln μ (a + 46) = 60 := h.2.1 (46, 60) (by decide)
theorem LX.t47 {μ : Mm} {a : Nat} (h : LX μ a) : tg μ (a + 47) = 9 := h.1 (47, 9) (by decide)
theorem LX.p47_0 {μ : Mm} {a : Nat} (h : LX μ a) : mP μ (a + 47) 0 = some (a + 48) := h.2.2 (47, 0, 48) (by decide)
theorem LX.t48 {μ : Mm} {a : Nat} (h : LX μ a) : tg μ (a + 48) = 21 := h.1 (48, 21) (by decide)
theorem LX.n48 {μ : Mm} {a : Nat} (h : LX μ a) : ln μ (a + 48) = 60 := h.2.1 (48, 60) (by decide)
theorem LX.t49 {μ : Mm} {a : Nat} (h : LX μ a) : tg μ (a + 49) = 9 := h.1 (49, 9) (by decide)
theorem LX.p49_0 {μ : Mm} {a : Nat} (h : LX μ a) : mP μ (a + 49) 0 = some (a + 50) := h.2.2 (49, 0, 50) (by decide)
theorem LX.t50 {μ : Mm} {a : Nat} (h : LX μ a) : tg μ (a + 50) = 21 := h.1 (50, 21) (by decide)
theorem LX.n50 {μ : Mm} {a : Nat} (h : LX μ a) : ln μ (a + 50) = 60 := h.2.1 (50, 60) (by decide)
theorem LX.t51 {μ : Mm} {a : Nat} (h : LX μ a) : tg μ (a + 51) = 9 := h.1 (51, 9) (by decide)
theorem LX.p51_0 {μ : Mm} {a : Nat} (h : LX μ a) : mP μ (a + 51) 0 = some (a + 52) := h.2.2 (51, 0, 52) (by decide)
theorem LX.t52 {μ : Mm} {a : Nat} (h : LX μ a) : tg μ (a + 52) = 21 := h.1 (52, 21) (by decide)
theorem LX.n52 {μ : Mm} {a : Nat} (h : LX μ a) : ln μ (a + 52) = 60 := h.2.1 (52, 60) (by decide)
theorem LX.t53 {μ : Mm} {a : Nat} (h : LX μ a) : tg μ (a + 53) = 9 := h.1 (53, 9) (by decide)
theorem LX.p53_0 {μ : Mm} {a : Nat} (h : LX μ a) : mP μ (a + 53) 0 = some (a + 54) := h.2.2 (53, 0, 54) (by decide)
theorem LX.t54 {μ : Mm} {a : Nat} (h : LX μ a) : tg μ (a + 54) = 21 := h.1 (54, 21) (by decide)
theorem LX.n54 {μ : Mm} {a : Nat} (h : LX μ a) : ln μ (a + 54) = 60 := h.2.1 (54, 60) (by decide)
theorem LX.t55 {μ : Mm} {a : Nat} (h : LX μ a) : tg μ (a + 55) = 9 := h.1 (55, 9) (by decide)
theorem LX.p55_0 {μ : Mm} {a : Nat} (h : LX μ a) : mP μ (a + 55) 0 = some (a + 56) := h.2.2 (55, 0, 56) (by decide)
theorem LX.t56 {μ : Mm} {a : Nat} (h : LX μ a) : tg μ (a + 56) = 21 := h.1 (56, 21) (by decide)
theorem LX.n56 {μ : Mm} {a : Nat} (h : LX μ a) : ln μ (a + 56) = 60 := h.2.1 (56, 60) (by decide)
theorem LX.t57 {μ : Mm} {a : Nat} (h : LX μ a) : tg μ (a + 57) = 9 := h.1 (57, 9) (by decide)
theorem LX.p57_0 {μ : Mm} {a : Nat} (h : LX μ a) : mP μ (a + 57) 0 = some (a + 58) := h.2.2 (57, 0, 58) (by decide)
theorem LX.t58 {μ : Mm} {a : Nat} (h : LX μ a) : tg μ (a + 58) = 21 := h.1 (58, 21) (by decide)
theorem LX.n58 {μ : Mm} {a : Nat} (h : LX μ a) : ln μ (a + 58) = 60 := h.2.1 (58, 60) (by decide)
-- numbers
theorem ix3 (x : Int32) (n : Nat) (hn : n < 2 ^ 31) : x < 0 ∨ (¬ x < 0 ∧ nI n ≤ x) ∨ (∃ j : Nat, j < n ∧ x = nI j) := by
  by_cases h : x < 0
  · exact Or.inl h
  · rcases pk_ix x hn with h1 | h1 | h1
    · exact absurd h1 h
    · exact Or.inr (Or.inl ⟨h, h1⟩)
    · exact Or.inr (Or.inr h1)
theorem cl {n : Nat} (h : n < 2 ^ 31) : (nI n).toNatClampNeg = n := nI_clamp h
theorem nlt0 {n : Nat} (h : n < 2 ^ 31) : ¬ nI n < 0 := nI_pos h
-- the family pointers
theorem LX.row {μ : Mm} {a r : Nat} (h : LX μ a) (hr : r < 6) : mP μ (a + 1) r = some (a + 33 + 2 * r) ∧ tg μ (a + 33 + 2 * r) = 9 ∧ mP μ (a + 33 + 2 * r) 0 = some (a + 34 + 2 * r) ∧ tg μ (a + 34 + 2 * r) = 21 ∧ ln μ (a + 34 + 2 * r) = 40 := by
  rcases (show r = 0 ∨ r = 1 ∨ r = 2 ∨ r = 3 ∨ r = 4 ∨ r = 5 by omega) with rfl | rfl | rfl | rfl | rfl | rfl
  · exact ⟨h.p1_0, h.t33, h.p33_0, h.t34, h.n34⟩
  · exact ⟨h.p1_1, h.t35, h.p35_0, h.t36, h.n36⟩
  · exact ⟨h.p1_2, h.t37, h.p37_0, h.t38, h.n38⟩
  · exact ⟨h.p1_3, h.t39, h.p39_0, h.t40, h.n40⟩
  · exact ⟨h.p1_4, h.t41, h.p41_0, h.t42, h.n42⟩
  · exact ⟨h.p1_5, h.t43, h.p43_0, h.t44, h.n44⟩
theorem LX.text {μ : Mm} {a r : Nat} (h : LX μ a) (hr : r < 4) : mP μ (a + 2) r = some (a + 45 + 2 * r) ∧ tg μ (a + 45 + 2 * r) = 9 ∧ mP μ (a + 45 + 2 * r) 0 = some (a + 46 + 2 * r) ∧ tg μ (a + 46 + 2 * r) = 21 ∧ ln μ (a + 46 + 2 * r) = 60 := by
  rcases (show r = 0 ∨ r = 1 ∨ r = 2 ∨ r = 3 by omega) with rfl | rfl | rfl | rfl
  · exact ⟨h.p2_0, h.t45, h.p45_0, h.t46, h.n46⟩
  · exact ⟨h.p2_1, h.t47, h.p47_0, h.t48, h.n48⟩
  · exact ⟨h.p2_2, h.t49, h.p49_0, h.t50, h.n50⟩
  · exact ⟨h.p2_3, h.t51, h.p51_0, h.t52, h.n52⟩
theorem LX.kept {μ : Mm} {a k : Nat} (h : LX μ a) (hk : k < 3) : mP μ (a + 13) k = some (a + 53 + 2 * k) ∧ tg μ (a + 53 + 2 * k) = 9 ∧ mP μ (a + 53 + 2 * k) 0 = some (a + 54 + 2 * k) ∧ tg μ (a + 54 + 2 * k) = 21 ∧ ln μ (a + 54 + 2 * k) = 60 ∧ mP μ (a + 14) k = some (a + 15 + k) ∧ tg μ (a + 15 + k) = 21 ∧ ln μ (a + 15 + k) = 6 := by
  rcases (show k = 0 ∨ k = 1 ∨ k = 2 by omega) with rfl | rfl | rfl
  · exact ⟨h.p13_0, h.t53, h.p53_0, h.t54, h.n54, h.p14_0, h.t15, h.n15⟩
  · exact ⟨h.p13_1, h.t55, h.p55_0, h.t56, h.n56, h.p14_1, h.t16, h.n16⟩
  · exact ⟨h.p13_2, h.t57, h.p57_0, h.t58, h.n58, h.p14_2, h.t17, h.n17⟩
-- what the partial reads give
theorem gI_of {μ : Mm} {a t k : Nat} (h : tg μ a = t) : gI μ a t k = some (mI μ a k) := if_pos h
theorem gL_of {μ : Mm} {a t k : Nat} (h : tg μ a = t) : gL μ a t k = some (mL μ a k) := if_pos h
theorem gP_of {μ : Mm} {a t k : Nat} {v : Nat} (h : tg μ a = t) (hv : mP μ a k = some v) : gP μ a t k = some v := (if_pos h).trans hv
theorem pI_of {μ : Mm} {a t k : Nat} {v : Int32} (h : tg μ a = t) : pI μ a t k v = some (sI μ a k v) := if_pos h
theorem pL_of {μ : Mm} {a t k : Nat} {v : Int64} (h : tg μ a = t) : pL μ a t k v = some (sL μ a k v) := if_pos h
theorem pZ_of {μ : Mm} {a t k : Nat} {v : Int32} (h : tg μ a = t) (hv : v = 0 ∨ v = 1) : pZ μ a t k v = some (sI μ a k v) := if_pos ⟨h, hv⟩
theorem nofr {μ : Mm} {a i : Nat} (hi : i < ln μ a) (hs : i < 2 ^ 31) : ¬ ofr μ a (nI i) := by
  intro h
  rcases h with h | h
  · exact nlt0 hs h
  · rw [cl hs] at h; omega
theorem aI_of {μ : Mm} {a t i : Nat} (h : tg μ a = t) (hi : i < ln μ a) (hs : i < 2 ^ 31) : aI μ a t (nI i) = some (mI μ a i) := by
  unfold aI
  rw [if_pos h, if_neg (nofr hi hs), cl hs]
theorem aL_of {μ : Mm} {a t i : Nat} (h : tg μ a = t) (hi : i < ln μ a) (hs : i < 2 ^ 31) : aL μ a t (nI i) = some (mL μ a i) := by
  unfold aL
  rw [if_pos h, if_neg (nofr hi hs), cl hs]
theorem aP_of {μ : Mm} {a t i v : Nat} (h : tg μ a = t) (hi : i < ln μ a) (hs : i < 2 ^ 31) (hv : mP μ a i = some v) : aP μ a t (nI i) = some v := by
  unfold aP
  rw [if_pos h, if_neg (nofr hi hs), cl hs, hv]
theorem qI_of {μ : Mm} {a t i : Nat} {v : Int32} (h : tg μ a = t) (hi : i < ln μ a) (hs : i < 2 ^ 31) : qI μ a t (nI i) v = some (sI μ a i v) := by
  unfold qI
  rw [if_pos h, if_neg (nofr hi hs), cl hs]
theorem qB_of {μ : Mm} {a t i : Nat} {v : Int32} (h : tg μ a = t) (hi : i < ln μ a) (hs : i < 2 ^ 31) : qB μ a t (nI i) v = some (sI μ a i v.toInt8.toInt32) := by
  unfold qB
  rw [if_pos h, if_neg (nofr hi hs), cl hs]
theorem qZ_of {μ : Mm} {a t i : Nat} {v : Int32} (h : tg μ a = t) (hi : i < ln μ a) (hs : i < 2 ^ 31) (hv : v = 0 ∨ v = 1) : qZ μ a t (nI i) v = some (sI μ a i v) := by
  unfold qZ
  rw [if_pos ⟨h, hv⟩, if_neg (nofr hi hs), cl hs]
theorem qL_of {μ : Mm} {a t i : Nat} {v : Int64} (h : tg μ a = t) (hi : i < ln μ a) (hs : i < 2 ^ 31) : qL μ a t (nI i) v = some (sL μ a i v) := by
  unfold qL
  rw [if_pos h, if_neg (nofr hi hs), cl hs]
theorem zI_of {μ : Mm} {a : Nat} (h : 20 ≤ tg μ a) : zI μ a = some (nI (ln μ a)) := if_pos h
-- frames: reads elsewhere
theorem mI_ne {μ : Mm} {a k b j : Nat} {v : Int32} (h : b ≠ a) : mI (sI μ a k v) b j = mI μ b j := by rw [mI_sI, if_neg (fun q => h q.1)]
theorem mI_nk {μ : Mm} {a k b j : Nat} {v : Int32} (h : j ≠ k) : mI (sI μ a k v) b j = mI μ b j := by rw [mI_sI, if_neg (fun q => h q.2)]
theorem mI_eq {μ : Mm} {a k : Nat} {v : Int32} : mI (sI μ a k v) a k = v := by rw [mI_sI, if_pos ⟨rfl, rfl⟩]
theorem mL_ne {μ : Mm} {a k b j : Nat} {v : Int64} (h : b ≠ a) : mL (sL μ a k v) b j = mL μ b j := by rw [mL_sL, if_neg (fun q => h q.1)]
theorem mL_nk {μ : Mm} {a k b j : Nat} {v : Int64} (h : j ≠ k) : mL (sL μ a k v) b j = mL μ b j := by rw [mL_sL, if_neg (fun q => h q.2)]
theorem mL_eq {μ : Mm} {a k : Nat} {v : Int64} : mL (sL μ a k v) a k = v := by rw [mL_sL, if_pos ⟨rfl, rfl⟩]
theorem mR_ne {μ : Mm} {a b j : Nat} {g : Nat → Int32} (h : b ≠ a) : mI (sR μ a g) b j = mI μ b j := by rw [mI_sR, if_neg h]
theorem mR_eq {μ : Mm} {a j : Nat} {g : Nat → Int32} : mI (sR μ a g) a j = g j := by rw [mI_sR, if_pos rfl]
/-- alike at an address -/
def Sm (μ μ' : Mm) (b : Nat) : Prop := tg μ' b = tg μ b ∧ ln μ' b = ln μ b ∧ (∀ j, mI μ' b j = mI μ b j) ∧ (∀ j, mL μ' b j = mL μ b j) ∧ ∀ j, mP μ' b j = mP μ b j
theorem Sm.rf (μ : Mm) (b : Nat) : Sm μ μ b := ⟨rfl, rfl, fun _ => rfl, fun _ => rfl, fun _ => rfl⟩
theorem Sm.tr {μ μ1 μ2 : Mm} {b : Nat} (h : Sm μ μ1 b) (h2 : Sm μ1 μ2 b) : Sm μ μ2 b := ⟨h2.1.trans h.1, h2.2.1.trans h.2.1, fun j => (h2.2.2.1 j).trans (h.2.2.1 j), fun j => (h2.2.2.2.1 j).trans (h.2.2.2.1 j), fun j => (h2.2.2.2.2 j).trans (h.2.2.2.2 j)⟩
theorem Sm.sI {μ μ1 : Mm} {a k b : Nat} {v : Int32} (h : Sm μ μ1 b) (hb : b ≠ a) : Sm μ (sI μ1 a k v) b := h.tr ⟨rfl, rfl, fun _ => mI_ne hb, fun _ => rfl, fun _ => rfl⟩
theorem Sm.sL {μ μ1 : Mm} {a k b : Nat} {v : Int64} (h : Sm μ μ1 b) (hb : b ≠ a) : Sm μ (sL μ1 a k v) b := h.tr ⟨rfl, rfl, fun _ => rfl, fun _ => mL_ne hb, fun _ => rfl⟩
theorem Sm.sR {μ μ1 : Mm} {a b : Nat} {g : Nat → Int32} (h : Sm μ μ1 b) (hb : b ≠ a) : Sm μ (sR μ1 a g) b := h.tr ⟨rfl, rfl, fun _ => mR_ne hb, fun _ => rfl, fun _ => rfl⟩
theorem Sm.sP {μ μ1 : Mm} {a k b : Nat} {v : Option Nat} (h : Sm μ μ1 b) (hb : b ≠ a) : Sm μ (sP μ1 a k v) b := h.tr ⟨rfl, rfl, fun _ => rfl, fun _ => rfl, fun _ => by rw [mP_sP, if_neg (fun q => hb q.1)]⟩
theorem Sm.nw {μ μ1 : Mm} {t n b : Nat} (h : Sm μ μ1 b) (hb : b < hz μ1) : Sm μ (nw μ1 t n) b := h.tr ⟨by rw [tg_nw, if_neg (by omega)], by rw [ln_nw, if_neg (by omega)], fun _ => by rw [mI_nw, if_neg (by omega)], fun _ => by rw [mL_nw, if_neg (by omega)], fun _ => by rw [mP_nw, if_neg (by omega)]⟩
theorem LX.mv {μ μ' : Mm} {a : Nat} (h : LX μ a) (hs : ∀ b, a ≤ b → b < a + 59 → Sm μ μ' b) : LX μ' a := by
  refine ⟨fun q hq => ?_, fun q hq => ?_, fun q hq => ?_⟩
  · have hb : q.1 < 59 := (show ∀ q ∈ tgX, q.1 < 59 by decide) q hq
    rw [(hs (a + q.1) (by omega) (by omega)).1]
    exact h.1 q hq
  · have hb : q.1 < 59 := (show ∀ q ∈ lnX, q.1 < 59 by decide) q hq
    rw [(hs (a + q.1) (by omega) (by omega)).2.1]
    exact h.2.1 q hq
  · have hb : q.1 < 59 := (show ∀ q ∈ ptX, q.1 < 59 by decide) q hq
    rw [(hs (a + q.1) (by omega) (by omega)).2.2.2.2]
    exact h.2.2 q hq
-- rows of a heap, whole
theorem mm_ext {μ μ' : Mm} (h1 : ∀ a, tg μ a = tg μ' a) (h2 : ∀ a, ln μ a = ln μ' a) (h3 : ∀ a j, mI μ a j = mI μ' a j) (h4 : ∀ a j, mL μ a j = mL μ' a j) (h5 : ∀ a j, mP μ a j = mP μ' a j) (h6 : hz μ = hz μ') : μ = μ' := by
  obtain ⟨m1, m2, m3, m4, m5, m6⟩ := μ
  obtain ⟨n1, n2, n3, n4, n5, n6⟩ := μ'
  have e1 : m1 = n1 := funext h1
  have e2 : m2 = n2 := funext h2
  have e3 : m3 = n3 := funext fun a => funext (h3 a)
  have e4 : m4 = n4 := funext fun a => funext (h4 a)
  have e5 : m5 = n5 := funext fun a => funext (h5 a)
  have e6 : m6 = n6 := h6
  rw [e1, e2, e3, e4, e5, e6]
theorem sI_sR (μ : Mm) (a k : Nat) (v : Int32) : sI μ a k v = sR μ a (upd (mI μ a) k v) := by
  refine mm_ext (fun _ => rfl) (fun _ => rfl) (fun b j => ?_) (fun _ _ => rfl) (fun _ _ => rfl) rfl
  rw [mI_sI, mI_sR]
  by_cases hb : b = a
  · subst hb
    rw [if_pos rfl]
    by_cases hj : j = k
    · subst hj; rw [if_pos ⟨rfl, rfl⟩, pk_us]
    · rw [if_neg (fun q => hj q.2), pk_un hj]
  · rw [if_neg hb, if_neg (fun q => hb q.1)]
theorem sR_sR (μ : Mm) (a : Nat) (g g' : Nat → Int32) : sR (sR μ a g) a g' = sR μ a g' := by
  refine mm_ext (fun _ => rfl) (fun _ => rfl) (fun b j => ?_) (fun _ _ => rfl) (fun _ _ => rfl) rfl
  rw [mI_sR, mI_sR, mI_sR]
  by_cases hb : b = a
  · rw [if_pos hb, if_pos hb]
  · rw [if_neg hb, if_neg hb, if_neg hb]
theorem sR_self (μ : Mm) (a : Nat) : sR μ a (mI μ a) = μ := by
  refine mm_ext (fun _ => rfl) (fun _ => rfl) (fun b j => ?_) (fun _ _ => rfl) (fun _ _ => rfl) rfl
  rw [mI_sR]
  by_cases hb : b = a
  · rw [if_pos hb, hb]
  · rw [if_neg hb]
theorem sR_cong {μ : Mm} {a : Nat} {g g' : Nat → Int32} (h : ∀ j, g j = g' j) : sR μ a g = sR μ a g' := by rw [show g = g' from funext h]
theorem mI_sRe (μ : Mm) (a : Nat) (g : Nat → Int32) : mI (sR μ a g) a = g := funext fun j => by rw [mI_sR, if_pos rfl]
theorem sI_sRg (μ : Mm) (a k : Nat) (g : Nat → Int32) (v : Int32) : sI (sR μ a g) a k v = sR μ a (upd g k v) := by
  rw [sI_sR, sR_sR, mI_sRe]
