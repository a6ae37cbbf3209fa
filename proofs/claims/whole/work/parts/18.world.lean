/-! ===== the fixed world: what the constructors make; printed ===== -/
def fxL : List (Nat × Nat × Nat) := [(0, 10, 7), (1, 24, 24), (2, 7, 2), (3, 20, 60), (4, 2, 8), (5, 20, 160), (6, 21, 3), (9, 1, 14), (10, 20, 640), (11, 20, 10), (12, 20, 60), (13, 3, 3), (14, 24, 100), (15, 20, 100), (16, 9, 6), (17, 24, 24), (18, 26, 30), (19, 27, 100), (20, 20, 100), (21, 21, 100), (22, 21, 30), (30, 11, 68), (31, 20, 24), (32, 23, 250), (33, 20, 250), (34, 20, 250), (35, 20, 250), (36, 21, 7500), (37, 20, 60), (38, 21, 60), (39, 20, 60), (40, 23, 250), (41, 21, 30), (42, 22, 30), (43, 20, 10), (44, 20, 160), (45, 20, 160), (46, 20, 160), (47, 20, 160), (48, 20, 8), (49, 20, 8), (50, 20, 9), (51, 20, 9), (52, 20, 9), (53, 20, 60), (54, 20, 200), (55, 20, 200), (56, 20, 6), (57, 20, 30), (58, 20, 24), (59, 20, 30), (60, 21, 7500), (61, 20, 6), (62, 20, 6), (63, 22, 18), (64, 21, 18), (65, 21, 18), (66, 20, 6), (67, 22, 6), (68, 22, 6), (69, 22, 6), (70, 22, 6), (71, 22, 6), (72, 22, 6), (73, 22, 6), (74, 20, 160), (75, 20, 6)]
def fxR : List (Nat × Nat × Nat) := [(0, 0, 1), (0, 1, 2), (0, 2, 4), (0, 3, 9), (0, 4, 22), (2, 0, 3), (4, 0, 7), (4, 1, 5), (4, 6, 8), (4, 7, 6), (9, 0, 10), (9, 1, 11), (9, 2, 12), (9, 3, 13), (9, 4, 16), (13, 0, 14), (13, 1, 15), (16, 0, 17), (16, 1, 18), (16, 2, 19), (16, 3, 20), (16, 4, 21), (30, 0, 31), (30, 1, 32), (30, 2, 33), (30, 3, 34), (30, 4, 35), (30, 5, 36), (30, 7, 37), (30, 8, 38), (30, 10, 39), (30, 13, 40), (30, 14, 41), (30, 16, 42), (30, 18, 43), (30, 19, 44), (30, 20, 45), (30, 21, 46), (30, 22, 47), (30, 24, 48), (30, 25, 49), (30, 26, 50), (30, 27, 51), (30, 28, 52), (30, 36, 53), (30, 38, 54), (30, 39, 55), (30, 40, 56), (30, 41, 57), (30, 44, 58), (30, 45, 59), (30, 46, 60), (30, 48, 61), (30, 49, 62), (30, 50, 63), (30, 51, 64), (30, 52, 65), (30, 53, 66), (30, 54, 67), (30, 55, 68), (30, 56, 69), (30, 57, 70), (30, 58, 71), (30, 59, 72), (30, 60, 73), (30, 66, 74), (30, 67, 75)]
def dom (n i : Nat) : Prop := ((i < 23 ∨ 30 ≤ i) ∧ i < 76) ∨ (100 ≤ i ∧ i < 100 + 5 * n)
/-- n turbines; ad: where the fixed objects lie; sa: the four tables; z0: all of them lie below -/
def FXc (n : Nat) (ad sa : Nat → Nat) (z0 : Nat) (T N : Nat → Nat) (R : Nat → Nat → Option Nat) (Z : Nat) : Prop :=
  (∀ r ∈ fxL, T (ad r.1) = r.2.1 ∧ N (ad r.1) = r.2.2) ∧ (T (ad 7) = 25 ∧ N (ad 7) = n ∧ T (ad 8) = 25 ∧ N (ad 8) = n) ∧ (∀ r ∈ fxR, R (ad r.1) r.2.1 = some (ad r.2.2)) ∧
  (∀ t, t < n → R (ad 7) t = some (ad (100 + 5 * t)) ∧ T (ad (100 + 5 * t)) = 8 ∧ (T (ad (101 + 5 * t)) = 26 ∧ N (ad (101 + 5 * t)) = 5) ∧ (T (ad (102 + 5 * t)) = 21 ∧ N (ad (102 + 5 * t)) = 3) ∧ (T (ad (103 + 5 * t)) = 21 ∧ N (ad (103 + 5 * t)) = 3) ∧ (T (ad (104 + 5 * t)) = 21 ∧ N (ad (104 + 5 * t)) = 3) ∧
    R (ad (100 + 5 * t)) 5 = some (ad (101 + 5 * t)) ∧ R (ad (100 + 5 * t)) 6 = some (ad (102 + 5 * t)) ∧ R (ad (100 + 5 * t)) 7 = some (ad (103 + 5 * t)) ∧ R (ad (100 + 5 * t)) 8 = some (ad (104 + 5 * t))) ∧
  (∀ j, j < 4 → R 0 j = some (sa j) ∧ T (sa j) = 30 ∧ N (sa j) = (stA j).length) ∧
  (∀ i j, ad i = ad j → i = j) ∧ (∀ i, dom n i → ad i < z0 ∧ 0 < ad i ∧ ∀ j, j < 4 → sa j ≠ ad i) ∧ (1 ≤ n ∧ n ≤ 6) ∧ z0 ≤ Z
def FX (n : Nat) (ad sa : Nat → Nat) (z0 : Nat) (h : mH) : Prop := FXc n ad sa z0 (hT h) (hN h) (hR h) (hZ h)
section FXS
variable {n : Nat} {ad sa : Nat → Nat} {z0 : Nat} {h : mH}
theorem fx_t0 (fx : FX n ad sa z0 h) : hT h (ad 0) = 10 := (fx.1 (0, 10, 7) (by decide)).1
theorem fx_n0 (fx : FX n ad sa z0 h) : hN h (ad 0) = 7 := (fx.1 (0, 10, 7) (by decide)).2
theorem fx_t1 (fx : FX n ad sa z0 h) : hT h (ad 1) = 24 := (fx.1 (1, 24, 24) (by decide)).1
theorem fx_n1 (fx : FX n ad sa z0 h) : hN h (ad 1) = 24 := (fx.1 (1, 24, 24) (by decide)).2
theorem fx_t2 (fx : FX n ad sa z0 h) : hT h (ad 2) = 7 := (fx.1 (2, 7, 2) (by decide)).1
theorem fx_n2 (fx : FX n ad sa z0 h) : hN h (ad 2) = 2 := (fx.1 (2, 7, 2) (by decide)).2
theorem fx_t3 (fx : FX n ad sa z0 h) : hT h (ad 3) = 20 := (fx.1 (3, 20, 60) (by decide)).1
theorem fx_n3 (fx : FX n ad sa z0 h) : hN h (ad 3) = 60 := (fx.1 (3, 20, 60) (by decide)).2
theorem fx_t4 (fx : FX n ad sa z0 h) : hT h (ad 4) = 2 := (fx.1 (4, 2, 8) (by decide)).1
theorem fx_n4 (fx : FX n ad sa z0 h) : hN h (ad 4) = 8 := (fx.1 (4, 2, 8) (by decide)).2
theorem fx_t5 (fx : FX n ad sa z0 h) : hT h (ad 5) = 20 := (fx.1 (5, 20, 160) (by decide)).1
theorem fx_n5 (fx : FX n ad sa z0 h) : hN h (ad 5) = 160 := (fx.1 (5, 20, 160) (by decide)).2
theorem fx_t6 (fx : FX n ad sa z0 h) : hT h (ad 6) = 21 := (fx.1 (6, 21, 3) (by decide)).1
theorem fx_n6 (fx : FX n ad sa z0 h) : hN h (ad 6) = 3 := (fx.1 (6, 21, 3) (by decide)).2
theorem fx_t9 (fx : FX n ad sa z0 h) : hT h (ad 9) = 1 := (fx.1 (9, 1, 14) (by decide)).1
theorem fx_n9 (fx : FX n ad sa z0 h) : hN h (ad 9) = 14 := (fx.1 (9, 1, 14) (by decide)).2
theorem fx_t10 (fx : FX n ad sa z0 h) : hT h (ad 10) = 20 := (fx.1 (10, 20, 640) (by decide)).1
theorem fx_n10 (fx : FX n ad sa z0 h) : hN h (ad 10) = 640 := (fx.1 (10, 20, 640) (by decide)).2
theorem fx_t11 (fx : FX n ad sa z0 h) : hT h (ad 11) = 20 := (fx.1 (11, 20, 10) (by decide)).1
theorem fx_n11 (fx : FX n ad sa z0 h) : hN h (ad 11) = 10 := (fx.1 (11, 20, 10) (by decide)).2
theorem fx_t12 (fx : FX n ad sa z0 h) : hT h (ad 12) = 20 := (fx.1 (12, 20, 60) (by decide)).1
theorem fx_n12 (fx : FX n ad sa z0 h) : hN h (ad 12) = 60 := (fx.1 (12, 20, 60) (by decide)).2
theorem fx_t13 (fx : FX n ad sa z0 h) : hT h (ad 13) = 3 := (fx.1 (13, 3, 3) (by decide)).1
theorem fx_n13 (fx : FX n ad sa z0 h) : hN h (ad 13) = 3 := (fx.1 (13, 3, 3) (by decide)).2
theorem fx_t14 (fx : FX n ad sa z0 h) : hT h (ad 14) = 24 := (fx.1 (14, 24, 100) (by decide)).1
theorem fx_n14 (fx : FX n ad sa z0 h) : hN h (ad 14) = 100 := (fx.1 (14, 24, 100) (by decide)).2
theorem fx_t15 (fx : FX n ad sa z0 h) : hT h (ad 15) = 20 := (fx.1 (15, 20, 100) (by decide)).1
theorem fx_n15 (fx : FX n ad sa z0 h) : hN h (ad 15) = 100 := (fx.1 (15, 20, 100) (by decide)).2
theorem fx_t16 (fx : FX n ad sa z0 h) : hT h (ad 16) = 9 := (fx.1 (16, 9, 6) (by decide)).1
theorem fx_n16 (fx : FX n ad sa z0 h) : hN h (ad 16) = 6 := (fx.1 (16, 9, 6) (by decide)).2
theorem fx_t17 (fx : FX n ad sa z0 h) : hT h (ad 17) = 24 := (fx.1 (17, 24, 24) (by decide)).1
theorem fx_n17 (fx : FX n ad sa z0 h) : hN h (ad 17) = 24 := (fx.1 (17, 24, 24) (by decide)).2
theorem fx_t18 (fx : FX n ad sa z0 h) : hT h (ad 18) = 26 := (fx.1 (18, 26, 30) (by decide)).1
theorem fx_n18 (fx : FX n ad sa z0 h) : hN h (ad 18) = 30 := (fx.1 (18, 26, 30) (by decide)).2
theorem fx_t19 (fx : FX n ad sa z0 h) : hT h (ad 19) = 27 := (fx.1 (19, 27, 100) (by decide)).1
theorem fx_n19 (fx : FX n ad sa z0 h) : hN h (ad 19) = 100 := (fx.1 (19, 27, 100) (by decide)).2
theorem fx_t20 (fx : FX n ad sa z0 h) : hT h (ad 20) = 20 := (fx.1 (20, 20, 100) (by decide)).1
theorem fx_n20 (fx : FX n ad sa z0 h) : hN h (ad 20) = 100 := (fx.1 (20, 20, 100) (by decide)).2
theorem fx_t21 (fx : FX n ad sa z0 h) : hT h (ad 21) = 21 := (fx.1 (21, 21, 100) (by decide)).1
theorem fx_n21 (fx : FX n ad sa z0 h) : hN h (ad 21) = 100 := (fx.1 (21, 21, 100) (by decide)).2
theorem fx_t22 (fx : FX n ad sa z0 h) : hT h (ad 22) = 21 := (fx.1 (22, 21, 30) (by decide)).1
theorem fx_n22 (fx : FX n ad sa z0 h) : hN h (ad 22) = 30 := (fx.1 (22, 21, 30) (by decide)).2
theorem fx_t30 (fx : FX n ad sa z0 h) : hT h (ad 30) = 11 := (fx.1 (30, 11, 68) (by decide)).1
theorem fx_n30 (fx : FX n ad sa z0 h) : hN h (ad 30) = 68 := (fx.1 (30, 11, 68) (by decide)).2
theorem fx_t31 (fx : FX n ad sa z0 h) : hT h (ad 31) = 20 := (fx.1 (31, 20, 24) (by decide)).1
theorem fx_n31 (fx : FX n ad sa z0 h) : hN h (ad 31) = 24 := (fx.1 (31, 20, 24) (by decide)).2
theorem fx_t32 (fx : FX n ad sa z0 h) : hT h (ad 32) = 23 := (fx.1 (32, 23, 250) (by decide)).1
theorem fx_n32 (fx : FX n ad sa z0 h) : hN h (ad 32) = 250 := (fx.1 (32, 23, 250) (by decide)).2
theorem fx_t33 (fx : FX n ad sa z0 h) : hT h (ad 33) = 20 := (fx.1 (33, 20, 250) (by decide)).1
theorem fx_n33 (fx : FX n ad sa z0 h) : hN h (ad 33) = 250 := (fx.1 (33, 20, 250) (by decide)).2
theorem fx_t34 (fx : FX n ad sa z0 h) : hT h (ad 34) = 20 := (fx.1 (34, 20, 250) (by decide)).1
theorem fx_n34 (fx : FX n ad sa z0 h) : hN h (ad 34) = 250 := (fx.1 (34, 20, 250) (by decide)).2
theorem fx_t35 (fx : FX n ad sa z0 h) : hT h (ad 35) = 20 := (fx.1 (35, 20, 250) (by decide)).1
theorem fx_n35 (fx : FX n ad sa z0 h) : hN h (ad 35) = 250 := (fx.1 (35, 20, 250) (by decide)).2
theorem fx_t36 (fx : FX n ad sa z0 h) : hT h (ad 36) = 21 := (fx.1 (36, 21, 7500) (by decide)).1
theorem fx_n36 (fx : FX n ad sa z0 h) : hN h (ad 36) = 7500 := (fx.1 (36, 21, 7500) (by decide)).2
theorem fx_t37 (fx : FX n ad sa z0 h) : hT h (ad 37) = 20 := (fx.1 (37, 20, 60) (by decide)).1
theorem fx_n37 (fx : FX n ad sa z0 h) : hN h (ad 37) = 60 := (fx.1 (37, 20, 60) (by decide)).2
theorem fx_t38 (fx : FX n ad sa z0 h) : hT h (ad 38) = 21 := (fx.1 (38, 21, 60) (by decide)).1
theorem fx_n38 (fx : FX n ad sa z0 h) : hN h (ad 38) = 60 := (fx.1 (38, 21, 60) (by decide)).2
theorem fx_t39 (fx : FX n ad sa z0 h) : hT h (ad 39) = 20 := (fx.1 (39, 20, 60) (by decide)).1
theorem fx_n39 (fx : FX n ad sa z0 h) : hN h (ad 39) = 60 := (fx.1 (39, 20, 60) (by decide)).2
theorem fx_t40 (fx : FX n ad sa z0 h) : hT h (ad 40) = 23 := (fx.1 (40, 23, 250) (by decide)).1
theorem fx_n40 (fx : FX n ad sa z0 h) : hN h (ad 40) = 250 := (fx.1 (40, 23, 250) (by decide)).2
theorem fx_t41 (fx : FX n ad sa z0 h) : hT h (ad 41) = 21 := (fx.1 (41, 21, 30) (by decide)).1
theorem fx_n41 (fx : FX n ad sa z0 h) : hN h (ad 41) = 30 := (fx.1 (41, 21, 30) (by decide)).2
theorem fx_t42 (fx : FX n ad sa z0 h) : hT h (ad 42) = 22 := (fx.1 (42, 22, 30) (by decide)).1
theorem fx_n42 (fx : FX n ad sa z0 h) : hN h (ad 42) = 30 := (fx.1 (42, 22, 30) (by decide)).2
theorem fx_t43 (fx : FX n ad sa z0 h) : hT h (ad 43) = 20 := (fx.1 (43, 20, 10) (by decide)).1
theorem fx_n43 (fx : FX n ad sa z0 h) : hN h (ad 43) = 10 := (fx.1 (43, 20, 10) (by decide)).2
theorem fx_t44 (fx : FX n ad sa z0 h) : hT h (ad 44) = 20 := (fx.1 (44, 20, 160) (by decide)).1
theorem fx_n44 (fx : FX n ad sa z0 h) : hN h (ad 44) = 160 := (fx.1 (44, 20, 160) (by decide)).2
theorem fx_t45 (fx : FX n ad sa z0 h) : hT h (ad 45) = 20 := (fx.1 (45, 20, 160) (by decide)).1
theorem fx_n45 (fx : FX n ad sa z0 h) : hN h (ad 45) = 160 := (fx.1 (45, 20, 160) (by decide)).2
theorem fx_t46 (fx : FX n ad sa z0 h) : hT h (ad 46) = 20 := (fx.1 (46, 20, 160) (by decide)).1
theorem fx_n46 (fx : FX n ad sa z0 h) : hN h (ad 46) = 160 := (fx.1 (46, 20, 160) (by decide)).2
theorem fx_t47 (fx : FX n ad sa z0 h) : hT h (ad 47) = 20 := (fx.1 (47, 20, 160) (by decide)).1
theorem fx_n47 (fx : FX n ad sa z0 h) : hN h (ad 47) = 160 := (fx.1 (47, 20, 160) (by decide)).2
theorem fx_t48 (fx : FX n ad sa z0 h) : hT h (ad 48) = 20 := (fx.1 (48, 20, 8) (by decide)).1
theorem fx_n48 (fx : FX n ad sa z0 h) : hN h (ad 48) = 8 := (fx.1 (48, 20, 8) (by decide)).2
theorem fx_t49 (fx : FX n ad sa z0 h) : hT h (ad 49) = 20 := (fx.1 (49, 20, 8) (by decide)).1
theorem fx_n49 (fx : FX n ad sa z0 h) : hN h (ad 49) = 8 := (fx.1 (49, 20, 8) (by decide)).2
theorem fx_t50 (fx : FX n ad sa z0 h) : hT h (ad 50) = 20 := (fx.1 (50, 20, 9) (by decide)).1
theorem fx_n50 (fx : FX n ad sa z0 h) : hN h (ad 50) = 9 := (fx.1 (50, 20, 9) (by decide)).2
theorem fx_t51 (fx : FX n ad sa z0 h) : hT h (ad 51) = 20 := (fx.1 (51, 20, 9) (by decide)).1
theorem fx_n51 (fx : FX n ad sa z0 h) : hN h (ad 51) = 9 := (fx.1 (51, 20, 9) (by decide)).2
theorem fx_t52 (fx : FX n ad sa z0 h) : hT h (ad 52) = 20 := (fx.1 (52, 20, 9) (by decide)).1
theorem fx_n52 (fx : FX n ad sa z0 h) : hN h (ad 52) = 9 := (fx.1 (52, 20, 9) (by decide)).2
theorem fx_t53 (fx : FX n ad sa z0 h) : hT h (ad 53) = 20 := (fx.1 (53, 20, 60) (by decide)).1
theorem fx_n53 (fx : FX n ad sa z0 h) : hN h (ad 53) = 60 := (fx.1 (53, 20, 60) (by decide)).2
theorem fx_t54 (fx : FX n ad sa z0 h) : hT h (ad 54) = 20 := (fx.1 (54, 20, 200) (by decide)).1
theorem fx_n54 (fx : FX n ad sa z0 h) : hN h (ad 54) = 200 := (fx.1 (54, 20, 200) (by decide)).2
theorem fx_t55 (fx : FX n ad sa z0 h) : hT h (ad 55) = 20 := (fx.1 (55, 20, 200) (by decide)).1
theorem fx_n55 (fx : FX n ad sa z0 h) : hN h (ad 55) = 200 := (fx.1 (55, 20, 200) (by decide)).2
theorem fx_t56 (fx : FX n ad sa z0 h) : hT h (ad 56) = 20 := (fx.1 (56, 20, 6) (by decide)).1
theorem fx_n56 (fx : FX n ad sa z0 h) : hN h (ad 56) = 6 := (fx.1 (56, 20, 6) (by decide)).2
theorem fx_t57 (fx : FX n ad sa z0 h) : hT h (ad 57) = 20 := (fx.1 (57, 20, 30) (by decide)).1
theorem fx_n57 (fx : FX n ad sa z0 h) : hN h (ad 57) = 30 := (fx.1 (57, 20, 30) (by decide)).2
theorem fx_t58 (fx : FX n ad sa z0 h) : hT h (ad 58) = 20 := (fx.1 (58, 20, 24) (by decide)).1
theorem fx_n58 (fx : FX n ad sa z0 h) : hN h (ad 58) = 24 := (fx.1 (58, 20, 24) (by decide)).2
theorem fx_t59 (fx : FX n ad sa z0 h) : hT h (ad 59) = 20 := (fx.1 (59, 20, 30) (by decide)).1
theorem fx_n59 (fx : FX n ad sa z0 h) : hN h (ad 59) = 30 := (fx.1 (59, 20, 30) (by decide)).2
theorem fx_t60 (fx : FX n ad sa z0 h) : hT h (ad 60) = 21 := (fx.1 (60, 21, 7500) (by decide)).1
theorem fx_n60 (fx : FX n ad sa z0 h) : hN h (ad 60) = 7500 := (fx.1 (60, 21, 7500) (by decide)).2
theorem fx_t61 (fx : FX n ad sa z0 h) : hT h (ad 61) = 20 := (fx.1 (61, 20, 6) (by decide)).1
theorem fx_n61 (fx : FX n ad sa z0 h) : hN h (ad 61) = 6 := (fx.1 (61, 20, 6) (by decide)).2
theorem fx_t62 (fx : FX n ad sa z0 h) : hT h (ad 62) = 20 := (fx.1 (62, 20, 6) (by decide)).1
theorem fx_n62 (fx : FX n ad sa z0 h) : hN h (ad 62) = 6 := (fx.1 (62, 20, 6) (by decide)).2
theorem fx_t63 (fx : FX n ad sa z0 h) : hT h (ad 63) = 22 := (fx.1 (63, 22, 18) (by decide)).1
theorem fx_n63 (fx : FX n ad sa z0 h) : hN h (ad 63) = 18 := (fx.1 (63, 22, 18) (by decide)).2
theorem fx_t64 (fx : FX n ad sa z0 h) : hT h (ad 64) = 21 := (fx.1 (64, 21, 18) (by decide)).1
theorem fx_n64 (fx : FX n ad sa z0 h) : hN h (ad 64) = 18 := (fx.1 (64, 21, 18) (by decide)).2
theorem fx_t65 (fx : FX n ad sa z0 h) : hT h (ad 65) = 21 := (fx.1 (65, 21, 18) (by decide)).1
theorem fx_n65 (fx : FX n ad sa z0 h) : hN h (ad 65) = 18 := (fx.1 (65, 21, 18) (by decide)).2
theorem fx_t66 (fx : FX n ad sa z0 h) : hT h (ad 66) = 20 := (fx.1 (66, 20, 6) (by decide)).1
theorem fx_n66 (fx : FX n ad sa z0 h) : hN h (ad 66) = 6 := (fx.1 (66, 20, 6) (by decide)).2
theorem fx_t67 (fx : FX n ad sa z0 h) : hT h (ad 67) = 22 := (fx.1 (67, 22, 6) (by decide)).1
theorem fx_n67 (fx : FX n ad sa z0 h) : hN h (ad 67) = 6 := (fx.1 (67, 22, 6) (by decide)).2
theorem fx_t68 (fx : FX n ad sa z0 h) : hT h (ad 68) = 22 := (fx.1 (68, 22, 6) (by decide)).1
theorem fx_n68 (fx : FX n ad sa z0 h) : hN h (ad 68) = 6 := (fx.1 (68, 22, 6) (by decide)).2
theorem fx_t69 (fx : FX n ad sa z0 h) : hT h (ad 69) = 22 := (fx.1 (69, 22, 6) (by decide)).1
theorem fx_n69 (fx : FX n ad sa z0 h) : hN h (ad 69) = 6 := (fx.1 (69, 22, 6) (by decide)).2
theorem fx_t70 (fx : FX n ad sa z0 h) : hT h (ad 70) = 22 := (fx.1 (70, 22, 6) (by decide)).1
theorem fx_n70 (fx : FX n ad sa z0 h) : hN h (ad 70) = 6 := (fx.1 (70, 22, 6) (by decide)).2
theorem fx_t71 (fx : FX n ad sa z0 h) : hT h (ad 71) = 22 := (fx.1 (71, 22, 6) (by decide)).1
theorem fx_n71 (fx : FX n ad sa z0 h) : hN h (ad 71) = 6 := (fx.1 (71, 22, 6) (by decide)).2
theorem fx_t72 (fx : FX n ad sa z0 h) : hT h (ad 72) = 22 := (fx.1 (72, 22, 6) (by decide)).1
theorem fx_n72 (fx : FX n ad sa z0 h) : hN h (ad 72) = 6 := (fx.1 (72, 22, 6) (by decide)).2
theorem fx_t73 (fx : FX n ad sa z0 h) : hT h (ad 73) = 22 := (fx.1 (73, 22, 6) (by decide)).1
theorem fx_n73 (fx : FX n ad sa z0 h) : hN h (ad 73) = 6 := (fx.1 (73, 22, 6) (by decide)).2
theorem fx_t74 (fx : FX n ad sa z0 h) : hT h (ad 74) = 20 := (fx.1 (74, 20, 160) (by decide)).1
theorem fx_n74 (fx : FX n ad sa z0 h) : hN h (ad 74) = 160 := (fx.1 (74, 20, 160) (by decide)).2
theorem fx_t75 (fx : FX n ad sa z0 h) : hT h (ad 75) = 20 := (fx.1 (75, 20, 6) (by decide)).1
theorem fx_n75 (fx : FX n ad sa z0 h) : hN h (ad 75) = 6 := (fx.1 (75, 20, 6) (by decide)).2
theorem fx_t7 (fx : FX n ad sa z0 h) : hT h (ad 7) = 25 := fx.2.1.1
theorem fx_n7 (fx : FX n ad sa z0 h) : hN h (ad 7) = n := fx.2.1.2.1
theorem fx_t8 (fx : FX n ad sa z0 h) : hT h (ad 8) = 25 := fx.2.1.2.2.1
theorem fx_n8 (fx : FX n ad sa z0 h) : hN h (ad 8) = n := fx.2.1.2.2.2
theorem fx_r0_0 (fx : FX n ad sa z0 h) : hR h (ad 0) 0 = some (ad 1) := fx.2.2.1 (0, 0, 1) (by decide)
theorem fx_r0_1 (fx : FX n ad sa z0 h) : hR h (ad 0) 1 = some (ad 2) := fx.2.2.1 (0, 1, 2) (by decide)
theorem fx_r0_2 (fx : FX n ad sa z0 h) : hR h (ad 0) 2 = some (ad 4) := fx.2.2.1 (0, 2, 4) (by decide)
theorem fx_r0_3 (fx : FX n ad sa z0 h) : hR h (ad 0) 3 = some (ad 9) := fx.2.2.1 (0, 3, 9) (by decide)
theorem fx_r0_4 (fx : FX n ad sa z0 h) : hR h (ad 0) 4 = some (ad 22) := fx.2.2.1 (0, 4, 22) (by decide)
theorem fx_r2_0 (fx : FX n ad sa z0 h) : hR h (ad 2) 0 = some (ad 3) := fx.2.2.1 (2, 0, 3) (by decide)
theorem fx_r4_0 (fx : FX n ad sa z0 h) : hR h (ad 4) 0 = some (ad 7) := fx.2.2.1 (4, 0, 7) (by decide)
theorem fx_r4_1 (fx : FX n ad sa z0 h) : hR h (ad 4) 1 = some (ad 5) := fx.2.2.1 (4, 1, 5) (by decide)
theorem fx_r4_6 (fx : FX n ad sa z0 h) : hR h (ad 4) 6 = some (ad 8) := fx.2.2.1 (4, 6, 8) (by decide)
theorem fx_r4_7 (fx : FX n ad sa z0 h) : hR h (ad 4) 7 = some (ad 6) := fx.2.2.1 (4, 7, 6) (by decide)
theorem fx_r9_0 (fx : FX n ad sa z0 h) : hR h (ad 9) 0 = some (ad 10) := fx.2.2.1 (9, 0, 10) (by decide)
theorem fx_r9_1 (fx : FX n ad sa z0 h) : hR h (ad 9) 1 = some (ad 11) := fx.2.2.1 (9, 1, 11) (by decide)
theorem fx_r9_2 (fx : FX n ad sa z0 h) : hR h (ad 9) 2 = some (ad 12) := fx.2.2.1 (9, 2, 12) (by decide)
theorem fx_r9_3 (fx : FX n ad sa z0 h) : hR h (ad 9) 3 = some (ad 13) := fx.2.2.1 (9, 3, 13) (by decide)
theorem fx_r9_4 (fx : FX n ad sa z0 h) : hR h (ad 9) 4 = some (ad 16) := fx.2.2.1 (9, 4, 16) (by decide)
theorem fx_r13_0 (fx : FX n ad sa z0 h) : hR h (ad 13) 0 = some (ad 14) := fx.2.2.1 (13, 0, 14) (by decide)
theorem fx_r13_1 (fx : FX n ad sa z0 h) : hR h (ad 13) 1 = some (ad 15) := fx.2.2.1 (13, 1, 15) (by decide)
theorem fx_r16_0 (fx : FX n ad sa z0 h) : hR h (ad 16) 0 = some (ad 17) := fx.2.2.1 (16, 0, 17) (by decide)
theorem fx_r16_1 (fx : FX n ad sa z0 h) : hR h (ad 16) 1 = some (ad 18) := fx.2.2.1 (16, 1, 18) (by decide)
theorem fx_r16_2 (fx : FX n ad sa z0 h) : hR h (ad 16) 2 = some (ad 19) := fx.2.2.1 (16, 2, 19) (by decide)
theorem fx_r16_3 (fx : FX n ad sa z0 h) : hR h (ad 16) 3 = some (ad 20) := fx.2.2.1 (16, 3, 20) (by decide)
theorem fx_r16_4 (fx : FX n ad sa z0 h) : hR h (ad 16) 4 = some (ad 21) := fx.2.2.1 (16, 4, 21) (by decide)
theorem fx_r30_0 (fx : FX n ad sa z0 h) : hR h (ad 30) 0 = some (ad 31) := fx.2.2.1 (30, 0, 31) (by decide)
theorem fx_r30_1 (fx : FX n ad sa z0 h) : hR h (ad 30) 1 = some (ad 32) := fx.2.2.1 (30, 1, 32) (by decide)
theorem fx_r30_2 (fx : FX n ad sa z0 h) : hR h (ad 30) 2 = some (ad 33) := fx.2.2.1 (30, 2, 33) (by decide)
theorem fx_r30_3 (fx : FX n ad sa z0 h) : hR h (ad 30) 3 = some (ad 34) := fx.2.2.1 (30, 3, 34) (by decide)
theorem fx_r30_4 (fx : FX n ad sa z0 h) : hR h (ad 30) 4 = some (ad 35) := fx.2.2.1 (30, 4, 35) (by decide)
theorem fx_r30_5 (fx : FX n ad sa z0 h) : hR h (ad 30) 5 = some (ad 36) := fx.2.2.1 (30, 5, 36) (by decide)
theorem fx_r30_7 (fx : FX n ad sa z0 h) : hR h (ad 30) 7 = some (ad 37) := fx.2.2.1 (30, 7, 37) (by decide)
theorem fx_r30_8 (fx : FX n ad sa z0 h) : hR h (ad 30) 8 = some (ad 38) := fx.2.2.1 (30, 8, 38) (by decide)
theorem fx_r30_10 (fx : FX n ad sa z0 h) : hR h (ad 30) 10 = some (ad 39) := fx.2.2.1 (30, 10, 39) (by decide)
theorem fx_r30_13 (fx : FX n ad sa z0 h) : hR h (ad 30) 13 = some (ad 40) := fx.2.2.1 (30, 13, 40) (by decide)
theorem fx_r30_14 (fx : FX n ad sa z0 h) : hR h (ad 30) 14 = some (ad 41) := fx.2.2.1 (30, 14, 41) (by decide)
theorem fx_r30_16 (fx : FX n ad sa z0 h) : hR h (ad 30) 16 = some (ad 42) := fx.2.2.1 (30, 16, 42) (by decide)
theorem fx_r30_18 (fx : FX n ad sa z0 h) : hR h (ad 30) 18 = some (ad 43) := fx.2.2.1 (30, 18, 43) (by decide)
theorem fx_r30_19 (fx : FX n ad sa z0 h) : hR h (ad 30) 19 = some (ad 44) := fx.2.2.1 (30, 19, 44) (by decide)
theorem fx_r30_20 (fx : FX n ad sa z0 h) : hR h (ad 30) 20 = some (ad 45) := fx.2.2.1 (30, 20, 45) (by decide)
theorem fx_r30_21 (fx : FX n ad sa z0 h) : hR h (ad 30) 21 = some (ad 46) := fx.2.2.1 (30, 21, 46) (by decide)
theorem fx_r30_22 (fx : FX n ad sa z0 h) : hR h (ad 30) 22 = some (ad 47) := fx.2.2.1 (30, 22, 47) (by decide)
theorem fx_r30_24 (fx : FX n ad sa z0 h) : hR h (ad 30) 24 = some (ad 48) := fx.2.2.1 (30, 24, 48) (by decide)
theorem fx_r30_25 (fx : FX n ad sa z0 h) : hR h (ad 30) 25 = some (ad 49) := fx.2.2.1 (30, 25, 49) (by decide)
theorem fx_r30_26 (fx : FX n ad sa z0 h) : hR h (ad 30) 26 = some (ad 50) := fx.2.2.1 (30, 26, 50) (by decide)
theorem fx_r30_27 (fx : FX n ad sa z0 h) : hR h (ad 30) 27 = some (ad 51) := fx.2.2.1 (30, 27, 51) (by decide)
theorem fx_r30_28 (fx : FX n ad sa z0 h) : hR h (ad 30) 28 = some (ad 52) := fx.2.2.1 (30, 28, 52) (by decide)
theorem fx_r30_36 (fx : FX n ad sa z0 h) : hR h (ad 30) 36 = some (ad 53) := fx.2.2.1 (30, 36, 53) (by decide)
theorem fx_r30_38 (fx : FX n ad sa z0 h) : hR h (ad 30) 38 = some (ad 54) := fx.2.2.1 (30, 38, 54) (by decide)
theorem fx_r30_39 (fx : FX n ad sa z0 h) : hR h (ad 30) 39 = some (ad 55) := fx.2.2.1 (30, 39, 55) (by decide)
theorem fx_r30_40 (fx : FX n ad sa z0 h) : hR h (ad 30) 40 = some (ad 56) := fx.2.2.1 (30, 40, 56) (by decide)
theorem fx_r30_41 (fx : FX n ad sa z0 h) : hR h (ad 30) 41 = some (ad 57) := fx.2.2.1 (30, 41, 57) (by decide)
theorem fx_r30_44 (fx : FX n ad sa z0 h) : hR h (ad 30) 44 = some (ad 58) := fx.2.2.1 (30, 44, 58) (by decide)
theorem fx_r30_45 (fx : FX n ad sa z0 h) : hR h (ad 30) 45 = some (ad 59) := fx.2.2.1 (30, 45, 59) (by decide)
theorem fx_r30_46 (fx : FX n ad sa z0 h) : hR h (ad 30) 46 = some (ad 60) := fx.2.2.1 (30, 46, 60) (by decide)
theorem fx_r30_48 (fx : FX n ad sa z0 h) : hR h (ad 30) 48 = some (ad 61) := fx.2.2.1 (30, 48, 61) (by decide)
theorem fx_r30_49 (fx : FX n ad sa z0 h) : hR h (ad 30) 49 = some (ad 62) := fx.2.2.1 (30, 49, 62) (by decide)
theorem fx_r30_50 (fx : FX n ad sa z0 h) : hR h (ad 30) 50 = some (ad 63) := fx.2.2.1 (30, 50, 63) (by decide)
theorem fx_r30_51 (fx : FX n ad sa z0 h) : hR h (ad 30) 51 = some (ad 64) := fx.2.2.1 (30, 51, 64) (by decide)
theorem fx_r30_52 (fx : FX n ad sa z0 h) : hR h (ad 30) 52 = some (ad 65) := fx.2.2.1 (30, 52, 65) (by decide)
theorem fx_r30_53 (fx : FX n ad sa z0 h) : hR h (ad 30) 53 = some (ad 66) := fx.2.2.1 (30, 53, 66) (by decide)
theorem fx_r30_54 (fx : FX n ad sa z0 h) : hR h (ad 30) 54 = some (ad 67) := fx.2.2.1 (30, 54, 67) (by decide)
theorem fx_r30_55 (fx : FX n ad sa z0 h) : hR h (ad 30) 55 = some (ad 68) := fx.2.2.1 (30, 55, 68) (by decide)
theorem fx_r30_56 (fx : FX n ad sa z0 h) : hR h (ad 30) 56 = some (ad 69) := fx.2.2.1 (30, 56, 69) (by decide)
theorem fx_r30_57 (fx : FX n ad sa z0 h) : hR h (ad 30) 57 = some (ad 70) := fx.2.2.1 (30, 57, 70) (by decide)
theorem fx_r30_58 (fx : FX n ad sa z0 h) : hR h (ad 30) 58 = some (ad 71) := fx.2.2.1 (30, 58, 71) (by decide)
theorem fx_r30_59 (fx : FX n ad sa z0 h) : hR h (ad 30) 59 = some (ad 72) := fx.2.2.1 (30, 59, 72) (by decide)
theorem fx_r30_60 (fx : FX n ad sa z0 h) : hR h (ad 30) 60 = some (ad 73) := fx.2.2.1 (30, 60, 73) (by decide)
theorem fx_r30_66 (fx : FX n ad sa z0 h) : hR h (ad 30) 66 = some (ad 74) := fx.2.2.1 (30, 66, 74) (by decide)
theorem fx_r30_67 (fx : FX n ad sa z0 h) : hR h (ad 30) 67 = some (ad 75) := fx.2.2.1 (30, 67, 75) (by decide)
theorem fx_tb (fx : FX n ad sa z0 h) (t : Nat) (ht : t < n) : hR h (ad 7) t = some (ad (100 + 5 * t)) ∧ hT h (ad (100 + 5 * t)) = 8 ∧ (hT h (ad (101 + 5 * t)) = 26 ∧ hN h (ad (101 + 5 * t)) = 5) ∧ (hT h (ad (102 + 5 * t)) = 21 ∧ hN h (ad (102 + 5 * t)) = 3) ∧ (hT h (ad (103 + 5 * t)) = 21 ∧ hN h (ad (103 + 5 * t)) = 3) ∧ (hT h (ad (104 + 5 * t)) = 21 ∧ hN h (ad (104 + 5 * t)) = 3) ∧
    hR h (ad (100 + 5 * t)) 5 = some (ad (101 + 5 * t)) ∧ hR h (ad (100 + 5 * t)) 6 = some (ad (102 + 5 * t)) ∧ hR h (ad (100 + 5 * t)) 7 = some (ad (103 + 5 * t)) ∧ hR h (ad (100 + 5 * t)) 8 = some (ad (104 + 5 * t)) := fx.2.2.2.1 t ht
theorem fx_st (fx : FX n ad sa z0 h) (j : Nat) (hj : j < 4) : hR h 0 j = some (sa j) ∧ hT h (sa j) = 30 ∧ hN h (sa j) = (stA j).length := fx.2.2.2.2.1 j hj
theorem fx_inj (fx : FX n ad sa z0 h) {i j : Nat} (e : ad i = ad j) : i = j := fx.2.2.2.2.2.1 i j e
theorem fx_ij (fx : FX n ad sa z0 h) (i j : Nat) : (ad i = ad j) = (i = j) := propext ⟨fx_inj fx, fun e => by rw [e]⟩
theorem fx_lt (fx : FX n ad sa z0 h) {i : Nat} (hi : dom n i) : ad i < z0 ∧ 0 < ad i ∧ ∀ j, j < 4 → sa j ≠ ad i := fx.2.2.2.2.2.2.1 i hi
theorem fx_k (fx : FX n ad sa z0 h) : 1 ≤ n ∧ n ≤ 6 := fx.2.2.2.2.2.2.2.1
theorem fx_z (fx : FX n ad sa z0 h) : z0 ≤ hZ h := fx.2.2.2.2.2.2.2.2
theorem fx_ne (fx : FX n ad sa z0 h) {i j : Nat} (hne : i ≠ j) : ad i ≠ ad j := fun e => hne (fx_inj fx e)
end FXS
