/-! ===== runs of cases ===== -/
noncomputable def p0q43r0 (t : List (Int × Int)) : List (Int × Int) := (g0R 0 2000) :: (g0R 0 2000) :: (g0R 0 12288) :: (g0R 0 12288) :: (g0R 0 64) :: (g0R 0 20) :: (g0R 0 60) :: (g0R 0 60) :: (g0R 0 61) :: (g0R 0 8) :: (g0R 0 2000) :: (g0R 0 2000) :: (g0R 0 2000) :: (g0R 0 3) :: g0I :: t
noncomputable def p0q43f0 : List (rX) := (g0X [g0A 1, g0B 0] 0) :: (g0X [g0B 3, g0B 1, g0A 0] 12288) :: (g0X [g0B 2, g0B 1, g0A 0] 12288) :: []
noncomputable def p0q43f1 : List (rX) := (g0X [g0P 9 4, g0B 4] 6) :: (g0X [g0B 8, g0A 7, g0A 6] 0) :: (g0X [g0A 8, g0B 7, g0B 6] 0) :: p0q43f0
noncomputable def p0q43m0 (t : List (rMm)) : List (rMm) := (g0m 0 15 0 35 0) :: (g0m 0 15 0 34 1) :: (g0m 0 15 0 8 2) :: (g0m 0 15 0 9 3) :: (g0m 0 15 0 58 4) :: (g0m 0 15 0 14 5) :: (g0m 0 15 0 32 6) :: (g0m 0 15 0 33 7) :: (g0m 0 15 0 44 8) :: (g0o 0 73 0 8 9) :: (g0m 0 15 0 36 10) :: (g0m 0 15 0 37 11) :: (g0m 0 15 0 38 12) :: (g0m 0 15 0 40 13) :: (g0m 0 15 0 45 14) :: t
noncomputable def q43_0 : zNx := (2, 0, (p0q43r0 [], p0q43f1, [], [], [], p0q43m0 [], 0, 0), [], [g0V 0, g0V 1, g0V 2, g0V 3, g0V 4, g0V 5, g0V 6, g0V 7, g0V 8, g0V 9, g0V 10, g0V 11, g0V 12, g0V 13, g0V 14, g0C 1, g0V 0, g0V 2, g0V 3, g0V 4, g0V 5, g0V 11, g0V 12, g0V 13, g0V 14, g0V 9])
noncomputable def q43 : List zNx := [q43_0]
noncomputable def p0q43f2 : List (rX) := (g0X [g0A 25, g0B 9] 0) :: (g0X [g0A 19, g0B 4] 0) :: (g0X [g0A 18, g0B 3] 0) :: (g0X [g0A 17, g0B 2] 0) :: (g0X [g0A 16, g0B 0] 0) :: p0q43f1
noncomputable def p0q43d0 : List (rD) := (g0d 1 0 (g0C 0) (g0C 0) (g0C 0) m27_ i5_) :: []
noncomputable def p0q43m1 (t : List (rMm)) : List (rMm) := p0q43m0 ((g0m 1 15 0 35 16) :: (g0m 1 15 0 8 17) :: (g0m 1 15 0 9 18) :: (g0m 1 15 0 58 19) :: (g0m 1 15 0 14 20) :: (g0m 1 15 0 36 10) :: (g0m 1 15 0 37 21) :: (g0m 1 15 0 38 22) :: (g0m 1 15 0 40 23) :: (g0m 1 15 0 45 24) :: (g0o 1 73 0 8 25) :: t)
noncomputable def q43a0_0 : zNx := (1, 0, (p0q43r0 [g0R 0 0, g0R 0 2000, g0R 0 12288, g0R 0 12288, g0R 0 43, g0R 0 20, g0R 0 2000, g0R 0 2000, g0R 0 3, g0I, g0R 0 8], (g0X [g0A 20, g0B 5] 0) :: (g0X [g0P 25 4, g0B 19] 6) :: (g0X [g0B 18, g0A 16, g0B 1] 12288) :: (g0X [g0B 17, g0A 16, g0B 1] 12288) :: (g0X [g0B 18, g0A 16, g0A 3, g0B 0] 0) :: (g0X [g0B 17, g0A 16, g0A 2, g0B 0] 0) :: (g0X [g0B 16, g0A 1] 0) :: p0q43f2, [], [g0c 0 0 1], p0q43d0, p0q43m1 [], 0, 0), [], [])
noncomputable def p0q43r1 (t : List (Int × Int)) : List (Int × Int) := p0q43r0 ((g0R 1 1) :: (g0R 0 2000) :: (g0R 0 12288) :: (g0R 0 12288) :: (g0R 0 43) :: (g0R 0 20) :: (g0R 0 2000) :: (g0R 0 2000) :: (g0R 0 3) :: g0I :: t)
noncomputable def p0q43r2 (t : List (Int × Int)) : List (Int × Int) := p0q43r1 ((g0R 0 7) :: (g0R 0 2000) :: (g0R 0 7) :: (g0S 2147483647 1099511640064) :: (g0R 0 19) :: t)
noncomputable def p0q43f3 : List (rX) := (g0X [g0B 16, g0A 1] 0) :: (g0X [g0A 26, g0B 16] 0) :: (g0X [g0A 20, g0B 5] 0) :: (g0X [g0B 18, g0A 16, g0B 1] 12288) :: (g0X [g0B 17, g0A 16, g0B 1] 12288) :: (g0X [g0B 18, g0A 16, g0A 3, g0B 0] 0) :: (g0X [g0B 17, g0A 16, g0A 2, g0B 0] 0) :: (g0X [g0A 25, g0B 9] 0) :: (g0X [g0A 19, g0B 4] 0) :: (g0X [g0A 18, g0B 3] 0) :: (g0X [g0A 17, g0B 2] 0) :: (g0X [g0A 16, g0B 0] 0) :: (g0X [g0P 9 4, g0B 4] 6) :: p0q43f0
noncomputable def p0q43f4 : List (rX) := (g0X [g0B 31, g0A 30, g0B 26, g0A 17] 0) :: (g0X [g0B 32, g0A 30, g0B 26, g0A 18] 0) :: (g0X [g0B 33, g0P 25 4] 10) :: p0q43f3
noncomputable def p0q43d1 : List (rD) := (g0d 1 0 (g0C 0) (g0C 0) (g0C 0) m6_ []) :: p0q43d0
noncomputable def p0q43d2 : List (rD) := (g0d 1 0 (g0C 0) (g0C 0) (g0C 0) m25_ i5_) :: p0q43d1
noncomputable def p0q43m2 (t : List (rMm)) : List (rMm) := p0q43m1 ((g0m 2 15 0 35 26) :: (g0q 1 77 (g0C 0) (g0X [g0A 25, g0P 8 8] 0) 27) :: (g0q 1 81 (g0C 0) (g0X [g0P 25 4, g0P 8 32] 0) 28) :: (g0q 1 78 (g0C 0) (g0X [g0A 25, g0P 8 8] 0) 29) :: (g0m 3 15 0 35 30) :: (g0m 3 15 0 8 31) :: (g0m 3 15 0 9 32) :: t)
noncomputable def p0q43l0 (t : List (zLg)) : List (zLg) := (.inl 7, [g0V 16, g0V 1], 1, 0, g0C 0) :: t
noncomputable def q43a0_1 : zNx := (1, 0, (p0q43r2 [g0R 0 2000, g0R 0 12288, g0R 0 12288, g0R 0 39, g0R 0 7, g0S 2147483647 1099511640064, g0R 0 2000, g0R 0 2000, g0R 0 2000, g0R 0 3], (g0X [g0A 26, g0B 17, g0B 1] 12288) :: (g0X [g0A 26, g0B 18, g0B 1] 12288) :: (g0X [g0B 26, g0A 1] 0) :: (g0X [g0P 25 4, g0B 19] 6) :: (g0X [g0A 8, g0B 7, g0B 6] 0) :: (g0X [g0B 8, g0A 7, g0A 6] 0) :: (g0X [g0A 30, g0B 26] 0) :: (g0X [g0A 31, g0B 17] 0) :: (g0X [g0A 32, g0B 18] 0) :: (g0X [g0A 33, g0B 19] 0) :: (g0X [g0B 30, g0A 1] 0) :: (g0X [g0B 36, g0A 1] 0) :: p0q43f4, [], [g0c 0 0 0], p0q43d2, p0q43m2 [g0m 3 15 0 58 33, g0m 3 15 0 14 20, g0q 3 77 (g0C 0) (g0X [g0A 25, g0P 8 8] 0) 34, g0q 3 81 (g0C 0) (g0X [g0P 25 4, g0P 8 32] 0) 35, g0q 3 78 (g0C 0) (g0X [g0A 25, g0P 8 8] 0) 29, g0m 3 15 0 36 36, g0m 3 15 0 37 37, g0m 3 15 0 38 38, g0m 3 15 0 40 39, g0m 3 15 0 45 24], 0, 0), p0q43l0 [(.inl 42, [g0V 26, g0V 1, g0V 17, g0V 18, g0V 19, g0V 20, g0V 6, g0V 7, g0V 8, g0V 25, g0V 27, g0V 28, g0V 29, g0V 10, g0V 21, g0V 22, g0V 23, g0V 24], 2, 0, g0C 0)], [])
noncomputable def p0q43r3 (t : List (Int × Int)) : List (Int × Int) := p0q43r2 ((g0R 2 2000) :: (g0R 0 12288) :: (g0R 0 12288) :: t)
noncomputable def p0q43r4 (t : List (Int × Int)) : List (Int × Int) := p0q43r3 ((g0R 0 39) :: (g0R 1 20) :: (g0R 0 1) :: (g0S 2147483647 1099511640064) :: (g0R 0 19) :: (g0R 0 2000) :: (g0R 0 2000) :: (g0R 0 3) :: g0I :: (g0R 0 2000) :: t)
noncomputable def p0q43f5 : List (rX) := (g0X [g0B 30, g0A 1] 0) :: (g0X [g0A 42, g0B 30] 0) :: (g0X [g0B 42, g0A 1] 0) :: (g0X [g0A 26, g0B 17, g0B 1] 12288) :: (g0X [g0A 26, g0B 18, g0B 1] 12288) :: (g0X [g0B 26, g0A 1] 0) :: (g0X [g0P 25 4, g0B 19] 6) :: (g0X [g0A 8, g0B 7, g0B 6] 0) :: (g0X [g0B 8, g0A 7, g0A 6] 0) :: (g0Z [g0A 30, g0B 26] 0) :: (g0X [g0A 31, g0B 17] 0) :: (g0X [g0A 32, g0B 18] 0) :: (g0X [g0A 33, g0B 19] 0) :: (g0Z [g0B 37, g0A 34] 0) :: (g0X [g0A 34, g0B 20] 0) :: (g0Z [g0B 35, g0A 1] 0) :: (g0Z [g0B 26, g0A 1] 0) :: (g0X [g0B 37, g0A 20] 0) :: p0q43f4
noncomputable def p0q43d3 : List (rD) := (g0d 1 0 (g0C 0) (g0C 0) (g0C 0) m0_ []) :: (g0d 1 0 (g0C 0) (g0C 0) (g0C 0) m6_ []) :: (g0d 0 73 (g0C 0) (g0V 8) (g0W 25 1) 0 []) :: p0q43d2
noncomputable def p0q43m3 (t : List (rMm)) : List (rMm) := p0q43m2 ((g0m 3 15 0 58 33) :: (g0m 3 15 0 14 34) :: (g0q 3 77 (g0C 0) (g0X [g0A 25, g0P 8 8] 0) 35) :: (g0q 3 81 (g0C 0) (g0X [g0P 25 4, g0P 8 32] 0) 36) :: (g0q 3 78 (g0C 0) (g0X [g0A 25, g0P 8 8] 0) 37) :: (g0m 3 15 0 36 10) :: (g0m 3 15 0 37 38) :: (g0m 3 15 0 38 39) :: (g0m 3 15 0 40 40) :: (g0m 3 15 0 45 41) :: (g0m 5 15 0 35 42) :: t)
noncomputable def p0q43l1 (t : List (zLg)) : List (zLg) := p0q43l0 ((.inl 42, [g0V 26, g0V 1, g0V 17, g0V 18, g0V 19, g0V 20, g0V 6, g0V 7, g0V 8, g0V 25, g0V 27, g0V 28, g0V 29, g0V 10, g0V 21, g0V 22, g0V 23, g0V 24], 2, 0, g0C 1) :: (.inl 7, [g0V 30, g0V 1], 4, 0, g0C 0) :: t)
noncomputable def p0q43l2 (t : List (zLg)) : List (zLg) := p0q43l1 ((.inl 6, [g0V 42, g0V 1], 5, 0, g0V 43) :: t)
noncomputable def q43a0_2 : zNx := (2, 0, (p0q43r4 [g0S 127 127], (g0Z [g0B 42, g0A 1] 0) :: p0q43f5, [], [], p0q43d3, p0q43m3 [], 0, 0), p0q43l2 [(.inr .nop, [g0V 43, g0C 44, g0C 0], 0, 0, g0C 0)], [g0V 0, g0V 1, g0V 2, g0V 3, g0V 4, g0V 5, g0V 6, g0V 7, g0V 8, g0V 9, g0V 10, g0V 11, g0V 12, g0V 13, g0V 14, g0C 0, g0V 42, g0V 31, g0V 32, g0V 33, g0V 34, g0V 38, g0V 39, g0V 40, g0V 41, g0W 25 1])
noncomputable def q43a0_3 : zNx := (2, 0, (p0q43r4 [g0R 44 44], (g0Z [g0B 42, g0A 1] 0) :: p0q43f5, [], [], (g0d 0 15 (g0C 0) (g0C 35) (g0W 42 1) 0 []) :: p0q43d3, p0q43m3 [], 0, 0), p0q43l2 [], [g0V 0, g0V 1, g0V 2, g0V 3, g0V 4, g0V 5, g0V 6, g0V 7, g0V 8, g0V 9, g0V 10, g0V 11, g0V 12, g0V 13, g0V 14, g0C 1, g0W 42 1, g0V 31, g0V 32, g0V 33, g0V 34, g0V 38, g0V 39, g0V 40, g0V 41, g0W 25 1])
noncomputable def q43a0_4 : zNx := (2, 0, (p0q43r4 [], (g0X [g0A 42, g0B 1] 0) :: p0q43f5, [], [], p0q43d3, p0q43m3 [], 0, 0), p0q43l1 [(.inl 6, [g0V 42, g0V 1], 5, 0, g0D 0)], [g0V 0, g0V 1, g0V 2, g0V 3, g0V 4, g0V 5, g0V 6, g0V 7, g0V 8, g0V 9, g0V 10, g0V 11, g0V 12, g0V 13, g0V 14, g0C 0, g0V 42, g0V 31, g0V 32, g0V 33, g0V 34, g0V 38, g0V 39, g0V 40, g0V 41, g0W 25 1])
noncomputable def p0q43r5 (t : List (Int × Int)) : List (Int × Int) := p0q43r3 ((g0R 2 4) :: (g0S 2147483647 1099511640064) :: (g0R 0 2000) :: (g0R 0 2000) :: (g0R 0 2) :: (g0R 0 2000) :: t)
noncomputable def p0q43f6 : List (rX) := (g0X [g0B 31, g0A 30, g0B 26, g0A 17] 0) :: (g0X [g0B 32, g0A 30, g0B 26, g0A 18] 0) :: p0q43f3
noncomputable def p0q43f7 : List (rX) := (g0X [g0B 30, g0A 1] 0) :: (g0X [g0A 38, g0B 30] 0) :: (g0X [g0B 38, g0A 1] 0) :: (g0X [g0A 26, g0B 17, g0B 1] 12288) :: (g0X [g0A 26, g0B 18, g0B 1] 12288) :: (g0X [g0B 26, g0A 1] 0) :: (g0X [g0P 25 4, g0B 19] 6) :: (g0X [g0A 8, g0B 7, g0B 6] 0) :: (g0X [g0B 8, g0A 7, g0A 6] 0) :: (g0Z [g0A 30, g0B 26] 0) :: (g0X [g0A 31, g0B 17] 0) :: (g0X [g0A 32, g0B 18] 0) :: (g0X [g0B 37, g0A 1] 0) :: (g0Z [g0B 26, g0A 1] 0) :: p0q43f6
noncomputable def p0q43m4 (t : List (rMm)) : List (rMm) := p0q43m2 ((g0m 3 15 0 58 19) :: (g0m 3 15 0 14 20) :: (g0q 3 77 (g0C 0) (g0X [g0A 25, g0P 8 8] 0) 33) :: (g0q 3 81 (g0C 0) (g0X [g0P 25 4, g0P 8 32] 0) 34) :: (g0q 3 78 (g0C 0) (g0X [g0A 25, g0P 8 8] 0) 29) :: (g0m 3 15 0 36 10) :: (g0m 3 15 0 37 35) :: (g0m 3 15 0 38 36) :: (g0m 3 15 0 40 37) :: t)
noncomputable def p0q43m5 (t : List (rMm)) : List (rMm) := p0q43m4 ((g0m 3 15 0 45 24) :: (g0m 5 15 0 35 38) :: t)
noncomputable def p0q43l3 (t : List (zLg)) : List (zLg) := p0q43l1 ((.inl 6, [g0V 38, g0V 1], 5, 0, g0V 39) :: t)
noncomputable def q43a0_5 : zNx := (2, 0, (p0q43r5 [g0S 127 127], (g0Z [g0B 38, g0A 1] 0) :: p0q43f7, [], [], p0q43d3, p0q43m5 [], 0, 0), p0q43l3 [(.inr .nop, [g0V 39, g0C 44, g0C 0], 0, 0, g0C 0)], [g0V 0, g0V 1, g0V 2, g0V 3, g0V 4, g0V 5, g0V 6, g0V 7, g0V 8, g0V 9, g0V 10, g0V 11, g0V 12, g0V 13, g0V 14, g0C 0, g0V 38, g0V 31, g0V 32, g0V 19, g0V 20, g0V 35, g0V 36, g0V 37, g0V 24, g0W 25 1])
noncomputable def q43a0_6 : zNx := (2, 0, (p0q43r5 [g0R 44 44], (g0Z [g0B 38, g0A 1] 0) :: p0q43f7, [], [], (g0d 0 15 (g0C 0) (g0C 35) (g0W 38 1) 0 []) :: p0q43d3, p0q43m5 [], 0, 0), p0q43l3 [], [g0V 0, g0V 1, g0V 2, g0V 3, g0V 4, g0V 5, g0V 6, g0V 7, g0V 8, g0V 9, g0V 10, g0V 11, g0V 12, g0V 13, g0V 14, g0C 1, g0W 38 1, g0V 31, g0V 32, g0V 19, g0V 20, g0V 35, g0V 36, g0V 37, g0V 24, g0W 25 1])
noncomputable def q43a0_7 : zNx := (2, 0, (p0q43r5 [], (g0X [g0A 38, g0B 1] 0) :: p0q43f7, [], [], p0q43d3, p0q43m5 [], 0, 0), p0q43l1 [(.inl 6, [g0V 38, g0V 1], 5, 0, g0D 0)], [g0V 0, g0V 1, g0V 2, g0V 3, g0V 4, g0V 5, g0V 6, g0V 7, g0V 8, g0V 9, g0V 10, g0V 11, g0V 12, g0V 13, g0V 14, g0C 0, g0V 38, g0V 31, g0V 32, g0V 19, g0V 20, g0V 35, g0V 36, g0V 37, g0V 24, g0W 25 1])
noncomputable def p0q43r6 (t : List (Int × Int)) : List (Int × Int) := p0q43r2 ((g0R 5 2000) :: (g0R 0 12288) :: (g0R 0 12288) :: (g0R 5 7) :: (g0R 0 7) :: (g0R 0 2000) :: (g0R 0 2000) :: (g0R 0 2) :: g0I :: (g0R 0 2000) :: t)
noncomputable def p0q43f8 : List (rX) := (g0X [g0B 30, g0A 1] 0) :: (g0X [g0A 39, g0B 30] 0) :: (g0X [g0B 39, g0A 1] 0) :: (g0X [g0A 26, g0B 17, g0B 1] 12288) :: (g0X [g0A 26, g0B 18, g0B 1] 12288) :: (g0X [g0B 26, g0A 1] 0) :: (g0X [g0P 25 4, g0B 19] 6) :: (g0X [g0A 8, g0B 7, g0B 6] 0) :: (g0X [g0B 8, g0A 7, g0A 6] 0) :: (g0Z [g0A 30, g0B 26] 0) :: (g0X [g0A 31, g0B 17] 0) :: (g0X [g0A 32, g0B 18] 0) :: (g0Z [g0B 37, g0A 1] 0) :: (g0Z [g0B 26, g0A 1] 0) :: (g0X [g0B 23, g0A 1] 0) :: p0q43f6
noncomputable def p0q43m6 (t : List (rMm)) : List (rMm) := p0q43m4 ((g0m 3 15 0 45 38) :: (g0m 5 15 0 35 39) :: t)
noncomputable def p0q43l4 (t : List (zLg)) : List (zLg) := p0q43l1 ((.inl 6, [g0V 39, g0V 1], 5, 0, g0V 40) :: t)
noncomputable def q43a0_8 : zNx := (2, 0, (p0q43r6 [g0S 127 127], (g0Z [g0B 39, g0A 1] 0) :: p0q43f8, [], [], p0q43d3, p0q43m6 [], 0, 0), p0q43l4 [(.inr .nop, [g0V 40, g0C 44, g0C 0], 0, 0, g0C 0)], [g0V 0, g0V 1, g0V 2, g0V 3, g0V 4, g0V 5, g0V 6, g0V 7, g0V 8, g0V 9, g0V 10, g0V 11, g0V 12, g0V 13, g0V 14, g0C 0, g0V 39, g0V 31, g0V 32, g0V 19, g0V 20, g0V 35, g0V 36, g0V 37, g0V 38, g0W 25 1])
noncomputable def q43a0_9 : zNx := (2, 0, (p0q43r6 [g0R 44 44], (g0Z [g0B 39, g0A 1] 0) :: p0q43f8, [], [], (g0d 0 15 (g0C 0) (g0C 35) (g0W 39 1) 0 []) :: p0q43d3, p0q43m6 [], 0, 0), p0q43l4 [], [g0V 0, g0V 1, g0V 2, g0V 3, g0V 4, g0V 5, g0V 6, g0V 7, g0V 8, g0V 9, g0V 10, g0V 11, g0V 12, g0V 13, g0V 14, g0C 1, g0W 39 1, g0V 31, g0V 32, g0V 19, g0V 20, g0V 35, g0V 36, g0V 37, g0V 38, g0W 25 1])
noncomputable def q43a0_10 : zNx := (2, 0, (p0q43r6 [], (g0X [g0A 39, g0B 1] 0) :: p0q43f8, [], [], p0q43d3, p0q43m6 [], 0, 0), p0q43l1 [(.inl 6, [g0V 39, g0V 1], 5, 0, g0D 0)], [g0V 0, g0V 1, g0V 2, g0V 3, g0V 4, g0V 5, g0V 6, g0V 7, g0V 8, g0V 9, g0V 10, g0V 11, g0V 12, g0V 13, g0V 14, g0C 0, g0V 39, g0V 31, g0V 32, g0V 19, g0V 20, g0V 35, g0V 36, g0V 37, g0V 38, g0W 25 1])
noncomputable def q43a0_11 : zNx := (1, 0, (p0q43r1 [g0R 8 8, g0R 0 2000, g0R 0 2000], (g0X [g0B 27, g0A 26] 0) :: (g0X [g0B 27, g0A 1] 0) :: (g0X [g0B 16, g0A 1] 0) :: (g0X [g0A 26, g0B 16] 0) :: (g0X [g0B 26, g0A 1] 0) :: (g0X [g0A 20, g0B 5] 0) :: (g0X [g0P 25 4, g0B 19] 6) :: (g0X [g0B 18, g0A 16, g0B 1] 12288) :: (g0X [g0B 17, g0A 16, g0B 1] 12288) :: (g0X [g0B 18, g0A 16, g0A 3, g0B 0] 0) :: (g0X [g0B 17, g0A 16, g0A 2, g0B 0] 0) :: p0q43f2, [], [g0c 0 0 0], (g0d 1 0 (g0C 0) (g0C 0) (g0C 0) m7_ []) :: p0q43d1, p0q43m1 [g0m 2 15 0 35 26, g0m 3 15 0 36 27], 0, 0), p0q43l0 [(.inl 8, [g0V 26, g0V 1, g0V 10], 2, 0, g0C 0)], [])
noncomputable def q43a0 : List zNx := [q43a0_0, q43a0_1, q43a0_2, q43a0_3, q43a0_4, q43a0_5, q43a0_6, q43a0_7, q43a0_8, q43a0_9, q43a0_10, q43a0_11]
noncomputable def q43a : List (List zNx) := [q43a0]
set_option maxRecDepth 100000 in
theorem zk43_ : zCk 3000 uMx uW uT uJL uAn uBds 43 q43 q43a = true := by decide +kernel
noncomputable def p0q44m0 (t : List (rMm)) : List (rMm) := (g0m 0 15 0 44 0) :: (g0o 0 73 0 0 1) :: (g0m 0 15 0 45 2) :: t
noncomputable def q44_0 : zNx := (2, 0, ([g0R 0 61, g0R 0 8, g0I], [], [], [], [g0d 0 75 (g0C 0) (g0V 0) (g0V 2) 0 []], p0q44m0 [], 0, 0), [], [g0V 0, g0V 1, g0V 2, g0X [g0P 0 8] 0])
noncomputable def q44 : List zNx := [q44_0]
noncomputable def p0q44r0 (t : List (Int × Int)) : List (Int × Int) := (g0R 0 61) :: (g0R 0 8) :: g0I :: (g0R 0 2147483647) :: t
noncomputable def p0q44f0 : List (rX) := (g0X [g0A 3, g0N 0 7] 0) :: (g0X [g0B 3, g0A 1, g0P 0 8] 0) :: []
noncomputable def p0q44d0 : List (rD) := (g0d 1 0 (g0C 0) (g0C 0) (g0C 0) m28_ [2]) :: []
noncomputable def p0q44d1 : List (rD) := (g0d 1 0 (g0C 0) (g0C 0) (g0C 0) m0_ []) :: p0q44d0
noncomputable def p0q44l0 (t : List (zLg)) : List (zLg) := (.inl 33, [g0V 0, g0V 1], 1, 0, g0X [g0A 1, g0P 0 8] 0) :: t
noncomputable def q44a0_0 : zNx := (1, 0, (p0q44r0 [], (g0X [g0A 3, g0B 1, g0N 0 7] 0) :: p0q44f0, [], [], p0q44d1, p0q44m0 [], 0, 0), p0q44l0 [], [])
noncomputable def q44a0_1 : zNx := (2, 1, (p0q44r0 [], (g0Z [g0B 3, g0A 1, g0P 0 8] 0) :: p0q44f0, [], [], p0q44d1, p0q44m0 [], 0, 0), p0q44l0 [], [g0V 0, g0V 1, g0V 2, g0C 0, g0V 3])
noncomputable def q44a0 : List zNx := [q44a0_0, q44a0_1]
noncomputable def p0q44f1 : List (rX) := (g0X [g0A 4, g0N 0 7] 0) :: (g0Z [g0B 4, g0A 1, g0P 0 8] 0) :: (g0X [g0B 4, g0A 1, g0P 0 8] 0) :: []
noncomputable def q44a1_0 : zNx := (2, 0, ([g0R 0 61, g0R 1 8, g0I, g0R 4 4, g0R 0 2147483647], p0q44f1, [], [], p0q44d0, p0q44m0 [], 0, 0), [], [g0V 0, g0V 1, g0V 2, g0W 4 1])
noncomputable def p0q44r1 (t : List (Int × Int)) : List (Int × Int) := (g0R 0 61) :: (g0R 1 8) :: g0I :: (g0R 0 3) :: (g0R 0 2147483647) :: t
noncomputable def q44a1_1 : zNx := (2, 0, (p0q44r1 [g0R 0 7], p0q44f1, [], [], p0q44d0, p0q44m0 [g0o 0 77 0 4 5], 0, 0), [(.inr .nop, [g0V 5, g0C 1, g0C 0], 0, 0, g0C 0)], [g0V 0, g0V 1, g0V 2, g0W 4 1])
noncomputable def p0q44m1 (t : List (rMm)) : List (rMm) := p0q44m0 ((g0o 0 77 0 4 5) :: (g0o 0 78 0 4 6) :: (g0o 0 66 0 6 7) :: t)
noncomputable def q44a1_2 : zNx := (2, 1, (p0q44r1 [g0R 1 1, g0R 0 19, g0R 0 4], (g0X [g0B 7, g0A 3] 0) :: p0q44f1, [], [], p0q44d0, p0q44m1 [], 0, 0), [], [g0V 0, g0V 1, g0V 2, g0W 3 1, g0V 4])
noncomputable def p0q44m2 (t : List (rMm)) : List (rMm) := p0q44m1 ((g0q 1 80 (g0C 0) (g0X [g0P 4 4, g0A 3] 0) 8) :: t)
noncomputable def q44a1_3 : zNx := (2, 1, (p0q44r1 [g0R 1 1, g0R 0 19, g0R 0 4, g0R 0 3], (g0Z [g0A 7, g0B 3] 0) :: p0q44f1, [], [], p0q44d0, p0q44m2 [], 0, 0), [(.inr .nop, [g0V 8, g0C 1, g0C 0], 0, 0, g0C 0)], [g0V 0, g0V 1, g0V 2, g0W 3 1, g0V 4])
noncomputable def p0q44r2 (t : List (Int × Int)) : List (Int × Int) := p0q44r1 ((g0R 1 1) :: (g0R 0 19) :: (g0R 0 4) :: (g0R 1 1) :: g0I :: (g0S 2147483647 1099511640064) :: g0I :: g0I :: t)
noncomputable def p0q44m3 (t : List (rMm)) : List (rMm) := p0q44m2 ((g0o 0 79 0 4 9) :: (g0q 0 81 (g0C 0) (g0X [g0P 4 4, g0A 3] 0) 10) :: t)
noncomputable def p0q44l1 (t : List (zLg)) : List (zLg) := (.inr .l2i, [g0V 10], 0, 0, g0V 11) :: (.inr .ishr, [g0V 9, g0V 11], 0, 0, g0V 12) :: (.inr .iand, [g0V 12, g0C 1], 0, 0, g0V 13) :: t
noncomputable def q44a1_4 : zNx := (2, 1, (p0q44r2 [g0R 1 1], (g0Z [g0A 7, g0B 3] 0) :: p0q44f1, [], [], p0q44d0, p0q44m3 [], 0, 0), p0q44l1 [], [g0V 0, g0V 1, g0V 2, g0W 3 1, g0V 4])
noncomputable def q44a1_5 : zNx := (2, 1, (p0q44r2 [g0R 0 0], (g0Z [g0A 7, g0B 3] 0) :: p0q44f1, [], [], (g0d 0 80 (g0C 0) (g0X [g0P 4 4, g0A 3] 0) (g0C 2) 0 []) :: p0q44d0, p0q44m3 [], 0, 0), p0q44l1 [], [g0V 0, g0V 1, g0V 2, g0W 3 1, g0V 4])
noncomputable def q44a1 : List zNx := [q44a1_0, q44a1_1, q44a1_2, q44a1_3, q44a1_4, q44a1_5]
noncomputable def q44a : List (List zNx) := [q44a0, q44a1]
set_option maxRecDepth 100000 in
theorem zk44_ : zCk 3000 uMx uW uT uJL uAn uBds 44 q44 q44a = true := by decide +kernel
noncomputable def p0q45r0 (t : List (Int × Int)) : List (Int × Int) := (g0R 0 19) :: (g0R 0 400) :: (g0R 0 4) :: t
noncomputable def q45_0 : zNx := (2, 0, (p0q45r0 [], [], [], [], [], [g0m 0 15 0 48 2], 0, 0), [], [g0V 0, g0V 1, g0V 2, g0C 0])
noncomputable def q45 : List zNx := [q45_0]
noncomputable def p0q45d0 : List (rD) := (g0d 1 0 (g0C 0) (g0C 0) (g0C 0) m0_ []) :: []
noncomputable def q45a0_0 : zNx := (1, 0, (p0q45r0 [g0R 0 400], [g0X [g0A 3, g0B 1] 0, g0X [g0B 3, g0A 1] 0], [], [g0w 0 0 (g0D 0)], p0q45d0, [g0m 0 15 0 48 2], 0, 0), [], [])
noncomputable def p0q45f0 : List (rX) := (g0Z [g0B 3, g0A 1] 0) :: (g0X [g0B 3, g0A 1] 0) :: []
noncomputable def p0q45m0 (t : List (rMm)) : List (rMm) := (g0m 0 15 0 48 2) :: (g0o 0 67 0 3 4) :: t
noncomputable def q45a0_1 : zNx := (2, 1, (p0q45r0 [g0R 0 400, g0R 0 19], p0q45f0, [], [], p0q45d0, p0q45m0 [], 0, 0), [(.inr .nop, [g0V 4, g0V 0, g0C 0], 0, 0, g0C 0)], [g0V 0, g0V 1, g0V 2, g0C 0, g0C 0, g0V 3])
noncomputable def q45a0_2 : zNx := (2, 1, (p0q45r0 [g0R 0 400, g0R 0 19], (g0X [g0B 4, g0A 0] 0) :: (g0X [g0A 4, g0B 0] 0) :: p0q45f0, [], [], p0q45d0, p0q45m0 [], 0, 0), [], [g0V 0, g0V 1, g0V 2, g0C 0, g0C 1, g0V 3])
noncomputable def q45a0 : List zNx := [q45a0_0, q45a0_1, q45a0_2]
noncomputable def p0q45r1 (t : List (Int × Int)) : List (Int × Int) := (g0R 0 19) :: (g0R 1 400) :: (g0R 0 4) :: (g0R 0 4) :: t
noncomputable def p0q45f1 : List (rX) := (g0X [g0B 3, g0A 2] 0) :: (g0Z [g0B 5, g0A 1] 0) :: []
noncomputable def q45a1_0 : zNx := (2, 0, (p0q45r1 [g0R 0 0, g0R 0 399], (g0X [g0A 3, g0B 2] 0) :: p0q45f1, [], [], p0q45d0, [g0m 0 15 0 48 2], 0, 0), [], [g0V 0, g0V 1, g0V 2, g0W 5 1])
noncomputable def q45a1_1 : zNx := (1, 0, (p0q45r1 [g0R 1 1, g0R 0 399], (g0X [g0A 3, g0B 2] 0) :: p0q45f1, [], [g0v 0 0 5], p0q45d0, [g0m 0 15 0 48 2], 0, 0), [], [])
noncomputable def q45a1_2 : zNx := (2, 0, (p0q45r1 [g0R 0 0, g0R 0 399], (g0Z [g0B 3, g0A 2] 0) :: p0q45f1, [], [], p0q45d0, [g0m 0 15 0 48 2], 0, 0), [], [g0V 0, g0V 1, g0V 2, g0W 5 1])
noncomputable def p0q45r2 (t : List (Int × Int)) : List (Int × Int) := p0q45r1 ((g0R 1 1) :: (g0R 0 399) :: (g0S 2147483647 1099511640064) :: (g0S 2147483647 1099511640064) :: t)
noncomputable def p0q45m1 (t : List (rMm)) : List (rMm) := (g0m 0 15 0 48 2) :: (g0q 0 68 (g0C 0) (g0X [g0P 5 4, g0A 3] 0) 6) :: (g0o 0 87 0 3 7) :: t
noncomputable def q45a1_3 : zNx := (2, 1, (p0q45r2 [], (g0Z [g0B 3, g0A 2] 0) :: p0q45f1, [], [], p0q45d0, p0q45m1 [], 0, 0), [(.inr .nop, [g0V 6, g0V 7, g0C 0], 0, 0, g0C 0)], [g0V 0, g0V 1, g0V 2, g0W 3 1, g0C 0, g0V 5])
noncomputable def q45a1_4 : zNx := (2, 1, (p0q45r2 [], (g0X [g0A 7, g0B 6] 0) :: (g0X [g0B 7, g0A 6] 0) :: (g0Z [g0B 3, g0A 2] 0) :: p0q45f1, [], [], p0q45d0, p0q45m1 [], 0, 0), [], [g0V 0, g0V 1, g0V 2, g0W 3 1, g0C 1, g0V 5])
noncomputable def q45a1 : List zNx := [q45a1_0, q45a1_1, q45a1_2, q45a1_3, q45a1_4]
noncomputable def q45a : List (List zNx) := [q45a0, q45a1]
set_option maxRecDepth 100000 in
theorem zk45_ : zCk 3000 uMx uW uT uJL uAn uBds 45 q45 q45a = true := by decide +kernel
noncomputable def p0q46r0 (t : List (Int × Int)) : List (Int × Int) := (g0R 0 19) :: (g0R 0 400) :: (g0R 0 20) :: (g0R 0 400) :: (g0R 0 400) :: (g0R 0 4) :: t
noncomputable def p0q46m0 (t : List (rMm)) : List (rMm) := (g0m 0 15 0 14 2) :: (g0m 0 15 0 17 3) :: (g0m 0 15 0 18 4) :: (g0m 0 15 0 48 5) :: t
noncomputable def q46_0 : zNx := (2, 0, (p0q46r0 [], [g0X [g0A 4, g0A 3, g0B 1] 0, g0X [g0B 4, g0B 3, g0A 1] 0, g0X [g0B 2, g0A 0] 1, g0Z [g0A 2, g0B 0] 0], [], [], [], p0q46m0 [], 0, 0), [], [g0V 0, g0V 1, g0V 2, g0V 3, g0V 4, g0V 5, g0C 0])
noncomputable def q46 : List zNx := [q46_0]
noncomputable def p0q46f0 : List (rX) := (g0X [g0A 4, g0A 3, g0B 1] 0) :: (g0X [g0B 4, g0B 3, g0A 1] 0) :: (g0X [g0B 2, g0A 0] 1) :: []
noncomputable def p0q46f1 : List (rX) := (g0Z [g0A 2, g0B 0] 0) :: (g0X [g0B 3, g0A 1] 0) :: (g0X [g0B 6, g0A 1] 0) :: p0q46f0
noncomputable def p0q46d0 : List (rD) := (g0d 1 0 (g0C 0) (g0C 0) (g0C 0) m0_ [25]) :: []
noncomputable def q46a0_0 : zNx := (1, 0, (p0q46r0 [g0R 0 400], (g0X [g0A 6, g0B 1] 0) :: p0q46f1, [], [g0w 0 0 (g0D 0)], p0q46d0, p0q46m0 [], 0, 0), [], [])
noncomputable def q46a0_1 : zNx := (2, 1, (p0q46r0 [g0R 0 400, g0R 0 19], (g0Z [g0B 7, g0A 2] 1) :: (g0Z [g0B 6, g0A 1] 0) :: p0q46f1, [], [], p0q46d0, p0q46m0 [g0o 0 67 0 6 7], 0, 0), [(.inr .nop, [g0V 7, g0V 0, g0C 0], 0, 0, g0C 0)], [g0V 0, g0V 1, g0V 2, g0V 3, g0V 4, g0V 5, g0V 6])
noncomputable def q46a0 : List zNx := [q46a0_0, q46a0_1]
noncomputable def p0q46r1 (t : List (Int × Int)) : List (Int × Int) := (g0R 1 19) :: (g0R 1 400) :: (g0R 1 20) :: (g0R 0 400) :: (g0R 0 400) :: t
noncomputable def p0q46f2 : List (rX) := (g0Z [g0A 2, g0B 0] 0) :: (g0X [g0B 3, g0A 1] 0) :: (g0Z [g0B 6, g0A 1] 0) :: p0q46f0
noncomputable def q46a1_0 : zNx := (2, 0, (p0q46r1 [g0R 0 0, g0R 0 399], p0q46f2, [], [], p0q46d0, p0q46m0 [], 0, 0), [], [g0V 0, g0V 1, g0V 2, g0V 3, g0V 4, g0V 5, g0W 6 1])
noncomputable def q46a1_1 : zNx := (2, 0, (p0q46r1 [g0R 1 4, g0R 0 399], p0q46f2, [], [], p0q46d0, p0q46m0 [], 0, 0), [], [g0V 0, g0V 1, g0V 2, g0V 3, g0V 4, g0V 5, g0W 6 1])
noncomputable def q46a1 : List zNx := [q46a1_0, q46a1_1]
noncomputable def q46a : List (List zNx) := [q46a0, q46a1]
set_option maxRecDepth 100000 in
theorem zk46_ : zCk 3000 uMx uW uT uJL uAn uBds 46 q46 q46a = true := by decide +kernel
noncomputable def q47_0 : zNx := (1, 0, ([g0R 0 60, g0R 0 8, g0R 0 60, g0R 0 60, g0R 0 61, g0I, g0R 0 64], [g0X [g0A 3, g0A 2, g0B 0] 0, g0X [g0B 3, g0B 2, g0A 0] 0], [], [], [g0d 0 15 (g0C 0) (g0C 58) (g0C 0) 0 [], g0d 0 15 (g0C 0) (g0C 45) (g0C 0) 0 [], g0d 0 74 (g0C 0) (g0V 0) (g0C 0) 0 [], g0d 0 73 (g0C 0) (g0V 0) (g0C 0) 0 [], g0d 0 15 (g0C 0) (g0C 44) (g0V 0) 0 []], [g0o 0 73 0 0 1, g0m 0 15 0 32 2, g0m 0 15 0 33 3, g0m 0 15 0 44 4, g0m 0 15 0 45 5, g0m 0 15 0 58 6], 0, 0), [], [])
noncomputable def q47 : List zNx := [q47_0]
noncomputable def q47a : List (List zNx) := []
set_option maxRecDepth 100000 in
theorem zk47_ : zCk 3000 uMx uW uT uJL uAn uBds 47 q47 q47a = true := by decide +kernel
noncomputable def q48_0 : zNx := (1, 0, ([g0R 0 8, g0R 0 61, g0I, g0R 0 64], [], [], [], [g0d 0 15 (g0C 0) (g0C 58) (g0C 0) 0 [], g0d 0 15 (g0C 0) (g0C 45) (g0C 0) 0 [], g0d 0 74 (g0C 0) (g0C 61) (g0C 0) 0 [], g0d 0 73 (g0C 0) (g0C 61) (g0C 0) 0 [], g0d 0 15 (g0C 0) (g0C 44) (g0C 61) 0 []], [g0m 0 73 0 61 0, g0m 0 15 0 44 1, g0m 0 15 0 45 2, g0m 0 15 0 58 3], 0, 0), [], [])
noncomputable def q48 : List zNx := [q48_0]
noncomputable def q48a : List (List zNx) := []
set_option maxRecDepth 100000 in
theorem zk48_ : zCk 3000 uMx uW uT uJL uAn uBds 48 q48 q48a = true := by decide +kernel
