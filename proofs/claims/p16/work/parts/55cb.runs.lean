/-! ===== runs of cases ===== -/
noncomputable def p0q76r0 (t : List (Int × Int)) : List (Int × Int) := (g0R 0 21) :: (g0R 0 60) :: (g0R 0 20) :: (g0R 0 400) :: (g0R 0 2000) :: (g0R 0 50001) :: t
noncomputable def p0q76r1 (t : List (Int × Int)) : List (Int × Int) := p0q76r0 ((g0R 0 3) :: (g0R 0 61) :: g0I :: g0I :: (g0R 0 2000) :: (g0R 0 2000) :: (g0R 0 2000) :: (g0R 0 2000) :: (g0R 0 50001) :: t)
noncomputable def p0q76m0 (t : List (rMm)) : List (rMm) := (g0m 0 15 0 32 1) :: (g0m 0 15 0 13 2) :: (g0m 0 15 0 17 3) :: (g0m 0 15 0 71 4) :: (g0m 0 15 0 72 5) :: (g0m 0 15 0 77 6) :: (g0m 0 15 0 44 7) :: (g0m 0 15 0 73 8) :: (g0m 0 15 0 76 9) :: (g0m 0 15 0 81 10) :: (g0m 0 15 0 82 11) :: (g0m 0 15 0 83 12) :: (g0m 0 15 0 90 13) :: (g0m 0 15 0 94 14) :: t
noncomputable def q76_0 : zNx := (2, 0, (p0q76r1 [], [], [], [], [g0d 0 15 (g0C 0) (g0C 76) (g0C 0) 0 []], p0q76m0 [], 0, 0), [], [g0V 0, g0V 1, g0V 2, g0V 3, g0V 4, g0V 5, g0V 6, g0V 7, g0V 8, g0V 9, g0V 10, g0V 11, g0V 12, g0V 13, g0V 14, g0C 0, g0V 4, g0V 6, g0C 0])
noncomputable def q76 : List zNx := [q76_0]
noncomputable def p0q76f0 : List (rX) := (g0X [g0B 15, g0A 3] 0) :: (g0X [g0A 17, g0B 6] 0) :: (g0X [g0A 16, g0B 4] 0) :: []
noncomputable def p0q76d0 : List (rD) := (g0d 1 0 (g0C 0) (g0C 0) (g0C 0) m53_ i25_) :: []
noncomputable def p0q76m1 (t : List (rMm)) : List (rMm) := p0q76m0 ((g0m 1 15 0 71 16) :: (g0m 1 15 0 77 17) :: (g0m 1 15 0 76 18) :: t)
noncomputable def q76a0_0 : zNx := (2, 1, (p0q76r1 [g0R 0 400, g0R 0 2000, g0R 0 3, g0R 0 0], (g0X [g0A 15, g0B 3] 0) :: p0q76f0, [], [], p0q76d0, p0q76m1 [], 0, 0), [], [g0V 0, g0V 1, g0V 2, g0V 3, g0V 4, g0V 5, g0V 6, g0V 7, g0V 8, g0V 9, g0V 10, g0V 11, g0V 12, g0V 13, g0V 14, g0C 0, g0V 16, g0V 5, g0V 17, g0V 18, g0V 10, g0V 13])
noncomputable def q76a0_1 : zNx := (2, 1, (p0q76r1 [g0R 0 400, g0R 0 2000, g0R 1 3, g0R 0 0], (g0Z [g0B 15, g0A 3] 0) :: p0q76f0, [], [], p0q76d0, p0q76m1 [], 0, 0), [], [g0V 0, g0V 1, g0V 2, g0V 3, g0V 4, g0V 5, g0V 6, g0V 7, g0V 8, g0V 9, g0V 10, g0V 11, g0V 12, g0V 13, g0V 14, g0C 0, g0V 16, g0V 5, g0V 17, g0V 18, g0V 10, g0V 13])
noncomputable def p0q76r2 (t : List (Int × Int)) : List (Int × Int) := p0q76r1 ((g0R 0 400) :: (g0R 0 2000) :: (g0R 0 0) :: (g0R 0 0) :: (g0R 0 19) :: (g0R 0 20) :: t)
noncomputable def p0q76m2 (t : List (rMm)) : List (rMm) := p0q76m1 ((g0o 0 67 0 15 19) :: (g0o 0 92 0 19 20) :: t)
noncomputable def q76a0_2 : zNx := (2, 0, (p0q76r2 [g0S 2147483647 1099511640064, g0S 2147483647 1099511640064, g0S 2147483647 1099511640064, g0S 2147483647 1099511640064, g0R 0 8, g0S 0 1999, g0R 0 1999, g0R 1 2000, g0R 0 8, g0S 0 1999, g0R 0 1999, g0R 0 3], (g0Z [g0B 19, g0A 2] 0) :: (g0X [g0A 28, g0B 16] 0) :: (g0X [g0A 30, g0B 26] 0) :: (g0X [g0B 20, g0A 0] 0) :: (g0X [g0A 20, g0B 0] 0) :: (g0Z [g0B 15, g0A 3] 0) :: p0q76f0, [], [], (g0d 1 0 (g0C 0) (g0C 0) (g0C 0) m40_ i16_) :: (g0d 0 102 (g0C 0) (g0C 3) (g0V 24) 0 []) :: (g0d 0 102 (g0C 0) (g0C 2) (g0V 23) 0 []) :: (g0d 0 102 (g0C 0) (g0C 1) (g0V 22) 0 []) :: (g0d 0 102 (g0C 0) (g0C 0) (g0V 21) 0 []) :: p0q76d0, p0q76m2 [g0q 0 68 (g0C 0) (g0X [g0P 15 4] 0) 21, g0q 0 68 (g0C 0) (g0X [g0P 15 4] 1) 22, g0q 0 68 (g0C 0) (g0X [g0P 15 4] 2) 23, g0q 0 68 (g0C 0) (g0X [g0P 15 4] 3) 24, g0o 1 97 0 16 25, g0o 1 100 0 19 26, g0o 1 101 0 19 27, g0m 6 15 0 71 28, g0o 6 97 0 16 29, g0o 6 100 0 19 30, g0o 6 101 0 19 31, g0m 6 15 0 77 32], 0, 0), [(.inl 57, [g0V 19, g0D 0, g0V 2, g0V 16, g0V 25, g0V 26, g0V 27, g0V 18, g0V 17], 5, 0, g0C 0)], [g0V 0, g0V 1, g0V 2, g0V 3, g0V 4, g0V 5, g0V 6, g0V 7, g0V 8, g0V 9, g0V 10, g0V 11, g0V 12, g0V 13, g0V 14, g0W 15 1, g0V 28, g0V 32, g0V 18])
noncomputable def q76a0_3 : zNx := (2, 0, (p0q76r2 [], (g0Z [g0B 15, g0A 3] 0) :: p0q76f0, [], [], p0q76d0, p0q76m2 [], 0, 0), [(.inr .nop, [g0V 20, g0V 0, g0C 0], 0, 0, g0C 0)], [g0V 0, g0V 1, g0V 2, g0V 3, g0V 4, g0V 5, g0V 6, g0V 7, g0V 8, g0V 9, g0V 10, g0V 11, g0V 12, g0V 13, g0V 14, g0W 15 1, g0V 16, g0V 17, g0V 18])
noncomputable def q76a0 : List zNx := [q76a0_0, q76a0_1, q76a0_2, q76a0_3]
noncomputable def p0q76r3 (t : List (Int × Int)) : List (Int × Int) := p0q76r1 ((g0R 0 60) :: (g0R 0 2000) :: (g0R 0 50001) :: t)
noncomputable def p0q76f1 : List (rX) := (g0X [g0B 15, g0A 1] 0) :: (g0X [g0A 18, g0B 6] 0) :: (g0X [g0A 17, g0B 5] 0) :: (g0X [g0A 16, g0B 4] 0) :: []
noncomputable def p0q76d1 : List (rD) := (g0d 1 0 (g0C 0) (g0C 0) (g0C 0) m54_ i25_) :: []
noncomputable def p0q76d2 : List (rD) := (g0d 0 15 (g0C 0) (g0C 83) (g0C 0) 0 []) :: (g0d 0 15 (g0C 0) (g0C 82) (g0C 0) 0 []) :: p0q76d1
noncomputable def p0q76m3 (t : List (rMm)) : List (rMm) := p0q76m0 ((g0m 1 15 0 71 16) :: (g0m 1 15 0 72 17) :: (g0m 1 15 0 77 18) :: (g0m 1 15 0 76 19) :: (g0m 1 15 0 81 20) :: (g0m 1 15 0 90 21) :: t)
noncomputable def q76a1_0 : zNx := (2, 2, (p0q76r3 [g0R 0 3, g0R 0 0, g0R 0 2000, g0R 0 2000], (g0X [g0A 15, g0B 1] 0) :: p0q76f1, [], [], p0q76d2, p0q76m3 [], 0, 0), [], [g0V 0, g0V 1, g0V 2, g0V 3, g0V 4, g0V 5, g0V 6, g0V 7, g0V 8, g0V 9, g0V 10, g0V 11, g0V 12, g0V 13, g0V 14, g0V 16, g0V 17, g0V 18, g0V 8, g0V 19, g0V 20, g0C 0, g0C 0, g0V 21])
noncomputable def q76a1_1 : zNx := (2, 2, (p0q76r3 [g0R 1 3, g0R 0 0, g0R 0 2000, g0R 0 2000], (g0Z [g0B 15, g0A 1] 0) :: p0q76f1, [], [], p0q76d2, p0q76m3 [], 0, 0), [], [g0V 0, g0V 1, g0V 2, g0V 3, g0V 4, g0V 5, g0V 6, g0V 7, g0V 8, g0V 9, g0V 10, g0V 11, g0V 12, g0V 13, g0V 14, g0V 16, g0V 17, g0V 18, g0V 8, g0V 19, g0V 20, g0C 0, g0C 0, g0V 21])
noncomputable def p0q76r4 (t : List (Int × Int)) : List (Int × Int) := p0q76r3 ((g0R 0 0) :: (g0R 0 0) :: (g0R 0 2000) :: (g0R 0 2000) :: t)
noncomputable def q76a1_2 : zNx := (2, 1, (p0q76r4 [g0R 0 0], (g0Z [g0B 15, g0A 1] 0) :: p0q76f1, [], [], p0q76d1, p0q76m3 [g0o 0 71 0 15 22], 0, 0), [], [g0V 0, g0V 1, g0V 2, g0V 3, g0V 4, g0V 5, g0V 6, g0V 7, g0V 8, g0V 9, g0V 10, g0V 11, g0V 12, g0V 13, g0V 14, g0W 15 1, g0V 16, g0V 17, g0V 18, g0V 19, g0V 20, g0V 21])
noncomputable def p0q76m4 (t : List (rMm)) : List (rMm) := p0q76m3 ((g0o 0 71 0 15 22) :: (g0o 0 69 0 15 23) :: (g0o 0 92 0 23 24) :: t)
noncomputable def q76a1_3 : zNx := (2, 1, (p0q76r4 [g0R 1 4, g0R 0 19, g0R 0 20], (g0Z [g0B 15, g0A 1] 0) :: p0q76f1, [], [], p0q76d1, p0q76m4 [], 0, 0), [(.inr .nop, [g0V 24, g0V 0, g0C 0], 0, 0, g0C 0)], [g0V 0, g0V 1, g0V 2, g0V 3, g0V 4, g0V 5, g0V 6, g0V 7, g0V 8, g0V 9, g0V 10, g0V 11, g0V 12, g0V 13, g0V 14, g0W 15 1, g0V 16, g0V 17, g0V 18, g0V 19, g0V 20, g0V 21])
noncomputable def q76a1_4 : zNx := (2, 1, (p0q76r4 [g0R 1 4, g0R 0 19, g0R 0 20, g0R 0 50001, g0R 0 3, g0R 0 2000, g0R 0 2000], (g0Z [g0B 15, g0A 1] 0) :: (g0X [g0A 25, g0B 17] 0) :: (g0X [g0A 28, g0B 16] 0) :: (g0X [g0A 26, g0B 25] 50000) :: (g0X [g0B 24, g0A 0] 0) :: (g0X [g0A 24, g0B 0] 0) :: p0q76f1, [], [], (g0d 1 0 (g0C 0) (g0C 0) (g0C 0) m51_ i24_) :: p0q76d1, p0q76m4 [g0m 2 15 0 72 25, g0m 2 15 0 77 26, g0m 2 15 0 90 27, g0m 2 15 0 71 28, g0m 2 15 0 81 16], 0, 0), [(.inl 75, [g0V 15, g0V 1, g0V 2, g0V 22, g0V 17, g0V 18, g0V 21, g0V 23, g0V 7, g0V 16, g0V 19, g0V 20, g0V 11, g0V 12, g0V 14], 1, 0, g0C 0)], [g0V 0, g0V 1, g0V 2, g0V 3, g0V 4, g0V 5, g0V 6, g0V 7, g0V 8, g0V 9, g0V 10, g0V 11, g0V 12, g0V 13, g0V 14, g0W 15 1, g0V 28, g0V 25, g0V 26, g0V 19, g0V 16, g0V 27])
noncomputable def q76a1 : List zNx := [q76a1_0, q76a1_1, q76a1_2, q76a1_3, q76a1_4]
noncomputable def p0q76f2 : List (rX) := (g0X [g0A 22, g0B 21] 0) :: (g0X [g0B 21, g0A 20] 0) :: (g0X [g0A 17, g0B 6] 0) :: (g0X [g0A 16, g0B 5] 0) :: (g0X [g0A 15, g0B 4] 0) :: (g0X [g0B 22, g0A 15] 0) :: (g0X [g0B 21, g0A 15] 0) :: []
noncomputable def p0q76d3 : List (rD) := (g0d 1 0 (g0C 0) (g0C 0) (g0C 0) m52_ i25_) :: []
noncomputable def p0q76m5 (t : List (rMm)) : List (rMm) := p0q76m0 ((g0m 1 15 0 71 15) :: (g0m 1 15 0 72 16) :: (g0m 1 15 0 77 17) :: (g0m 1 15 0 73 18) :: (g0m 1 15 0 76 19) :: (g0m 1 15 0 81 20) :: (g0m 1 15 0 82 21) :: (g0m 1 15 0 83 22) :: (g0m 1 15 0 90 23) :: t)
noncomputable def q76a2_0 : zNx := (1, 0, (p0q76r1 [g0R 0 2000, g0R 0 50001, g0R 1 3, g0I, g0I, g0R 0 2000, g0R 0 1999, g0R 0 2000, g0R 0 2000], p0q76f2, [], [], p0q76d3, p0q76m5 [], 0, 0), [], [])
noncomputable def p0q76r5 (t : List (Int × Int)) : List (Int × Int) := p0q76r1 ((g0R 0 2000) :: (g0R 0 50001) :: (g0R 0 0) :: g0I :: g0I :: (g0R 0 2000) :: (g0R 0 1999) :: (g0R 0 2000) :: (g0R 0 2000) :: t)
noncomputable def p0q76d4 : List (rD) := (g0d 0 15 (g0C 0) (g0C 81) (g0V 15) 0 []) :: (g0d 0 15 (g0C 0) (g0C 73) (g0V 25) 0 []) :: (g0d 0 15 (g0C 0) (g0C 76) (g0V 24) 0 []) :: p0q76d3
noncomputable def p0q76l0 (t : List (zLg)) : List (zLg) := (.inr .iadd, [g0V 19, g0C 1], 0, 0, g0V 24) :: (.inr .iadd, [g0V 18, g0C 1], 0, 0, g0V 25) :: t
noncomputable def q76a2_1 : zNx := (2, 3, (p0q76r5 [g0S 2147483647 1, g0I], p0q76f2, [], [], (g0d 0 15 (g0C 0) (g0C 84) (g0C 0) 0 []) :: p0q76d4, p0q76m5 [], 0, 0), p0q76l0 [], [g0V 0, g0V 1, g0V 2, g0V 3, g0V 4, g0V 5, g0V 6, g0V 7, g0V 8, g0V 9, g0V 10, g0V 11, g0V 12, g0V 13, g0V 14, g0C 0, g0V 15, g0V 15, g0V 16, g0V 17, g0V 25, g0V 24, g0V 15, g0V 21, g0V 22, g0V 23])
noncomputable def q76a2_2 : zNx := (2, 3, (p0q76r5 [g0R 2 2147483647, g0I], p0q76f2, [], [], (g0d 0 15 (g0C 0) (g0C 84) (g0C 1) 0 []) :: p0q76d4, p0q76m5 [], 0, 0), p0q76l0 [], [g0V 0, g0V 1, g0V 2, g0V 3, g0V 4, g0V 5, g0V 6, g0V 7, g0V 8, g0V 9, g0V 10, g0V 11, g0V 12, g0V 13, g0V 14, g0C 0, g0V 15, g0V 15, g0V 16, g0V 17, g0V 25, g0V 24, g0V 15, g0V 21, g0V 22, g0V 23])
noncomputable def q76a2 : List zNx := [q76a2_0, q76a2_1, q76a2_2]
noncomputable def p0q76r6 (t : List (Int × Int)) : List (Int × Int) := p0q76r0 ((g0R 0 0) :: (g0R 0 61) :: g0I :: g0I :: (g0R 0 2000) :: (g0R 0 2000) :: (g0R 0 2000) :: (g0R 0 2000) :: (g0R 0 50001) :: (g0R 0 60) :: (g0R 0 2000) :: (g0R 0 2000) :: (g0R 0 50001) :: t)
noncomputable def p0q76r7 (t : List (Int × Int)) : List (Int × Int) := p0q76r6 ((g0R 0 3) :: g0I :: g0I :: (g0R 0 2000) :: (g0R 0 1999) :: (g0R 0 2000) :: (g0R 0 2000) :: t)
noncomputable def p0q76f3 : List (rX) := (g0X [g0A 17, g0B 16] 0) :: (g0X [g0B 15, g0A 1] 0) :: (g0X [g0A 24, g0B 23] 0) :: (g0X [g0A 22, g0B 16] 0) :: (g0X [g0A 18, g0B 5] 0) :: (g0X [g0A 16, g0B 4] 0) :: (g0X [g0B 24, g0A 16] 0) :: (g0X [g0B 23, g0A 16] 0) :: (g0X [g0B 22, g0A 16] 0) :: []
noncomputable def p0q76d5 : List (rD) := (g0d 1 0 (g0C 0) (g0C 0) (g0C 0) m52_ i26_) :: []
noncomputable def p0q76d6 : List (rD) := (g0d 0 15 (g0C 0) (g0C 83) (g0V 17) 0 []) :: (g0d 0 15 (g0C 0) (g0C 82) (g0V 16) 0 []) :: p0q76d5
noncomputable def p0q76m6 (t : List (rMm)) : List (rMm) := p0q76m0 ((g0m 1 15 0 71 17) :: (g0m 1 15 0 72 18) :: (g0m 1 15 0 77 19) :: (g0m 1 15 0 73 20) :: (g0m 1 15 0 76 21) :: (g0m 1 15 0 81 22) :: (g0m 1 15 0 82 23) :: (g0m 1 15 0 83 24) :: (g0m 1 15 0 90 25) :: t)
noncomputable def q76a3_0 : zNx := (1, 0, (p0q76r7 [], (g0X [g0B 17, g0A 16] 0) :: (g0X [g0A 15, g0B 1] 0) :: p0q76f3, [], [], p0q76d6, p0q76m6 [], 0, 0), [], [])
noncomputable def q76a3_1 : zNx := (2, 2, (p0q76r7 [], (g0Z [g0A 17, g0B 16] 0) :: (g0X [g0A 15, g0B 1] 0) :: p0q76f3, [], [], p0q76d6, p0q76m6 [], 0, 0), [], [g0V 0, g0V 1, g0V 2, g0V 3, g0V 4, g0V 5, g0V 6, g0V 7, g0V 8, g0V 9, g0V 10, g0V 11, g0V 12, g0V 13, g0V 14, g0V 17, g0V 18, g0V 19, g0V 20, g0V 21, g0V 22, g0V 16, g0V 17, g0V 25])
noncomputable def p0q76r8 (t : List (Int × Int)) : List (Int × Int) := p0q76r6 ((g0R 1 3) :: g0I :: g0I :: (g0R 0 2000) :: (g0R 0 1999) :: (g0R 0 2000) :: (g0R 0 2000) :: t)
noncomputable def q76a3_2 : zNx := (1, 0, (p0q76r8 [], (g0X [g0B 17, g0A 16] 0) :: (g0Z [g0B 15, g0A 1] 0) :: p0q76f3, [], [], p0q76d6, p0q76m6 [], 0, 0), [], [])
noncomputable def q76a3_3 : zNx := (2, 2, (p0q76r8 [], (g0Z [g0A 17, g0B 16] 0) :: (g0Z [g0B 15, g0A 1] 0) :: p0q76f3, [], [], p0q76d6, p0q76m6 [], 0, 0), [], [g0V 0, g0V 1, g0V 2, g0V 3, g0V 4, g0V 5, g0V 6, g0V 7, g0V 8, g0V 9, g0V 10, g0V 11, g0V 12, g0V 13, g0V 14, g0V 17, g0V 18, g0V 19, g0V 20, g0V 21, g0V 22, g0V 16, g0V 17, g0V 25])
noncomputable def p0q76r9 (t : List (Int × Int)) : List (Int × Int) := p0q76r6 ((g0R 0 0) :: g0I :: g0I :: (g0R 0 2000) :: (g0R 0 1999) :: (g0R 0 2000) :: (g0R 0 2000) :: t)
noncomputable def q76a3_4 : zNx := (2, 3, (p0q76r9 [g0R 1 4], (g0Z [g0B 15, g0A 1] 0) :: p0q76f3, [], [], p0q76d5, p0q76m6 [g0o 0 71 0 15 26], 0, 0), [], [g0V 0, g0V 1, g0V 2, g0V 3, g0V 4, g0V 5, g0V 6, g0V 7, g0V 8, g0V 9, g0V 10, g0V 11, g0V 12, g0V 13, g0V 14, g0W 15 1, g0V 16, g0V 17, g0V 18, g0V 19, g0V 20, g0V 21, g0V 22, g0V 23, g0V 24, g0V 25])
noncomputable def p0q76m7 (t : List (rMm)) : List (rMm) := p0q76m6 ((g0o 0 71 0 15 26) :: (g0o 0 69 0 15 27) :: (g0o 0 92 0 27 28) :: t)
noncomputable def q76a3_5 : zNx := (2, 3, (p0q76r9 [g0R 0 0, g0R 0 19, g0R 0 20], (g0Z [g0B 15, g0A 1] 0) :: p0q76f3, [], [], p0q76d5, p0q76m7 [], 0, 0), [(.inr .nop, [g0V 28, g0V 0, g0C 0], 0, 0, g0C 0)], [g0V 0, g0V 1, g0V 2, g0V 3, g0V 4, g0V 5, g0V 6, g0V 7, g0V 8, g0V 9, g0V 10, g0V 11, g0V 12, g0V 13, g0V 14, g0W 15 1, g0V 16, g0V 17, g0V 18, g0V 19, g0V 20, g0V 21, g0V 22, g0V 23, g0V 24, g0V 25])
noncomputable def p0q76f4 : List (rX) := (g0X [g0B 28, g0A 0] 0) :: (g0X [g0A 28, g0B 0] 0) :: p0q76f3
noncomputable def q76a3_6 : zNx := (2, 3, (p0q76r6 [g0R 0 0, g0I, g0R 1 1, g0R 0 2000, g0R 0 1999, g0R 0 2000, g0R 0 2000, g0R 0 0, g0R 0 19, g0R 0 20, g0R 0 8, g0R 0 50001, g0R 0 3, g0R 0 2000], (g0Z [g0B 15, g0A 1] 0) :: (g0X [g0A 30, g0B 18] 0) :: (g0X [g0A 32, g0B 17] 0) :: (g0X [g0A 31, g0B 30] 50000) :: p0q76f4, [], [], (g0d 1 0 (g0C 0) (g0C 0) (g0C 0) m48_ i23_) :: p0q76d5, p0q76m7 [g0o 0 73 0 15 29, g0m 2 15 0 72 30, g0m 2 15 0 77 31, g0m 2 15 0 71 32], 0, 0), [(.inl 72, [g0V 15, g0V 29, g0V 1, g0V 18, g0V 19, g0V 14, g0V 2, g0V 7, g0V 17, g0V 21, g0V 22, g0V 23, g0V 24], 1, 0, g0C 0)], [g0V 0, g0V 1, g0V 2, g0V 3, g0V 4, g0V 5, g0V 6, g0V 7, g0V 8, g0V 9, g0V 10, g0V 11, g0V 12, g0V 13, g0V 14, g0W 15 1, g0V 16, g0V 32, g0V 30, g0V 31, g0V 20, g0V 21, g0V 22, g0V 23, g0V 24, g0V 25])
noncomputable def p0q76r10 (t : List (Int × Int)) : List (Int × Int) := p0q76r9 ((g0R 0 0) :: (g0R 0 19) :: (g0R 0 20) :: (g0R 0 8) :: t)
noncomputable def p0q76d7 : List (rD) := (g0d 1 0 (g0C 0) (g0C 0) (g0C 0) m0_ []) :: p0q76d5
noncomputable def p0q76l1 (t : List (zLg)) : List (zLg) := (.inr .nop, [g0V 21, g0C 1, g0C 0], 0, 0, g0C 0) :: (.inl 71, [g0V 15, g0V 29], 1, 0, g0V 30) :: t
noncomputable def q76a3_7 : zNx := (2, 3, (p0q76r10 [g0R 0 0], (g0X [g0B 30, g0A 29] 0) :: (g0X [g0B 28, g0A 0] 0) :: (g0X [g0A 28, g0B 0] 0) :: (g0Z [g0B 15, g0A 1] 0) :: p0q76f3, [], [], p0q76d7, p0q76m7 [g0o 0 73 0 15 29], 0, 0), p0q76l1 [], [g0V 0, g0V 1, g0V 2, g0V 3, g0V 4, g0V 5, g0V 6, g0V 7, g0V 8, g0V 9, g0V 10, g0V 11, g0V 12, g0V 13, g0V 14, g0W 15 1, g0V 16, g0V 17, g0V 18, g0V 19, g0V 20, g0V 21, g0V 22, g0V 23, g0V 24, g0V 25])
noncomputable def q76a3_8 : zNx := (2, 3, (p0q76r10 [g0R 1 8, g0R 0 50001, g0R 0 3, g0R 0 2000], (g0Z [g0B 15, g0A 1] 0) :: (g0X [g0A 31, g0B 18] 0) :: (g0X [g0A 33, g0B 17] 0) :: (g0X [g0A 32, g0B 31] 50000) :: (g0X [g0B 30, g0A 29] 0) :: p0q76f4, [], [], (g0d 1 0 (g0C 0) (g0C 0) (g0C 0) m48_ i23_) :: p0q76d7, p0q76m7 [g0o 0 73 0 15 29, g0m 3 15 0 72 31, g0m 3 15 0 77 32, g0m 3 15 0 71 33], 0, 0), p0q76l1 [(.inl 72, [g0V 15, g0V 29, g0V 1, g0V 18, g0V 19, g0V 14, g0V 2, g0V 7, g0V 17, g0V 21, g0V 22, g0V 23, g0V 24], 2, 0, g0C 0)], [g0V 0, g0V 1, g0V 2, g0V 3, g0V 4, g0V 5, g0V 6, g0V 7, g0V 8, g0V 9, g0V 10, g0V 11, g0V 12, g0V 13, g0V 14, g0W 15 1, g0V 16, g0V 33, g0V 31, g0V 32, g0V 20, g0V 21, g0V 22, g0V 23, g0V 24, g0V 25])
noncomputable def q76a3 : List zNx := [q76a3_0, q76a3_1, q76a3_2, q76a3_3, q76a3_4, q76a3_5, q76a3_6, q76a3_7, q76a3_8]
noncomputable def q76a : List (List zNx) := [q76a0, q76a1, q76a2, q76a3]
set_option maxRecDepth 100000 in
theorem zk76_ : zCk 3000 uMx uW uT uJL uAn uBds 76 q76 q76a = true := by decide +kernel
noncomputable def q172_0 : zNx := (1, 0, ([g0R 1099511627776 9223372036854775807], [], [], [g0c 0 0 0], [], [], 0, 0), [], [])
noncomputable def q172_1 : zNx := (1, 0, ([g0S 9223372036854775807 1099511627775], [], [], [g0c 0 0 1], [], [], 0, 0), [], [])
noncomputable def q172 : List zNx := [q172_0, q172_1]
noncomputable def q172a : List (List zNx) := []
set_option maxRecDepth 100000 in
theorem zk172_ : zCk 3000 uMx uW uT uJL uAn uBds 172 q172 q172a = true := by decide +kernel
noncomputable def q186_0 : zNx := (1, 0, ([], [], [], [], [g0d 1 0 (g0C 0) (g0C 0) (g0C 0) m65_ []], [], 0, 0), [(.inl 95, [g0D 0], 0, 0, g0C 0)], [])
noncomputable def q186 : List zNx := [q186_0]
noncomputable def q186a : List (List zNx) := []
set_option maxRecDepth 100000 in
theorem zk186_ : zCk 3000 uMx uW uT uJL uAn uBds 186 q186 q186a = true := by decide +kernel
noncomputable def q187_0 : zNx := (1, 0, ([g0S 9223372036854775807 9223372036854775807, g0S 9223372036854775807 9223372036854775807, g0R 0 63, g0S 0 1999], [], [], [g0v 0 0 3], [], [g0o 0 47 0 2 3], 0, 0), [(.inr .lmul, [g0V 0, g0D 7046029254386353130], 0, 0, g0V 1), (.inr .lushr, [g0V 1, g0C 58], 0, 0, g0V 2)], [])
noncomputable def q187 : List zNx := [q187_0]
noncomputable def q187a : List (List zNx) := []
set_option maxRecDepth 100000 in
theorem zk187_ : zCk 3000 uMx uW uT uJL uAn uBds 187 q187 q187a = true := by decide +kernel
noncomputable def q188_0 : zNx := (1, 0, ([g0T 2147483647 0], [], [], [g0w 0 0 (g0D 0)], [], [], 0, 0), [], [])
noncomputable def q188_1 : zNx := (1, 0, ([g0R 2000 2147483647], [], [], [g0w 0 0 (g0D 0)], [], [], 0, 0), [], [])
noncomputable def q188_2 : zNx := (1, 0, ([g0R 0 1999, g0S 0 1999], [], [], [g0v 0 0 1], [], [g0o 0 49 0 0 1], 0, 0), [], [])
noncomputable def q188 : List zNx := [q188_0, q188_1, q188_2]
noncomputable def q188a : List (List zNx) := []
set_option maxRecDepth 100000 in
theorem zk188_ : zCk 3000 uMx uW uT uJL uAn uBds 188 q188 q188a = true := by decide +kernel
noncomputable def p0q189r0 (t : List (Int × Int)) : List (Int × Int) := (g0S 9223372036854775807 9223372036854775807) :: t
noncomputable def p0q189l0 (t : List (zLg)) : List (zLg) := (.inr .lmul, [g0V 0, g0D 7046029254386353130], 0, 0, g0V 2) :: (.inr .lushr, [g0V 2, g0C 58], 0, 0, g0V 3) :: t
noncomputable def q189_0 : zNx := (1, 0, (p0q189r0 [g0T 2147483647 0, g0S 9223372036854775807 9223372036854775807, g0R 0 63], [], [], [], [], [], 0, 0), p0q189l0 [], [])
noncomputable def p0q189r1 (t : List (Int × Int)) : List (Int × Int) := p0q189r0 ((g0R 0 1999) :: (g0S 9223372036854775807 9223372036854775807) :: (g0R 0 63) :: t)
noncomputable def p0q189d0 : List (rD) := (g0d 0 49 (g0C 0) (g0V 1) (g0D 0) 0 []) :: []
noncomputable def q189_1 : zNx := (1, 0, (p0q189r1 [g0R 0 1999, g0R 0 1999], [], [], [], (g0d 0 48 (g0C 0) (g0V 3) (g0V 1) 0 []) :: (g0d 0 49 (g0C 0) (g0V 5) (g0V 1) 0 []) :: p0q189d0, [g0o 0 47 0 3 4, g0o 0 48 0 3 5], 0, 0), p0q189l0 [], [])
noncomputable def q189_2 : zNx := (1, 0, (p0q189r1 [g0T 0 0], [], [], [], (g0d 0 48 (g0C 0) (g0V 3) (g0V 1) 0 []) :: (g0d 0 47 (g0C 0) (g0V 3) (g0V 1) 0 []) :: p0q189d0, [g0o 0 47 0 3 4], 0, 0), p0q189l0 [], [])
noncomputable def q189_3 : zNx := (1, 0, (p0q189r0 [g0R 2000 2147483647, g0S 9223372036854775807 9223372036854775807, g0R 0 63], [], [], [], [], [], 0, 0), p0q189l0 [], [])
noncomputable def q189 : List zNx := [q189_0, q189_1, q189_2, q189_3]
noncomputable def q189a : List (List zNx) := []
set_option maxRecDepth 100000 in
theorem zk189_ : zCk 3000 uMx uW uT uJL uAn uBds 189 q189 q189a = true := by decide +kernel
noncomputable def q190_0 : zNx := (1, 0, ([], [], [], [], [g0d 1 0 (g0C 0) (g0C 0) (g0C 0) m66_ []], [], 0, 0), [(.inl 96, [g0D 0], 0, 0, g0C 0)], [])
noncomputable def q190 : List zNx := [q190_0]
noncomputable def q190a : List (List zNx) := []
set_option maxRecDepth 100000 in
theorem zk190_ : zCk 3000 uMx uW uT uJL uAn uBds 190 q190 q190a = true := by decide +kernel
noncomputable def q191_0 : zNx := (1, 0, ([g0S 9223372036854775807 9223372036854775807, g0S 9223372036854775807 9223372036854775807, g0R 0 4095, g0S 0 7999], [], [], [g0v 0 0 3], [], [g0o 0 50 0 2 3], 0, 0), [(.inr .lmul, [g0V 0, g0D 7046029254386353130], 0, 0, g0V 1), (.inr .lushr, [g0V 1, g0C 52], 0, 0, g0V 2)], [])
noncomputable def q191 : List zNx := [q191_0]
noncomputable def q191a : List (List zNx) := []
set_option maxRecDepth 100000 in
theorem zk191_ : zCk 3000 uMx uW uT uJL uAn uBds 191 q191 q191a = true := by decide +kernel
noncomputable def q192_0 : zNx := (1, 0, ([g0T 2147483647 0], [], [], [g0w 0 0 (g0D 0)], [], [], 0, 0), [], [])
noncomputable def q192_1 : zNx := (1, 0, ([g0R 8000 2147483647], [], [], [g0w 0 0 (g0D 0)], [], [], 0, 0), [], [])
noncomputable def q192_2 : zNx := (1, 0, ([g0R 0 7999, g0S 0 7999], [], [], [g0v 0 0 1], [], [g0o 0 52 0 0 1], 0, 0), [], [])
noncomputable def q192 : List zNx := [q192_0, q192_1, q192_2]
noncomputable def q192a : List (List zNx) := []
set_option maxRecDepth 100000 in
theorem zk192_ : zCk 3000 uMx uW uT uJL uAn uBds 192 q192 q192a = true := by decide +kernel
noncomputable def p0q193r0 (t : List (Int × Int)) : List (Int × Int) := (g0S 9223372036854775807 9223372036854775807) :: t
noncomputable def p0q193l0 (t : List (zLg)) : List (zLg) := (.inr .lmul, [g0V 0, g0D 7046029254386353130], 0, 0, g0V 2) :: (.inr .lushr, [g0V 2, g0C 52], 0, 0, g0V 3) :: t
noncomputable def q193_0 : zNx := (1, 0, (p0q193r0 [g0T 2147483647 0, g0S 9223372036854775807 9223372036854775807, g0R 0 4095], [], [], [], [], [], 0, 0), p0q193l0 [], [])
noncomputable def p0q193r1 (t : List (Int × Int)) : List (Int × Int) := p0q193r0 ((g0R 0 7999) :: (g0S 9223372036854775807 9223372036854775807) :: (g0R 0 4095) :: t)
noncomputable def p0q193d0 : List (rD) := (g0d 0 52 (g0C 0) (g0V 1) (g0D 0) 0 []) :: []
noncomputable def q193_1 : zNx := (1, 0, (p0q193r1 [g0R 0 7999, g0R 0 7999], [], [], [], (g0d 0 51 (g0C 0) (g0V 3) (g0V 1) 0 []) :: (g0d 0 52 (g0C 0) (g0V 5) (g0V 1) 0 []) :: p0q193d0, [g0o 0 50 0 3 4, g0o 0 51 0 3 5], 0, 0), p0q193l0 [], [])
noncomputable def q193_2 : zNx := (1, 0, (p0q193r1 [g0T 0 0], [], [], [], (g0d 0 51 (g0C 0) (g0V 3) (g0V 1) 0 []) :: (g0d 0 50 (g0C 0) (g0V 3) (g0V 1) 0 []) :: p0q193d0, [g0o 0 50 0 3 4], 0, 0), p0q193l0 [], [])
noncomputable def q193_3 : zNx := (1, 0, (p0q193r0 [g0R 8000 2147483647, g0S 9223372036854775807 9223372036854775807, g0R 0 4095], [], [], [], [], [], 0, 0), p0q193l0 [], [])
noncomputable def q193 : List zNx := [q193_0, q193_1, q193_2, q193_3]
noncomputable def q193a : List (List zNx) := []
set_option maxRecDepth 100000 in
theorem zk193_ : zCk 3000 uMx uW uT uJL uAn uBds 193 q193 q193a = true := by decide +kernel
noncomputable def q194_0 : zNx := (1, 0, ([], [], [], [], [g0d 1 0 (g0C 0) (g0C 0) (g0C 0) m67_ []], [], 0, 0), [(.inl 97, [g0D 0], 0, 0, g0C 0)], [])
noncomputable def q194 : List zNx := [q194_0]
noncomputable def q194a : List (List zNx) := []
set_option maxRecDepth 100000 in
theorem zk194_ : zCk 3000 uMx uW uT uJL uAn uBds 194 q194 q194a = true := by decide +kernel
noncomputable def q195_0 : zNx := (1, 0, ([g0S 9223372036854775807 9223372036854775807, g0S 9223372036854775807 9223372036854775807, g0R 0 2047, g0S 0 1999], [], [], [g0v 0 0 3], [], [g0o 0 53 0 2 3], 0, 0), [(.inr .lmul, [g0V 0, g0D 7046029254386353130], 0, 0, g0V 1), (.inr .lushr, [g0V 1, g0C 53], 0, 0, g0V 2)], [])
noncomputable def q195 : List zNx := [q195_0]
noncomputable def q195a : List (List zNx) := []
set_option maxRecDepth 100000 in
theorem zk195_ : zCk 3000 uMx uW uT uJL uAn uBds 195 q195 q195a = true := by decide +kernel
noncomputable def q196_0 : zNx := (1, 0, ([g0T 2147483647 0], [], [], [g0w 0 0 (g0D 0)], [], [], 0, 0), [], [])
noncomputable def q196_1 : zNx := (1, 0, ([g0R 2000 2147483647], [], [], [g0w 0 0 (g0D 0)], [], [], 0, 0), [], [])
noncomputable def q196_2 : zNx := (1, 0, ([g0R 0 1999, g0S 0 1999], [], [], [g0v 0 0 1], [], [g0o 0 55 0 0 1], 0, 0), [], [])
noncomputable def q196 : List zNx := [q196_0, q196_1, q196_2]
noncomputable def q196a : List (List zNx) := []
set_option maxRecDepth 100000 in
theorem zk196_ : zCk 3000 uMx uW uT uJL uAn uBds 196 q196 q196a = true := by decide +kernel
noncomputable def p0q197r0 (t : List (Int × Int)) : List (Int × Int) := (g0S 9223372036854775807 9223372036854775807) :: t
noncomputable def p0q197l0 (t : List (zLg)) : List (zLg) := (.inr .lmul, [g0V 0, g0D 7046029254386353130], 0, 0, g0V 2) :: (.inr .lushr, [g0V 2, g0C 53], 0, 0, g0V 3) :: t
noncomputable def q197_0 : zNx := (1, 0, (p0q197r0 [g0T 2147483647 0, g0S 9223372036854775807 9223372036854775807, g0R 0 2047], [], [], [], [], [], 0, 0), p0q197l0 [], [])
noncomputable def p0q197r1 (t : List (Int × Int)) : List (Int × Int) := p0q197r0 ((g0R 0 1999) :: (g0S 9223372036854775807 9223372036854775807) :: (g0R 0 2047) :: t)
noncomputable def p0q197d0 : List (rD) := (g0d 0 55 (g0C 0) (g0V 1) (g0D 0) 0 []) :: []
noncomputable def q197_1 : zNx := (1, 0, (p0q197r1 [g0R 0 1999, g0R 0 1999], [], [], [], (g0d 0 54 (g0C 0) (g0V 3) (g0V 1) 0 []) :: (g0d 0 55 (g0C 0) (g0V 5) (g0V 1) 0 []) :: p0q197d0, [g0o 0 53 0 3 4, g0o 0 54 0 3 5], 0, 0), p0q197l0 [], [])
noncomputable def q197_2 : zNx := (1, 0, (p0q197r1 [g0T 0 0], [], [], [], (g0d 0 54 (g0C 0) (g0V 3) (g0V 1) 0 []) :: (g0d 0 53 (g0C 0) (g0V 3) (g0V 1) 0 []) :: p0q197d0, [g0o 0 53 0 3 4], 0, 0), p0q197l0 [], [])
noncomputable def q197_3 : zNx := (1, 0, (p0q197r0 [g0R 2000 2147483647, g0S 9223372036854775807 9223372036854775807, g0R 0 2047], [], [], [], [], [], 0, 0), p0q197l0 [], [])
noncomputable def q197 : List zNx := [q197_0, q197_1, q197_2, q197_3]
noncomputable def q197a : List (List zNx) := []
set_option maxRecDepth 100000 in
theorem zk197_ : zCk 3000 uMx uW uT uJL uAn uBds 197 q197 q197a = true := by decide +kernel
noncomputable def q198_0 : zNx := (1, 0, ([], [], [], [], [g0d 1 0 (g0C 0) (g0C 0) (g0C 0) m68_ []], [], 0, 0), [(.inl 98, [g0D 0], 0, 0, g0C 0)], [])
noncomputable def q198 : List zNx := [q198_0]
noncomputable def q198a : List (List zNx) := []
set_option maxRecDepth 100000 in
theorem zk198_ : zCk 3000 uMx uW uT uJL uAn uBds 198 q198 q198a = true := by decide +kernel
noncomputable def q199_0 : zNx := (1, 0, ([g0S 9223372036854775807 9223372036854775807, g0S 9223372036854775807 9223372036854775807, g0R 0 511, g0S 0 1999], [], [], [g0v 0 0 3], [], [g0o 0 56 0 2 3], 0, 0), [(.inr .lmul, [g0V 0, g0D 7046029254386353130], 0, 0, g0V 1), (.inr .lushr, [g0V 1, g0C 55], 0, 0, g0V 2)], [])
noncomputable def q199 : List zNx := [q199_0]
noncomputable def q199a : List (List zNx) := []
set_option maxRecDepth 100000 in
theorem zk199_ : zCk 3000 uMx uW uT uJL uAn uBds 199 q199 q199a = true := by decide +kernel
noncomputable def q200_0 : zNx := (1, 0, ([g0T 2147483647 0], [], [], [g0w 0 0 (g0D 0)], [], [], 0, 0), [], [])
noncomputable def q200_1 : zNx := (1, 0, ([g0R 2000 2147483647], [], [], [g0w 0 0 (g0D 0)], [], [], 0, 0), [], [])
noncomputable def q200_2 : zNx := (1, 0, ([g0R 0 1999, g0S 0 1999], [], [], [g0v 0 0 1], [], [g0o 0 58 0 0 1], 0, 0), [], [])
noncomputable def q200 : List zNx := [q200_0, q200_1, q200_2]
noncomputable def q200a : List (List zNx) := []
set_option maxRecDepth 100000 in
theorem zk200_ : zCk 3000 uMx uW uT uJL uAn uBds 200 q200 q200a = true := by decide +kernel
noncomputable def p0q201r0 (t : List (Int × Int)) : List (Int × Int) := (g0S 9223372036854775807 9223372036854775807) :: t
noncomputable def p0q201l0 (t : List (zLg)) : List (zLg) := (.inr .lmul, [g0V 0, g0D 7046029254386353130], 0, 0, g0V 2) :: (.inr .lushr, [g0V 2, g0C 55], 0, 0, g0V 3) :: t
noncomputable def q201_0 : zNx := (1, 0, (p0q201r0 [g0T 2147483647 0, g0S 9223372036854775807 9223372036854775807, g0R 0 511], [], [], [], [], [], 0, 0), p0q201l0 [], [])
noncomputable def p0q201r1 (t : List (Int × Int)) : List (Int × Int) := p0q201r0 ((g0R 0 1999) :: (g0S 9223372036854775807 9223372036854775807) :: (g0R 0 511) :: t)
noncomputable def p0q201d0 : List (rD) := (g0d 0 58 (g0C 0) (g0V 1) (g0D 0) 0 []) :: []
noncomputable def q201_1 : zNx := (1, 0, (p0q201r1 [g0R 0 1999, g0R 0 1999], [], [], [], (g0d 0 57 (g0C 0) (g0V 3) (g0V 1) 0 []) :: (g0d 0 58 (g0C 0) (g0V 5) (g0V 1) 0 []) :: p0q201d0, [g0o 0 56 0 3 4, g0o 0 57 0 3 5], 0, 0), p0q201l0 [], [])
noncomputable def q201_2 : zNx := (1, 0, (p0q201r1 [g0T 0 0], [], [], [], (g0d 0 57 (g0C 0) (g0V 3) (g0V 1) 0 []) :: (g0d 0 56 (g0C 0) (g0V 3) (g0V 1) 0 []) :: p0q201d0, [g0o 0 56 0 3 4], 0, 0), p0q201l0 [], [])
noncomputable def q201_3 : zNx := (1, 0, (p0q201r0 [g0R 2000 2147483647, g0S 9223372036854775807 9223372036854775807, g0R 0 511], [], [], [], [], [], 0, 0), p0q201l0 [], [])
noncomputable def q201 : List zNx := [q201_0, q201_1, q201_2, q201_3]
noncomputable def q201a : List (List zNx) := []
set_option maxRecDepth 100000 in
theorem zk201_ : zCk 3000 uMx uW uT uJL uAn uBds 201 q201 q201a = true := by decide +kernel
noncomputable def q202_0 : zNx := (1, 0, ([g0R 0 2000], [], [], [], [g0d 1 0 (g0C 0) (g0C 0) (g0C 0) m67_ [], g0d 1 0 (g0C 0) (g0C 0) (g0C 0) m66_ [], g0d 1 0 (g0C 0) (g0C 0) (g0C 0) m65_ [], g0d 0 4 (g0C 0) (g0C 7) (g0C 0) 0 []], [g0m 0 4 0 7 0], 0, 0), [(.inl 186, [], 1, 0, g0C 0), (.inl 190, [], 2, 0, g0C 0), (.inl 194, [], 3, 0, g0C 0)], [])
noncomputable def q202 : List zNx := [q202_0]
noncomputable def q202a : List (List zNx) := []
set_option maxRecDepth 100000 in
theorem zk202_ : zCk 3000 uMx uW uT uJL uAn uBds 202 q202 q202a = true := by decide +kernel
noncomputable def q203_0 : zNx := (2, 0, ([g0I], [], [], [], [], [], 0, 0), [], [g0V 0, g0C 0, g0V 0])
noncomputable def q203 : List zNx := [q203_0]
noncomputable def p0q203d0 : List (rD) := (g0d 1 0 (g0C 0) (g0C 0) (g0C 0) m0_ []) :: []
noncomputable def q203a0_0 : zNx := (1, 0, ([g0I, g0R 4 4, g0S 9223372036854775807 9223372036854775807], [], [], [g0v 1 0 2], p0q203d0, [], 0, 0), [], [])
noncomputable def q203a0_1 : zNx := (2, 0, ([g0I, g0R 0 3, g0S 9223372036854775807 9223372036854775807, g0S 9223372036854775807 9223372036854775807, g0S 9223372036854775807 9223372036854775807, g0S 9223372036854775807 9223372036854775807], [], [], [], p0q203d0, [g0o 0 33 0 1 4], 0, 0), [(.inr .lmul, [g0V 2, g0C 1000003], 0, 0, g0V 3), (.inr .ladd, [g0V 3, g0V 4], 0, 0, g0V 5)], [g0V 0, g0W 1 1, g0V 5])
noncomputable def q203a0 : List zNx := [q203a0_0, q203a0_1]
noncomputable def q203a : List (List zNx) := [q203a0]
set_option maxRecDepth 100000 in
theorem zk203_ : zCk 3000 uMx uW uT uJL uAn uBds 203 q203 q203a = true := by decide +kernel
noncomputable def q204_0 : zNx := (1, 0, ([g0I, g0I, g0S 9223372036854775807 9223372036854775807, g0S 9223372036854775807 9223372036854775807, g0I, g0S 9223372036854775807 9223372036854775807, g0S 9223372036854775807 9223372036854775807], [], [], [g0v 1 0 6], [], [], 0, 0), [(.inr .lmul, [g0V 2, g0C 1000003], 0, 0, g0V 3), (.inr .imul, [g0V 0, g0C 4], 0, 0, g0V 4), (.inr .ladd, [g0V 3, g0V 4], 0, 0, g0V 5), (.inr .ladd, [g0V 5, g0V 1], 0, 0, g0V 6)], [])
noncomputable def q204 : List zNx := [q204_0]
noncomputable def q204a : List (List zNx) := []
set_option maxRecDepth 100000 in
theorem zk204_ : zCk 3000 uMx uW uT uJL uAn uBds 204 q204 q204a = true := by decide +kernel
noncomputable def q205_0 : zNx := (2, 0, ([g0R 0 1999], [], [], [], [], [], 0, 0), [], [g0V 0, g0C 0])
noncomputable def q205 : List zNx := [q205_0]
noncomputable def p0q205d0 : List (rD) := (g0d 1 0 (g0C 0) (g0C 0) (g0C 0) m0_ []) :: []
noncomputable def q205a0_0 : zNx := (1, 0, ([g0R 0 1999, g0R 4 4], [], [], [g0c 0 0 1], p0q205d0, [], 0, 0), [], [])
noncomputable def p0q205r0 (t : List (Int × Int)) : List (Int × Int) := (g0R 0 1999) :: (g0R 0 3) :: (g0S 9223372036854775807 9223372036854775807) :: (g0S 9223372036854775807 9223372036854775807) :: t
noncomputable def p0q205m0 (t : List (rMm)) : List (rMm) := (g0q 0 27 (g0C 0) (g0X [g0A 1, g0P 0 4] 0) 2) :: (g0o 0 33 0 1 3) :: t
noncomputable def q205a0_1 : zNx := (2, 0, (p0q205r0 [], [g0X [g0A 3, g0B 2] 0, g0X [g0B 3, g0A 2] 0], [], [], p0q205d0, p0q205m0 [], 0, 0), [], [g0V 0, g0W 1 1])
noncomputable def q205a0_2 : zNx := (1, 0, (p0q205r0 [], [], [], [g0c 0 0 0], p0q205d0, p0q205m0 [], 0, 0), [(.inr .nop, [g0V 2, g0V 3, g0C 0], 0, 0, g0C 0)], [])
noncomputable def q205a0 : List zNx := [q205a0_0, q205a0_1, q205a0_2]
noncomputable def q205a : List (List zNx) := [q205a0]
set_option maxRecDepth 100000 in
theorem zk205_ : zCk 3000 uMx uW uT uJL uAn uBds 205 q205 q205a = true := by decide +kernel
noncomputable def p0q206d0 : List (rD) := (g0d 1 0 (g0C 0) (g0C 0) (g0C 0) m0_ []) :: []
noncomputable def p0q206d1 : List (rD) := (g0d 1 0 (g0C 0) (g0C 0) (g0C 0) m0_ []) :: p0q206d0
noncomputable def q206_0 : zNx := (2, 0, ([g0I, g0S 9223372036854775807 9223372036854775807, g0S 0 1999], [], [], [], p0q206d1, [], 0, 0), [(.inl 203, [g0V 0], 0, 0, g0V 1), (.inl 195, [g0V 1], 1, 0, g0V 2)], [g0V 0, g0C 0, g0V 2])
noncomputable def q206 : List zNx := [q206_0]
noncomputable def q206a0_0 : zNx := (1, 0, ([g0I, g0R 0 2000, g0T 0 0], [], [], [g0w 0 0 (g0D 0)], p0q206d0, [], 0, 0), [], [])
noncomputable def q206a0_1 : zNx := (1, 0, ([g0I, g0R 2000 2000, g0R 0 1999], [], [], [g0w 0 0 (g0D 0)], p0q206d0, [], 0, 0), [], [])
noncomputable def p0q206r0 (t : List (Int × Int)) : List (Int × Int) := g0I :: (g0R 0 1999) :: (g0R 0 1999) :: (g0R 0 19) :: t
noncomputable def q206a0_2 : zNx := (2, 0, (p0q206r0 [g0S 0 1999], [], [], [], p0q206d1, [g0o 0 28 0 2 3], 0, 0), [(.inr .nop, [g0V 3, g0V 0, g0C 0], 0, 0, g0C 0), (.inl 196, [g0V 2], 1, 0, g0V 4)], [g0V 0, g0W 1 1, g0V 4])
noncomputable def p0q206f0 : List (rX) := (g0X [g0B 3, g0A 0] 0) :: (g0X [g0A 3, g0B 0] 0) :: []
noncomputable def q206a0_3 : zNx := (2, 0, (p0q206r0 [g0S 0 1999], p0q206f0, [], [], (g0d 1 0 (g0C 0) (g0C 0) (g0C 0) m0_ []) :: p0q206d1, [g0o 0 28 0 2 3], 0, 0), [(.inl 205, [g0V 2], 1, 0, g0C 0), (.inl 196, [g0V 2], 2, 0, g0V 4)], [g0V 0, g0W 1 1, g0V 4])
noncomputable def q206a0_4 : zNx := (1, 0, (p0q206r0 [], p0q206f0, [], [g0v 0 0 2], p0q206d1, [g0o 0 28 0 2 3], 0, 0), [(.inl 205, [g0V 2], 1, 0, g0C 1)], [])
noncomputable def q206a0 : List zNx := [q206a0_0, q206a0_1, q206a0_2, q206a0_3, q206a0_4]
noncomputable def q206a : List (List zNx) := [q206a0]
set_option maxRecDepth 100000 in
theorem zk206_ : zCk 3000 uMx uW uT uJL uAn uBds 206 q206 q206a = true := by decide +kernel
noncomputable def p0q207r0 (t : List (Int × Int)) : List (Int × Int) := (g0R 0 19) :: g0I :: g0I :: (g0R 0 1999) :: t
noncomputable def q207_0 : zNx := (2, 0, (p0q207r0 [g0S 9223372036854775807 9223372036854775807], [], [], [], [g0d 1 0 (g0C 0) (g0C 0) (g0C 0) m122_ [], g0d 1 0 (g0C 0) (g0C 0) (g0C 0) m0_ [], g0d 1 0 (g0C 0) (g0C 0) (g0C 0) m120_ [], g0d 0 32 (g0C 0) (g0V 3) (g0C 0) 0 [], g0d 0 30 (g0C 0) (g0V 3) (g0V 2) 0 [], g0d 0 29 (g0C 0) (g0V 3) (g0V 1) 0 [], g0d 0 28 (g0C 0) (g0V 3) (g0V 0) 0 []], [g0m 0 4 0 7 3], 0, 0), [(.inl 189, [g0V 0, g0V 3], 4, 0, g0C 0), (.inl 203, [g0V 0], 5, 0, g0V 4), (.inl 197, [g0V 4, g0V 3], 6, 0, g0C 0)], [g0V 0, g0V 1, g0V 2, g0V 3, g0C 0])
noncomputable def q207_1 : zNx := (1, 0, ([g0R 0 19, g0I, g0I, g0R 2000 2000], [], [], [g0c 0 0 0], [], [g0m 0 4 0 7 3], 0, 0), [], [])
noncomputable def q207 : List zNx := [q207_0, q207_1]
noncomputable def p0q207d0 : List (rD) := (g0d 1 0 (g0C 0) (g0C 0) (g0C 0) m126_ []) :: []
noncomputable def q207a0_0 : zNx := (1, 0, (p0q207r0 [g0R 4 4], [], [], [g0c 0 0 1], (g0d 0 4 (g0C 0) (g0C 7) (g0W 3 1) 0 []) :: p0q207d0, [g0m 0 4 0 7 3], 0, 0), [], [])
noncomputable def q207a0_1 : zNx := (2, 0, (p0q207r0 [g0R 0 3, g0S 9223372036854775807 9223372036854775807, g0S 9223372036854775807 9223372036854775807], [], [], [], (g0d 1 0 (g0C 0) (g0C 0) (g0C 0) m121_ []) :: (g0d 1 0 (g0C 0) (g0C 0) (g0C 0) m0_ []) :: (g0d 0 27 (g0C 0) (g0X [g0A 4, g0P 3 4] 0) (g0V 5) 0 []) :: p0q207d0, [g0m 0 4 0 7 3, g0o 0 33 0 4 5], 0, 0), [(.inl 204, [g0V 0, g0V 4, g0V 5], 2, 0, g0V 6), (.inl 193, [g0V 6, g0X [g0A 4, g0P 3 4] 0], 3, 0, g0C 0)], [g0V 0, g0V 1, g0V 2, g0V 3, g0W 4 1])
noncomputable def q207a0 : List zNx := [q207a0_0, q207a0_1]
noncomputable def q207a : List (List zNx) := [q207a0]
set_option maxRecDepth 100000 in
theorem zk207_ : zCk 3000 uMx uW uT uJL uAn uBds 207 q207 q207a = true := by decide +kernel
noncomputable def p0q208r0 (t : List (Int × Int)) : List (Int × Int) := g0I :: (g0R 1 2147483647) :: (g0R 0 2000) :: t
noncomputable def q208_0 : zNx := (2, 0, (p0q208r0 [], [], [], [], [], [g0m 0 4 0 7 2], 0, 0), [], [g0V 0, g0V 1, g0V 2, g0V 1])
noncomputable def p0q208d0 : List (rD) := (g0d 1 0 (g0C 0) (g0C 0) (g0C 0) m0_ []) :: []
noncomputable def q208_1 : zNx := (1, 0, ([g0I, g0S 2147483647 0, g0R 0 2000, g0S 0 1999], [], [], [g0v 0 0 3], p0q208d0, [g0m 0 4 0 7 2], 0, 0), [(.inl 187, [g0V 0], 0, 0, g0V 3)], [])
noncomputable def q208 : List zNx := [q208_0, q208_1]
noncomputable def q208a0_0 : zNx := (1, 0, (p0q208r0 [g0R 1 2147483647], [g0X [g0A 3, g0B 2] 0, g0X [g0A 3, g0B 1] 0], [], [g0w 0 0 (g0D 0)], p0q208d0, [g0m 0 4 0 7 2], 0, 0), [], [])
noncomputable def p0q208r1 (t : List (Int × Int)) : List (Int × Int) := p0q208r0 ((g0R 1 2147483647) :: (g0R 0 19) :: t)
noncomputable def p0q208f0 : List (rX) := (g0Z [g0B 3, g0A 2] 0) :: (g0X [g0A 3, g0B 1] 0) :: []
noncomputable def p0q208m0 (t : List (rMm)) : List (rMm) := (g0m 0 4 0 7 2) :: (g0o 0 28 0 3 4) :: t
noncomputable def q208a0_1 : zNx := (2, 0, (p0q208r1 [], p0q208f0, [], [], p0q208d0, p0q208m0 [], 0, 0), [(.inr .nop, [g0V 4, g0V 0, g0C 0], 0, 0, g0C 0)], [g0V 0, g0V 1, g0V 2, g0W 3 1])
noncomputable def q208a0_2 : zNx := (1, 0, (p0q208r1 [], (g0X [g0B 4, g0A 0] 0) :: (g0X [g0A 4, g0B 0] 0) :: p0q208f0, [], [g0v 0 0 3], p0q208d0, p0q208m0 [], 0, 0), [], [])
noncomputable def q208a0 : List zNx := [q208a0_0, q208a0_1, q208a0_2]
noncomputable def q208a : List (List zNx) := [q208a0]
set_option maxRecDepth 100000 in
theorem zk208_ : zCk 3000 uMx uW uT uJL uAn uBds 208 q208 q208a = true := by decide +kernel
noncomputable def q209_0 : zNx := (1, 0, ([g0I, g0S 0 1999], [], [], [g0v 0 0 1], [g0d 1 0 (g0C 0) (g0C 0) (g0C 0) m0_ []], [], 0, 0), [(.inl 188, [g0V 0], 0, 0, g0V 1)], [])
noncomputable def q209 : List zNx := [q209_0]
noncomputable def q209a : List (List zNx) := []
set_option maxRecDepth 100000 in
theorem zk209_ : zCk 3000 uMx uW uT uJL uAn uBds 209 q209 q209a = true := by decide +kernel
noncomputable def q210_0 : zNx := (2, 0, ([g0S 0 7999, g0I], [], [], [], [], [], 0, 0), [], [g0V 0, g0V 1, g0C 0, g0V 0])
noncomputable def q210 : List zNx := [q210_0]
noncomputable def p0q210d0 : List (rD) := (g0d 1 0 (g0C 0) (g0C 0) (g0C 0) m0_ []) :: []
noncomputable def q210a0_0 : zNx := (1, 0, ([g0S 0 7999, g0I, g0R 0 8000, g0T 0 0], [], [], [g0w 0 0 (g0D 0)], p0q210d0, [], 0, 0), [], [])
noncomputable def q210a0_1 : zNx := (1, 0, ([g0S 0 7999, g0I, g0R 8000 8000, g0R 0 7999], [], [], [g0w 0 0 (g0D 0)], p0q210d0, [], 0, 0), [], [])
noncomputable def p0q210r0 (t : List (Int × Int)) : List (Int × Int) := (g0S 0 7999) :: g0I :: (g0R 0 7999) :: (g0R 0 7999) :: (g0R 0 3) :: t
noncomputable def p0q210l0 (t : List (zLg)) : List (zLg) := (.inr .irem, [g0V 3, g0C 4], 0, 0, g0V 4) :: t
noncomputable def q210a0_2 : zNx := (2, 0, (p0q210r0 [g0S 0 7999], [], [], [], (g0d 1 0 (g0C 0) (g0C 0) (g0C 0) m0_ []) :: p0q210d0, [], 0, 0), p0q210l0 [(.inr .nop, [g0V 4, g0V 1, g0C 0], 0, 0, g0C 0), (.inl 192, [g0V 3], 1, 0, g0V 5)], [g0V 0, g0V 1, g0W 2 1, g0V 5])
noncomputable def q210a0_3 : zNx := (1, 0, (p0q210r0 [g0R 0 1999], [g0X [g0P 5 4, g0B 3] 3, g0X [g0N 5 3, g0A 3] 0, g0X [g0B 4, g0A 1] 0, g0X [g0A 4, g0B 1] 0], [], [g0v 0 0 5], p0q210d0, [], 0, 0), p0q210l0 [], [])
noncomputable def q210a0 : List zNx := [q210a0_0, q210a0_1, q210a0_2, q210a0_3]
noncomputable def q210a : List (List zNx) := [q210a0]
set_option maxRecDepth 100000 in
theorem zk210_ : zCk 3000 uMx uW uT uJL uAn uBds 210 q210 q210a = true := by decide +kernel
noncomputable def q211_0 : zNx := (1, 0, ([g0I, g0I, g0S 9223372036854775807 9223372036854775807, g0S 9223372036854775807 9223372036854775807, g0S 0 7999, g0S 0 1999], [], [], [g0v 0 0 5], [g0d 1 0 (g0C 0) (g0C 0) (g0C 0) m0_ [], g0d 1 0 (g0C 0) (g0C 0) (g0C 0) m0_ [], g0d 1 0 (g0C 0) (g0C 0) (g0C 0) m0_ []], [], 0, 0), [(.inl 204, [g0V 0, g0V 1, g0V 2], 0, 0, g0V 3), (.inl 191, [g0V 3], 1, 0, g0V 4), (.inl 210, [g0V 4, g0V 1], 2, 0, g0V 5)], [])
noncomputable def q211 : List zNx := [q211_0]
noncomputable def q211a : List (List zNx) := []
set_option maxRecDepth 100000 in
theorem zk211_ : zCk 3000 uMx uW uT uJL uAn uBds 211 q211 q211a = true := by decide +kernel
noncomputable def q212_0 : zNx := (1, 0, ([g0R 0 1999, g0R 0 3, g0S 0 7999, g0S 0 1999], [], [], [g0v 0 0 3], [g0d 1 0 (g0C 0) (g0C 0) (g0C 0) m0_ [], g0d 1 0 (g0C 0) (g0C 0) (g0C 0) m0_ []], [], 0, 0), [(.inl 192, [g0X [g0A 1, g0P 0 4] 0], 0, 0, g0V 2), (.inl 210, [g0V 2, g0V 1], 1, 0, g0V 3)], [])
noncomputable def q212 : List zNx := [q212_0]
noncomputable def q212a : List (List zNx) := []
set_option maxRecDepth 100000 in
theorem zk212_ : zCk 3000 uMx uW uT uJL uAn uBds 212 q212 q212a = true := by decide +kernel
noncomputable def q213_0 : zNx := (1, 0, ([g0R 0 2000], [], [], [], [g0d 1 0 (g0C 0) (g0C 0) (g0C 0) m68_ [], g0d 0 5 (g0C 0) (g0C 3) (g0C 0) 0 []], [g0m 0 5 0 3 0], 0, 0), [(.inl 198, [], 1, 0, g0C 0)], [])
noncomputable def q213 : List zNx := [q213_0]
noncomputable def q213a : List (List zNx) := []
set_option maxRecDepth 100000 in
theorem zk213_ : zCk 3000 uMx uW uT uJL uAn uBds 213 q213 q213a = true := by decide +kernel
noncomputable def q214_0 : zNx := (2, 0, ([], [], [], [], [], [], 0, 0), [], [g0C 0, g0C 0])
noncomputable def q214 : List zNx := [q214_0]
noncomputable def p0q214d0 : List (rD) := (g0d 1 0 (g0C 0) (g0C 0) (g0C 0) m0_ []) :: []
noncomputable def q214a0_0 : zNx := (1, 0, ([g0R 4 4, g0S 9223372036854775807 9223372036854775807], [], [], [g0v 1 0 1], p0q214d0, [], 0, 0), [], [])
noncomputable def q214a0_1 : zNx := (2, 0, ([g0R 0 3, g0S 9223372036854775807 9223372036854775807, g0S 9223372036854775807 9223372036854775807, g0S 9223372036854775807 9223372036854775807, g0S 9223372036854775807 9223372036854775807], [], [], [], p0q214d0, [g0o 0 33 0 0 3], 0, 0), [(.inr .lmul, [g0V 1, g0C 1000003], 0, 0, g0V 2), (.inr .ladd, [g0V 2, g0V 3], 0, 0, g0V 4)], [g0W 0 1, g0V 4])
noncomputable def q214a0 : List zNx := [q214a0_0, q214a0_1]
noncomputable def q214a : List (List zNx) := [q214a0]
set_option maxRecDepth 100000 in
theorem zk214_ : zCk 3000 uMx uW uT uJL uAn uBds 214 q214 q214a = true := by decide +kernel
noncomputable def q215_0 : zNx := (2, 0, ([g0R 0 1999], [], [], [], [], [], 0, 0), [], [g0V 0, g0C 0])
noncomputable def q215 : List zNx := [q215_0]
noncomputable def p0q215d0 : List (rD) := (g0d 1 0 (g0C 0) (g0C 0) (g0C 0) m0_ []) :: []
noncomputable def q215a0_0 : zNx := (1, 0, ([g0R 0 1999, g0R 4 4], [], [], [g0c 0 0 1], p0q215d0, [], 0, 0), [], [])
noncomputable def p0q215r0 (t : List (Int × Int)) : List (Int × Int) := (g0R 0 1999) :: (g0R 0 3) :: (g0S 9223372036854775807 9223372036854775807) :: (g0S 9223372036854775807 9223372036854775807) :: t
noncomputable def p0q215m0 (t : List (rMm)) : List (rMm) := (g0q 0 34 (g0C 0) (g0X [g0A 1, g0P 0 4] 0) 2) :: (g0o 0 33 0 1 3) :: t
noncomputable def q215a0_1 : zNx := (2, 0, (p0q215r0 [], [g0X [g0A 3, g0B 2] 0, g0X [g0B 3, g0A 2] 0], [], [], p0q215d0, p0q215m0 [], 0, 0), [], [g0V 0, g0W 1 1])
noncomputable def q215a0_2 : zNx := (1, 0, (p0q215r0 [], [], [], [g0c 0 0 0], p0q215d0, p0q215m0 [], 0, 0), [(.inr .nop, [g0V 2, g0V 3, g0C 0], 0, 0, g0C 0)], [])
noncomputable def q215a0 : List zNx := [q215a0_0, q215a0_1, q215a0_2]
noncomputable def q215a : List (List zNx) := [q215a0]
set_option maxRecDepth 100000 in
theorem zk215_ : zCk 3000 uMx uW uT uJL uAn uBds 215 q215 q215a = true := by decide +kernel
noncomputable def p0q216d0 : List (rD) := (g0d 1 0 (g0C 0) (g0C 0) (g0C 0) m0_ []) :: []
noncomputable def p0q216d1 : List (rD) := (g0d 1 0 (g0C 0) (g0C 0) (g0C 0) m0_ []) :: p0q216d0
noncomputable def q216_0 : zNx := (2, 0, ([g0R 0 2000, g0S 9223372036854775807 9223372036854775807, g0S 0 1999], [], [], [], p0q216d1, [g0m 0 5 0 3 0], 0, 0), [(.inl 214, [], 0, 0, g0V 1), (.inl 199, [g0V 1], 1, 0, g0V 2)], [g0V 0, g0C 0, g0V 2, g0V 1])
noncomputable def q216 : List zNx := [q216_0]
noncomputable def p0q216d2 : List (rD) := (g0d 0 5 (g0C 0) (g0C 3) (g0W 0 1) 0 []) :: (g0d 1 0 (g0C 0) (g0C 0) (g0C 0) m123_ []) :: (g0d 0 36 (g0C 0) (g0V 0) (g0C 0) 0 []) :: (g0d 0 35 (g0C 0) (g0V 0) (g0C 0) 0 []) :: (g0d 1 0 (g0C 0) (g0C 0) (g0C 0) mY156_ []) :: p0q216d0
noncomputable def p0q216l0 (t : List (zLg)) : List (zLg) := (.inr (.invokestatic 57), [g0C 33, g0C 0, g0C 0, g0C 34, g0C 0, g0X [g0P 0 4] 0, g0C 4], 1, 0, g0C 0) :: (.inl 201, [g0V 3, g0V 0], 4, 0, g0C 0) :: t
noncomputable def q216a0_0 : zNx := (1, 0, ([g0R 0 1999, g0R 0 2000, g0T 0 0, g0S 9223372036854775807 9223372036854775807], [], [], [g0v 0 0 0], p0q216d2, [g0m 0 5 0 3 0], 0, 0), p0q216l0 [], [])
noncomputable def q216a0_1 : zNx := (1, 0, ([g0R 2000 2000, g0R 0 2000, g0T 0 0, g0S 9223372036854775807 9223372036854775807], [], [], [g0w 0 0 (g0D 0)], p0q216d0, [g0m 0 5 0 3 0], 0, 0), [], [])
noncomputable def q216a0_2 : zNx := (1, 0, ([g0R 0 1999, g0R 2000 2000, g0R 0 1999, g0S 9223372036854775807 9223372036854775807], [], [], [g0v 0 0 0], p0q216d2, [g0m 0 5 0 3 0], 0, 0), p0q216l0 [], [])
noncomputable def q216a0_3 : zNx := (1, 0, ([g0R 2000 2000, g0R 2000 2000, g0R 0 1999, g0S 9223372036854775807 9223372036854775807], [], [], [g0w 0 0 (g0D 0)], p0q216d0, [g0m 0 5 0 3 0], 0, 0), [], [])
noncomputable def p0q216r0 (t : List (Int × Int)) : List (Int × Int) := (g0R 0 2000) :: (g0R 0 1999) :: (g0R 0 1999) :: (g0S 9223372036854775807 9223372036854775807) :: t
noncomputable def q216a0_4 : zNx := (2, 0, (p0q216r0 [g0S 0 1999], [], [], [], (g0d 1 0 (g0C 0) (g0C 0) (g0C 0) m0_ []) :: p0q216d1, [g0m 0 5 0 3 0], 0, 0), [(.inl 215, [g0V 2], 1, 0, g0C 0), (.inl 200, [g0V 2], 2, 0, g0V 4)], [g0V 0, g0W 1 1, g0V 4, g0V 3])
noncomputable def q216a0_5 : zNx := (1, 0, (p0q216r0 [], [], [], [g0v 0 0 2], p0q216d1, [g0m 0 5 0 3 0], 0, 0), [(.inl 215, [g0V 2], 1, 0, g0C 1)], [])
noncomputable def q216a0 : List zNx := [q216a0_0, q216a0_1, q216a0_2, q216a0_3, q216a0_4, q216a0_5]
noncomputable def q216a : List (List zNx) := [q216a0]
set_option maxRecDepth 100000 in
theorem zk216_ : zCk 3000 uMx uW uT uJL uAn uBds 216 q216 q216a = true := by decide +kernel
noncomputable def q217_0 : zNx := (1, 0, ([g0R 0 1999, g0I, g0I], [], [], [], [g0d 0 36 (g0C 0) (g0V 0) (g0C 1) 0 [], g0d 0 35 (g0C 0) (g0V 0) (g0V 2) 0 []], [g0o 0 35 0 0 1], 0, 0), [(.inr .iadd, [g0V 1, g0C 1], 0, 0, g0V 2)], [])
noncomputable def q217 : List zNx := [q217_0]
noncomputable def q217a : List (List zNx) := []
set_option maxRecDepth 100000 in
theorem zk217_ : zCk 3000 uMx uW uT uJL uAn uBds 217 q217 q217a = true := by decide +kernel
noncomputable def p0q218d0 : List (rD) := (g0d 1 0 (g0C 0) (g0C 0) (g0C 0) m0_ []) :: (g0d 0 36 (g0C 0) (g0V 0) (g0C 1) 0 []) :: []
noncomputable def q218_0 : zNx := (1, 0, ([g0R 0 1999, g0R 1099511627776 9223372036854775807], [], [], [], p0q218d0, [], 0, 0), [(.inl 172, [g0V 1], 1, 0, g0C 0)], [])
noncomputable def q218_1 : zNx := (1, 0, ([g0R 0 1999, g0S 9223372036854775807 1099511627775, g0I, g0I, g0I], [], [], [], (g0d 0 35 (g0C 0) (g0V 0) (g0V 4) 0 []) :: p0q218d0, [g0o 0 35 0 0 2], 0, 0), [(.inl 172, [g0V 1], 1, 0, g0C 1), (.inr .l2i, [g0V 1], 0, 0, g0V 3), (.inr .iadd, [g0V 2, g0V 3], 0, 0, g0V 4)], [])
noncomputable def q218 : List zNx := [q218_0, q218_1]
noncomputable def q218a : List (List zNx) := []
set_option maxRecDepth 100000 in
theorem zk218_ : zCk 3000 uMx uW uT uJL uAn uBds 218 q218 q218a = true := by decide +kernel
noncomputable def p0q219d0 : List (rD) := (g0d 1 0 (g0C 0) (g0C 0) (g0C 0) m0_ []) :: []
noncomputable def q219_0 : zNx := (1, 0, ([g0R 0 1999, g0R 1099511627776 9223372036854775807], [], [], [], p0q219d0, [], 0, 0), [(.inl 172, [g0V 1], 0, 0, g0C 0)], [])
noncomputable def p0q219r0 (t : List (Int × Int)) : List (Int × Int) := (g0R 0 1999) :: (g0S 9223372036854775807 1099511627775) :: t
noncomputable def p0q219l0 (t : List (zLg)) : List (zLg) := (.inl 172, [g0V 1], 0, 0, g0C 1) :: t
noncomputable def q219_1 : zNx := (1, 0, (p0q219r0 [g0R 0 0, g0I], [], [], [], (g0d 0 36 (g0C 0) (g0V 0) (g0C 1) 0 []) :: (g0d 0 35 (g0C 0) (g0V 0) (g0V 3) 0 []) :: p0q219d0, [g0o 0 36 0 0 2], 0, 0), p0q219l0 [(.inr .l2i, [g0V 1], 0, 0, g0V 3)], [])
noncomputable def p0q219d1 : List (rD) := (g0d 1 0 (g0C 0) (g0C 0) (g0C 0) m0_ []) :: p0q219d0
noncomputable def p0q219m0 (t : List (rMm)) : List (rMm) := (g0o 0 36 0 0 2) :: (g0o 0 35 0 0 3) :: t
noncomputable def p0q219l1 (t : List (zLg)) : List (zLg) := p0q219l0 ((.inr .l2i, [g0V 1], 0, 0, g0V 4) :: t)
noncomputable def q219_2 : zNx := (1, 0, (p0q219r0 [g0R 1 1, g0I, g0I], [g0X [g0A 4, g0B 3] 0], [], [], (g0d 0 36 (g0C 0) (g0V 0) (g0C 1) 0 []) :: (g0d 0 35 (g0C 0) (g0V 0) (g0V 3) 0 []) :: p0q219d1, p0q219m0 [], 0, 0), p0q219l1 [(.inl 100, [g0V 3, g0V 4], 1, 0, g0V 3)], [])
noncomputable def q219_3 : zNx := (1, 0, (p0q219r0 [g0R 1 1, g0I, g0I], [g0Z [g0B 4, g0A 3] 0], [], [], (g0d 0 36 (g0C 0) (g0V 0) (g0C 1) 0 []) :: (g0d 0 35 (g0C 0) (g0V 0) (g0V 4) 0 []) :: p0q219d1, p0q219m0 [], 0, 0), p0q219l1 [(.inl 100, [g0V 3, g0V 4], 1, 0, g0V 4)], [])
noncomputable def q219 : List zNx := [q219_0, q219_1, q219_2, q219_3]
noncomputable def q219a : List (List zNx) := []
set_option maxRecDepth 100000 in
theorem zk219_ : zCk 3000 uMx uW uT uJL uAn uBds 219 q219 q219a = true := by decide +kernel
noncomputable def p0q220d0 : List (rD) := (g0d 1 0 (g0C 0) (g0C 0) (g0C 0) m0_ []) :: []
noncomputable def q220_0 : zNx := (1, 0, ([g0R 0 1999, g0R 1099511627776 9223372036854775807], [], [], [], p0q220d0, [], 0, 0), [(.inl 172, [g0V 1], 0, 0, g0C 0)], [])
noncomputable def p0q220r0 (t : List (Int × Int)) : List (Int × Int) := (g0R 0 1999) :: (g0S 9223372036854775807 1099511627775) :: t
noncomputable def p0q220l0 (t : List (zLg)) : List (zLg) := (.inl 172, [g0V 1], 0, 0, g0C 1) :: t
noncomputable def q220_1 : zNx := (1, 0, (p0q220r0 [g0R 0 0, g0I], [], [], [], (g0d 0 36 (g0C 0) (g0V 0) (g0C 1) 0 []) :: (g0d 0 35 (g0C 0) (g0V 0) (g0V 3) 0 []) :: p0q220d0, [g0o 0 36 0 0 2], 0, 0), p0q220l0 [(.inr .l2i, [g0V 1], 0, 0, g0V 3)], [])
noncomputable def p0q220d1 : List (rD) := (g0d 1 0 (g0C 0) (g0C 0) (g0C 0) m0_ []) :: p0q220d0
noncomputable def p0q220m0 (t : List (rMm)) : List (rMm) := (g0o 0 36 0 0 2) :: (g0o 0 35 0 0 3) :: t
noncomputable def p0q220l1 (t : List (zLg)) : List (zLg) := p0q220l0 ((.inr .l2i, [g0V 1], 0, 0, g0V 4) :: t)
noncomputable def q220_2 : zNx := (1, 0, (p0q220r0 [g0R 1 1, g0I, g0I], [g0X [g0B 4, g0A 3] 0], [], [], (g0d 0 36 (g0C 0) (g0V 0) (g0C 1) 0 []) :: (g0d 0 35 (g0C 0) (g0V 0) (g0V 3) 0 []) :: p0q220d1, p0q220m0 [], 0, 0), p0q220l1 [(.inl 101, [g0V 3, g0V 4], 1, 0, g0V 3)], [])
noncomputable def q220_3 : zNx := (1, 0, (p0q220r0 [g0R 1 1, g0I, g0I], [g0Z [g0A 4, g0B 3] 0], [], [], (g0d 0 36 (g0C 0) (g0V 0) (g0C 1) 0 []) :: (g0d 0 35 (g0C 0) (g0V 0) (g0V 4) 0 []) :: p0q220d1, p0q220m0 [], 0, 0), p0q220l1 [(.inl 101, [g0V 3, g0V 4], 1, 0, g0V 4)], [])
noncomputable def q220 : List zNx := [q220_0, q220_1, q220_2, q220_3]
noncomputable def q220a : List (List zNx) := []
set_option maxRecDepth 100000 in
theorem zk220_ : zCk 3000 uMx uW uT uJL uAn uBds 220 q220 q220a = true := by decide +kernel
noncomputable def p0q222r0 (t : List (Int × Int)) : List (Int × Int) := (g0R 0 62) :: (g0R 0 60) :: (g0R 0 8) :: (g0R 0 4) :: (g0R 0 8) :: (g0S 0 19) :: t
noncomputable def p0q222m0 (t : List (rMm)) : List (rMm) := (g0m 0 1 0 10 1) :: (g0n 0 9 0 2 2) :: (g0q 0 10 (g0X [g0P 0 9] 0) (g0C 12) 3) :: (g0q 0 10 (g0X [g0P 0 9] 1) (g0C 4) 4) :: (g0q 0 10 (g0X [g0P 0 9] 1) (g0C 8) 5) :: t
noncomputable def q222_0 : zNx := (2, 0, (p0q222r0 [], [], [], [], [], p0q222m0 [], 0, 0), [], [g0V 0, g0V 1, g0V 2, g0V 3, g0V 4, g0V 5, g0C 0, g0C 0])
noncomputable def q222 : List zNx := [q222_0]
noncomputable def p0q222d0 : List (rD) := (g0d 1 0 (g0C 0) (g0C 0) (g0C 0) m0_ [41]) :: []
noncomputable def q222a0_0 : zNx := (1, 0, (p0q222r0 [g0R 0 8, g0R 0 20], [g0X [g0A 6, g0B 2] 0, g0X [g0B 6, g0A 2] 0], [], [g0v 0 0 7], p0q222d0, p0q222m0 [], 0, 0), [], [])
noncomputable def p0q222r1 (t : List (Int × Int)) : List (Int × Int) := (g0R 0 62) :: (g0R 0 60) :: (g0R 0 8) :: (g0R 0 0) :: (g0R 0 8) :: (g0S 0 19) :: (g0R 0 8) :: (g0R 0 20) :: (g0R 1 1) :: (g0R 0 19) :: (g0R 0 60) :: (g0R 0 19) :: t
noncomputable def p0q222f0 : List (rX) := (g0Z [g0B 6, g0A 2] 0) :: (g0X [g0B 6, g0A 2] 0) :: []
noncomputable def p0q222d1 : List (rD) := (g0d 1 0 (g0C 0) (g0C 0) (g0C 0) m0_ []) :: p0q222d0
noncomputable def p0q222d2 : List (rD) := (g0d 1 0 (g0C 0) (g0C 0) (g0C 0) m0_ []) :: p0q222d1
noncomputable def p0q222m1 (t : List (rMm)) : List (rMm) := p0q222m0 ((g0q 0 10 (g0X [g0A 6, g0P 0 9] 1) (g0C 4) 8) :: t)
noncomputable def p0q222m2 (t : List (rMm)) : List (rMm) := p0q222m1 ((g0q 0 10 (g0X [g0A 6, g0P 0 9] 1) (g0C 8) 9) :: (g0o 0 40 0 1 10) :: (g0o 0 18 0 9 11) :: t)
noncomputable def p0q222l0 (t : List (zLg)) : List (zLg) := (.inl 132, [g0V 0, g0V 6], 1, 0, g0X [g0A 6, g0P 0 9] 1) :: t
noncomputable def q222a0_1 : zNx := (2, 0, (p0q222r1 [], (g0X [g0B 11, g0A 7] 0) :: p0q222f0, [], [], p0q222d2, p0q222m2 [], 0, 0), p0q222l0 [(.inl 101, [g0V 7, g0V 11], 2, 0, g0V 7)], [g0V 0, g0V 1, g0V 2, g0V 3, g0V 4, g0V 5, g0W 6 1, g0V 7])
noncomputable def q222a0_2 : zNx := (2, 0, (p0q222r1 [], (g0Z [g0A 11, g0B 7] 0) :: p0q222f0, [], [], p0q222d2, p0q222m2 [], 0, 0), p0q222l0 [(.inl 101, [g0V 7, g0V 11], 2, 0, g0V 11)], [g0V 0, g0V 1, g0V 2, g0V 3, g0V 4, g0V 5, g0W 6 1, g0V 11])
noncomputable def p0q222r2 (t : List (Int × Int)) : List (Int × Int) := (g0R 0 62) :: (g0R 0 60) :: (g0R 0 8) :: (g0R 1 4) :: (g0R 0 8) :: (g0S 0 19) :: (g0R 0 8) :: (g0R 0 20) :: (g0R 1 1) :: (g0R 0 19) :: (g0R 0 60) :: (g0R 0 19) :: t
noncomputable def q222a0_3 : zNx := (2, 0, (p0q222r2 [], (g0Z [g0B 11, g0A 7] 0) :: p0q222f0, [], [], p0q222d2, p0q222m2 [], 0, 0), p0q222l0 [(.inl 101, [g0V 7, g0W 11 1], 2, 0, g0V 7)], [g0V 0, g0V 1, g0V 2, g0V 3, g0V 4, g0V 5, g0W 6 1, g0V 7])
noncomputable def q222a0_4 : zNx := (2, 0, (p0q222r2 [], (g0X [g0A 11, g0B 7] 0) :: p0q222f0, [], [], p0q222d2, p0q222m2 [], 0, 0), p0q222l0 [(.inl 101, [g0V 7, g0W 11 1], 2, 0, g0W 11 1)], [g0V 0, g0V 1, g0V 2, g0V 3, g0V 4, g0V 5, g0W 6 1, g0W 11 1])
noncomputable def p0q222l1 (t : List (zLg)) : List (zLg) := p0q222l0 ((.inr .nop, [g0V 8, g0C 1, g0C 0], 0, 0, g0C 0) :: t)
noncomputable def q222a0_5 : zNx := (2, 0, (p0q222r0 [g0R 0 8, g0R 0 20, g0R 0 8], p0q222f0, [], [], p0q222d1, p0q222m1 [], 0, 0), p0q222l1 [(.inr .nop, [g0V 8, g0C 2, g0C 0], 0, 0, g0C 0)], [g0V 0, g0V 1, g0V 2, g0V 3, g0V 4, g0V 5, g0W 6 1, g0V 7])
noncomputable def p0q222r3 (t : List (Int × Int)) : List (Int × Int) := p0q222r0 ((g0R 0 8) :: (g0R 0 20) :: (g0R 2 2) :: (g0R 0 19) :: (g0R 0 60) :: (g0R 0 19) :: t)
noncomputable def q222a0_6 : zNx := (2, 0, (p0q222r3 [], (g0Z [g0B 11, g0A 7] 0) :: p0q222f0, [], [], p0q222d2, p0q222m2 [], 0, 0), p0q222l1 [(.inl 101, [g0V 7, g0W 11 1], 2, 0, g0V 7)], [g0V 0, g0V 1, g0V 2, g0V 3, g0V 4, g0V 5, g0W 6 1, g0V 7])
noncomputable def q222a0_7 : zNx := (2, 0, (p0q222r3 [], (g0X [g0A 11, g0B 7] 0) :: p0q222f0, [], [], p0q222d2, p0q222m2 [], 0, 0), p0q222l1 [(.inl 101, [g0V 7, g0W 11 1], 2, 0, g0W 11 1)], [g0V 0, g0V 1, g0V 2, g0V 3, g0V 4, g0V 5, g0W 6 1, g0W 11 1])
noncomputable def q222a0 : List zNx := [q222a0_0, q222a0_1, q222a0_2, q222a0_3, q222a0_4, q222a0_5, q222a0_6, q222a0_7]
noncomputable def q222a : List (List zNx) := [q222a0]
set_option maxRecDepth 100000 in
theorem zk222_ : zCk 3000 uMx uW uT uJL uAn uBds 222 q222 q222a = true := by decide +kernel
noncomputable def p0q223r0 (t : List (Int × Int)) : List (Int × Int) := (g0R 0 20) :: (g0R 0 20) :: (g0R 0 60) :: t
noncomputable def p0q223m0 (t : List (rMm)) : List (rMm) := (g0m 0 1 0 7 0) :: (g0m 0 1 0 8 1) :: (g0m 0 1 0 10 2) :: t
noncomputable def q223_0 : zNx := (2, 0, (p0q223r0 [], [], [], [], [g0d 1 0 (g0C 0) (g0C 0) (g0C 0) m64_ []], p0q223m0 [], 0, 0), [(.inl 94, [g0C 0], 0, 0, g0C 0)], [g0V 0, g0V 1, g0V 2, g0C 0, g0C 1])
noncomputable def q223 : List zNx := [q223_0]
noncomputable def p0q223d0 : List (rD) := (g0d 1 0 (g0C 0) (g0C 0) (g0C 0) m64_ [39, 41]) :: []
noncomputable def p0q223d1 : List (rD) := (g0d 0 1 (g0C 0) (g0C 8) (g0C 0) 0 []) :: p0q223d0
noncomputable def q223a0_0 : zNx := (2, 2, (p0q223r0 [g0R 0 401, g0R 0 0], [], [], [], p0q223d1, p0q223m0 [], 0, 0), [], [g0V 0, g0V 1, g0V 2, g0C 0, g0V 4, g0C 0])
noncomputable def q223a0_1 : zNx := (2, 2, (p0q223r0 [g0R 401 401, g0R 1 1], [], [], [], p0q223d1, p0q223m0 [], 0, 0), [], [g0V 0, g0V 1, g0V 2, g0C 0, g0V 4, g0C 0])
noncomputable def q223a0_2 : zNx := (2, 1, (p0q223r0 [g0R 0 400, g0R 1 1], [], [], [], p0q223d0, p0q223m0 [], 0, 0), [], [g0V 0, g0V 1, g0V 2, g0C 0, g0C 0, g0V 3])
noncomputable def q223a0 : List zNx := [q223a0_0, q223a0_1, q223a0_2]
noncomputable def p0q223r1 (t : List (Int × Int)) : List (Int × Int) := p0q223r0 ((g0R 0 60) :: (g0R 0 1) :: (g0R 0 400) :: t)
noncomputable def p0q223f0 : List (rX) := (g0X [g0B 3, g0A 2] 0) :: (g0X [g0B 4, g0A 0] 0) :: (g0X [g0B 4, g0A 3] 0) :: []
noncomputable def q223a1_0 : zNx := (2, 0, (p0q223r1 [], (g0X [g0A 3, g0B 2] 0) :: p0q223f0, [], [], p0q223d0, p0q223m0 [], 0, 0), [], [g0V 0, g0V 1, g0V 2, g0W 5 1, g0V 4])
noncomputable def p0q223r2 (t : List (Int × Int)) : List (Int × Int) := p0q223r1 ((g0R 0 60) :: (g0R 0 8) :: (g0R 0 4) :: (g0R 0 8) :: (g0S 0 19) :: (g0R 0 20) :: t)
noncomputable def p0q223f1 : List (rX) := (g0Z [g0B 11, g0A 0] 0) :: (g0Z [g0B 3, g0A 2] 0) :: p0q223f0
noncomputable def p0q223d2 : List (rD) := (g0d 1 0 (g0C 0) (g0C 0) (g0C 0) m0_ [41]) :: (g0d 1 0 (g0C 0) (g0C 0) (g0C 0) m0_ []) :: p0q223d0
noncomputable def p0q223m1 (t : List (rMm)) : List (rMm) := p0q223m0 ((g0o 0 40 0 3 6) :: (g0n 0 9 6 2 7) :: (g0q 0 10 (g0X [g0P 6 9] 0) (g0C 12) 8) :: (g0q 0 10 (g0X [g0P 6 9] 1) (g0C 4) 9) :: (g0q 0 10 (g0X [g0P 6 9] 1) (g0C 8) 10) :: t)
noncomputable def p0q223m2 (t : List (rMm)) : List (rMm) := p0q223m1 ((g0q 0 10 (g0X [g0P 6 9] 0) (g0C 8) 12) :: (g0o 1 18 0 12 13) :: t)
noncomputable def p0q223l0 (t : List (zLg)) : List (zLg) := (.inl 131, [g0V 3, g0V 6], 1, 0, g0V 6) :: (.inl 222, [g0V 6, g0V 2, g0V 7, g0V 8, g0V 9, g0V 10], 2, 0, g0V 11) :: t
noncomputable def q223a1_1 : zNx := (2, 1, (p0q223r2 [g0R 0 19, g0R 0 19], (g0X [g0A 13, g0B 11] 0) :: p0q223f1, [], [], p0q223d2, p0q223m2 [], 0, 0), p0q223l0 [], [g0V 0, g0V 1, g0V 2, g0W 3 1, g0V 4, g0V 5])
noncomputable def q223a1_2 : zNx := (2, 1, (p0q223r2 [g0R 0 19, g0R 0 19], (g0Z [g0B 13, g0A 11] 0) :: p0q223f1, [], [], (g0d 0 18 (g0C 0) (g0V 12) (g0V 11) 0 []) :: p0q223d2, p0q223m2 [], 0, 0), p0q223l0 [], [g0V 0, g0V 1, g0V 2, g0W 3 1, g0C 1, g0V 5])
noncomputable def q223a1_3 : zNx := (1, 0, (p0q223r2 [], (g0X [g0A 11, g0B 0] 0) :: (g0Z [g0B 3, g0A 2] 0) :: p0q223f0, [], [g0c 0 0 0], p0q223d2, p0q223m1 [], 0, 0), p0q223l0 [], [])
noncomputable def q223a1 : List zNx := [q223a1_0, q223a1_1, q223a1_2, q223a1_3]
noncomputable def p0q223d3 : List (rD) := (g0d 1 0 (g0C 0) (g0C 0) (g0C 0) m131_ [39, 41]) :: []
noncomputable def q223a2_0 : zNx := (1, 0, (p0q223r0 [g0R 0 20, g0R 0 1, g0R 0 20], [g0X [g0A 3, g0B 0] 0, g0X [g0B 3, g0A 0] 0], [], [g0c 0 0 1], p0q223d3, p0q223m0 [g0m 1 1 0 8 5], 0, 0), [], [])
noncomputable def p0q223r3 (t : List (Int × Int)) : List (Int × Int) := p0q223r0 ((g0R 0 20) :: (g0R 0 1) :: (g0R 0 20) :: (g0R 0 19) :: t)
noncomputable def p0q223f2 : List (rX) := (g0Z [g0B 3, g0A 0] 0) :: (g0X [g0B 3, g0A 0] 0) :: []
noncomputable def p0q223d4 : List (rD) := (g0d 1 0 (g0C 0) (g0C 0) (g0C 0) m0_ []) :: p0q223d3
noncomputable def p0q223m3 (t : List (rMm)) : List (rMm) := p0q223m0 ((g0m 1 1 0 8 5) :: (g0o 1 18 0 3 6) :: t)
noncomputable def q223a2_1 : zNx := (2, 2, (p0q223r3 [], (g0Z [g0B 6, g0A 5] 0) :: p0q223f2, [], [], (g0d 0 1 (g0C 0) (g0C 8) (g0V 5) 0 []) :: p0q223d4, p0q223m3 [], 0, 0), [(.inl 101, [g0V 5, g0W 6 1], 1, 0, g0V 5)], [g0V 0, g0V 1, g0V 2, g0W 3 1, g0V 4, g0V 5])
noncomputable def q223a2_2 : zNx := (2, 2, (p0q223r3 [], (g0X [g0A 6, g0B 5] 0) :: p0q223f2, [], [], (g0d 0 1 (g0C 0) (g0C 8) (g0W 6 1) 0 []) :: p0q223d4, p0q223m3 [], 0, 0), [(.inl 101, [g0V 5, g0W 6 1], 1, 0, g0W 6 1)], [g0V 0, g0V 1, g0V 2, g0W 3 1, g0V 4, g0W 6 1])
noncomputable def q223a2 : List zNx := [q223a2_0, q223a2_1, q223a2_2]
noncomputable def q223a : List (List zNx) := [q223a0, q223a1, q223a2]
set_option maxRecDepth 100000 in
theorem zk223_ : zCk 3000 uMx uW uT uJL uAn uBds 223 q223 q223a = true := by decide +kernel
noncomputable def q224_0 : zNx := (1, 0, ([g0R 0 566, g0R 0 3, g0R 0 4, g0S 9223372036854775807 9223372036854775807], [], [], [g0v 1 0 3], [], [g0p 0 43 0 1 2, g0p 0 46 0 1 3], 0, 0), [(.inr .nop, [g0V 2, g0C 1, g0C 0], 0, 0, g0C 0)], [])
noncomputable def q224_1 : zNx := (1, 0, ([g0R 0 566, g0R 0 3, g0R 1 1, g0R 0 7, g0S 9223372036854775807 9223372036854775807], [], [], [g0v 1 0 4], [], [g0p 0 43 0 1 2, g0p 0 44 0 1 3, g0o 0 37 0 3 4], 0, 0), [], [])
noncomputable def q224 : List zNx := [q224_0, q224_1]
noncomputable def q224a : List (List zNx) := []
set_option maxRecDepth 100000 in
theorem zk224_ : zCk 3000 uMx uW uT uJL uAn uBds 224 q224 q224a = true := by decide +kernel
noncomputable def p0q225r0 (t : List (Int × Int)) : List (Int × Int) := (g0R 0 566) :: (g0R 0 1999) :: (g0R 0 4) :: (g0S 0 19) :: t
noncomputable def p0q225m0 (t : List (rMm)) : List (rMm) := (g0n 0 10 0 5 2) :: (g0n 0 10 0 8 3) :: t
noncomputable def q225_0 : zNx := (2, 0, (p0q225r0 [g0R 0 19], [g0X [g0B 4, g0A 3] 0, g0X [g0A 4, g0B 3] 0], [], [], [], p0q225m0 [g0o 0 28 0 1 4], 0, 0), [], [g0V 0, g0V 1, g0V 2, g0V 3, g0C 0])
noncomputable def q225_1 : zNx := (1, 0, (p0q225r0 [g0R 0 19], [], [], [g0c 0 0 0], [], p0q225m0 [g0o 0 28 0 1 4], 0, 0), [(.inr .nop, [g0V 4, g0V 3, g0C 0], 0, 0, g0C 0)], [])
noncomputable def q225 : List zNx := [q225_0, q225_1]
noncomputable def p0q225d0 : List (rD) := (g0d 1 0 (g0C 0) (g0C 0) (g0C 0) m132_ []) :: []
noncomputable def q225a0_0 : zNx := (1, 0, (p0q225r0 [g0R 0 4], [g0X [g0A 4, g0B 2] 0, g0X [g0B 4, g0A 2] 0], [], [g0c 0 0 1], p0q225d0, p0q225m0 [], 0, 0), [], [])
noncomputable def p0q225r1 (t : List (Int × Int)) : List (Int × Int) := p0q225r0 ((g0R 0 4) :: (g0S 9223372036854775807 9223372036854775807) :: t)
noncomputable def p0q225f0 : List (rX) := (g0Z [g0B 4, g0A 2] 0) :: (g0X [g0B 4, g0A 2] 0) :: []
noncomputable def p0q225m1 (t : List (rMm)) : List (rMm) := p0q225m0 ((g0q 0 27 (g0C 0) (g0X [g0A 4, g0P 1 4] 0) 5) :: (g0p 0 43 0 4 6) :: t)
noncomputable def p0q225l0 (t : List (zLg)) : List (zLg) := (.inr .nop, [g0V 6, g0C 2, g0C 0], 0, 0, g0C 0) :: t
noncomputable def q225a0_1 : zNx := (2, 0, (p0q225r1 [g0R 3 3], p0q225f0, [], [], p0q225d0, p0q225m1 [], 0, 0), p0q225l0 [], [g0V 0, g0V 1, g0V 2, g0V 3, g0W 4 1])
noncomputable def p0q225r2 (t : List (Int × Int)) : List (Int × Int) := p0q225r1 ((g0R 0 4) :: (g0S 9223372036854775807 9223372036854775807) :: t)
noncomputable def p0q225d1 : List (rD) := (g0d 1 0 (g0C 0) (g0C 0) (g0C 0) m0_ []) :: p0q225d0
noncomputable def p0q225l1 (t : List (zLg)) : List (zLg) := p0q225l0 ((.inr .nop, [g0V 6, g0C 3, g0C 0], 0, 0, g0C 0) :: (.inl 224, [g0V 0, g0V 4], 1, 0, g0V 7) :: t)
noncomputable def q225a0_2 : zNx := (2, 0, (p0q225r2 [], (g0X [g0B 7, g0A 5] 0) :: (g0X [g0A 7, g0B 5] 0) :: p0q225f0, [], [], p0q225d1, p0q225m1 [], 0, 0), p0q225l1 [], [g0V 0, g0V 1, g0V 2, g0V 3, g0W 4 1])
noncomputable def q225a0_3 : zNx := (1, 0, (p0q225r2 [], p0q225f0, [], [g0c 0 0 0], p0q225d1, p0q225m1 [], 0, 0), p0q225l1 [(.inr .nop, [g0V 7, g0V 5, g0C 0], 0, 0, g0C 0)], [])
noncomputable def q225a0_4 : zNx := (2, 0, (p0q225r1 [g0R 2 2, g0R 0 7], p0q225f0, [], [], (g0d 0 37 (g0C 0) (g0V 7) (g0V 5) 0 []) :: p0q225d0, p0q225m1 [g0p 0 44 0 4 7], 0, 0), [], [g0V 0, g0V 1, g0V 2, g0V 3, g0W 4 1])
noncomputable def q225a0 : List zNx := [q225a0_0, q225a0_1, q225a0_2, q225a0_3, q225a0_4]
noncomputable def q225a : List (List zNx) := [q225a0]
set_option maxRecDepth 100000 in
theorem zk225_ : zCk 3000 uMx uW uT uJL uAn uBds 225 q225 q225a = true := by decide +kernel
noncomputable def p0q226r0 (t : List (Int × Int)) : List (Int × Int) := (g0R 0 566) :: g0I :: (g0R 0 2000) :: (g0S 0 19) :: t
noncomputable def p0q226d0 : List (rD) := (g0d 1 0 (g0C 0) (g0C 0) (g0C 0) m0_ []) :: []
noncomputable def p0q226m0 (t : List (rMm)) : List (rMm) := (g0m 0 4 0 7 2) :: (g0n 0 10 0 8 3) :: (g0n 0 10 0 9 4) :: t
noncomputable def q226_0 : zNx := (1, 0, (p0q226r0 [g0R 0 3, g0S 9223372036854775807 9223372036854775807, g0S 0 1999], [], [], [g0v 0 0 6], (g0d 1 0 (g0C 0) (g0C 0) (g0C 0) m0_ []) :: p0q226d0, p0q226m0 [], 0, 0), [(.inl 224, [g0V 0, g0V 4], 0, 0, g0V 5), (.inl 211, [g0V 3, g0V 4, g0V 5], 1, 0, g0V 6)], [])
noncomputable def q226_1 : zNx := (1, 0, (p0q226r0 [g0T 0 0, g0S 0 2000], [], [], [g0v 0 0 5], p0q226d0, p0q226m0 [], 0, 0), [(.inl 208, [g0V 3, g0V 1, g0V 2], 0, 0, g0V 5)], [])
noncomputable def q226 : List zNx := [q226_0, q226_1]
noncomputable def q226a : List (List zNx) := []
set_option maxRecDepth 100000 in
theorem zk226_ : zCk 3000 uMx uW uT uJL uAn uBds 226 q226 q226a = true := by decide +kernel
noncomputable def p0q227d0 : List (rD) := (g0d 1 0 (g0C 0) (g0C 0) (g0C 0) m0_ []) :: []
noncomputable def q227_0 : zNx := (1, 0, ([g0R 0 566, g0R 0 1999, g0R 0 3, g0S 0 1999], [], [], [g0v 0 0 3], p0q227d0, [g0n 0 10 0 9 2], 0, 0), [(.inl 212, [g0V 1, g0V 2], 0, 0, g0V 3)], [])
noncomputable def q227_1 : zNx := (1, 0, ([g0R 0 566, g0R 0 1999, g0T 0 0, g0S 0 1999], [], [], [g0v 0 0 3], p0q227d0, [g0n 0 10 0 9 2], 0, 0), [(.inl 209, [g0V 1], 0, 0, g0V 3)], [])
noncomputable def q227 : List zNx := [q227_0, q227_1]
noncomputable def q227a : List (List zNx) := []
set_option maxRecDepth 100000 in
theorem zk227_ : zCk 3000 uMx uW uT uJL uAn uBds 227 q227 q227a = true := by decide +kernel
noncomputable def p0q228r0 (t : List (Int × Int)) : List (Int × Int) := (g0R 0 566) :: (g0R 0 2000) :: (g0R 0 2000) :: (g0R 0 4) :: (g0S 0 19) :: (g0S 0 3) :: t
noncomputable def p0q228m0 (t : List (rMm)) : List (rMm) := (g0m 0 4 0 7 1) :: (g0m 0 6 0 11 2) :: (g0n 0 10 0 5 3) :: (g0n 0 10 0 8 4) :: (g0n 0 10 0 9 5) :: t
noncomputable def q228_0 : zNx := (2, 0, (p0q228r0 [g0S 0 2000], [], [], [], [g0d 1 0 (g0C 0) (g0C 0) (g0C 0) m0_ []], p0q228m0 [], 0, 0), [(.inl 226, [g0V 0, g0C 0, g0V 1, g0V 4, g0V 5], 0, 0, g0V 6)], [g0V 0, g0V 1, g0V 2, g0V 3, g0V 4, g0V 5, g0C 0, g0V 6])
noncomputable def q228 : List zNx := [q228_0]
noncomputable def p0q228d0 : List (rD) := (g0d 1 0 (g0C 0) (g0C 0) (g0C 0) m132_ []) :: []
noncomputable def q228a0_0 : zNx := (1, 0, (p0q228r0 [g0R 0 2000, g0T 0 0], [], [], [g0c 0 0 0], p0q228d0, p0q228m0 [], 0, 0), [], [])
noncomputable def q228a0_1 : zNx := (1, 0, (p0q228r0 [g0R 0 2000, g0R 0 2000], [g0X [g0A 7, g0B 2] 0], [], [g0c 0 0 0], p0q228d0, p0q228m0 [], 0, 0), [], [])
noncomputable def q228a0_2 : zNx := (1, 0, (p0q228r0 [g0R 2000 2000, g0R 0 2000], [g0Z [g0B 7, g0A 2] 0], [], [g0c 0 0 0], p0q228d0, p0q228m0 [], 0, 0), [], [])
noncomputable def p0q228d1 : List (rD) := (g0d 1 0 (g0C 0) (g0C 0) (g0C 0) m132_ []) :: p0q228d0
noncomputable def q228a0_3 : zNx := (2, 0, (p0q228r0 [g0R 0 1999, g0R 0 2000, g0S 0 1999], [g0Z [g0B 7, g0A 2] 0], [], [], (g0d 1 0 (g0C 0) (g0C 0) (g0C 0) m0_ []) :: p0q228d1, p0q228m0 [], 0, 0), [(.inl 225, [g0V 0, g0V 7, g0V 3, g0V 4], 1, 0, g0C 0), (.inl 227, [g0V 0, g0V 7, g0V 5], 2, 0, g0V 8)], [g0V 0, g0V 1, g0V 2, g0V 3, g0V 4, g0V 5, g0W 6 1, g0V 8])
noncomputable def q228a0_4 : zNx := (1, 0, (p0q228r0 [g0R 0 1999, g0R 0 2000], [g0Z [g0B 7, g0A 2] 0], [], [g0c 0 0 1], p0q228d1, p0q228m0 [], 0, 0), [(.inl 225, [g0V 0, g0V 7, g0V 3, g0V 4], 1, 0, g0C 1)], [])
noncomputable def q228a0 : List zNx := [q228a0_0, q228a0_1, q228a0_2, q228a0_3, q228a0_4]
noncomputable def q228a : List (List zNx) := [q228a0]
set_option maxRecDepth 100000 in
theorem zk228_ : zCk 3000 uMx uW uT uJL uAn uBds 228 q228 q228a = true := by decide +kernel
noncomputable def p0q229r0 (t : List (Int × Int)) : List (Int × Int) := (g0R 0 566) :: (g0R 5 5) :: (g0S 9223372036854775807 9223372036854775807) :: (g0S 9223372036854775807 9223372036854775807) :: t
noncomputable def p0q229f0 : List (rX) := (g0X [g0A 3, g0B 2] 0) :: (g0X [g0B 3, g0A 2] 0) :: []
noncomputable def p0q229d0 : List (rD) := (g0d 1 0 (g0C 0) (g0C 0) (g0C 0) m0_ []) :: (g0d 1 0 (g0C 0) (g0C 0) (g0C 0) m0_ []) :: []
noncomputable def p0q229l0 (t : List (zLg)) : List (zLg) := (.inl 224, [g0V 0, g0C 0], 0, 0, g0V 2) :: (.inl 224, [g0V 0, g0C 1], 1, 0, g0V 3) :: t
noncomputable def q229_0 : zNx := (1, 0, (p0q229r0 [], p0q229f0, [], [g0c 0 0 0], p0q229d0, [g0n 0 10 0 4 1], 0, 0), p0q229l0 [], [])
noncomputable def p0q229l1 (t : List (zLg)) : List (zLg) := p0q229l0 ((.inr .nop, [g0V 2, g0V 3, g0C 0], 0, 0, g0C 0) :: t)
noncomputable def q229_1 : zNx := (1, 0, (p0q229r0 [], [], [], [g0c 0 0 1], p0q229d0, [g0n 0 10 0 4 1], 0, 0), p0q229l1 [], [])
noncomputable def p0q229r1 (t : List (Int × Int)) : List (Int × Int) := (g0R 0 566) :: (g0R 4 4) :: (g0S 9223372036854775807 9223372036854775807) :: (g0S 9223372036854775807 9223372036854775807) :: t
noncomputable def q229_2 : zNx := (1, 0, (p0q229r1 [], [], [], [g0c 0 0 0], p0q229d0, [g0n 0 10 0 4 1], 0, 0), p0q229l1 [], [])
noncomputable def q229_3 : zNx := (1, 0, (p0q229r1 [], p0q229f0, [], [g0c 0 0 1], p0q229d0, [g0n 0 10 0 4 1], 0, 0), p0q229l0 [], [])
noncomputable def q229 : List zNx := [q229_0, q229_1, q229_2, q229_3]
noncomputable def q229a : List (List zNx) := []
set_option maxRecDepth 100000 in
theorem zk229_ : zCk 3000 uMx uW uT uJL uAn uBds 229 q229 q229a = true := by decide +kernel
noncomputable def p0q230d0 : List (rD) := (g0d 1 0 (g0C 0) (g0C 0) (g0C 0) m0_ []) :: (g0d 1 0 (g0C 0) (g0C 0) (g0C 0) m0_ []) :: (g0d 1 0 (g0C 0) (g0C 0) (g0C 0) m0_ []) :: []
noncomputable def p0q230l0 (t : List (zLg)) : List (zLg) := (.inl 224, [g0V 0, g0C 0], 0, 0, g0V 2) :: (.inl 224, [g0V 0, g0C 1], 1, 0, g0V 3) :: t
noncomputable def q230_0 : zNx := (1, 0, ([g0R 0 566, g0R 3 3, g0R 1099511627776 9223372036854775807, g0S 9223372036854775807 9223372036854775807], [], [], [g0c 0 0 0], p0q230d0, [g0n 0 10 0 4 1], 0, 0), p0q230l0 [(.inl 172, [g0V 2], 2, 0, g0C 0)], [])
noncomputable def p0q230r0 (t : List (Int × Int)) : List (Int × Int) := (g0R 0 566) :: (g0R 3 3) :: (g0S 9223372036854775807 1099511627775) :: t
noncomputable def p0q230d1 : List (rD) := (g0d 1 0 (g0C 0) (g0C 0) (g0C 0) m0_ []) :: p0q230d0
noncomputable def p0q230l1 (t : List (zLg)) : List (zLg) := p0q230l0 ((.inl 172, [g0V 2], 2, 0, g0C 1) :: t)
noncomputable def q230_1 : zNx := (1, 0, (p0q230r0 [g0R 1099511627776 9223372036854775807], [], [], [g0c 0 0 0], p0q230d1, [g0n 0 10 0 4 1], 0, 0), p0q230l1 [(.inl 172, [g0V 3], 3, 0, g0C 0)], [])
noncomputable def p0q230r1 (t : List (Int × Int)) : List (Int × Int) := p0q230r0 ((g0S 9223372036854775807 1099511627775) :: t)
noncomputable def p0q230l2 (t : List (zLg)) : List (zLg) := p0q230l1 ((.inl 172, [g0V 3], 3, 0, g0C 1) :: t)
noncomputable def q230_2 : zNx := (1, 0, (p0q230r1 [], [g0X [g0B 3, g0A 2] 0], [], [g0c 0 0 0], p0q230d1, [g0n 0 10 0 4 1], 0, 0), p0q230l2 [], [])
noncomputable def q230_3 : zNx := (1, 0, (p0q230r1 [], [g0Z [g0A 3, g0B 2] 0], [], [g0c 0 0 1], p0q230d1, [g0n 0 10 0 4 1], 0, 0), p0q230l2 [], [])
noncomputable def q230 : List zNx := [q230_0, q230_1, q230_2, q230_3]
noncomputable def q230a : List (List zNx) := []
set_option maxRecDepth 100000 in
theorem zk230_ : zCk 3000 uMx uW uT uJL uAn uBds 230 q230 q230a = true := by decide +kernel
noncomputable def p0q231d0 : List (rD) := (g0d 1 0 (g0C 0) (g0C 0) (g0C 0) m0_ []) :: (g0d 1 0 (g0C 0) (g0C 0) (g0C 0) m0_ []) :: (g0d 1 0 (g0C 0) (g0C 0) (g0C 0) m0_ []) :: []
noncomputable def p0q231m0 (t : List (rMm)) : List (rMm) := (g0n 0 10 0 4 1) :: (g0n 0 10 0 11 2) :: t
noncomputable def p0q231l0 (t : List (zLg)) : List (zLg) := (.inl 224, [g0V 0, g0C 0], 0, 0, g0V 3) :: (.inl 224, [g0V 0, g0C 1], 1, 0, g0V 4) :: t
noncomputable def q231_0 : zNx := (1, 0, ([g0R 0 566, g0R 6 8, g0R 0 7, g0R 1099511627776 9223372036854775807, g0S 9223372036854775807 9223372036854775807], [], [], [g0c 0 0 0], p0q231d0, p0q231m0 [], 0, 0), p0q231l0 [(.inl 172, [g0V 3], 2, 0, g0C 0)], [])
noncomputable def p0q231d1 : List (rD) := (g0d 1 0 (g0C 0) (g0C 0) (g0C 0) m0_ []) :: p0q231d0
noncomputable def p0q231l1 (t : List (zLg)) : List (zLg) := p0q231l0 ((.inl 172, [g0V 3], 2, 0, g0C 1) :: t)
noncomputable def q231_1 : zNx := (1, 0, ([g0R 0 566, g0R 6 8, g0R 0 7, g0S 9223372036854775807 1099511627775, g0R 1099511627776 9223372036854775807], [], [], [g0c 0 0 0], p0q231d1, p0q231m0 [], 0, 0), p0q231l1 [(.inl 172, [g0V 4], 3, 0, g0C 0)], [])
noncomputable def p0q231r0 (t : List (Int × Int)) : List (Int × Int) := (g0R 0 566) :: (g0R 8 8) :: (g0R 0 7) :: (g0S 9223372036854775807 1099511627775) :: (g0S 9223372036854775807 1099511627775) :: t
noncomputable def p0q231d2 : List (rD) := (g0d 0 37 (g0C 0) (g0V 2) (g0V 5) 0 []) :: p0q231d1
noncomputable def p0q231l2 (t : List (zLg)) : List (zLg) := p0q231l1 ((.inl 172, [g0V 4], 3, 0, g0C 1) :: t)
noncomputable def p0q231l3 (t : List (zLg)) : List (zLg) := p0q231l2 ((.inr .lmul, [g0V 3, g0V 4], 0, 0, g0V 5) :: t)
noncomputable def q231_2 : zNx := (1, 0, (p0q231r0 [g0T 9223372036854775807 100000000], [], [], [g0c 0 0 0], p0q231d2, p0q231m0 [], 0, 0), p0q231l3 [], [])
noncomputable def q231_3 : zNx := (1, 0, (p0q231r0 [g0R 100000001 9223372036854775807], [], [], [g0c 0 0 0], p0q231d2, p0q231m0 [], 0, 0), p0q231l3 [], [])
noncomputable def q231_4 : zNx := (1, 0, (p0q231r0 [g0S 99999999 100000000], [], [], [g0c 0 0 1], p0q231d2, p0q231m0 [], 0, 0), p0q231l3 [], [])
noncomputable def p0q231r1 (t : List (Int × Int)) : List (Int × Int) := (g0R 0 566) :: (g0R 7 7) :: (g0R 0 7) :: (g0S 9223372036854775807 1099511627775) :: (g0S 9223372036854775807 1099511627775) :: t
noncomputable def p0q231l4 (t : List (zLg)) : List (zLg) := p0q231l2 ((.inr .lsub, [g0V 3, g0V 4], 0, 0, g0V 5) :: t)
noncomputable def q231_5 : zNx := (1, 0, (p0q231r1 [g0T 9223372036854775807 100000000], [], [], [g0c 0 0 0], p0q231d2, p0q231m0 [], 0, 0), p0q231l4 [], [])
noncomputable def q231_6 : zNx := (1, 0, (p0q231r1 [g0R 100000001 9223372036854775807], [], [], [g0c 0 0 0], p0q231d2, p0q231m0 [], 0, 0), p0q231l4 [], [])
noncomputable def q231_7 : zNx := (1, 0, (p0q231r1 [g0S 99999999 100000000], [], [], [g0c 0 0 1], p0q231d2, p0q231m0 [], 0, 0), p0q231l4 [], [])
noncomputable def p0q231r2 (t : List (Int × Int)) : List (Int × Int) := (g0R 0 566) :: (g0R 6 6) :: (g0R 0 7) :: (g0S 9223372036854775807 1099511627775) :: (g0S 9223372036854775807 1099511627775) :: t
noncomputable def p0q231l5 (t : List (zLg)) : List (zLg) := p0q231l2 ((.inr .ladd, [g0V 3, g0V 4], 0, 0, g0V 5) :: t)
noncomputable def q231_8 : zNx := (1, 0, (p0q231r2 [g0T 9223372036854775807 100000000], [], [], [g0c 0 0 0], p0q231d2, p0q231m0 [], 0, 0), p0q231l5 [], [])
noncomputable def q231_9 : zNx := (1, 0, (p0q231r2 [g0R 100000001 9223372036854775807], [], [], [g0c 0 0 0], p0q231d2, p0q231m0 [], 0, 0), p0q231l5 [], [])
noncomputable def q231_10 : zNx := (1, 0, (p0q231r2 [g0S 99999999 100000000], [], [], [g0c 0 0 1], p0q231d2, p0q231m0 [], 0, 0), p0q231l5 [], [])
noncomputable def q231 : List zNx := [q231_0, q231_1, q231_2, q231_3, q231_4, q231_5, q231_6, q231_7, q231_8, q231_9, q231_10]
noncomputable def q231a : List (List zNx) := []
set_option maxRecDepth 100000 in
theorem zk231_ : zCk 3000 uMx uW uT uJL uAn uBds 231 q231 q231a = true := by decide +kernel
noncomputable def p0q232d0 : List (rD) := (g0d 0 6 (g0C 0) (g0C 0) (g0W 2 1) 0 []) :: []
noncomputable def p0q232m0 (t : List (rMm)) : List (rMm) := (g0m 0 6 0 0 2) :: (g0n 0 10 0 10 3) :: t
noncomputable def q232_0 : zNx := (1, 0, ([g0R 0 566, g0R 0 1999, g0R 0 49999, g0R 0 7], [], [], [], (g0d 0 38 (g0C 0) (g0V 3) (g0V 1) 0 []) :: p0q232d0, p0q232m0 [], 0, 0), [], [])
noncomputable def q232_1 : zNx := (1, 4, ([g0R 0 566, g0R 0 1999, g0R 50000 50000, g0R 0 7], [], [], [], p0q232d0, p0q232m0 [], 0, 0), [], [])
noncomputable def q232 : List zNx := [q232_0, q232_1]
noncomputable def q232a : List (List zNx) := []
set_option maxRecDepth 100000 in
theorem zk232_ : zCk 3000 uMx uW uT uJL uAn uBds 232 q232 q232a = true := by decide +kernel
noncomputable def p0q233d0 : List (rD) := (g0d 1 0 (g0C 0) (g0C 0) (g0C 0) m0_ []) :: []
noncomputable def p0q233d1 : List (rD) := (g0d 1 0 (g0C 0) (g0C 0) (g0C 0) m125_ []) :: p0q233d0
noncomputable def p0q233l0 (t : List (zLg)) : List (zLg) := (.inl 206, [g0V 0], 0, 0, g0V 4) :: t
noncomputable def q233_0 : zNx := (1, 1, ([g0R 0 19, g0I, g0I, g0R 2000 2000, g0T 0 0], [], [], [], p0q233d1, [g0m 0 4 0 7 3, g0m 2 4 0 7 3], 0, 0), p0q233l0 [(.inl 207, [g0V 0, g0V 1, g0V 2, g0V 3], 1, 0, g0C 0)], [])
noncomputable def q233_1 : zNx := (1, 0, ([g0R 0 19, g0I, g0I, g0R 0 1999, g0T 0 0], [], [], [g0c 0 0 1], p0q233d1, [g0m 0 4 0 7 3, g0r 2 4 (g0C 0) (g0C 7) (g0W 3 1)], 0, 0), p0q233l0 [(.inl 207, [g0V 0, g0V 1, g0V 2, g0V 3], 1, 0, g0C 1)], [])
noncomputable def q233_2 : zNx := (1, 0, ([g0R 0 19, g0I, g0I, g0R 0 2000, g0R 0 1999], [], [], [g0c 0 0 0], p0q233d0, [g0m 0 4 0 7 3], 0, 0), p0q233l0 [], [])
noncomputable def q233 : List zNx := [q233_0, q233_1, q233_2]
noncomputable def q233a : List (List zNx) := []
set_option maxRecDepth 100000 in
theorem zk233_ : zCk 3000 uMx uW uT uJL uAn uBds 233 q233 q233a = true := by decide +kernel
noncomputable def p0q234r0 (t : List (Int × Int)) : List (Int × Int) := (g0R 0 60) :: g0I :: (g0R 0 19) :: (g0R 0 19) :: t
noncomputable def p0q234m0 (t : List (rMm)) : List (rMm) := (g0q 0 10 (g0X [g0P 0 9] 0) (g0C 8) 2) :: (g0o 0 18 0 2 3) :: t
noncomputable def q234_0 : zNx := (1, 0, (p0q234r0 [], [], [], [g0c 0 0 0], [], p0q234m0 [], 0, 0), [(.inr .nop, [g0V 3, g0V 1, g0C 0], 0, 0, g0C 0)], [])
noncomputable def q234_1 : zNx := (1, 0, (p0q234r0 [], [g0X [g0B 3, g0A 1] 0, g0X [g0A 3, g0B 1] 0], [], [g0c 0 0 1], [], p0q234m0 [], 0, 0), [], [])
noncomputable def q234 : List zNx := [q234_0, q234_1]
noncomputable def q234a : List (List zNx) := []
set_option maxRecDepth 100000 in
theorem zk234_ : zCk 3000 uMx uW uT uJL uAn uBds 234 q234 q234a = true := by decide +kernel
noncomputable def p0q235m0 (t : List (rMm)) : List (rMm) := (g0m 0 1 0 9 1) :: (g0m 0 4 0 7 2) :: t
noncomputable def q235_0 : zNx := (2, 0, ([g0I, g0R 0 400, g0R 0 2000], [], [], [], [], p0q235m0 [], 0, 0), [], [g0V 0, g0V 1, g0V 2, g0C 0, g0V 2])
noncomputable def q235 : List zNx := [q235_0]
noncomputable def p0q235r0 (t : List (Int × Int)) : List (Int × Int) := g0I :: (g0R 0 400) :: (g0R 0 2000) :: (g0R 0 400) :: t
noncomputable def p0q235f0 : List (rX) := (g0X [g0B 3, g0A 1] 0) :: (g0X [g0A 4, g0B 2] 0) :: []
noncomputable def p0q235d0 : List (rD) := (g0d 1 0 (g0C 0) (g0C 0) (g0C 0) m134_ []) :: []
noncomputable def q235a0_0 : zNx := (1, 0, (p0q235r0 [g0R 0 2000], (g0X [g0A 3, g0B 1] 0) :: p0q235f0, [], [], p0q235d0, p0q235m0 [g0m 1 4 0 7 4], 0, 0), [], [])
noncomputable def p0q235r1 (t : List (Int × Int)) : List (Int × Int) := p0q235r0 ((g0R 0 2000) :: (g0R 0 19) :: (g0R 0 19) :: t)
noncomputable def p0q235m1 (t : List (rMm)) : List (rMm) := p0q235m0 ((g0m 1 4 0 7 4) :: (g0o 0 19 0 3 5) :: (g0o 0 18 0 5 6) :: t)
noncomputable def q235a0_1 : zNx := (2, 0, (p0q235r1 [], (g0Z [g0B 3, g0A 1] 0) :: p0q235f0, [], [], p0q235d0, p0q235m1 [], 0, 0), [(.inr .nop, [g0V 6, g0V 0, g0C 0], 0, 0, g0C 0)], [g0V 0, g0V 1, g0V 2, g0W 3 1, g0V 4])
noncomputable def p0q235f1 : List (rX) := (g0X [g0B 6, g0A 0] 0) :: (g0X [g0A 6, g0B 0] 0) :: (g0Z [g0B 3, g0A 1] 0) :: p0q235f0
noncomputable def p0q235d1 : List (rD) := (g0d 1 0 (g0C 0) (g0C 0) (g0C 0) m125_ []) :: (g0d 1 0 (g0C 0) (g0C 0) (g0C 0) m139_ []) :: p0q235d0
noncomputable def p0q235l0 (t : List (zLg)) : List (zLg) := (.inr (.invokestatic 74), [g0C 20, g0C 0, g0X [g0P 3 4] 0, g0C 33, g0C 0, g0C 0, g0C 4], 1, 0, g0C 0) :: t
noncomputable def q235a0_2 : zNx := (2, 0, (p0q235r1 [], p0q235f1, [], [], p0q235d1, p0q235m1 [g0m 3 4 0 7 4], 0, 0), p0q235l0 [(.inl 233, [g0V 5, g0C 0, g0D 0, g0V 4], 2, 0, g0C 0)], [g0V 0, g0V 1, g0V 2, g0W 3 1, g0V 4])
noncomputable def q235a0_3 : zNx := (2, 0, (p0q235r0 [g0R 0 1999, g0R 0 19, g0R 0 19], p0q235f1, [], [], p0q235d1, p0q235m1 [g0r 3 4 (g0C 0) (g0C 7) (g0W 4 1)], 0, 0), p0q235l0 [(.inl 233, [g0V 5, g0C 0, g0D 0, g0V 4], 2, 0, g0C 1)], [g0V 0, g0V 1, g0V 2, g0W 3 1, g0W 4 1])
noncomputable def q235a0_4 : zNx := (1, 1, (p0q235r0 [g0R 2000 2000, g0R 0 19, g0R 0 19], p0q235f1, [], [], p0q235d1, p0q235m1 [g0m 3 4 0 7 4], 0, 0), p0q235l0 [(.inl 233, [g0V 5, g0C 0, g0D 0, g0V 4], 2, 1, g0C 0)], [])
noncomputable def q235a0 : List zNx := [q235a0_0, q235a0_1, q235a0_2, q235a0_3, q235a0_4]
noncomputable def q235a : List (List zNx) := [q235a0]
set_option maxRecDepth 100000 in
theorem zk235_ : zCk 3000 uMx uW uT uJL uAn uBds 235 q235 q235a = true := by decide +kernel
noncomputable def q236_0 : zNx := (1, 0, ([g0R 0 2000, g0R 0 50001], [], [], [], [g0d 0 6 (g0C 0) (g0C 0) (g0C 0) 0 [], g0d 1 0 (g0C 0) (g0C 0) (g0C 0) m124_ []], [g0m 0 4 0 7 0, g0m 0 6 0 0 1, g0r 1 4 (g0C 0) (g0C 7) (g0C 0)], 0, 0), [(.inl 202, [g0V 0], 0, 0, g0C 0)], [])
noncomputable def q236 : List zNx := [q236_0]
noncomputable def q236a : List (List zNx) := []
set_option maxRecDepth 100000 in
theorem zk236_ : zCk 3000 uMx uW uT uJL uAn uBds 236 q236 q236a = true := by decide +kernel
noncomputable def p0q237r0 (t : List (Int × Int)) : List (Int × Int) := (g0R 0 566) :: g0I :: (g0R 0 19) :: (g0R 0 2000) :: (g0R 0 2000) :: (g0R 0 3) :: t
noncomputable def p0q237m0 (t : List (rMm)) : List (rMm) := (g0n 0 10 0 8 2) :: (g0m 0 4 0 7 3) :: (g0m 0 5 0 3 4) :: (g0n 0 10 0 13 5) :: t
noncomputable def q237_0 : zNx := (2, 0, (p0q237r0 [], [], [], [], [], p0q237m0 [], 0, 0), [], [g0V 0, g0V 1, g0V 2, g0V 3, g0V 4, g0V 5, g0C 0, g0V 3])
noncomputable def q237 : List zNx := [q237_0]
noncomputable def p0q237f0 : List (rX) := (g0X [g0B 6, g0A 4] 0) :: (g0X [g0A 7, g0B 3] 0) :: []
noncomputable def p0q237d0 : List (rD) := (g0d 1 0 (g0C 0) (g0C 0) (g0C 0) m134_ []) :: []
noncomputable def q237a0_0 : zNx := (1, 0, (p0q237r0 [g0R 0 2000, g0R 0 2000], (g0X [g0A 6, g0B 4] 0) :: p0q237f0, [], [], p0q237d0, p0q237m0 [g0m 1 4 0 7 7], 0, 0), [], [])
noncomputable def p0q237m1 (t : List (rMm)) : List (rMm) := p0q237m0 ((g0m 1 4 0 7 7) :: (g0o 0 36 0 6 8) :: t)
noncomputable def q237a0_1 : zNx := (2, 0, (p0q237r0 [g0R 0 2000, g0R 0 2000, g0R 0 0], (g0Z [g0B 6, g0A 4] 0) :: p0q237f0, [], [], p0q237d0, p0q237m1 [], 0, 0), [], [g0V 0, g0V 1, g0V 2, g0V 3, g0V 4, g0V 5, g0W 6 1, g0V 7])
noncomputable def p0q237d1 : List (rD) := (g0d 1 0 (g0C 0) (g0C 0) (g0C 0) m125_ []) :: (g0d 0 33 (g0C 0) (g0V 5) (g0V 9) 0 []) :: (g0d 1 0 (g0C 0) (g0C 0) (g0C 0) m139_ []) :: p0q237d0
noncomputable def p0q237m2 (t : List (rMm)) : List (rMm) := p0q237m1 ((g0o 0 35 0 6 9) :: (g0m 4 4 0 7 7) :: t)
noncomputable def p0q237l0 (t : List (zLg)) : List (zLg) := (.inr (.invokestatic 74), [g0C 34, g0C 0, g0X [g0P 6 4] 0, g0C 33, g0C 0, g0C 0, g0C 4], 1, 0, g0C 0) :: t
noncomputable def q237a0_2 : zNx := (2, 0, (p0q237r0 [g0R 0 2000, g0R 0 2000, g0R 1 1, g0I], (g0Z [g0B 6, g0A 4] 0) :: p0q237f0, [], [], p0q237d1, p0q237m2 [], 0, 0), p0q237l0 [(.inl 233, [g0V 2, g0C 0, g0V 1, g0V 7], 3, 0, g0C 0)], [g0V 0, g0V 1, g0V 2, g0V 3, g0V 4, g0V 5, g0W 6 1, g0V 7])
noncomputable def q237a0_3 : zNx := (2, 0, (p0q237r0 [g0R 0 2000, g0R 0 1999, g0R 1 1, g0I], (g0Z [g0B 6, g0A 4] 0) :: p0q237f0, [], [], p0q237d1, p0q237m1 [g0o 0 35 0 6 9, g0r 4 4 (g0C 0) (g0C 7) (g0W 7 1)], 0, 0), p0q237l0 [(.inl 233, [g0V 2, g0C 0, g0V 1, g0V 7], 3, 0, g0C 1)], [g0V 0, g0V 1, g0V 2, g0V 3, g0V 4, g0V 5, g0W 6 1, g0W 7 1])
noncomputable def q237a0_4 : zNx := (1, 1, (p0q237r0 [g0R 0 2000, g0R 2000 2000, g0R 1 1, g0I], (g0Z [g0B 6, g0A 4] 0) :: p0q237f0, [], [], p0q237d1, p0q237m2 [], 0, 0), p0q237l0 [(.inl 233, [g0V 2, g0C 0, g0V 1, g0V 7], 3, 1, g0C 0)], [])
noncomputable def q237a0 : List zNx := [q237a0_0, q237a0_1, q237a0_2, q237a0_3, q237a0_4]
noncomputable def q237a : List (List zNx) := [q237a0]
set_option maxRecDepth 100000 in
theorem zk237_ : zCk 3000 uMx uW uT uJL uAn uBds 237 q237 q237a = true := by decide +kernel
noncomputable def q238_0 : zNx := (1, 0, ([g0I, g0R 0 62, g0I, g0R 0 19, g0R 0 4, g0S 0 7, g0I, g0R 0 2, g0I, g0I], [], [], [], [g0d 0 6 (g0C 0) (g0C 13) (g0C 0) 0 [], g0d 0 6 (g0C 0) (g0C 8) (g0V 2) 0 [], g0d 0 6 (g0C 0) (g0C 7) (g0V 1) 0 [], g0d 0 6 (g0C 0) (g0C 10) (g0V 0) 0 [], g0d 0 6 (g0C 0) (g0C 9) (g0C 0) 0 []], [g0q 0 10 (g0X [g0P 1 9] 0) (g0C 8) 3, g0q 0 10 (g0X [g0P 1 9] 0) (g0C 12) 4, g0q 0 10 (g0X [g0P 1 9] 0) (g0C 14) 5, g0m 0 6 0 8 6, g0m 0 6 0 9 7, g0m 0 6 0 10 8, g0m 0 6 0 13 9], 0, 0), [], [])
noncomputable def q238 : List zNx := [q238_0]
noncomputable def q238a : List (List zNx) := []
set_option maxRecDepth 100000 in
theorem zk238_ : zCk 3000 uMx uW uT uJL uAn uBds 238 q238 q238a = true := by decide +kernel
noncomputable def q239_0 : zNx := (1, 0, ([g0I, g0R 0 62, g0I, g0R 0 19, g0R 1 1, g0S 0 7, g0I, g0R 0 2, g0I, g0I], [], [], [], [g0d 0 6 (g0C 0) (g0C 13) (g0C 0) 0 [], g0d 0 6 (g0C 0) (g0C 8) (g0V 2) 0 [], g0d 0 6 (g0C 0) (g0C 7) (g0V 1) 0 [], g0d 0 6 (g0C 0) (g0C 10) (g0V 0) 0 [], g0d 0 6 (g0C 0) (g0C 9) (g0C 1) 0 []], [g0q 0 10 (g0X [g0P 1 9] 0) (g0C 8) 3, g0q 0 10 (g0X [g0P 1 9] 0) (g0C 12) 4, g0q 0 10 (g0X [g0P 1 9] 0) (g0C 14) 5, g0m 0 6 0 8 6, g0m 0 6 0 9 7, g0m 0 6 0 10 8, g0m 0 6 0 13 9], 0, 0), [], [])
noncomputable def q239 : List zNx := [q239_0]
noncomputable def q239a : List (List zNx) := []
set_option maxRecDepth 100000 in
theorem zk239_ : zCk 3000 uMx uW uT uJL uAn uBds 239 q239 q239a = true := by decide +kernel
noncomputable def q240_0 : zNx := (1, 0, ([g0I, g0R 0 62, g0I, g0R 0 19, g0R 1 4, g0R 0 7, g0I, g0R 0 2, g0I, g0I], [], [], [], [g0d 0 6 (g0C 0) (g0C 13) (g0C 0) 0 [], g0d 0 6 (g0C 0) (g0C 8) (g0V 2) 0 [], g0d 0 6 (g0C 0) (g0C 7) (g0V 1) 0 [], g0d 0 6 (g0C 0) (g0C 10) (g0V 0) 0 [], g0d 0 6 (g0C 0) (g0C 9) (g0C 1) 0 []], [g0q 0 10 (g0X [g0P 1 9] 0) (g0C 8) 3, g0q 0 10 (g0X [g0P 1 9] 0) (g0C 12) 4, g0q 0 10 (g0X [g0P 1 9] 0) (g0C 14) 5, g0m 0 6 0 8 6, g0m 0 6 0 9 7, g0m 0 6 0 10 8, g0m 0 6 0 13 9], 0, 0), [], [])
noncomputable def q240 : List zNx := [q240_0]
noncomputable def q240a : List (List zNx) := []
set_option maxRecDepth 100000 in
theorem zk240_ : zCk 3000 uMx uW uT uJL uAn uBds 240 q240 q240a = true := by decide +kernel
noncomputable def q242_0 : zNx := (1, 0, ([g0R 0 2, g0R 100 50000], [], [], [], [g0d 0 8 (g0V 0) (g0C 1) (g0W 1 1) 0 []], [g0n 0 8 0 1 1], 0, 0), [], [])
noncomputable def q242_1 : zNx := (1, 0, ([g0R 0 2, g0R 0 99], [], [], [], [g0d 0 8 (g0V 0) (g0C 1) (g0W 1 1) 0 [], g0d 1 0 (g0C 0) (g0C 0) (g0C 0) mY157_ []], [g0n 0 8 0 1 1], 0, 0), [(.inr (.invokestatic 22), [g0C 37, g0C 0, g0C 0, g0C 41, g0V 0, g0X [g0P 1 8] 0, g0C 8], 0, 0, g0C 0)], [])
noncomputable def q242 : List zNx := [q242_0, q242_1]
noncomputable def q242a : List (List zNx) := []
set_option maxRecDepth 100000 in
theorem zk242_ : zCk 3000 uMx uW uT uJL uAn uBds 242 q242 q242a = true := by decide +kernel
noncomputable def p0q243r0 (t : List (Int × Int)) : List (Int × Int) := (g0R 1 1) :: (g0R 0 62) :: (g0R 0 2000) :: t
noncomputable def p0q243d0 : List (rD) := (g0d 1 0 (g0C 0) (g0C 0) (g0C 0) m128_ []) :: []
noncomputable def p0q243d1 : List (rD) := (g0d 1 0 (g0C 0) (g0C 0) (g0C 0) m129_ []) :: p0q243d0
noncomputable def p0q243m0 (t : List (rMm)) : List (rMm) := (g0m 0 6 0 9 0) :: (g0m 0 6 0 7 1) :: (g0m 0 5 0 3 2) :: (g0q 0 10 (g0X [g0P 1 9] 0) (g0C 12) 3) :: (g0q 0 10 (g0X [g0P 1 9] 0) (g0C 14) 4) :: (g0m 1 5 0 3 6) :: t
noncomputable def p0q243l0 (t : List (zLg)) : List (zLg) := (.inl 216, [g0V 2], 0, 0, g0V 5) :: t
noncomputable def q243_0 : zNx := (1, 0, (p0q243r0 [g0R 4 4, g0R 0 7, g0R 0 1999, g0R 0 2000, g0S 9223372036854775807 9223372036854775807], [g0X [g0A 6, g0B 2] 0], [], [], p0q243d1, p0q243m0 [g0o 0 37 0 4 7], 0, 0), p0q243l0 [(.inl 220, [g0V 5, g0V 7], 1, 0, g0C 0)], [])
noncomputable def q243_1 : zNx := (1, 0, (p0q243r0 [g0R 3 3, g0R 0 7, g0R 0 1999, g0R 0 2000, g0S 9223372036854775807 9223372036854775807], [g0X [g0A 6, g0B 2] 0], [], [], p0q243d1, p0q243m0 [g0o 0 37 0 4 7], 0, 0), p0q243l0 [(.inl 219, [g0V 5, g0V 7], 1, 0, g0C 0)], [])
noncomputable def q243_2 : zNx := (1, 0, (p0q243r0 [g0R 2 2, g0R 0 7, g0R 0 1999, g0R 0 2000, g0S 9223372036854775807 9223372036854775807], [g0X [g0A 6, g0B 2] 0], [], [], p0q243d1, p0q243m0 [g0o 0 37 0 4 7], 0, 0), p0q243l0 [(.inl 218, [g0V 5, g0V 7], 1, 0, g0C 0)], [])
noncomputable def q243_3 : zNx := (1, 0, (p0q243r0 [g0R 1 1, g0S 0 7, g0R 0 1999, g0R 0 2000], [g0X [g0A 6, g0B 2] 0], [], [], p0q243d1, p0q243m0 [], 0, 0), p0q243l0 [(.inl 217, [g0V 5], 1, 0, g0C 0)], [])
noncomputable def q243_4 : zNx := (1, 1, (p0q243r0 [g0R 0 4, g0S 0 7, g0T 0 0, g0R 0 2000], [g0X [g0A 6, g0B 2] 0], [], [], p0q243d0, p0q243m0 [], 0, 0), p0q243l0 [], [])
noncomputable def q243 : List zNx := [q243_0, q243_1, q243_2, q243_3, q243_4]
noncomputable def q243a : List (List zNx) := []
set_option maxRecDepth 100000 in
theorem zk243_ : zCk 3000 uMx uW uT uJL uAn uBds 243 q243 q243a = true := by decide +kernel
noncomputable def p0q244r0 (t : List (Int × Int)) : List (Int × Int) := (g0R 0 50000) :: (g0R 0 1) :: (g0R 0 2) :: (g0R 0 50001) :: (g0R 0 62) :: (g0R 0 2000) :: (g0R 0 2000) :: g0I :: g0I :: (g0R 0 8) :: (g0R 0 4) :: (g0S 0 19) :: (g0R 0 4) :: (g0S 0 7) :: t
noncomputable def p0q244f0 : List (rX) := (g0X [g0B 3, g0N 1 50000, g0A 0] 100002) :: []
noncomputable def p0q244m0 (t : List (rMm)) : List (rMm) := (g0m 0 6 0 0 0) :: (g0m 0 6 0 9 1) :: (g0m 0 6 0 6 2) :: (g0n 0 8 2 1 3) :: (g0m 0 6 0 7 4) :: (g0m 0 4 0 7 5) :: (g0m 0 5 0 3 6) :: (g0m 0 6 0 8 7) :: (g0m 0 6 0 10 8) :: (g0n 0 9 4 3 9) :: (g0q 0 10 (g0X [g0P 4 9] 0) (g0C 5) 10) :: (g0q 0 10 (g0X [g0P 4 9] 0) (g0C 8) 11) :: (g0q 0 10 (g0X [g0P 4 9] 0) (g0C 12) 12) :: (g0q 0 10 (g0X [g0P 4 9] 0) (g0C 14) 13) :: t
noncomputable def q244_0 : zNx := (2, 0, (p0q244r0 [], p0q244f0, [], [], [], p0q244m0 [], 0, 0), [], [g0V 0, g0V 1, g0V 2, g0V 3, g0V 4, g0V 5, g0V 6, g0V 7, g0V 8, g0V 9, g0V 10, g0V 11, g0V 12, g0V 13, g0C 0])
noncomputable def q244_1 : zNx := (1, 0, ([g0R 0 50000, g0R 2 2, g0R 0 2, g0R 0 50001, g0R 0 62, g0R 0 2000, g0R 0 2000, g0I, g0I, g0R 0 8, g0R 0 4, g0S 0 19, g0R 0 4, g0S 0 7], p0q244f0, [], [], [g0d 1 0 (g0C 0) (g0C 0) (g0C 0) m137_ []], p0q244m0 [g0r 1 8 (g0V 2) (g0C 1) (g0W 3 1)], 0, 0), [(.inl 242, [g0V 2, g0V 3], 0, 0, g0C 0)], [])
noncomputable def q244 : List zNx := [q244_0, q244_1]
noncomputable def p0q244r1 (t : List (Int × Int)) : List (Int × Int) := (g0R 0 50000) :: (g0R 0 0) :: (g0R 0 2) :: (g0R 0 50001) :: (g0R 0 62) :: t
noncomputable def p0q244d0 : List (rD) := (g0d 1 0 (g0C 0) (g0C 0) (g0C 0) m139_ i35_) :: []
noncomputable def p0q244d1 : List (rD) := (g0d 1 0 (g0C 0) (g0C 0) (g0C 0) m125_ []) :: p0q244d0
noncomputable def q244a0_0 : zNx := (1, 0, (p0q244r1 [g0R 0 2000, g0R 0 2000, g0I, g0I, g0R 0 8, g0R 0 4, g0R 0 19, g0R 0 4, g0S 0 7, g0R 4 4], p0q244f0, [], [], p0q244d1, p0q244m0 [g0m 2 4 0 7 5], 0, 0), [(.inl 233, [g0V 11, g0V 8, g0V 7, g0V 5], 1, 0, g0C 0)], [])
noncomputable def q244a0_1 : zNx := (1, 0, (p0q244r1 [g0R 0 1999, g0R 0 2000, g0I, g0I, g0R 0 8, g0R 0 4, g0R 0 19, g0R 0 4, g0S 0 7, g0R 4 4], p0q244f0, [], [], (g0d 1 0 (g0C 0) (g0C 0) (g0C 0) mY158_ []) :: (g0d 0 32 (g0C 0) (g0V 5) (g0V 9) 0 []) :: p0q244d1, p0q244m0 [g0r 2 4 (g0C 0) (g0C 7) (g0W 5 1)], 0, 0), [(.inl 233, [g0V 11, g0V 8, g0V 7, g0V 5], 1, 0, g0C 1), (.inr (.invokestatic 74), [g0C 38, g0C 0, g0C 0, g0C 31, g0C 0, g0X [g0P 5 8] 0, g0V 9], 3, 0, g0C 0)], [])
noncomputable def q244a0_2 : zNx := (1, 1, (p0q244r1 [g0R 2000 2000, g0R 0 2000, g0I, g0I, g0R 0 8, g0R 0 4, g0R 0 19, g0R 0 4, g0S 0 7, g0R 4 4], p0q244f0, [], [], p0q244d1, p0q244m0 [g0m 2 4 0 7 5], 0, 0), [(.inl 233, [g0V 11, g0V 8, g0V 7, g0V 5], 1, 1, g0C 0)], [])
noncomputable def p0q244r2 (t : List (Int × Int)) : List (Int × Int) := (g0R 0 50000) :: (g0R 1 1) :: (g0R 0 2) :: (g0R 0 50001) :: (g0R 0 62) :: (g0R 0 2000) :: (g0R 0 2000) :: g0I :: g0I :: (g0R 0 8) :: (g0R 0 4) :: (g0S 0 19) :: t
noncomputable def p0q244d2 : List (rD) := (g0d 1 0 (g0C 0) (g0C 0) (g0C 0) m128_ [45, 46]) :: p0q244d0
noncomputable def q244a0_3 : zNx := (1, 0, (p0q244r2 [g0R 1 4, g0S 0 7, g0R 4 4, g0R 0 2000], (g0X [g0A 15, g0B 6] 0) :: p0q244f0, [], [], p0q244d2, p0q244m0 [g0m 2 5 0 3 15], 0, 0), [(.inl 243, [g0V 1, g0V 4, g0V 6, g0V 12, g0V 13], 1, 0, g0C 0)], [])
noncomputable def q244a0_4 : zNx := (1, 1, (p0q244r2 [g0R 0 4, g0S 0 7, g0R 4 4, g0R 0 2000], (g0X [g0A 15, g0B 6] 0) :: p0q244f0, [], [], p0q244d2, p0q244m0 [g0m 2 5 0 3 15], 0, 0), [(.inl 243, [g0V 1, g0V 4, g0V 6, g0V 12, g0V 13], 1, 1, g0C 0)], [])
noncomputable def q244a0_5 : zNx := (2, 0, (p0q244r0 [g0R 0 3], (g0X [g0A 14, g0B 10] 0) :: p0q244f0, [], [], (g0d 0 33 (g0C 0) (g0V 14) (g0C 0) 0 []) :: p0q244d0, p0q244m0 [], 0, 0), [], [g0V 0, g0V 1, g0V 2, g0V 3, g0V 4, g0V 5, g0V 6, g0V 7, g0V 8, g0V 9, g0V 10, g0V 11, g0V 12, g0V 13, g0W 14 1])
noncomputable def q244a0_6 : zNx := (2, 0, (p0q244r0 [g0R 0 3, g0S 9223372036854775807 9223372036854775807], (g0Z [g0B 14, g0A 10] 0) :: p0q244f0, [], [], (g0d 0 33 (g0C 0) (g0V 14) (g0V 15) 0 []) :: (g0d 1 0 (g0C 0) (g0C 0) (g0C 0) m0_ []) :: p0q244d0, p0q244m0 [], 0, 0), [(.inl 224, [g0X [g0P 4 9] 0, g0V 14], 1, 0, g0V 15)], [g0V 0, g0V 1, g0V 2, g0V 3, g0V 4, g0V 5, g0V 6, g0V 7, g0V 8, g0V 9, g0V 10, g0V 11, g0V 12, g0V 13, g0W 14 1])
noncomputable def q244a0 : List zNx := [q244a0_0, q244a0_1, q244a0_2, q244a0_3, q244a0_4, q244a0_5, q244a0_6]
noncomputable def q244a : List (List zNx) := [q244a0]
set_option maxRecDepth 100000 in
theorem zk244_ : zCk 3000 uMx uW uT uJL uAn uBds 244 q244 q244a = true := by decide +kernel
noncomputable def p0q245d0 : List (rD) := (g0d 1 0 (g0C 0) (g0C 0) (g0C 0) m138_ i35_) :: []
noncomputable def p0q245m0 (t : List (rMm)) : List (rMm) := (g0m 0 6 0 0 0) :: (g0m 0 6 0 9 1) :: (g0m 0 6 0 6 2) :: (g0n 0 8 2 1 3) :: (g0m 0 6 0 7 4) :: (g0m 0 4 0 7 5) :: (g0m 0 5 0 3 6) :: (g0m 0 6 0 8 7) :: (g0m 0 6 0 10 8) :: (g0n 0 9 4 2 9) :: (g0n 0 9 4 3 10) :: (g0q 0 10 (g0X [g0P 4 9] 0) (g0C 5) 11) :: (g0q 0 10 (g0X [g0P 4 9] 0) (g0C 8) 12) :: (g0q 0 10 (g0X [g0P 4 9] 0) (g0C 12) 13) :: (g0q 0 10 (g0X [g0P 4 9] 0) (g0C 14) 14) :: t
noncomputable def q245_0 : zNx := (1, 0, ([g0R 0 50000, g0R 0 2, g0R 0 2, g0R 0 50001, g0R 0 62, g0R 0 2000, g0R 0 2000, g0I, g0I, g0R 0 8, g0R 0 8, g0R 0 4, g0S 0 19, g0R 0 4, g0S 0 7, g0R 0 50001, g0R 0 2000, g0R 0 2000], [g0X [g0B 3, g0N 1 50000, g0A 0] 100002, g0X [g0A 15, g0B 3] 0, g0X [g0A 16, g0B 5] 0, g0X [g0A 17, g0B 6] 0, g0X [g0B 15, g0A 3] 1], [], [], p0q245d0, p0q245m0 [g0n 1 8 2 1 15, g0m 1 4 0 7 16, g0m 1 5 0 3 17], 0, 0), [(.inl 244, [g0V 0, g0V 1, g0V 2, g0V 3, g0V 4, g0V 5, g0V 6, g0V 7, g0V 8, g0V 10, g0V 11, g0V 12, g0V 13, g0V 14], 0, 0, g0C 0)], [])
noncomputable def q245_1 : zNx := (1, 1, ([g0R 0 50000, g0R 0 1, g0R 0 2, g0R 0 50001, g0R 0 62, g0R 0 2000, g0R 0 2000, g0I, g0I, g0R 0 8, g0R 0 8, g0R 0 4, g0S 0 19, g0R 0 4, g0S 0 7, g0R 0 2000], [g0X [g0A 15, g0B 6] 0, g0X [g0B 3, g0N 1 50000, g0A 0] 100002], [], [], p0q245d0, p0q245m0 [g0n 1 8 2 1 3, g0m 1 4 0 7 5, g0m 1 5 0 3 15], 0, 0), [(.inl 244, [g0V 0, g0V 1, g0V 2, g0V 3, g0V 4, g0V 5, g0V 6, g0V 7, g0V 8, g0V 10, g0V 11, g0V 12, g0V 13, g0V 14], 0, 1, g0C 0)], [])
noncomputable def q245 : List zNx := [q245_0, q245_1]
noncomputable def q245a : List (List zNx) := []
set_option maxRecDepth 100000 in
theorem zk245_ : zCk 3000 uMx uW uT uJL uAn uBds 245 q245 q245a = true := by decide +kernel
