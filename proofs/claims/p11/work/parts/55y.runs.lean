/-! ===== runs that are cut ===== -/
noncomputable def p0q159r0 (t : List (Int × Int)) : List (Int × Int) := (g0R 0 60) :: (g0R 0 60) :: (g0R 0 8) :: (g0R 0 2000) :: t
noncomputable def p0q159r1 (t : List (Int × Int)) : List (Int × Int) := p0q159r0 ((g0R 0 2000) :: (g0R 2 2) :: (g0S 0 19) :: (g0R 0 4) :: (g0S 0 7) :: (g0R 0 8) :: (g0R 0 20) :: g0I :: g0I :: g0I :: (g0R 0 8) :: (g0R 0 32) :: (g0R 0 5120) :: t)
noncomputable def p0q159m0 (t : List (rMm)) : List (rMm) := (g0m 0 1 0 10 0) :: (g0o 0 40 0 0 1) :: (g0n 0 9 1 2 2) :: (g0m 0 2 0 6 3) :: (g0m 0 2 0 3 4) :: (g0m 0 2 0 7 5) :: (g0q 0 10 (g0X [g0P 1 9] 0) (g0C 8) 6) :: (g0q 0 10 (g0X [g0P 1 9] 0) (g0C 12) 7) :: (g0q 0 10 (g0X [g0P 1 9] 0) (g0C 14) 8) :: (g0n 0 9 1 3 9) :: (g0m 0 1 0 7 10) :: (g0m 0 2 0 4 11) :: (g0m 0 2 0 5 12) :: (g0m 0 2 0 9 13) :: (g0m 0 2 0 13 14) :: (g0m 0 2 0 16 15) :: (g0m 0 3 0 1 16) :: t
noncomputable def q159_0 : zNx := (2, 0, (p0q159r1 [], [], [], [], [g0d 0 9 (g0V 1) (g0C 3) (g0C 0) 0 [], g0d 0 9 (g0V 1) (g0C 2) (g0C 0) 0 []], p0q159m0 [], 0, 0), [], [g0V 0, g0V 1, g0V 2, g0V 3, g0V 4, g0V 5, g0V 6, g0V 7, g0V 8, g0V 9, g0V 10, g0V 11, g0V 12, g0V 13, g0V 14, g0V 15, g0V 16, g0C 0, g0V 3, g0C 0, g0V 10, g0V 12, g0V 13, g0V 14, g0V 15, g0V 16])
noncomputable def q159 : List zNx := [q159_0]
noncomputable def p0q159r2 (t : List (Int × Int)) : List (Int × Int) := p0q159r1 ((g0R 8 8) :: (g0R 0 2000) :: (g0R 0 8) :: (g0R 0 20) :: g0I :: g0I :: (g0R 0 8) :: (g0R 0 32) :: (g0R 0 5120) :: t)
noncomputable def p0q159f0 : List (rX) := (g0X [g0B 17, g0A 4] 0) :: (g0X [g0A 25, g0B 16] 0) :: (g0X [g0A 24, g0B 15] 0) :: (g0X [g0A 23, g0B 14] 0) :: (g0X [g0A 20, g0B 10] 0) :: (g0X [g0A 18, g0B 3] 0) :: (g0X [g0A 18, g0B 17] 0) :: (g0X [g0B 19, g0A 17] 0) :: []
noncomputable def p0q159d0 : List (rD) := (g0d 1 0 (g0C 0) (g0C 0) (g0C 0) m107_ i32_) :: []
noncomputable def p0q159d1 : List (rD) := (g0d 1 0 (g0C 0) (g0C 0) (g0C 0) m72_ []) :: (g0d 1 0 (g0C 0) (g0C 0) (g0C 0) m77_ []) :: p0q159d0
noncomputable def p0q159m1 (t : List (rMm)) : List (rMm) := p0q159m0 ((g0n 1 9 1 2 17) :: (g0m 1 2 0 6 18) :: (g0q 1 10 (g0X [g0P 1 9] 0) (g0C 8) 6) :: (g0q 1 10 (g0X [g0P 1 9] 0) (g0C 12) 7) :: (g0n 1 9 1 3 19) :: (g0m 1 1 0 7 20) :: (g0m 1 2 0 4 11) :: (g0m 1 2 0 5 21) :: (g0m 1 2 0 9 22) :: (g0m 1 2 0 13 23) :: (g0m 1 2 0 16 24) :: (g0m 1 3 0 1 25) :: t)
noncomputable def q159a0_0 : zNx := (1, 0, (p0q159r2 [g0R 0 2000], (g0X [g0A 26, g0B 18] 0) :: (g0X [g0A 26, g0B 4] 0) :: p0q159f0, [], [g0c 0 0 0], p0q159d1, p0q159m1 [g0m 2 2 0 6 26, g0m 3 2 0 4 26], 0, 0), [(.inl 114, [g0V 18, g0V 4], 1, 0, g0D 0), (.inl 109, [g0V 26, g0V 11], 2, 0, g0C 0)], [])
noncomputable def q159a0_1 : zNx := (1, 0, (p0q159r2 [g0R 0 255, g0R 0 2000], (g0X [g0A 27, g0B 18] 0) :: (g0Z [g0B 27, g0A 4] 0) :: (g0Z [g0B 18, g0A 4] 0) :: p0q159f0, [], [g0c 0 0 0], p0q159d1, p0q159m1 [g0m 2 2 0 6 27, g0m 3 2 0 4 27], 0, 0), [(.inl 114, [g0V 18, g0V 4], 1, 0, g0V 26), (.inl 109, [g0V 27, g0V 11], 2, 0, g0C 0)], [])
noncomputable def p0q159r3 (t : List (Int × Int)) : List (Int × Int) := p0q159r1 ((g0R 0 7) :: (g0R 0 2000) :: (g0R 0 8) :: (g0R 0 20) :: g0I :: g0I :: (g0R 0 8) :: (g0R 0 32) :: (g0R 0 5120) :: (g0R 0 8) :: (g0S 0 7) :: (g0S 0 19) :: (g0R 0 4) :: g0I :: (g0S 0 3) :: (g0R 0 4) :: t)
noncomputable def p0q159d2 : List (rD) := (g0d 1 0 (g0C 0) (g0C 0) (g0C 0) m106_ i32_) :: (g0d 1 0 (g0C 0) (g0C 0) (g0C 0) m0_ []) :: p0q159d0
noncomputable def p0q159m2 (t : List (rMm)) : List (rMm) := p0q159m1 ((g0q 1 10 (g0X [g0A 17, g0P 1 9] 1) (g0C 4) 26) :: (g0q 1 10 (g0X [g0A 17, g0P 1 9] 1) (g0C 11) 27) :: (g0q 1 10 (g0X [g0A 17, g0P 1 9] 1) (g0C 8) 28) :: (g0q 1 10 (g0X [g0A 17, g0P 1 9] 1) (g0C 5) 29) :: (g0q 1 10 (g0X [g0A 17, g0P 1 9] 1) (g0C 7) 30) :: (g0q 1 10 (g0X [g0A 17, g0P 1 9] 1) (g0C 9) 31) :: (g0q 1 10 (g0X [g0A 17, g0P 1 9] 1) (g0C 12) 32) :: (g0m 3 2 0 6 33) :: (g0q 3 10 (g0X [g0A 17, g0P 1 9] 1) (g0C 4) 34) :: t)
noncomputable def p0q159m3 (t : List (rMm)) : List (rMm) := p0q159m2 ((g0q 3 10 (g0X [g0A 17, g0P 1 9] 1) (g0C 11) 35) :: t)
noncomputable def p0q159l0 (t : List (zLg)) : List (zLg) := (.inl 132, [g0V 1, g0V 17], 1, 0, g0X [g0A 17, g0P 1 9] 1) :: t
noncomputable def q159a0_2 : zNx := (1, 0, (p0q159r3 [g0R 0 2000, g0R 0 8, g0S 0 7, g0S 0 19, g0R 0 20, g0I, g0I, g0I, g0R 0 8, g0R 0 32, g0R 0 5120, g0R 0 4, g0I, g0S 0 3, g0R 0 4], (g0X [g0A 33, g0B 18] 0) :: (g0X [g0A 37, g0B 20] 0) :: (g0X [g0A 41, g0B 23] 0) :: (g0X [g0A 42, g0B 24] 0) :: (g0X [g0A 43, g0B 25] 0) :: (g0X [g0B 36, g0A 28] 0) :: (g0X [g0B 47, g0A 32] 0) :: p0q159f0, [], [g0c 0 0 0], p0q159d2, p0q159m3 [g0q 3 10 (g0X [g0A 17, g0P 1 9] 1) (g0C 8) 36, g0q 3 10 (g0X [g0P 1 9] 0) (g0C 8) 6, g0q 3 10 (g0X [g0P 1 9] 0) (g0C 12) 7, g0m 3 1 0 7 37, g0m 3 2 0 4 38, g0m 3 2 0 5 39, g0m 3 2 0 9 40, g0m 3 2 0 13 41, g0m 3 2 0 16 42, g0m 3 3 0 1 43, g0q 3 10 (g0X [g0A 17, g0P 1 9] 1) (g0C 5) 44, g0q 3 10 (g0X [g0A 17, g0P 1 9] 1) (g0C 7) 45, g0q 3 10 (g0X [g0A 17, g0P 1 9] 1) (g0C 9) 46, g0q 3 10 (g0X [g0A 17, g0P 1 9] 1) (g0C 12) 47], 0, 0), p0q159l0 [(.inl 157, [g0V 0, g0V 1, g0V 17, g0V 18, g0V 4, g0V 26, g0V 27, g0V 28, g0V 5, g0V 6, g0V 7, g0V 20, g0V 11, g0V 21, g0V 22, g0V 23, g0V 24, g0V 25, g0V 29, g0V 30, g0V 31, g0V 32], 2, 0, g0C 0)], [])
noncomputable def p0q159r4 (t : List (Int × Int)) : List (Int × Int) := p0q159r3 ((g0R 2 2000) :: (g0R 3 5) :: g0I :: (g0R 0 5120) :: (g0R 1 2) :: (g0R 0 2000) :: t)
noncomputable def p0q159f1 : List (rX) := (g0Z [g0B 38, g0A 33] 0) :: (g0Z [g0A 33, g0B 18] 0) :: (g0X [g0A 36, g0B 25] 0) :: (g0X [g0A 38, g0B 18] 0) :: (g0X [g0B 37, g0A 4] 0) :: (g0Z [g0B 38, g0A 4] 0) :: (g0Z [g0B 18, g0A 4] 0) :: (g0X [g0B 5, g0A 4] 0) :: p0q159f0
noncomputable def p0q159f2 : List (rX) := (g0X [g0A 39, g0B 33] 0) :: (g0X [g0A 39, g0B 4] 0) :: p0q159f1
noncomputable def p0q159d3 : List (rD) := (g0d 0 9 (g0V 1) (g0C 2) (g0W 17 1) 0 []) :: p0q159d2
noncomputable def p0q159d4 : List (rD) := (g0d 1 0 (g0C 0) (g0C 0) (g0C 0) m77_ []) :: p0q159d3
noncomputable def p0q159d5 : List (rD) := (g0d 1 0 (g0C 0) (g0C 0) (g0C 0) m72_ []) :: (g0d 0 2 (g0C 0) (g0C 6) (g0W 39 1) 0 []) :: p0q159d4
noncomputable def p0q159m4 (t : List (rMm)) : List (rMm) := p0q159m2 ((g0q 3 10 (g0X [g0A 17, g0P 1 9] 1) (g0C 11) 27) :: t)
noncomputable def p0q159m5 (t : List (rMm)) : List (rMm) := p0q159m4 ((g0r 3 10 (g0X [g0A 17, g0P 1 9] 1) (g0C 8) (g0D 0)) :: (g0q 3 10 (g0X [g0P 1 9] 0) (g0C 8) 6) :: (g0q 3 10 (g0X [g0P 1 9] 0) (g0C 12) 7) :: (g0m 3 1 0 7 20) :: (g0m 3 2 0 4 11) :: (g0m 3 2 0 5 21) :: (g0m 3 2 0 9 35) :: (g0m 3 2 0 13 23) :: (g0m 3 2 0 16 24) :: (g0m 3 3 0 1 36) :: (g0q 3 10 (g0X [g0A 17, g0P 1 9] 1) (g0C 5) 37) :: (g0q 3 10 (g0X [g0A 17, g0P 1 9] 1) (g0C 7) 38) :: (g0r 3 10 (g0X [g0A 17, g0P 1 9] 1) (g0C 9) (g0D 0)) :: (g0r 3 10 (g0X [g0A 17, g0P 1 9] 1) (g0C 12) (g0C 0)) :: t)
noncomputable def p0q159l1 (t : List (zLg)) : List (zLg) := p0q159l0 ((.inl 157, [g0V 0, g0V 1, g0V 17, g0V 18, g0V 4, g0V 26, g0V 27, g0V 28, g0V 5, g0V 6, g0V 7, g0V 20, g0V 11, g0V 21, g0V 22, g0V 23, g0V 24, g0V 25, g0V 29, g0V 30, g0V 31, g0V 32], 2, 0, g0C 1) :: t)
noncomputable def p0q159l2 (t : List (zLg)) : List (zLg) := p0q159l1 ((.inl 114, [g0V 33, g0V 4], 4, 0, g0D 0) :: t)
noncomputable def p0q159l3 (t : List (zLg)) : List (zLg) := p0q159l2 ((.inl 152, [g0V 11, g0V 24], 6, 0, g0C 0) :: t)
noncomputable def q159a0_3 : zNx := (1, 0, (p0q159r4 [g0R 0 2000, g0I], p0q159f2, [], [g0c 0 0 0], p0q159d5, p0q159m5 [g0m 5 2 0 6 39, g0m 7 2 0 4 40], 0, 0), p0q159l3 [], [])
noncomputable def p0q159l4 (t : List (zLg)) : List (zLg) := p0q159l2 ((.inl 152, [g0V 11, g0V 24], 6, 0, g0C 1) :: t)
noncomputable def q159a0_4 : zNx := (1, 0, (p0q159r4 [g0R 0 2000], p0q159f2, [], [g0c 0 0 1], p0q159d5, p0q159m5 [g0m 5 2 0 6 39, g0m 7 2 0 4 11], 0, 0), p0q159l4 [], [])
noncomputable def p0q159f3 : List (rX) := (g0X [g0A 40, g0B 33] 0) :: (g0Z [g0B 40, g0A 4] 0) :: (g0Z [g0B 33, g0A 4] 0) :: p0q159f1
noncomputable def p0q159l5 (t : List (zLg)) : List (zLg) := p0q159l1 ((.inl 114, [g0V 33, g0V 4], 4, 0, g0V 39) :: t)
noncomputable def q159a0_5 : zNx := (2, 0, (p0q159r4 [g0R 44 44, g0R 0 2000], p0q159f3, [], [], (g0d 0 2 (g0C 0) (g0C 6) (g0W 40 1) 0 []) :: p0q159d4, p0q159m5 [g0m 5 2 0 6 40], 0, 0), p0q159l5 [], [g0V 0, g0V 1, g0V 2, g0V 3, g0V 4, g0V 5, g0V 6, g0V 7, g0V 8, g0V 9, g0V 10, g0V 11, g0V 12, g0V 13, g0V 14, g0V 15, g0V 16, g0W 17 1, g0W 40 1, g0V 19, g0V 20, g0V 21, g0V 35, g0V 23, g0V 24, g0V 36])
noncomputable def p0q159d6 : List (rD) := (g0d 1 0 (g0C 0) (g0C 0) (g0C 0) m72_ []) :: p0q159d4
noncomputable def q159a0_6 : zNx := (1, 0, (p0q159r4 [g0R 0 255, g0R 0 2000], p0q159f3, [], [g0c 0 0 0], p0q159d6, p0q159m5 [g0m 5 2 0 6 40, g0m 6 2 0 4 40], 0, 0), p0q159l5 [(.inr .nop, [g0V 39, g0C 44, g0C 0], 0, 0, g0C 0), (.inl 109, [g0V 40, g0V 11], 5, 0, g0C 0)], [])
noncomputable def p0q159r5 (t : List (Int × Int)) : List (Int × Int) := p0q159r3 ((g0R 4 2000) :: (g0R 6 8) :: (g0R 0 7) :: g0I :: g0I :: (g0R 1 8) :: (g0R 0 5120) :: (g0R 1 2) :: (g0R 0 1999) :: t)
noncomputable def p0q159f4 : List (rX) := (g0Z [g0B 41, g0A 33] 0) :: (g0Z [g0A 33, g0B 18] 0) :: (g0Z [g0A 38, g0B 35] 0) :: (g0X [g0A 38, g0B 23] 0) :: (g0X [g0A 39, g0B 25] 0) :: (g0X [g0A 41, g0B 18] 0) :: (g0X [g0B 40, g0A 4] 0) :: (g0Z [g0B 41, g0A 4] 0) :: (g0Z [g0B 18, g0A 4] 0) :: (g0X [g0B 5, g0A 4] 0) :: (g0X [g0B 31, g0A 4] 0) :: (g0X [g0B 35, g0A 23] 0) :: p0q159f0
noncomputable def p0q159f5 : List (rX) := (g0X [g0A 42, g0B 33] 0) :: (g0X [g0A 42, g0B 4] 0) :: p0q159f4
noncomputable def p0q159d7 : List (rD) := (g0d 1 0 (g0C 0) (g0C 0) (g0C 0) m72_ []) :: (g0d 0 2 (g0C 0) (g0C 6) (g0W 42 1) 0 []) :: p0q159d4
noncomputable def p0q159m6 (t : List (rMm)) : List (rMm) := p0q159m3 ((g0r 3 10 (g0X [g0A 17, g0P 1 9] 1) (g0C 8) (g0D 0)) :: (g0q 3 10 (g0X [g0P 1 9] 0) (g0C 8) 6) :: (g0q 3 10 (g0X [g0P 1 9] 0) (g0C 12) 7) :: (g0m 3 1 0 7 20) :: (g0m 3 2 0 4 11) :: (g0m 3 2 0 5 36) :: (g0m 3 2 0 9 37) :: (g0m 3 2 0 13 38) :: (g0m 3 2 0 16 24) :: (g0m 3 3 0 1 39) :: (g0q 3 10 (g0X [g0A 17, g0P 1 9] 1) (g0C 5) 40) :: (g0q 3 10 (g0X [g0A 17, g0P 1 9] 1) (g0C 7) 41) :: (g0r 3 10 (g0X [g0A 17, g0P 1 9] 1) (g0C 9) (g0D 0)) :: (g0r 3 10 (g0X [g0A 17, g0P 1 9] 1) (g0C 12) (g0C 0)) :: t)
noncomputable def q159a0_7 : zNx := (1, 0, (p0q159r5 [g0R 0 2000, g0I], p0q159f5, [], [g0c 0 0 0], p0q159d7, p0q159m6 [g0m 5 2 0 6 42, g0m 7 2 0 4 43], 0, 0), p0q159l3 [], [])
noncomputable def q159a0_8 : zNx := (1, 0, (p0q159r5 [g0R 0 2000], p0q159f5, [], [g0c 0 0 1], p0q159d7, p0q159m6 [g0m 5 2 0 6 42, g0m 7 2 0 4 11], 0, 0), p0q159l4 [], [])
noncomputable def p0q159f6 : List (rX) := (g0X [g0A 43, g0B 33] 0) :: (g0Z [g0B 43, g0A 4] 0) :: (g0Z [g0B 33, g0A 4] 0) :: p0q159f4
noncomputable def p0q159l6 (t : List (zLg)) : List (zLg) := p0q159l1 ((.inl 114, [g0V 33, g0V 4], 4, 0, g0V 42) :: t)
noncomputable def q159a0_9 : zNx := (2, 0, (p0q159r5 [g0R 44 44, g0R 0 2000], p0q159f6, [], [], (g0d 0 2 (g0C 0) (g0C 6) (g0W 43 1) 0 []) :: p0q159d4, p0q159m6 [g0m 5 2 0 6 43], 0, 0), p0q159l6 [], [g0V 0, g0V 1, g0V 2, g0V 3, g0V 4, g0V 5, g0V 6, g0V 7, g0V 8, g0V 9, g0V 10, g0V 11, g0V 12, g0V 13, g0V 14, g0V 15, g0V 16, g0W 17 1, g0W 43 1, g0V 19, g0V 20, g0V 36, g0V 37, g0V 38, g0V 24, g0V 39])
noncomputable def q159a0_10 : zNx := (1, 0, (p0q159r5 [g0R 0 255, g0R 0 2000], p0q159f6, [], [g0c 0 0 0], p0q159d6, p0q159m6 [g0m 5 2 0 6 43, g0m 6 2 0 4 43], 0, 0), p0q159l6 [(.inr .nop, [g0V 42, g0C 44, g0C 0], 0, 0, g0C 0), (.inl 109, [g0V 43, g0V 11], 5, 0, g0C 0)], [])
noncomputable def p0q159r6 (t : List (Int × Int)) : List (Int × Int) := p0q159r0 ((g0R 2 2000) :: (g0R 2 2) :: (g0S 0 19) :: (g0R 0 4) :: (g0S 0 7) :: (g0R 0 8) :: (g0R 0 20) :: g0I :: g0I :: g0I :: (g0R 0 8) :: (g0R 0 32) :: (g0R 0 5120) :: (g0R 0 7) :: (g0R 0 2000) :: (g0R 0 8) :: (g0R 0 20) :: g0I :: g0I :: (g0R 0 8) :: t)
noncomputable def p0q159r7 (t : List (Int × Int)) : List (Int × Int) := p0q159r6 ((g0R 0 32) :: (g0R 0 5120) :: (g0R 0 8) :: (g0S 0 7) :: (g0S 0 19) :: (g0R 0 4) :: g0I :: (g0S 0 3) :: (g0R 0 4) :: (g0R 3 2000) :: t)
noncomputable def p0q159r8 (t : List (Int × Int)) : List (Int × Int) := p0q159r7 ((g0R 2 2) :: (g0R 0 19) :: (g0R 1 20) :: g0I :: g0I :: (g0R 0 8) :: (g0R 0 32) :: (g0R 0 5120) :: (g0R 1 4) :: (g0R 0 1999) :: (g0S 0 3) :: (g0R 0 0) :: t)
noncomputable def p0q159f7 : List (rX) := (g0Z [g0B 42, g0A 33] 0) :: (g0Z [g0B 43, g0A 33] 0) :: (g0Z [g0B 44, g0A 33] 0) :: (g0Z [g0A 33, g0B 18] 0) :: (g0Z [g0A 36, g0B 35] 0) :: (g0X [g0A 36, g0B 20] 0) :: (g0X [g0A 39, g0B 23] 0) :: (g0X [g0A 40, g0B 24] 0) :: (g0X [g0A 41, g0B 25] 0) :: (g0X [g0A 43, g0B 18] 0) :: (g0X [g0B 33, g0A 4] 0) :: (g0Z [g0B 34, g0A 4] 0) :: (g0Z [g0B 18, g0A 4] 0) :: (g0Z [g0B 5, g0A 4] 0) :: (g0X [g0B 31, g0A 4] 0) :: (g0X [g0B 35, g0A 20] 0) :: p0q159f0
noncomputable def p0q159f8 : List (rX) := (g0X [g0A 46, g0B 33] 0) :: (g0X [g0A 46, g0B 4] 0) :: p0q159f7
noncomputable def p0q159d8 : List (rD) := (g0d 1 0 (g0C 0) (g0C 0) (g0C 0) m72_ []) :: (g0d 0 2 (g0C 0) (g0C 6) (g0W 46 1) 0 []) :: p0q159d4
noncomputable def p0q159m7 (t : List (rMm)) : List (rMm) := p0q159m4 ((g0q 3 10 (g0X [g0A 17, g0P 1 9] 1) (g0C 8) 35) :: (g0q 3 10 (g0X [g0P 1 9] 0) (g0C 8) 6) :: (g0q 3 10 (g0X [g0P 1 9] 0) (g0C 12) 7) :: (g0m 3 1 0 7 36) :: (g0m 3 2 0 4 11) :: (g0m 3 2 0 5 37) :: (g0m 3 2 0 9 38) :: (g0m 3 2 0 13 39) :: (g0m 3 2 0 16 40) :: (g0m 3 3 0 1 41) :: (g0q 3 10 (g0X [g0A 17, g0P 1 9] 1) (g0C 5) 42) :: (g0q 3 10 (g0X [g0A 17, g0P 1 9] 1) (g0C 7) 43) :: (g0q 3 10 (g0X [g0A 17, g0P 1 9] 1) (g0C 9) 44) :: (g0q 3 10 (g0X [g0A 17, g0P 1 9] 1) (g0C 12) 45) :: t)
noncomputable def q159a0_11 : zNx := (1, 0, (p0q159r8 [g0R 0 2000, g0I], p0q159f8, [], [g0c 0 0 0], p0q159d8, p0q159m7 [g0m 5 2 0 6 46, g0m 7 2 0 4 47], 0, 0), p0q159l2 [(.inl 152, [g0V 11, g0V 40], 6, 0, g0C 0)], [])
noncomputable def q159a0_12 : zNx := (1, 0, (p0q159r8 [g0R 0 2000], p0q159f8, [], [g0c 0 0 1], p0q159d8, p0q159m7 [g0m 5 2 0 6 46, g0m 7 2 0 4 11], 0, 0), p0q159l2 [(.inl 152, [g0V 11, g0V 40], 6, 0, g0C 1)], [])
noncomputable def p0q159f9 : List (rX) := (g0X [g0A 47, g0B 33] 0) :: (g0Z [g0B 47, g0A 4] 0) :: (g0Z [g0B 33, g0A 4] 0) :: p0q159f7
noncomputable def p0q159l7 (t : List (zLg)) : List (zLg) := p0q159l1 ((.inl 114, [g0V 33, g0V 4], 4, 0, g0V 46) :: t)
noncomputable def q159a0_13 : zNx := (2, 0, (p0q159r8 [g0R 44 44, g0R 0 2000], p0q159f9, [], [], (g0d 0 2 (g0C 0) (g0C 6) (g0W 47 1) 0 []) :: p0q159d4, p0q159m7 [g0m 5 2 0 6 47], 0, 0), p0q159l7 [], [g0V 0, g0V 1, g0V 2, g0V 3, g0V 4, g0V 5, g0V 6, g0V 7, g0V 8, g0V 9, g0V 10, g0V 11, g0V 12, g0V 13, g0V 14, g0V 15, g0V 16, g0W 17 1, g0W 47 1, g0V 19, g0V 36, g0V 37, g0V 38, g0V 39, g0V 40, g0V 41])
noncomputable def q159a0_14 : zNx := (1, 0, (p0q159r8 [g0R 0 255, g0R 0 2000], p0q159f9, [], [g0c 0 0 0], p0q159d6, p0q159m7 [g0m 5 2 0 6 47, g0m 6 2 0 4 47], 0, 0), p0q159l7 [(.inr .nop, [g0V 46, g0C 44, g0C 0], 0, 0, g0C 0), (.inl 109, [g0V 47, g0V 11], 5, 0, g0C 0)], [])
noncomputable def p0q159r9 (t : List (Int × Int)) : List (Int × Int) := p0q159r7 ((g0R 1 1) :: (g0R 0 19) :: (g0R 1 20) :: g0I :: g0I :: (g0R 0 8) :: (g0R 0 32) :: (g0R 0 5120) :: (g0R 1 4) :: (g0R 0 1999) :: (g0S 0 3) :: (g0R 0 0) :: t)
noncomputable def p0q159d9 : List (rD) := (g0d 1 0 (g0C 0) (g0C 0) (g0C 0) m77_ []) :: (g0d 0 9 (g0V 1) (g0C 3) (g0W 19 1) 0 []) :: (g0d 0 10 (g0X [g0A 17, g0P 1 9] 1) (g0C 10) (g0V 19) 0 []) :: p0q159d3
noncomputable def p0q159d10 : List (rD) := (g0d 1 0 (g0C 0) (g0C 0) (g0C 0) m72_ []) :: (g0d 0 2 (g0C 0) (g0C 6) (g0W 46 1) 0 []) :: p0q159d9
noncomputable def p0q159l8 (t : List (zLg)) : List (zLg) := p0q159l1 ((.inl 114, [g0V 33, g0V 4], 6, 0, g0D 0) :: t)
noncomputable def q159a0_15 : zNx := (1, 0, (p0q159r9 [g0R 0 2000, g0I], p0q159f8, [], [g0c 0 0 0], p0q159d10, p0q159m7 [g0m 7 2 0 6 46, g0m 9 2 0 4 47], 0, 0), p0q159l8 [(.inl 152, [g0V 11, g0V 40], 8, 0, g0C 0)], [])
noncomputable def q159a0_16 : zNx := (1, 0, (p0q159r9 [g0R 0 2000], p0q159f8, [], [g0c 0 0 1], p0q159d10, p0q159m7 [g0m 7 2 0 6 46, g0m 9 2 0 4 11], 0, 0), p0q159l8 [(.inl 152, [g0V 11, g0V 40], 8, 0, g0C 1)], [])
noncomputable def p0q159l9 (t : List (zLg)) : List (zLg) := p0q159l1 ((.inl 114, [g0V 33, g0V 4], 6, 0, g0V 46) :: t)
noncomputable def q159a0_17 : zNx := (2, 0, (p0q159r9 [g0R 44 44, g0R 0 2000], p0q159f9, [], [], (g0d 0 2 (g0C 0) (g0C 6) (g0W 47 1) 0 []) :: p0q159d9, p0q159m7 [g0m 7 2 0 6 47], 0, 0), p0q159l9 [], [g0V 0, g0V 1, g0V 2, g0V 3, g0V 4, g0V 5, g0V 6, g0V 7, g0V 8, g0V 9, g0V 10, g0V 11, g0V 12, g0V 13, g0V 14, g0V 15, g0V 16, g0W 17 1, g0W 47 1, g0W 19 1, g0V 36, g0V 37, g0V 38, g0V 39, g0V 40, g0V 41])
noncomputable def q159a0_18 : zNx := (1, 0, (p0q159r9 [g0R 0 255, g0R 0 2000], p0q159f9, [], [g0c 0 0 0], (g0d 1 0 (g0C 0) (g0C 0) (g0C 0) m72_ []) :: p0q159d9, p0q159m7 [g0m 7 2 0 6 47, g0m 8 2 0 4 47], 0, 0), p0q159l9 [(.inr .nop, [g0V 46, g0C 44, g0C 0], 0, 0, g0C 0), (.inl 109, [g0V 47, g0V 11], 7, 0, g0C 0)], [])
noncomputable def q159a0 : List zNx := [q159a0_0, q159a0_1, q159a0_2, q159a0_3, q159a0_4, q159a0_5, q159a0_6, q159a0_7, q159a0_8, q159a0_9, q159a0_10, q159a0_11, q159a0_12, q159a0_13, q159a0_14, q159a0_15, q159a0_16, q159a0_17, q159a0_18]
noncomputable def q159a : List (List zNx) := [q159a0]
set_option maxRecDepth 100000 in
theorem zk159_0 : zB0 3000 uMx uW uT uJL uAn uBds 159 q159 1 = true := by decide +kernel
set_option maxRecDepth 100000 in
theorem zk159_0n : zBY uMx uW uT uJL uAn uBds 159 0 25 10 = true := by decide +kernel
set_option maxRecDepth 100000 in
theorem zk159_0_0 : zBP 2975 uMx uW uT uJL uAn uBds 159 0 25 q159a0 0 = true := by decide +kernel
set_option maxRecDepth 100000 in
theorem zk159_0_1 : zBP 2975 uMx uW uT uJL uAn uBds 159 0 25 q159a0 1 = true := by decide +kernel
set_option maxRecDepth 100000 in
theorem zk159_0_2 : zBP 2975 uMx uW uT uJL uAn uBds 159 0 25 q159a0 2 = true := by decide +kernel
set_option maxRecDepth 100000 in
theorem zk159_0_3 : zBP 2975 uMx uW uT uJL uAn uBds 159 0 25 q159a0 3 = true := by decide +kernel
set_option maxRecDepth 100000 in
theorem zk159_0_4 : zBP 2975 uMx uW uT uJL uAn uBds 159 0 25 q159a0 4 = true := by decide +kernel
set_option maxRecDepth 100000 in
theorem zk159_0_5 : zBP 2975 uMx uW uT uJL uAn uBds 159 0 25 q159a0 5 = true := by decide +kernel
set_option maxRecDepth 100000 in
theorem zk159_0_6 : zBP 2975 uMx uW uT uJL uAn uBds 159 0 25 q159a0 6 = true := by decide +kernel
set_option maxRecDepth 100000 in
theorem zk159_0_7 : zBP 2975 uMx uW uT uJL uAn uBds 159 0 25 q159a0 7 = true := by decide +kernel
set_option maxRecDepth 100000 in
theorem zk159_0_8 : zBP 2975 uMx uW uT uJL uAn uBds 159 0 25 q159a0 8 = true := by decide +kernel
set_option maxRecDepth 100000 in
theorem zk159_0_9 : zBP 2975 uMx uW uT uJL uAn uBds 159 0 25 q159a0 9 = true := by decide +kernel
theorem zo159 : zOk 3000 uMx uW uT uJL uAn uBds 159 q159 q159a := by
  refine zB_ok zk159_0 (fun k hk I a Bd p e1 e2 e3 e4 => ?_)
  have hk0 : k = 0 := by omega
  subst hk0
  exact zB_run (st := 25) (fuel := 2975) (N := 10) zk159_0n (show ∀ i ∈ [0, 1, 2, 3, 4, 5, 6, 7, 8, 9], _ from List.forall_mem_cons.mpr ⟨zk159_0_0, List.forall_mem_cons.mpr ⟨zk159_0_1, List.forall_mem_cons.mpr ⟨zk159_0_2, List.forall_mem_cons.mpr ⟨zk159_0_3, List.forall_mem_cons.mpr ⟨zk159_0_4, List.forall_mem_cons.mpr ⟨zk159_0_5, List.forall_mem_cons.mpr ⟨zk159_0_6, List.forall_mem_cons.mpr ⟨zk159_0_7, List.forall_mem_cons.mpr ⟨zk159_0_8, List.forall_mem_cons.mpr ⟨zk159_0_9, fun _ h => by cases h⟩⟩⟩⟩⟩⟩⟩⟩⟩⟩) e1 e2 e3 e4
