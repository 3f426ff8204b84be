/-! ===== runs that are cut ===== -/
noncomputable def p0q158r0 (t : List (Int × Int)) : List (Int × Int) := (g0R 0 60) :: (g0R 0 60) :: (g0R 0 8) :: (g0R 0 2000) :: t
noncomputable def p0q158r1 (t : List (Int × Int)) : List (Int × Int) := p0q158r0 ((g0R 0 2000) :: (g0R 0 0) :: (g0S 0 19) :: (g0R 0 4) :: (g0S 0 7) :: (g0R 0 8) :: (g0R 0 20) :: g0I :: g0I :: g0I :: (g0R 0 8) :: (g0R 0 32) :: (g0R 0 5120) :: g0I :: t)
noncomputable def p0q158m0 (t : List (rMm)) : List (rMm) := (g0m 0 1 0 10 0) :: (g0o 0 40 0 0 1) :: (g0n 0 9 1 2 2) :: (g0m 0 2 0 6 3) :: (g0m 0 2 0 3 4) :: (g0m 0 2 0 7 5) :: (g0q 0 10 (g0X [g0P 1 9] 0) (g0C 8) 6) :: (g0q 0 10 (g0X [g0P 1 9] 0) (g0C 12) 7) :: (g0q 0 10 (g0X [g0P 1 9] 0) (g0C 14) 8) :: (g0n 0 9 1 3 9) :: (g0m 0 1 0 7 10) :: (g0m 0 2 0 4 11) :: (g0m 0 2 0 5 12) :: (g0m 0 2 0 9 13) :: (g0m 0 2 0 13 14) :: (g0m 0 2 0 16 15) :: (g0m 0 3 0 1 16) :: (g0q 0 10 (g0X [g0P 1 9] 0) (g0C 15) 17) :: t
noncomputable def q158_0 : zNx := (2, 0, (p0q158r1 [], [], [], [], [g0d 0 9 (g0V 1) (g0C 3) (g0C 0) 0 [], g0d 0 9 (g0V 1) (g0C 2) (g0C 0) 0 []], p0q158m0 [], 0, 0), [], [g0V 0, g0V 1, g0V 2, g0V 3, g0V 4, g0V 5, g0V 6, g0V 7, g0V 8, g0V 9, g0V 10, g0V 11, g0V 12, g0V 13, g0V 14, g0V 15, g0V 16, g0V 17, g0C 0, g0V 3, g0C 0, g0V 10, g0V 12, g0V 13, g0V 14, g0V 15, g0V 16])
noncomputable def q158 : List zNx := [q158_0]
noncomputable def p0q158r2 (t : List (Int × Int)) : List (Int × Int) := p0q158r1 ((g0R 8 8) :: (g0R 0 2000) :: (g0R 0 8) :: (g0R 0 20) :: g0I :: g0I :: (g0R 0 8) :: (g0R 0 32) :: (g0R 0 5120) :: t)
noncomputable def p0q158f0 : List (rX) := (g0X [g0B 18, g0A 4] 0) :: (g0X [g0A 26, g0B 16] 0) :: (g0X [g0A 25, g0B 15] 0) :: (g0X [g0A 24, g0B 14] 0) :: (g0X [g0A 21, g0B 10] 0) :: (g0X [g0A 19, g0B 3] 0) :: (g0X [g0A 19, g0B 18] 0) :: (g0X [g0B 20, g0A 18] 0) :: []
noncomputable def p0q158d0 : List (rD) := (g0d 1 0 (g0C 0) (g0C 0) (g0C 0) m107_ i32_) :: []
noncomputable def p0q158d1 : List (rD) := (g0d 1 0 (g0C 0) (g0C 0) (g0C 0) m72_ []) :: (g0d 1 0 (g0C 0) (g0C 0) (g0C 0) m77_ []) :: p0q158d0
noncomputable def p0q158m1 (t : List (rMm)) : List (rMm) := p0q158m0 ((g0n 1 9 1 2 18) :: (g0m 1 2 0 6 19) :: (g0q 1 10 (g0X [g0P 1 9] 0) (g0C 8) 6) :: (g0q 1 10 (g0X [g0P 1 9] 0) (g0C 12) 7) :: (g0n 1 9 1 3 20) :: (g0m 1 1 0 7 21) :: (g0m 1 2 0 4 11) :: (g0m 1 2 0 5 22) :: (g0m 1 2 0 9 23) :: (g0m 1 2 0 13 24) :: (g0m 1 2 0 16 25) :: (g0m 1 3 0 1 26) :: t)
noncomputable def q158a0_0 : zNx := (1, 0, (p0q158r2 [g0R 0 2000], (g0X [g0A 27, g0B 19] 0) :: (g0X [g0A 27, g0B 4] 0) :: p0q158f0, [], [g0c 0 0 0], p0q158d1, p0q158m1 [g0m 2 2 0 6 27, g0m 3 2 0 4 27], 0, 0), [(.inl 114, [g0V 19, g0V 4], 1, 0, g0D 0), (.inl 109, [g0V 27, g0V 11], 2, 0, g0C 0)], [])
noncomputable def q158a0_1 : zNx := (1, 0, (p0q158r2 [g0R 0 255, g0R 0 2000], (g0X [g0A 28, g0B 19] 0) :: (g0Z [g0B 28, g0A 4] 0) :: (g0Z [g0B 19, g0A 4] 0) :: p0q158f0, [], [g0c 0 0 0], p0q158d1, p0q158m1 [g0m 2 2 0 6 28, g0m 3 2 0 4 28], 0, 0), [(.inl 114, [g0V 19, g0V 4], 1, 0, g0V 27), (.inl 109, [g0V 28, g0V 11], 2, 0, g0C 0)], [])
noncomputable def p0q158r3 (t : List (Int × Int)) : List (Int × Int) := p0q158r1 ((g0R 0 7) :: (g0R 0 2000) :: (g0R 0 8) :: (g0R 0 20) :: g0I :: g0I :: (g0R 0 8) :: (g0R 0 32) :: (g0R 0 5120) :: (g0R 0 8) :: (g0S 0 7) :: (g0S 0 19) :: (g0R 0 4) :: g0I :: (g0S 0 3) :: (g0R 0 4) :: t)
noncomputable def p0q158d2 : List (rD) := (g0d 1 0 (g0C 0) (g0C 0) (g0C 0) m106_ i32_) :: (g0d 1 0 (g0C 0) (g0C 0) (g0C 0) m0_ []) :: p0q158d0
noncomputable def p0q158m2 (t : List (rMm)) : List (rMm) := p0q158m1 ((g0q 1 10 (g0X [g0A 18, g0P 1 9] 1) (g0C 4) 27) :: (g0q 1 10 (g0X [g0A 18, g0P 1 9] 1) (g0C 11) 28) :: (g0q 1 10 (g0X [g0A 18, g0P 1 9] 1) (g0C 8) 29) :: (g0q 1 10 (g0X [g0A 18, g0P 1 9] 1) (g0C 5) 30) :: (g0q 1 10 (g0X [g0A 18, g0P 1 9] 1) (g0C 7) 31) :: (g0q 1 10 (g0X [g0A 18, g0P 1 9] 1) (g0C 9) 32) :: (g0q 1 10 (g0X [g0A 18, g0P 1 9] 1) (g0C 12) 33) :: (g0m 3 2 0 6 34) :: (g0q 3 10 (g0X [g0A 18, g0P 1 9] 1) (g0C 4) 35) :: t)
noncomputable def p0q158m3 (t : List (rMm)) : List (rMm) := p0q158m2 ((g0q 3 10 (g0X [g0A 18, g0P 1 9] 1) (g0C 11) 36) :: t)
noncomputable def p0q158l0 (t : List (zLg)) : List (zLg) := (.inl 132, [g0V 1, g0V 18], 1, 0, g0X [g0A 18, g0P 1 9] 1) :: t
noncomputable def q158a0_2 : zNx := (1, 0, (p0q158r3 [g0R 0 2000, g0R 0 8, g0S 0 7, g0S 0 19, g0R 0 20, g0I, g0I, g0I, g0R 0 8, g0R 0 32, g0R 0 5120, g0R 0 4, g0I, g0S 0 3, g0R 0 4], (g0X [g0A 34, g0B 19] 0) :: (g0X [g0A 38, g0B 21] 0) :: (g0X [g0A 42, g0B 24] 0) :: (g0X [g0A 43, g0B 25] 0) :: (g0X [g0A 44, g0B 26] 0) :: (g0X [g0B 37, g0A 29] 0) :: (g0X [g0B 48, g0A 33] 0) :: p0q158f0, [], [g0c 0 0 0], p0q158d2, p0q158m3 [g0q 3 10 (g0X [g0A 18, g0P 1 9] 1) (g0C 8) 37, g0q 3 10 (g0X [g0P 1 9] 0) (g0C 8) 6, g0q 3 10 (g0X [g0P 1 9] 0) (g0C 12) 7, g0m 3 1 0 7 38, g0m 3 2 0 4 39, g0m 3 2 0 5 40, g0m 3 2 0 9 41, g0m 3 2 0 13 42, g0m 3 2 0 16 43, g0m 3 3 0 1 44, g0q 3 10 (g0X [g0A 18, g0P 1 9] 1) (g0C 5) 45, g0q 3 10 (g0X [g0A 18, g0P 1 9] 1) (g0C 7) 46, g0q 3 10 (g0X [g0A 18, g0P 1 9] 1) (g0C 9) 47, g0q 3 10 (g0X [g0A 18, g0P 1 9] 1) (g0C 12) 48], 0, 0), p0q158l0 [(.inl 157, [g0V 0, g0V 1, g0V 18, g0V 19, g0V 4, g0V 27, g0V 28, g0V 29, g0V 5, g0V 6, g0V 7, g0V 21, g0V 11, g0V 22, g0V 23, g0V 24, g0V 25, g0V 26, g0V 30, g0V 31, g0V 32, g0V 33], 2, 0, g0C 0)], [])
noncomputable def p0q158r4 (t : List (Int × Int)) : List (Int × Int) := p0q158r3 ((g0R 2 2000) :: (g0R 3 5) :: g0I :: (g0R 0 5120) :: (g0R 1 2) :: (g0R 0 2000) :: t)
noncomputable def p0q158f1 : List (rX) := (g0Z [g0B 39, g0A 34] 0) :: (g0Z [g0A 34, g0B 19] 0) :: (g0X [g0A 37, g0B 26] 0) :: (g0X [g0A 39, g0B 19] 0) :: (g0X [g0B 38, g0A 4] 0) :: (g0Z [g0B 39, g0A 4] 0) :: (g0Z [g0B 19, g0A 4] 0) :: p0q158f0
noncomputable def p0q158d3 : List (rD) := (g0d 0 9 (g0V 1) (g0C 2) (g0W 18 1) 0 []) :: p0q158d2
noncomputable def p0q158d4 : List (rD) := (g0d 1 0 (g0C 0) (g0C 0) (g0C 0) m77_ []) :: p0q158d3
noncomputable def p0q158d5 : List (rD) := (g0d 1 0 (g0C 0) (g0C 0) (g0C 0) m72_ []) :: p0q158d4
noncomputable def p0q158m4 (t : List (rMm)) : List (rMm) := p0q158m2 ((g0q 3 10 (g0X [g0A 18, g0P 1 9] 1) (g0C 11) 28) :: t)
noncomputable def p0q158m5 (t : List (rMm)) : List (rMm) := p0q158m4 ((g0r 3 10 (g0X [g0A 18, g0P 1 9] 1) (g0C 8) (g0D 0)) :: (g0q 3 10 (g0X [g0P 1 9] 0) (g0C 8) 6) :: (g0q 3 10 (g0X [g0P 1 9] 0) (g0C 12) 7) :: (g0m 3 1 0 7 21) :: (g0m 3 2 0 4 11) :: (g0m 3 2 0 5 22) :: (g0m 3 2 0 9 36) :: (g0m 3 2 0 13 24) :: (g0m 3 2 0 16 25) :: (g0m 3 3 0 1 37) :: (g0q 3 10 (g0X [g0A 18, g0P 1 9] 1) (g0C 5) 38) :: (g0q 3 10 (g0X [g0A 18, g0P 1 9] 1) (g0C 7) 39) :: (g0r 3 10 (g0X [g0A 18, g0P 1 9] 1) (g0C 9) (g0D 0)) :: (g0r 3 10 (g0X [g0A 18, g0P 1 9] 1) (g0C 12) (g0C 0)) :: t)
noncomputable def p0q158l1 (t : List (zLg)) : List (zLg) := p0q158l0 ((.inl 157, [g0V 0, g0V 1, g0V 18, g0V 19, g0V 4, g0V 27, g0V 28, g0V 29, g0V 5, g0V 6, g0V 7, g0V 21, g0V 11, g0V 22, g0V 23, g0V 24, g0V 25, g0V 26, g0V 30, g0V 31, g0V 32, g0V 33], 2, 0, g0C 1) :: t)
noncomputable def p0q158l2 (t : List (zLg)) : List (zLg) := p0q158l1 ((.inl 114, [g0V 34, g0V 4], 4, 0, g0D 0) :: t)
noncomputable def q158a0_3 : zNx := (1, 0, (p0q158r4 [g0R 0 2000], (g0X [g0A 40, g0B 34] 0) :: (g0X [g0A 40, g0B 4] 0) :: p0q158f1, [], [g0c 0 0 0], p0q158d5, p0q158m5 [g0m 5 2 0 6 40, g0m 6 2 0 4 40], 0, 0), p0q158l2 [(.inl 109, [g0V 40, g0V 11], 5, 0, g0C 0)], [])
noncomputable def p0q158f2 : List (rX) := (g0X [g0A 41, g0B 34] 0) :: (g0Z [g0B 41, g0A 4] 0) :: (g0Z [g0B 34, g0A 4] 0) :: p0q158f1
noncomputable def p0q158d6 : List (rD) := (g0d 0 2 (g0C 0) (g0C 6) (g0W 41 1) 0 []) :: p0q158d4
noncomputable def p0q158l3 (t : List (zLg)) : List (zLg) := p0q158l1 ((.inl 114, [g0V 34, g0V 4], 4, 0, g0V 40) :: t)
noncomputable def p0q158l4 (t : List (zLg)) : List (zLg) := p0q158l3 ((.inr .nop, [g0V 40, g0C 46, g0C 0], 0, 0, g0C 0) :: t)
noncomputable def q158a0_4 : zNx := (2, 0, (p0q158r4 [g0R 44 44, g0R 0 2000], p0q158f2, [], [], p0q158d6, p0q158m5 [g0m 5 2 0 6 41], 0, 0), p0q158l4 [], [g0V 0, g0V 1, g0V 2, g0V 3, g0V 4, g0V 5, g0V 6, g0V 7, g0V 8, g0V 9, g0V 10, g0V 11, g0V 12, g0V 13, g0V 14, g0V 15, g0V 16, g0V 17, g0W 18 1, g0W 41 1, g0V 20, g0V 21, g0V 22, g0V 36, g0V 24, g0V 25, g0V 37])
noncomputable def q158a0_5 : zNx := (1, 0, (p0q158r4 [g0R 0 255, g0R 0 2000], p0q158f2, [], [g0c 0 0 0], p0q158d5, p0q158m5 [g0m 5 2 0 6 41, g0m 6 2 0 4 41], 0, 0), p0q158l4 [(.inr .nop, [g0V 40, g0C 44, g0C 0], 0, 0, g0C 0), (.inl 109, [g0V 41, g0V 11], 5, 0, g0C 0)], [])
noncomputable def p0q158r5 (t : List (Int × Int)) : List (Int × Int) := p0q158r4 ((g0R 46 46) :: (g0R 0 2000) :: (g0R 0 4) :: t)
noncomputable def p0q158d7 : List (rD) := (g0d 1 0 (g0C 0) (g0C 0) (g0C 0) m72_ []) :: p0q158d6
noncomputable def p0q158m6 (t : List (rMm)) : List (rMm) := p0q158m5 ((g0m 5 2 0 6 41) :: (g0q 3 10 (g0X [g0P 1 9] 0) (g0C 5) 42) :: t)
noncomputable def q158a0_6 : zNx := (1, 0, (p0q158r5 [g0I], p0q158f2, [], [g0c 0 0 0], p0q158d7, p0q158m6 [g0m 7 2 0 4 43], 0, 0), p0q158l3 [(.inl 153, [g0X [g0P 1 9] 0, g0V 11, g0V 22, g0V 42, g0V 7, g0V 8, g0V 17], 6, 0, g0C 0)], [])
noncomputable def p0q158d8 : List (rD) := (g0d 1 0 (g0C 0) (g0C 0) (g0C 0) m72_ []) :: p0q158d7
noncomputable def p0q158l5 (t : List (zLg)) : List (zLg) := p0q158l3 ((.inl 153, [g0X [g0P 1 9] 0, g0V 11, g0V 22, g0V 42, g0V 7, g0V 8, g0V 17], 6, 0, g0C 1) :: t)
noncomputable def q158a0_7 : zNx := (1, 0, (p0q158r5 [g0I], p0q158f2, [], [g0c 0 0 0], p0q158d8, p0q158m6 [g0m 7 2 0 4 11, g0m 8 2 0 4 43], 0, 0), p0q158l5 [(.inl 152, [g0V 11, g0V 25], 7, 0, g0C 0)], [])
noncomputable def q158a0_8 : zNx := (1, 0, (p0q158r5 [], p0q158f2, [], [g0c 0 0 1], p0q158d8, p0q158m6 [g0m 7 2 0 4 11, g0m 8 2 0 4 11], 0, 0), p0q158l5 [(.inl 152, [g0V 11, g0V 25], 7, 0, g0C 1)], [])
noncomputable def p0q158r6 (t : List (Int × Int)) : List (Int × Int) := p0q158r3 ((g0R 4 2000) :: (g0R 6 8) :: (g0R 0 7) :: g0I :: g0I :: (g0R 1 8) :: (g0R 0 5120) :: (g0R 1 2) :: (g0R 0 1999) :: t)
noncomputable def p0q158f3 : List (rX) := (g0Z [g0B 42, g0A 34] 0) :: (g0Z [g0A 34, g0B 19] 0) :: (g0Z [g0A 39, g0B 36] 0) :: (g0X [g0A 39, g0B 24] 0) :: (g0X [g0A 40, g0B 26] 0) :: (g0X [g0A 42, g0B 19] 0) :: (g0X [g0B 41, g0A 4] 0) :: (g0Z [g0B 42, g0A 4] 0) :: (g0Z [g0B 19, g0A 4] 0) :: (g0X [g0B 32, g0A 4] 0) :: (g0X [g0B 36, g0A 24] 0) :: p0q158f0
noncomputable def p0q158m7 (t : List (rMm)) : List (rMm) := p0q158m3 ((g0r 3 10 (g0X [g0A 18, g0P 1 9] 1) (g0C 8) (g0D 0)) :: (g0q 3 10 (g0X [g0P 1 9] 0) (g0C 8) 6) :: (g0q 3 10 (g0X [g0P 1 9] 0) (g0C 12) 7) :: (g0m 3 1 0 7 21) :: (g0m 3 2 0 4 11) :: (g0m 3 2 0 5 37) :: (g0m 3 2 0 9 38) :: (g0m 3 2 0 13 39) :: (g0m 3 2 0 16 25) :: (g0m 3 3 0 1 40) :: (g0q 3 10 (g0X [g0A 18, g0P 1 9] 1) (g0C 5) 41) :: (g0q 3 10 (g0X [g0A 18, g0P 1 9] 1) (g0C 7) 42) :: (g0r 3 10 (g0X [g0A 18, g0P 1 9] 1) (g0C 9) (g0D 0)) :: (g0r 3 10 (g0X [g0A 18, g0P 1 9] 1) (g0C 12) (g0C 0)) :: t)
noncomputable def q158a0_9 : zNx := (1, 0, (p0q158r6 [g0R 0 2000], (g0X [g0A 43, g0B 34] 0) :: (g0X [g0A 43, g0B 4] 0) :: p0q158f3, [], [g0c 0 0 0], p0q158d5, p0q158m7 [g0m 5 2 0 6 43, g0m 6 2 0 4 43], 0, 0), p0q158l2 [(.inl 109, [g0V 43, g0V 11], 5, 0, g0C 0)], [])
noncomputable def p0q158f4 : List (rX) := (g0X [g0A 44, g0B 34] 0) :: (g0Z [g0B 44, g0A 4] 0) :: (g0Z [g0B 34, g0A 4] 0) :: p0q158f3
noncomputable def p0q158d9 : List (rD) := (g0d 0 2 (g0C 0) (g0C 6) (g0W 44 1) 0 []) :: p0q158d4
noncomputable def p0q158l6 (t : List (zLg)) : List (zLg) := p0q158l1 ((.inl 114, [g0V 34, g0V 4], 4, 0, g0V 43) :: t)
noncomputable def p0q158l7 (t : List (zLg)) : List (zLg) := p0q158l6 ((.inr .nop, [g0V 43, g0C 46, g0C 0], 0, 0, g0C 0) :: t)
noncomputable def q158a0_10 : zNx := (2, 0, (p0q158r6 [g0R 44 44, g0R 0 2000], p0q158f4, [], [], p0q158d9, p0q158m7 [g0m 5 2 0 6 44], 0, 0), p0q158l7 [], [g0V 0, g0V 1, g0V 2, g0V 3, g0V 4, g0V 5, g0V 6, g0V 7, g0V 8, g0V 9, g0V 10, g0V 11, g0V 12, g0V 13, g0V 14, g0V 15, g0V 16, g0V 17, g0W 18 1, g0W 44 1, g0V 20, g0V 21, g0V 37, g0V 38, g0V 39, g0V 25, g0V 40])
noncomputable def q158a0_11 : zNx := (1, 0, (p0q158r6 [g0R 0 255, g0R 0 2000], p0q158f4, [], [g0c 0 0 0], p0q158d5, p0q158m7 [g0m 5 2 0 6 44, g0m 6 2 0 4 44], 0, 0), p0q158l7 [(.inr .nop, [g0V 43, g0C 44, g0C 0], 0, 0, g0C 0), (.inl 109, [g0V 44, g0V 11], 5, 0, g0C 0)], [])
noncomputable def p0q158r7 (t : List (Int × Int)) : List (Int × Int) := p0q158r6 ((g0R 46 46) :: (g0R 0 2000) :: (g0R 0 4) :: t)
noncomputable def p0q158d10 : List (rD) := (g0d 1 0 (g0C 0) (g0C 0) (g0C 0) m72_ []) :: p0q158d9
noncomputable def p0q158m8 (t : List (rMm)) : List (rMm) := p0q158m7 ((g0m 5 2 0 6 44) :: (g0q 3 10 (g0X [g0P 1 9] 0) (g0C 5) 45) :: t)
noncomputable def q158a0_12 : zNx := (1, 0, (p0q158r7 [g0I], p0q158f4, [], [g0c 0 0 0], p0q158d10, p0q158m8 [g0m 7 2 0 4 46], 0, 0), p0q158l6 [(.inl 153, [g0X [g0P 1 9] 0, g0V 11, g0V 37, g0V 45, g0V 7, g0V 8, g0V 17], 6, 0, g0C 0)], [])
noncomputable def p0q158d11 : List (rD) := (g0d 1 0 (g0C 0) (g0C 0) (g0C 0) m72_ []) :: p0q158d10
noncomputable def p0q158l8 (t : List (zLg)) : List (zLg) := p0q158l6 ((.inl 153, [g0X [g0P 1 9] 0, g0V 11, g0V 37, g0V 45, g0V 7, g0V 8, g0V 17], 6, 0, g0C 1) :: t)
noncomputable def q158a0_13 : zNx := (1, 0, (p0q158r7 [g0I], p0q158f4, [], [g0c 0 0 0], p0q158d11, p0q158m8 [g0m 7 2 0 4 11, g0m 8 2 0 4 46], 0, 0), p0q158l8 [(.inl 152, [g0V 11, g0V 25], 7, 0, g0C 0)], [])
noncomputable def q158a0_14 : zNx := (1, 0, (p0q158r7 [], p0q158f4, [], [g0c 0 0 1], p0q158d11, p0q158m8 [g0m 7 2 0 4 11, g0m 8 2 0 4 11], 0, 0), p0q158l8 [(.inl 152, [g0V 11, g0V 25], 7, 0, g0C 1)], [])
noncomputable def p0q158r8 (t : List (Int × Int)) : List (Int × Int) := p0q158r0 ((g0R 2 2000) :: (g0R 0 0) :: (g0S 0 19) :: (g0R 0 4) :: (g0S 0 7) :: (g0R 0 8) :: (g0R 0 20) :: g0I :: g0I :: g0I :: (g0R 0 8) :: (g0R 0 32) :: (g0R 0 5120) :: g0I :: (g0R 0 7) :: (g0R 0 2000) :: (g0R 0 8) :: (g0R 0 20) :: g0I :: g0I :: t)
noncomputable def p0q158r9 (t : List (Int × Int)) : List (Int × Int) := p0q158r8 ((g0R 0 8) :: (g0R 0 32) :: (g0R 0 5120) :: (g0R 0 8) :: (g0S 0 7) :: (g0S 0 19) :: (g0R 0 4) :: g0I :: (g0S 0 3) :: (g0R 0 4) :: (g0R 3 2000) :: t)
noncomputable def p0q158r10 (t : List (Int × Int)) : List (Int × Int) := p0q158r9 ((g0R 2 2) :: (g0R 0 19) :: (g0R 1 20) :: g0I :: g0I :: (g0R 0 8) :: (g0R 0 32) :: (g0R 0 5120) :: (g0R 1 4) :: (g0R 0 1999) :: (g0S 0 3) :: (g0R 0 0) :: t)
noncomputable def p0q158f5 : List (rX) := (g0Z [g0B 43, g0A 34] 0) :: (g0Z [g0B 44, g0A 34] 0) :: (g0Z [g0B 45, g0A 34] 0) :: (g0Z [g0A 34, g0B 19] 0) :: (g0Z [g0A 37, g0B 36] 0) :: (g0X [g0A 37, g0B 21] 0) :: (g0X [g0A 40, g0B 24] 0) :: (g0X [g0A 41, g0B 25] 0) :: (g0X [g0A 42, g0B 26] 0) :: (g0X [g0A 44, g0B 19] 0) :: (g0X [g0B 34, g0A 4] 0) :: (g0Z [g0B 35, g0A 4] 0) :: (g0Z [g0B 19, g0A 4] 0) :: (g0Z [g0B 5, g0A 4] 0) :: (g0X [g0B 32, g0A 4] 0) :: (g0X [g0B 36, g0A 21] 0) :: p0q158f0
noncomputable def p0q158f6 : List (rX) := (g0X [g0A 47, g0B 34] 0) :: (g0X [g0A 47, g0B 4] 0) :: p0q158f5
noncomputable def p0q158m9 (t : List (rMm)) : List (rMm) := p0q158m4 ((g0q 3 10 (g0X [g0A 18, g0P 1 9] 1) (g0C 8) 36) :: (g0q 3 10 (g0X [g0P 1 9] 0) (g0C 8) 6) :: (g0q 3 10 (g0X [g0P 1 9] 0) (g0C 12) 7) :: (g0m 3 1 0 7 37) :: (g0m 3 2 0 4 11) :: (g0m 3 2 0 5 38) :: (g0m 3 2 0 9 39) :: (g0m 3 2 0 13 40) :: (g0m 3 2 0 16 41) :: (g0m 3 3 0 1 42) :: (g0q 3 10 (g0X [g0A 18, g0P 1 9] 1) (g0C 5) 43) :: (g0q 3 10 (g0X [g0A 18, g0P 1 9] 1) (g0C 7) 44) :: (g0q 3 10 (g0X [g0A 18, g0P 1 9] 1) (g0C 9) 45) :: (g0q 3 10 (g0X [g0A 18, g0P 1 9] 1) (g0C 12) 46) :: t)
noncomputable def q158a0_15 : zNx := (1, 0, (p0q158r10 [g0R 0 2000], p0q158f6, [], [g0c 0 0 0], p0q158d5, p0q158m9 [g0m 5 2 0 6 47, g0m 6 2 0 4 47], 0, 0), p0q158l2 [(.inl 109, [g0V 47, g0V 11], 5, 0, g0C 0)], [])
noncomputable def p0q158f7 : List (rX) := (g0X [g0A 48, g0B 34] 0) :: (g0Z [g0B 48, g0A 4] 0) :: (g0Z [g0B 34, g0A 4] 0) :: p0q158f5
noncomputable def p0q158d12 : List (rD) := (g0d 0 2 (g0C 0) (g0C 6) (g0W 48 1) 0 []) :: p0q158d4
noncomputable def p0q158l9 (t : List (zLg)) : List (zLg) := p0q158l1 ((.inl 114, [g0V 34, g0V 4], 4, 0, g0V 47) :: t)
noncomputable def p0q158l10 (t : List (zLg)) : List (zLg) := p0q158l9 ((.inr .nop, [g0V 47, g0C 46, g0C 0], 0, 0, g0C 0) :: t)
noncomputable def q158a0_16 : zNx := (2, 0, (p0q158r10 [g0R 44 44, g0R 0 2000], p0q158f7, [], [], p0q158d12, p0q158m9 [g0m 5 2 0 6 48], 0, 0), p0q158l10 [], [g0V 0, g0V 1, g0V 2, g0V 3, g0V 4, g0V 5, g0V 6, g0V 7, g0V 8, g0V 9, g0V 10, g0V 11, g0V 12, g0V 13, g0V 14, g0V 15, g0V 16, g0V 17, g0W 18 1, g0W 48 1, g0V 20, g0V 37, g0V 38, g0V 39, g0V 40, g0V 41, g0V 42])
noncomputable def q158a0_17 : zNx := (1, 0, (p0q158r10 [g0R 0 255, g0R 0 2000], p0q158f7, [], [g0c 0 0 0], p0q158d5, p0q158m9 [g0m 5 2 0 6 48, g0m 6 2 0 4 48], 0, 0), p0q158l10 [(.inr .nop, [g0V 47, g0C 44, g0C 0], 0, 0, g0C 0), (.inl 109, [g0V 48, g0V 11], 5, 0, g0C 0)], [])
noncomputable def p0q158r11 (t : List (Int × Int)) : List (Int × Int) := p0q158r10 ((g0R 46 46) :: (g0R 0 2000) :: (g0R 0 4) :: t)
noncomputable def p0q158d13 : List (rD) := (g0d 1 0 (g0C 0) (g0C 0) (g0C 0) m72_ []) :: p0q158d12
noncomputable def p0q158m10 (t : List (rMm)) : List (rMm) := p0q158m9 ((g0m 5 2 0 6 48) :: (g0q 3 10 (g0X [g0P 1 9] 0) (g0C 5) 49) :: t)
noncomputable def q158a0_18 : zNx := (1, 0, (p0q158r11 [g0I], p0q158f7, [], [g0c 0 0 0], p0q158d13, p0q158m10 [g0m 7 2 0 4 50], 0, 0), p0q158l9 [(.inl 153, [g0X [g0P 1 9] 0, g0V 11, g0V 38, g0V 49, g0V 7, g0V 8, g0V 17], 6, 0, g0C 0)], [])
noncomputable def p0q158d14 : List (rD) := (g0d 1 0 (g0C 0) (g0C 0) (g0C 0) m72_ []) :: p0q158d13
noncomputable def p0q158l11 (t : List (zLg)) : List (zLg) := p0q158l9 ((.inl 153, [g0X [g0P 1 9] 0, g0V 11, g0V 38, g0V 49, g0V 7, g0V 8, g0V 17], 6, 0, g0C 1) :: t)
noncomputable def q158a0_19 : zNx := (1, 0, (p0q158r11 [g0I], p0q158f7, [], [g0c 0 0 0], p0q158d14, p0q158m10 [g0m 7 2 0 4 11, g0m 8 2 0 4 50], 0, 0), p0q158l11 [(.inl 152, [g0V 11, g0V 41], 7, 0, g0C 0)], [])
noncomputable def q158a0_20 : zNx := (1, 0, (p0q158r11 [], p0q158f7, [], [g0c 0 0 1], p0q158d14, p0q158m10 [g0m 7 2 0 4 11, g0m 8 2 0 4 11], 0, 0), p0q158l11 [(.inl 152, [g0V 11, g0V 41], 7, 0, g0C 1)], [])
noncomputable def p0q158r12 (t : List (Int × Int)) : List (Int × Int) := p0q158r9 ((g0R 1 1) :: (g0R 0 19) :: (g0R 1 20) :: g0I :: g0I :: (g0R 0 8) :: (g0R 0 32) :: (g0R 0 5120) :: (g0R 1 4) :: (g0R 0 1999) :: (g0S 0 3) :: (g0R 0 0) :: t)
noncomputable def p0q158d15 : List (rD) := (g0d 1 0 (g0C 0) (g0C 0) (g0C 0) m77_ []) :: (g0d 0 9 (g0V 1) (g0C 3) (g0W 20 1) 0 []) :: (g0d 0 10 (g0X [g0A 18, g0P 1 9] 1) (g0C 10) (g0V 20) 0 []) :: p0q158d3
noncomputable def p0q158d16 : List (rD) := (g0d 1 0 (g0C 0) (g0C 0) (g0C 0) m72_ []) :: p0q158d15
noncomputable def q158a0_21 : zNx := (1, 0, (p0q158r12 [g0R 0 2000], p0q158f6, [], [g0c 0 0 0], p0q158d16, p0q158m9 [g0m 7 2 0 6 47, g0m 8 2 0 4 47], 0, 0), p0q158l1 [(.inl 114, [g0V 34, g0V 4], 6, 0, g0D 0), (.inl 109, [g0V 47, g0V 11], 7, 0, g0C 0)], [])
noncomputable def p0q158d17 : List (rD) := (g0d 0 2 (g0C 0) (g0C 6) (g0W 48 1) 0 []) :: p0q158d15
noncomputable def p0q158l12 (t : List (zLg)) : List (zLg) := p0q158l1 ((.inl 114, [g0V 34, g0V 4], 6, 0, g0V 47) :: t)
noncomputable def p0q158l13 (t : List (zLg)) : List (zLg) := p0q158l12 ((.inr .nop, [g0V 47, g0C 46, g0C 0], 0, 0, g0C 0) :: t)
noncomputable def q158a0_22 : zNx := (2, 0, (p0q158r12 [g0R 44 44, g0R 0 2000], p0q158f7, [], [], p0q158d17, p0q158m9 [g0m 7 2 0 6 48], 0, 0), p0q158l13 [], [g0V 0, g0V 1, g0V 2, g0V 3, g0V 4, g0V 5, g0V 6, g0V 7, g0V 8, g0V 9, g0V 10, g0V 11, g0V 12, g0V 13, g0V 14, g0V 15, g0V 16, g0V 17, g0W 18 1, g0W 48 1, g0W 20 1, g0V 37, g0V 38, g0V 39, g0V 40, g0V 41, g0V 42])
noncomputable def q158a0_23 : zNx := (1, 0, (p0q158r12 [g0R 0 255, g0R 0 2000], p0q158f7, [], [g0c 0 0 0], p0q158d16, p0q158m9 [g0m 7 2 0 6 48, g0m 8 2 0 4 48], 0, 0), p0q158l13 [(.inr .nop, [g0V 47, g0C 44, g0C 0], 0, 0, g0C 0), (.inl 109, [g0V 48, g0V 11], 7, 0, g0C 0)], [])
noncomputable def p0q158r13 (t : List (Int × Int)) : List (Int × Int) := p0q158r12 ((g0R 46 46) :: (g0R 0 2000) :: (g0R 0 4) :: t)
noncomputable def p0q158d18 : List (rD) := (g0d 1 0 (g0C 0) (g0C 0) (g0C 0) m72_ []) :: p0q158d17
noncomputable def p0q158m11 (t : List (rMm)) : List (rMm) := p0q158m9 ((g0m 7 2 0 6 48) :: (g0q 3 10 (g0X [g0P 1 9] 0) (g0C 5) 49) :: t)
noncomputable def q158a0_24 : zNx := (1, 0, (p0q158r13 [g0I], p0q158f7, [], [g0c 0 0 0], p0q158d18, p0q158m11 [g0m 9 2 0 4 50], 0, 0), p0q158l12 [(.inl 153, [g0X [g0P 1 9] 0, g0V 11, g0V 38, g0V 49, g0V 7, g0V 8, g0V 17], 8, 0, g0C 0)], [])
noncomputable def p0q158d19 : List (rD) := (g0d 1 0 (g0C 0) (g0C 0) (g0C 0) m72_ []) :: p0q158d18
noncomputable def p0q158l14 (t : List (zLg)) : List (zLg) := p0q158l12 ((.inl 153, [g0X [g0P 1 9] 0, g0V 11, g0V 38, g0V 49, g0V 7, g0V 8, g0V 17], 8, 0, g0C 1) :: t)
noncomputable def q158a0_25 : zNx := (1, 0, (p0q158r13 [g0I], p0q158f7, [], [g0c 0 0 0], p0q158d19, p0q158m11 [g0m 9 2 0 4 11, g0m 10 2 0 4 50], 0, 0), p0q158l14 [(.inl 152, [g0V 11, g0V 41], 9, 0, g0C 0)], [])
noncomputable def q158a0_26 : zNx := (1, 0, (p0q158r13 [], p0q158f7, [], [g0c 0 0 1], p0q158d19, p0q158m11 [g0m 9 2 0 4 11, g0m 10 2 0 4 11], 0, 0), p0q158l14 [(.inl 152, [g0V 11, g0V 41], 9, 0, g0C 1)], [])
noncomputable def q158a0 : List zNx := [q158a0_0, q158a0_1, q158a0_2, q158a0_3, q158a0_4, q158a0_5, q158a0_6, q158a0_7, q158a0_8, q158a0_9, q158a0_10, q158a0_11, q158a0_12, q158a0_13, q158a0_14, q158a0_15, q158a0_16, q158a0_17, q158a0_18, q158a0_19, q158a0_20, q158a0_21, q158a0_22, q158a0_23, q158a0_24, q158a0_25, q158a0_26]
noncomputable def q158a : List (List zNx) := [q158a0]
set_option maxRecDepth 100000 in
theorem zk158_0 : zB0 3000 uMx uW uT uJL uAn uBds 158 q158 1 = true := by decide +kernel
set_option maxRecDepth 100000 in
theorem zk158_0n : zBY uMx uW uT uJL uAn uBds 158 0 25 10 = true := by decide +kernel
set_option maxRecDepth 100000 in
theorem zk158_0_0 : zBP 2975 uMx uW uT uJL uAn uBds 158 0 25 q158a0 0 = true := by decide +kernel
set_option maxRecDepth 100000 in
theorem zk158_0_1 : zBP 2975 uMx uW uT uJL uAn uBds 158 0 25 q158a0 1 = true := by decide +kernel
set_option maxRecDepth 100000 in
theorem zk158_0_2 : zBP 2975 uMx uW uT uJL uAn uBds 158 0 25 q158a0 2 = true := by decide +kernel
set_option maxRecDepth 100000 in
theorem zk158_0_3 : zBP 2975 uMx uW uT uJL uAn uBds 158 0 25 q158a0 3 = true := by decide +kernel
set_option maxRecDepth 100000 in
theorem zk158_0_4 : zBP 2975 uMx uW uT uJL uAn uBds 158 0 25 q158a0 4 = true := by decide +kernel
set_option maxRecDepth 100000 in
theorem zk158_0_5 : zBP 2975 uMx uW uT uJL uAn uBds 158 0 25 q158a0 5 = true := by decide +kernel
set_option maxRecDepth 100000 in
theorem zk158_0_6 : zBP 2975 uMx uW uT uJL uAn uBds 158 0 25 q158a0 6 = true := by decide +kernel
set_option maxRecDepth 100000 in
theorem zk158_0_7 : zBP 2975 uMx uW uT uJL uAn uBds 158 0 25 q158a0 7 = true := by decide +kernel
set_option maxRecDepth 100000 in
theorem zk158_0_8 : zBP 2975 uMx uW uT uJL uAn uBds 158 0 25 q158a0 8 = true := by decide +kernel
set_option maxRecDepth 100000 in
theorem zk158_0_9 : zBP 2975 uMx uW uT uJL uAn uBds 158 0 25 q158a0 9 = true := by decide +kernel
theorem zo158 : zOk 3000 uMx uW uT uJL uAn uBds 158 q158 q158a := by
  refine zB_ok zk158_0 (fun k hk I a Bd p e1 e2 e3 e4 => ?_)
  have hk0 : k = 0 := by omega
  subst hk0
  exact zB_run (st := 25) (fuel := 2975) (N := 10) zk158_0n (show ∀ i ∈ [0, 1, 2, 3, 4, 5, 6, 7, 8, 9], _ from List.forall_mem_cons.mpr ⟨zk158_0_0, List.forall_mem_cons.mpr ⟨zk158_0_1, List.forall_mem_cons.mpr ⟨zk158_0_2, List.forall_mem_cons.mpr ⟨zk158_0_3, List.forall_mem_cons.mpr ⟨zk158_0_4, List.forall_mem_cons.mpr ⟨zk158_0_5, List.forall_mem_cons.mpr ⟨zk158_0_6, List.forall_mem_cons.mpr ⟨zk158_0_7, List.forall_mem_cons.mpr ⟨zk158_0_8, List.forall_mem_cons.mpr ⟨zk158_0_9, fun _ h => by cases h⟩⟩⟩⟩⟩⟩⟩⟩⟩⟩) e1 e2 e3 e4
