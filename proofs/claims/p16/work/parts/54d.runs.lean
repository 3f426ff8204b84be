/-! ===== runs of cases ===== -/
noncomputable def p0q266r0 (t : List (Int × Int)) : List (Int × Int) := (g0R 0 60) :: (g0R 0 60) :: (g0R 0 8) :: (g0R 0 2001) :: t
noncomputable def p0q266r1 (t : List (Int × Int)) : List (Int × Int) := p0q266r0 ((g0R 0 2000) :: (g0R 0 2) :: g0I :: (g0R 0 20) :: g0I :: g0I :: g0I :: (g0R 0 8) :: (g0R 0 32) :: (g0R 0 5120) :: (g0R 0 2000) :: (g0R 0 2000) :: (g0R 0 50001) :: g0I :: (g0R 0 2) :: g0I :: (g0R 0 2000) :: (g0R 0 2000) :: g0I :: (g0R 0 8) :: t)
noncomputable def p0q266r2 (t : List (Int × Int)) : List (Int × Int) := p0q266r1 ((g0S 0 19) :: (g0R 0 4) :: (g0S 0 7) :: t)
noncomputable def p0q266d0 : List (rD) := (g0d 1 0 (g0C 0) (g0C 0) (g0C 0) m75_ []) :: (g0d 1 0 (g0C 0) (g0C 0) (g0C 0) m107_ i32_) :: (g0d 1 0 (g0C 0) (g0C 0) (g0C 0) m74_ []) :: (g0d 1 0 (g0C 0) (g0C 0) (g0C 0) m0_ []) :: []
noncomputable def p0q266m0 (t : List (rMm)) : List (rMm) := (g0m 0 1 0 10 0) :: (g0o 0 40 0 0 1) :: (g0n 0 9 1 2 2) :: (g0m 0 2 0 6 3) :: (g0m 0 2 0 3 4) :: (g0m 0 2 0 7 5) :: (g0m 0 0 0 8 6) :: (g0m 0 1 0 7 7) :: (g0m 0 2 0 4 8) :: (g0m 0 2 0 5 9) :: (g0m 0 2 0 9 10) :: (g0m 0 2 0 13 11) :: (g0m 0 2 0 16 12) :: (g0m 0 3 0 1 13) :: (g0m 0 4 0 7 14) :: (g0m 0 5 0 3 15) :: (g0m 0 6 0 0 16) :: (g0m 0 6 0 8 17) :: (g0m 0 6 0 9 18) :: (g0m 0 6 0 10 19) :: t
noncomputable def p0q266m1 (t : List (rMm)) : List (rMm) := p0q266m0 ((g0m 0 6 0 11 20) :: (g0m 0 6 0 12 21) :: (g0m 0 6 0 13 22) :: (g0n 0 9 1 3 23) :: (g0q 0 10 (g0X [g0P 1 9] 0) (g0C 8) 24) :: (g0q 0 10 (g0X [g0P 1 9] 0) (g0C 12) 25) :: (g0q 0 10 (g0X [g0P 1 9] 0) (g0C 14) 26) :: (g0m 0 0 0 7 27) :: t)
noncomputable def p0q266m2 (t : List (rMm)) : List (rMm) := p0q266m1 ((g0r 2 2 (g0C 0) (g0C 5) (g0C 0)) :: (g0r 2 2 (g0C 0) (g0C 6) (g0C 0)) :: (g0r 2 2 (g0C 0) (g0C 7) (g0C 2)) :: (g0r 2 2 (g0C 0) (g0C 13) (g0C 0)) :: (g0r 2 2 (g0C 0) (g0C 16) (g0C 0)) :: (g0n 3 9 1 2 28) :: (g0m 3 2 0 6 29) :: (g0q 3 10 (g0X [g0P 1 9] 0) (g0C 8) 24) :: (g0q 3 10 (g0X [g0P 1 9] 0) (g0C 12) 25) :: (g0n 3 9 1 3 30) :: (g0m 3 1 0 7 31) :: t)
noncomputable def p0q266l0 (t : List (zLg)) : List (zLg) := (.inl 131, [g0V 0, g0V 1], 0, 0, g0V 1) :: (.inl 111, [g0C 2, g0V 9, g0V 3, g0V 5, g0V 11, g0V 12], 1, 0, g0C 0) :: t
noncomputable def q266_0 : zNx := (1, 0, (p0q266r2 [g0R 1 1, g0R 0 8, g0R 0 2001, g0R 0 8, g0R 0 20, g0I, g0I, g0I, g0R 0 8, g0R 0 32, g0R 0 5120], [g0X [g0B 30, g0A 28] 0, g0X [g0A 29, g0B 28] 0, g0X [g0A 31, g0B 7] 0, g0X [g0A 37, g0B 13] 0, g0X [g0B 28, g0A 4] 0], [], [g0w 0 0 (g0Z [g0B 32] 0)], p0q266d0, p0q266m2 [g0m 3 2 0 4 32, g0m 3 2 0 5 33, g0m 3 2 0 9 34, g0m 3 2 0 13 35, g0m 3 2 0 16 36, g0m 3 3 0 1 37, g0r 4 2 (g0C 0) (g0C 3) (g0C 0)], 0, 0), p0q266l0 [(.inl 159, [g0V 0, g0V 1, g0V 2, g0C 0, g0V 4, g0C 2, g0V 24, g0V 25, g0V 26, g0V 23, g0V 7, g0V 8, g0C 0, g0V 10, g0C 0, g0C 0, g0V 13], 2, 0, g0C 0), (.inl 112, [g0V 4], 3, 0, g0C 0)], [])
noncomputable def p0q266r3 (t : List (Int × Int)) : List (Int × Int) := p0q266r0 ((g0R 1 2000) :: (g0R 0 2) :: g0I :: (g0R 0 20) :: g0I :: g0I :: g0I :: (g0R 0 8) :: (g0R 0 32) :: (g0R 0 5120) :: (g0R 0 2000) :: (g0R 0 2000) :: (g0R 0 50001) :: g0I :: (g0R 0 2) :: g0I :: (g0R 0 2000) :: (g0R 0 2000) :: g0I :: (g0R 0 8) :: t)
noncomputable def p0q266r4 (t : List (Int × Int)) : List (Int × Int) := p0q266r3 ((g0S 0 19) :: (g0R 0 4) :: (g0S 0 7) :: (g0R 1 1) :: (g0R 1 8) :: (g0R 3 2001) :: (g0R 0 8) :: (g0R 0 20) :: g0I :: g0I :: (g0R 0 8) :: (g0R 0 32) :: (g0R 0 5120) :: (g0R 0 2) :: (g0R 0 50001) :: g0I :: (g0R 0 50001) :: t)
noncomputable def p0q266f0 : List (rX) := (g0X [g0A 42, g0B 14] 0) :: (g0X [g0A 43, g0B 15] 0) :: (g0X [g0B 30, g0A 28] 0) :: (g0Z [g0A 29, g0B 4] 0) :: (g0X [g0A 31, g0B 7] 0) :: (g0X [g0A 36, g0B 13] 0) :: (g0X [g0B 28, g0A 4] 0) :: []
noncomputable def p0q266d1 : List (rD) := (g0d 1 0 (g0C 0) (g0C 0) (g0C 0) m141_ i34_) :: (g0d 0 8 (g0V 37) (g0C 2) (g0V 32) 0 []) :: (g0d 1 0 (g0C 0) (g0C 0) (g0C 0) m110_ []) :: p0q266d0
noncomputable def p0q266m3 (t : List (rMm)) : List (rMm) := p0q266m2 ((g0m 3 2 0 4 8) :: (g0m 3 2 0 5 32) :: (g0m 3 2 0 9 33) :: (g0m 3 2 0 13 34) :: (g0m 3 2 0 16 35) :: (g0m 3 3 0 1 36) :: (g0r 4 2 (g0C 0) (g0C 3) (g0C 0)) :: (g0m 0 0 0 6 37) :: (g0n 0 8 37 1 38) :: (g0n 0 8 37 2 39) :: (g0r 5 8 (g0V 37) (g0C 1) (g0C 0)) :: (g0r 5 8 (g0V 37) (g0C 2) (g0C 0)) :: (g0n 7 8 37 1 40) :: (g0m 7 6 0 0 41) :: (g0m 7 4 0 7 42) :: (g0m 7 5 0 3 43) :: (g0r 7 6 (g0C 0) (g0C 8) (g0D 0)) :: (g0r 7 6 (g0C 0) (g0C 9) (g0C 2)) :: (g0r 7 6 (g0C 0) (g0C 10) (g0C 0)) :: (g0m 7 6 0 11 14) :: t)
noncomputable def p0q266m4 (t : List (rMm)) : List (rMm) := p0q266m3 ((g0m 7 6 0 13 44) :: t)
noncomputable def p0q266l1 (t : List (zLg)) : List (zLg) := p0q266l0 ((.inl 159, [g0V 0, g0V 1, g0V 2, g0C 0, g0V 4, g0C 2, g0V 24, g0V 25, g0V 26, g0V 23, g0V 7, g0V 8, g0C 0, g0V 10, g0C 0, g0C 0, g0V 13], 2, 0, g0C 1) :: (.inl 112, [g0V 4], 3, 0, g0C 0) :: (.inl 162, [g0V 37, g0V 38, g0V 39], 4, 0, g0C 0) :: t)
noncomputable def q266_1 : zNx := (1, 0, (p0q266r4 [g0R 0 50000, g0R 0 2000, g0R 0 2000, g0I, g0R 0 2], p0q266f0, [], [g0v 0 0 40], (g0d 0 0 (g0C 0) (g0C 8) (g0V 41) 0 []) :: (g0d 0 0 (g0C 0) (g0C 6) (g0V 45) 0 []) :: (g0d 0 0 (g0C 0) (g0C 5) (g0V 37) 0 []) :: p0q266d1, p0q266m4 [g0m 0 0 0 5 45], 0, 0), p0q266l1 [(.inl 262, [g0V 1, g0V 37, g0C 0, g0V 16, g0V 0, g0V 14, g0V 15, g0V 17, g0V 18, g0V 19, g0V 20, g0V 21, g0V 22, g0V 24, g0V 25, g0V 26], 6, 0, g0C 0)], [])
noncomputable def q266_2 : zNx := (1, 4, (p0q266r4 [g0R 50001 50001, g0R 0 2000, g0R 0 2000, g0I], p0q266f0, [], [], p0q266d1, p0q266m4 [], 0, 0), p0q266l1 [(.inl 262, [g0V 1, g0V 37, g0C 0, g0V 16, g0V 0, g0V 14, g0V 15, g0V 17, g0V 18, g0V 19, g0V 20, g0V 21, g0V 22, g0V 24, g0V 25, g0V 26], 6, 4, g0C 0)], [])
noncomputable def q266_3 : zNx := (1, 5, (p0q266r2 [g0R 0 0], [], [], [], [g0d 1 0 (g0C 0) (g0C 0) (g0C 0) m75_ []], p0q266m1 [g0r 1 2 (g0C 0) (g0C 3) (g0C 0)], 0, 0), [(.inl 112, [g0V 4], 0, 0, g0C 0)], [])
noncomputable def q266 : List zNx := [q266_0, q266_1, q266_2, q266_3]
noncomputable def q266a : List (List zNx) := []
set_option maxRecDepth 100000 in
theorem zk266_ : zCk 3000 uMx uW uT uJL uAn uBds 266 q266 q266a = true := by decide +kernel
noncomputable def p0q267d0 : List (rD) := (g0d 1 0 (g0C 0) (g0C 0) (g0C 0) m76_ []) :: []
noncomputable def p0q267m0 (t : List (rMm)) : List (rMm) := (g0m 0 2 0 3 5) :: (g0m 0 112 0 0 6) :: t
noncomputable def q267_0 : zNx := (1, 0, ([g0I, g0I, g0I, g0I, g0I, g0R 0 1980, g0S 9223372036854775807 9223372036854775807], [], [], [g0c 0 0 0], (g0d 0 112 (g0C 0) (g0C 0) (g0W 5 20) 0 []) :: p0q267d0, p0q267m0 [g0r 1 2 (g0C 0) (g0C 3) (g0W 5 20)], 0, 0), [(.inl 164, [g0V 0, g0V 1, g0V 2, g0V 3, g0V 4, g0V 5], 0, 0, g0W 5 20)], [])
noncomputable def q267_1 : zNx := (1, 0, ([g0I, g0I, g0I, g0I, g0I, g0R 1981 2000, g0S 9223372036854775807 9223372036854775807], [], [], [g0c 0 0 1], p0q267d0, p0q267m0 [g0m 1 2 0 3 5], 0, 0), [(.inl 164, [g0V 0, g0V 1, g0V 2, g0V 3, g0V 4, g0V 5], 0, 1, g0C 0)], [])
noncomputable def q267 : List zNx := [q267_0, q267_1]
noncomputable def q267a : List (List zNx) := []
set_option maxRecDepth 100000 in
theorem zk267_ : zCk 3000 uMx uW uT uJL uAn uBds 267 q267 q267a = true := by decide +kernel
noncomputable def p0q268r0 (t : List (Int × Int)) : List (Int × Int) := (g0R 0 2147483647) :: (g0R 0 2000) :: (g0S 9223372036854775807 9223372036854775807) :: t
noncomputable def p0q268d0 : List (rD) := (g0d 1 0 (g0C 0) (g0C 0) (g0C 0) m75_ []) :: []
noncomputable def p0q268m0 (t : List (rMm)) : List (rMm) := (g0m 0 2 0 3 1) :: (g0m 0 112 0 0 2) :: t
noncomputable def q268_0 : zNx := (1, 0, (p0q268r0 [], [g0X [g0A 1, g0B 0] 0], [], [g0c 0 0 0], (g0d 0 112 (g0C 0) (g0C 0) (g0V 0) 0 []) :: p0q268d0, p0q268m0 [g0m 1 2 0 3 0], 0, 0), [(.inl 165, [g0V 0, g0V 1], 0, 0, g0V 0)], [])
noncomputable def p0q268l0 (t : List (zLg)) : List (zLg) := (.inl 165, [g0V 0, g0V 1], 0, 2, g0C 0) :: t
noncomputable def q268_1 : zNx := (1, 0, (p0q268r0 [], [g0Z [g0B 1, g0A 0] 0], [], [g0c 0 0 1], p0q268d0, p0q268m0 [g0m 1 2 0 3 1], 0, 0), p0q268l0 [], [])
noncomputable def q268_2 : zNx := (1, 0, ([g0T 2147483647 0, g0R 0 2000, g0S 9223372036854775807 9223372036854775807], [], [], [g0c 0 0 1], p0q268d0, p0q268m0 [g0m 1 2 0 3 1], 0, 0), p0q268l0 [], [])
noncomputable def q268 : List zNx := [q268_0, q268_1, q268_2]
noncomputable def q268a : List (List zNx) := []
set_option maxRecDepth 100000 in
theorem zk268_ : zCk 3000 uMx uW uT uJL uAn uBds 268 q268 q268a = true := by decide +kernel
noncomputable def p0q269d0 : List (rD) := (g0d 1 0 (g0C 0) (g0C 0) (g0C 0) m117_ i32_) :: []
noncomputable def p0q269m0 (t : List (rMm)) : List (rMm) := (g0m 0 2 0 3 1) :: (g0m 0 1 0 10 2) :: t
noncomputable def q269_0 : zNx := (1, 0, ([g0R 0 2147483647, g0R 0 2000, g0R 0 60], [g0Z [g0A 2, g0B 0] 0], [], [g0c 0 0 0], (g0d 0 112 (g0C 0) (g0C 0) (g0Y 2 0) 0 []) :: p0q269d0, p0q269m0 [g0r 1 1 (g0C 0) (g0C 10) (g0Y 2 0)], 0, 0), [(.inl 169, [g0V 0, g0V 2, g0V 1], 0, 0, g0Y 2 0)], [])
noncomputable def q269_1 : zNx := (1, 0, ([g0I, g0R 0 2000, g0R 0 60], [], [], [g0c 0 0 1], p0q269d0, p0q269m0 [g0m 1 1 0 10 2], 0, 0), [(.inl 169, [g0V 0, g0V 2, g0V 1], 0, 1, g0C 0)], [])
noncomputable def q269 : List zNx := [q269_0, q269_1]
noncomputable def q269a : List (List zNx) := []
set_option maxRecDepth 100000 in
theorem zk269_ : zCk 3000 uMx uW uT uJL uAn uBds 269 q269 q269a = true := by decide +kernel
noncomputable def p0q270r0 (t : List (Int × Int)) : List (Int × Int) := (g0R 0 2000) :: g0I :: g0I :: (g0R 0 20) :: (g0R 0 20) :: (g0R 0 400) :: (g0R 0 60) :: (g0R 0 2000) :: (g0R 0 2000) :: (g0R 0 50001) :: g0I :: (g0R 0 2) :: g0I :: (g0R 0 2000) :: (g0R 0 2000) :: g0I :: t
noncomputable def p0q270d0 : List (rD) := (g0d 1 0 (g0C 0) (g0C 0) (g0C 0) m144_ i37_) :: []
noncomputable def p0q270m0 (t : List (rMm)) : List (rMm) := (g0m 0 2 0 3 0) :: (g0m 0 0 0 8 1) :: (g0m 0 0 0 9 2) :: (g0m 0 1 0 7 3) :: (g0m 0 1 0 8 4) :: (g0m 0 1 0 9 5) :: (g0m 0 1 0 10 6) :: (g0m 0 4 0 7 7) :: (g0m 0 5 0 3 8) :: (g0m 0 6 0 0 9) :: (g0m 0 6 0 8 10) :: (g0m 0 6 0 9 11) :: (g0m 0 6 0 10 12) :: (g0m 0 6 0 11 13) :: (g0m 0 6 0 12 14) :: (g0m 0 6 0 13 15) :: t
noncomputable def q270_0 : zNx := (1, 0, (p0q270r0 [g0R 0 2000, g0R 0 20, g0R 0 2000, g0R 0 50000, g0R 0 50000, g0I, g0R 0 2000, g0I, g0R 0 2, g0I, g0R 0 2000, g0R 0 2000, g0I], [g0X [g0B 18, g0A 16] 0, g0X [g0A 18, g0B 16] 0, g0X [g0B 20, g0A 19] 0, g0X [g0A 20, g0B 19] 0], [], [g0c 0 0 0], (g0d 0 112 (g0C 0) (g0C 0) (g0V 16) 0 []) :: p0q270d0, p0q270m0 [g0m 1 1 0 8 17, g0m 1 4 0 7 18, g0m 1 6 0 0 19, g0m 1 0 0 8 20, g0m 1 0 0 9 21, g0m 1 5 0 3 22, g0m 1 6 0 8 23, g0m 1 6 0 9 24, g0m 1 6 0 10 25, g0m 1 6 0 11 26, g0m 1 6 0 12 27, g0m 1 6 0 13 28], 0, 0), [(.inl 265, [g0V 0, g0V 3, g0V 4, g0V 5, g0V 6, g0V 7, g0V 9, g0V 1, g0V 2, g0V 8, g0V 10, g0V 11, g0V 12, g0V 13, g0V 14, g0V 15], 0, 0, g0V 16)], [])
noncomputable def p0q270m1 (t : List (rMm)) : List (rMm) := p0q270m0 ((g0m 1 1 0 8 16) :: (g0m 1 4 0 7 17) :: (g0m 1 6 0 0 18) :: (g0m 1 0 0 8 1) :: (g0m 1 0 0 9 2) :: (g0m 1 5 0 3 19) :: (g0m 1 6 0 8 20) :: (g0m 1 6 0 9 21) :: (g0m 1 6 0 10 22) :: (g0m 1 6 0 11 23) :: (g0m 1 6 0 12 24) :: (g0m 1 6 0 13 25) :: t)
noncomputable def q270_1 : zNx := (1, 0, (p0q270r0 [g0R 1 20, g0R 0 2000, g0R 0 50000, g0R 0 2000, g0I, g0R 0 2, g0I, g0R 0 2000, g0R 0 2000, g0I], [g0X [g0B 23, g0A 17] 0], [], [g0c 0 0 3], p0q270d0, p0q270m1 [], 0, 0), [(.inl 265, [g0V 0, g0V 3, g0V 4, g0V 5, g0V 6, g0V 7, g0V 9, g0V 1, g0V 2, g0V 8, g0V 10, g0V 11, g0V 12, g0V 13, g0V 14, g0V 15], 0, 1, g0C 0)], [])
noncomputable def q270_2 : zNx := (1, 0, (p0q270r0 [], [], [], [g0c 0 0 1], p0q270d0, p0q270m0 [g0m 1 1 0 8 4, g0m 1 4 0 7 7, g0m 1 6 0 0 9, g0m 1 0 0 8 1, g0m 1 0 0 9 2, g0m 1 5 0 3 8, g0m 1 6 0 8 10, g0m 1 6 0 9 11, g0m 1 6 0 10 12, g0m 1 6 0 11 13, g0m 1 6 0 12 14, g0m 1 6 0 13 15], 0, 0), [(.inl 265, [g0V 0, g0V 3, g0V 4, g0V 5, g0V 6, g0V 7, g0V 9, g0V 1, g0V 2, g0V 8, g0V 10, g0V 11, g0V 12, g0V 13, g0V 14, g0V 15], 0, 3, g0C 0)], [])
noncomputable def q270_3 : zNx := (1, 0, (p0q270r0 [g0R 1 20, g0R 0 2000, g0R 50001 50001, g0R 0 2000, g0R 0 60, g0R 0 1, g0R 0 2001, g0R 0 2000, g0R 0 2000, g0I], [g0X [g0B 23, g0A 17] 0, g0Z [g0B 20, g0A 6] 0, g0X [g0B 21, g0A 6] 0], [], [g0c 0 0 2], p0q270d0, p0q270m1 [], 0, 0), [(.inl 265, [g0V 0, g0V 3, g0V 4, g0V 5, g0V 6, g0V 7, g0V 9, g0V 1, g0V 2, g0V 8, g0V 10, g0V 11, g0V 12, g0V 13, g0V 14, g0V 15], 0, 4, g0C 0)], [])
noncomputable def q270 : List zNx := [q270_0, q270_1, q270_2, q270_3]
noncomputable def q270a : List (List zNx) := []
set_option maxRecDepth 100000 in
theorem zk270_ : zCk 3000 uMx uW uT uJL uAn uBds 270 q270 q270a = true := by decide +kernel
noncomputable def p0q271d0 : List (rD) := (g0d 1 0 (g0C 0) (g0C 0) (g0C 0) m0_ []) :: []
noncomputable def p0q271m0 (t : List (rMm)) : List (rMm) := (g0m 0 2 0 3 2) :: (g0m 0 4 0 7 3) :: t
noncomputable def q271_0 : zNx := (1, 0, ([g0R 0 2147483647, g0R 0 8, g0R 0 2000, g0R 0 2000, g0I], [g0Z [g0A 3, g0B 0] 0], [], [g0c 0 0 0], (g0d 0 112 (g0C 0) (g0C 0) (g0V 4) 0 []) :: p0q271d0, p0q271m0 [], 0, 0), [(.inl 174, [g0V 0, g0V 1, g0V 3], 0, 0, g0V 4)], [])
noncomputable def p0q271r0 (t : List (Int × Int)) : List (Int × Int) := g0I :: (g0R 0 8) :: (g0R 0 2000) :: (g0R 0 2000) :: t
noncomputable def q271_1 : zNx := (1, 0, (p0q271r0 [], [], [], [g0c 0 0 3], p0q271d0, p0q271m0 [], 0, 0), [(.inl 174, [g0V 0, g0V 1, g0V 3], 0, 1, g0C 0)], [])
noncomputable def q271_2 : zNx := (1, 0, ([g0I, g0I, g0R 0 2000, g0R 0 2000], [], [], [g0c 0 0 1], p0q271d0, p0q271m0 [], 0, 0), [(.inl 174, [g0V 0, g0V 1, g0V 3], 0, 2, g0C 0)], [])
noncomputable def q271_3 : zNx := (1, 0, (p0q271r0 [], [], [], [g0c 0 0 2], p0q271d0, p0q271m0 [], 0, 0), [(.inl 174, [g0V 0, g0V 1, g0V 3], 0, 5, g0C 0)], [])
noncomputable def q271 : List zNx := [q271_0, q271_1, q271_2, q271_3]
noncomputable def q271a : List (List zNx) := []
set_option maxRecDepth 100000 in
theorem zk271_ : zCk 3000 uMx uW uT uJL uAn uBds 271 q271 q271a = true := by decide +kernel
noncomputable def p0q272d0 : List (rD) := (g0d 1 0 (g0C 0) (g0C 0) (g0C 0) m0_ []) :: []
noncomputable def p0q272m0 (t : List (rMm)) : List (rMm) := (g0m 0 2 0 3 2) :: (g0m 0 4 0 7 3) :: t
noncomputable def q272_0 : zNx := (1, 0, ([g0R 0 2147483647, g0R 0 2147483647, g0R 0 2000, g0R 0 2000, g0R 0 1999], [g0Z [g0A 3, g0B 0] 0], [], [g0c 0 0 0], (g0d 0 112 (g0C 0) (g0C 0) (g0V 4) 0 []) :: p0q272d0, p0q272m0 [], 0, 0), [(.inl 175, [g0V 0, g0V 1, g0V 3], 0, 0, g0V 4)], [])
noncomputable def p0q272r0 (t : List (Int × Int)) : List (Int × Int) := g0I :: g0I :: (g0R 0 2000) :: (g0R 0 2000) :: t
noncomputable def q272_1 : zNx := (1, 0, (p0q272r0 [], [], [], [g0c 0 0 2], p0q272d0, p0q272m0 [], 0, 0), [(.inl 175, [g0V 0, g0V 1, g0V 3], 0, 1, g0C 0)], [])
noncomputable def q272_2 : zNx := (1, 0, (p0q272r0 [], [], [], [g0c 0 0 1], p0q272d0, p0q272m0 [], 0, 0), [(.inl 175, [g0V 0, g0V 1, g0V 3], 0, 5, g0C 0)], [])
noncomputable def q272 : List zNx := [q272_0, q272_1, q272_2]
noncomputable def q272a : List (List zNx) := []
set_option maxRecDepth 100000 in
theorem zk272_ : zCk 3000 uMx uW uT uJL uAn uBds 272 q272 q272a = true := by decide +kernel
noncomputable def p0q273d0 : List (rD) := (g0d 1 0 (g0C 0) (g0C 0) (g0C 0) m119_ []) :: []
noncomputable def p0q273m0 (t : List (rMm)) : List (rMm) := (g0m 0 2 0 3 1) :: (g0m 0 3 0 1 2) :: (g0m 0 4 0 7 3) :: (g0m 0 7 0 1 4) :: t
noncomputable def q273_0 : zNx := (1, 0, ([g0R 0 1999, g0R 0 2000, g0R 0 5120, g0R 0 2000, g0R 0 200, g0R 1 200, g0R 1 200], [g0X [g0B 6, g0A 5] 0, g0X [g0A 6, g0B 5] 0, g0Z [g0A 3, g0B 0] 0], [], [g0c 0 0 0], (g0d 0 112 (g0C 0) (g0C 0) (g0V 5) 0 []) :: p0q273d0, p0q273m0 [g0m 1 7 0 1 6], 0, 0), [(.inl 185, [g0V 0, g0V 3, g0V 4, g0V 2], 0, 0, g0V 5)], [])
noncomputable def p0q273r0 (t : List (Int × Int)) : List (Int × Int) := g0I :: (g0R 0 2000) :: (g0R 0 5120) :: (g0R 0 2000) :: (g0R 0 200) :: t
noncomputable def q273_1 : zNx := (1, 0, (p0q273r0 [], [], [], [g0c 0 0 2], p0q273d0, p0q273m0 [g0m 1 7 0 1 4], 0, 0), [(.inl 185, [g0V 0, g0V 3, g0V 4, g0V 2], 0, 1, g0C 0)], [])
noncomputable def q273_2 : zNx := (1, 0, (p0q273r0 [], [], [], [g0c 0 0 1], p0q273d0, p0q273m0 [g0m 1 7 0 1 4], 0, 0), [(.inl 185, [g0V 0, g0V 3, g0V 4, g0V 2], 0, 5, g0C 0)], [])
noncomputable def q273 : List zNx := [q273_0, q273_1, q273_2]
noncomputable def q273a : List (List zNx) := []
set_option maxRecDepth 100000 in
theorem zk273_ : zCk 3000 uMx uW uT uJL uAn uBds 273 q273 q273a = true := by decide +kernel
noncomputable def p0q274r0 (t : List (Int × Int)) : List (Int × Int) := (g0R 0 2000) :: (g0R 0 20) :: (g0R 0 60) :: g0I :: g0I :: (g0R 0 2001) :: (g0R 0 2) :: g0I :: (g0R 0 8) :: (g0R 0 32) :: (g0R 0 5120) :: (g0R 0 60) :: (g0R 0 8) :: (g0R 0 8) :: (g0R 0 8) :: (g0R 0 4) :: g0I :: (g0S 0 19) :: (g0S 0 3) :: (g0R 0 4) :: t
noncomputable def p0q274r1 (t : List (Int × Int)) : List (Int × Int) := p0q274r0 ((g0R 0 3) :: (g0S 0 7) :: g0I :: t)
noncomputable def p0q274d0 : List (rD) := (g0d 1 0 (g0C 0) (g0C 0) (g0C 0) m130_ i32_) :: []
noncomputable def p0q274m0 (t : List (rMm)) : List (rMm) := (g0m 0 2 0 3 0) :: (g0m 0 1 0 7 1) :: (g0m 0 1 0 10 2) :: (g0m 0 2 0 4 3) :: (g0m 0 2 0 5 4) :: (g0m 0 2 0 6 5) :: (g0m 0 2 0 7 6) :: (g0m 0 2 0 9 7) :: (g0m 0 2 0 13 8) :: (g0m 0 2 0 16 9) :: (g0m 0 3 0 1 10) :: (g0o 0 40 0 2 11) :: (g0n 0 9 11 2 12) :: (g0n 0 9 11 3 13) :: (g0q 0 10 (g0X [g0P 11 9] 0) (g0C 4) 14) :: (g0q 0 10 (g0X [g0P 11 9] 0) (g0C 5) 15) :: (g0q 0 10 (g0X [g0P 11 9] 0) (g0C 7) 16) :: (g0q 0 10 (g0X [g0P 11 9] 0) (g0C 8) 17) :: (g0q 0 10 (g0X [g0P 11 9] 0) (g0C 9) 18) :: (g0q 0 10 (g0X [g0P 11 9] 0) (g0C 12) 19) :: t
noncomputable def p0q274m1 (t : List (rMm)) : List (rMm) := p0q274m0 ((g0q 0 10 (g0X [g0P 11 9] 0) (g0C 13) 20) :: (g0q 0 10 (g0X [g0P 11 9] 0) (g0C 14) 21) :: (g0q 0 10 (g0X [g0P 11 9] 0) (g0C 15) 22) :: t)
noncomputable def q274_0 : zNx := (1, 0, (p0q274r1 [g0I, g0R 0 0, g0R 0 2000, g0R 0 0, g0R 1 1, g0R 0 20, g0I, g0I, g0I, g0R 0 8, g0R 0 32, g0R 0 5120, g0R 0 0, g0R 0 8, g0R 0 4, g0I, g0S 0 19, g0S 0 3, g0R 0 4, g0R 0 3, g0S 0 7, g0I], [g0X [g0A 28, g0B 1] 0, g0X [g0A 34, g0B 10] 0, g0X [g0B 36, g0A 14] 0], [], [g0c 0 0 0], (g0d 0 112 (g0C 0) (g0C 0) (g0V 23) 0 []) :: p0q274d0, p0q274m1 [g0n 1 9 11 2 24, g0m 1 2 0 6 25, g0m 1 2 0 3 26, g0m 1 2 0 7 27, g0m 1 1 0 7 28, g0m 1 2 0 4 29, g0m 1 2 0 5 30, g0m 1 2 0 9 31, g0m 1 2 0 13 32, g0m 1 2 0 16 33, g0m 1 3 0 1 34, g0n 1 9 11 3 35, g0q 1 10 (g0X [g0P 11 9] 0) (g0C 4) 36, g0q 1 10 (g0X [g0P 11 9] 0) (g0C 5) 37, g0q 1 10 (g0X [g0P 11 9] 0) (g0C 7) 38, g0q 1 10 (g0X [g0P 11 9] 0) (g0C 8) 39, g0q 1 10 (g0X [g0P 11 9] 0) (g0C 9) 40, g0q 1 10 (g0X [g0P 11 9] 0) (g0C 12) 41, g0q 1 10 (g0X [g0P 11 9] 0) (g0C 13) 42, g0q 1 10 (g0X [g0P 11 9] 0) (g0C 14) 43, g0q 1 10 (g0X [g0P 11 9] 0) (g0C 15) 44], 0, 0), [(.inl 221, [g0V 2, g0V 11, g0V 12, g0V 5, g0V 0, g0V 6, g0V 1, g0V 3, g0V 4, g0V 7, g0V 8, g0V 9, g0V 10, g0V 13, g0V 14, g0V 15, g0V 16, g0V 17, g0V 18, g0V 19, g0V 20, g0V 21, g0V 22], 0, 0, g0V 23)], [])
noncomputable def q274_1 : zNx := (1, 0, (p0q274r1 [], [], [], [g0c 0 0 1], p0q274d0, p0q274m1 [g0n 1 9 11 2 12, g0m 1 2 0 6 5, g0r 1 2 (g0C 0) (g0C 3) (g0C 0), g0m 1 2 0 7 6, g0m 1 1 0 7 1, g0m 1 2 0 4 3, g0m 1 2 0 5 4, g0m 1 2 0 9 7, g0m 1 2 0 13 8, g0m 1 2 0 16 9, g0m 1 3 0 1 10, g0n 1 9 11 3 13, g0q 1 10 (g0X [g0P 11 9] 0) (g0C 4) 14, g0q 1 10 (g0X [g0P 11 9] 0) (g0C 5) 15, g0q 1 10 (g0X [g0P 11 9] 0) (g0C 7) 16, g0q 1 10 (g0X [g0P 11 9] 0) (g0C 8) 17, g0q 1 10 (g0X [g0P 11 9] 0) (g0C 9) 18, g0q 1 10 (g0X [g0P 11 9] 0) (g0C 12) 19, g0q 1 10 (g0X [g0P 11 9] 0) (g0C 13) 20, g0q 1 10 (g0X [g0P 11 9] 0) (g0C 14) 21, g0q 1 10 (g0X [g0P 11 9] 0) (g0C 15) 22], 0, 0), [(.inl 221, [g0V 2, g0V 11, g0V 12, g0V 5, g0V 0, g0V 6, g0V 1, g0V 3, g0V 4, g0V 7, g0V 8, g0V 9, g0V 10, g0V 13, g0V 14, g0V 15, g0V 16, g0V 17, g0V 18, g0V 19, g0V 20, g0V 21, g0V 22], 0, 5, g0C 0)], [])
noncomputable def q274 : List zNx := [q274_0, q274_1]
noncomputable def q274a : List (List zNx) := []
set_option maxRecDepth 100000 in
theorem zk274_ : zCk 3000 uMx uW uT uJL uAn uBds 274 q274 q274a = true := by decide +kernel
noncomputable def p0q275r0 (t : List (Int × Int)) : List (Int × Int) := (g0R 0 2000) :: g0I :: (g0R 0 20) :: (g0R 0 60) :: g0I :: g0I :: (g0R 0 2001) :: (g0R 0 2) :: g0I :: (g0R 0 8) :: (g0R 0 32) :: (g0R 0 5120) :: (g0R 0 2000) :: (g0R 0 2000) :: (g0R 0 50001) :: g0I :: (g0R 0 2) :: g0I :: (g0R 0 2000) :: (g0R 0 2000) :: t
noncomputable def p0q275r1 (t : List (Int × Int)) : List (Int × Int) := p0q275r0 (g0I :: (g0R 0 60) :: (g0R 0 8) :: (g0R 0 8) :: (g0S 0 19) :: (g0R 0 4) :: (g0S 0 7) :: t)
noncomputable def p0q275d0 : List (rD) := (g0d 1 0 (g0C 0) (g0C 0) (g0C 0) m146_ i32_) :: []
noncomputable def p0q275m0 (t : List (rMm)) : List (rMm) := (g0m 0 2 0 3 0) :: (g0m 0 0 0 8 1) :: (g0m 0 1 0 7 2) :: (g0m 0 1 0 10 3) :: (g0m 0 2 0 4 4) :: (g0m 0 2 0 5 5) :: (g0m 0 2 0 6 6) :: (g0m 0 2 0 7 7) :: (g0m 0 2 0 9 8) :: (g0m 0 2 0 13 9) :: (g0m 0 2 0 16 10) :: (g0m 0 3 0 1 11) :: (g0m 0 4 0 7 12) :: (g0m 0 5 0 3 13) :: (g0m 0 6 0 0 14) :: (g0m 0 6 0 8 15) :: (g0m 0 6 0 9 16) :: (g0m 0 6 0 10 17) :: (g0m 0 6 0 11 18) :: (g0m 0 6 0 12 19) :: t
noncomputable def p0q275m1 (t : List (rMm)) : List (rMm) := p0q275m0 ((g0m 0 6 0 13 20) :: (g0o 0 40 0 3 21) :: (g0n 0 9 21 2 22) :: (g0n 0 9 21 3 23) :: (g0q 0 10 (g0X [g0P 21 9] 0) (g0C 8) 24) :: (g0q 0 10 (g0X [g0P 21 9] 0) (g0C 12) 25) :: (g0q 0 10 (g0X [g0P 21 9] 0) (g0C 14) 26) :: t)
noncomputable def q275_0 : zNx := (1, 0, (p0q275r1 [g0I, g0R 0 8, g0R 0 2001, g0I, g0R 0 20, g0I, g0I, g0I, g0R 0 8, g0R 0 32, g0R 0 5120, g0R 0 2000, g0R 0 2000, g0R 0 50001, g0I, g0R 0 2, g0I, g0R 0 2000, g0I, g0R 0 8], [g0X [g0B 46, g0A 28] 0, g0X [g0A 29, g0B 28] 0, g0X [g0A 31, g0B 2] 0, g0X [g0A 37, g0B 11] 0, g0X [g0A 38, g0B 12] 0, g0X [g0A 39, g0B 13] 0, g0X [g0A 42, g0B 16] 0, g0X [g0B 28, g0A 0] 0], [], [g0c 0 0 0], (g0d 0 112 (g0C 0) (g0C 0) (g0V 27) 0 []) :: p0q275d0, p0q275m1 [g0n 1 9 21 2 28, g0m 1 2 0 6 29, g0r 1 2 (g0C 0) (g0C 3) (g0C 0), g0r 1 2 (g0C 0) (g0C 7) (g0C 2), g0m 1 0 0 8 30, g0m 1 1 0 7 31, g0m 1 2 0 4 32, g0m 1 2 0 5 33, g0m 1 2 0 9 34, g0m 1 2 0 13 35, g0m 1 2 0 16 36, g0m 1 3 0 1 37, g0m 1 4 0 7 38, g0m 1 5 0 3 39, g0m 1 6 0 0 40, g0m 1 6 0 8 41, g0m 1 6 0 9 42, g0m 1 6 0 10 43, g0m 1 6 0 11 44, g0m 1 6 0 13 45, g0n 1 9 21 3 46, g0q 1 10 (g0X [g0P 21 9] 0) (g0C 8) 24, g0q 1 10 (g0X [g0P 21 9] 0) (g0C 12) 25], 0, 0), [(.inl 266, [g0V 3, g0V 21, g0V 22, g0V 6, g0V 0, g0V 7, g0V 1, g0V 2, g0V 4, g0V 5, g0V 8, g0V 9, g0V 10, g0V 11, g0V 12, g0V 13, g0V 14, g0V 15, g0V 16, g0V 17, g0V 18, g0V 19, g0V 20, g0V 23, g0V 24, g0V 25, g0V 26], 0, 0, g0V 27)], [])
noncomputable def q275_1 : zNx := (1, 0, ([g0R 1 2000, g0I, g0R 0 20, g0R 0 60, g0I, g0I, g0R 0 2001, g0R 0 2, g0I, g0R 0 8, g0R 0 32, g0R 0 5120, g0R 0 2000, g0R 0 2000, g0R 0 50001, g0I, g0R 0 2, g0I, g0R 0 2000, g0R 0 2000, g0I, g0R 0 60, g0R 0 8, g0R 0 8, g0S 0 19, g0R 0 4, g0S 0 7, g0R 1 8, g0R 3 2001, g0R 0 20, g0I, g0I, g0R 0 8, g0R 0 32, g0R 0 5120, g0R 0 2000, g0R 0 2000, g0R 50001 50001, g0I, g0R 0 8], [g0X [g0B 39, g0A 27] 0, g0Z [g0A 28, g0B 0] 0, g0X [g0A 29, g0B 2] 0, g0X [g0A 34, g0B 11] 0, g0X [g0A 35, g0B 12] 0, g0X [g0A 36, g0B 13] 0, g0X [g0B 27, g0A 0] 0], [], [g0c 0 0 2], p0q275d0, p0q275m1 [g0n 1 9 21 2 27, g0m 1 2 0 6 28, g0r 1 2 (g0C 0) (g0C 3) (g0C 0), g0r 1 2 (g0C 0) (g0C 7) (g0C 2), g0m 1 0 0 8 1, g0m 1 1 0 7 29, g0m 1 2 0 4 4, g0m 1 2 0 5 30, g0m 1 2 0 9 31, g0m 1 2 0 13 32, g0m 1 2 0 16 33, g0m 1 3 0 1 34, g0m 1 4 0 7 35, g0m 1 5 0 3 36, g0m 1 6 0 0 37, g0r 1 6 (g0C 0) (g0C 8) (g0D 0), g0r 1 6 (g0C 0) (g0C 9) (g0C 2), g0r 1 6 (g0C 0) (g0C 10) (g0C 0), g0m 1 6 0 11 12, g0m 1 6 0 13 38, g0n 1 9 21 3 39, g0q 1 10 (g0X [g0P 21 9] 0) (g0C 8) 24, g0q 1 10 (g0X [g0P 21 9] 0) (g0C 12) 25], 0, 0), [(.inl 266, [g0V 3, g0V 21, g0V 22, g0V 6, g0V 0, g0V 7, g0V 1, g0V 2, g0V 4, g0V 5, g0V 8, g0V 9, g0V 10, g0V 11, g0V 12, g0V 13, g0V 14, g0V 15, g0V 16, g0V 17, g0V 18, g0V 19, g0V 20, g0V 23, g0V 24, g0V 25, g0V 26], 0, 4, g0C 0)], [])
noncomputable def q275_2 : zNx := (1, 0, (p0q275r1 [], [], [], [g0c 0 0 1], p0q275d0, p0q275m1 [g0n 1 9 21 2 22, g0m 1 2 0 6 6, g0r 1 2 (g0C 0) (g0C 3) (g0C 0), g0m 1 2 0 7 7, g0m 1 0 0 8 1, g0m 1 1 0 7 2, g0m 1 2 0 4 4, g0m 1 2 0 5 5, g0m 1 2 0 9 8, g0m 1 2 0 13 9, g0m 1 2 0 16 10, g0m 1 3 0 1 11, g0m 1 4 0 7 12, g0m 1 5 0 3 13, g0m 1 6 0 0 14, g0m 1 6 0 8 15, g0m 1 6 0 9 16, g0m 1 6 0 10 17, g0m 1 6 0 11 18, g0m 1 6 0 13 20, g0n 1 9 21 3 23, g0q 1 10 (g0X [g0P 21 9] 0) (g0C 8) 24, g0q 1 10 (g0X [g0P 21 9] 0) (g0C 12) 25], 0, 0), [(.inl 266, [g0V 3, g0V 21, g0V 22, g0V 6, g0V 0, g0V 7, g0V 1, g0V 2, g0V 4, g0V 5, g0V 8, g0V 9, g0V 10, g0V 11, g0V 12, g0V 13, g0V 14, g0V 15, g0V 16, g0V 17, g0V 18, g0V 19, g0V 20, g0V 23, g0V 24, g0V 25, g0V 26], 0, 5, g0C 0)], [])
noncomputable def q275 : List zNx := [q275_0, q275_1, q275_2]
noncomputable def q275a : List (List zNx) := []
set_option maxRecDepth 100000 in
theorem zk275_ : zCk 3000 uMx uW uT uJL uAn uBds 275 q275 q275a = true := by decide +kernel
noncomputable def p0q276d0 : List (rD) := (g0d 1 0 (g0C 0) (g0C 0) (g0C 0) m0_ []) :: []
noncomputable def q276_0 : zNx := (1, 0, ([g0R 0 2147483647, g0R 0 7, g0R 0 2000, g0I], [], [], [g0c 0 0 0], (g0d 0 112 (g0C 0) (g0C 0) (g0V 3) 0 []) :: p0q276d0, [g0m 0 2 0 3 2], 0, 0), [(.inl 176, [g0V 0, g0V 1], 0, 0, g0V 3)], [])
noncomputable def q276_1 : zNx := (1, 0, ([g0I, g0I, g0R 0 2000], [], [], [g0c 0 0 1], p0q276d0, [g0m 0 2 0 3 2], 0, 0), [(.inl 176, [g0V 0, g0V 1], 0, 1, g0C 0)], [])
noncomputable def q276 : List zNx := [q276_0, q276_1]
noncomputable def q276a : List (List zNx) := []
set_option maxRecDepth 100000 in
theorem zk276_ : zCk 3000 uMx uW uT uJL uAn uBds 276 q276 q276a = true := by decide +kernel
noncomputable def p0q277d0 : List (rD) := (g0d 1 0 (g0C 0) (g0C 0) (g0C 0) m0_ []) :: []
noncomputable def p0q277m0 (t : List (rMm)) : List (rMm) := (g0m 0 2 0 3 1) :: (g0m 0 1 0 7 2) :: t
noncomputable def q277_0 : zNx := (1, 0, ([g0R 0 2147483647, g0R 0 2000, g0R 0 20, g0R 0 19], [g0Z [g0A 2, g0B 0] 0], [], [g0c 0 0 0], (g0d 0 112 (g0C 0) (g0C 0) (g0V 3) 0 []) :: p0q277d0, p0q277m0 [], 0, 0), [(.inl 177, [g0V 0, g0V 2], 0, 0, g0V 3)], [])
noncomputable def q277_1 : zNx := (1, 0, ([g0I, g0R 0 2000, g0R 0 20], [], [], [g0c 0 0 2], p0q277d0, p0q277m0 [], 0, 0), [(.inl 177, [g0V 0, g0V 2], 0, 1, g0C 0)], [])
noncomputable def q277_2 : zNx := (1, 0, ([g0I, g0R 0 2000, g0R 0 20], [], [], [g0c 0 0 1], p0q277d0, p0q277m0 [], 0, 0), [(.inl 177, [g0V 0, g0V 2], 0, 5, g0C 0)], [])
noncomputable def q277 : List zNx := [q277_0, q277_1, q277_2]
noncomputable def q277a : List (List zNx) := []
set_option maxRecDepth 100000 in
theorem zk277_ : zCk 3000 uMx uW uT uJL uAn uBds 277 q277 q277a = true := by decide +kernel
noncomputable def p0q278d0 : List (rD) := (g0d 1 0 (g0C 0) (g0C 0) (g0C 0) m0_ []) :: []
noncomputable def p0q278m0 (t : List (rMm)) : List (rMm) := (g0m 0 2 0 3 1) :: (g0m 0 7 0 1 2) :: t
noncomputable def q278_0 : zNx := (1, 0, ([g0R 0 199, g0R 0 2000, g0R 0 200, g0S 9223372036854775807 9223372036854775807], [g0Z [g0A 2, g0B 0] 0], [], [g0c 0 0 0], (g0d 0 112 (g0C 0) (g0C 0) (g0V 3) 0 []) :: p0q278d0, p0q278m0 [], 0, 0), [(.inl 178, [g0V 0, g0V 2], 0, 0, g0V 3)], [])
noncomputable def q278_1 : zNx := (1, 0, ([g0I, g0R 0 2000, g0R 0 200], [], [], [g0c 0 0 1], p0q278d0, p0q278m0 [], 0, 0), [(.inl 178, [g0V 0, g0V 2], 0, 1, g0C 0)], [])
noncomputable def q278 : List zNx := [q278_0, q278_1]
noncomputable def q278a : List (List zNx) := []
set_option maxRecDepth 100000 in
theorem zk278_ : zCk 3000 uMx uW uT uJL uAn uBds 278 q278 q278a = true := by decide +kernel
noncomputable def p0q279d0 : List (rD) := (g0d 1 0 (g0C 0) (g0C 0) (g0C 0) m0_ []) :: []
noncomputable def p0q279m0 (t : List (rMm)) : List (rMm) := (g0m 0 2 0 3 1) :: (g0m 0 0 0 8 2) :: (g0m 0 0 0 9 3) :: (g0m 0 1 0 7 4) :: (g0m 0 1 0 8 5) :: (g0m 0 1 0 9 6) :: (g0m 0 1 0 10 7) :: (g0m 0 3 0 1 8) :: (g0m 0 4 0 7 9) :: (g0m 0 7 0 1 10) :: t
noncomputable def q279_0 : zNx := (1, 0, ([g0R 0 9, g0R 0 2000, g0I, g0I, g0R 0 20, g0R 0 20, g0R 0 400, g0R 0 60, g0R 0 5120, g0R 0 2000, g0R 0 200, g0I], [], [], [g0c 0 0 0], (g0d 0 112 (g0C 0) (g0C 0) (g0V 11) 0 []) :: p0q279d0, p0q279m0 [], 0, 0), [(.inl 179, [g0V 0, g0V 2, g0V 3, g0V 4, g0V 5, g0V 6, g0V 7, g0V 1, g0V 8, g0V 9, g0V 10], 0, 0, g0V 11)], [])
noncomputable def q279_1 : zNx := (1, 0, ([g0I, g0R 0 2000, g0I, g0I, g0R 0 20, g0R 0 20, g0R 0 400, g0R 0 60, g0R 0 5120, g0R 0 2000, g0R 0 200], [], [], [g0c 0 0 1], p0q279d0, p0q279m0 [], 0, 0), [(.inl 179, [g0V 0, g0V 2, g0V 3, g0V 4, g0V 5, g0V 6, g0V 7, g0V 1, g0V 8, g0V 9, g0V 10], 0, 2, g0C 0)], [])
noncomputable def q279 : List zNx := [q279_0, q279_1]
noncomputable def q279a : List (List zNx) := []
set_option maxRecDepth 100000 in
theorem zk279_ : zCk 3000 uMx uW uT uJL uAn uBds 279 q279 q279a = true := by decide +kernel
