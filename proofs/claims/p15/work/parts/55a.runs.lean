/-! ===== runs of cases ===== -/
noncomputable def q0_0 : zNx := (1, 0, ([g0R 0 3], [], [], [g0v 0 0 0], [], [g0m 0 15 0 0 0], 0, 0), [], [])
noncomputable def q0 : List zNx := [q0_0]
noncomputable def q0a : List (List zNx) := []
set_option maxRecDepth 100000 in
theorem zk0_ : zCk 3000 uMx uW uT uJL uAn uBds 0 q0 q0a = true := by decide +kernel
noncomputable def p0q1d0 : List (rD) := (g0d 0 15 (g0C 0) (g0C 0) (g0V 0) 0 []) :: []
noncomputable def q1_0 : zNx := (1, 0, ([g0R 0 0, g0R 0 3], [], [], [g0c 0 0 0], p0q1d0, [g0m 0 15 0 0 1], 0, 0), [], [])
noncomputable def q1_1 : zNx := (1, 0, ([g0R 1 3, g0R 0 3], [], [], [g0c 0 0 1], p0q1d0, [g0m 0 15 0 0 1], 0, 0), [], [])
noncomputable def q1 : List zNx := [q1_0, q1_1]
noncomputable def q1a : List (List zNx) := []
set_option maxRecDepth 100000 in
theorem zk1_ : zCk 3000 uMx uW uT uJL uAn uBds 1 q1 q1a = true := by decide +kernel
noncomputable def q2_0 : zNx := (1, 0, ([g0I, g0R 0 1996, g0I, g0S 127 127, g0I, g0S 127 127, g0I, g0S 127 127, g0I, g0S 127 127], [], [], [], [g0d 0 15 (g0C 0) (g0C 3) (g0W 1 4) 0 [], g0d 0 59 (g0C 0) (g0W 1 3) (g0V 9) 0 [], g0d 0 15 (g0C 0) (g0C 3) (g0W 1 3) 0 [], g0d 0 59 (g0C 0) (g0W 1 2) (g0V 7) 0 [], g0d 0 15 (g0C 0) (g0C 3) (g0W 1 2) 0 [], g0d 0 59 (g0C 0) (g0W 1 1) (g0V 5) 0 [], g0d 0 15 (g0C 0) (g0C 3) (g0W 1 1) 0 [], g0d 0 59 (g0C 0) (g0V 1) (g0V 3) 0 []], [g0m 0 15 0 3 1], 0, 0), [(.inr .ishr, [g0V 0, g0C 24], 0, 0, g0V 2), (.inr .i2b, [g0V 2], 0, 0, g0V 3), (.inr .ishr, [g0V 0, g0C 16], 0, 0, g0V 4), (.inr .i2b, [g0V 4], 0, 0, g0V 5), (.inr .ishr, [g0V 0, g0C 8], 0, 0, g0V 6), (.inr .i2b, [g0V 6], 0, 0, g0V 7), (.inr .ishr, [g0V 0, g0C 0], 0, 0, g0V 8), (.inr .i2b, [g0V 8], 0, 0, g0V 9)], [])
noncomputable def q2 : List zNx := [q2_0]
noncomputable def q2a : List (List zNx) := []
set_option maxRecDepth 100000 in
theorem zk2_ : zCk 3000 uMx uW uT uJL uAn uBds 2 q2 q2a = true := by decide +kernel
noncomputable def p0q3d0 : List (rD) := (g0d 1 0 (g0C 0) (g0C 0) (g0C 0) m1_ []) :: []
noncomputable def p0q3m0 (t : List (rMm)) : List (rMm) := (g0m 0 15 0 3 5) :: (g0m 0 15 0 0 6) :: t
noncomputable def q3_0 : zNx := (1, 0, ([g0I, g0I, g0I, g0I, g0I, g0R 0 1980, g0R 0 3], [], [], [g0w 0 0 (g0W 5 20)], (g0d 1 0 (g0C 0) (g0C 0) (g0C 0) m2_ []) :: (g0d 1 0 (g0C 0) (g0C 0) (g0C 0) m2_ []) :: (g0d 1 0 (g0C 0) (g0C 0) (g0C 0) m2_ []) :: (g0d 1 0 (g0C 0) (g0C 0) (g0C 0) m2_ []) :: (g0d 1 0 (g0C 0) (g0C 0) (g0C 0) m2_ []) :: p0q3d0, p0q3m0 [g0r 1 15 (g0C 0) (g0C 0) (g0C 0), g0r 2 15 (g0C 0) (g0C 3) (g0W 5 4), g0r 3 15 (g0C 0) (g0C 3) (g0W 5 8), g0r 4 15 (g0C 0) (g0C 3) (g0W 5 12), g0r 5 15 (g0C 0) (g0C 3) (g0W 5 16), g0r 6 15 (g0C 0) (g0C 3) (g0W 5 20)], 0, 0), [(.inl 1, [g0C 0, g0V 6], 0, 0, g0C 0), (.inl 2, [g0V 0, g0V 5], 1, 0, g0C 0), (.inl 2, [g0V 1, g0W 5 4], 2, 0, g0C 0), (.inl 2, [g0V 2, g0W 5 8], 3, 0, g0C 0), (.inl 2, [g0V 3, g0W 5 12], 4, 0, g0C 0), (.inl 2, [g0V 4, g0W 5 16], 5, 0, g0C 0)], [])
noncomputable def q3_1 : zNx := (1, 0, ([g0I, g0I, g0I, g0I, g0I, g0R 1981 2000, g0R 0 3], [], [], [g0c 0 0 0], p0q3d0, p0q3m0 [g0r 1 15 (g0C 0) (g0C 0) (g0C 1)], 0, 0), [(.inl 1, [g0C 1, g0V 6], 0, 0, g0C 1)], [])
noncomputable def q3 : List zNx := [q3_0, q3_1]
noncomputable def q3a : List (List zNx) := []
set_option maxRecDepth 100000 in
theorem zk3_ : zCk 3000 uMx uW uT uJL uAn uBds 3 q3 q3a = true := by decide +kernel
noncomputable def p0q4d0 : List (rD) := (g0d 1 0 (g0C 0) (g0C 0) (g0C 0) m1_ []) :: []
noncomputable def p0q4m0 (t : List (rMm)) : List (rMm) := (g0m 0 15 0 3 1) :: (g0m 0 15 0 0 2) :: t
noncomputable def p0q4m1 (t : List (rMm)) : List (rMm) := p0q4m0 ((g0r 1 15 (g0C 0) (g0C 0) (g0C 1)) :: t)
noncomputable def p0q4l0 (t : List (zLg)) : List (zLg) := (.inl 1, [g0C 1, g0V 2], 0, 0, g0C 1) :: t
noncomputable def q4_0 : zNx := (1, 0, ([g0T 2147483647 0, g0R 0 2000, g0R 0 3], [], [], [g0c 0 0 0], p0q4d0, p0q4m1 [], 0, 0), p0q4l0 [], [])
noncomputable def p0q4r0 (t : List (Int × Int)) : List (Int × Int) := (g0R 0 2147483647) :: (g0R 0 2000) :: (g0R 0 3) :: t
noncomputable def q4_1 : zNx := (1, 0, (p0q4r0 [], [g0X [g0A 1, g0B 0] 0], [], [g0v 0 0 0], (g0d 0 15 (g0C 0) (g0C 3) (g0V 0) 0 []) :: p0q4d0, p0q4m0 [g0r 1 15 (g0C 0) (g0C 0) (g0C 0)], 0, 0), [(.inl 1, [g0C 0, g0V 2], 0, 0, g0C 0)], [])
noncomputable def q4_2 : zNx := (1, 0, (p0q4r0 [], [g0Z [g0B 1, g0A 0] 0], [], [g0c 0 0 0], p0q4d0, p0q4m1 [], 0, 0), p0q4l0 [], [])
noncomputable def q4 : List zNx := [q4_0, q4_1, q4_2]
noncomputable def q4a : List (List zNx) := []
set_option maxRecDepth 100000 in
theorem zk4_ : zCk 3000 uMx uW uT uJL uAn uBds 4 q4 q4a = true := by decide +kernel
noncomputable def q5_0 : zNx := (1, 0, ([g0R 0 2000, g0R 0 2000, g0R 0 2000], [], [], [], [g0d 0 15 (g0C 0) (g0C 35) (g0C 0) 0 [], g0d 0 15 (g0C 0) (g0C 3) (g0C 0) 0 [], g0d 0 15 (g0C 0) (g0C 34) (g0V 0) 0 []], [g0m 0 15 0 3 0, g0m 0 15 0 34 1, g0m 0 15 0 35 2], 0, 0), [], [])
noncomputable def q5 : List zNx := [q5_0]
noncomputable def q5a : List (List zNx) := []
set_option maxRecDepth 100000 in
theorem zk5_ : zCk 3000 uMx uW uT uJL uAn uBds 5 q5 q5a = true := by decide +kernel
noncomputable def p0q6r0 (t : List (Int × Int)) : List (Int × Int) := (g0R 0 2147483647) :: (g0R 0 2000) :: t
noncomputable def q6_0 : zNx := (1, 0, (p0q6r0 [], [g0X [g0B 1, g0A 0] 0], [], [g0w 0 0 (g0D 0)], [], [g0m 0 15 0 34 1], 0, 0), [], [])
noncomputable def q6_1 : zNx := (1, 0, (p0q6r0 [g0S 127 127], [g0Z [g0A 1, g0B 0] 0], [], [g0v 0 0 2], [], [g0m 0 15 0 34 1, g0o 0 59 0 0 2], 0, 0), [], [])
noncomputable def q6 : List zNx := [q6_0, q6_1]
noncomputable def q6a : List (List zNx) := []
set_option maxRecDepth 100000 in
theorem zk6_ : zCk 3000 uMx uW uT uJL uAn uBds 6 q6 q6a = true := by decide +kernel
noncomputable def p0q7f0 : List (rX) := (g0Z [g0A 1, g0B 0] 0) :: (g0X [g0A 1, g0B 0] 0) :: []
noncomputable def p0q7d0 : List (rD) := (g0d 1 0 (g0C 0) (g0C 0) (g0C 0) m0_ []) :: []
noncomputable def p0q7m0 (t : List (rMm)) : List (rMm) := (g0m 0 15 0 35 0) :: (g0m 0 15 0 34 1) :: t
noncomputable def p0q7l0 (t : List (zLg)) : List (zLg) := (.inl 6, [g0V 0, g0V 1], 0, 0, g0V 2) :: t
noncomputable def q7_0 : zNx := (2, 0, ([g0R 0 2000, g0R 0 2000, g0R 32 32], p0q7f0, [], [], (g0d 0 15 (g0C 0) (g0C 35) (g0W 0 1) 0 []) :: p0q7d0, p0q7m0 [], 0, 0), p0q7l0 [], [g0V 0, g0V 1, g0W 0 1])
noncomputable def p0q7r0 (t : List (Int × Int)) : List (Int × Int) := (g0R 0 2000) :: (g0R 0 2000) :: (g0S 127 127) :: t
noncomputable def p0q7d1 : List (rD) := (g0d 1 0 (g0C 0) (g0C 0) (g0C 0) m0_ []) :: p0q7d0
noncomputable def p0q7l1 (t : List (zLg)) : List (zLg) := p0q7l0 ((.inr .nop, [g0V 2, g0C 32, g0C 0], 0, 0, g0C 0) :: (.inl 6, [g0V 0, g0V 1], 1, 0, g0V 3) :: t)
noncomputable def q7_1 : zNx := (1, 0, (p0q7r0 [g0S 127 127], p0q7f0, [], [], p0q7d1, p0q7m0 [], 0, 0), p0q7l1 [(.inr .nop, [g0V 3, g0C 10, g0C 0], 0, 0, g0C 0)], [])
noncomputable def q7_2 : zNx := (2, 0, (p0q7r0 [g0R 10 10], p0q7f0, [], [], (g0d 0 15 (g0C 0) (g0C 35) (g0W 0 1) 0 []) :: p0q7d1, p0q7m0 [], 0, 0), p0q7l1 [], [g0V 0, g0V 1, g0W 0 1])
noncomputable def q7_3 : zNx := (1, 0, ([g0R 0 2000, g0R 0 2000], [g0X [g0B 1, g0A 0] 0, g0X [g0A 1, g0B 0] 0], [], [], p0q7d1, p0q7m0 [], 0, 0), [(.inl 6, [g0V 0, g0V 1], 0, 0, g0D 0), (.inl 6, [g0V 0, g0V 1], 1, 0, g0D 0)], [])
noncomputable def q7 : List zNx := [q7_0, q7_1, q7_2, q7_3]
noncomputable def p0q7r1 (t : List (Int × Int)) : List (Int × Int) := (g0R 0 2000) :: (g0R 0 2000) :: (g0R 1 2000) :: t
noncomputable def p0q7f1 : List (rX) := (g0Z [g0A 1, g0B 0] 0) :: (g0X [g0B 2, g0A 1] 0) :: (g0Z [g0A 2, g0B 0] 0) :: (g0X [g0A 1, g0B 0] 0) :: []
noncomputable def p0q7d2 : List (rD) := (g0d 1 0 (g0C 0) (g0C 0) (g0C 0) m0_ []) :: (g0d 1 0 (g0C 0) (g0C 0) (g0C 0) m6_ []) :: []
noncomputable def p0q7l2 (t : List (zLg)) : List (zLg) := (.inl 6, [g0V 2, g0V 1], 1, 0, g0V 3) :: t
noncomputable def q7a0_0 : zNx := (2, 0, (p0q7r1 [g0R 32 32], (g0Z [g0B 2, g0A 1] 0) :: p0q7f1, [], [], (g0d 0 15 (g0C 0) (g0C 35) (g0W 2 1) 0 []) :: p0q7d2, p0q7m0 [g0m 1 15 0 35 2], 0, 0), p0q7l2 [], [g0V 0, g0V 1, g0W 2 1])
noncomputable def p0q7d3 : List (rD) := (g0d 1 0 (g0C 0) (g0C 0) (g0C 0) m0_ []) :: p0q7d2
noncomputable def p0q7l3 (t : List (zLg)) : List (zLg) := p0q7l2 ((.inr .nop, [g0V 3, g0C 32, g0C 0], 0, 0, g0C 0) :: (.inl 6, [g0V 2, g0V 1], 2, 0, g0V 4) :: t)
noncomputable def q7a0_1 : zNx := (1, 0, (p0q7r1 [g0S 127 127, g0S 127 127], (g0Z [g0B 2, g0A 1] 0) :: p0q7f1, [], [], p0q7d3, p0q7m0 [g0m 1 15 0 35 2], 0, 0), p0q7l3 [(.inr .nop, [g0V 4, g0C 10, g0C 0], 0, 0, g0C 0)], [])
noncomputable def q7a0_2 : zNx := (2, 0, (p0q7r1 [g0S 127 127, g0R 10 10], (g0Z [g0B 2, g0A 1] 0) :: p0q7f1, [], [], (g0d 0 15 (g0C 0) (g0C 35) (g0W 2 1) 0 []) :: p0q7d3, p0q7m0 [g0m 1 15 0 35 2], 0, 0), p0q7l3 [], [g0V 0, g0V 1, g0W 2 1])
noncomputable def q7a0_3 : zNx := (1, 0, (p0q7r1 [], (g0X [g0A 2, g0B 1] 0) :: p0q7f1, [], [], p0q7d3, p0q7m0 [g0m 1 15 0 35 2], 0, 0), [(.inl 6, [g0V 2, g0V 1], 1, 0, g0D 0), (.inl 6, [g0V 2, g0V 1], 2, 0, g0D 0)], [])
noncomputable def q7a0 : List zNx := [q7a0_0, q7a0_1, q7a0_2, q7a0_3]
noncomputable def q7a : List (List zNx) := [q7a0]
set_option maxRecDepth 100000 in
theorem zk7_ : zCk 3000 uMx uW uT uJL uAn uBds 7 q7 q7a = true := by decide +kernel
noncomputable def p0q8r0 (t : List (Int × Int)) : List (Int × Int) := (g0R 0 2147483647) :: (g0R 0 2000) :: (g0R 0 2000) :: t
noncomputable def p0q8m0 (t : List (rMm)) : List (rMm) := (g0m 0 15 0 34 1) :: (g0m 0 15 0 36 2) :: t
noncomputable def q8_0 : zNx := (1, 0, (p0q8r0 [], [g0X [g0B 1, g0A 0] 0], [], [g0c 0 0 0], [g0d 0 15 (g0C 0) (g0C 36) (g0V 1) 0 []], p0q8m0 [], 0, 0), [], [])
noncomputable def q8_1 : zNx := (1, 0, (p0q8r0 [], [g0Z [g0A 1, g0B 0] 0], [], [g0c 0 0 0], [g0d 0 15 (g0C 0) (g0C 36) (g0V 0) 0 []], p0q8m0 [], 0, 0), [], [])
noncomputable def q8 : List zNx := [q8_0, q8_1]
noncomputable def q8a : List (List zNx) := []
set_option maxRecDepth 100000 in
theorem zk8_ : zCk 3000 uMx uW uT uJL uAn uBds 8 q8 q8a = true := by decide +kernel
noncomputable def q9_0 : zNx := (1, 0, ([g0S 2147483647 96], [], [], [g0c 0 0 0], [], [], 0, 0), [], [])
noncomputable def q9_1 : zNx := (1, 0, ([g0R 123 2147483647], [], [], [g0c 0 0 0], [], [], 0, 0), [], [])
noncomputable def q9_2 : zNx := (1, 0, ([g0R 97 122], [], [], [g0c 0 0 1], [], [], 0, 0), [], [])
noncomputable def q9 : List zNx := [q9_0, q9_1, q9_2]
noncomputable def q9a : List (List zNx) := []
set_option maxRecDepth 100000 in
theorem zk9_ : zCk 3000 uMx uW uT uJL uAn uBds 9 q9 q9a = true := by decide +kernel
noncomputable def q10_0 : zNx := (1, 0, ([g0S 2147483647 64], [], [], [g0c 0 0 0], [], [], 0, 0), [], [])
noncomputable def q10_1 : zNx := (1, 0, ([g0R 91 2147483647], [], [], [g0c 0 0 0], [], [], 0, 0), [], [])
noncomputable def q10_2 : zNx := (1, 0, ([g0R 65 90], [], [], [g0c 0 0 1], [], [], 0, 0), [], [])
noncomputable def q10 : List zNx := [q10_0, q10_1, q10_2]
noncomputable def q10a : List (List zNx) := []
set_option maxRecDepth 100000 in
theorem zk10_ : zCk 3000 uMx uW uT uJL uAn uBds 10 q10 q10a = true := by decide +kernel
noncomputable def q11_0 : zNx := (1, 0, ([g0S 2147483647 47], [], [], [g0c 0 0 0], [], [], 0, 0), [], [])
noncomputable def q11_1 : zNx := (1, 0, ([g0R 58 2147483647], [], [], [g0c 0 0 0], [], [], 0, 0), [], [])
noncomputable def q11_2 : zNx := (1, 0, ([g0R 48 57], [], [], [g0c 0 0 1], [], [], 0, 0), [], [])
noncomputable def q11 : List zNx := [q11_0, q11_1, q11_2]
noncomputable def q11a : List (List zNx) := []
set_option maxRecDepth 100000 in
theorem zk11_ : zCk 3000 uMx uW uT uJL uAn uBds 11 q11 q11a = true := by decide +kernel
noncomputable def p0q12m0 (t : List (rMm)) : List (rMm) := (g0m 0 15 0 35 0) :: (g0m 0 15 0 34 1) :: (g0m 0 15 0 37 2) :: (g0m 0 15 0 36 3) :: (g0m 0 15 0 38 4) :: t
noncomputable def q12_0 : zNx := (2, 0, ([g0R 0 2000, g0R 0 2000, g0R 0 2000, g0R 0 2000, g0R 0 2000], [g0Z [g0A 1, g0B 0] 0], [], [], [g0d 0 15 (g0C 0) (g0C 37) (g0V 0) 0 []], p0q12m0 [], 0, 0), [], [g0V 0, g0V 1, g0V 2, g0V 3, g0V 4, g0W 0 1])
noncomputable def q12 : List zNx := [q12_0]
noncomputable def p0q12r0 (t : List (Int × Int)) : List (Int × Int) := (g0R 0 1999) :: (g0R 0 2000) :: (g0R 0 2000) :: (g0R 0 2000) :: (g0R 0 2000) :: (g0R 1 2000) :: t
noncomputable def p0q12r1 (t : List (Int × Int)) : List (Int × Int) := p0q12r0 ((g0S 127 127) :: (g0S 127 127) :: (g0S 127 127) :: t)
noncomputable def p0q12f0 : List (rX) := (g0Z [g0A 1, g0B 0] 0) :: (g0X [g0B 5, g0A 1] 0) :: (g0Z [g0A 5, g0B 0] 0) :: []
noncomputable def p0q12d0 : List (rD) := (g0d 1 0 (g0C 0) (g0C 0) (g0C 0) m0_ []) :: (g0d 1 0 (g0C 0) (g0C 0) (g0C 0) m0_ []) :: (g0d 1 0 (g0C 0) (g0C 0) (g0C 0) m9_ []) :: []
noncomputable def p0q12d1 : List (rD) := (g0d 1 0 (g0C 0) (g0C 0) (g0C 0) m0_ []) :: (g0d 1 0 (g0C 0) (g0C 0) (g0C 0) m0_ []) :: p0q12d0
noncomputable def p0q12d2 : List (rD) := (g0d 1 0 (g0C 0) (g0C 0) (g0C 0) m0_ []) :: p0q12d1
noncomputable def p0q12d3 : List (rD) := (g0d 0 15 (g0C 0) (g0C 38) (g0X [g0A 5, g0B 0] 0) 0 []) :: p0q12d2
noncomputable def p0q12d4 : List (rD) := (g0d 0 15 (g0C 0) (g0C 35) (g0V 5) 0 []) :: p0q12d3
noncomputable def p0q12l0 (t : List (zLg)) : List (zLg) := (.inl 6, [g0V 5, g0V 1], 1, 0, g0V 6) :: t
noncomputable def p0q12l1 (t : List (zLg)) : List (zLg) := p0q12l0 ((.inl 9, [g0V 6], 2, 0, g0C 0) :: (.inl 6, [g0V 5, g0V 1], 3, 0, g0V 7) :: t)
noncomputable def p0q12l2 (t : List (zLg)) : List (zLg) := p0q12l1 ((.inl 11, [g0V 7], 4, 0, g0C 0) :: (.inl 6, [g0V 5, g0V 1], 5, 0, g0V 8) :: t)
noncomputable def p0q12l3 (t : List (zLg)) : List (zLg) := p0q12l2 ((.inr .nop, [g0V 8, g0C 95, g0C 0], 0, 0, g0C 0) :: t)
noncomputable def q12a0_0 : zNx := (1, 0, (p0q12r1 [], (g0X [g0B 5, g0A 0] 12) :: (g0Z [g0B 5, g0A 1] 0) :: p0q12f0, [], [g0c 0 0 1], p0q12d4, p0q12m0 [g0m 1 15 0 37 0], 0, 0), p0q12l3 [], [])
noncomputable def p0q12d5 : List (rD) := (g0d 1 0 (g0C 0) (g0C 0) (g0C 0) m7_ []) :: p0q12d3
noncomputable def q12a0_1 : zNx := (1, 0, (p0q12r1 [g0R 0 2000], (g0X [g0B 9, g0A 0] 0) :: (g0X [g0B 9, g0A 1] 0) :: (g0Z [g0A 5, g0B 0] 12) :: (g0Z [g0B 5, g0A 1] 0) :: p0q12f0, [], [g0c 0 0 0], p0q12d5, p0q12m0 [g0m 1 15 0 37 0, g0m 8 15 0 36 9], 0, 0), p0q12l3 [(.inl 8, [g0V 0, g0V 1, g0V 3], 7, 0, g0C 0)], [])
noncomputable def q12a0_2 : zNx := (2, 0, (p0q12r0 [g0S 127 127, g0S 127 127, g0R 95 95], (g0Z [g0B 5, g0A 1] 0) :: p0q12f0, [], [], p0q12d2, p0q12m0 [g0m 1 15 0 37 0], 0, 0), p0q12l2 [], [g0V 0, g0V 1, g0V 2, g0V 3, g0V 4, g0W 5 1])
noncomputable def q12a0_3 : zNx := (2, 0, (p0q12r0 [g0S 127 127, g0R 48 57], (g0Z [g0B 5, g0A 1] 0) :: p0q12f0, [], [], p0q12d1, p0q12m0 [g0m 1 15 0 37 0], 0, 0), p0q12l1 [(.inl 11, [g0V 7], 4, 0, g0C 1)], [g0V 0, g0V 1, g0V 2, g0V 3, g0V 4, g0W 5 1])
noncomputable def q12a0_4 : zNx := (2, 0, (p0q12r0 [g0R 97 122], (g0Z [g0B 5, g0A 1] 0) :: p0q12f0, [], [], p0q12d0, p0q12m0 [g0m 1 15 0 37 0], 0, 0), p0q12l0 [(.inl 9, [g0V 6], 2, 0, g0C 1)], [g0V 0, g0V 1, g0V 2, g0V 3, g0V 4, g0W 5 1])
noncomputable def p0q12l4 (t : List (zLg)) : List (zLg) := (.inl 6, [g0V 5, g0V 1], 1, 0, g0D 0) :: (.inl 9, [g0D 0], 2, 0, g0C 0) :: (.inl 6, [g0V 5, g0V 1], 3, 0, g0D 0) :: (.inl 11, [g0D 0], 4, 0, g0C 0) :: (.inl 6, [g0V 5, g0V 1], 5, 0, g0D 0) :: t
noncomputable def q12a0_5 : zNx := (1, 0, (p0q12r0 [], (g0X [g0B 5, g0A 0] 12) :: (g0X [g0A 5, g0B 1] 0) :: p0q12f0, [], [g0c 0 0 1], p0q12d4, p0q12m0 [g0m 1 15 0 37 0], 0, 0), p0q12l4 [], [])
noncomputable def q12a0_6 : zNx := (1, 0, (p0q12r0 [g0R 0 2000], (g0X [g0B 6, g0A 0] 0) :: (g0X [g0B 6, g0A 1] 0) :: (g0Z [g0A 5, g0B 0] 12) :: (g0X [g0A 5, g0B 1] 0) :: p0q12f0, [], [g0c 0 0 0], p0q12d5, p0q12m0 [g0m 1 15 0 37 0, g0m 8 15 0 36 6], 0, 0), p0q12l4 [(.inl 8, [g0V 0, g0V 1, g0V 3], 7, 0, g0C 0)], [])
noncomputable def q12a0 : List zNx := [q12a0_0, q12a0_1, q12a0_2, q12a0_3, q12a0_4, q12a0_5, q12a0_6]
noncomputable def q12a : List (List zNx) := [q12a0]
set_option maxRecDepth 100000 in
theorem zk12_ : zCk 3000 uMx uW uT uJL uAn uBds 12 q12 q12a = true := by decide +kernel
noncomputable def p0q13r0 (t : List (Int × Int)) : List (Int × Int) := g0I :: g0I :: g0I :: g0I :: g0I :: (g0R 0 2000) :: t
noncomputable def p0q13m0 (t : List (rMm)) : List (rMm) := (g0m 0 15 0 37 5) :: (g0m 0 15 0 38 6) :: t
noncomputable def p0q13l0 (t : List (zLg)) : List (zLg) := (.inr .nop, [g0V 1, g0C 0, g0C 0], 0, 0, g0C 0) :: t
noncomputable def p0q13l1 (t : List (zLg)) : List (zLg) := p0q13l0 ((.inr .nop, [g0V 2, g0C 0, g0C 0], 0, 0, g0C 0) :: t)
noncomputable def p0q13l2 (t : List (zLg)) : List (zLg) := p0q13l1 ((.inr .nop, [g0V 3, g0C 0, g0C 0], 0, 0, g0C 0) :: t)
noncomputable def p0q13l3 (t : List (zLg)) : List (zLg) := p0q13l2 ((.inr .nop, [g0V 4, g0C 0, g0C 0], 0, 0, g0C 0) :: t)
noncomputable def q13_0 : zNx := (1, 0, (p0q13r0 [g0R 0 2000], [g0X [g0B 6, g0B 5] 2000], [], [g0c 0 0 0], [], p0q13m0 [], 0, 0), p0q13l3 [(.inr .nop, [g0V 6, g0C 5, g0C 0], 0, 0, g0C 0)], [])
noncomputable def q13_1 : zNx := (1, 0, (p0q13r0 [g0R 5 5, g0S 127 127], [g0X [g0B 6, g0B 5] 2000], [], [g0c 0 0 0], [], p0q13m0 [g0o 0 59 0 5 7], 0, 0), p0q13l3 [(.inr .nop, [g0V 7, g0V 0, g0C 0], 0, 0, g0C 0)], [])
noncomputable def p0q13r1 (t : List (Int × Int)) : List (Int × Int) := p0q13r0 ((g0R 5 5) :: (g0S 127 127) :: (g0S 127 127) :: t)
noncomputable def p0q13f0 : List (rX) := (g0X [g0B 7, g0A 0] 0) :: (g0X [g0A 7, g0B 0] 0) :: (g0X [g0B 6, g0B 5] 2000) :: []
noncomputable def p0q13m1 (t : List (rMm)) : List (rMm) := p0q13m0 ((g0o 0 59 0 5 7) :: (g0q 0 59 (g0C 0) (g0W 5 1) 8) :: t)
noncomputable def q13_2 : zNx := (1, 0, (p0q13r1 [], p0q13f0, [], [g0c 0 0 0], [], p0q13m1 [], 0, 0), p0q13l3 [(.inr .nop, [g0V 8, g0V 1, g0C 0], 0, 0, g0C 0)], [])
noncomputable def p0q13f1 : List (rX) := (g0X [g0B 8, g0A 1] 0) :: (g0X [g0A 8, g0B 1] 0) :: p0q13f0
noncomputable def p0q13m2 (t : List (rMm)) : List (rMm) := p0q13m1 ((g0q 0 59 (g0C 0) (g0W 5 2) 9) :: t)
noncomputable def q13_3 : zNx := (1, 0, (p0q13r1 [g0S 127 127], p0q13f1, [], [g0c 0 0 0], [], p0q13m2 [], 0, 0), p0q13l3 [(.inr .nop, [g0V 9, g0V 2, g0C 0], 0, 0, g0C 0)], [])
noncomputable def p0q13f2 : List (rX) := (g0X [g0B 9, g0A 2] 0) :: (g0X [g0A 9, g0B 2] 0) :: p0q13f1
noncomputable def p0q13m3 (t : List (rMm)) : List (rMm) := p0q13m2 ((g0q 0 59 (g0C 0) (g0W 5 3) 10) :: t)
noncomputable def q13_4 : zNx := (1, 0, (p0q13r1 [g0S 127 127, g0S 127 127], p0q13f2, [], [g0c 0 0 0], [], p0q13m3 [], 0, 0), p0q13l3 [(.inr .nop, [g0V 10, g0V 3, g0C 0], 0, 0, g0C 0)], [])
noncomputable def p0q13r2 (t : List (Int × Int)) : List (Int × Int) := p0q13r1 ((g0S 127 127) :: (g0S 127 127) :: (g0S 127 127) :: t)
noncomputable def p0q13f3 : List (rX) := (g0X [g0B 10, g0A 3] 0) :: (g0X [g0A 10, g0B 3] 0) :: p0q13f2
noncomputable def p0q13m4 (t : List (rMm)) : List (rMm) := p0q13m3 ((g0q 0 59 (g0C 0) (g0W 5 4) 11) :: t)
noncomputable def q13_5 : zNx := (1, 0, (p0q13r2 [], p0q13f3, [], [g0c 0 0 0], [], p0q13m4 [], 0, 0), p0q13l3 [(.inr .nop, [g0V 11, g0V 4, g0C 0], 0, 0, g0C 0)], [])
noncomputable def q13_6 : zNx := (1, 0, (p0q13r2 [], (g0X [g0B 11, g0A 4] 0) :: (g0X [g0A 11, g0B 4] 0) :: p0q13f3, [], [g0c 0 0 1], [], p0q13m4 [], 0, 0), p0q13l3 [], [])
noncomputable def p0q13r3 (t : List (Int × Int)) : List (Int × Int) := g0I :: g0I :: g0I :: g0I :: (g0R 0 0) :: (g0R 0 2000) :: t
noncomputable def q13_7 : zNx := (1, 0, (p0q13r3 [g0R 0 2000], [g0X [g0B 6, g0B 5] 2000], [], [g0c 0 0 0], [], p0q13m0 [], 0, 0), p0q13l2 [(.inr .nop, [g0V 6, g0C 4, g0C 0], 0, 0, g0C 0)], [])
noncomputable def q13_8 : zNx := (1, 0, (p0q13r3 [g0R 4 4, g0S 127 127], [g0X [g0B 6, g0B 5] 2000], [], [g0c 0 0 0], [], p0q13m0 [g0o 0 59 0 5 7], 0, 0), p0q13l2 [(.inr .nop, [g0V 7, g0V 0, g0C 0], 0, 0, g0C 0)], [])
noncomputable def p0q13r4 (t : List (Int × Int)) : List (Int × Int) := p0q13r3 ((g0R 4 4) :: (g0S 127 127) :: (g0S 127 127) :: t)
noncomputable def q13_9 : zNx := (1, 0, (p0q13r4 [], p0q13f0, [], [g0c 0 0 0], [], p0q13m1 [], 0, 0), p0q13l2 [(.inr .nop, [g0V 8, g0V 1, g0C 0], 0, 0, g0C 0)], [])
noncomputable def q13_10 : zNx := (1, 0, (p0q13r4 [g0S 127 127], p0q13f1, [], [g0c 0 0 0], [], p0q13m2 [], 0, 0), p0q13l2 [(.inr .nop, [g0V 9, g0V 2, g0C 0], 0, 0, g0C 0)], [])
noncomputable def q13_11 : zNx := (1, 0, (p0q13r4 [g0S 127 127, g0S 127 127], p0q13f2, [], [g0c 0 0 0], [], p0q13m3 [], 0, 0), p0q13l2 [(.inr .nop, [g0V 10, g0V 3, g0C 0], 0, 0, g0C 0)], [])
noncomputable def q13_12 : zNx := (1, 0, (p0q13r4 [g0S 127 127, g0S 127 127], p0q13f3, [], [g0c 0 0 1], [], p0q13m3 [], 0, 0), p0q13l2 [], [])
noncomputable def p0q13r5 (t : List (Int × Int)) : List (Int × Int) := g0I :: g0I :: g0I :: (g0R 0 0) :: g0I :: (g0R 0 2000) :: t
noncomputable def q13_13 : zNx := (1, 0, (p0q13r5 [g0R 0 2000], [g0X [g0B 6, g0B 5] 2000], [], [g0c 0 0 0], [], p0q13m0 [], 0, 0), p0q13l1 [(.inr .nop, [g0V 6, g0C 3, g0C 0], 0, 0, g0C 0)], [])
noncomputable def q13_14 : zNx := (1, 0, (p0q13r5 [g0R 3 3, g0S 127 127], [g0X [g0B 6, g0B 5] 2000], [], [g0c 0 0 0], [], p0q13m0 [g0o 0 59 0 5 7], 0, 0), p0q13l1 [(.inr .nop, [g0V 7, g0V 0, g0C 0], 0, 0, g0C 0)], [])
noncomputable def p0q13r6 (t : List (Int × Int)) : List (Int × Int) := p0q13r5 ((g0R 3 3) :: (g0S 127 127) :: (g0S 127 127) :: t)
noncomputable def q13_15 : zNx := (1, 0, (p0q13r6 [], p0q13f0, [], [g0c 0 0 0], [], p0q13m1 [], 0, 0), p0q13l1 [(.inr .nop, [g0V 8, g0V 1, g0C 0], 0, 0, g0C 0)], [])
noncomputable def q13_16 : zNx := (1, 0, (p0q13r6 [g0S 127 127], p0q13f1, [], [g0c 0 0 0], [], p0q13m2 [], 0, 0), p0q13l1 [(.inr .nop, [g0V 9, g0V 2, g0C 0], 0, 0, g0C 0)], [])
noncomputable def q13_17 : zNx := (1, 0, (p0q13r6 [g0S 127 127], p0q13f2, [], [g0c 0 0 1], [], p0q13m2 [], 0, 0), p0q13l1 [], [])
noncomputable def p0q13r7 (t : List (Int × Int)) : List (Int × Int) := g0I :: g0I :: (g0R 0 0) :: g0I :: g0I :: (g0R 0 2000) :: t
noncomputable def q13_18 : zNx := (1, 0, (p0q13r7 [g0R 0 2000], [g0X [g0B 6, g0B 5] 2000], [], [g0c 0 0 0], [], p0q13m0 [], 0, 0), p0q13l0 [(.inr .nop, [g0V 6, g0C 2, g0C 0], 0, 0, g0C 0)], [])
noncomputable def q13_19 : zNx := (1, 0, (p0q13r7 [g0R 2 2, g0S 127 127], [g0X [g0B 6, g0B 5] 2000], [], [g0c 0 0 0], [], p0q13m0 [g0o 0 59 0 5 7], 0, 0), p0q13l0 [(.inr .nop, [g0V 7, g0V 0, g0C 0], 0, 0, g0C 0)], [])
noncomputable def p0q13r8 (t : List (Int × Int)) : List (Int × Int) := p0q13r7 ((g0R 2 2) :: (g0S 127 127) :: (g0S 127 127) :: t)
noncomputable def q13_20 : zNx := (1, 0, (p0q13r8 [], p0q13f0, [], [g0c 0 0 0], [], p0q13m1 [], 0, 0), p0q13l0 [(.inr .nop, [g0V 8, g0V 1, g0C 0], 0, 0, g0C 0)], [])
noncomputable def q13_21 : zNx := (1, 0, (p0q13r8 [], p0q13f1, [], [g0c 0 0 1], [], p0q13m1 [], 0, 0), p0q13l0 [], [])
noncomputable def p0q13r9 (t : List (Int × Int)) : List (Int × Int) := g0I :: (g0R 0 0) :: g0I :: g0I :: g0I :: (g0R 0 2000) :: t
noncomputable def q13_22 : zNx := (1, 0, (p0q13r9 [g0R 0 2000], [g0X [g0B 6, g0B 5] 2000], [], [g0c 0 0 0], [], p0q13m0 [], 0, 0), [(.inr .nop, [g0V 6, g0C 1, g0C 0], 0, 0, g0C 0)], [])
noncomputable def q13_23 : zNx := (1, 0, (p0q13r9 [g0R 1 1, g0S 127 127], [g0X [g0B 6, g0B 5] 2000], [], [g0c 0 0 0], [], p0q13m0 [g0o 0 59 0 5 7], 0, 0), [(.inr .nop, [g0V 7, g0V 0, g0C 0], 0, 0, g0C 0)], [])
noncomputable def q13_24 : zNx := (1, 0, (p0q13r9 [g0R 1 1, g0S 127 127], p0q13f0, [], [g0c 0 0 1], [], p0q13m0 [g0o 0 59 0 5 7], 0, 0), [], [])
noncomputable def q13 : List zNx := [q13_0, q13_1, q13_2, q13_3, q13_4, q13_5, q13_6, q13_7, q13_8, q13_9, q13_10, q13_11, q13_12, q13_13, q13_14, q13_15, q13_16, q13_17, q13_18, q13_19, q13_20, q13_21, q13_22, q13_23, q13_24]
noncomputable def q13a : List (List zNx) := []
set_option maxRecDepth 100000 in
theorem zk13_ : zCk 3000 uMx uW uT uJL uAn uBds 13 q13 q13a = true := by decide +kernel
noncomputable def p0q14r0 (t : List (Int × Int)) : List (Int × Int) := (g0R 0 2000) :: (g0R 0 2000) :: (g0R 0 2000) :: (g0R 0 3) :: t
noncomputable def p0q14d0 : List (rD) := (g0d 1 0 (g0C 0) (g0C 0) (g0C 0) m0_ []) :: (g0d 1 0 (g0C 0) (g0C 0) (g0C 0) m0_ []) :: (g0d 1 0 (g0C 0) (g0C 0) (g0C 0) m0_ []) :: []
noncomputable def p0q14d1 : List (rD) := (g0d 1 0 (g0C 0) (g0C 0) (g0C 0) m7_ []) :: p0q14d0
noncomputable def p0q14m0 (t : List (rMm)) : List (rMm) := (g0m 0 15 0 35 0) :: (g0m 0 15 0 34 1) :: (g0m 0 15 0 36 2) :: (g0m 0 15 0 40 3) :: t
noncomputable def p0q14l0 (t : List (zLg)) : List (zLg) := (.inl 6, [g0V 0, g0V 1], 0, 0, g0V 4) :: t
noncomputable def p0q14l1 (t : List (zLg)) : List (zLg) := p0q14l0 ((.inr .nop, [g0V 4, g0C 45, g0C 0], 0, 0, g0C 0) :: (.inl 6, [g0V 0, g0V 1], 1, 0, g0V 5) :: t)
noncomputable def q14_0 : zNx := (1, 0, (p0q14r0 [g0S 127 127, g0S 127 127, g0R 0 2000], [g0X [g0B 6, g0A 0] 0, g0X [g0B 6, g0A 1] 0, g0Z [g0A 1, g0B 0] 0], [], [g0c 0 0 0], p0q14d1, p0q14m0 [g0m 4 15 0 36 6], 0, 0), p0q14l1 [(.inl 11, [g0V 5], 2, 0, g0C 0), (.inl 8, [g0V 0, g0V 1, g0V 2], 3, 0, g0C 0)], [])
noncomputable def p0q14r1 (t : List (Int × Int)) : List (Int × Int) := p0q14r0 ((g0S 127 127) :: (g0R 48 57) :: (g0S 127 127) :: t)
noncomputable def p0q14f0 : List (rX) := (g0Z [g0A 1, g0B 0] 1) :: (g0Z [g0A 1, g0B 0] 0) :: []
noncomputable def p0q14d2 : List (rD) := (g0d 1 0 (g0C 0) (g0C 0) (g0C 0) m0_ []) :: (g0d 1 0 (g0C 0) (g0C 0) (g0C 0) m0_ []) :: (g0d 1 0 (g0C 0) (g0C 0) (g0C 0) m0_ []) :: p0q14d0
noncomputable def p0q14d3 : List (rD) := (g0d 0 15 (g0C 0) (g0C 40) (g0C 0) 0 []) :: (g0d 0 15 (g0C 0) (g0C 39) (g0Y 6 47) 0 []) :: (g0d 0 15 (g0C 0) (g0C 35) (g0W 0 1) 0 []) :: p0q14d2
noncomputable def p0q14l2 (t : List (zLg)) : List (zLg) := p0q14l1 ((.inl 11, [g0V 5], 2, 0, g0C 1) :: (.inl 6, [g0V 0, g0V 1], 3, 0, g0V 6) :: t)
noncomputable def p0q14l3 (t : List (zLg)) : List (zLg) := p0q14l2 ((.inl 6, [g0W 0 1, g0V 1], 4, 0, g0V 7) :: t)
noncomputable def q14_1 : zNx := (1, 0, (p0q14r1 [g0S 127 127], p0q14f0, [], [g0c 0 0 1], p0q14d3, p0q14m0 [], 0, 0), p0q14l3 [(.inl 11, [g0V 7], 5, 0, g0C 0)], [])
noncomputable def p0q14d4 : List (rD) := (g0d 1 0 (g0C 0) (g0C 0) (g0C 0) m0_ []) :: (g0d 1 0 (g0C 0) (g0C 0) (g0C 0) m0_ []) :: (g0d 1 0 (g0C 0) (g0C 0) (g0C 0) m0_ []) :: p0q14d2
noncomputable def p0q14d5 : List (rD) := (g0d 0 15 (g0C 0) (g0C 40) (g0C 0) 0 []) :: (g0d 0 15 (g0C 0) (g0C 39) (g0Z [g0A 8, g0P 6 10] 527) 0 []) :: (g0d 0 15 (g0C 0) (g0C 35) (g0W 0 2) 0 []) :: p0q14d4
noncomputable def p0q14l4 (t : List (zLg)) : List (zLg) := p0q14l3 ((.inl 11, [g0V 7], 5, 0, g0C 1) :: (.inl 6, [g0W 0 1, g0V 1], 6, 0, g0V 8) :: t)
noncomputable def p0q14l5 (t : List (zLg)) : List (zLg) := p0q14l4 ((.inl 6, [g0W 0 2, g0V 1], 7, 0, g0V 9) :: t)
noncomputable def q14_2 : zNx := (1, 0, (p0q14r1 [g0R 48 57, g0S 127 127, g0S 127 127], (g0Z [g0A 1, g0B 0] 2) :: p0q14f0, [], [g0c 0 0 1], p0q14d5, p0q14m0 [], 0, 0), p0q14l5 [(.inl 11, [g0V 9], 8, 0, g0C 0)], [])
noncomputable def p0q14r2 (t : List (Int × Int)) : List (Int × Int) := p0q14r1 ((g0R 48 57) :: (g0S 127 127) :: (g0R 48 57) :: (g0S 127 127) :: t)
noncomputable def p0q14f1 : List (rX) := (g0Z [g0A 1, g0B 0] 3) :: (g0Z [g0A 1, g0B 0] 2) :: p0q14f0
noncomputable def p0q14d6 : List (rD) := (g0d 1 0 (g0C 0) (g0C 0) (g0C 0) m0_ []) :: (g0d 1 0 (g0C 0) (g0C 0) (g0C 0) m0_ []) :: (g0d 1 0 (g0C 0) (g0C 0) (g0C 0) m0_ []) :: p0q14d4
noncomputable def p0q14d7 : List (rD) := (g0d 0 15 (g0C 0) (g0C 40) (g0C 0) 0 []) :: (g0d 0 15 (g0C 0) (g0C 39) (g0Z [g0A 10, g0P 8 10, g0P 6 100] 5327) 0 []) :: (g0d 0 15 (g0C 0) (g0C 35) (g0W 0 3) 0 []) :: p0q14d6
noncomputable def p0q14l6 (t : List (zLg)) : List (zLg) := p0q14l5 ((.inl 11, [g0V 9], 8, 0, g0C 1) :: (.inl 6, [g0W 0 2, g0V 1], 9, 0, g0V 10) :: t)
noncomputable def p0q14l7 (t : List (zLg)) : List (zLg) := p0q14l6 ((.inl 6, [g0W 0 3, g0V 1], 10, 0, g0V 11) :: t)
noncomputable def q14_3 : zNx := (1, 0, (p0q14r2 [g0S 127 127], p0q14f1, [], [g0c 0 0 1], p0q14d7, p0q14m0 [], 0, 0), p0q14l7 [(.inl 11, [g0V 11], 11, 0, g0C 0)], [])
noncomputable def p0q14d8 : List (rD) := (g0d 1 0 (g0C 0) (g0C 0) (g0C 0) m0_ []) :: (g0d 1 0 (g0C 0) (g0C 0) (g0C 0) m0_ []) :: (g0d 1 0 (g0C 0) (g0C 0) (g0C 0) m0_ []) :: p0q14d6
noncomputable def p0q14d9 : List (rD) := (g0d 0 15 (g0C 0) (g0C 40) (g0C 0) 0 []) :: (g0d 0 15 (g0C 0) (g0C 39) (g0Z [g0A 12, g0P 10 10, g0P 8 100, g0P 6 1000] 53327) 0 []) :: (g0d 0 15 (g0C 0) (g0C 35) (g0W 0 4) 0 []) :: p0q14d8
noncomputable def p0q14l8 (t : List (zLg)) : List (zLg) := p0q14l7 ((.inl 11, [g0V 11], 11, 0, g0C 1) :: (.inl 6, [g0W 0 3, g0V 1], 12, 0, g0V 12) :: t)
noncomputable def p0q14l9 (t : List (zLg)) : List (zLg) := p0q14l8 ((.inl 6, [g0W 0 4, g0V 1], 13, 0, g0V 13) :: t)
noncomputable def q14_4 : zNx := (1, 0, (p0q14r2 [g0R 48 57, g0S 127 127, g0S 127 127], (g0Z [g0A 1, g0B 0] 4) :: p0q14f1, [], [g0c 0 0 1], p0q14d9, p0q14m0 [], 0, 0), p0q14l9 [(.inl 11, [g0V 13], 14, 0, g0C 0)], [])
noncomputable def p0q14r3 (t : List (Int × Int)) : List (Int × Int) := p0q14r2 ((g0R 48 57) :: (g0S 127 127) :: (g0R 48 57) :: (g0S 127 127) :: t)
noncomputable def p0q14f2 : List (rX) := (g0Z [g0A 1, g0B 0] 5) :: (g0Z [g0A 1, g0B 0] 4) :: p0q14f1
noncomputable def p0q14d10 : List (rD) := (g0d 1 0 (g0C 0) (g0C 0) (g0C 0) m0_ []) :: (g0d 1 0 (g0C 0) (g0C 0) (g0C 0) m0_ []) :: (g0d 1 0 (g0C 0) (g0C 0) (g0C 0) m0_ []) :: p0q14d8
noncomputable def p0q14d11 : List (rD) := (g0d 0 15 (g0C 0) (g0C 40) (g0C 0) 0 []) :: (g0d 0 15 (g0C 0) (g0C 39) (g0Z [g0A 14, g0P 12 10, g0P 10 100, g0P 8 1000, g0P 6 10000] 533327) 0 []) :: (g0d 0 15 (g0C 0) (g0C 35) (g0W 0 5) 0 []) :: p0q14d10
noncomputable def p0q14l10 (t : List (zLg)) : List (zLg) := p0q14l9 ((.inl 11, [g0V 13], 14, 0, g0C 1) :: (.inl 6, [g0W 0 4, g0V 1], 15, 0, g0V 14) :: t)
noncomputable def p0q14l11 (t : List (zLg)) : List (zLg) := p0q14l10 ((.inl 6, [g0W 0 5, g0V 1], 16, 0, g0V 15) :: t)
noncomputable def q14_5 : zNx := (1, 0, (p0q14r3 [g0S 127 127], p0q14f2, [], [g0c 0 0 1], p0q14d11, p0q14m0 [], 0, 0), p0q14l11 [(.inl 11, [g0V 15], 17, 0, g0C 0)], [])
noncomputable def p0q14d12 : List (rD) := (g0d 1 0 (g0C 0) (g0C 0) (g0C 0) m0_ []) :: (g0d 1 0 (g0C 0) (g0C 0) (g0C 0) m0_ []) :: (g0d 1 0 (g0C 0) (g0C 0) (g0C 0) m0_ []) :: p0q14d10
noncomputable def p0q14d13 : List (rD) := (g0d 0 15 (g0C 0) (g0C 40) (g0C 0) 0 []) :: (g0d 0 15 (g0C 0) (g0C 39) (g0Z [g0A 16, g0P 14 10, g0P 12 100, g0P 10 1000, g0P 8 10000, g0P 6 100000] 5333327) 0 []) :: (g0d 0 15 (g0C 0) (g0C 35) (g0W 0 6) 0 []) :: p0q14d12
noncomputable def p0q14l12 (t : List (zLg)) : List (zLg) := p0q14l11 ((.inl 11, [g0V 15], 17, 0, g0C 1) :: (.inl 6, [g0W 0 5, g0V 1], 18, 0, g0V 16) :: t)
noncomputable def p0q14l13 (t : List (zLg)) : List (zLg) := p0q14l12 ((.inl 6, [g0W 0 6, g0V 1], 19, 0, g0V 17) :: t)
noncomputable def q14_6 : zNx := (1, 0, (p0q14r3 [g0R 48 57, g0S 127 127, g0S 127 127], (g0Z [g0A 1, g0B 0] 6) :: p0q14f2, [], [g0c 0 0 1], p0q14d13, p0q14m0 [], 0, 0), p0q14l13 [(.inl 11, [g0V 17], 20, 0, g0C 0)], [])
noncomputable def p0q14r4 (t : List (Int × Int)) : List (Int × Int) := p0q14r3 ((g0R 48 57) :: (g0S 127 127) :: (g0R 48 57) :: (g0S 127 127) :: t)
noncomputable def p0q14f3 : List (rX) := (g0Z [g0A 1, g0B 0] 7) :: (g0Z [g0A 1, g0B 0] 6) :: p0q14f2
noncomputable def p0q14d14 : List (rD) := (g0d 1 0 (g0C 0) (g0C 0) (g0C 0) m0_ []) :: (g0d 1 0 (g0C 0) (g0C 0) (g0C 0) m0_ []) :: (g0d 1 0 (g0C 0) (g0C 0) (g0C 0) m0_ []) :: p0q14d12
noncomputable def p0q14d15 : List (rD) := (g0d 0 15 (g0C 0) (g0C 40) (g0C 0) 0 []) :: (g0d 0 15 (g0C 0) (g0C 39) (g0Z [g0A 18, g0P 16 10, g0P 14 100, g0P 12 1000, g0P 10 10000, g0P 8 100000, g0P 6 1000000] 53333327) 0 []) :: (g0d 0 15 (g0C 0) (g0C 35) (g0W 0 7) 0 []) :: p0q14d14
noncomputable def p0q14l14 (t : List (zLg)) : List (zLg) := p0q14l13 ((.inl 11, [g0V 17], 20, 0, g0C 1) :: (.inl 6, [g0W 0 6, g0V 1], 21, 0, g0V 18) :: t)
noncomputable def p0q14l15 (t : List (zLg)) : List (zLg) := p0q14l14 ((.inl 6, [g0W 0 7, g0V 1], 22, 0, g0V 19) :: t)
noncomputable def q14_7 : zNx := (1, 0, (p0q14r4 [g0S 127 127], p0q14f3, [], [g0c 0 0 1], p0q14d15, p0q14m0 [], 0, 0), p0q14l15 [(.inl 11, [g0V 19], 23, 0, g0C 0)], [])
noncomputable def p0q14d16 : List (rD) := (g0d 1 0 (g0C 0) (g0C 0) (g0C 0) m0_ []) :: p0q14d14
noncomputable def q14_8 : zNx := (2, 0, (p0q14r4 [g0R 48 57, g0S 127 127], p0q14f3, [], [], p0q14d16, p0q14m0 [], 0, 0), p0q14l15 [(.inl 11, [g0V 19], 23, 0, g0C 1), (.inl 6, [g0W 0 7, g0V 1], 24, 0, g0V 20)], [g0V 0, g0V 1, g0V 2, g0V 3, g0W 0 8, g0Z [g0A 20, g0P 18 10, g0P 16 100, g0P 14 1000, g0P 12 10000, g0P 10 100000, g0P 8 1000000, g0P 6 10000000] 533333327, g0V 0, g0C 0])
noncomputable def p0q14f4 : List (rX) := (g0X [g0B 1, g0A 0] 7) :: (g0Z [g0A 1, g0B 0] 6) :: p0q14f2
noncomputable def q14_9 : zNx := (1, 0, (p0q14r4 [], p0q14f4, [], [g0c 0 0 1], p0q14d15, p0q14m0 [], 0, 0), p0q14l14 [(.inl 6, [g0W 0 7, g0V 1], 22, 0, g0D 0), (.inl 11, [g0D 0], 23, 0, g0C 0)], [])
noncomputable def q14_10 : zNx := (1, 0, (p0q14r3 [g0R 48 57, g0S 127 127], (g0X [g0B 1, g0A 0] 6) :: p0q14f2, [], [g0c 0 0 1], p0q14d13, p0q14m0 [], 0, 0), p0q14l12 [(.inl 6, [g0W 0 6, g0V 1], 19, 0, g0D 0), (.inl 11, [g0D 0], 20, 0, g0C 0)], [])
noncomputable def p0q14f5 : List (rX) := (g0X [g0B 1, g0A 0] 5) :: (g0Z [g0A 1, g0B 0] 4) :: p0q14f1
noncomputable def q14_11 : zNx := (1, 0, (p0q14r3 [], p0q14f5, [], [g0c 0 0 1], p0q14d11, p0q14m0 [], 0, 0), p0q14l10 [(.inl 6, [g0W 0 5, g0V 1], 16, 0, g0D 0), (.inl 11, [g0D 0], 17, 0, g0C 0)], [])
noncomputable def q14_12 : zNx := (1, 0, (p0q14r2 [g0R 48 57, g0S 127 127], (g0X [g0B 1, g0A 0] 4) :: p0q14f1, [], [g0c 0 0 1], p0q14d9, p0q14m0 [], 0, 0), p0q14l8 [(.inl 6, [g0W 0 4, g0V 1], 13, 0, g0D 0), (.inl 11, [g0D 0], 14, 0, g0C 0)], [])
noncomputable def p0q14f6 : List (rX) := (g0X [g0B 1, g0A 0] 3) :: (g0Z [g0A 1, g0B 0] 2) :: p0q14f0
noncomputable def q14_13 : zNx := (1, 0, (p0q14r2 [], p0q14f6, [], [g0c 0 0 1], p0q14d7, p0q14m0 [], 0, 0), p0q14l6 [(.inl 6, [g0W 0 3, g0V 1], 10, 0, g0D 0), (.inl 11, [g0D 0], 11, 0, g0C 0)], [])
noncomputable def q14_14 : zNx := (1, 0, (p0q14r1 [g0R 48 57, g0S 127 127], (g0X [g0B 1, g0A 0] 2) :: p0q14f0, [], [g0c 0 0 1], p0q14d5, p0q14m0 [], 0, 0), p0q14l4 [(.inl 6, [g0W 0 2, g0V 1], 7, 0, g0D 0), (.inl 11, [g0D 0], 8, 0, g0C 0)], [])
noncomputable def p0q14f7 : List (rX) := (g0X [g0B 1, g0A 0] 1) :: (g0Z [g0A 1, g0B 0] 0) :: []
noncomputable def q14_15 : zNx := (1, 0, (p0q14r1 [], p0q14f7, [], [g0c 0 0 1], p0q14d3, p0q14m0 [], 0, 0), p0q14l2 [(.inl 6, [g0W 0 1, g0V 1], 4, 0, g0D 0), (.inl 11, [g0D 0], 5, 0, g0C 0)], [])
noncomputable def p0q14l16 (t : List (zLg)) : List (zLg) := p0q14l0 ((.inl 6, [g0W 0 1, g0V 1], 1, 0, g0V 5) :: t)
noncomputable def q14_16 : zNx := (1, 0, (p0q14r0 [g0R 45 45, g0S 127 127, g0R 0 2000], (g0X [g0B 6, g0A 0] 0) :: (g0X [g0B 6, g0A 1] 0) :: p0q14f0, [], [g0c 0 0 0], p0q14d1, p0q14m0 [g0m 4 15 0 36 6], 0, 0), p0q14l16 [(.inl 11, [g0V 5], 2, 0, g0C 0), (.inl 8, [g0V 0, g0V 1, g0V 2], 3, 0, g0C 0)], [])
noncomputable def p0q14r5 (t : List (Int × Int)) : List (Int × Int) := p0q14r0 ((g0R 45 45) :: (g0R 48 57) :: (g0S 127 127) :: t)
noncomputable def p0q14d17 : List (rD) := (g0d 0 15 (g0C 0) (g0C 35) (g0W 0 2) 0 []) :: p0q14d2
noncomputable def p0q14l17 (t : List (zLg)) : List (zLg) := p0q14l16 ((.inl 11, [g0V 5], 2, 0, g0C 1) :: (.inl 6, [g0W 0 1, g0V 1], 3, 0, g0V 6) :: t)
noncomputable def p0q14l18 (t : List (zLg)) : List (zLg) := p0q14l17 ((.inl 6, [g0W 0 2, g0V 1], 4, 0, g0V 7) :: t)
noncomputable def q14_17 : zNx := (1, 0, (p0q14r5 [g0S 127 127, g0S 78 176], (g0Z [g0A 1, g0B 0] 2) :: p0q14f0, [], [g0c 0 0 1], (g0d 0 15 (g0C 0) (g0C 40) (g0C 0) 0 []) :: (g0d 0 15 (g0C 0) (g0C 39) (g0V 8) 0 []) :: p0q14d17, p0q14m0 [], 0, 0), p0q14l18 [(.inl 11, [g0V 7], 5, 0, g0C 0), (.inr .lneg, [g0Y 6 47], 0, 0, g0V 8)], [])
noncomputable def p0q14d18 : List (rD) := (g0d 0 15 (g0C 0) (g0C 35) (g0W 0 3) 0 []) :: p0q14d4
noncomputable def p0q14l19 (t : List (zLg)) : List (zLg) := p0q14l18 ((.inl 11, [g0V 7], 5, 0, g0C 1) :: (.inl 6, [g0W 0 2, g0V 1], 6, 0, g0V 8) :: t)
noncomputable def p0q14l20 (t : List (zLg)) : List (zLg) := p0q14l19 ((.inl 6, [g0W 0 3, g0V 1], 7, 0, g0V 9) :: t)
noncomputable def q14_18 : zNx := (1, 0, (p0q14r5 [g0R 48 57, g0S 127 127, g0S 127 127, g0S 868 1936], p0q14f1, [], [g0c 0 0 1], (g0d 0 15 (g0C 0) (g0C 40) (g0C 0) 0 []) :: (g0d 0 15 (g0C 0) (g0C 39) (g0V 10) 0 []) :: p0q14d18, p0q14m0 [], 0, 0), p0q14l20 [(.inl 11, [g0V 9], 8, 0, g0C 0), (.inr .lneg, [g0Z [g0A 8, g0P 6 10] 527], 0, 0, g0V 10)], [])
noncomputable def p0q14r6 (t : List (Int × Int)) : List (Int × Int) := p0q14r5 ((g0R 48 57) :: (g0S 127 127) :: (g0R 48 57) :: (g0S 127 127) :: t)
noncomputable def p0q14d19 : List (rD) := (g0d 0 15 (g0C 0) (g0C 35) (g0W 0 4) 0 []) :: p0q14d6
noncomputable def p0q14l21 (t : List (zLg)) : List (zLg) := p0q14l20 ((.inl 11, [g0V 9], 8, 0, g0C 1) :: (.inl 6, [g0W 0 3, g0V 1], 9, 0, g0V 10) :: t)
noncomputable def p0q14l22 (t : List (zLg)) : List (zLg) := p0q14l21 ((.inl 6, [g0W 0 4, g0V 1], 10, 0, g0V 11) :: t)
noncomputable def q14_19 : zNx := (1, 0, (p0q14r6 [g0S 127 127, g0S 8768 19536], (g0Z [g0A 1, g0B 0] 4) :: p0q14f1, [], [g0c 0 0 1], (g0d 0 15 (g0C 0) (g0C 40) (g0C 0) 0 []) :: (g0d 0 15 (g0C 0) (g0C 39) (g0V 12) 0 []) :: p0q14d19, p0q14m0 [], 0, 0), p0q14l22 [(.inl 11, [g0V 11], 11, 0, g0C 0), (.inr .lneg, [g0Z [g0A 10, g0P 8 10, g0P 6 100] 5327], 0, 0, g0V 12)], [])
noncomputable def p0q14d20 : List (rD) := (g0d 0 15 (g0C 0) (g0C 35) (g0W 0 5) 0 []) :: p0q14d8
noncomputable def p0q14l23 (t : List (zLg)) : List (zLg) := p0q14l22 ((.inl 11, [g0V 11], 11, 0, g0C 1) :: (.inl 6, [g0W 0 4, g0V 1], 12, 0, g0V 12) :: t)
noncomputable def p0q14l24 (t : List (zLg)) : List (zLg) := p0q14l23 ((.inl 6, [g0W 0 5, g0V 1], 13, 0, g0V 13) :: t)
noncomputable def q14_20 : zNx := (1, 0, (p0q14r6 [g0R 48 57, g0S 127 127, g0S 127 127, g0S 87768 195536], p0q14f2, [], [g0c 0 0 1], (g0d 0 15 (g0C 0) (g0C 40) (g0C 0) 0 []) :: (g0d 0 15 (g0C 0) (g0C 39) (g0V 14) 0 []) :: p0q14d20, p0q14m0 [], 0, 0), p0q14l24 [(.inl 11, [g0V 13], 14, 0, g0C 0), (.inr .lneg, [g0Z [g0A 12, g0P 10 10, g0P 8 100, g0P 6 1000] 53327], 0, 0, g0V 14)], [])
noncomputable def p0q14r7 (t : List (Int × Int)) : List (Int × Int) := p0q14r6 ((g0R 48 57) :: (g0S 127 127) :: (g0R 48 57) :: (g0S 127 127) :: t)
noncomputable def p0q14d21 : List (rD) := (g0d 0 15 (g0C 0) (g0C 35) (g0W 0 6) 0 []) :: p0q14d10
noncomputable def p0q14l25 (t : List (zLg)) : List (zLg) := p0q14l24 ((.inl 11, [g0V 13], 14, 0, g0C 1) :: (.inl 6, [g0W 0 5, g0V 1], 15, 0, g0V 14) :: t)
noncomputable def p0q14l26 (t : List (zLg)) : List (zLg) := p0q14l25 ((.inl 6, [g0W 0 6, g0V 1], 16, 0, g0V 15) :: t)
noncomputable def q14_21 : zNx := (1, 0, (p0q14r7 [g0S 127 127, g0S 877768 1955536], (g0Z [g0A 1, g0B 0] 6) :: p0q14f2, [], [g0c 0 0 1], (g0d 0 15 (g0C 0) (g0C 40) (g0C 0) 0 []) :: (g0d 0 15 (g0C 0) (g0C 39) (g0V 16) 0 []) :: p0q14d21, p0q14m0 [], 0, 0), p0q14l26 [(.inl 11, [g0V 15], 17, 0, g0C 0), (.inr .lneg, [g0Z [g0A 14, g0P 12 10, g0P 10 100, g0P 8 1000, g0P 6 10000] 533327], 0, 0, g0V 16)], [])
noncomputable def p0q14d22 : List (rD) := (g0d 0 15 (g0C 0) (g0C 35) (g0W 0 7) 0 []) :: p0q14d12
noncomputable def p0q14l27 (t : List (zLg)) : List (zLg) := p0q14l26 ((.inl 11, [g0V 15], 17, 0, g0C 1) :: (.inl 6, [g0W 0 6, g0V 1], 18, 0, g0V 16) :: t)
noncomputable def p0q14l28 (t : List (zLg)) : List (zLg) := p0q14l27 ((.inl 6, [g0W 0 7, g0V 1], 19, 0, g0V 17) :: t)
noncomputable def q14_22 : zNx := (1, 0, (p0q14r7 [g0R 48 57, g0S 127 127, g0S 127 127, g0S 8777768 19555536], p0q14f3, [], [g0c 0 0 1], (g0d 0 15 (g0C 0) (g0C 40) (g0C 0) 0 []) :: (g0d 0 15 (g0C 0) (g0C 39) (g0V 18) 0 []) :: p0q14d22, p0q14m0 [], 0, 0), p0q14l28 [(.inl 11, [g0V 17], 20, 0, g0C 0), (.inr .lneg, [g0Z [g0A 16, g0P 14 10, g0P 12 100, g0P 10 1000, g0P 8 10000, g0P 6 100000] 5333327], 0, 0, g0V 18)], [])
noncomputable def p0q14r8 (t : List (Int × Int)) : List (Int × Int) := p0q14r7 ((g0R 48 57) :: (g0S 127 127) :: (g0R 48 57) :: (g0S 127 127) :: t)
noncomputable def p0q14d23 : List (rD) := (g0d 0 15 (g0C 0) (g0C 35) (g0W 0 8) 0 []) :: p0q14d14
noncomputable def p0q14l29 (t : List (zLg)) : List (zLg) := p0q14l28 ((.inl 11, [g0V 17], 20, 0, g0C 1) :: (.inl 6, [g0W 0 7, g0V 1], 21, 0, g0V 18) :: t)
noncomputable def p0q14l30 (t : List (zLg)) : List (zLg) := p0q14l29 ((.inl 6, [g0W 0 8, g0V 1], 22, 0, g0V 19) :: t)
noncomputable def q14_23 : zNx := (1, 0, (p0q14r8 [g0S 127 127, g0S 87777768 195555536], (g0Z [g0A 1, g0B 0] 8) :: p0q14f3, [], [g0c 0 0 1], (g0d 0 15 (g0C 0) (g0C 40) (g0C 0) 0 []) :: (g0d 0 15 (g0C 0) (g0C 39) (g0V 20) 0 []) :: p0q14d23, p0q14m0 [], 0, 0), p0q14l30 [(.inl 11, [g0V 19], 23, 0, g0C 0), (.inr .lneg, [g0Z [g0A 18, g0P 16 10, g0P 14 100, g0P 12 1000, g0P 10 10000, g0P 8 100000, g0P 6 1000000] 53333327], 0, 0, g0V 20)], [])
noncomputable def q14_24 : zNx := (2, 0, (p0q14r8 [g0R 48 57, g0S 127 127], (g0Z [g0A 1, g0B 0] 8) :: p0q14f3, [], [], p0q14d16, p0q14m0 [], 0, 0), p0q14l30 [(.inl 11, [g0V 19], 23, 0, g0C 1), (.inl 6, [g0W 0 8, g0V 1], 24, 0, g0V 20)], [g0V 0, g0V 1, g0V 2, g0V 3, g0W 0 9, g0Z [g0A 20, g0P 18 10, g0P 16 100, g0P 14 1000, g0P 12 10000, g0P 10 100000, g0P 8 1000000, g0P 6 10000000] 533333327, g0W 0 1, g0C 1])
noncomputable def q14_25 : zNx := (1, 0, (p0q14r8 [g0S 87777768 195555536], (g0X [g0B 1, g0A 0] 8) :: p0q14f3, [], [g0c 0 0 1], (g0d 0 15 (g0C 0) (g0C 40) (g0C 0) 0 []) :: (g0d 0 15 (g0C 0) (g0C 39) (g0V 19) 0 []) :: p0q14d23, p0q14m0 [], 0, 0), p0q14l29 [(.inl 6, [g0W 0 8, g0V 1], 22, 0, g0D 0), (.inl 11, [g0D 0], 23, 0, g0C 0), (.inr .lneg, [g0Z [g0A 18, g0P 16 10, g0P 14 100, g0P 12 1000, g0P 10 10000, g0P 8 100000, g0P 6 1000000] 53333327], 0, 0, g0V 19)], [])
noncomputable def q14_26 : zNx := (1, 0, (p0q14r7 [g0R 48 57, g0S 127 127, g0S 8777768 19555536], p0q14f4, [], [g0c 0 0 1], (g0d 0 15 (g0C 0) (g0C 40) (g0C 0) 0 []) :: (g0d 0 15 (g0C 0) (g0C 39) (g0V 17) 0 []) :: p0q14d22, p0q14m0 [], 0, 0), p0q14l27 [(.inl 6, [g0W 0 7, g0V 1], 19, 0, g0D 0), (.inl 11, [g0D 0], 20, 0, g0C 0), (.inr .lneg, [g0Z [g0A 16, g0P 14 10, g0P 12 100, g0P 10 1000, g0P 8 10000, g0P 6 100000] 5333327], 0, 0, g0V 17)], [])
noncomputable def q14_27 : zNx := (1, 0, (p0q14r7 [g0S 877768 1955536], (g0X [g0B 1, g0A 0] 6) :: p0q14f2, [], [g0c 0 0 1], (g0d 0 15 (g0C 0) (g0C 40) (g0C 0) 0 []) :: (g0d 0 15 (g0C 0) (g0C 39) (g0V 15) 0 []) :: p0q14d21, p0q14m0 [], 0, 0), p0q14l25 [(.inl 6, [g0W 0 6, g0V 1], 16, 0, g0D 0), (.inl 11, [g0D 0], 17, 0, g0C 0), (.inr .lneg, [g0Z [g0A 14, g0P 12 10, g0P 10 100, g0P 8 1000, g0P 6 10000] 533327], 0, 0, g0V 15)], [])
noncomputable def q14_28 : zNx := (1, 0, (p0q14r6 [g0R 48 57, g0S 127 127, g0S 87768 195536], p0q14f5, [], [g0c 0 0 1], (g0d 0 15 (g0C 0) (g0C 40) (g0C 0) 0 []) :: (g0d 0 15 (g0C 0) (g0C 39) (g0V 13) 0 []) :: p0q14d20, p0q14m0 [], 0, 0), p0q14l23 [(.inl 6, [g0W 0 5, g0V 1], 13, 0, g0D 0), (.inl 11, [g0D 0], 14, 0, g0C 0), (.inr .lneg, [g0Z [g0A 12, g0P 10 10, g0P 8 100, g0P 6 1000] 53327], 0, 0, g0V 13)], [])
noncomputable def q14_29 : zNx := (1, 0, (p0q14r6 [g0S 8768 19536], (g0X [g0B 1, g0A 0] 4) :: p0q14f1, [], [g0c 0 0 1], (g0d 0 15 (g0C 0) (g0C 40) (g0C 0) 0 []) :: (g0d 0 15 (g0C 0) (g0C 39) (g0V 11) 0 []) :: p0q14d19, p0q14m0 [], 0, 0), p0q14l21 [(.inl 6, [g0W 0 4, g0V 1], 10, 0, g0D 0), (.inl 11, [g0D 0], 11, 0, g0C 0), (.inr .lneg, [g0Z [g0A 10, g0P 8 10, g0P 6 100] 5327], 0, 0, g0V 11)], [])
noncomputable def q14_30 : zNx := (1, 0, (p0q14r5 [g0R 48 57, g0S 127 127, g0S 868 1936], p0q14f6, [], [g0c 0 0 1], (g0d 0 15 (g0C 0) (g0C 40) (g0C 0) 0 []) :: (g0d 0 15 (g0C 0) (g0C 39) (g0V 9) 0 []) :: p0q14d18, p0q14m0 [], 0, 0), p0q14l19 [(.inl 6, [g0W 0 3, g0V 1], 7, 0, g0D 0), (.inl 11, [g0D 0], 8, 0, g0C 0), (.inr .lneg, [g0Z [g0A 8, g0P 6 10] 527], 0, 0, g0V 9)], [])
noncomputable def q14_31 : zNx := (1, 0, (p0q14r5 [g0S 78 176], (g0X [g0B 1, g0A 0] 2) :: p0q14f0, [], [g0c 0 0 1], (g0d 0 15 (g0C 0) (g0C 40) (g0C 0) 0 []) :: (g0d 0 15 (g0C 0) (g0C 39) (g0V 7) 0 []) :: p0q14d17, p0q14m0 [], 0, 0), p0q14l17 [(.inl 6, [g0W 0 2, g0V 1], 4, 0, g0D 0), (.inl 11, [g0D 0], 5, 0, g0C 0), (.inr .lneg, [g0Y 6 47], 0, 0, g0V 7)], [])
noncomputable def q14_32 : zNx := (1, 0, (p0q14r0 [g0R 45 45, g0R 0 2000], (g0X [g0B 5, g0A 0] 0) :: (g0X [g0B 5, g0A 1] 0) :: p0q14f7, [], [g0c 0 0 0], p0q14d1, p0q14m0 [g0m 4 15 0 36 5], 0, 0), p0q14l0 [(.inl 6, [g0W 0 1, g0V 1], 1, 0, g0D 0), (.inl 11, [g0D 0], 2, 0, g0C 0), (.inl 8, [g0V 0, g0V 1, g0V 2], 3, 0, g0C 0)], [])
noncomputable def q14 : List zNx := [q14_0, q14_1, q14_2, q14_3, q14_4, q14_5, q14_6, q14_7, q14_8, q14_9, q14_10, q14_11, q14_12, q14_13, q14_14, q14_15, q14_16, q14_17, q14_18, q14_19, q14_20, q14_21, q14_22, q14_23, q14_24, q14_25, q14_26, q14_27, q14_28, q14_29, q14_30, q14_31, q14_32]
noncomputable def p0q14r9 (t : List (Int × Int)) : List (Int × Int) := (g0R 0 1999) :: (g0R 0 2000) :: (g0R 0 2000) :: (g0R 0 3) :: (g0R 8 2000) :: (g0S 1955555535 877777769) :: (g0R 0 1999) :: (g0R 0 1) :: t
noncomputable def p0q14f8 : List (rX) := (g0Z [g0A 1, g0B 0] 7) :: (g0Z [g0A 1, g0B 0] 0) :: (g0X [g0B 4, g0A 1] 0) :: (g0X [g0A 6, g0B 0] 0) :: (g0X [g0B 7, g0A 6] 0) :: (g0Z [g0A 4, g0B 0] 0) :: []
noncomputable def p0q14d24 : List (rD) := (g0d 1 0 (g0C 0) (g0C 0) (g0C 0) m0_ []) :: (g0d 1 0 (g0C 0) (g0C 0) (g0C 0) m0_ []) :: (g0d 1 0 (g0C 0) (g0C 0) (g0C 0) m0_ [1, 28]) :: []
noncomputable def p0q14d25 : List (rD) := (g0d 1 0 (g0C 0) (g0C 0) (g0C 0) m7_ []) :: p0q14d24
noncomputable def p0q14l31 (t : List (zLg)) : List (zLg) := (.inl 6, [g0V 4, g0V 1], 1, 0, g0V 8) :: t
noncomputable def q14a0_0 : zNx := (1, 0, (p0q14r9 [g0S 127 127, g0R 0 2000], (g0X [g0B 9, g0A 0] 0) :: (g0X [g0B 9, g0A 1] 0) :: (g0Z [g0B 6, g0A 4] 7) :: (g0Z [g0B 6, g0A 4] 0) :: (g0Z [g0B 4, g0A 1] 0) :: p0q14f8, [], [g0c 0 0 0], p0q14d25, p0q14m0 [g0m 4 15 0 36 9], 0, 0), p0q14l31 [(.inl 11, [g0V 8], 2, 0, g0C 0), (.inl 8, [g0V 0, g0V 1, g0V 2], 3, 0, g0C 0)], [])
noncomputable def q14a0_1 : zNx := (2, 0, (p0q14r9 [g0R 48 57], (g0Z [g0B 6, g0A 4] 7) :: (g0Z [g0B 4, g0A 1] 0) :: p0q14f8, [], [], p0q14d24, p0q14m0 [], 0, 0), p0q14l31 [(.inl 11, [g0V 8], 2, 0, g0C 1)], [g0V 0, g0V 1, g0V 2, g0V 3, g0W 4 1, g0V 5, g0V 6, g0V 7])
noncomputable def q14a0_2 : zNx := (1, 0, (p0q14r9 [g0R 0 2000], (g0X [g0B 8, g0A 0] 0) :: (g0X [g0B 8, g0A 1] 0) :: (g0Z [g0B 6, g0A 4] 7) :: (g0Z [g0B 6, g0A 4] 0) :: (g0X [g0A 4, g0B 1] 0) :: p0q14f8, [], [g0c 0 0 0], p0q14d25, p0q14m0 [g0m 4 15 0 36 8], 0, 0), [(.inl 6, [g0V 4, g0V 1], 1, 0, g0D 0), (.inl 11, [g0D 0], 2, 0, g0C 0), (.inl 8, [g0V 0, g0V 1, g0V 2], 3, 0, g0C 0)], [])
noncomputable def q14a0 : List zNx := [q14a0_0, q14a0_1, q14a0_2]
noncomputable def q14a : List (List zNx) := [q14a0]
set_option maxRecDepth 100000 in
theorem zk14_ : zCk 3000 uMx uW uT uJL uAn uBds 14 q14 q14a = true := by decide +kernel
noncomputable def p0q15r0 (t : List (Int × Int)) : List (Int × Int) := (g0R 0 2000) :: (g0R 0 12288) :: (g0R 0 12288) :: (g0R 0 2000) :: (g0R 1 12) :: t
noncomputable def p0q15f0 : List (rX) := (g0X [g0B 4, g0B 3, g0A 0] 0) :: (g0X [g0A 3, g0B 2, g0B 0] 12288) :: (g0X [g0A 3, g0B 1, g0B 0] 12288) :: []
noncomputable def p0q15m0 (t : List (rMm)) : List (rMm) := (g0m 0 15 0 34 0) :: (g0m 0 15 0 8 1) :: (g0m 0 15 0 9 2) :: (g0m 0 15 0 37 3) :: (g0m 0 15 0 38 4) :: t
noncomputable def q15_0 : zNx := (2, 0, (p0q15r0 [], (g0X [g0B 4, g0B 3] 2000) :: p0q15f0, [], [], [], p0q15m0 [], 0, 0), [], [g0V 0, g0V 1, g0V 2, g0V 3, g0V 4, g0C 0])
noncomputable def q15 : List zNx := [q15_0]
noncomputable def p0q15d0 : List (rD) := (g0d 1 0 (g0C 0) (g0C 0) (g0C 0) m0_ [0]) :: []
noncomputable def q15a0_0 : zNx := (2, 2, (p0q15r0 [g0R 0 12288], (g0X [g0A 5, g0B 1] 0) :: (g0X [g0B 5, g0A 1] 0) :: p0q15f0, [], [], (g0d 0 63 (g0C 0) (g0V 1) (g0V 4) 0 []) :: (g0d 0 62 (g0C 0) (g0V 1) (g0V 2) 0 []) :: p0q15d0, p0q15m0 [], 0, 0), [], [g0V 0, g0V 1, g0V 2, g0V 3, g0V 4, g0C 0])
noncomputable def p0q15f1 : List (rX) := (g0Z [g0B 5, g0A 1] 0) :: (g0X [g0B 5, g0A 1] 0) :: p0q15f0
noncomputable def q15a0_1 : zNx := (2, 1, (p0q15r0 [g0R 0 12288, g0R 0 12], p0q15f1, [], [], p0q15d0, p0q15m0 [g0o 0 63 0 5 6], 0, 0), [(.inr .nop, [g0V 6, g0V 4, g0C 0], 0, 0, g0C 0)], [g0V 0, g0V 1, g0V 2, g0V 3, g0V 4, g0C 0, g0C 0, g0V 5])
noncomputable def q15a0_2 : zNx := (2, 1, (p0q15r0 [g0R 0 12288, g0R 0 12], (g0X [g0B 6, g0A 4] 0) :: (g0X [g0A 6, g0B 4] 0) :: p0q15f1, [], [], p0q15d0, p0q15m0 [g0o 0 63 0 5 6], 0, 0), [], [g0V 0, g0V 1, g0V 2, g0V 3, g0V 4, g0C 0, g0C 1, g0V 5])
noncomputable def q15a0 : List zNx := [q15a0_0, q15a0_1, q15a0_2]
noncomputable def p0q15r1 (t : List (Int × Int)) : List (Int × Int) := (g0R 1 2000) :: (g0R 1 12288) :: (g0R 0 12288) :: (g0R 0 2000) :: (g0R 1 12) :: (g0R 0 12) :: t
noncomputable def p0q15f2 : List (rX) := (g0X [g0B 5, g0A 4] 0) :: (g0Z [g0B 7, g0A 1] 0) :: p0q15f0
noncomputable def q15a1_0 : zNx := (2, 0, (p0q15r1 [g0R 0 0, g0R 0 12287], (g0X [g0A 5, g0B 4] 0) :: p0q15f2, [], [], p0q15d0, p0q15m0 [], 0, 0), [], [g0V 0, g0V 1, g0V 2, g0V 3, g0V 4, g0W 7 1])
noncomputable def q15a1_1 : zNx := (1, 0, (p0q15r1 [g0R 1 1, g0R 0 12287], (g0X [g0A 5, g0B 4] 0) :: p0q15f2, [], [g0w 1 0 (g0W 7 1099511627776)], p0q15d0, p0q15m0 [], 0, 0), [], [])
noncomputable def q15a1_2 : zNx := (2, 0, (p0q15r1 [g0R 0 0, g0R 0 12287], (g0Z [g0B 5, g0A 4] 0) :: p0q15f2, [], [], p0q15d0, p0q15m0 [], 0, 0), [], [g0V 0, g0V 1, g0V 2, g0V 3, g0V 4, g0W 7 1])
noncomputable def p0q15r2 (t : List (Int × Int)) : List (Int × Int) := p0q15r1 ((g0R 1 1) :: (g0R 0 12287) :: (g0R 0 12288) :: (g0S 127 127) :: (g0S 127 127) :: t)
noncomputable def p0q15m1 (t : List (rMm)) : List (rMm) := p0q15m0 ((g0o 0 62 0 7 8) :: (g0q 0 61 (g0C 0) (g0X [g0A 8, g0A 5] 0) 9) :: (g0q 0 59 (g0C 0) (g0X [g0A 5, g0A 3] 0) 10) :: t)
noncomputable def q15a1_3 : zNx := (2, 1, (p0q15r2 [], (g0Z [g0B 5, g0A 4] 0) :: p0q15f2, [], [], p0q15d0, p0q15m1 [], 0, 0), [(.inr .nop, [g0V 9, g0V 10, g0C 0], 0, 0, g0C 0)], [g0V 0, g0V 1, g0V 2, g0V 3, g0V 4, g0W 5 1, g0C 0, g0V 7])
noncomputable def q15a1_4 : zNx := (2, 1, (p0q15r2 [], (g0X [g0A 10, g0B 9] 0) :: (g0X [g0B 10, g0A 9] 0) :: (g0Z [g0B 5, g0A 4] 0) :: p0q15f2, [], [], p0q15d0, p0q15m1 [], 0, 0), [], [g0V 0, g0V 1, g0V 2, g0V 3, g0V 4, g0W 5 1, g0C 1, g0V 7])
noncomputable def q15a1 : List zNx := [q15a1_0, q15a1_1, q15a1_2, q15a1_3, q15a1_4]
noncomputable def p0q15r3 (t : List (Int × Int)) : List (Int × Int) := (g0R 1 2000) :: (g0R 0 12288) :: (g0R 0 12288) :: (g0R 0 2000) :: (g0R 1 12) :: (g0R 0 12) :: t
noncomputable def p0q15d1 : List (rD) := (g0d 1 0 (g0C 0) (g0C 0) (g0C 0) m12_ [0]) :: []
noncomputable def q15a2_0 : zNx := (1, 0, (p0q15r3 [], (g0X [g0A 5, g0B 4] 0) :: (g0X [g0B 5, g0A 4] 0) :: p0q15f0, [], [g0w 1 0 (g0W 1 1099511627776)], (g0d 0 15 (g0C 0) (g0C 8) (g0W 1 1) 0 []) :: (g0d 0 15 (g0C 0) (g0C 9) (g0X [g0A 4, g0A 2] 0) 0 []) :: p0q15d1, p0q15m0 [], 0, 0), [], [])
noncomputable def q15a2_1 : zNx := (2, 2, (p0q15r3 [g0S 127 127], (g0Z [g0B 5, g0A 4] 0) :: (g0X [g0B 5, g0A 4] 0) :: p0q15f0, [], [], (g0d 0 61 (g0C 0) (g0X [g0A 5, g0A 2] 0) (g0V 6) 0 []) :: p0q15d1, p0q15m0 [g0q 0 59 (g0C 0) (g0X [g0A 5, g0A 3] 0) 6], 0, 0), [], [g0V 0, g0V 1, g0V 2, g0V 3, g0V 4, g0W 5 1])
noncomputable def q15a2 : List zNx := [q15a2_0, q15a2_1]
noncomputable def q15a : List (List zNx) := [q15a0, q15a1, q15a2]
set_option maxRecDepth 100000 in
theorem zk15_ : zCk 3000 uMx uW uT uJL uAn uBds 15 q15 q15a = true := by decide +kernel
noncomputable def p0q16r0 (t : List (Int × Int)) : List (Int × Int) := (g0R 0 8) :: (g0R 0 12) :: (g0R 0 2000) :: (g0R 0 2000) :: (g0R 0 2000) :: t
noncomputable def p0q16f0 : List (rX) := (g0X [g0B 2, g0B 1] 2000) :: (g0X [g0B 4, g0B 3] 2000) :: []
noncomputable def p0q16m0 (t : List (rMm)) : List (rMm) := (g0o 0 83 0 0 1) :: (g0o 0 82 0 0 2) :: (g0m 0 15 0 37 3) :: (g0m 0 15 0 38 4) :: t
noncomputable def q16_0 : zNx := (2, 0, (p0q16r0 [], (g0X [g0A 4, g0B 1] 0) :: (g0X [g0B 4, g0A 1] 0) :: p0q16f0, [], [], [], p0q16m0 [], 0, 0), [], [g0V 0, g0V 1, g0V 2, g0V 3, g0V 4, g0C 0])
noncomputable def q16_1 : zNx := (1, 0, (p0q16r0 [], p0q16f0, [], [g0c 0 0 0], [], p0q16m0 [], 0, 0), [(.inr .nop, [g0V 1, g0V 4, g0C 0], 0, 0, g0C 0)], [])
noncomputable def q16 : List zNx := [q16_0, q16_1]
noncomputable def p0q16f1 : List (rX) := (g0X [g0B 4, g0B 3] 2000) :: (g0X [g0B 2, g0B 1] 2000) :: (g0X [g0B 4, g0A 1] 0) :: (g0X [g0A 4, g0B 1] 0) :: (g0X [g0B 5, g0A 1] 0) :: []
noncomputable def p0q16d0 : List (rD) := (g0d 1 0 (g0C 0) (g0C 0) (g0C 0) m0_ [0, 5]) :: []
noncomputable def q16a0_0 : zNx := (1, 0, (p0q16r0 [g0R 0 12], (g0X [g0A 5, g0B 4] 0) :: p0q16f1, [], [g0c 0 0 1], p0q16d0, p0q16m0 [], 0, 0), [], [])
noncomputable def p0q16r1 (t : List (Int × Int)) : List (Int × Int) := p0q16r0 ((g0R 0 12) :: (g0S 127 127) :: (g0S 127 127) :: t)
noncomputable def p0q16m1 (t : List (rMm)) : List (rMm) := p0q16m0 ((g0q 0 59 (g0C 0) (g0X [g0A 5, g0A 2] 0) 6) :: (g0q 0 59 (g0C 0) (g0X [g0A 5, g0A 3] 0) 7) :: t)
noncomputable def q16a0_1 : zNx := (2, 0, (p0q16r1 [], (g0X [g0A 7, g0B 6] 0) :: (g0X [g0B 7, g0A 6] 0) :: (g0Z [g0B 5, g0A 4] 0) :: p0q16f1, [], [], p0q16d0, p0q16m1 [], 0, 0), [], [g0V 0, g0V 1, g0V 2, g0V 3, g0V 4, g0W 5 1])
noncomputable def q16a0_2 : zNx := (1, 0, (p0q16r1 [], (g0Z [g0B 5, g0A 4] 0) :: p0q16f1, [], [g0c 0 0 0], p0q16d0, p0q16m1 [], 0, 0), [(.inr .nop, [g0V 6, g0V 7, g0C 0], 0, 0, g0C 0)], [])
noncomputable def q16a0 : List zNx := [q16a0_0, q16a0_1, q16a0_2]
noncomputable def q16a : List (List zNx) := [q16a0]
set_option maxRecDepth 100000 in
theorem zk16_ : zCk 3000 uMx uW uT uJL uAn uBds 16 q16 q16a = true := by decide +kernel
noncomputable def p0q17r0 (t : List (Int × Int)) : List (Int × Int) := (g0R 0 1999) :: (g0R 0 2000) :: (g0S 2147483647 1099511640064) :: (g0R 0 3) :: (g0R 0 2000) :: (g0R 0 2000) :: (g0R 0 2000) :: (g0R 0 61) :: (g0R 0 8) :: t
noncomputable def p0q17d0 : List (rD) := (g0d 1 0 (g0C 0) (g0C 0) (g0C 0) m8_ [0]) :: []
noncomputable def p0q17m0 (t : List (rMm)) : List (rMm) := (g0m 0 15 0 35 0) :: (g0m 0 15 0 34 1) :: (g0m 0 15 0 39 2) :: (g0m 0 15 0 40 3) :: (g0m 0 15 0 36 4) :: (g0m 0 15 0 37 5) :: (g0m 0 15 0 38 6) :: (g0m 0 15 0 44 7) :: (g0o 0 74 0 7 8) :: t
noncomputable def q17_0 : zNx := (1, 0, (p0q17r0 [g0R 0 2000, g0R 13 2000], [g0Z [g0A 1, g0B 0] 0, g0X [g0B 9, g0A 0] 0, g0X [g0B 10, g0A 1] 0], [], [g0c 0 0 0], p0q17d0, p0q17m0 [g0m 1 15 0 35 0, g0m 1 15 0 37 0, g0m 1 15 0 36 9, g0m 1 15 0 38 10], 0, 0), [(.inl 12, [g0V 0, g0V 1, g0V 5, g0V 4, g0V 6], 0, 0, g0C 0)], [])
noncomputable def q17_1 : zNx := (2, 0, (p0q17r0 [g0R 1 2000, g0R 1 12], [g0Z [g0A 1, g0B 0] 0, g0Z [g0A 9, g0B 0] 0, g0X [g0B 9, g0A 1] 0, g0X [g0A 10, g0B 9, g0A 0] 0, g0X [g0B 10, g0A 9, g0B 0] 0], [], [], p0q17d0, p0q17m0 [g0m 1 15 0 35 9, g0m 1 15 0 37 0, g0m 1 15 0 36 4, g0m 1 15 0 38 10], 0, 0), [(.inl 12, [g0V 0, g0V 1, g0V 5, g0V 4, g0V 6], 0, 0, g0C 1)], [g0V 0, g0V 1, g0V 2, g0V 3, g0V 4, g0V 5, g0V 6, g0V 7, g0V 8, g0C 0, g0V 9, g0V 10])
noncomputable def q17 : List zNx := [q17_0, q17_1]
noncomputable def p0q17r1 (t : List (Int × Int)) : List (Int × Int) := p0q17r0 ((g0R 0 7) :: (g0R 1 2000) :: (g0R 1 12) :: t)
noncomputable def p0q17f0 : List (rX) := (g0Z [g0A 1, g0B 0] 0) :: (g0X [g0B 10, g0A 1] 0) :: (g0X [g0B 11, g0A 10] 0) :: (g0Z [g0A 10, g0B 0] 0) :: []
noncomputable def p0q17d1 : List (rD) := (g0d 1 0 (g0C 0) (g0C 0) (g0C 0) m8_ i0_) :: []
noncomputable def p0q17m1 (t : List (rMm)) : List (rMm) := p0q17m0 ((g0m 1 15 0 35 10) :: (g0m 1 15 0 36 4) :: (g0m 1 15 0 37 0) :: (g0m 1 15 0 38 11) :: t)
noncomputable def q17a0_0 : zNx := (1, 0, (p0q17r1 [], (g0X [g0B 9, g0A 8] 0) :: (g0X [g0A 9, g0B 8] 0) :: p0q17f0, [], [g0c 0 0 1], (g0d 0 15 (g0C 0) (g0C 40) (g0C 1) 0 []) :: (g0d 0 15 (g0C 0) (g0C 39) (g0V 9) 0 []) :: (g0d 0 84 (g0C 0) (g0V 9) (g0C 1) 0 []) :: (g0d 0 74 (g0C 0) (g0V 7) (g0W 8 1) 0 []) :: (g0d 0 84 (g0C 0) (g0V 9) (g0C 0) 0 []) :: (g0d 0 83 (g0C 0) (g0V 9) (g0V 11) 0 []) :: (g0d 0 82 (g0C 0) (g0V 9) (g0V 0) 0 []) :: p0q17d1, p0q17m1 [], 0, 0), [], [])
noncomputable def p0q17r2 (t : List (Int × Int)) : List (Int × Int) := p0q17r0 ((g0R 8 8) :: (g0R 1 2000) :: (g0R 1 12) :: t)
noncomputable def q17a0_1 : zNx := (1, 0, (p0q17r2 [g0R 0 2000], (g0X [g0B 12, g0A 0] 0) :: (g0X [g0B 12, g0A 1] 0) :: (g0X [g0A 9, g0B 8] 0) :: (g0X [g0B 9, g0A 8] 0) :: p0q17f0, [], [g0c 0 0 0], (g0d 1 0 (g0C 0) (g0C 0) (g0C 0) m7_ []) :: p0q17d1, p0q17m1 [g0m 2 15 0 36 12], 0, 0), [(.inl 8, [g0V 0, g0V 1, g0V 4], 1, 0, g0C 0)], [])
noncomputable def p0q17f1 : List (rX) := (g0Z [g0B 9, g0A 8] 0) :: (g0X [g0B 9, g0A 8] 0) :: p0q17f0
noncomputable def p0q17d2 : List (rD) := (g0d 1 0 (g0C 0) (g0C 0) (g0C 0) m0_ [0, 5]) :: p0q17d1
noncomputable def p0q17m2 (t : List (rMm)) : List (rMm) := p0q17m1 ((g0o 0 83 0 9 12) :: (g0o 0 82 0 9 13) :: t)
noncomputable def q17a0_2 : zNx := (2, 0, (p0q17r0 [g0R 0 8, g0R 1 2000, g0R 1 12, g0R 0 12, g0R 0 2000], p0q17f1, [], [], p0q17d2, p0q17m2 [], 0, 0), [(.inl 16, [g0V 9, g0V 12, g0V 13, g0V 0, g0V 11], 1, 0, g0C 0)], [g0V 0, g0V 1, g0V 2, g0V 3, g0V 4, g0V 5, g0V 6, g0V 7, g0V 8, g0W 9 1, g0V 10, g0V 11])
noncomputable def p0q17l0 (t : List (zLg)) : List (zLg) := (.inl 16, [g0V 9, g0V 12, g0V 13, g0V 0, g0V 11], 1, 0, g0C 1) :: t
noncomputable def q17a0_3 : zNx := (1, 0, (p0q17r1 [g0R 0 12, g0R 0 2000, g0I, g0I], (g0Z [g0B 9, g0A 8] 0) :: (g0X [g0A 12, g0B 11] 0) :: (g0X [g0B 12, g0A 11] 0) :: (g0X [g0B 9, g0A 8] 0) :: p0q17f0, [], [g0c 0 0 1], (g0d 0 15 (g0C 0) (g0C 40) (g0C 1) 0 []) :: (g0d 0 15 (g0C 0) (g0C 39) (g0V 9) 0 []) :: (g0d 0 84 (g0C 0) (g0V 9) (g0V 15) 0 []) :: p0q17d2, p0q17m2 [g0o 0 84 0 9 14], 0, 0), p0q17l0 [(.inr .iadd, [g0V 14, g0C 1], 0, 0, g0V 15)], [])
noncomputable def q17a0_4 : zNx := (1, 0, (p0q17r2 [g0R 0 12, g0R 0 2000, g0R 0 2000], (g0X [g0B 14, g0A 0] 0) :: (g0X [g0B 14, g0A 1] 0) :: (g0X [g0A 12, g0B 11] 0) :: (g0X [g0B 12, g0A 11] 0) :: p0q17f1, [], [g0c 0 0 0], (g0d 1 0 (g0C 0) (g0C 0) (g0C 0) m7_ []) :: p0q17d2, p0q17m2 [g0m 3 15 0 36 14], 0, 0), p0q17l0 [(.inl 8, [g0V 0, g0V 1, g0V 4], 2, 0, g0C 0)], [])
noncomputable def q17a0 : List zNx := [q17a0_0, q17a0_1, q17a0_2, q17a0_3, q17a0_4]
noncomputable def q17a : List (List zNx) := [q17a0]
set_option maxRecDepth 100000 in
theorem zk17_ : zCk 3000 uMx uW uT uJL uAn uBds 17 q17 q17a = true := by decide +kernel
noncomputable def p0q18l0 (t : List (zLg)) : List (zLg) := (.inr .ishr, [g0V 1, g0V 0], 0, 0, g0V 2) :: (.inr .iand, [g0V 2, g0C 1], 0, 0, g0V 3) :: t
noncomputable def q18_0 : zNx := (1, 0, ([g0R 0 7, g0I, g0I, g0R 0 0], [], [], [g0c 0 0 0], [], [g0m 0 15 0 45 1], 0, 0), p0q18l0 [], [])
noncomputable def q18_1 : zNx := (1, 0, ([g0R 0 7, g0I, g0I, g0R 1 1], [], [], [g0c 0 0 1], [], [g0m 0 15 0 45 1], 0, 0), p0q18l0 [], [])
noncomputable def q18 : List zNx := [q18_0, q18_1]
noncomputable def q18a : List (List zNx) := []
set_option maxRecDepth 100000 in
theorem zk18_ : zCk 3000 uMx uW uT uJL uAn uBds 18 q18 q18a = true := by decide +kernel
noncomputable def p0q19r0 (t : List (Int × Int)) : List (Int × Int) := (g0S 9223372036854775807 9223372036854775807) :: g0I :: g0I :: g0I :: t
noncomputable def p0q19l0 (t : List (zLg)) : List (zLg) := (.inr .l2i, [g0V 0], 0, 0, g0V 2) :: (.inr .ishr, [g0V 1, g0V 2], 0, 0, g0V 3) :: (.inr .iand, [g0V 3, g0C 1], 0, 0, g0V 4) :: t
noncomputable def q19_0 : zNx := (1, 0, (p0q19r0 [g0R 0 0], [], [], [g0c 0 0 0], [], [g0m 0 15 0 45 1], 0, 0), p0q19l0 [], [])
noncomputable def q19_1 : zNx := (1, 0, (p0q19r0 [g0R 1 1], [], [], [g0c 0 0 1], [], [g0m 0 15 0 45 1], 0, 0), p0q19l0 [], [])
noncomputable def q19 : List zNx := [q19_0, q19_1]
noncomputable def q19a : List (List zNx) := []
set_option maxRecDepth 100000 in
theorem zk19_ : zCk 3000 uMx uW uT uJL uAn uBds 19 q19 q19a = true := by decide +kernel
noncomputable def p0q20r0 (t : List (Int × Int)) : List (Int × Int) := (g0R 0 0) :: (g0R 0 2000) :: (g0R 0 2000) :: (g0R 0 12288) :: (g0R 0 12288) :: (g0S 2147483647 1099511640064) :: (g0R 0 3) :: (g0R 0 2000) :: (g0R 0 2000) :: (g0R 0 2000) :: (g0R 0 61) :: (g0R 0 2000) :: t
noncomputable def p0q20f0 : List (rX) := (g0X [g0A 2, g0B 1] 0) :: (g0X [g0A 11, g0B 1] 0) :: (g0X [g0B 11, g0A 2] 0) :: (g0X [g0B 4, g0B 2, g0A 1] 12288) :: (g0X [g0B 3, g0B 2, g0A 1] 12288) :: []
noncomputable def p0q20f1 : List (rX) := (g0Z [g0B 11, g0A 2] 0) :: (g0X [g0B 13, g0A 11] 0) :: p0q20f0
noncomputable def p0q20d0 : List (rD) := (g0d 1 0 (g0C 0) (g0C 0) (g0C 0) m0_ []) :: (g0d 1 0 (g0C 0) (g0C 0) (g0C 0) m0_ []) :: (g0d 1 0 (g0C 0) (g0C 0) (g0C 0) m6_ []) :: []
noncomputable def p0q20d1 : List (rD) := (g0d 1 0 (g0C 0) (g0C 0) (g0C 0) m0_ []) :: p0q20d0
noncomputable def p0q20d2 : List (rD) := (g0d 1 0 (g0C 0) (g0C 0) (g0C 0) m10_ [1, 28]) :: p0q20d1
noncomputable def p0q20m0 (t : List (rMm)) : List (rMm) := (g0m 0 15 0 35 1) :: (g0m 0 15 0 34 2) :: (g0m 0 15 0 8 3) :: (g0m 0 15 0 9 4) :: (g0m 0 15 0 39 5) :: (g0m 0 15 0 40 6) :: (g0m 0 15 0 36 7) :: (g0m 0 15 0 37 8) :: (g0m 0 15 0 38 9) :: (g0m 0 15 0 44 10) :: (g0m 1 15 0 35 11) :: t
noncomputable def p0q20m1 (t : List (rMm)) : List (rMm) := p0q20m0 ((g0m 5 15 0 35 11) :: (g0m 5 15 0 36 13) :: (g0m 5 15 0 40 6) :: t)
noncomputable def p0q20l0 (t : List (zLg)) : List (zLg) := (.inl 7, [g0V 1, g0V 2], 0, 0, g0C 0) :: t
noncomputable def p0q20l1 (t : List (zLg)) : List (zLg) := p0q20l0 ((.inl 6, [g0V 11, g0V 2], 1, 0, g0V 12) :: t)
noncomputable def p0q20l2 (t : List (zLg)) : List (zLg) := p0q20l1 ((.inl 10, [g0V 12], 2, 0, g0C 0) :: t)
noncomputable def p0q20l3 (t : List (zLg)) : List (zLg) := p0q20l2 ((.inl 9, [g0V 12], 3, 0, g0C 0) :: t)
noncomputable def q20_0 : zNx := (1, 0, (p0q20r0 [g0R 45 45, g0R 0 2000], p0q20f1, [], [g0c 0 0 0], p0q20d2, p0q20m1 [], 0, 0), p0q20l3 [(.inl 14, [g0V 11, g0V 2, g0V 7, g0V 6], 4, 0, g0C 0)], [])
noncomputable def p0q20f2 : List (rX) := (g0Z [g0B 11, g0A 2] 0) :: (g0Z [g0A 13, g0B 11] 0) :: (g0X [g0B 13, g0A 2] 0) :: p0q20f0
noncomputable def p0q20m2 (t : List (rMm)) : List (rMm) := p0q20m0 ((g0m 5 15 0 35 13) :: (g0m 5 15 0 36 7) :: (g0r 5 15 (g0C 0) (g0C 40) (g0C 0)) :: t)
noncomputable def q20_1 : zNx := (1, 0, (p0q20r0 [g0R 45 45, g0R 1 2000], p0q20f2, [], [g0c 0 0 1], p0q20d2, p0q20m2 [], 0, 0), p0q20l3 [(.inl 14, [g0V 11, g0V 2, g0V 7, g0V 6], 4, 0, g0C 1)], [])
noncomputable def p0q20f3 : List (rX) := (g0X [g0B 13, g0A 11] 0) :: (g0X [g0B 13, g0A 2] 0) :: (g0Z [g0B 11, g0A 2] 0) :: p0q20f0
noncomputable def p0q20d3 : List (rD) := (g0d 1 0 (g0C 0) (g0C 0) (g0C 0) m0_ []) :: p0q20d1
noncomputable def p0q20d4 : List (rD) := (g0d 1 0 (g0C 0) (g0C 0) (g0C 0) m7_ []) :: p0q20d3
noncomputable def p0q20l4 (t : List (zLg)) : List (zLg) := p0q20l3 ((.inr .nop, [g0V 12, g0C 45, g0C 0], 0, 0, g0C 0) :: t)
noncomputable def q20_2 : zNx := (1, 0, (p0q20r0 [g0S 127 127, g0R 0 2000], p0q20f3, [], [g0c 0 0 0], p0q20d4, p0q20m0 [g0m 6 15 0 36 13], 0, 0), p0q20l4 [(.inl 11, [g0V 12], 4, 0, g0C 0), (.inl 8, [g0V 11, g0V 2, g0V 7], 5, 0, g0C 0)], [])
noncomputable def p0q20d5 : List (rD) := (g0d 1 0 (g0C 0) (g0C 0) (g0C 0) m10_ [1, 28]) :: p0q20d3
noncomputable def p0q20m3 (t : List (rMm)) : List (rMm) := p0q20m0 ((g0m 6 15 0 35 11) :: (g0m 6 15 0 36 13) :: (g0m 6 15 0 40 6) :: t)
noncomputable def p0q20l5 (t : List (zLg)) : List (zLg) := p0q20l4 ((.inl 11, [g0V 12], 4, 0, g0C 1) :: t)
noncomputable def q20_3 : zNx := (1, 0, (p0q20r0 [g0R 48 57, g0R 0 2000], p0q20f1, [], [g0c 0 0 0], p0q20d5, p0q20m3 [], 0, 0), p0q20l5 [(.inl 14, [g0V 11, g0V 2, g0V 7, g0V 6], 5, 0, g0C 0)], [])
noncomputable def p0q20m4 (t : List (rMm)) : List (rMm) := p0q20m0 ((g0m 6 15 0 35 13) :: (g0m 6 15 0 36 7) :: (g0r 6 15 (g0C 0) (g0C 40) (g0C 0)) :: t)
noncomputable def q20_4 : zNx := (1, 0, (p0q20r0 [g0R 48 57, g0R 1 2000], p0q20f2, [], [g0c 0 0 1], p0q20d5, p0q20m4 [], 0, 0), p0q20l5 [(.inl 14, [g0V 11, g0V 2, g0V 7, g0V 6], 5, 0, g0C 1)], [])
noncomputable def p0q20r1 (t : List (Int × Int)) : List (Int × Int) := (g0R 1 1) :: (g0R 0 2000) :: (g0R 0 2000) :: (g0R 0 12288) :: (g0R 0 12288) :: (g0S 2147483647 1099511640064) :: (g0R 0 3) :: (g0R 0 2000) :: (g0R 0 2000) :: (g0R 0 2000) :: (g0R 0 61) :: (g0R 0 2000) :: t
noncomputable def p0q20l6 (t : List (zLg)) : List (zLg) := p0q20l3 ((.inr .nop, [g0V 12, g0C 95, g0C 0], 0, 0, g0C 0) :: t)
noncomputable def q20_5 : zNx := (1, 0, (p0q20r1 [g0R 45 45, g0R 0 2000], p0q20f1, [], [g0c 0 0 0], p0q20d2, p0q20m1 [], 0, 0), p0q20l6 [(.inl 14, [g0V 11, g0V 2, g0V 7, g0V 6], 4, 0, g0C 0)], [])
noncomputable def q20_6 : zNx := (1, 0, (p0q20r1 [g0R 45 45, g0R 1 2000], p0q20f2, [], [g0c 0 0 1], p0q20d2, p0q20m2 [], 0, 0), p0q20l6 [(.inl 14, [g0V 11, g0V 2, g0V 7, g0V 6], 4, 0, g0C 1)], [])
noncomputable def p0q20l7 (t : List (zLg)) : List (zLg) := p0q20l6 ((.inr .nop, [g0V 12, g0C 45, g0C 0], 0, 0, g0C 0) :: t)
noncomputable def q20_7 : zNx := (1, 0, (p0q20r1 [g0S 127 127, g0R 0 2000], p0q20f3, [], [g0c 0 0 0], p0q20d4, p0q20m0 [g0m 6 15 0 36 13], 0, 0), p0q20l7 [(.inl 11, [g0V 12], 4, 0, g0C 0), (.inl 8, [g0V 11, g0V 2, g0V 7], 5, 0, g0C 0)], [])
noncomputable def p0q20l8 (t : List (zLg)) : List (zLg) := p0q20l7 ((.inl 11, [g0V 12], 4, 0, g0C 1) :: t)
noncomputable def q20_8 : zNx := (1, 0, (p0q20r1 [g0R 48 57, g0R 0 2000], p0q20f1, [], [g0c 0 0 0], p0q20d5, p0q20m3 [], 0, 0), p0q20l8 [(.inl 14, [g0V 11, g0V 2, g0V 7, g0V 6], 5, 0, g0C 0)], [])
noncomputable def q20_9 : zNx := (1, 0, (p0q20r1 [g0R 48 57, g0R 1 2000], p0q20f2, [], [g0c 0 0 1], p0q20d5, p0q20m4 [], 0, 0), p0q20l8 [(.inl 14, [g0V 11, g0V 2, g0V 7, g0V 6], 5, 0, g0C 1)], [])
noncomputable def q20_10 : zNx := (1, 0, (p0q20r1 [g0R 95 95], (g0Z [g0B 11, g0A 2] 0) :: p0q20f0, [], [g0c 0 0 1], (g0d 0 15 (g0C 0) (g0C 39) (g0C 0) 0 []) :: (g0d 0 15 (g0C 0) (g0C 40) (g0C 2) 0 []) :: (g0d 0 15 (g0C 0) (g0C 35) (g0W 11 1) 0 []) :: p0q20d1, p0q20m0 [], 0, 0), p0q20l3 [], [])
noncomputable def p0q20r2 (t : List (Int × Int)) : List (Int × Int) := (g0R 0 1) :: (g0R 0 2000) :: (g0R 0 2000) :: (g0R 0 12288) :: (g0R 0 12288) :: (g0S 2147483647 1099511640064) :: (g0R 0 3) :: (g0R 0 2000) :: (g0R 0 2000) :: (g0R 0 2000) :: (g0R 0 61) :: (g0R 0 1999) :: t
noncomputable def p0q20d6 : List (rD) := (g0d 1 0 (g0C 0) (g0C 0) (g0C 0) m8_ [0]) :: p0q20d1
noncomputable def p0q20l9 (t : List (zLg)) : List (zLg) := p0q20l2 ((.inl 9, [g0V 12], 3, 0, g0C 1) :: t)
noncomputable def q20_11 : zNx := (1, 0, (p0q20r2 [g0R 97 122, g0R 0 2000, g0R 13 2000], (g0Z [g0B 11, g0A 2] 0) :: (g0X [g0B 13, g0A 11] 0) :: (g0X [g0B 14, g0A 2] 0) :: p0q20f0, [], [g0c 0 0 0], p0q20d6, p0q20m0 [g0m 5 15 0 35 11, g0m 5 15 0 37 11, g0m 5 15 0 36 13, g0m 5 15 0 38 14], 0, 0), p0q20l9 [(.inl 12, [g0V 11, g0V 2, g0V 8, g0V 7, g0V 9], 4, 0, g0C 0)], [])
noncomputable def q20_12 : zNx := (1, 0, ([g0R 0 1, g0R 0 2000, g0R 1 2000, g0R 0 12288, g0R 0 12288, g0S 2147483647 1099511640064, g0R 0 3, g0R 0 2000, g0R 0 2000, g0R 0 2000, g0R 0 61, g0R 0 1999, g0R 97 122, g0R 1 2000, g0R 1 12, g0R 1099511627776 1099511640064, g0R 1 12288, g0R 0 12288], (g0X [g0A 11, g0B 3, g0B 2] 12288) :: (g0X [g0A 11, g0B 4, g0B 2] 12288) :: (g0X [g0B 14, g0B 11, g0A 2] 0) :: (g0X [g0A 16, g0B 3] 0) :: (g0X [g0A 17, g0B 4] 0) :: (g0X [g0B 16, g0A 3] 1) :: (g0X [g0B 17, g0A 14, g0A 4] 0) :: (g0Z [g0B 11, g0A 2] 0) :: (g0Z [g0A 13, g0B 11] 0) :: (g0X [g0B 13, g0A 2] 0) :: (g0X [g0A 14, g0B 13, g0A 11] 0) :: (g0X [g0B 14, g0A 13, g0B 11] 0) :: p0q20f0, [], [g0c 0 0 1], (g0d 0 15 (g0C 0) (g0C 40) (g0C 0) 0 []) :: (g0d 0 15 (g0C 0) (g0C 39) (g0V 15) 0 []) :: (g0d 1 0 (g0C 0) (g0C 0) (g0C 0) m11_ [0]) :: p0q20d6, p0q20m0 [g0m 5 15 0 35 13, g0m 5 15 0 37 11, g0m 5 15 0 36 7, g0m 5 15 0 38 14, g0m 6 15 0 8 16, g0m 6 15 0 9 17], 0, 0), p0q20l9 [(.inl 12, [g0V 11, g0V 2, g0V 8, g0V 7, g0V 9], 4, 0, g0C 1), (.inl 15, [g0V 2, g0V 3, g0V 4, g0V 11, g0V 14], 5, 0, g0V 15)], [])
noncomputable def p0q20d7 : List (rD) := (g0d 1 0 (g0C 0) (g0C 0) (g0C 0) m13_ i0_) :: p0q20d0
noncomputable def p0q20m5 (t : List (rMm)) : List (rMm) := p0q20m0 ((g0o 0 74 0 10 13) :: (g0m 4 15 0 35 14) :: t)
noncomputable def p0q20l10 (t : List (zLg)) : List (zLg) := p0q20l1 ((.inl 10, [g0V 12], 2, 0, g0C 1) :: t)
noncomputable def q20_13 : zNx := (1, 0, (p0q20r2 [g0R 65 90, g0R 0 8, g0R 0 2000, g0R 0 2000, g0R 1 2000], (g0Z [g0B 11, g0A 2] 0) :: (g0X [g0A 14, g0B 11] 0) :: (g0X [g0B 15, g0A 11] 0) :: (g0X [g0B 14, g0A 2] 0) :: (g0X [g0B 16, g0A 2] 0) :: p0q20f0, [], [g0c 0 0 0], p0q20d7, p0q20m5 [g0m 4 15 0 39 5, g0m 4 15 0 40 6, g0m 4 15 0 36 15, g0m 4 15 0 37 11, g0m 4 15 0 38 16, g0o 4 74 0 10 13], 0, 0), p0q20l10 [(.inl 17, [g0V 11, g0V 2, g0V 5, g0V 6, g0V 7, g0V 8, g0V 9, g0V 10, g0V 13], 3, 0, g0C 0)], [])
noncomputable def q20_14 : zNx := (1, 0, (p0q20r2 [g0R 65 90, g0R 0 8, g0R 1 2000, g0R 0 7, g0R 1 12, g0R 1 8], (g0Z [g0B 11, g0A 2] 0) :: (g0X [g0B 16, g0A 14] 0) :: (g0Z [g0A 14, g0B 11] 0) :: (g0Z [g0A 17, g0B 15] 0) :: (g0X [g0A 17, g0B 13] 0) :: (g0X [g0B 14, g0A 2] 0) :: (g0X [g0B 15, g0A 13] 0) :: p0q20f0, [], [g0c 0 0 1], p0q20d7, p0q20m5 [g0m 4 15 0 39 15, g0r 4 15 (g0C 0) (g0C 40) (g0C 1), g0m 4 15 0 36 7, g0m 4 15 0 37 11, g0m 4 15 0 38 16, g0o 4 74 0 10 17], 0, 0), p0q20l10 [(.inl 17, [g0V 11, g0V 2, g0V 5, g0V 6, g0V 7, g0V 8, g0V 9, g0V 10, g0V 13], 3, 0, g0C 1)], [])
noncomputable def p0q20f4 : List (rX) := (g0X [g0B 12, g0A 11] 0) :: (g0X [g0B 12, g0A 2] 0) :: (g0X [g0A 11, g0B 2] 0) :: p0q20f0
noncomputable def p0q20l11 (t : List (zLg)) : List (zLg) := p0q20l0 ((.inl 6, [g0V 11, g0V 2], 1, 0, g0D 0) :: (.inl 10, [g0D 0], 2, 0, g0C 0) :: (.inl 9, [g0D 0], 3, 0, g0C 0) :: (.inl 11, [g0D 0], 4, 0, g0C 0) :: (.inl 8, [g0V 11, g0V 2, g0V 7], 5, 0, g0C 0) :: t)
noncomputable def q20_15 : zNx := (1, 0, (p0q20r0 [g0R 0 2000], p0q20f4, [], [g0c 0 0 0], p0q20d4, p0q20m0 [g0m 6 15 0 36 12], 0, 0), p0q20l11 [], [])
noncomputable def q20_16 : zNx := (1, 0, (p0q20r1 [g0R 0 2000], p0q20f4, [], [g0c 0 0 0], p0q20d4, p0q20m0 [g0m 6 15 0 36 12], 0, 0), p0q20l11 [], [])
noncomputable def q20 : List zNx := [q20_0, q20_1, q20_2, q20_3, q20_4, q20_5, q20_6, q20_7, q20_8, q20_9, q20_10, q20_11, q20_12, q20_13, q20_14, q20_15, q20_16]
noncomputable def q20a : List (List zNx) := []
set_option maxRecDepth 100000 in
theorem zk20_ : zCk 3000 uMx uW uT uJL uAn uBds 20 q20 q20a = true := by decide +kernel
noncomputable def p0q21r0 (t : List (Int × Int)) : List (Int × Int) := (g0R 0 2000) :: (g0R 0 12) :: (g0R 0 4) :: t
noncomputable def q21_0 : zNx := (2, 0, (p0q21r0 [g0R 0 20], [g0X [g0B 1, g0B 0] 2000], [], [], [], [g0m 0 15 0 14 3], 0, 0), [], [g0V 0, g0V 1, g0V 2, g0V 3, g0C 0])
noncomputable def q21 : List zNx := [q21_0]
noncomputable def p0q21f0 : List (rX) := (g0X [g0B 4, g0A 3] 0) :: (g0X [g0B 1, g0B 0] 2000) :: []
noncomputable def p0q21d0 : List (rD) := (g0d 1 0 (g0C 0) (g0C 0) (g0C 0) m0_ []) :: []
noncomputable def q21a0_0 : zNx := (1, 0, (p0q21r0 [g0R 0 20, g0R 0 20], (g0X [g0A 4, g0B 3] 0) :: p0q21f0, [], [g0w 0 0 (g0D 0)], p0q21d0, [g0m 0 15 0 14 3], 0, 0), [], [])
noncomputable def p0q21m0 (t : List (rMm)) : List (rMm) := (g0m 0 15 0 14 3) :: (g0o 0 66 0 4 5) :: t
noncomputable def q21a0_1 : zNx := (2, 1, (p0q21r0 [g0R 0 20, g0R 0 20, g0R 0 4], (g0Z [g0B 4, g0A 3] 0) :: p0q21f0, [], [], p0q21d0, p0q21m0 [], 0, 0), [(.inr .nop, [g0V 5, g0V 2, g0C 0], 0, 0, g0C 0)], [g0V 0, g0V 1, g0V 2, g0V 3, g0C 0, g0C 0, g0V 4])
noncomputable def p0q21r1 (t : List (Int × Int)) : List (Int × Int) := p0q21r0 ((g0R 0 20) :: (g0R 0 20) :: (g0R 0 4) :: (g0R 0 12) :: t)
noncomputable def p0q21f1 : List (rX) := (g0X [g0B 5, g0A 2] 0) :: (g0X [g0A 5, g0B 2] 0) :: (g0Z [g0B 4, g0A 3] 0) :: p0q21f0
noncomputable def q21a0_2 : zNx := (2, 1, (p0q21r1 [], p0q21f1, [], [], p0q21d0, p0q21m0 [g0o 0 65 0 4 6], 0, 0), [(.inr .nop, [g0V 6, g0V 1, g0C 0], 0, 0, g0C 0)], [g0V 0, g0V 1, g0V 2, g0V 3, g0C 0, g0C 0, g0V 4])
noncomputable def q21a0_3 : zNx := (2, 1, (p0q21r1 [], (g0X [g0B 6, g0A 1] 0) :: (g0X [g0A 6, g0B 1] 0) :: p0q21f1, [], [], p0q21d0, p0q21m0 [g0o 0 65 0 4 6], 0, 0), [], [g0V 0, g0V 1, g0V 2, g0V 3, g0C 0, g0C 1, g0V 4])
noncomputable def q21a0 : List zNx := [q21a0_0, q21a0_1, q21a0_2, q21a0_3]
noncomputable def p0q21r2 (t : List (Int × Int)) : List (Int × Int) := p0q21r0 ((g0R 1 20) :: (g0R 0 12) :: (g0R 0 0) :: (g0R 0 19) :: t)
noncomputable def p0q21f2 : List (rX) := (g0Z [g0B 6, g0A 3] 0) :: (g0X [g0B 4, g0A 1] 0) :: (g0X [g0B 1, g0B 0] 2000) :: []
noncomputable def q21a1_0 : zNx := (2, 0, (p0q21r2 [], (g0X [g0A 4, g0B 1] 0) :: p0q21f2, [], [], p0q21d0, [g0m 0 15 0 14 3], 0, 0), [], [g0V 0, g0V 1, g0V 2, g0V 3, g0W 6 1])
noncomputable def p0q21r3 (t : List (Int × Int)) : List (Int × Int) := p0q21r0 ((g0R 1 20) :: (g0R 0 12) :: (g0R 1 1) :: (g0R 0 19) :: t)
noncomputable def q21a1_1 : zNx := (1, 0, (p0q21r3 [], (g0X [g0A 4, g0B 1] 0) :: p0q21f2, [], [g0v 0 0 6], p0q21d0, [g0m 0 15 0 14 3], 0, 0), [], [])
noncomputable def q21a1_2 : zNx := (2, 0, (p0q21r2 [], (g0Z [g0B 4, g0A 1] 0) :: p0q21f2, [], [], p0q21d0, [g0m 0 15 0 14 3], 0, 0), [], [g0V 0, g0V 1, g0V 2, g0V 3, g0W 6 1])
noncomputable def p0q21m1 (t : List (rMm)) : List (rMm) := (g0m 0 15 0 14 3) :: (g0q 0 64 (g0C 0) (g0X [g0P 6 12, g0A 4] 0) 7) :: (g0q 0 59 (g0C 0) (g0X [g0A 4, g0A 0] 0) 8) :: t
noncomputable def q21a1_3 : zNx := (2, 1, (p0q21r3 [g0S 127 127, g0S 127 127], (g0Z [g0B 4, g0A 1] 0) :: p0q21f2, [], [], p0q21d0, p0q21m1 [], 0, 0), [(.inr .nop, [g0V 7, g0V 8, g0C 0], 0, 0, g0C 0)], [g0V 0, g0V 1, g0V 2, g0V 3, g0W 4 1, g0C 0, g0V 6])
noncomputable def q21a1_4 : zNx := (2, 1, (p0q21r3 [g0S 127 127, g0S 127 127], (g0X [g0A 8, g0B 7] 0) :: (g0X [g0B 8, g0A 7] 0) :: (g0Z [g0B 4, g0A 1] 0) :: p0q21f2, [], [], p0q21d0, p0q21m1 [], 0, 0), [], [g0V 0, g0V 1, g0V 2, g0V 3, g0W 4 1, g0C 1, g0V 6])
noncomputable def q21a1 : List zNx := [q21a1_0, q21a1_1, q21a1_2, q21a1_3, q21a1_4]
noncomputable def q21a : List (List zNx) := [q21a0, q21a1]
set_option maxRecDepth 100000 in
theorem zk21_ : zCk 3000 uMx uW uT uJL uAn uBds 21 q21 q21a = true := by decide +kernel
noncomputable def p0q22r0 (t : List (Int × Int)) : List (Int × Int) := (g0R 0 2000) :: (g0R 0 12) :: (g0R 0 4) :: (g0R 0 19) :: t
noncomputable def q22_0 : zNx := (2, 0, (p0q22r0 [], [g0X [g0B 1, g0B 0] 2000], [], [], [g0d 0 65 (g0C 0) (g0V 3) (g0V 1) 0 [], g0d 0 66 (g0C 0) (g0V 3) (g0V 2) 0 []], [g0m 0 15 0 14 3], 0, 0), [], [g0V 0, g0V 1, g0V 2, g0V 3, g0C 0])
noncomputable def q22 : List zNx := [q22_0]
noncomputable def p0q22f0 : List (rX) := (g0X [g0B 4, g0A 1] 0) :: (g0X [g0B 1, g0B 0] 2000) :: []
noncomputable def p0q22d0 : List (rD) := (g0d 1 0 (g0C 0) (g0C 0) (g0C 0) m16_ []) :: []
noncomputable def q22a0_0 : zNx := (1, 0, (p0q22r0 [g0R 0 12], (g0X [g0A 4, g0B 1] 0) :: p0q22f0, [], [g0v 0 0 3], (g0d 0 15 (g0C 0) (g0C 14) (g0W 3 1) 0 []) :: p0q22d0, [g0m 0 15 0 14 3], 0, 0), [], [])
noncomputable def q22a0_1 : zNx := (2, 0, (p0q22r0 [g0R 0 12, g0S 127 127], (g0Z [g0B 4, g0A 1] 0) :: p0q22f0, [], [], (g0d 0 64 (g0C 0) (g0X [g0A 4, g0P 3 12] 0) (g0V 5) 0 []) :: p0q22d0, [g0m 0 15 0 14 3, g0q 0 59 (g0C 0) (g0X [g0A 4, g0A 0] 0) 5], 0, 0), [], [g0V 0, g0V 1, g0V 2, g0V 3, g0W 4 1])
noncomputable def q22a0 : List zNx := [q22a0_0, q22a0_1]
noncomputable def q22a : List (List zNx) := [q22a0]
set_option maxRecDepth 100000 in
theorem zk22_ : zCk 3000 uMx uW uT uJL uAn uBds 22 q22 q22a = true := by decide +kernel
noncomputable def p0q23r0 (t : List (Int × Int)) : List (Int × Int) := (g0R 0 2000) :: (g0R 0 2000) :: (g0R 0 2000) :: (g0R 0 2000) :: (g0R 0 2000) :: t
noncomputable def p0q23f0 : List (rX) := (g0X [g0A 1, g0B 0] 0) :: (g0X [g0A 5, g0B 0] 0) :: (g0X [g0B 5, g0A 1] 0) :: []
noncomputable def p0q23d0 : List (rD) := (g0d 1 0 (g0C 0) (g0C 0) (g0C 0) m0_ []) :: (g0d 1 0 (g0C 0) (g0C 0) (g0C 0) m0_ []) :: (g0d 1 0 (g0C 0) (g0C 0) (g0C 0) m6_ []) :: []
noncomputable def p0q23d1 : List (rD) := (g0d 1 0 (g0C 0) (g0C 0) (g0C 0) m7_ []) :: p0q23d0
noncomputable def p0q23m0 (t : List (rMm)) : List (rMm) := (g0m 0 15 0 35 0) :: (g0m 0 15 0 34 1) :: (g0m 0 15 0 36 2) :: (g0m 0 15 0 37 3) :: (g0m 0 15 0 38 4) :: (g0m 1 15 0 35 5) :: t
noncomputable def p0q23l0 (t : List (zLg)) : List (zLg) := (.inl 7, [g0V 0, g0V 1], 0, 0, g0C 0) :: t
noncomputable def p0q23l1 (t : List (zLg)) : List (zLg) := p0q23l0 ((.inl 6, [g0V 5, g0V 1], 1, 0, g0V 6) :: t)
noncomputable def q23_0 : zNx := (1, 0, (p0q23r0 [g0R 0 2000, g0S 127 127, g0R 0 2000], (g0X [g0B 7, g0A 5] 0) :: (g0X [g0B 7, g0A 1] 0) :: (g0Z [g0B 5, g0A 1] 0) :: p0q23f0, [], [g0c 0 0 0], p0q23d1, p0q23m0 [g0m 4 15 0 36 7], 0, 0), p0q23l1 [(.inl 9, [g0V 6], 2, 0, g0C 0), (.inl 8, [g0V 5, g0V 1, g0V 2], 3, 0, g0C 0)], [])
noncomputable def p0q23d2 : List (rD) := (g0d 1 0 (g0C 0) (g0C 0) (g0C 0) m8_ [0]) :: p0q23d0
noncomputable def p0q23l2 (t : List (zLg)) : List (zLg) := p0q23l1 ((.inl 9, [g0V 6], 2, 0, g0C 1) :: t)
noncomputable def q23_1 : zNx := (1, 0, (p0q23r0 [g0R 0 1999, g0R 97 122, g0R 0 2000, g0R 13 2000], (g0Z [g0B 5, g0A 1] 0) :: (g0X [g0B 7, g0A 5] 0) :: (g0X [g0B 8, g0A 1] 0) :: p0q23f0, [], [g0c 0 0 0], p0q23d2, p0q23m0 [g0m 4 15 0 35 5, g0m 4 15 0 37 5, g0m 4 15 0 36 7, g0m 4 15 0 38 8], 0, 0), p0q23l2 [(.inl 12, [g0V 5, g0V 1, g0V 3, g0V 2, g0V 4], 3, 0, g0C 0)], [])
noncomputable def q23_2 : zNx := (1, 0, (p0q23r0 [g0R 0 1999, g0R 97 122, g0R 1 2000, g0R 1 12], (g0Z [g0B 5, g0A 1] 0) :: (g0Z [g0A 7, g0B 5] 0) :: (g0X [g0B 7, g0A 1] 0) :: (g0X [g0A 8, g0B 7, g0A 5] 0) :: (g0X [g0B 8, g0A 7, g0B 5] 0) :: p0q23f0, [], [g0c 0 0 1], p0q23d2, p0q23m0 [g0m 4 15 0 35 7, g0m 4 15 0 37 5, g0m 4 15 0 36 2, g0m 4 15 0 38 8], 0, 0), p0q23l2 [(.inl 12, [g0V 5, g0V 1, g0V 3, g0V 2, g0V 4], 3, 0, g0C 1)], [])
noncomputable def q23_3 : zNx := (1, 0, (p0q23r0 [g0R 0 2000, g0R 0 2000], (g0X [g0B 6, g0A 5] 0) :: (g0X [g0B 6, g0A 1] 0) :: (g0X [g0A 5, g0B 1] 0) :: p0q23f0, [], [g0c 0 0 0], p0q23d1, p0q23m0 [g0m 4 15 0 36 6], 0, 0), p0q23l0 [(.inl 6, [g0V 5, g0V 1], 1, 0, g0D 0), (.inl 9, [g0D 0], 2, 0, g0C 0), (.inl 8, [g0V 5, g0V 1, g0V 2], 3, 0, g0C 0)], [])
noncomputable def q23 : List zNx := [q23_0, q23_1, q23_2, q23_3]
noncomputable def q23a : List (List zNx) := []
set_option maxRecDepth 100000 in
theorem zk23_ : zCk 3000 uMx uW uT uJL uAn uBds 23 q23 q23a = true := by decide +kernel
noncomputable def p0q24r0 (t : List (Int × Int)) : List (Int × Int) := (g0R 0 255) :: (g0R 0 2000) :: (g0R 0 2000) :: (g0R 0 2000) :: (g0R 0 2000) :: t
noncomputable def p0q24f0 : List (rX) := (g0X [g0A 2, g0B 1] 0) :: (g0X [g0A 4, g0B 1] 0) :: (g0X [g0B 4, g0A 2] 0) :: []
noncomputable def p0q24d0 : List (rD) := (g0d 1 0 (g0C 0) (g0C 0) (g0C 0) m0_ []) :: (g0d 1 0 (g0C 0) (g0C 0) (g0C 0) m6_ []) :: []
noncomputable def p0q24m0 (t : List (rMm)) : List (rMm) := (g0m 0 15 0 35 1) :: (g0m 0 15 0 34 2) :: (g0m 0 15 0 36 3) :: (g0m 1 15 0 35 4) :: t
noncomputable def p0q24l0 (t : List (zLg)) : List (zLg) := (.inl 7, [g0V 1, g0V 2], 0, 0, g0C 0) :: t
noncomputable def p0q24l1 (t : List (zLg)) : List (zLg) := p0q24l0 ((.inl 6, [g0V 4, g0V 2], 1, 0, g0V 5) :: t)
noncomputable def q24_0 : zNx := (1, 0, (p0q24r0 [g0S 127 127], (g0X [g0B 5, g0A 0] 0) :: (g0X [g0A 5, g0B 0] 0) :: (g0Z [g0B 4, g0A 2] 0) :: p0q24f0, [], [g0c 0 0 1], (g0d 0 15 (g0C 0) (g0C 35) (g0W 4 1) 0 []) :: p0q24d0, p0q24m0 [], 0, 0), p0q24l1 [], [])
noncomputable def p0q24d1 : List (rD) := (g0d 1 0 (g0C 0) (g0C 0) (g0C 0) m7_ []) :: p0q24d0
noncomputable def q24_1 : zNx := (1, 0, (p0q24r0 [g0S 127 127, g0R 0 2000], (g0X [g0B 6, g0A 4] 0) :: (g0X [g0B 6, g0A 2] 0) :: (g0Z [g0B 4, g0A 2] 0) :: p0q24f0, [], [g0c 0 0 0], p0q24d1, p0q24m0 [g0m 3 15 0 36 6], 0, 0), p0q24l1 [(.inr .nop, [g0V 5, g0V 0, g0C 0], 0, 0, g0C 0), (.inl 8, [g0V 4, g0V 2, g0V 3], 2, 0, g0C 0)], [])
noncomputable def q24_2 : zNx := (1, 0, (p0q24r0 [g0R 0 2000], (g0X [g0B 5, g0A 4] 0) :: (g0X [g0B 5, g0A 2] 0) :: (g0X [g0A 4, g0B 2] 0) :: p0q24f0, [], [g0c 0 0 0], p0q24d1, p0q24m0 [g0m 3 15 0 36 5], 0, 0), p0q24l0 [(.inl 6, [g0V 4, g0V 2], 1, 0, g0D 0), (.inl 8, [g0V 4, g0V 2, g0V 3], 2, 0, g0C 0)], [])
noncomputable def q24 : List zNx := [q24_0, q24_1, q24_2]
noncomputable def q24a : List (List zNx) := []
set_option maxRecDepth 100000 in
theorem zk24_ : zCk 3000 uMx uW uT uJL uAn uBds 24 q24 q24a = true := by decide +kernel
noncomputable def q25_0 : zNx := (1, 0, ([g0R 0 2000, g0R 0 7, g0R 0 1, g0R 0 63, g0I], [], [], [], [g0d 0 15 (g0C 0) (g0C 58) (g0W 3 1) 0 [], g0d 0 90 (g0C 0) (g0V 3) (g0V 4) 0 [], g0d 0 91 (g0C 0) (g0V 3) (g0V 2) 0 [], g0d 0 89 (g0C 0) (g0V 3) (g0V 1) 0 [], g0d 0 88 (g0C 0) (g0V 3) (g0V 0) 0 []], [g0m 0 15 0 58 3, g0m 0 15 0 45 4], 0, 0), [], [])
noncomputable def q25 : List zNx := [q25_0]
noncomputable def q25a : List (List zNx) := []
set_option maxRecDepth 100000 in
theorem zk25_ : zCk 3000 uMx uW uT uJL uAn uBds 25 q25 q25a = true := by decide +kernel
