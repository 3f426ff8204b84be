/-! ===== runs of cases ===== -/
noncomputable def m156_ : Nat := 33886836958231010791354402538698783546874635400999583384475109087012092786893537561225148667289050508100861124591640137689065910855785168078203154476772394921498642866295009277903055356312579847535782934226212034473405677455403653437155541609061988927360619880944820596650882778048564621326472864463774427929026844048404871822112168121796730022638309642418333478370993147038690121045466482370421554271147384348023040212689860540601048657875850655856011628493707391771214541971333012232766333100418739438541647465054677693938791631660513900065482516871970643554968152764034165920569469021666303744206022756070427177156345856
noncomputable def m157_ : Nat := 16943418479115505395677201269349391773437317700499791692237554543506046393446768780612574333644525254050430562295820068844532955427892584039101577238386197460749321433147504638951527678156289923767891467113106017236702838727701826718577770804530994463680309940472410298325441389024282310663236432231887213964513422024202435911056084060898365011319154821209166739185496573519345060522733241185210777135573692174011520106344930270300524328937925327928005814246853695885607270985666506116383166550209369719270823732527338846969395815830256950032741258435985321777484076382017082960284734510833151872103011378035213588578172928
noncomputable def p0q51r0 (t : List (Int × Int)) : List (Int × Int) := (g0R 0 12288) :: (g0R 0 12288) :: (g0R 0 2000) :: (g0R 0 2000) :: (g0R 0 2000) :: (g0R 0 60) :: (g0R 0 400) :: (g0R 0 400) :: (g0R 0 60) :: (g0R 0 20) :: (g0R 0 20) :: (g0R 0 3) :: (g0R 0 2000) :: (g0R 0 2000) :: (g0R 0 2000) :: (g0R 0 3) :: (g0R 0 61) :: g0I :: (g0R 0 2000) :: (g0R 0 12) :: t
noncomputable def p0q51r1 (t : List (Int × Int)) : List (Int × Int) := p0q51r0 ((g0R 0 4) :: (g0R 0 4) :: (g0S 0 7) :: (g0R 0 64) :: (g0R 0 50001) :: (g0R 0 2000) :: t)
noncomputable def p0q51f0 : List (rX) := (g0X [g0B 2, g0B 1] 12288) :: (g0X [g0B 2, g0B 0] 12288) :: []
noncomputable def p0q51m0 (t : List (rMm)) : List (rMm) := (g0m 0 15 0 8 0) :: (g0m 0 15 0 9 1) :: (g0m 0 15 0 3 2) :: (g0m 0 15 0 35 3) :: (g0m 0 15 0 34 4) :: (g0m 0 15 0 32 5) :: (g0m 0 15 0 17 6) :: (g0m 0 15 0 18 7) :: (g0m 0 15 0 33 8) :: (g0m 0 15 0 13 9) :: (g0m 0 15 0 14 10) :: (g0m 0 15 0 0 11) :: (g0m 0 15 0 36 12) :: (g0m 0 15 0 37 13) :: (g0m 0 15 0 38 14) :: (g0m 0 15 0 40 15) :: (g0m 0 15 0 44 16) :: (g0m 0 15 0 45 17) :: (g0m 0 15 0 46 18) :: (g0m 0 15 0 47 19) :: t
noncomputable def p0q51m1 (t : List (rMm)) : List (rMm) := p0q51m0 ((g0m 0 15 0 48 20) :: (g0m 0 15 0 49 21) :: (g0m 0 15 0 50 22) :: (g0m 0 15 0 58 23) :: (g0m 0 15 0 93 24) :: t)
noncomputable def q51_0 : zNx := (2, 0, (p0q51r1 [], (g0X [g0B 25, g0A 2] 0) :: p0q51f0, [], [], [g0d 1 0 (g0C 0) (g0C 0) (g0C 0) m6_ [], g0d 0 15 (g0C 0) (g0C 33) (g0C 0) 0 [], g0d 0 15 (g0C 0) (g0C 18) (g0C 0) 0 [], g0d 0 15 (g0C 0) (g0C 14) (g0V 9) 0 [], g0d 1 0 (g0C 0) (g0C 0) (g0C 0) m5_ [], g0d 0 15 (g0C 0) (g0C 0) (g0C 0) 0 []], p0q51m1 [g0r 2 15 (g0C 0) (g0C 3) (g0C 0), g0m 2 15 0 34 2, g0r 2 15 (g0C 0) (g0C 35) (g0C 0), g0m 6 15 0 35 25], 0, 0), [(.inl 5, [g0V 2, g0V 4, g0V 3], 1, 0, g0C 0), (.inl 7, [g0C 0, g0V 2], 5, 0, g0C 0)], [g0V 0, g0V 1, g0V 2, g0V 3, g0V 4, g0V 5, g0V 6, g0V 7, g0V 8, g0V 9, g0V 10, g0V 11, g0V 12, g0V 13, g0V 14, g0V 15, g0V 16, g0V 17, g0V 18, g0V 19, g0V 20, g0V 21, g0V 22, g0V 23, g0V 24, g0C 0, g0V 0, g0V 1, g0C 0, g0V 25, g0C 0, g0C 0, g0V 9, g0C 0, g0V 13, g0V 14, g0V 15, g0V 16, g0V 17, g0V 18, g0V 19, g0V 20, g0V 21, g0V 22, g0V 23])
noncomputable def q51 : List zNx := [q51_0]
noncomputable def p0q51r2 (t : List (Int × Int)) : List (Int × Int) := p0q51r1 ((g0R 0 12288) :: (g0R 0 12288) :: (g0R 0 0) :: (g0R 0 2000) :: (g0R 0 400) :: (g0R 0 60) :: (g0R 0 20) :: (g0R 0 0) :: (g0R 0 2000) :: (g0R 0 2000) :: (g0R 0 3) :: (g0R 0 61) :: g0I :: (g0R 0 2000) :: (g0R 0 12) :: (g0R 0 4) :: (g0R 0 4) :: (g0S 0 7) :: (g0R 0 64) :: t)
noncomputable def p0q51f1 : List (rX) := (g0X [g0B 25, g0A 2] 0) :: (g0X [g0A 29, g0B 25] 0) :: (g0X [g0A 27, g0B 1] 0) :: (g0X [g0A 26, g0B 0] 0) :: p0q51f0
noncomputable def p0q51f2 : List (rX) := (g0X [g0A 29, g0B 2] 0) :: (g0X [g0B 32, g0P 31 20, g0P 30 20, g0A 9] 0) :: (g0X [g0A 29, g0B 27, g0A 1] 0) :: (g0X [g0A 29, g0B 26, g0A 0] 0) :: (g0X [g0B 30, g0B 6] 400) :: (g0X [g0B 31, g0B 5] 60) :: (g0X [g0A 29, g0B 27, g0B 2] 12288) :: (g0X [g0A 29, g0B 26, g0B 2] 12288) :: (g0X [g0A 32, g0B 9] 0) :: (g0X [g0B 29, g0A 2] 0) :: p0q51f1
noncomputable def p0q51d0 : List (rD) := (g0d 1 0 (g0C 0) (g0C 0) (g0C 0) m34_ i9_) :: []
noncomputable def p0q51d1 : List (rD) := (g0d 0 15 (g0C 0) (g0C 32) (g0X [g0A 31, g0A 5] 0) 0 []) :: (g0d 0 15 (g0C 0) (g0C 17) (g0X [g0A 30, g0A 6] 0) 0 []) :: (g0d 0 15 (g0C 0) (g0C 13) (g0V 32) 0 []) :: p0q51d0
noncomputable def p0q51m2 (t : List (rMm)) : List (rMm) := p0q51m1 ((g0m 1 15 0 8 26) :: (g0m 1 15 0 9 27) :: (g0m 1 15 0 3 28) :: (g0m 1 15 0 35 29) :: (g0m 1 15 0 34 2) :: (g0m 1 15 0 18 30) :: (g0m 1 15 0 33 31) :: (g0m 1 15 0 14 32) :: (g0m 1 15 0 0 33) :: (g0m 1 15 0 36 12) :: (g0m 1 15 0 37 34) :: (g0m 1 15 0 38 35) :: (g0m 1 15 0 40 36) :: (g0m 1 15 0 44 37) :: (g0m 1 15 0 45 38) :: (g0m 1 15 0 46 39) :: (g0m 1 15 0 47 40) :: (g0m 1 15 0 48 41) :: (g0m 1 15 0 49 42) :: (g0m 1 15 0 50 43) :: t)
noncomputable def p0q51m3 (t : List (rMm)) : List (rMm) := p0q51m2 ((g0m 1 15 0 58 44) :: t)
noncomputable def q51a0_0 : zNx := (1, 0, (p0q51r2 [], (g0X [g0B 31, g0B 30] 0) :: p0q51f2, [], [g0v 0 0 25], p0q51d1, p0q51m3 [], 0, 0), [], [])
noncomputable def q51a0_1 : zNx := (1, 0, (p0q51r2 [], (g0Z [g0A 31, g0A 30] 0) :: p0q51f2, [], [g0v 0 0 25], (g0d 1 0 (g0C 0) (g0C 0) (g0C 0) m32_ [21, 22]) :: p0q51d1, p0q51m3 [g0r 5 15 (g0C 0) (g0C 93) (g0C 0)], 0, 0), [(.inl 50, [g0V 24], 4, 0, g0C 0)], [])
noncomputable def p0q51f3 : List (rX) := (g0X [g0B 32, g0P 31 20, g0P 30 20, g0A 9] 0) :: (g0X [g0A 29, g0B 27, g0A 1] 0) :: (g0X [g0A 29, g0B 26, g0A 0] 0) :: (g0X [g0A 32, g0B 9] 0) :: p0q51f1
noncomputable def p0q51d2 : List (rD) := (g0d 1 0 (g0C 0) (g0C 0) (g0C 0) m29_ i7_) :: p0q51d0
noncomputable def p0q51m4 (t : List (rMm)) : List (rMm) := p0q51m3 ((g0q 1 73 (g0C 0) (g0X [g0A 31, g0A 5] 0) 45) :: (g0q 1 69 (g0C 0) (g0X [g0A 31, g0A 5] 0) 46) :: (g0m 2 15 0 35 47) :: (g0m 2 15 0 8 48) :: (g0m 2 15 0 9 49) :: t)
noncomputable def q51a0_2 : zNx := (1, 0, (p0q51r2 [g0R 0 8, g0R 0 19, g0R 0 2000, g0R 0 12288, g0R 0 12288, g0R 0 20, g0R 0 43, g0R 0 60, g0R 0 8, g0R 0 4, g0S 0 7, g0R 0 19, g0R 0 2000, g0R 0 2000, g0R 0 2000, g0R 0 3, g0I, g0R 0 2000, g0R 0 12, g0R 0 4], (g0X [g0A 29, g0B 26, g0B 2] 12288) :: (g0X [g0A 29, g0B 27, g0B 2] 12288) :: (g0X [g0B 29, g0A 2] 0) :: (g0X [g0B 31, g0B 5] 60) :: (g0X [g0B 30, g0B 6] 400) :: (g0X [g0A 47, g0B 29] 0) :: (g0X [g0A 48, g0B 26] 0) :: (g0X [g0A 49, g0B 27] 0) :: (g0X [g0A 50, g0B 32] 0) :: (g0X [g0B 47, g0A 2] 0) :: (g0X [g0B 57, g0A 2] 0) :: (g0X [g0B 48, g0A 47, g0B 29, g0A 26] 0) :: (g0X [g0B 49, g0A 47, g0B 29, g0A 27] 0) :: (g0X [g0A 52, g0B 31, g0B 5] 0) :: (g0X [g0B 52, g0A 31, g0A 5] 0) :: (g0Z [g0B 29, g0A 2] 0) :: p0q51f3, [], [g0w 0 0 (g0Z [g0B 57] 0)], (g0d 0 15 (g0C 0) (g0C 14) (g0V 9) 0 []) :: p0q51d2, p0q51m4 [g0m 2 15 0 33 31, g0m 2 15 0 18 30, g0m 2 15 0 14 50, g0m 2 15 0 58 51, g0m 2 15 0 44 52, g0q 2 73 (g0C 0) (g0X [g0A 31, g0A 5] 0) 53, g0m 2 15 0 49 54, g0m 2 15 0 50 55, g0q 2 69 (g0C 0) (g0X [g0A 31, g0A 5] 0) 56, g0m 2 15 0 36 57, g0m 2 15 0 37 58, g0m 2 15 0 38 59, g0m 2 15 0 40 60, g0m 2 15 0 45 61, g0m 2 15 0 46 62, g0m 2 15 0 47 63, g0m 2 15 0 48 64], 0, 0), [(.inl 49, [g0V 29, g0V 2, g0V 26, g0V 27, g0V 5, g0V 31, g0V 6, g0V 30, g0V 32, g0V 44, g0V 37, g0V 45, g0V 42, g0V 43, g0V 46, g0V 12, g0V 34, g0V 35, g0V 36, g0V 38, g0V 39, g0V 40, g0V 41], 1, 0, g0C 0)], [])
noncomputable def p0q51f4 : List (rX) := (g0X [g0A 49, g0B 27] 0) :: (g0X [g0A 50, g0B 31] 0) :: (g0X [g0A 51, g0B 30] 0) :: (g0X [g0A 52, g0B 32] 0) :: (g0X [g0A 54, g0B 5] 0) :: (g0X [g0A 54, g0B 31] 0) :: (g0X [g0A 63, g0B 29] 0) :: (g0X [g0B 56, g0A 2] 0) :: (g0Z [g0B 61, g0A 2] 0) :: (g0Z [g0B 29, g0A 2] 0) :: (g0X [g0B 42, g0A 2] 0) :: (g0Z [g0B 36, g0A 2] 0) :: (g0X [g0B 41, g0A 2] 0) :: (g0X [g0B 48, g0A 47, g0B 29, g0A 26] 0) :: (g0X [g0B 49, g0A 47, g0B 29, g0A 27] 0) :: (g0X [g0B 50, g0B 5] 60) :: (g0X [g0B 51, g0B 6] 400) :: (g0X [g0B 54, g0A 50, g0A 5] 0) :: (g0X [g0P 57 3, g0B 56] 4) :: (g0X [g0B 52, g0P 51 20, g0P 50 20, g0A 32, g0N 31 19, g0N 30 19] 0) :: p0q51f3
noncomputable def q51a0_3 : zNx := (2, 0, (p0q51r2 [g0R 0 8, g0R 0 19, g0R 4 2000, g0R 0 12288, g0R 0 12288, g0R 0 60, g0R 0 400, g0R 1 20, g0R 0 43, g0R 0 60, g0R 0 8, g0R 0 4, g0S 0 7, g0R 0 19, g0R 0 2000, g0R 0 2000, g0R 0 3, g0I, g0R 0 1999, g0R 1 12, g0R 0 4, g0R 0 2000], (g0X [g0B 47, g0A 2] 0) :: (g0X [g0A 66, g0B 47] 0) :: (g0X [g0B 66, g0A 2] 0) :: (g0X [g0A 29, g0B 26, g0B 2] 12288) :: (g0X [g0A 29, g0B 27, g0B 2] 12288) :: (g0X [g0B 29, g0A 2] 0) :: (g0X [g0B 31, g0B 5] 60) :: (g0X [g0B 30, g0B 6] 400) :: (g0Z [g0B 63, g0A 47] 0) :: (g0Z [g0B 64, g0A 47] 0) :: (g0Z [g0B 65, g0A 47] 0) :: (g0Z [g0A 47, g0B 29] 0) :: (g0X [g0A 48, g0B 26] 0) :: p0q51f4, [], [], (g0d 1 0 (g0C 0) (g0C 0) (g0C 0) m6_ []) :: p0q51d2, p0q51m4 [g0m 2 15 0 33 50, g0m 2 15 0 18 51, g0m 2 15 0 14 52, g0m 2 15 0 58 53, g0m 2 15 0 44 54, g0q 2 73 (g0C 0) (g0X [g0A 31, g0A 5] 0) 55, g0m 2 15 0 49 56, g0m 2 15 0 50 57, g0q 2 69 (g0C 0) (g0X [g0A 31, g0A 5] 0) 58, g0m 2 15 0 36 12, g0m 2 15 0 37 59, g0m 2 15 0 38 60, g0m 2 15 0 40 61, g0m 2 15 0 45 62, g0m 2 15 0 46 63, g0m 2 15 0 47 64, g0m 2 15 0 48 65, g0m 3 15 0 35 66], 0, 0), [(.inl 49, [g0V 29, g0V 2, g0V 26, g0V 27, g0V 5, g0V 31, g0V 6, g0V 30, g0V 32, g0V 44, g0V 37, g0V 45, g0V 42, g0V 43, g0V 46, g0V 12, g0V 34, g0V 35, g0V 36, g0V 38, g0V 39, g0V 40, g0V 41], 1, 0, g0C 1), (.inl 7, [g0V 47, g0V 2], 2, 0, g0C 0)], [g0V 0, g0V 1, g0V 2, g0V 3, g0V 4, g0V 5, g0V 6, g0V 7, g0V 8, g0V 9, g0V 10, g0V 11, g0V 12, g0V 13, g0V 14, g0V 15, g0V 16, g0V 17, g0V 18, g0V 19, g0V 20, g0V 21, g0V 22, g0V 23, g0V 24, g0W 25 1, g0V 48, g0V 49, g0V 28, g0V 66, g0V 51, g0V 50, g0V 52, g0V 33, g0V 59, g0V 60, g0V 61, g0V 54, g0V 62, g0V 63, g0V 64, g0V 65, g0V 56, g0V 57, g0V 53])
noncomputable def q51a0 : List zNx := [q51a0_0, q51a0_1, q51a0_2, q51a0_3]
noncomputable def q51a : List (List zNx) := [q51a0]
set_option maxRecDepth 100000 in
theorem zk51_ : zCk 3000 uMx uW uT uJL uAn uBds 51 q51 q51a = true := by decide +kernel
noncomputable def p0q52d0 : List (rD) := (g0d 1 0 (g0C 0) (g0C 0) (g0C 0) m20_ i1_) :: (g0d 1 0 (g0C 0) (g0C 0) (g0C 0) m22_ i2_) :: (g0d 0 15 (g0C 0) (g0C 14) (g0V 4) 0 []) :: (g0d 1 0 (g0C 0) (g0C 0) (g0C 0) m5_ []) :: (g0d 0 15 (g0C 0) (g0C 0) (g0C 0) 0 []) :: []
noncomputable def p0q52m0 (t : List (rMm)) : List (rMm) := (g0m 0 15 0 8 0) :: (g0m 0 15 0 9 1) :: (g0m 0 15 0 3 2) :: (g0m 0 15 0 0 3) :: (g0m 0 15 0 13 4) :: (g0m 0 15 0 14 5) :: (g0m 0 15 0 17 6) :: (g0m 0 15 0 34 7) :: (g0m 0 15 0 35 8) :: (g0m 0 15 0 36 9) :: (g0m 0 15 0 37 10) :: (g0m 0 15 0 38 11) :: (g0m 0 15 0 40 12) :: (g0m 0 15 0 44 13) :: (g0m 0 15 0 45 14) :: (g0m 0 15 0 46 15) :: (g0m 0 15 0 47 16) :: (g0m 0 15 0 48 17) :: (g0m 0 15 0 49 18) :: (g0m 0 15 0 50 19) :: t
noncomputable def p0q52m1 (t : List (rMm)) : List (rMm) := p0q52m0 ((g0m 0 15 0 58 20) :: (g0m 0 15 0 93 21) :: t)
noncomputable def p0q52m2 (t : List (rMm)) : List (rMm) := p0q52m1 ((g0r 2 15 (g0C 0) (g0C 3) (g0C 0)) :: (g0m 2 15 0 34 2) :: (g0r 2 15 (g0C 0) (g0C 35) (g0C 0)) :: (g0r 4 15 (g0C 0) (g0C 44) (g0C 61)) :: (g0r 4 15 (g0C 0) (g0C 45) (g0C 0)) :: (g0r 4 15 (g0C 0) (g0C 58) (g0C 0)) :: (g0m 5 15 0 35 22) :: (g0m 5 15 0 8 23) :: (g0m 5 15 0 9 24) :: (g0m 5 15 0 58 25) :: (g0m 5 15 0 49 26) :: (g0m 5 15 0 50 27) :: t)
noncomputable def p0q52l0 (t : List (zLg)) : List (zLg) := (.inl 5, [g0V 2, g0V 7, g0V 8], 1, 0, g0C 0) :: (.inl 32, [g0C 61, g0V 13, g0V 14, g0V 20], 3, 0, g0C 0) :: t
noncomputable def q52_0 : zNx := (1, 0, ([g0R 0 12288, g0R 0 12288, g0R 0 2000, g0R 0 3, g0R 0 20, g0R 0 20, g0R 0 400, g0R 0 2000, g0R 0 2000, g0R 0 2000, g0R 0 2000, g0R 0 2000, g0R 0 3, g0R 0 61, g0I, g0R 0 2000, g0R 0 12, g0R 0 4, g0R 0 4, g0S 0 7, g0R 0 64, g0R 0 50001, g0R 0 2000, g0R 0 12288, g0R 0 12288, g0R 0 1, g0R 0 4, g0S 0 7, g0R 0 2000, g0R 0 2000, g0R 0 2000, g0R 0 3, g0R 0 2000, g0R 0 12, g0R 0 4], [g0X [g0B 2, g0B 0] 12288, g0X [g0B 2, g0B 1] 12288, g0X [g0B 25, g0A 22] 0, g0X [g0B 28, g0A 22] 0, g0X [g0A 23, g0B 0] 0, g0X [g0A 24, g0B 1] 0, g0X [g0A 26, g0B 25] 0, g0X [g0A 33, g0B 25] 0, g0X [g0A 34, g0B 25] 0, g0X [g0B 22, g0A 2] 0, g0X [g0B 23, g0A 22, g0A 0] 0, g0X [g0B 24, g0A 22, g0A 1] 0], [], [g0w 0 0 (g0Z [g0B 28] 0)], p0q52d0, p0q52m2 [g0m 5 15 0 36 28, g0m 5 15 0 37 29, g0m 5 15 0 38 30, g0m 5 15 0 40 31, g0m 5 15 0 46 32, g0m 5 15 0 47 33, g0m 5 15 0 48 34], 0, 0), p0q52l0 [(.inl 27, [g0C 0, g0V 2, g0V 0, g0V 1, g0C 0, g0V 18, g0V 19, g0V 9, g0V 10, g0V 11, g0V 12, g0C 61, g0C 0, g0V 15, g0V 16, g0V 17], 4, 0, g0C 0)], [])
noncomputable def p0q52r0 (t : List (Int × Int)) : List (Int × Int) := (g0R 0 12288) :: (g0R 0 12288) :: (g0R 1 2000) :: (g0R 0 3) :: (g0R 0 20) :: (g0R 0 20) :: (g0R 0 400) :: (g0R 0 2000) :: (g0R 0 2000) :: (g0R 0 2000) :: (g0R 0 2000) :: (g0R 0 2000) :: (g0R 0 3) :: (g0R 0 61) :: g0I :: (g0R 0 2000) :: (g0R 0 12) :: (g0R 0 4) :: (g0R 0 4) :: (g0S 0 7) :: t
noncomputable def p0q52r1 (t : List (Int × Int)) : List (Int × Int) := p0q52r0 ((g0R 0 64) :: (g0R 0 50001) :: (g0R 3 2000) :: (g0R 0 12288) :: (g0R 0 12288) :: (g0R 0 1) :: (g0R 0 4) :: (g0S 0 7) :: (g0R 0 2000) :: (g0R 0 2000) :: (g0R 0 3) :: (g0R 0 1999) :: (g0R 1 12) :: (g0R 0 4) :: (g0R 0 2000) :: t)
noncomputable def p0q52f0 : List (rX) := (g0X [g0B 22, g0A 2] 0) :: (g0X [g0A 34, g0B 22] 0) :: (g0X [g0B 34, g0A 2] 0) :: (g0X [g0B 2, g0B 0] 12288) :: (g0X [g0B 2, g0B 1] 12288) :: (g0Z [g0B 31, g0A 22] 0) :: (g0Z [g0B 32, g0A 22] 0) :: (g0Z [g0B 33, g0A 22] 0) :: (g0X [g0A 23, g0B 0] 0) :: (g0X [g0A 24, g0B 1] 0) :: (g0X [g0A 26, g0B 25] 0) :: (g0X [g0A 33, g0B 25] 0) :: (g0Z [g0B 25, g0A 2] 0) :: (g0X [g0B 30, g0A 2] 0) :: (g0X [g0B 12, g0A 2] 0) :: (g0X [g0B 23, g0A 22, g0A 0] 0) :: (g0X [g0B 24, g0A 22, g0A 1] 0) :: (g0X [g0P 27 3, g0B 26] 4) :: []
noncomputable def p0q52f1 : List (rX) := (g0X [g0B 36, g0A 2] 0) :: (g0Z [g0B 34, g0A 2] 0) :: p0q52f0
noncomputable def p0q52d1 : List (rD) := (g0d 1 0 (g0C 0) (g0C 0) (g0C 0) m7_ []) :: (g0d 1 0 (g0C 0) (g0C 0) (g0C 0) m0_ []) :: (g0d 1 0 (g0C 0) (g0C 0) (g0C 0) m6_ []) :: p0q52d0
noncomputable def p0q52m3 (t : List (rMm)) : List (rMm) := p0q52m2 ((g0m 5 15 0 36 9) :: (g0m 5 15 0 37 28) :: (g0m 5 15 0 38 29) :: (g0m 5 15 0 40 30) :: (g0m 5 15 0 46 31) :: (g0m 5 15 0 47 32) :: (g0m 5 15 0 48 33) :: (g0m 6 15 0 35 34) :: t)
noncomputable def p0q52l1 (t : List (zLg)) : List (zLg) := p0q52l0 ((.inl 27, [g0C 0, g0V 2, g0V 0, g0V 1, g0C 0, g0V 18, g0V 19, g0V 9, g0V 10, g0V 11, g0V 12, g0C 61, g0C 0, g0V 15, g0V 16, g0V 17], 4, 0, g0C 1) :: (.inl 7, [g0V 22, g0V 2], 5, 0, g0C 0) :: t)
noncomputable def p0q52l2 (t : List (zLg)) : List (zLg) := p0q52l1 ((.inl 6, [g0V 34, g0V 2], 6, 0, g0V 35) :: t)
noncomputable def q52_1 : zNx := (1, 0, (p0q52r1 [g0S 127 127, g0R 0 2000], (g0X [g0B 36, g0A 34] 0) :: p0q52f1, [], [g0w 0 0 (g0Z [g0B 36] 0)], p0q52d1, p0q52m3 [g0m 8 15 0 36 36], 0, 0), p0q52l2 [(.inr .nop, [g0V 35, g0C 46, g0C 0], 0, 0, g0C 0), (.inl 8, [g0V 34, g0V 2, g0V 9], 7, 0, g0C 0)], [])
noncomputable def q52_2 : zNx := (1, 0, (p0q52r1 [g0R 46 46, g0R 0 2000], p0q52f1, [], [g0w 0 0 (g0Z [g0B 36] 0)], p0q52d1, p0q52m3 [g0m 8 15 0 36 36], 0, 0), p0q52l2 [(.inl 31, [g0V 2, g0V 9, g0V 33], 7, 0, g0C 0)], [])
noncomputable def p0q52r2 (t : List (Int × Int)) : List (Int × Int) := p0q52r1 ((g0R 46 46) :: (g0R 0 2000) :: (g0R 0 19) :: t)
noncomputable def p0q52f2 : List (rX) := (g0X [g0B 32, g0B 31] 2000) :: (g0Z [g0B 37, g0A 4] 0) :: (g0X [g0B 36, g0A 2] 0) :: (g0X [g0A 36, g0B 2] 0) :: (g0Z [g0B 34, g0A 2] 0) :: (g0Z [g0A 36, g0B 34] 0) :: p0q52f0
noncomputable def p0q52d2 : List (rD) := (g0d 1 0 (g0C 0) (g0C 0) (g0C 0) m6_ []) :: (g0d 0 15 (g0C 0) (g0C 35) (g0W 34 1) 0 []) :: p0q52d1
noncomputable def p0q52d3 : List (rD) := (g0d 1 0 (g0C 0) (g0C 0) (g0C 0) m0_ []) :: p0q52d2
noncomputable def p0q52d4 : List (rD) := (g0d 1 0 (g0C 0) (g0C 0) (g0C 0) m0_ []) :: p0q52d3
noncomputable def p0q52m4 (t : List (rMm)) : List (rMm) := p0q52m3 ((g0m 8 15 0 36 9) :: (g0m 10 15 0 35 36) :: t)
noncomputable def p0q52l3 (t : List (zLg)) : List (zLg) := p0q52l2 ((.inl 31, [g0V 2, g0V 9, g0V 33], 7, 0, g0C 1) :: (.inl 7, [g0W 34 1, g0V 2], 9, 0, g0C 0) :: t)
noncomputable def p0q52l4 (t : List (zLg)) : List (zLg) := p0q52l3 ((.inl 21, [g0V 31, g0V 32, g0V 33, g0V 4], 10, 0, g0V 37) :: t)
noncomputable def p0q52l5 (t : List (zLg)) : List (zLg) := p0q52l4 ((.inl 45, [g0V 37, g0V 6, g0V 33], 11, 0, g0V 38) :: t)
noncomputable def q52_3 : zNx := (2, 0, (p0q52r2 [g0R 0 399], (g0Z [g0B 38, g0A 6] 0) :: p0q52f2, [], [], (g0d 0 15 (g0C 0) (g0C 17) (g0Y 6 0) 0 []) :: p0q52d4, p0q52m4 [], 0, 0), p0q52l5 [], [g0V 0, g0V 1, g0V 2, g0V 3, g0V 4, g0V 5, g0V 6, g0V 7, g0V 8, g0V 9, g0V 10, g0V 11, g0V 12, g0V 13, g0V 14, g0V 15, g0V 16, g0V 17, g0V 18, g0V 19, g0V 20, g0V 21, g0V 38, g0V 38, g0V 37, g0V 23, g0V 24, g0C 0, g0C 0, g0Y 6 0, g0V 28, g0V 29, g0V 30, g0C 61, g0C 0, g0V 31, g0V 32, g0V 33, g0V 26, g0V 27, g0V 25])
noncomputable def q52_4 : zNx := (1, 0, (p0q52r2 [g0T 0 0], (g0Z [g0B 38, g0A 6] 0) :: p0q52f2, [], [g0c 0 0 0], p0q52d4, p0q52m4 [], 0, 0), p0q52l5 [], [])
noncomputable def q52_5 : zNx := (1, 0, (p0q52r1 [g0R 46 46, g0R 0 2000, g0T 0 0], p0q52f2, [], [g0c 0 0 0], p0q52d3, p0q52m4 [], 0, 0), p0q52l4 [], [])
noncomputable def q52_6 : zNx := (1, 0, (p0q52r1 [g0R 46 46, g0R 0 2000, g0R 0 2000], (g0X [g0B 37, g0A 36] 0) :: (g0X [g0B 37, g0A 2] 0) :: (g0Z [g0B 36, g0A 2] 0) :: (g0Z [g0B 34, g0A 2] 0) :: (g0Z [g0A 36, g0B 34] 0) :: (g0X [g0B 36, g0A 2] 0) :: p0q52f0, [], [g0w 0 0 (g0Z [g0B 37] 0)], (g0d 1 0 (g0C 0) (g0C 0) (g0C 0) m7_ []) :: p0q52d2, p0q52m4 [g0m 11 15 0 36 37], 0, 0), p0q52l3 [(.inl 8, [g0V 36, g0V 2, g0V 9], 10, 0, g0C 0)], [])
noncomputable def q52_7 : zNx := (1, 0, (p0q52r1 [g0R 0 2000], (g0X [g0B 35, g0A 34] 0) :: (g0X [g0B 35, g0A 2] 0) :: (g0X [g0A 34, g0B 2] 0) :: p0q52f0, [], [g0w 0 0 (g0Z [g0B 35] 0)], p0q52d1, p0q52m3 [g0m 8 15 0 36 35], 0, 0), p0q52l1 [(.inl 6, [g0V 34, g0V 2], 6, 0, g0D 0), (.inl 8, [g0V 34, g0V 2, g0V 9], 7, 0, g0C 0)], [])
noncomputable def q52 : List zNx := [q52_0, q52_1, q52_2, q52_3, q52_4, q52_5, q52_6, q52_7]
noncomputable def p0q52r3 (t : List (Int × Int)) : List (Int × Int) := (g0R 0 12288) :: (g0R 0 12288) :: (g0R 4 2000) :: (g0R 0 3) :: (g0R 1 20) :: (g0R 0 20) :: (g0R 1 400) :: (g0R 0 2000) :: (g0R 0 2000) :: (g0R 0 2000) :: (g0R 0 2000) :: (g0R 0 2000) :: (g0R 0 3) :: (g0R 0 61) :: g0I :: (g0R 0 2000) :: (g0R 0 12) :: (g0R 0 4) :: (g0R 0 4) :: (g0S 0 7) :: t
noncomputable def p0q52r4 (t : List (Int × Int)) : List (Int × Int) := p0q52r3 ((g0R 0 64) :: (g0R 0 50001) :: (g0R 0 399) :: (g0R 0 399) :: (g0R 0 19) :: (g0R 0 12288) :: (g0R 0 12288) :: (g0R 0 0) :: (g0R 0 0) :: (g0R 0 399) :: (g0R 0 2000) :: (g0R 0 2000) :: (g0R 0 3) :: (g0R 61 61) :: (g0R 0 0) :: (g0R 0 1999) :: (g0R 1 12) :: (g0R 0 4) :: (g0R 0 4) :: (g0S 0 7) :: t)
noncomputable def p0q52r5 (t : List (Int × Int)) : List (Int × Int) := p0q52r4 ((g0R 0 1) :: t)
noncomputable def p0q52f3 : List (rX) := (g0X [g0B 26, g0A 2, g0A 1] 0) :: (g0X [g0B 25, g0A 2, g0A 0] 0) :: (g0Z [g0B 29, g0A 6] 0) :: (g0Z [g0B 22, g0A 6] 0) :: (g0X [g0B 40, g0A 38] 0) :: (g0X [g0B 40, g0A 37] 0) :: (g0Z [g0B 37, g0A 2] 0) :: (g0Z [g0B 36, g0A 2] 0) :: (g0Z [g0B 35, g0A 2] 0) :: (g0X [g0A 29, g0B 22] 0) :: (g0Z [g0B 24, g0A 4] 0) :: (g0X [g0A 26, g0B 1] 0) :: (g0X [g0A 25, g0B 0] 0) :: (g0X [g0B 23, g0A 22] 0) :: (g0X [g0B 2, g0B 1] 12288) :: (g0X [g0B 2, g0B 0] 12288) :: []
noncomputable def p0q52d5 : List (rD) := (g0d 1 0 (g0C 0) (g0C 0) (g0C 0) m36_ i11_) :: []
noncomputable def p0q52m5 (t : List (rMm)) : List (rMm) := p0q52m1 ((g0m 1 15 0 8 25) :: (g0m 1 15 0 9 26) :: (g0m 1 15 0 3 27) :: (g0m 1 15 0 0 28) :: (g0m 1 15 0 14 4) :: (g0m 1 15 0 17 29) :: (g0m 1 15 0 34 2) :: (g0m 1 15 0 35 2) :: (g0m 1 15 0 36 9) :: (g0m 1 15 0 37 30) :: (g0m 1 15 0 38 31) :: (g0m 1 15 0 40 32) :: (g0m 1 15 0 44 33) :: (g0m 1 15 0 45 34) :: (g0m 1 15 0 46 35) :: (g0m 1 15 0 47 36) :: (g0m 1 15 0 48 37) :: (g0m 1 15 0 49 38) :: (g0m 1 15 0 50 39) :: (g0m 1 15 0 58 40) :: t)
noncomputable def q52a0_0 : zNx := (1, 0, (p0q52r5 [], (g0X [g0B 29, g0A 22] 0) :: p0q52f3, [], [g0c 0 0 1], (g0d 1 0 (g0C 0) (g0C 0) (g0C 0) m32_ [21, 22]) :: p0q52d5, p0q52m5 [g0r 2 15 (g0C 0) (g0C 93) (g0C 0)], 0, 0), [(.inl 50, [g0V 21], 1, 0, g0C 0)], [])
noncomputable def q52a0_1 : zNx := (2, 0, (p0q52r5 [g0R 0 19, g0S 2147483647 1099511640064, g0S 2147483647 1099511640064, g0S 2147483647 1099511640064, g0S 2147483647 1099511640064], (g0Z [g0A 29, g0B 22] 0) :: p0q52f3, [], [], (g0d 0 68 (g0C 0) (g0X [g0P 22 4] 3) (g0V 45) 0 []) :: (g0d 0 68 (g0C 0) (g0X [g0P 22 4] 2) (g0V 44) 0 []) :: (g0d 0 68 (g0C 0) (g0X [g0P 22 4] 1) (g0V 43) 0 []) :: (g0d 0 68 (g0C 0) (g0X [g0P 22 4] 0) (g0V 42) 0 []) :: (g0d 0 67 (g0C 0) (g0V 22) (g0V 41) 0 []) :: p0q52d5, p0q52m5 [g0q 1 67 (g0C 0) (g0W 22 1) 41, g0q 1 68 (g0C 0) (g0X [g0P 22 4] 4) 42, g0q 1 68 (g0C 0) (g0X [g0P 22 4] 5) 43, g0q 1 68 (g0C 0) (g0X [g0P 22 4] 6) 44, g0q 1 68 (g0C 0) (g0X [g0P 22 4] 7) 45], 0, 0), [], [g0V 0, g0V 1, g0V 2, g0V 3, g0V 4, g0V 5, g0V 6, g0V 7, g0V 8, g0V 9, g0V 10, g0V 11, g0V 12, g0V 13, g0V 14, g0V 15, g0V 16, g0V 17, g0V 18, g0V 19, g0V 20, g0V 21, g0W 22 1, g0V 23, g0V 24, g0V 25, g0V 26, g0V 27, g0V 28, g0V 29, g0V 30, g0V 31, g0V 32, g0V 33, g0V 34, g0V 35, g0V 36, g0V 37, g0V 38, g0V 39, g0V 40])
noncomputable def q52a0 : List zNx := [q52a0_0, q52a0_1]
noncomputable def q52a : List (List zNx) := [q52a0]
set_option maxRecDepth 100000 in
theorem zk52_ : zCk 3000 uMx uW uT uJL uAn uBds 52 q52 q52a = true := by decide +kernel
noncomputable def p0q54d0 : List (rD) := (g0d 1 0 (g0C 0) (g0C 0) (g0C 0) m1_ []) :: []
noncomputable def p0q54m0 (t : List (rMm)) : List (rMm) := (g0m 0 15 0 0 1) :: (g0m 0 15 0 32 2) :: (g0m 0 15 0 93 3) :: t
noncomputable def p0q54m1 (t : List (rMm)) : List (rMm) := p0q54m0 ((g0r 1 15 (g0C 0) (g0C 0) (g0C 1)) :: t)
noncomputable def p0q54l0 (t : List (zLg)) : List (zLg) := (.inl 1, [g0C 1, g0V 1], 0, 0, g0C 1) :: t
noncomputable def q54_0 : zNx := (1, 0, ([g0T 2147483647 0, g0R 0 3, g0R 0 60, g0R 0 50001], [], [], [g0c 0 0 0], p0q54d0, p0q54m1 [], 0, 0), p0q54l0 [], [])
noncomputable def p0q54r0 (t : List (Int × Int)) : List (Int × Int) := (g0R 0 2147483647) :: (g0R 0 3) :: (g0R 0 60) :: (g0R 0 50001) :: t
noncomputable def q54_1 : zNx := (2, 0, (p0q54r0 [], [g0Z [g0A 2, g0B 0] 0], [], [], (g0d 0 15 (g0C 0) (g0C 32) (g0Y 2 0) 0 []) :: p0q54d0, p0q54m0 [g0r 1 15 (g0C 0) (g0C 0) (g0C 0)], 0, 0), [(.inl 1, [g0C 0, g0V 1], 0, 0, g0C 0)], [g0V 0, g0V 1, g0V 2, g0V 3, g0V 0, g0C 0, g0Y 2 0])
noncomputable def q54_2 : zNx := (1, 0, (p0q54r0 [], [g0X [g0B 2, g0A 0] 0], [], [g0c 0 0 0], p0q54d0, p0q54m1 [], 0, 0), p0q54l0 [], [])
noncomputable def q54 : List zNx := [q54_0, q54_1, q54_2]
noncomputable def p0q54r1 (t : List (Int × Int)) : List (Int × Int) := (g0R 0 59) :: (g0R 0 3) :: (g0R 0 60) :: (g0R 0 50001) :: (g0R 0 59) :: (g0R 0 0) :: (g0R 0 59) :: t
noncomputable def p0q54f0 : List (rX) := (g0Z [g0B 6, g0A 2] 0) :: (g0Z [g0A 2, g0B 0] 0) :: (g0Z [g0B 4, g0A 2] 0) :: (g0X [g0A 6, g0B 4] 0) :: (g0X [g0A 4, g0B 0] 0) :: []
noncomputable def p0q54d1 : List (rD) := (g0d 1 0 (g0C 0) (g0C 0) (g0C 0) m39_ i14_) :: []
noncomputable def p0q54m2 (t : List (rMm)) : List (rMm) := p0q54m0 ((g0m 1 15 0 0 5) :: (g0m 1 15 0 32 6) :: t)
noncomputable def q54a0_0 : zNx := (1, 0, (p0q54r1 [], (g0X [g0B 6, g0A 4] 0) :: p0q54f0, [], [g0v 0 0 6], (g0d 1 0 (g0C 0) (g0C 0) (g0C 0) m32_ [21, 22]) :: p0q54d1, p0q54m2 [g0r 2 15 (g0C 0) (g0C 93) (g0C 0)], 0, 0), [(.inl 50, [g0V 3], 1, 0, g0C 0)], [])
noncomputable def q54a0_1 : zNx := (2, 0, (p0q54r1 [], (g0Z [g0A 6, g0B 4] 0) :: p0q54f0, [], [], (g0d 1 0 (g0C 0) (g0C 0) (g0C 0) m37_ i12_) :: p0q54d1, p0q54m2 [], 0, 0), [(.inl 53, [g0V 4, g0V 6], 1, 0, g0C 0)], [g0V 0, g0V 1, g0V 2, g0V 3, g0W 4 1, g0V 5, g0V 6])
noncomputable def q54a0 : List zNx := [q54a0_0, q54a0_1]
noncomputable def q54a : List (List zNx) := [q54a0]
set_option maxRecDepth 100000 in
theorem zk54_ : zCk 3000 uMx uW uT uJL uAn uBds 54 q54 q54a = true := by decide +kernel
noncomputable def p0q90r0 (t : List (Int × Int)) : List (Int × Int) := (g0R 0 12288) :: (g0R 0 12288) :: (g0R 0 2000) :: (g0R 0 20) :: t
noncomputable def p0q90d0 : List (rD) := (g0d 1 0 (g0C 0) (g0C 0) (g0C 0) m1_ []) :: (g0d 1 0 (g0C 0) (g0C 0) (g0C 0) m5_ []) :: []
noncomputable def p0q90d1 : List (rD) := (g0d 1 0 (g0C 0) (g0C 0) (g0C 0) m20_ i1_) :: (g0d 1 0 (g0C 0) (g0C 0) (g0C 0) m22_ i2_) :: (g0d 0 15 (g0C 0) (g0C 14) (g0V 3) 0 []) :: p0q90d0
noncomputable def p0q90m0 (t : List (rMm)) : List (rMm) := (g0m 0 15 0 8 0) :: (g0m 0 15 0 9 1) :: (g0m 0 15 0 3 2) :: (g0m 0 15 0 13 3) :: (g0m 0 15 0 59 4) :: (g0m 0 15 0 0 5) :: (g0m 0 15 0 14 6) :: (g0m 0 15 0 34 7) :: (g0m 0 15 0 35 8) :: (g0m 0 15 0 36 9) :: (g0m 0 15 0 37 10) :: (g0m 0 15 0 38 11) :: (g0m 0 15 0 40 12) :: (g0m 0 15 0 44 13) :: (g0m 0 15 0 45 14) :: (g0m 0 15 0 46 15) :: (g0m 0 15 0 47 16) :: (g0m 0 15 0 48 17) :: (g0m 0 15 0 49 18) :: (g0m 0 15 0 50 19) :: t
noncomputable def p0q90m1 (t : List (rMm)) : List (rMm) := p0q90m0 ((g0m 0 15 0 58 20) :: (g0m 0 15 0 71 21) :: t)
noncomputable def p0q90m2 (t : List (rMm)) : List (rMm) := p0q90m1 ((g0r 1 15 (g0C 0) (g0C 3) (g0C 0)) :: (g0m 1 15 0 34 2) :: (g0r 1 15 (g0C 0) (g0C 35) (g0C 0)) :: t)
noncomputable def p0q90m3 (t : List (rMm)) : List (rMm) := p0q90m2 ((g0r 2 15 (g0C 0) (g0C 0) (g0C 0)) :: (g0r 4 15 (g0C 0) (g0C 44) (g0C 61)) :: (g0r 4 15 (g0C 0) (g0C 45) (g0C 0)) :: (g0r 4 15 (g0C 0) (g0C 58) (g0C 0)) :: (g0m 5 15 0 35 22) :: (g0m 5 15 0 8 23) :: (g0m 5 15 0 9 24) :: (g0m 5 15 0 58 25) :: (g0m 5 15 0 49 26) :: (g0m 5 15 0 50 27) :: t)
noncomputable def p0q90l0 (t : List (zLg)) : List (zLg) := (.inl 5, [g0V 2, g0V 7, g0V 8], 0, 0, g0C 0) :: t
noncomputable def p0q90l1 (t : List (zLg)) : List (zLg) := p0q90l0 ((.inl 1, [g0C 0, g0V 5], 1, 0, g0C 0) :: (.inl 32, [g0C 61, g0V 13, g0V 14, g0V 20], 3, 0, g0C 0) :: t)
noncomputable def q90_0 : zNx := (1, 0, (p0q90r0 [g0R 1 1, g0R 0 3, g0R 0 20, g0R 0 2000, g0R 0 2000, g0R 0 2000, g0R 0 2000, g0R 0 2000, g0R 0 3, g0R 0 61, g0I, g0R 0 2000, g0R 0 12, g0R 0 4, g0R 0 4, g0S 0 7, g0R 0 64, g0R 0 2000, g0R 0 2000, g0R 0 12288, g0R 0 12288, g0R 0 1, g0R 0 4, g0S 0 7, g0R 0 2000, g0R 0 2000, g0R 0 2000, g0R 0 3, g0R 0 2000, g0R 0 12, g0R 0 4], [g0X [g0B 2, g0B 0] 12288, g0X [g0B 2, g0B 1] 12288, g0X [g0B 25, g0A 22] 0, g0X [g0B 28, g0A 22] 0, g0X [g0A 23, g0B 0] 0, g0X [g0A 24, g0B 1] 0, g0X [g0A 26, g0B 25] 0, g0X [g0A 33, g0B 25] 0, g0X [g0A 34, g0B 25] 0, g0X [g0B 22, g0A 2] 0, g0X [g0B 23, g0A 22, g0A 0] 0, g0X [g0B 24, g0A 22, g0A 1] 0], [], [g0w 0 0 (g0Z [g0B 28] 1)], p0q90d1, p0q90m3 [g0m 5 15 0 36 28, g0m 5 15 0 37 29, g0m 5 15 0 38 30, g0m 5 15 0 40 31, g0m 5 15 0 46 32, g0m 5 15 0 47 33, g0m 5 15 0 48 34], 0, 0), p0q90l1 [(.inl 27, [g0C 0, g0V 2, g0V 0, g0V 1, g0C 0, g0V 18, g0V 19, g0V 9, g0V 10, g0V 11, g0V 12, g0C 61, g0C 0, g0V 15, g0V 16, g0V 17], 4, 0, g0C 0)], [])
noncomputable def p0q90r1 (t : List (Int × Int)) : List (Int × Int) := (g0R 0 12288) :: (g0R 0 12288) :: (g0R 1 2000) :: (g0R 0 20) :: (g0R 1 1) :: (g0R 0 3) :: (g0R 0 20) :: (g0R 0 2000) :: (g0R 0 2000) :: (g0R 0 2000) :: (g0R 0 2000) :: (g0R 0 2000) :: (g0R 0 3) :: (g0R 0 61) :: g0I :: (g0R 0 2000) :: (g0R 0 12) :: (g0R 0 4) :: (g0R 0 4) :: (g0S 0 7) :: t
noncomputable def p0q90r2 (t : List (Int × Int)) : List (Int × Int) := p0q90r1 ((g0R 0 64) :: (g0R 0 2000) :: (g0R 3 2000) :: (g0R 0 12288) :: (g0R 0 12288) :: (g0R 0 1) :: (g0R 0 4) :: (g0S 0 7) :: (g0R 0 2000) :: (g0R 0 2000) :: (g0R 0 3) :: (g0R 0 1999) :: (g0R 1 12) :: (g0R 0 4) :: (g0R 0 2000) :: t)
noncomputable def p0q90f0 : List (rX) := (g0Z [g0B 25, g0A 2] 0) :: (g0X [g0B 30, g0A 2] 0) :: (g0X [g0B 12, g0A 2] 0) :: (g0X [g0B 23, g0A 22, g0A 0] 0) :: (g0X [g0B 24, g0A 22, g0A 1] 0) :: (g0X [g0P 27 3, g0B 26] 4) :: []
noncomputable def p0q90d2 : List (rD) := (g0d 1 0 (g0C 0) (g0C 0) (g0C 0) m7_ []) :: p0q90d1
noncomputable def p0q90m4 (t : List (rMm)) : List (rMm) := p0q90m3 ((g0m 5 15 0 36 9) :: (g0m 5 15 0 37 28) :: (g0m 5 15 0 38 29) :: (g0m 5 15 0 40 30) :: (g0m 5 15 0 46 31) :: (g0m 5 15 0 47 32) :: (g0m 5 15 0 48 33) :: t)
noncomputable def p0q90l2 (t : List (zLg)) : List (zLg) := p0q90l1 ((.inl 27, [g0C 0, g0V 2, g0V 0, g0V 1, g0C 0, g0V 18, g0V 19, g0V 9, g0V 10, g0V 11, g0V 12, g0C 61, g0C 0, g0V 15, g0V 16, g0V 17], 4, 0, g0C 1) :: t)
noncomputable def q90_1 : zNx := (1, 0, (p0q90r2 [], (g0X [g0B 34, g0A 2] 0) :: (g0X [g0B 2, g0B 0] 12288) :: (g0X [g0B 2, g0B 1] 12288) :: (g0Z [g0B 31, g0A 22] 0) :: (g0Z [g0B 32, g0A 22] 0) :: (g0Z [g0B 33, g0A 22] 0) :: (g0X [g0A 23, g0B 0] 0) :: (g0X [g0A 24, g0B 1] 0) :: (g0X [g0A 26, g0B 25] 0) :: (g0X [g0A 33, g0B 25] 0) :: (g0X [g0B 22, g0A 2] 0) :: p0q90f0, [], [g0w 0 0 (g0Z [g0B 34] 1)], p0q90d2, p0q90m4 [g0m 6 15 0 36 34], 0, 0), p0q90l2 [(.inl 31, [g0V 2, g0V 9, g0V 33], 5, 0, g0C 0)], [])
noncomputable def p0q90f1 : List (rX) := (g0X [g0B 2, g0B 0] 12288) :: (g0X [g0B 2, g0B 1] 12288) :: (g0Z [g0B 31, g0A 22] 0) :: (g0Z [g0B 32, g0A 22] 0) :: (g0Z [g0B 33, g0A 22] 0) :: (g0X [g0A 23, g0B 0] 0) :: (g0X [g0A 24, g0B 1] 0) :: (g0X [g0A 26, g0B 25] 0) :: (g0X [g0A 33, g0B 25] 0) :: p0q90f0
noncomputable def p0q90f2 : List (rX) := (g0X [g0B 32, g0B 31] 2000) :: (g0Z [g0B 35, g0A 3] 0) :: (g0X [g0B 34, g0A 2] 0) :: (g0X [g0A 34, g0B 2] 0) :: (g0X [g0B 22, g0A 2] 0) :: (g0X [g0A 34, g0B 22] 0) :: p0q90f1
noncomputable def p0q90d3 : List (rD) := (g0d 1 0 (g0C 0) (g0C 0) (g0C 0) m6_ []) :: p0q90d2
noncomputable def p0q90d4 : List (rD) := (g0d 1 0 (g0C 0) (g0C 0) (g0C 0) m0_ []) :: p0q90d3
noncomputable def p0q90m5 (t : List (rMm)) : List (rMm) := p0q90m4 ((g0m 6 15 0 36 9) :: (g0m 7 15 0 35 34) :: t)
noncomputable def p0q90l3 (t : List (zLg)) : List (zLg) := p0q90l2 ((.inl 31, [g0V 2, g0V 9, g0V 33], 5, 0, g0C 1) :: (.inl 7, [g0V 22, g0V 2], 6, 0, g0C 0) :: t)
noncomputable def p0q90l4 (t : List (zLg)) : List (zLg) := p0q90l3 ((.inl 21, [g0V 31, g0V 32, g0V 33, g0V 3], 7, 0, g0V 35) :: t)
noncomputable def q90_2 : zNx := (2, 0, (p0q90r2 [g0R 0 19], p0q90f2, [], [], p0q90d4, p0q90m5 [], 0, 0), p0q90l4 [], [g0V 0, g0V 1, g0V 2, g0V 3, g0V 4, g0V 5, g0V 6, g0V 7, g0V 8, g0V 9, g0V 10, g0V 11, g0V 12, g0V 13, g0V 14, g0V 15, g0V 16, g0V 17, g0V 18, g0V 19, g0V 20, g0V 21, g0C 0, g0V 35, g0V 23, g0V 24, g0C 0, g0C 0, g0V 28, g0V 29, g0V 30, g0C 61, g0C 0, g0V 31, g0V 32, g0V 33, g0V 26, g0V 27, g0V 25])
noncomputable def q90_3 : zNx := (1, 0, (p0q90r2 [g0T 0 0], p0q90f2, [], [g0w 0 0 (g0D 0)], p0q90d4, p0q90m5 [], 0, 0), p0q90l4 [], [])
noncomputable def q90_4 : zNx := (1, 0, (p0q90r2 [g0R 0 2000], (g0X [g0B 35, g0A 34] 0) :: (g0X [g0B 35, g0A 2] 0) :: (g0Z [g0B 34, g0A 2] 0) :: (g0X [g0B 22, g0A 2] 0) :: (g0X [g0A 34, g0B 22] 0) :: (g0X [g0B 34, g0A 2] 0) :: p0q90f1, [], [g0w 0 0 (g0Z [g0B 35] 1)], (g0d 1 0 (g0C 0) (g0C 0) (g0C 0) m7_ []) :: p0q90d3, p0q90m5 [g0m 8 15 0 36 35], 0, 0), p0q90l3 [(.inl 8, [g0V 34, g0V 2, g0V 9], 7, 0, g0C 0)], [])
noncomputable def p0q90f3 : List (rX) := (g0X [g0B 2, g0B 1] 12288) :: (g0X [g0B 2, g0B 0] 12288) :: []
noncomputable def q90_5 : zNx := (1, 0, (p0q90r0 [g0R 0 0, g0R 0 3, g0R 0 20, g0R 0 2000, g0R 0 2000, g0R 0 2000, g0R 0 2000, g0R 0 2000, g0R 0 3, g0R 0 61, g0I, g0R 0 2000, g0R 0 12, g0R 0 4, g0R 0 4, g0S 0 7, g0R 0 64, g0R 0 2000], p0q90f3, [], [g0c 0 0 0], p0q90d0, p0q90m2 [g0r 2 15 (g0C 0) (g0C 0) (g0C 1)], 0, 0), p0q90l0 [(.inl 1, [g0C 1, g0V 5], 1, 0, g0C 1)], [])
noncomputable def q90 : List zNx := [q90_0, q90_1, q90_2, q90_3, q90_4, q90_5]
noncomputable def p0q90r3 (t : List (Int × Int)) : List (Int × Int) := (g0R 0 12288) :: (g0R 0 12288) :: (g0R 3 2000) :: (g0R 1 20) :: (g0R 1 1) :: (g0R 0 3) :: (g0R 0 20) :: (g0R 0 2000) :: (g0R 0 2000) :: (g0R 0 2000) :: (g0R 0 2000) :: (g0R 0 2000) :: (g0R 0 3) :: (g0R 0 61) :: g0I :: (g0R 0 2000) :: (g0R 0 12) :: (g0R 0 4) :: (g0R 0 4) :: (g0S 0 7) :: t
noncomputable def p0q90r4 (t : List (Int × Int)) : List (Int × Int) := p0q90r3 ((g0R 0 64) :: (g0R 0 2000) :: (g0R 0 4) :: (g0R 0 19) :: (g0R 0 12288) :: (g0R 0 12288) :: (g0R 0 0) :: (g0R 0 0) :: (g0R 0 2000) :: (g0R 0 2000) :: (g0R 0 3) :: (g0R 61 61) :: (g0R 0 0) :: (g0R 0 1999) :: (g0R 1 12) :: (g0R 0 4) :: (g0R 0 4) :: (g0S 0 7) :: (g0R 0 1) :: t)
noncomputable def p0q90f4 : List (rX) := (g0X [g0A 25, g0B 1] 0) :: (g0X [g0A 24, g0B 0] 0) :: p0q90f3
noncomputable def p0q90d5 : List (rD) := (g0d 1 0 (g0C 0) (g0C 0) (g0C 0) m61_ i29_) :: []
noncomputable def p0q90m6 (t : List (rMm)) : List (rMm) := p0q90m1 ((g0m 1 15 0 8 24) :: (g0m 1 15 0 9 25) :: (g0m 1 15 0 3 26) :: (g0m 1 15 0 0 27) :: (g0m 1 15 0 14 3) :: (g0m 1 15 0 34 2) :: (g0m 1 15 0 35 2) :: (g0m 1 15 0 36 9) :: (g0m 1 15 0 37 28) :: (g0m 1 15 0 38 29) :: (g0m 1 15 0 40 30) :: (g0m 1 15 0 44 31) :: (g0m 1 15 0 45 32) :: (g0m 1 15 0 46 33) :: (g0m 1 15 0 47 34) :: (g0m 1 15 0 48 35) :: (g0m 1 15 0 49 36) :: (g0m 1 15 0 50 37) :: (g0m 1 15 0 58 38) :: t)
noncomputable def q90a0_0 : zNx := (1, 0, (p0q90r4 [g0S 0 1999], (g0Z [g0B 23, g0A 3] 0) :: (g0Z [g0B 39, g0A 21] 0) :: (g0X [g0B 35, g0A 22] 0) :: (g0X [g0B 25, g0A 2, g0A 1] 0) :: (g0X [g0B 24, g0A 2, g0A 0] 0) :: (g0X [g0B 38, g0A 36] 0) :: (g0X [g0B 38, g0A 35] 0) :: (g0X [g0A 35, g0B 22] 0) :: (g0Z [g0B 35, g0A 2] 0) :: (g0Z [g0B 34, g0A 2] 0) :: (g0Z [g0B 33, g0A 2] 0) :: (g0Z [g0B 22, g0A 2] 0) :: p0q90f4, [], [g0v 0 0 39], (g0d 1 0 (g0C 0) (g0C 0) (g0C 0) m0_ i15_) :: p0q90d5, p0q90m6 [], 0, 0), [(.inl 56, [g0V 23, g0V 3, g0V 21], 1, 0, g0V 39)], [])
noncomputable def q90a0_1 : zNx := (2, 0, (p0q90r4 [g0S 2147483647 1099511640064], (g0Z [g0A 35, g0B 22] 0) :: (g0X [g0B 25, g0A 2, g0A 1] 0) :: (g0X [g0B 24, g0A 2, g0A 0] 0) :: (g0X [g0B 38, g0A 36] 0) :: (g0X [g0B 38, g0A 35] 0) :: (g0X [g0A 35, g0B 22] 0) :: (g0Z [g0B 35, g0A 2] 0) :: (g0Z [g0B 34, g0A 2] 0) :: (g0Z [g0B 33, g0A 2] 0) :: (g0Z [g0B 22, g0A 2] 0) :: (g0Z [g0B 23, g0A 3] 0) :: p0q90f4, [], [], (g0d 0 102 (g0C 0) (g0V 22) (g0V 39) 0 []) :: p0q90d5, p0q90m6 [g0o 1 87 0 22 39], 0, 0), [], [g0V 0, g0V 1, g0V 2, g0V 3, g0V 4, g0V 5, g0V 6, g0V 7, g0V 8, g0V 9, g0V 10, g0V 11, g0V 12, g0V 13, g0V 14, g0V 15, g0V 16, g0V 17, g0V 18, g0V 19, g0V 20, g0V 21, g0W 22 1, g0V 23, g0V 24, g0V 25, g0V 26, g0V 27, g0V 28, g0V 29, g0V 30, g0V 31, g0V 32, g0V 33, g0V 34, g0V 35, g0V 36, g0V 37, g0V 38])
noncomputable def q90a0 : List zNx := [q90a0_0, q90a0_1]
noncomputable def q90a : List (List zNx) := [q90a0]
set_option maxRecDepth 100000 in
theorem zk90_ : zCk 3000 uMx uW uT uJL uAn uBds 90 q90 q90a = true := by decide +kernel
noncomputable def p0q91r0 (t : List (Int × Int)) : List (Int × Int) := (g0R 0 12288) :: (g0R 0 12288) :: (g0R 0 2000) :: (g0R 0 20) :: (g0R 0 50001) :: (g0R 0 3) :: (g0R 0 50001) :: t
noncomputable def p0q91r1 (t : List (Int × Int)) : List (Int × Int) := p0q91r0 ((g0R 1 1) :: (g0R 0 3) :: (g0R 0 20) :: (g0R 0 60) :: (g0R 0 2000) :: (g0R 0 2000) :: (g0R 0 2000) :: (g0R 0 2000) :: (g0R 0 2000) :: (g0R 0 3) :: (g0R 0 61) :: g0I :: (g0R 0 64) :: (g0R 0 2000) :: g0I :: (g0R 0 2000) :: (g0R 0 2000) :: (g0R 0 2000) :: (g0R 0 50001) :: g0I :: t)
noncomputable def p0q91r2 (t : List (Int × Int)) : List (Int × Int) := p0q91r1 ((g0R 0 8) :: (g0R 0 2000) :: (g0R 0 12288) :: (g0R 0 12288) :: (g0R 0 43) :: (g0R 0 8) :: (g0R 0 20) :: (g0R 0 2000) :: (g0R 0 2000) :: t)
noncomputable def p0q91d0 : List (rD) := (g0d 1 0 (g0C 0) (g0C 0) (g0C 0) m1_ []) :: (g0d 1 0 (g0C 0) (g0C 0) (g0C 0) m5_ []) :: []
noncomputable def p0q91d1 : List (rD) := (g0d 1 0 (g0C 0) (g0C 0) (g0C 0) m27_ i3_) :: (g0d 1 0 (g0C 0) (g0C 0) (g0C 0) m22_ i2_) :: (g0d 0 15 (g0C 0) (g0C 14) (g0V 3) 0 []) :: p0q91d0
noncomputable def p0q91m0 (t : List (rMm)) : List (rMm) := (g0m 0 15 0 8 0) :: (g0m 0 15 0 9 1) :: (g0m 0 15 0 3 2) :: (g0m 0 15 0 13 3) :: (g0m 0 15 0 72 4) :: (g0m 0 15 0 77 5) :: (g0m 0 15 0 94 6) :: (g0m 0 15 0 59 7) :: (g0m 0 15 0 0 8) :: (g0m 0 15 0 14 9) :: (g0m 0 15 0 32 10) :: (g0m 0 15 0 34 11) :: (g0m 0 15 0 35 12) :: (g0m 0 15 0 36 13) :: (g0m 0 15 0 37 14) :: (g0m 0 15 0 38 15) :: (g0m 0 15 0 40 16) :: (g0m 0 15 0 44 17) :: (g0m 0 15 0 45 18) :: (g0m 0 15 0 58 19) :: t
noncomputable def p0q91m1 (t : List (rMm)) : List (rMm) := p0q91m0 ((g0m 0 15 0 71 20) :: (g0m 0 15 0 74 21) :: (g0m 0 15 0 81 22) :: (g0m 0 15 0 82 23) :: (g0m 0 15 0 83 24) :: (g0m 0 15 0 93 25) :: (g0m 0 15 0 95 26) :: t)
noncomputable def p0q91m2 (t : List (rMm)) : List (rMm) := p0q91m1 ((g0r 1 15 (g0C 0) (g0C 3) (g0C 0)) :: (g0m 1 15 0 34 2) :: (g0r 1 15 (g0C 0) (g0C 35) (g0C 0)) :: t)
noncomputable def p0q91m3 (t : List (rMm)) : List (rMm) := p0q91m2 ((g0r 2 15 (g0C 0) (g0C 0) (g0C 0)) :: (g0r 4 15 (g0C 0) (g0C 44) (g0C 61)) :: (g0r 4 15 (g0C 0) (g0C 45) (g0C 0)) :: (g0r 4 15 (g0C 0) (g0C 58) (g0C 0)) :: (g0m 4 73 0 61 27) :: (g0m 5 15 0 35 28) :: (g0m 5 15 0 8 29) :: (g0m 5 15 0 9 30) :: (g0m 5 15 0 58 31) :: (g0m 5 73 0 61 32) :: (g0m 5 15 0 14 33) :: t)
noncomputable def p0q91l0 (t : List (zLg)) : List (zLg) := (.inl 5, [g0V 2, g0V 11, g0V 12], 0, 0, g0C 0) :: t
noncomputable def p0q91l1 (t : List (zLg)) : List (zLg) := p0q91l0 ((.inl 1, [g0C 0, g0V 8], 1, 0, g0C 0) :: (.inl 32, [g0C 61, g0V 17, g0V 18, g0V 19], 3, 0, g0C 0) :: t)
noncomputable def q91_0 : zNx := (1, 0, (p0q91r2 [g0R 0 2000, g0R 0 3, g0I], [g0X [g0B 2, g0B 0] 12288, g0X [g0B 2, g0B 1] 12288, g0X [g0A 29, g0B 0] 0, g0X [g0A 30, g0B 1] 0, g0X [g0A 32, g0B 27] 0, g0X [g0A 33, g0B 3] 0, g0X [g0B 28, g0A 2] 0, g0X [g0B 34, g0A 2] 0, g0X [g0B 29, g0A 28, g0A 0] 0, g0X [g0B 30, g0A 28, g0A 1] 0], [], [g0w 0 0 (g0Z [g0B 34] 0)], p0q91d1, p0q91m3 [g0m 5 15 0 36 34, g0m 5 15 0 37 35, g0m 5 15 0 38 36, g0m 5 15 0 40 37, g0m 5 15 0 45 38], 0, 0), p0q91l1 [(.inl 38, [g0C 0, g0C 0, g0V 2, g0V 0, g0V 1, g0C 0, g0V 10, g0C 61, g0V 27, g0V 3, g0V 13, g0V 14, g0V 15, g0V 16, g0C 0], 4, 0, g0C 0)], [])
noncomputable def p0q91r3 (t : List (Int × Int)) : List (Int × Int) := p0q91r2 ((g0R 0 3) :: g0I :: (g0R 0 2000) :: (g0R 0 2000) :: t)
noncomputable def p0q91f0 : List (rX) := (g0X [g0B 2, g0B 0] 12288) :: (g0X [g0B 2, g0B 1] 12288) :: (g0X [g0A 29, g0B 0] 0) :: (g0X [g0A 30, g0B 1] 0) :: (g0X [g0A 32, g0B 27] 0) :: (g0X [g0A 33, g0B 3] 0) :: (g0X [g0B 29, g0A 28, g0A 0] 0) :: (g0X [g0B 30, g0A 28, g0A 1] 0) :: (g0X [g0P 32 4, g0B 31] 6) :: []
noncomputable def p0q91f1 : List (rX) := (g0X [g0B 38, g0A 2] 0) :: (g0X [g0A 38, g0B 2] 0) :: (g0X [g0B 28, g0A 2] 0) :: (g0X [g0A 38, g0B 28] 0) :: p0q91f0
noncomputable def p0q91d2 : List (rD) := (g0d 1 0 (g0C 0) (g0C 0) (g0C 0) m7_ []) :: (g0d 1 0 (g0C 0) (g0C 0) (g0C 0) m6_ []) :: p0q91d1
noncomputable def p0q91m4 (t : List (rMm)) : List (rMm) := p0q91m3 ((g0m 5 15 0 36 13) :: (g0m 5 15 0 37 34) :: (g0m 5 15 0 38 35) :: (g0m 5 15 0 40 36) :: (g0m 5 15 0 45 37) :: (g0m 6 15 0 35 38) :: t)
noncomputable def p0q91l2 (t : List (zLg)) : List (zLg) := p0q91l1 ((.inl 38, [g0C 0, g0C 0, g0V 2, g0V 0, g0V 1, g0C 0, g0V 10, g0C 61, g0V 27, g0V 3, g0V 13, g0V 14, g0V 15, g0V 16, g0C 0], 4, 0, g0C 1) :: (.inl 7, [g0V 28, g0V 2], 5, 0, g0C 0) :: t)
noncomputable def q91_1 : zNx := (1, 0, (p0q91r3 [], (g0X [g0B 39, g0A 2] 0) :: p0q91f1, [], [g0w 0 0 (g0Z [g0B 39] 0)], p0q91d2, p0q91m4 [g0m 7 15 0 36 39], 0, 0), p0q91l2 [(.inl 28, [g0V 2, g0V 13, g0V 37, g0V 31], 6, 0, g0C 0)], [])
noncomputable def p0q91r4 (t : List (Int × Int)) : List (Int × Int) := p0q91r2 ((g0R 0 3) :: g0I :: (g0R 0 2000) :: (g0R 0 50001) :: t)
noncomputable def p0q91f2 : List (rX) := (g0X [g0B 41, g0A 39] 1) :: (g0X [g0A 40, g0B 39] 50000) :: p0q91f1
noncomputable def p0q91d3 : List (rD) := (g0d 1 0 (g0C 0) (g0C 0) (g0C 0) m1_ []) :: (g0d 1 0 (g0C 0) (g0C 0) (g0C 0) m50_ i23_) :: (g0d 0 15 (g0C 0) (g0C 94) (g0C 0) 0 []) :: (g0d 0 15 (g0C 0) (g0C 77) (g0C 0) 0 []) :: (g0d 0 15 (g0C 0) (g0C 72) (g0C 0) 0 []) :: (g0d 0 15 (g0C 0) (g0C 84) (g0C 0) 0 []) :: (g0d 0 15 (g0C 0) (g0C 81) (g0V 20) 0 []) :: (g0d 1 0 (g0C 0) (g0C 0) (g0C 0) m28_ [2]) :: p0q91d2
noncomputable def p0q91m5 (t : List (rMm)) : List (rMm) := p0q91m4 ((g0m 7 15 0 36 13) :: (g0m 14 15 0 72 39) :: (g0m 14 15 0 77 40) :: (g0m 14 15 0 94 41) :: (g0m 15 15 0 0 40) :: t)
noncomputable def p0q91l3 (t : List (zLg)) : List (zLg) := p0q91l2 ((.inl 28, [g0V 2, g0V 13, g0V 37, g0V 31], 6, 0, g0C 1) :: (.inl 44, [g0C 61, g0V 32, g0V 37], 7, 0, g0C 0) :: (.inl 74, [g0V 32, g0C 0, g0C 0, g0C 0, g0C 61, g0V 20, g0V 20, g0V 23, g0V 24], 13, 0, g0C 0) :: t)
noncomputable def q91_2 : zNx := (2, 0, (p0q91r4 [g0R 0 0, g0R 0 50001, g0I], p0q91f2, [], [], (g0d 0 15 (g0C 0) (g0C 95) (g0V 42) 0 []) :: (g0d 0 15 (g0C 0) (g0C 93) (g0V 41) 0 []) :: (g0d 0 15 (g0C 0) (g0C 74) (g0V 39) 0 []) :: p0q91d3, p0q91m5 [g0m 8 75 0 61 42], 0, 0), p0q91l3 [(.inl 1, [g0V 40, g0C 0], 14, 0, g0C 0)], [g0V 0, g0V 1, g0V 2, g0V 3, g0V 4, g0V 5, g0V 6, g0V 7, g0V 8, g0V 9, g0V 10, g0V 11, g0V 12, g0V 13, g0V 14, g0V 15, g0V 16, g0V 17, g0V 18, g0V 19, g0V 20, g0V 21, g0V 22, g0V 23, g0V 24, g0V 25, g0V 26, g0C 0, g0V 29, g0V 30, g0C 0, g0V 39, g0V 40, g0V 41, g0V 40, g0V 33, g0V 34, g0V 35, g0V 36, g0C 61, g0V 37, g0V 31, g0V 39, g0V 41, g0V 42])
noncomputable def q91_3 : zNx := (1, 0, (p0q91r4 [g0R 1 3, g0R 0 50001], p0q91f2, [], [g0c 0 0 0], p0q91d3, p0q91m5 [], 0, 0), p0q91l3 [(.inl 1, [g0V 40, g0C 0], 14, 0, g0C 1)], [])
noncomputable def q91_4 : zNx := (1, 0, (p0q91r3 [], (g0X [g0B 39, g0A 38] 0) :: (g0X [g0B 39, g0A 2] 0) :: (g0Z [g0B 38, g0A 2] 0) :: (g0X [g0B 28, g0A 2] 0) :: (g0X [g0A 38, g0B 28] 0) :: (g0X [g0B 38, g0A 2] 0) :: p0q91f0, [], [g0w 0 0 (g0Z [g0B 39] 0)], p0q91d2, p0q91m4 [g0m 7 15 0 36 39], 0, 0), p0q91l2 [(.inl 8, [g0V 38, g0V 2, g0V 13], 6, 0, g0C 0)], [])
noncomputable def p0q91f3 : List (rX) := (g0X [g0B 2, g0B 1] 12288) :: (g0X [g0B 2, g0B 0] 12288) :: []
noncomputable def q91_5 : zNx := (1, 0, (p0q91r0 [g0R 0 0, g0R 0 3, g0R 0 20, g0R 0 60, g0R 0 2000, g0R 0 2000, g0R 0 2000, g0R 0 2000, g0R 0 2000, g0R 0 3, g0R 0 61, g0I, g0R 0 64, g0R 0 2000, g0I, g0R 0 2000, g0R 0 2000, g0R 0 2000, g0R 0 50001, g0I], p0q91f3, [], [g0c 0 0 0], p0q91d0, p0q91m2 [g0r 2 15 (g0C 0) (g0C 0) (g0C 1)], 0, 0), p0q91l0 [(.inl 1, [g0C 1, g0V 8], 1, 0, g0C 1)], [])
noncomputable def q91 : List zNx := [q91_0, q91_1, q91_2, q91_3, q91_4, q91_5]
noncomputable def p0q91f4 : List (rX) := (g0X [g0B 29, g0A 2, g0A 1] 0) :: (g0X [g0B 28, g0A 2, g0A 0] 0) :: (g0X [g0A 43, g0B 33] 0) :: (g0X [g0A 42, g0B 31] 0) :: (g0X [g0A 35, g0B 3] 0) :: (g0X [g0B 43, g0A 33] 0) :: (g0X [g0B 42, g0A 31] 0) :: (g0X [g0A 29, g0B 1] 0) :: (g0X [g0A 28, g0B 0] 0) :: p0q91f3
noncomputable def p0q91d4 : List (rD) := (g0d 1 0 (g0C 0) (g0C 0) (g0C 0) m62_ i31_) :: []
noncomputable def p0q91m6 (t : List (rMm)) : List (rMm) := p0q91m1 ((g0m 1 15 0 8 28) :: (g0m 1 15 0 9 29) :: (g0m 1 15 0 3 30) :: (g0m 1 15 0 72 31) :: (g0m 1 15 0 77 32) :: (g0m 1 15 0 94 33) :: (g0m 1 15 0 0 34) :: (g0m 1 15 0 14 35) :: (g0m 1 15 0 34 2) :: (g0m 1 15 0 35 2) :: (g0m 1 15 0 36 13) :: (g0m 1 15 0 37 36) :: (g0m 1 15 0 38 37) :: (g0m 1 15 0 40 38) :: (g0m 1 15 0 44 39) :: (g0m 1 15 0 45 40) :: (g0m 1 15 0 58 41) :: (g0m 1 15 0 74 42) :: (g0m 1 15 0 81 20) :: (g0m 1 15 0 93 43) :: t)
noncomputable def p0q91m7 (t : List (rMm)) : List (rMm) := p0q91m6 ((g0m 1 15 0 95 44) :: t)
noncomputable def q91a0_0 : zNx := (1, 0, (p0q91r1 [g0R 800 800, g0R 0 12288, g0R 0 12288, g0R 0 0, g0R 0 50000, g0R 0 0, g0R 0 50001, g0R 0 0, g0R 0 20, g0R 0 2000, g0R 0 2000, g0R 0 3, g0R 61 61, g0I, g0R 0 43, g0R 0 50000, g0R 0 50001, g0I], p0q91f4, [], [g0v 0 0 43], p0q91d4, p0q91m7 [], 0, 0), [], [])
noncomputable def q91a0_1 : zNx := (2, 0, (p0q91r1 [g0R 0 799, g0R 0 12288, g0R 0 12288, g0R 0 0, g0R 0 50000, g0R 0 0, g0R 0 50001, g0R 0 0, g0R 0 20, g0R 0 2000, g0R 0 2000, g0R 0 3, g0R 61 61, g0I, g0R 0 43, g0R 0 50000, g0R 0 50001, g0I, g0S 2147483647 1099511640064], p0q91f4, [], [], (g0d 0 110 (g0C 0) (g0V 27) (g0V 45) 0 []) :: p0q91d4, p0q91m7 [g0o 1 111 0 27 45], 0, 0), [], [g0V 0, g0V 1, g0V 2, g0V 3, g0V 4, g0V 5, g0V 6, g0V 7, g0V 8, g0V 9, g0V 10, g0V 11, g0V 12, g0V 13, g0V 14, g0V 15, g0V 16, g0V 17, g0V 18, g0V 19, g0V 20, g0V 21, g0V 22, g0V 23, g0V 24, g0V 25, g0V 26, g0W 27 1, g0V 28, g0V 29, g0V 30, g0V 31, g0V 32, g0V 33, g0V 34, g0V 35, g0V 36, g0V 37, g0V 38, g0V 39, g0V 40, g0V 41, g0V 42, g0V 43, g0V 44])
noncomputable def q91a0 : List zNx := [q91a0_0, q91a0_1]
noncomputable def q91a : List (List zNx) := [q91a0]
set_option maxRecDepth 100000 in
theorem zk91_ : zCk 3000 uMx uW uT uJL uAn uBds 91 q91 q91a = true := by decide +kernel
noncomputable def p0q92r0 (t : List (Int × Int)) : List (Int × Int) := (g0S 9223372036854775807 9223372036854775807) :: t
noncomputable def q92_0 : zNx := (2, 0, (p0q92r0 [g0R 0 5120], [], [], [], [], [g0m 0 3 0 1 1], 0, 0), [], [g0V 0, g0V 1, g0C 0])
noncomputable def q92 : List zNx := [q92_0]
noncomputable def p0q92f0 : List (rX) := (g0X [g0A 2, g0B 1] 0) :: (g0X [g0B 2, g0A 1] 0) :: []
noncomputable def p0q92d0 : List (rD) := (g0d 1 0 (g0C 0) (g0C 0) (g0C 0) m0_ []) :: []
noncomputable def q92a0_0 : zNx := (1, 0, (p0q92r0 [g0R 0 5119, g0R 0 5120], p0q92f0, [], [g0v 0 0 1], (g0d 0 3 (g0C 0) (g0C 1) (g0W 1 1) 0 []) :: (g0d 0 26 (g0C 0) (g0V 1) (g0V 0) 0 []) :: p0q92d0, [g0m 0 3 0 1 1], 0, 0), [], [])
noncomputable def q92a0_1 : zNx := (1, 0, (p0q92r0 [g0R 5120 5120, g0R 0 5120], p0q92f0, [], [g0w 0 0 (g0D 0)], p0q92d0, [g0m 0 3 0 1 1], 0, 0), [], [])
noncomputable def p0q92r1 (t : List (Int × Int)) : List (Int × Int) := p0q92r0 ((g0R 0 5120) :: (g0R 0 5120) :: (g0S 9223372036854775807 9223372036854775807) :: t)
noncomputable def p0q92f1 : List (rX) := (g0Z [g0B 2, g0A 1] 0) :: (g0X [g0B 2, g0A 1] 0) :: []
noncomputable def p0q92m0 (t : List (rMm)) : List (rMm) := (g0m 0 3 0 1 1) :: (g0o 0 26 0 2 3) :: t
noncomputable def q92a0_2 : zNx := (2, 0, (p0q92r1 [], p0q92f1, [], [], p0q92d0, p0q92m0 [], 0, 0), [(.inr .nop, [g0V 3, g0V 0, g0C 0], 0, 0, g0C 0)], [g0V 0, g0V 1, g0W 2 1])
noncomputable def q92a0_3 : zNx := (1, 0, (p0q92r1 [], (g0X [g0B 3, g0A 0] 0) :: (g0X [g0A 3, g0B 0] 0) :: p0q92f1, [], [g0v 0 0 2], p0q92d0, p0q92m0 [], 0, 0), [], [])
noncomputable def q92a0 : List zNx := [q92a0_0, q92a0_1, q92a0_2, q92a0_3]
noncomputable def q92a : List (List zNx) := [q92a0]
set_option maxRecDepth 100000 in
theorem zk92_ : zCk 3000 uMx uW uT uJL uAn uBds 92 q92 q92a = true := by decide +kernel
noncomputable def q94_0 : zNx := (2, 0, ([g0R 0 19], [], [], [], [], [], 0, 0), [], [g0V 0, g0C 0])
noncomputable def q94 : List zNx := [q94_0]
noncomputable def p0q94d0 : List (rD) := (g0d 1 0 (g0C 0) (g0C 0) (g0C 0) m64_ []) :: []
noncomputable def q94a0_0 : zNx := (1, 0, ([g0R 0 19, g0R 20 20], [], [], [], p0q94d0, [], 0, 0), [], [])
noncomputable def q94a0_1 : zNx := (2, 0, ([g0R 0 19, g0R 0 19], [], [], [], (g0d 0 18 (g0C 0) (g0V 1) (g0V 0) 0 []) :: p0q94d0, [], 0, 0), [], [g0V 0, g0W 1 1])
noncomputable def q94a0 : List zNx := [q94a0_0, q94a0_1]
noncomputable def q94a : List (List zNx) := [q94a0]
set_option maxRecDepth 100000 in
theorem zk94_ : zCk 3000 uMx uW uT uJL uAn uBds 94 q94 q94a = true := by decide +kernel
noncomputable def q95_0 : zNx := (2, 0, ([g0S 0 1999], [], [], [], [], [], 0, 0), [], [g0V 0, g0C 0])
noncomputable def q95 : List zNx := [q95_0]
noncomputable def p0q95d0 : List (rD) := (g0d 1 0 (g0C 0) (g0C 0) (g0C 0) m65_ []) :: []
noncomputable def q95a0_0 : zNx := (1, 0, ([g0S 0 1999, g0R 64 64], [], [], [], p0q95d0, [], 0, 0), [], [])
noncomputable def q95a0_1 : zNx := (2, 0, ([g0S 0 1999, g0R 0 63], [], [], [], (g0d 0 47 (g0C 0) (g0V 1) (g0V 0) 0 []) :: p0q95d0, [], 0, 0), [], [g0V 0, g0W 1 1])
noncomputable def q95a0 : List zNx := [q95a0_0, q95a0_1]
noncomputable def q95a : List (List zNx) := [q95a0]
set_option maxRecDepth 100000 in
theorem zk95_ : zCk 3000 uMx uW uT uJL uAn uBds 95 q95 q95a = true := by decide +kernel
noncomputable def q96_0 : zNx := (2, 0, ([g0S 0 7999], [], [], [], [], [], 0, 0), [], [g0V 0, g0C 0])
noncomputable def q96 : List zNx := [q96_0]
noncomputable def p0q96d0 : List (rD) := (g0d 1 0 (g0C 0) (g0C 0) (g0C 0) m66_ []) :: []
noncomputable def q96a0_0 : zNx := (1, 0, ([g0S 0 7999, g0R 4096 4096], [], [], [], p0q96d0, [], 0, 0), [], [])
noncomputable def q96a0_1 : zNx := (2, 0, ([g0S 0 7999, g0R 0 4095], [], [], [], (g0d 0 50 (g0C 0) (g0V 1) (g0V 0) 0 []) :: p0q96d0, [], 0, 0), [], [g0V 0, g0W 1 1])
noncomputable def q96a0 : List zNx := [q96a0_0, q96a0_1]
noncomputable def q96a : List (List zNx) := [q96a0]
set_option maxRecDepth 100000 in
theorem zk96_ : zCk 3000 uMx uW uT uJL uAn uBds 96 q96 q96a = true := by decide +kernel
noncomputable def q97_0 : zNx := (2, 0, ([g0S 0 1999], [], [], [], [], [], 0, 0), [], [g0V 0, g0C 0])
noncomputable def q97 : List zNx := [q97_0]
noncomputable def p0q97d0 : List (rD) := (g0d 1 0 (g0C 0) (g0C 0) (g0C 0) m67_ []) :: []
noncomputable def q97a0_0 : zNx := (1, 0, ([g0S 0 1999, g0R 2048 2048], [], [], [], p0q97d0, [], 0, 0), [], [])
noncomputable def q97a0_1 : zNx := (2, 0, ([g0S 0 1999, g0R 0 2047], [], [], [], (g0d 0 53 (g0C 0) (g0V 1) (g0V 0) 0 []) :: p0q97d0, [], 0, 0), [], [g0V 0, g0W 1 1])
noncomputable def q97a0 : List zNx := [q97a0_0, q97a0_1]
noncomputable def q97a : List (List zNx) := [q97a0]
set_option maxRecDepth 100000 in
theorem zk97_ : zCk 3000 uMx uW uT uJL uAn uBds 97 q97 q97a = true := by decide +kernel
noncomputable def q98_0 : zNx := (2, 0, ([g0S 0 1999], [], [], [], [], [], 0, 0), [], [g0V 0, g0C 0])
noncomputable def q98 : List zNx := [q98_0]
noncomputable def p0q98d0 : List (rD) := (g0d 1 0 (g0C 0) (g0C 0) (g0C 0) m68_ []) :: []
noncomputable def q98a0_0 : zNx := (1, 0, ([g0S 0 1999, g0R 512 512], [], [], [], p0q98d0, [], 0, 0), [], [])
noncomputable def q98a0_1 : zNx := (2, 0, ([g0S 0 1999, g0R 0 511], [], [], [], (g0d 0 56 (g0C 0) (g0V 1) (g0V 0) 0 []) :: p0q98d0, [], 0, 0), [], [g0V 0, g0W 1 1])
noncomputable def q98a0 : List zNx := [q98a0_0, q98a0_1]
noncomputable def q98a : List (List zNx) := [q98a0]
set_option maxRecDepth 100000 in
theorem zk98_ : zCk 3000 uMx uW uT uJL uAn uBds 98 q98 q98a = true := by decide +kernel
noncomputable def p0q99r0 (t : List (Int × Int)) : List (Int × Int) := (g0R 0 566) :: (g0S 9223372036854775807 9223372036854775807) :: t
noncomputable def q99_0 : zNx := (2, 0, (p0q99r0 [], [], [], [], [], [], 0, 0), [], [g0V 0, g0V 1, g0C 0])
noncomputable def q99 : List zNx := [q99_0]
noncomputable def p0q99d0 : List (rD) := (g0d 1 0 (g0C 0) (g0C 0) (g0C 0) m69_ []) :: []
noncomputable def q99a0_0 : zNx := (1, 0, (p0q99r0 [g0R 4 4], [], [], [], p0q99d0, [], 0, 0), [], [])
noncomputable def q99a0_1 : zNx := (2, 0, (p0q99r0 [g0R 0 3], [], [], [], (g0d 0 46 (g0V 0) (g0V 2) (g0V 1) 0 []) :: p0q99d0, [], 0, 0), [], [g0V 0, g0V 1, g0W 2 1])
noncomputable def q99a0 : List zNx := [q99a0_0, q99a0_1]
noncomputable def q99a : List (List zNx) := [q99a0]
set_option maxRecDepth 100000 in
theorem zk99_ : zCk 3000 uMx uW uT uJL uAn uBds 99 q99 q99a = true := by decide +kernel
noncomputable def q100_0 : zNx := (1, 0, ([g0I, g0I], [g0Z [g0B 1, g0A 0] 0], [], [g0v 0 0 1], [], [], 0, 0), [], [])
noncomputable def q100_1 : zNx := (1, 0, ([g0I, g0I], [g0X [g0A 1, g0B 0] 0], [], [g0v 0 0 0], [], [], 0, 0), [], [])
noncomputable def q100 : List zNx := [q100_0, q100_1]
noncomputable def q100a : List (List zNx) := []
set_option maxRecDepth 100000 in
theorem zk100_ : zCk 3000 uMx uW uT uJL uAn uBds 100 q100 q100a = true := by decide +kernel
noncomputable def q101_0 : zNx := (1, 0, ([g0I, g0I], [g0Z [g0A 1, g0B 0] 0], [], [g0v 0 0 1], [], [], 0, 0), [], [])
noncomputable def q101_1 : zNx := (1, 0, ([g0I, g0I], [g0X [g0B 1, g0A 0] 0], [], [g0v 0 0 0], [], [], 0, 0), [], [])
noncomputable def q101 : List zNx := [q101_0, q101_1]
noncomputable def q101a : List (List zNx) := []
set_option maxRecDepth 100000 in
theorem zk101_ : zCk 3000 uMx uW uT uJL uAn uBds 101 q101 q101a = true := by decide +kernel
noncomputable def q102_0 : zNx := (1, 0, ([g0S 9223372036854775807 9223372036854775807, g0I, g0R 0 60, g0R 0 60, g0R 0 8, g0R 0 8, g0R 0 4, g0I, g0S 0 19, g0S 0 3, g0R 0 4], [], [], [], [g0d 1 0 (g0C 0) (g0C 0) (g0C 0) m69_ [], g0d 0 10 (g0X [g0P 3 9] 0) (g0C 12) (g0C 0) 0 [], g0d 0 10 (g0X [g0P 3 9] 0) (g0C 9) (g0D 0) 0 [], g0d 0 10 (g0X [g0P 3 9] 0) (g0C 8) (g0D 0) 0 [], g0d 0 10 (g0X [g0P 3 9] 0) (g0C 5) (g0C 0) 0 [], g0d 0 10 (g0X [g0P 3 9] 0) (g0C 7) (g0V 1) 0 [], g0d 0 10 (g0X [g0P 3 9] 0) (g0C 6) (g0V 0) 0 [], g0d 0 10 (g0X [g0P 3 9] 0) (g0C 4) (g0C 0) 0 []], [g0m 0 1 0 10 2, g0o 0 40 0 2 3, g0n 0 9 3 2 4, g0q 0 10 (g0X [g0P 3 9] 0) (g0C 4) 5, g0q 0 10 (g0X [g0P 3 9] 0) (g0C 5) 6, g0q 0 10 (g0X [g0P 3 9] 0) (g0C 7) 7, g0q 0 10 (g0X [g0P 3 9] 0) (g0C 8) 8, g0q 0 10 (g0X [g0P 3 9] 0) (g0C 9) 9, g0q 0 10 (g0X [g0P 3 9] 0) (g0C 12) 10], 0, 0), [(.inl 99, [g0X [g0P 3 9] 0, g0C 0], 7, 0, g0C 0)], [])
noncomputable def q102 : List zNx := [q102_0]
noncomputable def q102a : List (List zNx) := []
set_option maxRecDepth 100000 in
theorem zk102_ : zCk 3000 uMx uW uT uJL uAn uBds 102 q102 q102a = true := by decide +kernel
noncomputable def q103_0 : zNx := (1, 0, ([g0R 1 8, g0S 9223372036854775807 9223372036854775807, g0I, g0R 0 60, g0R 0 60, g0R 0 7, g0S 0 19, g0R 0 4, g0R 0 8, g0R 0 4, g0I, g0S 0 19, g0S 0 3, g0R 0 4], [], [], [], [g0d 1 0 (g0C 0) (g0C 0) (g0C 0) m69_ [], g0d 0 10 (g0X [g0A 5, g0P 4 9] 1) (g0C 12) (g0C 0) 0 [], g0d 0 10 (g0X [g0A 5, g0P 4 9] 1) (g0C 9) (g0D 0) 0 [], g0d 0 10 (g0X [g0A 5, g0P 4 9] 1) (g0C 8) (g0D 0) 0 [], g0d 0 10 (g0X [g0A 5, g0P 4 9] 1) (g0C 5) (g0C 0) 0 [], g0d 0 10 (g0X [g0A 5, g0P 4 9] 1) (g0C 7) (g0V 2) 0 [], g0d 0 10 (g0X [g0A 5, g0P 4 9] 1) (g0C 6) (g0V 1) 0 [], g0d 0 10 (g0X [g0A 5, g0P 4 9] 1) (g0C 4) (g0V 0) 0 []], [g0m 0 1 0 10 3, g0o 0 40 0 3 4, g0n 0 9 4 2 5, g0q 0 10 (g0X [g0P 4 9] 0) (g0C 8) 6, g0q 0 10 (g0X [g0P 4 9] 0) (g0C 12) 7, g0q 0 10 (g0X [g0A 5, g0P 4 9] 1) (g0C 4) 8, g0q 0 10 (g0X [g0A 5, g0P 4 9] 1) (g0C 5) 9, g0q 0 10 (g0X [g0A 5, g0P 4 9] 1) (g0C 7) 10, g0q 0 10 (g0X [g0A 5, g0P 4 9] 1) (g0C 8) 11, g0q 0 10 (g0X [g0A 5, g0P 4 9] 1) (g0C 9) 12, g0q 0 10 (g0X [g0A 5, g0P 4 9] 1) (g0C 12) 13], 0, 0), [(.inl 99, [g0X [g0A 5, g0P 4 9] 1, g0C 0], 7, 0, g0C 0)], [])
noncomputable def q103 : List zNx := [q103_0]
noncomputable def q103a : List (List zNx) := []
set_option maxRecDepth 100000 in
theorem zk103_ : zCk 3000 uMx uW uT uJL uAn uBds 103 q103 q103a = true := by decide +kernel
noncomputable def p0q104r0 (t : List (Int × Int)) : List (Int × Int) := (g0R 0 566) :: (g0R 0 4) :: g0I :: (g0R 0 7) :: (g0S 9223372036854775807 9223372036854775807) :: t
noncomputable def q104_0 : zNx := (1, 0, (p0q104r0 [g0R 4 4], [], [], [], [], [g0n 0 10 0 5 5], 0, 0), [], [])
noncomputable def q104_1 : zNx := (1, 0, (p0q104r0 [g0R 0 3], [], [], [], [g0d 0 10 (g0V 0) (g0C 5) (g0W 5 1) 0 [], g0d 0 46 (g0V 0) (g0V 5) (g0V 4) 0 [], g0d 0 44 (g0V 0) (g0V 5) (g0V 3) 0 [], g0d 0 45 (g0V 0) (g0V 5) (g0V 2) 0 [], g0d 0 43 (g0V 0) (g0V 5) (g0V 1) 0 []], [g0n 0 10 0 5 5], 0, 0), [], [])
noncomputable def q104 : List zNx := [q104_0, q104_1]
noncomputable def q104a : List (List zNx) := []
set_option maxRecDepth 100000 in
theorem zk104_ : zCk 3000 uMx uW uT uJL uAn uBds 104 q104 q104a = true := by decide +kernel
noncomputable def q105_0 : zNx := (1, 0, ([g0S 2147483647 96], [], [], [g0c 0 0 0], [], [], 0, 0), [], [])
noncomputable def q105_1 : zNx := (1, 0, ([g0R 123 2147483647], [], [], [g0c 0 0 0], [], [], 0, 0), [], [])
noncomputable def q105_2 : zNx := (1, 0, ([g0R 97 122], [], [], [g0c 0 0 1], [], [], 0, 0), [], [])
noncomputable def q105 : List zNx := [q105_0, q105_1, q105_2]
noncomputable def q105a : List (List zNx) := []
set_option maxRecDepth 100000 in
theorem zk105_ : zCk 3000 uMx uW uT uJL uAn uBds 105 q105 q105a = true := by decide +kernel
noncomputable def q106_0 : zNx := (1, 0, ([g0S 2147483647 64], [], [], [g0c 0 0 0], [], [], 0, 0), [], [])
noncomputable def q106_1 : zNx := (1, 0, ([g0R 91 2147483647], [], [], [g0c 0 0 0], [], [], 0, 0), [], [])
noncomputable def q106_2 : zNx := (1, 0, ([g0R 65 90], [], [], [g0c 0 0 1], [], [], 0, 0), [], [])
noncomputable def q106 : List zNx := [q106_0, q106_1, q106_2]
noncomputable def q106a : List (List zNx) := []
set_option maxRecDepth 100000 in
theorem zk106_ : zCk 3000 uMx uW uT uJL uAn uBds 106 q106 q106a = true := by decide +kernel
noncomputable def q107_0 : zNx := (1, 0, ([g0S 2147483647 47], [], [], [g0c 0 0 0], [], [], 0, 0), [], [])
noncomputable def q107_1 : zNx := (1, 0, ([g0R 58 2147483647], [], [], [g0c 0 0 0], [], [], 0, 0), [], [])
noncomputable def q107_2 : zNx := (1, 0, ([g0R 48 57], [], [], [g0c 0 0 1], [], [], 0, 0), [], [])
noncomputable def q107 : List zNx := [q107_0, q107_1, q107_2]
noncomputable def q107a : List (List zNx) := []
set_option maxRecDepth 100000 in
theorem zk107_ : zCk 3000 uMx uW uT uJL uAn uBds 107 q107 q107a = true := by decide +kernel
noncomputable def q108_0 : zNx := (1, 0, ([g0S 2147483647 47], [], [], [g0c 0 0 0], [], [], 0, 0), [], [])
noncomputable def q108_1 : zNx := (1, 0, ([g0R 58 96], [], [], [g0c 0 0 0], [], [], 0, 0), [(.inr .nop, [g0V 0, g0C 95, g0C 0], 0, 0, g0C 0)], [])
noncomputable def q108_2 : zNx := (1, 0, ([g0R 95 95], [], [], [g0c 0 0 37], [], [], 0, 0), [], [])
noncomputable def q108_3 : zNx := (1, 0, ([g0R 48 57], [], [], [g0w 0 0 (g0Y 0 20)], [], [], 0, 0), [], [])
noncomputable def q108_4 : zNx := (1, 0, ([g0R 123 2147483647], [], [], [g0c 0 0 0], [], [], 0, 0), [], [])
noncomputable def q108_5 : zNx := (1, 0, ([g0R 97 122], [], [], [g0w 0 0 (g0Y 0 95)], [], [], 0, 0), [], [])
noncomputable def q108 : List zNx := [q108_0, q108_1, q108_2, q108_3, q108_4, q108_5]
noncomputable def q108a : List (List zNx) := []
set_option maxRecDepth 100000 in
theorem zk108_ : zCk 3000 uMx uW uT uJL uAn uBds 108 q108 q108a = true := by decide +kernel
noncomputable def q109_0 : zNx := (1, 0, ([g0I, g0I], [], [], [g0c 0 0 0], [g0d 0 2 (g0C 0) (g0C 4) (g0V 0) 0 []], [g0m 0 2 0 4 1], 0, 0), [], [])
noncomputable def q109 : List zNx := [q109_0]
noncomputable def q109a : List (List zNx) := []
set_option maxRecDepth 100000 in
theorem zk109_ : zCk 3000 uMx uW uT uJL uAn uBds 109 q109 q109a = true := by decide +kernel
noncomputable def q110_0 : zNx := (1, 0, ([g0I, g0R 0 8, g0R 0 32], [], [], [], [g0d 0 2 (g0C 0) (g0C 5) (g0C 0) 0 [], g0d 0 2 (g0C 0) (g0C 16) (g0C 0) 0 [], g0d 0 2 (g0C 0) (g0C 13) (g0C 0) 0 []], [g0m 0 2 0 5 0, g0m 0 2 0 13 1, g0m 0 2 0 16 2], 0, 0), [], [])
noncomputable def q110 : List zNx := [q110_0]
noncomputable def q110a : List (List zNx) := []
set_option maxRecDepth 100000 in
theorem zk110_ : zCk 3000 uMx uW uT uJL uAn uBds 110 q110 q110a = true := by decide +kernel
noncomputable def q111_0 : zNx := (1, 0, ([g0R 0 2, g0I, g0R 0 2001, g0R 0 2, g0R 0 8, g0R 0 32], [], [], [], [g0d 1 0 (g0C 0) (g0C 0) (g0C 0) m73_ [], g0d 0 2 (g0C 0) (g0C 6) (g0C 0) 0 [], g0d 0 2 (g0C 0) (g0C 7) (g0V 0) 0 []], [g0m 0 2 0 5 1, g0m 0 2 0 6 2, g0m 0 2 0 7 3, g0m 0 2 0 13 4, g0m 0 2 0 16 5, g0r 3 2 (g0C 0) (g0C 5) (g0C 0), g0r 3 2 (g0C 0) (g0C 13) (g0C 0), g0r 3 2 (g0C 0) (g0C 16) (g0C 0)], 0, 0), [(.inl 110, [g0V 1, g0V 4, g0V 5], 2, 0, g0C 0)], [])
noncomputable def q111 : List zNx := [q111_0]
noncomputable def q111a : List (List zNx) := []
set_option maxRecDepth 100000 in
theorem zk111_ : zCk 3000 uMx uW uT uJL uAn uBds 111 q111 q111a = true := by decide +kernel
noncomputable def q112_0 : zNx := (1, 0, ([g0R 0 2000], [], [], [], [g0d 0 2 (g0C 0) (g0C 3) (g0C 0) 0 []], [g0m 0 2 0 3 0], 0, 0), [], [])
noncomputable def q112 : List zNx := [q112_0]
noncomputable def q112a : List (List zNx) := []
set_option maxRecDepth 100000 in
theorem zk112_ : zCk 3000 uMx uW uT uJL uAn uBds 112 q112 q112a = true := by decide +kernel
noncomputable def q113_0 : zNx := (1, 0, ([g0I, g0R 0 1996, g0I, g0S 127 127, g0I, g0S 127 127, g0I, g0S 127 127, g0I, g0S 127 127], [], [], [], [g0d 0 2 (g0C 0) (g0C 3) (g0W 1 4) 0 [], g0d 0 21 (g0C 0) (g0W 1 3) (g0V 9) 0 [], g0d 0 2 (g0C 0) (g0C 3) (g0W 1 3) 0 [], g0d 0 21 (g0C 0) (g0W 1 2) (g0V 7) 0 [], g0d 0 2 (g0C 0) (g0C 3) (g0W 1 2) 0 [], g0d 0 21 (g0C 0) (g0W 1 1) (g0V 5) 0 [], g0d 0 2 (g0C 0) (g0C 3) (g0W 1 1) 0 [], g0d 0 21 (g0C 0) (g0V 1) (g0V 3) 0 []], [g0m 0 2 0 3 1], 0, 0), [(.inr .iushr, [g0V 0, g0C 24], 0, 0, g0V 2), (.inr .i2b, [g0V 2], 0, 0, g0V 3), (.inr .iushr, [g0V 0, g0C 16], 0, 0, g0V 4), (.inr .i2b, [g0V 4], 0, 0, g0V 5), (.inr .iushr, [g0V 0, g0C 8], 0, 0, g0V 6), (.inr .i2b, [g0V 6], 0, 0, g0V 7), (.inr .iushr, [g0V 0, g0C 0], 0, 0, g0V 8), (.inr .i2b, [g0V 8], 0, 0, g0V 9)], [])
noncomputable def q113 : List zNx := [q113_0]
noncomputable def q113a : List (List zNx) := []
set_option maxRecDepth 100000 in
theorem zk113_ : zCk 3000 uMx uW uT uJL uAn uBds 113 q113 q113a = true := by decide +kernel
noncomputable def p0q114m0 (t : List (rMm)) : List (rMm) := (g0m 0 2 0 6 0) :: (g0m 0 2 0 3 1) :: t
noncomputable def q114_0 : zNx := (1, 0, ([g0R 0 2000, g0R 0 2000], [g0X [g0B 1, g0A 0] 0], [], [g0w 0 0 (g0D 0)], [], p0q114m0 [], 0, 0), [], [])
noncomputable def p0q114d0 : List (rD) := (g0d 0 2 (g0C 0) (g0C 6) (g0W 0 1) 0 []) :: []
noncomputable def q114_1 : zNx := (2, 0, ([g0R 0 2000, g0R 0 2000, g0R 10 10], [g0Z [g0A 1, g0B 0] 0], [], [], p0q114d0, p0q114m0 [g0o 0 21 0 0 2], 0, 0), [], [g0V 0, g0V 1, g0W 0 1])
noncomputable def p0q114l0 (t : List (zLg)) : List (zLg) := (.inr .nop, [g0V 2, g0C 10, g0C 0], 0, 0, g0C 0) :: t
noncomputable def q114_2 : zNx := (1, 0, ([g0R 0 2000, g0R 0 2000, g0S 127 127, g0R 0 255], [g0Z [g0A 1, g0B 0] 0], [], [g0v 0 0 3], [], p0q114m0 [g0o 0 21 0 0 2], 0, 0), p0q114l0 [(.inr .nop, [g0V 2, g0C 32, g0C 0], 0, 0, g0C 0), (.inr .iand, [g0V 2, g0C 255], 0, 0, g0V 3)], [])
noncomputable def q114_3 : zNx := (2, 0, ([g0R 0 2000, g0R 0 2000, g0R 32 32], [g0Z [g0A 1, g0B 0] 0], [], [], p0q114d0, p0q114m0 [g0o 0 21 0 0 2], 0, 0), p0q114l0 [], [g0V 0, g0V 1, g0W 0 1])
noncomputable def q114 : List zNx := [q114_0, q114_1, q114_2, q114_3]
noncomputable def p0q114r0 (t : List (Int × Int)) : List (Int × Int) := (g0R 0 2000) :: (g0R 0 2000) :: (g0R 1 2000) :: t
noncomputable def p0q114f0 : List (rX) := (g0Z [g0A 1, g0B 0] 0) :: (g0X [g0B 2, g0A 1] 0) :: (g0Z [g0A 2, g0B 0] 0) :: []
noncomputable def p0q114d1 : List (rD) := (g0d 1 0 (g0C 0) (g0C 0) (g0C 0) m77_ []) :: []
noncomputable def q114a0_0 : zNx := (1, 0, (p0q114r0 [], (g0X [g0A 2, g0B 1] 0) :: p0q114f0, [], [g0w 0 0 (g0D 0)], p0q114d1, p0q114m0 [g0m 1 2 0 6 2], 0, 0), [], [])
noncomputable def p0q114d2 : List (rD) := (g0d 0 2 (g0C 0) (g0C 6) (g0W 2 1) 0 []) :: p0q114d1
noncomputable def p0q114m1 (t : List (rMm)) : List (rMm) := p0q114m0 ((g0m 1 2 0 6 2) :: (g0o 0 21 0 2 3) :: t)
noncomputable def q114a0_1 : zNx := (2, 0, (p0q114r0 [g0R 10 10], (g0Z [g0B 2, g0A 1] 0) :: p0q114f0, [], [], p0q114d2, p0q114m1 [], 0, 0), [], [g0V 0, g0V 1, g0W 2 1])
noncomputable def p0q114l1 (t : List (zLg)) : List (zLg) := (.inr .nop, [g0V 3, g0C 10, g0C 0], 0, 0, g0C 0) :: t
noncomputable def q114a0_2 : zNx := (1, 0, (p0q114r0 [g0S 127 127, g0R 0 255], (g0Z [g0B 2, g0A 1] 0) :: p0q114f0, [], [g0v 0 0 4], p0q114d1, p0q114m1 [], 0, 0), p0q114l1 [(.inr .nop, [g0V 3, g0C 32, g0C 0], 0, 0, g0C 0), (.inr .iand, [g0V 3, g0C 255], 0, 0, g0V 4)], [])
noncomputable def q114a0_3 : zNx := (2, 0, (p0q114r0 [g0R 32 32], (g0Z [g0B 2, g0A 1] 0) :: p0q114f0, [], [], p0q114d2, p0q114m1 [], 0, 0), p0q114l1 [], [g0V 0, g0V 1, g0W 2 1])
noncomputable def q114a0 : List zNx := [q114a0_0, q114a0_1, q114a0_2, q114a0_3]
noncomputable def q114a : List (List zNx) := [q114a0]
set_option maxRecDepth 100000 in
theorem zk114_ : zCk 3000 uMx uW uT uJL uAn uBds 114 q114 q114a = true := by decide +kernel
noncomputable def p0q115r0 (t : List (Int × Int)) : List (Int × Int) := (g0R 0 2001) :: (g0R 0 2000) :: g0I :: g0I :: (g0S 127 127) :: (g0R 0 31) :: t
noncomputable def p0q115d0 : List (rD) := (g0d 0 2 (g0C 0) (g0C 6) (g0W 0 1) 0 []) :: (g0d 0 2 (g0C 0) (g0C 8) (g0V 5) 0 []) :: (g0d 0 2 (g0C 0) (g0C 9) (g0V 0) 0 []) :: []
noncomputable def p0q115m0 (t : List (rMm)) : List (rMm) := (g0m 0 2 0 6 0) :: (g0m 0 2 0 3 1) :: (g0m 0 2 0 4 2) :: (g0m 0 2 0 9 3) :: t
noncomputable def p0q115l0 (t : List (zLg)) : List (zLg) := (.inr .iand, [g0V 4, g0C 31], 0, 0, g0V 5) :: t
noncomputable def q115_0 : zNx := (2, 0, (p0q115r0 [], [g0X [g0B 1, g0A 0] 1, g0Z [g0A 1, g0B 0] 0], [], [], p0q115d0, p0q115m0 [g0o 0 21 0 0 4], 0, 0), p0q115l0 [], [g0V 0, g0V 1, g0V 2, g0V 3, g0C 0, g0W 0 1])
noncomputable def q115_1 : zNx := (2, 0, (p0q115r0 [g0S 127 127, g0R 0 37], [g0Z [g0A 1, g0B 0] 1, g0Z [g0A 1, g0B 0] 0], [], [], (g0d 1 0 (g0C 0) (g0C 0) (g0C 0) m0_ []) :: p0q115d0, p0q115m0 [g0o 0 21 0 0 4, g0q 0 21 (g0C 0) (g0W 0 1) 6], 0, 0), p0q115l0 [(.inl 108, [g0V 6], 3, 0, g0V 7)], [g0V 0, g0V 1, g0V 2, g0V 3, g0V 7, g0W 0 1])
noncomputable def q115 : List zNx := [q115_0, q115_1]
noncomputable def p0q115r1 (t : List (Int × Int)) : List (Int × Int) := (g0R 0 1999) :: (g0R 0 2000) :: g0I :: g0I :: t
noncomputable def p0q115f0 : List (rX) := (g0Z [g0A 1, g0B 0] 0) :: (g0X [g0B 5, g0A 1] 0) :: (g0Z [g0A 5, g0B 0] 0) :: []
noncomputable def p0q115d1 : List (rD) := (g0d 1 0 (g0C 0) (g0C 0) (g0C 0) m79_ []) :: []
noncomputable def p0q115m1 (t : List (rMm)) : List (rMm) := p0q115m0 ((g0m 1 2 0 6 5) :: (g0m 1 2 0 9 0) :: t)
noncomputable def q115a0_0 : zNx := (1, 0, (p0q115r1 [g0R 0 0, g0R 1 2000], (g0X [g0B 5, g0A 0] 12) :: p0q115f0, [], [g0c 0 0 1], p0q115d1, p0q115m1 [], 0, 0), [], [])
noncomputable def p0q115d2 : List (rD) := (g0d 1 0 (g0C 0) (g0C 0) (g0C 0) m72_ []) :: p0q115d1
noncomputable def p0q115l1 (t : List (zLg)) : List (zLg) := (.inl 109, [g0V 0, g0V 2], 1, 0, g0C 0) :: t
noncomputable def q115a0_1 : zNx := (1, 0, (p0q115r1 [g0R 0 0, g0R 1 2000], (g0Z [g0A 5, g0B 0] 12) :: p0q115f0, [], [g0c 0 0 0], p0q115d2, p0q115m1 [g0m 2 2 0 4 0], 0, 0), p0q115l1 [], [])
noncomputable def q115a0_2 : zNx := (1, 0, (p0q115r1 [g0R 1 37, g0R 1 2000], (g0X [g0B 5, g0A 0] 12) :: (g0X [g0A 5, g0B 1] 0) :: p0q115f0, [], [g0c 0 0 1], p0q115d1, p0q115m1 [], 0, 0), [], [])
noncomputable def q115a0_3 : zNx := (1, 0, (p0q115r1 [g0R 1 37, g0R 1 2000], (g0Z [g0A 5, g0B 0] 12) :: (g0X [g0A 5, g0B 1] 0) :: p0q115f0, [], [g0c 0 0 0], p0q115d2, p0q115m1 [g0m 2 2 0 4 0], 0, 0), p0q115l1 [], [])
noncomputable def p0q115r2 (t : List (Int × Int)) : List (Int × Int) := p0q115r1 ((g0R 1 37) :: (g0R 1 2000) :: (g0S 9223372036854775807 9223372036854775807) :: (g0S 9223372036854775807 9223372036854775807) :: (g0S 9223372036854775807 9223372036854775807) :: t)
noncomputable def p0q115d3 : List (rD) := (g0d 0 2 (g0C 0) (g0C 6) (g0W 5 1) 0 []) :: (g0d 0 2 (g0C 0) (g0C 8) (g0V 8) 0 []) :: p0q115d1
noncomputable def p0q115l2 (t : List (zLg)) : List (zLg) := (.inr .lmul, [g0V 6, g0C 38], 0, 0, g0V 7) :: (.inr .ladd, [g0V 7, g0V 4], 0, 0, g0V 8) :: t
noncomputable def q115a0_4 : zNx := (2, 0, (p0q115r2 [], (g0X [g0A 5, g0B 1] 1) :: (g0Z [g0B 5, g0A 1] 0) :: p0q115f0, [], [], p0q115d3, p0q115m1 [g0m 1 2 0 8 6], 0, 0), p0q115l2 [], [g0V 0, g0V 1, g0V 2, g0V 3, g0C 0, g0W 5 1])
noncomputable def q115a0_5 : zNx := (2, 0, (p0q115r2 [g0S 127 127, g0R 0 37], (g0Z [g0B 5, g0A 1] 1) :: (g0Z [g0B 5, g0A 1] 0) :: p0q115f0, [], [], (g0d 1 0 (g0C 0) (g0C 0) (g0C 0) m0_ []) :: p0q115d3, p0q115m1 [g0m 1 2 0 8 6, g0q 0 21 (g0C 0) (g0W 5 1) 9], 0, 0), p0q115l2 [(.inl 108, [g0V 9], 3, 0, g0V 10)], [g0V 0, g0V 1, g0V 2, g0V 3, g0V 10, g0W 5 1])
noncomputable def q115a0 : List zNx := [q115a0_0, q115a0_1, q115a0_2, q115a0_3, q115a0_4, q115a0_5]
noncomputable def q115a : List (List zNx) := [q115a0]
set_option maxRecDepth 100000 in
theorem zk115_ : zCk 3000 uMx uW uT uJL uAn uBds 115 q115 q115a = true := by decide +kernel
noncomputable def p0q116d0 : List (rD) := (g0d 0 2 (g0C 0) (g0C 10) (g0C 0) 0 []) :: []
noncomputable def p0q116m0 (t : List (rMm)) : List (rMm) := (g0m 0 2 0 6 0) :: (g0m 0 2 0 3 1) :: (g0m 0 2 0 4 2) :: t
noncomputable def q116_0 : zNx := (2, 0, ([g0R 0 2000, g0R 0 2000, g0I], [g0X [g0B 1, g0A 0] 0], [], [], p0q116d0, p0q116m0 [], 0, 0), [], [g0V 0, g0V 1, g0V 2, g0V 0, g0C 0, g0V 0])
noncomputable def q116_1 : zNx := (2, 0, ([g0R 0 2000, g0R 0 2000, g0I, g0S 127 127], [g0Z [g0A 1, g0B 0] 0], [], [], p0q116d0, p0q116m0 [g0o 0 21 0 0 3], 0, 0), [(.inr .nop, [g0V 3, g0C 45, g0C 0], 0, 0, g0C 0)], [g0V 0, g0V 1, g0V 2, g0V 0, g0C 0, g0V 0])
noncomputable def q116_2 : zNx := (2, 0, ([g0R 0 2000, g0R 0 2000, g0I, g0R 45 45], [g0Z [g0A 1, g0B 0] 0], [], [], [g0d 0 2 (g0C 0) (g0C 10) (g0C 0) 0 [], g0d 0 2 (g0C 0) (g0C 6) (g0W 0 1) 0 []], p0q116m0 [g0o 0 21 0 0 3], 0, 0), [], [g0V 0, g0V 1, g0V 2, g0W 0 1, g0C 1, g0W 0 1])
noncomputable def q116 : List zNx := [q116_0, q116_1, q116_2]
noncomputable def p0q116r0 (t : List (Int × Int)) : List (Int × Int) := (g0R 0 2000) :: (g0R 0 2000) :: g0I :: (g0R 0 2000) :: t
noncomputable def p0q116f0 : List (rX) := (g0X [g0A 3, g0B 0] 0) :: (g0X [g0B 4, g0A 3] 0) :: []
noncomputable def p0q116d1 : List (rD) := (g0d 1 0 (g0C 0) (g0C 0) (g0C 0) m81_ []) :: []
noncomputable def p0q116d2 : List (rD) := (g0d 1 0 (g0C 0) (g0C 0) (g0C 0) m72_ []) :: p0q116d1
noncomputable def p0q116m1 (t : List (rMm)) : List (rMm) := p0q116m0 ((g0m 1 2 0 6 5) :: (g0m 2 2 0 4 0) :: t)
noncomputable def p0q116l0 (t : List (zLg)) : List (zLg) := (.inl 109, [g0V 0, g0V 2], 1, 0, g0C 0) :: t
noncomputable def q116a0_0 : zNx := (1, 0, (p0q116r0 [g0R 0 1, g0R 0 2000], (g0X [g0B 5, g0A 3] 0) :: (g0X [g0A 5, g0B 3] 0) :: (g0X [g0A 5, g0B 1] 0) :: (g0X [g0B 4, g0A 1] 0) :: p0q116f0, [], [g0c 0 0 0], p0q116d2, p0q116m1 [], 0, 0), p0q116l0 [], [])
noncomputable def p0q116f1 : List (rX) := (g0X [g0B 4, g0A 1] 0) :: (g0X [g0A 5, g0B 3] 0) :: p0q116f0
noncomputable def p0q116f2 : List (rX) := (g0Z [g0A 5, g0B 3] 0) :: (g0X [g0A 5, g0B 1] 0) :: p0q116f1
noncomputable def p0q116m2 (t : List (rMm)) : List (rMm) := p0q116m0 ((g0m 1 2 0 6 5) :: (g0m 1 2 0 10 6) :: t)
noncomputable def q116a0_1 : zNx := (1, 0, (p0q116r0 [g0R 0 0, g0R 0 2000, g0S 9223372036854775807 9223372036854775807], (g0X [g0B 5, g0A 3] 7) :: p0q116f2, [], [g0c 0 0 1], (g0d 0 2 (g0C 0) (g0C 10) (g0V 6) 0 []) :: p0q116d1, p0q116m2 [], 0, 0), [], [])
noncomputable def q116a0_2 : zNx := (1, 0, (p0q116r0 [g0R 1 1, g0R 0 2000, g0S 9223372036854775807 9223372036854775807, g0S 9223372036854775807 9223372036854775807], (g0X [g0B 5, g0A 3] 7) :: p0q116f2, [], [g0c 0 0 1], (g0d 0 2 (g0C 0) (g0C 10) (g0V 7) 0 []) :: p0q116d1, p0q116m2 [], 0, 0), [(.inr .lneg, [g0V 6], 0, 0, g0V 7)], [])
noncomputable def q116a0_3 : zNx := (1, 0, (p0q116r0 [g0R 0 1, g0R 0 2000], (g0Z [g0A 5, g0B 3] 7) :: p0q116f2, [], [g0c 0 0 0], p0q116d2, p0q116m1 [], 0, 0), p0q116l0 [], [])
noncomputable def p0q116r1 (t : List (Int × Int)) : List (Int × Int) := p0q116r0 ((g0R 0 1) :: (g0R 0 2000) :: (g0S 127 127) :: t)
noncomputable def p0q116d3 : List (rD) := (g0d 1 0 (g0C 0) (g0C 0) (g0C 0) m0_ []) :: p0q116d1
noncomputable def p0q116d4 : List (rD) := (g0d 1 0 (g0C 0) (g0C 0) (g0C 0) m72_ []) :: p0q116d3
noncomputable def p0q116m3 (t : List (rMm)) : List (rMm) := p0q116m0 ((g0m 1 2 0 6 5) :: (g0o 0 21 0 5 6) :: t)
noncomputable def p0q116l1 (t : List (zLg)) : List (zLg) := (.inl 107, [g0V 6], 1, 0, g0C 0) :: t
noncomputable def p0q116l2 (t : List (zLg)) : List (zLg) := p0q116l1 ((.inl 109, [g0V 0, g0V 2], 2, 0, g0C 0) :: t)
noncomputable def q116a0_4 : zNx := (1, 0, (p0q116r1 [], (g0X [g0B 5, g0A 3] 0) :: (g0X [g0A 5, g0B 3] 0) :: (g0Z [g0B 5, g0A 1] 0) :: (g0X [g0B 4, g0A 1] 0) :: p0q116f0, [], [g0c 0 0 0], p0q116d4, p0q116m3 [g0m 3 2 0 4 0], 0, 0), p0q116l2 [], [])
noncomputable def p0q116f3 : List (rX) := (g0Z [g0A 5, g0B 3] 0) :: (g0Z [g0B 5, g0A 1] 0) :: p0q116f1
noncomputable def q116a0_5 : zNx := (1, 0, (p0q116r0 [g0R 0 0, g0R 0 2000, g0S 127 127, g0S 9223372036854775807 9223372036854775807], (g0X [g0B 5, g0A 3] 7) :: p0q116f3, [], [g0c 0 0 1], (g0d 0 2 (g0C 0) (g0C 10) (g0V 7) 0 []) :: p0q116d3, p0q116m3 [g0m 1 2 0 10 7], 0, 0), p0q116l1 [], [])
noncomputable def q116a0_6 : zNx := (1, 0, (p0q116r0 [g0R 1 1, g0R 0 2000, g0S 127 127, g0S 9223372036854775807 9223372036854775807, g0S 9223372036854775807 9223372036854775807], (g0X [g0B 5, g0A 3] 7) :: p0q116f3, [], [g0c 0 0 1], (g0d 0 2 (g0C 0) (g0C 10) (g0V 8) 0 []) :: p0q116d3, p0q116m3 [g0m 1 2 0 10 7], 0, 0), p0q116l1 [(.inr .lneg, [g0V 7], 0, 0, g0V 8)], [])
noncomputable def q116a0_7 : zNx := (1, 0, (p0q116r1 [], (g0Z [g0A 5, g0B 3] 7) :: p0q116f3, [], [g0c 0 0 0], p0q116d4, p0q116m3 [g0m 3 2 0 4 0], 0, 0), p0q116l2 [], [])
noncomputable def q116a0_8 : zNx := (2, 0, (p0q116r0 [g0R 0 1, g0R 0 2000, g0R 48 57, g0S 9223372036854775807 9223372036854775807, g0S 9223372036854775807 9223372036854775807, g0S 9223372036854775807 9223372036854775807], (g0Z [g0B 5, g0A 1] 0) :: p0q116f1, [], [], (g0d 0 2 (g0C 0) (g0C 6) (g0W 5 1) 0 []) :: (g0d 0 2 (g0C 0) (g0C 10) (g0V 9) 0 []) :: p0q116d3, p0q116m3 [g0m 1 2 0 10 7], 0, 0), [(.inl 107, [g0V 6], 1, 0, g0C 1), (.inr .lmul, [g0V 7, g0C 10], 0, 0, g0V 8), (.inr .ladd, [g0V 8, g0Y 6 47], 0, 0, g0V 9)], [g0V 0, g0V 1, g0V 2, g0V 3, g0V 4, g0W 5 1])
noncomputable def q116a0 : List zNx := [q116a0_0, q116a0_1, q116a0_2, q116a0_3, q116a0_4, q116a0_5, q116a0_6, q116a0_7, q116a0_8]
noncomputable def q116a : List (List zNx) := [q116a0]
set_option maxRecDepth 100000 in
theorem zk116_ : zCk 3000 uMx uW uT uJL uAn uBds 116 q116 q116a = true := by decide +kernel
noncomputable def p0q117l0 (t : List (zLg)) : List (zLg) := (.inr .ishr, [g0V 1, g0V 0], 0, 0, g0V 2) :: (.inr .iand, [g0V 2, g0C 1], 0, 0, g0V 3) :: t
noncomputable def q117_0 : zNx := (1, 0, ([g0R 0 7, g0I, g0I, g0R 0 0], [], [], [g0c 0 0 0], [], [g0m 0 2 0 5 1], 0, 0), p0q117l0 [], [])
noncomputable def q117_1 : zNx := (1, 0, ([g0R 0 7, g0I, g0I, g0R 1 1], [], [], [g0c 0 0 1], [], [g0m 0 2 0 5 1], 0, 0), p0q117l0 [], [])
noncomputable def q117 : List zNx := [q117_0, q117_1]
noncomputable def q117a : List (List zNx) := []
set_option maxRecDepth 100000 in
theorem zk117_ : zCk 3000 uMx uW uT uJL uAn uBds 117 q117 q117a = true := by decide +kernel
noncomputable def p0q118l0 (t : List (zLg)) : List (zLg) := (.inr .ishr, [g0V 1, g0V 0], 0, 0, g0V 2) :: (.inr .iand, [g0V 2, g0C 1], 0, 0, g0V 3) :: t
noncomputable def q118_0 : zNx := (1, 0, ([g0I, g0I, g0I, g0R 0 0], [], [], [g0c 0 0 0], [], [g0m 0 2 0 5 1], 0, 0), p0q118l0 [], [])
noncomputable def q118_1 : zNx := (1, 0, ([g0I, g0I, g0I, g0R 1 1], [], [], [g0c 0 0 1], [], [g0m 0 2 0 5 1], 0, 0), p0q118l0 [], [])
noncomputable def q118 : List zNx := [q118_0, q118_1]
noncomputable def q118a : List (List zNx) := []
set_option maxRecDepth 100000 in
theorem zk118_ : zCk 3000 uMx uW uT uJL uAn uBds 118 q118 q118a = true := by decide +kernel
noncomputable def p0q119r0 (t : List (Int × Int)) : List (Int × Int) := (g0S 9223372036854775807 9223372036854775807) :: (g0R 0 8) :: t
noncomputable def q119_0 : zNx := (2, 0, (p0q119r0 [], [], [], [], [], [g0m 0 2 0 13 1], 0, 0), [], [g0V 0, g0V 1, g0C 0])
noncomputable def q119 : List zNx := [q119_0]
noncomputable def p0q119d0 : List (rD) := (g0d 1 0 (g0C 0) (g0C 0) (g0C 0) m0_ []) :: []
noncomputable def q119a0_0 : zNx := (1, 0, (p0q119r0 [g0R 0 8], [g0X [g0A 2, g0B 1] 0, g0X [g0B 2, g0A 1] 0], [], [g0w 0 0 (g0D 0)], p0q119d0, [g0m 0 2 0 13 1], 0, 0), [], [])
noncomputable def p0q119r1 (t : List (Int × Int)) : List (Int × Int) := p0q119r0 ((g0R 0 8) :: (g0S 9223372036854775807 9223372036854775807) :: t)
noncomputable def p0q119f0 : List (rX) := (g0Z [g0B 2, g0A 1] 0) :: (g0X [g0B 2, g0A 1] 0) :: []
noncomputable def p0q119m0 (t : List (rMm)) : List (rMm) := (g0m 0 2 0 13 1) :: (g0o 0 22 0 2 3) :: t
noncomputable def q119a0_1 : zNx := (2, 0, (p0q119r1 [], p0q119f0, [], [], p0q119d0, p0q119m0 [], 0, 0), [(.inr .nop, [g0V 3, g0V 0, g0C 0], 0, 0, g0C 0)], [g0V 0, g0V 1, g0W 2 1])
noncomputable def q119a0_2 : zNx := (1, 0, (p0q119r1 [], (g0X [g0B 3, g0A 0] 0) :: (g0X [g0A 3, g0B 0] 0) :: p0q119f0, [], [g0v 0 0 2], p0q119d0, p0q119m0 [], 0, 0), [], [])
noncomputable def q119a0 : List zNx := [q119a0_0, q119a0_1, q119a0_2]
noncomputable def q119a : List (List zNx) := [q119a0]
set_option maxRecDepth 100000 in
theorem zk119_ : zCk 3000 uMx uW uT uJL uAn uBds 119 q119 q119a = true := by decide +kernel
noncomputable def p0q120r0 (t : List (Int × Int)) : List (Int × Int) := (g0S 9223372036854775807 9223372036854775807) :: t
noncomputable def p0q120d0 : List (rD) := (g0d 1 0 (g0C 0) (g0C 0) (g0C 0) m0_ []) :: []
noncomputable def p0q120l0 (t : List (zLg)) : List (zLg) := (.inl 119, [g0V 0, g0V 1], 0, 0, g0V 2) :: t
noncomputable def q120_0 : zNx := (1, 0, (p0q120r0 [g0R 0 7, g0T 0 0], [g0Z [g0B 2, g0A 1] 0], [], [g0v 0 0 1], (g0d 0 2 (g0C 0) (g0C 13) (g0W 1 1) 0 []) :: (g0d 0 23 (g0C 0) (g0V 1) (g0C 1) 0 []) :: (g0d 0 22 (g0C 0) (g0V 1) (g0V 0) 0 []) :: p0q120d0, [g0m 0 2 0 13 1], 0, 0), p0q120l0 [], [])
noncomputable def q120_1 : zNx := (1, 0, (p0q120r0 [g0R 8 8, g0T 0 0], [g0Z [g0B 2, g0A 1] 0], [], [g0w 0 0 (g0D 0)], p0q120d0, [g0m 0 2 0 13 1], 0, 0), p0q120l0 [], [])
noncomputable def q120_2 : zNx := (1, 0, (p0q120r0 [g0R 0 8, g0R 0 8, g0I, g0I], [g0Z [g0B 2, g0A 1] 0], [], [g0v 0 0 2], (g0d 0 23 (g0C 0) (g0V 2) (g0V 4) 0 []) :: p0q120d0, [g0m 0 2 0 13 1, g0o 0 23 0 2 3], 0, 0), p0q120l0 [(.inr .iadd, [g0V 3, g0C 1], 0, 0, g0V 4)], [])
noncomputable def q120 : List zNx := [q120_0, q120_1, q120_2]
noncomputable def q120a : List (List zNx) := []
set_option maxRecDepth 100000 in
theorem zk120_ : zCk 3000 uMx uW uT uJL uAn uBds 120 q120 q120a = true := by decide +kernel
noncomputable def p0q121m0 (t : List (rMm)) : List (rMm) := (g0m 0 2 0 9 1) :: (g0m 0 2 0 16 2) :: t
noncomputable def q121_0 : zNx := (1, 0, ([g0R 0 7, g0I, g0R 32 32], [], [], [], [], p0q121m0 [], 0, 0), [], [])
noncomputable def q121_1 : zNx := (1, 0, ([g0R 0 7, g0I, g0R 0 31], [], [], [], [g0d 0 2 (g0C 0) (g0C 16) (g0W 2 1) 0 [], g0d 0 25 (g0C 0) (g0V 2) (g0V 0) 0 [], g0d 0 24 (g0C 0) (g0V 2) (g0V 1) 0 []], p0q121m0 [], 0, 0), [], [])
noncomputable def q121 : List zNx := [q121_0, q121_1]
noncomputable def q121a : List (List zNx) := []
set_option maxRecDepth 100000 in
theorem zk121_ : zCk 3000 uMx uW uT uJL uAn uBds 121 q121 q121a = true := by decide +kernel
noncomputable def p0q122l0 (t : List (zLg)) : List (zLg) := (.inr .nop, [g0V 0, g0C 7109364, g0C 0], 0, 0, g0C 0) :: t
noncomputable def p0q122l1 (t : List (zLg)) : List (zLg) := p0q122l0 ((.inr .nop, [g0V 0, g0C 28247, g0C 0], 0, 0, g0C 0) :: t)
noncomputable def p0q122l2 (t : List (zLg)) : List (zLg) := p0q122l1 ((.inr .nop, [g0V 0, g0C 19128, g0C 0], 0, 0, g0C 0) :: t)
noncomputable def q122_0 : zNx := (1, 0, ([g0S 9223372036854775807 9223372036854775807], [], [], [g0c 0 0 0], [], [], 0, 0), p0q122l2 [(.inr .nop, [g0V 0, g0C 18834, g0C 0], 0, 0, g0C 0)], [])
noncomputable def q122_1 : zNx := (1, 0, ([g0R 18834 18834], [], [], [g0c 0 0 4], [], [], 0, 0), p0q122l2 [], [])
noncomputable def q122_2 : zNx := (1, 0, ([g0R 19128 19128], [], [], [g0c 0 0 3], [], [], 0, 0), p0q122l1 [], [])
noncomputable def q122_3 : zNx := (1, 0, ([g0R 28247 28247], [], [], [g0c 0 0 2], [], [], 0, 0), p0q122l0 [], [])
noncomputable def q122_4 : zNx := (1, 0, ([g0R 7109364 7109364], [], [], [g0c 0 0 1], [], [], 0, 0), [], [])
noncomputable def q122 : List zNx := [q122_0, q122_1, q122_2, q122_3, q122_4]
noncomputable def q122a : List (List zNx) := []
set_option maxRecDepth 100000 in
theorem zk122_ : zCk 3000 uMx uW uT uJL uAn uBds 122 q122 q122a = true := by decide +kernel
noncomputable def q123_0 : zNx := (1, 0, ([g0R 0 20, g0R 0 400, g0R 0 60, g0R 0 20, g0R 0 400, g0R 0 60], [], [], [], [g0d 0 1 (g0C 0) (g0C 13) (g0V 2) 0 [], g0d 0 1 (g0C 0) (g0C 12) (g0V 1) 0 [], g0d 0 1 (g0C 0) (g0C 11) (g0V 0) 0 []], [g0m 0 1 0 7 0, g0m 0 1 0 9 1, g0m 0 1 0 10 2, g0m 0 1 0 11 3, g0m 0 1 0 12 4, g0m 0 1 0 13 5], 0, 0), [], [])
noncomputable def q123 : List zNx := [q123_0]
noncomputable def q123a : List (List zNx) := []
set_option maxRecDepth 100000 in
theorem zk123_ : zCk 3000 uMx uW uT uJL uAn uBds 123 q123 q123a = true := by decide +kernel
noncomputable def p0q124r0 (t : List (Int × Int)) : List (Int × Int) := (g0R 0 400) :: (g0R 0 60) :: (g0R 0 400) :: (g0R 0 60) :: t
noncomputable def p0q124m0 (t : List (rMm)) : List (rMm) := (g0m 0 1 0 9 0) :: (g0m 0 1 0 10 1) :: (g0m 0 1 0 12 2) :: (g0m 0 1 0 13 3) :: t
noncomputable def q124_0 : zNx := (1, 0, (p0q124r0 [], [], [], [g0c 0 0 1], [], p0q124m0 [], 0, 0), [(.inr .nop, [g0V 0, g0V 2, g0C 0], 0, 0, g0C 0)], [])
noncomputable def p0q124f0 : List (rX) := (g0X [g0A 2, g0B 0] 0) :: (g0X [g0B 2, g0A 0] 0) :: []
noncomputable def q124_1 : zNx := (1, 0, (p0q124r0 [], (g0X [g0A 3, g0B 1] 0) :: (g0X [g0B 3, g0A 1] 0) :: p0q124f0, [], [g0c 0 0 0], [], p0q124m0 [], 0, 0), [], [])
noncomputable def q124_2 : zNx := (1, 0, (p0q124r0 [], p0q124f0, [], [g0c 0 0 1], [], p0q124m0 [], 0, 0), [(.inr .nop, [g0V 1, g0V 3, g0C 0], 0, 0, g0C 0)], [])
noncomputable def q124 : List zNx := [q124_0, q124_1, q124_2]
noncomputable def q124a : List (List zNx) := []
set_option maxRecDepth 100000 in
theorem zk124_ : zCk 3000 uMx uW uT uJL uAn uBds 124 q124 q124a = true := by decide +kernel
noncomputable def p0q125r0 (t : List (Int × Int)) : List (Int × Int) := (g0S 9223372036854775807 9223372036854775807) :: g0I :: (g0R 0 20) :: t
noncomputable def q125_0 : zNx := (2, 0, (p0q125r0 [], [], [], [], [], [g0m 0 1 0 7 2], 0, 0), [], [g0V 0, g0V 1, g0V 2, g0C 0])
noncomputable def q125 : List zNx := [q125_0]
noncomputable def p0q125d0 : List (rD) := (g0d 1 0 (g0C 0) (g0C 0) (g0C 0) m0_ []) :: []
noncomputable def q125a0_0 : zNx := (1, 0, (p0q125r0 [g0R 0 20], [g0X [g0A 3, g0B 2] 0, g0X [g0B 3, g0A 2] 0], [], [g0w 0 0 (g0D 0)], p0q125d0, [g0m 0 1 0 7 2], 0, 0), [], [])
noncomputable def p0q125r1 (t : List (Int × Int)) : List (Int × Int) := p0q125r0 ((g0R 0 20) :: (g0S 9223372036854775807 9223372036854775807) :: t)
noncomputable def p0q125f0 : List (rX) := (g0Z [g0B 3, g0A 2] 0) :: (g0X [g0B 3, g0A 2] 0) :: []
noncomputable def p0q125m0 (t : List (rMm)) : List (rMm) := (g0m 0 1 0 7 2) :: (g0o 0 16 0 3 4) :: t
noncomputable def q125a0_1 : zNx := (2, 0, (p0q125r1 [], p0q125f0, [], [], p0q125d0, p0q125m0 [], 0, 0), [(.inr .nop, [g0V 4, g0V 0, g0C 0], 0, 0, g0C 0)], [g0V 0, g0V 1, g0V 2, g0W 3 1])
noncomputable def p0q125f1 : List (rX) := (g0X [g0B 4, g0A 0] 0) :: (g0X [g0A 4, g0B 0] 0) :: p0q125f0
noncomputable def q125a0_2 : zNx := (2, 0, (p0q125r1 [g0R 0 4], p0q125f1, [], [], p0q125d0, p0q125m0 [g0o 0 17 0 3 5], 0, 0), [(.inr .nop, [g0V 5, g0V 1, g0C 0], 0, 0, g0C 0)], [g0V 0, g0V 1, g0V 2, g0W 3 1])
noncomputable def q125a0_3 : zNx := (1, 0, (p0q125r1 [g0R 0 4], (g0X [g0B 5, g0A 1] 0) :: (g0X [g0A 5, g0B 1] 0) :: p0q125f1, [], [g0v 0 0 3], p0q125d0, p0q125m0 [g0o 0 17 0 3 5], 0, 0), [], [])
noncomputable def q125a0 : List zNx := [q125a0_0, q125a0_1, q125a0_2, q125a0_3]
noncomputable def q125a : List (List zNx) := [q125a0]
set_option maxRecDepth 100000 in
theorem zk125_ : zCk 3000 uMx uW uT uJL uAn uBds 125 q125 q125a = true := by decide +kernel
noncomputable def p0q126r0 (t : List (Int × Int)) : List (Int × Int) := (g0S 9223372036854775807 9223372036854775807) :: (g0R 0 4) :: t
noncomputable def q126_0 : zNx := (1, 0, (p0q126r0 [g0R 0 19], [], [], [g0v 0 0 2], [g0d 0 1 (g0C 0) (g0C 7) (g0W 2 1) 0 [], g0d 0 17 (g0C 0) (g0V 2) (g0V 1) 0 [], g0d 0 16 (g0C 0) (g0V 2) (g0V 0) 0 []], [g0m 0 1 0 7 2], 0, 0), [], [])
noncomputable def q126_1 : zNx := (1, 0, (p0q126r0 [g0R 20 20], [], [], [g0w 0 0 (g0D 0)], [], [g0m 0 1 0 7 2], 0, 0), [], [])
noncomputable def q126 : List zNx := [q126_0, q126_1]
noncomputable def q126a : List (List zNx) := []
set_option maxRecDepth 100000 in
theorem zk126_ : zCk 3000 uMx uW uT uJL uAn uBds 126 q126 q126a = true := by decide +kernel
noncomputable def q127_0 : zNx := (2, 0, ([g0R 0 399, g0R 0 566], [], [], [], [], [], 0, 0), [], [g0V 0, g0V 1, g0C 0])
noncomputable def q127 : List zNx := [q127_0]
noncomputable def p0q127d0 : List (rD) := (g0d 1 0 (g0C 0) (g0C 0) (g0C 0) m0_ []) :: []
noncomputable def q127a0_0 : zNx := (1, 0, ([g0R 0 399, g0R 0 566, g0R 4 4], [], [], [g0c 0 0 1], p0q127d0, [], 0, 0), [], [])
noncomputable def p0q127r0 (t : List (Int × Int)) : List (Int × Int) := (g0R 0 399) :: (g0R 0 566) :: (g0R 0 3) :: (g0S 9223372036854775807 9223372036854775807) :: (g0S 9223372036854775807 9223372036854775807) :: t
noncomputable def p0q127m0 (t : List (rMm)) : List (rMm) := (g0q 0 20 (g0C 0) (g0X [g0A 2, g0P 0 4] 0) 3) :: (g0p 0 46 1 2 4) :: t
noncomputable def q127a0_1 : zNx := (2, 0, (p0q127r0 [], [g0X [g0A 4, g0B 3] 0, g0X [g0B 4, g0A 3] 0], [], [], p0q127d0, p0q127m0 [], 0, 0), [], [g0V 0, g0V 1, g0W 2 1])
noncomputable def q127a0_2 : zNx := (1, 0, (p0q127r0 [], [], [], [g0c 0 0 0], p0q127d0, p0q127m0 [], 0, 0), [(.inr .nop, [g0V 3, g0V 4, g0C 0], 0, 0, g0C 0)], [])
noncomputable def q127a0 : List zNx := [q127a0_0, q127a0_1, q127a0_2]
noncomputable def q127a : List (List zNx) := [q127a0]
set_option maxRecDepth 100000 in
theorem zk127_ : zCk 3000 uMx uW uT uJL uAn uBds 127 q127 q127a = true := by decide +kernel
noncomputable def p0q128r0 (t : List (Int × Int)) : List (Int × Int) := (g0R 0 566) :: (g0R 0 400) :: (g0S 0 19) :: t
noncomputable def p0q128m0 (t : List (rMm)) : List (rMm) := (g0m 0 1 0 9 1) :: (g0n 0 10 0 8 2) :: t
noncomputable def q128_0 : zNx := (2, 0, (p0q128r0 [], [], [], [], [], p0q128m0 [], 0, 0), [], [g0V 0, g0V 1, g0V 2, g0C 0])
noncomputable def q128 : List zNx := [q128_0]
noncomputable def p0q128d0 : List (rD) := (g0d 1 0 (g0C 0) (g0C 0) (g0C 0) m0_ []) :: []
noncomputable def q128a0_0 : zNx := (1, 0, (p0q128r0 [g0R 0 400], [g0X [g0A 3, g0B 1] 0, g0X [g0B 3, g0A 1] 0], [], [g0w 0 0 (g0D 0)], p0q128d0, p0q128m0 [], 0, 0), [], [])
noncomputable def p0q128f0 : List (rX) := (g0Z [g0B 3, g0A 1] 0) :: (g0X [g0B 3, g0A 1] 0) :: []
noncomputable def q128a0_1 : zNx := (2, 0, (p0q128r0 [g0R 0 400, g0R 0 19], p0q128f0, [], [], p0q128d0, p0q128m0 [g0o 0 19 0 3 4], 0, 0), [(.inr .nop, [g0V 4, g0V 2, g0C 0], 0, 0, g0C 0)], [g0V 0, g0V 1, g0V 2, g0W 3 1])
noncomputable def p0q128f1 : List (rX) := (g0X [g0B 4, g0A 2] 0) :: (g0X [g0A 4, g0B 2] 0) :: p0q128f0
noncomputable def p0q128d1 : List (rD) := (g0d 1 0 (g0C 0) (g0C 0) (g0C 0) m0_ []) :: p0q128d0
noncomputable def q128a0_2 : zNx := (2, 0, (p0q128r0 [g0R 0 400, g0R 0 19], p0q128f1, [], [], p0q128d1, p0q128m0 [g0o 0 19 0 3 4], 0, 0), [(.inl 127, [g0V 3, g0V 0], 1, 0, g0C 0)], [g0V 0, g0V 1, g0V 2, g0W 3 1])
noncomputable def q128a0_3 : zNx := (1, 0, (p0q128r0 [g0R 0 400, g0R 0 19], p0q128f1, [], [g0v 0 0 3], p0q128d1, p0q128m0 [g0o 0 19 0 3 4], 0, 0), [(.inl 127, [g0V 3, g0V 0], 1, 0, g0C 1)], [])
noncomputable def q128a0 : List zNx := [q128a0_0, q128a0_1, q128a0_2, q128a0_3]
noncomputable def q128a : List (List zNx) := [q128a0]
set_option maxRecDepth 100000 in
theorem zk128_ : zCk 3000 uMx uW uT uJL uAn uBds 128 q128 q128a = true := by decide +kernel
noncomputable def p0q129m0 (t : List (rMm)) : List (rMm) := (g0n 0 10 0 8 1) :: (g0m 0 1 0 9 2) :: t
noncomputable def q129_0 : zNx := (1, 0, ([g0R 0 566, g0R 0 19, g0R 0 399], [], [], [g0c 0 0 1], [g0d 0 1 (g0C 0) (g0C 9) (g0W 2 1) 0 [], g0d 1 0 (g0C 0) (g0C 0) (g0C 0) m156_ [], g0d 0 19 (g0C 0) (g0V 2) (g0V 1) 0 []], p0q129m0 [], 0, 0), [(.inr (.invokestatic 70), [g0C 46, g0V 0, g0C 0, g0C 20, g0C 0, g0X [g0P 2 4] 0, g0C 4], 1, 0, g0C 0)], [])
noncomputable def q129_1 : zNx := (1, 0, ([g0R 0 566, g0R 0 19, g0R 400 400], [], [], [g0c 0 0 0], [], p0q129m0 [], 0, 0), [], [])
noncomputable def q129 : List zNx := [q129_0, q129_1]
noncomputable def q129a : List (List zNx) := []
set_option maxRecDepth 100000 in
theorem zk129_ : zCk 3000 uMx uW uT uJL uAn uBds 129 q129 q129a = true := by decide +kernel
noncomputable def q130_0 : zNx := (1, 0, ([g0R 0 399, g0R 0 400], [g0Z [g0A 1, g0B 0] 0], [], [], [g0d 0 1 (g0C 0) (g0C 9) (g0Y 1 0) 0 [], g0d 1 0 (g0C 0) (g0C 0) (g0C 0) m156_ [], g0d 1 0 (g0C 0) (g0C 0) (g0C 0) m157_ []], [g0m 0 1 0 9 1], 0, 0), [(.inr (.invokestatic 70), [g0C 19, g0C 0, g0W 0 1, g0C 19, g0C 0, g0V 0, g0Z [g0A 1, g0B 0] 0], 0, 0, g0C 0), (.inr (.invokestatic 70), [g0C 20, g0C 0, g0X [g0P 0 4] 4, g0C 20, g0C 0, g0X [g0P 0 4] 0, g0Z [g0P 1 4, g0N 0 3] 3], 1, 0, g0C 0)], [])
noncomputable def q130_1 : zNx := (1, 0, ([g0R 0 399, g0R 0 400], [g0X [g0B 1, g0A 0] 0], [], [], [], [g0m 0 1 0 9 1], 0, 0), [], [])
noncomputable def q130 : List zNx := [q130_0, q130_1]
noncomputable def q130a : List (List zNx) := []
set_option maxRecDepth 100000 in
theorem zk130_ : zCk 3000 uMx uW uT uJL uAn uBds 130 q130 q130a = true := by decide +kernel
noncomputable def q131_0 : zNx := (1, 0, ([g0R 0 60, g0R 0 60], [], [], [g0v 2 9 1], [], [g0o 0 40 0 0 1], 0, 0), [], [])
noncomputable def q131 : List zNx := [q131_0]
noncomputable def q131a : List (List zNx) := []
set_option maxRecDepth 100000 in
theorem zk131_ : zCk 3000 uMx uW uT uJL uAn uBds 131 q131 q131a = true := by decide +kernel
noncomputable def q132_0 : zNx := (1, 0, ([g0R 0 62, g0R 0 7], [], [], [g0w 2 10 (g0X [g0A 1, g0P 0 9] 1)], [], [], 0, 0), [], [])
noncomputable def q132 : List zNx := [q132_0]
noncomputable def q132a : List (List zNx) := []
set_option maxRecDepth 100000 in
theorem zk132_ : zCk 3000 uMx uW uT uJL uAn uBds 132 q132 q132a = true := by decide +kernel
noncomputable def p0q133d0 : List (rD) := (g0d 0 10 (g0X [g0P 1 9] 0) (g0C 8) (g0V 10) 0 []) :: (g0d 1 0 (g0C 0) (g0C 0) (g0C 0) m0_ []) :: []
noncomputable def p0q133m0 (t : List (rMm)) : List (rMm) := (g0m 0 1 0 10 0) :: (g0o 0 40 0 0 1) :: (g0n 0 9 1 2 2) :: (g0m 0 2 0 7 3) :: (g0q 0 10 (g0X [g0P 1 9] 0) (g0C 8) 4) :: (g0m 0 1 0 7 5) :: (g0m 0 2 0 4 6) :: (g0q 0 10 (g0X [g0P 1 9] 0) (g0C 5) 7) :: (g0q 0 10 (g0X [g0P 1 9] 0) (g0C 7) 8) :: (g0q 0 10 (g0X [g0P 1 9] 0) (g0C 6) 9) :: t
noncomputable def p0q133l0 (t : List (zLg)) : List (zLg) := (.inl 125, [g0V 9, g0V 7, g0V 5], 0, 0, g0V 10) :: t
noncomputable def q133_0 : zNx := (1, 0, ([g0R 0 60, g0R 0 60, g0R 0 8, g0R 0 2, g0S 0 19, g0R 0 20, g0I, g0R 0 4, g0I, g0S 9223372036854775807 9223372036854775807, g0R 0 20], [g0Z [g0B 10, g0A 5] 0], [], [g0c 0 0 1], p0q133d0, p0q133m0 [], 0, 0), p0q133l0 [], [])
noncomputable def q133_1 : zNx := (1, 0, ([g0R 0 60, g0R 0 60, g0R 0 8, g0R 1 1, g0S 0 19, g0R 0 20, g0I, g0R 0 4, g0I, g0S 9223372036854775807 9223372036854775807, g0T 0 0], [g0Z [g0B 10, g0A 5] 0], [], [g0c 0 0 1], p0q133d0, p0q133m0 [], 0, 0), p0q133l0 [], [])
noncomputable def q133_2 : zNx := (1, 0, ([g0R 0 60, g0R 0 60, g0R 0 8, g0R 2 2, g0S 0 19, g0R 0 20, g0I, g0R 0 4, g0I, g0S 9223372036854775807 9223372036854775807, g0T 0 0], [g0Z [g0B 10, g0A 5] 0], [], [g0c 0 0 0], (g0d 1 0 (g0C 0) (g0C 0) (g0C 0) m72_ []) :: p0q133d0, p0q133m0 [g0m 3 2 0 4 8], 0, 0), p0q133l0 [(.inl 109, [g0V 8, g0V 6], 2, 0, g0C 0)], [])
noncomputable def p0q133r0 (t : List (Int × Int)) : List (Int × Int) := (g0R 0 60) :: (g0R 0 60) :: (g0R 0 8) :: (g0R 0 0) :: (g0S 0 19) :: (g0R 0 20) :: g0I :: (g0R 0 4) :: g0I :: (g0S 9223372036854775807 9223372036854775807) :: (g0T 0 0) :: t
noncomputable def p0q133f0 : List (rX) := (g0Z [g0A 12, g0B 11] 0) :: (g0X [g0A 12, g0B 5] 0) :: (g0X [g0B 11, g0A 5] 0) :: (g0Z [g0B 10, g0A 5] 0) :: []
noncomputable def p0q133d1 : List (rD) := (g0d 0 10 (g0X [g0P 1 9] 0) (g0C 8) (g0V 11) 0 []) :: (g0d 1 0 (g0C 0) (g0C 0) (g0C 0) m85_ []) :: p0q133d0
noncomputable def p0q133l1 (t : List (zLg)) : List (zLg) := p0q133l0 ((.inl 126, [g0V 9, g0V 7, g0V 5], 2, 0, g0V 11) :: t)
noncomputable def q133_3 : zNx := (1, 0, (p0q133r0 [g0R 0 19, g0R 1 20], p0q133f0, [], [g0c 0 0 1], p0q133d1, p0q133m0 [g0m 3 1 0 7 12], 0, 0), p0q133l1 [], [])
noncomputable def q133_4 : zNx := (1, 0, (p0q133r0 [g0T 0 0, g0R 1 20], p0q133f0, [], [g0c 0 0 0], (g0d 1 0 (g0C 0) (g0C 0) (g0C 0) m72_ []) :: p0q133d1, p0q133m0 [g0m 3 1 0 7 12, g0m 5 2 0 4 8], 0, 0), p0q133l1 [(.inl 109, [g0V 8, g0V 6], 4, 0, g0C 0)], [])
noncomputable def q133 : List zNx := [q133_0, q133_1, q133_2, q133_3, q133_4]
noncomputable def q133a : List (List zNx) := []
set_option maxRecDepth 100000 in
theorem zk133_ : zCk 3000 uMx uW uT uJL uAn uBds 133 q133 q133a = true := by decide +kernel
