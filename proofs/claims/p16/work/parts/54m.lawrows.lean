/-! ===== the rows of the law ===== -/
theorem rg66b {g : rHp} (h : rRg uW g) (p : Int) : 0 ≤ g 66 0 p ∧ g 66 0 p ≤ 4 :=
  ⟨(h 66 (1000, 21, Int.ofNat 1, [(0, Int.ofNat 0, Int.ofNat 4, 0, Int.ofNat 0, Int.ofNat 0, Int.ofNat 0)]) rfl 0 p).1, (h 66 (1000, 21, Int.ofNat 1, [(0, Int.ofNat 0, Int.ofNat 4, 0, Int.ofNat 0, Int.ofNat 0, Int.ofNat 0)]) rfl 0 p).2⟩
noncomputable def wZ_ : rI := (0, (60, 1, 6, 2000, 1, 6), ([(Int.ofNat 0, Int.ofNat 3072)], [], [], [(7, 0, ([(0, Int.ofNat 1)], Int.ofNat 0))], [], [], 0, 0), i39_, [([(Int.ofNat 0, Int.ofNat 3072), (Int.ofNat 0, Int.ofNat 1)], [], [], [(0, 0, ([(1, Int.ofNat 1)], Int.ofNat 0))], [(1, (0, ([], 0), ([], 0), ([], 0)), m155_, [])], [], 1, 6)], [])
noncomputable def qL_0 : zNx := (1, 0, ([(Int.ofNat 0, Int.ofNat 3072), (Int.ofNat 0, Int.ofNat 3072), (Int.ofNat 0, Int.ofNat 2000), (Int.ofNat 0, Int.ofNat 12288), (Int.ofNat 0, Int.ofNat 12288)], [([(1, Int.ofNat 1), (0, Int.negSucc 0)], Int.ofNat 5), ([(1, Int.negSucc 0), (0, Int.ofNat 1)], Int.ofNat 0), ([(3, Int.negSucc 0), (2, Int.negSucc 0), (1, Int.ofNat 4)], Int.ofNat 0), ([(4, Int.negSucc 0), (2, Int.negSucc 0), (1, Int.ofNat 4)], Int.ofNat 0)], [], [(0, 0, ([], Int.ofNat 1))], [(1, (0, ([], 0), ([], 0), ([], 0)), m155_, i39_)], [(1, 2, ([], Int.ofNat 0), ([], Int.ofNat 3), ([(2, Int.ofNat 1)], Int.ofNat 0)), (1, 15, ([], Int.ofNat 0), ([], Int.ofNat 3), ([(2, Int.ofNat 1)], Int.ofNat 0)), (1, 15, ([], Int.ofNat 0), ([], Int.ofNat 8), ([(3, Int.ofNat 1)], Int.ofNat 0)), (1, 15, ([], Int.ofNat 0), ([], Int.ofNat 9), ([(4, Int.ofNat 1)], Int.ofNat 0))], 0, 0), [], [])
noncomputable def qL_1 : zNx := (2, 0, ([(Int.ofNat 0, Int.ofNat 3072), (Int.ofNat 0, Int.ofNat 3072), (Int.ofNat 0, Int.ofNat 2000), (Int.ofNat 0, Int.ofNat 12288), (Int.ofNat 0, Int.ofNat 12288), (Int.negSucc 2147483647, Int.ofNat 2147483647), (Int.ofNat 15, Int.ofNat 15)], [([(1, Int.negSucc 0), (0, Int.ofNat 1)], Int.negSucc 5), ([(1, Int.negSucc 0), (0, Int.ofNat 1)], Int.ofNat 0), ([(3, Int.negSucc 0), (2, Int.negSucc 0), (1, Int.ofNat 4)], Int.ofNat 0), ([(4, Int.negSucc 0), (2, Int.negSucc 0), (1, Int.ofNat 4)], Int.ofNat 0)], [], [], [(1, (0, ([], 0), ([], 0), ([], 0)), m155_, i39_)], [(1, 2, ([], Int.ofNat 0), ([], Int.ofNat 3), ([(2, Int.ofNat 1)], Int.ofNat 0)), (1, 15, ([], Int.ofNat 0), ([], Int.ofNat 3), ([(2, Int.ofNat 1)], Int.ofNat 0)), (1, 15, ([], Int.ofNat 0), ([], Int.ofNat 8), ([(3, Int.ofNat 1)], Int.ofNat 0)), (1, 15, ([], Int.ofNat 0), ([], Int.ofNat 9), ([(4, Int.ofNat 1)], Int.ofNat 0)), (0, 113, ([], Int.ofNat 0), ([(1, Int.ofNat 1)], Int.ofNat 0), ([(5, Int.ofNat 1)], Int.ofNat 0))], 0, 0), [(.inr (.iand), [([(5, Int.ofNat 1)], Int.ofNat 0), ([], Int.ofNat 15)], 0, 0, ([(6, Int.ofNat 1)], Int.ofNat 0))], [([(0, Int.ofNat 1)], Int.ofNat 0), ([(1, Int.ofNat 1)], Int.ofNat 6), ([(2, Int.ofNat 1)], Int.ofNat 0), ([(3, Int.ofNat 1)], Int.ofNat 0), ([(4, Int.ofNat 1)], Int.ofNat 0)])
noncomputable def qL_2 : zNx := (2, 0, ([(Int.ofNat 0, Int.ofNat 3072), (Int.ofNat 0, Int.ofNat 3072), (Int.ofNat 0, Int.ofNat 1980), (Int.ofNat 0, Int.ofNat 12288), (Int.ofNat 0, Int.ofNat 12288), (Int.negSucc 2147483647, Int.ofNat 2147483647), (Int.ofNat 0, Int.ofNat 0), (Int.negSucc 2147483647, Int.ofNat 2147483647), (Int.negSucc 2147483647, Int.ofNat 2147483647), (Int.negSucc 2147483647, Int.ofNat 2147483647), (Int.negSucc 2147483647, Int.ofNat 2147483647), (Int.negSucc 2147483647, Int.ofNat 2147483647), (Int.negSucc 9223372036854775807, Int.ofNat 9223372036854775807), (Int.ofNat 0, Int.ofNat 3)], [([(1, Int.negSucc 0), (0, Int.ofNat 1)], Int.negSucc 5), ([(1, Int.negSucc 0), (0, Int.ofNat 1)], Int.ofNat 0), ([(3, Int.negSucc 0), (2, Int.negSucc 0), (1, Int.ofNat 4)], Int.ofNat 0), ([(4, Int.negSucc 0), (2, Int.negSucc 0), (1, Int.ofNat 4)], Int.ofNat 0)], [], [], [(1, (0, ([], 0), ([], 0), ([], 0)), m3_, []), (1, (0, ([], 0), ([], 0), ([], 0)), m147_, []), (1, (0, ([], 0), ([], 0), ([], 0)), m155_, i39_)], [(1, 2, ([], Int.ofNat 0), ([], Int.ofNat 3), ([(2, Int.ofNat 1)], Int.ofNat 0)), (1, 15, ([], Int.ofNat 0), ([], Int.ofNat 3), ([(2, Int.ofNat 1)], Int.ofNat 0)), (1, 15, ([], Int.ofNat 0), ([], Int.ofNat 8), ([(3, Int.ofNat 1)], Int.ofNat 0)), (1, 15, ([], Int.ofNat 0), ([], Int.ofNat 9), ([(4, Int.ofNat 1)], Int.ofNat 0)), (0, 113, ([], Int.ofNat 0), ([(1, Int.ofNat 1)], Int.ofNat 0), ([(5, Int.ofNat 1)], Int.ofNat 0)), (0, 113, ([], Int.ofNat 0), ([(1, Int.ofNat 1)], Int.ofNat 1), ([(7, Int.ofNat 1)], Int.ofNat 0)), (0, 113, ([], Int.ofNat 0), ([(1, Int.ofNat 1)], Int.ofNat 2), ([(8, Int.ofNat 1)], Int.ofNat 0)), (0, 113, ([], Int.ofNat 0), ([(1, Int.ofNat 1)], Int.ofNat 3), ([(9, Int.ofNat 1)], Int.ofNat 0)), (0, 113, ([], Int.ofNat 0), ([(1, Int.ofNat 1)], Int.ofNat 4), ([(10, Int.ofNat 1)], Int.ofNat 0)), (0, 113, ([], Int.ofNat 0), ([(1, Int.ofNat 1)], Int.ofNat 5), ([(11, Int.ofNat 1)], Int.ofNat 0)), (1, 112, ([], Int.ofNat 0), ([], Int.ofNat 0), ([(12, Int.ofNat 1)], Int.ofNat 0)), (2, 2, ([], Int.ofNat 0), ([], Int.ofNat 3), ([(2, Int.ofNat 1)], Int.ofNat 20)), (2, 112, ([], Int.ofNat 0), ([], Int.ofNat 0), ([(2, Int.ofNat 1)], Int.ofNat 20)), (1, 15, ([], Int.ofNat 0), ([], Int.ofNat 0), ([(13, Int.ofNat 1)], Int.ofNat 0)), (3, 15, ([], Int.ofNat 0), ([], Int.ofNat 3), ([(2, Int.ofNat 1)], Int.ofNat 20)), (3, 15, ([], Int.ofNat 0), ([], Int.ofNat 0), ([], Int.ofNat 0))], 0, 0), [(.inr (.iand), [([(5, Int.ofNat 1)], Int.ofNat 0), ([], Int.ofNat 15)], 0, 0, ([(6, Int.ofNat 1)], Int.ofNat 0)), (.inl 267, [([(7, Int.ofNat 1)], Int.ofNat 0), ([(8, Int.ofNat 1)], Int.ofNat 0), ([(9, Int.ofNat 1)], Int.ofNat 0), ([(10, Int.ofNat 1)], Int.ofNat 0), ([(11, Int.ofNat 1)], Int.ofNat 0), ([(2, Int.ofNat 1)], Int.ofNat 0), ([(12, Int.ofNat 1)], Int.ofNat 0)], 1, 0, ([], Int.ofNat 0)), (.inl 3, [([(7, Int.ofNat 1)], Int.ofNat 0), ([(8, Int.ofNat 1)], Int.ofNat 0), ([(9, Int.ofNat 1)], Int.ofNat 0), ([(10, Int.ofNat 1)], Int.ofNat 0), ([(11, Int.ofNat 1)], Int.ofNat 0), ([(2, Int.ofNat 1)], Int.ofNat 0), ([(13, Int.ofNat 1)], Int.ofNat 0)], 2, 0, ([(2, Int.ofNat 1)], Int.ofNat 20))], [([(0, Int.ofNat 1)], Int.ofNat 0), ([(1, Int.ofNat 1)], Int.ofNat 6), ([(2, Int.ofNat 1)], Int.ofNat 20), ([(3, Int.ofNat 1)], Int.ofNat 0), ([(4, Int.ofNat 1)], Int.ofNat 0)])
noncomputable def qL_3 : zNx := (2, 0, ([(Int.ofNat 0, Int.ofNat 3072), (Int.ofNat 0, Int.ofNat 3072), (Int.ofNat 1981, Int.ofNat 2000), (Int.ofNat 0, Int.ofNat 12288), (Int.ofNat 0, Int.ofNat 12288), (Int.negSucc 2147483647, Int.ofNat 2147483647), (Int.ofNat 0, Int.ofNat 0), (Int.negSucc 2147483647, Int.ofNat 2147483647), (Int.negSucc 2147483647, Int.ofNat 2147483647), (Int.negSucc 2147483647, Int.ofNat 2147483647), (Int.negSucc 2147483647, Int.ofNat 2147483647), (Int.negSucc 2147483647, Int.ofNat 2147483647), (Int.negSucc 9223372036854775807, Int.ofNat 9223372036854775807), (Int.ofNat 0, Int.ofNat 3)], [([(1, Int.negSucc 0), (0, Int.ofNat 1)], Int.negSucc 5), ([(1, Int.negSucc 0), (0, Int.ofNat 1)], Int.ofNat 0), ([(3, Int.negSucc 0), (2, Int.negSucc 0), (1, Int.ofNat 4)], Int.ofNat 0), ([(4, Int.negSucc 0), (2, Int.negSucc 0), (1, Int.ofNat 4)], Int.ofNat 0)], [], [], [(1, (0, ([], 0), ([], 0), ([], 0)), m3_, []), (1, (0, ([], 0), ([], 0), ([], 0)), m147_, []), (1, (0, ([], 0), ([], 0), ([], 0)), m155_, i39_)], [(1, 2, ([], Int.ofNat 0), ([], Int.ofNat 3), ([(2, Int.ofNat 1)], Int.ofNat 0)), (1, 15, ([], Int.ofNat 0), ([], Int.ofNat 3), ([(2, Int.ofNat 1)], Int.ofNat 0)), (1, 15, ([], Int.ofNat 0), ([], Int.ofNat 8), ([(3, Int.ofNat 1)], Int.ofNat 0)), (1, 15, ([], Int.ofNat 0), ([], Int.ofNat 9), ([(4, Int.ofNat 1)], Int.ofNat 0)), (0, 113, ([], Int.ofNat 0), ([(1, Int.ofNat 1)], Int.ofNat 0), ([(5, Int.ofNat 1)], Int.ofNat 0)), (0, 113, ([], Int.ofNat 0), ([(1, Int.ofNat 1)], Int.ofNat 1), ([(7, Int.ofNat 1)], Int.ofNat 0)), (0, 113, ([], Int.ofNat 0), ([(1, Int.ofNat 1)], Int.ofNat 2), ([(8, Int.ofNat 1)], Int.ofNat 0)), (0, 113, ([], Int.ofNat 0), ([(1, Int.ofNat 1)], Int.ofNat 3), ([(9, Int.ofNat 1)], Int.ofNat 0)), (0, 113, ([], Int.ofNat 0), ([(1, Int.ofNat 1)], Int.ofNat 4), ([(10, Int.ofNat 1)], Int.ofNat 0)), (0, 113, ([], Int.ofNat 0), ([(1, Int.ofNat 1)], Int.ofNat 5), ([(11, Int.ofNat 1)], Int.ofNat 0)), (1, 112, ([], Int.ofNat 0), ([], Int.ofNat 0), ([(12, Int.ofNat 1)], Int.ofNat 0)), (2, 2, ([], Int.ofNat 0), ([], Int.ofNat 3), ([(2, Int.ofNat 1)], Int.ofNat 0)), (2, 112, ([], Int.ofNat 0), ([], Int.ofNat 0), ([(12, Int.ofNat 1)], Int.ofNat 0)), (1, 15, ([], Int.ofNat 0), ([], Int.ofNat 0), ([(13, Int.ofNat 1)], Int.ofNat 0)), (3, 15, ([], Int.ofNat 0), ([], Int.ofNat 3), ([(2, Int.ofNat 1)], Int.ofNat 0)), (3, 15, ([], Int.ofNat 0), ([], Int.ofNat 0), ([], Int.ofNat 1))], 0, 0), [(.inr (.iand), [([(5, Int.ofNat 1)], Int.ofNat 0), ([], Int.ofNat 15)], 0, 0, ([(6, Int.ofNat 1)], Int.ofNat 0)), (.inl 267, [([(7, Int.ofNat 1)], Int.ofNat 0), ([(8, Int.ofNat 1)], Int.ofNat 0), ([(9, Int.ofNat 1)], Int.ofNat 0), ([(10, Int.ofNat 1)], Int.ofNat 0), ([(11, Int.ofNat 1)], Int.ofNat 0), ([(2, Int.ofNat 1)], Int.ofNat 0), ([(12, Int.ofNat 1)], Int.ofNat 0)], 1, 0, ([], Int.ofNat 1)), (.inl 3, [([(7, Int.ofNat 1)], Int.ofNat 0), ([(8, Int.ofNat 1)], Int.ofNat 0), ([(9, Int.ofNat 1)], Int.ofNat 0), ([(10, Int.ofNat 1)], Int.ofNat 0), ([(11, Int.ofNat 1)], Int.ofNat 0), ([(2, Int.ofNat 1)], Int.ofNat 0), ([(13, Int.ofNat 1)], Int.ofNat 0)], 2, 0, ([], Int.ofNat 0))], [([(0, Int.ofNat 1)], Int.ofNat 0), ([(1, Int.ofNat 1)], Int.ofNat 6), ([(2, Int.ofNat 1)], Int.ofNat 0), ([(3, Int.ofNat 1)], Int.ofNat 0), ([(4, Int.ofNat 1)], Int.ofNat 0)])
noncomputable def qL_4 : zNx := (2, 0, ([(Int.ofNat 0, Int.ofNat 3072), (Int.ofNat 0, Int.ofNat 3072), (Int.ofNat 0, Int.ofNat 2000), (Int.ofNat 0, Int.ofNat 12288), (Int.ofNat 0, Int.ofNat 12288), (Int.negSucc 2147483647, Int.ofNat 2147483647), (Int.ofNat 1, Int.ofNat 1), (Int.ofNat 0, Int.ofNat 2147483647), (Int.negSucc 9223372036854775807, Int.ofNat 9223372036854775807), (Int.ofNat 0, Int.ofNat 3)], [([(7, Int.negSucc 0), (2, Int.ofNat 1)], Int.ofNat 0), ([(1, Int.negSucc 0), (0, Int.ofNat 1)], Int.negSucc 5), ([(1, Int.negSucc 0), (0, Int.ofNat 1)], Int.ofNat 0), ([(3, Int.negSucc 0), (2, Int.negSucc 0), (1, Int.ofNat 4)], Int.ofNat 0), ([(4, Int.negSucc 0), (2, Int.negSucc 0), (1, Int.ofNat 4)], Int.ofNat 0)], [], [], [(1, (0, ([], 0), ([], 0), ([], 0)), m4_, []), (1, (0, ([], 0), ([], 0), ([], 0)), m148_, []), (1, (0, ([], 0), ([], 0), ([], 0)), m155_, i39_)], [(1, 2, ([], Int.ofNat 0), ([], Int.ofNat 3), ([(2, Int.ofNat 1)], Int.ofNat 0)), (1, 15, ([], Int.ofNat 0), ([], Int.ofNat 3), ([(2, Int.ofNat 1)], Int.ofNat 0)), (1, 15, ([], Int.ofNat 0), ([], Int.ofNat 8), ([(3, Int.ofNat 1)], Int.ofNat 0)), (1, 15, ([], Int.ofNat 0), ([], Int.ofNat 9), ([(4, Int.ofNat 1)], Int.ofNat 0)), (0, 113, ([], Int.ofNat 0), ([(1, Int.ofNat 1)], Int.ofNat 0), ([(5, Int.ofNat 1)], Int.ofNat 0)), (0, 113, ([], Int.ofNat 0), ([(1, Int.ofNat 1)], Int.ofNat 1), ([(7, Int.ofNat 1)], Int.ofNat 0)), (1, 112, ([], Int.ofNat 0), ([], Int.ofNat 0), ([(8, Int.ofNat 1)], Int.ofNat 0)), (2, 2, ([], Int.ofNat 0), ([], Int.ofNat 3), ([(7, Int.ofNat 1)], Int.ofNat 0)), (2, 112, ([], Int.ofNat 0), ([], Int.ofNat 0), ([(7, Int.ofNat 1)], Int.ofNat 0)), (1, 15, ([], Int.ofNat 0), ([], Int.ofNat 0), ([(9, Int.ofNat 1)], Int.ofNat 0)), (3, 15, ([], Int.ofNat 0), ([], Int.ofNat 3), ([(7, Int.ofNat 1)], Int.ofNat 0)), (3, 15, ([], Int.ofNat 0), ([], Int.ofNat 0), ([], Int.ofNat 0))], 0, 0), [(.inr (.iand), [([(5, Int.ofNat 1)], Int.ofNat 0), ([], Int.ofNat 15)], 0, 0, ([(6, Int.ofNat 1)], Int.ofNat 0)), (.inl 268, [([(7, Int.ofNat 1)], Int.ofNat 0), ([(2, Int.ofNat 1)], Int.ofNat 0), ([(8, Int.ofNat 1)], Int.ofNat 0)], 1, 0, ([], Int.ofNat 0)), (.inl 4, [([(7, Int.ofNat 1)], Int.ofNat 0), ([(2, Int.ofNat 1)], Int.ofNat 0), ([(9, Int.ofNat 1)], Int.ofNat 0)], 2, 0, ([(7, Int.ofNat 1)], Int.ofNat 0))], [([(0, Int.ofNat 1)], Int.ofNat 0), ([(1, Int.ofNat 1)], Int.ofNat 6), ([(7, Int.ofNat 1)], Int.ofNat 0), ([(3, Int.ofNat 1)], Int.ofNat 0), ([(4, Int.ofNat 1)], Int.ofNat 0)])
noncomputable def qL_5 : zNx := (2, 0, ([(Int.ofNat 0, Int.ofNat 3072), (Int.ofNat 0, Int.ofNat 3072), (Int.ofNat 0, Int.ofNat 2000), (Int.ofNat 0, Int.ofNat 12288), (Int.ofNat 0, Int.ofNat 12288), (Int.negSucc 2147483647, Int.ofNat 2147483647), (Int.ofNat 1, Int.ofNat 1), (Int.ofNat 0, Int.ofNat 2147483647), (Int.negSucc 9223372036854775807, Int.ofNat 9223372036854775807), (Int.ofNat 0, Int.ofNat 3)], [([(7, Int.ofNat 1), (2, Int.negSucc 0)], Int.negSucc 0), ([(1, Int.negSucc 0), (0, Int.ofNat 1)], Int.negSucc 5), ([(1, Int.negSucc 0), (0, Int.ofNat 1)], Int.ofNat 0), ([(3, Int.negSucc 0), (2, Int.negSucc 0), (1, Int.ofNat 4)], Int.ofNat 0), ([(4, Int.negSucc 0), (2, Int.negSucc 0), (1, Int.ofNat 4)], Int.ofNat 0)], [], [], [(1, (0, ([], 0), ([], 0), ([], 0)), m4_, []), (1, (0, ([], 0), ([], 0), ([], 0)), m148_, []), (1, (0, ([], 0), ([], 0), ([], 0)), m155_, i39_)], [(1, 2, ([], Int.ofNat 0), ([], Int.ofNat 3), ([(2, Int.ofNat 1)], Int.ofNat 0)), (1, 15, ([], Int.ofNat 0), ([], Int.ofNat 3), ([(2, Int.ofNat 1)], Int.ofNat 0)), (1, 15, ([], Int.ofNat 0), ([], Int.ofNat 8), ([(3, Int.ofNat 1)], Int.ofNat 0)), (1, 15, ([], Int.ofNat 0), ([], Int.ofNat 9), ([(4, Int.ofNat 1)], Int.ofNat 0)), (0, 113, ([], Int.ofNat 0), ([(1, Int.ofNat 1)], Int.ofNat 0), ([(5, Int.ofNat 1)], Int.ofNat 0)), (0, 113, ([], Int.ofNat 0), ([(1, Int.ofNat 1)], Int.ofNat 1), ([(7, Int.ofNat 1)], Int.ofNat 0)), (1, 112, ([], Int.ofNat 0), ([], Int.ofNat 0), ([(8, Int.ofNat 1)], Int.ofNat 0)), (2, 2, ([], Int.ofNat 0), ([], Int.ofNat 3), ([(2, Int.ofNat 1)], Int.ofNat 0)), (2, 112, ([], Int.ofNat 0), ([], Int.ofNat 0), ([(8, Int.ofNat 1)], Int.ofNat 0)), (1, 15, ([], Int.ofNat 0), ([], Int.ofNat 0), ([(9, Int.ofNat 1)], Int.ofNat 0)), (3, 15, ([], Int.ofNat 0), ([], Int.ofNat 3), ([(2, Int.ofNat 1)], Int.ofNat 0)), (3, 15, ([], Int.ofNat 0), ([], Int.ofNat 0), ([], Int.ofNat 1))], 0, 0), [(.inr (.iand), [([(5, Int.ofNat 1)], Int.ofNat 0), ([], Int.ofNat 15)], 0, 0, ([(6, Int.ofNat 1)], Int.ofNat 0)), (.inl 268, [([(7, Int.ofNat 1)], Int.ofNat 0), ([(2, Int.ofNat 1)], Int.ofNat 0), ([(8, Int.ofNat 1)], Int.ofNat 0)], 1, 0, ([], Int.ofNat 1)), (.inl 4, [([(7, Int.ofNat 1)], Int.ofNat 0), ([(2, Int.ofNat 1)], Int.ofNat 0), ([(9, Int.ofNat 1)], Int.ofNat 0)], 2, 0, ([], Int.ofNat 0))], [([(0, Int.ofNat 1)], Int.ofNat 0), ([(1, Int.ofNat 1)], Int.ofNat 6), ([(2, Int.ofNat 1)], Int.ofNat 0), ([(3, Int.ofNat 1)], Int.ofNat 0), ([(4, Int.ofNat 1)], Int.ofNat 0)])
noncomputable def qL_6 : zNx := (2, 0, ([(Int.ofNat 0, Int.ofNat 3072), (Int.ofNat 0, Int.ofNat 3072), (Int.ofNat 0, Int.ofNat 2000), (Int.ofNat 0, Int.ofNat 12288), (Int.ofNat 0, Int.ofNat 12288), (Int.negSucc 2147483647, Int.ofNat 2147483647), (Int.ofNat 1, Int.ofNat 1), (Int.negSucc 2147483647, Int.negSucc 0), (Int.negSucc 9223372036854775807, Int.ofNat 9223372036854775807), (Int.ofNat 0, Int.ofNat 3)], [([(1, Int.negSucc 0), (0, Int.ofNat 1)], Int.negSucc 5), ([(1, Int.negSucc 0), (0, Int.ofNat 1)], Int.ofNat 0), ([(3, Int.negSucc 0), (2, Int.negSucc 0), (1, Int.ofNat 4)], Int.ofNat 0), ([(4, Int.negSucc 0), (2, Int.negSucc 0), (1, Int.ofNat 4)], Int.ofNat 0)], [], [], [(1, (0, ([], 0), ([], 0), ([], 0)), m4_, []), (1, (0, ([], 0), ([], 0), ([], 0)), m148_, []), (1, (0, ([], 0), ([], 0), ([], 0)), m155_, i39_)], [(1, 2, ([], Int.ofNat 0), ([], Int.ofNat 3), ([(2, Int.ofNat 1)], Int.ofNat 0)), (1, 15, ([], Int.ofNat 0), ([], Int.ofNat 3), ([(2, Int.ofNat 1)], Int.ofNat 0)), (1, 15, ([], Int.ofNat 0), ([], Int.ofNat 8), ([(3, Int.ofNat 1)], Int.ofNat 0)), (1, 15, ([], Int.ofNat 0), ([], Int.ofNat 9), ([(4, Int.ofNat 1)], Int.ofNat 0)), (0, 113, ([], Int.ofNat 0), ([(1, Int.ofNat 1)], Int.ofNat 0), ([(5, Int.ofNat 1)], Int.ofNat 0)), (0, 113, ([], Int.ofNat 0), ([(1, Int.ofNat 1)], Int.ofNat 1), ([(7, Int.ofNat 1)], Int.ofNat 0)), (1, 112, ([], Int.ofNat 0), ([], Int.ofNat 0), ([(8, Int.ofNat 1)], Int.ofNat 0)), (2, 2, ([], Int.ofNat 0), ([], Int.ofNat 3), ([(2, Int.ofNat 1)], Int.ofNat 0)), (2, 112, ([], Int.ofNat 0), ([], Int.ofNat 0), ([(8, Int.ofNat 1)], Int.ofNat 0)), (1, 15, ([], Int.ofNat 0), ([], Int.ofNat 0), ([(9, Int.ofNat 1)], Int.ofNat 0)), (3, 15, ([], Int.ofNat 0), ([], Int.ofNat 3), ([(2, Int.ofNat 1)], Int.ofNat 0)), (3, 15, ([], Int.ofNat 0), ([], Int.ofNat 0), ([], Int.ofNat 1))], 0, 0), [(.inr (.iand), [([(5, Int.ofNat 1)], Int.ofNat 0), ([], Int.ofNat 15)], 0, 0, ([(6, Int.ofNat 1)], Int.ofNat 0)), (.inl 268, [([(7, Int.ofNat 1)], Int.ofNat 0), ([(2, Int.ofNat 1)], Int.ofNat 0), ([(8, Int.ofNat 1)], Int.ofNat 0)], 1, 0, ([], Int.ofNat 1)), (.inl 4, [([(7, Int.ofNat 1)], Int.ofNat 0), ([(2, Int.ofNat 1)], Int.ofNat 0), ([(9, Int.ofNat 1)], Int.ofNat 0)], 2, 0, ([], Int.ofNat 0))], [([(0, Int.ofNat 1)], Int.ofNat 0), ([(1, Int.ofNat 1)], Int.ofNat 6), ([(2, Int.ofNat 1)], Int.ofNat 0), ([(3, Int.ofNat 1)], Int.ofNat 0), ([(4, Int.ofNat 1)], Int.ofNat 0)])
noncomputable def qL_7 : zNx := (2, 0, ([(Int.ofNat 0, Int.ofNat 3072), (Int.ofNat 0, Int.ofNat 3072), (Int.ofNat 0, Int.ofNat 2000), (Int.ofNat 0, Int.ofNat 12288), (Int.ofNat 0, Int.ofNat 12288), (Int.negSucc 2147483647, Int.ofNat 2147483647), (Int.ofNat 2, Int.ofNat 2), (Int.ofNat 0, Int.ofNat 60), (Int.ofNat 0, Int.ofNat 60), (Int.ofNat 0, Int.ofNat 8), (Int.ofNat 0, Int.ofNat 2001), (Int.ofNat 0, Int.ofNat 60), (Int.ofNat 0, Int.ofNat 2), (Int.negSucc 0, Int.ofNat 19), (Int.ofNat 0, Int.ofNat 4), (Int.negSucc 0, Int.ofNat 7), (Int.ofNat 0, Int.ofNat 20), (Int.ofNat 0, Int.ofNat 400), (Int.ofNat 0, Int.ofNat 20), (Int.ofNat 0, Int.ofNat 400), (Int.negSucc 2147483647, Int.ofNat 2147483647), (Int.negSucc 2147483647, Int.ofNat 2147483647), (Int.negSucc 2147483647, Int.ofNat 2147483647), (Int.ofNat 0, Int.ofNat 8), (Int.ofNat 0, Int.ofNat 32), (Int.ofNat 0, Int.ofNat 5120), (Int.ofNat 0, Int.ofNat 8), (Int.ofNat 0, Int.ofNat 8), (Int.ofNat 0, Int.ofNat 4), (Int.negSucc 2147483647, Int.ofNat 2147483647), (Int.negSucc 0, Int.ofNat 3), (Int.ofNat 0, Int.ofNat 3), (Int.negSucc 2147483647, Int.ofNat 2147483647), (Int.negSucc 2147483647, Int.ofNat 2147483647), (Int.ofNat 0, Int.ofNat 60), (Int.ofNat 0, Int.ofNat 8), (Int.ofNat 0, Int.ofNat 2000), (Int.ofNat 0, Int.ofNat 0), (Int.negSucc 0, Int.ofNat 19), (Int.ofNat 0, Int.ofNat 4), (Int.negSucc 0, Int.ofNat 7), (Int.ofNat 0, Int.ofNat 20), (Int.ofNat 0, Int.ofNat 400), (Int.negSucc 2147483647, Int.ofNat 2147483647), (Int.negSucc 2147483647, Int.ofNat 2147483647), (Int.negSucc 2147483647, Int.ofNat 2147483647), (Int.ofNat 0, Int.ofNat 8), (Int.ofNat 0, Int.ofNat 32), (Int.ofNat 0, Int.ofNat 5120), (Int.ofNat 0, Int.ofNat 8), (Int.ofNat 0, Int.ofNat 8), (Int.ofNat 0, Int.ofNat 4), (Int.negSucc 2147483647, Int.ofNat 2147483647), (Int.negSucc 0, Int.ofNat 3), (Int.ofNat 0, Int.ofNat 3), (Int.negSucc 2147483647, Int.ofNat 2147483647), (Int.ofNat 0, Int.ofNat 2000), (Int.ofNat 0, Int.ofNat 2000), (Int.ofNat 0, Int.ofNat 60), (Int.ofNat 0, Int.ofNat 400), (Int.ofNat 0, Int.ofNat 400), (Int.ofNat 0, Int.ofNat 60), (Int.ofNat 0, Int.ofNat 20), (Int.ofNat 0, Int.ofNat 20), (Int.ofNat 0, Int.ofNat 3), (Int.ofNat 0, Int.ofNat 2000), (Int.ofNat 0, Int.ofNat 2000), (Int.ofNat 0, Int.ofNat 2000), (Int.ofNat 0, Int.ofNat 3), (Int.ofNat 0, Int.ofNat 61), (Int.negSucc 2147483647, Int.ofNat 2147483647), (Int.ofNat 0, Int.ofNat 2000), (Int.ofNat 0, Int.ofNat 12), (Int.ofNat 0, Int.ofNat 4), (Int.ofNat 0, Int.ofNat 4), (Int.negSucc 0, Int.ofNat 7), (Int.ofNat 0, Int.ofNat 64), (Int.ofNat 0, Int.ofNat 50001), (Int.negSucc 2000, Int.ofNat 2000), (Int.ofNat 0, Int.ofNat 12288), (Int.ofNat 0, Int.ofNat 12288), (Int.ofNat 0, Int.ofNat 0), (Int.ofNat 0, Int.ofNat 2000), (Int.ofNat 0, Int.ofNat 60), (Int.ofNat 0, Int.ofNat 400), (Int.ofNat 0, Int.ofNat 400), (Int.ofNat 0, Int.ofNat 60), (Int.ofNat 0, Int.ofNat 20), (Int.ofNat 0, Int.ofNat 20), (Int.ofNat 0, Int.ofNat 0), (Int.ofNat 0, Int.ofNat 2000), (Int.ofNat 0, Int.ofNat 2000), (Int.ofNat 0, Int.ofNat 2000), (Int.ofNat 0, Int.ofNat 3), (Int.ofNat 0, Int.ofNat 61), (Int.negSucc 2147483647, Int.ofNat 2147483647), (Int.ofNat 0, Int.ofNat 2000), (Int.ofNat 0, Int.ofNat 12), (Int.ofNat 0, Int.ofNat 4), (Int.ofNat 0, Int.ofNat 4), (Int.negSucc 0, Int.ofNat 7), (Int.ofNat 0, Int.ofNat 64), (Int.ofNat 0, Int.ofNat 50001)], [([(3, Int.negSucc 0), (2, Int.negSucc 0)], Int.ofNat 12288), ([(4, Int.negSucc 0), (2, Int.negSucc 0)], Int.ofNat 12288), ([(79, Int.ofNat 1), (3, Int.negSucc 0)], Int.ofNat 0), ([(80, Int.ofNat 1), (4, Int.negSucc 0)], Int.ofNat 0), ([(82, Int.ofNat 1), (78, Int.negSucc 0)], Int.ofNat 0), ([(83, Int.ofNat 1), (58, Int.negSucc 0)], Int.ofNat 0), ([(84, Int.ofNat 1), (59, Int.negSucc 0)], Int.ofNat 0), ([(88, Int.negSucc 0), (87, Int.ofNat 1)], Int.ofNat 0), ([(87, Int.ofNat 1), (62, Int.negSucc 0)], Int.ofNat 0), ([(88, Int.ofNat 1), (87, Int.negSucc 0)], Int.ofNat 0), ([(78, Int.negSucc 0), (2, Int.ofNat 1)], Int.ofNat 0), ([(82, Int.negSucc 0), (2, Int.ofNat 1)], Int.ofNat 0), ([(102, Int.negSucc 0), (77, Int.ofNat 1)], Int.ofNat 0), ([(82, Int.ofNat 1), (79, Int.negSucc 0), (3, Int.ofNat 1)], Int.ofNat 0), ([(82, Int.ofNat 1), (80, Int.negSucc 0), (4, Int.ofNat 1)], Int.ofNat 0), ([(81, Int.negSucc 0), (79, Int.negSucc 0), (3, Int.ofNat 1), (2, Int.ofNat 1)], Int.ofNat 0), ([(81, Int.negSucc 0), (80, Int.negSucc 0), (4, Int.ofNat 1), (2, Int.ofNat 1)], Int.ofNat 0), ([(34, Int.ofNat 1), (7, Int.negSucc 0)], Int.ofNat 0), ([(41, Int.ofNat 1), (16, Int.negSucc 0)], Int.ofNat 0), ([(42, Int.ofNat 1), (17, Int.negSucc 0)], Int.ofNat 0), ([(48, Int.ofNat 1), (25, Int.negSucc 0)], Int.ofNat 0), ([(1, Int.negSucc 0), (0, Int.ofNat 1)], Int.negSucc 5), ([(1, Int.negSucc 0), (0, Int.ofNat 1)], Int.ofNat 0), ([(3, Int.negSucc 0), (2, Int.negSucc 0), (1, Int.ofNat 4)], Int.ofNat 0), ([(4, Int.negSucc 0), (2, Int.negSucc 0), (1, Int.ofNat 4)], Int.ofNat 0)], [], [], [(1, (0, ([], 0), ([], 0), ([], 0)), m33_, i8_), (1, (0, ([], 0), ([], 0), ([], 0)), m112_, i32_), (1, (0, ([], 0), ([], 0), ([], 0)), m155_, i39_)], [(1, 2, ([], Int.ofNat 0), ([], Int.ofNat 3), ([(2, Int.ofNat 1)], Int.ofNat 0)), (1, 15, ([], Int.ofNat 0), ([], Int.ofNat 3), ([(2, Int.ofNat 1)], Int.ofNat 0)), (1, 15, ([], Int.ofNat 0), ([], Int.ofNat 8), ([(3, Int.ofNat 1)], Int.ofNat 0)), (1, 15, ([], Int.ofNat 0), ([], Int.ofNat 9), ([(4, Int.ofNat 1)], Int.ofNat 0)), (0, 113, ([], Int.ofNat 0), ([(1, Int.ofNat 1)], Int.ofNat 0), ([(5, Int.ofNat 1)], Int.ofNat 0)), (1, 1, ([], Int.ofNat 0), ([], Int.ofNat 10), ([(7, Int.ofNat 1)], Int.ofNat 0)), (1, 40, ([], Int.ofNat 0), ([(7, Int.ofNat 1)], Int.ofNat 0), ([(8, Int.ofNat 1)], Int.ofNat 0)), (1, 9, ([(8, Int.ofNat 1)], Int.ofNat 0), ([], Int.ofNat 2), ([(9, Int.ofNat 1)], Int.ofNat 0)), (1, 2, ([], Int.ofNat 0), ([], Int.ofNat 6), ([(10, Int.ofNat 1)], Int.ofNat 0)), (1, 1, ([], Int.ofNat 0), ([], Int.ofNat 13), ([(11, Int.ofNat 1)], Int.ofNat 0)), (1, 2, ([], Int.ofNat 0), ([], Int.ofNat 7), ([(12, Int.ofNat 1)], Int.ofNat 0)), (1, 10, ([(8, Int.ofNat 9)], Int.ofNat 0), ([], Int.ofNat 8), ([(13, Int.ofNat 1)], Int.ofNat 0)), (1, 10, ([(8, Int.ofNat 9)], Int.ofNat 0), ([], Int.ofNat 12), ([(14, Int.ofNat 1)], Int.ofNat 0)), (1, 10, ([(8, Int.ofNat 9)], Int.ofNat 0), ([], Int.ofNat 14), ([(15, Int.ofNat 1)], Int.ofNat 0)), (1, 1, ([], Int.ofNat 0), ([], Int.ofNat 7), ([(16, Int.ofNat 1)], Int.ofNat 0)), (1, 1, ([], Int.ofNat 0), ([], Int.ofNat 9), ([(17, Int.ofNat 1)], Int.ofNat 0)), (1, 1, ([], Int.ofNat 0), ([], Int.ofNat 11), ([(18, Int.ofNat 1)], Int.ofNat 0)), (1, 1, ([], Int.ofNat 0), ([], Int.ofNat 12), ([(19, Int.ofNat 1)], Int.ofNat 0)), (1, 2, ([], Int.ofNat 0), ([], Int.ofNat 4), ([(20, Int.ofNat 1)], Int.ofNat 0)), (1, 2, ([], Int.ofNat 0), ([], Int.ofNat 5), ([(21, Int.ofNat 1)], Int.ofNat 0)), (1, 2, ([], Int.ofNat 0), ([], Int.ofNat 9), ([(22, Int.ofNat 1)], Int.ofNat 0)), (1, 2, ([], Int.ofNat 0), ([], Int.ofNat 13), ([(23, Int.ofNat 1)], Int.ofNat 0)), (1, 2, ([], Int.ofNat 0), ([], Int.ofNat 16), ([(24, Int.ofNat 1)], Int.ofNat 0)), (1, 3, ([], Int.ofNat 0), ([], Int.ofNat 1), ([(25, Int.ofNat 1)], Int.ofNat 0)), (1, 9, ([(8, Int.ofNat 1)], Int.ofNat 0), ([], Int.ofNat 3), ([(26, Int.ofNat 1)], Int.ofNat 0)), (1, 10, ([(8, Int.ofNat 9)], Int.ofNat 0), ([], Int.ofNat 4), ([(27, Int.ofNat 1)], Int.ofNat 0)), (1, 10, ([(8, Int.ofNat 9)], Int.ofNat 0), ([], Int.ofNat 5), ([(28, Int.ofNat 1)], Int.ofNat 0)), (1, 10, ([(8, Int.ofNat 9)], Int.ofNat 0), ([], Int.ofNat 7), ([(29, Int.ofNat 1)], Int.ofNat 0)), (1, 10, ([(8, Int.ofNat 9)], Int.ofNat 0), ([], Int.ofNat 9), ([(30, Int.ofNat 1)], Int.ofNat 0)), (1, 10, ([(8, Int.ofNat 9)], Int.ofNat 0), ([], Int.ofNat 13), ([(31, Int.ofNat 1)], Int.ofNat 0)), (1, 10, ([(8, Int.ofNat 9)], Int.ofNat 0), ([], Int.ofNat 15), ([(32, Int.ofNat 1)], Int.ofNat 0)), (2, 1, ([], Int.ofNat 0), ([], Int.ofNat 10), ([(34, Int.ofNat 1)], Int.ofNat 0)), (2, 9, ([(8, Int.ofNat 1)], Int.ofNat 0), ([], Int.ofNat 2), ([(35, Int.ofNat 1)], Int.ofNat 0)), (2, 2, ([], Int.ofNat 0), ([], Int.ofNat 6), ([(36, Int.ofNat 1)], Int.ofNat 0)), (2, 2, ([], Int.ofNat 0), ([], Int.ofNat 3), ([], Int.ofNat 0)), (2, 1, ([], Int.ofNat 0), ([], Int.ofNat 13), ([(7, Int.ofNat 1)], Int.ofNat 0)), (2, 2, ([], Int.ofNat 0), ([], Int.ofNat 7), ([(37, Int.ofNat 1)], Int.ofNat 0)), (2, 10, ([(8, Int.ofNat 9)], Int.ofNat 0), ([], Int.ofNat 8), ([(38, Int.ofNat 1)], Int.ofNat 0)), (2, 10, ([(8, Int.ofNat 9)], Int.ofNat 0), ([], Int.ofNat 12), ([(39, Int.ofNat 1)], Int.ofNat 0)), (2, 10, ([(8, Int.ofNat 9)], Int.ofNat 0), ([], Int.ofNat 14), ([(40, Int.ofNat 1)], Int.ofNat 0)), (2, 1, ([], Int.ofNat 0), ([], Int.ofNat 7), ([(41, Int.ofNat 1)], Int.ofNat 0)), (2, 1, ([], Int.ofNat 0), ([], Int.ofNat 9), ([(42, Int.ofNat 1)], Int.ofNat 0)), (2, 1, ([], Int.ofNat 0), ([], Int.ofNat 11), ([(16, Int.ofNat 1)], Int.ofNat 0)), (2, 1, ([], Int.ofNat 0), ([], Int.ofNat 12), ([(17, Int.ofNat 1)], Int.ofNat 0)), (2, 2, ([], Int.ofNat 0), ([], Int.ofNat 4), ([(43, Int.ofNat 1)], Int.ofNat 0)), (2, 2, ([], Int.ofNat 0), ([], Int.ofNat 5), ([(44, Int.ofNat 1)], Int.ofNat 0)), (2, 2, ([], Int.ofNat 0), ([], Int.ofNat 9), ([(45, Int.ofNat 1)], Int.ofNat 0)), (2, 2, ([], Int.ofNat 0), ([], Int.ofNat 13), ([(46, Int.ofNat 1)], Int.ofNat 0)), (2, 2, ([], Int.ofNat 0), ([], Int.ofNat 16), ([(47, Int.ofNat 1)], Int.ofNat 0)), (2, 3, ([], Int.ofNat 0), ([], Int.ofNat 1), ([(48, Int.ofNat 1)], Int.ofNat 0)), (2, 9, ([(8, Int.ofNat 1)], Int.ofNat 0), ([], Int.ofNat 3), ([(49, Int.ofNat 1)], Int.ofNat 0)), (2, 10, ([(8, Int.ofNat 9)], Int.ofNat 0), ([], Int.ofNat 4), ([(50, Int.ofNat 1)], Int.ofNat 0)), (2, 10, ([(8, Int.ofNat 9)], Int.ofNat 0), ([], Int.ofNat 5), ([(51, Int.ofNat 1)], Int.ofNat 0)), (2, 10, ([(8, Int.ofNat 9)], Int.ofNat 0), ([], Int.ofNat 7), ([(52, Int.ofNat 1)], Int.ofNat 0)), (2, 10, ([(8, Int.ofNat 9)], Int.ofNat 0), ([], Int.ofNat 9), ([(53, Int.ofNat 1)], Int.ofNat 0)), (2, 10, ([(8, Int.ofNat 9)], Int.ofNat 0), ([], Int.ofNat 13), ([(54, Int.ofNat 1)], Int.ofNat 0)), (2, 10, ([(8, Int.ofNat 9)], Int.ofNat 0), ([], Int.ofNat 15), ([(55, Int.ofNat 1)], Int.ofNat 0)), (1, 15, ([], Int.ofNat 0), ([], Int.ofNat 35), ([(56, Int.ofNat 1)], Int.ofNat 0)), (1, 15, ([], Int.ofNat 0), ([], Int.ofNat 34), ([(57, Int.ofNat 1)], Int.ofNat 0)), (1, 15, ([], Int.ofNat 0), ([], Int.ofNat 32), ([(58, Int.ofNat 1)], Int.ofNat 0)), (1, 15, ([], Int.ofNat 0), ([], Int.ofNat 17), ([(59, Int.ofNat 1)], Int.ofNat 0)), (1, 15, ([], Int.ofNat 0), ([], Int.ofNat 18), ([(60, Int.ofNat 1)], Int.ofNat 0)), (1, 15, ([], Int.ofNat 0), ([], Int.ofNat 33), ([(61, Int.ofNat 1)], Int.ofNat 0)), (1, 15, ([], Int.ofNat 0), ([], Int.ofNat 13), ([(62, Int.ofNat 1)], Int.ofNat 0)), (1, 15, ([], Int.ofNat 0), ([], Int.ofNat 14), ([(63, Int.ofNat 1)], Int.ofNat 0)), (1, 15, ([], Int.ofNat 0), ([], Int.ofNat 0), ([(64, Int.ofNat 1)], Int.ofNat 0)), (1, 15, ([], Int.ofNat 0), ([], Int.ofNat 36), ([(65, Int.ofNat 1)], Int.ofNat 0)), (1, 15, ([], Int.ofNat 0), ([], Int.ofNat 37), ([(66, Int.ofNat 1)], Int.ofNat 0)), (1, 15, ([], Int.ofNat 0), ([], Int.ofNat 38), ([(67, Int.ofNat 1)], Int.ofNat 0)), (1, 15, ([], Int.ofNat 0), ([], Int.ofNat 40), ([(68, Int.ofNat 1)], Int.ofNat 0)), (1, 15, ([], Int.ofNat 0), ([], Int.ofNat 44), ([(69, Int.ofNat 1)], Int.ofNat 0)), (1, 15, ([], Int.ofNat 0), ([], Int.ofNat 45), ([(70, Int.ofNat 1)], Int.ofNat 0)), (1, 15, ([], Int.ofNat 0), ([], Int.ofNat 46), ([(71, Int.ofNat 1)], Int.ofNat 0)), (1, 15, ([], Int.ofNat 0), ([], Int.ofNat 47), ([(72, Int.ofNat 1)], Int.ofNat 0)), (1, 15, ([], Int.ofNat 0), ([], Int.ofNat 48), ([(73, Int.ofNat 1)], Int.ofNat 0)), (1, 15, ([], Int.ofNat 0), ([], Int.ofNat 49), ([(74, Int.ofNat 1)], Int.ofNat 0)), (1, 15, ([], Int.ofNat 0), ([], Int.ofNat 50), ([(75, Int.ofNat 1)], Int.ofNat 0)), (1, 15, ([], Int.ofNat 0), ([], Int.ofNat 58), ([(76, Int.ofNat 1)], Int.ofNat 0)), (1, 15, ([], Int.ofNat 0), ([], Int.ofNat 93), ([(77, Int.ofNat 1)], Int.ofNat 0)), (3, 15, ([], Int.ofNat 0), ([], Int.ofNat 8), ([(79, Int.ofNat 1)], Int.ofNat 0)), (3, 15, ([], Int.ofNat 0), ([], Int.ofNat 9), ([(80, Int.ofNat 1)], Int.ofNat 0)), (3, 15, ([], Int.ofNat 0), ([], Int.ofNat 3), ([(81, Int.ofNat 1)], Int.ofNat 0)), (3, 15, ([], Int.ofNat 0), ([], Int.ofNat 35), ([(82, Int.ofNat 1)], Int.ofNat 0)), (3, 15, ([], Int.ofNat 0), ([], Int.ofNat 34), ([(2, Int.ofNat 1)], Int.ofNat 0)), (3, 15, ([], Int.ofNat 0), ([], Int.ofNat 32), ([(83, Int.ofNat 1)], Int.ofNat 0)), (3, 15, ([], Int.ofNat 0), ([], Int.ofNat 17), ([(84, Int.ofNat 1)], Int.ofNat 0)), (3, 15, ([], Int.ofNat 0), ([], Int.ofNat 18), ([(85, Int.ofNat 1)], Int.ofNat 0)), (3, 15, ([], Int.ofNat 0), ([], Int.ofNat 33), ([(86, Int.ofNat 1)], Int.ofNat 0)), (3, 15, ([], Int.ofNat 0), ([], Int.ofNat 13), ([(87, Int.ofNat 1)], Int.ofNat 0)), (3, 15, ([], Int.ofNat 0), ([], Int.ofNat 14), ([(88, Int.ofNat 1)], Int.ofNat 0)), (3, 15, ([], Int.ofNat 0), ([], Int.ofNat 0), ([(89, Int.ofNat 1)], Int.ofNat 0)), (3, 15, ([], Int.ofNat 0), ([], Int.ofNat 36), ([(90, Int.ofNat 1)], Int.ofNat 0)), (3, 15, ([], Int.ofNat 0), ([], Int.ofNat 37), ([(91, Int.ofNat 1)], Int.ofNat 0)), (3, 15, ([], Int.ofNat 0), ([], Int.ofNat 38), ([(92, Int.ofNat 1)], Int.ofNat 0)), (3, 15, ([], Int.ofNat 0), ([], Int.ofNat 40), ([(93, Int.ofNat 1)], Int.ofNat 0)), (3, 15, ([], Int.ofNat 0), ([], Int.ofNat 44), ([(94, Int.ofNat 1)], Int.ofNat 0)), (3, 15, ([], Int.ofNat 0), ([], Int.ofNat 45), ([(95, Int.ofNat 1)], Int.ofNat 0)), (3, 15, ([], Int.ofNat 0), ([], Int.ofNat 46), ([(96, Int.ofNat 1)], Int.ofNat 0)), (3, 15, ([], Int.ofNat 0), ([], Int.ofNat 47), ([(97, Int.ofNat 1)], Int.ofNat 0)), (3, 15, ([], Int.ofNat 0), ([], Int.ofNat 48), ([(98, Int.ofNat 1)], Int.ofNat 0)), (3, 15, ([], Int.ofNat 0), ([], Int.ofNat 49), ([(99, Int.ofNat 1)], Int.ofNat 0)), (3, 15, ([], Int.ofNat 0), ([], Int.ofNat 50), ([(100, Int.ofNat 1)], Int.ofNat 0)), (3, 15, ([], Int.ofNat 0), ([], Int.ofNat 58), ([(101, Int.ofNat 1)], Int.ofNat 0)), (3, 15, ([], Int.ofNat 0), ([], Int.ofNat 93), ([(102, Int.ofNat 1)], Int.ofNat 0))], 0, 0), [(.inr (.iand), [([(5, Int.ofNat 1)], Int.ofNat 0), ([], Int.ofNat 15)], 0, 0, ([(6, Int.ofNat 1)], Int.ofNat 0)), (.inl 166, [([(7, Int.ofNat 1)], Int.ofNat 0), ([(8, Int.ofNat 1)], Int.ofNat 0), ([(9, Int.ofNat 1)], Int.ofNat 0), ([(10, Int.ofNat 1)], Int.ofNat 0), ([(2, Int.ofNat 1)], Int.ofNat 0), ([(11, Int.ofNat 1)], Int.ofNat 0), ([(12, Int.ofNat 1)], Int.ofNat 0), ([(13, Int.ofNat 1)], Int.ofNat 0), ([(14, Int.ofNat 1)], Int.ofNat 0), ([(15, Int.ofNat 1)], Int.ofNat 0), ([(16, Int.ofNat 1)], Int.ofNat 0), ([(17, Int.ofNat 1)], Int.ofNat 0), ([(18, Int.ofNat 1)], Int.ofNat 0), ([(19, Int.ofNat 1)], Int.ofNat 0), ([(20, Int.ofNat 1)], Int.ofNat 0), ([(21, Int.ofNat 1)], Int.ofNat 0), ([(22, Int.ofNat 1)], Int.ofNat 0), ([(23, Int.ofNat 1)], Int.ofNat 0), ([(24, Int.ofNat 1)], Int.ofNat 0), ([(25, Int.ofNat 1)], Int.ofNat 0), ([(26, Int.ofNat 1)], Int.ofNat 0), ([(27, Int.ofNat 1)], Int.ofNat 0), ([(28, Int.ofNat 1)], Int.ofNat 0), ([(29, Int.ofNat 1)], Int.ofNat 0), ([(30, Int.ofNat 1)], Int.ofNat 0), ([(31, Int.ofNat 1)], Int.ofNat 0), ([(32, Int.ofNat 1)], Int.ofNat 0)], 1, 0, ([(33, Int.ofNat 1)], Int.ofNat 0)), (.inl 51, [([(3, Int.ofNat 1)], Int.ofNat 0), ([(4, Int.ofNat 1)], Int.ofNat 0), ([(2, Int.ofNat 1)], Int.ofNat 0), ([(56, Int.ofNat 1)], Int.ofNat 0), ([(57, Int.ofNat 1)], Int.ofNat 0), ([(58, Int.ofNat 1)], Int.ofNat 0), ([(59, Int.ofNat 1)], Int.ofNat 0), ([(60, Int.ofNat 1)], Int.ofNat 0), ([(61, Int.ofNat 1)], Int.ofNat 0), ([(62, Int.ofNat 1)], Int.ofNat 0), ([(63, Int.ofNat 1)], Int.ofNat 0), ([(64, Int.ofNat 1)], Int.ofNat 0), ([(65, Int.ofNat 1)], Int.ofNat 0), ([(66, Int.ofNat 1)], Int.ofNat 0), ([(67, Int.ofNat 1)], Int.ofNat 0), ([(68, Int.ofNat 1)], Int.ofNat 0), ([(69, Int.ofNat 1)], Int.ofNat 0), ([(70, Int.ofNat 1)], Int.ofNat 0), ([(71, Int.ofNat 1)], Int.ofNat 0), ([(72, Int.ofNat 1)], Int.ofNat 0), ([(73, Int.ofNat 1)], Int.ofNat 0), ([(74, Int.ofNat 1)], Int.ofNat 0), ([(75, Int.ofNat 1)], Int.ofNat 0), ([(76, Int.ofNat 1)], Int.ofNat 0), ([(77, Int.ofNat 1)], Int.ofNat 0)], 2, 0, ([(78, Int.ofNat 1)], Int.ofNat 0))], [([(0, Int.ofNat 1)], Int.ofNat 0), ([(1, Int.ofNat 1)], Int.ofNat 6), ([], Int.ofNat 0), ([(79, Int.ofNat 1)], Int.ofNat 0), ([(80, Int.ofNat 1)], Int.ofNat 0)])
noncomputable def qL_8 : zNx := (2, 0, ([(Int.ofNat 0, Int.ofNat 3072), (Int.ofNat 0, Int.ofNat 3072), (Int.ofNat 0, Int.ofNat 2000), (Int.ofNat 0, Int.ofNat 12288), (Int.ofNat 0, Int.ofNat 12288), (Int.negSucc 2147483647, Int.ofNat 2147483647), (Int.ofNat 3, Int.ofNat 3), (Int.ofNat 0, Int.ofNat 60), (Int.ofNat 0, Int.ofNat 60), (Int.ofNat 0, Int.ofNat 8), (Int.ofNat 0, Int.ofNat 2001), (Int.ofNat 0, Int.ofNat 2), (Int.ofNat 0, Int.ofNat 20), (Int.ofNat 0, Int.ofNat 400), (Int.negSucc 2147483647, Int.ofNat 2147483647), (Int.negSucc 2147483647, Int.ofNat 2147483647), (Int.negSucc 2147483647, Int.ofNat 2147483647), (Int.ofNat 0, Int.ofNat 8), (Int.ofNat 0, Int.ofNat 32), (Int.ofNat 0, Int.ofNat 5120), (Int.ofNat 0, Int.ofNat 8), (Int.ofNat 0, Int.ofNat 8), (Int.ofNat 0, Int.ofNat 4), (Int.negSucc 2147483647, Int.ofNat 2147483647), (Int.negSucc 0, Int.ofNat 19), (Int.negSucc 0, Int.ofNat 3), (Int.ofNat 0, Int.ofNat 4), (Int.ofNat 0, Int.ofNat 3), (Int.negSucc 0, Int.ofNat 7), (Int.negSucc 2147483647, Int.ofNat 2147483647), (Int.negSucc 2147483647, Int.ofNat 2147483647), (Int.ofNat 0, Int.ofNat 2000), (Int.ofNat 0, Int.ofNat 20), (Int.ofNat 0, Int.ofNat 400), (Int.negSucc 2147483647, Int.ofNat 2147483647), (Int.negSucc 2147483647, Int.ofNat 2147483647), (Int.negSucc 2147483647, Int.ofNat 2147483647), (Int.ofNat 0, Int.ofNat 8), (Int.ofNat 0, Int.ofNat 32), (Int.ofNat 0, Int.ofNat 5120), (Int.ofNat 0, Int.ofNat 8), (Int.ofNat 0, Int.ofNat 4), (Int.negSucc 2147483647, Int.ofNat 2147483647), (Int.negSucc 0, Int.ofNat 19), (Int.negSucc 0, Int.ofNat 3), (Int.ofNat 0, Int.ofNat 4), (Int.ofNat 0, Int.ofNat 3), (Int.negSucc 0, Int.ofNat 7), (Int.negSucc 2147483647, Int.ofNat 2147483647), (Int.ofNat 0, Int.ofNat 3), (Int.ofNat 0, Int.ofNat 20), (Int.ofNat 0, Int.ofNat 20), (Int.ofNat 0, Int.ofNat 400), (Int.ofNat 0, Int.ofNat 2000), (Int.ofNat 0, Int.ofNat 2000), (Int.ofNat 0, Int.ofNat 2000), (Int.ofNat 0, Int.ofNat 2000), (Int.ofNat 0, Int.ofNat 2000), (Int.ofNat 0, Int.ofNat 3), (Int.ofNat 0, Int.ofNat 61), (Int.negSucc 2147483647, Int.ofNat 2147483647), (Int.ofNat 0, Int.ofNat 2000), (Int.ofNat 0, Int.ofNat 12), (Int.ofNat 0, Int.ofNat 4), (Int.ofNat 0, Int.ofNat 4), (Int.negSucc 0, Int.ofNat 7), (Int.ofNat 0, Int.ofNat 64), (Int.ofNat 0, Int.ofNat 50001), (Int.negSucc 2000, Int.ofNat 1), (Int.ofNat 0, Int.ofNat 12288), (Int.ofNat 0, Int.ofNat 12288), (Int.ofNat 0, Int.ofNat 0), (Int.ofNat 0, Int.ofNat 0), (Int.ofNat 0, Int.ofNat 400), (Int.ofNat 0, Int.ofNat 2000), (Int.ofNat 0, Int.ofNat 2000), (Int.ofNat 0, Int.ofNat 2000), (Int.ofNat 0, Int.ofNat 2000), (Int.ofNat 0, Int.ofNat 3), (Int.ofNat 61, Int.ofNat 61), (Int.ofNat 0, Int.ofNat 0), (Int.ofNat 0, Int.ofNat 2000), (Int.ofNat 0, Int.ofNat 12), (Int.ofNat 0, Int.ofNat 4), (Int.ofNat 0, Int.ofNat 4), (Int.negSucc 0, Int.ofNat 7), (Int.ofNat 0, Int.ofNat 1), (Int.ofNat 0, Int.ofNat 50001)], [([(3, Int.negSucc 0), (2, Int.negSucc 0)], Int.ofNat 12288), ([(4, Int.negSucc 0), (2, Int.negSucc 0)], Int.ofNat 12288), ([(69, Int.ofNat 1), (3, Int.negSucc 0)], Int.ofNat 0), ([(70, Int.ofNat 1), (4, Int.negSucc 0)], Int.ofNat 0), ([(74, Int.ofNat 1), (68, Int.negSucc 0)], Int.negSucc 0), ([(86, Int.negSucc 0), (74, Int.ofNat 1)], Int.ofNat 0), ([(82, Int.ofNat 1), (68, Int.negSucc 0)], Int.ofNat 0), ([(86, Int.negSucc 0), (82, Int.ofNat 1)], Int.ofNat 0), ([(86, Int.negSucc 0), (83, Int.ofNat 1)], Int.ofNat 0), ([(86, Int.negSucc 0), (84, Int.ofNat 1)], Int.ofNat 0), ([(68, Int.negSucc 0), (2, Int.ofNat 1)], Int.negSucc 0), ([(74, Int.negSucc 0), (2, Int.ofNat 1)], Int.ofNat 0), ([(68, Int.negSucc 0), (50, Int.ofNat 1)], Int.ofNat 0), ([(68, Int.negSucc 0), (52, Int.ofNat 1)], Int.ofNat 0), ([(73, Int.negSucc 0), (52, Int.ofNat 1)], Int.ofNat 0), ([(87, Int.negSucc 0), (67, Int.ofNat 1)], Int.ofNat 0), ([(69, Int.negSucc 0), (3, Int.ofNat 1), (2, Int.ofNat 1)], Int.ofNat 0), ([(70, Int.negSucc 0), (4, Int.ofNat 1), (2, Int.ofNat 1)], Int.ofNat 0), ([(32, Int.ofNat 1), (12, Int.negSucc 0)], Int.ofNat 0), ([(39, Int.ofNat 1), (19, Int.negSucc 0)], Int.ofNat 0), ([(33, Int.negSucc 0), (13, Int.ofNat 1)], Int.ofNat 0), ([(40, Int.negSucc 0), (21, Int.ofNat 1)], Int.ofNat 0), ([(1, Int.negSucc 0), (0, Int.ofNat 1)], Int.negSucc 5), ([(1, Int.negSucc 0), (0, Int.ofNat 1)], Int.ofNat 0), ([(3, Int.negSucc 0), (2, Int.negSucc 0), (1, Int.ofNat 4)], Int.ofNat 0), ([(4, Int.negSucc 0), (2, Int.negSucc 0), (1, Int.ofNat 4)], Int.ofNat 0)], [], [], [(1, (0, ([], 0), ([], 0), ([], 0)), m35_, i10_), (1, (0, ([], 0), ([], 0), ([], 0)), m114_, i32_), (1, (0, ([], 0), ([], 0), ([], 0)), m155_, i39_)], [(1, 2, ([], Int.ofNat 0), ([], Int.ofNat 3), ([(2, Int.ofNat 1)], Int.ofNat 0)), (1, 15, ([], Int.ofNat 0), ([], Int.ofNat 3), ([(2, Int.ofNat 1)], Int.ofNat 0)), (1, 15, ([], Int.ofNat 0), ([], Int.ofNat 8), ([(3, Int.ofNat 1)], Int.ofNat 0)), (1, 15, ([], Int.ofNat 0), ([], Int.ofNat 9), ([(4, Int.ofNat 1)], Int.ofNat 0)), (0, 113, ([], Int.ofNat 0), ([(1, Int.ofNat 1)], Int.ofNat 0), ([(5, Int.ofNat 1)], Int.ofNat 0)), (1, 1, ([], Int.ofNat 0), ([], Int.ofNat 10), ([(7, Int.ofNat 1)], Int.ofNat 0)), (1, 40, ([], Int.ofNat 0), ([(7, Int.ofNat 1)], Int.ofNat 0), ([(8, Int.ofNat 1)], Int.ofNat 0)), (1, 9, ([(8, Int.ofNat 1)], Int.ofNat 0), ([], Int.ofNat 2), ([(9, Int.ofNat 1)], Int.ofNat 0)), (1, 2, ([], Int.ofNat 0), ([], Int.ofNat 6), ([(10, Int.ofNat 1)], Int.ofNat 0)), (1, 2, ([], Int.ofNat 0), ([], Int.ofNat 7), ([(11, Int.ofNat 1)], Int.ofNat 0)), (1, 1, ([], Int.ofNat 0), ([], Int.ofNat 7), ([(12, Int.ofNat 1)], Int.ofNat 0)), (1, 1, ([], Int.ofNat 0), ([], Int.ofNat 9), ([(13, Int.ofNat 1)], Int.ofNat 0)), (1, 2, ([], Int.ofNat 0), ([], Int.ofNat 4), ([(14, Int.ofNat 1)], Int.ofNat 0)), (1, 2, ([], Int.ofNat 0), ([], Int.ofNat 5), ([(15, Int.ofNat 1)], Int.ofNat 0)), (1, 2, ([], Int.ofNat 0), ([], Int.ofNat 9), ([(16, Int.ofNat 1)], Int.ofNat 0)), (1, 2, ([], Int.ofNat 0), ([], Int.ofNat 13), ([(17, Int.ofNat 1)], Int.ofNat 0)), (1, 2, ([], Int.ofNat 0), ([], Int.ofNat 16), ([(18, Int.ofNat 1)], Int.ofNat 0)), (1, 3, ([], Int.ofNat 0), ([], Int.ofNat 1), ([(19, Int.ofNat 1)], Int.ofNat 0)), (1, 9, ([(8, Int.ofNat 1)], Int.ofNat 0), ([], Int.ofNat 3), ([(20, Int.ofNat 1)], Int.ofNat 0)), (1, 10, ([(8, Int.ofNat 9)], Int.ofNat 0), ([], Int.ofNat 4), ([(21, Int.ofNat 1)], Int.ofNat 0)), (1, 10, ([(8, Int.ofNat 9)], Int.ofNat 0), ([], Int.ofNat 5), ([(22, Int.ofNat 1)], Int.ofNat 0)), (1, 10, ([(8, Int.ofNat 9)], Int.ofNat 0), ([], Int.ofNat 7), ([(23, Int.ofNat 1)], Int.ofNat 0)), (1, 10, ([(8, Int.ofNat 9)], Int.ofNat 0), ([], Int.ofNat 8), ([(24, Int.ofNat 1)], Int.ofNat 0)), (1, 10, ([(8, Int.ofNat 9)], Int.ofNat 0), ([], Int.ofNat 9), ([(25, Int.ofNat 1)], Int.ofNat 0)), (1, 10, ([(8, Int.ofNat 9)], Int.ofNat 0), ([], Int.ofNat 12), ([(26, Int.ofNat 1)], Int.ofNat 0)), (1, 10, ([(8, Int.ofNat 9)], Int.ofNat 0), ([], Int.ofNat 13), ([(27, Int.ofNat 1)], Int.ofNat 0)), (1, 10, ([(8, Int.ofNat 9)], Int.ofNat 0), ([], Int.ofNat 14), ([(28, Int.ofNat 1)], Int.ofNat 0)), (1, 10, ([(8, Int.ofNat 9)], Int.ofNat 0), ([], Int.ofNat 15), ([(29, Int.ofNat 1)], Int.ofNat 0)), (2, 9, ([(8, Int.ofNat 1)], Int.ofNat 0), ([], Int.ofNat 2), ([], Int.ofNat 0)), (2, 2, ([], Int.ofNat 0), ([], Int.ofNat 6), ([(31, Int.ofNat 1)], Int.ofNat 0)), (2, 2, ([], Int.ofNat 0), ([], Int.ofNat 3), ([], Int.ofNat 0)), (2, 2, ([], Int.ofNat 0), ([], Int.ofNat 7), ([], Int.ofNat 1)), (2, 1, ([], Int.ofNat 0), ([], Int.ofNat 7), ([(32, Int.ofNat 1)], Int.ofNat 0)), (2, 1, ([], Int.ofNat 0), ([], Int.ofNat 9), ([(33, Int.ofNat 1)], Int.ofNat 0)), (2, 2, ([], Int.ofNat 0), ([], Int.ofNat 4), ([(34, Int.ofNat 1)], Int.ofNat 0)), (2, 2, ([], Int.ofNat 0), ([], Int.ofNat 5), ([(35, Int.ofNat 1)], Int.ofNat 0)), (2, 2, ([], Int.ofNat 0), ([], Int.ofNat 9), ([(36, Int.ofNat 1)], Int.ofNat 0)), (2, 2, ([], Int.ofNat 0), ([], Int.ofNat 13), ([(37, Int.ofNat 1)], Int.ofNat 0)), (2, 2, ([], Int.ofNat 0), ([], Int.ofNat 16), ([(38, Int.ofNat 1)], Int.ofNat 0)), (2, 3, ([], Int.ofNat 0), ([], Int.ofNat 1), ([(39, Int.ofNat 1)], Int.ofNat 0)), (2, 9, ([(8, Int.ofNat 1)], Int.ofNat 0), ([], Int.ofNat 3), ([], Int.ofNat 0)), (2, 10, ([(8, Int.ofNat 9)], Int.ofNat 0), ([], Int.ofNat 4), ([(40, Int.ofNat 1)], Int.ofNat 0)), (2, 10, ([(8, Int.ofNat 9)], Int.ofNat 0), ([], Int.ofNat 5), ([(41, Int.ofNat 1)], Int.ofNat 0)), (2, 10, ([(8, Int.ofNat 9)], Int.ofNat 0), ([], Int.ofNat 7), ([(42, Int.ofNat 1)], Int.ofNat 0)), (2, 10, ([(8, Int.ofNat 9)], Int.ofNat 0), ([], Int.ofNat 8), ([(43, Int.ofNat 1)], Int.ofNat 0)), (2, 10, ([(8, Int.ofNat 9)], Int.ofNat 0), ([], Int.ofNat 9), ([(44, Int.ofNat 1)], Int.ofNat 0)), (2, 10, ([(8, Int.ofNat 9)], Int.ofNat 0), ([], Int.ofNat 12), ([(45, Int.ofNat 1)], Int.ofNat 0)), (2, 10, ([(8, Int.ofNat 9)], Int.ofNat 0), ([], Int.ofNat 13), ([(46, Int.ofNat 1)], Int.ofNat 0)), (2, 10, ([(8, Int.ofNat 9)], Int.ofNat 0), ([], Int.ofNat 14), ([(47, Int.ofNat 1)], Int.ofNat 0)), (2, 10, ([(8, Int.ofNat 9)], Int.ofNat 0), ([], Int.ofNat 15), ([(48, Int.ofNat 1)], Int.ofNat 0)), (1, 15, ([], Int.ofNat 0), ([], Int.ofNat 0), ([(49, Int.ofNat 1)], Int.ofNat 0)), (1, 15, ([], Int.ofNat 0), ([], Int.ofNat 13), ([(50, Int.ofNat 1)], Int.ofNat 0)), (1, 15, ([], Int.ofNat 0), ([], Int.ofNat 14), ([(51, Int.ofNat 1)], Int.ofNat 0)), (1, 15, ([], Int.ofNat 0), ([], Int.ofNat 17), ([(52, Int.ofNat 1)], Int.ofNat 0)), (1, 15, ([], Int.ofNat 0), ([], Int.ofNat 34), ([(53, Int.ofNat 1)], Int.ofNat 0)), (1, 15, ([], Int.ofNat 0), ([], Int.ofNat 35), ([(54, Int.ofNat 1)], Int.ofNat 0)), (1, 15, ([], Int.ofNat 0), ([], Int.ofNat 36), ([(55, Int.ofNat 1)], Int.ofNat 0)), (1, 15, ([], Int.ofNat 0), ([], Int.ofNat 37), ([(56, Int.ofNat 1)], Int.ofNat 0)), (1, 15, ([], Int.ofNat 0), ([], Int.ofNat 38), ([(57, Int.ofNat 1)], Int.ofNat 0)), (1, 15, ([], Int.ofNat 0), ([], Int.ofNat 40), ([(58, Int.ofNat 1)], Int.ofNat 0)), (1, 15, ([], Int.ofNat 0), ([], Int.ofNat 44), ([(59, Int.ofNat 1)], Int.ofNat 0)), (1, 15, ([], Int.ofNat 0), ([], Int.ofNat 45), ([(60, Int.ofNat 1)], Int.ofNat 0)), (1, 15, ([], Int.ofNat 0), ([], Int.ofNat 46), ([(61, Int.ofNat 1)], Int.ofNat 0)), (1, 15, ([], Int.ofNat 0), ([], Int.ofNat 47), ([(62, Int.ofNat 1)], Int.ofNat 0)), (1, 15, ([], Int.ofNat 0), ([], Int.ofNat 48), ([(63, Int.ofNat 1)], Int.ofNat 0)), (1, 15, ([], Int.ofNat 0), ([], Int.ofNat 49), ([(64, Int.ofNat 1)], Int.ofNat 0)), (1, 15, ([], Int.ofNat 0), ([], Int.ofNat 50), ([(65, Int.ofNat 1)], Int.ofNat 0)), (1, 15, ([], Int.ofNat 0), ([], Int.ofNat 58), ([(66, Int.ofNat 1)], Int.ofNat 0)), (1, 15, ([], Int.ofNat 0), ([], Int.ofNat 93), ([(67, Int.ofNat 1)], Int.ofNat 0)), (3, 15, ([], Int.ofNat 0), ([], Int.ofNat 8), ([(69, Int.ofNat 1)], Int.ofNat 0)), (3, 15, ([], Int.ofNat 0), ([], Int.ofNat 9), ([(70, Int.ofNat 1)], Int.ofNat 0)), (3, 15, ([], Int.ofNat 0), ([], Int.ofNat 3), ([(71, Int.ofNat 1)], Int.ofNat 0)), (3, 15, ([], Int.ofNat 0), ([], Int.ofNat 0), ([(72, Int.ofNat 1)], Int.ofNat 0)), (3, 15, ([], Int.ofNat 0), ([], Int.ofNat 14), ([(50, Int.ofNat 1)], Int.ofNat 0)), (3, 15, ([], Int.ofNat 0), ([], Int.ofNat 17), ([(73, Int.ofNat 1)], Int.ofNat 0)), (3, 15, ([], Int.ofNat 0), ([], Int.ofNat 34), ([(2, Int.ofNat 1)], Int.ofNat 0)), (3, 15, ([], Int.ofNat 0), ([], Int.ofNat 35), ([(74, Int.ofNat 1)], Int.ofNat 0)), (3, 15, ([], Int.ofNat 0), ([], Int.ofNat 36), ([(75, Int.ofNat 1)], Int.ofNat 0)), (3, 15, ([], Int.ofNat 0), ([], Int.ofNat 37), ([(76, Int.ofNat 1)], Int.ofNat 0)), (3, 15, ([], Int.ofNat 0), ([], Int.ofNat 38), ([(77, Int.ofNat 1)], Int.ofNat 0)), (3, 15, ([], Int.ofNat 0), ([], Int.ofNat 40), ([(78, Int.ofNat 1)], Int.ofNat 0)), (3, 15, ([], Int.ofNat 0), ([], Int.ofNat 44), ([(79, Int.ofNat 1)], Int.ofNat 0)), (3, 15, ([], Int.ofNat 0), ([], Int.ofNat 45), ([(80, Int.ofNat 1)], Int.ofNat 0)), (3, 15, ([], Int.ofNat 0), ([], Int.ofNat 46), ([(81, Int.ofNat 1)], Int.ofNat 0)), (3, 15, ([], Int.ofNat 0), ([], Int.ofNat 47), ([(82, Int.ofNat 1)], Int.ofNat 0)), (3, 15, ([], Int.ofNat 0), ([], Int.ofNat 48), ([(83, Int.ofNat 1)], Int.ofNat 0)), (3, 15, ([], Int.ofNat 0), ([], Int.ofNat 49), ([(84, Int.ofNat 1)], Int.ofNat 0)), (3, 15, ([], Int.ofNat 0), ([], Int.ofNat 50), ([(85, Int.ofNat 1)], Int.ofNat 0)), (3, 15, ([], Int.ofNat 0), ([], Int.ofNat 58), ([(86, Int.ofNat 1)], Int.ofNat 0)), (3, 15, ([], Int.ofNat 0), ([], Int.ofNat 93), ([(87, Int.ofNat 1)], Int.ofNat 0))], 0, 0), [(.inr (.iand), [([(5, Int.ofNat 1)], Int.ofNat 0), ([], Int.ofNat 15)], 0, 0, ([(6, Int.ofNat 1)], Int.ofNat 0)), (.inl 167, [([(7, Int.ofNat 1)], Int.ofNat 0), ([(8, Int.ofNat 1)], Int.ofNat 0), ([(9, Int.ofNat 1)], Int.ofNat 0), ([(10, Int.ofNat 1)], Int.ofNat 0), ([(2, Int.ofNat 1)], Int.ofNat 0), ([(11, Int.ofNat 1)], Int.ofNat 0), ([(12, Int.ofNat 1)], Int.ofNat 0), ([(13, Int.ofNat 1)], Int.ofNat 0), ([(14, Int.ofNat 1)], Int.ofNat 0), ([(15, Int.ofNat 1)], Int.ofNat 0), ([(16, Int.ofNat 1)], Int.ofNat 0), ([(17, Int.ofNat 1)], Int.ofNat 0), ([(18, Int.ofNat 1)], Int.ofNat 0), ([(19, Int.ofNat 1)], Int.ofNat 0), ([(20, Int.ofNat 1)], Int.ofNat 0), ([(21, Int.ofNat 1)], Int.ofNat 0), ([(22, Int.ofNat 1)], Int.ofNat 0), ([(23, Int.ofNat 1)], Int.ofNat 0), ([(24, Int.ofNat 1)], Int.ofNat 0), ([(25, Int.ofNat 1)], Int.ofNat 0), ([(26, Int.ofNat 1)], Int.ofNat 0), ([(27, Int.ofNat 1)], Int.ofNat 0), ([(28, Int.ofNat 1)], Int.ofNat 0), ([(29, Int.ofNat 1)], Int.ofNat 0)], 1, 0, ([(30, Int.ofNat 1)], Int.ofNat 0)), (.inl 52, [([(3, Int.ofNat 1)], Int.ofNat 0), ([(4, Int.ofNat 1)], Int.ofNat 0), ([(2, Int.ofNat 1)], Int.ofNat 0), ([(49, Int.ofNat 1)], Int.ofNat 0), ([(50, Int.ofNat 1)], Int.ofNat 0), ([(51, Int.ofNat 1)], Int.ofNat 0), ([(52, Int.ofNat 1)], Int.ofNat 0), ([(53, Int.ofNat 1)], Int.ofNat 0), ([(54, Int.ofNat 1)], Int.ofNat 0), ([(55, Int.ofNat 1)], Int.ofNat 0), ([(56, Int.ofNat 1)], Int.ofNat 0), ([(57, Int.ofNat 1)], Int.ofNat 0), ([(58, Int.ofNat 1)], Int.ofNat 0), ([(59, Int.ofNat 1)], Int.ofNat 0), ([(60, Int.ofNat 1)], Int.ofNat 0), ([(61, Int.ofNat 1)], Int.ofNat 0), ([(62, Int.ofNat 1)], Int.ofNat 0), ([(63, Int.ofNat 1)], Int.ofNat 0), ([(64, Int.ofNat 1)], Int.ofNat 0), ([(65, Int.ofNat 1)], Int.ofNat 0), ([(66, Int.ofNat 1)], Int.ofNat 0), ([(67, Int.ofNat 1)], Int.ofNat 0)], 2, 0, ([(68, Int.ofNat 1)], Int.ofNat 0))], [([(0, Int.ofNat 1)], Int.ofNat 0), ([(1, Int.ofNat 1)], Int.ofNat 6), ([], Int.ofNat 0), ([(69, Int.ofNat 1)], Int.ofNat 0), ([(70, Int.ofNat 1)], Int.ofNat 0)])
noncomputable def qL_9 : zNx := (2, 0, ([(Int.ofNat 0, Int.ofNat 3072), (Int.ofNat 0, Int.ofNat 3072), (Int.ofNat 0, Int.ofNat 2000), (Int.ofNat 0, Int.ofNat 12288), (Int.ofNat 0, Int.ofNat 12288), (Int.negSucc 2147483647, Int.ofNat 2147483647), (Int.ofNat 4, Int.ofNat 4), (Int.negSucc 2147483647, Int.ofNat 2147483647), (Int.ofNat 0, Int.ofNat 60), (Int.ofNat 0, Int.ofNat 1), (Int.ofNat 0, Int.ofNat 60), (Int.ofNat 0, Int.ofNat 3), (Int.ofNat 0, Int.ofNat 60), (Int.ofNat 0, Int.ofNat 50001), (Int.ofNat 0, Int.ofNat 59), (Int.ofNat 0, Int.ofNat 1), (Int.ofNat 0, Int.ofNat 60), (Int.ofNat 0, Int.ofNat 50001)], [([(16, Int.ofNat 1), (14, Int.negSucc 0)], Int.ofNat 0), ([(14, Int.negSucc 0), (12, Int.ofNat 1)], Int.ofNat 0), ([(16, Int.negSucc 0), (12, Int.ofNat 1)], Int.ofNat 0), ([(17, Int.negSucc 0), (13, Int.ofNat 1)], Int.ofNat 0), ([(10, Int.negSucc 0), (8, Int.ofNat 1)], Int.ofNat 0), ([(1, Int.negSucc 0), (0, Int.ofNat 1)], Int.negSucc 5), ([(1, Int.negSucc 0), (0, Int.ofNat 1)], Int.ofNat 0), ([(3, Int.negSucc 0), (2, Int.negSucc 0), (1, Int.ofNat 4)], Int.ofNat 0), ([(4, Int.negSucc 0), (2, Int.negSucc 0), (1, Int.ofNat 4)], Int.ofNat 0)], [], [], [(1, (0, ([], 0), ([], 0), ([], 0)), m38_, i13_), (1, (0, ([], 0), ([], 0), ([], 0)), m149_, i32_), (1, (0, ([], 0), ([], 0), ([], 0)), m155_, i39_)], [(1, 2, ([], Int.ofNat 0), ([], Int.ofNat 3), ([(2, Int.ofNat 1)], Int.ofNat 0)), (1, 15, ([], Int.ofNat 0), ([], Int.ofNat 3), ([(2, Int.ofNat 1)], Int.ofNat 0)), (1, 15, ([], Int.ofNat 0), ([], Int.ofNat 8), ([(3, Int.ofNat 1)], Int.ofNat 0)), (1, 15, ([], Int.ofNat 0), ([], Int.ofNat 9), ([(4, Int.ofNat 1)], Int.ofNat 0)), (0, 113, ([], Int.ofNat 0), ([(1, Int.ofNat 1)], Int.ofNat 0), ([(5, Int.ofNat 1)], Int.ofNat 0)), (0, 113, ([], Int.ofNat 0), ([(1, Int.ofNat 1)], Int.ofNat 1), ([(7, Int.ofNat 1)], Int.ofNat 0)), (1, 1, ([], Int.ofNat 0), ([], Int.ofNat 10), ([(8, Int.ofNat 1)], Int.ofNat 0)), (2, 1, ([], Int.ofNat 0), ([], Int.ofNat 10), ([(10, Int.ofNat 1)], Int.ofNat 0)), (1, 15, ([], Int.ofNat 0), ([], Int.ofNat 0), ([(11, Int.ofNat 1)], Int.ofNat 0)), (1, 15, ([], Int.ofNat 0), ([], Int.ofNat 32), ([(12, Int.ofNat 1)], Int.ofNat 0)), (1, 15, ([], Int.ofNat 0), ([], Int.ofNat 93), ([(13, Int.ofNat 1)], Int.ofNat 0)), (3, 15, ([], Int.ofNat 0), ([], Int.ofNat 0), ([(15, Int.ofNat 1)], Int.ofNat 0)), (3, 15, ([], Int.ofNat 0), ([], Int.ofNat 32), ([(16, Int.ofNat 1)], Int.ofNat 0)), (3, 15, ([], Int.ofNat 0), ([], Int.ofNat 93), ([(17, Int.ofNat 1)], Int.ofNat 0))], 0, 0), [(.inr (.iand), [([(5, Int.ofNat 1)], Int.ofNat 0), ([], Int.ofNat 15)], 0, 0, ([(6, Int.ofNat 1)], Int.ofNat 0)), (.inl 269, [([(7, Int.ofNat 1)], Int.ofNat 0), ([(2, Int.ofNat 1)], Int.ofNat 0), ([(8, Int.ofNat 1)], Int.ofNat 0)], 1, 0, ([(9, Int.ofNat 1)], Int.ofNat 0)), (.inl 54, [([(7, Int.ofNat 1)], Int.ofNat 0), ([(11, Int.ofNat 1)], Int.ofNat 0), ([(12, Int.ofNat 1)], Int.ofNat 0), ([(13, Int.ofNat 1)], Int.ofNat 0)], 2, 0, ([(14, Int.ofNat 1)], Int.ofNat 0))], [([(0, Int.ofNat 1)], Int.ofNat 0), ([(1, Int.ofNat 1)], Int.ofNat 6), ([(2, Int.ofNat 1)], Int.ofNat 0), ([(3, Int.ofNat 1)], Int.ofNat 0), ([(4, Int.ofNat 1)], Int.ofNat 0)])
noncomputable def qL_10 : zNx := (2, 0, ([(Int.ofNat 0, Int.ofNat 3072), (Int.ofNat 0, Int.ofNat 3072), (Int.ofNat 0, Int.ofNat 2000), (Int.ofNat 0, Int.ofNat 12288), (Int.ofNat 0, Int.ofNat 12288), (Int.negSucc 2147483647, Int.ofNat 2147483647), (Int.ofNat 5, Int.ofNat 5), (Int.negSucc 2147483647, Int.ofNat 2147483647), (Int.negSucc 2147483647, Int.ofNat 2147483647), (Int.ofNat 0, Int.ofNat 20), (Int.ofNat 0, Int.ofNat 20), (Int.ofNat 0, Int.ofNat 400), (Int.ofNat 0, Int.ofNat 60), (Int.ofNat 0, Int.ofNat 2000), (Int.ofNat 0, Int.ofNat 2000), (Int.ofNat 0, Int.ofNat 50001), (Int.negSucc 2147483647, Int.ofNat 2147483647), (Int.ofNat 0, Int.ofNat 2), (Int.negSucc 2147483647, Int.ofNat 2147483647), (Int.ofNat 0, Int.ofNat 2000), (Int.ofNat 0, Int.ofNat 2000), (Int.negSucc 2147483647, Int.ofNat 2147483647), (Int.ofNat 0, Int.ofNat 3), (Int.negSucc 2147483647, Int.ofNat 2147483647), (Int.negSucc 2147483647, Int.ofNat 2147483647), (Int.ofNat 0, Int.ofNat 20), (Int.ofNat 0, Int.ofNat 2000), (Int.ofNat 0, Int.ofNat 2000), (Int.ofNat 0, Int.ofNat 50001), (Int.negSucc 2147483647, Int.ofNat 2147483647), (Int.ofNat 0, Int.ofNat 2), (Int.negSucc 2147483647, Int.ofNat 2147483647), (Int.ofNat 0, Int.ofNat 2000), (Int.ofNat 0, Int.ofNat 2000), (Int.negSucc 2147483647, Int.ofNat 2147483647), (Int.ofNat 0, Int.ofNat 60), (Int.ofNat 0, Int.ofNat 20), (Int.ofNat 0, Int.ofNat 400), (Int.ofNat 0, Int.ofNat 2000), (Int.ofNat 0, Int.ofNat 50001), (Int.ofNat 0, Int.ofNat 3), (Int.ofNat 0, Int.ofNat 21), (Int.ofNat 0, Int.ofNat 3), (Int.ofNat 0, Int.ofNat 61), (Int.negSucc 2147483647, Int.ofNat 2147483647), (Int.negSucc 2147483647, Int.ofNat 2147483647), (Int.negSucc 2147483647, Int.ofNat 2147483647), (Int.negSucc 2147483647, Int.ofNat 2147483647), (Int.ofNat 0, Int.ofNat 2000), (Int.ofNat 0, Int.ofNat 2000), (Int.ofNat 0, Int.ofNat 2000), (Int.ofNat 0, Int.ofNat 2000), (Int.ofNat 0, Int.ofNat 50001), (Int.ofNat 0, Int.ofNat 50001), (Int.ofNat 0, Int.ofNat 2000), (Int.ofNat 0, Int.ofNat 2000), (Int.ofNat 0, Int.ofNat 50001), (Int.ofNat 0, Int.ofNat 3), (Int.ofNat 0, Int.ofNat 21), (Int.ofNat 0, Int.ofNat 3), (Int.negSucc 2147483647, Int.ofNat 2147483647), (Int.negSucc 2147483647, Int.ofNat 2147483647), (Int.negSucc 2147483647, Int.ofNat 2147483647), (Int.negSucc 2147483647, Int.ofNat 2147483647), (Int.ofNat 0, Int.ofNat 2000), (Int.ofNat 0, Int.ofNat 2000), (Int.ofNat 0, Int.ofNat 2000), (Int.ofNat 0, Int.ofNat 2000), (Int.ofNat 0, Int.ofNat 0)], [([(55, Int.ofNat 1), (54, Int.negSucc 0)], Int.ofNat 0), ([(1, Int.negSucc 0), (0, Int.ofNat 1)], Int.negSucc 5), ([(1, Int.negSucc 0), (0, Int.ofNat 1)], Int.ofNat 0), ([(3, Int.negSucc 0), (2, Int.negSucc 0), (1, Int.ofNat 4)], Int.ofNat 0), ([(4, Int.negSucc 0), (2, Int.negSucc 0), (1, Int.ofNat 4)], Int.ofNat 0)], [], [], [(1, (0, ([], 0), ([], 0), ([], 0)), m57_, i27_), (1, (0, ([], 0), ([], 0), ([], 0)), m150_, i37_), (1, (0, ([], 0), ([], 0), ([], 0)), m155_, i39_)], [(1, 2, ([], Int.ofNat 0), ([], Int.ofNat 3), ([(2, Int.ofNat 1)], Int.ofNat 0)), (1, 15, ([], Int.ofNat 0), ([], Int.ofNat 3), ([(2, Int.ofNat 1)], Int.ofNat 0)), (1, 15, ([], Int.ofNat 0), ([], Int.ofNat 8), ([(3, Int.ofNat 1)], Int.ofNat 0)), (1, 15, ([], Int.ofNat 0), ([], Int.ofNat 9), ([(4, Int.ofNat 1)], Int.ofNat 0)), (0, 113, ([], Int.ofNat 0), ([(1, Int.ofNat 1)], Int.ofNat 0), ([(5, Int.ofNat 1)], Int.ofNat 0)), (1, 0, ([], Int.ofNat 0), ([], Int.ofNat 8), ([(7, Int.ofNat 1)], Int.ofNat 0)), (1, 0, ([], Int.ofNat 0), ([], Int.ofNat 9), ([(8, Int.ofNat 1)], Int.ofNat 0)), (1, 1, ([], Int.ofNat 0), ([], Int.ofNat 7), ([(9, Int.ofNat 1)], Int.ofNat 0)), (1, 1, ([], Int.ofNat 0), ([], Int.ofNat 8), ([(10, Int.ofNat 1)], Int.ofNat 0)), (1, 1, ([], Int.ofNat 0), ([], Int.ofNat 9), ([(11, Int.ofNat 1)], Int.ofNat 0)), (1, 1, ([], Int.ofNat 0), ([], Int.ofNat 10), ([(12, Int.ofNat 1)], Int.ofNat 0)), (1, 4, ([], Int.ofNat 0), ([], Int.ofNat 7), ([(13, Int.ofNat 1)], Int.ofNat 0)), (1, 5, ([], Int.ofNat 0), ([], Int.ofNat 3), ([(14, Int.ofNat 1)], Int.ofNat 0)), (1, 6, ([], Int.ofNat 0), ([], Int.ofNat 0), ([(15, Int.ofNat 1)], Int.ofNat 0)), (1, 6, ([], Int.ofNat 0), ([], Int.ofNat 8), ([(16, Int.ofNat 1)], Int.ofNat 0)), (1, 6, ([], Int.ofNat 0), ([], Int.ofNat 9), ([(17, Int.ofNat 1)], Int.ofNat 0)), (1, 6, ([], Int.ofNat 0), ([], Int.ofNat 10), ([(18, Int.ofNat 1)], Int.ofNat 0)), (1, 6, ([], Int.ofNat 0), ([], Int.ofNat 11), ([(19, Int.ofNat 1)], Int.ofNat 0)), (1, 6, ([], Int.ofNat 0), ([], Int.ofNat 12), ([(20, Int.ofNat 1)], Int.ofNat 0)), (1, 6, ([], Int.ofNat 0), ([], Int.ofNat 13), ([(21, Int.ofNat 1)], Int.ofNat 0)), (2, 0, ([], Int.ofNat 0), ([], Int.ofNat 8), ([(23, Int.ofNat 1)], Int.ofNat 0)), (2, 0, ([], Int.ofNat 0), ([], Int.ofNat 9), ([(24, Int.ofNat 1)], Int.ofNat 0)), (2, 1, ([], Int.ofNat 0), ([], Int.ofNat 8), ([(25, Int.ofNat 1)], Int.ofNat 0)), (2, 4, ([], Int.ofNat 0), ([], Int.ofNat 7), ([(26, Int.ofNat 1)], Int.ofNat 0)), (2, 5, ([], Int.ofNat 0), ([], Int.ofNat 3), ([(27, Int.ofNat 1)], Int.ofNat 0)), (2, 6, ([], Int.ofNat 0), ([], Int.ofNat 0), ([(28, Int.ofNat 1)], Int.ofNat 0)), (2, 6, ([], Int.ofNat 0), ([], Int.ofNat 8), ([(29, Int.ofNat 1)], Int.ofNat 0)), (2, 6, ([], Int.ofNat 0), ([], Int.ofNat 9), ([(30, Int.ofNat 1)], Int.ofNat 0)), (2, 6, ([], Int.ofNat 0), ([], Int.ofNat 10), ([(31, Int.ofNat 1)], Int.ofNat 0)), (2, 6, ([], Int.ofNat 0), ([], Int.ofNat 11), ([(32, Int.ofNat 1)], Int.ofNat 0)), (2, 6, ([], Int.ofNat 0), ([], Int.ofNat 12), ([(33, Int.ofNat 1)], Int.ofNat 0)), (2, 6, ([], Int.ofNat 0), ([], Int.ofNat 13), ([(34, Int.ofNat 1)], Int.ofNat 0)), (1, 15, ([], Int.ofNat 0), ([], Int.ofNat 32), ([(35, Int.ofNat 1)], Int.ofNat 0)), (1, 15, ([], Int.ofNat 0), ([], Int.ofNat 13), ([(36, Int.ofNat 1)], Int.ofNat 0)), (1, 15, ([], Int.ofNat 0), ([], Int.ofNat 17), ([(37, Int.ofNat 1)], Int.ofNat 0)), (1, 15, ([], Int.ofNat 0), ([], Int.ofNat 71), ([(38, Int.ofNat 1)], Int.ofNat 0)), (1, 15, ([], Int.ofNat 0), ([], Int.ofNat 72), ([(39, Int.ofNat 1)], Int.ofNat 0)), (1, 15, ([], Int.ofNat 0), ([], Int.ofNat 77), ([(40, Int.ofNat 1)], Int.ofNat 0)), (1, 15, ([], Int.ofNat 0), ([], Int.ofNat 61), ([(41, Int.ofNat 1)], Int.ofNat 0)), (1, 15, ([], Int.ofNat 0), ([], Int.ofNat 0), ([(42, Int.ofNat 1)], Int.ofNat 0)), (1, 15, ([], Int.ofNat 0), ([], Int.ofNat 44), ([(43, Int.ofNat 1)], Int.ofNat 0)), (1, 15, ([], Int.ofNat 0), ([], Int.ofNat 73), ([(44, Int.ofNat 1)], Int.ofNat 0)), (1, 15, ([], Int.ofNat 0), ([], Int.ofNat 74), ([(45, Int.ofNat 1)], Int.ofNat 0)), (1, 15, ([], Int.ofNat 0), ([], Int.ofNat 75), ([(46, Int.ofNat 1)], Int.ofNat 0)), (1, 15, ([], Int.ofNat 0), ([], Int.ofNat 76), ([(47, Int.ofNat 1)], Int.ofNat 0)), (1, 15, ([], Int.ofNat 0), ([], Int.ofNat 81), ([(48, Int.ofNat 1)], Int.ofNat 0)), (1, 15, ([], Int.ofNat 0), ([], Int.ofNat 82), ([(49, Int.ofNat 1)], Int.ofNat 0)), (1, 15, ([], Int.ofNat 0), ([], Int.ofNat 83), ([(50, Int.ofNat 1)], Int.ofNat 0)), (1, 15, ([], Int.ofNat 0), ([], Int.ofNat 90), ([(51, Int.ofNat 1)], Int.ofNat 0)), (1, 15, ([], Int.ofNat 0), ([], Int.ofNat 93), ([(52, Int.ofNat 1)], Int.ofNat 0)), (1, 15, ([], Int.ofNat 0), ([], Int.ofNat 94), ([(53, Int.ofNat 1)], Int.ofNat 0)), (3, 15, ([], Int.ofNat 0), ([], Int.ofNat 71), ([(55, Int.ofNat 1)], Int.ofNat 0)), (3, 15, ([], Int.ofNat 0), ([], Int.ofNat 72), ([(56, Int.ofNat 1)], Int.ofNat 0)), (3, 15, ([], Int.ofNat 0), ([], Int.ofNat 77), ([(57, Int.ofNat 1)], Int.ofNat 0)), (3, 15, ([], Int.ofNat 0), ([], Int.ofNat 61), ([(58, Int.ofNat 1)], Int.ofNat 0)), (3, 15, ([], Int.ofNat 0), ([], Int.ofNat 0), ([(59, Int.ofNat 1)], Int.ofNat 0)), (3, 15, ([], Int.ofNat 0), ([], Int.ofNat 73), ([(60, Int.ofNat 1)], Int.ofNat 0)), (3, 15, ([], Int.ofNat 0), ([], Int.ofNat 74), ([(61, Int.ofNat 1)], Int.ofNat 0)), (3, 15, ([], Int.ofNat 0), ([], Int.ofNat 75), ([(62, Int.ofNat 1)], Int.ofNat 0)), (3, 15, ([], Int.ofNat 0), ([], Int.ofNat 76), ([(63, Int.ofNat 1)], Int.ofNat 0)), (3, 15, ([], Int.ofNat 0), ([], Int.ofNat 81), ([(64, Int.ofNat 1)], Int.ofNat 0)), (3, 15, ([], Int.ofNat 0), ([], Int.ofNat 82), ([(65, Int.ofNat 1)], Int.ofNat 0)), (3, 15, ([], Int.ofNat 0), ([], Int.ofNat 83), ([(66, Int.ofNat 1)], Int.ofNat 0)), (3, 15, ([], Int.ofNat 0), ([], Int.ofNat 90), ([(67, Int.ofNat 1)], Int.ofNat 0)), (3, 15, ([], Int.ofNat 0), ([], Int.ofNat 93), ([(68, Int.ofNat 1)], Int.ofNat 0))], 0, 0), [(.inr (.iand), [([(5, Int.ofNat 1)], Int.ofNat 0), ([], Int.ofNat 15)], 0, 0, ([(6, Int.ofNat 1)], Int.ofNat 0)), (.inl 270, [([(2, Int.ofNat 1)], Int.ofNat 0), ([(7, Int.ofNat 1)], Int.ofNat 0), ([(8, Int.ofNat 1)], Int.ofNat 0), ([(9, Int.ofNat 1)], Int.ofNat 0), ([(10, Int.ofNat 1)], Int.ofNat 0), ([(11, Int.ofNat 1)], Int.ofNat 0), ([(12, Int.ofNat 1)], Int.ofNat 0), ([(13, Int.ofNat 1)], Int.ofNat 0), ([(14, Int.ofNat 1)], Int.ofNat 0), ([(15, Int.ofNat 1)], Int.ofNat 0), ([(16, Int.ofNat 1)], Int.ofNat 0), ([(17, Int.ofNat 1)], Int.ofNat 0), ([(18, Int.ofNat 1)], Int.ofNat 0), ([(19, Int.ofNat 1)], Int.ofNat 0), ([(20, Int.ofNat 1)], Int.ofNat 0), ([(21, Int.ofNat 1)], Int.ofNat 0)], 1, 0, ([(22, Int.ofNat 1)], Int.ofNat 0)), (.inl 78, [([(35, Int.ofNat 1)], Int.ofNat 0), ([(36, Int.ofNat 1)], Int.ofNat 0), ([(37, Int.ofNat 1)], Int.ofNat 0), ([(38, Int.ofNat 1)], Int.ofNat 0), ([(39, Int.ofNat 1)], Int.ofNat 0), ([(40, Int.ofNat 1)], Int.ofNat 0), ([(41, Int.ofNat 1)], Int.ofNat 0), ([(42, Int.ofNat 1)], Int.ofNat 0), ([(43, Int.ofNat 1)], Int.ofNat 0), ([(44, Int.ofNat 1)], Int.ofNat 0), ([(45, Int.ofNat 1)], Int.ofNat 0), ([(46, Int.ofNat 1)], Int.ofNat 0), ([(47, Int.ofNat 1)], Int.ofNat 0), ([(48, Int.ofNat 1)], Int.ofNat 0), ([(49, Int.ofNat 1)], Int.ofNat 0), ([(50, Int.ofNat 1)], Int.ofNat 0), ([(51, Int.ofNat 1)], Int.ofNat 0), ([(52, Int.ofNat 1)], Int.ofNat 0), ([(53, Int.ofNat 1)], Int.ofNat 0)], 2, 0, ([(54, Int.ofNat 1)], Int.ofNat 0))], [([(0, Int.ofNat 1)], Int.ofNat 0), ([(1, Int.ofNat 1)], Int.ofNat 6), ([(2, Int.ofNat 1)], Int.ofNat 0), ([(3, Int.ofNat 1)], Int.ofNat 0), ([(4, Int.ofNat 1)], Int.ofNat 0)])
noncomputable def qL_11 : zNx := (2, 0, ([(Int.ofNat 0, Int.ofNat 3072), (Int.ofNat 0, Int.ofNat 3072), (Int.ofNat 0, Int.ofNat 2000), (Int.ofNat 0, Int.ofNat 12288), (Int.ofNat 0, Int.ofNat 12288), (Int.negSucc 2147483647, Int.ofNat 2147483647), (Int.ofNat 6, Int.ofNat 6), (Int.negSucc 2147483647, Int.ofNat 2147483647), (Int.negSucc 2147483647, Int.ofNat 2147483647), (Int.ofNat 0, Int.ofNat 2000), (Int.ofNat 0, Int.ofNat 3), (Int.ofNat 0, Int.ofNat 3), (Int.ofNat 0, Int.ofNat 2000), (Int.negSucc 2147483647, Int.ofNat 2147483647), (Int.ofNat 0, Int.ofNat 3)], [([(1, Int.negSucc 0), (0, Int.ofNat 1)], Int.negSucc 5), ([(1, Int.negSucc 0), (0, Int.ofNat 1)], Int.ofNat 0), ([(3, Int.negSucc 0), (2, Int.negSucc 0), (1, Int.ofNat 4)], Int.ofNat 0), ([(4, Int.negSucc 0), (2, Int.negSucc 0), (1, Int.ofNat 4)], Int.ofNat 0)], [], [], [(1, (0, ([], 0), ([], 0), ([], 0)), m1_, []), (1, (0, ([], 0), ([], 0), ([], 0)), m151_, []), (1, (0, ([], 0), ([], 0), ([], 0)), m155_, i39_)], [(1, 2, ([], Int.ofNat 0), ([], Int.ofNat 3), ([(2, Int.ofNat 1)], Int.ofNat 0)), (1, 15, ([], Int.ofNat 0), ([], Int.ofNat 3), ([(2, Int.ofNat 1)], Int.ofNat 0)), (1, 15, ([], Int.ofNat 0), ([], Int.ofNat 8), ([(3, Int.ofNat 1)], Int.ofNat 0)), (1, 15, ([], Int.ofNat 0), ([], Int.ofNat 9), ([(4, Int.ofNat 1)], Int.ofNat 0)), (0, 113, ([], Int.ofNat 0), ([(1, Int.ofNat 1)], Int.ofNat 0), ([(5, Int.ofNat 1)], Int.ofNat 0)), (0, 113, ([], Int.ofNat 0), ([(1, Int.ofNat 1)], Int.ofNat 1), ([(7, Int.ofNat 1)], Int.ofNat 0)), (0, 113, ([], Int.ofNat 0), ([(1, Int.ofNat 1)], Int.ofNat 2), ([(8, Int.ofNat 1)], Int.ofNat 0)), (1, 4, ([], Int.ofNat 0), ([], Int.ofNat 7), ([(9, Int.ofNat 1)], Int.ofNat 0)), (1, 15, ([], Int.ofNat 0), ([], Int.ofNat 0), ([(11, Int.ofNat 1)], Int.ofNat 0)), (1, 15, ([], Int.ofNat 0), ([], Int.ofNat 71), ([(12, Int.ofNat 1)], Int.ofNat 0)), (3, 15, ([], Int.ofNat 0), ([], Int.ofNat 0), ([(14, Int.ofNat 1)], Int.ofNat 0))], 0, 0), [(.inr (.iand), [([(5, Int.ofNat 1)], Int.ofNat 0), ([], Int.ofNat 15)], 0, 0, ([(6, Int.ofNat 1)], Int.ofNat 0)), (.inl 271, [([(7, Int.ofNat 1)], Int.ofNat 0), ([(8, Int.ofNat 1)], Int.ofNat 0), ([(2, Int.ofNat 1)], Int.ofNat 0), ([(9, Int.ofNat 1)], Int.ofNat 0)], 1, 0, ([(10, Int.ofNat 1)], Int.ofNat 0)), (.inl 81, [([(7, Int.ofNat 1)], Int.ofNat 0), ([(8, Int.ofNat 1)], Int.ofNat 0), ([(11, Int.ofNat 1)], Int.ofNat 0), ([(12, Int.ofNat 1)], Int.ofNat 0)], 2, 0, ([(13, Int.ofNat 1)], Int.ofNat 0))], [([(0, Int.ofNat 1)], Int.ofNat 0), ([(1, Int.ofNat 1)], Int.ofNat 6), ([(2, Int.ofNat 1)], Int.ofNat 0), ([(3, Int.ofNat 1)], Int.ofNat 0), ([(4, Int.ofNat 1)], Int.ofNat 0)])
noncomputable def qL_12 : zNx := (2, 0, ([(Int.ofNat 0, Int.ofNat 3072), (Int.ofNat 0, Int.ofNat 3072), (Int.ofNat 0, Int.ofNat 2000), (Int.ofNat 0, Int.ofNat 12288), (Int.ofNat 0, Int.ofNat 12288), (Int.negSucc 2147483647, Int.ofNat 2147483647), (Int.ofNat 7, Int.ofNat 7), (Int.negSucc 2147483647, Int.ofNat 2147483647), (Int.negSucc 2147483647, Int.ofNat 2147483647), (Int.ofNat 0, Int.ofNat 2000), (Int.ofNat 0, Int.ofNat 2), (Int.ofNat 0, Int.ofNat 3), (Int.ofNat 0, Int.ofNat 2000), (Int.negSucc 2147483647, Int.ofNat 2147483647), (Int.ofNat 0, Int.ofNat 2)], [([(1, Int.negSucc 0), (0, Int.ofNat 1)], Int.negSucc 5), ([(1, Int.negSucc 0), (0, Int.ofNat 1)], Int.ofNat 0), ([(3, Int.negSucc 0), (2, Int.negSucc 0), (1, Int.ofNat 4)], Int.ofNat 0), ([(4, Int.negSucc 0), (2, Int.negSucc 0), (1, Int.ofNat 4)], Int.ofNat 0)], [], [], [(1, (0, ([], 0), ([], 0), ([], 0)), m1_, []), (1, (0, ([], 0), ([], 0), ([], 0)), m151_, []), (1, (0, ([], 0), ([], 0), ([], 0)), m155_, i39_)], [(1, 2, ([], Int.ofNat 0), ([], Int.ofNat 3), ([(2, Int.ofNat 1)], Int.ofNat 0)), (1, 15, ([], Int.ofNat 0), ([], Int.ofNat 3), ([(2, Int.ofNat 1)], Int.ofNat 0)), (1, 15, ([], Int.ofNat 0), ([], Int.ofNat 8), ([(3, Int.ofNat 1)], Int.ofNat 0)), (1, 15, ([], Int.ofNat 0), ([], Int.ofNat 9), ([(4, Int.ofNat 1)], Int.ofNat 0)), (0, 113, ([], Int.ofNat 0), ([(1, Int.ofNat 1)], Int.ofNat 0), ([(5, Int.ofNat 1)], Int.ofNat 0)), (0, 113, ([], Int.ofNat 0), ([(1, Int.ofNat 1)], Int.ofNat 1), ([(7, Int.ofNat 1)], Int.ofNat 0)), (0, 113, ([], Int.ofNat 0), ([(1, Int.ofNat 1)], Int.ofNat 2), ([(8, Int.ofNat 1)], Int.ofNat 0)), (1, 4, ([], Int.ofNat 0), ([], Int.ofNat 7), ([(9, Int.ofNat 1)], Int.ofNat 0)), (1, 15, ([], Int.ofNat 0), ([], Int.ofNat 0), ([(11, Int.ofNat 1)], Int.ofNat 0)), (1, 15, ([], Int.ofNat 0), ([], Int.ofNat 71), ([(12, Int.ofNat 1)], Int.ofNat 0)), (3, 15, ([], Int.ofNat 0), ([], Int.ofNat 0), ([(14, Int.ofNat 1)], Int.ofNat 0))], 0, 0), [(.inr (.iand), [([(5, Int.ofNat 1)], Int.ofNat 0), ([], Int.ofNat 15)], 0, 0, ([(6, Int.ofNat 1)], Int.ofNat 0)), (.inl 272, [([(7, Int.ofNat 1)], Int.ofNat 0), ([(8, Int.ofNat 1)], Int.ofNat 0), ([(2, Int.ofNat 1)], Int.ofNat 0), ([(9, Int.ofNat 1)], Int.ofNat 0)], 1, 0, ([(10, Int.ofNat 1)], Int.ofNat 0)), (.inl 82, [([(7, Int.ofNat 1)], Int.ofNat 0), ([(8, Int.ofNat 1)], Int.ofNat 0), ([(11, Int.ofNat 1)], Int.ofNat 0), ([(12, Int.ofNat 1)], Int.ofNat 0)], 2, 0, ([(13, Int.ofNat 1)], Int.ofNat 0))], [([(0, Int.ofNat 1)], Int.ofNat 0), ([(1, Int.ofNat 1)], Int.ofNat 6), ([(2, Int.ofNat 1)], Int.ofNat 0), ([(3, Int.ofNat 1)], Int.ofNat 0), ([(4, Int.ofNat 1)], Int.ofNat 0)])
noncomputable def qL_13 : zNx := (2, 0, ([(Int.ofNat 0, Int.ofNat 3072), (Int.ofNat 0, Int.ofNat 3072), (Int.ofNat 0, Int.ofNat 2000), (Int.ofNat 0, Int.ofNat 12288), (Int.ofNat 0, Int.ofNat 12288), (Int.negSucc 2147483647, Int.ofNat 2147483647), (Int.ofNat 8, Int.ofNat 8), (Int.negSucc 2147483647, Int.ofNat 2147483647), (Int.ofNat 0, Int.ofNat 5120), (Int.ofNat 0, Int.ofNat 2000), (Int.ofNat 0, Int.ofNat 200), (Int.ofNat 0, Int.ofNat 2), (Int.ofNat 0, Int.ofNat 200), (Int.ofNat 0, Int.ofNat 200), (Int.ofNat 0, Int.ofNat 3), (Int.ofNat 0, Int.ofNat 2000), (Int.ofNat 0, Int.ofNat 61), (Int.ofNat 0, Int.ofNat 200), (Int.ofNat 0, Int.ofNat 200), (Int.ofNat 0, Int.ofNat 2)], [([(18, Int.ofNat 1), (17, Int.negSucc 0)], Int.ofNat 0), ([(1, Int.negSucc 0), (0, Int.ofNat 1)], Int.negSucc 5), ([(1, Int.negSucc 0), (0, Int.ofNat 1)], Int.ofNat 0), ([(3, Int.negSucc 0), (2, Int.negSucc 0), (1, Int.ofNat 4)], Int.ofNat 0), ([(4, Int.negSucc 0), (2, Int.negSucc 0), (1, Int.ofNat 4)], Int.ofNat 0)], [], [], [(1, (0, ([], 0), ([], 0), ([], 0)), m60_, [34]), (1, (0, ([], 0), ([], 0), ([], 0)), m152_, []), (1, (0, ([], 0), ([], 0), ([], 0)), m155_, i39_)], [(1, 2, ([], Int.ofNat 0), ([], Int.ofNat 3), ([(2, Int.ofNat 1)], Int.ofNat 0)), (1, 15, ([], Int.ofNat 0), ([], Int.ofNat 3), ([(2, Int.ofNat 1)], Int.ofNat 0)), (1, 15, ([], Int.ofNat 0), ([], Int.ofNat 8), ([(3, Int.ofNat 1)], Int.ofNat 0)), (1, 15, ([], Int.ofNat 0), ([], Int.ofNat 9), ([(4, Int.ofNat 1)], Int.ofNat 0)), (0, 113, ([], Int.ofNat 0), ([(1, Int.ofNat 1)], Int.ofNat 0), ([(5, Int.ofNat 1)], Int.ofNat 0)), (0, 113, ([], Int.ofNat 0), ([(1, Int.ofNat 1)], Int.ofNat 1), ([(7, Int.ofNat 1)], Int.ofNat 0)), (1, 3, ([], Int.ofNat 0), ([], Int.ofNat 1), ([(8, Int.ofNat 1)], Int.ofNat 0)), (1, 4, ([], Int.ofNat 0), ([], Int.ofNat 7), ([(9, Int.ofNat 1)], Int.ofNat 0)), (1, 7, ([], Int.ofNat 0), ([], Int.ofNat 1), ([(10, Int.ofNat 1)], Int.ofNat 0)), (2, 7, ([], Int.ofNat 0), ([], Int.ofNat 1), ([(12, Int.ofNat 1)], Int.ofNat 0)), (1, 15, ([], Int.ofNat 0), ([], Int.ofNat 4), ([(13, Int.ofNat 1)], Int.ofNat 0)), (1, 15, ([], Int.ofNat 0), ([], Int.ofNat 0), ([(14, Int.ofNat 1)], Int.ofNat 0)), (1, 15, ([], Int.ofNat 0), ([], Int.ofNat 71), ([(15, Int.ofNat 1)], Int.ofNat 0)), (1, 15, ([], Int.ofNat 0), ([], Int.ofNat 44), ([(16, Int.ofNat 1)], Int.ofNat 0)), (3, 15, ([], Int.ofNat 0), ([], Int.ofNat 4), ([(18, Int.ofNat 1)], Int.ofNat 0)), (3, 15, ([], Int.ofNat 0), ([], Int.ofNat 0), ([(19, Int.ofNat 1)], Int.ofNat 0))], 0, 0), [(.inr (.iand), [([(5, Int.ofNat 1)], Int.ofNat 0), ([], Int.ofNat 15)], 0, 0, ([(6, Int.ofNat 1)], Int.ofNat 0)), (.inl 273, [([(7, Int.ofNat 1)], Int.ofNat 0), ([(2, Int.ofNat 1)], Int.ofNat 0), ([(8, Int.ofNat 1)], Int.ofNat 0), ([(9, Int.ofNat 1)], Int.ofNat 0), ([(10, Int.ofNat 1)], Int.ofNat 0)], 1, 0, ([(11, Int.ofNat 1)], Int.ofNat 0)), (.inl 89, [([(7, Int.ofNat 1)], Int.ofNat 0), ([(13, Int.ofNat 1)], Int.ofNat 0), ([(14, Int.ofNat 1)], Int.ofNat 0), ([(15, Int.ofNat 1)], Int.ofNat 0), ([(16, Int.ofNat 1)], Int.ofNat 0)], 2, 0, ([(17, Int.ofNat 1)], Int.ofNat 0))], [([(0, Int.ofNat 1)], Int.ofNat 0), ([(1, Int.ofNat 1)], Int.ofNat 6), ([(2, Int.ofNat 1)], Int.ofNat 0), ([(3, Int.ofNat 1)], Int.ofNat 0), ([(4, Int.ofNat 1)], Int.ofNat 0)])
noncomputable def qL_14 : zNx := (2, 0, ([(Int.ofNat 0, Int.ofNat 3072), (Int.ofNat 0, Int.ofNat 3072), (Int.ofNat 0, Int.ofNat 2000), (Int.ofNat 0, Int.ofNat 12288), (Int.ofNat 0, Int.ofNat 12288), (Int.negSucc 2147483647, Int.ofNat 2147483647), (Int.ofNat 9, Int.ofNat 9), (Int.ofNat 0, Int.ofNat 20), (Int.ofNat 0, Int.ofNat 60), (Int.negSucc 2147483647, Int.ofNat 2147483647), (Int.negSucc 2147483647, Int.ofNat 2147483647), (Int.ofNat 0, Int.ofNat 2001), (Int.ofNat 0, Int.ofNat 2), (Int.negSucc 2147483647, Int.ofNat 2147483647), (Int.ofNat 0, Int.ofNat 8), (Int.ofNat 0, Int.ofNat 32), (Int.ofNat 0, Int.ofNat 5120), (Int.ofNat 0, Int.ofNat 1), (Int.ofNat 0, Int.ofNat 0), (Int.ofNat 0, Int.ofNat 20), (Int.negSucc 2147483647, Int.ofNat 2147483647), (Int.negSucc 2147483647, Int.ofNat 2147483647), (Int.ofNat 0, Int.ofNat 2001), (Int.ofNat 0, Int.ofNat 2), (Int.negSucc 2147483647, Int.ofNat 2147483647), (Int.ofNat 0, Int.ofNat 8), (Int.ofNat 0, Int.ofNat 32), (Int.ofNat 0, Int.ofNat 5120), (Int.ofNat 0, Int.ofNat 20), (Int.ofNat 0, Int.ofNat 1), (Int.ofNat 0, Int.ofNat 3), (Int.ofNat 0, Int.ofNat 20), (Int.ofNat 0, Int.ofNat 2000), (Int.ofNat 0, Int.ofNat 2000), (Int.ofNat 0, Int.ofNat 2000), (Int.ofNat 0, Int.ofNat 2000), (Int.ofNat 0, Int.ofNat 2000), (Int.ofNat 0, Int.ofNat 3), (Int.ofNat 0, Int.ofNat 61), (Int.negSucc 2147483647, Int.ofNat 2147483647), (Int.ofNat 0, Int.ofNat 2000), (Int.ofNat 0, Int.ofNat 12), (Int.ofNat 0, Int.ofNat 4), (Int.ofNat 0, Int.ofNat 4), (Int.negSucc 0, Int.ofNat 7), (Int.ofNat 0, Int.ofNat 64), (Int.ofNat 0, Int.ofNat 2000), (Int.negSucc 2001, Int.ofNat 1999), (Int.ofNat 0, Int.ofNat 12288), (Int.ofNat 0, Int.ofNat 12288), (Int.ofNat 0, Int.ofNat 0), (Int.ofNat 0, Int.ofNat 1), (Int.ofNat 0, Int.ofNat 20), (Int.ofNat 0, Int.ofNat 2000), (Int.ofNat 0, Int.ofNat 2000), (Int.ofNat 0, Int.ofNat 2000), (Int.ofNat 0, Int.ofNat 2000), (Int.ofNat 0, Int.ofNat 3), (Int.ofNat 0, Int.ofNat 61), (Int.negSucc 2147483647, Int.ofNat 2147483647), (Int.ofNat 0, Int.ofNat 2000), (Int.ofNat 0, Int.ofNat 12), (Int.ofNat 0, Int.ofNat 4), (Int.ofNat 0, Int.ofNat 4), (Int.negSucc 0, Int.ofNat 7), (Int.ofNat 0, Int.ofNat 64)], [([(3, Int.negSucc 0), (2, Int.negSucc 0)], Int.ofNat 12288), ([(4, Int.negSucc 0), (2, Int.negSucc 0)], Int.ofNat 12288), ([(48, Int.ofNat 1), (3, Int.negSucc 0)], Int.ofNat 0), ([(49, Int.ofNat 1), (4, Int.negSucc 0)], Int.ofNat 0), ([(58, Int.ofNat 1), (29, Int.negSucc 0)], Int.ofNat 0), ([(58, Int.ofNat 1), (38, Int.negSucc 0)], Int.ofNat 0), ([(53, Int.negSucc 0), (2, Int.ofNat 1)], Int.ofNat 0), ([(47, Int.negSucc 0), (46, Int.ofNat 1)], Int.ofNat 0), ([(48, Int.negSucc 0), (3, Int.ofNat 1), (2, Int.ofNat 1)], Int.ofNat 0), ([(49, Int.negSucc 0), (4, Int.ofNat 1), (2, Int.ofNat 1)], Int.ofNat 0), ([(19, Int.ofNat 1), (7, Int.negSucc 0)], Int.ofNat 0), ([(27, Int.ofNat 1), (16, Int.negSucc 0)], Int.ofNat 0), ([(1, Int.negSucc 0), (0, Int.ofNat 1)], Int.negSucc 5), ([(1, Int.negSucc 0), (0, Int.ofNat 1)], Int.ofNat 0), ([(3, Int.negSucc 0), (2, Int.negSucc 0), (1, Int.ofNat 4)], Int.ofNat 0), ([(4, Int.negSucc 0), (2, Int.negSucc 0), (1, Int.ofNat 4)], Int.ofNat 0)], [], [], [(1, (0, ([], 0), ([], 0), ([], 0)), m61_, i29_), (1, (0, ([], 0), ([], 0), ([], 0)), m153_, i32_), (1, (0, ([], 0), ([], 0), ([], 0)), m155_, i39_)], [(1, 2, ([], Int.ofNat 0), ([], Int.ofNat 3), ([(2, Int.ofNat 1)], Int.ofNat 0)), (1, 15, ([], Int.ofNat 0), ([], Int.ofNat 3), ([(2, Int.ofNat 1)], Int.ofNat 0)), (1, 15, ([], Int.ofNat 0), ([], Int.ofNat 8), ([(3, Int.ofNat 1)], Int.ofNat 0)), (1, 15, ([], Int.ofNat 0), ([], Int.ofNat 9), ([(4, Int.ofNat 1)], Int.ofNat 0)), (0, 113, ([], Int.ofNat 0), ([(1, Int.ofNat 1)], Int.ofNat 0), ([(5, Int.ofNat 1)], Int.ofNat 0)), (1, 1, ([], Int.ofNat 0), ([], Int.ofNat 7), ([(7, Int.ofNat 1)], Int.ofNat 0)), (1, 1, ([], Int.ofNat 0), ([], Int.ofNat 10), ([(8, Int.ofNat 1)], Int.ofNat 0)), (1, 2, ([], Int.ofNat 0), ([], Int.ofNat 4), ([(9, Int.ofNat 1)], Int.ofNat 0)), (1, 2, ([], Int.ofNat 0), ([], Int.ofNat 5), ([(10, Int.ofNat 1)], Int.ofNat 0)), (1, 2, ([], Int.ofNat 0), ([], Int.ofNat 6), ([(11, Int.ofNat 1)], Int.ofNat 0)), (1, 2, ([], Int.ofNat 0), ([], Int.ofNat 7), ([(12, Int.ofNat 1)], Int.ofNat 0)), (1, 2, ([], Int.ofNat 0), ([], Int.ofNat 9), ([(13, Int.ofNat 1)], Int.ofNat 0)), (1, 2, ([], Int.ofNat 0), ([], Int.ofNat 13), ([(14, Int.ofNat 1)], Int.ofNat 0)), (1, 2, ([], Int.ofNat 0), ([], Int.ofNat 16), ([(15, Int.ofNat 1)], Int.ofNat 0)), (1, 3, ([], Int.ofNat 0), ([], Int.ofNat 1), ([(16, Int.ofNat 1)], Int.ofNat 0)), (2, 2, ([], Int.ofNat 0), ([], Int.ofNat 3), ([(18, Int.ofNat 1)], Int.ofNat 0)), (2, 1, ([], Int.ofNat 0), ([], Int.ofNat 7), ([(19, Int.ofNat 1)], Int.ofNat 0)), (2, 2, ([], Int.ofNat 0), ([], Int.ofNat 4), ([(20, Int.ofNat 1)], Int.ofNat 0)), (2, 2, ([], Int.ofNat 0), ([], Int.ofNat 5), ([(21, Int.ofNat 1)], Int.ofNat 0)), (2, 2, ([], Int.ofNat 0), ([], Int.ofNat 6), ([(22, Int.ofNat 1)], Int.ofNat 0)), (2, 2, ([], Int.ofNat 0), ([], Int.ofNat 7), ([(23, Int.ofNat 1)], Int.ofNat 0)), (2, 2, ([], Int.ofNat 0), ([], Int.ofNat 9), ([(24, Int.ofNat 1)], Int.ofNat 0)), (2, 2, ([], Int.ofNat 0), ([], Int.ofNat 13), ([(25, Int.ofNat 1)], Int.ofNat 0)), (2, 2, ([], Int.ofNat 0), ([], Int.ofNat 16), ([(26, Int.ofNat 1)], Int.ofNat 0)), (2, 3, ([], Int.ofNat 0), ([], Int.ofNat 1), ([(27, Int.ofNat 1)], Int.ofNat 0)), (1, 15, ([], Int.ofNat 0), ([], Int.ofNat 13), ([(28, Int.ofNat 1)], Int.ofNat 0)), (1, 15, ([], Int.ofNat 0), ([], Int.ofNat 59), ([(29, Int.ofNat 1)], Int.ofNat 0)), (1, 15, ([], Int.ofNat 0), ([], Int.ofNat 0), ([(30, Int.ofNat 1)], Int.ofNat 0)), (1, 15, ([], Int.ofNat 0), ([], Int.ofNat 14), ([(31, Int.ofNat 1)], Int.ofNat 0)), (1, 15, ([], Int.ofNat 0), ([], Int.ofNat 34), ([(32, Int.ofNat 1)], Int.ofNat 0)), (1, 15, ([], Int.ofNat 0), ([], Int.ofNat 35), ([(33, Int.ofNat 1)], Int.ofNat 0)), (1, 15, ([], Int.ofNat 0), ([], Int.ofNat 36), ([(34, Int.ofNat 1)], Int.ofNat 0)), (1, 15, ([], Int.ofNat 0), ([], Int.ofNat 37), ([(35, Int.ofNat 1)], Int.ofNat 0)), (1, 15, ([], Int.ofNat 0), ([], Int.ofNat 38), ([(36, Int.ofNat 1)], Int.ofNat 0)), (1, 15, ([], Int.ofNat 0), ([], Int.ofNat 40), ([(37, Int.ofNat 1)], Int.ofNat 0)), (1, 15, ([], Int.ofNat 0), ([], Int.ofNat 44), ([(38, Int.ofNat 1)], Int.ofNat 0)), (1, 15, ([], Int.ofNat 0), ([], Int.ofNat 45), ([(39, Int.ofNat 1)], Int.ofNat 0)), (1, 15, ([], Int.ofNat 0), ([], Int.ofNat 46), ([(40, Int.ofNat 1)], Int.ofNat 0)), (1, 15, ([], Int.ofNat 0), ([], Int.ofNat 47), ([(41, Int.ofNat 1)], Int.ofNat 0)), (1, 15, ([], Int.ofNat 0), ([], Int.ofNat 48), ([(42, Int.ofNat 1)], Int.ofNat 0)), (1, 15, ([], Int.ofNat 0), ([], Int.ofNat 49), ([(43, Int.ofNat 1)], Int.ofNat 0)), (1, 15, ([], Int.ofNat 0), ([], Int.ofNat 50), ([(44, Int.ofNat 1)], Int.ofNat 0)), (1, 15, ([], Int.ofNat 0), ([], Int.ofNat 58), ([(45, Int.ofNat 1)], Int.ofNat 0)), (1, 15, ([], Int.ofNat 0), ([], Int.ofNat 71), ([(46, Int.ofNat 1)], Int.ofNat 0)), (3, 15, ([], Int.ofNat 0), ([], Int.ofNat 8), ([(48, Int.ofNat 1)], Int.ofNat 0)), (3, 15, ([], Int.ofNat 0), ([], Int.ofNat 9), ([(49, Int.ofNat 1)], Int.ofNat 0)), (3, 15, ([], Int.ofNat 0), ([], Int.ofNat 3), ([(50, Int.ofNat 1)], Int.ofNat 0)), (3, 15, ([], Int.ofNat 0), ([], Int.ofNat 0), ([(51, Int.ofNat 1)], Int.ofNat 0)), (3, 15, ([], Int.ofNat 0), ([], Int.ofNat 14), ([(52, Int.ofNat 1)], Int.ofNat 0)), (3, 15, ([], Int.ofNat 0), ([], Int.ofNat 34), ([(2, Int.ofNat 1)], Int.ofNat 0)), (3, 15, ([], Int.ofNat 0), ([], Int.ofNat 35), ([(53, Int.ofNat 1)], Int.ofNat 0)), (3, 15, ([], Int.ofNat 0), ([], Int.ofNat 36), ([(54, Int.ofNat 1)], Int.ofNat 0)), (3, 15, ([], Int.ofNat 0), ([], Int.ofNat 37), ([(55, Int.ofNat 1)], Int.ofNat 0)), (3, 15, ([], Int.ofNat 0), ([], Int.ofNat 38), ([(56, Int.ofNat 1)], Int.ofNat 0)), (3, 15, ([], Int.ofNat 0), ([], Int.ofNat 40), ([(57, Int.ofNat 1)], Int.ofNat 0)), (3, 15, ([], Int.ofNat 0), ([], Int.ofNat 44), ([(58, Int.ofNat 1)], Int.ofNat 0)), (3, 15, ([], Int.ofNat 0), ([], Int.ofNat 45), ([(59, Int.ofNat 1)], Int.ofNat 0)), (3, 15, ([], Int.ofNat 0), ([], Int.ofNat 46), ([(60, Int.ofNat 1)], Int.ofNat 0)), (3, 15, ([], Int.ofNat 0), ([], Int.ofNat 47), ([(61, Int.ofNat 1)], Int.ofNat 0)), (3, 15, ([], Int.ofNat 0), ([], Int.ofNat 48), ([(62, Int.ofNat 1)], Int.ofNat 0)), (3, 15, ([], Int.ofNat 0), ([], Int.ofNat 49), ([(63, Int.ofNat 1)], Int.ofNat 0)), (3, 15, ([], Int.ofNat 0), ([], Int.ofNat 50), ([(64, Int.ofNat 1)], Int.ofNat 0)), (3, 15, ([], Int.ofNat 0), ([], Int.ofNat 58), ([(65, Int.ofNat 1)], Int.ofNat 0))], 0, 0), [(.inr (.iand), [([(5, Int.ofNat 1)], Int.ofNat 0), ([], Int.ofNat 15)], 0, 0, ([(6, Int.ofNat 1)], Int.ofNat 0)), (.inl 274, [([(2, Int.ofNat 1)], Int.ofNat 0), ([(7, Int.ofNat 1)], Int.ofNat 0), ([(8, Int.ofNat 1)], Int.ofNat 0), ([(9, Int.ofNat 1)], Int.ofNat 0), ([(10, Int.ofNat 1)], Int.ofNat 0), ([(11, Int.ofNat 1)], Int.ofNat 0), ([(12, Int.ofNat 1)], Int.ofNat 0), ([(13, Int.ofNat 1)], Int.ofNat 0), ([(14, Int.ofNat 1)], Int.ofNat 0), ([(15, Int.ofNat 1)], Int.ofNat 0), ([(16, Int.ofNat 1)], Int.ofNat 0)], 1, 0, ([(17, Int.ofNat 1)], Int.ofNat 0)), (.inl 90, [([(3, Int.ofNat 1)], Int.ofNat 0), ([(4, Int.ofNat 1)], Int.ofNat 0), ([(2, Int.ofNat 1)], Int.ofNat 0), ([(28, Int.ofNat 1)], Int.ofNat 0), ([(29, Int.ofNat 1)], Int.ofNat 0), ([(30, Int.ofNat 1)], Int.ofNat 0), ([(31, Int.ofNat 1)], Int.ofNat 0), ([(32, Int.ofNat 1)], Int.ofNat 0), ([(33, Int.ofNat 1)], Int.ofNat 0), ([(34, Int.ofNat 1)], Int.ofNat 0), ([(35, Int.ofNat 1)], Int.ofNat 0), ([(36, Int.ofNat 1)], Int.ofNat 0), ([(37, Int.ofNat 1)], Int.ofNat 0), ([(38, Int.ofNat 1)], Int.ofNat 0), ([(39, Int.ofNat 1)], Int.ofNat 0), ([(40, Int.ofNat 1)], Int.ofNat 0), ([(41, Int.ofNat 1)], Int.ofNat 0), ([(42, Int.ofNat 1)], Int.ofNat 0), ([(43, Int.ofNat 1)], Int.ofNat 0), ([(44, Int.ofNat 1)], Int.ofNat 0), ([(45, Int.ofNat 1)], Int.ofNat 0), ([(46, Int.ofNat 1)], Int.ofNat 0)], 2, 0, ([(47, Int.ofNat 1)], Int.ofNat 0))], [([(0, Int.ofNat 1)], Int.ofNat 0), ([(1, Int.ofNat 1)], Int.ofNat 6), ([(18, Int.ofNat 1)], Int.ofNat 0), ([(48, Int.ofNat 1)], Int.ofNat 0), ([(49, Int.ofNat 1)], Int.ofNat 0)])
noncomputable def qL_15 : zNx := (2, 0, ([(Int.ofNat 0, Int.ofNat 3072), (Int.ofNat 0, Int.ofNat 3072), (Int.ofNat 0, Int.ofNat 2000), (Int.ofNat 0, Int.ofNat 12288), (Int.ofNat 0, Int.ofNat 12288), (Int.negSucc 2147483647, Int.ofNat 2147483647), (Int.ofNat 10, Int.ofNat 10), (Int.negSucc 2147483647, Int.ofNat 2147483647), (Int.ofNat 0, Int.ofNat 20), (Int.ofNat 0, Int.ofNat 60), (Int.negSucc 2147483647, Int.ofNat 2147483647), (Int.negSucc 2147483647, Int.ofNat 2147483647), (Int.ofNat 0, Int.ofNat 2001), (Int.ofNat 0, Int.ofNat 2), (Int.negSucc 2147483647, Int.ofNat 2147483647), (Int.ofNat 0, Int.ofNat 8), (Int.ofNat 0, Int.ofNat 32), (Int.ofNat 0, Int.ofNat 5120), (Int.ofNat 0, Int.ofNat 2000), (Int.ofNat 0, Int.ofNat 2000), (Int.ofNat 0, Int.ofNat 50001), (Int.negSucc 2147483647, Int.ofNat 2147483647), (Int.ofNat 0, Int.ofNat 2), (Int.negSucc 2147483647, Int.ofNat 2147483647), (Int.ofNat 0, Int.ofNat 2000), (Int.ofNat 0, Int.ofNat 2000), (Int.negSucc 2147483647, Int.ofNat 2147483647), (Int.ofNat 0, Int.ofNat 2), (Int.negSucc 2147483647, Int.ofNat 2147483647), (Int.ofNat 0, Int.ofNat 20), (Int.negSucc 2147483647, Int.ofNat 2147483647), (Int.negSucc 2147483647, Int.ofNat 2147483647), (Int.ofNat 0, Int.ofNat 2001), (Int.ofNat 0, Int.ofNat 2), (Int.negSucc 2147483647, Int.ofNat 2147483647), (Int.ofNat 0, Int.ofNat 8), (Int.ofNat 0, Int.ofNat 32), (Int.ofNat 0, Int.ofNat 5120), (Int.ofNat 0, Int.ofNat 2000), (Int.ofNat 0, Int.ofNat 2000), (Int.ofNat 0, Int.ofNat 50001), (Int.negSucc 2147483647, Int.ofNat 2147483647), (Int.ofNat 0, Int.ofNat 2), (Int.negSucc 2147483647, Int.ofNat 2147483647), (Int.ofNat 0, Int.ofNat 2000), (Int.negSucc 2147483647, Int.ofNat 2147483647), (Int.ofNat 0, Int.ofNat 20), (Int.ofNat 0, Int.ofNat 50001), (Int.ofNat 0, Int.ofNat 3), (Int.ofNat 0, Int.ofNat 50001), (Int.ofNat 0, Int.ofNat 1), (Int.ofNat 0, Int.ofNat 3), (Int.ofNat 0, Int.ofNat 20), (Int.ofNat 0, Int.ofNat 60), (Int.ofNat 0, Int.ofNat 2000), (Int.ofNat 0, Int.ofNat 2000), (Int.ofNat 0, Int.ofNat 2000), (Int.ofNat 0, Int.ofNat 2000), (Int.ofNat 0, Int.ofNat 2000), (Int.ofNat 0, Int.ofNat 3), (Int.ofNat 0, Int.ofNat 61), (Int.negSucc 2147483647, Int.ofNat 2147483647), (Int.ofNat 0, Int.ofNat 64), (Int.ofNat 0, Int.ofNat 2000), (Int.negSucc 2147483647, Int.ofNat 2147483647), (Int.ofNat 0, Int.ofNat 2000), (Int.ofNat 0, Int.ofNat 2000), (Int.ofNat 0, Int.ofNat 2000), (Int.ofNat 0, Int.ofNat 50001), (Int.negSucc 2147483647, Int.ofNat 2147483647), (Int.negSucc 2000, Int.ofNat 50001), (Int.ofNat 0, Int.ofNat 12288), (Int.ofNat 0, Int.ofNat 12288), (Int.ofNat 0, Int.ofNat 0), (Int.ofNat 0, Int.ofNat 50001), (Int.ofNat 0, Int.ofNat 3), (Int.ofNat 0, Int.ofNat 50001), (Int.ofNat 0, Int.ofNat 3), (Int.ofNat 0, Int.ofNat 20), (Int.ofNat 0, Int.ofNat 2000), (Int.ofNat 0, Int.ofNat 2000), (Int.ofNat 0, Int.ofNat 2000), (Int.ofNat 0, Int.ofNat 2000), (Int.ofNat 0, Int.ofNat 3), (Int.ofNat 0, Int.ofNat 61), (Int.negSucc 2147483647, Int.ofNat 2147483647), (Int.ofNat 0, Int.ofNat 64), (Int.negSucc 2147483647, Int.ofNat 2147483647), (Int.ofNat 0, Int.ofNat 2000), (Int.ofNat 0, Int.ofNat 50001), (Int.negSucc 2147483647, Int.ofNat 2147483647)], [([(3, Int.negSucc 0), (2, Int.negSucc 0)], Int.ofNat 12288), ([(4, Int.negSucc 0), (2, Int.negSucc 0)], Int.ofNat 12288), ([(71, Int.ofNat 1), (3, Int.negSucc 0)], Int.ofNat 0), ([(72, Int.ofNat 1), (4, Int.negSucc 0)], Int.ofNat 0), ([(76, Int.ofNat 1), (70, Int.negSucc 0)], Int.ofNat 0), ([(84, Int.ofNat 1), (50, Int.negSucc 0)], Int.ofNat 0), ([(84, Int.ofNat 1), (60, Int.negSucc 0)], Int.ofNat 0), ([(89, Int.ofNat 1), (70, Int.negSucc 0)], Int.ofNat 0), ([(79, Int.negSucc 0), (2, Int.ofNat 1)], Int.ofNat 0), ([(71, Int.negSucc 0), (3, Int.ofNat 1), (2, Int.ofNat 1)], Int.ofNat 0), ([(72, Int.negSucc 0), (4, Int.ofNat 1), (2, Int.ofNat 1)], Int.ofNat 0), ([(29, Int.ofNat 1), (8, Int.negSucc 0)], Int.ofNat 0), ([(33, Int.ofNat 1), (13, Int.negSucc 0)], Int.ofNat 0), ([(37, Int.ofNat 1), (17, Int.negSucc 0)], Int.ofNat 0), ([(38, Int.ofNat 1), (18, Int.negSucc 0)], Int.ofNat 0), ([(39, Int.ofNat 1), (19, Int.negSucc 0)], Int.ofNat 0), ([(42, Int.ofNat 1), (22, Int.negSucc 0)], Int.ofNat 0), ([(1, Int.negSucc 0), (0, Int.ofNat 1)], Int.negSucc 5), ([(1, Int.negSucc 0), (0, Int.ofNat 1)], Int.ofNat 0), ([(3, Int.negSucc 0), (2, Int.negSucc 0), (1, Int.ofNat 4)], Int.ofNat 0), ([(4, Int.negSucc 0), (2, Int.negSucc 0), (1, Int.ofNat 4)], Int.ofNat 0)], [], [], [(1, (0, ([], 0), ([], 0), ([], 0)), m62_, i30_), (1, (0, ([], 0), ([], 0), ([], 0)), m154_, i32_), (1, (0, ([], 0), ([], 0), ([], 0)), m155_, i39_)], [(1, 2, ([], Int.ofNat 0), ([], Int.ofNat 3), ([(2, Int.ofNat 1)], Int.ofNat 0)), (1, 15, ([], Int.ofNat 0), ([], Int.ofNat 3), ([(2, Int.ofNat 1)], Int.ofNat 0)), (1, 15, ([], Int.ofNat 0), ([], Int.ofNat 8), ([(3, Int.ofNat 1)], Int.ofNat 0)), (1, 15, ([], Int.ofNat 0), ([], Int.ofNat 9), ([(4, Int.ofNat 1)], Int.ofNat 0)), (0, 113, ([], Int.ofNat 0), ([(1, Int.ofNat 1)], Int.ofNat 0), ([(5, Int.ofNat 1)], Int.ofNat 0)), (1, 0, ([], Int.ofNat 0), ([], Int.ofNat 8), ([(7, Int.ofNat 1)], Int.ofNat 0)), (1, 1, ([], Int.ofNat 0), ([], Int.ofNat 7), ([(8, Int.ofNat 1)], Int.ofNat 0)), (1, 1, ([], Int.ofNat 0), ([], Int.ofNat 10), ([(9, Int.ofNat 1)], Int.ofNat 0)), (1, 2, ([], Int.ofNat 0), ([], Int.ofNat 4), ([(10, Int.ofNat 1)], Int.ofNat 0)), (1, 2, ([], Int.ofNat 0), ([], Int.ofNat 5), ([(11, Int.ofNat 1)], Int.ofNat 0)), (1, 2, ([], Int.ofNat 0), ([], Int.ofNat 6), ([(12, Int.ofNat 1)], Int.ofNat 0)), (1, 2, ([], Int.ofNat 0), ([], Int.ofNat 7), ([(13, Int.ofNat 1)], Int.ofNat 0)), (1, 2, ([], Int.ofNat 0), ([], Int.ofNat 9), ([(14, Int.ofNat 1)], Int.ofNat 0)), (1, 2, ([], Int.ofNat 0), ([], Int.ofNat 13), ([(15, Int.ofNat 1)], Int.ofNat 0)), (1, 2, ([], Int.ofNat 0), ([], Int.ofNat 16), ([(16, Int.ofNat 1)], Int.ofNat 0)), (1, 3, ([], Int.ofNat 0), ([], Int.ofNat 1), ([(17, Int.ofNat 1)], Int.ofNat 0)), (1, 4, ([], Int.ofNat 0), ([], Int.ofNat 7), ([(18, Int.ofNat 1)], Int.ofNat 0)), (1, 5, ([], Int.ofNat 0), ([], Int.ofNat 3), ([(19, Int.ofNat 1)], Int.ofNat 0)), (1, 6, ([], Int.ofNat 0), ([], Int.ofNat 0), ([(20, Int.ofNat 1)], Int.ofNat 0)), (1, 6, ([], Int.ofNat 0), ([], Int.ofNat 8), ([(21, Int.ofNat 1)], Int.ofNat 0)), (1, 6, ([], Int.ofNat 0), ([], Int.ofNat 9), ([(22, Int.ofNat 1)], Int.ofNat 0)), (1, 6, ([], Int.ofNat 0), ([], Int.ofNat 10), ([(23, Int.ofNat 1)], Int.ofNat 0)), (1, 6, ([], Int.ofNat 0), ([], Int.ofNat 11), ([(24, Int.ofNat 1)], Int.ofNat 0)), (1, 6, ([], Int.ofNat 0), ([], Int.ofNat 12), ([(25, Int.ofNat 1)], Int.ofNat 0)), (1, 6, ([], Int.ofNat 0), ([], Int.ofNat 13), ([(26, Int.ofNat 1)], Int.ofNat 0)), (2, 2, ([], Int.ofNat 0), ([], Int.ofNat 3), ([], Int.ofNat 0)), (2, 0, ([], Int.ofNat 0), ([], Int.ofNat 8), ([(28, Int.ofNat 1)], Int.ofNat 0)), (2, 1, ([], Int.ofNat 0), ([], Int.ofNat 7), ([(29, Int.ofNat 1)], Int.ofNat 0)), (2, 2, ([], Int.ofNat 0), ([], Int.ofNat 4), ([(30, Int.ofNat 1)], Int.ofNat 0)), (2, 2, ([], Int.ofNat 0), ([], Int.ofNat 5), ([(31, Int.ofNat 1)], Int.ofNat 0)), (2, 2, ([], Int.ofNat 0), ([], Int.ofNat 6), ([(32, Int.ofNat 1)], Int.ofNat 0)), (2, 2, ([], Int.ofNat 0), ([], Int.ofNat 7), ([(33, Int.ofNat 1)], Int.ofNat 0)), (2, 2, ([], Int.ofNat 0), ([], Int.ofNat 9), ([(34, Int.ofNat 1)], Int.ofNat 0)), (2, 2, ([], Int.ofNat 0), ([], Int.ofNat 13), ([(35, Int.ofNat 1)], Int.ofNat 0)), (2, 2, ([], Int.ofNat 0), ([], Int.ofNat 16), ([(36, Int.ofNat 1)], Int.ofNat 0)), (2, 3, ([], Int.ofNat 0), ([], Int.ofNat 1), ([(37, Int.ofNat 1)], Int.ofNat 0)), (2, 4, ([], Int.ofNat 0), ([], Int.ofNat 7), ([(38, Int.ofNat 1)], Int.ofNat 0)), (2, 5, ([], Int.ofNat 0), ([], Int.ofNat 3), ([(39, Int.ofNat 1)], Int.ofNat 0)), (2, 6, ([], Int.ofNat 0), ([], Int.ofNat 0), ([(40, Int.ofNat 1)], Int.ofNat 0)), (2, 6, ([], Int.ofNat 0), ([], Int.ofNat 8), ([(41, Int.ofNat 1)], Int.ofNat 0)), (2, 6, ([], Int.ofNat 0), ([], Int.ofNat 9), ([(42, Int.ofNat 1)], Int.ofNat 0)), (2, 6, ([], Int.ofNat 0), ([], Int.ofNat 10), ([(43, Int.ofNat 1)], Int.ofNat 0)), (2, 6, ([], Int.ofNat 0), ([], Int.ofNat 11), ([(44, Int.ofNat 1)], Int.ofNat 0)), (2, 6, ([], Int.ofNat 0), ([], Int.ofNat 13), ([(45, Int.ofNat 1)], Int.ofNat 0)), (1, 15, ([], Int.ofNat 0), ([], Int.ofNat 13), ([(46, Int.ofNat 1)], Int.ofNat 0)), (1, 15, ([], Int.ofNat 0), ([], Int.ofNat 72), ([(47, Int.ofNat 1)], Int.ofNat 0)), (1, 15, ([], Int.ofNat 0), ([], Int.ofNat 77), ([(48, Int.ofNat 1)], Int.ofNat 0)), (1, 15, ([], Int.ofNat 0), ([], Int.ofNat 94), ([(49, Int.ofNat 1)], Int.ofNat 0)), (1, 15, ([], Int.ofNat 0), ([], Int.ofNat 59), ([(50, Int.ofNat 1)], Int.ofNat 0)), (1, 15, ([], Int.ofNat 0), ([], Int.ofNat 0), ([(51, Int.ofNat 1)], Int.ofNat 0)), (1, 15, ([], Int.ofNat 0), ([], Int.ofNat 14), ([(52, Int.ofNat 1)], Int.ofNat 0)), (1, 15, ([], Int.ofNat 0), ([], Int.ofNat 32), ([(53, Int.ofNat 1)], Int.ofNat 0)), (1, 15, ([], Int.ofNat 0), ([], Int.ofNat 34), ([(54, Int.ofNat 1)], Int.ofNat 0)), (1, 15, ([], Int.ofNat 0), ([], Int.ofNat 35), ([(55, Int.ofNat 1)], Int.ofNat 0)), (1, 15, ([], Int.ofNat 0), ([], Int.ofNat 36), ([(56, Int.ofNat 1)], Int.ofNat 0)), (1, 15, ([], Int.ofNat 0), ([], Int.ofNat 37), ([(57, Int.ofNat 1)], Int.ofNat 0)), (1, 15, ([], Int.ofNat 0), ([], Int.ofNat 38), ([(58, Int.ofNat 1)], Int.ofNat 0)), (1, 15, ([], Int.ofNat 0), ([], Int.ofNat 40), ([(59, Int.ofNat 1)], Int.ofNat 0)), (1, 15, ([], Int.ofNat 0), ([], Int.ofNat 44), ([(60, Int.ofNat 1)], Int.ofNat 0)), (1, 15, ([], Int.ofNat 0), ([], Int.ofNat 45), ([(61, Int.ofNat 1)], Int.ofNat 0)), (1, 15, ([], Int.ofNat 0), ([], Int.ofNat 58), ([(62, Int.ofNat 1)], Int.ofNat 0)), (1, 15, ([], Int.ofNat 0), ([], Int.ofNat 71), ([(63, Int.ofNat 1)], Int.ofNat 0)), (1, 15, ([], Int.ofNat 0), ([], Int.ofNat 74), ([(64, Int.ofNat 1)], Int.ofNat 0)), (1, 15, ([], Int.ofNat 0), ([], Int.ofNat 81), ([(65, Int.ofNat 1)], Int.ofNat 0)), (1, 15, ([], Int.ofNat 0), ([], Int.ofNat 82), ([(66, Int.ofNat 1)], Int.ofNat 0)), (1, 15, ([], Int.ofNat 0), ([], Int.ofNat 83), ([(67, Int.ofNat 1)], Int.ofNat 0)), (1, 15, ([], Int.ofNat 0), ([], Int.ofNat 93), ([(68, Int.ofNat 1)], Int.ofNat 0)), (1, 15, ([], Int.ofNat 0), ([], Int.ofNat 95), ([(69, Int.ofNat 1)], Int.ofNat 0)), (3, 15, ([], Int.ofNat 0), ([], Int.ofNat 8), ([(71, Int.ofNat 1)], Int.ofNat 0)), (3, 15, ([], Int.ofNat 0), ([], Int.ofNat 9), ([(72, Int.ofNat 1)], Int.ofNat 0)), (3, 15, ([], Int.ofNat 0), ([], Int.ofNat 3), ([(73, Int.ofNat 1)], Int.ofNat 0)), (3, 15, ([], Int.ofNat 0), ([], Int.ofNat 72), ([(74, Int.ofNat 1)], Int.ofNat 0)), (3, 15, ([], Int.ofNat 0), ([], Int.ofNat 77), ([(75, Int.ofNat 1)], Int.ofNat 0)), (3, 15, ([], Int.ofNat 0), ([], Int.ofNat 94), ([(76, Int.ofNat 1)], Int.ofNat 0)), (3, 15, ([], Int.ofNat 0), ([], Int.ofNat 0), ([(77, Int.ofNat 1)], Int.ofNat 0)), (3, 15, ([], Int.ofNat 0), ([], Int.ofNat 14), ([(78, Int.ofNat 1)], Int.ofNat 0)), (3, 15, ([], Int.ofNat 0), ([], Int.ofNat 34), ([(2, Int.ofNat 1)], Int.ofNat 0)), (3, 15, ([], Int.ofNat 0), ([], Int.ofNat 35), ([(79, Int.ofNat 1)], Int.ofNat 0)), (3, 15, ([], Int.ofNat 0), ([], Int.ofNat 36), ([(80, Int.ofNat 1)], Int.ofNat 0)), (3, 15, ([], Int.ofNat 0), ([], Int.ofNat 37), ([(81, Int.ofNat 1)], Int.ofNat 0)), (3, 15, ([], Int.ofNat 0), ([], Int.ofNat 38), ([(82, Int.ofNat 1)], Int.ofNat 0)), (3, 15, ([], Int.ofNat 0), ([], Int.ofNat 40), ([(83, Int.ofNat 1)], Int.ofNat 0)), (3, 15, ([], Int.ofNat 0), ([], Int.ofNat 44), ([(84, Int.ofNat 1)], Int.ofNat 0)), (3, 15, ([], Int.ofNat 0), ([], Int.ofNat 45), ([(85, Int.ofNat 1)], Int.ofNat 0)), (3, 15, ([], Int.ofNat 0), ([], Int.ofNat 58), ([(86, Int.ofNat 1)], Int.ofNat 0)), (3, 15, ([], Int.ofNat 0), ([], Int.ofNat 74), ([(87, Int.ofNat 1)], Int.ofNat 0)), (3, 15, ([], Int.ofNat 0), ([], Int.ofNat 81), ([(88, Int.ofNat 1)], Int.ofNat 0)), (3, 15, ([], Int.ofNat 0), ([], Int.ofNat 93), ([(89, Int.ofNat 1)], Int.ofNat 0)), (3, 15, ([], Int.ofNat 0), ([], Int.ofNat 95), ([(90, Int.ofNat 1)], Int.ofNat 0))], 0, 0), [(.inr (.iand), [([(5, Int.ofNat 1)], Int.ofNat 0), ([], Int.ofNat 15)], 0, 0, ([(6, Int.ofNat 1)], Int.ofNat 0)), (.inl 275, [([(2, Int.ofNat 1)], Int.ofNat 0), ([(7, Int.ofNat 1)], Int.ofNat 0), ([(8, Int.ofNat 1)], Int.ofNat 0), ([(9, Int.ofNat 1)], Int.ofNat 0), ([(10, Int.ofNat 1)], Int.ofNat 0), ([(11, Int.ofNat 1)], Int.ofNat 0), ([(12, Int.ofNat 1)], Int.ofNat 0), ([(13, Int.ofNat 1)], Int.ofNat 0), ([(14, Int.ofNat 1)], Int.ofNat 0), ([(15, Int.ofNat 1)], Int.ofNat 0), ([(16, Int.ofNat 1)], Int.ofNat 0), ([(17, Int.ofNat 1)], Int.ofNat 0), ([(18, Int.ofNat 1)], Int.ofNat 0), ([(19, Int.ofNat 1)], Int.ofNat 0), ([(20, Int.ofNat 1)], Int.ofNat 0), ([(21, Int.ofNat 1)], Int.ofNat 0), ([(22, Int.ofNat 1)], Int.ofNat 0), ([(23, Int.ofNat 1)], Int.ofNat 0), ([(24, Int.ofNat 1)], Int.ofNat 0), ([(25, Int.ofNat 1)], Int.ofNat 0), ([(26, Int.ofNat 1)], Int.ofNat 0)], 1, 0, ([(27, Int.ofNat 1)], Int.ofNat 0)), (.inl 91, [([(3, Int.ofNat 1)], Int.ofNat 0), ([(4, Int.ofNat 1)], Int.ofNat 0), ([(2, Int.ofNat 1)], Int.ofNat 0), ([(46, Int.ofNat 1)], Int.ofNat 0), ([(47, Int.ofNat 1)], Int.ofNat 0), ([(48, Int.ofNat 1)], Int.ofNat 0), ([(49, Int.ofNat 1)], Int.ofNat 0), ([(50, Int.ofNat 1)], Int.ofNat 0), ([(51, Int.ofNat 1)], Int.ofNat 0), ([(52, Int.ofNat 1)], Int.ofNat 0), ([(53, Int.ofNat 1)], Int.ofNat 0), ([(54, Int.ofNat 1)], Int.ofNat 0), ([(55, Int.ofNat 1)], Int.ofNat 0), ([(56, Int.ofNat 1)], Int.ofNat 0), ([(57, Int.ofNat 1)], Int.ofNat 0), ([(58, Int.ofNat 1)], Int.ofNat 0), ([(59, Int.ofNat 1)], Int.ofNat 0), ([(60, Int.ofNat 1)], Int.ofNat 0), ([(61, Int.ofNat 1)], Int.ofNat 0), ([(62, Int.ofNat 1)], Int.ofNat 0), ([(63, Int.ofNat 1)], Int.ofNat 0), ([(64, Int.ofNat 1)], Int.ofNat 0), ([(65, Int.ofNat 1)], Int.ofNat 0), ([(66, Int.ofNat 1)], Int.ofNat 0), ([(67, Int.ofNat 1)], Int.ofNat 0), ([(68, Int.ofNat 1)], Int.ofNat 0), ([(69, Int.ofNat 1)], Int.ofNat 0)], 2, 0, ([(70, Int.ofNat 1)], Int.ofNat 0))], [([(0, Int.ofNat 1)], Int.ofNat 0), ([(1, Int.ofNat 1)], Int.ofNat 6), ([], Int.ofNat 0), ([(71, Int.ofNat 1)], Int.ofNat 0), ([(72, Int.ofNat 1)], Int.ofNat 0)])
noncomputable def qL_16 : zNx := (2, 0, ([(Int.ofNat 0, Int.ofNat 3072), (Int.ofNat 0, Int.ofNat 3072), (Int.ofNat 0, Int.ofNat 2000), (Int.ofNat 0, Int.ofNat 12288), (Int.ofNat 0, Int.ofNat 12288), (Int.negSucc 2147483647, Int.ofNat 2147483647), (Int.ofNat 11, Int.ofNat 11), (Int.negSucc 2147483647, Int.ofNat 2147483647), (Int.negSucc 2147483647, Int.ofNat 2147483647), (Int.ofNat 0, Int.ofNat 1), (Int.ofNat 0, Int.ofNat 3), (Int.ofNat 0, Int.ofNat 50001), (Int.negSucc 2147483647, Int.ofNat 2147483647), (Int.negSucc 2147483647, Int.ofNat 2147483647), (Int.ofNat 0, Int.ofNat 1)], [([(1, Int.negSucc 0), (0, Int.ofNat 1)], Int.negSucc 5), ([(1, Int.negSucc 0), (0, Int.ofNat 1)], Int.ofNat 0), ([(3, Int.negSucc 0), (2, Int.negSucc 0), (1, Int.ofNat 4)], Int.ofNat 0), ([(4, Int.negSucc 0), (2, Int.negSucc 0), (1, Int.ofNat 4)], Int.ofNat 0)], [], [], [(1, (0, ([], 0), ([], 0), ([], 0)), m1_, []), (1, (0, ([], 0), ([], 0), ([], 0)), m151_, []), (1, (0, ([], 0), ([], 0), ([], 0)), m155_, i39_)], [(1, 2, ([], Int.ofNat 0), ([], Int.ofNat 3), ([(2, Int.ofNat 1)], Int.ofNat 0)), (1, 15, ([], Int.ofNat 0), ([], Int.ofNat 3), ([(2, Int.ofNat 1)], Int.ofNat 0)), (1, 15, ([], Int.ofNat 0), ([], Int.ofNat 8), ([(3, Int.ofNat 1)], Int.ofNat 0)), (1, 15, ([], Int.ofNat 0), ([], Int.ofNat 9), ([(4, Int.ofNat 1)], Int.ofNat 0)), (0, 113, ([], Int.ofNat 0), ([(1, Int.ofNat 1)], Int.ofNat 0), ([(5, Int.ofNat 1)], Int.ofNat 0)), (0, 113, ([], Int.ofNat 0), ([(1, Int.ofNat 1)], Int.ofNat 1), ([(7, Int.ofNat 1)], Int.ofNat 0)), (0, 113, ([], Int.ofNat 0), ([(1, Int.ofNat 1)], Int.ofNat 2), ([(8, Int.ofNat 1)], Int.ofNat 0)), (1, 15, ([], Int.ofNat 0), ([], Int.ofNat 0), ([(10, Int.ofNat 1)], Int.ofNat 0)), (1, 15, ([], Int.ofNat 0), ([], Int.ofNat 93), ([(11, Int.ofNat 1)], Int.ofNat 0)), (1, 15, ([], Int.ofNat 0), ([], Int.ofNat 95), ([(12, Int.ofNat 1)], Int.ofNat 0)), (3, 15, ([], Int.ofNat 0), ([], Int.ofNat 0), ([(14, Int.ofNat 1)], Int.ofNat 0))], 0, 0), [(.inr (.iand), [([(5, Int.ofNat 1)], Int.ofNat 0), ([], Int.ofNat 15)], 0, 0, ([(6, Int.ofNat 1)], Int.ofNat 0)), (.inl 276, [([(7, Int.ofNat 1)], Int.ofNat 0), ([(8, Int.ofNat 1)], Int.ofNat 0), ([(2, Int.ofNat 1)], Int.ofNat 0)], 1, 0, ([(9, Int.ofNat 1)], Int.ofNat 0)), (.inl 85, [([(7, Int.ofNat 1)], Int.ofNat 0), ([(8, Int.ofNat 1)], Int.ofNat 0), ([(10, Int.ofNat 1)], Int.ofNat 0), ([(11, Int.ofNat 1)], Int.ofNat 0), ([(12, Int.ofNat 1)], Int.ofNat 0)], 2, 0, ([(13, Int.ofNat 1)], Int.ofNat 0))], [([(0, Int.ofNat 1)], Int.ofNat 0), ([(1, Int.ofNat 1)], Int.ofNat 6), ([(2, Int.ofNat 1)], Int.ofNat 0), ([(3, Int.ofNat 1)], Int.ofNat 0), ([(4, Int.ofNat 1)], Int.ofNat 0)])
noncomputable def qL_17 : zNx := (2, 0, ([(Int.ofNat 0, Int.ofNat 3072), (Int.ofNat 0, Int.ofNat 3072), (Int.ofNat 0, Int.ofNat 2000), (Int.ofNat 0, Int.ofNat 12288), (Int.ofNat 0, Int.ofNat 12288), (Int.negSucc 2147483647, Int.ofNat 2147483647), (Int.ofNat 12, Int.ofNat 12), (Int.negSucc 2147483647, Int.ofNat 2147483647), (Int.ofNat 0, Int.ofNat 20), (Int.ofNat 0, Int.ofNat 2), (Int.ofNat 0, Int.ofNat 3), (Int.ofNat 0, Int.ofNat 20), (Int.ofNat 0, Int.ofNat 20), (Int.ofNat 0, Int.ofNat 2)], [([(1, Int.negSucc 0), (0, Int.ofNat 1)], Int.negSucc 5), ([(1, Int.negSucc 0), (0, Int.ofNat 1)], Int.ofNat 0), ([(3, Int.negSucc 0), (2, Int.negSucc 0), (1, Int.ofNat 4)], Int.ofNat 0), ([(4, Int.negSucc 0), (2, Int.negSucc 0), (1, Int.ofNat 4)], Int.ofNat 0)], [], [], [(1, (0, ([], 0), ([], 0), ([], 0)), m1_, []), (1, (0, ([], 0), ([], 0), ([], 0)), m151_, []), (1, (0, ([], 0), ([], 0), ([], 0)), m155_, i39_)], [(1, 2, ([], Int.ofNat 0), ([], Int.ofNat 3), ([(2, Int.ofNat 1)], Int.ofNat 0)), (1, 15, ([], Int.ofNat 0), ([], Int.ofNat 3), ([(2, Int.ofNat 1)], Int.ofNat 0)), (1, 15, ([], Int.ofNat 0), ([], Int.ofNat 8), ([(3, Int.ofNat 1)], Int.ofNat 0)), (1, 15, ([], Int.ofNat 0), ([], Int.ofNat 9), ([(4, Int.ofNat 1)], Int.ofNat 0)), (0, 113, ([], Int.ofNat 0), ([(1, Int.ofNat 1)], Int.ofNat 0), ([(5, Int.ofNat 1)], Int.ofNat 0)), (0, 113, ([], Int.ofNat 0), ([(1, Int.ofNat 1)], Int.ofNat 1), ([(7, Int.ofNat 1)], Int.ofNat 0)), (1, 1, ([], Int.ofNat 0), ([], Int.ofNat 7), ([(8, Int.ofNat 1)], Int.ofNat 0)), (1, 15, ([], Int.ofNat 0), ([], Int.ofNat 0), ([(10, Int.ofNat 1)], Int.ofNat 0)), (1, 15, ([], Int.ofNat 0), ([], Int.ofNat 13), ([(11, Int.ofNat 1)], Int.ofNat 0)), (3, 15, ([], Int.ofNat 0), ([], Int.ofNat 0), ([(13, Int.ofNat 1)], Int.ofNat 0))], 0, 0), [(.inr (.iand), [([(5, Int.ofNat 1)], Int.ofNat 0), ([], Int.ofNat 15)], 0, 0, ([(6, Int.ofNat 1)], Int.ofNat 0)), (.inl 277, [([(7, Int.ofNat 1)], Int.ofNat 0), ([(2, Int.ofNat 1)], Int.ofNat 0), ([(8, Int.ofNat 1)], Int.ofNat 0)], 1, 0, ([(9, Int.ofNat 1)], Int.ofNat 0)), (.inl 83, [([(7, Int.ofNat 1)], Int.ofNat 0), ([(10, Int.ofNat 1)], Int.ofNat 0), ([(11, Int.ofNat 1)], Int.ofNat 0)], 2, 0, ([(12, Int.ofNat 1)], Int.ofNat 0))], [([(0, Int.ofNat 1)], Int.ofNat 0), ([(1, Int.ofNat 1)], Int.ofNat 6), ([(2, Int.ofNat 1)], Int.ofNat 0), ([(3, Int.ofNat 1)], Int.ofNat 0), ([(4, Int.ofNat 1)], Int.ofNat 0)])
noncomputable def qL_18 : zNx := (2, 0, ([(Int.ofNat 0, Int.ofNat 3072), (Int.ofNat 0, Int.ofNat 3072), (Int.ofNat 0, Int.ofNat 2000), (Int.ofNat 0, Int.ofNat 12288), (Int.ofNat 0, Int.ofNat 12288), (Int.negSucc 2147483647, Int.ofNat 2147483647), (Int.ofNat 13, Int.ofNat 13), (Int.negSucc 2147483647, Int.ofNat 2147483647), (Int.ofNat 0, Int.ofNat 200), (Int.ofNat 0, Int.ofNat 1), (Int.ofNat 0, Int.ofNat 3), (Int.ofNat 0, Int.ofNat 200), (Int.negSucc 9223372036854775807, Int.ofNat 9223372036854775807), (Int.ofNat 0, Int.ofNat 1)], [([(1, Int.negSucc 0), (0, Int.ofNat 1)], Int.negSucc 5), ([(1, Int.negSucc 0), (0, Int.ofNat 1)], Int.ofNat 0), ([(3, Int.negSucc 0), (2, Int.negSucc 0), (1, Int.ofNat 4)], Int.ofNat 0), ([(4, Int.negSucc 0), (2, Int.negSucc 0), (1, Int.ofNat 4)], Int.ofNat 0)], [], [], [(1, (0, ([], 0), ([], 0), ([], 0)), m1_, []), (1, (0, ([], 0), ([], 0), ([], 0)), m151_, []), (1, (0, ([], 0), ([], 0), ([], 0)), m155_, i39_)], [(1, 2, ([], Int.ofNat 0), ([], Int.ofNat 3), ([(2, Int.ofNat 1)], Int.ofNat 0)), (1, 15, ([], Int.ofNat 0), ([], Int.ofNat 3), ([(2, Int.ofNat 1)], Int.ofNat 0)), (1, 15, ([], Int.ofNat 0), ([], Int.ofNat 8), ([(3, Int.ofNat 1)], Int.ofNat 0)), (1, 15, ([], Int.ofNat 0), ([], Int.ofNat 9), ([(4, Int.ofNat 1)], Int.ofNat 0)), (0, 113, ([], Int.ofNat 0), ([(1, Int.ofNat 1)], Int.ofNat 0), ([(5, Int.ofNat 1)], Int.ofNat 0)), (0, 113, ([], Int.ofNat 0), ([(1, Int.ofNat 1)], Int.ofNat 1), ([(7, Int.ofNat 1)], Int.ofNat 0)), (1, 7, ([], Int.ofNat 0), ([], Int.ofNat 1), ([(8, Int.ofNat 1)], Int.ofNat 0)), (1, 15, ([], Int.ofNat 0), ([], Int.ofNat 0), ([(10, Int.ofNat 1)], Int.ofNat 0)), (1, 15, ([], Int.ofNat 0), ([], Int.ofNat 4), ([(11, Int.ofNat 1)], Int.ofNat 0)), (3, 15, ([], Int.ofNat 0), ([], Int.ofNat 0), ([(13, Int.ofNat 1)], Int.ofNat 0))], 0, 0), [(.inr (.iand), [([(5, Int.ofNat 1)], Int.ofNat 0), ([], Int.ofNat 15)], 0, 0, ([(6, Int.ofNat 1)], Int.ofNat 0)), (.inl 278, [([(7, Int.ofNat 1)], Int.ofNat 0), ([(2, Int.ofNat 1)], Int.ofNat 0), ([(8, Int.ofNat 1)], Int.ofNat 0)], 1, 0, ([(9, Int.ofNat 1)], Int.ofNat 0)), (.inl 86, [([(7, Int.ofNat 1)], Int.ofNat 0), ([(10, Int.ofNat 1)], Int.ofNat 0), ([(11, Int.ofNat 1)], Int.ofNat 0)], 2, 0, ([(12, Int.ofNat 1)], Int.ofNat 0))], [([(0, Int.ofNat 1)], Int.ofNat 0), ([(1, Int.ofNat 1)], Int.ofNat 6), ([(2, Int.ofNat 1)], Int.ofNat 0), ([(3, Int.ofNat 1)], Int.ofNat 0), ([(4, Int.ofNat 1)], Int.ofNat 0)])
noncomputable def qL_19 : zNx := (2, 0, ([(Int.ofNat 0, Int.ofNat 3072), (Int.ofNat 0, Int.ofNat 3072), (Int.ofNat 0, Int.ofNat 2000), (Int.ofNat 0, Int.ofNat 12288), (Int.ofNat 0, Int.ofNat 12288), (Int.negSucc 2147483647, Int.ofNat 2147483647), (Int.ofNat 14, Int.ofNat 14), (Int.negSucc 2147483647, Int.ofNat 2147483647), (Int.negSucc 2147483647, Int.ofNat 2147483647), (Int.negSucc 2147483647, Int.ofNat 2147483647), (Int.ofNat 0, Int.ofNat 20), (Int.ofNat 0, Int.ofNat 20), (Int.ofNat 0, Int.ofNat 400), (Int.ofNat 0, Int.ofNat 60), (Int.ofNat 0, Int.ofNat 5120), (Int.ofNat 0, Int.ofNat 2000), (Int.ofNat 0, Int.ofNat 200), (Int.ofNat 1, Int.ofNat 1), (Int.ofNat 0, Int.ofNat 3), (Int.ofNat 0, Int.ofNat 200), (Int.ofNat 0, Int.ofNat 20), (Int.ofNat 0, Int.ofNat 400), (Int.ofNat 0, Int.ofNat 60), (Int.ofNat 0, Int.ofNat 21), (Int.ofNat 0, Int.ofNat 2000), (Int.negSucc 2147483647, Int.ofNat 2147483647), (Int.negSucc 2147483647, Int.ofNat 2147483647), (Int.negSucc 2147483647, Int.ofNat 2147483647), (Int.ofNat 0, Int.ofNat 1)], [([(28, Int.negSucc 0), (17, Int.ofNat 1)], Int.ofNat 0), ([(28, Int.ofNat 1), (17, Int.negSucc 0)], Int.ofNat 0), ([(1, Int.negSucc 0), (0, Int.ofNat 1)], Int.negSucc 5), ([(1, Int.negSucc 0), (0, Int.ofNat 1)], Int.ofNat 0), ([(3, Int.negSucc 0), (2, Int.negSucc 0), (1, Int.ofNat 4)], Int.ofNat 0), ([(4, Int.negSucc 0), (2, Int.negSucc 0), (1, Int.ofNat 4)], Int.ofNat 0)], [], [], [(1, (0, ([], 0), ([], 0), ([], 0)), m0_, []), (1, (0, ([], 0), ([], 0), ([], 0)), m1_, []), (1, (0, ([], 0), ([], 0), ([], 0)), m151_, []), (1, (0, ([], 0), ([], 0), ([], 0)), m155_, i39_)], [(1, 2, ([], Int.ofNat 0), ([], Int.ofNat 3), ([(2, Int.ofNat 1)], Int.ofNat 0)), (1, 15, ([], Int.ofNat 0), ([], Int.ofNat 3), ([(2, Int.ofNat 1)], Int.ofNat 0)), (1, 15, ([], Int.ofNat 0), ([], Int.ofNat 8), ([(3, Int.ofNat 1)], Int.ofNat 0)), (1, 15, ([], Int.ofNat 0), ([], Int.ofNat 9), ([(4, Int.ofNat 1)], Int.ofNat 0)), (0, 113, ([], Int.ofNat 0), ([(1, Int.ofNat 1)], Int.ofNat 0), ([(5, Int.ofNat 1)], Int.ofNat 0)), (0, 113, ([], Int.ofNat 0), ([(1, Int.ofNat 1)], Int.ofNat 1), ([(7, Int.ofNat 1)], Int.ofNat 0)), (1, 0, ([], Int.ofNat 0), ([], Int.ofNat 8), ([(8, Int.ofNat 1)], Int.ofNat 0)), (1, 0, ([], Int.ofNat 0), ([], Int.ofNat 9), ([(9, Int.ofNat 1)], Int.ofNat 0)), (1, 1, ([], Int.ofNat 0), ([], Int.ofNat 7), ([(10, Int.ofNat 1)], Int.ofNat 0)), (1, 1, ([], Int.ofNat 0), ([], Int.ofNat 8), ([(11, Int.ofNat 1)], Int.ofNat 0)), (1, 1, ([], Int.ofNat 0), ([], Int.ofNat 9), ([(12, Int.ofNat 1)], Int.ofNat 0)), (1, 1, ([], Int.ofNat 0), ([], Int.ofNat 10), ([(13, Int.ofNat 1)], Int.ofNat 0)), (1, 3, ([], Int.ofNat 0), ([], Int.ofNat 1), ([(14, Int.ofNat 1)], Int.ofNat 0)), (1, 4, ([], Int.ofNat 0), ([], Int.ofNat 7), ([(15, Int.ofNat 1)], Int.ofNat 0)), (1, 7, ([], Int.ofNat 0), ([], Int.ofNat 1), ([(16, Int.ofNat 1)], Int.ofNat 0)), (1, 15, ([], Int.ofNat 0), ([], Int.ofNat 0), ([(18, Int.ofNat 1)], Int.ofNat 0)), (1, 15, ([], Int.ofNat 0), ([], Int.ofNat 4), ([(19, Int.ofNat 1)], Int.ofNat 0)), (1, 15, ([], Int.ofNat 0), ([], Int.ofNat 13), ([(20, Int.ofNat 1)], Int.ofNat 0)), (1, 15, ([], Int.ofNat 0), ([], Int.ofNat 17), ([(21, Int.ofNat 1)], Int.ofNat 0)), (1, 15, ([], Int.ofNat 0), ([], Int.ofNat 32), ([(22, Int.ofNat 1)], Int.ofNat 0)), (1, 15, ([], Int.ofNat 0), ([], Int.ofNat 61), ([(23, Int.ofNat 1)], Int.ofNat 0)), (1, 15, ([], Int.ofNat 0), ([], Int.ofNat 71), ([(24, Int.ofNat 1)], Int.ofNat 0)), (1, 15, ([], Int.ofNat 0), ([], Int.ofNat 74), ([(25, Int.ofNat 1)], Int.ofNat 0)), (1, 15, ([], Int.ofNat 0), ([], Int.ofNat 75), ([(26, Int.ofNat 1)], Int.ofNat 0)), (3, 15, ([], Int.ofNat 0), ([], Int.ofNat 0), ([(28, Int.ofNat 1)], Int.ofNat 0))], 0, 0), [(.inr (.iand), [([(5, Int.ofNat 1)], Int.ofNat 0), ([], Int.ofNat 15)], 0, 0, ([(6, Int.ofNat 1)], Int.ofNat 0)), (.inl 279, [([(7, Int.ofNat 1)], Int.ofNat 0), ([(2, Int.ofNat 1)], Int.ofNat 0), ([(8, Int.ofNat 1)], Int.ofNat 0), ([(9, Int.ofNat 1)], Int.ofNat 0), ([(10, Int.ofNat 1)], Int.ofNat 0), ([(11, Int.ofNat 1)], Int.ofNat 0), ([(12, Int.ofNat 1)], Int.ofNat 0), ([(13, Int.ofNat 1)], Int.ofNat 0), ([(14, Int.ofNat 1)], Int.ofNat 0), ([(15, Int.ofNat 1)], Int.ofNat 0), ([(16, Int.ofNat 1)], Int.ofNat 0)], 1, 0, ([(17, Int.ofNat 1)], Int.ofNat 0)), (.inl 84, [([(7, Int.ofNat 1)], Int.ofNat 0), ([(18, Int.ofNat 1)], Int.ofNat 0), ([(2, Int.ofNat 1)], Int.ofNat 0), ([(19, Int.ofNat 1)], Int.ofNat 0), ([(3, Int.ofNat 1)], Int.ofNat 0), ([(20, Int.ofNat 1)], Int.ofNat 0), ([(21, Int.ofNat 1)], Int.ofNat 0), ([(22, Int.ofNat 1)], Int.ofNat 0), ([(23, Int.ofNat 1)], Int.ofNat 0), ([(24, Int.ofNat 1)], Int.ofNat 0), ([(25, Int.ofNat 1)], Int.ofNat 0), ([(26, Int.ofNat 1)], Int.ofNat 0)], 2, 0, ([(27, Int.ofNat 1)], Int.ofNat 0)), (.inl 0, [([(28, Int.ofNat 1)], Int.ofNat 0)], 3, 0, ([(28, Int.ofNat 1)], Int.ofNat 0))], [([(0, Int.ofNat 1)], Int.ofNat 0), ([(1, Int.ofNat 1)], Int.ofNat 6), ([(2, Int.ofNat 1)], Int.ofNat 0), ([(3, Int.ofNat 1)], Int.ofNat 0), ([(4, Int.ofNat 1)], Int.ofNat 0)])
noncomputable def qL_20 : zNx := (2, 0, ([(Int.ofNat 0, Int.ofNat 3072), (Int.ofNat 0, Int.ofNat 3072), (Int.ofNat 0, Int.ofNat 2000), (Int.ofNat 0, Int.ofNat 12288), (Int.ofNat 0, Int.ofNat 12288), (Int.negSucc 2147483647, Int.ofNat 2147483647), (Int.ofNat 14, Int.ofNat 14), (Int.negSucc 2147483647, Int.ofNat 2147483647), (Int.negSucc 2147483647, Int.ofNat 2147483647), (Int.negSucc 2147483647, Int.ofNat 2147483647), (Int.ofNat 0, Int.ofNat 20), (Int.ofNat 0, Int.ofNat 20), (Int.ofNat 0, Int.ofNat 400), (Int.ofNat 0, Int.ofNat 60), (Int.ofNat 0, Int.ofNat 5120), (Int.ofNat 0, Int.ofNat 2000), (Int.ofNat 0, Int.ofNat 200), (Int.ofNat 0, Int.ofNat 0), (Int.ofNat 0, Int.ofNat 3), (Int.ofNat 0, Int.ofNat 200), (Int.ofNat 0, Int.ofNat 20), (Int.ofNat 0, Int.ofNat 400), (Int.ofNat 0, Int.ofNat 60), (Int.ofNat 0, Int.ofNat 21), (Int.ofNat 0, Int.ofNat 2000), (Int.negSucc 2147483647, Int.ofNat 2147483647), (Int.negSucc 2147483647, Int.ofNat 2147483647), (Int.negSucc 2147483647, Int.ofNat 2147483647), (Int.ofNat 0, Int.ofNat 1), (Int.negSucc 9223372036854775807, Int.ofNat 9223372036854775807)], [([(29, Int.negSucc 0), (27, Int.ofNat 1)], Int.ofNat 0), ([(29, Int.ofNat 1), (27, Int.negSucc 0)], Int.ofNat 0), ([(28, Int.negSucc 0), (17, Int.ofNat 1)], Int.ofNat 0), ([(28, Int.ofNat 1), (17, Int.negSucc 0)], Int.ofNat 0), ([(1, Int.negSucc 0), (0, Int.ofNat 1)], Int.negSucc 5), ([(1, Int.negSucc 0), (0, Int.ofNat 1)], Int.ofNat 0), ([(3, Int.negSucc 0), (2, Int.negSucc 0), (1, Int.ofNat 4)], Int.ofNat 0), ([(4, Int.negSucc 0), (2, Int.negSucc 0), (1, Int.ofNat 4)], Int.ofNat 0)], [], [], [(1, (0, ([], 0), ([], 0), ([], 0)), m0_, []), (1, (0, ([], 0), ([], 0), ([], 0)), m1_, []), (1, (0, ([], 0), ([], 0), ([], 0)), m151_, []), (1, (0, ([], 0), ([], 0), ([], 0)), m155_, i39_)], [(1, 2, ([], Int.ofNat 0), ([], Int.ofNat 3), ([(2, Int.ofNat 1)], Int.ofNat 0)), (1, 15, ([], Int.ofNat 0), ([], Int.ofNat 3), ([(2, Int.ofNat 1)], Int.ofNat 0)), (1, 15, ([], Int.ofNat 0), ([], Int.ofNat 8), ([(3, Int.ofNat 1)], Int.ofNat 0)), (1, 15, ([], Int.ofNat 0), ([], Int.ofNat 9), ([(4, Int.ofNat 1)], Int.ofNat 0)), (0, 113, ([], Int.ofNat 0), ([(1, Int.ofNat 1)], Int.ofNat 0), ([(5, Int.ofNat 1)], Int.ofNat 0)), (0, 113, ([], Int.ofNat 0), ([(1, Int.ofNat 1)], Int.ofNat 1), ([(7, Int.ofNat 1)], Int.ofNat 0)), (1, 0, ([], Int.ofNat 0), ([], Int.ofNat 8), ([(8, Int.ofNat 1)], Int.ofNat 0)), (1, 0, ([], Int.ofNat 0), ([], Int.ofNat 9), ([(9, Int.ofNat 1)], Int.ofNat 0)), (1, 1, ([], Int.ofNat 0), ([], Int.ofNat 7), ([(10, Int.ofNat 1)], Int.ofNat 0)), (1, 1, ([], Int.ofNat 0), ([], Int.ofNat 8), ([(11, Int.ofNat 1)], Int.ofNat 0)), (1, 1, ([], Int.ofNat 0), ([], Int.ofNat 9), ([(12, Int.ofNat 1)], Int.ofNat 0)), (1, 1, ([], Int.ofNat 0), ([], Int.ofNat 10), ([(13, Int.ofNat 1)], Int.ofNat 0)), (1, 3, ([], Int.ofNat 0), ([], Int.ofNat 1), ([(14, Int.ofNat 1)], Int.ofNat 0)), (1, 4, ([], Int.ofNat 0), ([], Int.ofNat 7), ([(15, Int.ofNat 1)], Int.ofNat 0)), (1, 7, ([], Int.ofNat 0), ([], Int.ofNat 1), ([(16, Int.ofNat 1)], Int.ofNat 0)), (1, 15, ([], Int.ofNat 0), ([], Int.ofNat 0), ([(18, Int.ofNat 1)], Int.ofNat 0)), (1, 15, ([], Int.ofNat 0), ([], Int.ofNat 4), ([(19, Int.ofNat 1)], Int.ofNat 0)), (1, 15, ([], Int.ofNat 0), ([], Int.ofNat 13), ([(20, Int.ofNat 1)], Int.ofNat 0)), (1, 15, ([], Int.ofNat 0), ([], Int.ofNat 17), ([(21, Int.ofNat 1)], Int.ofNat 0)), (1, 15, ([], Int.ofNat 0), ([], Int.ofNat 32), ([(22, Int.ofNat 1)], Int.ofNat 0)), (1, 15, ([], Int.ofNat 0), ([], Int.ofNat 61), ([(23, Int.ofNat 1)], Int.ofNat 0)), (1, 15, ([], Int.ofNat 0), ([], Int.ofNat 71), ([(24, Int.ofNat 1)], Int.ofNat 0)), (1, 15, ([], Int.ofNat 0), ([], Int.ofNat 74), ([(25, Int.ofNat 1)], Int.ofNat 0)), (1, 15, ([], Int.ofNat 0), ([], Int.ofNat 75), ([(26, Int.ofNat 1)], Int.ofNat 0)), (3, 15, ([], Int.ofNat 0), ([], Int.ofNat 0), ([(28, Int.ofNat 1)], Int.ofNat 0)), (2, 112, ([], Int.ofNat 0), ([], Int.ofNat 0), ([(29, Int.ofNat 1)], Int.ofNat 0))], 0, 0), [(.inr (.iand), [([(5, Int.ofNat 1)], Int.ofNat 0), ([], Int.ofNat 15)], 0, 0, ([(6, Int.ofNat 1)], Int.ofNat 0)), (.inl 279, [([(7, Int.ofNat 1)], Int.ofNat 0), ([(2, Int.ofNat 1)], Int.ofNat 0), ([(8, Int.ofNat 1)], Int.ofNat 0), ([(9, Int.ofNat 1)], Int.ofNat 0), ([(10, Int.ofNat 1)], Int.ofNat 0), ([(11, Int.ofNat 1)], Int.ofNat 0), ([(12, Int.ofNat 1)], Int.ofNat 0), ([(13, Int.ofNat 1)], Int.ofNat 0), ([(14, Int.ofNat 1)], Int.ofNat 0), ([(15, Int.ofNat 1)], Int.ofNat 0), ([(16, Int.ofNat 1)], Int.ofNat 0)], 1, 0, ([(17, Int.ofNat 1)], Int.ofNat 0)), (.inl 84, [([(7, Int.ofNat 1)], Int.ofNat 0), ([(18, Int.ofNat 1)], Int.ofNat 0), ([(2, Int.ofNat 1)], Int.ofNat 0), ([(19, Int.ofNat 1)], Int.ofNat 0), ([(3, Int.ofNat 1)], Int.ofNat 0), ([(20, Int.ofNat 1)], Int.ofNat 0), ([(21, Int.ofNat 1)], Int.ofNat 0), ([(22, Int.ofNat 1)], Int.ofNat 0), ([(23, Int.ofNat 1)], Int.ofNat 0), ([(24, Int.ofNat 1)], Int.ofNat 0), ([(25, Int.ofNat 1)], Int.ofNat 0), ([(26, Int.ofNat 1)], Int.ofNat 0)], 2, 0, ([(27, Int.ofNat 1)], Int.ofNat 0)), (.inl 0, [([(28, Int.ofNat 1)], Int.ofNat 0)], 3, 0, ([(28, Int.ofNat 1)], Int.ofNat 0))], [([(0, Int.ofNat 1)], Int.ofNat 0), ([(1, Int.ofNat 1)], Int.ofNat 6), ([(2, Int.ofNat 1)], Int.ofNat 0), ([(3, Int.ofNat 1)], Int.ofNat 0), ([(4, Int.ofNat 1)], Int.ofNat 0)])
noncomputable def qL_21 : zNx := (1, 0, ([(Int.ofNat 0, Int.ofNat 3072), (Int.ofNat 0, Int.ofNat 3072), (Int.ofNat 0, Int.ofNat 2000), (Int.ofNat 0, Int.ofNat 12288), (Int.ofNat 0, Int.ofNat 12288), (Int.negSucc 2147483647, Int.ofNat 2147483647), (Int.ofNat 14, Int.ofNat 14), (Int.negSucc 2147483647, Int.ofNat 2147483647), (Int.negSucc 2147483647, Int.ofNat 2147483647), (Int.negSucc 2147483647, Int.ofNat 2147483647), (Int.ofNat 0, Int.ofNat 20), (Int.ofNat 0, Int.ofNat 20), (Int.ofNat 0, Int.ofNat 400), (Int.ofNat 0, Int.ofNat 60), (Int.ofNat 0, Int.ofNat 5120), (Int.ofNat 0, Int.ofNat 2000), (Int.ofNat 0, Int.ofNat 200), (Int.ofNat 0, Int.ofNat 0), (Int.ofNat 0, Int.ofNat 3), (Int.ofNat 0, Int.ofNat 200), (Int.ofNat 0, Int.ofNat 20), (Int.ofNat 0, Int.ofNat 400), (Int.ofNat 0, Int.ofNat 60), (Int.ofNat 0, Int.ofNat 21), (Int.ofNat 0, Int.ofNat 2000), (Int.negSucc 2147483647, Int.ofNat 2147483647), (Int.negSucc 2147483647, Int.ofNat 2147483647), (Int.negSucc 2147483647, Int.ofNat 2147483647), (Int.ofNat 0, Int.ofNat 1), (Int.negSucc 9223372036854775807, Int.ofNat 9223372036854775807)], [([(28, Int.negSucc 0), (17, Int.ofNat 1)], Int.ofNat 0), ([(28, Int.ofNat 1), (17, Int.negSucc 0)], Int.ofNat 0), ([(1, Int.negSucc 0), (0, Int.ofNat 1)], Int.negSucc 5), ([(1, Int.negSucc 0), (0, Int.ofNat 1)], Int.ofNat 0), ([(3, Int.negSucc 0), (2, Int.negSucc 0), (1, Int.ofNat 4)], Int.ofNat 0), ([(4, Int.negSucc 0), (2, Int.negSucc 0), (1, Int.ofNat 4)], Int.ofNat 0)], [], [(0, 0, ([], Int.ofNat 0))], [(1, (0, ([], 0), ([], 0), ([], 0)), m0_, []), (1, (0, ([], 0), ([], 0), ([], 0)), m1_, []), (1, (0, ([], 0), ([], 0), ([], 0)), m151_, []), (1, (0, ([], 0), ([], 0), ([], 0)), m155_, i39_)], [(1, 2, ([], Int.ofNat 0), ([], Int.ofNat 3), ([(2, Int.ofNat 1)], Int.ofNat 0)), (1, 15, ([], Int.ofNat 0), ([], Int.ofNat 3), ([(2, Int.ofNat 1)], Int.ofNat 0)), (1, 15, ([], Int.ofNat 0), ([], Int.ofNat 8), ([(3, Int.ofNat 1)], Int.ofNat 0)), (1, 15, ([], Int.ofNat 0), ([], Int.ofNat 9), ([(4, Int.ofNat 1)], Int.ofNat 0)), (0, 113, ([], Int.ofNat 0), ([(1, Int.ofNat 1)], Int.ofNat 0), ([(5, Int.ofNat 1)], Int.ofNat 0)), (0, 113, ([], Int.ofNat 0), ([(1, Int.ofNat 1)], Int.ofNat 1), ([(7, Int.ofNat 1)], Int.ofNat 0)), (1, 0, ([], Int.ofNat 0), ([], Int.ofNat 8), ([(8, Int.ofNat 1)], Int.ofNat 0)), (1, 0, ([], Int.ofNat 0), ([], Int.ofNat 9), ([(9, Int.ofNat 1)], Int.ofNat 0)), (1, 1, ([], Int.ofNat 0), ([], Int.ofNat 7), ([(10, Int.ofNat 1)], Int.ofNat 0)), (1, 1, ([], Int.ofNat 0), ([], Int.ofNat 8), ([(11, Int.ofNat 1)], Int.ofNat 0)), (1, 1, ([], Int.ofNat 0), ([], Int.ofNat 9), ([(12, Int.ofNat 1)], Int.ofNat 0)), (1, 1, ([], Int.ofNat 0), ([], Int.ofNat 10), ([(13, Int.ofNat 1)], Int.ofNat 0)), (1, 3, ([], Int.ofNat 0), ([], Int.ofNat 1), ([(14, Int.ofNat 1)], Int.ofNat 0)), (1, 4, ([], Int.ofNat 0), ([], Int.ofNat 7), ([(15, Int.ofNat 1)], Int.ofNat 0)), (1, 7, ([], Int.ofNat 0), ([], Int.ofNat 1), ([(16, Int.ofNat 1)], Int.ofNat 0)), (1, 15, ([], Int.ofNat 0), ([], Int.ofNat 0), ([(18, Int.ofNat 1)], Int.ofNat 0)), (1, 15, ([], Int.ofNat 0), ([], Int.ofNat 4), ([(19, Int.ofNat 1)], Int.ofNat 0)), (1, 15, ([], Int.ofNat 0), ([], Int.ofNat 13), ([(20, Int.ofNat 1)], Int.ofNat 0)), (1, 15, ([], Int.ofNat 0), ([], Int.ofNat 17), ([(21, Int.ofNat 1)], Int.ofNat 0)), (1, 15, ([], Int.ofNat 0), ([], Int.ofNat 32), ([(22, Int.ofNat 1)], Int.ofNat 0)), (1, 15, ([], Int.ofNat 0), ([], Int.ofNat 61), ([(23, Int.ofNat 1)], Int.ofNat 0)), (1, 15, ([], Int.ofNat 0), ([], Int.ofNat 71), ([(24, Int.ofNat 1)], Int.ofNat 0)), (1, 15, ([], Int.ofNat 0), ([], Int.ofNat 74), ([(25, Int.ofNat 1)], Int.ofNat 0)), (1, 15, ([], Int.ofNat 0), ([], Int.ofNat 75), ([(26, Int.ofNat 1)], Int.ofNat 0)), (3, 15, ([], Int.ofNat 0), ([], Int.ofNat 0), ([(28, Int.ofNat 1)], Int.ofNat 0)), (2, 112, ([], Int.ofNat 0), ([], Int.ofNat 0), ([(29, Int.ofNat 1)], Int.ofNat 0))], 0, 0), [(.inr (.iand), [([(5, Int.ofNat 1)], Int.ofNat 0), ([], Int.ofNat 15)], 0, 0, ([(6, Int.ofNat 1)], Int.ofNat 0)), (.inl 279, [([(7, Int.ofNat 1)], Int.ofNat 0), ([(2, Int.ofNat 1)], Int.ofNat 0), ([(8, Int.ofNat 1)], Int.ofNat 0), ([(9, Int.ofNat 1)], Int.ofNat 0), ([(10, Int.ofNat 1)], Int.ofNat 0), ([(11, Int.ofNat 1)], Int.ofNat 0), ([(12, Int.ofNat 1)], Int.ofNat 0), ([(13, Int.ofNat 1)], Int.ofNat 0), ([(14, Int.ofNat 1)], Int.ofNat 0), ([(15, Int.ofNat 1)], Int.ofNat 0), ([(16, Int.ofNat 1)], Int.ofNat 0)], 1, 0, ([(17, Int.ofNat 1)], Int.ofNat 0)), (.inl 84, [([(7, Int.ofNat 1)], Int.ofNat 0), ([(18, Int.ofNat 1)], Int.ofNat 0), ([(2, Int.ofNat 1)], Int.ofNat 0), ([(19, Int.ofNat 1)], Int.ofNat 0), ([(3, Int.ofNat 1)], Int.ofNat 0), ([(20, Int.ofNat 1)], Int.ofNat 0), ([(21, Int.ofNat 1)], Int.ofNat 0), ([(22, Int.ofNat 1)], Int.ofNat 0), ([(23, Int.ofNat 1)], Int.ofNat 0), ([(24, Int.ofNat 1)], Int.ofNat 0), ([(25, Int.ofNat 1)], Int.ofNat 0), ([(26, Int.ofNat 1)], Int.ofNat 0)], 2, 0, ([(27, Int.ofNat 1)], Int.ofNat 0)), (.inl 0, [([(28, Int.ofNat 1)], Int.ofNat 0)], 3, 0, ([(28, Int.ofNat 1)], Int.ofNat 0)), (.inr (.nop), [([(29, Int.ofNat 1)], Int.ofNat 0), ([(27, Int.ofNat 1)], Int.ofNat 0), ([], Int.ofNat 0)], 0, 0, ([], Int.ofNat 0))], [])
noncomputable def qL_22 : zNx := (1, 0, ([(Int.ofNat 0, Int.ofNat 3072), (Int.ofNat 0, Int.ofNat 3072), (Int.ofNat 0, Int.ofNat 2000), (Int.ofNat 0, Int.ofNat 12288), (Int.ofNat 0, Int.ofNat 12288), (Int.negSucc 2147483647, Int.ofNat 2147483647), (Int.ofNat 14, Int.ofNat 14), (Int.negSucc 2147483647, Int.ofNat 2147483647), (Int.negSucc 2147483647, Int.ofNat 2147483647), (Int.negSucc 2147483647, Int.ofNat 2147483647), (Int.ofNat 0, Int.ofNat 20), (Int.ofNat 0, Int.ofNat 20), (Int.ofNat 0, Int.ofNat 400), (Int.ofNat 0, Int.ofNat 60), (Int.ofNat 0, Int.ofNat 5120), (Int.ofNat 0, Int.ofNat 2000), (Int.ofNat 0, Int.ofNat 200), (Int.ofNat 0, Int.ofNat 1), (Int.ofNat 0, Int.ofNat 3), (Int.ofNat 0, Int.ofNat 200), (Int.ofNat 0, Int.ofNat 20), (Int.ofNat 0, Int.ofNat 400), (Int.ofNat 0, Int.ofNat 60), (Int.ofNat 0, Int.ofNat 21), (Int.ofNat 0, Int.ofNat 2000), (Int.negSucc 2147483647, Int.ofNat 2147483647), (Int.negSucc 2147483647, Int.ofNat 2147483647), (Int.negSucc 2147483647, Int.ofNat 2147483647), (Int.ofNat 0, Int.ofNat 1)], [([(1, Int.negSucc 0), (0, Int.ofNat 1)], Int.negSucc 5), ([(1, Int.negSucc 0), (0, Int.ofNat 1)], Int.ofNat 0), ([(3, Int.negSucc 0), (2, Int.negSucc 0), (1, Int.ofNat 4)], Int.ofNat 0), ([(4, Int.negSucc 0), (2, Int.negSucc 0), (1, Int.ofNat 4)], Int.ofNat 0)], [], [(0, 0, ([], Int.ofNat 0))], [(1, (0, ([], 0), ([], 0), ([], 0)), m0_, []), (1, (0, ([], 0), ([], 0), ([], 0)), m1_, []), (1, (0, ([], 0), ([], 0), ([], 0)), m151_, []), (1, (0, ([], 0), ([], 0), ([], 0)), m155_, i39_)], [(1, 2, ([], Int.ofNat 0), ([], Int.ofNat 3), ([(2, Int.ofNat 1)], Int.ofNat 0)), (1, 15, ([], Int.ofNat 0), ([], Int.ofNat 3), ([(2, Int.ofNat 1)], Int.ofNat 0)), (1, 15, ([], Int.ofNat 0), ([], Int.ofNat 8), ([(3, Int.ofNat 1)], Int.ofNat 0)), (1, 15, ([], Int.ofNat 0), ([], Int.ofNat 9), ([(4, Int.ofNat 1)], Int.ofNat 0)), (0, 113, ([], Int.ofNat 0), ([(1, Int.ofNat 1)], Int.ofNat 0), ([(5, Int.ofNat 1)], Int.ofNat 0)), (0, 113, ([], Int.ofNat 0), ([(1, Int.ofNat 1)], Int.ofNat 1), ([(7, Int.ofNat 1)], Int.ofNat 0)), (1, 0, ([], Int.ofNat 0), ([], Int.ofNat 8), ([(8, Int.ofNat 1)], Int.ofNat 0)), (1, 0, ([], Int.ofNat 0), ([], Int.ofNat 9), ([(9, Int.ofNat 1)], Int.ofNat 0)), (1, 1, ([], Int.ofNat 0), ([], Int.ofNat 7), ([(10, Int.ofNat 1)], Int.ofNat 0)), (1, 1, ([], Int.ofNat 0), ([], Int.ofNat 8), ([(11, Int.ofNat 1)], Int.ofNat 0)), (1, 1, ([], Int.ofNat 0), ([], Int.ofNat 9), ([(12, Int.ofNat 1)], Int.ofNat 0)), (1, 1, ([], Int.ofNat 0), ([], Int.ofNat 10), ([(13, Int.ofNat 1)], Int.ofNat 0)), (1, 3, ([], Int.ofNat 0), ([], Int.ofNat 1), ([(14, Int.ofNat 1)], Int.ofNat 0)), (1, 4, ([], Int.ofNat 0), ([], Int.ofNat 7), ([(15, Int.ofNat 1)], Int.ofNat 0)), (1, 7, ([], Int.ofNat 0), ([], Int.ofNat 1), ([(16, Int.ofNat 1)], Int.ofNat 0)), (1, 15, ([], Int.ofNat 0), ([], Int.ofNat 0), ([(18, Int.ofNat 1)], Int.ofNat 0)), (1, 15, ([], Int.ofNat 0), ([], Int.ofNat 4), ([(19, Int.ofNat 1)], Int.ofNat 0)), (1, 15, ([], Int.ofNat 0), ([], Int.ofNat 13), ([(20, Int.ofNat 1)], Int.ofNat 0)), (1, 15, ([], Int.ofNat 0), ([], Int.ofNat 17), ([(21, Int.ofNat 1)], Int.ofNat 0)), (1, 15, ([], Int.ofNat 0), ([], Int.ofNat 32), ([(22, Int.ofNat 1)], Int.ofNat 0)), (1, 15, ([], Int.ofNat 0), ([], Int.ofNat 61), ([(23, Int.ofNat 1)], Int.ofNat 0)), (1, 15, ([], Int.ofNat 0), ([], Int.ofNat 71), ([(24, Int.ofNat 1)], Int.ofNat 0)), (1, 15, ([], Int.ofNat 0), ([], Int.ofNat 74), ([(25, Int.ofNat 1)], Int.ofNat 0)), (1, 15, ([], Int.ofNat 0), ([], Int.ofNat 75), ([(26, Int.ofNat 1)], Int.ofNat 0)), (3, 15, ([], Int.ofNat 0), ([], Int.ofNat 0), ([(28, Int.ofNat 1)], Int.ofNat 0))], 0, 0), [(.inr (.iand), [([(5, Int.ofNat 1)], Int.ofNat 0), ([], Int.ofNat 15)], 0, 0, ([(6, Int.ofNat 1)], Int.ofNat 0)), (.inl 279, [([(7, Int.ofNat 1)], Int.ofNat 0), ([(2, Int.ofNat 1)], Int.ofNat 0), ([(8, Int.ofNat 1)], Int.ofNat 0), ([(9, Int.ofNat 1)], Int.ofNat 0), ([(10, Int.ofNat 1)], Int.ofNat 0), ([(11, Int.ofNat 1)], Int.ofNat 0), ([(12, Int.ofNat 1)], Int.ofNat 0), ([(13, Int.ofNat 1)], Int.ofNat 0), ([(14, Int.ofNat 1)], Int.ofNat 0), ([(15, Int.ofNat 1)], Int.ofNat 0), ([(16, Int.ofNat 1)], Int.ofNat 0)], 1, 0, ([(17, Int.ofNat 1)], Int.ofNat 0)), (.inl 84, [([(7, Int.ofNat 1)], Int.ofNat 0), ([(18, Int.ofNat 1)], Int.ofNat 0), ([(2, Int.ofNat 1)], Int.ofNat 0), ([(19, Int.ofNat 1)], Int.ofNat 0), ([(3, Int.ofNat 1)], Int.ofNat 0), ([(20, Int.ofNat 1)], Int.ofNat 0), ([(21, Int.ofNat 1)], Int.ofNat 0), ([(22, Int.ofNat 1)], Int.ofNat 0), ([(23, Int.ofNat 1)], Int.ofNat 0), ([(24, Int.ofNat 1)], Int.ofNat 0), ([(25, Int.ofNat 1)], Int.ofNat 0), ([(26, Int.ofNat 1)], Int.ofNat 0)], 2, 0, ([(27, Int.ofNat 1)], Int.ofNat 0)), (.inl 0, [([(28, Int.ofNat 1)], Int.ofNat 0)], 3, 0, ([(28, Int.ofNat 1)], Int.ofNat 0)), (.inr (.nop), [([(28, Int.ofNat 1)], Int.ofNat 0), ([(17, Int.ofNat 1)], Int.ofNat 0), ([], Int.ofNat 0)], 0, 0, ([], Int.ofNat 0))], [])
noncomputable def qLs : List zNx := [qL_0, qL_1, qL_2, qL_3, qL_4, qL_5, qL_6, qL_7, qL_8, qL_9, qL_10, qL_11, qL_12, qL_13, qL_14, qL_15, qL_16, qL_17, qL_18, qL_19, qL_20, qL_21, qL_22]
theorem lr_0 {S : Nat → zSpc}  {a : List Int} {g : rHp} : ∀ (ρ : Nat → Int) (γ : Nat → rHp), rRg uW (γ 1) → lJC (ρ 1) (γ 1) → zO 1 S a g qL_0 ρ γ → zGl (fun _ vs g1 => lJC (vs.getD 1 0) g1) (fun _ v _ => v = 1) qL_0 ρ γ := by
  intro ρ γ hW hJ h
  obtain ⟨-, -, hr, hf, hm, hc, hl⟩ := h
  obtain ⟨B, hB, hR⟩ := hJ
  obtain ⟨r0, r1, r2, r3, r4, -⟩ := hr
  have r0 : (0 : Int) ≤ ρ 0 ∧ ρ 0 ≤ 3072 := r0
  have r1 : (0 : Int) ≤ ρ 1 ∧ ρ 1 ≤ 3072 := r1
  obtain ⟨f0, f1, f2, f3, -⟩ := hf
  have f0 : (0 : Int) ≤ ρ 1 + -ρ 0 + 5 := f0
  have f1 : (0 : Int) ≤ -ρ 1 + ρ 0 := f1
  have f2 : (0 : Int) ≤ -ρ 3 + (-ρ 2 + 4 * ρ 1) := f2
  have f3 : (0 : Int) ≤ -ρ 4 + (-ρ 2 + 4 * ρ 1) := f3
  obtain ⟨-, c1⟩ := hc
  have c1 : ∀ (G : Nat) (k j : Int), ¬ rMdP m155_ G j → γ 1 G k j = γ 0 G k j := c1
  exact (show (1 : Int) = 1 from rfl)
theorem lr_1 {S : Nat → zSpc}  {a : List Int} {g : rHp} : ∀ (ρ : Nat → Int) (γ : Nat → rHp), rRg uW (γ 1) → lJC (ρ 1) (γ 1) → zO 1 S a g qL_1 ρ γ → zGl (fun _ vs g1 => lJC (vs.getD 1 0) g1) (fun _ v _ => v = 1) qL_1 ρ γ := by
  intro ρ γ hW hJ h
  obtain ⟨-, -, hr, hf, hm, hc, hl⟩ := h
  obtain ⟨B, hB, hR⟩ := hJ
  obtain ⟨r0, r1, r2, r3, r4, r5, r6, -⟩ := hr
  have r0 : (0 : Int) ≤ ρ 0 ∧ ρ 0 ≤ 3072 := r0
  have r1 : (0 : Int) ≤ ρ 1 ∧ ρ 1 ≤ 3072 := r1
  obtain ⟨f0, f1, f2, f3, -⟩ := hf
  have f0 : (0 : Int) ≤ -ρ 1 + ρ 0 + (-6) := f0
  have f1 : (0 : Int) ≤ -ρ 1 + ρ 0 := f1
  have f2 : (0 : Int) ≤ -ρ 3 + (-ρ 2 + 4 * ρ 1) := f2
  have f3 : (0 : Int) ≤ -ρ 4 + (-ρ 2 + 4 * ρ 1) := f3
  obtain ⟨-, c1⟩ := hc
  have c1 : ∀ (G : Nat) (k j : Int), ¬ rMdP m155_ G j → γ 1 G k j = γ 0 G k j := c1
  obtain ⟨l0, -⟩ := hl
  show lJC (ρ 1 + 6) (γ 1)
  exact ⟨B, by omega, hR⟩
theorem lr_2 {S : Nat → zSpc} (hS267 : ∀ x g o v g_q, S 267 x g o v g_q → sn267 x g o v g_q) (hS3 : ∀ x g o v g_q, S 3 x g o v g_q → sn3 x g o v g_q) {a : List Int} {g : rHp} : ∀ (ρ : Nat → Int) (γ : Nat → rHp), rRg uW (γ 1) → lJC (ρ 1) (γ 1) → zO 1 S a g qL_2 ρ γ → zGl (fun _ vs g1 => lJC (vs.getD 1 0) g1) (fun _ v _ => v = 1) qL_2 ρ γ := by
  intro ρ γ hW hJ h
  obtain ⟨-, -, hr, hf, hm, hc, hl⟩ := h
  obtain ⟨B, hB, hR⟩ := hJ
  obtain ⟨r0, r1, r2, r3, r4, r5, r6, r7, r8, r9, r10, r11, r12, r13, -⟩ := hr
  have r0 : (0 : Int) ≤ ρ 0 ∧ ρ 0 ≤ 3072 := r0
  have r1 : (0 : Int) ≤ ρ 1 ∧ ρ 1 ≤ 3072 := r1
  obtain ⟨f0, f1, f2, f3, -⟩ := hf
  have f0 : (0 : Int) ≤ -ρ 1 + ρ 0 + (-6) := f0
  have f1 : (0 : Int) ≤ -ρ 1 + ρ 0 := f1
  have f2 : (0 : Int) ≤ -ρ 3 + (-ρ 2 + 4 * ρ 1) := f2
  have f3 : (0 : Int) ≤ -ρ 4 + (-ρ 2 + 4 * ρ 1) := f3
  obtain ⟨⟨⟨-, c1⟩, c2⟩, c3⟩ := hc
  have c1 : ∀ (G : Nat) (k j : Int), ¬ rMdP m155_ G j → γ 1 G k j = γ 0 G k j := c1
  have c2 : ∀ (G : Nat) (k j : Int), ¬ rMdP m147_ G j → γ 2 G k j = γ 1 G k j := c2
  have c3 : ∀ (G : Nat) (k j : Int), ¬ rMdP m3_ G j → γ 3 G k j = γ 2 G k j := c3
  obtain ⟨l0, l1, l2, -⟩ := hl
  have l1 : sn267 [ρ 7, ρ 8, ρ 9, ρ 10, ρ 11, ρ 2, ρ 12] (γ 1) 0 0 (γ 2) := hS267 _ _ _ _ _ l1
  have l2 : sn3 [ρ 7, ρ 8, ρ 9, ρ 10, ρ 11, ρ 2, ρ 13] (γ 2) 0 (ρ 2 + 20) (γ 3) := hS3 _ _ _ _ _ l2
  have M2 := eqM_k (ms := m147_) (by decide +kernel) c2
  have S2 := eqS_k (ms := m147_) (by decide +kernel) c2
  have k2 : γ 2 15 0 13 = γ 1 15 0 13 := zKo (ms := m147_) (G := 15) (n := 13) (by decide) (by decide +kernel) c2 0
  have J2 := JJ_eq hR.1.1 eqC_rf M2
  have C3 := eqC_k (ms := m3_) (by decide +kernel) c3
  have T3 := eqT_k (ms := m3_) (by decide +kernel) c3
  have fl3 : γ 3 0 0 7 = γ 2 0 0 7 := C3.1.2.2.2.2.2
  have S3 := eqS_k (ms := m3_) (by decide +kernel) c3
  have A3 := eqA_k (ms := m3_) (by decide +kernel) c3
  have B2 := eqB_k (ms := m147_) (by decide +kernel) c2
  have A2 := eqA_k (ms := m147_) (by decide +kernel) c2
  have B3 := eqB_k (ms := m3_) (by decide +kernel) c3
  have P2 := eqP_k (ms := m147_) (by decide +kernel) c2
  have O3 := eqO_k (ms := m3_) (by decide +kernel) c3
  have N3 := eqN_k (ms := m3_) (by decide +kernel) c3
  have O2 := eqO_k (ms := m147_) (by decide +kernel) c2
  have P3 := eqP_k (ms := m3_) (by decide +kernel) c3
  have N2 := eqN_k (ms := m147_) (by decide +kernel) c2
  have Q3 := eqQ_k (ms := m3_) (by decide +kernel) c3
  have R2 := eqR_k (ms := m147_) (by decide +kernel) c2
  have Q2 := eqQ_k (ms := m147_) (by decide +kernel) c2
  have R3 := eqR_k (ms := m3_) (by decide +kernel) c3
  have T2 := eqT_k (ms := m147_) (by decide +kernel) c2
  have fl2 : γ 2 0 0 7 = γ 1 0 0 7 := zKo (ms := m147_) (G := 0) (n := 7) (by decide) (by decide +kernel) c2 0
  have k3 : γ 3 15 0 13 = γ 2 15 0 13 := zKo (ms := m3_) (G := 15) (n := 13) (by decide) (by decide +kernel) c3 0
  show lJC (ρ 1 + 6) (γ 3)
  exact ⟨B + 20, by omega, ⟨⟨JJ_eq (feed_row J2 l1 l2) C3 eqM_rf, fun w => yE1_fr (hR.1.2 (by rw [← fl2, ← fl3]; exact w)) (eqT_tr T2 T3) (eqS_tr S2 S3) (k3.trans k2)⟩, ⟨fun w => nE_fr (hR.2.1.1 (by rw [← fl2, ← fl3]; exact w)) (Int.le_trans (eqN_le N2) (eqN_le N3)) (eqS_tr S2 S3), oR_eq (oR_eq hR.2.1.2.1 O2 P2) O3 P3, pcN_eq (pcN_eq hR.2.1.2.2 N2) N3⟩, aR_eq (aR_eq hR.2.2.1 A2 B2) A3 B3, nR_eq (nR_eq hR.2.2.2 Q2 R2) Q3 R3⟩⟩
theorem lr_3 {S : Nat → zSpc} (hS267 : ∀ x g o v g_q, S 267 x g o v g_q → sn267 x g o v g_q) (hS3 : ∀ x g o v g_q, S 3 x g o v g_q → sn3 x g o v g_q) {a : List Int} {g : rHp} : ∀ (ρ : Nat → Int) (γ : Nat → rHp), rRg uW (γ 1) → lJC (ρ 1) (γ 1) → zO 1 S a g qL_3 ρ γ → zGl (fun _ vs g1 => lJC (vs.getD 1 0) g1) (fun _ v _ => v = 1) qL_3 ρ γ := by
  intro ρ γ hW hJ h
  obtain ⟨-, -, hr, hf, hm, hc, hl⟩ := h
  obtain ⟨B, hB, hR⟩ := hJ
  obtain ⟨r0, r1, r2, r3, r4, r5, r6, r7, r8, r9, r10, r11, r12, r13, -⟩ := hr
  have r0 : (0 : Int) ≤ ρ 0 ∧ ρ 0 ≤ 3072 := r0
  have r1 : (0 : Int) ≤ ρ 1 ∧ ρ 1 ≤ 3072 := r1
  obtain ⟨f0, f1, f2, f3, -⟩ := hf
  have f0 : (0 : Int) ≤ -ρ 1 + ρ 0 + (-6) := f0
  have f1 : (0 : Int) ≤ -ρ 1 + ρ 0 := f1
  have f2 : (0 : Int) ≤ -ρ 3 + (-ρ 2 + 4 * ρ 1) := f2
  have f3 : (0 : Int) ≤ -ρ 4 + (-ρ 2 + 4 * ρ 1) := f3
  obtain ⟨⟨⟨-, c1⟩, c2⟩, c3⟩ := hc
  have c1 : ∀ (G : Nat) (k j : Int), ¬ rMdP m155_ G j → γ 1 G k j = γ 0 G k j := c1
  have c2 : ∀ (G : Nat) (k j : Int), ¬ rMdP m147_ G j → γ 2 G k j = γ 1 G k j := c2
  have c3 : ∀ (G : Nat) (k j : Int), ¬ rMdP m3_ G j → γ 3 G k j = γ 2 G k j := c3
  obtain ⟨l0, l1, l2, -⟩ := hl
  have l1 : sn267 [ρ 7, ρ 8, ρ 9, ρ 10, ρ 11, ρ 2, ρ 12] (γ 1) 0 1 (γ 2) := hS267 _ _ _ _ _ l1
  have l2 : sn3 [ρ 7, ρ 8, ρ 9, ρ 10, ρ 11, ρ 2, ρ 13] (γ 2) 0 0 (γ 3) := hS3 _ _ _ _ _ l2
  have M2 := eqM_k (ms := m147_) (by decide +kernel) c2
  have S2 := eqS_k (ms := m147_) (by decide +kernel) c2
  have k2 : γ 2 15 0 13 = γ 1 15 0 13 := zKo (ms := m147_) (G := 15) (n := 13) (by decide) (by decide +kernel) c2 0
  have J2 := JJ_eq hR.1.1 eqC_rf M2
  have C3 := eqC_k (ms := m3_) (by decide +kernel) c3
  have T3 := eqT_k (ms := m3_) (by decide +kernel) c3
  have fl3 : γ 3 0 0 7 = γ 2 0 0 7 := C3.1.2.2.2.2.2
  have S3 := eqS_k (ms := m3_) (by decide +kernel) c3
  have A3 := eqA_k (ms := m3_) (by decide +kernel) c3
  have B2 := eqB_k (ms := m147_) (by decide +kernel) c2
  have A2 := eqA_k (ms := m147_) (by decide +kernel) c2
  have B3 := eqB_k (ms := m3_) (by decide +kernel) c3
  have P2 := eqP_k (ms := m147_) (by decide +kernel) c2
  have O3 := eqO_k (ms := m3_) (by decide +kernel) c3
  have N3 := eqN_k (ms := m3_) (by decide +kernel) c3
  have O2 := eqO_k (ms := m147_) (by decide +kernel) c2
  have P3 := eqP_k (ms := m3_) (by decide +kernel) c3
  have N2 := eqN_k (ms := m147_) (by decide +kernel) c2
  have Q3 := eqQ_k (ms := m3_) (by decide +kernel) c3
  have R2 := eqR_k (ms := m147_) (by decide +kernel) c2
  have Q2 := eqQ_k (ms := m147_) (by decide +kernel) c2
  have R3 := eqR_k (ms := m3_) (by decide +kernel) c3
  have T2 := eqT_k (ms := m147_) (by decide +kernel) c2
  have fl2 : γ 2 0 0 7 = γ 1 0 0 7 := zKo (ms := m147_) (G := 0) (n := 7) (by decide) (by decide +kernel) c2 0
  have k3 : γ 3 15 0 13 = γ 2 15 0 13 := zKo (ms := m3_) (G := 15) (n := 13) (by decide) (by decide +kernel) c3 0
  show lJC (ρ 1 + 6) (γ 3)
  exact ⟨B + 20, by omega, ⟨⟨JJ_eq (feed_row J2 l1 l2) C3 eqM_rf, fun w => yE1_fr (hR.1.2 (by rw [← fl2, ← fl3]; exact w)) (eqT_tr T2 T3) (eqS_tr S2 S3) (k3.trans k2)⟩, ⟨fun w => nE_fr (hR.2.1.1 (by rw [← fl2, ← fl3]; exact w)) (Int.le_trans (eqN_le N2) (eqN_le N3)) (eqS_tr S2 S3), oR_eq (oR_eq hR.2.1.2.1 O2 P2) O3 P3, pcN_eq (pcN_eq hR.2.1.2.2 N2) N3⟩, aR_eq (aR_eq hR.2.2.1 A2 B2) A3 B3, nR_eq (nR_eq hR.2.2.2 Q2 R2) Q3 R3⟩⟩
theorem lr_4 {S : Nat → zSpc} (hS268 : ∀ x g o v g_q, S 268 x g o v g_q → sn268 x g o v g_q) (hS4 : ∀ x g o v g_q, S 4 x g o v g_q → sn4 x g o v g_q) {a : List Int} {g : rHp} : ∀ (ρ : Nat → Int) (γ : Nat → rHp), rRg uW (γ 1) → lJC (ρ 1) (γ 1) → zO 1 S a g qL_4 ρ γ → zGl (fun _ vs g1 => lJC (vs.getD 1 0) g1) (fun _ v _ => v = 1) qL_4 ρ γ := by
  intro ρ γ hW hJ h
  obtain ⟨-, -, hr, hf, hm, hc, hl⟩ := h
  obtain ⟨B, hB, hR⟩ := hJ
  obtain ⟨r0, r1, r2, r3, r4, r5, r6, r7, r8, r9, -⟩ := hr
  have r0 : (0 : Int) ≤ ρ 0 ∧ ρ 0 ≤ 3072 := r0
  have r1 : (0 : Int) ≤ ρ 1 ∧ ρ 1 ≤ 3072 := r1
  obtain ⟨f0, f1, f2, f3, f4, -⟩ := hf
  have f0 : (0 : Int) ≤ -ρ 7 + ρ 2 := f0
  have f1 : (0 : Int) ≤ -ρ 1 + ρ 0 + (-6) := f1
  have f2 : (0 : Int) ≤ -ρ 1 + ρ 0 := f2
  have f3 : (0 : Int) ≤ -ρ 3 + (-ρ 2 + 4 * ρ 1) := f3
  have f4 : (0 : Int) ≤ -ρ 4 + (-ρ 2 + 4 * ρ 1) := f4
  obtain ⟨⟨⟨-, c1⟩, c2⟩, c3⟩ := hc
  have c1 : ∀ (G : Nat) (k j : Int), ¬ rMdP m155_ G j → γ 1 G k j = γ 0 G k j := c1
  have c2 : ∀ (G : Nat) (k j : Int), ¬ rMdP m148_ G j → γ 2 G k j = γ 1 G k j := c2
  have c3 : ∀ (G : Nat) (k j : Int), ¬ rMdP m4_ G j → γ 3 G k j = γ 2 G k j := c3
  obtain ⟨l0, l1, l2, -⟩ := hl
  have l1 : sn268 [ρ 7, ρ 2, ρ 8] (γ 1) 0 0 (γ 2) := hS268 _ _ _ _ _ l1
  have l2 : sn4 [ρ 7, ρ 2, ρ 9] (γ 2) 0 (ρ 7) (γ 3) := hS4 _ _ _ _ _ l2
  have M2 := eqM_k (ms := m148_) (by decide +kernel) c2
  have S2 := eqS_k (ms := m148_) (by decide +kernel) c2
  have k2 : γ 2 15 0 13 = γ 1 15 0 13 := zKo (ms := m148_) (G := 15) (n := 13) (by decide) (by decide +kernel) c2 0
  have J2 := JJ_eq hR.1.1 eqC_rf M2
  have C3 := eqC_k (ms := m4_) (by decide +kernel) c3
  have T3 := eqT_k (ms := m4_) (by decide +kernel) c3
  have fl3 : γ 3 0 0 7 = γ 2 0 0 7 := C3.1.2.2.2.2.2
  have S3 := eqS_k (ms := m4_) (by decide +kernel) c3
  have A3 := eqA_k (ms := m4_) (by decide +kernel) c3
  have B2 := eqB_k (ms := m148_) (by decide +kernel) c2
  have A2 := eqA_k (ms := m148_) (by decide +kernel) c2
  have B3 := eqB_k (ms := m4_) (by decide +kernel) c3
  have P2 := eqP_k (ms := m148_) (by decide +kernel) c2
  have O3 := eqO_k (ms := m4_) (by decide +kernel) c3
  have N3 := eqN_k (ms := m4_) (by decide +kernel) c3
  have O2 := eqO_k (ms := m148_) (by decide +kernel) c2
  have P3 := eqP_k (ms := m4_) (by decide +kernel) c3
  have N2 := eqN_k (ms := m148_) (by decide +kernel) c2
  have Q3 := eqQ_k (ms := m4_) (by decide +kernel) c3
  have R2 := eqR_k (ms := m148_) (by decide +kernel) c2
  have Q2 := eqQ_k (ms := m148_) (by decide +kernel) c2
  have R3 := eqR_k (ms := m4_) (by decide +kernel) c3
  have T2 := eqT_k (ms := m148_) (by decide +kernel) c2
  have fl2 : γ 2 0 0 7 = γ 1 0 0 7 := zKo (ms := m148_) (G := 0) (n := 7) (by decide) (by decide +kernel) c2 0
  have k3 : γ 3 15 0 13 = γ 2 15 0 13 := zKo (ms := m4_) (G := 15) (n := 13) (by decide) (by decide +kernel) c3 0
  show lJC (ρ 1 + 6) (γ 3)
  exact ⟨B, by omega, ⟨⟨JJ_eq (end_row J2 l1 l2) C3 eqM_rf, fun w => yE1_fr (hR.1.2 (by rw [← fl2, ← fl3]; exact w)) (eqT_tr T2 T3) (eqS_tr S2 S3) (k3.trans k2)⟩, ⟨fun w => nE_fr (hR.2.1.1 (by rw [← fl2, ← fl3]; exact w)) (Int.le_trans (eqN_le N2) (eqN_le N3)) (eqS_tr S2 S3), oR_eq (oR_eq hR.2.1.2.1 O2 P2) O3 P3, pcN_eq (pcN_eq hR.2.1.2.2 N2) N3⟩, aR_eq (aR_eq hR.2.2.1 A2 B2) A3 B3, nR_eq (nR_eq hR.2.2.2 Q2 R2) Q3 R3⟩⟩
theorem lr_5 {S : Nat → zSpc} (hS268 : ∀ x g o v g_q, S 268 x g o v g_q → sn268 x g o v g_q) (hS4 : ∀ x g o v g_q, S 4 x g o v g_q → sn4 x g o v g_q) {a : List Int} {g : rHp} : ∀ (ρ : Nat → Int) (γ : Nat → rHp), rRg uW (γ 1) → lJC (ρ 1) (γ 1) → zO 1 S a g qL_5 ρ γ → zGl (fun _ vs g1 => lJC (vs.getD 1 0) g1) (fun _ v _ => v = 1) qL_5 ρ γ := by
  intro ρ γ hW hJ h
  obtain ⟨-, -, hr, hf, hm, hc, hl⟩ := h
  obtain ⟨B, hB, hR⟩ := hJ
  obtain ⟨r0, r1, r2, r3, r4, r5, r6, r7, r8, r9, -⟩ := hr
  have r0 : (0 : Int) ≤ ρ 0 ∧ ρ 0 ≤ 3072 := r0
  have r1 : (0 : Int) ≤ ρ 1 ∧ ρ 1 ≤ 3072 := r1
  obtain ⟨f0, f1, f2, f3, f4, -⟩ := hf
  have f0 : (0 : Int) ≤ ρ 7 + -ρ 2 + (-1) := f0
  have f1 : (0 : Int) ≤ -ρ 1 + ρ 0 + (-6) := f1
  have f2 : (0 : Int) ≤ -ρ 1 + ρ 0 := f2
  have f3 : (0 : Int) ≤ -ρ 3 + (-ρ 2 + 4 * ρ 1) := f3
  have f4 : (0 : Int) ≤ -ρ 4 + (-ρ 2 + 4 * ρ 1) := f4
  obtain ⟨⟨⟨-, c1⟩, c2⟩, c3⟩ := hc
  have c1 : ∀ (G : Nat) (k j : Int), ¬ rMdP m155_ G j → γ 1 G k j = γ 0 G k j := c1
  have c2 : ∀ (G : Nat) (k j : Int), ¬ rMdP m148_ G j → γ 2 G k j = γ 1 G k j := c2
  have c3 : ∀ (G : Nat) (k j : Int), ¬ rMdP m4_ G j → γ 3 G k j = γ 2 G k j := c3
  obtain ⟨l0, l1, l2, -⟩ := hl
  have l1 : sn268 [ρ 7, ρ 2, ρ 8] (γ 1) 0 1 (γ 2) := hS268 _ _ _ _ _ l1
  have l2 : sn4 [ρ 7, ρ 2, ρ 9] (γ 2) 0 0 (γ 3) := hS4 _ _ _ _ _ l2
  have M2 := eqM_k (ms := m148_) (by decide +kernel) c2
  have S2 := eqS_k (ms := m148_) (by decide +kernel) c2
  have k2 : γ 2 15 0 13 = γ 1 15 0 13 := zKo (ms := m148_) (G := 15) (n := 13) (by decide) (by decide +kernel) c2 0
  have J2 := JJ_eq hR.1.1 eqC_rf M2
  have C3 := eqC_k (ms := m4_) (by decide +kernel) c3
  have T3 := eqT_k (ms := m4_) (by decide +kernel) c3
  have fl3 : γ 3 0 0 7 = γ 2 0 0 7 := C3.1.2.2.2.2.2
  have S3 := eqS_k (ms := m4_) (by decide +kernel) c3
  have A3 := eqA_k (ms := m4_) (by decide +kernel) c3
  have B2 := eqB_k (ms := m148_) (by decide +kernel) c2
  have A2 := eqA_k (ms := m148_) (by decide +kernel) c2
  have B3 := eqB_k (ms := m4_) (by decide +kernel) c3
  have P2 := eqP_k (ms := m148_) (by decide +kernel) c2
  have O3 := eqO_k (ms := m4_) (by decide +kernel) c3
  have N3 := eqN_k (ms := m4_) (by decide +kernel) c3
  have O2 := eqO_k (ms := m148_) (by decide +kernel) c2
  have P3 := eqP_k (ms := m4_) (by decide +kernel) c3
  have N2 := eqN_k (ms := m148_) (by decide +kernel) c2
  have Q3 := eqQ_k (ms := m4_) (by decide +kernel) c3
  have R2 := eqR_k (ms := m148_) (by decide +kernel) c2
  have Q2 := eqQ_k (ms := m148_) (by decide +kernel) c2
  have R3 := eqR_k (ms := m4_) (by decide +kernel) c3
  have T2 := eqT_k (ms := m148_) (by decide +kernel) c2
  have fl2 : γ 2 0 0 7 = γ 1 0 0 7 := zKo (ms := m148_) (G := 0) (n := 7) (by decide) (by decide +kernel) c2 0
  have k3 : γ 3 15 0 13 = γ 2 15 0 13 := zKo (ms := m4_) (G := 15) (n := 13) (by decide) (by decide +kernel) c3 0
  show lJC (ρ 1 + 6) (γ 3)
  exact ⟨B, by omega, ⟨⟨JJ_eq (end_row J2 l1 l2) C3 eqM_rf, fun w => yE1_fr (hR.1.2 (by rw [← fl2, ← fl3]; exact w)) (eqT_tr T2 T3) (eqS_tr S2 S3) (k3.trans k2)⟩, ⟨fun w => nE_fr (hR.2.1.1 (by rw [← fl2, ← fl3]; exact w)) (Int.le_trans (eqN_le N2) (eqN_le N3)) (eqS_tr S2 S3), oR_eq (oR_eq hR.2.1.2.1 O2 P2) O3 P3, pcN_eq (pcN_eq hR.2.1.2.2 N2) N3⟩, aR_eq (aR_eq hR.2.2.1 A2 B2) A3 B3, nR_eq (nR_eq hR.2.2.2 Q2 R2) Q3 R3⟩⟩
theorem lr_6 {S : Nat → zSpc} (hS268 : ∀ x g o v g_q, S 268 x g o v g_q → sn268 x g o v g_q) (hS4 : ∀ x g o v g_q, S 4 x g o v g_q → sn4 x g o v g_q) {a : List Int} {g : rHp} : ∀ (ρ : Nat → Int) (γ : Nat → rHp), rRg uW (γ 1) → lJC (ρ 1) (γ 1) → zO 1 S a g qL_6 ρ γ → zGl (fun _ vs g1 => lJC (vs.getD 1 0) g1) (fun _ v _ => v = 1) qL_6 ρ γ := by
  intro ρ γ hW hJ h
  obtain ⟨-, -, hr, hf, hm, hc, hl⟩ := h
  obtain ⟨B, hB, hR⟩ := hJ
  obtain ⟨r0, r1, r2, r3, r4, r5, r6, r7, r8, r9, -⟩ := hr
  have r0 : (0 : Int) ≤ ρ 0 ∧ ρ 0 ≤ 3072 := r0
  have r1 : (0 : Int) ≤ ρ 1 ∧ ρ 1 ≤ 3072 := r1
  obtain ⟨f0, f1, f2, f3, -⟩ := hf
  have f0 : (0 : Int) ≤ -ρ 1 + ρ 0 + (-6) := f0
  have f1 : (0 : Int) ≤ -ρ 1 + ρ 0 := f1
  have f2 : (0 : Int) ≤ -ρ 3 + (-ρ 2 + 4 * ρ 1) := f2
  have f3 : (0 : Int) ≤ -ρ 4 + (-ρ 2 + 4 * ρ 1) := f3
  obtain ⟨⟨⟨-, c1⟩, c2⟩, c3⟩ := hc
  have c1 : ∀ (G : Nat) (k j : Int), ¬ rMdP m155_ G j → γ 1 G k j = γ 0 G k j := c1
  have c2 : ∀ (G : Nat) (k j : Int), ¬ rMdP m148_ G j → γ 2 G k j = γ 1 G k j := c2
  have c3 : ∀ (G : Nat) (k j : Int), ¬ rMdP m4_ G j → γ 3 G k j = γ 2 G k j := c3
  obtain ⟨l0, l1, l2, -⟩ := hl
  have l1 : sn268 [ρ 7, ρ 2, ρ 8] (γ 1) 0 1 (γ 2) := hS268 _ _ _ _ _ l1
  have l2 : sn4 [ρ 7, ρ 2, ρ 9] (γ 2) 0 0 (γ 3) := hS4 _ _ _ _ _ l2
  have M2 := eqM_k (ms := m148_) (by decide +kernel) c2
  have S2 := eqS_k (ms := m148_) (by decide +kernel) c2
  have k2 : γ 2 15 0 13 = γ 1 15 0 13 := zKo (ms := m148_) (G := 15) (n := 13) (by decide) (by decide +kernel) c2 0
  have J2 := JJ_eq hR.1.1 eqC_rf M2
  have C3 := eqC_k (ms := m4_) (by decide +kernel) c3
  have T3 := eqT_k (ms := m4_) (by decide +kernel) c3
  have fl3 : γ 3 0 0 7 = γ 2 0 0 7 := C3.1.2.2.2.2.2
  have S3 := eqS_k (ms := m4_) (by decide +kernel) c3
  have A3 := eqA_k (ms := m4_) (by decide +kernel) c3
  have B2 := eqB_k (ms := m148_) (by decide +kernel) c2
  have A2 := eqA_k (ms := m148_) (by decide +kernel) c2
  have B3 := eqB_k (ms := m4_) (by decide +kernel) c3
  have P2 := eqP_k (ms := m148_) (by decide +kernel) c2
  have O3 := eqO_k (ms := m4_) (by decide +kernel) c3
  have N3 := eqN_k (ms := m4_) (by decide +kernel) c3
  have O2 := eqO_k (ms := m148_) (by decide +kernel) c2
  have P3 := eqP_k (ms := m4_) (by decide +kernel) c3
  have N2 := eqN_k (ms := m148_) (by decide +kernel) c2
  have Q3 := eqQ_k (ms := m4_) (by decide +kernel) c3
  have R2 := eqR_k (ms := m148_) (by decide +kernel) c2
  have Q2 := eqQ_k (ms := m148_) (by decide +kernel) c2
  have R3 := eqR_k (ms := m4_) (by decide +kernel) c3
  have T2 := eqT_k (ms := m148_) (by decide +kernel) c2
  have fl2 : γ 2 0 0 7 = γ 1 0 0 7 := zKo (ms := m148_) (G := 0) (n := 7) (by decide) (by decide +kernel) c2 0
  have k3 : γ 3 15 0 13 = γ 2 15 0 13 := zKo (ms := m4_) (G := 15) (n := 13) (by decide) (by decide +kernel) c3 0
  show lJC (ρ 1 + 6) (γ 3)
  exact ⟨B, by omega, ⟨⟨JJ_eq (end_row J2 l1 l2) C3 eqM_rf, fun w => yE1_fr (hR.1.2 (by rw [← fl2, ← fl3]; exact w)) (eqT_tr T2 T3) (eqS_tr S2 S3) (k3.trans k2)⟩, ⟨fun w => nE_fr (hR.2.1.1 (by rw [← fl2, ← fl3]; exact w)) (Int.le_trans (eqN_le N2) (eqN_le N3)) (eqS_tr S2 S3), oR_eq (oR_eq hR.2.1.2.1 O2 P2) O3 P3, pcN_eq (pcN_eq hR.2.1.2.2 N2) N3⟩, aR_eq (aR_eq hR.2.2.1 A2 B2) A3 B3, nR_eq (nR_eq hR.2.2.2 Q2 R2) Q3 R3⟩⟩
theorem lr_7 {S : Nat → zSpc} (hS166 : ∀ x g o v g_q, S 166 x g o v g_q → sn166 x g o v g_q) (hS51 : ∀ x g o v g_q, S 51 x g o v g_q → sn51 x g o v g_q) {a : List Int} {g : rHp} : ∀ (ρ : Nat → Int) (γ : Nat → rHp), rRg uW (γ 1) → lJC (ρ 1) (γ 1) → zO 1 S a g qL_7 ρ γ → zGl (fun _ vs g1 => lJC (vs.getD 1 0) g1) (fun _ v _ => v = 1) qL_7 ρ γ := by
  intro ρ γ hW hJ h
  obtain ⟨-, -, hr, hf, hm, hc, hl⟩ := h
  obtain ⟨B, hB, hR⟩ := hJ
  obtain ⟨r0, r1, r2, r3, r4, r5, r6, r7, r8, r9, r10, r11, r12, r13, r14, r15, r16, r17, r18, r19, r20, r21, r22, r23, r24, r25, r26, r27, r28, r29, r30, r31, r32, r33, r34, r35, r36, r37, r38, r39, r40, r41, r42, r43, r44, r45, r46, r47, r48, r49, r50, r51, r52, r53, r54, r55, r56, r57, r58, r59, r60, r61, r62, r63, r64, r65, r66, r67, r68, r69, r70, r71, r72, r73, r74, r75, r76, r77, r78, r79, r80, r81, r82, r83, r84, r85, r86, r87, r88, r89, r90, r91, r92, r93, r94, r95, r96, r97, r98, r99, r100, r101, r102, -⟩ := hr
  have r0 : (0 : Int) ≤ ρ 0 ∧ ρ 0 ≤ 3072 := r0
  have r1 : (0 : Int) ≤ ρ 1 ∧ ρ 1 ≤ 3072 := r1
  obtain ⟨f0, f1, f2, f3, f4, f5, f6, f7, f8, f9, f10, f11, f12, f13, f14, f15, f16, f17, f18, f19, f20, f21, f22, f23, f24, -⟩ := hf
  have f0 : (0 : Int) ≤ -ρ 3 + -ρ 2 + 12288 := f0
  have f1 : (0 : Int) ≤ -ρ 4 + -ρ 2 + 12288 := f1
  have f2 : (0 : Int) ≤ ρ 79 + -ρ 3 := f2
  have f3 : (0 : Int) ≤ ρ 80 + -ρ 4 := f3
  have f4 : (0 : Int) ≤ ρ 82 + -ρ 78 := f4
  have f5 : (0 : Int) ≤ ρ 83 + -ρ 58 := f5
  have f6 : (0 : Int) ≤ ρ 84 + -ρ 59 := f6
  have f7 : (0 : Int) ≤ -ρ 88 + ρ 87 := f7
  have f8 : (0 : Int) ≤ ρ 87 + -ρ 62 := f8
  have f9 : (0 : Int) ≤ ρ 88 + -ρ 87 := f9
  have f10 : (0 : Int) ≤ -ρ 78 + ρ 2 := f10
  have f11 : (0 : Int) ≤ -ρ 82 + ρ 2 := f11
  have f12 : (0 : Int) ≤ -ρ 102 + ρ 77 := f12
  have f13 : (0 : Int) ≤ ρ 82 + (-ρ 79 + ρ 3) := f13
  have f14 : (0 : Int) ≤ ρ 82 + (-ρ 80 + ρ 4) := f14
  have f15 : (0 : Int) ≤ -ρ 81 + (-ρ 79 + (ρ 3 + ρ 2)) := f15
  have f16 : (0 : Int) ≤ -ρ 81 + (-ρ 80 + (ρ 4 + ρ 2)) := f16
  have f17 : (0 : Int) ≤ ρ 34 + -ρ 7 := f17
  have f18 : (0 : Int) ≤ ρ 41 + -ρ 16 := f18
  have f19 : (0 : Int) ≤ ρ 42 + -ρ 17 := f19
  have f20 : (0 : Int) ≤ ρ 48 + -ρ 25 := f20
  have f21 : (0 : Int) ≤ -ρ 1 + ρ 0 + (-6) := f21
  have f22 : (0 : Int) ≤ -ρ 1 + ρ 0 := f22
  have f23 : (0 : Int) ≤ -ρ 3 + (-ρ 2 + 4 * ρ 1) := f23
  have f24 : (0 : Int) ≤ -ρ 4 + (-ρ 2 + 4 * ρ 1) := f24
  obtain ⟨⟨⟨-, c1⟩, c2⟩, c3⟩ := hc
  have c1 : ∀ (G : Nat) (k j : Int), ¬ rMdP m155_ G j → γ 1 G k j = γ 0 G k j := c1
  have c2 : ∀ (G : Nat) (k j : Int), ¬ rMdP m112_ G j → γ 2 G k j = γ 1 G k j := c2
  have c3 : ∀ (G : Nat) (k j : Int), ¬ rMdP m33_ G j → γ 3 G k j = γ 2 G k j := c3
  obtain ⟨l0, l1, l2, -⟩ := hl
  have l1 : sn166 [ρ 7, ρ 8, ρ 9, ρ 10, ρ 2, ρ 11, ρ 12, ρ 13, ρ 14, ρ 15, ρ 16, ρ 17, ρ 18, ρ 19, ρ 20, ρ 21, ρ 22, ρ 23, ρ 24, ρ 25, ρ 26, ρ 27, ρ 28, ρ 29, ρ 30, ρ 31, ρ 32] (γ 1) 0 (ρ 33) (γ 2) := hS166 _ _ _ _ _ l1
  have l2 : sn51 [ρ 3, ρ 4, ρ 2, ρ 56, ρ 57, ρ 58, ρ 59, ρ 60, ρ 61, ρ 62, ρ 63, ρ 64, ρ 65, ρ 66, ρ 67, ρ 68, ρ 69, ρ 70, ρ 71, ρ 72, ρ 73, ρ 74, ρ 75, ρ 76, ρ 77] (γ 2) 0 (ρ 78) (γ 3) := hS51 _ _ _ _ _ l2
  have M2 := eqM_k (ms := m112_) (by decide +kernel) c2
  have S2 := eqS_k (ms := m112_) (by decide +kernel) c2
  have k2 : γ 2 15 0 13 = γ 1 15 0 13 := zKo (ms := m112_) (G := 15) (n := 13) (by decide) (by decide +kernel) c2 0
  have J2 := JJ_eq hR.1.1 eqC_rf M2
  have C3 := eqC_k (ms := m33_) (by decide +kernel) c3
  have T3 := eqT_k (ms := m33_) (by decide +kernel) c3
  have fl3 : γ 3 0 0 7 = γ 2 0 0 7 := C3.1.2.2.2.2.2
  have S3 := eqS_k (ms := m33_) (by decide +kernel) c3
  have A3 := eqA_k (ms := m33_) (by decide +kernel) c3
  have B2 := eqB_k (ms := m112_) (by decide +kernel) c2
  have P2 := eqP_k (ms := m112_) (by decide +kernel) c2
  have O3 := eqO_k (ms := m33_) (by decide +kernel) c3
  have N3 := eqN_k (ms := m33_) (by decide +kernel) c3
  have O2 := eqO_k (ms := m112_) (by decide +kernel) c2
  have P3 := eqP_k (ms := m33_) (by decide +kernel) c3
  have T := tell_n (tell_row J2 (by omega) l1 l2) hR.2.1.2.2 l1
  have Q3 := eqQ_k (ms := m33_) (by decide +kernel) c3
  have R2 := eqR_k (ms := m112_) (by decide +kernel) c2
  have Q2 := eqQ_k (ms := m112_) (by decide +kernel) c2
  have R3 := eqR_k (ms := m33_) (by decide +kernel) c3
  have T2 := eqT_k (ms := m112_) (by decide +kernel) c2
  have F := tell_fl J2 (by omega) l1 l2
  show lJC (ρ 1 + 6) (γ 3)
  exact ⟨B + 1, by omega, ⟨⟨JJ_eq (tell_row J2 (by omega) l1 l2) C3 eqM_rf, fun w => yE1_fr (hR.1.2 (F (by rw [← fl3]; exact w)).1) (eqT_tr T2 T3) (eqS_tr S2 S3) ((F (by rw [← fl3]; exact w)).2.trans k2)⟩, ⟨fun w => nE_fr (hR.2.1.1 (F (by rw [← fl3]; exact w)).1) (Int.le_trans T.2 (eqN_le N3)) (eqS_tr S2 S3), oR_eq (oR_eq hR.2.1.2.1 O2 P2) O3 P3, pcN_eq T.1 N3⟩, aR_eq (tell_aR J2 (aR_eq hR.2.2.1 eqA_rf B2) (by omega) l1 l2 (zKo (ms := m33_) (G := 15) (n := 95) (by decide) (by decide +kernel) c3 0)) A3 eqB_rf, nR_eq (nR_eq hR.2.2.2 Q2 R2) Q3 R3⟩⟩
theorem lr_8 {S : Nat → zSpc} (hS167 : ∀ x g o v g_q, S 167 x g o v g_q → sn167 x g o v g_q) (hS52 : ∀ x g o v g_q, S 52 x g o v g_q → sn52 x g o v g_q) {a : List Int} {g : rHp} : ∀ (ρ : Nat → Int) (γ : Nat → rHp), rRg uW (γ 1) → lJC (ρ 1) (γ 1) → zO 1 S a g qL_8 ρ γ → zGl (fun _ vs g1 => lJC (vs.getD 1 0) g1) (fun _ v _ => v = 1) qL_8 ρ γ := by
  intro ρ γ hW hJ h
  obtain ⟨-, -, hr, hf, hm, hc, hl⟩ := h
  obtain ⟨B, hB, hR⟩ := hJ
  obtain ⟨r0, r1, r2, r3, r4, r5, r6, r7, r8, r9, r10, r11, r12, r13, r14, r15, r16, r17, r18, r19, r20, r21, r22, r23, r24, r25, r26, r27, r28, r29, r30, r31, r32, r33, r34, r35, r36, r37, r38, r39, r40, r41, r42, r43, r44, r45, r46, r47, r48, r49, r50, r51, r52, r53, r54, r55, r56, r57, r58, r59, r60, r61, r62, r63, r64, r65, r66, r67, r68, r69, r70, r71, r72, r73, r74, r75, r76, r77, r78, r79, r80, r81, r82, r83, r84, r85, r86, r87, -⟩ := hr
  have r0 : (0 : Int) ≤ ρ 0 ∧ ρ 0 ≤ 3072 := r0
  have r1 : (0 : Int) ≤ ρ 1 ∧ ρ 1 ≤ 3072 := r1
  obtain ⟨f0, f1, f2, f3, f4, f5, f6, f7, f8, f9, f10, f11, f12, f13, f14, f15, f16, f17, f18, f19, f20, f21, f22, f23, f24, f25, -⟩ := hf
  have f0 : (0 : Int) ≤ -ρ 3 + -ρ 2 + 12288 := f0
  have f1 : (0 : Int) ≤ -ρ 4 + -ρ 2 + 12288 := f1
  have f2 : (0 : Int) ≤ ρ 69 + -ρ 3 := f2
  have f3 : (0 : Int) ≤ ρ 70 + -ρ 4 := f3
  have f4 : (0 : Int) ≤ ρ 74 + -ρ 68 + (-1) := f4
  have f5 : (0 : Int) ≤ -ρ 86 + ρ 74 := f5
  have f6 : (0 : Int) ≤ ρ 82 + -ρ 68 := f6
  have f7 : (0 : Int) ≤ -ρ 86 + ρ 82 := f7
  have f8 : (0 : Int) ≤ -ρ 86 + ρ 83 := f8
  have f9 : (0 : Int) ≤ -ρ 86 + ρ 84 := f9
  have f10 : (0 : Int) ≤ -ρ 68 + ρ 2 + (-1) := f10
  have f11 : (0 : Int) ≤ -ρ 74 + ρ 2 := f11
  have f12 : (0 : Int) ≤ -ρ 68 + ρ 50 := f12
  have f13 : (0 : Int) ≤ -ρ 68 + ρ 52 := f13
  have f14 : (0 : Int) ≤ -ρ 73 + ρ 52 := f14
  have f15 : (0 : Int) ≤ -ρ 87 + ρ 67 := f15
  have f16 : (0 : Int) ≤ -ρ 69 + (ρ 3 + ρ 2) := f16
  have f17 : (0 : Int) ≤ -ρ 70 + (ρ 4 + ρ 2) := f17
  have f18 : (0 : Int) ≤ ρ 32 + -ρ 12 := f18
  have f19 : (0 : Int) ≤ ρ 39 + -ρ 19 := f19
  have f20 : (0 : Int) ≤ -ρ 33 + ρ 13 := f20
  have f21 : (0 : Int) ≤ -ρ 40 + ρ 21 := f21
  have f22 : (0 : Int) ≤ -ρ 1 + ρ 0 + (-6) := f22
  have f23 : (0 : Int) ≤ -ρ 1 + ρ 0 := f23
  have f24 : (0 : Int) ≤ -ρ 3 + (-ρ 2 + 4 * ρ 1) := f24
  have f25 : (0 : Int) ≤ -ρ 4 + (-ρ 2 + 4 * ρ 1) := f25
  obtain ⟨⟨⟨-, c1⟩, c2⟩, c3⟩ := hc
  have c1 : ∀ (G : Nat) (k j : Int), ¬ rMdP m155_ G j → γ 1 G k j = γ 0 G k j := c1
  have c2 : ∀ (G : Nat) (k j : Int), ¬ rMdP m114_ G j → γ 2 G k j = γ 1 G k j := c2
  have c3 : ∀ (G : Nat) (k j : Int), ¬ rMdP m35_ G j → γ 3 G k j = γ 2 G k j := c3
  obtain ⟨l0, l1, l2, -⟩ := hl
  have l1 : sn167 [ρ 7, ρ 8, ρ 9, ρ 10, ρ 2, ρ 11, ρ 12, ρ 13, ρ 14, ρ 15, ρ 16, ρ 17, ρ 18, ρ 19, ρ 20, ρ 21, ρ 22, ρ 23, ρ 24, ρ 25, ρ 26, ρ 27, ρ 28, ρ 29] (γ 1) 0 (ρ 30) (γ 2) := hS167 _ _ _ _ _ l1
  have l2 : sn52 [ρ 3, ρ 4, ρ 2, ρ 49, ρ 50, ρ 51, ρ 52, ρ 53, ρ 54, ρ 55, ρ 56, ρ 57, ρ 58, ρ 59, ρ 60, ρ 61, ρ 62, ρ 63, ρ 64, ρ 65, ρ 66, ρ 67] (γ 2) 0 (ρ 68) (γ 3) := hS52 _ _ _ _ _ l2
  have M2 := eqM_k (ms := m114_) (by decide +kernel) c2
  have S2 := eqS_k (ms := m114_) (by decide +kernel) c2
  have k2 : γ 2 15 0 13 = γ 1 15 0 13 := zKo (ms := m114_) (G := 15) (n := 13) (by decide) (by decide +kernel) c2 0
  have J2 := JJ_eq hR.1.1 eqC_rf M2
  have C3 := eqC_k (ms := m35_) (by decide +kernel) c3
  have T3 := eqT_k (ms := m35_) (by decide +kernel) c3
  have fl3 : γ 3 0 0 7 = γ 2 0 0 7 := C3.1.2.2.2.2.2
  have S3 := eqS_k (ms := m35_) (by decide +kernel) c3
  have A3 := eqA_k (ms := m35_) (by decide +kernel) c3
  have B2 := eqB_k (ms := m114_) (by decide +kernel) c2
  have P2 := eqP_k (ms := m114_) (by decide +kernel) c2
  have O3 := eqO_k (ms := m35_) (by decide +kernel) c3
  have N3 := eqN_k (ms := m35_) (by decide +kernel) c3
  have O2 := eqO_k (ms := m114_) (by decide +kernel) c2
  have P3 := eqP_k (ms := m35_) (by decide +kernel) c3
  have T := untell_n (untell_row J2 (by omega) l1 l2) hR.2.1.2.2 l1
  have Q3 := eqQ_k (ms := m35_) (by decide +kernel) c3
  have R2 := eqR_k (ms := m114_) (by decide +kernel) c2
  have Q2 := eqQ_k (ms := m114_) (by decide +kernel) c2
  have R3 := eqR_k (ms := m35_) (by decide +kernel) c3
  have T2 := eqT_k (ms := m114_) (by decide +kernel) c2
  have F := untell_fl J2 (by omega) l1 l2
  show lJC (ρ 1 + 6) (γ 3)
  exact ⟨B + 1, by omega, ⟨⟨JJ_eq (untell_row J2 (by omega) l1 l2) C3 eqM_rf, fun w => yE1_fr (hR.1.2 (F (by rw [← fl3]; exact w)).1) (eqT_tr T2 T3) (eqS_tr S2 S3) ((F (by rw [← fl3]; exact w)).2.trans k2)⟩, ⟨fun w => nE_fr (hR.2.1.1 (F (by rw [← fl3]; exact w)).1) (Int.le_trans T.2 (eqN_le N3)) (eqS_tr S2 S3), oR_eq (oR_eq hR.2.1.2.1 O2 P2) O3 P3, pcN_eq T.1 N3⟩, aR_eq (untell_aR J2 (aR_eq hR.2.2.1 eqA_rf B2) (by omega) l1 l2 (zKo (ms := m35_) (G := 15) (n := 95) (by decide) (by decide +kernel) c3 0)) A3 eqB_rf, nR_eq (nR_eq hR.2.2.2 Q2 R2) Q3 R3⟩⟩
theorem lr_9 {S : Nat → zSpc} (hS269 : ∀ x g o v g_q, S 269 x g o v g_q → sn269 x g o v g_q) (hS54 : ∀ x g o v g_q, S 54 x g o v g_q → sn54 x g o v g_q) {a : List Int} {g : rHp} : ∀ (ρ : Nat → Int) (γ : Nat → rHp), rRg uW (γ 1) → lJC (ρ 1) (γ 1) → zO 1 S a g qL_9 ρ γ → zGl (fun _ vs g1 => lJC (vs.getD 1 0) g1) (fun _ v _ => v = 1) qL_9 ρ γ := by
  intro ρ γ hW hJ h
  obtain ⟨-, -, hr, hf, hm, hc, hl⟩ := h
  obtain ⟨B, hB, hR⟩ := hJ
  obtain ⟨r0, r1, r2, r3, r4, r5, r6, r7, r8, r9, r10, r11, r12, r13, r14, r15, r16, r17, -⟩ := hr
  have r0 : (0 : Int) ≤ ρ 0 ∧ ρ 0 ≤ 3072 := r0
  have r1 : (0 : Int) ≤ ρ 1 ∧ ρ 1 ≤ 3072 := r1
  obtain ⟨f0, f1, f2, f3, f4, f5, f6, f7, f8, -⟩ := hf
  have f0 : (0 : Int) ≤ ρ 16 + -ρ 14 := f0
  have f1 : (0 : Int) ≤ -ρ 14 + ρ 12 := f1
  have f2 : (0 : Int) ≤ -ρ 16 + ρ 12 := f2
  have f3 : (0 : Int) ≤ -ρ 17 + ρ 13 := f3
  have f4 : (0 : Int) ≤ -ρ 10 + ρ 8 := f4
  have f5 : (0 : Int) ≤ -ρ 1 + ρ 0 + (-6) := f5
  have f6 : (0 : Int) ≤ -ρ 1 + ρ 0 := f6
  have f7 : (0 : Int) ≤ -ρ 3 + (-ρ 2 + 4 * ρ 1) := f7
  have f8 : (0 : Int) ≤ -ρ 4 + (-ρ 2 + 4 * ρ 1) := f8
  obtain ⟨⟨⟨-, c1⟩, c2⟩, c3⟩ := hc
  have c1 : ∀ (G : Nat) (k j : Int), ¬ rMdP m155_ G j → γ 1 G k j = γ 0 G k j := c1
  have c2 : ∀ (G : Nat) (k j : Int), ¬ rMdP m149_ G j → γ 2 G k j = γ 1 G k j := c2
  have c3 : ∀ (G : Nat) (k j : Int), ¬ rMdP m38_ G j → γ 3 G k j = γ 2 G k j := c3
  obtain ⟨l0, l1, l2, -⟩ := hl
  have l1 : sn269 [ρ 7, ρ 2, ρ 8] (γ 1) 0 (ρ 9) (γ 2) := hS269 _ _ _ _ _ l1
  have l2 : sn54 [ρ 7, ρ 11, ρ 12, ρ 13] (γ 2) 0 (ρ 14) (γ 3) := hS54 _ _ _ _ _ l2
  have M2 := eqM_k (ms := m149_) (by decide +kernel) c2
  have S2 := eqS_k (ms := m149_) (by decide +kernel) c2
  have k2 : γ 2 15 0 13 = γ 1 15 0 13 := zKo (ms := m149_) (G := 15) (n := 13) (by decide) (by decide +kernel) c2 0
  have J2 := JJ_eq hR.1.1 eqC_rf M2
  have C3 := eqC_k (ms := m38_) (by decide +kernel) c3
  have T3 := eqT_k (ms := m38_) (by decide +kernel) c3
  have fl3 : γ 3 0 0 7 = γ 2 0 0 7 := C3.1.2.2.2.2.2
  have S3 := eqS_k (ms := m38_) (by decide +kernel) c3
  have A3 := eqA_k (ms := m38_) (by decide +kernel) c3
  have B2 := eqB_k (ms := m149_) (by decide +kernel) c2
  have P2 := eqP_k (ms := m149_) (by decide +kernel) c2
  have O3 := eqO_k (ms := m38_) (by decide +kernel) c3
  have N3 := eqN_k (ms := m38_) (by decide +kernel) c3
  have O2 := eqO_k (ms := m149_) (by decide +kernel) c2
  have P3 := eqP_k (ms := m38_) (by decide +kernel) c3
  have N2 := eqN_k (ms := m149_) (by decide +kernel) c2
  have Q3 := eqQ_k (ms := m38_) (by decide +kernel) c3
  have R2 := eqR_k (ms := m149_) (by decide +kernel) c2
  have Q2 := eqQ_k (ms := m149_) (by decide +kernel) c2
  have R3 := eqR_k (ms := m38_) (by decide +kernel) c3
  have T2 := eqT_k (ms := m149_) (by decide +kernel) c2
  have F := drop_fl J2 l1 l2
  show lJC (ρ 1 + 6) (γ 3)
  exact ⟨B, by omega, ⟨⟨JJ_eq (drop_row J2 l1 l2) C3 eqM_rf, fun w => yE1_fr (hR.1.2 (F (by rw [← fl3]; exact w)).1) (eqT_tr T2 T3) (eqS_tr S2 S3) ((F (by rw [← fl3]; exact w)).2.trans k2)⟩, ⟨fun w => nE_fr (hR.2.1.1 (F (by rw [← fl3]; exact w)).1) (Int.le_trans (eqN_le N2) (eqN_le N3)) (eqS_tr S2 S3), oR_eq (oR_eq hR.2.1.2.1 O2 P2) O3 P3, pcN_eq (pcN_eq hR.2.1.2.2 N2) N3⟩, aR_eq (drop_aR J2 (aR_eq hR.2.2.1 eqA_rf B2) l1 l2 (zKo (ms := m38_) (G := 15) (n := 95) (by decide) (by decide +kernel) c3 0)) A3 eqB_rf, nR_eq (nR_eq hR.2.2.2 Q2 R2) Q3 R3⟩⟩
theorem lr_10 {S : Nat → zSpc} (hS270 : ∀ x g o v g_q, S 270 x g o v g_q → sn270 x g o v g_q) (hS78 : ∀ x g o v g_q, S 78 x g o v g_q → sn78 x g o v g_q) {a : List Int} {g : rHp} : ∀ (ρ : Nat → Int) (γ : Nat → rHp), rRg uW (γ 1) → lJC (ρ 1) (γ 1) → zO 1 S a g qL_10 ρ γ → zGl (fun _ vs g1 => lJC (vs.getD 1 0) g1) (fun _ v _ => v = 1) qL_10 ρ γ := by
  intro ρ γ hW hJ h
  obtain ⟨-, -, hr, hf, hm, hc, hl⟩ := h
  obtain ⟨B, hB, hR⟩ := hJ
  obtain ⟨r0, r1, r2, r3, r4, r5, r6, r7, r8, r9, r10, r11, r12, r13, r14, r15, r16, r17, r18, r19, r20, r21, r22, r23, r24, r25, r26, r27, r28, r29, r30, r31, r32, r33, r34, r35, r36, r37, r38, r39, r40, r41, r42, r43, r44, r45, r46, r47, r48, r49, r50, r51, r52, r53, r54, r55, r56, r57, r58, r59, r60, r61, r62, r63, r64, r65, r66, r67, r68, -⟩ := hr
  have r0 : (0 : Int) ≤ ρ 0 ∧ ρ 0 ≤ 3072 := r0
  have r1 : (0 : Int) ≤ ρ 1 ∧ ρ 1 ≤ 3072 := r1
  obtain ⟨f0, f1, f2, f3, f4, -⟩ := hf
  have f0 : (0 : Int) ≤ ρ 55 + -ρ 54 := f0
  have f1 : (0 : Int) ≤ -ρ 1 + ρ 0 + (-6) := f1
  have f2 : (0 : Int) ≤ -ρ 1 + ρ 0 := f2
  have f3 : (0 : Int) ≤ -ρ 3 + (-ρ 2 + 4 * ρ 1) := f3
  have f4 : (0 : Int) ≤ -ρ 4 + (-ρ 2 + 4 * ρ 1) := f4
  obtain ⟨⟨⟨-, c1⟩, c2⟩, c3⟩ := hc
  have c1 : ∀ (G : Nat) (k j : Int), ¬ rMdP m155_ G j → γ 1 G k j = γ 0 G k j := c1
  have c2 : ∀ (G : Nat) (k j : Int), ¬ rMdP m150_ G j → γ 2 G k j = γ 1 G k j := c2
  have c3 : ∀ (G : Nat) (k j : Int), ¬ rMdP m57_ G j → γ 3 G k j = γ 2 G k j := c3
  obtain ⟨l0, l1, l2, -⟩ := hl
  have l1 : sn270 [ρ 2, ρ 7, ρ 8, ρ 9, ρ 10, ρ 11, ρ 12, ρ 13, ρ 14, ρ 15, ρ 16, ρ 17, ρ 18, ρ 19, ρ 20, ρ 21] (γ 1) 0 (ρ 22) (γ 2) := hS270 _ _ _ _ _ l1
  have l2 : sn78 [ρ 35, ρ 36, ρ 37, ρ 38, ρ 39, ρ 40, ρ 41, ρ 42, ρ 43, ρ 44, ρ 45, ρ 46, ρ 47, ρ 48, ρ 49, ρ 50, ρ 51, ρ 52, ρ 53] (γ 2) 0 (ρ 54) (γ 3) := hS78 _ _ _ _ _ l2
  have M2 := eqM_k (ms := m150_) (by decide +kernel) c2
  have S2 := eqS_k (ms := m150_) (by decide +kernel) c2
  have k2 : γ 2 15 0 13 = γ 1 15 0 13 := zKo (ms := m150_) (G := 15) (n := 13) (by decide) (by decide +kernel) c2 0
  have J2 := JJ_eq hR.1.1 eqC_rf M2
  have C3 := eqC_k (ms := m57_) (by decide +kernel) c3
  have T3 := eqT_k (ms := m57_) (by decide +kernel) c3
  have fl3 : γ 3 0 0 7 = γ 2 0 0 7 := C3.1.2.2.2.2.2
  have A3 := eqA_k (ms := m57_) (by decide +kernel) c3
  have B2 := eqB_k (ms := m150_) (by decide +kernel) c2
  have zc : ∃ j, γ 2 40 0 j ≠ 0 := by rw [zKa (ms := m150_) (G := 40) (by decide) (by decide +kernel) c2]; exact mk40 hR.1.1.2.1
  have zm : ∃ j, γ 3 40 0 j ≠ 0 := by rw [zKa (ms := m57_) (G := 40) (by decide) (by decide +kernel) c3]; exact zc
  have P2 := eqP_k (ms := m150_) (by decide +kernel) c2
  have O3 := eqO_k (ms := m57_) (by decide +kernel) c3
  have N3 := eqN_k (ms := m57_) (by decide +kernel) c3
  have O2 := eqO_k (ms := m150_) (by decide +kernel) c2
  have P3 := eqP_k (ms := m57_) (by decide +kernel) c3
  have N2 := eqN_k (ms := m150_) (by decide +kernel) c2
  have Q3 := eqQ_k (ms := m57_) (by decide +kernel) c3
  have R2 := eqR_k (ms := m150_) (by decide +kernel) c2
  have K7 := eqC_k7 (ms := m150_) (by decide +kernel) c2
  have K9 := eqM_k9 (ms := m57_) (by decide +kernel) c3
  have hh := run_rowk J2 (by omega) hR.2.1.2.2 (fun p => by rw [M2.2.1 66 (by decide)]; exact rg66 hW p) l1 l2 K7.1 K7.2 K9
  show lJC (ρ 1 + 6) (γ 3)
  exact ⟨B, by omega, ⟨⟨JJ_eq hh.2.2.1 C3 eqM_rf, fun w => yE1_fr (hh.2.2.2 (by rw [← fl3]; exact w)).1 T3 eqS_rf rfl⟩, ⟨fun w => nE_fr (hh.2.2.2 (by rw [← fl3]; exact w)).2 (eqN_le N3) eqS_rf, oR_eq (oR_eq hR.2.1.2.1 O2 P2) O3 P3, pcN_eq (pcN_eq hR.2.1.2.2 N2) N3⟩, aR_eq (run_aR (aR_eq hR.2.2.1 eqA_rf B2) l1 l2 (zKo (ms := m150_) (G := 0) (n := 5) (by decide) (by decide +kernel) c2 0) (zKo (ms := m150_) (G := 0) (n := 6) (by decide) (by decide +kernel) c2 0) zc zm) A3 eqB_rf, nR_eq (run_nR J2 (by omega) hR.2.1.2.2 (fun p => by rw [M2.2.1 66 (by decide)]; exact rg66 hW p) (nR_eq hR.2.2.2 eqQ_rf R2) l1 l2 zc zm) Q3 eqR_rf⟩⟩
theorem lr_11 {S : Nat → zSpc}  {a : List Int} {g : rHp} : ∀ (ρ : Nat → Int) (γ : Nat → rHp), rRg uW (γ 1) → lJC (ρ 1) (γ 1) → zO 1 S a g qL_11 ρ γ → zGl (fun _ vs g1 => lJC (vs.getD 1 0) g1) (fun _ v _ => v = 1) qL_11 ρ γ := by
  intro ρ γ hW hJ h
  obtain ⟨-, -, hr, hf, hm, hc, hl⟩ := h
  obtain ⟨B, hB, hR⟩ := hJ
  obtain ⟨r0, r1, r2, r3, r4, r5, r6, r7, r8, r9, r10, r11, r12, r13, r14, -⟩ := hr
  have r0 : (0 : Int) ≤ ρ 0 ∧ ρ 0 ≤ 3072 := r0
  have r1 : (0 : Int) ≤ ρ 1 ∧ ρ 1 ≤ 3072 := r1
  obtain ⟨f0, f1, f2, f3, -⟩ := hf
  have f0 : (0 : Int) ≤ -ρ 1 + ρ 0 + (-6) := f0
  have f1 : (0 : Int) ≤ -ρ 1 + ρ 0 := f1
  have f2 : (0 : Int) ≤ -ρ 3 + (-ρ 2 + 4 * ρ 1) := f2
  have f3 : (0 : Int) ≤ -ρ 4 + (-ρ 2 + 4 * ρ 1) := f3
  obtain ⟨⟨⟨-, c1⟩, c2⟩, c3⟩ := hc
  have c1 : ∀ (G : Nat) (k j : Int), ¬ rMdP m155_ G j → γ 1 G k j = γ 0 G k j := c1
  have c2 : ∀ (G : Nat) (k j : Int), ¬ rMdP m151_ G j → γ 2 G k j = γ 1 G k j := c2
  have c3 : ∀ (G : Nat) (k j : Int), ¬ rMdP m1_ G j → γ 3 G k j = γ 2 G k j := c3
  obtain ⟨l0, l1, l2, -⟩ := hl
  have M2 := eqM_k (ms := m151_) (by decide +kernel) c2
  have S2 := eqS_k (ms := m151_) (by decide +kernel) c2
  have k2 : γ 2 15 0 13 = γ 1 15 0 13 := zKo (ms := m151_) (G := 15) (n := 13) (by decide) (by decide +kernel) c2 0
  have J2 := JJ_eq hR.1.1 eqC_rf M2
  have C3 := eqC_k (ms := m1_) (by decide +kernel) c3
  have T3 := eqT_k (ms := m1_) (by decide +kernel) c3
  have fl3 : γ 3 0 0 7 = γ 2 0 0 7 := C3.1.2.2.2.2.2
  have S3 := eqS_k (ms := m1_) (by decide +kernel) c3
  have A3 := eqA_k (ms := m1_) (by decide +kernel) c3
  have B2 := eqB_k (ms := m151_) (by decide +kernel) c2
  have A2 := eqA_k (ms := m151_) (by decide +kernel) c2
  have B3 := eqB_k (ms := m1_) (by decide +kernel) c3
  have P2 := eqP_k (ms := m151_) (by decide +kernel) c2
  have O3 := eqO_k (ms := m1_) (by decide +kernel) c3
  have N3 := eqN_k (ms := m1_) (by decide +kernel) c3
  have O2 := eqO_k (ms := m151_) (by decide +kernel) c2
  have P3 := eqP_k (ms := m1_) (by decide +kernel) c3
  have N2 := eqN_k (ms := m151_) (by decide +kernel) c2
  have Q3 := eqQ_k (ms := m1_) (by decide +kernel) c3
  have R2 := eqR_k (ms := m151_) (by decide +kernel) c2
  have Q2 := eqQ_k (ms := m151_) (by decide +kernel) c2
  have R3 := eqR_k (ms := m1_) (by decide +kernel) c3
  have T2 := eqT_k (ms := m151_) (by decide +kernel) c2
  have fl2 : γ 2 0 0 7 = γ 1 0 0 7 := zKo (ms := m151_) (G := 0) (n := 7) (by decide) (by decide +kernel) c2 0
  have k3 : γ 3 15 0 13 = γ 2 15 0 13 := zKo (ms := m1_) (G := 15) (n := 13) (by decide) (by decide +kernel) c3 0
  have C2 := eqC_k (ms := m151_) (by decide +kernel) c2
  have M3 := eqM_k (ms := m1_) (by decide +kernel) c3
  show lJC (ρ 1 + 6) (γ 3)
  exact ⟨B, by omega, ⟨⟨JJ_eq hR.1.1 (eqC_tr C2 C3) (eqM_tr M2 M3), fun w => yE1_fr (hR.1.2 (by rw [← fl2, ← fl3]; exact w)) (eqT_tr T2 T3) (eqS_tr S2 S3) (k3.trans k2)⟩, ⟨fun w => nE_fr (hR.2.1.1 (by rw [← fl2, ← fl3]; exact w)) (Int.le_trans (eqN_le N2) (eqN_le N3)) (eqS_tr S2 S3), oR_eq (oR_eq hR.2.1.2.1 O2 P2) O3 P3, pcN_eq (pcN_eq hR.2.1.2.2 N2) N3⟩, aR_eq (aR_eq hR.2.2.1 A2 B2) A3 B3, nR_eq (nR_eq hR.2.2.2 Q2 R2) Q3 R3⟩⟩
theorem lr_12 {S : Nat → zSpc}  {a : List Int} {g : rHp} : ∀ (ρ : Nat → Int) (γ : Nat → rHp), rRg uW (γ 1) → lJC (ρ 1) (γ 1) → zO 1 S a g qL_12 ρ γ → zGl (fun _ vs g1 => lJC (vs.getD 1 0) g1) (fun _ v _ => v = 1) qL_12 ρ γ := by
  intro ρ γ hW hJ h
  obtain ⟨-, -, hr, hf, hm, hc, hl⟩ := h
  obtain ⟨B, hB, hR⟩ := hJ
  obtain ⟨r0, r1, r2, r3, r4, r5, r6, r7, r8, r9, r10, r11, r12, r13, r14, -⟩ := hr
  have r0 : (0 : Int) ≤ ρ 0 ∧ ρ 0 ≤ 3072 := r0
  have r1 : (0 : Int) ≤ ρ 1 ∧ ρ 1 ≤ 3072 := r1
  obtain ⟨f0, f1, f2, f3, -⟩ := hf
  have f0 : (0 : Int) ≤ -ρ 1 + ρ 0 + (-6) := f0
  have f1 : (0 : Int) ≤ -ρ 1 + ρ 0 := f1
  have f2 : (0 : Int) ≤ -ρ 3 + (-ρ 2 + 4 * ρ 1) := f2
  have f3 : (0 : Int) ≤ -ρ 4 + (-ρ 2 + 4 * ρ 1) := f3
  obtain ⟨⟨⟨-, c1⟩, c2⟩, c3⟩ := hc
  have c1 : ∀ (G : Nat) (k j : Int), ¬ rMdP m155_ G j → γ 1 G k j = γ 0 G k j := c1
  have c2 : ∀ (G : Nat) (k j : Int), ¬ rMdP m151_ G j → γ 2 G k j = γ 1 G k j := c2
  have c3 : ∀ (G : Nat) (k j : Int), ¬ rMdP m1_ G j → γ 3 G k j = γ 2 G k j := c3
  obtain ⟨l0, l1, l2, -⟩ := hl
  have M2 := eqM_k (ms := m151_) (by decide +kernel) c2
  have S2 := eqS_k (ms := m151_) (by decide +kernel) c2
  have k2 : γ 2 15 0 13 = γ 1 15 0 13 := zKo (ms := m151_) (G := 15) (n := 13) (by decide) (by decide +kernel) c2 0
  have J2 := JJ_eq hR.1.1 eqC_rf M2
  have C3 := eqC_k (ms := m1_) (by decide +kernel) c3
  have T3 := eqT_k (ms := m1_) (by decide +kernel) c3
  have fl3 : γ 3 0 0 7 = γ 2 0 0 7 := C3.1.2.2.2.2.2
  have S3 := eqS_k (ms := m1_) (by decide +kernel) c3
  have A3 := eqA_k (ms := m1_) (by decide +kernel) c3
  have B2 := eqB_k (ms := m151_) (by decide +kernel) c2
  have A2 := eqA_k (ms := m151_) (by decide +kernel) c2
  have B3 := eqB_k (ms := m1_) (by decide +kernel) c3
  have P2 := eqP_k (ms := m151_) (by decide +kernel) c2
  have O3 := eqO_k (ms := m1_) (by decide +kernel) c3
  have N3 := eqN_k (ms := m1_) (by decide +kernel) c3
  have O2 := eqO_k (ms := m151_) (by decide +kernel) c2
  have P3 := eqP_k (ms := m1_) (by decide +kernel) c3
  have N2 := eqN_k (ms := m151_) (by decide +kernel) c2
  have Q3 := eqQ_k (ms := m1_) (by decide +kernel) c3
  have R2 := eqR_k (ms := m151_) (by decide +kernel) c2
  have Q2 := eqQ_k (ms := m151_) (by decide +kernel) c2
  have R3 := eqR_k (ms := m1_) (by decide +kernel) c3
  have T2 := eqT_k (ms := m151_) (by decide +kernel) c2
  have fl2 : γ 2 0 0 7 = γ 1 0 0 7 := zKo (ms := m151_) (G := 0) (n := 7) (by decide) (by decide +kernel) c2 0
  have k3 : γ 3 15 0 13 = γ 2 15 0 13 := zKo (ms := m1_) (G := 15) (n := 13) (by decide) (by decide +kernel) c3 0
  have C2 := eqC_k (ms := m151_) (by decide +kernel) c2
  have M3 := eqM_k (ms := m1_) (by decide +kernel) c3
  show lJC (ρ 1 + 6) (γ 3)
  exact ⟨B, by omega, ⟨⟨JJ_eq hR.1.1 (eqC_tr C2 C3) (eqM_tr M2 M3), fun w => yE1_fr (hR.1.2 (by rw [← fl2, ← fl3]; exact w)) (eqT_tr T2 T3) (eqS_tr S2 S3) (k3.trans k2)⟩, ⟨fun w => nE_fr (hR.2.1.1 (by rw [← fl2, ← fl3]; exact w)) (Int.le_trans (eqN_le N2) (eqN_le N3)) (eqS_tr S2 S3), oR_eq (oR_eq hR.2.1.2.1 O2 P2) O3 P3, pcN_eq (pcN_eq hR.2.1.2.2 N2) N3⟩, aR_eq (aR_eq hR.2.2.1 A2 B2) A3 B3, nR_eq (nR_eq hR.2.2.2 Q2 R2) Q3 R3⟩⟩
theorem lr_13 {S : Nat → zSpc} (hS273 : ∀ x g o v g_q, S 273 x g o v g_q → sn273 x g o v g_q) (hS89 : ∀ x g o v g_q, S 89 x g o v g_q → sn89 x g o v g_q) {a : List Int} {g : rHp} : ∀ (ρ : Nat → Int) (γ : Nat → rHp), rRg uW (γ 1) → lJC (ρ 1) (γ 1) → zO 1 S a g qL_13 ρ γ → zGl (fun _ vs g1 => lJC (vs.getD 1 0) g1) (fun _ v _ => v = 1) qL_13 ρ γ := by
  intro ρ γ hW hJ h
  obtain ⟨-, -, hr, hf, hm, hc, hl⟩ := h
  obtain ⟨B, hB, hR⟩ := hJ
  obtain ⟨r0, r1, r2, r3, r4, r5, r6, r7, r8, r9, r10, r11, r12, r13, r14, r15, r16, r17, r18, r19, -⟩ := hr
  have r0 : (0 : Int) ≤ ρ 0 ∧ ρ 0 ≤ 3072 := r0
  have r1 : (0 : Int) ≤ ρ 1 ∧ ρ 1 ≤ 3072 := r1
  obtain ⟨f0, f1, f2, f3, f4, -⟩ := hf
  have f0 : (0 : Int) ≤ ρ 18 + -ρ 17 := f0
  have f1 : (0 : Int) ≤ -ρ 1 + ρ 0 + (-6) := f1
  have f2 : (0 : Int) ≤ -ρ 1 + ρ 0 := f2
  have f3 : (0 : Int) ≤ -ρ 3 + (-ρ 2 + 4 * ρ 1) := f3
  have f4 : (0 : Int) ≤ -ρ 4 + (-ρ 2 + 4 * ρ 1) := f4
  obtain ⟨⟨⟨-, c1⟩, c2⟩, c3⟩ := hc
  have c1 : ∀ (G : Nat) (k j : Int), ¬ rMdP m155_ G j → γ 1 G k j = γ 0 G k j := c1
  have c2 : ∀ (G : Nat) (k j : Int), ¬ rMdP m152_ G j → γ 2 G k j = γ 1 G k j := c2
  have c3 : ∀ (G : Nat) (k j : Int), ¬ rMdP m60_ G j → γ 3 G k j = γ 2 G k j := c3
  obtain ⟨l0, l1, l2, -⟩ := hl
  have l1 : sn273 [ρ 7, ρ 2, ρ 8, ρ 9, ρ 10] (γ 1) 0 (ρ 11) (γ 2) := hS273 _ _ _ _ _ l1
  have l2 : sn89 [ρ 7, ρ 13, ρ 14, ρ 15, ρ 16] (γ 2) 0 (ρ 17) (γ 3) := hS89 _ _ _ _ _ l2
  have M2 := eqM_k (ms := m152_) (by decide +kernel) c2
  have S2 := eqS_k (ms := m152_) (by decide +kernel) c2
  have k2 : γ 2 15 0 13 = γ 1 15 0 13 := zKo (ms := m152_) (G := 15) (n := 13) (by decide) (by decide +kernel) c2 0
  have J2 := JJ_eq hR.1.1 eqC_rf M2
  have C3 := eqC_k (ms := m60_) (by decide +kernel) c3
  have T3 := eqT_k (ms := m60_) (by decide +kernel) c3
  have fl3 : γ 3 0 0 7 = γ 2 0 0 7 := C3.1.2.2.2.2.2
  have S3 := eqS_k (ms := m60_) (by decide +kernel) c3
  have A3 := eqA_k (ms := m60_) (by decide +kernel) c3
  have B2 := eqB_k (ms := m152_) (by decide +kernel) c2
  have A2 := eqA_k (ms := m152_) (by decide +kernel) c2
  have B3 := eqB_k (ms := m60_) (by decide +kernel) c3
  have P2 := eqP_k (ms := m152_) (by decide +kernel) c2
  have O3 := eqO_k (ms := m60_) (by decide +kernel) c3
  have N3 := eqN_k (ms := m60_) (by decide +kernel) c3
  have N2 := eqN_k (ms := m152_) (by decide +kernel) c2
  have Q3 := eqQ_k (ms := m60_) (by decide +kernel) c3
  have R2 := eqR_k (ms := m152_) (by decide +kernel) c2
  have Q2 := eqQ_k (ms := m152_) (by decide +kernel) c2
  have R3 := eqR_k (ms := m60_) (by decide +kernel) c3
  have T2 := eqT_k (ms := m152_) (by decide +kernel) c2
  have fl2 : γ 2 0 0 7 = γ 1 0 0 7 := zKo (ms := m152_) (G := 0) (n := 7) (by decide) (by decide +kernel) c2 0
  have k3 : γ 3 15 0 13 = γ 2 15 0 13 := zKo (ms := m60_) (G := 15) (n := 13) (by decide) (by decide +kernel) c3 0
  have C2 := eqC_k (ms := m152_) (by decide +kernel) c2
  have M3 := eqM_k (ms := m60_) (by decide +kernel) c3
  have hh := show_row (show JO B (γ 1) (γ 2) from ⟨(show JK B (γ 1) (γ 2) from ⟨J2, fun w => yE1_fr (hR.1.2 w) eqT_rf S2 k2⟩), fun w => nE_fr (hR.2.1.1 w) (Int.le_refl _) S2, oR_eq hR.2.1.2.1 eqO_rf P2, hR.2.1.2.2⟩) (fun p => by rw [M2.2.1 66 (by decide)]; exact rg66b hW p) l1 l2
  show lJC (ρ 1 + 6) (γ 3)
  exact ⟨B, by omega, ⟨⟨JJ_eq hR.1.1 (eqC_tr C2 C3) (eqM_tr M2 M3), fun w => yE1_fr (hR.1.2 (by rw [← fl2, ← fl3]; exact w)) (eqT_tr T2 T3) (eqS_tr S2 S3) (k3.trans k2)⟩, ⟨fun w => nE_fr (hR.2.1.1 (by rw [← fl2, ← fl3]; exact w)) (Int.le_trans (eqN_le N2) (eqN_le N3)) (eqS_tr S2 S3), oR_eq hh.2 O3 eqP_rf, pcN_eq (pcN_eq hR.2.1.2.2 N2) N3⟩, aR_eq (aR_eq hR.2.2.1 A2 B2) A3 B3, nR_eq (nR_eq hR.2.2.2 Q2 R2) Q3 R3⟩⟩
theorem lr_14 {S : Nat → zSpc} (hS274 : ∀ x g o v g_q, S 274 x g o v g_q → sr274 x g o v g_q) (hS90 : ∀ x g o v g_q, S 90 x g o v g_q → sr90 x g o v g_q) {a : List Int} {g : rHp} : ∀ (ρ : Nat → Int) (γ : Nat → rHp), rRg uW (γ 1) → lJC (ρ 1) (γ 1) → zO 1 S a g qL_14 ρ γ → zGl (fun _ vs g1 => lJC (vs.getD 1 0) g1) (fun _ v _ => v = 1) qL_14 ρ γ := by
  intro ρ γ hW hJ h
  obtain ⟨-, -, hr, hf, hm, hc, hl⟩ := h
  obtain ⟨B, hB, hR⟩ := hJ
  obtain ⟨r0, r1, r2, r3, r4, r5, r6, r7, r8, r9, r10, r11, r12, r13, r14, r15, r16, r17, r18, r19, r20, r21, r22, r23, r24, r25, r26, r27, r28, r29, r30, r31, r32, r33, r34, r35, r36, r37, r38, r39, r40, r41, r42, r43, r44, r45, r46, r47, r48, r49, r50, r51, r52, r53, r54, r55, r56, r57, r58, r59, r60, r61, r62, r63, r64, r65, -⟩ := hr
  have r0 : (0 : Int) ≤ ρ 0 ∧ ρ 0 ≤ 3072 := r0
  have r1 : (0 : Int) ≤ ρ 1 ∧ ρ 1 ≤ 3072 := r1
  obtain ⟨f0, f1, f2, f3, f4, f5, f6, f7, f8, f9, f10, f11, f12, f13, f14, f15, -⟩ := hf
  have f0 : (0 : Int) ≤ -ρ 3 + -ρ 2 + 12288 := f0
  have f1 : (0 : Int) ≤ -ρ 4 + -ρ 2 + 12288 := f1
  have f2 : (0 : Int) ≤ ρ 48 + -ρ 3 := f2
  have f3 : (0 : Int) ≤ ρ 49 + -ρ 4 := f3
  have f4 : (0 : Int) ≤ ρ 58 + -ρ 29 := f4
  have f5 : (0 : Int) ≤ ρ 58 + -ρ 38 := f5
  have f6 : (0 : Int) ≤ -ρ 53 + ρ 2 := f6
  have f7 : (0 : Int) ≤ -ρ 47 + ρ 46 := f7
  have f8 : (0 : Int) ≤ -ρ 48 + (ρ 3 + ρ 2) := f8
  have f9 : (0 : Int) ≤ -ρ 49 + (ρ 4 + ρ 2) := f9
  have f10 : (0 : Int) ≤ ρ 19 + -ρ 7 := f10
  have f11 : (0 : Int) ≤ ρ 27 + -ρ 16 := f11
  have f12 : (0 : Int) ≤ -ρ 1 + ρ 0 + (-6) := f12
  have f13 : (0 : Int) ≤ -ρ 1 + ρ 0 := f13
  have f14 : (0 : Int) ≤ -ρ 3 + (-ρ 2 + 4 * ρ 1) := f14
  have f15 : (0 : Int) ≤ -ρ 4 + (-ρ 2 + 4 * ρ 1) := f15
  obtain ⟨⟨⟨-, c1⟩, c2⟩, c3⟩ := hc
  have c1 : ∀ (G : Nat) (k j : Int), ¬ rMdP m155_ G j → γ 1 G k j = γ 0 G k j := c1
  have c2 : ∀ (G : Nat) (k j : Int), ¬ rMdP m153_ G j → γ 2 G k j = γ 1 G k j := c2
  have c3 : ∀ (G : Nat) (k j : Int), ¬ rMdP m61_ G j → γ 3 G k j = γ 2 G k j := c3
  obtain ⟨l0, l1, l2, -⟩ := hl
  have l1 : sr274 [ρ 2, ρ 7, ρ 8, ρ 9, ρ 10, ρ 11, ρ 12, ρ 13, ρ 14, ρ 15, ρ 16] (γ 1) 0 (ρ 17) (γ 2) := hS274 _ _ _ _ _ l1
  have l2 : sr90 [ρ 3, ρ 4, ρ 2, ρ 28, ρ 29, ρ 30, ρ 31, ρ 32, ρ 33, ρ 34, ρ 35, ρ 36, ρ 37, ρ 38, ρ 39, ρ 40, ρ 41, ρ 42, ρ 43, ρ 44, ρ 45, ρ 46] (γ 2) 0 (ρ 47) (γ 3) := hS90 _ _ _ _ _ l2
  have M2 := eqM_k (ms := m153_) (by decide +kernel) c2
  have S2 := eqS_k (ms := m153_) (by decide +kernel) c2
  have k2 : γ 2 15 0 13 = γ 1 15 0 13 := zKo (ms := m153_) (G := 15) (n := 13) (by decide) (by decide +kernel) c2 0
  have J2 := JJ_eq hR.1.1 eqC_rf M2
  have C3 := eqC_k (ms := m61_) (by decide +kernel) c3
  have T3 := eqT_k (ms := m61_) (by decide +kernel) c3
  have fl3 : γ 3 0 0 7 = γ 2 0 0 7 := C3.1.2.2.2.2.2
  have S3 := eqS_k (ms := m61_) (by decide +kernel) c3
  have A3 := eqA_k (ms := m61_) (by decide +kernel) c3
  have B2 := eqB_k (ms := m153_) (by decide +kernel) c2
  have A2 := eqA_k (ms := m153_) (by decide +kernel) c2
  have B3 := eqB_k (ms := m61_) (by decide +kernel) c3
  have P2 := eqP_k (ms := m153_) (by decide +kernel) c2
  have O3 := eqO_k (ms := m61_) (by decide +kernel) c3
  have N3 := eqN_k (ms := m61_) (by decide +kernel) c3
  have O2 := eqO_k (ms := m153_) (by decide +kernel) c2
  have P3 := eqP_k (ms := m61_) (by decide +kernel) c3
  have T := find_n (JJ_eq (find_row1 J2 (by omega)) l1 l2) hR.2.1.2.2 l1
  have Q3 := eqQ_k (ms := m61_) (by decide +kernel) c3
  have R2 := eqR_k (ms := m153_) (by decide +kernel) c2
  have Q2 := eqQ_k (ms := m153_) (by decide +kernel) c2
  have R3 := eqR_k (ms := m61_) (by decide +kernel) c3
  have T2 := eqT_k (ms := m153_) (by decide +kernel) c2
  have fl2 : γ 2 0 0 7 = γ 1 0 0 7 := zKo (ms := m153_) (G := 0) (n := 7) (by decide) (by decide +kernel) c2 0
  have k3 : γ 3 15 0 13 = γ 2 15 0 13 := zKo (ms := m61_) (G := 15) (n := 13) (by decide) (by decide +kernel) c3 0
  show lJC (ρ 1 + 6) (γ 3)
  exact ⟨B + 1, by omega, ⟨⟨JJ_eq (JJ_eq (find_row1 J2 (by omega)) l1 l2) C3 eqM_rf, fun w => yE1_fr (hR.1.2 (by rw [← fl2, ← fl3]; exact w)) (eqT_tr T2 T3) (eqS_tr S2 S3) (k3.trans k2)⟩, ⟨fun w => nE_fr (hR.2.1.1 (by rw [← fl2, ← fl3]; exact w)) (Int.le_trans T.2 (eqN_le N3)) (eqS_tr S2 S3), oR_eq (oR_eq hR.2.1.2.1 O2 P2) O3 P3, pcN_eq T.1 N3⟩, aR_eq (aR_eq hR.2.2.1 A2 B2) A3 B3, nR_eq (nR_eq hR.2.2.2 Q2 R2) Q3 R3⟩⟩
theorem lr_15 {S : Nat → zSpc} (hS275 : ∀ x g o v g_q, S 275 x g o v g_q → sn275 x g o v g_q) (hS91 : ∀ x g o v g_q, S 91 x g o v g_q → sb91 x g o v g_q) {a : List Int} {g : rHp} : ∀ (ρ : Nat → Int) (γ : Nat → rHp), rRg uW (γ 1) → lJC (ρ 1) (γ 1) → zO 1 S a g qL_15 ρ γ → zGl (fun _ vs g1 => lJC (vs.getD 1 0) g1) (fun _ v _ => v = 1) qL_15 ρ γ := by
  intro ρ γ hW hJ h
  obtain ⟨-, -, hr, hf, hm, hc, hl⟩ := h
  obtain ⟨B, hB, hR⟩ := hJ
  obtain ⟨r0, r1, r2, r3, r4, r5, r6, r7, r8, r9, r10, r11, r12, r13, r14, r15, r16, r17, r18, r19, r20, r21, r22, r23, r24, r25, r26, r27, r28, r29, r30, r31, r32, r33, r34, r35, r36, r37, r38, r39, r40, r41, r42, r43, r44, r45, r46, r47, r48, r49, r50, r51, r52, r53, r54, r55, r56, r57, r58, r59, r60, r61, r62, r63, r64, r65, r66, r67, r68, r69, r70, r71, r72, r73, r74, r75, r76, r77, r78, r79, r80, r81, r82, r83, r84, r85, r86, r87, r88, r89, r90, -⟩ := hr
  have r0 : (0 : Int) ≤ ρ 0 ∧ ρ 0 ≤ 3072 := r0
  have r1 : (0 : Int) ≤ ρ 1 ∧ ρ 1 ≤ 3072 := r1
  obtain ⟨f0, f1, f2, f3, f4, f5, f6, f7, f8, f9, f10, f11, f12, f13, f14, f15, f16, f17, f18, f19, f20, -⟩ := hf
  have f0 : (0 : Int) ≤ -ρ 3 + -ρ 2 + 12288 := f0
  have f1 : (0 : Int) ≤ -ρ 4 + -ρ 2 + 12288 := f1
  have f2 : (0 : Int) ≤ ρ 71 + -ρ 3 := f2
  have f3 : (0 : Int) ≤ ρ 72 + -ρ 4 := f3
  have f4 : (0 : Int) ≤ ρ 76 + -ρ 70 := f4
  have f5 : (0 : Int) ≤ ρ 84 + -ρ 50 := f5
  have f6 : (0 : Int) ≤ ρ 84 + -ρ 60 := f6
  have f7 : (0 : Int) ≤ ρ 89 + -ρ 70 := f7
  have f8 : (0 : Int) ≤ -ρ 79 + ρ 2 := f8
  have f9 : (0 : Int) ≤ -ρ 71 + (ρ 3 + ρ 2) := f9
  have f10 : (0 : Int) ≤ -ρ 72 + (ρ 4 + ρ 2) := f10
  have f11 : (0 : Int) ≤ ρ 29 + -ρ 8 := f11
  have f12 : (0 : Int) ≤ ρ 33 + -ρ 13 := f12
  have f13 : (0 : Int) ≤ ρ 37 + -ρ 17 := f13
  have f14 : (0 : Int) ≤ ρ 38 + -ρ 18 := f14
  have f15 : (0 : Int) ≤ ρ 39 + -ρ 19 := f15
  have f16 : (0 : Int) ≤ ρ 42 + -ρ 22 := f16
  have f17 : (0 : Int) ≤ -ρ 1 + ρ 0 + (-6) := f17
  have f18 : (0 : Int) ≤ -ρ 1 + ρ 0 := f18
  have f19 : (0 : Int) ≤ -ρ 3 + (-ρ 2 + 4 * ρ 1) := f19
  have f20 : (0 : Int) ≤ -ρ 4 + (-ρ 2 + 4 * ρ 1) := f20
  obtain ⟨⟨⟨-, c1⟩, c2⟩, c3⟩ := hc
  have c1 : ∀ (G : Nat) (k j : Int), ¬ rMdP m155_ G j → γ 1 G k j = γ 0 G k j := c1
  have c2 : ∀ (G : Nat) (k j : Int), ¬ rMdP m154_ G j → γ 2 G k j = γ 1 G k j := c2
  have c3 : ∀ (G : Nat) (k j : Int), ¬ rMdP m62_ G j → γ 3 G k j = γ 2 G k j := c3
  obtain ⟨l0, l1, l2, -⟩ := hl
  have l1 : sn275 [ρ 2, ρ 7, ρ 8, ρ 9, ρ 10, ρ 11, ρ 12, ρ 13, ρ 14, ρ 15, ρ 16, ρ 17, ρ 18, ρ 19, ρ 20, ρ 21, ρ 22, ρ 23, ρ 24, ρ 25, ρ 26] (γ 1) 0 (ρ 27) (γ 2) := hS275 _ _ _ _ _ l1
  have l2 : sb91 [ρ 3, ρ 4, ρ 2, ρ 46, ρ 47, ρ 48, ρ 49, ρ 50, ρ 51, ρ 52, ρ 53, ρ 54, ρ 55, ρ 56, ρ 57, ρ 58, ρ 59, ρ 60, ρ 61, ρ 62, ρ 63, ρ 64, ρ 65, ρ 66, ρ 67, ρ 68, ρ 69] (γ 2) 0 (ρ 70) (γ 3) := hS91 _ _ _ _ _ l2
  have M2 := eqM_k (ms := m154_) (by decide +kernel) c2
  have S2 := eqS_k (ms := m154_) (by decide +kernel) c2
  have k2 : γ 2 15 0 13 = γ 1 15 0 13 := zKo (ms := m154_) (G := 15) (n := 13) (by decide) (by decide +kernel) c2 0
  have J2 := JJ_eq hR.1.1 eqC_rf M2
  have C3 := eqC_k (ms := m62_) (by decide +kernel) c3
  have T3 := eqT_k (ms := m62_) (by decide +kernel) c3
  have fl3 : γ 3 0 0 7 = γ 2 0 0 7 := C3.1.2.2.2.2.2
  have S3 := eqS_k (ms := m62_) (by decide +kernel) c3
  have A3 := eqA_k (ms := m62_) (by decide +kernel) c3
  have B2 := eqB_k (ms := m154_) (by decide +kernel) c2
  have zc : ∃ j, γ 2 40 0 j ≠ 0 := by rw [zKa (ms := m154_) (G := 40) (by decide) (by decide +kernel) c2]; exact mk40 hR.1.1.2.1
  have zm : ∃ j, γ 3 40 0 j ≠ 0 := by rw [zKa (ms := m62_) (G := 40) (by decide) (by decide +kernel) c3]; exact zc
  have P2 := eqP_k (ms := m154_) (by decide +kernel) c2
  have O3 := eqO_k (ms := m62_) (by decide +kernel) c3
  have N3 := eqN_k (ms := m62_) (by decide +kernel) c3
  have O2 := eqO_k (ms := m154_) (by decide +kernel) c2
  have P3 := eqP_k (ms := m62_) (by decide +kernel) c3
  have T := ask_n (show JK B (γ 1) (γ 2) from ⟨J2, fun w => yE1_fr (hR.1.2 w) eqT_rf S2 k2⟩) hR.2.1.2.2 (by omega) l1 (zKa (ms := m154_) (G := 40) (by decide) (by decide +kernel) c2)
  have Q3 := eqQ_k (ms := m62_) (by decide +kernel) c3
  have R2 := eqR_k (ms := m154_) (by decide +kernel) c2
  have k3 : γ 3 15 0 13 = γ 2 15 0 13 := zKo (ms := m62_) (G := 15) (n := 13) (by decide) (by decide +kernel) c3 0
  have hk := ask_row (show JK B (γ 1) (γ 2) from ⟨J2, fun w => yE1_fr (hR.1.2 w) eqT_rf S2 k2⟩) (by omega) l1 (zKa (ms := m154_) (G := 40) (by decide) (by decide +kernel) c2) l2.2 S3 k3
  show lJC (ρ 1 + 6) (γ 3)
  exact ⟨B + 1, by omega, ⟨⟨JJ_eq hk.1 C3 eqM_rf, fun w => yE1_fr (hk.2 (by rw [← fl3]; exact w)) T3 eqS_rf rfl⟩, ⟨fun w => nE_fr (hR.2.1.1 (T.2.2 (by rw [← fl3]; exact w))) (Int.le_trans T.2.1 (eqN_le N3)) (eqS_tr S2 S3), oR_eq (oR_eq hR.2.1.2.1 O2 P2) O3 P3, pcN_eq T.1 N3⟩, aR_eq (ask_aR (show JK B (γ 1) (γ 2) from ⟨J2, fun w => yE1_fr (hR.1.2 w) eqT_rf S2 k2⟩) (aR_eq hR.2.2.1 eqA_rf B2) (by omega) l1 l2.1 zc zm) A3 eqB_rf, nR_eq (ask_nR (show JK B (γ 1) (γ 2) from ⟨J2, fun w => yE1_fr (hR.1.2 w) eqT_rf S2 k2⟩) (aR_eq hR.2.2.1 eqA_rf B2) (nR_eq hR.2.2.2 eqQ_rf R2) (by omega) l1 l2.1 zc zm) Q3 eqR_rf⟩⟩
theorem lr_16 {S : Nat → zSpc}  {a : List Int} {g : rHp} : ∀ (ρ : Nat → Int) (γ : Nat → rHp), rRg uW (γ 1) → lJC (ρ 1) (γ 1) → zO 1 S a g qL_16 ρ γ → zGl (fun _ vs g1 => lJC (vs.getD 1 0) g1) (fun _ v _ => v = 1) qL_16 ρ γ := by
  intro ρ γ hW hJ h
  obtain ⟨-, -, hr, hf, hm, hc, hl⟩ := h
  obtain ⟨B, hB, hR⟩ := hJ
  obtain ⟨r0, r1, r2, r3, r4, r5, r6, r7, r8, r9, r10, r11, r12, r13, r14, -⟩ := hr
  have r0 : (0 : Int) ≤ ρ 0 ∧ ρ 0 ≤ 3072 := r0
  have r1 : (0 : Int) ≤ ρ 1 ∧ ρ 1 ≤ 3072 := r1
  obtain ⟨f0, f1, f2, f3, -⟩ := hf
  have f0 : (0 : Int) ≤ -ρ 1 + ρ 0 + (-6) := f0
  have f1 : (0 : Int) ≤ -ρ 1 + ρ 0 := f1
  have f2 : (0 : Int) ≤ -ρ 3 + (-ρ 2 + 4 * ρ 1) := f2
  have f3 : (0 : Int) ≤ -ρ 4 + (-ρ 2 + 4 * ρ 1) := f3
  obtain ⟨⟨⟨-, c1⟩, c2⟩, c3⟩ := hc
  have c1 : ∀ (G : Nat) (k j : Int), ¬ rMdP m155_ G j → γ 1 G k j = γ 0 G k j := c1
  have c2 : ∀ (G : Nat) (k j : Int), ¬ rMdP m151_ G j → γ 2 G k j = γ 1 G k j := c2
  have c3 : ∀ (G : Nat) (k j : Int), ¬ rMdP m1_ G j → γ 3 G k j = γ 2 G k j := c3
  obtain ⟨l0, l1, l2, -⟩ := hl
  have M2 := eqM_k (ms := m151_) (by decide +kernel) c2
  have S2 := eqS_k (ms := m151_) (by decide +kernel) c2
  have k2 : γ 2 15 0 13 = γ 1 15 0 13 := zKo (ms := m151_) (G := 15) (n := 13) (by decide) (by decide +kernel) c2 0
  have J2 := JJ_eq hR.1.1 eqC_rf M2
  have C3 := eqC_k (ms := m1_) (by decide +kernel) c3
  have T3 := eqT_k (ms := m1_) (by decide +kernel) c3
  have fl3 : γ 3 0 0 7 = γ 2 0 0 7 := C3.1.2.2.2.2.2
  have S3 := eqS_k (ms := m1_) (by decide +kernel) c3
  have A3 := eqA_k (ms := m1_) (by decide +kernel) c3
  have B2 := eqB_k (ms := m151_) (by decide +kernel) c2
  have A2 := eqA_k (ms := m151_) (by decide +kernel) c2
  have B3 := eqB_k (ms := m1_) (by decide +kernel) c3
  have P2 := eqP_k (ms := m151_) (by decide +kernel) c2
  have O3 := eqO_k (ms := m1_) (by decide +kernel) c3
  have N3 := eqN_k (ms := m1_) (by decide +kernel) c3
  have O2 := eqO_k (ms := m151_) (by decide +kernel) c2
  have P3 := eqP_k (ms := m1_) (by decide +kernel) c3
  have N2 := eqN_k (ms := m151_) (by decide +kernel) c2
  have Q3 := eqQ_k (ms := m1_) (by decide +kernel) c3
  have R2 := eqR_k (ms := m151_) (by decide +kernel) c2
  have Q2 := eqQ_k (ms := m151_) (by decide +kernel) c2
  have R3 := eqR_k (ms := m1_) (by decide +kernel) c3
  have T2 := eqT_k (ms := m151_) (by decide +kernel) c2
  have fl2 : γ 2 0 0 7 = γ 1 0 0 7 := zKo (ms := m151_) (G := 0) (n := 7) (by decide) (by decide +kernel) c2 0
  have k3 : γ 3 15 0 13 = γ 2 15 0 13 := zKo (ms := m1_) (G := 15) (n := 13) (by decide) (by decide +kernel) c3 0
  have C2 := eqC_k (ms := m151_) (by decide +kernel) c2
  have M3 := eqM_k (ms := m1_) (by decide +kernel) c3
  show lJC (ρ 1 + 6) (γ 3)
  exact ⟨B, by omega, ⟨⟨JJ_eq hR.1.1 (eqC_tr C2 C3) (eqM_tr M2 M3), fun w => yE1_fr (hR.1.2 (by rw [← fl2, ← fl3]; exact w)) (eqT_tr T2 T3) (eqS_tr S2 S3) (k3.trans k2)⟩, ⟨fun w => nE_fr (hR.2.1.1 (by rw [← fl2, ← fl3]; exact w)) (Int.le_trans (eqN_le N2) (eqN_le N3)) (eqS_tr S2 S3), oR_eq (oR_eq hR.2.1.2.1 O2 P2) O3 P3, pcN_eq (pcN_eq hR.2.1.2.2 N2) N3⟩, aR_eq (aR_eq hR.2.2.1 A2 B2) A3 B3, nR_eq (nR_eq hR.2.2.2 Q2 R2) Q3 R3⟩⟩
theorem lr_17 {S : Nat → zSpc}  {a : List Int} {g : rHp} : ∀ (ρ : Nat → Int) (γ : Nat → rHp), rRg uW (γ 1) → lJC (ρ 1) (γ 1) → zO 1 S a g qL_17 ρ γ → zGl (fun _ vs g1 => lJC (vs.getD 1 0) g1) (fun _ v _ => v = 1) qL_17 ρ γ := by
  intro ρ γ hW hJ h
  obtain ⟨-, -, hr, hf, hm, hc, hl⟩ := h
  obtain ⟨B, hB, hR⟩ := hJ
  obtain ⟨r0, r1, r2, r3, r4, r5, r6, r7, r8, r9, r10, r11, r12, r13, -⟩ := hr
  have r0 : (0 : Int) ≤ ρ 0 ∧ ρ 0 ≤ 3072 := r0
  have r1 : (0 : Int) ≤ ρ 1 ∧ ρ 1 ≤ 3072 := r1
  obtain ⟨f0, f1, f2, f3, -⟩ := hf
  have f0 : (0 : Int) ≤ -ρ 1 + ρ 0 + (-6) := f0
  have f1 : (0 : Int) ≤ -ρ 1 + ρ 0 := f1
  have f2 : (0 : Int) ≤ -ρ 3 + (-ρ 2 + 4 * ρ 1) := f2
  have f3 : (0 : Int) ≤ -ρ 4 + (-ρ 2 + 4 * ρ 1) := f3
  obtain ⟨⟨⟨-, c1⟩, c2⟩, c3⟩ := hc
  have c1 : ∀ (G : Nat) (k j : Int), ¬ rMdP m155_ G j → γ 1 G k j = γ 0 G k j := c1
  have c2 : ∀ (G : Nat) (k j : Int), ¬ rMdP m151_ G j → γ 2 G k j = γ 1 G k j := c2
  have c3 : ∀ (G : Nat) (k j : Int), ¬ rMdP m1_ G j → γ 3 G k j = γ 2 G k j := c3
  obtain ⟨l0, l1, l2, -⟩ := hl
  have M2 := eqM_k (ms := m151_) (by decide +kernel) c2
  have S2 := eqS_k (ms := m151_) (by decide +kernel) c2
  have k2 : γ 2 15 0 13 = γ 1 15 0 13 := zKo (ms := m151_) (G := 15) (n := 13) (by decide) (by decide +kernel) c2 0
  have J2 := JJ_eq hR.1.1 eqC_rf M2
  have C3 := eqC_k (ms := m1_) (by decide +kernel) c3
  have T3 := eqT_k (ms := m1_) (by decide +kernel) c3
  have fl3 : γ 3 0 0 7 = γ 2 0 0 7 := C3.1.2.2.2.2.2
  have S3 := eqS_k (ms := m1_) (by decide +kernel) c3
  have A3 := eqA_k (ms := m1_) (by decide +kernel) c3
  have B2 := eqB_k (ms := m151_) (by decide +kernel) c2
  have A2 := eqA_k (ms := m151_) (by decide +kernel) c2
  have B3 := eqB_k (ms := m1_) (by decide +kernel) c3
  have P2 := eqP_k (ms := m151_) (by decide +kernel) c2
  have O3 := eqO_k (ms := m1_) (by decide +kernel) c3
  have N3 := eqN_k (ms := m1_) (by decide +kernel) c3
  have O2 := eqO_k (ms := m151_) (by decide +kernel) c2
  have P3 := eqP_k (ms := m1_) (by decide +kernel) c3
  have N2 := eqN_k (ms := m151_) (by decide +kernel) c2
  have Q3 := eqQ_k (ms := m1_) (by decide +kernel) c3
  have R2 := eqR_k (ms := m151_) (by decide +kernel) c2
  have Q2 := eqQ_k (ms := m151_) (by decide +kernel) c2
  have R3 := eqR_k (ms := m1_) (by decide +kernel) c3
  have T2 := eqT_k (ms := m151_) (by decide +kernel) c2
  have fl2 : γ 2 0 0 7 = γ 1 0 0 7 := zKo (ms := m151_) (G := 0) (n := 7) (by decide) (by decide +kernel) c2 0
  have k3 : γ 3 15 0 13 = γ 2 15 0 13 := zKo (ms := m1_) (G := 15) (n := 13) (by decide) (by decide +kernel) c3 0
  have C2 := eqC_k (ms := m151_) (by decide +kernel) c2
  have M3 := eqM_k (ms := m1_) (by decide +kernel) c3
  show lJC (ρ 1 + 6) (γ 3)
  exact ⟨B, by omega, ⟨⟨JJ_eq hR.1.1 (eqC_tr C2 C3) (eqM_tr M2 M3), fun w => yE1_fr (hR.1.2 (by rw [← fl2, ← fl3]; exact w)) (eqT_tr T2 T3) (eqS_tr S2 S3) (k3.trans k2)⟩, ⟨fun w => nE_fr (hR.2.1.1 (by rw [← fl2, ← fl3]; exact w)) (Int.le_trans (eqN_le N2) (eqN_le N3)) (eqS_tr S2 S3), oR_eq (oR_eq hR.2.1.2.1 O2 P2) O3 P3, pcN_eq (pcN_eq hR.2.1.2.2 N2) N3⟩, aR_eq (aR_eq hR.2.2.1 A2 B2) A3 B3, nR_eq (nR_eq hR.2.2.2 Q2 R2) Q3 R3⟩⟩
theorem lr_18 {S : Nat → zSpc}  {a : List Int} {g : rHp} : ∀ (ρ : Nat → Int) (γ : Nat → rHp), rRg uW (γ 1) → lJC (ρ 1) (γ 1) → zO 1 S a g qL_18 ρ γ → zGl (fun _ vs g1 => lJC (vs.getD 1 0) g1) (fun _ v _ => v = 1) qL_18 ρ γ := by
  intro ρ γ hW hJ h
  obtain ⟨-, -, hr, hf, hm, hc, hl⟩ := h
  obtain ⟨B, hB, hR⟩ := hJ
  obtain ⟨r0, r1, r2, r3, r4, r5, r6, r7, r8, r9, r10, r11, r12, r13, -⟩ := hr
  have r0 : (0 : Int) ≤ ρ 0 ∧ ρ 0 ≤ 3072 := r0
  have r1 : (0 : Int) ≤ ρ 1 ∧ ρ 1 ≤ 3072 := r1
  obtain ⟨f0, f1, f2, f3, -⟩ := hf
  have f0 : (0 : Int) ≤ -ρ 1 + ρ 0 + (-6) := f0
  have f1 : (0 : Int) ≤ -ρ 1 + ρ 0 := f1
  have f2 : (0 : Int) ≤ -ρ 3 + (-ρ 2 + 4 * ρ 1) := f2
  have f3 : (0 : Int) ≤ -ρ 4 + (-ρ 2 + 4 * ρ 1) := f3
  obtain ⟨⟨⟨-, c1⟩, c2⟩, c3⟩ := hc
  have c1 : ∀ (G : Nat) (k j : Int), ¬ rMdP m155_ G j → γ 1 G k j = γ 0 G k j := c1
  have c2 : ∀ (G : Nat) (k j : Int), ¬ rMdP m151_ G j → γ 2 G k j = γ 1 G k j := c2
  have c3 : ∀ (G : Nat) (k j : Int), ¬ rMdP m1_ G j → γ 3 G k j = γ 2 G k j := c3
  obtain ⟨l0, l1, l2, -⟩ := hl
  have M2 := eqM_k (ms := m151_) (by decide +kernel) c2
  have S2 := eqS_k (ms := m151_) (by decide +kernel) c2
  have k2 : γ 2 15 0 13 = γ 1 15 0 13 := zKo (ms := m151_) (G := 15) (n := 13) (by decide) (by decide +kernel) c2 0
  have J2 := JJ_eq hR.1.1 eqC_rf M2
  have C3 := eqC_k (ms := m1_) (by decide +kernel) c3
  have T3 := eqT_k (ms := m1_) (by decide +kernel) c3
  have fl3 : γ 3 0 0 7 = γ 2 0 0 7 := C3.1.2.2.2.2.2
  have S3 := eqS_k (ms := m1_) (by decide +kernel) c3
  have A3 := eqA_k (ms := m1_) (by decide +kernel) c3
  have B2 := eqB_k (ms := m151_) (by decide +kernel) c2
  have A2 := eqA_k (ms := m151_) (by decide +kernel) c2
  have B3 := eqB_k (ms := m1_) (by decide +kernel) c3
  have P2 := eqP_k (ms := m151_) (by decide +kernel) c2
  have O3 := eqO_k (ms := m1_) (by decide +kernel) c3
  have N3 := eqN_k (ms := m1_) (by decide +kernel) c3
  have O2 := eqO_k (ms := m151_) (by decide +kernel) c2
  have P3 := eqP_k (ms := m1_) (by decide +kernel) c3
  have N2 := eqN_k (ms := m151_) (by decide +kernel) c2
  have Q3 := eqQ_k (ms := m1_) (by decide +kernel) c3
  have R2 := eqR_k (ms := m151_) (by decide +kernel) c2
  have Q2 := eqQ_k (ms := m151_) (by decide +kernel) c2
  have R3 := eqR_k (ms := m1_) (by decide +kernel) c3
  have T2 := eqT_k (ms := m151_) (by decide +kernel) c2
  have fl2 : γ 2 0 0 7 = γ 1 0 0 7 := zKo (ms := m151_) (G := 0) (n := 7) (by decide) (by decide +kernel) c2 0
  have k3 : γ 3 15 0 13 = γ 2 15 0 13 := zKo (ms := m1_) (G := 15) (n := 13) (by decide) (by decide +kernel) c3 0
  have C2 := eqC_k (ms := m151_) (by decide +kernel) c2
  have M3 := eqM_k (ms := m1_) (by decide +kernel) c3
  show lJC (ρ 1 + 6) (γ 3)
  exact ⟨B, by omega, ⟨⟨JJ_eq hR.1.1 (eqC_tr C2 C3) (eqM_tr M2 M3), fun w => yE1_fr (hR.1.2 (by rw [← fl2, ← fl3]; exact w)) (eqT_tr T2 T3) (eqS_tr S2 S3) (k3.trans k2)⟩, ⟨fun w => nE_fr (hR.2.1.1 (by rw [← fl2, ← fl3]; exact w)) (Int.le_trans (eqN_le N2) (eqN_le N3)) (eqS_tr S2 S3), oR_eq (oR_eq hR.2.1.2.1 O2 P2) O3 P3, pcN_eq (pcN_eq hR.2.1.2.2 N2) N3⟩, aR_eq (aR_eq hR.2.2.1 A2 B2) A3 B3, nR_eq (nR_eq hR.2.2.2 Q2 R2) Q3 R3⟩⟩
theorem lr_19 {S : Nat → zSpc} (hS279 : ∀ x g o v g_q, S 279 x g o v g_q → sn279 x g o v g_q) (hS84 : ∀ x g o v g_q, S 84 x g o v g_q → sn84 x g o v g_q) (hS0 : ∀ x g o v g_q, S 0 x g o v g_q → sn0 x g o v g_q) {a : List Int} {g : rHp} : ∀ (ρ : Nat → Int) (γ : Nat → rHp), rRg uW (γ 1) → lJC (ρ 1) (γ 1) → zO 1 S a g qL_19 ρ γ → zGl (fun _ vs g1 => lJC (vs.getD 1 0) g1) (fun _ v _ => v = 1) qL_19 ρ γ := by
  intro ρ γ hW hJ h
  obtain ⟨-, -, hr, hf, hm, hc, hl⟩ := h
  obtain ⟨B, hB, hR⟩ := hJ
  obtain ⟨r0, r1, r2, r3, r4, r5, r6, r7, r8, r9, r10, r11, r12, r13, r14, r15, r16, r17, r18, r19, r20, r21, r22, r23, r24, r25, r26, r27, r28, -⟩ := hr
  have r0 : (0 : Int) ≤ ρ 0 ∧ ρ 0 ≤ 3072 := r0
  have r1 : (0 : Int) ≤ ρ 1 ∧ ρ 1 ≤ 3072 := r1
  have r17 : (1 : Int) ≤ ρ 17 ∧ ρ 17 ≤ 1 := r17
  obtain ⟨f0, f1, f2, f3, f4, f5, -⟩ := hf
  have f0 : (0 : Int) ≤ -ρ 28 + ρ 17 := f0
  have f1 : (0 : Int) ≤ ρ 28 + -ρ 17 := f1
  have f2 : (0 : Int) ≤ -ρ 1 + ρ 0 + (-6) := f2
  have f3 : (0 : Int) ≤ -ρ 1 + ρ 0 := f3
  have f4 : (0 : Int) ≤ -ρ 3 + (-ρ 2 + 4 * ρ 1) := f4
  have f5 : (0 : Int) ≤ -ρ 4 + (-ρ 2 + 4 * ρ 1) := f5
  obtain ⟨m0, m1, m2, m3, m4, m5, m6, m7, m8, m9, m10, m11, m12, m13, m14, m15, m16, m17, m18, m19, m20, m21, m22, m23, m24, -⟩ := hm
  obtain ⟨⟨⟨⟨-, c1⟩, c2⟩, c3⟩, c4⟩ := hc
  have c1 : ∀ (G : Nat) (k j : Int), ¬ rMdP m155_ G j → γ 1 G k j = γ 0 G k j := c1
  have c2 : ∀ (G : Nat) (k j : Int), ¬ rMdP m151_ G j → γ 2 G k j = γ 1 G k j := c2
  have c3 : ∀ (G : Nat) (k j : Int), ¬ rMdP m1_ G j → γ 3 G k j = γ 2 G k j := c3
  have c4 : ∀ (G : Nat) (k j : Int), ¬ rMdP m0_ G j → γ 4 G k j = γ 3 G k j := c4
  obtain ⟨l0, l1, l2, l3, -⟩ := hl
  have l1 : sn279 [ρ 7, ρ 2, ρ 8, ρ 9, ρ 10, ρ 11, ρ 12, ρ 13, ρ 14, ρ 15, ρ 16] (γ 1) 0 (ρ 17) (γ 2) := hS279 _ _ _ _ _ l1
  have l2 : sn84 [ρ 7, ρ 18, ρ 2, ρ 19, ρ 3, ρ 20, ρ 21, ρ 22, ρ 23, ρ 24, ρ 25, ρ 26] (γ 2) 0 (ρ 27) (γ 3) := hS84 _ _ _ _ _ l2
  have l3 : sn0 [ρ 28] (γ 3) 0 (ρ 28) (γ 4) := hS0 _ _ _ _ _ l3
  have M2 := eqM_k (ms := m151_) (by decide +kernel) c2
  have S2 := eqS_k (ms := m151_) (by decide +kernel) c2
  have k2 : γ 2 15 0 13 = γ 1 15 0 13 := zKo (ms := m151_) (G := 15) (n := 13) (by decide) (by decide +kernel) c2 0
  have J2 := JJ_eq hR.1.1 eqC_rf M2
  have C3 := eqC_k (ms := m1_) (by decide +kernel) c3
  have T3 := eqT_k (ms := m1_) (by decide +kernel) c3
  have fl3 : γ 3 0 0 7 = γ 2 0 0 7 := C3.1.2.2.2.2.2
  have S3 := eqS_k (ms := m1_) (by decide +kernel) c3
  have A3 := eqA_k (ms := m1_) (by decide +kernel) c3
  have B2 := eqB_k (ms := m151_) (by decide +kernel) c2
  have A2 := eqA_k (ms := m151_) (by decide +kernel) c2
  have B3 := eqB_k (ms := m1_) (by decide +kernel) c3
  have P2 := eqP_k (ms := m151_) (by decide +kernel) c2
  have O3 := eqO_k (ms := m1_) (by decide +kernel) c3
  have N3 := eqN_k (ms := m1_) (by decide +kernel) c3
  have O2 := eqO_k (ms := m151_) (by decide +kernel) c2
  have P3 := eqP_k (ms := m1_) (by decide +kernel) c3
  have N2 := eqN_k (ms := m151_) (by decide +kernel) c2
  have Q3 := eqQ_k (ms := m1_) (by decide +kernel) c3
  have R2 := eqR_k (ms := m151_) (by decide +kernel) c2
  have Q2 := eqQ_k (ms := m151_) (by decide +kernel) c2
  have R3 := eqR_k (ms := m1_) (by decide +kernel) c3
  have T2 := eqT_k (ms := m151_) (by decide +kernel) c2
  have fl2 : γ 2 0 0 7 = γ 1 0 0 7 := zKo (ms := m151_) (G := 0) (n := 7) (by decide) (by decide +kernel) c2 0
  have k3 : γ 3 15 0 13 = γ 2 15 0 13 := zKo (ms := m1_) (G := 15) (n := 13) (by decide) (by decide +kernel) c3 0
  have C2 := eqC_k (ms := m151_) (by decide +kernel) c2
  have M3 := eqM_k (ms := m1_) (by decide +kernel) c3
  have hh := count_cmp (show JK B (γ 1) (γ 2) from ⟨J2, fun w => yE1_fr (hR.1.2 w) eqT_rf S2 k2⟩) (oR_eq hR.2.1.2.1 eqO_rf P2) (nR_eq hR.2.2.2 eqQ_rf R2) l1 l2
  have l3 : (0, ρ 28, γ 4) = fn0 [] (γ 3) := l3
  have e4 : γ 4 = γ 3 := congrArg (fun r : zR => r.2.2) l3
  have e5 : ρ 28 = γ 3 15 0 0 := congrArg (fun r : zR => r.2.1) l3
  show lJC (ρ 1 + 6) (γ 4)
  rw [e4]
  exact ⟨B, by omega, ⟨⟨JJ_eq hR.1.1 (eqC_tr C2 C3) (eqM_tr M2 M3), fun w => yE1_fr (hR.1.2 (by rw [← fl2, ← fl3]; exact w)) (eqT_tr T2 T3) (eqS_tr S2 S3) (k3.trans k2)⟩, ⟨fun w => nE_fr (hR.2.1.1 (by rw [← fl2, ← fl3]; exact w)) (Int.le_trans (eqN_le N2) (eqN_le N3)) (eqS_tr S2 S3), oR_eq (oR_eq hR.2.1.2.1 O2 P2) O3 P3, pcN_eq (pcN_eq hR.2.1.2.2 N2) N3⟩, aR_eq (aR_eq hR.2.2.1 A2 B2) A3 B3, nR_eq (nR_eq hR.2.2.2 Q2 R2) Q3 R3⟩⟩
theorem lr_20 {S : Nat → zSpc} (hS279 : ∀ x g o v g_q, S 279 x g o v g_q → sn279 x g o v g_q) (hS84 : ∀ x g o v g_q, S 84 x g o v g_q → sn84 x g o v g_q) (hS0 : ∀ x g o v g_q, S 0 x g o v g_q → sn0 x g o v g_q) {a : List Int} {g : rHp} : ∀ (ρ : Nat → Int) (γ : Nat → rHp), rRg uW (γ 1) → lJC (ρ 1) (γ 1) → zO 1 S a g qL_20 ρ γ → zGl (fun _ vs g1 => lJC (vs.getD 1 0) g1) (fun _ v _ => v = 1) qL_20 ρ γ := by
  intro ρ γ hW hJ h
  obtain ⟨-, -, hr, hf, hm, hc, hl⟩ := h
  obtain ⟨B, hB, hR⟩ := hJ
  obtain ⟨r0, r1, r2, r3, r4, r5, r6, r7, r8, r9, r10, r11, r12, r13, r14, r15, r16, r17, r18, r19, r20, r21, r22, r23, r24, r25, r26, r27, r28, r29, -⟩ := hr
  have r0 : (0 : Int) ≤ ρ 0 ∧ ρ 0 ≤ 3072 := r0
  have r1 : (0 : Int) ≤ ρ 1 ∧ ρ 1 ≤ 3072 := r1
  have r17 : (0 : Int) ≤ ρ 17 ∧ ρ 17 ≤ 0 := r17
  obtain ⟨f0, f1, f2, f3, f4, f5, f6, f7, -⟩ := hf
  have f0 : (0 : Int) ≤ -ρ 29 + ρ 27 := f0
  have f1 : (0 : Int) ≤ ρ 29 + -ρ 27 := f1
  have f2 : (0 : Int) ≤ -ρ 28 + ρ 17 := f2
  have f3 : (0 : Int) ≤ ρ 28 + -ρ 17 := f3
  have f4 : (0 : Int) ≤ -ρ 1 + ρ 0 + (-6) := f4
  have f5 : (0 : Int) ≤ -ρ 1 + ρ 0 := f5
  have f6 : (0 : Int) ≤ -ρ 3 + (-ρ 2 + 4 * ρ 1) := f6
  have f7 : (0 : Int) ≤ -ρ 4 + (-ρ 2 + 4 * ρ 1) := f7
  obtain ⟨m0, m1, m2, m3, m4, m5, m6, m7, m8, m9, m10, m11, m12, m13, m14, m15, m16, m17, m18, m19, m20, m21, m22, m23, m24, m25, -⟩ := hm
  have m25 : γ 2 112 0 0 = ρ 29 := m25
  obtain ⟨⟨⟨⟨-, c1⟩, c2⟩, c3⟩, c4⟩ := hc
  have c1 : ∀ (G : Nat) (k j : Int), ¬ rMdP m155_ G j → γ 1 G k j = γ 0 G k j := c1
  have c2 : ∀ (G : Nat) (k j : Int), ¬ rMdP m151_ G j → γ 2 G k j = γ 1 G k j := c2
  have c3 : ∀ (G : Nat) (k j : Int), ¬ rMdP m1_ G j → γ 3 G k j = γ 2 G k j := c3
  have c4 : ∀ (G : Nat) (k j : Int), ¬ rMdP m0_ G j → γ 4 G k j = γ 3 G k j := c4
  obtain ⟨l0, l1, l2, l3, -⟩ := hl
  have l1 : sn279 [ρ 7, ρ 2, ρ 8, ρ 9, ρ 10, ρ 11, ρ 12, ρ 13, ρ 14, ρ 15, ρ 16] (γ 1) 0 (ρ 17) (γ 2) := hS279 _ _ _ _ _ l1
  have l2 : sn84 [ρ 7, ρ 18, ρ 2, ρ 19, ρ 3, ρ 20, ρ 21, ρ 22, ρ 23, ρ 24, ρ 25, ρ 26] (γ 2) 0 (ρ 27) (γ 3) := hS84 _ _ _ _ _ l2
  have l3 : sn0 [ρ 28] (γ 3) 0 (ρ 28) (γ 4) := hS0 _ _ _ _ _ l3
  have M2 := eqM_k (ms := m151_) (by decide +kernel) c2
  have S2 := eqS_k (ms := m151_) (by decide +kernel) c2
  have k2 : γ 2 15 0 13 = γ 1 15 0 13 := zKo (ms := m151_) (G := 15) (n := 13) (by decide) (by decide +kernel) c2 0
  have J2 := JJ_eq hR.1.1 eqC_rf M2
  have C3 := eqC_k (ms := m1_) (by decide +kernel) c3
  have T3 := eqT_k (ms := m1_) (by decide +kernel) c3
  have fl3 : γ 3 0 0 7 = γ 2 0 0 7 := C3.1.2.2.2.2.2
  have S3 := eqS_k (ms := m1_) (by decide +kernel) c3
  have A3 := eqA_k (ms := m1_) (by decide +kernel) c3
  have B2 := eqB_k (ms := m151_) (by decide +kernel) c2
  have A2 := eqA_k (ms := m151_) (by decide +kernel) c2
  have B3 := eqB_k (ms := m1_) (by decide +kernel) c3
  have P2 := eqP_k (ms := m151_) (by decide +kernel) c2
  have O3 := eqO_k (ms := m1_) (by decide +kernel) c3
  have N3 := eqN_k (ms := m1_) (by decide +kernel) c3
  have O2 := eqO_k (ms := m151_) (by decide +kernel) c2
  have P3 := eqP_k (ms := m1_) (by decide +kernel) c3
  have N2 := eqN_k (ms := m151_) (by decide +kernel) c2
  have Q3 := eqQ_k (ms := m1_) (by decide +kernel) c3
  have R2 := eqR_k (ms := m151_) (by decide +kernel) c2
  have Q2 := eqQ_k (ms := m151_) (by decide +kernel) c2
  have R3 := eqR_k (ms := m1_) (by decide +kernel) c3
  have T2 := eqT_k (ms := m151_) (by decide +kernel) c2
  have fl2 : γ 2 0 0 7 = γ 1 0 0 7 := zKo (ms := m151_) (G := 0) (n := 7) (by decide) (by decide +kernel) c2 0
  have k3 : γ 3 15 0 13 = γ 2 15 0 13 := zKo (ms := m1_) (G := 15) (n := 13) (by decide) (by decide +kernel) c3 0
  have C2 := eqC_k (ms := m151_) (by decide +kernel) c2
  have M3 := eqM_k (ms := m1_) (by decide +kernel) c3
  have hh := count_cmp (show JK B (γ 1) (γ 2) from ⟨J2, fun w => yE1_fr (hR.1.2 w) eqT_rf S2 k2⟩) (oR_eq hR.2.1.2.1 eqO_rf P2) (nR_eq hR.2.2.2 eqQ_rf R2) l1 l2
  have l3 : (0, ρ 28, γ 4) = fn0 [] (γ 3) := l3
  have e4 : γ 4 = γ 3 := congrArg (fun r : zR => r.2.2) l3
  have e5 : ρ 28 = γ 3 15 0 0 := congrArg (fun r : zR => r.2.1) l3
  show lJC (ρ 1 + 6) (γ 4)
  rw [e4]
  exact ⟨B, by omega, ⟨⟨JJ_eq hR.1.1 (eqC_tr C2 C3) (eqM_tr M2 M3), fun w => yE1_fr (hR.1.2 (by rw [← fl2, ← fl3]; exact w)) (eqT_tr T2 T3) (eqS_tr S2 S3) (k3.trans k2)⟩, ⟨fun w => nE_fr (hR.2.1.1 (by rw [← fl2, ← fl3]; exact w)) (Int.le_trans (eqN_le N2) (eqN_le N3)) (eqS_tr S2 S3), oR_eq (oR_eq hR.2.1.2.1 O2 P2) O3 P3, pcN_eq (pcN_eq hR.2.1.2.2 N2) N3⟩, aR_eq (aR_eq hR.2.2.1 A2 B2) A3 B3, nR_eq (nR_eq hR.2.2.2 Q2 R2) Q3 R3⟩⟩
theorem lr_21 {S : Nat → zSpc} (hS279 : ∀ x g o v g_q, S 279 x g o v g_q → sn279 x g o v g_q) (hS84 : ∀ x g o v g_q, S 84 x g o v g_q → sn84 x g o v g_q) (hS0 : ∀ x g o v g_q, S 0 x g o v g_q → sn0 x g o v g_q) {a : List Int} {g : rHp} : ∀ (ρ : Nat → Int) (γ : Nat → rHp), rRg uW (γ 1) → lJC (ρ 1) (γ 1) → zO 1 S a g qL_21 ρ γ → zGl (fun _ vs g1 => lJC (vs.getD 1 0) g1) (fun _ v _ => v = 1) qL_21 ρ γ := by
  intro ρ γ hW hJ h
  obtain ⟨-, -, hr, hf, hm, hc, hl⟩ := h
  obtain ⟨B, hB, hR⟩ := hJ
  obtain ⟨r0, r1, r2, r3, r4, r5, r6, r7, r8, r9, r10, r11, r12, r13, r14, r15, r16, r17, r18, r19, r20, r21, r22, r23, r24, r25, r26, r27, r28, r29, -⟩ := hr
  have r0 : (0 : Int) ≤ ρ 0 ∧ ρ 0 ≤ 3072 := r0
  have r1 : (0 : Int) ≤ ρ 1 ∧ ρ 1 ≤ 3072 := r1
  have r17 : (0 : Int) ≤ ρ 17 ∧ ρ 17 ≤ 0 := r17
  obtain ⟨f0, f1, f2, f3, f4, f5, -⟩ := hf
  have f0 : (0 : Int) ≤ -ρ 28 + ρ 17 := f0
  have f1 : (0 : Int) ≤ ρ 28 + -ρ 17 := f1
  have f2 : (0 : Int) ≤ -ρ 1 + ρ 0 + (-6) := f2
  have f3 : (0 : Int) ≤ -ρ 1 + ρ 0 := f3
  have f4 : (0 : Int) ≤ -ρ 3 + (-ρ 2 + 4 * ρ 1) := f4
  have f5 : (0 : Int) ≤ -ρ 4 + (-ρ 2 + 4 * ρ 1) := f5
  obtain ⟨m0, m1, m2, m3, m4, m5, m6, m7, m8, m9, m10, m11, m12, m13, m14, m15, m16, m17, m18, m19, m20, m21, m22, m23, m24, m25, -⟩ := hm
  have m25 : γ 2 112 0 0 = ρ 29 := m25
  obtain ⟨⟨⟨⟨-, c1⟩, c2⟩, c3⟩, c4⟩ := hc
  have c1 : ∀ (G : Nat) (k j : Int), ¬ rMdP m155_ G j → γ 1 G k j = γ 0 G k j := c1
  have c2 : ∀ (G : Nat) (k j : Int), ¬ rMdP m151_ G j → γ 2 G k j = γ 1 G k j := c2
  have c3 : ∀ (G : Nat) (k j : Int), ¬ rMdP m1_ G j → γ 3 G k j = γ 2 G k j := c3
  have c4 : ∀ (G : Nat) (k j : Int), ¬ rMdP m0_ G j → γ 4 G k j = γ 3 G k j := c4
  obtain ⟨l0, l1, l2, l3, l4, -⟩ := hl
  have l1 : sn279 [ρ 7, ρ 2, ρ 8, ρ 9, ρ 10, ρ 11, ρ 12, ρ 13, ρ 14, ρ 15, ρ 16] (γ 1) 0 (ρ 17) (γ 2) := hS279 _ _ _ _ _ l1
  have l2 : sn84 [ρ 7, ρ 18, ρ 2, ρ 19, ρ 3, ρ 20, ρ 21, ρ 22, ρ 23, ρ 24, ρ 25, ρ 26] (γ 2) 0 (ρ 27) (γ 3) := hS84 _ _ _ _ _ l2
  have l3 : sn0 [ρ 28] (γ 3) 0 (ρ 28) (γ 4) := hS0 _ _ _ _ _ l3
  have l4 : ρ 29 ≠ ρ 27 := l4
  have M2 := eqM_k (ms := m151_) (by decide +kernel) c2
  have S2 := eqS_k (ms := m151_) (by decide +kernel) c2
  have k2 : γ 2 15 0 13 = γ 1 15 0 13 := zKo (ms := m151_) (G := 15) (n := 13) (by decide) (by decide +kernel) c2 0
  have J2 := JJ_eq hR.1.1 eqC_rf M2
  have C3 := eqC_k (ms := m1_) (by decide +kernel) c3
  have T3 := eqT_k (ms := m1_) (by decide +kernel) c3
  have fl3 : γ 3 0 0 7 = γ 2 0 0 7 := C3.1.2.2.2.2.2
  have S3 := eqS_k (ms := m1_) (by decide +kernel) c3
  have A3 := eqA_k (ms := m1_) (by decide +kernel) c3
  have B2 := eqB_k (ms := m151_) (by decide +kernel) c2
  have A2 := eqA_k (ms := m151_) (by decide +kernel) c2
  have B3 := eqB_k (ms := m1_) (by decide +kernel) c3
  have P2 := eqP_k (ms := m151_) (by decide +kernel) c2
  have O3 := eqO_k (ms := m1_) (by decide +kernel) c3
  have N3 := eqN_k (ms := m1_) (by decide +kernel) c3
  have O2 := eqO_k (ms := m151_) (by decide +kernel) c2
  have P3 := eqP_k (ms := m1_) (by decide +kernel) c3
  have N2 := eqN_k (ms := m151_) (by decide +kernel) c2
  have Q3 := eqQ_k (ms := m1_) (by decide +kernel) c3
  have R2 := eqR_k (ms := m151_) (by decide +kernel) c2
  have Q2 := eqQ_k (ms := m151_) (by decide +kernel) c2
  have R3 := eqR_k (ms := m1_) (by decide +kernel) c3
  have T2 := eqT_k (ms := m151_) (by decide +kernel) c2
  have fl2 : γ 2 0 0 7 = γ 1 0 0 7 := zKo (ms := m151_) (G := 0) (n := 7) (by decide) (by decide +kernel) c2 0
  have k3 : γ 3 15 0 13 = γ 2 15 0 13 := zKo (ms := m1_) (G := 15) (n := 13) (by decide) (by decide +kernel) c3 0
  have C2 := eqC_k (ms := m151_) (by decide +kernel) c2
  have M3 := eqM_k (ms := m1_) (by decide +kernel) c3
  have hh := count_cmp (show JK B (γ 1) (γ 2) from ⟨J2, fun w => yE1_fr (hR.1.2 w) eqT_rf S2 k2⟩) (oR_eq hR.2.1.2.1 eqO_rf P2) (nR_eq hR.2.2.2 eqQ_rf R2) l1 l2
  have l3 : (0, ρ 28, γ 4) = fn0 [] (γ 3) := l3
  have e4 : γ 4 = γ 3 := congrArg (fun r : zR => r.2.2) l3
  have e5 : ρ 28 = γ 3 15 0 0 := congrArg (fun r : zR => r.2.1) l3
  have e6 : γ 3 112 0 0 = γ 2 112 0 0 := by rw [zKa (G := 112) (by decide) (by decide +kernel) c3]
  have e7 : γ 2 112 0 0 = ρ 29 := m25
  exfalso
  have h2 := hh.2 (by omega)
  omega
theorem lr_22 {S : Nat → zSpc} (hS279 : ∀ x g o v g_q, S 279 x g o v g_q → sn279 x g o v g_q) (hS84 : ∀ x g o v g_q, S 84 x g o v g_q → sn84 x g o v g_q) (hS0 : ∀ x g o v g_q, S 0 x g o v g_q → sn0 x g o v g_q) {a : List Int} {g : rHp} : ∀ (ρ : Nat → Int) (γ : Nat → rHp), rRg uW (γ 1) → lJC (ρ 1) (γ 1) → zO 1 S a g qL_22 ρ γ → zGl (fun _ vs g1 => lJC (vs.getD 1 0) g1) (fun _ v _ => v = 1) qL_22 ρ γ := by
  intro ρ γ hW hJ h
  obtain ⟨-, -, hr, hf, hm, hc, hl⟩ := h
  obtain ⟨B, hB, hR⟩ := hJ
  obtain ⟨r0, r1, r2, r3, r4, r5, r6, r7, r8, r9, r10, r11, r12, r13, r14, r15, r16, r17, r18, r19, r20, r21, r22, r23, r24, r25, r26, r27, r28, -⟩ := hr
  have r0 : (0 : Int) ≤ ρ 0 ∧ ρ 0 ≤ 3072 := r0
  have r1 : (0 : Int) ≤ ρ 1 ∧ ρ 1 ≤ 3072 := r1
  have r17 : (0 : Int) ≤ ρ 17 ∧ ρ 17 ≤ 1 := r17
  obtain ⟨f0, f1, f2, f3, -⟩ := hf
  have f0 : (0 : Int) ≤ -ρ 1 + ρ 0 + (-6) := f0
  have f1 : (0 : Int) ≤ -ρ 1 + ρ 0 := f1
  have f2 : (0 : Int) ≤ -ρ 3 + (-ρ 2 + 4 * ρ 1) := f2
  have f3 : (0 : Int) ≤ -ρ 4 + (-ρ 2 + 4 * ρ 1) := f3
  obtain ⟨m0, m1, m2, m3, m4, m5, m6, m7, m8, m9, m10, m11, m12, m13, m14, m15, m16, m17, m18, m19, m20, m21, m22, m23, m24, -⟩ := hm
  obtain ⟨⟨⟨⟨-, c1⟩, c2⟩, c3⟩, c4⟩ := hc
  have c1 : ∀ (G : Nat) (k j : Int), ¬ rMdP m155_ G j → γ 1 G k j = γ 0 G k j := c1
  have c2 : ∀ (G : Nat) (k j : Int), ¬ rMdP m151_ G j → γ 2 G k j = γ 1 G k j := c2
  have c3 : ∀ (G : Nat) (k j : Int), ¬ rMdP m1_ G j → γ 3 G k j = γ 2 G k j := c3
  have c4 : ∀ (G : Nat) (k j : Int), ¬ rMdP m0_ G j → γ 4 G k j = γ 3 G k j := c4
  obtain ⟨l0, l1, l2, l3, l4, -⟩ := hl
  have l1 : sn279 [ρ 7, ρ 2, ρ 8, ρ 9, ρ 10, ρ 11, ρ 12, ρ 13, ρ 14, ρ 15, ρ 16] (γ 1) 0 (ρ 17) (γ 2) := hS279 _ _ _ _ _ l1
  have l2 : sn84 [ρ 7, ρ 18, ρ 2, ρ 19, ρ 3, ρ 20, ρ 21, ρ 22, ρ 23, ρ 24, ρ 25, ρ 26] (γ 2) 0 (ρ 27) (γ 3) := hS84 _ _ _ _ _ l2
  have l3 : sn0 [ρ 28] (γ 3) 0 (ρ 28) (γ 4) := hS0 _ _ _ _ _ l3
  have l4 : ρ 28 ≠ ρ 17 := l4
  have M2 := eqM_k (ms := m151_) (by decide +kernel) c2
  have S2 := eqS_k (ms := m151_) (by decide +kernel) c2
  have k2 : γ 2 15 0 13 = γ 1 15 0 13 := zKo (ms := m151_) (G := 15) (n := 13) (by decide) (by decide +kernel) c2 0
  have J2 := JJ_eq hR.1.1 eqC_rf M2
  have C3 := eqC_k (ms := m1_) (by decide +kernel) c3
  have T3 := eqT_k (ms := m1_) (by decide +kernel) c3
  have fl3 : γ 3 0 0 7 = γ 2 0 0 7 := C3.1.2.2.2.2.2
  have S3 := eqS_k (ms := m1_) (by decide +kernel) c3
  have A3 := eqA_k (ms := m1_) (by decide +kernel) c3
  have B2 := eqB_k (ms := m151_) (by decide +kernel) c2
  have A2 := eqA_k (ms := m151_) (by decide +kernel) c2
  have B3 := eqB_k (ms := m1_) (by decide +kernel) c3
  have P2 := eqP_k (ms := m151_) (by decide +kernel) c2
  have O3 := eqO_k (ms := m1_) (by decide +kernel) c3
  have N3 := eqN_k (ms := m1_) (by decide +kernel) c3
  have O2 := eqO_k (ms := m151_) (by decide +kernel) c2
  have P3 := eqP_k (ms := m1_) (by decide +kernel) c3
  have N2 := eqN_k (ms := m151_) (by decide +kernel) c2
  have Q3 := eqQ_k (ms := m1_) (by decide +kernel) c3
  have R2 := eqR_k (ms := m151_) (by decide +kernel) c2
  have Q2 := eqQ_k (ms := m151_) (by decide +kernel) c2
  have R3 := eqR_k (ms := m1_) (by decide +kernel) c3
  have T2 := eqT_k (ms := m151_) (by decide +kernel) c2
  have fl2 : γ 2 0 0 7 = γ 1 0 0 7 := zKo (ms := m151_) (G := 0) (n := 7) (by decide) (by decide +kernel) c2 0
  have k3 : γ 3 15 0 13 = γ 2 15 0 13 := zKo (ms := m1_) (G := 15) (n := 13) (by decide) (by decide +kernel) c3 0
  have C2 := eqC_k (ms := m151_) (by decide +kernel) c2
  have M3 := eqM_k (ms := m1_) (by decide +kernel) c3
  have hh := count_cmp (show JK B (γ 1) (γ 2) from ⟨J2, fun w => yE1_fr (hR.1.2 w) eqT_rf S2 k2⟩) (oR_eq hR.2.1.2.1 eqO_rf P2) (nR_eq hR.2.2.2 eqQ_rf R2) l1 l2
  have l3 : (0, ρ 28, γ 4) = fn0 [] (γ 3) := l3
  have e4 : γ 4 = γ 3 := congrArg (fun r : zR => r.2.2) l3
  have e5 : ρ 28 = γ 3 15 0 0 := congrArg (fun r : zR => r.2.1) l3
  exfalso
  have h1 := hh.1
  omega
theorem lr_all {S : Nat → zSpc} (hS0 : ∀ x g o v g_q, S 0 x g o v g_q → sn0 x g o v g_q) (hS3 : ∀ x g o v g_q, S 3 x g o v g_q → sn3 x g o v g_q) (hS4 : ∀ x g o v g_q, S 4 x g o v g_q → sn4 x g o v g_q) (hS51 : ∀ x g o v g_q, S 51 x g o v g_q → sn51 x g o v g_q) (hS52 : ∀ x g o v g_q, S 52 x g o v g_q → sn52 x g o v g_q) (hS54 : ∀ x g o v g_q, S 54 x g o v g_q → sn54 x g o v g_q) (hS78 : ∀ x g o v g_q, S 78 x g o v g_q → sn78 x g o v g_q) (hS84 : ∀ x g o v g_q, S 84 x g o v g_q → sn84 x g o v g_q) (hS89 : ∀ x g o v g_q, S 89 x g o v g_q → sn89 x g o v g_q) (hS90 : ∀ x g o v g_q, S 90 x g o v g_q → sr90 x g o v g_q) (hS91 : ∀ x g o v g_q, S 91 x g o v g_q → sb91 x g o v g_q) (hS166 : ∀ x g o v g_q, S 166 x g o v g_q → sn166 x g o v g_q) (hS167 : ∀ x g o v g_q, S 167 x g o v g_q → sn167 x g o v g_q) (hS267 : ∀ x g o v g_q, S 267 x g o v g_q → sn267 x g o v g_q) (hS268 : ∀ x g o v g_q, S 268 x g o v g_q → sn268 x g o v g_q) (hS269 : ∀ x g o v g_q, S 269 x g o v g_q → sn269 x g o v g_q) (hS270 : ∀ x g o v g_q, S 270 x g o v g_q → sn270 x g o v g_q) (hS273 : ∀ x g o v g_q, S 273 x g o v g_q → sn273 x g o v g_q) (hS274 : ∀ x g o v g_q, S 274 x g o v g_q → sr274 x g o v g_q) (hS275 : ∀ x g o v g_q, S 275 x g o v g_q → sn275 x g o v g_q) (hS279 : ∀ x g o v g_q, S 279 x g o v g_q → sn279 x g o v g_q) {a : List Int} {g : rHp} : ∀ q ∈ qLs, ∀ (ρ : Nat → Int) (γ : Nat → rHp), rRg uW (γ 1) → lJC (ρ 1) (γ 1) → zO 1 S a g q ρ γ → zGl (fun _ vs g1 => lJC (vs.getD 1 0) g1) (fun _ v _ => v = 1) q ρ γ := by
  exact zAll_in (show zAll (fun q => ∀ (ρ : Nat → Int) (γ : Nat → rHp), rRg uW (γ 1) → lJC (ρ 1) (γ 1) → zO 1 S a g q ρ γ → zGl (fun _ vs g1 => lJC (vs.getD 1 0) g1) (fun _ v _ => v = 1) q ρ γ) [qL_0, qL_1, qL_2, qL_3, qL_4, qL_5, qL_6, qL_7, qL_8, qL_9, qL_10, qL_11, qL_12, qL_13, qL_14, qL_15, qL_16, qL_17, qL_18, qL_19, qL_20, qL_21, qL_22] from (zAll_c (lr_0) (zAll_c (lr_1) (zAll_c (lr_2 hS267 hS3) (zAll_c (lr_3 hS267 hS3) (zAll_c (lr_4 hS268 hS4) (zAll_c (lr_5 hS268 hS4) (zAll_c (lr_6 hS268 hS4) (zAll_c (lr_7 hS166 hS51) (zAll_c (lr_8 hS167 hS52) (zAll_c (lr_9 hS269 hS54) (zAll_c (lr_10 hS270 hS78) (zAll_c (lr_11) (zAll_c (lr_12) (zAll_c (lr_13 hS273 hS89) (zAll_c (lr_14 hS274 hS90) (zAll_c (lr_15 hS275 hS91) (zAll_c (lr_16) (zAll_c (lr_17) (zAll_c (lr_18) (zAll_c (lr_19 hS279 hS84 hS0) (zAll_c (lr_20 hS279 hS84 hS0) (zAll_c (lr_21 hS279 hS84 hS0) (zAll_c (lr_22 hS279 hS84 hS0) zAll_n))))))))))))))))))))))))
