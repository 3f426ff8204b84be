/-! ===== the law's tables, the fields_q words, the start ===== -/
noncomputable def dL : aMd := (x, code, maxLocals, ret, [])
noncomputable def tRqL : List Cond := rqM vwCl tMth tXn dL.1.cls vL_
noncomputable def tUw : List Cond := vwCl.flatMap (fun r => u_ws r.1 r.2.1 r.2.2)
noncomputable def tIw : List Cond := vwCl.map (fun r => Cond.instantiable r.1 r.2.2)
noncomputable def tSw : List Cond := [Cond.laysStatic Bundle.tN "UNASSIGNED_STACK" Bundle.steD, Cond.laysStatic Bundle.tN "SUPPRESSED_SENTINEL" Bundle.listD, Cond.initialized Bundle.tN, .arrayOver (.object "RoundReckoner$Goal"), .arrayOver (.object "RoundReckoner$Rule"), .arrayClass .int, .arrayClass .long, .arrayClass .byte, .arrayClass .boolean]
noncomputable def tRw : List Cond := tIw ++ (tSw ++ tNw)
theorem tDropW {β : Type} {L : List β} {q : β → Prop} (js : List Nat) (hj : (List.range L.length).all (fun i => js.any (fun j => Nat.ble j i && Nat.blt i (j + 30))) = true) (h : ∀ j ∈ js, ∀ z ∈ (L.drop j).take 30, q z) : ∀ z ∈ L, q z := by
  intro z hz
  obtain ⟨i, hi⟩ := List.mem_iff_getElem?.mp hz
  have hlt : i < L.length := (List.getElem?_eq_some_iff.mp hi).1
  obtain ⟨j, hj1, hj2⟩ := List.any_eq_true.mp (List.all_eq_true.mp hj i (List.mem_range.mpr hlt))
  simp only [Bool.and_eq_true] at hj2
  have a1 := Nat.le_of_ble_eq_true hj2.1
  have a2 := (Nat.blt_eq).mp hj2.2
  refine h j hj1 z (List.mem_of_getElem? (i := i - j) ?_)
  rw [List.getElem?_take_of_lt (by omega), List.getElem?_drop, show j + (i - j) = i by omega]
  exact hi
noncomputable def uw1_25 : Cond := Cond.classLink "RoundReckonerLaw" (8 : Nat) "RoundReckoner"
set_option maxRecDepth 100000 in
theorem uw1_25m : uw1_25 ∈ tW0 := tInW 1 25 rfl rfl
noncomputable def uw1_26 : Cond := Cond.instantiable "RoundReckoner" (10 : Nat)
set_option maxRecDepth 100000 in
theorem uw1_26m : uw1_26 ∈ tW0 := tInW 1 26 rfl rfl
noncomputable def uw6_44 : Cond := Cond.classLink "RoundReckonerLaw" (64 : Nat) "RoundReckonerModel"
set_option maxRecDepth 100000 in
theorem uw6_44m : uw6_44 ∈ tW0 := tInW 6 44 rfl rfl
noncomputable def uw6_45 : Cond := Cond.instantiable "RoundReckonerModel" (96 : Nat)
set_option maxRecDepth 100000 in
theorem uw6_45m : uw6_45 ∈ tW0 := tInW 6 45 rfl rfl
noncomputable def uw1_29 : Cond := Cond.code ({ cls := "RoundReckoner", name := "<init>", desc := "()V" } : MethodName) prog_1_method_1_code (1 : Nat) (Option.none : Option FieldType)
set_option maxRecDepth 100000 in
theorem uw1_29m : uw1_29 ∈ tW0 := tInW 1 29 rfl rfl
noncomputable def uw1_27 : Cond := Cond.methodLink "RoundReckonerLaw" (63 : Nat) ({ cls := "RoundReckoner", name := "<init>", desc := "()V" } : MethodName)
set_option maxRecDepth 100000 in
theorem uw1_27m : uw1_27 ∈ tW0 := tInW 1 27 rfl rfl
noncomputable def uw1_28 : Cond := Cond.instanceMethod ({ cls := "RoundReckoner", name := "<init>", desc := "()V" } : MethodName)
set_option maxRecDepth 100000 in
theorem uw1_28m : uw1_28 ∈ tW0 := tInW 1 28 rfl rfl
noncomputable def uw6_48 : Cond := Cond.code ({ cls := "RoundReckonerModel", name := "<init>", desc := "()V" } : MethodName) prog_14_method_3_code (1 : Nat) (Option.none : Option FieldType)
set_option maxRecDepth 100000 in
theorem uw6_48m : uw6_48 ∈ tW0 := tInW 6 48 rfl rfl
noncomputable def uw6_46 : Cond := Cond.methodLink "RoundReckonerLaw" (66 : Nat) ({ cls := "RoundReckonerModel", name := "<init>", desc := "()V" } : MethodName)
set_option maxRecDepth 100000 in
theorem uw6_46m : uw6_46 ∈ tW0 := tInW 6 46 rfl rfl
noncomputable def uw6_47 : Cond := Cond.instanceMethod ({ cls := "RoundReckonerModel", name := "<init>", desc := "()V" } : MethodName)
set_option maxRecDepth 100000 in
theorem uw6_47m : uw6_47 ∈ tW0 := tInW 6 47 rfl rfl
noncomputable def uw4_40 : Cond := Cond.codeWith ({ cls := "RoundReckonerLaw", name := "feed", desc := "(LRoundReckoner;IIIII[J)I" } : MethodName) method_3_code (8 : Nat) (Option.some FieldType.int) [((0 : Nat), (16 : Nat), (19 : Nat), (13 : Nat))]
set_option maxRecDepth 100000 in
theorem uw4_40m : uw4_40 ∈ tW0 := tInW 4 40 rfl rfl
noncomputable def uw1_0 : Cond := Cond.initialized "RoundReckonerLaw"
set_option maxRecDepth 100000 in
theorem uw1_0m : uw1_0 ∈ tW0 := tInW 1 0 rfl rfl
noncomputable def uw4_38 : Cond := Cond.methodLink "RoundReckonerLaw" (67 : Nat) ({ cls := "RoundReckonerLaw", name := "feed", desc := "(LRoundReckoner;IIIII[J)I" } : MethodName)
set_option maxRecDepth 100000 in
theorem uw4_38m : uw4_38 ∈ tW0 := tInW 4 38 rfl rfl
noncomputable def uw4_39 : Cond := Cond.static ({ cls := "RoundReckonerLaw", name := "feed", desc := "(LRoundReckoner;IIIII[J)I" } : MethodName)
set_option maxRecDepth 100000 in
theorem uw4_39m : uw4_39 ∈ tW0 := tInW 4 39 rfl rfl
noncomputable def uw7_104 : Cond := Cond.code ({ cls := "RoundReckonerModel", name := "feed", desc := "(IIIII)I" } : MethodName) prog_14_method_4_code (6 : Nat) (Option.some FieldType.int)
set_option maxRecDepth 100000 in
theorem uw7_104m : uw7_104 ∈ tW0 := tInW 7 104 rfl rfl
noncomputable def uw7_101 : Cond := Cond.methodLink "RoundReckonerLaw" (72 : Nat) ({ cls := "RoundReckonerModel", name := "feed", desc := "(IIIII)I" } : MethodName)
set_option maxRecDepth 100000 in
theorem uw7_101m : uw7_101 ∈ tW0 := tInW 7 101 rfl rfl
noncomputable def uw7_102 : Cond := Cond.instanceMethod ({ cls := "RoundReckonerModel", name := "feed", desc := "(IIIII)I" } : MethodName)
set_option maxRecDepth 100000 in
theorem uw7_102m : uw7_102 ∈ tW0 := tInW 7 102 rfl rfl
noncomputable def uw7_103 : Cond := Cond.selects "RoundReckonerModel" ({ cls := "RoundReckonerModel", name := "feed", desc := "(IIIII)I" } : MethodName) ({ cls := "RoundReckonerModel", name := "feed", desc := "(IIIII)I" } : MethodName)
set_option maxRecDepth 100000 in
theorem uw7_103m : uw7_103 ∈ tW0 := tInW 7 103 rfl rfl
noncomputable def uw4_117 : Cond := Cond.codeWith ({ cls := "RoundReckonerLaw", name := "end", desc := "(LRoundReckoner;I[J)I" } : MethodName) method_4_code (4 : Nat) (Option.some FieldType.int) [((0 : Nat), (9 : Nat), (12 : Nat), (19 : Nat))]
set_option maxRecDepth 100000 in
theorem uw4_117m : uw4_117 ∈ tW0 := tInW 4 117 rfl rfl
noncomputable def uw4_115 : Cond := Cond.methodLink "RoundReckonerLaw" (73 : Nat) ({ cls := "RoundReckonerLaw", name := "end", desc := "(LRoundReckoner;I[J)I" } : MethodName)
set_option maxRecDepth 100000 in
theorem uw4_115m : uw4_115 ∈ tW0 := tInW 4 115 rfl rfl
noncomputable def uw4_116 : Cond := Cond.static ({ cls := "RoundReckonerLaw", name := "end", desc := "(LRoundReckoner;I[J)I" } : MethodName)
set_option maxRecDepth 100000 in
theorem uw4_116m : uw4_116 ∈ tW0 := tInW 4 116 rfl rfl
noncomputable def uw7_116 : Cond := Cond.code ({ cls := "RoundReckonerModel", name := "end", desc := "(I)I" } : MethodName) prog_14_method_6_code (2 : Nat) (Option.some FieldType.int)
set_option maxRecDepth 100000 in
theorem uw7_116m : uw7_116 ∈ tW0 := tInW 7 116 rfl rfl
noncomputable def uw7_113 : Cond := Cond.methodLink "RoundReckonerLaw" (76 : Nat) ({ cls := "RoundReckonerModel", name := "end", desc := "(I)I" } : MethodName)
set_option maxRecDepth 100000 in
theorem uw7_113m : uw7_113 ∈ tW0 := tInW 7 113 rfl rfl
noncomputable def uw7_114 : Cond := Cond.instanceMethod ({ cls := "RoundReckonerModel", name := "end", desc := "(I)I" } : MethodName)
set_option maxRecDepth 100000 in
theorem uw7_114m : uw7_114 ∈ tW0 := tInW 7 114 rfl rfl
noncomputable def uw7_115 : Cond := Cond.selects "RoundReckonerModel" ({ cls := "RoundReckonerModel", name := "end", desc := "(I)I" } : MethodName) ({ cls := "RoundReckonerModel", name := "end", desc := "(I)I" } : MethodName)
set_option maxRecDepth 100000 in
theorem uw7_115m : uw7_115 ∈ tW0 := tInW 7 115 rfl rfl
noncomputable def uw3_38 : Cond := Cond.code ({ cls := "RoundReckoner", name := "tell", desc := "()I" } : MethodName) prog_1_method_4_code (4 : Nat) (Option.some FieldType.int)
set_option maxRecDepth 100000 in
theorem uw3_38m : uw3_38 ∈ tW0 := tInW 3 38 rfl rfl
noncomputable def uw3_35 : Cond := Cond.methodLink "RoundReckonerLaw" (77 : Nat) ({ cls := "RoundReckoner", name := "tell", desc := "()I" } : MethodName)
set_option maxRecDepth 100000 in
theorem uw3_35m : uw3_35 ∈ tW0 := tInW 3 35 rfl rfl
noncomputable def uw3_36 : Cond := Cond.instanceMethod ({ cls := "RoundReckoner", name := "tell", desc := "()I" } : MethodName)
set_option maxRecDepth 100000 in
theorem uw3_36m : uw3_36 ∈ tW0 := tInW 3 36 rfl rfl
noncomputable def uw3_37 : Cond := Cond.selects "RoundReckoner" ({ cls := "RoundReckoner", name := "tell", desc := "()I" } : MethodName) ({ cls := "RoundReckoner", name := "tell", desc := "()I" } : MethodName)
set_option maxRecDepth 100000 in
theorem uw3_37m : uw3_37 ∈ tW0 := tInW 3 37 rfl rfl
noncomputable def uw7_120 : Cond := Cond.code ({ cls := "RoundReckonerModel", name := "tell", desc := "()I" } : MethodName) prog_14_method_43_code (2 : Nat) (Option.some FieldType.int)
set_option maxRecDepth 100000 in
theorem uw7_120m : uw7_120 ∈ tW0 := tInW 7 120 rfl rfl
noncomputable def uw7_117 : Cond := Cond.methodLink "RoundReckonerLaw" (80 : Nat) ({ cls := "RoundReckonerModel", name := "tell", desc := "()I" } : MethodName)
set_option maxRecDepth 100000 in
theorem uw7_117m : uw7_117 ∈ tW0 := tInW 7 117 rfl rfl
noncomputable def uw7_118 : Cond := Cond.instanceMethod ({ cls := "RoundReckonerModel", name := "tell", desc := "()I" } : MethodName)
set_option maxRecDepth 100000 in
theorem uw7_118m : uw7_118 ∈ tW0 := tInW 7 118 rfl rfl
noncomputable def uw7_119 : Cond := Cond.selects "RoundReckonerModel" ({ cls := "RoundReckonerModel", name := "tell", desc := "()I" } : MethodName) ({ cls := "RoundReckonerModel", name := "tell", desc := "()I" } : MethodName)
set_option maxRecDepth 100000 in
theorem uw7_119m : uw7_119 ∈ tW0 := tInW 7 119 rfl rfl
noncomputable def uw4_27 : Cond := Cond.code ({ cls := "RoundReckoner", name := "untell", desc := "()I" } : MethodName) prog_1_method_6_code (4 : Nat) (Option.some FieldType.int)
set_option maxRecDepth 100000 in
theorem uw4_27m : uw4_27 ∈ tW0 := tInW 4 27 rfl rfl
noncomputable def uw4_24 : Cond := Cond.methodLink "RoundReckonerLaw" (81 : Nat) ({ cls := "RoundReckoner", name := "untell", desc := "()I" } : MethodName)
set_option maxRecDepth 100000 in
theorem uw4_24m : uw4_24 ∈ tW0 := tInW 4 24 rfl rfl
noncomputable def uw4_25 : Cond := Cond.instanceMethod ({ cls := "RoundReckoner", name := "untell", desc := "()I" } : MethodName)
set_option maxRecDepth 100000 in
theorem uw4_25m : uw4_25 ∈ tW0 := tInW 4 25 rfl rfl
noncomputable def uw4_26 : Cond := Cond.selects "RoundReckoner" ({ cls := "RoundReckoner", name := "untell", desc := "()I" } : MethodName) ({ cls := "RoundReckoner", name := "untell", desc := "()I" } : MethodName)
set_option maxRecDepth 100000 in
theorem uw4_26m : uw4_26 ∈ tW0 := tInW 4 26 rfl rfl
noncomputable def uw8_35 : Cond := Cond.code ({ cls := "RoundReckonerModel", name := "untell", desc := "()I" } : MethodName) prog_14_method_45_code (6 : Nat) (Option.some FieldType.int)
set_option maxRecDepth 100000 in
theorem uw8_35m : uw8_35 ∈ tW0 := tInW 8 35 rfl rfl
noncomputable def uw8_32 : Cond := Cond.methodLink "RoundReckonerLaw" (84 : Nat) ({ cls := "RoundReckonerModel", name := "untell", desc := "()I" } : MethodName)
set_option maxRecDepth 100000 in
theorem uw8_32m : uw8_32 ∈ tW0 := tInW 8 32 rfl rfl
noncomputable def uw8_33 : Cond := Cond.instanceMethod ({ cls := "RoundReckonerModel", name := "untell", desc := "()I" } : MethodName)
set_option maxRecDepth 100000 in
theorem uw8_33m : uw8_33 ∈ tW0 := tInW 8 33 rfl rfl
noncomputable def uw8_34 : Cond := Cond.selects "RoundReckonerModel" ({ cls := "RoundReckonerModel", name := "untell", desc := "()I" } : MethodName) ({ cls := "RoundReckonerModel", name := "untell", desc := "()I" } : MethodName)
set_option maxRecDepth 100000 in
theorem uw8_34m : uw8_34 ∈ tW0 := tInW 8 34 rfl rfl
noncomputable def uw4_140 : Cond := Cond.codeWith ({ cls := "RoundReckonerLaw", name := "drop", desc := "(LRoundReckoner;I[J)I" } : MethodName) method_5_code (4 : Nat) (Option.some FieldType.int) [((0 : Nat), (9 : Nat), (12 : Nat), (13 : Nat))]
set_option maxRecDepth 100000 in
theorem uw4_140m : uw4_140 ∈ tW0 := tInW 4 140 rfl rfl
noncomputable def uw4_138 : Cond := Cond.methodLink "RoundReckonerLaw" (85 : Nat) ({ cls := "RoundReckonerLaw", name := "drop", desc := "(LRoundReckoner;I[J)I" } : MethodName)
set_option maxRecDepth 100000 in
theorem uw4_138m : uw4_138 ∈ tW0 := tInW 4 138 rfl rfl
noncomputable def uw4_139 : Cond := Cond.static ({ cls := "RoundReckonerLaw", name := "drop", desc := "(LRoundReckoner;I[J)I" } : MethodName)
set_option maxRecDepth 100000 in
theorem uw4_139m : uw4_139 ∈ tW0 := tInW 4 139 rfl rfl
noncomputable def uw8_39 : Cond := Cond.code ({ cls := "RoundReckonerModel", name := "drop", desc := "(I)I" } : MethodName) prog_14_method_46_code (3 : Nat) (Option.some FieldType.int)
set_option maxRecDepth 100000 in
theorem uw8_39m : uw8_39 ∈ tW0 := tInW 8 39 rfl rfl
noncomputable def uw8_36 : Cond := Cond.methodLink "RoundReckonerLaw" (87 : Nat) ({ cls := "RoundReckonerModel", name := "drop", desc := "(I)I" } : MethodName)
set_option maxRecDepth 100000 in
theorem uw8_36m : uw8_36 ∈ tW0 := tInW 8 36 rfl rfl
noncomputable def uw8_37 : Cond := Cond.instanceMethod ({ cls := "RoundReckonerModel", name := "drop", desc := "(I)I" } : MethodName)
set_option maxRecDepth 100000 in
theorem uw8_37m : uw8_37 ∈ tW0 := tInW 8 37 rfl rfl
noncomputable def uw8_38 : Cond := Cond.selects "RoundReckonerModel" ({ cls := "RoundReckonerModel", name := "drop", desc := "(I)I" } : MethodName) ({ cls := "RoundReckonerModel", name := "drop", desc := "(I)I" } : MethodName)
set_option maxRecDepth 100000 in
theorem uw8_38m : uw8_38 ∈ tW0 := tInW 8 38 rfl rfl
noncomputable def uw4_152 : Cond := Cond.codeWith ({ cls := "RoundReckonerLaw", name := "run", desc := "(LRoundReckoner;[J)I" } : MethodName) method_6_code (3 : Nat) (Option.some FieldType.int) [((0 : Nat), (8 : Nat), (11 : Nat), (28 : Nat)), ((0 : Nat), (8 : Nat), (14 : Nat), (30 : Nat)), ((0 : Nat), (8 : Nat), (17 : Nat), (13 : Nat))]
set_option maxRecDepth 100000 in
theorem uw4_152m : uw4_152 ∈ tW0 := tInW 4 152 rfl rfl
noncomputable def uw4_150 : Cond := Cond.methodLink "RoundReckonerLaw" (88 : Nat) ({ cls := "RoundReckonerLaw", name := "run", desc := "(LRoundReckoner;[J)I" } : MethodName)
set_option maxRecDepth 100000 in
theorem uw4_150m : uw4_150 ∈ tW0 := tInW 4 150 rfl rfl
noncomputable def uw4_151 : Cond := Cond.static ({ cls := "RoundReckonerLaw", name := "run", desc := "(LRoundReckoner;[J)I" } : MethodName)
set_option maxRecDepth 100000 in
theorem uw4_151m : uw4_151 ∈ tW0 := tInW 4 151 rfl rfl
noncomputable def uw8_47 : Cond := Cond.code ({ cls := "RoundReckonerModel", name := "run", desc := "()I" } : MethodName) prog_14_method_67_code (2 : Nat) (Option.some FieldType.int)
set_option maxRecDepth 100000 in
theorem uw8_47m : uw8_47 ∈ tW0 := tInW 8 47 rfl rfl
noncomputable def uw8_44 : Cond := Cond.methodLink "RoundReckonerLaw" (91 : Nat) ({ cls := "RoundReckonerModel", name := "run", desc := "()I" } : MethodName)
set_option maxRecDepth 100000 in
theorem uw8_44m : uw8_44 ∈ tW0 := tInW 8 44 rfl rfl
noncomputable def uw8_45 : Cond := Cond.instanceMethod ({ cls := "RoundReckonerModel", name := "run", desc := "()I" } : MethodName)
set_option maxRecDepth 100000 in
theorem uw8_45m : uw8_45 ∈ tW0 := tInW 8 45 rfl rfl
noncomputable def uw8_46 : Cond := Cond.selects "RoundReckonerModel" ({ cls := "RoundReckonerModel", name := "run", desc := "()I" } : MethodName) ({ cls := "RoundReckonerModel", name := "run", desc := "()I" } : MethodName)
set_option maxRecDepth 100000 in
theorem uw8_46m : uw8_46 ∈ tW0 := tInW 8 46 rfl rfl
noncomputable def uw5_156 : Cond := Cond.codeWith ({ cls := "RoundReckonerLaw", name := "tuple", desc := "(LRoundReckoner;II[J)I" } : MethodName) method_7_code (5 : Nat) (Option.some FieldType.int) [((0 : Nat), (10 : Nat), (13 : Nat), (19 : Nat)), ((0 : Nat), (10 : Nat), (17 : Nat), (36 : Nat)), ((0 : Nat), (10 : Nat), (21 : Nat), (13 : Nat))]
set_option maxRecDepth 100000 in
theorem uw5_156m : uw5_156 ∈ tW0 := tInW 5 156 rfl rfl
noncomputable def uw5_154 : Cond := Cond.methodLink "RoundReckonerLaw" (92 : Nat) ({ cls := "RoundReckonerLaw", name := "tuple", desc := "(LRoundReckoner;II[J)I" } : MethodName)
set_option maxRecDepth 100000 in
theorem uw5_154m : uw5_154 ∈ tW0 := tInW 5 154 rfl rfl
noncomputable def uw5_155 : Cond := Cond.static ({ cls := "RoundReckonerLaw", name := "tuple", desc := "(LRoundReckoner;II[J)I" } : MethodName)
set_option maxRecDepth 100000 in
theorem uw5_155m : uw5_155 ∈ tW0 := tInW 5 155 rfl rfl
noncomputable def uw8_134 : Cond := Cond.code ({ cls := "RoundReckonerModel", name := "tuple", desc := "(II)I" } : MethodName) prog_14_method_70_code (4 : Nat) (Option.some FieldType.int)
set_option maxRecDepth 100000 in
theorem uw8_134m : uw8_134 ∈ tW0 := tInW 8 134 rfl rfl
noncomputable def uw8_131 : Cond := Cond.methodLink "RoundReckonerLaw" (95 : Nat) ({ cls := "RoundReckonerModel", name := "tuple", desc := "(II)I" } : MethodName)
set_option maxRecDepth 100000 in
theorem uw8_131m : uw8_131 ∈ tW0 := tInW 8 131 rfl rfl
noncomputable def uw8_132 : Cond := Cond.instanceMethod ({ cls := "RoundReckonerModel", name := "tuple", desc := "(II)I" } : MethodName)
set_option maxRecDepth 100000 in
theorem uw8_132m : uw8_132 ∈ tW0 := tInW 8 132 rfl rfl
noncomputable def uw8_133 : Cond := Cond.selects "RoundReckonerModel" ({ cls := "RoundReckonerModel", name := "tuple", desc := "(II)I" } : MethodName) ({ cls := "RoundReckonerModel", name := "tuple", desc := "(II)I" } : MethodName)
set_option maxRecDepth 100000 in
theorem uw8_133m : uw8_133 ∈ tW0 := tInW 8 133 rfl rfl
noncomputable def uw5_193 : Cond := Cond.codeWith ({ cls := "RoundReckonerLaw", name := "why", desc := "(LRoundReckoner;II[J)I" } : MethodName) method_8_code (5 : Nat) (Option.some FieldType.int) [((0 : Nat), (10 : Nat), (13 : Nat), (36 : Nat)), ((0 : Nat), (10 : Nat), (17 : Nat), (13 : Nat))]
set_option maxRecDepth 100000 in
theorem uw5_193m : uw5_193 ∈ tW0 := tInW 5 193 rfl rfl
noncomputable def uw5_191 : Cond := Cond.methodLink "RoundReckonerLaw" (96 : Nat) ({ cls := "RoundReckonerLaw", name := "why", desc := "(LRoundReckoner;II[J)I" } : MethodName)
set_option maxRecDepth 100000 in
theorem uw5_191m : uw5_191 ∈ tW0 := tInW 5 191 rfl rfl
noncomputable def uw5_192 : Cond := Cond.static ({ cls := "RoundReckonerLaw", name := "why", desc := "(LRoundReckoner;II[J)I" } : MethodName)
set_option maxRecDepth 100000 in
theorem uw5_192m : uw5_192 ∈ tW0 := tInW 5 192 rfl rfl
noncomputable def uw8_147 : Cond := Cond.code ({ cls := "RoundReckonerModel", name := "why", desc := "(II)I" } : MethodName) prog_14_method_71_code (3 : Nat) (Option.some FieldType.int)
set_option maxRecDepth 100000 in
theorem uw8_147m : uw8_147 ∈ tW0 := tInW 8 147 rfl rfl
noncomputable def uw8_144 : Cond := Cond.methodLink "RoundReckonerLaw" (98 : Nat) ({ cls := "RoundReckonerModel", name := "why", desc := "(II)I" } : MethodName)
set_option maxRecDepth 100000 in
theorem uw8_144m : uw8_144 ∈ tW0 := tInW 8 144 rfl rfl
noncomputable def uw8_145 : Cond := Cond.instanceMethod ({ cls := "RoundReckonerModel", name := "why", desc := "(II)I" } : MethodName)
set_option maxRecDepth 100000 in
theorem uw8_145m : uw8_145 ∈ tW0 := tInW 8 145 rfl rfl
noncomputable def uw8_146 : Cond := Cond.selects "RoundReckonerModel" ({ cls := "RoundReckonerModel", name := "why", desc := "(II)I" } : MethodName) ({ cls := "RoundReckonerModel", name := "why", desc := "(II)I" } : MethodName)
set_option maxRecDepth 100000 in
theorem uw8_146m : uw8_146 ∈ tW0 := tInW 8 146 rfl rfl
noncomputable def uw5_200 : Cond := Cond.codeWith ({ cls := "RoundReckonerLaw", name := "show", desc := "(LRoundReckoner;I[J)I" } : MethodName) method_9_code (4 : Nat) (Option.some FieldType.int) [((0 : Nat), (9 : Nat), (12 : Nat), (36 : Nat)), ((0 : Nat), (9 : Nat), (15 : Nat), (13 : Nat))]
set_option maxRecDepth 100000 in
theorem uw5_200m : uw5_200 ∈ tW0 := tInW 5 200 rfl rfl
noncomputable def uw5_198 : Cond := Cond.methodLink "RoundReckonerLaw" (99 : Nat) ({ cls := "RoundReckonerLaw", name := "show", desc := "(LRoundReckoner;I[J)I" } : MethodName)
set_option maxRecDepth 100000 in
theorem uw5_198m : uw5_198 ∈ tW0 := tInW 5 198 rfl rfl
noncomputable def uw5_199 : Cond := Cond.static ({ cls := "RoundReckonerLaw", name := "show", desc := "(LRoundReckoner;I[J)I" } : MethodName)
set_option maxRecDepth 100000 in
theorem uw5_199m : uw5_199 ∈ tW0 := tInW 5 199 rfl rfl
noncomputable def uw8_151 : Cond := Cond.code ({ cls := "RoundReckonerModel", name := "show", desc := "(I)I" } : MethodName) prog_14_method_74_code (8 : Nat) (Option.some FieldType.int)
set_option maxRecDepth 100000 in
theorem uw8_151m : uw8_151 ∈ tW0 := tInW 8 151 rfl rfl
noncomputable def uw8_148 : Cond := Cond.methodLink "RoundReckonerLaw" (101 : Nat) ({ cls := "RoundReckonerModel", name := "show", desc := "(I)I" } : MethodName)
set_option maxRecDepth 100000 in
theorem uw8_148m : uw8_148 ∈ tW0 := tInW 8 148 rfl rfl
noncomputable def uw8_149 : Cond := Cond.instanceMethod ({ cls := "RoundReckonerModel", name := "show", desc := "(I)I" } : MethodName)
set_option maxRecDepth 100000 in
theorem uw8_149m : uw8_149 ∈ tW0 := tInW 8 149 rfl rfl
noncomputable def uw8_150 : Cond := Cond.selects "RoundReckonerModel" ({ cls := "RoundReckonerModel", name := "show", desc := "(I)I" } : MethodName) ({ cls := "RoundReckonerModel", name := "show", desc := "(I)I" } : MethodName)
set_option maxRecDepth 100000 in
theorem uw8_150m : uw8_150 ∈ tW0 := tInW 8 150 rfl rfl
noncomputable def uw5_233 : Cond := Cond.codeWith ({ cls := "RoundReckonerLaw", name := "find", desc := "(LRoundReckoner;[J)I" } : MethodName) method_10_code (3 : Nat) (Option.some FieldType.int) [((0 : Nat), (8 : Nat), (11 : Nat), (36 : Nat))]
set_option maxRecDepth 100000 in
theorem uw5_233m : uw5_233 ∈ tW0 := tInW 5 233 rfl rfl
noncomputable def uw5_231 : Cond := Cond.methodLink "RoundReckonerLaw" (102 : Nat) ({ cls := "RoundReckonerLaw", name := "find", desc := "(LRoundReckoner;[J)I" } : MethodName)
set_option maxRecDepth 100000 in
theorem uw5_231m : uw5_231 ∈ tW0 := tInW 5 231 rfl rfl
noncomputable def uw5_232 : Cond := Cond.static ({ cls := "RoundReckonerLaw", name := "find", desc := "(LRoundReckoner;[J)I" } : MethodName)
set_option maxRecDepth 100000 in
theorem uw5_232m : uw5_232 ∈ tW0 := tInW 5 232 rfl rfl
noncomputable def uw8_164 : Cond := Cond.code ({ cls := "RoundReckonerModel", name := "find", desc := "()I" } : MethodName) prog_14_method_75_code (4 : Nat) (Option.some FieldType.int)
set_option maxRecDepth 100000 in
theorem uw8_164m : uw8_164 ∈ tW0 := tInW 8 164 rfl rfl
noncomputable def uw8_161 : Cond := Cond.methodLink "RoundReckonerLaw" (104 : Nat) ({ cls := "RoundReckonerModel", name := "find", desc := "()I" } : MethodName)
set_option maxRecDepth 100000 in
theorem uw8_161m : uw8_161 ∈ tW0 := tInW 8 161 rfl rfl
noncomputable def uw8_162 : Cond := Cond.instanceMethod ({ cls := "RoundReckonerModel", name := "find", desc := "()I" } : MethodName)
set_option maxRecDepth 100000 in
theorem uw8_162m : uw8_162 ∈ tW0 := tInW 8 162 rfl rfl
noncomputable def uw8_163 : Cond := Cond.selects "RoundReckonerModel" ({ cls := "RoundReckonerModel", name := "find", desc := "()I" } : MethodName) ({ cls := "RoundReckonerModel", name := "find", desc := "()I" } : MethodName)
set_option maxRecDepth 100000 in
theorem uw8_163m : uw8_163 ∈ tW0 := tInW 8 163 rfl rfl
noncomputable def uw6_43 : Cond := Cond.code ({ cls := "RoundReckonerModel", name := "thrown", desc := "()I" } : MethodName) prog_14_method_1_code (1 : Nat) (Option.some FieldType.int)
set_option maxRecDepth 100000 in
theorem uw6_43m : uw6_43 ∈ tW0 := tInW 6 43 rfl rfl
noncomputable def uw6_40 : Cond := Cond.methodLink "RoundReckonerLaw" (105 : Nat) ({ cls := "RoundReckonerModel", name := "thrown", desc := "()I" } : MethodName)
set_option maxRecDepth 100000 in
theorem uw6_40m : uw6_40 ∈ tW0 := tInW 6 40 rfl rfl
noncomputable def uw6_41 : Cond := Cond.instanceMethod ({ cls := "RoundReckonerModel", name := "thrown", desc := "()I" } : MethodName)
set_option maxRecDepth 100000 in
theorem uw6_41m : uw6_41 ∈ tW0 := tInW 6 41 rfl rfl
noncomputable def uw6_42 : Cond := Cond.selects "RoundReckonerModel" ({ cls := "RoundReckonerModel", name := "thrown", desc := "()I" } : MethodName) ({ cls := "RoundReckonerModel", name := "thrown", desc := "()I" } : MethodName)
set_option maxRecDepth 100000 in
theorem uw6_42m : uw6_42 ∈ tW0 := tInW 6 42 rfl rfl
noncomputable def uw6_2 : Cond := Cond.codeWith ({ cls := "RoundReckonerLaw", name := "ask", desc := "(LRoundReckoner;[J)I" } : MethodName) method_11_code (3 : Nat) (Option.some FieldType.int) [((0 : Nat), (8 : Nat), (11 : Nat), (36 : Nat)), ((0 : Nat), (8 : Nat), (14 : Nat), (30 : Nat))]
set_option maxRecDepth 100000 in
theorem uw6_2m : uw6_2 ∈ tW0 := tInW 6 2 rfl rfl
noncomputable def uw6_0 : Cond := Cond.methodLink "RoundReckonerLaw" (108 : Nat) ({ cls := "RoundReckonerLaw", name := "ask", desc := "(LRoundReckoner;[J)I" } : MethodName)
set_option maxRecDepth 100000 in
theorem uw6_0m : uw6_0 ∈ tW0 := tInW 6 0 rfl rfl
noncomputable def uw6_1 : Cond := Cond.static ({ cls := "RoundReckonerLaw", name := "ask", desc := "(LRoundReckoner;[J)I" } : MethodName)
set_option maxRecDepth 100000 in
theorem uw6_1m : uw6_1 ∈ tW0 := tInW 6 1 rfl rfl
noncomputable def uw8_168 : Cond := Cond.code ({ cls := "RoundReckonerModel", name := "ask", desc := "()I" } : MethodName) prog_14_method_77_code (3 : Nat) (Option.some FieldType.int)
set_option maxRecDepth 100000 in
theorem uw8_168m : uw8_168 ∈ tW0 := tInW 8 168 rfl rfl
noncomputable def uw8_165 : Cond := Cond.methodLink "RoundReckonerLaw" (110 : Nat) ({ cls := "RoundReckonerModel", name := "ask", desc := "()I" } : MethodName)
set_option maxRecDepth 100000 in
theorem uw8_165m : uw8_165 ∈ tW0 := tInW 8 165 rfl rfl
noncomputable def uw8_166 : Cond := Cond.instanceMethod ({ cls := "RoundReckonerModel", name := "ask", desc := "()I" } : MethodName)
set_option maxRecDepth 100000 in
theorem uw8_166m : uw8_166 ∈ tW0 := tInW 8 166 rfl rfl
noncomputable def uw8_167 : Cond := Cond.selects "RoundReckonerModel" ({ cls := "RoundReckonerModel", name := "ask", desc := "()I" } : MethodName) ({ cls := "RoundReckonerModel", name := "ask", desc := "()I" } : MethodName)
set_option maxRecDepth 100000 in
theorem uw8_167m : uw8_167 ∈ tW0 := tInW 8 167 rfl rfl
noncomputable def uw6_13 : Cond := Cond.codeWith ({ cls := "RoundReckonerLaw", name := "answer", desc := "(LRoundReckoner;II[J)I" } : MethodName) method_12_code (5 : Nat) (Option.some FieldType.int) [((0 : Nat), (10 : Nat), (13 : Nat), (13 : Nat))]
set_option maxRecDepth 100000 in
theorem uw6_13m : uw6_13 ∈ tW0 := tInW 6 13 rfl rfl
noncomputable def uw6_11 : Cond := Cond.methodLink "RoundReckonerLaw" (111 : Nat) ({ cls := "RoundReckonerLaw", name := "answer", desc := "(LRoundReckoner;II[J)I" } : MethodName)
set_option maxRecDepth 100000 in
theorem uw6_11m : uw6_11 ∈ tW0 := tInW 6 11 rfl rfl
noncomputable def uw6_12 : Cond := Cond.static ({ cls := "RoundReckonerLaw", name := "answer", desc := "(LRoundReckoner;II[J)I" } : MethodName)
set_option maxRecDepth 100000 in
theorem uw6_12m : uw6_12 ∈ tW0 := tInW 6 12 rfl rfl
noncomputable def uw8_172 : Cond := Cond.code ({ cls := "RoundReckonerModel", name := "answer", desc := "(II)I" } : MethodName) prog_14_method_78_code (3 : Nat) (Option.some FieldType.int)
set_option maxRecDepth 100000 in
theorem uw8_172m : uw8_172 ∈ tW0 := tInW 8 172 rfl rfl
noncomputable def uw8_169 : Cond := Cond.methodLink "RoundReckonerLaw" (113 : Nat) ({ cls := "RoundReckonerModel", name := "answer", desc := "(II)I" } : MethodName)
set_option maxRecDepth 100000 in
theorem uw8_169m : uw8_169 ∈ tW0 := tInW 8 169 rfl rfl
noncomputable def uw8_170 : Cond := Cond.instanceMethod ({ cls := "RoundReckonerModel", name := "answer", desc := "(II)I" } : MethodName)
set_option maxRecDepth 100000 in
theorem uw8_170m : uw8_170 ∈ tW0 := tInW 8 170 rfl rfl
noncomputable def uw8_171 : Cond := Cond.selects "RoundReckonerModel" ({ cls := "RoundReckonerModel", name := "answer", desc := "(II)I" } : MethodName) ({ cls := "RoundReckonerModel", name := "answer", desc := "(II)I" } : MethodName)
set_option maxRecDepth 100000 in
theorem uw8_171m : uw8_171 ∈ tW0 := tInW 8 171 rfl rfl
noncomputable def uw6_21 : Cond := Cond.codeWith ({ cls := "RoundReckonerLaw", name := "layer", desc := "(LRoundReckoner;I[J)I" } : MethodName) method_13_code (4 : Nat) (Option.some FieldType.int) [((0 : Nat), (9 : Nat), (12 : Nat), (36 : Nat)), ((0 : Nat), (9 : Nat), (15 : Nat), (13 : Nat))]
set_option maxRecDepth 100000 in
theorem uw6_21m : uw6_21 ∈ tW0 := tInW 6 21 rfl rfl
noncomputable def uw6_19 : Cond := Cond.methodLink "RoundReckonerLaw" (114 : Nat) ({ cls := "RoundReckonerLaw", name := "layer", desc := "(LRoundReckoner;I[J)I" } : MethodName)
set_option maxRecDepth 100000 in
theorem uw6_19m : uw6_19 ∈ tW0 := tInW 6 19 rfl rfl
noncomputable def uw6_20 : Cond := Cond.static ({ cls := "RoundReckonerLaw", name := "layer", desc := "(LRoundReckoner;I[J)I" } : MethodName)
set_option maxRecDepth 100000 in
theorem uw6_20m : uw6_20 ∈ tW0 := tInW 6 20 rfl rfl
noncomputable def uw8_176 : Cond := Cond.code ({ cls := "RoundReckonerModel", name := "layer", desc := "(I)I" } : MethodName) prog_14_method_79_code (2 : Nat) (Option.some FieldType.int)
set_option maxRecDepth 100000 in
theorem uw8_176m : uw8_176 ∈ tW0 := tInW 8 176 rfl rfl
noncomputable def uw8_173 : Cond := Cond.methodLink "RoundReckonerLaw" (116 : Nat) ({ cls := "RoundReckonerModel", name := "layer", desc := "(I)I" } : MethodName)
set_option maxRecDepth 100000 in
theorem uw8_173m : uw8_173 ∈ tW0 := tInW 8 173 rfl rfl
noncomputable def uw8_174 : Cond := Cond.instanceMethod ({ cls := "RoundReckonerModel", name := "layer", desc := "(I)I" } : MethodName)
set_option maxRecDepth 100000 in
theorem uw8_174m : uw8_174 ∈ tW0 := tInW 8 174 rfl rfl
noncomputable def uw8_175 : Cond := Cond.selects "RoundReckonerModel" ({ cls := "RoundReckonerModel", name := "layer", desc := "(I)I" } : MethodName) ({ cls := "RoundReckonerModel", name := "layer", desc := "(I)I" } : MethodName)
set_option maxRecDepth 100000 in
theorem uw8_175m : uw8_175 ∈ tW0 := tInW 8 175 rfl rfl
noncomputable def uw6_28 : Cond := Cond.codeWith ({ cls := "RoundReckonerLaw", name := "word", desc := "(LRoundReckoner;I[J)I" } : MethodName) method_14_code (4 : Nat) (Option.some FieldType.int) [((0 : Nat), (8 : Nat), (11 : Nat), (13 : Nat))]
set_option maxRecDepth 100000 in
theorem uw6_28m : uw6_28 ∈ tW0 := tInW 6 28 rfl rfl
noncomputable def uw6_26 : Cond := Cond.methodLink "RoundReckonerLaw" (117 : Nat) ({ cls := "RoundReckonerLaw", name := "word", desc := "(LRoundReckoner;I[J)I" } : MethodName)
set_option maxRecDepth 100000 in
theorem uw6_26m : uw6_26 ∈ tW0 := tInW 6 26 rfl rfl
noncomputable def uw6_27 : Cond := Cond.static ({ cls := "RoundReckonerLaw", name := "word", desc := "(LRoundReckoner;I[J)I" } : MethodName)
set_option maxRecDepth 100000 in
theorem uw6_27m : uw6_27 ∈ tW0 := tInW 6 27 rfl rfl
noncomputable def uw8_180 : Cond := Cond.code ({ cls := "RoundReckonerModel", name := "word", desc := "(I)J" } : MethodName) prog_14_method_80_code (5 : Nat) (Option.some FieldType.long)
set_option maxRecDepth 100000 in
theorem uw8_180m : uw8_180 ∈ tW0 := tInW 8 180 rfl rfl
noncomputable def uw8_177 : Cond := Cond.methodLink "RoundReckonerLaw" (119 : Nat) ({ cls := "RoundReckonerModel", name := "word", desc := "(I)J" } : MethodName)
set_option maxRecDepth 100000 in
theorem uw8_177m : uw8_177 ∈ tW0 := tInW 8 177 rfl rfl
noncomputable def uw8_178 : Cond := Cond.instanceMethod ({ cls := "RoundReckonerModel", name := "word", desc := "(I)J" } : MethodName)
set_option maxRecDepth 100000 in
theorem uw8_178m : uw8_178 ∈ tW0 := tInW 8 178 rfl rfl
noncomputable def uw8_179 : Cond := Cond.selects "RoundReckonerModel" ({ cls := "RoundReckonerModel", name := "word", desc := "(I)J" } : MethodName) ({ cls := "RoundReckonerModel", name := "word", desc := "(I)J" } : MethodName)
set_option maxRecDepth 100000 in
theorem uw8_179m : uw8_179 ∈ tW0 := tInW 8 179 rfl rfl
noncomputable def uw6_35 : Cond := Cond.codeWith ({ cls := "RoundReckonerLaw", name := "count", desc := "(LRoundReckoner;I[J)I" } : MethodName) method_15_code (4 : Nat) (Option.some FieldType.int) [((0 : Nat), (9 : Nat), (12 : Nat), (19 : Nat))]
set_option maxRecDepth 100000 in
theorem uw6_35m : uw6_35 ∈ tW0 := tInW 6 35 rfl rfl
noncomputable def uw6_33 : Cond := Cond.methodLink "RoundReckonerLaw" (120 : Nat) ({ cls := "RoundReckonerLaw", name := "count", desc := "(LRoundReckoner;I[J)I" } : MethodName)
set_option maxRecDepth 100000 in
theorem uw6_33m : uw6_33 ∈ tW0 := tInW 6 33 rfl rfl
noncomputable def uw6_34 : Cond := Cond.static ({ cls := "RoundReckonerLaw", name := "count", desc := "(LRoundReckoner;I[J)I" } : MethodName)
set_option maxRecDepth 100000 in
theorem uw6_34m : uw6_34 ∈ tW0 := tInW 6 34 rfl rfl
noncomputable def uw8_185 : Cond := Cond.code ({ cls := "RoundReckonerModel", name := "count", desc := "(I)I" } : MethodName) prog_14_method_81_code (2 : Nat) (Option.some FieldType.int)
set_option maxRecDepth 100000 in
theorem uw8_185m : uw8_185 ∈ tW0 := tInW 8 185 rfl rfl
noncomputable def uw8_182 : Cond := Cond.methodLink "RoundReckonerLaw" (122 : Nat) ({ cls := "RoundReckonerModel", name := "count", desc := "(I)I" } : MethodName)
set_option maxRecDepth 100000 in
theorem uw8_182m : uw8_182 ∈ tW0 := tInW 8 182 rfl rfl
noncomputable def uw8_183 : Cond := Cond.instanceMethod ({ cls := "RoundReckonerModel", name := "count", desc := "(I)I" } : MethodName)
set_option maxRecDepth 100000 in
theorem uw8_183m : uw8_183 ∈ tW0 := tInW 8 183 rfl rfl
noncomputable def uw8_184 : Cond := Cond.selects "RoundReckonerModel" ({ cls := "RoundReckonerModel", name := "count", desc := "(I)I" } : MethodName) ({ cls := "RoundReckonerModel", name := "count", desc := "(I)I" } : MethodName)
set_option maxRecDepth 100000 in
theorem uw8_184m : uw8_184 ∈ tW0 := tInW 8 184 rfl rfl
set_option maxRecDepth 100000 in
theorem tRqL_ok : ∀ w ∈ tRqL, w ∈ tW0 := tEqW (K := [uw1_25, uw1_26, uw1_1, uw6_44, uw6_45, uw1_15, uw1_29, uw1_1, uw1_27, uw1_28, uw6_48, uw1_15, uw6_46, uw6_47, uw4_40, uw1_0, uw4_38, uw4_39, uw7_104, uw1_15, uw7_101, uw7_102, uw7_103, uw4_117, uw1_0, uw4_115, uw4_116, uw7_116, uw1_15, uw7_113, uw7_114, uw7_115, uw3_38, uw1_1, uw3_35, uw3_36, uw3_37, uw7_120, uw1_15, uw7_117, uw7_118, uw7_119, uw4_27, uw1_1, uw4_24, uw4_25, uw4_26, uw8_35, uw1_15, uw8_32, uw8_33, uw8_34, uw4_140, uw1_0, uw4_138, uw4_139, uw8_39, uw1_15, uw8_36, uw8_37, uw8_38, uw4_152, uw1_0, uw4_150, uw4_151, uw8_47, uw1_15, uw8_44, uw8_45, uw8_46, uw5_156, uw1_0, uw5_154, uw5_155, uw8_134, uw1_15, uw8_131, uw8_132, uw8_133, uw5_193, uw1_0, uw5_191, uw5_192, uw8_147, uw1_15, uw8_144, uw8_145, uw8_146, uw5_200, uw1_0, uw5_198, uw5_199, uw8_151, uw1_15, uw8_148, uw8_149, uw8_150, uw5_233, uw1_0, uw5_231, uw5_232, uw8_164, uw1_15, uw8_161, uw8_162, uw8_163, uw6_43, uw1_15, uw6_40, uw6_41, uw6_42, uw6_2, uw1_0, uw6_0, uw6_1, uw8_168, uw1_15, uw8_165, uw8_166, uw8_167, uw6_13, uw1_0, uw6_11, uw6_12, uw8_172, uw1_15, uw8_169, uw8_170, uw8_171, uw6_21, uw1_0, uw6_19, uw6_20, uw8_176, uw1_15, uw8_173, uw8_174, uw8_175, uw6_28, uw1_0, uw6_26, uw6_27, uw8_180, uw1_15, uw8_177, uw8_178, uw8_179, uw6_35, uw1_0, uw6_33, uw6_34, uw8_185, uw1_15, uw8_182, uw8_183, uw8_184]) rfl (tCoW uw1_25m (tCoW uw1_26m (tCoW uw1_1m (tCoW uw6_44m (tCoW uw6_45m (tCoW uw1_15m (tCoW uw1_29m (tCoW uw1_1m (tCoW uw1_27m (tCoW uw1_28m (tCoW uw6_48m (tCoW uw1_15m (tCoW uw6_46m (tCoW uw6_47m (tCoW uw4_40m (tCoW uw1_0m (tCoW uw4_38m (tCoW uw4_39m (tCoW uw7_104m (tCoW uw1_15m (tCoW uw7_101m (tCoW uw7_102m (tCoW uw7_103m (tCoW uw4_117m (tCoW uw1_0m (tCoW uw4_115m (tCoW uw4_116m (tCoW uw7_116m (tCoW uw1_15m (tCoW uw7_113m (tCoW uw7_114m (tCoW uw7_115m (tCoW uw3_38m (tCoW uw1_1m (tCoW uw3_35m (tCoW uw3_36m (tCoW uw3_37m (tCoW uw7_120m (tCoW uw1_15m (tCoW uw7_117m (tCoW uw7_118m (tCoW uw7_119m (tCoW uw4_27m (tCoW uw1_1m (tCoW uw4_24m (tCoW uw4_25m (tCoW uw4_26m (tCoW uw8_35m (tCoW uw1_15m (tCoW uw8_32m (tCoW uw8_33m (tCoW uw8_34m (tCoW uw4_140m (tCoW uw1_0m (tCoW uw4_138m (tCoW uw4_139m (tCoW uw8_39m (tCoW uw1_15m (tCoW uw8_36m (tCoW uw8_37m (tCoW uw8_38m (tCoW uw4_152m (tCoW uw1_0m (tCoW uw4_150m (tCoW uw4_151m (tCoW uw8_47m (tCoW uw1_15m (tCoW uw8_44m (tCoW uw8_45m (tCoW uw8_46m (tCoW uw5_156m (tCoW uw1_0m (tCoW uw5_154m (tCoW uw5_155m (tCoW uw8_134m (tCoW uw1_15m (tCoW uw8_131m (tCoW uw8_132m (tCoW uw8_133m (tCoW uw5_193m (tCoW uw1_0m (tCoW uw5_191m (tCoW uw5_192m (tCoW uw8_147m (tCoW uw1_15m (tCoW uw8_144m (tCoW uw8_145m (tCoW uw8_146m (tCoW uw5_200m (tCoW uw1_0m (tCoW uw5_198m (tCoW uw5_199m (tCoW uw8_151m (tCoW uw1_15m (tCoW uw8_148m (tCoW uw8_149m (tCoW uw8_150m (tCoW uw5_233m (tCoW uw1_0m (tCoW uw5_231m (tCoW uw5_232m (tCoW uw8_164m (tCoW uw1_15m (tCoW uw8_161m (tCoW uw8_162m (tCoW uw8_163m (tCoW uw6_43m (tCoW uw1_15m (tCoW uw6_40m (tCoW uw6_41m (tCoW uw6_42m (tCoW uw6_2m (tCoW uw1_0m (tCoW uw6_0m (tCoW uw6_1m (tCoW uw8_168m (tCoW uw1_15m (tCoW uw8_165m (tCoW uw8_166m (tCoW uw8_167m (tCoW uw6_13m (tCoW uw1_0m (tCoW uw6_11m (tCoW uw6_12m (tCoW uw8_172m (tCoW uw1_15m (tCoW uw8_169m (tCoW uw8_170m (tCoW uw8_171m (tCoW uw6_21m (tCoW uw1_0m (tCoW uw6_19m (tCoW uw6_20m (tCoW uw8_176m (tCoW uw1_15m (tCoW uw8_173m (tCoW uw8_174m (tCoW uw8_175m (tCoW uw6_28m (tCoW uw1_0m (tCoW uw6_26m (tCoW uw6_27m (tCoW uw8_180m (tCoW uw1_15m (tCoW uw8_177m (tCoW uw8_178m (tCoW uw8_179m (tCoW uw6_35m (tCoW uw1_0m (tCoW uw6_33m (tCoW uw6_34m (tCoW uw8_185m (tCoW uw1_15m (tCoW uw8_182m (tCoW uw8_183m (tCoW uw8_184m (tNiW)))))))))))))))))))))))))))))))))))))))))))))))))))))))))))))))))))))))))))))))))))))))))))))))))))))))))))))))))))))))))))))))))))))))))))))))))))))))))))))
set_option maxRecDepth 100000 in
theorem tUw_ok : inAt tUw [(2, 174), (2, 176), (2, 178), (2, 70), (2, 72), (2, 74), (2, 76), (1, 179), (1, 181), (1, 183), (1, 185), (1, 187), (1, 189), (1, 191), (1, 193), (1, 195), (1, 197), (1, 199), (1, 201), (1, 203), (1, 205), (2, 198), (2, 200), (2, 202), (2, 204), (2, 206), (2, 208), (2, 210), (2, 212), (2, 214), (2, 216), (2, 218), (2, 220), (2, 222), (2, 224), (1, 96), (1, 98), (1, 100), (1, 102), (1, 104), (1, 106), (1, 108), (1, 110), (1, 112), (1, 114), (1, 116), (1, 118), (1, 120), (1, 122), (1, 124), (1, 126), (1, 223), (1, 225), (2, 237), (2, 239), (2, 9), (2, 11), (2, 13), (2, 15), (2, 17), (2, 19), (2, 21), (2, 23), (2, 25), (2, 27), (2, 29), (2, 31), (2, 33), (2, 35), (2, 37), (2, 39), (2, 41), (2, 150), (2, 152), (2, 154), (2, 156), (2, 158), (1, 143), (1, 145), (1, 147), (1, 149), (2, 104), (2, 106), (2, 108), (2, 110), (2, 112), (2, 114), (2, 116), (2, 118), (2, 120), (2, 122), (2, 124), (3, 14), (3, 16), (3, 18), (3, 20), (3, 22), (3, 24), (3, 26), (3, 28), (3, 30), (3, 32), (6, 148), (6, 150), (6, 152), (6, 154), (6, 156), (6, 158), (6, 160), (6, 162), (6, 164), (6, 166), (6, 168), (6, 170), (6, 172), (6, 174), (6, 176), (6, 178), (6, 180), (6, 182), (6, 184), (6, 186), (6, 188), (6, 190), (6, 192), (6, 194), (6, 196), (6, 198), (6, 200), (6, 202), (6, 204), (6, 206), (6, 208), (6, 210), (6, 212), (6, 214), (6, 216), (6, 218), (6, 220), (6, 222), (6, 224), (6, 226), (6, 228), (6, 230), (6, 232), (6, 234), (6, 236), (6, 238), (7, 0), (7, 2), (7, 4), (7, 6), (7, 8), (7, 10), (7, 12), (7, 14), (7, 16), (7, 18), (7, 20), (7, 22), (7, 24), (7, 26), (7, 28), (7, 30), (7, 32), (7, 34), (7, 36), (7, 38), (7, 40), (7, 42), (7, 44), (7, 46), (7, 48), (7, 50), (7, 52), (7, 54), (7, 56), (7, 58), (7, 60), (7, 62), (7, 64), (7, 66), (7, 68), (7, 70), (7, 72), (7, 74), (7, 76), (7, 78), (7, 80), (7, 82), (7, 84), (7, 86), (7, 88), (7, 90), (7, 92), (7, 94), (7, 96), (7, 98)] = true := by decide +kernel
set_option maxRecDepth 100000 in
theorem tRw_ok : inRaw tRw [(2, 163), (2, 52), (1, 34), (2, 128), (1, 47), (1, 215), (2, 228), (1, 209), (2, 134), (1, 41), (2, 46), (1, 26), (6, 45), (4, 73), (4, 75), (1, 16), (1, 131), (1, 40), (1, 130), (1, 129), (2, 44), (2, 161), (1, 48), (1, 216), (2, 47), (2, 135), (2, 164), (2, 229), (3, 3), (4, 48), (4, 49), (4, 50), (4, 51), (4, 52), (4, 53), (4, 54), (4, 125), (4, 172), (5, 64), (5, 110), (5, 143), (5, 172)] = true := by decide +kernel
set_option maxRecDepth 100000 in
theorem tOkL : okM vwCl tTA tAo tNw tNc tMth uMx tXn dL vL_ = true := by decide +kernel
set_option maxRecDepth 100000 in
theorem tDecL : ∀ z ∈ vL_.2.1, decode dL.2.1 z.1 = .ok (z.2.1, z.2.2) := dx_all (by decide +kernel)
set_option maxRecDepth 100000 in
theorem lSg : aSg vwCl tTA tTy [] tNw tNc tAo tW0 tMth uMx tXn dL vL_ :=
  (aSg_of (kd := []) tW0_all tTA_ok tKt_nil tRqL_ok tOkL tDecL).1
noncomputable def tNmB (r : vw_C) : Bool := (List.range r.2.2).all (fun a => (List.range r.2.2).all (fun b => Nat.beq a b || decide ((r.2.1 a).2.1 ≠ (r.2.1 b).2.1)))
set_option maxRecDepth 100000 in
theorem tNmB_ok : vwCl.all tNmB = true := by decide +kernel
noncomputable def tPf (ci : Nat) : Bool := match vwCl[ci]? with
  | some r => (List.range r.2.2).all (fun k => decide (parseFieldDescriptor (r.2.1 k).2.2.1 = some (tTy ci k)))
  | none => true
set_option maxRecDepth 100000 in
theorem tPf_ok : (List.range vwCl.length).all tPf = true := by decide +kernel
set_option maxRecDepth 100000 in
theorem tTab : xTab vwCl tTA tTy tW0 := by
  refine ⟨fun ci r hr => ?_, fun t ty h => ?_⟩
  · have hlt : ci < vwCl.length := (List.getElem?_eq_some_iff.mp hr).1
    have hm : r ∈ vwCl := List.mem_of_getElem? hr
    refine ⟨Nat.lt_of_lt_of_le hlt (by decide), fun w hw => inAt_ok tUw_ok w (List.mem_flatMap.mpr ⟨r, hm, hw⟩), fun k hk => ?_, fun a ha b hb hne => ?_⟩
    · have h1 := List.all_eq_true.mp tPf_ok ci (List.mem_range.mpr hlt)
      unfold tPf at h1
      rw [hr] at h1
      exact of_decide_eq_true (List.all_eq_true.mp h1 k (List.mem_range.mpr hk))
    · have h1 := List.all_eq_true.mp (List.all_eq_true.mp (List.all_eq_true.mp tNmB_ok r hm) a (List.mem_range.mpr ha)) b (List.mem_range.mpr hb)
      simp only [Bool.or_eq_true, decide_eq_true_eq] at h1
      rcases h1 with h1 | h1
      · exact absurd (Nat.eq_of_beq_eq_true h1) hne
      · exact h1
  · have h1 : tTA.all (fun z => Nat.ble 1000 z.1) = true := by decide +kernel
    exact Nat.le_of_ble_eq_true (List.all_eq_true.mp h1 _ h)
set_option maxRecDepth 100000 in
theorem tNw_x : tNw.all xNw = true := by decide +kernel
set_option maxRecDepth 100000 in
theorem tNc_in : tNc.all (fun q => decide (Cond.not (.castable q.1 q.2) ∈ flatC (Jvm.Cond.and given_1 narrow_1))) = true := by decide +kernel
set_option maxRecDepth 100000 in
theorem tEnv {args : Array Value} {s : State} (hts : ∀ w ∈ lw_tbl, w.before args s = true) (hgv : (Jvm.Cond.and given_1 narrow_1).before args s = true) : ∃ (D : va_G) (dA : Nat → ClassId), xEnv D dA vwCl tTA s.heap.size tNw tNc tAo s := by
  have hfl := flat_of_before _ hgv
  have hrw : ∀ w ∈ tRw, w.before args s = true := fun w hw => hts w (inRaw_ok tRw_ok w hw)
  have hsw : ∀ w ∈ tSw, w.before args s = true := fun w hw => hrw w (List.mem_append.mpr (Or.inr (List.mem_append.mpr (Or.inl hw))))
  have huw : ∀ w ∈ tUw, w ∈ lw_tbl := fun w hw => (List.mem_filter.mp (inAt_ok tUw_ok w hw)).1
  have c1 : ∀ ci : Nat, ∃ q : ClassId × (Nat → Nat), ∀ r, vwCl[ci]? = some r → u_Kn s r.1 r.2.1 r.2.2 q.1 q.2 := by
    intro ci
    cases h : vwCl[ci]? with
    | none => exact ⟨(0, fun _ => 0), fun r hr => by cases hr⟩
    | some r =>
      have hm : r ∈ vwCl := List.mem_of_getElem? h
      obtain ⟨cC, iS, hk⟩ := u_known (C := r.1) (T := r.2.1) (N := r.2.2) (n := r.2.2) hts (fun w hw => huw w (List.mem_flatMap.mpr ⟨r, hm, hw⟩)) (hrw _ (List.mem_append.mpr (Or.inl (List.mem_map.mpr ⟨r, hm, rfl⟩))))
      exact ⟨(cC, iS), fun r_q hr_q => by cases hr_q; exact hk⟩
  have pr : ∀ ty : FieldType, (Cond.arrayClass ty).before args s = true → ∃ cA : ClassId, ArrOfT s cA ty ∧ s.vm.findClass ("[" ++ ty.toString) = some cA := by
    intro ty h
    obtain ⟨cA, kA, comp, h1, h2, h3⟩ := Cond.arrayClass_spec h
    exact ⟨cA, fun n z => ⟨fun k h => (by cases h), kA, h2, comp, h3⟩, h1⟩
  have po : ∀ C : String, (Cond.arrayOver (.object C)).before args s = true → ∃ cA : ClassId, ArrOfT s cA (.object C) ∧ va_RA s cA (.object C) := by
    intro C h
    obtain ⟨comp, cA, kA, h1, -, h2, h3, h4⟩ := Cond.arrayOver_spec h
    exact ⟨cA, fun n z => ⟨fun k h => (by cases h), kA, h2, comp, h3⟩, kA, comp, h2, h3, h1, h4⟩
  have c2 : ∀ t : Nat, ∃ cA : ClassId, ∀ ty, (t, ty) ∈ tTA → ArrOfT s cA ty ∧ va_RA s cA ty := by
    obtain ⟨a0, p0, q0⟩ := pr .int (hsw _ (by simp [tSw]))
    obtain ⟨a1, p1, q1⟩ := pr .long (hsw _ (by simp [tSw]))
    obtain ⟨a2, p2, q2⟩ := pr .byte (hsw _ (by simp [tSw]))
    obtain ⟨a3, p3, q3⟩ := pr .boolean (hsw _ (by simp [tSw]))
    obtain ⟨a4, p4, q4⟩ := po "RoundReckoner$Goal" (hsw _ (by simp [tSw]))
    obtain ⟨a5, p5, q5⟩ := po "RoundReckoner$Rule" (hsw _ (by simp [tSw]))
    intro t
    refine ⟨if t = 1000 then a0 else if t = 1001 then a1 else if t = 1002 then a2 else if t = 1003 then a3 else if t = 2004 then a4 else a5, fun ty h => ?_⟩
    simp only [tTA, List.mem_cons, Prod.mk.injEq, List.not_mem_nil, or_false] at h
    rcases h with ⟨rfl, rfl⟩ | ⟨rfl, rfl⟩ | ⟨rfl, rfl⟩ | ⟨rfl, rfl⟩ | ⟨rfl, rfl⟩ | ⟨rfl, rfl⟩
    · exact ⟨p0, q0⟩
    · exact ⟨p1, q1⟩
    · exact ⟨p2, q2⟩
    · exact ⟨p3, q3⟩
    · exact ⟨p4, q4⟩
    · exact ⟨p5, q5⟩
  refine ⟨(fun ci => (Classical.choose (c1 ci)).1, fun ci => (Classical.choose (c1 ci)).2), fun t => Classical.choose (c2 t), ⟨fun ci r hr => Classical.choose_spec (c1 ci) r hr, fun t ty h => Classical.choose_spec (c2 t) ty h⟩, Nat.le_refl _, fun w hw => ?_, fun q hq => ?_, fun E hE => ?_, ?_, ?_⟩
  · have h1 := List.all_eq_true.mp tNw_x w hw
    exact ⟨h1, va_Nw.of (xNw_tab h1) (hrw w (List.mem_append.mpr (Or.inr (List.mem_append.mpr (Or.inr hw)))))⟩
  · exact va_Nc.of (hfl _ (of_decide_eq_true (List.all_eq_true.mp tNc_in q hq)))
  · simp only [tAo, List.mem_cons, List.not_mem_nil, or_false] at hE
    rcases hE with rfl | rfl
    · exact va_AO.of (hsw _ (by simp [tSw]))
    · exact va_AO.of (hsw _ (by simp [tSw]))
  · exact vx_Zqof (hsw _ (by simp [tSw])) (hsw _ (by simp [tSw])) (hfl _ (by decide +kernel)) (fun a ha h9 => by omega)
  · exact vx_Zqof (hsw _ (by simp [tSw])) (hsw _ (by simp [tSw])) (hfl _ (by decide +kernel)) (fun a ha h9 => by omega)
