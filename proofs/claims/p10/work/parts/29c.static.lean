/-! ===== what the tables of the methods rest on: words of the files ===== -/
noncomputable def tXn : List String := ["java/lang/IndexOutOfBoundsException", "java/lang/IllegalArgumentException", "java/lang/UnsupportedOperationException", "java/lang/ArithmeticException", "java/lang/IllegalStateException"]
noncomputable def tTA : List (Nat × FieldType) := [(1000, .int), (1001, .long), (1002, .byte), (1003, .boolean), (2004, .object "RoundReckoner$Goal"), (2009, .object "RoundReckoner$Rule")]
noncomputable def tTyl : List (List FieldType) := [[.array (.long), .int, .int], [.int, .array (.int), .array (.int), .array (.int)], [.array (.long), .array (.int), .array (.int), .array (.int), .array (.long), .array (.object "RoundReckoner$Rule"), .object "RoundReckoner$Rule", .int, .int, .int, .int, .int, .int, .int], [.int, .object "RoundReckoner$Clauses", .object "RoundReckoner$Tuples", .object "RoundReckoner$Rows", .array (.long), .array (.int), .object "RoundReckoner$Answers", .object "RoundReckoner$Rule", .int, .int, .int, .int, .int, .int], [.array (.int), .array (.int), .array (.int), .array (.long), .int, .int, .long, .int, .int, .int, .int, .int, .int, .int, .int, .int], [.array (.long), .int], [.array (.byte), .int], [.object "RoundReckoner$Clauses", .object "RoundReckoner$Names", .array (.byte), .int, .int, .int, .int, .int, .long, .int, .long, .array (.long), .array (.int), .int, .array (.int), .array (.int), .int], [.array (.long), .array (.int), .array (.boolean), .int, .object "RoundReckoner$Chains"], [.object "RoundReckoner$Goal", .array (.object "RoundReckoner$Goal"), .int, .int], [.array (.long), .array (.int), .array (.int), .array (.int), .array (.int), .array (.int), .array (.long), .int, .object "RoundReckoner$Chains", .object "RoundReckoner$Chains", .object "RoundReckoner$Chains"], [.object "RoundReckoner$Clauses", .object "RoundReckoner$Reader", .object "RoundReckoner$Tuples", .object "RoundReckoner$Engine", .object "RoundReckoner$Out", .object "RoundReckoner$Answers", .object "RoundReckoner$Answers", .boolean, .int, .int], [.int, .array (.byte), .array (.byte), .int, .int, .array (.byte), .array (.int), .array (.int), .int, .int, .array (.byte), .array (.int), .array (.int), .int, .int, .array (.int), .array (.long), .int, .int, .array (.int), .array (.int), .array (.int), .array (.int), .array (.int), .array (.int), .array (.int), .array (.long), .array (.int), .array (.int), .array (.int), .array (.int), .array (.long), .int, .int, .int, .int, .int, .int, .int, .long, .int, .array (.int), .array (.int), .array (.int), .int, .int, .int, .int, .int, .int, .int, .array (.int), .array (.int), .array (.long), .array (.int), .array (.int), .array (.int), .array (.boolean), .int, .boolean, .array (.int), .int, .array (.int), .array (.int), .array (.int), .array (.int), .array (.int), .array (.int), .array (.long), .array (.int), .array (.int), .int, .int, .int, .int, .int, .int, .int, .array (.long), .array (.long), .array (.int), .int, .int, .int, .boolean, .array (.long), .array (.int), .array (.int), .array (.long), .array (.boolean), .int, .array (.long), .array (.long), .int, .int, .int]]
noncomputable def tTy (ci f : Nat) : FieldType := (tTyl.getD ci []).getD f .int
noncomputable def tAo : List String := ["RoundReckoner$Goal", "RoundReckoner$Rule"]
noncomputable def tNw : List Cond := [(Cond.methodLinkNest "RoundReckoner$Rule" (11 : Nat) ({ cls := "RoundReckoner$Goal", name := "<init>", desc := "()V" } : MethodName) "RoundReckoner"), (Cond.methodLinkNest "RoundReckoner$Reader" (11 : Nat) ({ cls := "RoundReckoner$Names", name := "<init>", desc := "()V" } : MethodName) "RoundReckoner"), (Cond.methodLinkNest "RoundReckoner" (27 : Nat) ({ cls := "RoundReckoner$Tuples", name := "<init>", desc := "()V" } : MethodName) "RoundReckoner"), (Cond.methodLinkNest "RoundReckoner$Engine" (11 : Nat) ({ cls := "RoundReckoner$Rows", name := "<init>", desc := "()V" } : MethodName) "RoundReckoner"), (Cond.methodLinkNest "RoundReckoner$Engine" (28 : Nat) ({ cls := "RoundReckoner$Answers", name := "<init>", desc := "()V" } : MethodName) "RoundReckoner"), (Cond.methodLinkNest "RoundReckoner" (43 : Nat) ({ cls := "RoundReckoner$Out", name := "<init>", desc := "()V" } : MethodName) "RoundReckoner"), (Cond.methodLinkNest "RoundReckoner" (50 : Nat) ({ cls := "RoundReckoner$Answers", name := "<init>", desc := "()V" } : MethodName) "RoundReckoner"), (Cond.castable "java/lang/IndexOutOfBoundsException" "java/lang/IndexOutOfBoundsException"), (Cond.declares ({ cls := "java/lang/RuntimeException", name := "<init>", desc := "()V" } : MethodName)), (Cond.declares ({ cls := "java/lang/RuntimeException", name := "<init>", desc := "(Ljava/lang/String;)V" } : MethodName)), (Cond.declares ({ cls := "java/lang/Exception", name := "<init>", desc := "()V" } : MethodName)), (Cond.declares ({ cls := "java/lang/Exception", name := "<init>", desc := "(Ljava/lang/String;)V" } : MethodName)), (Cond.declares ({ cls := "java/lang/Throwable", name := "<init>", desc := "()V" } : MethodName)), (Cond.declares ({ cls := "java/lang/Throwable", name := "<init>", desc := "(Ljava/lang/String;)V" } : MethodName)), (Cond.castable "java/lang/IllegalArgumentException" "java/lang/IllegalArgumentException"), (Cond.castable "java/lang/UnsupportedOperationException" "java/lang/UnsupportedOperationException"), (Cond.methodLinkNest "RoundReckoner$Rows" (67 : Nat) ({ cls := "RoundReckoner", name := "isNumber", desc := "(J)Z" } : MethodName) "RoundReckoner"), (Cond.castable "java/lang/ArithmeticException" "java/lang/ArithmeticException"), (Cond.methodLinkNest "RoundReckoner$Engine" (248 : Nat) ({ cls := "RoundReckoner", name := "isNumber", desc := "(J)Z" } : MethodName) "RoundReckoner"), (Cond.castable "java/lang/IllegalStateException" "java/lang/IllegalStateException")]
noncomputable def tNc : List (String × String) := [("java/lang/IllegalArgumentException", "java/lang/IndexOutOfBoundsException"), ("java/lang/UnsupportedOperationException", "java/lang/IndexOutOfBoundsException"), ("java/lang/ArithmeticException", "java/lang/IndexOutOfBoundsException"), ("java/lang/IllegalStateException", "java/lang/IndexOutOfBoundsException"), ("java/lang/IndexOutOfBoundsException", "java/lang/IllegalArgumentException"), ("java/lang/UnsupportedOperationException", "java/lang/IllegalArgumentException"), ("java/lang/ArithmeticException", "java/lang/IllegalArgumentException"), ("java/lang/IllegalStateException", "java/lang/IllegalArgumentException"), ("java/lang/IndexOutOfBoundsException", "java/lang/UnsupportedOperationException"), ("java/lang/IllegalArgumentException", "java/lang/UnsupportedOperationException"), ("java/lang/ArithmeticException", "java/lang/UnsupportedOperationException"), ("java/lang/IllegalStateException", "java/lang/UnsupportedOperationException"), ("java/lang/IndexOutOfBoundsException", "java/lang/ArithmeticException"), ("java/lang/IllegalArgumentException", "java/lang/ArithmeticException"), ("java/lang/UnsupportedOperationException", "java/lang/ArithmeticException"), ("java/lang/IllegalStateException", "java/lang/ArithmeticException"), ("java/lang/IndexOutOfBoundsException", "java/lang/IllegalStateException"), ("java/lang/IllegalArgumentException", "java/lang/IllegalStateException"), ("java/lang/UnsupportedOperationException", "java/lang/IllegalStateException"), ("java/lang/ArithmeticException", "java/lang/IllegalStateException")]
noncomputable def d0_ : aMd := (⟨"RoundReckonerModel", "thrown", "()I"⟩, prog_14_method_1_code, 1, (Option.some FieldType.int), [])
noncomputable def d1_ : aMd := (⟨"RoundReckonerModel", "fails", "(I)Z"⟩, prog_14_method_2_code, 2, (Option.some FieldType.boolean), [])
noncomputable def d2_ : aMd := (⟨"RoundReckonerModel", "four", "(I)V"⟩, prog_14_method_5_code, 3, (Option.none : Option FieldType), [])
noncomputable def d3_ : aMd := (⟨"RoundReckonerModel", "feed", "(IIIII)I"⟩, prog_14_method_4_code, 6, (Option.some FieldType.int), [])
noncomputable def d4_ : aMd := (⟨"RoundReckonerModel", "end", "(I)I"⟩, prog_14_method_6_code, 2, (Option.some FieldType.int), [])
noncomputable def d5_ : aMd := (⟨"RoundReckonerModel", "begin", "()V"⟩, prog_14_method_7_code, 1, (Option.none : Option FieldType), [])
noncomputable def d6_ : aMd := (⟨"RoundReckonerModel", "byteAt", "(I)I"⟩, prog_14_method_8_code, 2, (Option.some FieldType.int), [])
noncomputable def d7_ : aMd := (⟨"RoundReckonerModel", "blanks", "()V"⟩, prog_14_method_9_code, 1, (Option.none : Option FieldType), [])
noncomputable def d8_ : aMd := (⟨"RoundReckonerModel", "wrong", "(I)Z"⟩, prog_14_method_10_code, 2, (Option.some FieldType.boolean), [])
noncomputable def d9_ : aMd := (⟨"RoundReckonerModel", "isSmall", "(I)Z"⟩, prog_14_method_11_code, 2, (Option.some FieldType.boolean), [])
noncomputable def d10_ : aMd := (⟨"RoundReckonerModel", "isCapital", "(I)Z"⟩, prog_14_method_12_code, 2, (Option.some FieldType.boolean), [])
noncomputable def d11_ : aMd := (⟨"RoundReckonerModel", "isDigit", "(I)Z"⟩, prog_14_method_13_code, 2, (Option.some FieldType.boolean), [])
noncomputable def d12_ : aMd := (⟨"RoundReckonerModel", "word", "()Z"⟩, prog_14_method_14_code, 2, (Option.some FieldType.boolean), [])
noncomputable def d13_ : aMd := (⟨"RoundReckonerModel", "isWord", "(IIIII)Z"⟩, prog_14_method_15_code, 7, (Option.some FieldType.boolean), [])
noncomputable def d14_ : aMd := (⟨"RoundReckonerModel", "number", "()Z"⟩, prog_14_method_17_code, 7, (Option.some FieldType.boolean), [])
noncomputable def d15_ : aMd := (⟨"RoundReckonerModel", "constant", "()J"⟩, prog_14_method_16_code, 4, (Option.some FieldType.long), [])
noncomputable def d16_ : aMd := (⟨"RoundReckonerModel", "isVariable", "(I)Z"⟩, prog_14_method_19_code, 3, (Option.some FieldType.boolean), [])
noncomputable def d17_ : aMd := (⟨"RoundReckonerModel", "variable", "()Z"⟩, prog_14_method_18_code, 2, (Option.some FieldType.boolean), [])
noncomputable def d18_ : aMd := (⟨"RoundReckonerModel", "isKnown", "(J)Z"⟩, prog_14_method_20_code, 3, (Option.some FieldType.boolean), [])
noncomputable def d19_ : aMd := (⟨"RoundReckonerModel", "item", "(Z)Z"⟩, prog_14_method_21_code, 3, (Option.some FieldType.boolean), [])
noncomputable def d20_ : aMd := (⟨"RoundReckonerModel", "predicate", "(III)I"⟩, prog_14_method_22_code, 7, (Option.some FieldType.int), [])
noncomputable def d21_ : aMd := (⟨"RoundReckonerModel", "newPredicate", "(III)I"⟩, prog_14_method_23_code, 6, (Option.some FieldType.int), [])
noncomputable def d22_ : aMd := (⟨"RoundReckonerModel", "needName", "()Z"⟩, prog_14_method_24_code, 1, (Option.some FieldType.boolean), [])
noncomputable def d23_ : aMd := (⟨"RoundReckonerModel", "need", "(I)Z"⟩, prog_14_method_25_code, 2, (Option.some FieldType.boolean), [])
noncomputable def d24_ : aMd := (⟨"RoundReckonerModel", "owe", "(IIZ)V"⟩, prog_14_method_28_code, 4, (Option.none : Option FieldType), [])
noncomputable def d25_ : aMd := (⟨"RoundReckonerModel", "reckoned", "()Z"⟩, prog_14_method_27_code, 2, (Option.some FieldType.boolean), [])
noncomputable def d26_ : aMd := (⟨"RoundReckonerModel", "head", "()Z"⟩, prog_14_method_26_code, 2, (Option.some FieldType.boolean), [])
noncomputable def d27_ : aMd := (⟨"RoundReckonerModel", "isPaid", "()Z"⟩, prog_14_method_29_code, 3, (Option.some FieldType.boolean), [])
noncomputable def d28_ : aMd := (⟨"RoundReckonerModel", "swap", "(I)V"⟩, prog_14_method_42_code, 6, (Option.none : Option FieldType), [])
noncomputable def d29_ : aMd := (⟨"RoundReckonerModel", "sortOwed", "()V"⟩, prog_14_method_41_code, 3, (Option.none : Option FieldType), [])
noncomputable def d30_ : aMd := (⟨"RoundReckonerModel", "isFact", "()Z"⟩, prog_14_method_39_code, 2, (Option.some FieldType.boolean), [])
noncomputable def d31_ : aMd := (⟨"RoundReckonerModel", "fresh", "(I)V"⟩, prog_14_method_36_code, 2, (Option.none : Option FieldType), [])
noncomputable def d32_ : aMd := (⟨"RoundReckonerModel", "goal", "()I"⟩, prog_14_method_30_code, 1, (Option.some FieldType.int), [])
noncomputable def d33_ : aMd := (⟨"RoundReckonerModel", "value", "(I)Z"⟩, prog_14_method_32_code, 3, (Option.some FieldType.boolean), [])
noncomputable def d34_ : aMd := (⟨"RoundReckonerModel", "comparison", "(I)Z"⟩, prog_14_method_33_code, 4, (Option.some FieldType.boolean), [])
noncomputable def d35_ : aMd := (⟨"RoundReckonerModel", "atom", "(ZZ)Z"⟩, prog_14_method_31_code, 11, (Option.some FieldType.boolean), [])
noncomputable def d36_ : aMd := (⟨"RoundReckonerModel", "oneGoal", "(Z)Z"⟩, prog_14_method_34_code, 7, (Option.some FieldType.boolean), [])
noncomputable def d37_ : aMd := (⟨"RoundReckonerModel", "goals", "(Z)Z"⟩, prog_14_method_35_code, 3, (Option.some FieldType.boolean), [])
noncomputable def d38_ : aMd := (⟨"RoundReckonerModel", "loosen", "()V"⟩, prog_14_method_37_code, 4, (Option.none : Option FieldType), [])
noncomputable def d39_ : aMd := (⟨"RoundReckonerModel", "factOf", "(II)I"⟩, prog_14_method_38_code, 6, (Option.some FieldType.int), [])
noncomputable def d40_ : aMd := (⟨"RoundReckonerModel", "clause", "()Z"⟩, prog_14_method_40_code, 4, (Option.some FieldType.boolean), [])
noncomputable def d41_ : aMd := (⟨"RoundReckonerModel", "change", "()V"⟩, prog_14_method_44_code, 1, (Option.none : Option FieldType), [])
noncomputable def d42_ : aMd := (⟨"RoundReckonerModel", "tell", "()I"⟩, prog_14_method_43_code, 2, (Option.some FieldType.int), [])
noncomputable def d43_ : aMd := (⟨"RoundReckonerModel", "untell", "()I"⟩, prog_14_method_45_code, 6, (Option.some FieldType.int), [])
noncomputable def d44_ : aMd := (⟨"RoundReckonerModel", "copyRule", "(II)V"⟩, prog_14_method_47_code, 4, (Option.none : Option FieldType), [])
noncomputable def d45_ : aMd := (⟨"RoundReckonerModel", "drop", "(I)I"⟩, prog_14_method_46_code, 3, (Option.some FieldType.int), [])
noncomputable def d46_ : aMd := (⟨"RoundReckonerModel", "isNumber", "(J)Z"⟩, prog_14_method_51_code, 2, (Option.some FieldType.boolean), [])
noncomputable def d47_ : aMd := (⟨"RoundReckonerModel", "tupleOf", "(I)I"⟩, prog_14_method_49_code, 5, (Option.some FieldType.int), [])
noncomputable def d48_ : aMd := (⟨"RoundReckonerModel", "come", "(II)V"⟩, prog_14_method_50_code, 5, (Option.none : Option FieldType), [])
noncomputable def d49_ : aMd := (⟨"RoundReckonerModel", "worth", "(I)J"⟩, prog_14_method_52_code, 2, (Option.some FieldType.long), [])
noncomputable def d50_ : aMd := (⟨"RoundReckonerModel", "isNew", "(I)Z"⟩, prog_14_method_54_code, 2, (Option.some FieldType.boolean), [])
noncomputable def d51_ : aMd := (⟨"RoundReckonerModel", "matches", "(II)Z"⟩, prog_14_method_53_code, 9, (Option.some FieldType.boolean), [])
noncomputable def d52_ : aMd := (⟨"RoundReckonerModel", "asksNew", "(II)Z"⟩, prog_14_method_55_code, 4, (Option.some FieldType.boolean), [])
noncomputable def d53_ : aMd := (⟨"RoundReckonerModel", "take", "(III)I"⟩, prog_14_method_56_code, 6, (Option.some FieldType.int), [])
noncomputable def d54_ : aMd := (⟨"RoundReckonerModel", "give", "(II)V"⟩, prog_14_method_57_code, 5, (Option.none : Option FieldType), [])
noncomputable def d55_ : aMd := (⟨"RoundReckonerModel", "holds", "(I)Z"⟩, prog_14_method_58_code, 10, (Option.some FieldType.boolean), [])
noncomputable def d56_ : aMd := (⟨"RoundReckonerModel", "keepAnswer", "()V"⟩, prog_14_method_76_code, 2, (Option.none : Option FieldType), [])
noncomputable def d57_ : aMd := (⟨"RoundReckonerModel", "makeHead", "(I)V"⟩, prog_14_method_60_code, 3, (Option.none : Option FieldType), [])
noncomputable def d58_ : aMd := (⟨"RoundReckonerModel", "headComes", "(I)V"⟩, prog_14_method_61_code, 2, (Option.none : Option FieldType), [])
noncomputable def d59_ : aMd := (⟨"RoundReckonerModel", "isRow", "(I)Z"⟩, prog_14_method_63_code, 3, (Option.some FieldType.boolean), [])
noncomputable def d60_ : aMd := (⟨"RoundReckonerModel", "rowOf", "(I)V"⟩, prog_14_method_62_code, 5, (Option.none : Option FieldType), [])
noncomputable def d61_ : aMd := (⟨"RoundReckonerModel", "atoms", "(I)I"⟩, prog_14_method_65_code, 4, (Option.some FieldType.int), [])
noncomputable def d62_ : aMd := (⟨"RoundReckonerModel", "ways", "(II)V"⟩, prog_14_method_59_code, 7, (Option.none : Option FieldType), [])
noncomputable def d63_ : aMd := (⟨"RoundReckonerModel", "reckon", "(I)V"⟩, prog_14_method_64_code, 6, (Option.none : Option FieldType), [])
noncomputable def d64_ : aMd := (⟨"RoundReckonerModel", "runLayer", "(I)V"⟩, prog_14_method_66_code, 6, (Option.none : Option FieldType), [])
noncomputable def d65_ : aMd := (⟨"RoundReckonerModel", "layOut", "()Z"⟩, prog_14_method_48_code, 6, (Option.some FieldType.boolean), [])
noncomputable def d66_ : aMd := (⟨"RoundReckonerModel", "run", "()I"⟩, prog_14_method_67_code, 2, (Option.some FieldType.int), [])
noncomputable def d67_ : aMd := (⟨"RoundReckonerModel", "isTuple", "(I)Z"⟩, prog_14_method_69_code, 2, (Option.some FieldType.boolean), [])
noncomputable def d68_ : aMd := (⟨"RoundReckonerModel", "told", "(J)I"⟩, prog_14_method_68_code, 2, (Option.some FieldType.int), [])
noncomputable def d69_ : aMd := (⟨"RoundReckonerModel", "tuple", "(II)I"⟩, prog_14_method_70_code, 4, (Option.some FieldType.int), [])
noncomputable def d70_ : aMd := (⟨"RoundReckonerModel", "why", "(II)I"⟩, prog_14_method_71_code, 3, (Option.some FieldType.int), [])
noncomputable def d71_ : aMd := (⟨"RoundReckonerModel", "layer", "(I)I"⟩, prog_14_method_79_code, 2, (Option.some FieldType.int), [])
noncomputable def d72_ : aMd := (⟨"RoundReckonerModel", "count", "(I)I"⟩, prog_14_method_81_code, 2, (Option.some FieldType.int), [])
noncomputable def d73_ : aMd := (⟨"RoundReckonerModel", "answer", "(II)I"⟩, prog_14_method_78_code, 3, (Option.some FieldType.int), [])
noncomputable def d74_ : aMd := (⟨"RoundReckonerModel", "word", "(I)J"⟩, prog_14_method_80_code, 5, (Option.some FieldType.long), [])
noncomputable def d75_ : aMd := (⟨"RoundReckonerModel", "put", "(I)V"⟩, prog_14_method_72_code, 2, (Option.none : Option FieldType), [])
noncomputable def d76_ : aMd := (⟨"RoundReckonerModel", "putNumber", "(J)V"⟩, prog_14_method_73_code, 7, (Option.none : Option FieldType), [])
noncomputable def d77_ : aMd := (⟨"RoundReckonerModel", "show", "(I)I"⟩, prog_14_method_74_code, 8, (Option.some FieldType.int), [])
noncomputable def d78_ : aMd := (⟨"RoundReckonerModel", "find", "()I"⟩, prog_14_method_75_code, 4, (Option.some FieldType.int), [])
noncomputable def d79_ : aMd := (⟨"RoundReckonerModel", "ask", "()I"⟩, prog_14_method_77_code, 3, (Option.some FieldType.int), [])
noncomputable def d80_ : aMd := (⟨"RoundReckoner$Names", "numberOf", "(J)I"⟩, prog_7_method_2_code, 4, (Option.some FieldType.int), [])
noncomputable def d81_ : aMd := (⟨"RoundReckoner$Names", "wordOf", "(I)J"⟩, prog_7_method_3_code, 2, (Option.some FieldType.long), [])
noncomputable def d82_ : aMd := (⟨"java/util/Arrays", "fill", "([II)V"⟩, prog_25_method_103_code, 4, (Option.none : Option FieldType), [])
noncomputable def d83_ : aMd := (⟨"java/util/Arrays", "fill", "([JJ)V"⟩, prog_25_method_101_code, 5, (Option.none : Option FieldType), [])
noncomputable def d84_ : aMd := (⟨"java/lang/Math", "min", "(II)I"⟩, prog_20_method_69_code, 2, (Option.some FieldType.int), [])
noncomputable def d85_ : aMd := (⟨"java/lang/Math", "max", "(II)I"⟩, prog_20_method_65_code, 2, (Option.some FieldType.int), [])
noncomputable def d86_ : aMd := (⟨"RoundReckoner$Goal", "start", "(IJI)V"⟩, prog_6_method_2_code, 5, (Option.none : Option FieldType), [])
noncomputable def d87_ : aMd := (⟨"RoundReckoner$Goal", "put", "(IIIJ)V"⟩, prog_6_method_3_code, 6, (Option.none : Option FieldType), [])
noncomputable def d88_ : aMd := (⟨"RoundReckoner$Reader", "isSmall", "(I)Z"⟩, prog_9_method_8_code, 1, (Option.some FieldType.boolean), [])
noncomputable def d89_ : aMd := (⟨"RoundReckoner$Reader", "isCapital", "(I)Z"⟩, prog_9_method_9_code, 1, (Option.some FieldType.boolean), [])
noncomputable def d90_ : aMd := (⟨"RoundReckoner$Reader", "isDigit", "(I)Z"⟩, prog_9_method_10_code, 1, (Option.some FieldType.boolean), [])
noncomputable def d91_ : aMd := (⟨"RoundReckoner$Reader", "symbolOf", "(I)I"⟩, prog_9_method_11_code, 1, (Option.some FieldType.int), [])
noncomputable def d92_ : aMd := (⟨"RoundReckoner$Reader", "fail", "(I)Z"⟩, prog_9_method_6_code, 2, (Option.some FieldType.boolean), [])
noncomputable def d93_ : aMd := (⟨"RoundReckoner$Reader", "startClause", "()V"⟩, prog_9_method_5_code, 1, (Option.none : Option FieldType), [])
noncomputable def d94_ : aMd := (⟨"RoundReckoner$Reader", "start", "(I)V"⟩, prog_9_method_4_code, 2, (Option.none : Option FieldType), [])
noncomputable def d95_ : aMd := (⟨"RoundReckoner$Reader", "empty", "()V"⟩, prog_9_method_3_code, 1, (Option.none : Option FieldType), [])
noncomputable def d96_ : aMd := (⟨"RoundReckoner$Reader", "take", "(I)V"⟩, prog_9_method_2_code, 3, (Option.none : Option FieldType), [])
noncomputable def d97_ : aMd := (⟨"RoundReckoner$Reader", "look", "()I"⟩, prog_9_method_7_code, 1, (Option.some FieldType.int), [])
noncomputable def d98_ : aMd := (⟨"RoundReckoner$Reader", "readWord", "()Z"⟩, prog_9_method_12_code, 2, (Option.some FieldType.boolean), [])
noncomputable def d99_ : aMd := (⟨"RoundReckoner$Reader", "readNumber", "()Z"⟩, prog_9_method_13_code, 4, (Option.some FieldType.boolean), [])
noncomputable def d100_ : aMd := (⟨"RoundReckoner$Reader", "isKnown", "(I)Z"⟩, prog_9_method_21_code, 2, (Option.some FieldType.boolean), [])
noncomputable def d101_ : aMd := (⟨"RoundReckoner$Reader", "slotOf", "(J)I"⟩, prog_9_method_22_code, 4, (Option.some FieldType.int), [])
noncomputable def d102_ : aMd := (⟨"RoundReckoner$Reader", "meet", "(J)I"⟩, prog_9_method_23_code, 4, (Option.some FieldType.int), [])
noncomputable def d103_ : aMd := (⟨"RoundReckoner$Reader", "addStray", "(I)V"⟩, prog_9_method_20_code, 2, (Option.none : Option FieldType), [])
noncomputable def d104_ : aMd := (⟨"RoundReckoner$Reader", "tallyOf", "(J)I"⟩, prog_9_method_25_code, 2, (Option.some FieldType.int), [])
noncomputable def d105_ : aMd := (⟨"RoundReckoner$Clauses", "mark", "()V"⟩, prog_4_method_3_code, 1, (Option.none : Option FieldType), [])
noncomputable def d106_ : aMd := (⟨"RoundReckoner$Clauses", "isChanged", "()Z"⟩, prog_4_method_5_code, 1, (Option.some FieldType.boolean), [])
noncomputable def d107_ : aMd := (⟨"RoundReckoner$Clauses", "predicateOf", "(JI)I"⟩, prog_4_method_6_code, 5, (Option.some FieldType.int), [])
noncomputable def d108_ : aMd := (⟨"RoundReckoner$Clauses", "addPredicate", "(JI)I"⟩, prog_4_method_7_code, 4, (Option.some FieldType.int), [])
noncomputable def d109_ : aMd := (⟨"RoundReckoner$Clauses", "isFact", "(ILRoundReckoner$Goal;)Z"⟩, prog_4_method_9_code, 4, (Option.some FieldType.boolean), [])
noncomputable def d110_ : aMd := (⟨"RoundReckoner$Clauses", "factOf", "(LRoundReckoner$Goal;)I"⟩, prog_4_method_8_code, 3, (Option.some FieldType.int), [])
noncomputable def d111_ : aMd := (⟨"RoundReckoner$Clauses", "addFact", "(LRoundReckoner$Goal;)Z"⟩, prog_4_method_10_code, 2, (Option.some FieldType.boolean), [])
noncomputable def d112_ : aMd := (⟨"RoundReckoner$Clauses", "removeFact", "(I)V"⟩, prog_4_method_11_code, 3, (Option.none : Option FieldType), [])
noncomputable def d113_ : aMd := (⟨"RoundReckoner$Clauses", "rule", "(I)LRoundReckoner$Rule;"⟩, prog_4_method_2_code, 3, (Option.some (FieldType.object "RoundReckoner$Rule")), [])
noncomputable def d114_ : aMd := (⟨"RoundReckoner$Rule", "goal", "(I)LRoundReckoner$Goal;"⟩, prog_11_method_2_code, 3, (Option.some (FieldType.object "RoundReckoner$Goal")), [])
noncomputable def d115_ : aMd := (⟨"RoundReckoner$Reader", "findPredicate", "(LRoundReckoner$Goal;)Z"⟩, prog_9_method_17_code, 2, (Option.some FieldType.boolean), [])
noncomputable def d116_ : aMd := (⟨"RoundReckoner$Reader", "putName", "(LRoundReckoner$Goal;JI)Z"⟩, prog_9_method_27_code, 6, (Option.some FieldType.boolean), [])
noncomputable def d117_ : aMd := (⟨"RoundReckoner$Reader", "readConstant", "(LRoundReckoner$Goal;)Z"⟩, prog_9_method_26_code, 4, (Option.some FieldType.boolean), [])
noncomputable def d118_ : aMd := (⟨"RoundReckoner$Reader", "putVariable", "(LRoundReckoner$Goal;)Z"⟩, prog_9_method_19_code, 3, (Option.some FieldType.boolean), [])
noncomputable def d119_ : aMd := (⟨"RoundReckoner$Reader", "putKnown", "(LRoundReckoner$Goal;JI)Z"⟩, prog_9_method_39_code, 6, (Option.some FieldType.boolean), [])
noncomputable def d120_ : aMd := (⟨"RoundReckoner$Reader", "readValue", "(LRoundReckoner$Goal;)Z"⟩, prog_9_method_41_code, 2, (Option.some FieldType.boolean), [])
noncomputable def d121_ : aMd := (⟨"RoundReckoner$Reader", "readTally", "(LRoundReckoner$Goal;)Z"⟩, prog_9_method_24_code, 2, (Option.some FieldType.boolean), [])
noncomputable def d122_ : aMd := (⟨"RoundReckoner$Reader", "readArg", "(LRoundReckoner$Goal;)Z"⟩, prog_9_method_18_code, 3, (Option.some FieldType.boolean), [])
noncomputable def d123_ : aMd := (⟨"RoundReckoner$Reader", "stands", "(LRoundReckoner$Goal;II)Z"⟩, prog_9_method_16_code, 4, (Option.some FieldType.boolean), [])
noncomputable def d124_ : aMd := (⟨"RoundReckoner$Reader", "readAtom", "(LRoundReckoner$Goal;I)Z"⟩, prog_9_method_15_code, 6, (Option.some FieldType.boolean), [])
noncomputable def d125_ : aMd := (⟨"RoundReckoner$Reader", "readHead", "(LRoundReckoner$Rule;)Z"⟩, prog_9_method_14_code, 2, (Option.some FieldType.boolean), [])
noncomputable def d126_ : aMd := (⟨"RoundReckoner$Reader", "areConstants", "(LRoundReckoner$Goal;)Z"⟩, prog_9_method_29_code, 3, (Option.some FieldType.boolean), [])
noncomputable def d127_ : aMd := (⟨"RoundReckoner$Reader", "readStop", "(LRoundReckoner$Goal;)Z"⟩, prog_9_method_28_code, 2, (Option.some FieldType.boolean), [])
noncomputable def d128_ : aMd := (⟨"RoundReckoner$Reader", "readNothing", "()Z"⟩, prog_9_method_30_code, 1, (Option.some FieldType.boolean), [])
noncomputable def d129_ : aMd := (⟨"RoundReckoner$Reader", "readFactEnd", "(LRoundReckoner$Goal;)Z"⟩, prog_9_method_31_code, 2, (Option.some FieldType.boolean), [])
noncomputable def d130_ : aMd := (⟨"RoundReckoner$Reader", "readRuleSign", "(LRoundReckoner$Goal;)Z"⟩, prog_9_method_32_code, 2, (Option.some FieldType.boolean), [])
noncomputable def d131_ : aMd := (⟨"RoundReckoner$Reader", "areStraysAlone", "()Z"⟩, prog_9_method_35_code, 2, (Option.some FieldType.boolean), [])
noncomputable def d132_ : aMd := (⟨"RoundReckoner$Reader", "isHeadKnown", "(LRoundReckoner$Goal;)Z"⟩, prog_9_method_34_code, 3, (Option.some FieldType.boolean), [])
noncomputable def d133_ : aMd := (⟨"RoundReckoner$Reader", "readSign", "(LRoundReckoner$Goal;)Z"⟩, prog_9_method_37_code, 3, (Option.some FieldType.boolean), [])
noncomputable def d134_ : aMd := (⟨"RoundReckoner$Reader", "readComparison", "(LRoundReckoner$Goal;JI)Z"⟩, prog_9_method_38_code, 5, (Option.some FieldType.boolean), [])
noncomputable def d135_ : aMd := (⟨"RoundReckoner$Reader", "readReckoning", "(LRoundReckoner$Goal;JI)Z"⟩, prog_9_method_40_code, 6, (Option.some FieldType.boolean), [])
noncomputable def d136_ : aMd := (⟨"RoundReckoner$Reader", "readGoal", "(LRoundReckoner$Goal;)Z"⟩, prog_9_method_36_code, 4, (Option.some FieldType.boolean), [])
noncomputable def d137_ : aMd := (⟨"RoundReckoner$Reader", "readGoals", "(LRoundReckoner$Rule;)Z"⟩, prog_9_method_33_code, 5, (Option.some FieldType.boolean), [])
noncomputable def d138_ : aMd := (⟨"RoundReckoner$Clauses", "keepRule", "()Z"⟩, prog_4_method_12_code, 1, (Option.some FieldType.boolean), [])
noncomputable def d139_ : aMd := (⟨"RoundReckoner$Clauses", "goBack", "()V"⟩, prog_4_method_4_code, 1, (Option.none : Option FieldType), [])
noncomputable def d140_ : aMd := (⟨"RoundReckoner$Answers", "clear", "()V"⟩, prog_2_method_2_code, 1, (Option.none : Option FieldType), [])
noncomputable def d141_ : aMd := (⟨"RoundReckoner", "forget", "()V"⟩, prog_1_method_5_code, 1, (Option.none : Option FieldType), [])
noncomputable def d142_ : aMd := (⟨"RoundReckoner", "feed", "(IIIII)I"⟩, prog_1_method_2_code, 6, (Option.some FieldType.int), [])
noncomputable def d143_ : aMd := (⟨"RoundReckoner", "end", "(I)I"⟩, prog_1_method_3_code, 2, (Option.some FieldType.int), [])
noncomputable def d144_ : aMd := (⟨"RoundReckoner", "tell", "()I"⟩, prog_1_method_4_code, 4, (Option.some FieldType.int), [])
noncomputable def d145_ : aMd := (⟨"RoundReckoner", "untell", "()I"⟩, prog_1_method_6_code, 4, (Option.some FieldType.int), [])
noncomputable def d146_ : aMd := (⟨"RoundReckoner$Clauses", "removeRule", "(I)V"⟩, prog_4_method_13_code, 4, (Option.none : Option FieldType), [])
noncomputable def d147_ : aMd := (⟨"RoundReckoner", "drop", "(I)I"⟩, prog_1_method_7_code, 2, (Option.some FieldType.int), [])
noncomputable def d148_ : aMd := (⟨"RoundReckoner", "needRun", "()V"⟩, prog_1_method_10_code, 1, (Option.none : Option FieldType), [])
noncomputable def d149_ : aMd := (⟨"RoundReckoner", "needTuple", "(I)V"⟩, prog_1_method_11_code, 2, (Option.none : Option FieldType), [])
noncomputable def d150_ : aMd := (⟨"RoundReckoner", "isNumber", "(J)Z"⟩, prog_1_method_12_code, 2, (Option.some FieldType.boolean), [])
noncomputable def d151_ : aMd := (⟨"RoundReckoner", "answerOf", "(J)I"⟩, prog_1_method_13_code, 2, (Option.some FieldType.int), [])
noncomputable def d152_ : aMd := (⟨"RoundReckoner", "tuple", "(II)I"⟩, prog_1_method_9_code, 4, (Option.some FieldType.int), [])
noncomputable def d153_ : aMd := (⟨"RoundReckoner", "why", "(II)I"⟩, prog_1_method_14_code, 3, (Option.some FieldType.int), [])
noncomputable def d154_ : aMd := (⟨"RoundReckoner", "answer", "(II)I"⟩, prog_1_method_18_code, 3, (Option.some FieldType.int), [])
noncomputable def d155_ : aMd := (⟨"RoundReckoner", "layer", "(I)I"⟩, prog_1_method_19_code, 2, (Option.some FieldType.int), [])
noncomputable def d156_ : aMd := (⟨"RoundReckoner", "word", "(I)J"⟩, prog_1_method_20_code, 5, (Option.some FieldType.long), [])
noncomputable def d157_ : aMd := (⟨"RoundReckoner", "count", "(I)I"⟩, prog_1_method_21_code, 2, (Option.some FieldType.int), [])
noncomputable def d158_ : aMd := (⟨"RoundReckoner$Out", "clear", "()V"⟩, prog_8_method_2_code, 1, (Option.none : Option FieldType), [])
noncomputable def d159_ : aMd := (⟨"RoundReckoner$Out", "write", "(I)V"⟩, prog_8_method_3_code, 2, (Option.none : Option FieldType), [])
noncomputable def d160_ : aMd := (⟨"RoundReckoner$Out", "signOf", "(I)I"⟩, prog_8_method_5_code, 1, (Option.some FieldType.int), [])
noncomputable def d161_ : aMd := (⟨"RoundReckoner$Out", "writeWord", "(J)V"⟩, prog_8_method_4_code, 7, (Option.none : Option FieldType), [])
noncomputable def d162_ : aMd := (⟨"RoundReckoner$Out", "writeNumber", "(J)V"⟩, prog_8_method_6_code, 8, (Option.none : Option FieldType), [])
noncomputable def d163_ : aMd := (⟨"RoundReckoner", "show", "(I)I"⟩, prog_1_method_15_code, 6, (Option.some FieldType.int), [])
noncomputable def d164_ : aMd := (⟨"RoundReckoner$Chains", "clear", "()V"⟩, prog_3_method_2_code, 1, (Option.none : Option FieldType), [])
noncomputable def d165_ : aMd := (⟨"RoundReckoner$Chains", "firstOf", "(J)I"⟩, prog_3_method_4_code, 4, (Option.some FieldType.int), [])
noncomputable def d166_ : aMd := (⟨"RoundReckoner$Chains", "nextOf", "(I)I"⟩, prog_3_method_5_code, 2, (Option.some FieldType.int), [])
noncomputable def d167_ : aMd := (⟨"RoundReckoner$Chains", "append", "(JI)V"⟩, prog_3_method_3_code, 5, (Option.none : Option FieldType), [])
noncomputable def d168_ : aMd := (⟨"RoundReckoner$Tuples", "clear", "()V"⟩, prog_12_method_2_code, 1, (Option.none : Option FieldType), [])
noncomputable def d169_ : aMd := (⟨"RoundReckoner$Tuples", "wholeKey", "(I)J"⟩, prog_12_method_3_code, 5, (Option.some FieldType.long), [])
noncomputable def d170_ : aMd := (⟨"RoundReckoner$Tuples", "argKey", "(IIJ)J"⟩, prog_12_method_4_code, 4, (Option.some FieldType.long), [])
noncomputable def d171_ : aMd := (⟨"RoundReckoner$Tuples", "isDraft", "(I)Z"⟩, prog_12_method_6_code, 3, (Option.some FieldType.boolean), [])
noncomputable def d172_ : aMd := (⟨"RoundReckoner$Tuples", "numberOf", "(I)I"⟩, prog_12_method_5_code, 4, (Option.some FieldType.int), [])
noncomputable def d173_ : aMd := (⟨"RoundReckoner$Tuples", "add", "(III)Z"⟩, prog_12_method_7_code, 5, (Option.some FieldType.boolean), [])
noncomputable def d174_ : aMd := (⟨"RoundReckoner$Tuples", "firstFrom", "(II)I"⟩, prog_12_method_8_code, 4, (Option.some FieldType.int), [])
noncomputable def d175_ : aMd := (⟨"RoundReckoner$Tuples", "nextOf", "(I)I"⟩, prog_12_method_9_code, 2, (Option.some FieldType.int), [])
noncomputable def d176_ : aMd := (⟨"RoundReckoner$Tuples", "withArg", "(II)I"⟩, prog_12_method_12_code, 5, (Option.some FieldType.int), [])
noncomputable def d177_ : aMd := (⟨"RoundReckoner$Tuples", "firstWith", "(IIJ)I"⟩, prog_12_method_10_code, 5, (Option.some FieldType.int), [])
noncomputable def d178_ : aMd := (⟨"RoundReckoner$Tuples", "nextWith", "(II)I"⟩, prog_12_method_11_code, 3, (Option.some FieldType.int), [])
noncomputable def d179_ : aMd := (⟨"RoundReckoner$Rows", "clear", "()V"⟩, prog_10_method_2_code, 1, (Option.none : Option FieldType), [])
noncomputable def d180_ : aMd := (⟨"RoundReckoner$Rows", "keyOf", "([J)J"⟩, prog_10_method_3_code, 4, (Option.some FieldType.long), [])
noncomputable def d181_ : aMd := (⟨"RoundReckoner$Rows", "isRow", "(I[J)Z"⟩, prog_10_method_4_code, 4, (Option.some FieldType.boolean), [])
noncomputable def d182_ : aMd := (⟨"RoundReckoner$Rows", "rowOf", "([J)I"⟩, prog_10_method_5_code, 6, (Option.some FieldType.int), [])
noncomputable def d183_ : aMd := (⟨"RoundReckoner$Rows", "countWay", "(I)V"⟩, prog_10_method_6_code, 2, (Option.none : Option FieldType), [])
noncomputable def d184_ : aMd := (⟨"RoundReckoner$Rows", "addValue", "(IJ)V"⟩, prog_10_method_7_code, 4, (Option.none : Option FieldType), [])
noncomputable def d185_ : aMd := (⟨"RoundReckoner$Rows", "keepLeast", "(IJ)V"⟩, prog_10_method_8_code, 4, (Option.none : Option FieldType), [])
noncomputable def d186_ : aMd := (⟨"RoundReckoner$Rows", "keepGreatest", "(IJ)V"⟩, prog_10_method_9_code, 4, (Option.none : Option FieldType), [])
noncomputable def d187_ : aMd := (⟨"RoundReckoner", "find", "()I"⟩, prog_1_method_16_code, 4, (Option.some FieldType.int), [])
noncomputable def d188_ : aMd := (⟨"RoundReckoner$Clauses", "leastLayer", "(LRoundReckoner$Rule;)I"⟩, prog_4_method_15_code, 6, (Option.some FieldType.int), [])
noncomputable def d189_ : aMd := (⟨"RoundReckoner$Clauses", "layOut", "()Z"⟩, prog_4_method_14_code, 6, (Option.some FieldType.boolean), [])
noncomputable def d190_ : aMd := (⟨"RoundReckoner$Engine", "valueOf", "(LRoundReckoner$Goal;I)J"⟩, prog_5_method_17_code, 3, (Option.some FieldType.long), [])
noncomputable def d191_ : aMd := (⟨"RoundReckoner$Engine", "fits", "(LRoundReckoner$Goal;I)Z"⟩, prog_5_method_18_code, 7, (Option.some FieldType.boolean), [])
noncomputable def d192_ : aMd := (⟨"RoundReckoner$Engine", "firstFor", "(LRoundReckoner$Goal;I)I"⟩, prog_5_method_15_code, 3, (Option.some FieldType.int), [])
noncomputable def d193_ : aMd := (⟨"RoundReckoner$Engine", "nextFor", "(LRoundReckoner$Goal;I)I"⟩, prog_5_method_16_code, 3, (Option.some FieldType.int), [])
noncomputable def d194_ : aMd := (⟨"RoundReckoner$Engine", "isAny", "(LRoundReckoner$Goal;)Z"⟩, prog_5_method_14_code, 4, (Option.some FieldType.boolean), [])
noncomputable def d195_ : aMd := (⟨"RoundReckoner$Engine", "isTrue", "(LRoundReckoner$Goal;)Z"⟩, prog_5_method_19_code, 8, (Option.some FieldType.boolean), [])
noncomputable def d196_ : aMd := (⟨"RoundReckoner$Engine", "takeOne", "(LRoundReckoner$Goal;I)V"⟩, prog_5_method_13_code, 3, (Option.none : Option FieldType), [])
noncomputable def d197_ : aMd := (⟨"RoundReckoner$Engine", "bring", "(III)Z"⟩, prog_5_method_4_code, 4, (Option.some FieldType.boolean), [])
noncomputable def d198_ : aMd := (⟨"RoundReckoner$Engine", "isOfLayer", "(LRoundReckoner$Rule;I)Z"⟩, prog_5_method_6_code, 3, (Option.some FieldType.boolean), [])
noncomputable def d199_ : aMd := (⟨"RoundReckoner$Engine", "bringFacts", "(I)V"⟩, prog_5_method_3_code, 4, (Option.none : Option FieldType), [])
noncomputable def d200_ : aMd := (⟨"RoundReckoner$Engine", "clear", "()V"⟩, prog_5_method_2_code, 1, (Option.none : Option FieldType), [])
noncomputable def d201_ : aMd := (⟨"RoundReckoner$Engine", "bringRows", "(LRoundReckoner$Goal;I)V"⟩, prog_5_method_8_code, 4, (Option.none : Option FieldType), [])
noncomputable def d202_ : aMd := (⟨"RoundReckoner$Engine", "begin", "(IILRoundReckoner$Rule;I)V"⟩, prog_5_method_5_code, 5, (Option.none : Option FieldType), [])
noncomputable def d203_ : aMd := (⟨"RoundReckoner$Answers", "keep", "([J)V"⟩, prog_2_method_3_code, 2, (Option.none : Option FieldType), [])
noncomputable def d204_ : aMd := (⟨"RoundReckoner$Engine", "tallyWay", "(LRoundReckoner$Goal;)V"⟩, prog_5_method_21_code, 5, (Option.none : Option FieldType), [])
noncomputable def d205_ : aMd := (⟨"RoundReckoner$Engine", "arrive", "()V"⟩, prog_5_method_20_code, 3, (Option.none : Option FieldType), [])
noncomputable def d206_ : aMd := (⟨"RoundReckoner$Engine", "walk", "(I)V"⟩, prog_5_method_11_code, 3, (Option.none : Option FieldType), [])
noncomputable def d207_ : aMd := (⟨"RoundReckoner$Engine", "takeEach", "(LRoundReckoner$Goal;I)V"⟩, prog_5_method_12_code, 8, (Option.none : Option FieldType), [])
noncomputable def d208_ : aMd := (⟨"RoundReckoner$Engine", "answerAll", "(LRoundReckoner$Rule;LRoundReckoner$Answers;)V"⟩, prog_5_method_10_code, 3, (Option.none : Option FieldType), [])
noncomputable def d209_ : aMd := (⟨"RoundReckoner$Engine", "bringTallies", "(I)V"⟩, prog_5_method_7_code, 4, (Option.none : Option FieldType), [])
noncomputable def d210_ : aMd := (⟨"RoundReckoner$Engine", "playRounds", "(I)I"⟩, prog_5_method_9_code, 7, (Option.some FieldType.int), [])
noncomputable def d211_ : aMd := (⟨"RoundReckoner", "run", "()I"⟩, prog_1_method_8_code, 3, (Option.some FieldType.int), [])
noncomputable def d212_ : aMd := (⟨"RoundReckoner", "ask", "()I"⟩, prog_1_method_17_code, 4, (Option.some FieldType.int), [])
noncomputable def d213_ : aMd := (⟨"RoundReckonerLaw", "feed", "(LRoundReckoner;IIIII[J)I"⟩, method_3_code, 8, (Option.some FieldType.int), [(0, 16, 19, 13)])
noncomputable def d214_ : aMd := (⟨"RoundReckonerLaw", "end", "(LRoundReckoner;I[J)I"⟩, method_4_code, 4, (Option.some FieldType.int), [(0, 9, 12, 19)])
noncomputable def d215_ : aMd := (⟨"RoundReckonerLaw", "drop", "(LRoundReckoner;I[J)I"⟩, method_5_code, 4, (Option.some FieldType.int), [(0, 9, 12, 13)])
noncomputable def d216_ : aMd := (⟨"RoundReckonerLaw", "run", "(LRoundReckoner;[J)I"⟩, method_6_code, 3, (Option.some FieldType.int), [(0, 8, 11, 28), (0, 8, 14, 30), (0, 8, 17, 13)])
noncomputable def d217_ : aMd := (⟨"RoundReckonerLaw", "tuple", "(LRoundReckoner;II[J)I"⟩, method_7_code, 5, (Option.some FieldType.int), [(0, 10, 13, 19), (0, 10, 17, 36), (0, 10, 21, 13)])
noncomputable def d218_ : aMd := (⟨"RoundReckonerLaw", "why", "(LRoundReckoner;II[J)I"⟩, method_8_code, 5, (Option.some FieldType.int), [(0, 10, 13, 36), (0, 10, 17, 13)])
noncomputable def d219_ : aMd := (⟨"RoundReckonerLaw", "show", "(LRoundReckoner;I[J)I"⟩, method_9_code, 4, (Option.some FieldType.int), [(0, 9, 12, 36), (0, 9, 15, 13)])
noncomputable def d220_ : aMd := (⟨"RoundReckonerLaw", "find", "(LRoundReckoner;[J)I"⟩, method_10_code, 3, (Option.some FieldType.int), [(0, 8, 11, 36)])
noncomputable def d221_ : aMd := (⟨"RoundReckonerLaw", "ask", "(LRoundReckoner;[J)I"⟩, method_11_code, 3, (Option.some FieldType.int), [(0, 8, 11, 36), (0, 8, 14, 30)])
noncomputable def d222_ : aMd := (⟨"RoundReckonerLaw", "answer", "(LRoundReckoner;II[J)I"⟩, method_12_code, 5, (Option.some FieldType.int), [(0, 10, 13, 13)])
noncomputable def d223_ : aMd := (⟨"RoundReckonerLaw", "layer", "(LRoundReckoner;I[J)I"⟩, method_13_code, 4, (Option.some FieldType.int), [(0, 9, 12, 36), (0, 9, 15, 13)])
noncomputable def d224_ : aMd := (⟨"RoundReckonerLaw", "word", "(LRoundReckoner;I[J)I"⟩, method_14_code, 4, (Option.some FieldType.int), [(0, 8, 11, 13)])
noncomputable def d225_ : aMd := (⟨"RoundReckonerLaw", "count", "(LRoundReckoner;I[J)I"⟩, method_15_code, 4, (Option.some FieldType.int), [(0, 9, 12, 19)])
noncomputable def d226_ : aMd := (⟨"RoundReckoner", "<init>", "()V"⟩, prog_1_method_1_code, 1, (Option.none : Option FieldType), [])
noncomputable def d227_ : aMd := (⟨"RoundReckoner$Clauses", "<init>", "()V"⟩, prog_4_method_1_code, 2, (Option.none : Option FieldType), [])
noncomputable def d228_ : aMd := (⟨"RoundReckoner$Rule", "<init>", "()V"⟩, prog_11_method_1_code, 2, (Option.none : Option FieldType), [])
noncomputable def d229_ : aMd := (⟨"RoundReckoner$Goal", "<init>", "()V"⟩, prog_6_method_1_code, 1, (Option.none : Option FieldType), [])
noncomputable def d230_ : aMd := (⟨"RoundReckoner$Reader", "<init>", "(LRoundReckoner$Clauses;)V"⟩, prog_9_method_1_code, 2, (Option.none : Option FieldType), [])
noncomputable def d231_ : aMd := (⟨"RoundReckoner$Names", "<init>", "()V"⟩, prog_7_method_1_code, 1, (Option.none : Option FieldType), [])
noncomputable def d232_ : aMd := (⟨"RoundReckoner$Tuples", "<init>", "()V"⟩, prog_12_method_1_code, 1, (Option.none : Option FieldType), [])
noncomputable def d233_ : aMd := (⟨"RoundReckoner$Chains", "<init>", "(II)V"⟩, prog_3_method_1_code, 4, (Option.none : Option FieldType), [])
noncomputable def d234_ : aMd := (⟨"RoundReckoner$Engine", "<init>", "(LRoundReckoner$Clauses;LRoundReckoner$Tuples;)V"⟩, prog_5_method_1_code, 3, (Option.none : Option FieldType), [])
noncomputable def d235_ : aMd := (⟨"RoundReckoner$Rows", "<init>", "()V"⟩, prog_10_method_1_code, 1, (Option.none : Option FieldType), [])
noncomputable def d236_ : aMd := (⟨"RoundReckoner$Answers", "<init>", "()V"⟩, prog_2_method_1_code, 1, (Option.none : Option FieldType), [])
noncomputable def d237_ : aMd := (⟨"RoundReckoner$Out", "<init>", "()V"⟩, prog_8_method_1_code, 1, (Option.none : Option FieldType), [])
noncomputable def d238_ : aMd := (⟨"RoundReckonerModel", "<init>", "()V"⟩, prog_14_method_3_code, 1, (Option.none : Option FieldType), [])
noncomputable def tMth : List aMd := [d0_, d1_, d2_, d3_, d4_, d5_, d6_, d7_, d8_, d9_, d10_, d11_, d12_, d13_, d14_, d15_, d16_, d17_, d18_, d19_, d20_, d21_, d22_, d23_, d24_, d25_, d26_, d27_, d28_, d29_, d30_, d31_, d32_, d33_, d34_, d35_, d36_, d37_, d38_, d39_, d40_, d41_, d42_, d43_, d44_, d45_, d46_, d47_, d48_, d49_, d50_, d51_, d52_, d53_, d54_, d55_, d56_, d57_, d58_, d59_, d60_, d61_, d62_, d63_, d64_, d65_, d66_, d67_, d68_, d69_, d70_, d71_, d72_, d73_, d74_, d75_, d76_, d77_, d78_, d79_, d80_, d81_, d82_, d83_, d84_, d85_, d86_, d87_, d88_, d89_, d90_, d91_, d92_, d93_, d94_, d95_, d96_, d97_, d98_, d99_, d100_, d101_, d102_, d103_, d104_, d105_, d106_, d107_, d108_, d109_, d110_, d111_, d112_, d113_, d114_, d115_, d116_, d117_, d118_, d119_, d120_, d121_, d122_, d123_, d124_, d125_, d126_, d127_, d128_, d129_, d130_, d131_, d132_, d133_, d134_, d135_, d136_, d137_, d138_, d139_, d140_, d141_, d142_, d143_, d144_, d145_, d146_, d147_, d148_, d149_, d150_, d151_, d152_, d153_, d154_, d155_, d156_, d157_, d158_, d159_, d160_, d161_, d162_, d163_, d164_, d165_, d166_, d167_, d168_, d169_, d170_, d171_, d172_, d173_, d174_, d175_, d176_, d177_, d178_, d179_, d180_, d181_, d182_, d183_, d184_, d185_, d186_, d187_, d188_, d189_, d190_, d191_, d192_, d193_, d194_, d195_, d196_, d197_, d198_, d199_, d200_, d201_, d202_, d203_, d204_, d205_, d206_, d207_, d208_, d209_, d210_, d211_, d212_, d213_, d214_, d215_, d216_, d217_, d218_, d219_, d220_, d221_, d222_, d223_, d224_, d225_, d226_, d227_, d228_, d229_, d230_, d231_, d232_, d233_, d234_, d235_, d236_, d237_, d238_]
noncomputable def tW0 : List Cond := lw_tbl.filter goodWord
theorem tW0_all : tW0.all goodWord = true := List.all_eq_true.mpr fun _ hw => (List.mem_filter.mp hw).2
noncomputable def tcOf : FieldType → Nat
  | .int => 0
  | .long => 1
  | .boolean => 2
  | .byte => 3
  | .object _ => 4
  | .array _ => 4
  | _ => 9
theorem tcOf_ok (ty : FieldType) : aTy (tcOf ty) ty := by
  unfold aTy
  cases ty <;> simp [tcOf]
theorem uTc_ok : uTc = tTyl.map (fun l => l.map tcOf) := by decide +kernel
theorem tTy_ok (ci f : Nat) : aTy (aTc uTc ci f) (tTy ci f) := by
  unfold aTc tTy
  rw [uTc_ok]
  simp only [List.getD_eq_getElem?_getD, List.getElem?_map]
  cases h : tTyl[ci]? with
  | none => simp [aTy]
  | some l =>
    simp only [Option.map_some, Option.getD_some, List.getElem?_map]
    cases h2 : l[f]? with
    | none => simp [aTy]
    | some ty => exact tcOf_ok ty
/-- the words that a method's tables ask for -/
noncomputable def rqF (cl : List vw_C) (own : String) (q : Nat × Nat × Nat × Nat) : List Cond := match cl[q.2.1]? with
  | some r => [Cond.fieldLink own q.1 (r.2.1 q.2.2.1).1 (r.2.1 q.2.2.1).2.1 (r.2.1 q.2.2.1).2.2.1]
  | none => []
noncomputable def rqC (cl : List vw_C) (own : String) (q : Nat × Nat × Nat) : List Cond := match cl[q.2.1]? with
  | some r => [Cond.classLink own q.1 r.1, Cond.instantiable r.1 r.2.2, Cond.initialized r.1]
  | none => []
noncomputable def rqA (cl : List vw_C) (own : String) (q : Nat × Nat) : List Cond := match cl[q.2 - 2000]? with
  | some r => [Cond.classLink own q.1 r.1]
  | none => []
noncomputable def rqV (own : String) (mth : List aMd) (q : aIv) : List Cond :=
  if q.2.1 = 4 then [Cond.methodLink own q.1 Lib.objectInit, Cond.instanceMethod Lib.objectInit, Cond.code Lib.objectInit ⟨#[0xb1]⟩ 1 none]
  else match mth[q.2.2.2.2.1]? with
  | some d => aCw d :: Cond.initialized d.1.cls :: (match q.2.1 with
    | 0 => [Cond.methodLink own q.1 d.1, Cond.instanceMethod d.1, Cond.selects d.1.cls d.1 d.1]
    | 1 => [Cond.methodLink own q.1 d.1, Cond.static d.1]
    | 2 => [Cond.methodLink own q.1 d.1, Cond.instanceMethod d.1]
    | 3 => [Cond.instanceMethod d.1]
    | 5 => [Cond.methodLink own q.1 d.1, Cond.static d.1]
    | 6 => [Cond.static d.1]
    | _ => [])
  | none => []
noncomputable def rqT (own : String) (xn : List String) (q : Nat × Nat × Nat × Nat) : List Cond := match xn[q.2.1]? with
  | some X => Cond.classLink own q.2.2.1 X :: Cond.initialized X :: (vx_at0 own q.2.2.2 X aChain).filter goodWord
  | none => []
noncomputable def rqH (own : String) (xn : List String) (q : Nat × Nat × Nat × Nat × Nat) : List Cond := match xn[q.2.2.2.2]? with
  | some nm => [Cond.classLink own q.2.2.2.1 nm]
  | none => []
noncomputable def rqM (cl : List vw_C) (mth : List aMd) (xn : List String) (own : String) (Bd : aBd) : List Cond :=
  Bd.2.2.1.1.flatMap (rqF cl own) ++ (Bd.2.2.1.2.2.1.flatMap (rqC cl own) ++ (Bd.2.2.1.2.2.2.1.flatMap (rqA cl own) ++ (Bd.2.2.1.2.2.2.2.2.2.1.map (fun q => Cond.constant own q.1 (Int32.ofInt q.2)) ++
  (Bd.2.2.1.2.2.2.2.2.2.2.1.map (fun q => Cond.constantLong own q.1 (Int64.ofInt q.2)) ++ (Bd.2.2.2.1.flatMap (rqV own mth) ++ (Bd.2.2.2.2.1.flatMap (rqT own xn) ++ Bd.2.2.2.2.2.1.flatMap (rqH own xn)))))))
/-- the rest that a program decides -/
noncomputable def okF (cl : List vw_C) (own : String) (q : Nat × Nat × Nat × Nat) : Bool := match cl[q.2.1]? with
  | some r => Nat.blt q.2.2.1 r.2.2 && (!(Nat.beq q.2.2.2 0) || !(r.2.1 q.2.2.1).2.2.2) && (!(Nat.beq q.2.2.2 1) || ((r.2.1 q.2.2.1).2.2.2 && decide ((r.2.1 q.2.2.1).1 = own)))
  | none => false
noncomputable def okC (cl : List vw_C) (q : Nat × Nat × Nat) : Bool := match cl[q.2.1]? with
  | some r => Nat.beq r.2.2 q.2.2
  | none => false
noncomputable def okA (cl : List vw_C) (tA : List (Nat × FieldType)) (ao : List String) (q : Nat × Nat) : Bool := match cl[q.2 - 2000]? with
  | some r => decide ((q.2, FieldType.object r.1) ∈ tA) && decide (r.1 ∈ ao)
  | none => false
noncomputable def okV (cl : List vw_C) (own : String) (nw : List Cond) (mth : List aMd) (mx : List Nat) (q : aIv) : Bool :=
  Nat.beq q.2.1 4 || (match mth[q.2.2.2.2.1]? with
  | some d => Nat.beq (mx.getD q.2.2.2.2.1 0) d.2.2.1 && (match q.2.1 with
    | 0 => d.2.2.2.2.isEmpty && (match cl[q.2.2.2.1]? with | some r => decide (r.1 = d.1.cls) | none => false) && Nat.blt 0 q.2.2.1 && decide (xNm d.1 (q.2.2.1 - 1))
    | 1 => d.2.2.2.2.isEmpty && decide (xNm d.1 q.2.2.1)
    | 2 => d.2.2.2.2.isEmpty && decide (d.1.name = "<init>") && decide (d.2.2.2.1 = none) && Nat.blt 0 q.2.2.1 && decide (xNm d.1 (q.2.2.1 - 1))
    | 3 => d.2.2.2.2.isEmpty && decide (d.1.name = "<init>") && decide (d.2.2.2.1 = none) && Nat.blt 0 q.2.2.1 && decide (xNm d.1 (q.2.2.1 - 1)) && nw.any (fun w => match w with
      | .methodLinkNest o i y _ => decide (o = own) && Nat.beq i q.1 && decide (y = d.1)
      | _ => false)
    | 5 => !d.2.2.2.2.isEmpty && decide (xNm d.1 q.2.2.1)
    | 6 => d.2.2.2.2.isEmpty && decide (xNm d.1 q.2.2.1) && nw.any (fun w => match w with
      | .methodLinkNest o i y _ => decide (o = own) && Nat.beq i q.1 && decide (y = d.1)
      | _ => false)
    | _ => false)
  | none => false)
noncomputable def okT (own : String) (xn : List String) (nw : List Cond) (q : Nat × Nat × Nat × Nat) : Bool := match xn[q.2.1]? with
  | some X => Bundle.fit X && (vx_at0 own q.2.2.2 X aChain).all (fun w => goodWord w || decide (w ∈ nw)) && (Cond.classLink own q.2.2.1 X :: Cond.initialized X :: vx_at0 own q.2.2.2 X aChain).all vx_ot
  | none => false
noncomputable def okH (xn : List String) (nw : List Cond) (nc : List (String × String)) (q : Nat × Nat × Nat × Nat × Nat) : Bool := !(Nat.beq q.2.2.2.1 0) && (match xn[q.2.2.2.2]? with
  | some nm => decide (Cond.castable nm nm ∈ nw) && (List.range xn.length).all (fun x => Nat.beq x q.2.2.2.2 || (match xn[x]? with | some X => decide ((X, nm) ∈ nc) | none => true))
  | none => false)
noncomputable def okR (rtc : Nat) (ret : Option FieldType) : Bool := if rtc = 5 then ret.isNone else (match ret with | some ty => Nat.beq (tcOf ty) rtc | none => false)
noncomputable def okM (cl : List vw_C) (tA : List (Nat × FieldType)) (ao : List String) (nw : List Cond) (nc : List (String × String)) (mth : List aMd) (mx : List Nat) (xn : List String) (d : aMd) (Bd : aBd) : Bool :=
  Nat.beq Bd.1 d.2.2.1 && (Bd.2.2.1.1.all (okF cl d.1.cls) && (Bd.2.2.1.2.2.1.all (okC cl) && (Bd.2.2.1.2.2.2.1.all (okA cl tA ao) && (Bd.2.2.1.2.2.2.2.2.2.1.all (fun q => decide ((Int32.ofInt q.2).toInt = q.2)) &&
  (Bd.2.2.1.2.2.2.2.2.2.2.1.all (fun q => decide ((Int64.ofInt q.2).toInt = q.2)) && ((!Bd.2.2.1.2.2.2.2.2.2.2.2 || decide (d.1.name = "<init>")) && (Bd.2.2.2.1.all (okV cl d.1.cls nw mth mx) && (Bd.2.2.2.2.1.all (okT d.1.cls xn nw) &&
  (Bd.2.2.2.2.2.1.all (okH xn nw nc) && (decide (d.2.2.2.2 = Bd.2.2.2.2.2.1.map (fun q => (q.1, q.2.1, q.2.2.1, q.2.2.2.1))) && (okR Bd.2.2.2.2.2.2 d.2.2.2.1 && (plainFor d.1 && decide (Bd.2.2.1.2.1 = uTc)))))))))))))
theorem okR_ok {rtc : Nat} {ret : Option FieldType} (h : okR rtc ret = true) : aRc rtc ret := by
  unfold okR at h
  refine ⟨fun h5 => ?_, fun h5 => ?_⟩
  · rw [if_pos h5] at h
    simpa using h
  · rw [if_neg (by omega)] at h
    split at h
    · rename_i ty
      exact ⟨ty, rfl, by rw [← Nat.eq_of_beq_eq_true h]; exact tcOf_ok ty⟩
    · cases h
section XG
variable {cl : List vw_C} {tA : List (Nat × FieldType)} {ao : List String} {nw : List Cond} {nc : List (String × String)} {mth : List aMd} {mx : List Nat} {xn : List String} {d : aMd} {Bd : aBd} {W : List Cond} {own : String}
theorem okF_ok {q : Nat × Nat × Nat × Nat} (hW : ∀ w ∈ rqF cl own q, w ∈ W) (h : okF cl own q = true) : ∃ r, cl[q.2.1]? = some r ∧ q.2.2.1 < r.2.2 ∧ Cond.fieldLink own q.1 (r.2.1 q.2.2.1).1 (r.2.1 q.2.2.1).2.1 (r.2.1 q.2.2.1).2.2.1 ∈ W ∧ (q.2.2.2 = 0 → (r.2.1 q.2.2.1).2.2.2 = false) ∧ (q.2.2.2 = 1 → (r.2.1 q.2.2.1).2.2.2 = true ∧ (r.2.1 q.2.2.1).1 = own) := by
  unfold okF at h
  unfold rqF at hW
  split at h
  · rename_i r hr
    rw [hr] at hW
    simp only [Bool.and_eq_true, Bool.or_eq_true, Bool.not_eq_true', decide_eq_true_eq] at h
    refine ⟨r, hr, (Nat.blt_eq).mp h.1.1, hW _ (List.mem_singleton.mpr rfl), fun e => ?_, fun e => ?_⟩
    · rcases h.1.2 with g | g
      · rw [e] at g; cases g
      · exact g
    · rcases h.2 with g | g
      · rw [e] at g; cases g
      · exact g
  · cases h
theorem okC_ok {q : Nat × Nat × Nat} (hW : ∀ w ∈ rqC cl own q, w ∈ W) (h : okC cl q = true) : ∃ r, cl[q.2.1]? = some r ∧ r.2.2 = q.2.2 ∧ Cond.classLink own q.1 r.1 ∈ W ∧ Cond.instantiable r.1 r.2.2 ∈ W ∧ Cond.initialized r.1 ∈ W := by
  unfold okC at h
  unfold rqC at hW
  split at h
  · rename_i r hr
    rw [hr] at hW
    exact ⟨r, hr, Nat.eq_of_beq_eq_true h, hW _ (by simp), hW _ (by simp), hW _ (by simp)⟩
  · cases h
theorem okA_ok {q : Nat × Nat} (hW : ∀ w ∈ rqA cl own q, w ∈ W) (h : okA cl tA ao q = true) : ∃ E, (q.2, FieldType.object E) ∈ tA ∧ Cond.classLink own q.1 E ∈ W ∧ E ∈ ao := by
  unfold okA at h
  unfold rqA at hW
  split at h
  · rename_i r hr
    rw [hr] at hW
    simp only [Bool.and_eq_true, decide_eq_true_eq] at h
    exact ⟨r.1, h.1, hW _ (by simp), h.2⟩
  · cases h
theorem okV_ok {q : aIv} (hall : W.all goodWord = true) (hW : ∀ w ∈ rqV own mth q, w ∈ W) (h : okV cl own nw mth mx q = true) : aIg own W cl nw W mth mx q := by
  unfold okV at h
  unfold rqV at hW
  unfold aIg
  split
  · rename_i h4
    rw [if_pos h4] at hW
    exact ⟨hW _ (by simp), hW _ (by simp), hW _ (by simp)⟩
  · rename_i h4
    rw [if_neg h4] at hW
    simp only [Bool.or_eq_true] at h
    rcases h with h | h
    · exact absurd (Nat.eq_of_beq_eq_true h) h4
    split at h
    · rename_i dd hd
      rw [hd] at hW
      simp only [Bool.and_eq_true] at h
      have m1 : aCw dd ∈ W := hW _ (by simp)
      have m2 : Cond.initialized dd.1.cls ∈ W := hW _ (by simp)
      have hg : GoodIn W (aCw dd :: W) := fun w hw => by
        have hm : w ∈ W := by
          rcases List.mem_cons.mp hw with rfl | hw
          · exact m1
          · exact hw
        exact ⟨hm, good_of_word (List.all_eq_true.mp hall w hm)⟩
      refine ⟨dd, hd, Nat.eq_of_beq_eq_true h.1, hg, m2, ?_⟩
      have h2 := h.2
      have hW2 : ∀ w ∈ (match q.2.1 with
        | 0 => [Cond.methodLink own q.1 dd.1, Cond.instanceMethod dd.1, Cond.selects dd.1.cls dd.1 dd.1]
        | 1 => [Cond.methodLink own q.1 dd.1, Cond.static dd.1]
        | 2 => [Cond.methodLink own q.1 dd.1, Cond.instanceMethod dd.1]
        | 3 => [Cond.instanceMethod dd.1]
        | 5 => [Cond.methodLink own q.1 dd.1, Cond.static dd.1]
        | 6 => [Cond.static dd.1]
        | _ => []), w ∈ W := fun w hw => hW w (List.mem_cons_of_mem _ (List.mem_cons_of_mem _ hw))
      split at h2
      · rename_i e
        rw [e] at hW2 ⊢
        simp only [Bool.and_eq_true, decide_eq_true_eq, List.isEmpty_iff] at h2
        obtain ⟨⟨⟨g1, g2⟩, g3⟩, g4⟩ := h2
        refine ⟨g1, hW2 _ (by simp), hW2 _ (by simp), hW2 _ (by simp), ?_, (Nat.blt_eq).mp g3, g4⟩
        split at g2
        · rename_i r hr
          exact ⟨r, hr, of_decide_eq_true g2⟩
        · cases g2
      · rename_i e
        rw [e] at hW2 ⊢
        simp only [Bool.and_eq_true, decide_eq_true_eq, List.isEmpty_iff] at h2
        exact ⟨h2.1, hW2 _ (by simp), hW2 _ (by simp), h2.2⟩
      · rename_i e
        rw [e] at hW2 ⊢
        simp only [Bool.and_eq_true, decide_eq_true_eq, List.isEmpty_iff] at h2
        obtain ⟨⟨⟨⟨g1, g2⟩, g3⟩, g4⟩, g5⟩ := h2
        exact ⟨g1, hW2 _ (by simp), hW2 _ (by simp), g2, g3, (Nat.blt_eq).mp g4, g5⟩
      · rename_i e
        rw [e] at hW2 ⊢
        simp only [Bool.and_eq_true, decide_eq_true_eq, List.isEmpty_iff] at h2
        obtain ⟨⟨⟨⟨⟨g1, g2⟩, g3⟩, g4⟩, g5⟩, g6⟩ := h2
        refine ⟨g1, ?_, hW2 _ (by simp), g2, g3, (Nat.blt_eq).mp g4, g5⟩
        obtain ⟨w, hw, hw2⟩ := List.any_eq_true.mp g6
        split at hw2
        · rename_i o i y host
          simp only [Bool.and_eq_true, decide_eq_true_eq] at hw2
          obtain ⟨⟨rfl, k2⟩, rfl⟩ := hw2
          rw [Nat.eq_of_beq_eq_true k2] at hw
          exact ⟨host, hw⟩
        · cases hw2
      · rename_i e
        rw [e] at hW2 ⊢
        simp only [Bool.and_eq_true, decide_eq_true_eq, Bool.not_eq_true'] at h2
        exact ⟨(fun e9 => by rw [e9] at h2; exact absurd h2.1 (by simp)), hW2 _ (by simp), hW2 _ (by simp), h2.2⟩
      · rename_i e
        rw [e] at hW2 ⊢
        simp only [Bool.and_eq_true, decide_eq_true_eq, List.isEmpty_iff] at h2
        obtain ⟨⟨g1, g5⟩, g6⟩ := h2
        refine ⟨g1, ?_, hW2 _ (by simp), g5⟩
        obtain ⟨w, hw, hw2⟩ := List.any_eq_true.mp g6
        split at hw2
        · rename_i o i y host
          simp only [Bool.and_eq_true, decide_eq_true_eq] at hw2
          obtain ⟨⟨rfl, k2⟩, rfl⟩ := hw2
          rw [Nat.eq_of_beq_eq_true k2] at hw
          exact ⟨host, hw⟩
        · cases hw2
      · cases h2
    · cases h
theorem okT_ok {q : Nat × Nat × Nat × Nat} (hW : ∀ w ∈ rqT own xn q, w ∈ W) (h : okT own xn nw q = true) : ∃ X, xn[q.2.1]? = some X ∧ Bundle.fit X = true ∧ Cond.classLink own q.2.2.1 X ∈ W ∧ Cond.initialized X ∈ W ∧ (∀ w ∈ vx_at0 own q.2.2.2 X aChain, w ∈ W ∨ w ∈ nw) ∧ ∀ w ∈ Cond.classLink own q.2.2.1 X :: Cond.initialized X :: vx_at0 own q.2.2.2 X aChain, vx_ot w = true := by
  unfold okT at h
  unfold rqT at hW
  split at h
  · rename_i X hX
    rw [hX] at hW
    simp only [Bool.and_eq_true] at h
    refine ⟨X, hX, h.1.1, hW _ (by simp), hW _ (by simp), fun w hw => ?_, List.all_eq_true.mp h.2⟩
    have := List.all_eq_true.mp h.1.2 w hw
    simp only [Bool.or_eq_true, decide_eq_true_eq] at this
    rcases this with g | g
    · exact Or.inl (hW _ (List.mem_cons_of_mem _ (List.mem_cons_of_mem _ (List.mem_filter.mpr ⟨hw, g⟩))))
    · exact Or.inr g
  · cases h
theorem okH_ok {q : Nat × Nat × Nat × Nat × Nat} (hW : ∀ w ∈ rqH own xn q, w ∈ W) (h : okH xn nw nc q = true) : q.2.2.2.1 ≠ 0 ∧ ∃ nm, xn[q.2.2.2.2]? = some nm ∧ Cond.classLink own q.2.2.2.1 nm ∈ W ∧ Cond.castable nm nm ∈ nw ∧ ∀ (x : Nat) (X : String), xn[x]? = some X → x ≠ q.2.2.2.2 → (X, nm) ∈ nc := by
  unfold okH at h
  unfold rqH at hW
  simp only [Bool.and_eq_true, Bool.not_eq_true'] at h
  obtain ⟨h1, h2⟩ := h
  refine ⟨(fun e => by rw [e] at h1; exact absurd h1 (by simp)), ?_⟩
  split at h2
  · rename_i nm hnm
    rw [hnm] at hW
    simp only [Bool.and_eq_true, decide_eq_true_eq] at h2
    refine ⟨nm, hnm, hW _ (by simp), h2.1, fun x X hx hne => ?_⟩
    have := List.all_eq_true.mp h2.2 x (List.mem_range.mpr (List.getElem?_eq_some_iff.mp hx).1)
    rw [hx] at this
    simp only [Bool.or_eq_true, decide_eq_true_eq] at this
    rcases this with g | g
    · exact absurd (Nat.eq_of_beq_eq_true g) hne
    · exact g
  · cases h2
noncomputable def aTAok (cl : List vw_C) (tA : List (Nat × FieldType)) (W : List Cond) : Prop := tA.take 4 = [(1000, .int), (1001, .long), (1002, .byte), (1003, .boolean)] ∧ Cond.arrayClass .int ∈ W ∧ Cond.arrayClass .long ∈ W ∧ Cond.arrayClass .byte ∈ W ∧ Cond.arrayClass .boolean ∈ W ∧ ∀ t ty, (t, ty) ∈ tA → 2000 ≤ t → ∃ r, cl[t - 2000]? = some r ∧ ty = .object r.1
theorem aSg_of {kd : List aKd} (hall : W.all goodWord = true) (hA : aTAok cl tA W) (hKt : aKt kd tA) (hW : ∀ w ∈ rqM cl mth xn d.1.cls Bd, w ∈ W) (h : okM cl tA ao nw nc mth mx xn d Bd = true) (hdec : ∀ q ∈ Bd.2.1, decode d.2.1 q.1 = .ok (q.2.1, q.2.2)) :
    aSg cl tA tTy kd nw nc ao W mth mx xn d Bd ∧ plainFor d.1 = true := by
  unfold okM at h
  simp only [Bool.and_eq_true, List.all_eq_true, decide_eq_true_eq] at h
  obtain ⟨h1, h2, h3, h4, h5, h6, h7, h8, h9, h10, h11, h12, h13, h14⟩ := h
  unfold rqM at hW
  simp only [List.mem_append, List.mem_flatMap, List.mem_map] at hW
  refine ⟨⟨Nat.eq_of_beq_eq_true h1, hdec, ⟨fun q hq => okF_ok (fun w hw => hW w (Or.inl ⟨q, hq, hw⟩)) (h2 q hq), fun ci f => by rw [h14]; exact tTy_ok ci f, fun q hq => okC_ok (fun w hw => hW w (Or.inr (Or.inl ⟨q, hq, hw⟩))) (h3 q hq),
    fun q hq => okA_ok (fun w hw => hW w (Or.inr (Or.inr (Or.inl ⟨q, hq, hw⟩)))) (h4 q hq), hA, fun q hq => ⟨_, hW _ (Or.inr (Or.inr (Or.inr (Or.inl ⟨q, hq, rfl⟩)))), h5 q hq⟩, fun q hq => ⟨_, hW _ (Or.inr (Or.inr (Or.inr (Or.inr (Or.inl ⟨q, hq, rfl⟩))))), h6 q hq⟩, fun e => ?_⟩,
    hKt, fun q hq => okV_ok hall (fun w hw => hW w (Or.inr (Or.inr (Or.inr (Or.inr (Or.inr (Or.inl ⟨q, hq, hw⟩))))))) (h8 q hq), fun q hq => okT_ok (fun w hw => hW w (Or.inr (Or.inr (Or.inr (Or.inr (Or.inr (Or.inr (Or.inl ⟨q, hq, hw⟩)))))))) (h9 q hq),
    ⟨h11, fun q hq => okH_ok (fun w hw => hW w (Or.inr (Or.inr (Or.inr (Or.inr (Or.inr (Or.inr (Or.inr ⟨q, hq, hw⟩)))))))) (h10 q hq)⟩, okR_ok h12⟩, h13⟩
  rw [e] at h7
  simpa using h7
end XG
/-- words of the tables by their places: a part of the list, a place in it -/
noncomputable def tCh (c : Nat) : List Cond := match c with
  | 0 => k2_sels lw_privs
  | 1 => tables_1_1
  | 2 => tables_1_2
  | 3 => tables_1_3
  | 4 => tables_1_4
  | 5 => tables_1_5
  | 6 => tables_1_6
  | 7 => tables_1_7
  | _ => tables_1_8
theorem tCh_in {c : Nat} {w : Cond} (h : w ∈ tCh c) : w ∈ lw_tbl := by
  have h2 : w ∈ k2_sels lw_privs ∨ w ∈ tables_1_1 ∨ w ∈ tables_1_2 ∨ w ∈ tables_1_3 ∨ w ∈ tables_1_4 ∨ w ∈ tables_1_5 ∨ w ∈ tables_1_6 ∨ w ∈ tables_1_7 ∨ w ∈ tables_1_8 := by
    unfold tCh at h
    split at h <;> simp [h]
  unfold lw_tbl tables_1
  simpa only [List.mem_append] using h2
noncomputable def inAt : List Cond → List (Nat × Nat) → Bool
  | [], _ => true
  | w :: ws, i :: is => decide ((tCh i.1)[i.2]? = some w) && (goodWord w && inAt ws is)
  | _ :: _, [] => false
theorem inAt_ok : ∀ {ws : List Cond} {is : List (Nat × Nat)}, inAt ws is = true → ∀ w ∈ ws, w ∈ tW0
  | [], _, _, w, hw => by cases hw
  | _ :: _, [], h, _, _ => by cases h
  | v :: ws, i :: is, h, w, hw => by
    simp only [inAt, Bool.and_eq_true, decide_eq_true_eq] at h
    rcases List.mem_cons.mp hw with rfl | hw
    · exact List.mem_filter.mpr ⟨tCh_in (List.mem_of_getElem? h.1), h.2.1⟩
    · exact inAt_ok h.2.2 w hw
noncomputable def inRaw : List Cond → List (Nat × Nat) → Bool
  | [], _ => true
  | w :: ws, i :: is => decide ((tCh i.1)[i.2]? = some w) && inRaw ws is
  | _ :: _, [] => false
theorem inRaw_ok : ∀ {ws : List Cond} {is : List (Nat × Nat)}, inRaw ws is = true → ∀ w ∈ ws, w ∈ lw_tbl
  | [], _, _, w, hw => by cases hw
  | _ :: _, [], h, _, _ => by cases h
  | v :: ws, i :: is, h, w, hw => by
    simp only [inRaw, Bool.and_eq_true, decide_eq_true_eq] at h
    rcases List.mem_cons.mp hw with rfl | hw
    · exact tCh_in (List.mem_of_getElem? h.1)
    · exact inRaw_ok h.2 w hw

