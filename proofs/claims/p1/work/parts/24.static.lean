/-! ===== what the tables of the methods rest on: words of the class files ===== -/
def tXn : List String := ["java/lang/IndexOutOfBoundsException", "java/lang/IllegalArgumentException", "java/lang/UnsupportedOperationException", "java/lang/ArithmeticException", "java/lang/IllegalStateException"]
def tTA : List (Nat × FieldType) := [(1000, .int), (1001, .long), (1002, .byte), (1003, .boolean), (2004, .object "RoundReckoner$Goal"), (2009, .object "RoundReckoner$Rule")]
def tTyl : List (List FieldType) := [[.array (.long), .int, .int], [.int, .array (.int), .array (.int), .array (.int)], [.array (.long), .array (.int), .array (.int), .array (.int), .array (.long), .array (.object "RoundReckoner$Rule"), .object "RoundReckoner$Rule", .int, .int, .int, .int, .int, .int, .int], [.int, .object "RoundReckoner$Clauses", .object "RoundReckoner$Tuples", .object "RoundReckoner$Rows", .array (.long), .array (.int), .object "RoundReckoner$Answers", .object "RoundReckoner$Rule", .int, .int, .int, .int, .int, .int], [.array (.int), .array (.int), .array (.int), .array (.long), .int, .int, .long, .int, .int, .int, .int, .int, .int, .int, .int, .int], [.array (.long), .int], [.array (.byte), .int], [.object "RoundReckoner$Clauses", .object "RoundReckoner$Names", .array (.byte), .int, .int, .int, .int, .int, .long, .int, .long, .array (.long), .array (.int), .int, .array (.int), .array (.int), .int], [.array (.long), .array (.int), .array (.boolean), .int, .object "RoundReckoner$Chains"], [.object "RoundReckoner$Goal", .array (.object "RoundReckoner$Goal"), .int, .int], [.array (.long), .array (.int), .array (.int), .array (.int), .array (.int), .array (.int), .array (.long), .int, .object "RoundReckoner$Chains", .object "RoundReckoner$Chains", .object "RoundReckoner$Chains"], [.object "RoundReckoner$Clauses", .object "RoundReckoner$Reader", .object "RoundReckoner$Tuples", .object "RoundReckoner$Engine", .object "RoundReckoner$Out", .object "RoundReckoner$Answers", .object "RoundReckoner$Answers", .boolean, .int, .int], [.int, .array (.byte), .array (.byte), .int, .int, .array (.byte), .array (.int), .array (.int), .int, .int, .array (.byte), .array (.int), .array (.int), .int, .int, .array (.int), .array (.long), .int, .int, .array (.int), .array (.int), .array (.int), .array (.int), .array (.int), .array (.int), .array (.int), .array (.long), .array (.int), .array (.int), .array (.int), .array (.int), .array (.long), .int, .int, .int, .int, .int, .int, .int, .long, .int, .array (.int), .array (.int), .array (.int), .int, .int, .int, .int, .int, .int, .int, .array (.int), .array (.int), .array (.long), .array (.int), .array (.int), .array (.int), .array (.boolean), .int, .boolean, .array (.int), .int, .array (.int), .array (.int), .array (.int), .array (.int), .array (.int), .array (.int), .array (.long), .array (.int), .array (.int), .int, .int, .int, .int, .int, .int, .int, .array (.long), .array (.long), .array (.int), .int, .int, .int, .boolean, .array (.long), .array (.int), .array (.int), .array (.long), .array (.boolean), .int, .array (.long), .array (.long), .int, .int, .int]]
def tTy (ci f : Nat) : FieldType := (tTyl.getD ci []).getD f .int
def tAo : List String := ["RoundReckoner$Goal", "RoundReckoner$Rule"]
def tNw : List Cond := [(Cond.methodLinkNest "RoundReckoner$Rule" (11 : Nat) ({ cls := "RoundReckoner$Goal", name := "<init>", desc := "()V" } : MethodName) "RoundReckoner"), (Cond.methodLinkNest "RoundReckoner$Reader" (11 : Nat) ({ cls := "RoundReckoner$Names", name := "<init>", desc := "()V" } : MethodName) "RoundReckoner"), (Cond.methodLinkNest "RoundReckoner" (27 : Nat) ({ cls := "RoundReckoner$Tuples", name := "<init>", desc := "()V" } : MethodName) "RoundReckoner"), (Cond.methodLinkNest "RoundReckoner$Engine" (11 : Nat) ({ cls := "RoundReckoner$Rows", name := "<init>", desc := "()V" } : MethodName) "RoundReckoner"), (Cond.methodLinkNest "RoundReckoner$Engine" (28 : Nat) ({ cls := "RoundReckoner$Answers", name := "<init>", desc := "()V" } : MethodName) "RoundReckoner"), (Cond.methodLinkNest "RoundReckoner" (43 : Nat) ({ cls := "RoundReckoner$Out", name := "<init>", desc := "()V" } : MethodName) "RoundReckoner"), (Cond.methodLinkNest "RoundReckoner" (50 : Nat) ({ cls := "RoundReckoner$Answers", name := "<init>", desc := "()V" } : MethodName) "RoundReckoner"), (Cond.castable "java/lang/IndexOutOfBoundsException" "java/lang/IndexOutOfBoundsException"), (Cond.declares ({ cls := "java/lang/RuntimeException", name := "<init>", desc := "()V" } : MethodName)), (Cond.declares ({ cls := "java/lang/RuntimeException", name := "<init>", desc := "(Ljava/lang/String;)V" } : MethodName)), (Cond.declares ({ cls := "java/lang/Exception", name := "<init>", desc := "()V" } : MethodName)), (Cond.declares ({ cls := "java/lang/Exception", name := "<init>", desc := "(Ljava/lang/String;)V" } : MethodName)), (Cond.declares ({ cls := "java/lang/Throwable", name := "<init>", desc := "()V" } : MethodName)), (Cond.declares ({ cls := "java/lang/Throwable", name := "<init>", desc := "(Ljava/lang/String;)V" } : MethodName)), (Cond.castable "java/lang/IllegalArgumentException" "java/lang/IllegalArgumentException"), (Cond.castable "java/lang/UnsupportedOperationException" "java/lang/UnsupportedOperationException"), (Cond.methodLinkNest "RoundReckoner$Rows" (67 : Nat) ({ cls := "RoundReckoner", name := "isNumber", desc := "(J)Z" } : MethodName) "RoundReckoner"), (Cond.castable "java/lang/ArithmeticException" "java/lang/ArithmeticException"), (Cond.methodLinkNest "RoundReckoner$Engine" (248 : Nat) ({ cls := "RoundReckoner", name := "isNumber", desc := "(J)Z" } : MethodName) "RoundReckoner"), (Cond.castable "java/lang/IllegalStateException" "java/lang/IllegalStateException")]
def tNc : List (String × String) := [("java/lang/IllegalArgumentException", "java/lang/IndexOutOfBoundsException"), ("java/lang/UnsupportedOperationException", "java/lang/IndexOutOfBoundsException"), ("java/lang/ArithmeticException", "java/lang/IndexOutOfBoundsException"), ("java/lang/IllegalStateException", "java/lang/IndexOutOfBoundsException"), ("java/lang/IndexOutOfBoundsException", "java/lang/IllegalArgumentException"), ("java/lang/UnsupportedOperationException", "java/lang/IllegalArgumentException"), ("java/lang/ArithmeticException", "java/lang/IllegalArgumentException"), ("java/lang/IllegalStateException", "java/lang/IllegalArgumentException"), ("java/lang/IndexOutOfBoundsException", "java/lang/UnsupportedOperationException"), ("java/lang/IllegalArgumentException", "java/lang/UnsupportedOperationException"), ("java/lang/ArithmeticException", "java/lang/UnsupportedOperationException"), ("java/lang/IllegalStateException", "java/lang/UnsupportedOperationException"), ("java/lang/IndexOutOfBoundsException", "java/lang/ArithmeticException"), ("java/lang/IllegalArgumentException", "java/lang/ArithmeticException"), ("java/lang/UnsupportedOperationException", "java/lang/ArithmeticException"), ("java/lang/IllegalStateException", "java/lang/ArithmeticException"), ("java/lang/IndexOutOfBoundsException", "java/lang/IllegalStateException"), ("java/lang/IllegalArgumentException", "java/lang/IllegalStateException"), ("java/lang/UnsupportedOperationException", "java/lang/IllegalStateException"), ("java/lang/ArithmeticException", "java/lang/IllegalStateException")]
def tMth : List aMd := [(⟨"RoundReckoner", "<init>", "()V"⟩, prog_1_method_1_code, 1, (Option.none : Option FieldType), []),
  (⟨"RoundReckoner$Clauses", "<init>", "()V"⟩, prog_4_method_1_code, 2, (Option.none : Option FieldType), []),
  (⟨"RoundReckoner$Rule", "<init>", "()V"⟩, prog_11_method_1_code, 2, (Option.none : Option FieldType), []),
  (⟨"RoundReckoner$Goal", "<init>", "()V"⟩, prog_6_method_1_code, 1, (Option.none : Option FieldType), []),
  (⟨"RoundReckoner$Reader", "<init>", "(LRoundReckoner$Clauses;)V"⟩, prog_9_method_1_code, 2, (Option.none : Option FieldType), []),
  (⟨"RoundReckoner$Names", "<init>", "()V"⟩, prog_7_method_1_code, 1, (Option.none : Option FieldType), []),
  (⟨"RoundReckoner$Tuples", "<init>", "()V"⟩, prog_12_method_1_code, 1, (Option.none : Option FieldType), []),
  (⟨"RoundReckoner$Chains", "<init>", "(II)V"⟩, prog_3_method_1_code, 4, (Option.none : Option FieldType), []),
  (⟨"java/lang/Math", "min", "(II)I"⟩, prog_20_method_69_code, 2, (Option.some FieldType.int), []),
  (⟨"java/lang/Math", "max", "(II)I"⟩, prog_20_method_65_code, 2, (Option.some FieldType.int), []),
  (⟨"java/util/Arrays", "fill", "([II)V"⟩, prog_25_method_103_code, 4, (Option.none : Option FieldType), []),
  (⟨"RoundReckoner$Engine", "<init>", "(LRoundReckoner$Clauses;LRoundReckoner$Tuples;)V"⟩, prog_5_method_1_code, 3, (Option.none : Option FieldType), []),
  (⟨"RoundReckoner$Rows", "<init>", "()V"⟩, prog_10_method_1_code, 1, (Option.none : Option FieldType), []),
  (⟨"RoundReckoner$Answers", "<init>", "()V"⟩, prog_2_method_1_code, 1, (Option.none : Option FieldType), []),
  (⟨"RoundReckoner$Out", "<init>", "()V"⟩, prog_8_method_1_code, 1, (Option.none : Option FieldType), []),
  (⟨"RoundReckoner", "tell", "()I"⟩, prog_1_method_4_code, 4, (Option.some FieldType.int), []),
  (⟨"RoundReckoner$Clauses", "mark", "()V"⟩, prog_4_method_3_code, 1, (Option.none : Option FieldType), []),
  (⟨"RoundReckoner$Reader", "start", "(I)V"⟩, prog_9_method_4_code, 2, (Option.none : Option FieldType), []),
  (⟨"RoundReckoner$Reader", "startClause", "()V"⟩, prog_9_method_5_code, 1, (Option.none : Option FieldType), []),
  (⟨"RoundReckoner$Reader", "look", "()I"⟩, prog_9_method_7_code, 1, (Option.some FieldType.int), []),
  (⟨"RoundReckoner$Clauses", "rule", "(I)LRoundReckoner$Rule;"⟩, prog_4_method_2_code, 3, (Option.some (FieldType.object "RoundReckoner$Rule")), []),
  (⟨"RoundReckoner$Reader", "readHead", "(LRoundReckoner$Rule;)Z"⟩, prog_9_method_14_code, 2, (Option.some FieldType.boolean), []),
  (⟨"RoundReckoner$Reader", "isSmall", "(I)Z"⟩, prog_9_method_8_code, 1, (Option.some FieldType.boolean), []),
  (⟨"RoundReckoner$Reader", "fail", "(I)Z"⟩, prog_9_method_6_code, 2, (Option.some FieldType.boolean), []),
  (⟨"RoundReckoner$Reader", "empty", "()V"⟩, prog_9_method_3_code, 1, (Option.none : Option FieldType), []),
  (⟨"RoundReckoner$Clauses", "isChanged", "()Z"⟩, prog_4_method_5_code, 1, (Option.some FieldType.boolean), []),
  (⟨"RoundReckoner", "forget", "()V"⟩, prog_1_method_5_code, 1, (Option.none : Option FieldType), []),
  (⟨"RoundReckoner$Answers", "clear", "()V"⟩, prog_2_method_2_code, 1, (Option.none : Option FieldType), []),
  (⟨"RoundReckoner", "untell", "()I"⟩, prog_1_method_6_code, 4, (Option.some FieldType.int), []),
  (⟨"RoundReckonerLaw", "feed", "(LRoundReckoner;IIIII[J)I"⟩, method_3_code, 8, (Option.some FieldType.int), [(0, 16, 19, 13)]),
  (⟨"RoundReckoner", "feed", "(IIIII)I"⟩, prog_1_method_2_code, 6, (Option.some FieldType.int), []),
  (⟨"RoundReckoner$Reader", "take", "(I)V"⟩, prog_9_method_2_code, 3, (Option.none : Option FieldType), []),
  (⟨"RoundReckonerLaw", "end", "(LRoundReckoner;I[J)I"⟩, method_4_code, 4, (Option.some FieldType.int), [(0, 9, 12, 19)]),
  (⟨"RoundReckoner", "end", "(I)I"⟩, prog_1_method_3_code, 2, (Option.some FieldType.int), []),
  (⟨"RoundReckonerLaw", "drop", "(LRoundReckoner;I[J)I"⟩, method_5_code, 4, (Option.some FieldType.int), [(0, 9, 12, 13)]),
  (⟨"RoundReckoner", "drop", "(I)I"⟩, prog_1_method_7_code, 2, (Option.some FieldType.int), []),
  (⟨"RoundReckonerLaw", "run", "(LRoundReckoner;[J)I"⟩, method_6_code, 3, (Option.some FieldType.int), [(0, 8, 11, 28), (0, 8, 14, 30), (0, 8, 17, 13)]),
  (⟨"RoundReckoner", "run", "()I"⟩, prog_1_method_8_code, 3, (Option.some FieldType.int), []),
  (⟨"RoundReckoner$Clauses", "layOut", "()Z"⟩, prog_4_method_14_code, 6, (Option.some FieldType.boolean), []),
  (⟨"RoundReckoner$Engine", "clear", "()V"⟩, prog_5_method_2_code, 1, (Option.none : Option FieldType), []),
  (⟨"RoundReckoner$Tuples", "clear", "()V"⟩, prog_12_method_2_code, 1, (Option.none : Option FieldType), []),
  (⟨"RoundReckoner$Chains", "clear", "()V"⟩, prog_3_method_2_code, 1, (Option.none : Option FieldType), []),
  (⟨"RoundReckonerLaw", "tuple", "(LRoundReckoner;II[J)I"⟩, method_7_code, 5, (Option.some FieldType.int), [(0, 10, 13, 19), (0, 10, 17, 36), (0, 10, 21, 13)]),
  (⟨"RoundReckoner", "tuple", "(II)I"⟩, prog_1_method_9_code, 4, (Option.some FieldType.int), []),
  (⟨"RoundReckoner", "needTuple", "(I)V"⟩, prog_1_method_11_code, 2, (Option.none : Option FieldType), []),
  (⟨"RoundReckoner", "needRun", "()V"⟩, prog_1_method_10_code, 1, (Option.none : Option FieldType), []),
  (⟨"RoundReckonerLaw", "why", "(LRoundReckoner;II[J)I"⟩, method_8_code, 5, (Option.some FieldType.int), [(0, 10, 13, 36), (0, 10, 17, 13)]),
  (⟨"RoundReckoner", "why", "(II)I"⟩, prog_1_method_14_code, 3, (Option.some FieldType.int), []),
  (⟨"RoundReckonerLaw", "show", "(LRoundReckoner;I[J)I"⟩, method_9_code, 4, (Option.some FieldType.int), [(0, 9, 12, 36), (0, 9, 15, 13)]),
  (⟨"RoundReckoner", "show", "(I)I"⟩, prog_1_method_15_code, 6, (Option.some FieldType.int), []),
  (⟨"RoundReckonerLaw", "find", "(LRoundReckoner;[J)I"⟩, method_10_code, 3, (Option.some FieldType.int), [(0, 8, 11, 36)]),
  (⟨"RoundReckoner", "find", "()I"⟩, prog_1_method_16_code, 4, (Option.some FieldType.int), []),
  (⟨"RoundReckonerLaw", "ask", "(LRoundReckoner;[J)I"⟩, method_11_code, 3, (Option.some FieldType.int), [(0, 8, 11, 36), (0, 8, 14, 30)]),
  (⟨"RoundReckoner", "ask", "()I"⟩, prog_1_method_17_code, 4, (Option.some FieldType.int), []),
  (⟨"RoundReckonerLaw", "answer", "(LRoundReckoner;II[J)I"⟩, method_12_code, 5, (Option.some FieldType.int), [(0, 10, 13, 13)]),
  (⟨"RoundReckoner", "answer", "(II)I"⟩, prog_1_method_18_code, 3, (Option.some FieldType.int), []),
  (⟨"RoundReckonerLaw", "layer", "(LRoundReckoner;I[J)I"⟩, method_13_code, 4, (Option.some FieldType.int), [(0, 9, 12, 36), (0, 9, 15, 13)]),
  (⟨"RoundReckoner", "layer", "(I)I"⟩, prog_1_method_19_code, 2, (Option.some FieldType.int), []),
  (⟨"RoundReckonerLaw", "word", "(LRoundReckoner;I[J)I"⟩, method_14_code, 4, (Option.some FieldType.int), [(0, 8, 11, 13)]),
  (⟨"RoundReckoner", "word", "(I)J"⟩, prog_1_method_20_code, 5, (Option.some FieldType.long), []),
  (⟨"RoundReckonerLaw", "count", "(LRoundReckoner;I[J)I"⟩, method_15_code, 4, (Option.some FieldType.int), [(0, 9, 12, 19)]),
  (⟨"RoundReckoner", "count", "(I)I"⟩, prog_1_method_21_code, 2, (Option.some FieldType.int), []),
  (⟨"RoundReckonerModel", "thrown", "()I"⟩, prog_14_method_1_code, 1, (Option.some FieldType.int), []),
  (⟨"RoundReckonerModel", "<init>", "()V"⟩, prog_14_method_3_code, 1, (Option.none : Option FieldType), []),
  (⟨"RoundReckonerModel", "feed", "(IIIII)I"⟩, prog_14_method_4_code, 6, (Option.some FieldType.int), []),
  (⟨"RoundReckonerModel", "fails", "(I)Z"⟩, prog_14_method_2_code, 2, (Option.some FieldType.boolean), []),
  (⟨"RoundReckonerModel", "four", "(I)V"⟩, prog_14_method_5_code, 3, (Option.none : Option FieldType), []),
  (⟨"RoundReckonerModel", "end", "(I)I"⟩, prog_14_method_6_code, 2, (Option.some FieldType.int), []),
  (⟨"RoundReckonerModel", "tell", "()I"⟩, prog_14_method_43_code, 2, (Option.some FieldType.int), []),
  (⟨"RoundReckonerModel", "begin", "()V"⟩, prog_14_method_7_code, 1, (Option.none : Option FieldType), []),
  (⟨"RoundReckonerModel", "blanks", "()V"⟩, prog_14_method_9_code, 1, (Option.none : Option FieldType), []),
  (⟨"RoundReckonerModel", "byteAt", "(I)I"⟩, prog_14_method_8_code, 2, (Option.some FieldType.int), []),
  (⟨"RoundReckonerModel", "fresh", "(I)V"⟩, prog_14_method_36_code, 2, (Option.none : Option FieldType), []),
  (⟨"RoundReckonerModel", "head", "()Z"⟩, prog_14_method_26_code, 2, (Option.some FieldType.boolean), []),
  (⟨"RoundReckonerModel", "needName", "()Z"⟩, prog_14_method_24_code, 1, (Option.some FieldType.boolean), []),
  (⟨"RoundReckonerModel", "isSmall", "(I)Z"⟩, prog_14_method_11_code, 2, (Option.some FieldType.boolean), []),
  (⟨"RoundReckonerModel", "wrong", "(I)Z"⟩, prog_14_method_10_code, 2, (Option.some FieldType.boolean), []),
  (⟨"RoundReckonerModel", "untell", "()I"⟩, prog_14_method_45_code, 6, (Option.some FieldType.int), []),
  (⟨"RoundReckonerModel", "drop", "(I)I"⟩, prog_14_method_46_code, 3, (Option.some FieldType.int), []),
  (⟨"RoundReckonerModel", "run", "()I"⟩, prog_14_method_67_code, 2, (Option.some FieldType.int), []),
  (⟨"RoundReckonerModel", "layOut", "()Z"⟩, prog_14_method_48_code, 6, (Option.some FieldType.boolean), []),
  (⟨"RoundReckonerModel", "tuple", "(II)I"⟩, prog_14_method_70_code, 4, (Option.some FieldType.int), []),
  (⟨"RoundReckonerModel", "why", "(II)I"⟩, prog_14_method_71_code, 3, (Option.some FieldType.int), []),
  (⟨"RoundReckonerModel", "show", "(I)I"⟩, prog_14_method_74_code, 8, (Option.some FieldType.int), []),
  (⟨"RoundReckonerModel", "find", "()I"⟩, prog_14_method_75_code, 4, (Option.some FieldType.int), []),
  (⟨"RoundReckonerModel", "ask", "()I"⟩, prog_14_method_77_code, 3, (Option.some FieldType.int), []),
  (⟨"RoundReckonerModel", "answer", "(II)I"⟩, prog_14_method_78_code, 3, (Option.some FieldType.int), []),
  (⟨"RoundReckonerModel", "layer", "(I)I"⟩, prog_14_method_79_code, 2, (Option.some FieldType.int), []),
  (⟨"RoundReckonerModel", "word", "(I)J"⟩, prog_14_method_80_code, 5, (Option.some FieldType.long), []),
  (⟨"RoundReckonerModel", "count", "(I)I"⟩, prog_14_method_81_code, 2, (Option.some FieldType.int), [])]
def tW0 : List Cond := lw_tbl.filter goodWord
theorem tW0_all : tW0.all goodWord = true := List.all_eq_true.mpr fun _ hw => (List.mem_filter.mp hw).2
def tcOf : FieldType → Nat
  | .int => 0
  | .long => 1
  | .boolean => 2
  | .byte => 3
  | .object _ => 4
  | .array _ => 4
  | _ => 9
theorem tcOf_ok (ty : FieldType) : aTy (tcOf ty) ty := by
  unfold aTy
  cases ty <;> simp [tcOf]
theorem tTc_ok : tTc = tTyl.map (fun l => l.map tcOf) := by decide +kernel
theorem tTy_ok (ci f : Nat) : aTy (aTc tTc ci f) (tTy ci f) := by
  unfold aTc tTy
  rw [tTc_ok]
  simp only [List.getD_eq_getElem?_getD, List.getElem?_map]
  cases h : tTyl[ci]? with
  | none => simp [aTy]
  | some l =>
    simp only [Option.map_some, Option.getD_some, List.getElem?_map]
    cases h2 : l[f]? with
    | none => simp [aTy]
    | some ty => exact tcOf_ok ty
/-- the words that a method's tables ask for -/
def rqF (cl : List vw_C) (own : String) (q : Nat × Nat × Nat × Nat) : List Cond := match cl[q.2.1]? with
  | some r => [Cond.fieldLink own q.1 (r.2.1 q.2.2.1).1 (r.2.1 q.2.2.1).2.1 (r.2.1 q.2.2.1).2.2.1]
  | none => []
def rqC (cl : List vw_C) (own : String) (q : Nat × Nat × Nat) : List Cond := match cl[q.2.1]? with
  | some r => [Cond.classLink own q.1 r.1, Cond.instantiable r.1 r.2.2, Cond.initialized r.1]
  | none => []
def rqA (cl : List vw_C) (own : String) (q : Nat × Nat) : List Cond := match cl[q.2 - 2000]? with
  | some r => [Cond.classLink own q.1 r.1]
  | none => []
def rqV (own : String) (mth : List aMd) (q : aIv) : List Cond :=
  if q.2.1 = 4 then [Cond.methodLink own q.1 Lib.objectInit, Cond.instanceMethod Lib.objectInit, Cond.code Lib.objectInit ⟨#[0xb1]⟩ 1 none]
  else match mth[q.2.2.2.2.1]? with
  | some d => aCw d :: Cond.initialized d.1.cls :: (match q.2.1 with
    | 0 => [Cond.methodLink own q.1 d.1, Cond.instanceMethod d.1, Cond.selects d.1.cls d.1 d.1]
    | 1 => [Cond.methodLink own q.1 d.1, Cond.static d.1]
    | 2 => [Cond.methodLink own q.1 d.1, Cond.instanceMethod d.1]
    | 3 => [Cond.instanceMethod d.1]
    | 5 => [Cond.methodLink own q.1 d.1, Cond.static d.1]
    | _ => [])
  | none => []
def rqT (own : String) (xn : List String) (q : Nat × Nat × Nat × Nat) : List Cond := match xn[q.2.1]? with
  | some X => Cond.classLink own q.2.2.1 X :: Cond.initialized X :: (vx_at0 own q.2.2.2 X aChain).filter goodWord
  | none => []
def rqH (own : String) (xn : List String) (q : Nat × Nat × Nat × Nat × Nat) : List Cond := match xn[q.2.2.2.2]? with
  | some nm => [Cond.classLink own q.2.2.2.1 nm]
  | none => []
def rqM (cl : List vw_C) (mth : List aMd) (xn : List String) (own : String) (Bd : aBd) : List Cond :=
  Bd.2.2.1.1.flatMap (rqF cl own) ++ (Bd.2.2.1.2.2.1.flatMap (rqC cl own) ++ (Bd.2.2.1.2.2.2.1.flatMap (rqA cl own) ++ (Bd.2.2.1.2.2.2.2.2.2.1.map (fun q => Cond.constant own q.1 (Int32.ofInt q.2)) ++
  (Bd.2.2.1.2.2.2.2.2.2.2.1.map (fun q => Cond.constantLong own q.1 (Int64.ofInt q.2)) ++ (Bd.2.2.2.1.flatMap (rqV own mth) ++ (Bd.2.2.2.2.1.flatMap (rqT own xn) ++ Bd.2.2.2.2.2.1.flatMap (rqH own xn)))))))
/-- the rest that a program decides -/
def okF (cl : List vw_C) (own : String) (q : Nat × Nat × Nat × Nat) : Bool := match cl[q.2.1]? with
  | some r => Nat.blt q.2.2.1 r.2.2 && (!(Nat.beq q.2.2.2 0) || !(r.2.1 q.2.2.1).2.2.2) && (!(Nat.beq q.2.2.2 1) || ((r.2.1 q.2.2.1).2.2.2 && decide ((r.2.1 q.2.2.1).1 = own)))
  | none => false
def okC (cl : List vw_C) (q : Nat × Nat × Nat) : Bool := match cl[q.2.1]? with
  | some r => Nat.beq r.2.2 q.2.2
  | none => false
def okA (cl : List vw_C) (tA : List (Nat × FieldType)) (ao : List String) (q : Nat × Nat) : Bool := match cl[q.2 - 2000]? with
  | some r => decide ((q.2, FieldType.object r.1) ∈ tA) && decide (r.1 ∈ ao)
  | none => false
def okV (cl : List vw_C) (own : String) (nw : List Cond) (mth : List aMd) (mx : List Nat) (q : aIv) : Bool :=
  Nat.beq q.2.1 4 || (match mth[q.2.2.2.2.1]? with
  | some d => Nat.beq (mx.getD q.2.2.2.2.1 0) d.2.2.1 && (match q.2.1 with
    | 0 => d.2.2.2.2.isEmpty && (match cl[q.2.2.2.1]? with | some r => decide (r.1 = d.1.cls) | none => false) && Nat.blt 0 q.2.2.1 && decide (xNm d.1 (q.2.2.1 - 1))
    | 1 => d.2.2.2.2.isEmpty && decide (xNm d.1 q.2.2.1)
    | 2 => d.2.2.2.2.isEmpty && decide (d.1.name = "<init>") && decide (d.2.2.2.1 = none) && Nat.blt 0 q.2.2.1 && decide (xNm d.1 (q.2.2.1 - 1))
    | 3 => d.2.2.2.2.isEmpty && decide (d.1.name = "<init>") && decide (d.2.2.2.1 = none) && Nat.blt 0 q.2.2.1 && decide (xNm d.1 (q.2.2.1 - 1)) && nw.any (fun w => match w with
      | .methodLinkNest o i y _ => decide (o = own) && Nat.beq i q.1 && decide (y = d.1)
      | _ => false)
    | 5 => !d.2.2.2.2.isEmpty && decide (xNm d.1 q.2.2.1)
    | _ => false)
  | none => false)
def okT (own : String) (xn : List String) (nw : List Cond) (q : Nat × Nat × Nat × Nat) : Bool := match xn[q.2.1]? with
  | some X => Bundle.fit X && (vx_at0 own q.2.2.2 X aChain).all (fun w => goodWord w || decide (w ∈ nw)) && (Cond.classLink own q.2.2.1 X :: Cond.initialized X :: vx_at0 own q.2.2.2 X aChain).all vx_ot
  | none => false
def okH (xn : List String) (nw : List Cond) (nc : List (String × String)) (q : Nat × Nat × Nat × Nat × Nat) : Bool := !(Nat.beq q.2.2.2.1 0) && (match xn[q.2.2.2.2]? with
  | some nm => decide (Cond.castable nm nm ∈ nw) && (List.range xn.length).all (fun x => Nat.beq x q.2.2.2.2 || (match xn[x]? with | some X => decide ((X, nm) ∈ nc) | none => true))
  | none => false)
def okR (rtc : Nat) (ret : Option FieldType) : Bool := if rtc = 5 then ret.isNone else (match ret with | some ty => Nat.beq (tcOf ty) rtc | none => false)
def okM (cl : List vw_C) (tA : List (Nat × FieldType)) (ao : List String) (nw : List Cond) (nc : List (String × String)) (mth : List aMd) (mx : List Nat) (xn : List String) (d : aMd) (Bd : aBd) : Bool :=
  Nat.beq Bd.1 d.2.2.1 && (Bd.2.2.1.1.all (okF cl d.1.cls) && (Bd.2.2.1.2.2.1.all (okC cl) && (Bd.2.2.1.2.2.2.1.all (okA cl tA ao) && (Bd.2.2.1.2.2.2.2.2.2.1.all (fun q => decide ((Int32.ofInt q.2).toInt = q.2)) &&
  (Bd.2.2.1.2.2.2.2.2.2.2.1.all (fun q => decide ((Int64.ofInt q.2).toInt = q.2)) && ((!Bd.2.2.1.2.2.2.2.2.2.2.2 || decide (d.1.name = "<init>")) && (Bd.2.2.2.1.all (okV cl d.1.cls nw mth mx) && (Bd.2.2.2.2.1.all (okT d.1.cls xn nw) &&
  (Bd.2.2.2.2.2.1.all (okH xn nw nc) && (decide (d.2.2.2.2 = Bd.2.2.2.2.2.1.map (fun q => (q.1, q.2.1, q.2.2.1, q.2.2.2.1))) && (okR Bd.2.2.2.2.2.2 d.2.2.2.1 && (plainFor d.1 && decide (Bd.2.2.1.2.1 = tTc)))))))))))))
theorem okR_ok {rtc : Nat} {ret : Option FieldType} (h : okR rtc ret = true) : aRc rtc ret := by
  unfold okR at h
  refine ⟨fun h5 => ?_, fun h5 => ?_⟩
  · rw [if_pos h5] at h
    simpa using h
  · rw [if_neg (by omega)] at h
    split at h
    · rename_i ty
      exact ⟨ty, rfl, by rw [← Nat.eq_of_beq_eq_true h]; exact tcOf_ok ty⟩
    · cases h
section XG
variable {cl : List vw_C} {tA : List (Nat × FieldType)} {ao : List String} {nw : List Cond} {nc : List (String × String)} {mth : List aMd} {mx : List Nat} {xn : List String} {d : aMd} {Bd : aBd} {W : List Cond} {own : String}
theorem okF_ok {q : Nat × Nat × Nat × Nat} (hW : ∀ w ∈ rqF cl own q, w ∈ W) (h : okF cl own q = true) : ∃ r, cl[q.2.1]? = some r ∧ q.2.2.1 < r.2.2 ∧ Cond.fieldLink own q.1 (r.2.1 q.2.2.1).1 (r.2.1 q.2.2.1).2.1 (r.2.1 q.2.2.1).2.2.1 ∈ W ∧ (q.2.2.2 = 0 → (r.2.1 q.2.2.1).2.2.2 = false) ∧ (q.2.2.2 = 1 → (r.2.1 q.2.2.1).2.2.2 = true ∧ (r.2.1 q.2.2.1).1 = own) := by
  unfold okF at h
  unfold rqF at hW
  split at h
  · rename_i r hr
    rw [hr] at hW
    simp only [Bool.and_eq_true, Bool.or_eq_true, Bool.not_eq_true', decide_eq_true_eq] at h
    refine ⟨r, hr, (Nat.blt_eq).mp h.1.1, hW _ (List.mem_singleton.mpr rfl), fun e => ?_, fun e => ?_⟩
    · rcases h.1.2 with g | g
      · rw [e] at g; cases g
      · exact g
    · rcases h.2 with g | g
      · rw [e] at g; cases g
      · exact g
  · cases h
theorem okC_ok {q : Nat × Nat × Nat} (hW : ∀ w ∈ rqC cl own q, w ∈ W) (h : okC cl q = true) : ∃ r, cl[q.2.1]? = some r ∧ r.2.2 = q.2.2 ∧ Cond.classLink own q.1 r.1 ∈ W ∧ Cond.instantiable r.1 r.2.2 ∈ W ∧ Cond.initialized r.1 ∈ W := by
  unfold okC at h
  unfold rqC at hW
  split at h
  · rename_i r hr
    rw [hr] at hW
    exact ⟨r, hr, Nat.eq_of_beq_eq_true h, hW _ (by simp), hW _ (by simp), hW _ (by simp)⟩
  · cases h
theorem okA_ok {q : Nat × Nat} (hW : ∀ w ∈ rqA cl own q, w ∈ W) (h : okA cl tA ao q = true) : ∃ E, (q.2, FieldType.object E) ∈ tA ∧ Cond.classLink own q.1 E ∈ W ∧ E ∈ ao := by
  unfold okA at h
  unfold rqA at hW
  split at h
  · rename_i r hr
    rw [hr] at hW
    simp only [Bool.and_eq_true, decide_eq_true_eq] at h
    exact ⟨r.1, h.1, hW _ (by simp), h.2⟩
  · cases h
theorem okV_ok {q : aIv} (hall : W.all goodWord = true) (hW : ∀ w ∈ rqV own mth q, w ∈ W) (h : okV cl own nw mth mx q = true) : aIg own W cl nw W mth mx q := by
  unfold okV at h
  unfold rqV at hW
  unfold aIg
  split
  · rename_i h4
    rw [if_pos h4] at hW
    exact ⟨hW _ (by simp), hW _ (by simp), hW _ (by simp)⟩
  · rename_i h4
    rw [if_neg h4] at hW
    simp only [Bool.or_eq_true] at h
    rcases h with h | h
    · exact absurd (Nat.eq_of_beq_eq_true h) h4
    split at h
    · rename_i dd hd
      rw [hd] at hW
      simp only [Bool.and_eq_true] at h
      have m1 : aCw dd ∈ W := hW _ (by simp)
      have m2 : Cond.initialized dd.1.cls ∈ W := hW _ (by simp)
      have hg : GoodIn W (aCw dd :: W) := fun w hw => by
        have hm : w ∈ W := by
          rcases List.mem_cons.mp hw with rfl | hw
          · exact m1
          · exact hw
        exact ⟨hm, good_of_word (List.all_eq_true.mp hall w hm)⟩
      refine ⟨dd, hd, Nat.eq_of_beq_eq_true h.1, hg, m2, ?_⟩
      have h2 := h.2
      have hW2 : ∀ w ∈ (match q.2.1 with
        | 0 => [Cond.methodLink own q.1 dd.1, Cond.instanceMethod dd.1, Cond.selects dd.1.cls dd.1 dd.1]
        | 1 => [Cond.methodLink own q.1 dd.1, Cond.static dd.1]
        | 2 => [Cond.methodLink own q.1 dd.1, Cond.instanceMethod dd.1]
        | 3 => [Cond.instanceMethod dd.1]
        | 5 => [Cond.methodLink own q.1 dd.1, Cond.static dd.1]
        | _ => []), w ∈ W := fun w hw => hW w (List.mem_cons_of_mem _ (List.mem_cons_of_mem _ hw))
      split at h2
      · rename_i e
        rw [e] at hW2 ⊢
        simp only [Bool.and_eq_true, decide_eq_true_eq, List.isEmpty_iff] at h2
        obtain ⟨⟨⟨g1, g2⟩, g3⟩, g4⟩ := h2
        refine ⟨g1, hW2 _ (by simp), hW2 _ (by simp), hW2 _ (by simp), ?_, (Nat.blt_eq).mp g3, g4⟩
        split at g2
        · rename_i r hr
          exact ⟨r, hr, of_decide_eq_true g2⟩
        · cases g2
      · rename_i e
        rw [e] at hW2 ⊢
        simp only [Bool.and_eq_true, decide_eq_true_eq, List.isEmpty_iff] at h2
        exact ⟨h2.1, hW2 _ (by simp), hW2 _ (by simp), h2.2⟩
      · rename_i e
        rw [e] at hW2 ⊢
        simp only [Bool.and_eq_true, decide_eq_true_eq, List.isEmpty_iff] at h2
        obtain ⟨⟨⟨⟨g1, g2⟩, g3⟩, g4⟩, g5⟩ := h2
        exact ⟨g1, hW2 _ (by simp), hW2 _ (by simp), g2, g3, (Nat.blt_eq).mp g4, g5⟩
      · rename_i e
        rw [e] at hW2 ⊢
        simp only [Bool.and_eq_true, decide_eq_true_eq, List.isEmpty_iff] at h2
        obtain ⟨⟨⟨⟨⟨g1, g2⟩, g3⟩, g4⟩, g5⟩, g6⟩ := h2
        refine ⟨g1, ?_, hW2 _ (by simp), g2, g3, (Nat.blt_eq).mp g4, g5⟩
        obtain ⟨w, hw, hw2⟩ := List.any_eq_true.mp g6
        split at hw2
        · rename_i o i y host
          simp only [Bool.and_eq_true, decide_eq_true_eq] at hw2
          obtain ⟨⟨rfl, k2⟩, rfl⟩ := hw2
          rw [Nat.eq_of_beq_eq_true k2] at hw
          exact ⟨host, hw⟩
        · cases hw2
      · rename_i e
        rw [e] at hW2 ⊢
        simp only [Bool.and_eq_true, decide_eq_true_eq, Bool.not_eq_true'] at h2
        exact ⟨(fun e9 => by rw [e9] at h2; exact absurd h2.1 (by simp)), hW2 _ (by simp), hW2 _ (by simp), h2.2⟩
      · cases h2
    · cases h
theorem okT_ok {q : Nat × Nat × Nat × Nat} (hW : ∀ w ∈ rqT own xn q, w ∈ W) (h : okT own xn nw q = true) : ∃ X, xn[q.2.1]? = some X ∧ Bundle.fit X = true ∧ Cond.classLink own q.2.2.1 X ∈ W ∧ Cond.initialized X ∈ W ∧ (∀ w ∈ vx_at0 own q.2.2.2 X aChain, w ∈ W ∨ w ∈ nw) ∧ ∀ w ∈ Cond.classLink own q.2.2.1 X :: Cond.initialized X :: vx_at0 own q.2.2.2 X aChain, vx_ot w = true := by
  unfold okT at h
  unfold rqT at hW
  split at h
  · rename_i X hX
    rw [hX] at hW
    simp only [Bool.and_eq_true] at h
    refine ⟨X, hX, h.1.1, hW _ (by simp), hW _ (by simp), fun w hw => ?_, List.all_eq_true.mp h.2⟩
    have := List.all_eq_true.mp h.1.2 w hw
    simp only [Bool.or_eq_true, decide_eq_true_eq] at this
    rcases this with g | g
    · exact Or.inl (hW _ (List.mem_cons_of_mem _ (List.mem_cons_of_mem _ (List.mem_filter.mpr ⟨hw, g⟩))))
    · exact Or.inr g
  · cases h
theorem okH_ok {q : Nat × Nat × Nat × Nat × Nat} (hW : ∀ w ∈ rqH own xn q, w ∈ W) (h : okH xn nw nc q = true) : q.2.2.2.1 ≠ 0 ∧ ∃ nm, xn[q.2.2.2.2]? = some nm ∧ Cond.classLink own q.2.2.2.1 nm ∈ W ∧ Cond.castable nm nm ∈ nw ∧ ∀ (x : Nat) (X : String), xn[x]? = some X → x ≠ q.2.2.2.2 → (X, nm) ∈ nc := by
  unfold okH at h
  unfold rqH at hW
  simp only [Bool.and_eq_true, Bool.not_eq_true'] at h
  obtain ⟨h1, h2⟩ := h
  refine ⟨(fun e => by rw [e] at h1; exact absurd h1 (by simp)), ?_⟩
  split at h2
  · rename_i nm hnm
    rw [hnm] at hW
    simp only [Bool.and_eq_true, decide_eq_true_eq] at h2
    refine ⟨nm, hnm, hW _ (by simp), h2.1, fun x X hx hne => ?_⟩
    have := List.all_eq_true.mp h2.2 x (List.mem_range.mpr (List.getElem?_eq_some_iff.mp hx).1)
    rw [hx] at this
    simp only [Bool.or_eq_true, decide_eq_true_eq] at this
    rcases this with g | g
    · exact absurd (Nat.eq_of_beq_eq_true g) hne
    · exact g
  · cases h2
def aTAok (cl : List vw_C) (tA : List (Nat × FieldType)) (W : List Cond) : Prop := tA.take 4 = [(1000, .int), (1001, .long), (1002, .byte), (1003, .boolean)] ∧ Cond.arrayClass .int ∈ W ∧ Cond.arrayClass .long ∈ W ∧ Cond.arrayClass .byte ∈ W ∧ Cond.arrayClass .boolean ∈ W ∧ ∀ t ty, (t, ty) ∈ tA → 2000 ≤ t → ∃ r, cl[t - 2000]? = some r ∧ ty = .object r.1
theorem aSg_of {kd : List aKd} (hall : W.all goodWord = true) (hA : aTAok cl tA W) (hKt : aKt kd tA) (hW : ∀ w ∈ rqM cl mth xn d.1.cls Bd, w ∈ W) (h : okM cl tA ao nw nc mth mx xn d Bd = true) (hdec : ∀ q ∈ Bd.2.1, decode d.2.1 q.1 = .ok (q.2.1, q.2.2)) :
    aSg cl tA tTy kd nw nc ao W mth mx xn d Bd ∧ plainFor d.1 = true := by
  unfold okM at h
  simp only [Bool.and_eq_true, List.all_eq_true, decide_eq_true_eq] at h
  obtain ⟨h1, h2, h3, h4, h5, h6, h7, h8, h9, h10, h11, h12, h13, h14⟩ := h
  unfold rqM at hW
  simp only [List.mem_append, List.mem_flatMap, List.mem_map] at hW
  refine ⟨⟨Nat.eq_of_beq_eq_true h1, hdec, ⟨fun q hq => okF_ok (fun w hw => hW w (Or.inl ⟨q, hq, hw⟩)) (h2 q hq), fun ci f => by rw [h14]; exact tTy_ok ci f, fun q hq => okC_ok (fun w hw => hW w (Or.inr (Or.inl ⟨q, hq, hw⟩))) (h3 q hq),
    fun q hq => okA_ok (fun w hw => hW w (Or.inr (Or.inr (Or.inl ⟨q, hq, hw⟩)))) (h4 q hq), hA, fun q hq => ⟨_, hW _ (Or.inr (Or.inr (Or.inr (Or.inl ⟨q, hq, rfl⟩)))), h5 q hq⟩, fun q hq => ⟨_, hW _ (Or.inr (Or.inr (Or.inr (Or.inr (Or.inl ⟨q, hq, rfl⟩))))), h6 q hq⟩, fun e => ?_⟩,
    hKt, fun q hq => okV_ok hall (fun w hw => hW w (Or.inr (Or.inr (Or.inr (Or.inr (Or.inr (Or.inl ⟨q, hq, hw⟩))))))) (h8 q hq), fun q hq => okT_ok (fun w hw => hW w (Or.inr (Or.inr (Or.inr (Or.inr (Or.inr (Or.inr (Or.inl ⟨q, hq, hw⟩)))))))) (h9 q hq),
    ⟨h11, fun q hq => okH_ok (fun w hw => hW w (Or.inr (Or.inr (Or.inr (Or.inr (Or.inr (Or.inr (Or.inr ⟨q, hq, hw⟩)))))))) (h10 q hq)⟩, okR_ok h12⟩, h13⟩
  rw [e] at h7
  simpa using h7
end XG
/-- words of a list by their places -/
def inAt (big : List Cond) : List Cond → List Nat → Bool
  | [], _ => true
  | w :: ws, i :: is => decide (big[i]? = some w) && (goodWord w && inAt big ws is)
  | _ :: _, [] => false
theorem inAt_ok {big : List Cond} : ∀ {ws : List Cond} {is : List Nat}, inAt big ws is = true → ∀ w ∈ ws, w ∈ big.filter goodWord
  | [], _, _, w, hw => by cases hw
  | _ :: _, [], h, _, _ => by cases h
  | v :: ws, i :: is, h, w, hw => by
    simp only [inAt, Bool.and_eq_true, decide_eq_true_eq] at h
    rcases List.mem_cons.mp hw with rfl | hw
    · exact List.mem_filter.mpr ⟨List.mem_of_getElem? h.1, h.2.1⟩
    · exact inAt_ok h.2.2 w hw
def tRq : List Cond := (tMth.zip tBds).flatMap (fun q => rqM vwCl tMth tXn q.1.1.cls q.2)

