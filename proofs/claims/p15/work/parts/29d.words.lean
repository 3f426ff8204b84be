/-! ===== the words that the tables ask for are there ===== -/
theorem tInW (k j : Nat) {w : Cond} (h : (tCh k)[j]? = some w) (g : goodWord w = true) : w ∈ tW0 := List.mem_filter.mpr ⟨tCh_in (List.mem_of_getElem? h), g⟩
theorem tEqW {L K T : List Cond} (e : L = K) (h : ∀ w ∈ K, w ∈ T) : ∀ w ∈ L, w ∈ T := by rw [e]; exact h
theorem tCoW {a : Cond} {l T : List Cond} (h : a ∈ T) (k : ∀ w ∈ l, w ∈ T) : ∀ w ∈ a :: l, w ∈ T := List.forall_mem_cons.mpr ⟨h, k⟩
theorem tNiW {T : List Cond} : ∀ w ∈ ([] : List Cond), w ∈ T := fun _ h => by cases h
noncomputable def uw6_52 : Cond := Cond.fieldLink "RoundReckonerModel" (3 : Nat) "RoundReckonerModel" "thrown" "I"
set_option maxRecDepth 100000 in
theorem uw6_52m : uw6_52 ∈ tW0 := tInW 6 52 rfl rfl
noncomputable def uw6_53 : Cond := Cond.fieldLink "RoundReckonerModel" (13 : Nat) "RoundReckonerModel" "tape" "[B"
set_option maxRecDepth 100000 in
theorem uw6_53m : uw6_53 ∈ tW0 := tInW 6 53 rfl rfl
noncomputable def uw6_55 : Cond := Cond.fieldLink "RoundReckonerModel" (178 : Nat) "RoundReckonerModel" "taped" "I"
set_option maxRecDepth 100000 in
theorem uw6_55m : uw6_55 ∈ tW0 := tInW 6 55 rfl rfl
noncomputable def uw7_108 : Cond := Cond.code ({ cls := "RoundReckonerModel", name := "fails", desc := "(I)Z" } : MethodName) prog_14_method_2_code (2 : Nat) (Option.some FieldType.boolean)
set_option maxRecDepth 100000 in
theorem uw7_108m : uw7_108 ∈ tW0 := tInW 7 108 rfl rfl
noncomputable def uw1_15 : Cond := Cond.initialized "RoundReckonerModel"
set_option maxRecDepth 100000 in
theorem uw1_15m : uw1_15 ∈ tW0 := tInW 1 15 rfl rfl
noncomputable def uw7_105 : Cond := Cond.methodLink "RoundReckonerModel" (181 : Nat) ({ cls := "RoundReckonerModel", name := "fails", desc := "(I)Z" } : MethodName)
set_option maxRecDepth 100000 in
theorem uw7_105m : uw7_105 ∈ tW0 := tInW 7 105 rfl rfl
noncomputable def uw7_107 : Cond := Cond.instanceMethod ({ cls := "RoundReckonerModel", name := "fails", desc := "(I)Z" } : MethodName)
set_option maxRecDepth 100000 in
theorem uw7_107m : uw7_107 ∈ tW0 := tInW 7 107 rfl rfl
noncomputable def uw0_48 : Cond := Cond.selects "RoundReckonerModel" ⟨"RoundReckonerModel", "fails", "(I)Z"⟩ ⟨"RoundReckonerModel", "fails", "(I)Z"⟩
set_option maxRecDepth 100000 in
theorem uw0_48m : uw0_48 ∈ tW0 := tInW 0 48 rfl rfl
noncomputable def uw7_112 : Cond := Cond.code ({ cls := "RoundReckonerModel", name := "four", desc := "(I)V" } : MethodName) prog_14_method_5_code (3 : Nat) (Option.none : Option FieldType)
set_option maxRecDepth 100000 in
theorem uw7_112m : uw7_112 ∈ tW0 := tInW 7 112 rfl rfl
noncomputable def uw7_109 : Cond := Cond.methodLink "RoundReckonerModel" (185 : Nat) ({ cls := "RoundReckonerModel", name := "four", desc := "(I)V" } : MethodName)
set_option maxRecDepth 100000 in
theorem uw7_109m : uw7_109 ∈ tW0 := tInW 7 109 rfl rfl
noncomputable def uw7_111 : Cond := Cond.instanceMethod ({ cls := "RoundReckonerModel", name := "four", desc := "(I)V" } : MethodName)
set_option maxRecDepth 100000 in
theorem uw7_111m : uw7_111 ∈ tW0 := tInW 7 111 rfl rfl
noncomputable def uw0_49 : Cond := Cond.selects "RoundReckonerModel" ⟨"RoundReckonerModel", "four", "(I)V"⟩ ⟨"RoundReckonerModel", "four", "(I)V"⟩
set_option maxRecDepth 100000 in
theorem uw0_49m : uw0_49 ∈ tW0 := tInW 0 49 rfl rfl
noncomputable def uw6_86 : Cond := Cond.fieldLink "RoundReckonerModel" (189 : Nat) "RoundReckonerModel" "length" "I"
set_option maxRecDepth 100000 in
theorem uw6_86m : uw6_86 ∈ tW0 := tInW 6 86 rfl rfl
noncomputable def uw6_87 : Cond := Cond.fieldLink "RoundReckonerModel" (192 : Nat) "RoundReckonerModel" "at" "I"
set_option maxRecDepth 100000 in
theorem uw6_87m : uw6_87 ∈ tW0 := tInW 6 87 rfl rfl
noncomputable def uw7_132 : Cond := Cond.code ({ cls := "RoundReckonerModel", name := "byteAt", desc := "(I)I" } : MethodName) prog_14_method_8_code (2 : Nat) (Option.some FieldType.int)
set_option maxRecDepth 100000 in
theorem uw7_132m : uw7_132 ∈ tW0 := tInW 7 132 rfl rfl
noncomputable def uw7_129 : Cond := Cond.methodLink "RoundReckonerModel" (195 : Nat) ({ cls := "RoundReckonerModel", name := "byteAt", desc := "(I)I" } : MethodName)
set_option maxRecDepth 100000 in
theorem uw7_129m : uw7_129 ∈ tW0 := tInW 7 129 rfl rfl
noncomputable def uw7_131 : Cond := Cond.instanceMethod ({ cls := "RoundReckonerModel", name := "byteAt", desc := "(I)I" } : MethodName)
set_option maxRecDepth 100000 in
theorem uw7_131m : uw7_131 ∈ tW0 := tInW 7 131 rfl rfl
noncomputable def uw0_52 : Cond := Cond.selects "RoundReckonerModel" ⟨"RoundReckonerModel", "byteAt", "(I)I"⟩ ⟨"RoundReckonerModel", "byteAt", "(I)I"⟩
set_option maxRecDepth 100000 in
theorem uw0_52m : uw0_52 ∈ tW0 := tInW 0 52 rfl rfl
noncomputable def uw6_88 : Cond := Cond.fieldLink "RoundReckonerModel" (199 : Nat) "RoundReckonerModel" "place" "I"
set_option maxRecDepth 100000 in
theorem uw6_88m : uw6_88 ∈ tW0 := tInW 6 88 rfl rfl
noncomputable def uw6_89 : Cond := Cond.fieldLink "RoundReckonerModel" (202 : Nat) "RoundReckonerModel" "from" "I"
set_option maxRecDepth 100000 in
theorem uw6_89m : uw6_89 ∈ tW0 := tInW 6 89 rfl rfl
noncomputable def uw6_90 : Cond := Cond.fieldLink "RoundReckonerModel" (211 : Nat) "RoundReckonerModel" "size" "I"
set_option maxRecDepth 100000 in
theorem uw6_90m : uw6_90 ∈ tW0 := tInW 6 90 rfl rfl
noncomputable def uw7_152 : Cond := Cond.code ({ cls := "RoundReckonerModel", name := "isSmall", desc := "(I)Z" } : MethodName) prog_14_method_11_code (2 : Nat) (Option.some FieldType.boolean)
set_option maxRecDepth 100000 in
theorem uw7_152m : uw7_152 ∈ tW0 := tInW 7 152 rfl rfl
noncomputable def uw7_149 : Cond := Cond.methodLink "RoundReckonerModel" (205 : Nat) ({ cls := "RoundReckonerModel", name := "isSmall", desc := "(I)Z" } : MethodName)
set_option maxRecDepth 100000 in
theorem uw7_149m : uw7_149 ∈ tW0 := tInW 7 149 rfl rfl
noncomputable def uw7_151 : Cond := Cond.instanceMethod ({ cls := "RoundReckonerModel", name := "isSmall", desc := "(I)Z" } : MethodName)
set_option maxRecDepth 100000 in
theorem uw7_151m : uw7_151 ∈ tW0 := tInW 7 151 rfl rfl
noncomputable def uw0_57 : Cond := Cond.selects "RoundReckonerModel" ⟨"RoundReckonerModel", "isSmall", "(I)Z"⟩ ⟨"RoundReckonerModel", "isSmall", "(I)Z"⟩
set_option maxRecDepth 100000 in
theorem uw0_57m : uw0_57 ∈ tW0 := tInW 0 57 rfl rfl
noncomputable def uw7_160 : Cond := Cond.code ({ cls := "RoundReckonerModel", name := "isDigit", desc := "(I)Z" } : MethodName) prog_14_method_13_code (2 : Nat) (Option.some FieldType.boolean)
set_option maxRecDepth 100000 in
theorem uw7_160m : uw7_160 ∈ tW0 := tInW 7 160 rfl rfl
noncomputable def uw7_157 : Cond := Cond.methodLink "RoundReckonerModel" (208 : Nat) ({ cls := "RoundReckonerModel", name := "isDigit", desc := "(I)Z" } : MethodName)
set_option maxRecDepth 100000 in
theorem uw7_157m : uw7_157 ∈ tW0 := tInW 7 157 rfl rfl
noncomputable def uw7_159 : Cond := Cond.instanceMethod ({ cls := "RoundReckonerModel", name := "isDigit", desc := "(I)Z" } : MethodName)
set_option maxRecDepth 100000 in
theorem uw7_159m : uw7_159 ∈ tW0 := tInW 7 159 rfl rfl
noncomputable def uw0_59 : Cond := Cond.selects "RoundReckonerModel" ⟨"RoundReckonerModel", "isDigit", "(I)Z"⟩ ⟨"RoundReckonerModel", "isDigit", "(I)Z"⟩
set_option maxRecDepth 100000 in
theorem uw0_59m : uw0_59 ∈ tW0 := tInW 0 59 rfl rfl
noncomputable def uw7_164 : Cond := Cond.code ({ cls := "RoundReckonerModel", name := "wrong", desc := "(I)Z" } : MethodName) prog_14_method_10_code (2 : Nat) (Option.some FieldType.boolean)
set_option maxRecDepth 100000 in
theorem uw7_164m : uw7_164 ∈ tW0 := tInW 7 164 rfl rfl
noncomputable def uw7_161 : Cond := Cond.methodLink "RoundReckonerModel" (214 : Nat) ({ cls := "RoundReckonerModel", name := "wrong", desc := "(I)Z" } : MethodName)
set_option maxRecDepth 100000 in
theorem uw7_161m : uw7_161 ∈ tW0 := tInW 7 161 rfl rfl
noncomputable def uw7_163 : Cond := Cond.instanceMethod ({ cls := "RoundReckonerModel", name := "wrong", desc := "(I)Z" } : MethodName)
set_option maxRecDepth 100000 in
theorem uw7_163m : uw7_163 ∈ tW0 := tInW 7 163 rfl rfl
noncomputable def uw0_60 : Cond := Cond.selects "RoundReckonerModel" ⟨"RoundReckonerModel", "wrong", "(I)Z"⟩ ⟨"RoundReckonerModel", "wrong", "(I)Z"⟩
set_option maxRecDepth 100000 in
theorem uw0_60m : uw0_60 ∈ tW0 := tInW 0 60 rfl rfl
noncomputable def uw6_91 : Cond := Cond.fieldLink "RoundReckonerModel" (229 : Nat) "RoundReckonerModel" "read" "J"
set_option maxRecDepth 100000 in
theorem uw6_91m : uw6_91 ∈ tW0 := tInW 6 91 rfl rfl
noncomputable def uw6_92 : Cond := Cond.fieldLink "RoundReckonerModel" (233 : Nat) "RoundReckonerModel" "readSort" "I"
set_option maxRecDepth 100000 in
theorem uw6_92m : uw6_92 ∈ tW0 := tInW 6 92 rfl rfl
noncomputable def uw7_206 : Cond := Cond.constantLong "RoundReckonerModel" 225 (Int64.ofInt 10)
set_option maxRecDepth 100000 in
theorem uw7_206m : uw7_206 ∈ tW0 := inAt_ok (ws := [uw7_206]) (is := [(7, 206)]) (by decide +kernel) _ (List.mem_cons_self ..)
noncomputable def uw7_207 : Cond := Cond.constantLong "RoundReckonerModel" 227 (Int64.ofInt 48)
set_option maxRecDepth 100000 in
theorem uw7_207m : uw7_207 ∈ tW0 := inAt_ok (ws := [uw7_207]) (is := [(7, 207)]) (by decide +kernel) _ (List.mem_cons_self ..)
noncomputable def uw6_60 : Cond := Cond.fieldLink "RoundReckonerModel" (217 : Nat) "RoundReckonerModel" "names" "I"
set_option maxRecDepth 100000 in
theorem uw6_60m : uw6_60 ∈ tW0 := tInW 6 60 rfl rfl
noncomputable def uw6_59 : Cond := Cond.fieldLink "RoundReckonerModel" (29 : Nat) "RoundReckonerModel" "nameSize" "[I"
set_option maxRecDepth 100000 in
theorem uw6_59m : uw6_59 ∈ tW0 := tInW 6 59 rfl rfl
noncomputable def uw6_57 : Cond := Cond.fieldLink "RoundReckonerModel" (21 : Nat) "RoundReckonerModel" "letters" "[B"
set_option maxRecDepth 100000 in
theorem uw6_57m : uw6_57 ∈ tW0 := tInW 6 57 rfl rfl
noncomputable def uw6_58 : Cond := Cond.fieldLink "RoundReckonerModel" (25 : Nat) "RoundReckonerModel" "nameAt" "[I"
set_option maxRecDepth 100000 in
theorem uw6_58m : uw6_58 ∈ tW0 := tInW 6 58 rfl rfl
noncomputable def uw6_61 : Cond := Cond.fieldLink "RoundReckonerModel" (222 : Nat) "RoundReckonerModel" "lettered" "I"
set_option maxRecDepth 100000 in
theorem uw6_61m : uw6_61 ∈ tW0 := tInW 6 61 rfl rfl
noncomputable def uw7_201 : Cond := Cond.constantLong "RoundReckonerModel" 220 (Int64.ofInt 1099511627776)
set_option maxRecDepth 100000 in
theorem uw7_201m : uw7_201 ∈ tW0 := inAt_ok (ws := [uw7_201]) (is := [(7, 201)]) (by decide +kernel) _ (List.mem_cons_self ..)
noncomputable def uw6_94 : Cond := Cond.fieldLink "RoundReckonerModel" (90 : Nat) "RoundReckonerModel" "variableSize" "[I"
set_option maxRecDepth 100000 in
theorem uw6_94m : uw6_94 ∈ tW0 := tInW 6 94 rfl rfl
noncomputable def uw6_93 : Cond := Cond.fieldLink "RoundReckonerModel" (87 : Nat) "RoundReckonerModel" "variableAt" "[I"
set_option maxRecDepth 100000 in
theorem uw6_93m : uw6_93 ∈ tW0 := tInW 6 93 rfl rfl
noncomputable def uw6_76 : Cond := Cond.fieldLink "RoundReckonerModel" (63 : Nat) "RoundReckonerModel" "variables" "[I"
set_option maxRecDepth 100000 in
theorem uw6_76m : uw6_76 ∈ tW0 := tInW 6 76 rfl rfl
noncomputable def uw6_96 : Cond := Cond.fieldLink "RoundReckonerModel" (240 : Nat) "RoundReckonerModel" "clause" "I"
set_option maxRecDepth 100000 in
theorem uw6_96m : uw6_96 ∈ tW0 := tInW 6 96 rfl rfl
noncomputable def uw6_95 : Cond := Cond.fieldLink "RoundReckonerModel" (93 : Nat) "RoundReckonerModel" "stands" "[I"
set_option maxRecDepth 100000 in
theorem uw6_95m : uw6_95 ∈ tW0 := tInW 6 95 rfl rfl
noncomputable def uw7_156 : Cond := Cond.code ({ cls := "RoundReckonerModel", name := "word", desc := "()Z" } : MethodName) prog_14_method_14_code (2 : Nat) (Option.some FieldType.boolean)
set_option maxRecDepth 100000 in
theorem uw7_156m : uw7_156 ∈ tW0 := tInW 7 156 rfl rfl
noncomputable def uw7_153 : Cond := Cond.methodLink "RoundReckonerModel" (236 : Nat) ({ cls := "RoundReckonerModel", name := "word", desc := "()Z" } : MethodName)
set_option maxRecDepth 100000 in
theorem uw7_153m : uw7_153 ∈ tW0 := tInW 7 153 rfl rfl
noncomputable def uw7_155 : Cond := Cond.instanceMethod ({ cls := "RoundReckonerModel", name := "word", desc := "()Z" } : MethodName)
set_option maxRecDepth 100000 in
theorem uw7_155m : uw7_155 ∈ tW0 := tInW 7 155 rfl rfl
noncomputable def uw0_58 : Cond := Cond.selects "RoundReckonerModel" ⟨"RoundReckonerModel", "word", "()Z"⟩ ⟨"RoundReckonerModel", "word", "()Z"⟩
set_option maxRecDepth 100000 in
theorem uw0_58m : uw0_58 ∈ tW0 := tInW 0 58 rfl rfl
noncomputable def uw7_188 : Cond := Cond.code ({ cls := "RoundReckonerModel", name := "isVariable", desc := "(I)Z" } : MethodName) prog_14_method_19_code (3 : Nat) (Option.some FieldType.boolean)
set_option maxRecDepth 100000 in
theorem uw7_188m : uw7_188 ∈ tW0 := tInW 7 188 rfl rfl
noncomputable def uw7_185 : Cond := Cond.methodLink "RoundReckonerModel" (243 : Nat) ({ cls := "RoundReckonerModel", name := "isVariable", desc := "(I)Z" } : MethodName)
set_option maxRecDepth 100000 in
theorem uw7_185m : uw7_185 ∈ tW0 := tInW 7 185 rfl rfl
noncomputable def uw7_187 : Cond := Cond.instanceMethod ({ cls := "RoundReckonerModel", name := "isVariable", desc := "(I)Z" } : MethodName)
set_option maxRecDepth 100000 in
theorem uw7_187m : uw7_187 ∈ tW0 := tInW 7 187 rfl rfl
noncomputable def uw0_66 : Cond := Cond.selects "RoundReckonerModel" ⟨"RoundReckonerModel", "isVariable", "(I)Z"⟩ ⟨"RoundReckonerModel", "isVariable", "(I)Z"⟩
set_option maxRecDepth 100000 in
theorem uw0_66m : uw0_66 ∈ tW0 := tInW 0 66 rfl rfl
noncomputable def uw6_97 : Cond := Cond.fieldLink "RoundReckonerModel" (246 : Nat) "RoundReckonerModel" "knownNow" "I"
set_option maxRecDepth 100000 in
theorem uw6_97m : uw6_97 ∈ tW0 := tInW 6 97 rfl rfl
noncomputable def uw7_128 : Cond := Cond.code ({ cls := "RoundReckonerModel", name := "blanks", desc := "()V" } : MethodName) prog_14_method_9_code (1 : Nat) (Option.none : Option FieldType)
set_option maxRecDepth 100000 in
theorem uw7_128m : uw7_128 ∈ tW0 := tInW 7 128 rfl rfl
noncomputable def uw7_125 : Cond := Cond.methodLink "RoundReckonerModel" (249 : Nat) ({ cls := "RoundReckonerModel", name := "blanks", desc := "()V" } : MethodName)
set_option maxRecDepth 100000 in
theorem uw7_125m : uw7_125 ∈ tW0 := tInW 7 125 rfl rfl
noncomputable def uw7_127 : Cond := Cond.instanceMethod ({ cls := "RoundReckonerModel", name := "blanks", desc := "()V" } : MethodName)
set_option maxRecDepth 100000 in
theorem uw7_127m : uw7_127 ∈ tW0 := tInW 7 127 rfl rfl
noncomputable def uw0_51 : Cond := Cond.selects "RoundReckonerModel" ⟨"RoundReckonerModel", "blanks", "()V"⟩ ⟨"RoundReckonerModel", "blanks", "()V"⟩
set_option maxRecDepth 100000 in
theorem uw0_51m : uw0_51 ∈ tW0 := tInW 0 51 rfl rfl
noncomputable def uw7_180 : Cond := Cond.code ({ cls := "RoundReckonerModel", name := "isCapital", desc := "(I)Z" } : MethodName) prog_14_method_12_code (2 : Nat) (Option.some FieldType.boolean)
set_option maxRecDepth 100000 in
theorem uw7_180m : uw7_180 ∈ tW0 := tInW 7 180 rfl rfl
noncomputable def uw7_177 : Cond := Cond.methodLink "RoundReckonerModel" (252 : Nat) ({ cls := "RoundReckonerModel", name := "isCapital", desc := "(I)Z" } : MethodName)
set_option maxRecDepth 100000 in
theorem uw7_177m : uw7_177 ∈ tW0 := tInW 7 177 rfl rfl
noncomputable def uw7_179 : Cond := Cond.instanceMethod ({ cls := "RoundReckonerModel", name := "isCapital", desc := "(I)Z" } : MethodName)
set_option maxRecDepth 100000 in
theorem uw7_179m : uw7_179 ∈ tW0 := tInW 7 179 rfl rfl
noncomputable def uw0_64 : Cond := Cond.selects "RoundReckonerModel" ⟨"RoundReckonerModel", "isCapital", "(I)Z"⟩ ⟨"RoundReckonerModel", "isCapital", "(I)Z"⟩
set_option maxRecDepth 100000 in
theorem uw0_64m : uw0_64 ∈ tW0 := tInW 0 64 rfl rfl
noncomputable def uw7_184 : Cond := Cond.code ({ cls := "RoundReckonerModel", name := "variable", desc := "()Z" } : MethodName) prog_14_method_18_code (2 : Nat) (Option.some FieldType.boolean)
set_option maxRecDepth 100000 in
theorem uw7_184m : uw7_184 ∈ tW0 := tInW 7 184 rfl rfl
noncomputable def uw7_181 : Cond := Cond.methodLink "RoundReckonerModel" (255 : Nat) ({ cls := "RoundReckonerModel", name := "variable", desc := "()Z" } : MethodName)
set_option maxRecDepth 100000 in
theorem uw7_181m : uw7_181 ∈ tW0 := tInW 7 181 rfl rfl
noncomputable def uw7_183 : Cond := Cond.instanceMethod ({ cls := "RoundReckonerModel", name := "variable", desc := "()Z" } : MethodName)
set_option maxRecDepth 100000 in
theorem uw7_183m : uw7_183 ∈ tW0 := tInW 7 183 rfl rfl
noncomputable def uw0_65 : Cond := Cond.selects "RoundReckonerModel" ⟨"RoundReckonerModel", "variable", "()Z"⟩ ⟨"RoundReckonerModel", "variable", "()Z"⟩
set_option maxRecDepth 100000 in
theorem uw0_65m : uw0_65 ∈ tW0 := tInW 0 65 rfl rfl
noncomputable def uw7_200 : Cond := Cond.code ({ cls := "RoundReckonerModel", name := "constant", desc := "()J" } : MethodName) prog_14_method_16_code (4 : Nat) (Option.some FieldType.long)
set_option maxRecDepth 100000 in
theorem uw7_200m : uw7_200 ∈ tW0 := tInW 7 200 rfl rfl
noncomputable def uw7_197 : Cond := Cond.methodLink "RoundReckonerModel" (257 : Nat) ({ cls := "RoundReckonerModel", name := "constant", desc := "()J" } : MethodName)
set_option maxRecDepth 100000 in
theorem uw7_197m : uw7_197 ∈ tW0 := tInW 7 197 rfl rfl
noncomputable def uw7_199 : Cond := Cond.instanceMethod ({ cls := "RoundReckonerModel", name := "constant", desc := "()J" } : MethodName)
set_option maxRecDepth 100000 in
theorem uw7_199m : uw7_199 ∈ tW0 := tInW 7 199 rfl rfl
noncomputable def uw0_69 : Cond := Cond.selects "RoundReckonerModel" ⟨"RoundReckonerModel", "constant", "()J"⟩ ⟨"RoundReckonerModel", "constant", "()J"⟩
set_option maxRecDepth 100000 in
theorem uw0_69m : uw0_69 ∈ tW0 := tInW 0 69 rfl rfl
noncomputable def uw7_205 : Cond := Cond.code ({ cls := "RoundReckonerModel", name := "number", desc := "()Z" } : MethodName) prog_14_method_17_code (7 : Nat) (Option.some FieldType.boolean)
set_option maxRecDepth 100000 in
theorem uw7_205m : uw7_205 ∈ tW0 := tInW 7 205 rfl rfl
noncomputable def uw7_202 : Cond := Cond.methodLink "RoundReckonerModel" (261 : Nat) ({ cls := "RoundReckonerModel", name := "number", desc := "()Z" } : MethodName)
set_option maxRecDepth 100000 in
theorem uw7_202m : uw7_202 ∈ tW0 := tInW 7 202 rfl rfl
noncomputable def uw7_204 : Cond := Cond.instanceMethod ({ cls := "RoundReckonerModel", name := "number", desc := "()Z" } : MethodName)
set_option maxRecDepth 100000 in
theorem uw7_204m : uw7_204 ∈ tW0 := tInW 7 204 rfl rfl
noncomputable def uw0_70 : Cond := Cond.selects "RoundReckonerModel" ⟨"RoundReckonerModel", "number", "()Z"⟩ ⟨"RoundReckonerModel", "number", "()Z"⟩
set_option maxRecDepth 100000 in
theorem uw0_70m : uw0_70 ∈ tW0 := tInW 0 70 rfl rfl
noncomputable def uw6_66 : Cond := Cond.fieldLink "RoundReckonerModel" (264 : Nat) "RoundReckonerModel" "knownPredicates" "I"
set_option maxRecDepth 100000 in
theorem uw6_66m : uw6_66 ∈ tW0 := tInW 6 66 rfl rfl
noncomputable def uw6_64 : Cond := Cond.fieldLink "RoundReckonerModel" (38 : Nat) "RoundReckonerModel" "arity" "[I"
set_option maxRecDepth 100000 in
theorem uw6_64m : uw6_64 ∈ tW0 := tInW 6 64 rfl rfl
noncomputable def uw6_63 : Cond := Cond.fieldLink "RoundReckonerModel" (35 : Nat) "RoundReckonerModel" "predicateSize" "[I"
set_option maxRecDepth 100000 in
theorem uw6_63m : uw6_63 ∈ tW0 := tInW 6 63 rfl rfl
noncomputable def uw6_62 : Cond := Cond.fieldLink "RoundReckonerModel" (32 : Nat) "RoundReckonerModel" "predicateName" "[B"
set_option maxRecDepth 100000 in
theorem uw6_62m : uw6_62 ∈ tW0 := tInW 6 62 rfl rfl
noncomputable def uw6_106 : Cond := Cond.fieldLink "RoundReckonerModel" (105 : Nat) "RoundReckonerModel" "owedAt" "[I"
set_option maxRecDepth 100000 in
theorem uw6_106m : uw6_106 ∈ tW0 := tInW 6 106 rfl rfl
noncomputable def uw6_110 : Cond := Cond.fieldLink "RoundReckonerModel" (303 : Nat) "RoundReckonerModel" "owes" "I"
set_option maxRecDepth 100000 in
theorem uw6_110m : uw6_110 ∈ tW0 := tInW 6 110 rfl rfl
noncomputable def uw6_107 : Cond := Cond.fieldLink "RoundReckonerModel" (108 : Nat) "RoundReckonerModel" "owed" "[I"
set_option maxRecDepth 100000 in
theorem uw6_107m : uw6_107 ∈ tW0 := tInW 6 107 rfl rfl
noncomputable def uw6_109 : Cond := Cond.fieldLink "RoundReckonerModel" (114 : Nat) "RoundReckonerModel" "owedNot" "[Z"
set_option maxRecDepth 100000 in
theorem uw6_109m : uw6_109 ∈ tW0 := tInW 6 109 rfl rfl
noncomputable def uw6_108 : Cond := Cond.fieldLink "RoundReckonerModel" (111 : Nat) "RoundReckonerModel" "owedKnown" "[I"
set_option maxRecDepth 100000 in
theorem uw6_108m : uw6_108 ∈ tW0 := tInW 6 108 rfl rfl
noncomputable def uw6_101 : Cond := Cond.fieldLink "RoundReckonerModel" (279 : Nat) "RoundReckonerModel" "headHash" "I"
set_option maxRecDepth 100000 in
theorem uw6_101m : uw6_101 ∈ tW0 := tInW 6 101 rfl rfl
noncomputable def uw6_102 : Cond := Cond.fieldLink "RoundReckonerModel" (282 : Nat) "RoundReckonerModel" "headHashVariable" "I"
set_option maxRecDepth 100000 in
theorem uw6_102m : uw6_102 ∈ tW0 := tInW 6 102 rfl rfl
noncomputable def uw7_148 : Cond := Cond.code ({ cls := "RoundReckonerModel", name := "needName", desc := "()Z" } : MethodName) prog_14_method_24_code (1 : Nat) (Option.some FieldType.boolean)
set_option maxRecDepth 100000 in
theorem uw7_148m : uw7_148 ∈ tW0 := tInW 7 148 rfl rfl
noncomputable def uw7_145 : Cond := Cond.methodLink "RoundReckonerModel" (267 : Nat) ({ cls := "RoundReckonerModel", name := "needName", desc := "()Z" } : MethodName)
set_option maxRecDepth 100000 in
theorem uw7_145m : uw7_145 ∈ tW0 := tInW 7 145 rfl rfl
noncomputable def uw7_147 : Cond := Cond.instanceMethod ({ cls := "RoundReckonerModel", name := "needName", desc := "()Z" } : MethodName)
set_option maxRecDepth 100000 in
theorem uw7_147m : uw7_147 ∈ tW0 := tInW 7 147 rfl rfl
noncomputable def uw0_56 : Cond := Cond.selects "RoundReckonerModel" ⟨"RoundReckonerModel", "needName", "()Z"⟩ ⟨"RoundReckonerModel", "needName", "()Z"⟩
set_option maxRecDepth 100000 in
theorem uw0_56m : uw0_56 ∈ tW0 := tInW 0 56 rfl rfl
noncomputable def uw7_176 : Cond := Cond.code ({ cls := "RoundReckonerModel", name := "isWord", desc := "(IIIII)Z" } : MethodName) prog_14_method_15_code (7 : Nat) (Option.some FieldType.boolean)
set_option maxRecDepth 100000 in
theorem uw7_176m : uw7_176 ∈ tW0 := tInW 7 176 rfl rfl
noncomputable def uw7_173 : Cond := Cond.methodLink "RoundReckonerModel" (295 : Nat) ({ cls := "RoundReckonerModel", name := "isWord", desc := "(IIIII)Z" } : MethodName)
set_option maxRecDepth 100000 in
theorem uw7_173m : uw7_173 ∈ tW0 := tInW 7 173 rfl rfl
noncomputable def uw7_175 : Cond := Cond.instanceMethod ({ cls := "RoundReckonerModel", name := "isWord", desc := "(IIIII)Z" } : MethodName)
set_option maxRecDepth 100000 in
theorem uw7_175m : uw7_175 ∈ tW0 := tInW 7 175 rfl rfl
noncomputable def uw0_63 : Cond := Cond.selects "RoundReckonerModel" ⟨"RoundReckonerModel", "isWord", "(IIIII)Z"⟩ ⟨"RoundReckonerModel", "isWord", "(IIIII)Z"⟩
set_option maxRecDepth 100000 in
theorem uw0_63m : uw0_63 ∈ tW0 := tInW 0 63 rfl rfl
noncomputable def uw7_192 : Cond := Cond.code ({ cls := "RoundReckonerModel", name := "owe", desc := "(IIZ)V" } : MethodName) prog_14_method_28_code (4 : Nat) (Option.none : Option FieldType)
set_option maxRecDepth 100000 in
theorem uw7_192m : uw7_192 ∈ tW0 := tInW 7 192 rfl rfl
noncomputable def uw7_189 : Cond := Cond.methodLink "RoundReckonerModel" (299 : Nat) ({ cls := "RoundReckonerModel", name := "owe", desc := "(IIZ)V" } : MethodName)
set_option maxRecDepth 100000 in
theorem uw7_189m : uw7_189 ∈ tW0 := tInW 7 189 rfl rfl
noncomputable def uw7_191 : Cond := Cond.instanceMethod ({ cls := "RoundReckonerModel", name := "owe", desc := "(IIZ)V" } : MethodName)
set_option maxRecDepth 100000 in
theorem uw7_191m : uw7_191 ∈ tW0 := tInW 7 191 rfl rfl
noncomputable def uw0_67 : Cond := Cond.selects "RoundReckonerModel" ⟨"RoundReckonerModel", "owe", "(IIZ)V"⟩ ⟨"RoundReckonerModel", "owe", "(IIZ)V"⟩
set_option maxRecDepth 100000 in
theorem uw0_67m : uw0_67 ∈ tW0 := tInW 0 67 rfl rfl
noncomputable def uw6_98 : Cond := Cond.fieldLink "RoundReckonerModel" (270 : Nat) "RoundReckonerModel" "headFrom" "I"
set_option maxRecDepth 100000 in
theorem uw6_98m : uw6_98 ∈ tW0 := tInW 6 98 rfl rfl
noncomputable def uw6_99 : Cond := Cond.fieldLink "RoundReckonerModel" (273 : Nat) "RoundReckonerModel" "headSize" "I"
set_option maxRecDepth 100000 in
theorem uw6_99m : uw6_99 ∈ tW0 := tInW 6 99 rfl rfl
noncomputable def uw6_100 : Cond := Cond.fieldLink "RoundReckonerModel" (276 : Nat) "RoundReckonerModel" "headMany" "I"
set_option maxRecDepth 100000 in
theorem uw6_100m : uw6_100 ∈ tW0 := tInW 6 100 rfl rfl
noncomputable def uw6_104 : Cond := Cond.fieldLink "RoundReckonerModel" (99 : Nat) "RoundReckonerModel" "placeOf" "[I"
set_option maxRecDepth 100000 in
theorem uw6_104m : uw6_104 ∈ tW0 := tInW 6 104 rfl rfl
noncomputable def uw6_103 : Cond := Cond.fieldLink "RoundReckonerModel" (96 : Nat) "RoundReckonerModel" "sortOf" "[I"
set_option maxRecDepth 100000 in
theorem uw6_103m : uw6_103 ∈ tW0 := tInW 6 103 rfl rfl
noncomputable def uw6_105 : Cond := Cond.fieldLink "RoundReckonerModel" (102 : Nat) "RoundReckonerModel" "valueOf" "[J"
set_option maxRecDepth 100000 in
theorem uw6_105m : uw6_105 ∈ tW0 := tInW 6 105 rfl rfl
noncomputable def uw7_168 : Cond := Cond.code ({ cls := "RoundReckonerModel", name := "need", desc := "(I)Z" } : MethodName) prog_14_method_25_code (2 : Nat) (Option.some FieldType.boolean)
set_option maxRecDepth 100000 in
theorem uw7_168m : uw7_168 ∈ tW0 := tInW 7 168 rfl rfl
noncomputable def uw7_165 : Cond := Cond.methodLink "RoundReckonerModel" (285 : Nat) ({ cls := "RoundReckonerModel", name := "need", desc := "(I)Z" } : MethodName)
set_option maxRecDepth 100000 in
theorem uw7_165m : uw7_165 ∈ tW0 := tInW 7 165 rfl rfl
noncomputable def uw7_167 : Cond := Cond.instanceMethod ({ cls := "RoundReckonerModel", name := "need", desc := "(I)Z" } : MethodName)
set_option maxRecDepth 100000 in
theorem uw7_167m : uw7_167 ∈ tW0 := tInW 7 167 rfl rfl
noncomputable def uw0_61 : Cond := Cond.selects "RoundReckonerModel" ⟨"RoundReckonerModel", "need", "(I)Z"⟩ ⟨"RoundReckonerModel", "need", "(I)Z"⟩
set_option maxRecDepth 100000 in
theorem uw0_61m : uw0_61 ∈ tW0 := tInW 0 61 rfl rfl
noncomputable def uw7_172 : Cond := Cond.code ({ cls := "RoundReckonerModel", name := "reckoned", desc := "()Z" } : MethodName) prog_14_method_27_code (2 : Nat) (Option.some FieldType.boolean)
set_option maxRecDepth 100000 in
theorem uw7_172m : uw7_172 ∈ tW0 := tInW 7 172 rfl rfl
noncomputable def uw7_169 : Cond := Cond.methodLink "RoundReckonerModel" (288 : Nat) ({ cls := "RoundReckonerModel", name := "reckoned", desc := "()Z" } : MethodName)
set_option maxRecDepth 100000 in
theorem uw7_169m : uw7_169 ∈ tW0 := tInW 7 169 rfl rfl
noncomputable def uw7_171 : Cond := Cond.instanceMethod ({ cls := "RoundReckonerModel", name := "reckoned", desc := "()Z" } : MethodName)
set_option maxRecDepth 100000 in
theorem uw7_171m : uw7_171 ∈ tW0 := tInW 7 171 rfl rfl
noncomputable def uw0_62 : Cond := Cond.selects "RoundReckonerModel" ⟨"RoundReckonerModel", "reckoned", "()Z"⟩ ⟨"RoundReckonerModel", "reckoned", "()Z"⟩
set_option maxRecDepth 100000 in
theorem uw0_62m : uw0_62 ∈ tW0 := tInW 0 62 rfl rfl
noncomputable def uw7_196 : Cond := Cond.code ({ cls := "RoundReckonerModel", name := "item", desc := "(Z)Z" } : MethodName) prog_14_method_21_code (3 : Nat) (Option.some FieldType.boolean)
set_option maxRecDepth 100000 in
theorem uw7_196m : uw7_196 ∈ tW0 := tInW 7 196 rfl rfl
noncomputable def uw7_193 : Cond := Cond.methodLink "RoundReckonerModel" (291 : Nat) ({ cls := "RoundReckonerModel", name := "item", desc := "(Z)Z" } : MethodName)
set_option maxRecDepth 100000 in
theorem uw7_193m : uw7_193 ∈ tW0 := tInW 7 193 rfl rfl
noncomputable def uw7_195 : Cond := Cond.instanceMethod ({ cls := "RoundReckonerModel", name := "item", desc := "(Z)Z" } : MethodName)
set_option maxRecDepth 100000 in
theorem uw7_195m : uw7_195 ∈ tW0 := tInW 7 195 rfl rfl
noncomputable def uw0_68 : Cond := Cond.selects "RoundReckonerModel" ⟨"RoundReckonerModel", "item", "(Z)Z"⟩ ⟨"RoundReckonerModel", "item", "(Z)Z"⟩
set_option maxRecDepth 100000 in
theorem uw0_68m : uw0_68 ∈ tW0 := tInW 0 68 rfl rfl
noncomputable def uw8_7 : Cond := Cond.code ({ cls := "RoundReckonerModel", name := "isKnown", desc := "(J)Z" } : MethodName) prog_14_method_20_code (3 : Nat) (Option.some FieldType.boolean)
set_option maxRecDepth 100000 in
theorem uw8_7m : uw8_7 ∈ tW0 := tInW 8 7 rfl rfl
noncomputable def uw8_4 : Cond := Cond.methodLink "RoundReckonerModel" (306 : Nat) ({ cls := "RoundReckonerModel", name := "isKnown", desc := "(J)Z" } : MethodName)
set_option maxRecDepth 100000 in
theorem uw8_4m : uw8_4 ∈ tW0 := tInW 8 4 rfl rfl
noncomputable def uw8_6 : Cond := Cond.instanceMethod ({ cls := "RoundReckonerModel", name := "isKnown", desc := "(J)Z" } : MethodName)
set_option maxRecDepth 100000 in
theorem uw8_6m : uw8_6 ∈ tW0 := tInW 8 6 rfl rfl
noncomputable def uw0_80 : Cond := Cond.selects "RoundReckonerModel" ⟨"RoundReckonerModel", "isKnown", "(J)Z"⟩ ⟨"RoundReckonerModel", "isKnown", "(J)Z"⟩
set_option maxRecDepth 100000 in
theorem uw0_80m : uw0_80 ∈ tW0 := tInW 0 80 rfl rfl
noncomputable def uw8_19 : Cond := Cond.code ({ cls := "RoundReckonerModel", name := "swap", desc := "(I)V" } : MethodName) prog_14_method_42_code (6 : Nat) (Option.none : Option FieldType)
set_option maxRecDepth 100000 in
theorem uw8_19m : uw8_19 ∈ tW0 := tInW 8 19 rfl rfl
noncomputable def uw8_16 : Cond := Cond.methodLink "RoundReckonerModel" (370 : Nat) ({ cls := "RoundReckonerModel", name := "swap", desc := "(I)V" } : MethodName)
set_option maxRecDepth 100000 in
theorem uw8_16m : uw8_16 ∈ tW0 := tInW 8 16 rfl rfl
noncomputable def uw8_18 : Cond := Cond.instanceMethod ({ cls := "RoundReckonerModel", name := "swap", desc := "(I)V" } : MethodName)
set_option maxRecDepth 100000 in
theorem uw8_18m : uw8_18 ∈ tW0 := tInW 8 18 rfl rfl
noncomputable def uw0_83 : Cond := Cond.selects "RoundReckonerModel" ⟨"RoundReckonerModel", "swap", "(I)V"⟩ ⟨"RoundReckonerModel", "swap", "(I)V"⟩
set_option maxRecDepth 100000 in
theorem uw0_83m : uw0_83 ∈ tW0 := tInW 0 83 rfl rfl
noncomputable def uw6_75 : Cond := Cond.fieldLink "RoundReckonerModel" (60 : Nat) "RoundReckonerModel" "goals" "[I"
set_option maxRecDepth 100000 in
theorem uw6_75m : uw6_75 ∈ tW0 := tInW 6 75 rfl rfl
noncomputable def uw6_82 : Cond := Cond.fieldLink "RoundReckonerModel" (81 : Nat) "RoundReckonerModel" "sort" "[I"
set_option maxRecDepth 100000 in
theorem uw6_82m : uw6_82 ∈ tW0 := tInW 6 82 rfl rfl
noncomputable def uw6_83 : Cond := Cond.fieldLink "RoundReckonerModel" (84 : Nat) "RoundReckonerModel" "argument" "[J"
set_option maxRecDepth 100000 in
theorem uw6_83m : uw6_83 ∈ tW0 := tInW 6 83 rfl rfl
noncomputable def uw7_235 : Cond := Cond.code ({ cls := "RoundReckonerModel", name := "goal", desc := "()I" } : MethodName) prog_14_method_30_code (1 : Nat) (Option.some FieldType.int)
set_option maxRecDepth 100000 in
theorem uw7_235m : uw7_235 ∈ tW0 := tInW 7 235 rfl rfl
noncomputable def uw7_232 : Cond := Cond.methodLink "RoundReckonerModel" (310 : Nat) ({ cls := "RoundReckonerModel", name := "goal", desc := "()I" } : MethodName)
set_option maxRecDepth 100000 in
theorem uw7_232m : uw7_232 ∈ tW0 := tInW 7 232 rfl rfl
noncomputable def uw7_234 : Cond := Cond.instanceMethod ({ cls := "RoundReckonerModel", name := "goal", desc := "()I" } : MethodName)
set_option maxRecDepth 100000 in
theorem uw7_234m : uw7_234 ∈ tW0 := tInW 7 234 rfl rfl
noncomputable def uw0_77 : Cond := Cond.selects "RoundReckonerModel" ⟨"RoundReckonerModel", "goal", "()I"⟩ ⟨"RoundReckonerModel", "goal", "()I"⟩
set_option maxRecDepth 100000 in
theorem uw0_77m : uw0_77 ∈ tW0 := tInW 0 77 rfl rfl
noncomputable def uw6_79 : Cond := Cond.fieldLink "RoundReckonerModel" (72 : Nat) "RoundReckonerModel" "kind" "[I"
set_option maxRecDepth 100000 in
theorem uw6_79m : uw6_79 ∈ tW0 := tInW 6 79 rfl rfl
noncomputable def uw8_11 : Cond := Cond.code ({ cls := "RoundReckonerModel", name := "value", desc := "(I)Z" } : MethodName) prog_14_method_32_code (3 : Nat) (Option.some FieldType.boolean)
set_option maxRecDepth 100000 in
theorem uw8_11m : uw8_11 ∈ tW0 := tInW 8 11 rfl rfl
noncomputable def uw8_8 : Cond := Cond.methodLink "RoundReckonerModel" (321 : Nat) ({ cls := "RoundReckonerModel", name := "value", desc := "(I)Z" } : MethodName)
set_option maxRecDepth 100000 in
theorem uw8_8m : uw8_8 ∈ tW0 := tInW 8 8 rfl rfl
noncomputable def uw8_10 : Cond := Cond.instanceMethod ({ cls := "RoundReckonerModel", name := "value", desc := "(I)Z" } : MethodName)
set_option maxRecDepth 100000 in
theorem uw8_10m : uw8_10 ∈ tW0 := tInW 8 10 rfl rfl
noncomputable def uw0_81 : Cond := Cond.selects "RoundReckonerModel" ⟨"RoundReckonerModel", "value", "(I)Z"⟩ ⟨"RoundReckonerModel", "value", "(I)Z"⟩
set_option maxRecDepth 100000 in
theorem uw0_81m : uw0_81 ∈ tW0 := tInW 0 81 rfl rfl
noncomputable def uw6_80 : Cond := Cond.fieldLink "RoundReckonerModel" (75 : Nat) "RoundReckonerModel" "goalPredicate" "[I"
set_option maxRecDepth 100000 in
theorem uw6_80m : uw6_80 ∈ tW0 := tInW 6 80 rfl rfl
noncomputable def uw6_81 : Cond := Cond.fieldLink "RoundReckonerModel" (78 : Nat) "RoundReckonerModel" "known" "[I"
set_option maxRecDepth 100000 in
theorem uw6_81m : uw6_81 ∈ tW0 := tInW 6 81 rfl rfl
noncomputable def uw7_211 : Cond := Cond.code ({ cls := "RoundReckonerModel", name := "predicate", desc := "(III)I" } : MethodName) prog_14_method_22_code (7 : Nat) (Option.some FieldType.int)
set_option maxRecDepth 100000 in
theorem uw7_211m : uw7_211 ∈ tW0 := tInW 7 211 rfl rfl
noncomputable def uw7_208 : Cond := Cond.methodLink "RoundReckonerModel" (314 : Nat) ({ cls := "RoundReckonerModel", name := "predicate", desc := "(III)I" } : MethodName)
set_option maxRecDepth 100000 in
theorem uw7_208m : uw7_208 ∈ tW0 := tInW 7 208 rfl rfl
noncomputable def uw7_210 : Cond := Cond.instanceMethod ({ cls := "RoundReckonerModel", name := "predicate", desc := "(III)I" } : MethodName)
set_option maxRecDepth 100000 in
theorem uw7_210m : uw7_210 ∈ tW0 := tInW 7 210 rfl rfl
noncomputable def uw0_71 : Cond := Cond.selects "RoundReckonerModel" ⟨"RoundReckonerModel", "predicate", "(III)I"⟩ ⟨"RoundReckonerModel", "predicate", "(III)I"⟩
set_option maxRecDepth 100000 in
theorem uw0_71m : uw0_71 ∈ tW0 := tInW 0 71 rfl rfl
noncomputable def uw7_215 : Cond := Cond.code ({ cls := "RoundReckonerModel", name := "newPredicate", desc := "(III)I" } : MethodName) prog_14_method_23_code (6 : Nat) (Option.some FieldType.int)
set_option maxRecDepth 100000 in
theorem uw7_215m : uw7_215 ∈ tW0 := tInW 7 215 rfl rfl
noncomputable def uw7_212 : Cond := Cond.methodLink "RoundReckonerModel" (318 : Nat) ({ cls := "RoundReckonerModel", name := "newPredicate", desc := "(III)I" } : MethodName)
set_option maxRecDepth 100000 in
theorem uw7_212m : uw7_212 ∈ tW0 := tInW 7 212 rfl rfl
noncomputable def uw7_214 : Cond := Cond.instanceMethod ({ cls := "RoundReckonerModel", name := "newPredicate", desc := "(III)I" } : MethodName)
set_option maxRecDepth 100000 in
theorem uw7_214m : uw7_214 ∈ tW0 := tInW 7 214 rfl rfl
noncomputable def uw0_72 : Cond := Cond.selects "RoundReckonerModel" ⟨"RoundReckonerModel", "newPredicate", "(III)I"⟩ ⟨"RoundReckonerModel", "newPredicate", "(III)I"⟩
set_option maxRecDepth 100000 in
theorem uw0_72m : uw0_72 ∈ tW0 := tInW 0 72 rfl rfl
noncomputable def uw7_239 : Cond := Cond.code ({ cls := "RoundReckonerModel", name := "atom", desc := "(ZZ)Z" } : MethodName) prog_14_method_31_code (11 : Nat) (Option.some FieldType.boolean)
set_option maxRecDepth 100000 in
theorem uw7_239m : uw7_239 ∈ tW0 := tInW 7 239 rfl rfl
noncomputable def uw7_236 : Cond := Cond.methodLink "RoundReckonerModel" (324 : Nat) ({ cls := "RoundReckonerModel", name := "atom", desc := "(ZZ)Z" } : MethodName)
set_option maxRecDepth 100000 in
theorem uw7_236m : uw7_236 ∈ tW0 := tInW 7 236 rfl rfl
noncomputable def uw7_238 : Cond := Cond.instanceMethod ({ cls := "RoundReckonerModel", name := "atom", desc := "(ZZ)Z" } : MethodName)
set_option maxRecDepth 100000 in
theorem uw7_238m : uw7_238 ∈ tW0 := tInW 7 238 rfl rfl
noncomputable def uw0_78 : Cond := Cond.selects "RoundReckonerModel" ⟨"RoundReckonerModel", "atom", "(ZZ)Z"⟩ ⟨"RoundReckonerModel", "atom", "(ZZ)Z"⟩
set_option maxRecDepth 100000 in
theorem uw0_78m : uw0_78 ∈ tW0 := tInW 0 78 rfl rfl
noncomputable def uw8_3 : Cond := Cond.code ({ cls := "RoundReckonerModel", name := "comparison", desc := "(I)Z" } : MethodName) prog_14_method_33_code (4 : Nat) (Option.some FieldType.boolean)
set_option maxRecDepth 100000 in
theorem uw8_3m : uw8_3 ∈ tW0 := tInW 8 3 rfl rfl
noncomputable def uw8_0 : Cond := Cond.methodLink "RoundReckonerModel" (328 : Nat) ({ cls := "RoundReckonerModel", name := "comparison", desc := "(I)Z" } : MethodName)
set_option maxRecDepth 100000 in
theorem uw8_0m : uw8_0 ∈ tW0 := tInW 8 0 rfl rfl
noncomputable def uw8_2 : Cond := Cond.instanceMethod ({ cls := "RoundReckonerModel", name := "comparison", desc := "(I)Z" } : MethodName)
set_option maxRecDepth 100000 in
theorem uw8_2m : uw8_2 ∈ tW0 := tInW 8 2 rfl rfl
noncomputable def uw0_79 : Cond := Cond.selects "RoundReckonerModel" ⟨"RoundReckonerModel", "comparison", "(I)Z"⟩ ⟨"RoundReckonerModel", "comparison", "(I)Z"⟩
set_option maxRecDepth 100000 in
theorem uw0_79m : uw0_79 ∈ tW0 := tInW 0 79 rfl rfl
noncomputable def uw7_231 : Cond := Cond.code ({ cls := "RoundReckonerModel", name := "oneGoal", desc := "(Z)Z" } : MethodName) prog_14_method_34_code (7 : Nat) (Option.some FieldType.boolean)
set_option maxRecDepth 100000 in
theorem uw7_231m : uw7_231 ∈ tW0 := tInW 7 231 rfl rfl
noncomputable def uw7_228 : Cond := Cond.methodLink "RoundReckonerModel" (331 : Nat) ({ cls := "RoundReckonerModel", name := "oneGoal", desc := "(Z)Z" } : MethodName)
set_option maxRecDepth 100000 in
theorem uw7_228m : uw7_228 ∈ tW0 := tInW 7 228 rfl rfl
noncomputable def uw7_230 : Cond := Cond.instanceMethod ({ cls := "RoundReckonerModel", name := "oneGoal", desc := "(Z)Z" } : MethodName)
set_option maxRecDepth 100000 in
theorem uw7_230m : uw7_230 ∈ tW0 := tInW 7 230 rfl rfl
noncomputable def uw0_76 : Cond := Cond.selects "RoundReckonerModel" ⟨"RoundReckonerModel", "oneGoal", "(Z)Z"⟩ ⟨"RoundReckonerModel", "oneGoal", "(Z)Z"⟩
set_option maxRecDepth 100000 in
theorem uw0_76m : uw0_76 ∈ tW0 := tInW 0 76 rfl rfl
noncomputable def uw6_77 : Cond := Cond.fieldLink "RoundReckonerModel" (66 : Nat) "RoundReckonerModel" "knownAll" "[I"
set_option maxRecDepth 100000 in
theorem uw6_77m : uw6_77 ∈ tW0 := tInW 6 77 rfl rfl
noncomputable def uw6_67 : Cond := Cond.fieldLink "RoundReckonerModel" (41 : Nat) "RoundReckonerModel" "factPredicate" "[I"
set_option maxRecDepth 100000 in
theorem uw6_67m : uw6_67 ∈ tW0 := tInW 6 67 rfl rfl
noncomputable def uw6_68 : Cond := Cond.fieldLink "RoundReckonerModel" (44 : Nat) "RoundReckonerModel" "factArgument" "[J"
set_option maxRecDepth 100000 in
theorem uw6_68m : uw6_68 ∈ tW0 := tInW 6 68 rfl rfl
noncomputable def uw6_84 : Cond := Cond.fieldLink "RoundReckonerModel" (334 : Nat) "RoundReckonerModel" "rules" "I"
set_option maxRecDepth 100000 in
theorem uw6_84m : uw6_84 ∈ tW0 := tInW 6 84 rfl rfl
noncomputable def uw6_85 : Cond := Cond.fieldLink "RoundReckonerModel" (337 : Nat) "RoundReckonerModel" "newRules" "I"
set_option maxRecDepth 100000 in
theorem uw6_85m : uw6_85 ∈ tW0 := tInW 6 85 rfl rfl
noncomputable def uw6_69 : Cond := Cond.fieldLink "RoundReckonerModel" (349 : Nat) "RoundReckonerModel" "facts" "I"
set_option maxRecDepth 100000 in
theorem uw6_69m : uw6_69 ∈ tW0 := tInW 6 69 rfl rfl
noncomputable def uw6_70 : Cond := Cond.fieldLink "RoundReckonerModel" (352 : Nat) "RoundReckonerModel" "newFacts" "I"
set_option maxRecDepth 100000 in
theorem uw6_70m : uw6_70 ∈ tW0 := tInW 6 70 rfl rfl
noncomputable def uw6_71 : Cond := Cond.fieldLink "RoundReckonerModel" (48 : Nat) "RoundReckonerModel" "headPredicate" "[I"
set_option maxRecDepth 100000 in
theorem uw6_71m : uw6_71 ∈ tW0 := tInW 6 71 rfl rfl
noncomputable def uw6_73 : Cond := Cond.fieldLink "RoundReckonerModel" (54 : Nat) "RoundReckonerModel" "hash" "[I"
set_option maxRecDepth 100000 in
theorem uw6_73m : uw6_73 ∈ tW0 := tInW 6 73 rfl rfl
noncomputable def uw6_74 : Cond := Cond.fieldLink "RoundReckonerModel" (57 : Nat) "RoundReckonerModel" "hashVariable" "[I"
set_option maxRecDepth 100000 in
theorem uw6_74m : uw6_74 ∈ tW0 := tInW 6 74 rfl rfl
noncomputable def uw6_72 : Cond := Cond.fieldLink "RoundReckonerModel" (51 : Nat) "RoundReckonerModel" "headSort" "[I"
set_option maxRecDepth 100000 in
theorem uw6_72m : uw6_72 ∈ tW0 := tInW 6 72 rfl rfl
noncomputable def uw6_78 : Cond := Cond.fieldLink "RoundReckonerModel" (69 : Nat) "RoundReckonerModel" "headArgument" "[J"
set_option maxRecDepth 100000 in
theorem uw6_78m : uw6_78 ∈ tW0 := tInW 6 78 rfl rfl
noncomputable def uw7_140 : Cond := Cond.code ({ cls := "RoundReckonerModel", name := "fresh", desc := "(I)V" } : MethodName) prog_14_method_36_code (2 : Nat) (Option.none : Option FieldType)
set_option maxRecDepth 100000 in
theorem uw7_140m : uw7_140 ∈ tW0 := tInW 7 140 rfl rfl
noncomputable def uw7_137 : Cond := Cond.methodLink "RoundReckonerModel" (340 : Nat) ({ cls := "RoundReckonerModel", name := "fresh", desc := "(I)V" } : MethodName)
set_option maxRecDepth 100000 in
theorem uw7_137m : uw7_137 ∈ tW0 := tInW 7 137 rfl rfl
noncomputable def uw7_139 : Cond := Cond.instanceMethod ({ cls := "RoundReckonerModel", name := "fresh", desc := "(I)V" } : MethodName)
set_option maxRecDepth 100000 in
theorem uw7_139m : uw7_139 ∈ tW0 := tInW 7 139 rfl rfl
noncomputable def uw0_54 : Cond := Cond.selects "RoundReckonerModel" ⟨"RoundReckonerModel", "fresh", "(I)V"⟩ ⟨"RoundReckonerModel", "fresh", "(I)V"⟩
set_option maxRecDepth 100000 in
theorem uw0_54m : uw0_54 ∈ tW0 := tInW 0 54 rfl rfl
noncomputable def uw7_144 : Cond := Cond.code ({ cls := "RoundReckonerModel", name := "head", desc := "()Z" } : MethodName) prog_14_method_26_code (2 : Nat) (Option.some FieldType.boolean)
set_option maxRecDepth 100000 in
theorem uw7_144m : uw7_144 ∈ tW0 := tInW 7 144 rfl rfl
noncomputable def uw7_141 : Cond := Cond.methodLink "RoundReckonerModel" (343 : Nat) ({ cls := "RoundReckonerModel", name := "head", desc := "()Z" } : MethodName)
set_option maxRecDepth 100000 in
theorem uw7_141m : uw7_141 ∈ tW0 := tInW 7 141 rfl rfl
noncomputable def uw7_143 : Cond := Cond.instanceMethod ({ cls := "RoundReckonerModel", name := "head", desc := "()Z" } : MethodName)
set_option maxRecDepth 100000 in
theorem uw7_143m : uw7_143 ∈ tW0 := tInW 7 143 rfl rfl
noncomputable def uw0_55 : Cond := Cond.selects "RoundReckonerModel" ⟨"RoundReckonerModel", "head", "()Z"⟩ ⟨"RoundReckonerModel", "head", "()Z"⟩
set_option maxRecDepth 100000 in
theorem uw0_55m : uw0_55 ∈ tW0 := tInW 0 55 rfl rfl
noncomputable def uw7_219 : Cond := Cond.code ({ cls := "RoundReckonerModel", name := "isFact", desc := "()Z" } : MethodName) prog_14_method_39_code (2 : Nat) (Option.some FieldType.boolean)
set_option maxRecDepth 100000 in
theorem uw7_219m : uw7_219 ∈ tW0 := tInW 7 219 rfl rfl
noncomputable def uw7_216 : Cond := Cond.methodLink "RoundReckonerModel" (346 : Nat) ({ cls := "RoundReckonerModel", name := "isFact", desc := "()Z" } : MethodName)
set_option maxRecDepth 100000 in
theorem uw7_216m : uw7_216 ∈ tW0 := tInW 7 216 rfl rfl
noncomputable def uw7_218 : Cond := Cond.instanceMethod ({ cls := "RoundReckonerModel", name := "isFact", desc := "()Z" } : MethodName)
set_option maxRecDepth 100000 in
theorem uw7_218m : uw7_218 ∈ tW0 := tInW 7 218 rfl rfl
noncomputable def uw0_73 : Cond := Cond.selects "RoundReckonerModel" ⟨"RoundReckonerModel", "isFact", "()Z"⟩ ⟨"RoundReckonerModel", "isFact", "()Z"⟩
set_option maxRecDepth 100000 in
theorem uw0_73m : uw0_73 ∈ tW0 := tInW 0 73 rfl rfl
noncomputable def uw7_223 : Cond := Cond.code ({ cls := "RoundReckonerModel", name := "factOf", desc := "(II)I" } : MethodName) prog_14_method_38_code (6 : Nat) (Option.some FieldType.int)
set_option maxRecDepth 100000 in
theorem uw7_223m : uw7_223 ∈ tW0 := tInW 7 223 rfl rfl
noncomputable def uw7_220 : Cond := Cond.methodLink "RoundReckonerModel" (355 : Nat) ({ cls := "RoundReckonerModel", name := "factOf", desc := "(II)I" } : MethodName)
set_option maxRecDepth 100000 in
theorem uw7_220m : uw7_220 ∈ tW0 := tInW 7 220 rfl rfl
noncomputable def uw7_222 : Cond := Cond.instanceMethod ({ cls := "RoundReckonerModel", name := "factOf", desc := "(II)I" } : MethodName)
set_option maxRecDepth 100000 in
theorem uw7_222m : uw7_222 ∈ tW0 := tInW 7 222 rfl rfl
noncomputable def uw0_74 : Cond := Cond.selects "RoundReckonerModel" ⟨"RoundReckonerModel", "factOf", "(II)I"⟩ ⟨"RoundReckonerModel", "factOf", "(II)I"⟩
set_option maxRecDepth 100000 in
theorem uw0_74m : uw0_74 ∈ tW0 := tInW 0 74 rfl rfl
noncomputable def uw7_227 : Cond := Cond.code ({ cls := "RoundReckonerModel", name := "goals", desc := "(Z)Z" } : MethodName) prog_14_method_35_code (3 : Nat) (Option.some FieldType.boolean)
set_option maxRecDepth 100000 in
theorem uw7_227m : uw7_227 ∈ tW0 := tInW 7 227 rfl rfl
noncomputable def uw7_224 : Cond := Cond.methodLink "RoundReckonerModel" (359 : Nat) ({ cls := "RoundReckonerModel", name := "goals", desc := "(Z)Z" } : MethodName)
set_option maxRecDepth 100000 in
theorem uw7_224m : uw7_224 ∈ tW0 := tInW 7 224 rfl rfl
noncomputable def uw7_226 : Cond := Cond.instanceMethod ({ cls := "RoundReckonerModel", name := "goals", desc := "(Z)Z" } : MethodName)
set_option maxRecDepth 100000 in
theorem uw7_226m : uw7_226 ∈ tW0 := tInW 7 226 rfl rfl
noncomputable def uw0_75 : Cond := Cond.selects "RoundReckonerModel" ⟨"RoundReckonerModel", "goals", "(Z)Z"⟩ ⟨"RoundReckonerModel", "goals", "(Z)Z"⟩
set_option maxRecDepth 100000 in
theorem uw0_75m : uw0_75 ∈ tW0 := tInW 0 75 rfl rfl
noncomputable def uw8_15 : Cond := Cond.code ({ cls := "RoundReckonerModel", name := "sortOwed", desc := "()V" } : MethodName) prog_14_method_41_code (3 : Nat) (Option.none : Option FieldType)
set_option maxRecDepth 100000 in
theorem uw8_15m : uw8_15 ∈ tW0 := tInW 8 15 rfl rfl
noncomputable def uw8_12 : Cond := Cond.methodLink "RoundReckonerModel" (361 : Nat) ({ cls := "RoundReckonerModel", name := "sortOwed", desc := "()V" } : MethodName)
set_option maxRecDepth 100000 in
theorem uw8_12m : uw8_12 ∈ tW0 := tInW 8 12 rfl rfl
noncomputable def uw8_14 : Cond := Cond.instanceMethod ({ cls := "RoundReckonerModel", name := "sortOwed", desc := "()V" } : MethodName)
set_option maxRecDepth 100000 in
theorem uw8_14m : uw8_14 ∈ tW0 := tInW 8 14 rfl rfl
noncomputable def uw0_82 : Cond := Cond.selects "RoundReckonerModel" ⟨"RoundReckonerModel", "sortOwed", "()V"⟩ ⟨"RoundReckonerModel", "sortOwed", "()V"⟩
set_option maxRecDepth 100000 in
theorem uw0_82m : uw0_82 ∈ tW0 := tInW 0 82 rfl rfl
noncomputable def uw8_23 : Cond := Cond.code ({ cls := "RoundReckonerModel", name := "isPaid", desc := "()Z" } : MethodName) prog_14_method_29_code (3 : Nat) (Option.some FieldType.boolean)
set_option maxRecDepth 100000 in
theorem uw8_23m : uw8_23 ∈ tW0 := tInW 8 23 rfl rfl
noncomputable def uw8_20 : Cond := Cond.methodLink "RoundReckonerModel" (364 : Nat) ({ cls := "RoundReckonerModel", name := "isPaid", desc := "()Z" } : MethodName)
set_option maxRecDepth 100000 in
theorem uw8_20m : uw8_20 ∈ tW0 := tInW 8 20 rfl rfl
noncomputable def uw8_22 : Cond := Cond.instanceMethod ({ cls := "RoundReckonerModel", name := "isPaid", desc := "()Z" } : MethodName)
set_option maxRecDepth 100000 in
theorem uw8_22m : uw8_22 ∈ tW0 := tInW 8 22 rfl rfl
noncomputable def uw0_84 : Cond := Cond.selects "RoundReckonerModel" ⟨"RoundReckonerModel", "isPaid", "()Z"⟩ ⟨"RoundReckonerModel", "isPaid", "()Z"⟩
set_option maxRecDepth 100000 in
theorem uw0_84m : uw0_84 ∈ tW0 := tInW 0 84 rfl rfl
noncomputable def uw8_27 : Cond := Cond.code ({ cls := "RoundReckonerModel", name := "loosen", desc := "()V" } : MethodName) prog_14_method_37_code (4 : Nat) (Option.none : Option FieldType)
set_option maxRecDepth 100000 in
theorem uw8_27m : uw8_27 ∈ tW0 := tInW 8 27 rfl rfl
noncomputable def uw8_24 : Cond := Cond.methodLink "RoundReckonerModel" (367 : Nat) ({ cls := "RoundReckonerModel", name := "loosen", desc := "()V" } : MethodName)
set_option maxRecDepth 100000 in
theorem uw8_24m : uw8_24 ∈ tW0 := tInW 8 24 rfl rfl
noncomputable def uw8_26 : Cond := Cond.instanceMethod ({ cls := "RoundReckonerModel", name := "loosen", desc := "()V" } : MethodName)
set_option maxRecDepth 100000 in
theorem uw8_26m : uw8_26 ∈ tW0 := tInW 8 26 rfl rfl
noncomputable def uw0_85 : Cond := Cond.selects "RoundReckonerModel" ⟨"RoundReckonerModel", "loosen", "()V"⟩ ⟨"RoundReckonerModel", "loosen", "()V"⟩
set_option maxRecDepth 100000 in
theorem uw0_85m : uw0_85 ∈ tW0 := tInW 0 85 rfl rfl
noncomputable def uw6_111 : Cond := Cond.fieldLink "RoundReckonerModel" (384 : Nat) "RoundReckonerModel" "isRun" "Z"
set_option maxRecDepth 100000 in
theorem uw6_111m : uw6_111 ∈ tW0 := tInW 6 111 rfl rfl
noncomputable def uw6_145 : Cond := Cond.fieldLink "RoundReckonerModel" (388 : Nat) "RoundReckonerModel" "answers" "I"
set_option maxRecDepth 100000 in
theorem uw6_145m : uw6_145 ∈ tW0 := tInW 6 145 rfl rfl
noncomputable def uw6_65 : Cond := Cond.fieldLink "RoundReckonerModel" (376 : Nat) "RoundReckonerModel" "predicates" "I"
set_option maxRecDepth 100000 in
theorem uw6_65m : uw6_65 ∈ tW0 := tInW 6 65 rfl rfl
noncomputable def uw7_124 : Cond := Cond.code ({ cls := "RoundReckonerModel", name := "begin", desc := "()V" } : MethodName) prog_14_method_7_code (1 : Nat) (Option.none : Option FieldType)
set_option maxRecDepth 100000 in
theorem uw7_124m : uw7_124 ∈ tW0 := tInW 7 124 rfl rfl
noncomputable def uw7_121 : Cond := Cond.methodLink "RoundReckonerModel" (373 : Nat) ({ cls := "RoundReckonerModel", name := "begin", desc := "()V" } : MethodName)
set_option maxRecDepth 100000 in
theorem uw7_121m : uw7_121 ∈ tW0 := tInW 7 121 rfl rfl
noncomputable def uw7_123 : Cond := Cond.instanceMethod ({ cls := "RoundReckonerModel", name := "begin", desc := "()V" } : MethodName)
set_option maxRecDepth 100000 in
theorem uw7_123m : uw7_123 ∈ tW0 := tInW 7 123 rfl rfl
noncomputable def uw0_50 : Cond := Cond.selects "RoundReckonerModel" ⟨"RoundReckonerModel", "begin", "()V"⟩ ⟨"RoundReckonerModel", "begin", "()V"⟩
set_option maxRecDepth 100000 in
theorem uw0_50m : uw0_50 ∈ tW0 := tInW 0 50 rfl rfl
noncomputable def uw7_136 : Cond := Cond.code ({ cls := "RoundReckonerModel", name := "clause", desc := "()Z" } : MethodName) prog_14_method_40_code (4 : Nat) (Option.some FieldType.boolean)
set_option maxRecDepth 100000 in
theorem uw7_136m : uw7_136 ∈ tW0 := tInW 7 136 rfl rfl
noncomputable def uw7_133 : Cond := Cond.methodLink "RoundReckonerModel" (379 : Nat) ({ cls := "RoundReckonerModel", name := "clause", desc := "()Z" } : MethodName)
set_option maxRecDepth 100000 in
theorem uw7_133m : uw7_133 ∈ tW0 := tInW 7 133 rfl rfl
noncomputable def uw7_135 : Cond := Cond.instanceMethod ({ cls := "RoundReckonerModel", name := "clause", desc := "()Z" } : MethodName)
set_option maxRecDepth 100000 in
theorem uw7_135m : uw7_135 ∈ tW0 := tInW 7 135 rfl rfl
noncomputable def uw0_53 : Cond := Cond.selects "RoundReckonerModel" ⟨"RoundReckonerModel", "clause", "()Z"⟩ ⟨"RoundReckonerModel", "clause", "()Z"⟩
set_option maxRecDepth 100000 in
theorem uw0_53m : uw0_53 ∈ tW0 := tInW 0 53 rfl rfl
noncomputable def uw8_31 : Cond := Cond.code ({ cls := "RoundReckonerModel", name := "change", desc := "()V" } : MethodName) prog_14_method_44_code (1 : Nat) (Option.none : Option FieldType)
set_option maxRecDepth 100000 in
theorem uw8_31m : uw8_31 ∈ tW0 := tInW 8 31 rfl rfl
noncomputable def uw8_28 : Cond := Cond.methodLink "RoundReckonerModel" (381 : Nat) ({ cls := "RoundReckonerModel", name := "change", desc := "()V" } : MethodName)
set_option maxRecDepth 100000 in
theorem uw8_28m : uw8_28 ∈ tW0 := tInW 8 28 rfl rfl
noncomputable def uw8_30 : Cond := Cond.instanceMethod ({ cls := "RoundReckonerModel", name := "change", desc := "()V" } : MethodName)
set_option maxRecDepth 100000 in
theorem uw8_30m : uw8_30 ∈ tW0 := tInW 8 30 rfl rfl
noncomputable def uw0_86 : Cond := Cond.selects "RoundReckonerModel" ⟨"RoundReckonerModel", "change", "()V"⟩ ⟨"RoundReckonerModel", "change", "()V"⟩
set_option maxRecDepth 100000 in
theorem uw0_86m : uw0_86 ∈ tW0 := tInW 0 86 rfl rfl
noncomputable def uw8_43 : Cond := Cond.code ({ cls := "RoundReckonerModel", name := "copyRule", desc := "(II)V" } : MethodName) prog_14_method_47_code (4 : Nat) (Option.none : Option FieldType)
set_option maxRecDepth 100000 in
theorem uw8_43m : uw8_43 ∈ tW0 := tInW 8 43 rfl rfl
noncomputable def uw8_40 : Cond := Cond.methodLink "RoundReckonerModel" (391 : Nat) ({ cls := "RoundReckonerModel", name := "copyRule", desc := "(II)V" } : MethodName)
set_option maxRecDepth 100000 in
theorem uw8_40m : uw8_40 ∈ tW0 := tInW 8 40 rfl rfl
noncomputable def uw8_42 : Cond := Cond.instanceMethod ({ cls := "RoundReckonerModel", name := "copyRule", desc := "(II)V" } : MethodName)
set_option maxRecDepth 100000 in
theorem uw8_42m : uw8_42 ∈ tW0 := tInW 8 42 rfl rfl
noncomputable def uw0_87 : Cond := Cond.selects "RoundReckonerModel" ⟨"RoundReckonerModel", "copyRule", "(II)V"⟩ ⟨"RoundReckonerModel", "copyRule", "(II)V"⟩
set_option maxRecDepth 100000 in
theorem uw0_87m : uw0_87 ∈ tW0 := tInW 0 87 rfl rfl
noncomputable def uw8_91 : Cond := Cond.constantLong "RoundReckonerModel" 410 (Int64.ofInt 549755813888)
set_option maxRecDepth 100000 in
theorem uw8_91m : uw8_91 ∈ tW0 := inAt_ok (ws := [uw8_91]) (is := [(8, 91)]) (by decide +kernel) _ (List.mem_cons_self ..)
noncomputable def uw6_121 : Cond := Cond.fieldLink "RoundReckonerModel" (142 : Nat) "RoundReckonerModel" "firstTuple" "[I"
set_option maxRecDepth 100000 in
theorem uw6_121m : uw6_121 ∈ tW0 := tInW 6 121 rfl rfl
noncomputable def uw6_120 : Cond := Cond.fieldLink "RoundReckonerModel" (139 : Nat) "RoundReckonerModel" "tuple" "[J"
set_option maxRecDepth 100000 in
theorem uw6_120m : uw6_120 ∈ tW0 := tInW 6 120 rfl rfl
noncomputable def uw6_130 : Cond := Cond.fieldLink "RoundReckonerModel" (148 : Nat) "RoundReckonerModel" "made" "[J"
set_option maxRecDepth 100000 in
theorem uw6_130m : uw6_130 ∈ tW0 := tInW 6 130 rfl rfl
noncomputable def uw6_117 : Cond := Cond.fieldLink "RoundReckonerModel" (130 : Nat) "RoundReckonerModel" "tupleNext" "[I"
set_option maxRecDepth 100000 in
theorem uw6_117m : uw6_117 ∈ tW0 := tInW 6 117 rfl rfl
noncomputable def uw6_123 : Cond := Cond.fieldLink "RoundReckonerModel" (401 : Nat) "RoundReckonerModel" "tuples" "I"
set_option maxRecDepth 100000 in
theorem uw6_123m : uw6_123 ∈ tW0 := tInW 6 123 rfl rfl
noncomputable def uw6_129 : Cond := Cond.fieldLink "RoundReckonerModel" (404 : Nat) "RoundReckonerModel" "bad" "I"
set_option maxRecDepth 100000 in
theorem uw6_129m : uw6_129 ∈ tW0 := tInW 6 129 rfl rfl
noncomputable def uw6_114 : Cond := Cond.fieldLink "RoundReckonerModel" (121 : Nat) "RoundReckonerModel" "tuplePredicate" "[I"
set_option maxRecDepth 100000 in
theorem uw6_114m : uw6_114 ∈ tW0 := tInW 6 114 rfl rfl
noncomputable def uw6_115 : Cond := Cond.fieldLink "RoundReckonerModel" (124 : Nat) "RoundReckonerModel" "tupleRound" "[I"
set_option maxRecDepth 100000 in
theorem uw6_115m : uw6_115 ∈ tW0 := tInW 6 115 rfl rfl
noncomputable def uw6_128 : Cond := Cond.fieldLink "RoundReckonerModel" (407 : Nat) "RoundReckonerModel" "round" "I"
set_option maxRecDepth 100000 in
theorem uw6_128m : uw6_128 ∈ tW0 := tInW 6 128 rfl rfl
noncomputable def uw6_116 : Cond := Cond.fieldLink "RoundReckonerModel" (127 : Nat) "RoundReckonerModel" "tupleRule" "[I"
set_option maxRecDepth 100000 in
theorem uw6_116m : uw6_116 ∈ tW0 := tInW 6 116 rfl rfl
noncomputable def uw6_118 : Cond := Cond.fieldLink "RoundReckonerModel" (133 : Nat) "RoundReckonerModel" "whyMany" "[I"
set_option maxRecDepth 100000 in
theorem uw6_118m : uw6_118 ∈ tW0 := tInW 6 118 rfl rfl
noncomputable def uw6_122 : Cond := Cond.fieldLink "RoundReckonerModel" (145 : Nat) "RoundReckonerModel" "lastTuple" "[I"
set_option maxRecDepth 100000 in
theorem uw6_122m : uw6_122 ∈ tW0 := tInW 6 122 rfl rfl
noncomputable def uw6_119 : Cond := Cond.fieldLink "RoundReckonerModel" (136 : Nat) "RoundReckonerModel" "why" "[I"
set_option maxRecDepth 100000 in
theorem uw6_119m : uw6_119 ∈ tW0 := tInW 6 119 rfl rfl
noncomputable def uw6_132 : Cond := Cond.fieldLink "RoundReckonerModel" (154 : Nat) "RoundReckonerModel" "standing" "[I"
set_option maxRecDepth 100000 in
theorem uw6_132m : uw6_132 ∈ tW0 := tInW 6 132 rfl rfl
noncomputable def uw8_63 : Cond := Cond.code ({ cls := "RoundReckonerModel", name := "tupleOf", desc := "(I)I" } : MethodName) prog_14_method_49_code (5 : Nat) (Option.some FieldType.int)
set_option maxRecDepth 100000 in
theorem uw8_63m : uw8_63 ∈ tW0 := tInW 8 63 rfl rfl
noncomputable def uw8_60 : Cond := Cond.methodLink "RoundReckonerModel" (398 : Nat) ({ cls := "RoundReckonerModel", name := "tupleOf", desc := "(I)I" } : MethodName)
set_option maxRecDepth 100000 in
theorem uw8_60m : uw8_60 ∈ tW0 := tInW 8 60 rfl rfl
noncomputable def uw8_62 : Cond := Cond.instanceMethod ({ cls := "RoundReckonerModel", name := "tupleOf", desc := "(I)I" } : MethodName)
set_option maxRecDepth 100000 in
theorem uw8_62m : uw8_62 ∈ tW0 := tInW 8 62 rfl rfl
noncomputable def uw0_91 : Cond := Cond.selects "RoundReckonerModel" ⟨"RoundReckonerModel", "tupleOf", "(I)I"⟩ ⟨"RoundReckonerModel", "tupleOf", "(I)I"⟩
set_option maxRecDepth 100000 in
theorem uw0_91m : uw0_91 ∈ tW0 := tInW 0 91 rfl rfl
noncomputable def uw6_131 : Cond := Cond.fieldLink "RoundReckonerModel" (151 : Nat) "RoundReckonerModel" "variable" "[J"
set_option maxRecDepth 100000 in
theorem uw6_131m : uw6_131 ∈ tW0 := tInW 6 131 rfl rfl
noncomputable def uw6_134 : Cond := Cond.fieldLink "RoundReckonerModel" (412 : Nat) "RoundReckonerModel" "newFrom" "I"
set_option maxRecDepth 100000 in
theorem uw6_134m : uw6_134 ∈ tW0 := tInW 6 134 rfl rfl
noncomputable def uw6_135 : Cond := Cond.fieldLink "RoundReckonerModel" (415 : Nat) "RoundReckonerModel" "newTo" "I"
set_option maxRecDepth 100000 in
theorem uw6_135m : uw6_135 ∈ tW0 := tInW 6 135 rfl rfl
noncomputable def uw6_136 : Cond := Cond.fieldLink "RoundReckonerModel" (418 : Nat) "RoundReckonerModel" "needsNew" "Z"
set_option maxRecDepth 100000 in
theorem uw6_136m : uw6_136 ∈ tW0 := tInW 6 136 rfl rfl
noncomputable def uw8_121 : Cond := Cond.code ({ cls := "RoundReckonerModel", name := "isNew", desc := "(I)Z" } : MethodName) prog_14_method_54_code (2 : Nat) (Option.some FieldType.boolean)
set_option maxRecDepth 100000 in
theorem uw8_121m : uw8_121 ∈ tW0 := tInW 8 121 rfl rfl
noncomputable def uw8_118 : Cond := Cond.methodLink "RoundReckonerModel" (421 : Nat) ({ cls := "RoundReckonerModel", name := "isNew", desc := "(I)Z" } : MethodName)
set_option maxRecDepth 100000 in
theorem uw8_118m : uw8_118 ∈ tW0 := tInW 8 118 rfl rfl
noncomputable def uw8_120 : Cond := Cond.instanceMethod ({ cls := "RoundReckonerModel", name := "isNew", desc := "(I)Z" } : MethodName)
set_option maxRecDepth 100000 in
theorem uw8_120m : uw8_120 ∈ tW0 := tInW 8 120 rfl rfl
noncomputable def uw0_104 : Cond := Cond.selects "RoundReckonerModel" ⟨"RoundReckonerModel", "isNew", "(I)Z"⟩ ⟨"RoundReckonerModel", "isNew", "(I)Z"⟩
set_option maxRecDepth 100000 in
theorem uw0_104m : uw0_104 ∈ tW0 := tInW 0 104 rfl rfl
noncomputable def uw6_133 : Cond := Cond.fieldLink "RoundReckonerModel" (428 : Nat) "RoundReckonerModel" "limit" "I"
set_option maxRecDepth 100000 in
theorem uw6_133m : uw6_133 ∈ tW0 := tInW 6 133 rfl rfl
noncomputable def uw8_117 : Cond := Cond.code ({ cls := "RoundReckonerModel", name := "asksNew", desc := "(II)Z" } : MethodName) prog_14_method_55_code (4 : Nat) (Option.some FieldType.boolean)
set_option maxRecDepth 100000 in
theorem uw8_117m : uw8_117 ∈ tW0 := tInW 8 117 rfl rfl
noncomputable def uw8_114 : Cond := Cond.methodLink "RoundReckonerModel" (424 : Nat) ({ cls := "RoundReckonerModel", name := "asksNew", desc := "(II)Z" } : MethodName)
set_option maxRecDepth 100000 in
theorem uw8_114m : uw8_114 ∈ tW0 := tInW 8 114 rfl rfl
noncomputable def uw8_116 : Cond := Cond.instanceMethod ({ cls := "RoundReckonerModel", name := "asksNew", desc := "(II)Z" } : MethodName)
set_option maxRecDepth 100000 in
theorem uw8_116m : uw8_116 ∈ tW0 := tInW 8 116 rfl rfl
noncomputable def uw0_103 : Cond := Cond.selects "RoundReckonerModel" ⟨"RoundReckonerModel", "asksNew", "(II)Z"⟩ ⟨"RoundReckonerModel", "asksNew", "(II)Z"⟩
set_option maxRecDepth 100000 in
theorem uw0_103m : uw0_103 ∈ tW0 := tInW 0 103 rfl rfl
noncomputable def uw8_103 : Cond := Cond.code ({ cls := "RoundReckonerModel", name := "matches", desc := "(II)Z" } : MethodName) prog_14_method_53_code (9 : Nat) (Option.some FieldType.boolean)
set_option maxRecDepth 100000 in
theorem uw8_103m : uw8_103 ∈ tW0 := tInW 8 103 rfl rfl
noncomputable def uw8_100 : Cond := Cond.methodLink "RoundReckonerModel" (431 : Nat) ({ cls := "RoundReckonerModel", name := "matches", desc := "(II)Z" } : MethodName)
set_option maxRecDepth 100000 in
theorem uw8_100m : uw8_100 ∈ tW0 := tInW 8 100 rfl rfl
noncomputable def uw8_102 : Cond := Cond.instanceMethod ({ cls := "RoundReckonerModel", name := "matches", desc := "(II)Z" } : MethodName)
set_option maxRecDepth 100000 in
theorem uw8_102m : uw8_102 ∈ tW0 := tInW 8 102 rfl rfl
noncomputable def uw0_100 : Cond := Cond.selects "RoundReckonerModel" ⟨"RoundReckonerModel", "matches", "(II)Z"⟩ ⟨"RoundReckonerModel", "matches", "(II)Z"⟩
set_option maxRecDepth 100000 in
theorem uw0_100m : uw0_100 ∈ tW0 := tInW 0 100 rfl rfl
noncomputable def uw8_108 : Cond := Cond.constantLong "RoundReckonerModel" 441 (Int64.ofInt (-100000000))
set_option maxRecDepth 100000 in
theorem uw8_108m : uw8_108 ∈ tW0 := inAt_ok (ws := [uw8_108]) (is := [(8, 108)]) (by decide +kernel) _ (List.mem_cons_self ..)
noncomputable def uw8_109 : Cond := Cond.constantLong "RoundReckonerModel" 443 (Int64.ofInt 100000000)
set_option maxRecDepth 100000 in
theorem uw8_109m : uw8_109 ∈ tW0 := inAt_ok (ws := [uw8_109]) (is := [(8, 109)]) (by decide +kernel) _ (List.mem_cons_self ..)
noncomputable def uw8_107 : Cond := Cond.code ({ cls := "RoundReckonerModel", name := "worth", desc := "(I)J" } : MethodName) prog_14_method_52_code (2 : Nat) (Option.some FieldType.long)
set_option maxRecDepth 100000 in
theorem uw8_107m : uw8_107 ∈ tW0 := tInW 8 107 rfl rfl
noncomputable def uw8_104 : Cond := Cond.methodLink "RoundReckonerModel" (434 : Nat) ({ cls := "RoundReckonerModel", name := "worth", desc := "(I)J" } : MethodName)
set_option maxRecDepth 100000 in
theorem uw8_104m : uw8_104 ∈ tW0 := tInW 8 104 rfl rfl
noncomputable def uw8_106 : Cond := Cond.instanceMethod ({ cls := "RoundReckonerModel", name := "worth", desc := "(I)J" } : MethodName)
set_option maxRecDepth 100000 in
theorem uw8_106m : uw8_106 ∈ tW0 := tInW 8 106 rfl rfl
noncomputable def uw0_101 : Cond := Cond.selects "RoundReckonerModel" ⟨"RoundReckonerModel", "worth", "(I)J"⟩ ⟨"RoundReckonerModel", "worth", "(I)J"⟩
set_option maxRecDepth 100000 in
theorem uw0_101m : uw0_101 ∈ tW0 := tInW 0 101 rfl rfl
noncomputable def uw8_90 : Cond := Cond.code ({ cls := "RoundReckonerModel", name := "isNumber", desc := "(J)Z" } : MethodName) prog_14_method_51_code (2 : Nat) (Option.some FieldType.boolean)
set_option maxRecDepth 100000 in
theorem uw8_90m : uw8_90 ∈ tW0 := tInW 8 90 rfl rfl
noncomputable def uw8_88 : Cond := Cond.methodLink "RoundReckonerModel" (438 : Nat) ({ cls := "RoundReckonerModel", name := "isNumber", desc := "(J)Z" } : MethodName)
set_option maxRecDepth 100000 in
theorem uw8_88m : uw8_88 ∈ tW0 := tInW 8 88 rfl rfl
noncomputable def uw8_89 : Cond := Cond.static ({ cls := "RoundReckonerModel", name := "isNumber", desc := "(J)Z" } : MethodName)
set_option maxRecDepth 100000 in
theorem uw8_89m : uw8_89 ∈ tW0 := tInW 8 89 rfl rfl
noncomputable def uw6_146 : Cond := Cond.fieldLink "RoundReckonerModel" (525 : Nat) "RoundReckonerModel" "founds" "I"
set_option maxRecDepth 100000 in
theorem uw6_146m : uw6_146 ∈ tW0 := tInW 6 146 rfl rfl
noncomputable def uw6_144 : Cond := Cond.fieldLink "RoundReckonerModel" (175 : Nat) "RoundReckonerModel" "found" "[J"
set_option maxRecDepth 100000 in
theorem uw6_144m : uw6_144 ∈ tW0 := tInW 6 144 rfl rfl
noncomputable def uw8_79 : Cond := Cond.code ({ cls := "RoundReckonerModel", name := "makeHead", desc := "(I)V" } : MethodName) prog_14_method_60_code (3 : Nat) (Option.none : Option FieldType)
set_option maxRecDepth 100000 in
theorem uw8_79m : uw8_79 ∈ tW0 := tInW 8 79 rfl rfl
noncomputable def uw8_76 : Cond := Cond.methodLink "RoundReckonerModel" (467 : Nat) ({ cls := "RoundReckonerModel", name := "makeHead", desc := "(I)V" } : MethodName)
set_option maxRecDepth 100000 in
theorem uw8_76m : uw8_76 ∈ tW0 := tInW 8 76 rfl rfl
noncomputable def uw8_78 : Cond := Cond.instanceMethod ({ cls := "RoundReckonerModel", name := "makeHead", desc := "(I)V" } : MethodName)
set_option maxRecDepth 100000 in
theorem uw8_78m : uw8_78 ∈ tW0 := tInW 8 78 rfl rfl
noncomputable def uw0_95 : Cond := Cond.selects "RoundReckonerModel" ⟨"RoundReckonerModel", "makeHead", "(I)V"⟩ ⟨"RoundReckonerModel", "makeHead", "(I)V"⟩
set_option maxRecDepth 100000 in
theorem uw0_95m : uw0_95 ∈ tW0 := tInW 0 95 rfl rfl
noncomputable def uw8_59 : Cond := Cond.code ({ cls := "RoundReckonerModel", name := "come", desc := "(II)V" } : MethodName) prog_14_method_50_code (5 : Nat) (Option.none : Option FieldType)
set_option maxRecDepth 100000 in
theorem uw8_59m : uw8_59 ∈ tW0 := tInW 8 59 rfl rfl
noncomputable def uw8_56 : Cond := Cond.methodLink "RoundReckonerModel" (470 : Nat) ({ cls := "RoundReckonerModel", name := "come", desc := "(II)V" } : MethodName)
set_option maxRecDepth 100000 in
theorem uw8_56m : uw8_56 ∈ tW0 := tInW 8 56 rfl rfl
noncomputable def uw8_58 : Cond := Cond.instanceMethod ({ cls := "RoundReckonerModel", name := "come", desc := "(II)V" } : MethodName)
set_option maxRecDepth 100000 in
theorem uw8_58m : uw8_58 ∈ tW0 := tInW 8 58 rfl rfl
noncomputable def uw0_90 : Cond := Cond.selects "RoundReckonerModel" ⟨"RoundReckonerModel", "come", "(II)V"⟩ ⟨"RoundReckonerModel", "come", "(II)V"⟩
set_option maxRecDepth 100000 in
theorem uw0_90m : uw0_90 ∈ tW0 := tInW 0 90 rfl rfl
noncomputable def uw6_137 : Cond := Cond.fieldLink "RoundReckonerModel" (157 : Nat) "RoundReckonerModel" "row" "[J"
set_option maxRecDepth 100000 in
theorem uw6_137m : uw6_137 ∈ tW0 := tInW 6 137 rfl rfl
noncomputable def uw6_142 : Cond := Cond.fieldLink "RoundReckonerModel" (473 : Nat) "RoundReckonerModel" "rows" "I"
set_option maxRecDepth 100000 in
theorem uw6_142m : uw6_142 ∈ tW0 := tInW 6 142 rfl rfl
noncomputable def uw6_138 : Cond := Cond.fieldLink "RoundReckonerModel" (160 : Nat) "RoundReckonerModel" "rowMany" "[I"
set_option maxRecDepth 100000 in
theorem uw6_138m : uw6_138 ∈ tW0 := tInW 6 138 rfl rfl
noncomputable def uw6_139 : Cond := Cond.fieldLink "RoundReckonerModel" (163 : Nat) "RoundReckonerModel" "rowSum" "[I"
set_option maxRecDepth 100000 in
theorem uw6_139m : uw6_139 ∈ tW0 := tInW 6 139 rfl rfl
noncomputable def uw6_141 : Cond := Cond.fieldLink "RoundReckonerModel" (169 : Nat) "RoundReckonerModel" "rowHas" "[Z"
set_option maxRecDepth 100000 in
theorem uw6_141m : uw6_141 ∈ tW0 := tInW 6 141 rfl rfl
noncomputable def uw6_140 : Cond := Cond.fieldLink "RoundReckonerModel" (166 : Nat) "RoundReckonerModel" "rowBest" "[J"
set_option maxRecDepth 100000 in
theorem uw6_140m : uw6_140 ∈ tW0 := tInW 6 140 rfl rfl
noncomputable def uw8_87 : Cond := Cond.code ({ cls := "RoundReckonerModel", name := "isRow", desc := "(I)Z" } : MethodName) prog_14_method_63_code (3 : Nat) (Option.some FieldType.boolean)
set_option maxRecDepth 100000 in
theorem uw8_87m : uw8_87 ∈ tW0 := tInW 8 87 rfl rfl
noncomputable def uw8_84 : Cond := Cond.methodLink "RoundReckonerModel" (476 : Nat) ({ cls := "RoundReckonerModel", name := "isRow", desc := "(I)Z" } : MethodName)
set_option maxRecDepth 100000 in
theorem uw8_84m : uw8_84 ∈ tW0 := tInW 8 84 rfl rfl
noncomputable def uw8_86 : Cond := Cond.instanceMethod ({ cls := "RoundReckonerModel", name := "isRow", desc := "(I)Z" } : MethodName)
set_option maxRecDepth 100000 in
theorem uw8_86m : uw8_86 ∈ tW0 := tInW 8 86 rfl rfl
noncomputable def uw0_97 : Cond := Cond.selects "RoundReckonerModel" ⟨"RoundReckonerModel", "isRow", "(I)Z"⟩ ⟨"RoundReckonerModel", "isRow", "(I)Z"⟩
set_option maxRecDepth 100000 in
theorem uw0_97m : uw0_97 ∈ tW0 := tInW 0 97 rfl rfl
noncomputable def uw6_124 : Cond := Cond.fieldLink "RoundReckonerModel" (460 : Nat) "RoundReckonerModel" "steps" "I"
set_option maxRecDepth 100000 in
theorem uw6_124m : uw6_124 ∈ tW0 := tInW 6 124 rfl rfl
noncomputable def uw8_122 : Cond := Cond.constant "RoundReckonerModel" 463 (Int32.ofInt 50000)
set_option maxRecDepth 100000 in
theorem uw8_122m : uw8_122 ∈ tW0 := inAt_ok (ws := [uw8_122]) (is := [(8, 122)]) (by decide +kernel) _ (List.mem_cons_self ..)
noncomputable def uw8_75 : Cond := Cond.code ({ cls := "RoundReckonerModel", name := "headComes", desc := "(I)V" } : MethodName) prog_14_method_61_code (2 : Nat) (Option.none : Option FieldType)
set_option maxRecDepth 100000 in
theorem uw8_75m : uw8_75 ∈ tW0 := tInW 8 75 rfl rfl
noncomputable def uw8_72 : Cond := Cond.methodLink "RoundReckonerModel" (445 : Nat) ({ cls := "RoundReckonerModel", name := "headComes", desc := "(I)V" } : MethodName)
set_option maxRecDepth 100000 in
theorem uw8_72m : uw8_72 ∈ tW0 := tInW 8 72 rfl rfl
noncomputable def uw8_74 : Cond := Cond.instanceMethod ({ cls := "RoundReckonerModel", name := "headComes", desc := "(I)V" } : MethodName)
set_option maxRecDepth 100000 in
theorem uw8_74m : uw8_74 ∈ tW0 := tInW 8 74 rfl rfl
noncomputable def uw0_94 : Cond := Cond.selects "RoundReckonerModel" ⟨"RoundReckonerModel", "headComes", "(I)V"⟩ ⟨"RoundReckonerModel", "headComes", "(I)V"⟩
set_option maxRecDepth 100000 in
theorem uw0_94m : uw0_94 ∈ tW0 := tInW 0 94 rfl rfl
noncomputable def uw8_83 : Cond := Cond.code ({ cls := "RoundReckonerModel", name := "rowOf", desc := "(I)V" } : MethodName) prog_14_method_62_code (5 : Nat) (Option.none : Option FieldType)
set_option maxRecDepth 100000 in
theorem uw8_83m : uw8_83 ∈ tW0 := tInW 8 83 rfl rfl
noncomputable def uw8_80 : Cond := Cond.methodLink "RoundReckonerModel" (448 : Nat) ({ cls := "RoundReckonerModel", name := "rowOf", desc := "(I)V" } : MethodName)
set_option maxRecDepth 100000 in
theorem uw8_80m : uw8_80 ∈ tW0 := tInW 8 80 rfl rfl
noncomputable def uw8_82 : Cond := Cond.instanceMethod ({ cls := "RoundReckonerModel", name := "rowOf", desc := "(I)V" } : MethodName)
set_option maxRecDepth 100000 in
theorem uw8_82m : uw8_82 ∈ tW0 := tInW 8 82 rfl rfl
noncomputable def uw0_96 : Cond := Cond.selects "RoundReckonerModel" ⟨"RoundReckonerModel", "rowOf", "(I)V"⟩ ⟨"RoundReckonerModel", "rowOf", "(I)V"⟩
set_option maxRecDepth 100000 in
theorem uw0_96m : uw0_96 ∈ tW0 := tInW 0 96 rfl rfl
noncomputable def uw8_95 : Cond := Cond.code ({ cls := "RoundReckonerModel", name := "keepAnswer", desc := "()V" } : MethodName) prog_14_method_76_code (2 : Nat) (Option.none : Option FieldType)
set_option maxRecDepth 100000 in
theorem uw8_95m : uw8_95 ∈ tW0 := tInW 8 95 rfl rfl
noncomputable def uw8_92 : Cond := Cond.methodLink "RoundReckonerModel" (451 : Nat) ({ cls := "RoundReckonerModel", name := "keepAnswer", desc := "()V" } : MethodName)
set_option maxRecDepth 100000 in
theorem uw8_92m : uw8_92 ∈ tW0 := tInW 8 92 rfl rfl
noncomputable def uw8_94 : Cond := Cond.instanceMethod ({ cls := "RoundReckonerModel", name := "keepAnswer", desc := "()V" } : MethodName)
set_option maxRecDepth 100000 in
theorem uw8_94m : uw8_94 ∈ tW0 := tInW 8 94 rfl rfl
noncomputable def uw0_98 : Cond := Cond.selects "RoundReckonerModel" ⟨"RoundReckonerModel", "keepAnswer", "()V"⟩ ⟨"RoundReckonerModel", "keepAnswer", "()V"⟩
set_option maxRecDepth 100000 in
theorem uw0_98m : uw0_98 ∈ tW0 := tInW 0 98 rfl rfl
noncomputable def uw8_99 : Cond := Cond.code ({ cls := "RoundReckonerModel", name := "holds", desc := "(I)Z" } : MethodName) prog_14_method_58_code (10 : Nat) (Option.some FieldType.boolean)
set_option maxRecDepth 100000 in
theorem uw8_99m : uw8_99 ∈ tW0 := tInW 8 99 rfl rfl
noncomputable def uw8_96 : Cond := Cond.methodLink "RoundReckonerModel" (454 : Nat) ({ cls := "RoundReckonerModel", name := "holds", desc := "(I)Z" } : MethodName)
set_option maxRecDepth 100000 in
theorem uw8_96m : uw8_96 ∈ tW0 := tInW 8 96 rfl rfl
noncomputable def uw8_98 : Cond := Cond.instanceMethod ({ cls := "RoundReckonerModel", name := "holds", desc := "(I)Z" } : MethodName)
set_option maxRecDepth 100000 in
theorem uw8_98m : uw8_98 ∈ tW0 := tInW 8 98 rfl rfl
noncomputable def uw0_99 : Cond := Cond.selects "RoundReckonerModel" ⟨"RoundReckonerModel", "holds", "(I)Z"⟩ ⟨"RoundReckonerModel", "holds", "(I)Z"⟩
set_option maxRecDepth 100000 in
theorem uw0_99m : uw0_99 ∈ tW0 := tInW 0 99 rfl rfl
noncomputable def uw8_113 : Cond := Cond.code ({ cls := "RoundReckonerModel", name := "take", desc := "(III)I" } : MethodName) prog_14_method_56_code (6 : Nat) (Option.some FieldType.int)
set_option maxRecDepth 100000 in
theorem uw8_113m : uw8_113 ∈ tW0 := tInW 8 113 rfl rfl
noncomputable def uw8_110 : Cond := Cond.methodLink "RoundReckonerModel" (457 : Nat) ({ cls := "RoundReckonerModel", name := "take", desc := "(III)I" } : MethodName)
set_option maxRecDepth 100000 in
theorem uw8_110m : uw8_110 ∈ tW0 := tInW 8 110 rfl rfl
noncomputable def uw8_112 : Cond := Cond.instanceMethod ({ cls := "RoundReckonerModel", name := "take", desc := "(III)I" } : MethodName)
set_option maxRecDepth 100000 in
theorem uw8_112m : uw8_112 ∈ tW0 := tInW 8 112 rfl rfl
noncomputable def uw0_102 : Cond := Cond.selects "RoundReckonerModel" ⟨"RoundReckonerModel", "take", "(III)I"⟩ ⟨"RoundReckonerModel", "take", "(III)I"⟩
set_option maxRecDepth 100000 in
theorem uw0_102m : uw0_102 ∈ tW0 := tInW 0 102 rfl rfl
noncomputable def uw8_126 : Cond := Cond.code ({ cls := "RoundReckonerModel", name := "give", desc := "(II)V" } : MethodName) prog_14_method_57_code (5 : Nat) (Option.none : Option FieldType)
set_option maxRecDepth 100000 in
theorem uw8_126m : uw8_126 ∈ tW0 := tInW 8 126 rfl rfl
noncomputable def uw8_123 : Cond := Cond.methodLink "RoundReckonerModel" (464 : Nat) ({ cls := "RoundReckonerModel", name := "give", desc := "(II)V" } : MethodName)
set_option maxRecDepth 100000 in
theorem uw8_123m : uw8_123 ∈ tW0 := tInW 8 123 rfl rfl
noncomputable def uw8_125 : Cond := Cond.instanceMethod ({ cls := "RoundReckonerModel", name := "give", desc := "(II)V" } : MethodName)
set_option maxRecDepth 100000 in
theorem uw8_125m : uw8_125 ∈ tW0 := tInW 8 125 rfl rfl
noncomputable def uw0_105 : Cond := Cond.selects "RoundReckonerModel" ⟨"RoundReckonerModel", "give", "(II)V"⟩ ⟨"RoundReckonerModel", "give", "(II)V"⟩
set_option maxRecDepth 100000 in
theorem uw0_105m : uw0_105 ∈ tW0 := tInW 0 105 rfl rfl
noncomputable def uw8_71 : Cond := Cond.code ({ cls := "RoundReckonerModel", name := "ways", desc := "(II)V" } : MethodName) prog_14_method_59_code (7 : Nat) (Option.none : Option FieldType)
set_option maxRecDepth 100000 in
theorem uw8_71m : uw8_71 ∈ tW0 := tInW 8 71 rfl rfl
noncomputable def uw8_68 : Cond := Cond.methodLink "RoundReckonerModel" (479 : Nat) ({ cls := "RoundReckonerModel", name := "ways", desc := "(II)V" } : MethodName)
set_option maxRecDepth 100000 in
theorem uw8_68m : uw8_68 ∈ tW0 := tInW 8 68 rfl rfl
noncomputable def uw8_70 : Cond := Cond.instanceMethod ({ cls := "RoundReckonerModel", name := "ways", desc := "(II)V" } : MethodName)
set_option maxRecDepth 100000 in
theorem uw8_70m : uw8_70 ∈ tW0 := tInW 8 70 rfl rfl
noncomputable def uw0_93 : Cond := Cond.selects "RoundReckonerModel" ⟨"RoundReckonerModel", "ways", "(II)V"⟩ ⟨"RoundReckonerModel", "ways", "(II)V"⟩
set_option maxRecDepth 100000 in
theorem uw0_93m : uw0_93 ∈ tW0 := tInW 0 93 rfl rfl
noncomputable def uw6_112 : Cond := Cond.fieldLink "RoundReckonerModel" (118 : Nat) "RoundReckonerModel" "layer" "[I"
set_option maxRecDepth 100000 in
theorem uw6_112m : uw6_112 ∈ tW0 := tInW 6 112 rfl rfl
noncomputable def uw6_125 : Cond := Cond.fieldLink "RoundReckonerModel" (485 : Nat) "RoundReckonerModel" "rounds" "I"
set_option maxRecDepth 100000 in
theorem uw6_125m : uw6_125 ∈ tW0 := tInW 6 125 rfl rfl
noncomputable def uw8_67 : Cond := Cond.code ({ cls := "RoundReckonerModel", name := "reckon", desc := "(I)V" } : MethodName) prog_14_method_64_code (6 : Nat) (Option.none : Option FieldType)
set_option maxRecDepth 100000 in
theorem uw8_67m : uw8_67 ∈ tW0 := tInW 8 67 rfl rfl
noncomputable def uw8_64 : Cond := Cond.methodLink "RoundReckonerModel" (482 : Nat) ({ cls := "RoundReckonerModel", name := "reckon", desc := "(I)V" } : MethodName)
set_option maxRecDepth 100000 in
theorem uw8_64m : uw8_64 ∈ tW0 := tInW 8 64 rfl rfl
noncomputable def uw8_66 : Cond := Cond.instanceMethod ({ cls := "RoundReckonerModel", name := "reckon", desc := "(I)V" } : MethodName)
set_option maxRecDepth 100000 in
theorem uw8_66m : uw8_66 ∈ tW0 := tInW 8 66 rfl rfl
noncomputable def uw0_92 : Cond := Cond.selects "RoundReckonerModel" ⟨"RoundReckonerModel", "reckon", "(I)V"⟩ ⟨"RoundReckonerModel", "reckon", "(I)V"⟩
set_option maxRecDepth 100000 in
theorem uw0_92m : uw0_92 ∈ tW0 := tInW 0 92 rfl rfl
noncomputable def uw8_130 : Cond := Cond.code ({ cls := "RoundReckonerModel", name := "atoms", desc := "(I)I" } : MethodName) prog_14_method_65_code (4 : Nat) (Option.some FieldType.int)
set_option maxRecDepth 100000 in
theorem uw8_130m : uw8_130 ∈ tW0 := tInW 8 130 rfl rfl
noncomputable def uw8_127 : Cond := Cond.methodLink "RoundReckonerModel" (488 : Nat) ({ cls := "RoundReckonerModel", name := "atoms", desc := "(I)I" } : MethodName)
set_option maxRecDepth 100000 in
theorem uw8_127m : uw8_127 ∈ tW0 := tInW 8 127 rfl rfl
noncomputable def uw8_129 : Cond := Cond.instanceMethod ({ cls := "RoundReckonerModel", name := "atoms", desc := "(I)I" } : MethodName)
set_option maxRecDepth 100000 in
theorem uw8_129m : uw8_129 ∈ tW0 := tInW 8 129 rfl rfl
noncomputable def uw0_106 : Cond := Cond.selects "RoundReckonerModel" ⟨"RoundReckonerModel", "atoms", "(I)I"⟩ ⟨"RoundReckonerModel", "atoms", "(I)I"⟩
set_option maxRecDepth 100000 in
theorem uw0_106m : uw0_106 ∈ tW0 := tInW 0 106 rfl rfl
noncomputable def uw6_113 : Cond := Cond.fieldLink "RoundReckonerModel" (395 : Nat) "RoundReckonerModel" "layers" "I"
set_option maxRecDepth 100000 in
theorem uw6_113m : uw6_113 ∈ tW0 := tInW 6 113 rfl rfl
noncomputable def uw6_126 : Cond := Cond.fieldLink "RoundReckonerModel" (497 : Nat) "RoundReckonerModel" "toldSteps" "I"
set_option maxRecDepth 100000 in
theorem uw6_126m : uw6_126 ∈ tW0 := tInW 6 126 rfl rfl
noncomputable def uw6_127 : Cond := Cond.fieldLink "RoundReckonerModel" (500 : Nat) "RoundReckonerModel" "toldRounds" "I"
set_option maxRecDepth 100000 in
theorem uw6_127m : uw6_127 ∈ tW0 := tInW 6 127 rfl rfl
noncomputable def uw8_51 : Cond := Cond.code ({ cls := "RoundReckonerModel", name := "layOut", desc := "()Z" } : MethodName) prog_14_method_48_code (6 : Nat) (Option.some FieldType.boolean)
set_option maxRecDepth 100000 in
theorem uw8_51m : uw8_51 ∈ tW0 := tInW 8 51 rfl rfl
noncomputable def uw8_48 : Cond := Cond.methodLink "RoundReckonerModel" (491 : Nat) ({ cls := "RoundReckonerModel", name := "layOut", desc := "()Z" } : MethodName)
set_option maxRecDepth 100000 in
theorem uw8_48m : uw8_48 ∈ tW0 := tInW 8 48 rfl rfl
noncomputable def uw8_50 : Cond := Cond.instanceMethod ({ cls := "RoundReckonerModel", name := "layOut", desc := "()Z" } : MethodName)
set_option maxRecDepth 100000 in
theorem uw8_50m : uw8_50 ∈ tW0 := tInW 8 50 rfl rfl
noncomputable def uw0_88 : Cond := Cond.selects "RoundReckonerModel" ⟨"RoundReckonerModel", "layOut", "()Z"⟩ ⟨"RoundReckonerModel", "layOut", "()Z"⟩
set_option maxRecDepth 100000 in
theorem uw0_88m : uw0_88 ∈ tW0 := tInW 0 88 rfl rfl
noncomputable def uw8_55 : Cond := Cond.code ({ cls := "RoundReckonerModel", name := "runLayer", desc := "(I)V" } : MethodName) prog_14_method_66_code (6 : Nat) (Option.none : Option FieldType)
set_option maxRecDepth 100000 in
theorem uw8_55m : uw8_55 ∈ tW0 := tInW 8 55 rfl rfl
noncomputable def uw8_52 : Cond := Cond.methodLink "RoundReckonerModel" (494 : Nat) ({ cls := "RoundReckonerModel", name := "runLayer", desc := "(I)V" } : MethodName)
set_option maxRecDepth 100000 in
theorem uw8_52m : uw8_52 ∈ tW0 := tInW 8 52 rfl rfl
noncomputable def uw8_54 : Cond := Cond.instanceMethod ({ cls := "RoundReckonerModel", name := "runLayer", desc := "(I)V" } : MethodName)
set_option maxRecDepth 100000 in
theorem uw8_54m : uw8_54 ∈ tW0 := tInW 8 54 rfl rfl
noncomputable def uw0_89 : Cond := Cond.selects "RoundReckonerModel" ⟨"RoundReckonerModel", "runLayer", "(I)V"⟩ ⟨"RoundReckonerModel", "runLayer", "(I)V"⟩
set_option maxRecDepth 100000 in
theorem uw0_89m : uw0_89 ∈ tW0 := tInW 0 89 rfl rfl
noncomputable def uw8_142 : Cond := Cond.constantLong "RoundReckonerModel" 503 (Int64.ofInt 200000000)
set_option maxRecDepth 100000 in
theorem uw8_142m : uw8_142 ∈ tW0 := inAt_ok (ws := [uw8_142]) (is := [(8, 142)]) (by decide +kernel) _ (List.mem_cons_self ..)
noncomputable def uw8_143 : Cond := Cond.constant "RoundReckonerModel" 512 (Int32.ofInt 300000000)
set_option maxRecDepth 100000 in
theorem uw8_143m : uw8_143 ∈ tW0 := inAt_ok (ws := [uw8_143]) (is := [(8, 143)]) (by decide +kernel) _ (List.mem_cons_self ..)
noncomputable def uw8_138 : Cond := Cond.code ({ cls := "RoundReckonerModel", name := "isTuple", desc := "(I)Z" } : MethodName) prog_14_method_69_code (2 : Nat) (Option.some FieldType.boolean)
set_option maxRecDepth 100000 in
theorem uw8_138m : uw8_138 ∈ tW0 := tInW 8 138 rfl rfl
noncomputable def uw8_135 : Cond := Cond.methodLink "RoundReckonerModel" (505 : Nat) ({ cls := "RoundReckonerModel", name := "isTuple", desc := "(I)Z" } : MethodName)
set_option maxRecDepth 100000 in
theorem uw8_135m : uw8_135 ∈ tW0 := tInW 8 135 rfl rfl
noncomputable def uw8_137 : Cond := Cond.instanceMethod ({ cls := "RoundReckonerModel", name := "isTuple", desc := "(I)Z" } : MethodName)
set_option maxRecDepth 100000 in
theorem uw8_137m : uw8_137 ∈ tW0 := tInW 8 137 rfl rfl
noncomputable def uw0_107 : Cond := Cond.selects "RoundReckonerModel" ⟨"RoundReckonerModel", "isTuple", "(I)Z"⟩ ⟨"RoundReckonerModel", "isTuple", "(I)Z"⟩
set_option maxRecDepth 100000 in
theorem uw0_107m : uw0_107 ∈ tW0 := tInW 0 107 rfl rfl
noncomputable def uw8_141 : Cond := Cond.code ({ cls := "RoundReckonerModel", name := "told", desc := "(J)I" } : MethodName) prog_14_method_68_code (2 : Nat) (Option.some FieldType.int)
set_option maxRecDepth 100000 in
theorem uw8_141m : uw8_141 ∈ tW0 := tInW 8 141 rfl rfl
noncomputable def uw8_139 : Cond := Cond.methodLink "RoundReckonerModel" (508 : Nat) ({ cls := "RoundReckonerModel", name := "told", desc := "(J)I" } : MethodName)
set_option maxRecDepth 100000 in
theorem uw8_139m : uw8_139 ∈ tW0 := tInW 8 139 rfl rfl
noncomputable def uw8_140 : Cond := Cond.static ({ cls := "RoundReckonerModel", name := "told", desc := "(J)I" } : MethodName)
set_option maxRecDepth 100000 in
theorem uw8_140m : uw8_140 ∈ tW0 := tInW 8 140 rfl rfl
noncomputable def uw6_56 : Cond := Cond.fieldLink "RoundReckonerModel" (513 : Nat) "RoundReckonerModel" "outMany" "I"
set_option maxRecDepth 100000 in
theorem uw6_56m : uw6_56 ∈ tW0 := tInW 6 56 rfl rfl
noncomputable def uw6_147 : Cond := Cond.fieldLink "RoundReckonerModel" (528 : Nat) "RoundReckonerModel" "answerKnown" "I"
set_option maxRecDepth 100000 in
theorem uw6_147m : uw6_147 ∈ tW0 := tInW 6 147 rfl rfl
noncomputable def uw6_143 : Cond := Cond.fieldLink "RoundReckonerModel" (172 : Nat) "RoundReckonerModel" "answer" "[J"
set_option maxRecDepth 100000 in
theorem uw6_143m : uw6_143 ∈ tW0 := tInW 6 143 rfl rfl
noncomputable def uw6_54 : Cond := Cond.fieldLink "RoundReckonerModel" (17 : Nat) "RoundReckonerModel" "out" "[B"
set_option maxRecDepth 100000 in
theorem uw6_54m : uw6_54 ∈ tW0 := tInW 6 54 rfl rfl
noncomputable def uw8_181 : Cond := Cond.constantLong "RoundReckonerModel" 531 (Int64.ofInt 255)
set_option maxRecDepth 100000 in
theorem uw8_181m : uw8_181 ∈ tW0 := inAt_ok (ws := [uw8_181]) (is := [(8, 181)]) (by decide +kernel) _ (List.mem_cons_self ..)
noncomputable def uw8_160 : Cond := Cond.constantLong "RoundReckonerModel" 519 (Int64.ofInt 9)
set_option maxRecDepth 100000 in
theorem uw8_160m : uw8_160 ∈ tW0 := inAt_ok (ws := [uw8_160]) (is := [(8, 160)]) (by decide +kernel) _ (List.mem_cons_self ..)
noncomputable def uw8_155 : Cond := Cond.code ({ cls := "RoundReckonerModel", name := "put", desc := "(I)V" } : MethodName) prog_14_method_72_code (2 : Nat) (Option.none : Option FieldType)
set_option maxRecDepth 100000 in
theorem uw8_155m : uw8_155 ∈ tW0 := tInW 8 155 rfl rfl
noncomputable def uw8_152 : Cond := Cond.methodLink "RoundReckonerModel" (516 : Nat) ({ cls := "RoundReckonerModel", name := "put", desc := "(I)V" } : MethodName)
set_option maxRecDepth 100000 in
theorem uw8_152m : uw8_152 ∈ tW0 := tInW 8 152 rfl rfl
noncomputable def uw8_154 : Cond := Cond.instanceMethod ({ cls := "RoundReckonerModel", name := "put", desc := "(I)V" } : MethodName)
set_option maxRecDepth 100000 in
theorem uw8_154m : uw8_154 ∈ tW0 := tInW 8 154 rfl rfl
noncomputable def uw0_108 : Cond := Cond.selects "RoundReckonerModel" ⟨"RoundReckonerModel", "put", "(I)V"⟩ ⟨"RoundReckonerModel", "put", "(I)V"⟩
set_option maxRecDepth 100000 in
theorem uw0_108m : uw0_108 ∈ tW0 := tInW 0 108 rfl rfl
noncomputable def uw8_159 : Cond := Cond.code ({ cls := "RoundReckonerModel", name := "putNumber", desc := "(J)V" } : MethodName) prog_14_method_73_code (7 : Nat) (Option.none : Option FieldType)
set_option maxRecDepth 100000 in
theorem uw8_159m : uw8_159 ∈ tW0 := tInW 8 159 rfl rfl
noncomputable def uw8_156 : Cond := Cond.methodLink "RoundReckonerModel" (521 : Nat) ({ cls := "RoundReckonerModel", name := "putNumber", desc := "(J)V" } : MethodName)
set_option maxRecDepth 100000 in
theorem uw8_156m : uw8_156 ∈ tW0 := tInW 8 156 rfl rfl
noncomputable def uw8_158 : Cond := Cond.instanceMethod ({ cls := "RoundReckonerModel", name := "putNumber", desc := "(J)V" } : MethodName)
set_option maxRecDepth 100000 in
theorem uw8_158m : uw8_158 ∈ tW0 := tInW 8 158 rfl rfl
noncomputable def uw0_109 : Cond := Cond.selects "RoundReckonerModel" ⟨"RoundReckonerModel", "putNumber", "(J)V"⟩ ⟨"RoundReckonerModel", "putNumber", "(J)V"⟩
set_option maxRecDepth 100000 in
theorem uw0_109m : uw0_109 ∈ tW0 := tInW 0 109 rfl rfl
noncomputable def uw1_221 : Cond := Cond.fieldLink "RoundReckoner$Names" (15 : Nat) "RoundReckoner$Names" "count" "I"
set_option maxRecDepth 100000 in
theorem uw1_221m : uw1_221 ∈ tW0 := tInW 1 221 rfl rfl
noncomputable def uw1_220 : Cond := Cond.fieldLink "RoundReckoner$Names" (9 : Nat) "RoundReckoner$Names" "words" "[J"
set_option maxRecDepth 100000 in
theorem uw1_220m : uw1_220 ∈ tW0 := tInW 1 220 rfl rfl
noncomputable def uw1_64 : Cond := Cond.fieldLink "RoundReckoner$Goal" (25 : Nat) "RoundReckoner$Goal" "kind" "I"
set_option maxRecDepth 100000 in
theorem uw1_64m : uw1_64 ∈ tW0 := tInW 1 64 rfl rfl
noncomputable def uw1_71 : Cond := Cond.fieldLink "RoundReckoner$Goal" (29 : Nat) "RoundReckoner$Goal" "word" "J"
set_option maxRecDepth 100000 in
theorem uw1_71m : uw1_71 ∈ tW0 := tInW 1 71 rfl rfl
noncomputable def uw1_73 : Cond := Cond.fieldLink "RoundReckoner$Goal" (33 : Nat) "RoundReckoner$Goal" "place" "I"
set_option maxRecDepth 100000 in
theorem uw1_73m : uw1_73 ∈ tW0 := tInW 1 73 rfl rfl
noncomputable def uw1_68 : Cond := Cond.fieldLink "RoundReckoner$Goal" (36 : Nat) "RoundReckoner$Goal" "size" "I"
set_option maxRecDepth 100000 in
theorem uw1_68m : uw1_68 ∈ tW0 := tInW 1 68 rfl rfl
noncomputable def uw1_75 : Cond := Cond.fieldLink "RoundReckoner$Goal" (39 : Nat) "RoundReckoner$Goal" "predicate" "I"
set_option maxRecDepth 100000 in
theorem uw1_75m : uw1_75 ∈ tW0 := tInW 1 75 rfl rfl
noncomputable def uw1_80 : Cond := Cond.fieldLink "RoundReckoner$Goal" (42 : Nat) "RoundReckoner$Goal" "guide" "I"
set_option maxRecDepth 100000 in
theorem uw1_80m : uw1_80 ∈ tW0 := tInW 1 80 rfl rfl
noncomputable def uw1_87 : Cond := Cond.fieldLink "RoundReckoner$Goal" (45 : Nat) "RoundReckoner$Goal" "tally" "I"
set_option maxRecDepth 100000 in
theorem uw1_87m : uw1_87 ∈ tW0 := tInW 1 87 rfl rfl
noncomputable def uw1_60 : Cond := Cond.fieldLink "RoundReckoner$Goal" (21 : Nat) "RoundReckoner$Goal" "values" "[J"
set_option maxRecDepth 100000 in
theorem uw1_60m : uw1_60 ∈ tW0 := tInW 1 60 rfl rfl
noncomputable def uw3_89 : Cond := Cond.code ({ cls := "java/util/Arrays", name := "fill", desc := "([JJ)V" } : MethodName) prog_25_method_101_code (5 : Nat) (Option.none : Option FieldType)
set_option maxRecDepth 100000 in
theorem uw3_89m : uw3_89 ∈ tW0 := tInW 3 89 rfl rfl
noncomputable def uw1_10 : Cond := Cond.initialized "java/util/Arrays"
set_option maxRecDepth 100000 in
theorem uw1_10m : uw1_10 ∈ tW0 := tInW 1 10 rfl rfl
noncomputable def uw3_87 : Cond := Cond.methodLink "RoundReckoner$Goal" (48 : Nat) ({ cls := "java/util/Arrays", name := "fill", desc := "([JJ)V" } : MethodName)
set_option maxRecDepth 100000 in
theorem uw3_87m : uw3_87 ∈ tW0 := tInW 3 87 rfl rfl
noncomputable def uw3_88 : Cond := Cond.static ({ cls := "java/util/Arrays", name := "fill", desc := "([JJ)V" } : MethodName)
set_option maxRecDepth 100000 in
theorem uw3_88m : uw3_88 ∈ tW0 := tInW 3 88 rfl rfl
noncomputable def uw1_52 : Cond := Cond.fieldLink "RoundReckoner$Goal" (9 : Nat) "RoundReckoner$Goal" "kinds" "[I"
set_option maxRecDepth 100000 in
theorem uw1_52m : uw1_52 ∈ tW0 := tInW 1 52 rfl rfl
noncomputable def uw1_58 : Cond := Cond.fieldLink "RoundReckoner$Goal" (18 : Nat) "RoundReckoner$Goal" "places" "[I"
set_option maxRecDepth 100000 in
theorem uw1_58m : uw1_58 ∈ tW0 := tInW 1 58 rfl rfl
noncomputable def uw1_55 : Cond := Cond.fieldLink "RoundReckoner$Goal" (15 : Nat) "RoundReckoner$Goal" "slots" "[I"
set_option maxRecDepth 100000 in
theorem uw1_55m : uw1_55 ∈ tW0 := tInW 1 55 rfl rfl
noncomputable def uw1_235 : Cond := Cond.fieldLink "RoundReckoner$Reader" (62 : Nat) "RoundReckoner$Reader" "broken" "I"
set_option maxRecDepth 100000 in
theorem uw1_235m : uw1_235 ∈ tW0 := tInW 1 235 rfl rfl
noncomputable def uw2_5 : Cond := Cond.fieldLink "RoundReckoner$Reader" (53 : Nat) "RoundReckoner$Reader" "variableCount" "I"
set_option maxRecDepth 100000 in
theorem uw2_5m : uw2_5 ∈ tW0 := tInW 2 5 rfl rfl
noncomputable def uw2_8 : Cond := Cond.fieldLink "RoundReckoner$Reader" (56 : Nat) "RoundReckoner$Reader" "strayCount" "I"
set_option maxRecDepth 100000 in
theorem uw2_8m : uw2_8 ∈ tW0 := tInW 2 8 rfl rfl
noncomputable def uw1_236 : Cond := Cond.fieldLink "RoundReckoner$Reader" (59 : Nat) "RoundReckoner$Reader" "known" "I"
set_option maxRecDepth 100000 in
theorem uw1_236m : uw1_236 ∈ tW0 := tInW 1 236 rfl rfl
noncomputable def uw1_239 : Cond := Cond.fieldLink "RoundReckoner$Reader" (44 : Nat) "RoundReckoner$Reader" "purpose" "I"
set_option maxRecDepth 100000 in
theorem uw1_239m : uw1_239 ∈ tW0 := tInW 1 239 rfl rfl
noncomputable def uw1_238 : Cond := Cond.fieldLink "RoundReckoner$Reader" (47 : Nat) "RoundReckoner$Reader" "at" "I"
set_option maxRecDepth 100000 in
theorem uw1_238m : uw1_238 ∈ tW0 := tInW 1 238 rfl rfl
noncomputable def uw3_50 : Cond := Cond.code ({ cls := "RoundReckoner$Reader", name := "startClause", desc := "()V" } : MethodName) prog_9_method_5_code (1 : Nat) (Option.none : Option FieldType)
set_option maxRecDepth 100000 in
theorem uw3_50m : uw3_50 ∈ tW0 := tInW 3 50 rfl rfl
noncomputable def uw1_5 : Cond := Cond.initialized "RoundReckoner$Reader"
set_option maxRecDepth 100000 in
theorem uw1_5m : uw1_5 ∈ tW0 := tInW 1 5 rfl rfl
noncomputable def uw3_47 : Cond := Cond.methodLink "RoundReckoner$Reader" (50 : Nat) ({ cls := "RoundReckoner$Reader", name := "startClause", desc := "()V" } : MethodName)
set_option maxRecDepth 100000 in
theorem uw3_47m : uw3_47 ∈ tW0 := tInW 3 47 rfl rfl
noncomputable def uw3_49 : Cond := Cond.instanceMethod ({ cls := "RoundReckoner$Reader", name := "startClause", desc := "()V" } : MethodName)
set_option maxRecDepth 100000 in
theorem uw3_49m : uw3_49 ∈ tW0 := tInW 3 49 rfl rfl
noncomputable def uw0_0 : Cond := Cond.selects "RoundReckoner$Reader" ⟨"RoundReckoner$Reader", "startClause", "()V"⟩ ⟨"RoundReckoner$Reader", "startClause", "()V"⟩
set_option maxRecDepth 100000 in
theorem uw0_0m : uw0_0 ∈ tW0 := tInW 0 0 rfl rfl
noncomputable def uw1_233 : Cond := Cond.fieldLink "RoundReckoner$Reader" (40 : Nat) "RoundReckoner$Reader" "length" "I"
set_option maxRecDepth 100000 in
theorem uw1_233m : uw1_233 ∈ tW0 := tInW 1 233 rfl rfl
noncomputable def uw1_231 : Cond := Cond.fieldLink "RoundReckoner$Reader" (18 : Nat) "RoundReckoner$Reader" "tape" "[B"
set_option maxRecDepth 100000 in
theorem uw1_231m : uw1_231 ∈ tW0 := tInW 1 231 rfl rfl
noncomputable def uw2_1 : Cond := Cond.fieldLink "RoundReckoner$Reader" (65 : Nat) "RoundReckoner$Reader" "wordPlace" "I"
set_option maxRecDepth 100000 in
theorem uw2_1m : uw2_1 ∈ tW0 := tInW 2 1 rfl rfl
noncomputable def uw2_0 : Cond := Cond.fieldLink "RoundReckoner$Reader" (68 : Nat) "RoundReckoner$Reader" "word" "J"
set_option maxRecDepth 100000 in
theorem uw2_0m : uw2_0 ∈ tW0 := tInW 2 0 rfl rfl
noncomputable def uw3_78 : Cond := Cond.constantLong "RoundReckoner$Reader" 76 (Int64.ofInt 38)
set_option maxRecDepth 100000 in
theorem uw3_78m : uw3_78 ∈ tW0 := inAt_ok (ws := [uw3_78]) (is := [(3, 78)]) (by decide +kernel) _ (List.mem_cons_self ..)
noncomputable def uw3_77 : Cond := Cond.code ({ cls := "RoundReckoner$Reader", name := "symbolOf", desc := "(I)I" } : MethodName) prog_9_method_11_code (1 : Nat) (Option.some FieldType.int)
set_option maxRecDepth 100000 in
theorem uw3_77m : uw3_77 ∈ tW0 := tInW 3 77 rfl rfl
noncomputable def uw3_75 : Cond := Cond.methodLink "RoundReckoner$Reader" (72 : Nat) ({ cls := "RoundReckoner$Reader", name := "symbolOf", desc := "(I)I" } : MethodName)
set_option maxRecDepth 100000 in
theorem uw3_75m : uw3_75 ∈ tW0 := tInW 3 75 rfl rfl
noncomputable def uw3_76 : Cond := Cond.static ({ cls := "RoundReckoner$Reader", name := "symbolOf", desc := "(I)I" } : MethodName)
set_option maxRecDepth 100000 in
theorem uw3_76m : uw3_76 ∈ tW0 := tInW 3 76 rfl rfl
noncomputable def uw3_70 : Cond := Cond.code ({ cls := "RoundReckoner$Reader", name := "fail", desc := "(I)Z" } : MethodName) prog_9_method_6_code (2 : Nat) (Option.some FieldType.boolean)
set_option maxRecDepth 100000 in
theorem uw3_70m : uw3_70 ∈ tW0 := tInW 3 70 rfl rfl
noncomputable def uw3_67 : Cond := Cond.methodLink "RoundReckoner$Reader" (78 : Nat) ({ cls := "RoundReckoner$Reader", name := "fail", desc := "(I)Z" } : MethodName)
set_option maxRecDepth 100000 in
theorem uw3_67m : uw3_67 ∈ tW0 := tInW 3 67 rfl rfl
noncomputable def uw3_69 : Cond := Cond.instanceMethod ({ cls := "RoundReckoner$Reader", name := "fail", desc := "(I)Z" } : MethodName)
set_option maxRecDepth 100000 in
theorem uw3_69m : uw3_69 ∈ tW0 := tInW 3 69 rfl rfl
noncomputable def uw0_1 : Cond := Cond.selects "RoundReckoner$Reader" ⟨"RoundReckoner$Reader", "fail", "(I)Z"⟩ ⟨"RoundReckoner$Reader", "fail", "(I)Z"⟩
set_option maxRecDepth 100000 in
theorem uw0_1m : uw0_1 ∈ tW0 := tInW 0 1 rfl rfl
noncomputable def uw2_2 : Cond := Cond.fieldLink "RoundReckoner$Reader" (82 : Nat) "RoundReckoner$Reader" "number" "J"
set_option maxRecDepth 100000 in
theorem uw2_2m : uw2_2 ∈ tW0 := tInW 2 2 rfl rfl
noncomputable def uw3_152 : Cond := Cond.constantLong "RoundReckoner$Reader" 88 (Int64.ofInt 10)
set_option maxRecDepth 100000 in
theorem uw3_152m : uw3_152 ∈ tW0 := inAt_ok (ws := [uw3_152]) (is := [(3, 152)]) (by decide +kernel) _ (List.mem_cons_self ..)
noncomputable def uw3_147 : Cond := Cond.code ({ cls := "RoundReckoner$Reader", name := "isDigit", desc := "(I)Z" } : MethodName) prog_9_method_10_code (1 : Nat) (Option.some FieldType.boolean)
set_option maxRecDepth 100000 in
theorem uw3_147m : uw3_147 ∈ tW0 := tInW 3 147 rfl rfl
noncomputable def uw3_145 : Cond := Cond.methodLink "RoundReckoner$Reader" (85 : Nat) ({ cls := "RoundReckoner$Reader", name := "isDigit", desc := "(I)Z" } : MethodName)
set_option maxRecDepth 100000 in
theorem uw3_145m : uw3_145 ∈ tW0 := tInW 3 145 rfl rfl
noncomputable def uw3_146 : Cond := Cond.static ({ cls := "RoundReckoner$Reader", name := "isDigit", desc := "(I)Z" } : MethodName)
set_option maxRecDepth 100000 in
theorem uw3_146m : uw3_146 ∈ tW0 := tInW 3 146 rfl rfl
noncomputable def uw2_3 : Cond := Cond.fieldLink "RoundReckoner$Reader" (22 : Nat) "RoundReckoner$Reader" "variables" "[J"
set_option maxRecDepth 100000 in
theorem uw2_3m : uw2_3 ∈ tW0 := tInW 2 3 rfl rfl
noncomputable def uw2_4 : Cond := Cond.fieldLink "RoundReckoner$Reader" (26 : Nat) "RoundReckoner$Reader" "seen" "[I"
set_option maxRecDepth 100000 in
theorem uw2_4m : uw2_4 ∈ tW0 := tInW 2 4 rfl rfl
noncomputable def uw3_108 : Cond := Cond.code ({ cls := "RoundReckoner$Reader", name := "slotOf", desc := "(J)I" } : MethodName) prog_9_method_22_code (4 : Nat) (Option.some FieldType.int)
set_option maxRecDepth 100000 in
theorem uw3_108m : uw3_108 ∈ tW0 := tInW 3 108 rfl rfl
noncomputable def uw3_105 : Cond := Cond.methodLink "RoundReckoner$Reader" (192 : Nat) ({ cls := "RoundReckoner$Reader", name := "slotOf", desc := "(J)I" } : MethodName)
set_option maxRecDepth 100000 in
theorem uw3_105m : uw3_105 ∈ tW0 := tInW 3 105 rfl rfl
noncomputable def uw3_107 : Cond := Cond.instanceMethod ({ cls := "RoundReckoner$Reader", name := "slotOf", desc := "(J)I" } : MethodName)
set_option maxRecDepth 100000 in
theorem uw3_107m : uw3_107 ∈ tW0 := tInW 3 107 rfl rfl
noncomputable def uw0_7 : Cond := Cond.selects "RoundReckoner$Reader" ⟨"RoundReckoner$Reader", "slotOf", "(J)I"⟩ ⟨"RoundReckoner$Reader", "slotOf", "(J)I"⟩
set_option maxRecDepth 100000 in
theorem uw0_7m : uw0_7 ∈ tW0 := tInW 0 7 rfl rfl
noncomputable def uw2_6 : Cond := Cond.fieldLink "RoundReckoner$Reader" (30 : Nat) "RoundReckoner$Reader" "strayPlaces" "[I"
set_option maxRecDepth 100000 in
theorem uw2_6m : uw2_6 ∈ tW0 := tInW 2 6 rfl rfl
noncomputable def uw2_7 : Cond := Cond.fieldLink "RoundReckoner$Reader" (33 : Nat) "RoundReckoner$Reader" "straySlots" "[I"
set_option maxRecDepth 100000 in
theorem uw2_7m : uw2_7 ∈ tW0 := tInW 2 7 rfl rfl
noncomputable def uw3_128 : Cond := Cond.constantLong "RoundReckoner$Reader" 210 (Int64.ofInt 7109364)
set_option maxRecDepth 100000 in
theorem uw3_128m : uw3_128 ∈ tW0 := inAt_ok (ws := [uw3_128]) (is := [(3, 128)]) (by decide +kernel) _ (List.mem_cons_self ..)
noncomputable def uw3_129 : Cond := Cond.constantLong "RoundReckoner$Reader" 212 (Int64.ofInt 28247)
set_option maxRecDepth 100000 in
theorem uw3_129m : uw3_129 ∈ tW0 := inAt_ok (ws := [uw3_129]) (is := [(3, 129)]) (by decide +kernel) _ (List.mem_cons_self ..)
noncomputable def uw3_130 : Cond := Cond.constantLong "RoundReckoner$Reader" 214 (Int64.ofInt 19128)
set_option maxRecDepth 100000 in
theorem uw3_130m : uw3_130 ∈ tW0 := inAt_ok (ws := [uw3_130]) (is := [(3, 130)]) (by decide +kernel) _ (List.mem_cons_self ..)
noncomputable def uw3_131 : Cond := Cond.constantLong "RoundReckoner$Reader" 216 (Int64.ofInt 18834)
set_option maxRecDepth 100000 in
theorem uw3_131m : uw3_131 ∈ tW0 := inAt_ok (ws := [uw3_131]) (is := [(3, 131)]) (by decide +kernel) _ (List.mem_cons_self ..)
noncomputable def uw1_165 : Cond := Cond.fieldLink "RoundReckoner$Clauses" (39 : Nat) "RoundReckoner$Clauses" "predicateCount" "I"
set_option maxRecDepth 100000 in
theorem uw1_165m : uw1_165 ∈ tW0 := tInW 1 165 rfl rfl
noncomputable def uw1_176 : Cond := Cond.fieldLink "RoundReckoner$Clauses" (43 : Nat) "RoundReckoner$Clauses" "markedPredicates" "I"
set_option maxRecDepth 100000 in
theorem uw1_176m : uw1_176 ∈ tW0 := tInW 1 176 rfl rfl
noncomputable def uw1_170 : Cond := Cond.fieldLink "RoundReckoner$Clauses" (46 : Nat) "RoundReckoner$Clauses" "factCount" "I"
set_option maxRecDepth 100000 in
theorem uw1_170m : uw1_170 ∈ tW0 := tInW 1 170 rfl rfl
noncomputable def uw1_177 : Cond := Cond.fieldLink "RoundReckoner$Clauses" (49 : Nat) "RoundReckoner$Clauses" "markedFacts" "I"
set_option maxRecDepth 100000 in
theorem uw1_177m : uw1_177 ∈ tW0 := tInW 1 177 rfl rfl
noncomputable def uw1_172 : Cond := Cond.fieldLink "RoundReckoner$Clauses" (52 : Nat) "RoundReckoner$Clauses" "ruleCount" "I"
set_option maxRecDepth 100000 in
theorem uw1_172m : uw1_172 ∈ tW0 := tInW 1 172 rfl rfl
noncomputable def uw1_178 : Cond := Cond.fieldLink "RoundReckoner$Clauses" (55 : Nat) "RoundReckoner$Clauses" "markedRules" "I"
set_option maxRecDepth 100000 in
theorem uw1_178m : uw1_178 ∈ tW0 := tInW 1 178 rfl rfl
noncomputable def uw1_152 : Cond := Cond.fieldLink "RoundReckoner$Clauses" (9 : Nat) "RoundReckoner$Clauses" "predicateWords" "[J"
set_option maxRecDepth 100000 in
theorem uw1_152m : uw1_152 ∈ tW0 := tInW 1 152 rfl rfl
noncomputable def uw1_154 : Cond := Cond.fieldLink "RoundReckoner$Clauses" (15 : Nat) "RoundReckoner$Clauses" "predicateSizes" "[I"
set_option maxRecDepth 100000 in
theorem uw1_154m : uw1_154 ∈ tW0 := tInW 1 154 rfl rfl
noncomputable def uw1_161 : Cond := Cond.fieldLink "RoundReckoner$Clauses" (25 : Nat) "RoundReckoner$Clauses" "factValues" "[J"
set_option maxRecDepth 100000 in
theorem uw1_161m : uw1_161 ∈ tW0 := tInW 1 161 rfl rfl
noncomputable def uw1_61 : Cond := Cond.fieldLink "RoundReckoner$Clauses" (67 : Nat) "RoundReckoner$Goal" "values" "[J"
set_option maxRecDepth 100000 in
theorem uw1_61m : uw1_61 ∈ tW0 := tInW 1 61 rfl rfl
noncomputable def uw1_159 : Cond := Cond.fieldLink "RoundReckoner$Clauses" (22 : Nat) "RoundReckoner$Clauses" "factPredicates" "[I"
set_option maxRecDepth 100000 in
theorem uw1_159m : uw1_159 ∈ tW0 := tInW 1 159 rfl rfl
noncomputable def uw1_77 : Cond := Cond.fieldLink "RoundReckoner$Clauses" (58 : Nat) "RoundReckoner$Goal" "predicate" "I"
set_option maxRecDepth 100000 in
theorem uw1_77m : uw1_77 ∈ tW0 := tInW 1 77 rfl rfl
noncomputable def uw3_187 : Cond := Cond.code ({ cls := "RoundReckoner$Clauses", name := "isFact", desc := "(ILRoundReckoner$Goal;)Z" } : MethodName) prog_4_method_9_code (4 : Nat) (Option.some FieldType.boolean)
set_option maxRecDepth 100000 in
theorem uw3_187m : uw3_187 ∈ tW0 := tInW 3 187 rfl rfl
noncomputable def uw1_2 : Cond := Cond.initialized "RoundReckoner$Clauses"
set_option maxRecDepth 100000 in
theorem uw1_2m : uw1_2 ∈ tW0 := tInW 1 2 rfl rfl
noncomputable def uw3_184 : Cond := Cond.methodLink "RoundReckoner$Clauses" (63 : Nat) ({ cls := "RoundReckoner$Clauses", name := "isFact", desc := "(ILRoundReckoner$Goal;)Z" } : MethodName)
set_option maxRecDepth 100000 in
theorem uw3_184m : uw3_184 ∈ tW0 := tInW 3 184 rfl rfl
noncomputable def uw3_186 : Cond := Cond.instanceMethod ({ cls := "RoundReckoner$Clauses", name := "isFact", desc := "(ILRoundReckoner$Goal;)Z" } : MethodName)
set_option maxRecDepth 100000 in
theorem uw3_186m : uw3_186 ∈ tW0 := tInW 3 186 rfl rfl
noncomputable def uw0_15 : Cond := Cond.selects "RoundReckoner$Clauses" ⟨"RoundReckoner$Clauses", "isFact", "(ILRoundReckoner$Goal;)Z"⟩ ⟨"RoundReckoner$Clauses", "isFact", "(ILRoundReckoner$Goal;)Z"⟩
set_option maxRecDepth 100000 in
theorem uw0_15m : uw0_15 ∈ tW0 := tInW 0 15 rfl rfl
noncomputable def uw1_163 : Cond := Cond.fieldLink "RoundReckoner$Clauses" (30 : Nat) "RoundReckoner$Clauses" "rules" "[LRoundReckoner$Rule;"
set_option maxRecDepth 100000 in
theorem uw1_163m : uw1_163 ∈ tW0 := tInW 1 163 rfl rfl
noncomputable def uw1_164 : Cond := Cond.fieldLink "RoundReckoner$Clauses" (35 : Nat) "RoundReckoner$Clauses" "standIn" "LRoundReckoner$Rule;"
set_option maxRecDepth 100000 in
theorem uw1_164m : uw1_164 ∈ tW0 := tInW 1 164 rfl rfl
noncomputable def uw1_137 : Cond := Cond.fieldLink "RoundReckoner$Rule" (18 : Nat) "RoundReckoner$Rule" "goals" "[LRoundReckoner$Goal;"
set_option maxRecDepth 100000 in
theorem uw1_137m : uw1_137 ∈ tW0 := tInW 1 137 rfl rfl
noncomputable def uw1_132 : Cond := Cond.fieldLink "RoundReckoner$Rule" (12 : Nat) "RoundReckoner$Rule" "head" "LRoundReckoner$Goal;"
set_option maxRecDepth 100000 in
theorem uw1_132m : uw1_132 ∈ tW0 := tInW 1 132 rfl rfl
noncomputable def uw1_228 : Cond := Cond.fieldLink "RoundReckoner$Reader" (36 : Nat) "RoundReckoner$Reader" "clauses" "LRoundReckoner$Clauses;"
set_option maxRecDepth 100000 in
theorem uw1_228m : uw1_228 ∈ tW0 := tInW 1 228 rfl rfl
noncomputable def uw1_72 : Cond := Cond.fieldLink "RoundReckoner$Reader" (143 : Nat) "RoundReckoner$Goal" "word" "J"
set_option maxRecDepth 100000 in
theorem uw1_72m : uw1_72 ∈ tW0 := tInW 1 72 rfl rfl
noncomputable def uw1_69 : Cond := Cond.fieldLink "RoundReckoner$Reader" (144 : Nat) "RoundReckoner$Goal" "size" "I"
set_option maxRecDepth 100000 in
theorem uw1_69m : uw1_69 ∈ tW0 := tInW 1 69 rfl rfl
noncomputable def uw1_79 : Cond := Cond.fieldLink "RoundReckoner$Reader" (153 : Nat) "RoundReckoner$Goal" "predicate" "I"
set_option maxRecDepth 100000 in
theorem uw1_79m : uw1_79 ∈ tW0 := tInW 1 79 rfl rfl
noncomputable def uw1_74 : Cond := Cond.fieldLink "RoundReckoner$Reader" (159 : Nat) "RoundReckoner$Goal" "place" "I"
set_option maxRecDepth 100000 in
theorem uw1_74m : uw1_74 ∈ tW0 := tInW 1 74 rfl rfl
noncomputable def uw3_163 : Cond := Cond.code ({ cls := "RoundReckoner$Clauses", name := "predicateOf", desc := "(JI)I" } : MethodName) prog_4_method_6_code (5 : Nat) (Option.some FieldType.int)
set_option maxRecDepth 100000 in
theorem uw3_163m : uw3_163 ∈ tW0 := tInW 3 163 rfl rfl
noncomputable def uw3_160 : Cond := Cond.methodLink "RoundReckoner$Reader" (147 : Nat) ({ cls := "RoundReckoner$Clauses", name := "predicateOf", desc := "(JI)I" } : MethodName)
set_option maxRecDepth 100000 in
theorem uw3_160m : uw3_160 ∈ tW0 := tInW 3 160 rfl rfl
noncomputable def uw3_161 : Cond := Cond.instanceMethod ({ cls := "RoundReckoner$Clauses", name := "predicateOf", desc := "(JI)I" } : MethodName)
set_option maxRecDepth 100000 in
theorem uw3_161m : uw3_161 ∈ tW0 := tInW 3 161 rfl rfl
noncomputable def uw3_162 : Cond := Cond.selects "RoundReckoner$Clauses" ({ cls := "RoundReckoner$Clauses", name := "predicateOf", desc := "(JI)I" } : MethodName) ({ cls := "RoundReckoner$Clauses", name := "predicateOf", desc := "(JI)I" } : MethodName)
set_option maxRecDepth 100000 in
theorem uw3_162m : uw3_162 ∈ tW0 := tInW 3 162 rfl rfl
noncomputable def uw3_167 : Cond := Cond.code ({ cls := "RoundReckoner$Clauses", name := "addPredicate", desc := "(JI)I" } : MethodName) prog_4_method_7_code (4 : Nat) (Option.some FieldType.int)
set_option maxRecDepth 100000 in
theorem uw3_167m : uw3_167 ∈ tW0 := tInW 3 167 rfl rfl
noncomputable def uw3_164 : Cond := Cond.methodLink "RoundReckoner$Reader" (156 : Nat) ({ cls := "RoundReckoner$Clauses", name := "addPredicate", desc := "(JI)I" } : MethodName)
set_option maxRecDepth 100000 in
theorem uw3_164m : uw3_164 ∈ tW0 := tInW 3 164 rfl rfl
noncomputable def uw3_165 : Cond := Cond.instanceMethod ({ cls := "RoundReckoner$Clauses", name := "addPredicate", desc := "(JI)I" } : MethodName)
set_option maxRecDepth 100000 in
theorem uw3_165m : uw3_165 ∈ tW0 := tInW 3 165 rfl rfl
noncomputable def uw3_166 : Cond := Cond.selects "RoundReckoner$Clauses" ({ cls := "RoundReckoner$Clauses", name := "addPredicate", desc := "(JI)I" } : MethodName) ({ cls := "RoundReckoner$Clauses", name := "addPredicate", desc := "(JI)I" } : MethodName)
set_option maxRecDepth 100000 in
theorem uw3_166m : uw3_166 ∈ tW0 := tInW 3 166 rfl rfl
noncomputable def uw1_229 : Cond := Cond.fieldLink "RoundReckoner$Reader" (12 : Nat) "RoundReckoner$Reader" "names" "LRoundReckoner$Names;"
set_option maxRecDepth 100000 in
theorem uw1_229m : uw1_229 ∈ tW0 := tInW 1 229 rfl rfl
noncomputable def uw3_144 : Cond := Cond.constantLong "RoundReckoner$Reader" 228 (Int64.ofInt 1099511627776)
set_option maxRecDepth 100000 in
theorem uw3_144m : uw3_144 ∈ tW0 := inAt_ok (ws := [uw3_144]) (is := [(3, 144)]) (by decide +kernel) _ (List.mem_cons_self ..)
noncomputable def uw3_143 : Cond := Cond.code ({ cls := "RoundReckoner$Names", name := "numberOf", desc := "(J)I" } : MethodName) prog_7_method_2_code (4 : Nat) (Option.some FieldType.int)
set_option maxRecDepth 100000 in
theorem uw3_143m : uw3_143 ∈ tW0 := tInW 3 143 rfl rfl
noncomputable def uw1_6 : Cond := Cond.initialized "RoundReckoner$Names"
set_option maxRecDepth 100000 in
theorem uw1_6m : uw1_6 ∈ tW0 := tInW 1 6 rfl rfl
noncomputable def uw3_140 : Cond := Cond.methodLink "RoundReckoner$Reader" (225 : Nat) ({ cls := "RoundReckoner$Names", name := "numberOf", desc := "(J)I" } : MethodName)
set_option maxRecDepth 100000 in
theorem uw3_140m : uw3_140 ∈ tW0 := tInW 3 140 rfl rfl
noncomputable def uw3_141 : Cond := Cond.instanceMethod ({ cls := "RoundReckoner$Names", name := "numberOf", desc := "(J)I" } : MethodName)
set_option maxRecDepth 100000 in
theorem uw3_141m : uw3_141 ∈ tW0 := tInW 3 141 rfl rfl
noncomputable def uw3_142 : Cond := Cond.selects "RoundReckoner$Names" ({ cls := "RoundReckoner$Names", name := "numberOf", desc := "(J)I" } : MethodName) ({ cls := "RoundReckoner$Names", name := "numberOf", desc := "(J)I" } : MethodName)
set_option maxRecDepth 100000 in
theorem uw3_142m : uw3_142 ∈ tW0 := tInW 3 142 rfl rfl
noncomputable def uw3_116 : Cond := Cond.code ({ cls := "RoundReckoner$Goal", name := "put", desc := "(IIIJ)V" } : MethodName) prog_6_method_3_code (6 : Nat) (Option.none : Option FieldType)
set_option maxRecDepth 100000 in
theorem uw3_116m : uw3_116 ∈ tW0 := tInW 3 116 rfl rfl
noncomputable def uw1_4 : Cond := Cond.initialized "RoundReckoner$Goal"
set_option maxRecDepth 100000 in
theorem uw1_4m : uw1_4 ∈ tW0 := tInW 1 4 rfl rfl
noncomputable def uw3_113 : Cond := Cond.methodLink "RoundReckoner$Reader" (174 : Nat) ({ cls := "RoundReckoner$Goal", name := "put", desc := "(IIIJ)V" } : MethodName)
set_option maxRecDepth 100000 in
theorem uw3_113m : uw3_113 ∈ tW0 := tInW 3 113 rfl rfl
noncomputable def uw3_114 : Cond := Cond.instanceMethod ({ cls := "RoundReckoner$Goal", name := "put", desc := "(IIIJ)V" } : MethodName)
set_option maxRecDepth 100000 in
theorem uw3_114m : uw3_114 ∈ tW0 := tInW 3 114 rfl rfl
noncomputable def uw3_115 : Cond := Cond.selects "RoundReckoner$Goal" ({ cls := "RoundReckoner$Goal", name := "put", desc := "(IIIJ)V" } : MethodName) ({ cls := "RoundReckoner$Goal", name := "put", desc := "(IIIJ)V" } : MethodName)
set_option maxRecDepth 100000 in
theorem uw3_115m : uw3_115 ∈ tW0 := tInW 3 115 rfl rfl
noncomputable def uw3_54 : Cond := Cond.code ({ cls := "RoundReckoner$Reader", name := "look", desc := "()I" } : MethodName) prog_9_method_7_code (1 : Nat) (Option.some FieldType.int)
set_option maxRecDepth 100000 in
theorem uw3_54m : uw3_54 ∈ tW0 := tInW 3 54 rfl rfl
noncomputable def uw3_63 : Cond := Cond.methodLink "RoundReckoner$Reader" (98 : Nat) ({ cls := "RoundReckoner$Reader", name := "look", desc := "()I" } : MethodName)
set_option maxRecDepth 100000 in
theorem uw3_63m : uw3_63 ∈ tW0 := tInW 3 63 rfl rfl
noncomputable def uw3_52 : Cond := Cond.instanceMethod ({ cls := "RoundReckoner$Reader", name := "look", desc := "()I" } : MethodName)
set_option maxRecDepth 100000 in
theorem uw3_52m : uw3_52 ∈ tW0 := tInW 3 52 rfl rfl
noncomputable def uw3_53 : Cond := Cond.selects "RoundReckoner$Reader" ({ cls := "RoundReckoner$Reader", name := "look", desc := "()I" } : MethodName) ({ cls := "RoundReckoner$Reader", name := "look", desc := "()I" } : MethodName)
set_option maxRecDepth 100000 in
theorem uw3_53m : uw3_53 ∈ tW0 := tInW 3 53 rfl rfl
noncomputable def uw3_66 : Cond := Cond.code ({ cls := "RoundReckoner$Reader", name := "isSmall", desc := "(I)Z" } : MethodName) prog_9_method_8_code (1 : Nat) (Option.some FieldType.boolean)
set_option maxRecDepth 100000 in
theorem uw3_66m : uw3_66 ∈ tW0 := tInW 3 66 rfl rfl
noncomputable def uw3_64 : Cond := Cond.methodLink "RoundReckoner$Reader" (102 : Nat) ({ cls := "RoundReckoner$Reader", name := "isSmall", desc := "(I)Z" } : MethodName)
set_option maxRecDepth 100000 in
theorem uw3_64m : uw3_64 ∈ tW0 := tInW 3 64 rfl rfl
noncomputable def uw3_65 : Cond := Cond.static ({ cls := "RoundReckoner$Reader", name := "isSmall", desc := "(I)Z" } : MethodName)
set_option maxRecDepth 100000 in
theorem uw3_65m : uw3_65 ∈ tW0 := tInW 3 65 rfl rfl
noncomputable def uw3_74 : Cond := Cond.code ({ cls := "RoundReckoner$Reader", name := "readWord", desc := "()Z" } : MethodName) prog_9_method_12_code (2 : Nat) (Option.some FieldType.boolean)
set_option maxRecDepth 100000 in
theorem uw3_74m : uw3_74 ∈ tW0 := tInW 3 74 rfl rfl
noncomputable def uw3_71 : Cond := Cond.methodLink "RoundReckoner$Reader" (105 : Nat) ({ cls := "RoundReckoner$Reader", name := "readWord", desc := "()Z" } : MethodName)
set_option maxRecDepth 100000 in
theorem uw3_71m : uw3_71 ∈ tW0 := tInW 3 71 rfl rfl
noncomputable def uw3_73 : Cond := Cond.instanceMethod ({ cls := "RoundReckoner$Reader", name := "readWord", desc := "()Z" } : MethodName)
set_option maxRecDepth 100000 in
theorem uw3_73m : uw3_73 ∈ tW0 := tInW 3 73 rfl rfl
noncomputable def uw0_2 : Cond := Cond.selects "RoundReckoner$Reader" ⟨"RoundReckoner$Reader", "readWord", "()Z"⟩ ⟨"RoundReckoner$Reader", "readWord", "()Z"⟩
set_option maxRecDepth 100000 in
theorem uw0_2m : uw0_2 ∈ tW0 := tInW 0 2 rfl rfl
noncomputable def uw3_139 : Cond := Cond.code ({ cls := "RoundReckoner$Reader", name := "putName", desc := "(LRoundReckoner$Goal;JI)Z" } : MethodName) prog_9_method_27_code (6 : Nat) (Option.some FieldType.boolean)
set_option maxRecDepth 100000 in
theorem uw3_139m : uw3_139 ∈ tW0 := tInW 3 139 rfl rfl
noncomputable def uw3_136 : Cond := Cond.methodLink "RoundReckoner$Reader" (218 : Nat) ({ cls := "RoundReckoner$Reader", name := "putName", desc := "(LRoundReckoner$Goal;JI)Z" } : MethodName)
set_option maxRecDepth 100000 in
theorem uw3_136m : uw3_136 ∈ tW0 := tInW 3 136 rfl rfl
noncomputable def uw3_138 : Cond := Cond.instanceMethod ({ cls := "RoundReckoner$Reader", name := "putName", desc := "(LRoundReckoner$Goal;JI)Z" } : MethodName)
set_option maxRecDepth 100000 in
theorem uw3_138m : uw3_138 ∈ tW0 := tInW 3 138 rfl rfl
noncomputable def uw0_12 : Cond := Cond.selects "RoundReckoner$Reader" ⟨"RoundReckoner$Reader", "putName", "(LRoundReckoner$Goal;JI)Z"⟩ ⟨"RoundReckoner$Reader", "putName", "(LRoundReckoner$Goal;JI)Z"⟩
set_option maxRecDepth 100000 in
theorem uw0_12m : uw0_12 ∈ tW0 := tInW 0 12 rfl rfl
noncomputable def uw3_151 : Cond := Cond.code ({ cls := "RoundReckoner$Reader", name := "readNumber", desc := "()Z" } : MethodName) prog_9_method_13_code (4 : Nat) (Option.some FieldType.boolean)
set_option maxRecDepth 100000 in
theorem uw3_151m : uw3_151 ∈ tW0 := tInW 3 151 rfl rfl
noncomputable def uw3_148 : Cond := Cond.methodLink "RoundReckoner$Reader" (222 : Nat) ({ cls := "RoundReckoner$Reader", name := "readNumber", desc := "()Z" } : MethodName)
set_option maxRecDepth 100000 in
theorem uw3_148m : uw3_148 ∈ tW0 := tInW 3 148 rfl rfl
noncomputable def uw3_150 : Cond := Cond.instanceMethod ({ cls := "RoundReckoner$Reader", name := "readNumber", desc := "()Z" } : MethodName)
set_option maxRecDepth 100000 in
theorem uw3_150m : uw3_150 ∈ tW0 := tInW 3 150 rfl rfl
noncomputable def uw0_13 : Cond := Cond.selects "RoundReckoner$Reader" ⟨"RoundReckoner$Reader", "readNumber", "()Z"⟩ ⟨"RoundReckoner$Reader", "readNumber", "()Z"⟩
set_option maxRecDepth 100000 in
theorem uw0_13m : uw0_13 ∈ tW0 := tInW 0 13 rfl rfl
noncomputable def uw1_67 : Cond := Cond.fieldLink "RoundReckoner$Reader" (168 : Nat) "RoundReckoner$Goal" "kind" "I"
set_option maxRecDepth 100000 in
theorem uw1_67m : uw1_67 ∈ tW0 := tInW 1 67 rfl rfl
noncomputable def uw3_104 : Cond := Cond.code ({ cls := "RoundReckoner$Reader", name := "meet", desc := "(J)I" } : MethodName) prog_9_method_23_code (4 : Nat) (Option.some FieldType.int)
set_option maxRecDepth 100000 in
theorem uw3_104m : uw3_104 ∈ tW0 := tInW 3 104 rfl rfl
noncomputable def uw3_101 : Cond := Cond.methodLink "RoundReckoner$Reader" (181 : Nat) ({ cls := "RoundReckoner$Reader", name := "meet", desc := "(J)I" } : MethodName)
set_option maxRecDepth 100000 in
theorem uw3_101m : uw3_101 ∈ tW0 := tInW 3 101 rfl rfl
noncomputable def uw3_103 : Cond := Cond.instanceMethod ({ cls := "RoundReckoner$Reader", name := "meet", desc := "(J)I" } : MethodName)
set_option maxRecDepth 100000 in
theorem uw3_103m : uw3_103 ∈ tW0 := tInW 3 103 rfl rfl
noncomputable def uw0_6 : Cond := Cond.selects "RoundReckoner$Reader" ⟨"RoundReckoner$Reader", "meet", "(J)I"⟩ ⟨"RoundReckoner$Reader", "meet", "(J)I"⟩
set_option maxRecDepth 100000 in
theorem uw0_6m : uw0_6 ∈ tW0 := tInW 0 6 rfl rfl
noncomputable def uw3_112 : Cond := Cond.code ({ cls := "RoundReckoner$Reader", name := "isKnown", desc := "(I)Z" } : MethodName) prog_9_method_21_code (2 : Nat) (Option.some FieldType.boolean)
set_option maxRecDepth 100000 in
theorem uw3_112m : uw3_112 ∈ tW0 := tInW 3 112 rfl rfl
noncomputable def uw3_109 : Cond := Cond.methodLink "RoundReckoner$Reader" (185 : Nat) ({ cls := "RoundReckoner$Reader", name := "isKnown", desc := "(I)Z" } : MethodName)
set_option maxRecDepth 100000 in
theorem uw3_109m : uw3_109 ∈ tW0 := tInW 3 109 rfl rfl
noncomputable def uw3_111 : Cond := Cond.instanceMethod ({ cls := "RoundReckoner$Reader", name := "isKnown", desc := "(I)Z" } : MethodName)
set_option maxRecDepth 100000 in
theorem uw3_111m : uw3_111 ∈ tW0 := tInW 3 111 rfl rfl
noncomputable def uw0_8 : Cond := Cond.selects "RoundReckoner$Reader" ⟨"RoundReckoner$Reader", "isKnown", "(I)Z"⟩ ⟨"RoundReckoner$Reader", "isKnown", "(I)Z"⟩
set_option maxRecDepth 100000 in
theorem uw0_8m : uw0_8 ∈ tW0 := tInW 0 8 rfl rfl
noncomputable def uw3_120 : Cond := Cond.code ({ cls := "RoundReckoner$Reader", name := "addStray", desc := "(I)V" } : MethodName) prog_9_method_20_code (2 : Nat) (Option.none : Option FieldType)
set_option maxRecDepth 100000 in
theorem uw3_120m : uw3_120 ∈ tW0 := tInW 3 120 rfl rfl
noncomputable def uw3_117 : Cond := Cond.methodLink "RoundReckoner$Reader" (188 : Nat) ({ cls := "RoundReckoner$Reader", name := "addStray", desc := "(I)V" } : MethodName)
set_option maxRecDepth 100000 in
theorem uw3_117m : uw3_117 ∈ tW0 := tInW 3 117 rfl rfl
noncomputable def uw3_119 : Cond := Cond.instanceMethod ({ cls := "RoundReckoner$Reader", name := "addStray", desc := "(I)V" } : MethodName)
set_option maxRecDepth 100000 in
theorem uw3_119m : uw3_119 ∈ tW0 := tInW 3 119 rfl rfl
noncomputable def uw0_9 : Cond := Cond.selects "RoundReckoner$Reader" ⟨"RoundReckoner$Reader", "addStray", "(I)V"⟩ ⟨"RoundReckoner$Reader", "addStray", "(I)V"⟩
set_option maxRecDepth 100000 in
theorem uw0_9m : uw0_9 ∈ tW0 := tInW 0 9 rfl rfl
noncomputable def uw3_96 : Cond := Cond.code ({ cls := "RoundReckoner$Reader", name := "isCapital", desc := "(I)Z" } : MethodName) prog_9_method_9_code (1 : Nat) (Option.some FieldType.boolean)
set_option maxRecDepth 100000 in
theorem uw3_96m : uw3_96 ∈ tW0 := tInW 3 96 rfl rfl
noncomputable def uw3_94 : Cond := Cond.methodLink "RoundReckoner$Reader" (162 : Nat) ({ cls := "RoundReckoner$Reader", name := "isCapital", desc := "(I)Z" } : MethodName)
set_option maxRecDepth 100000 in
theorem uw3_94m : uw3_94 ∈ tW0 := tInW 3 94 rfl rfl
noncomputable def uw3_95 : Cond := Cond.static ({ cls := "RoundReckoner$Reader", name := "isCapital", desc := "(I)Z" } : MethodName)
set_option maxRecDepth 100000 in
theorem uw3_95m : uw3_95 ∈ tW0 := tInW 3 95 rfl rfl
noncomputable def uw3_135 : Cond := Cond.code ({ cls := "RoundReckoner$Reader", name := "readConstant", desc := "(LRoundReckoner$Goal;)Z" } : MethodName) prog_9_method_26_code (4 : Nat) (Option.some FieldType.boolean)
set_option maxRecDepth 100000 in
theorem uw3_135m : uw3_135 ∈ tW0 := tInW 3 135 rfl rfl
noncomputable def uw3_132 : Cond := Cond.methodLink "RoundReckoner$Reader" (178 : Nat) ({ cls := "RoundReckoner$Reader", name := "readConstant", desc := "(LRoundReckoner$Goal;)Z" } : MethodName)
set_option maxRecDepth 100000 in
theorem uw3_132m : uw3_132 ∈ tW0 := tInW 3 132 rfl rfl
noncomputable def uw3_134 : Cond := Cond.instanceMethod ({ cls := "RoundReckoner$Reader", name := "readConstant", desc := "(LRoundReckoner$Goal;)Z" } : MethodName)
set_option maxRecDepth 100000 in
theorem uw3_134m : uw3_134 ∈ tW0 := tInW 3 134 rfl rfl
noncomputable def uw0_11 : Cond := Cond.selects "RoundReckoner$Reader" ⟨"RoundReckoner$Reader", "readConstant", "(LRoundReckoner$Goal;)Z"⟩ ⟨"RoundReckoner$Reader", "readConstant", "(LRoundReckoner$Goal;)Z"⟩
set_option maxRecDepth 100000 in
theorem uw0_11m : uw0_11 ∈ tW0 := tInW 0 11 rfl rfl
noncomputable def uw3_223 : Cond := Cond.code ({ cls := "RoundReckoner$Reader", name := "putKnown", desc := "(LRoundReckoner$Goal;JI)Z" } : MethodName) prog_9_method_39_code (6 : Nat) (Option.some FieldType.boolean)
set_option maxRecDepth 100000 in
theorem uw3_223m : uw3_223 ∈ tW0 := tInW 3 223 rfl rfl
noncomputable def uw3_220 : Cond := Cond.methodLink "RoundReckoner$Reader" (277 : Nat) ({ cls := "RoundReckoner$Reader", name := "putKnown", desc := "(LRoundReckoner$Goal;JI)Z" } : MethodName)
set_option maxRecDepth 100000 in
theorem uw3_220m : uw3_220 ∈ tW0 := tInW 3 220 rfl rfl
noncomputable def uw3_222 : Cond := Cond.instanceMethod ({ cls := "RoundReckoner$Reader", name := "putKnown", desc := "(LRoundReckoner$Goal;JI)Z" } : MethodName)
set_option maxRecDepth 100000 in
theorem uw3_222m : uw3_222 ∈ tW0 := tInW 3 222 rfl rfl
noncomputable def uw0_19 : Cond := Cond.selects "RoundReckoner$Reader" ⟨"RoundReckoner$Reader", "putKnown", "(LRoundReckoner$Goal;JI)Z"⟩ ⟨"RoundReckoner$Reader", "putKnown", "(LRoundReckoner$Goal;JI)Z"⟩
set_option maxRecDepth 100000 in
theorem uw0_19m : uw0_19 ∈ tW0 := tInW 0 19 rfl rfl
noncomputable def uw1_90 : Cond := Cond.fieldLink "RoundReckoner$Reader" (195 : Nat) "RoundReckoner$Goal" "tally" "I"
set_option maxRecDepth 100000 in
theorem uw1_90m : uw1_90 ∈ tW0 := tInW 1 90 rfl rfl
noncomputable def uw1_92 : Cond := Cond.fieldLink "RoundReckoner$Reader" (198 : Nat) "RoundReckoner$Goal" "tallyAt" "I"
set_option maxRecDepth 100000 in
theorem uw1_92m : uw1_92 ∈ tW0 := tInW 1 92 rfl rfl
noncomputable def uw1_95 : Cond := Cond.fieldLink "RoundReckoner$Reader" (204 : Nat) "RoundReckoner$Goal" "tallyPlace" "I"
set_option maxRecDepth 100000 in
theorem uw1_95m : uw1_95 ∈ tW0 := tInW 1 95 rfl rfl
noncomputable def uw1_94 : Cond := Cond.fieldLink "RoundReckoner$Reader" (207 : Nat) "RoundReckoner$Goal" "tallySlot" "I"
set_option maxRecDepth 100000 in
theorem uw1_94m : uw1_94 ∈ tW0 := tInW 1 94 rfl rfl
noncomputable def uw3_127 : Cond := Cond.code ({ cls := "RoundReckoner$Reader", name := "tallyOf", desc := "(J)I" } : MethodName) prog_9_method_25_code (2 : Nat) (Option.some FieldType.int)
set_option maxRecDepth 100000 in
theorem uw3_127m : uw3_127 ∈ tW0 := tInW 3 127 rfl rfl
noncomputable def uw3_125 : Cond := Cond.methodLink "RoundReckoner$Reader" (201 : Nat) ({ cls := "RoundReckoner$Reader", name := "tallyOf", desc := "(J)I" } : MethodName)
set_option maxRecDepth 100000 in
theorem uw3_125m : uw3_125 ∈ tW0 := tInW 3 125 rfl rfl
noncomputable def uw3_126 : Cond := Cond.static ({ cls := "RoundReckoner$Reader", name := "tallyOf", desc := "(J)I" } : MethodName)
set_option maxRecDepth 100000 in
theorem uw3_126m : uw3_126 ∈ tW0 := tInW 3 126 rfl rfl
noncomputable def uw3_100 : Cond := Cond.code ({ cls := "RoundReckoner$Reader", name := "putVariable", desc := "(LRoundReckoner$Goal;)Z" } : MethodName) prog_9_method_19_code (3 : Nat) (Option.some FieldType.boolean)
set_option maxRecDepth 100000 in
theorem uw3_100m : uw3_100 ∈ tW0 := tInW 3 100 rfl rfl
noncomputable def uw3_97 : Cond := Cond.methodLink "RoundReckoner$Reader" (165 : Nat) ({ cls := "RoundReckoner$Reader", name := "putVariable", desc := "(LRoundReckoner$Goal;)Z" } : MethodName)
set_option maxRecDepth 100000 in
theorem uw3_97m : uw3_97 ∈ tW0 := tInW 3 97 rfl rfl
noncomputable def uw3_99 : Cond := Cond.instanceMethod ({ cls := "RoundReckoner$Reader", name := "putVariable", desc := "(LRoundReckoner$Goal;)Z" } : MethodName)
set_option maxRecDepth 100000 in
theorem uw3_99m : uw3_99 ∈ tW0 := tInW 3 99 rfl rfl
noncomputable def uw0_5 : Cond := Cond.selects "RoundReckoner$Reader" ⟨"RoundReckoner$Reader", "putVariable", "(LRoundReckoner$Goal;)Z"⟩ ⟨"RoundReckoner$Reader", "putVariable", "(LRoundReckoner$Goal;)Z"⟩
set_option maxRecDepth 100000 in
theorem uw0_5m : uw0_5 ∈ tW0 := tInW 0 5 rfl rfl
noncomputable def uw3_124 : Cond := Cond.code ({ cls := "RoundReckoner$Reader", name := "readTally", desc := "(LRoundReckoner$Goal;)Z" } : MethodName) prog_9_method_24_code (2 : Nat) (Option.some FieldType.boolean)
set_option maxRecDepth 100000 in
theorem uw3_124m : uw3_124 ∈ tW0 := tInW 3 124 rfl rfl
noncomputable def uw3_121 : Cond := Cond.methodLink "RoundReckoner$Reader" (171 : Nat) ({ cls := "RoundReckoner$Reader", name := "readTally", desc := "(LRoundReckoner$Goal;)Z" } : MethodName)
set_option maxRecDepth 100000 in
theorem uw3_121m : uw3_121 ∈ tW0 := tInW 3 121 rfl rfl
noncomputable def uw3_123 : Cond := Cond.instanceMethod ({ cls := "RoundReckoner$Reader", name := "readTally", desc := "(LRoundReckoner$Goal;)Z" } : MethodName)
set_option maxRecDepth 100000 in
theorem uw3_123m : uw3_123 ∈ tW0 := tInW 3 123 rfl rfl
noncomputable def uw0_10 : Cond := Cond.selects "RoundReckoner$Reader" ⟨"RoundReckoner$Reader", "readTally", "(LRoundReckoner$Goal;)Z"⟩ ⟨"RoundReckoner$Reader", "readTally", "(LRoundReckoner$Goal;)Z"⟩
set_option maxRecDepth 100000 in
theorem uw0_10m : uw0_10 ∈ tW0 := tInW 0 10 rfl rfl
noncomputable def uw1_53 : Cond := Cond.fieldLink "RoundReckoner$Reader" (137 : Nat) "RoundReckoner$Goal" "kinds" "[I"
set_option maxRecDepth 100000 in
theorem uw1_53m : uw1_53 ∈ tW0 := tInW 1 53 rfl rfl
noncomputable def uw1_56 : Cond := Cond.fieldLink "RoundReckoner$Reader" (140 : Nat) "RoundReckoner$Goal" "slots" "[I"
set_option maxRecDepth 100000 in
theorem uw1_56m : uw1_56 ∈ tW0 := tInW 1 56 rfl rfl
noncomputable def uw1_82 : Cond := Cond.fieldLink "RoundReckoner$Reader" (127 : Nat) "RoundReckoner$Goal" "guide" "I"
set_option maxRecDepth 100000 in
theorem uw1_82m : uw1_82 ∈ tW0 := tInW 1 82 rfl rfl
noncomputable def uw3_86 : Cond := Cond.code ({ cls := "RoundReckoner$Goal", name := "start", desc := "(IJI)V" } : MethodName) prog_6_method_2_code (5 : Nat) (Option.none : Option FieldType)
set_option maxRecDepth 100000 in
theorem uw3_86m : uw3_86 ∈ tW0 := tInW 3 86 rfl rfl
noncomputable def uw3_83 : Cond := Cond.methodLink "RoundReckoner$Reader" (117 : Nat) ({ cls := "RoundReckoner$Goal", name := "start", desc := "(IJI)V" } : MethodName)
set_option maxRecDepth 100000 in
theorem uw3_83m : uw3_83 ∈ tW0 := tInW 3 83 rfl rfl
noncomputable def uw3_84 : Cond := Cond.instanceMethod ({ cls := "RoundReckoner$Goal", name := "start", desc := "(IJI)V" } : MethodName)
set_option maxRecDepth 100000 in
theorem uw3_84m : uw3_84 ∈ tW0 := tInW 3 84 rfl rfl
noncomputable def uw3_85 : Cond := Cond.selects "RoundReckoner$Goal" ({ cls := "RoundReckoner$Goal", name := "start", desc := "(IJI)V" } : MethodName) ({ cls := "RoundReckoner$Goal", name := "start", desc := "(IJI)V" } : MethodName)
set_option maxRecDepth 100000 in
theorem uw3_85m : uw3_85 ∈ tW0 := tInW 3 85 rfl rfl
noncomputable def uw3_93 : Cond := Cond.code ({ cls := "RoundReckoner$Reader", name := "readArg", desc := "(LRoundReckoner$Goal;)Z" } : MethodName) prog_9_method_18_code (3 : Nat) (Option.some FieldType.boolean)
set_option maxRecDepth 100000 in
theorem uw3_93m : uw3_93 ∈ tW0 := tInW 3 93 rfl rfl
noncomputable def uw3_90 : Cond := Cond.methodLink "RoundReckoner$Reader" (123 : Nat) ({ cls := "RoundReckoner$Reader", name := "readArg", desc := "(LRoundReckoner$Goal;)Z" } : MethodName)
set_option maxRecDepth 100000 in
theorem uw3_90m : uw3_90 ∈ tW0 := tInW 3 90 rfl rfl
noncomputable def uw3_92 : Cond := Cond.instanceMethod ({ cls := "RoundReckoner$Reader", name := "readArg", desc := "(LRoundReckoner$Goal;)Z" } : MethodName)
set_option maxRecDepth 100000 in
theorem uw3_92m : uw3_92 ∈ tW0 := tInW 3 92 rfl rfl
noncomputable def uw0_4 : Cond := Cond.selects "RoundReckoner$Reader" ⟨"RoundReckoner$Reader", "readArg", "(LRoundReckoner$Goal;)Z"⟩ ⟨"RoundReckoner$Reader", "readArg", "(LRoundReckoner$Goal;)Z"⟩
set_option maxRecDepth 100000 in
theorem uw0_4m : uw0_4 ∈ tW0 := tInW 0 4 rfl rfl
noncomputable def uw3_155 : Cond := Cond.code ({ cls := "RoundReckoner$Reader", name := "stands", desc := "(LRoundReckoner$Goal;II)Z" } : MethodName) prog_9_method_16_code (4 : Nat) (Option.some FieldType.boolean)
set_option maxRecDepth 100000 in
theorem uw3_155m : uw3_155 ∈ tW0 := tInW 3 155 rfl rfl
noncomputable def uw3_153 : Cond := Cond.methodLink "RoundReckoner$Reader" (130 : Nat) ({ cls := "RoundReckoner$Reader", name := "stands", desc := "(LRoundReckoner$Goal;II)Z" } : MethodName)
set_option maxRecDepth 100000 in
theorem uw3_153m : uw3_153 ∈ tW0 := tInW 3 153 rfl rfl
noncomputable def uw3_154 : Cond := Cond.static ({ cls := "RoundReckoner$Reader", name := "stands", desc := "(LRoundReckoner$Goal;II)Z" } : MethodName)
set_option maxRecDepth 100000 in
theorem uw3_154m : uw3_154 ∈ tW0 := tInW 3 154 rfl rfl
noncomputable def uw3_159 : Cond := Cond.code ({ cls := "RoundReckoner$Reader", name := "findPredicate", desc := "(LRoundReckoner$Goal;)Z" } : MethodName) prog_9_method_17_code (2 : Nat) (Option.some FieldType.boolean)
set_option maxRecDepth 100000 in
theorem uw3_159m : uw3_159 ∈ tW0 := tInW 3 159 rfl rfl
noncomputable def uw3_156 : Cond := Cond.methodLink "RoundReckoner$Reader" (134 : Nat) ({ cls := "RoundReckoner$Reader", name := "findPredicate", desc := "(LRoundReckoner$Goal;)Z" } : MethodName)
set_option maxRecDepth 100000 in
theorem uw3_156m : uw3_156 ∈ tW0 := tInW 3 156 rfl rfl
noncomputable def uw3_158 : Cond := Cond.instanceMethod ({ cls := "RoundReckoner$Reader", name := "findPredicate", desc := "(LRoundReckoner$Goal;)Z" } : MethodName)
set_option maxRecDepth 100000 in
theorem uw3_158m : uw3_158 ∈ tW0 := tInW 3 158 rfl rfl
noncomputable def uw0_14 : Cond := Cond.selects "RoundReckoner$Reader" ⟨"RoundReckoner$Reader", "findPredicate", "(LRoundReckoner$Goal;)Z"⟩ ⟨"RoundReckoner$Reader", "findPredicate", "(LRoundReckoner$Goal;)Z"⟩
set_option maxRecDepth 100000 in
theorem uw0_14m : uw0_14 ∈ tW0 := tInW 0 14 rfl rfl
noncomputable def uw1_139 : Cond := Cond.fieldLink "RoundReckoner$Reader" (90 : Nat) "RoundReckoner$Rule" "goalCount" "I"
set_option maxRecDepth 100000 in
theorem uw1_139m : uw1_139 ∈ tW0 := tInW 1 139 rfl rfl
noncomputable def uw1_142 : Cond := Cond.fieldLink "RoundReckoner$Reader" (95 : Nat) "RoundReckoner$Rule" "atomCount" "I"
set_option maxRecDepth 100000 in
theorem uw1_142m : uw1_142 ∈ tW0 := tInW 1 142 rfl rfl
noncomputable def uw1_135 : Cond := Cond.fieldLink "RoundReckoner$Reader" (109 : Nat) "RoundReckoner$Rule" "head" "LRoundReckoner$Goal;"
set_option maxRecDepth 100000 in
theorem uw1_135m : uw1_135 ∈ tW0 := tInW 1 135 rfl rfl
noncomputable def uw3_82 : Cond := Cond.code ({ cls := "RoundReckoner$Reader", name := "readAtom", desc := "(LRoundReckoner$Goal;I)Z" } : MethodName) prog_9_method_15_code (6 : Nat) (Option.some FieldType.boolean)
set_option maxRecDepth 100000 in
theorem uw3_82m : uw3_82 ∈ tW0 := tInW 3 82 rfl rfl
noncomputable def uw3_79 : Cond := Cond.methodLink "RoundReckoner$Reader" (113 : Nat) ({ cls := "RoundReckoner$Reader", name := "readAtom", desc := "(LRoundReckoner$Goal;I)Z" } : MethodName)
set_option maxRecDepth 100000 in
theorem uw3_79m : uw3_79 ∈ tW0 := tInW 3 79 rfl rfl
noncomputable def uw3_81 : Cond := Cond.instanceMethod ({ cls := "RoundReckoner$Reader", name := "readAtom", desc := "(LRoundReckoner$Goal;I)Z" } : MethodName)
set_option maxRecDepth 100000 in
theorem uw3_81m : uw3_81 ∈ tW0 := tInW 3 81 rfl rfl
noncomputable def uw0_3 : Cond := Cond.selects "RoundReckoner$Reader" ⟨"RoundReckoner$Reader", "readAtom", "(LRoundReckoner$Goal;I)Z"⟩ ⟨"RoundReckoner$Reader", "readAtom", "(LRoundReckoner$Goal;I)Z"⟩
set_option maxRecDepth 100000 in
theorem uw0_3m : uw0_3 ∈ tW0 := tInW 0 3 rfl rfl
noncomputable def uw1_59 : Cond := Cond.fieldLink "RoundReckoner$Reader" (233 : Nat) "RoundReckoner$Goal" "places" "[I"
set_option maxRecDepth 100000 in
theorem uw1_59m : uw1_59 ∈ tW0 := tInW 1 59 rfl rfl
noncomputable def uw3_179 : Cond := Cond.code ({ cls := "RoundReckoner$Reader", name := "areConstants", desc := "(LRoundReckoner$Goal;)Z" } : MethodName) prog_9_method_29_code (3 : Nat) (Option.some FieldType.boolean)
set_option maxRecDepth 100000 in
theorem uw3_179m : uw3_179 ∈ tW0 := tInW 3 179 rfl rfl
noncomputable def uw3_176 : Cond := Cond.methodLink "RoundReckoner$Reader" (230 : Nat) ({ cls := "RoundReckoner$Reader", name := "areConstants", desc := "(LRoundReckoner$Goal;)Z" } : MethodName)
set_option maxRecDepth 100000 in
theorem uw3_176m : uw3_176 ∈ tW0 := tInW 3 176 rfl rfl
noncomputable def uw3_177 : Cond := Cond.instanceMethod ({ cls := "RoundReckoner$Reader", name := "areConstants", desc := "(LRoundReckoner$Goal;)Z" } : MethodName)
set_option maxRecDepth 100000 in
theorem uw3_177m : uw3_177 ∈ tW0 := tInW 3 177 rfl rfl
noncomputable def uw3_178 : Cond := Cond.selects "RoundReckoner$Reader" ({ cls := "RoundReckoner$Reader", name := "areConstants", desc := "(LRoundReckoner$Goal;)Z" } : MethodName) ({ cls := "RoundReckoner$Reader", name := "areConstants", desc := "(LRoundReckoner$Goal;)Z" } : MethodName)
set_option maxRecDepth 100000 in
theorem uw3_178m : uw3_178 ∈ tW0 := tInW 3 178 rfl rfl
noncomputable def uw3_175 : Cond := Cond.code ({ cls := "RoundReckoner$Reader", name := "readStop", desc := "(LRoundReckoner$Goal;)Z" } : MethodName) prog_9_method_28_code (2 : Nat) (Option.some FieldType.boolean)
set_option maxRecDepth 100000 in
theorem uw3_175m : uw3_175 ∈ tW0 := tInW 3 175 rfl rfl
noncomputable def uw3_172 : Cond := Cond.methodLink "RoundReckoner$Reader" (236 : Nat) ({ cls := "RoundReckoner$Reader", name := "readStop", desc := "(LRoundReckoner$Goal;)Z" } : MethodName)
set_option maxRecDepth 100000 in
theorem uw3_172m : uw3_172 ∈ tW0 := tInW 3 172 rfl rfl
noncomputable def uw3_173 : Cond := Cond.instanceMethod ({ cls := "RoundReckoner$Reader", name := "readStop", desc := "(LRoundReckoner$Goal;)Z" } : MethodName)
set_option maxRecDepth 100000 in
theorem uw3_173m : uw3_173 ∈ tW0 := tInW 3 173 rfl rfl
noncomputable def uw3_174 : Cond := Cond.selects "RoundReckoner$Reader" ({ cls := "RoundReckoner$Reader", name := "readStop", desc := "(LRoundReckoner$Goal;)Z" } : MethodName) ({ cls := "RoundReckoner$Reader", name := "readStop", desc := "(LRoundReckoner$Goal;)Z" } : MethodName)
set_option maxRecDepth 100000 in
theorem uw3_174m : uw3_174 ∈ tW0 := tInW 3 174 rfl rfl
noncomputable def uw3_183 : Cond := Cond.code ({ cls := "RoundReckoner$Clauses", name := "factOf", desc := "(LRoundReckoner$Goal;)I" } : MethodName) prog_4_method_8_code (3 : Nat) (Option.some FieldType.int)
set_option maxRecDepth 100000 in
theorem uw3_183m : uw3_183 ∈ tW0 := tInW 3 183 rfl rfl
noncomputable def uw3_180 : Cond := Cond.methodLink "RoundReckoner$Reader" (239 : Nat) ({ cls := "RoundReckoner$Clauses", name := "factOf", desc := "(LRoundReckoner$Goal;)I" } : MethodName)
set_option maxRecDepth 100000 in
theorem uw3_180m : uw3_180 ∈ tW0 := tInW 3 180 rfl rfl
noncomputable def uw3_181 : Cond := Cond.instanceMethod ({ cls := "RoundReckoner$Clauses", name := "factOf", desc := "(LRoundReckoner$Goal;)I" } : MethodName)
set_option maxRecDepth 100000 in
theorem uw3_181m : uw3_181 ∈ tW0 := tInW 3 181 rfl rfl
noncomputable def uw3_182 : Cond := Cond.selects "RoundReckoner$Clauses" ({ cls := "RoundReckoner$Clauses", name := "factOf", desc := "(LRoundReckoner$Goal;)I" } : MethodName) ({ cls := "RoundReckoner$Clauses", name := "factOf", desc := "(LRoundReckoner$Goal;)I" } : MethodName)
set_option maxRecDepth 100000 in
theorem uw3_182m : uw3_182 ∈ tW0 := tInW 3 182 rfl rfl
noncomputable def uw3_191 : Cond := Cond.code ({ cls := "RoundReckoner$Clauses", name := "addFact", desc := "(LRoundReckoner$Goal;)Z" } : MethodName) prog_4_method_10_code (2 : Nat) (Option.some FieldType.boolean)
set_option maxRecDepth 100000 in
theorem uw3_191m : uw3_191 ∈ tW0 := tInW 3 191 rfl rfl
noncomputable def uw3_188 : Cond := Cond.methodLink "RoundReckoner$Reader" (243 : Nat) ({ cls := "RoundReckoner$Clauses", name := "addFact", desc := "(LRoundReckoner$Goal;)Z" } : MethodName)
set_option maxRecDepth 100000 in
theorem uw3_188m : uw3_188 ∈ tW0 := tInW 3 188 rfl rfl
noncomputable def uw3_189 : Cond := Cond.instanceMethod ({ cls := "RoundReckoner$Clauses", name := "addFact", desc := "(LRoundReckoner$Goal;)Z" } : MethodName)
set_option maxRecDepth 100000 in
theorem uw3_189m : uw3_189 ∈ tW0 := tInW 3 189 rfl rfl
noncomputable def uw3_190 : Cond := Cond.selects "RoundReckoner$Clauses" ({ cls := "RoundReckoner$Clauses", name := "addFact", desc := "(LRoundReckoner$Goal;)Z" } : MethodName) ({ cls := "RoundReckoner$Clauses", name := "addFact", desc := "(LRoundReckoner$Goal;)Z" } : MethodName)
set_option maxRecDepth 100000 in
theorem uw3_190m : uw3_190 ∈ tW0 := tInW 3 190 rfl rfl
noncomputable def uw1_175 : Cond := Cond.fieldLink "RoundReckoner$Reader" (246 : Nat) "RoundReckoner$Clauses" "ruleCount" "I"
set_option maxRecDepth 100000 in
theorem uw1_175m : uw1_175 ∈ tW0 := tInW 1 175 rfl rfl
noncomputable def uw3_231 : Cond := Cond.code ({ cls := "RoundReckoner$Reader", name := "readSign", desc := "(LRoundReckoner$Goal;)Z" } : MethodName) prog_9_method_37_code (3 : Nat) (Option.some FieldType.boolean)
set_option maxRecDepth 100000 in
theorem uw3_231m : uw3_231 ∈ tW0 := tInW 3 231 rfl rfl
noncomputable def uw3_228 : Cond := Cond.methodLink "RoundReckoner$Reader" (271 : Nat) ({ cls := "RoundReckoner$Reader", name := "readSign", desc := "(LRoundReckoner$Goal;)Z" } : MethodName)
set_option maxRecDepth 100000 in
theorem uw3_228m : uw3_228 ∈ tW0 := tInW 3 228 rfl rfl
noncomputable def uw3_230 : Cond := Cond.instanceMethod ({ cls := "RoundReckoner$Reader", name := "readSign", desc := "(LRoundReckoner$Goal;)Z" } : MethodName)
set_option maxRecDepth 100000 in
theorem uw3_230m : uw3_230 ∈ tW0 := tInW 3 230 rfl rfl
noncomputable def uw0_21 : Cond := Cond.selects "RoundReckoner$Reader" ⟨"RoundReckoner$Reader", "readSign", "(LRoundReckoner$Goal;)Z"⟩ ⟨"RoundReckoner$Reader", "readSign", "(LRoundReckoner$Goal;)Z"⟩
set_option maxRecDepth 100000 in
theorem uw0_21m : uw0_21 ∈ tW0 := tInW 0 21 rfl rfl
noncomputable def uw3_219 : Cond := Cond.code ({ cls := "RoundReckoner$Reader", name := "readValue", desc := "(LRoundReckoner$Goal;)Z" } : MethodName) prog_9_method_41_code (2 : Nat) (Option.some FieldType.boolean)
set_option maxRecDepth 100000 in
theorem uw3_219m : uw3_219 ∈ tW0 := tInW 3 219 rfl rfl
noncomputable def uw3_216 : Cond := Cond.methodLink "RoundReckoner$Reader" (274 : Nat) ({ cls := "RoundReckoner$Reader", name := "readValue", desc := "(LRoundReckoner$Goal;)Z" } : MethodName)
set_option maxRecDepth 100000 in
theorem uw3_216m : uw3_216 ∈ tW0 := tInW 3 216 rfl rfl
noncomputable def uw3_218 : Cond := Cond.instanceMethod ({ cls := "RoundReckoner$Reader", name := "readValue", desc := "(LRoundReckoner$Goal;)Z" } : MethodName)
set_option maxRecDepth 100000 in
theorem uw3_218m : uw3_218 ∈ tW0 := tInW 3 218 rfl rfl
noncomputable def uw0_18 : Cond := Cond.selects "RoundReckoner$Reader" ⟨"RoundReckoner$Reader", "readValue", "(LRoundReckoner$Goal;)Z"⟩ ⟨"RoundReckoner$Reader", "readValue", "(LRoundReckoner$Goal;)Z"⟩
set_option maxRecDepth 100000 in
theorem uw0_18m : uw0_18 ∈ tW0 := tInW 0 18 rfl rfl
noncomputable def uw1_86 : Cond := Cond.fieldLink "RoundReckoner$Reader" (282 : Nat) "RoundReckoner$Goal" "target" "I"
set_option maxRecDepth 100000 in
theorem uw1_86m : uw1_86 ∈ tW0 := tInW 1 86 rfl rfl
noncomputable def uw3_215 : Cond := Cond.constantLong "RoundReckoner$Reader" 280 (Int64.ofInt 361)
set_option maxRecDepth 100000 in
theorem uw3_215m : uw3_215 ∈ tW0 := inAt_ok (ws := [uw3_215]) (is := [(3, 215)]) (by decide +kernel) _ (List.mem_cons_self ..)
noncomputable def uw3_214 : Cond := Cond.code ({ cls := "RoundReckoner$Reader", name := "readReckoning", desc := "(LRoundReckoner$Goal;JI)Z" } : MethodName) prog_9_method_40_code (6 : Nat) (Option.some FieldType.boolean)
set_option maxRecDepth 100000 in
theorem uw3_214m : uw3_214 ∈ tW0 := tInW 3 214 rfl rfl
noncomputable def uw3_211 : Cond := Cond.methodLink "RoundReckoner$Reader" (265 : Nat) ({ cls := "RoundReckoner$Reader", name := "readReckoning", desc := "(LRoundReckoner$Goal;JI)Z" } : MethodName)
set_option maxRecDepth 100000 in
theorem uw3_211m : uw3_211 ∈ tW0 := tInW 3 211 rfl rfl
noncomputable def uw3_213 : Cond := Cond.instanceMethod ({ cls := "RoundReckoner$Reader", name := "readReckoning", desc := "(LRoundReckoner$Goal;JI)Z" } : MethodName)
set_option maxRecDepth 100000 in
theorem uw3_213m : uw3_213 ∈ tW0 := tInW 3 213 rfl rfl
noncomputable def uw0_17 : Cond := Cond.selects "RoundReckoner$Reader" ⟨"RoundReckoner$Reader", "readReckoning", "(LRoundReckoner$Goal;JI)Z"⟩ ⟨"RoundReckoner$Reader", "readReckoning", "(LRoundReckoner$Goal;JI)Z"⟩
set_option maxRecDepth 100000 in
theorem uw0_17m : uw0_17 ∈ tW0 := tInW 0 17 rfl rfl
noncomputable def uw3_227 : Cond := Cond.code ({ cls := "RoundReckoner$Reader", name := "readComparison", desc := "(LRoundReckoner$Goal;JI)Z" } : MethodName) prog_9_method_38_code (5 : Nat) (Option.some FieldType.boolean)
set_option maxRecDepth 100000 in
theorem uw3_227m : uw3_227 ∈ tW0 := tInW 3 227 rfl rfl
noncomputable def uw3_224 : Cond := Cond.methodLink "RoundReckoner$Reader" (268 : Nat) ({ cls := "RoundReckoner$Reader", name := "readComparison", desc := "(LRoundReckoner$Goal;JI)Z" } : MethodName)
set_option maxRecDepth 100000 in
theorem uw3_224m : uw3_224 ∈ tW0 := tInW 3 224 rfl rfl
noncomputable def uw3_226 : Cond := Cond.instanceMethod ({ cls := "RoundReckoner$Reader", name := "readComparison", desc := "(LRoundReckoner$Goal;JI)Z" } : MethodName)
set_option maxRecDepth 100000 in
theorem uw3_226m : uw3_226 ∈ tW0 := tInW 3 226 rfl rfl
noncomputable def uw0_20 : Cond := Cond.selects "RoundReckoner$Reader" ⟨"RoundReckoner$Reader", "readComparison", "(LRoundReckoner$Goal;JI)Z"⟩ ⟨"RoundReckoner$Reader", "readComparison", "(LRoundReckoner$Goal;JI)Z"⟩
set_option maxRecDepth 100000 in
theorem uw0_20m : uw0_20 ∈ tW0 := tInW 0 20 rfl rfl
noncomputable def uw1_84 : Cond := Cond.fieldLink "RoundReckoner$Reader" (256 : Nat) "RoundReckoner$Goal" "order" "I"
set_option maxRecDepth 100000 in
theorem uw1_84m : uw1_84 ∈ tW0 := tInW 1 84 rfl rfl
noncomputable def uw3_206 : Cond := Cond.code ({ cls := "RoundReckoner$Rule", name := "goal", desc := "(I)LRoundReckoner$Goal;" } : MethodName) prog_11_method_2_code (3 : Nat) (Option.some (FieldType.object "RoundReckoner$Goal"))
set_option maxRecDepth 100000 in
theorem uw3_206m : uw3_206 ∈ tW0 := tInW 3 206 rfl rfl
noncomputable def uw1_3 : Cond := Cond.initialized "RoundReckoner$Rule"
set_option maxRecDepth 100000 in
theorem uw1_3m : uw1_3 ∈ tW0 := tInW 1 3 rfl rfl
noncomputable def uw3_203 : Cond := Cond.methodLink "RoundReckoner$Reader" (249 : Nat) ({ cls := "RoundReckoner$Rule", name := "goal", desc := "(I)LRoundReckoner$Goal;" } : MethodName)
set_option maxRecDepth 100000 in
theorem uw3_203m : uw3_203 ∈ tW0 := tInW 3 203 rfl rfl
noncomputable def uw3_204 : Cond := Cond.instanceMethod ({ cls := "RoundReckoner$Rule", name := "goal", desc := "(I)LRoundReckoner$Goal;" } : MethodName)
set_option maxRecDepth 100000 in
theorem uw3_204m : uw3_204 ∈ tW0 := tInW 3 204 rfl rfl
noncomputable def uw3_205 : Cond := Cond.selects "RoundReckoner$Rule" ({ cls := "RoundReckoner$Rule", name := "goal", desc := "(I)LRoundReckoner$Goal;" } : MethodName) ({ cls := "RoundReckoner$Rule", name := "goal", desc := "(I)LRoundReckoner$Goal;" } : MethodName)
set_option maxRecDepth 100000 in
theorem uw3_205m : uw3_205 ∈ tW0 := tInW 3 205 rfl rfl
noncomputable def uw3_210 : Cond := Cond.code ({ cls := "RoundReckoner$Reader", name := "readGoal", desc := "(LRoundReckoner$Goal;)Z" } : MethodName) prog_9_method_36_code (4 : Nat) (Option.some FieldType.boolean)
set_option maxRecDepth 100000 in
theorem uw3_210m : uw3_210 ∈ tW0 := tInW 3 210 rfl rfl
noncomputable def uw3_207 : Cond := Cond.methodLink "RoundReckoner$Reader" (253 : Nat) ({ cls := "RoundReckoner$Reader", name := "readGoal", desc := "(LRoundReckoner$Goal;)Z" } : MethodName)
set_option maxRecDepth 100000 in
theorem uw3_207m : uw3_207 ∈ tW0 := tInW 3 207 rfl rfl
noncomputable def uw3_209 : Cond := Cond.instanceMethod ({ cls := "RoundReckoner$Reader", name := "readGoal", desc := "(LRoundReckoner$Goal;)Z" } : MethodName)
set_option maxRecDepth 100000 in
theorem uw3_209m : uw3_209 ∈ tW0 := tInW 3 209 rfl rfl
noncomputable def uw0_16 : Cond := Cond.selects "RoundReckoner$Reader" ⟨"RoundReckoner$Reader", "readGoal", "(LRoundReckoner$Goal;)Z"⟩ ⟨"RoundReckoner$Reader", "readGoal", "(LRoundReckoner$Goal;)Z"⟩
set_option maxRecDepth 100000 in
theorem uw0_16m : uw0_16 ∈ tW0 := tInW 0 16 rfl rfl
noncomputable def uw3_235 : Cond := Cond.code ({ cls := "RoundReckoner$Reader", name := "areStraysAlone", desc := "()Z" } : MethodName) prog_9_method_35_code (2 : Nat) (Option.some FieldType.boolean)
set_option maxRecDepth 100000 in
theorem uw3_235m : uw3_235 ∈ tW0 := tInW 3 235 rfl rfl
noncomputable def uw3_232 : Cond := Cond.methodLink "RoundReckoner$Reader" (259 : Nat) ({ cls := "RoundReckoner$Reader", name := "areStraysAlone", desc := "()Z" } : MethodName)
set_option maxRecDepth 100000 in
theorem uw3_232m : uw3_232 ∈ tW0 := tInW 3 232 rfl rfl
noncomputable def uw3_234 : Cond := Cond.instanceMethod ({ cls := "RoundReckoner$Reader", name := "areStraysAlone", desc := "()Z" } : MethodName)
set_option maxRecDepth 100000 in
theorem uw3_234m : uw3_234 ∈ tW0 := tInW 3 234 rfl rfl
noncomputable def uw0_22 : Cond := Cond.selects "RoundReckoner$Reader" ⟨"RoundReckoner$Reader", "areStraysAlone", "()Z"⟩ ⟨"RoundReckoner$Reader", "areStraysAlone", "()Z"⟩
set_option maxRecDepth 100000 in
theorem uw0_22m : uw0_22 ∈ tW0 := tInW 0 22 rfl rfl
noncomputable def uw3_239 : Cond := Cond.code ({ cls := "RoundReckoner$Reader", name := "isHeadKnown", desc := "(LRoundReckoner$Goal;)Z" } : MethodName) prog_9_method_34_code (3 : Nat) (Option.some FieldType.boolean)
set_option maxRecDepth 100000 in
theorem uw3_239m : uw3_239 ∈ tW0 := tInW 3 239 rfl rfl
noncomputable def uw3_236 : Cond := Cond.methodLink "RoundReckoner$Reader" (262 : Nat) ({ cls := "RoundReckoner$Reader", name := "isHeadKnown", desc := "(LRoundReckoner$Goal;)Z" } : MethodName)
set_option maxRecDepth 100000 in
theorem uw3_236m : uw3_236 ∈ tW0 := tInW 3 236 rfl rfl
noncomputable def uw3_238 : Cond := Cond.instanceMethod ({ cls := "RoundReckoner$Reader", name := "isHeadKnown", desc := "(LRoundReckoner$Goal;)Z" } : MethodName)
set_option maxRecDepth 100000 in
theorem uw3_238m : uw3_238 ∈ tW0 := tInW 3 238 rfl rfl
noncomputable def uw0_23 : Cond := Cond.selects "RoundReckoner$Reader" ⟨"RoundReckoner$Reader", "isHeadKnown", "(LRoundReckoner$Goal;)Z"⟩ ⟨"RoundReckoner$Reader", "isHeadKnown", "(LRoundReckoner$Goal;)Z"⟩
set_option maxRecDepth 100000 in
theorem uw0_23m : uw0_23 ∈ tW0 := tInW 0 23 rfl rfl
noncomputable def uw2_170 : Cond := Cond.fieldLink "RoundReckoner$Answers" (15 : Nat) "RoundReckoner$Answers" "ways" "I"
set_option maxRecDepth 100000 in
theorem uw2_170m : uw2_170 ∈ tW0 := tInW 2 170 rfl rfl
noncomputable def uw2_172 : Cond := Cond.fieldLink "RoundReckoner$Answers" (19 : Nat) "RoundReckoner$Answers" "known" "I"
set_option maxRecDepth 100000 in
theorem uw2_172m : uw2_172 ∈ tW0 := tInW 2 172 rfl rfl
noncomputable def uw3_11 : Cond := Cond.fieldLink "RoundReckoner" (128 : Nat) "RoundReckoner" "ran" "Z"
set_option maxRecDepth 100000 in
theorem uw3_11m : uw3_11 ∈ tW0 := tInW 3 11 rfl rfl
noncomputable def uw3_9 : Cond := Cond.fieldLink "RoundReckoner" (51 : Nat) "RoundReckoner" "answers" "LRoundReckoner$Answers;"
set_option maxRecDepth 100000 in
theorem uw3_9m : uw3_9 ∈ tW0 := tInW 3 9 rfl rfl
noncomputable def uw4_23 : Cond := Cond.code ({ cls := "RoundReckoner$Answers", name := "clear", desc := "()V" } : MethodName) prog_2_method_2_code (1 : Nat) (Option.none : Option FieldType)
set_option maxRecDepth 100000 in
theorem uw4_23m : uw4_23 ∈ tW0 := tInW 4 23 rfl rfl
noncomputable def uw1_13 : Cond := Cond.initialized "RoundReckoner$Answers"
set_option maxRecDepth 100000 in
theorem uw1_13m : uw1_13 ∈ tW0 := tInW 1 13 rfl rfl
noncomputable def uw4_20 : Cond := Cond.methodLink "RoundReckoner" (132 : Nat) ({ cls := "RoundReckoner$Answers", name := "clear", desc := "()V" } : MethodName)
set_option maxRecDepth 100000 in
theorem uw4_20m : uw4_20 ∈ tW0 := tInW 4 20 rfl rfl
noncomputable def uw4_21 : Cond := Cond.instanceMethod ({ cls := "RoundReckoner$Answers", name := "clear", desc := "()V" } : MethodName)
set_option maxRecDepth 100000 in
theorem uw4_21m : uw4_21 ∈ tW0 := tInW 4 21 rfl rfl
noncomputable def uw4_22 : Cond := Cond.selects "RoundReckoner$Answers" ({ cls := "RoundReckoner$Answers", name := "clear", desc := "()V" } : MethodName) ({ cls := "RoundReckoner$Answers", name := "clear", desc := "()V" } : MethodName)
set_option maxRecDepth 100000 in
theorem uw4_22m : uw4_22 ∈ tW0 := tInW 4 22 rfl rfl
noncomputable def uw3_4 : Cond := Cond.fieldLink "RoundReckoner" (10 : Nat) "RoundReckoner" "clauses" "LRoundReckoner$Clauses;"
set_option maxRecDepth 100000 in
theorem uw3_4m : uw3_4 ∈ tW0 := tInW 3 4 rfl rfl
noncomputable def uw3_5 : Cond := Cond.fieldLink "RoundReckoner" (21 : Nat) "RoundReckoner" "reader" "LRoundReckoner$Reader;"
set_option maxRecDepth 100000 in
theorem uw3_5m : uw3_5 ∈ tW0 := tInW 3 5 rfl rfl
noncomputable def uw1_173 : Cond := Cond.fieldLink "RoundReckoner" (82 : Nat) "RoundReckoner$Clauses" "ruleCount" "I"
set_option maxRecDepth 100000 in
theorem uw1_173m : uw1_173 ∈ tW0 := tInW 1 173 rfl rfl
noncomputable def uw1_133 : Cond := Cond.fieldLink "RoundReckoner" (93 : Nat) "RoundReckoner$Rule" "head" "LRoundReckoner$Goal;"
set_option maxRecDepth 100000 in
theorem uw1_133m : uw1_133 ∈ tW0 := tInW 1 133 rfl rfl
noncomputable def uw1_234 : Cond := Cond.fieldLink "RoundReckoner" (119 : Nat) "RoundReckoner$Reader" "broken" "I"
set_option maxRecDepth 100000 in
theorem uw1_234m : uw1_234 ∈ tW0 := tInW 1 234 rfl rfl
noncomputable def uw3_42 : Cond := Cond.code ({ cls := "RoundReckoner$Clauses", name := "mark", desc := "()V" } : MethodName) prog_4_method_3_code (1 : Nat) (Option.none : Option FieldType)
set_option maxRecDepth 100000 in
theorem uw3_42m : uw3_42 ∈ tW0 := tInW 3 42 rfl rfl
noncomputable def uw3_39 : Cond := Cond.methodLink "RoundReckoner" (72 : Nat) ({ cls := "RoundReckoner$Clauses", name := "mark", desc := "()V" } : MethodName)
set_option maxRecDepth 100000 in
theorem uw3_39m : uw3_39 ∈ tW0 := tInW 3 39 rfl rfl
noncomputable def uw3_40 : Cond := Cond.instanceMethod ({ cls := "RoundReckoner$Clauses", name := "mark", desc := "()V" } : MethodName)
set_option maxRecDepth 100000 in
theorem uw3_40m : uw3_40 ∈ tW0 := tInW 3 40 rfl rfl
noncomputable def uw3_41 : Cond := Cond.selects "RoundReckoner$Clauses" ({ cls := "RoundReckoner$Clauses", name := "mark", desc := "()V" } : MethodName) ({ cls := "RoundReckoner$Clauses", name := "mark", desc := "()V" } : MethodName)
set_option maxRecDepth 100000 in
theorem uw3_41m : uw3_41 ∈ tW0 := tInW 3 41 rfl rfl
noncomputable def uw3_46 : Cond := Cond.code ({ cls := "RoundReckoner$Reader", name := "start", desc := "(I)V" } : MethodName) prog_9_method_4_code (2 : Nat) (Option.none : Option FieldType)
set_option maxRecDepth 100000 in
theorem uw3_46m : uw3_46 ∈ tW0 := tInW 3 46 rfl rfl
noncomputable def uw3_43 : Cond := Cond.methodLink "RoundReckoner" (75 : Nat) ({ cls := "RoundReckoner$Reader", name := "start", desc := "(I)V" } : MethodName)
set_option maxRecDepth 100000 in
theorem uw3_43m : uw3_43 ∈ tW0 := tInW 3 43 rfl rfl
noncomputable def uw3_44 : Cond := Cond.instanceMethod ({ cls := "RoundReckoner$Reader", name := "start", desc := "(I)V" } : MethodName)
set_option maxRecDepth 100000 in
theorem uw3_44m : uw3_44 ∈ tW0 := tInW 3 44 rfl rfl
noncomputable def uw3_45 : Cond := Cond.selects "RoundReckoner$Reader" ({ cls := "RoundReckoner$Reader", name := "start", desc := "(I)V" } : MethodName) ({ cls := "RoundReckoner$Reader", name := "start", desc := "(I)V" } : MethodName)
set_option maxRecDepth 100000 in
theorem uw3_45m : uw3_45 ∈ tW0 := tInW 3 45 rfl rfl
noncomputable def uw3_51 : Cond := Cond.methodLink "RoundReckoner" (78 : Nat) ({ cls := "RoundReckoner$Reader", name := "look", desc := "()I" } : MethodName)
set_option maxRecDepth 100000 in
theorem uw3_51m : uw3_51 ∈ tW0 := tInW 3 51 rfl rfl
noncomputable def uw3_58 : Cond := Cond.code ({ cls := "RoundReckoner$Clauses", name := "rule", desc := "(I)LRoundReckoner$Rule;" } : MethodName) prog_4_method_2_code (3 : Nat) (Option.some (FieldType.object "RoundReckoner$Rule"))
set_option maxRecDepth 100000 in
theorem uw3_58m : uw3_58 ∈ tW0 := tInW 3 58 rfl rfl
noncomputable def uw3_55 : Cond := Cond.methodLink "RoundReckoner" (85 : Nat) ({ cls := "RoundReckoner$Clauses", name := "rule", desc := "(I)LRoundReckoner$Rule;" } : MethodName)
set_option maxRecDepth 100000 in
theorem uw3_55m : uw3_55 ∈ tW0 := tInW 3 55 rfl rfl
noncomputable def uw3_56 : Cond := Cond.instanceMethod ({ cls := "RoundReckoner$Clauses", name := "rule", desc := "(I)LRoundReckoner$Rule;" } : MethodName)
set_option maxRecDepth 100000 in
theorem uw3_56m : uw3_56 ∈ tW0 := tInW 3 56 rfl rfl
noncomputable def uw3_57 : Cond := Cond.selects "RoundReckoner$Clauses" ({ cls := "RoundReckoner$Clauses", name := "rule", desc := "(I)LRoundReckoner$Rule;" } : MethodName) ({ cls := "RoundReckoner$Clauses", name := "rule", desc := "(I)LRoundReckoner$Rule;" } : MethodName)
set_option maxRecDepth 100000 in
theorem uw3_57m : uw3_57 ∈ tW0 := tInW 3 57 rfl rfl
noncomputable def uw3_62 : Cond := Cond.code ({ cls := "RoundReckoner$Reader", name := "readHead", desc := "(LRoundReckoner$Rule;)Z" } : MethodName) prog_9_method_14_code (2 : Nat) (Option.some FieldType.boolean)
set_option maxRecDepth 100000 in
theorem uw3_62m : uw3_62 ∈ tW0 := tInW 3 62 rfl rfl
noncomputable def uw3_59 : Cond := Cond.methodLink "RoundReckoner" (89 : Nat) ({ cls := "RoundReckoner$Reader", name := "readHead", desc := "(LRoundReckoner$Rule;)Z" } : MethodName)
set_option maxRecDepth 100000 in
theorem uw3_59m : uw3_59 ∈ tW0 := tInW 3 59 rfl rfl
noncomputable def uw3_60 : Cond := Cond.instanceMethod ({ cls := "RoundReckoner$Reader", name := "readHead", desc := "(LRoundReckoner$Rule;)Z" } : MethodName)
set_option maxRecDepth 100000 in
theorem uw3_60m : uw3_60 ∈ tW0 := tInW 3 60 rfl rfl
noncomputable def uw3_61 : Cond := Cond.selects "RoundReckoner$Reader" ({ cls := "RoundReckoner$Reader", name := "readHead", desc := "(LRoundReckoner$Rule;)Z" } : MethodName) ({ cls := "RoundReckoner$Reader", name := "readHead", desc := "(LRoundReckoner$Rule;)Z" } : MethodName)
set_option maxRecDepth 100000 in
theorem uw3_61m : uw3_61 ∈ tW0 := tInW 3 61 rfl rfl
noncomputable def uw3_171 : Cond := Cond.code ({ cls := "RoundReckoner$Reader", name := "readFactEnd", desc := "(LRoundReckoner$Goal;)Z" } : MethodName) prog_9_method_31_code (2 : Nat) (Option.some FieldType.boolean)
set_option maxRecDepth 100000 in
theorem uw3_171m : uw3_171 ∈ tW0 := tInW 3 171 rfl rfl
noncomputable def uw3_168 : Cond := Cond.methodLink "RoundReckoner" (99 : Nat) ({ cls := "RoundReckoner$Reader", name := "readFactEnd", desc := "(LRoundReckoner$Goal;)Z" } : MethodName)
set_option maxRecDepth 100000 in
theorem uw3_168m : uw3_168 ∈ tW0 := tInW 3 168 rfl rfl
noncomputable def uw3_169 : Cond := Cond.instanceMethod ({ cls := "RoundReckoner$Reader", name := "readFactEnd", desc := "(LRoundReckoner$Goal;)Z" } : MethodName)
set_option maxRecDepth 100000 in
theorem uw3_169m : uw3_169 ∈ tW0 := tInW 3 169 rfl rfl
noncomputable def uw3_170 : Cond := Cond.selects "RoundReckoner$Reader" ({ cls := "RoundReckoner$Reader", name := "readFactEnd", desc := "(LRoundReckoner$Goal;)Z" } : MethodName) ({ cls := "RoundReckoner$Reader", name := "readFactEnd", desc := "(LRoundReckoner$Goal;)Z" } : MethodName)
set_option maxRecDepth 100000 in
theorem uw3_170m : uw3_170 ∈ tW0 := tInW 3 170 rfl rfl
noncomputable def uw3_198 : Cond := Cond.code ({ cls := "RoundReckoner$Reader", name := "readRuleSign", desc := "(LRoundReckoner$Goal;)Z" } : MethodName) prog_9_method_32_code (2 : Nat) (Option.some FieldType.boolean)
set_option maxRecDepth 100000 in
theorem uw3_198m : uw3_198 ∈ tW0 := tInW 3 198 rfl rfl
noncomputable def uw3_195 : Cond := Cond.methodLink "RoundReckoner" (103 : Nat) ({ cls := "RoundReckoner$Reader", name := "readRuleSign", desc := "(LRoundReckoner$Goal;)Z" } : MethodName)
set_option maxRecDepth 100000 in
theorem uw3_195m : uw3_195 ∈ tW0 := tInW 3 195 rfl rfl
noncomputable def uw3_196 : Cond := Cond.instanceMethod ({ cls := "RoundReckoner$Reader", name := "readRuleSign", desc := "(LRoundReckoner$Goal;)Z" } : MethodName)
set_option maxRecDepth 100000 in
theorem uw3_196m : uw3_196 ∈ tW0 := tInW 3 196 rfl rfl
noncomputable def uw3_197 : Cond := Cond.selects "RoundReckoner$Reader" ({ cls := "RoundReckoner$Reader", name := "readRuleSign", desc := "(LRoundReckoner$Goal;)Z" } : MethodName) ({ cls := "RoundReckoner$Reader", name := "readRuleSign", desc := "(LRoundReckoner$Goal;)Z" } : MethodName)
set_option maxRecDepth 100000 in
theorem uw3_197m : uw3_197 ∈ tW0 := tInW 3 197 rfl rfl
noncomputable def uw3_202 : Cond := Cond.code ({ cls := "RoundReckoner$Reader", name := "readGoals", desc := "(LRoundReckoner$Rule;)Z" } : MethodName) prog_9_method_33_code (5 : Nat) (Option.some FieldType.boolean)
set_option maxRecDepth 100000 in
theorem uw3_202m : uw3_202 ∈ tW0 := tInW 3 202 rfl rfl
noncomputable def uw3_199 : Cond := Cond.methodLink "RoundReckoner" (106 : Nat) ({ cls := "RoundReckoner$Reader", name := "readGoals", desc := "(LRoundReckoner$Rule;)Z" } : MethodName)
set_option maxRecDepth 100000 in
theorem uw3_199m : uw3_199 ∈ tW0 := tInW 3 199 rfl rfl
noncomputable def uw3_200 : Cond := Cond.instanceMethod ({ cls := "RoundReckoner$Reader", name := "readGoals", desc := "(LRoundReckoner$Rule;)Z" } : MethodName)
set_option maxRecDepth 100000 in
theorem uw3_200m : uw3_200 ∈ tW0 := tInW 3 200 rfl rfl
noncomputable def uw3_201 : Cond := Cond.selects "RoundReckoner$Reader" ({ cls := "RoundReckoner$Reader", name := "readGoals", desc := "(LRoundReckoner$Rule;)Z" } : MethodName) ({ cls := "RoundReckoner$Reader", name := "readGoals", desc := "(LRoundReckoner$Rule;)Z" } : MethodName)
set_option maxRecDepth 100000 in
theorem uw3_201m : uw3_201 ∈ tW0 := tInW 3 201 rfl rfl
noncomputable def uw4_3 : Cond := Cond.code ({ cls := "RoundReckoner$Clauses", name := "keepRule", desc := "()Z" } : MethodName) prog_4_method_12_code (1 : Nat) (Option.some FieldType.boolean)
set_option maxRecDepth 100000 in
theorem uw4_3m : uw4_3 ∈ tW0 := tInW 4 3 rfl rfl
noncomputable def uw4_0 : Cond := Cond.methodLink "RoundReckoner" (109 : Nat) ({ cls := "RoundReckoner$Clauses", name := "keepRule", desc := "()Z" } : MethodName)
set_option maxRecDepth 100000 in
theorem uw4_0m : uw4_0 ∈ tW0 := tInW 4 0 rfl rfl
noncomputable def uw4_1 : Cond := Cond.instanceMethod ({ cls := "RoundReckoner$Clauses", name := "keepRule", desc := "()Z" } : MethodName)
set_option maxRecDepth 100000 in
theorem uw4_1m : uw4_1 ∈ tW0 := tInW 4 1 rfl rfl
noncomputable def uw4_2 : Cond := Cond.selects "RoundReckoner$Clauses" ({ cls := "RoundReckoner$Clauses", name := "keepRule", desc := "()Z" } : MethodName) ({ cls := "RoundReckoner$Clauses", name := "keepRule", desc := "()Z" } : MethodName)
set_option maxRecDepth 100000 in
theorem uw4_2m : uw4_2 ∈ tW0 := tInW 4 2 rfl rfl
noncomputable def uw4_7 : Cond := Cond.code ({ cls := "RoundReckoner$Reader", name := "empty", desc := "()V" } : MethodName) prog_9_method_3_code (1 : Nat) (Option.none : Option FieldType)
set_option maxRecDepth 100000 in
theorem uw4_7m : uw4_7 ∈ tW0 := tInW 4 7 rfl rfl
noncomputable def uw4_4 : Cond := Cond.methodLink "RoundReckoner" (113 : Nat) ({ cls := "RoundReckoner$Reader", name := "empty", desc := "()V" } : MethodName)
set_option maxRecDepth 100000 in
theorem uw4_4m : uw4_4 ∈ tW0 := tInW 4 4 rfl rfl
noncomputable def uw4_5 : Cond := Cond.instanceMethod ({ cls := "RoundReckoner$Reader", name := "empty", desc := "()V" } : MethodName)
set_option maxRecDepth 100000 in
theorem uw4_5m : uw4_5 ∈ tW0 := tInW 4 5 rfl rfl
noncomputable def uw4_6 : Cond := Cond.selects "RoundReckoner$Reader" ({ cls := "RoundReckoner$Reader", name := "empty", desc := "()V" } : MethodName) ({ cls := "RoundReckoner$Reader", name := "empty", desc := "()V" } : MethodName)
set_option maxRecDepth 100000 in
theorem uw4_6m : uw4_6 ∈ tW0 := tInW 4 6 rfl rfl
noncomputable def uw4_11 : Cond := Cond.code ({ cls := "RoundReckoner$Clauses", name := "goBack", desc := "()V" } : MethodName) prog_4_method_4_code (1 : Nat) (Option.none : Option FieldType)
set_option maxRecDepth 100000 in
theorem uw4_11m : uw4_11 ∈ tW0 := tInW 4 11 rfl rfl
noncomputable def uw4_8 : Cond := Cond.methodLink "RoundReckoner" (116 : Nat) ({ cls := "RoundReckoner$Clauses", name := "goBack", desc := "()V" } : MethodName)
set_option maxRecDepth 100000 in
theorem uw4_8m : uw4_8 ∈ tW0 := tInW 4 8 rfl rfl
noncomputable def uw4_9 : Cond := Cond.instanceMethod ({ cls := "RoundReckoner$Clauses", name := "goBack", desc := "()V" } : MethodName)
set_option maxRecDepth 100000 in
theorem uw4_9m : uw4_9 ∈ tW0 := tInW 4 9 rfl rfl
noncomputable def uw4_10 : Cond := Cond.selects "RoundReckoner$Clauses" ({ cls := "RoundReckoner$Clauses", name := "goBack", desc := "()V" } : MethodName) ({ cls := "RoundReckoner$Clauses", name := "goBack", desc := "()V" } : MethodName)
set_option maxRecDepth 100000 in
theorem uw4_10m : uw4_10 ∈ tW0 := tInW 4 10 rfl rfl
noncomputable def uw4_15 : Cond := Cond.code ({ cls := "RoundReckoner$Clauses", name := "isChanged", desc := "()Z" } : MethodName) prog_4_method_5_code (1 : Nat) (Option.some FieldType.boolean)
set_option maxRecDepth 100000 in
theorem uw4_15m : uw4_15 ∈ tW0 := tInW 4 15 rfl rfl
noncomputable def uw4_12 : Cond := Cond.methodLink "RoundReckoner" (122 : Nat) ({ cls := "RoundReckoner$Clauses", name := "isChanged", desc := "()Z" } : MethodName)
set_option maxRecDepth 100000 in
theorem uw4_12m : uw4_12 ∈ tW0 := tInW 4 12 rfl rfl
noncomputable def uw4_13 : Cond := Cond.instanceMethod ({ cls := "RoundReckoner$Clauses", name := "isChanged", desc := "()Z" } : MethodName)
set_option maxRecDepth 100000 in
theorem uw4_13m : uw4_13 ∈ tW0 := tInW 4 13 rfl rfl
noncomputable def uw4_14 : Cond := Cond.selects "RoundReckoner$Clauses" ({ cls := "RoundReckoner$Clauses", name := "isChanged", desc := "()Z" } : MethodName) ({ cls := "RoundReckoner$Clauses", name := "isChanged", desc := "()Z" } : MethodName)
set_option maxRecDepth 100000 in
theorem uw4_14m : uw4_14 ∈ tW0 := tInW 4 14 rfl rfl
noncomputable def uw4_19 : Cond := Cond.code ({ cls := "RoundReckoner", name := "forget", desc := "()V" } : MethodName) prog_1_method_5_code (1 : Nat) (Option.none : Option FieldType)
set_option maxRecDepth 100000 in
theorem uw4_19m : uw4_19 ∈ tW0 := tInW 4 19 rfl rfl
noncomputable def uw1_1 : Cond := Cond.initialized "RoundReckoner"
set_option maxRecDepth 100000 in
theorem uw1_1m : uw1_1 ∈ tW0 := tInW 1 1 rfl rfl
noncomputable def uw4_16 : Cond := Cond.methodLink "RoundReckoner" (125 : Nat) ({ cls := "RoundReckoner", name := "forget", desc := "()V" } : MethodName)
set_option maxRecDepth 100000 in
theorem uw4_16m : uw4_16 ∈ tW0 := tInW 4 16 rfl rfl
noncomputable def uw4_18 : Cond := Cond.instanceMethod ({ cls := "RoundReckoner", name := "forget", desc := "()V" } : MethodName)
set_option maxRecDepth 100000 in
theorem uw4_18m : uw4_18 ∈ tW0 := tInW 4 18 rfl rfl
noncomputable def uw0_24 : Cond := Cond.selects "RoundReckoner" ⟨"RoundReckoner", "forget", "()V"⟩ ⟨"RoundReckoner", "forget", "()V"⟩
set_option maxRecDepth 100000 in
theorem uw0_24m : uw0_24 ∈ tW0 := tInW 0 24 rfl rfl
noncomputable def uw4_28 : Cond := Cond.methodLink "RoundReckoner" (135 : Nat) ({ cls := "RoundReckoner$Reader", name := "readStop", desc := "(LRoundReckoner$Goal;)Z" } : MethodName)
set_option maxRecDepth 100000 in
theorem uw4_28m : uw4_28 ∈ tW0 := tInW 4 28 rfl rfl
noncomputable def uw4_32 : Cond := Cond.code ({ cls := "RoundReckoner$Reader", name := "readNothing", desc := "()Z" } : MethodName) prog_9_method_30_code (1 : Nat) (Option.some FieldType.boolean)
set_option maxRecDepth 100000 in
theorem uw4_32m : uw4_32 ∈ tW0 := tInW 4 32 rfl rfl
noncomputable def uw4_29 : Cond := Cond.methodLink "RoundReckoner" (138 : Nat) ({ cls := "RoundReckoner$Reader", name := "readNothing", desc := "()Z" } : MethodName)
set_option maxRecDepth 100000 in
theorem uw4_29m : uw4_29 ∈ tW0 := tInW 4 29 rfl rfl
noncomputable def uw4_30 : Cond := Cond.instanceMethod ({ cls := "RoundReckoner$Reader", name := "readNothing", desc := "()Z" } : MethodName)
set_option maxRecDepth 100000 in
theorem uw4_30m : uw4_30 ∈ tW0 := tInW 4 30 rfl rfl
noncomputable def uw4_31 : Cond := Cond.selects "RoundReckoner$Reader" ({ cls := "RoundReckoner$Reader", name := "readNothing", desc := "()Z" } : MethodName) ({ cls := "RoundReckoner$Reader", name := "readNothing", desc := "()Z" } : MethodName)
set_option maxRecDepth 100000 in
theorem uw4_31m : uw4_31 ∈ tW0 := tInW 4 31 rfl rfl
noncomputable def uw4_33 : Cond := Cond.methodLink "RoundReckoner" (141 : Nat) ({ cls := "RoundReckoner$Clauses", name := "factOf", desc := "(LRoundReckoner$Goal;)I" } : MethodName)
set_option maxRecDepth 100000 in
theorem uw4_33m : uw4_33 ∈ tW0 := tInW 4 33 rfl rfl
noncomputable def uw4_37 : Cond := Cond.code ({ cls := "RoundReckoner$Clauses", name := "removeFact", desc := "(I)V" } : MethodName) prog_4_method_11_code (3 : Nat) (Option.none : Option FieldType)
set_option maxRecDepth 100000 in
theorem uw4_37m : uw4_37 ∈ tW0 := tInW 4 37 rfl rfl
noncomputable def uw4_34 : Cond := Cond.methodLink "RoundReckoner" (145 : Nat) ({ cls := "RoundReckoner$Clauses", name := "removeFact", desc := "(I)V" } : MethodName)
set_option maxRecDepth 100000 in
theorem uw4_34m : uw4_34 ∈ tW0 := tInW 4 34 rfl rfl
noncomputable def uw4_35 : Cond := Cond.instanceMethod ({ cls := "RoundReckoner$Clauses", name := "removeFact", desc := "(I)V" } : MethodName)
set_option maxRecDepth 100000 in
theorem uw4_35m : uw4_35 ∈ tW0 := tInW 4 35 rfl rfl
noncomputable def uw4_36 : Cond := Cond.selects "RoundReckoner$Clauses" ({ cls := "RoundReckoner$Clauses", name := "removeFact", desc := "(I)V" } : MethodName) ({ cls := "RoundReckoner$Clauses", name := "removeFact", desc := "(I)V" } : MethodName)
set_option maxRecDepth 100000 in
theorem uw4_36m : uw4_36 ∈ tW0 := tInW 4 36 rfl rfl
noncomputable def uw4_149 : Cond := Cond.methodLink "RoundReckoner$Clauses" (76 : Nat) ({ cls := "RoundReckoner$Clauses", name := "rule", desc := "(I)LRoundReckoner$Rule;" } : MethodName)
set_option maxRecDepth 100000 in
theorem uw4_149m : uw4_149 ∈ tW0 := tInW 4 149 rfl rfl
noncomputable def uw5_67 : Cond := Cond.constantLong "RoundReckoner" 220 (Int64.ofInt 1099511627776)
set_option maxRecDepth 100000 in
theorem uw5_67m : uw5_67 ∈ tW0 := inAt_ok (ws := [uw5_67]) (is := [(5, 67)]) (by decide +kernel) _ (List.mem_cons_self ..)
noncomputable def uw5_189 : Cond := Cond.constant "RoundReckoner" 226 (Int32.ofInt 200000000)
set_option maxRecDepth 100000 in
theorem uw5_189m : uw5_189 ∈ tW0 := inAt_ok (ws := [uw5_189]) (is := [(5, 189)]) (by decide +kernel) _ (List.mem_cons_self ..)
noncomputable def uw5_66 : Cond := Cond.code ({ cls := "RoundReckoner", name := "isNumber", desc := "(J)Z" } : MethodName) prog_1_method_12_code (2 : Nat) (Option.some FieldType.boolean)
set_option maxRecDepth 100000 in
theorem uw5_66m : uw5_66 ∈ tW0 := tInW 5 66 rfl rfl
noncomputable def uw5_188 : Cond := Cond.methodLink "RoundReckoner" (222 : Nat) ({ cls := "RoundReckoner", name := "isNumber", desc := "(J)Z" } : MethodName)
set_option maxRecDepth 100000 in
theorem uw5_188m : uw5_188 ∈ tW0 := tInW 5 188 rfl rfl
noncomputable def uw5_65 : Cond := Cond.static ({ cls := "RoundReckoner", name := "isNumber", desc := "(J)Z" } : MethodName)
set_option maxRecDepth 100000 in
theorem uw5_65m : uw5_65 ∈ tW0 := tInW 5 65 rfl rfl
noncomputable def uw2_235 : Cond := Cond.fieldLink "RoundReckoner$Out" (15 : Nat) "RoundReckoner$Out" "count" "I"
set_option maxRecDepth 100000 in
theorem uw2_235m : uw2_235 ∈ tW0 := tInW 2 235 rfl rfl
noncomputable def uw2_233 : Cond := Cond.fieldLink "RoundReckoner$Out" (9 : Nat) "RoundReckoner$Out" "bytes" "[B"
set_option maxRecDepth 100000 in
theorem uw2_233m : uw2_233 ∈ tW0 := tInW 2 233 rfl rfl
noncomputable def uw5_213 : Cond := Cond.constantLong "RoundReckoner$Out" 19 (Int64.ofInt 38)
set_option maxRecDepth 100000 in
theorem uw5_213m : uw5_213 ∈ tW0 := inAt_ok (ws := [uw5_213]) (is := [(5, 213)]) (by decide +kernel) _ (List.mem_cons_self ..)
noncomputable def uw5_216 : Cond := Cond.code ({ cls := "RoundReckoner$Out", name := "signOf", desc := "(I)I" } : MethodName) prog_8_method_5_code (1 : Nat) (Option.some FieldType.int)
set_option maxRecDepth 100000 in
theorem uw5_216m : uw5_216 ∈ tW0 := tInW 5 216 rfl rfl
noncomputable def uw1_14 : Cond := Cond.initialized "RoundReckoner$Out"
set_option maxRecDepth 100000 in
theorem uw1_14m : uw1_14 ∈ tW0 := tInW 1 14 rfl rfl
noncomputable def uw5_214 : Cond := Cond.methodLink "RoundReckoner$Out" (21 : Nat) ({ cls := "RoundReckoner$Out", name := "signOf", desc := "(I)I" } : MethodName)
set_option maxRecDepth 100000 in
theorem uw5_214m : uw5_214 ∈ tW0 := tInW 5 214 rfl rfl
noncomputable def uw5_215 : Cond := Cond.static ({ cls := "RoundReckoner$Out", name := "signOf", desc := "(I)I" } : MethodName)
set_option maxRecDepth 100000 in
theorem uw5_215m : uw5_215 ∈ tW0 := tInW 5 215 rfl rfl
noncomputable def uw5_220 : Cond := Cond.code ({ cls := "RoundReckoner$Out", name := "write", desc := "(I)V" } : MethodName) prog_8_method_3_code (2 : Nat) (Option.none : Option FieldType)
set_option maxRecDepth 100000 in
theorem uw5_220m : uw5_220 ∈ tW0 := tInW 5 220 rfl rfl
noncomputable def uw5_217 : Cond := Cond.methodLink "RoundReckoner$Out" (25 : Nat) ({ cls := "RoundReckoner$Out", name := "write", desc := "(I)V" } : MethodName)
set_option maxRecDepth 100000 in
theorem uw5_217m : uw5_217 ∈ tW0 := tInW 5 217 rfl rfl
noncomputable def uw5_218 : Cond := Cond.instanceMethod ({ cls := "RoundReckoner$Out", name := "write", desc := "(I)V" } : MethodName)
set_option maxRecDepth 100000 in
theorem uw5_218m : uw5_218 ∈ tW0 := tInW 5 218 rfl rfl
noncomputable def uw5_219 : Cond := Cond.selects "RoundReckoner$Out" ({ cls := "RoundReckoner$Out", name := "write", desc := "(I)V" } : MethodName) ({ cls := "RoundReckoner$Out", name := "write", desc := "(I)V" } : MethodName)
set_option maxRecDepth 100000 in
theorem uw5_219m : uw5_219 ∈ tW0 := tInW 5 219 rfl rfl
noncomputable def uw5_226 : Cond := Cond.constantLong "RoundReckoner$Out" 29 (Int64.ofInt 10)
set_option maxRecDepth 100000 in
theorem uw5_226m : uw5_226 ∈ tW0 := inAt_ok (ws := [uw5_226]) (is := [(5, 226)]) (by decide +kernel) _ (List.mem_cons_self ..)
noncomputable def uw3_6 : Cond := Cond.fieldLink "RoundReckoner" (28 : Nat) "RoundReckoner" "tuples" "LRoundReckoner$Tuples;"
set_option maxRecDepth 100000 in
theorem uw3_6m : uw3_6 ∈ tW0 := tInW 3 6 rfl rfl
noncomputable def uw2_83 : Cond := Cond.fieldLink "RoundReckoner" (186 : Nat) "RoundReckoner$Tuples" "predicates" "[I"
set_option maxRecDepth 100000 in
theorem uw2_83m : uw2_83 ∈ tW0 := tInW 2 83 rfl rfl
noncomputable def uw3_8 : Cond := Cond.fieldLink "RoundReckoner" (44 : Nat) "RoundReckoner" "out" "LRoundReckoner$Out;"
set_option maxRecDepth 100000 in
theorem uw3_8m : uw3_8 ∈ tW0 := tInW 3 8 rfl rfl
noncomputable def uw1_153 : Cond := Cond.fieldLink "RoundReckoner" (231 : Nat) "RoundReckoner$Clauses" "predicateWords" "[J"
set_option maxRecDepth 100000 in
theorem uw1_153m : uw1_153 ∈ tW0 := tInW 1 153 rfl rfl
noncomputable def uw1_155 : Cond := Cond.fieldLink "RoundReckoner" (202 : Nat) "RoundReckoner$Clauses" "predicateSizes" "[I"
set_option maxRecDepth 100000 in
theorem uw1_155m : uw1_155 ∈ tW0 := tInW 1 155 rfl rfl
noncomputable def uw2_80 : Cond := Cond.fieldLink "RoundReckoner" (205 : Nat) "RoundReckoner$Tuples" "values" "[J"
set_option maxRecDepth 100000 in
theorem uw2_80m : uw2_80 ∈ tW0 := tInW 2 80 rfl rfl
noncomputable def uw1_230 : Cond := Cond.fieldLink "RoundReckoner" (244 : Nat) "RoundReckoner$Reader" "names" "LRoundReckoner$Names;"
set_option maxRecDepth 100000 in
theorem uw1_230m : uw1_230 ∈ tW0 := tInW 1 230 rfl rfl
noncomputable def uw2_236 : Cond := Cond.fieldLink "RoundReckoner" (254 : Nat) "RoundReckoner$Out" "count" "I"
set_option maxRecDepth 100000 in
theorem uw2_236m : uw2_236 ∈ tW0 := tInW 2 236 rfl rfl
noncomputable def uw5_165 : Cond := Cond.code ({ cls := "RoundReckoner", name := "needTuple", desc := "(I)V" } : MethodName) prog_1_method_11_code (2 : Nat) (Option.none : Option FieldType)
set_option maxRecDepth 100000 in
theorem uw5_165m : uw5_165 ∈ tW0 := tInW 5 165 rfl rfl
noncomputable def uw5_162 : Cond := Cond.methodLink "RoundReckoner" (183 : Nat) ({ cls := "RoundReckoner", name := "needTuple", desc := "(I)V" } : MethodName)
set_option maxRecDepth 100000 in
theorem uw5_162m : uw5_162 ∈ tW0 := tInW 5 162 rfl rfl
noncomputable def uw5_164 : Cond := Cond.instanceMethod ({ cls := "RoundReckoner", name := "needTuple", desc := "(I)V" } : MethodName)
set_option maxRecDepth 100000 in
theorem uw5_164m : uw5_164 ∈ tW0 := tInW 5 164 rfl rfl
noncomputable def uw0_46 : Cond := Cond.selects "RoundReckoner" ⟨"RoundReckoner", "needTuple", "(I)V"⟩ ⟨"RoundReckoner", "needTuple", "(I)V"⟩
set_option maxRecDepth 100000 in
theorem uw0_46m : uw0_46 ∈ tW0 := tInW 0 46 rfl rfl
noncomputable def uw5_208 : Cond := Cond.code ({ cls := "RoundReckoner$Out", name := "clear", desc := "()V" } : MethodName) prog_8_method_2_code (1 : Nat) (Option.none : Option FieldType)
set_option maxRecDepth 100000 in
theorem uw5_208m : uw5_208 ∈ tW0 := tInW 5 208 rfl rfl
noncomputable def uw5_205 : Cond := Cond.methodLink "RoundReckoner" (230 : Nat) ({ cls := "RoundReckoner$Out", name := "clear", desc := "()V" } : MethodName)
set_option maxRecDepth 100000 in
theorem uw5_205m : uw5_205 ∈ tW0 := tInW 5 205 rfl rfl
noncomputable def uw5_206 : Cond := Cond.instanceMethod ({ cls := "RoundReckoner$Out", name := "clear", desc := "()V" } : MethodName)
set_option maxRecDepth 100000 in
theorem uw5_206m : uw5_206 ∈ tW0 := tInW 5 206 rfl rfl
noncomputable def uw5_207 : Cond := Cond.selects "RoundReckoner$Out" ({ cls := "RoundReckoner$Out", name := "clear", desc := "()V" } : MethodName) ({ cls := "RoundReckoner$Out", name := "clear", desc := "()V" } : MethodName)
set_option maxRecDepth 100000 in
theorem uw5_207m : uw5_207 ∈ tW0 := tInW 5 207 rfl rfl
noncomputable def uw5_212 : Cond := Cond.code ({ cls := "RoundReckoner$Out", name := "writeWord", desc := "(J)V" } : MethodName) prog_8_method_4_code (7 : Nat) (Option.none : Option FieldType)
set_option maxRecDepth 100000 in
theorem uw5_212m : uw5_212 ∈ tW0 := tInW 5 212 rfl rfl
noncomputable def uw5_209 : Cond := Cond.methodLink "RoundReckoner" (234 : Nat) ({ cls := "RoundReckoner$Out", name := "writeWord", desc := "(J)V" } : MethodName)
set_option maxRecDepth 100000 in
theorem uw5_209m : uw5_209 ∈ tW0 := tInW 5 209 rfl rfl
noncomputable def uw5_210 : Cond := Cond.instanceMethod ({ cls := "RoundReckoner$Out", name := "writeWord", desc := "(J)V" } : MethodName)
set_option maxRecDepth 100000 in
theorem uw5_210m : uw5_210 ∈ tW0 := tInW 5 210 rfl rfl
noncomputable def uw5_211 : Cond := Cond.selects "RoundReckoner$Out" ({ cls := "RoundReckoner$Out", name := "writeWord", desc := "(J)V" } : MethodName) ({ cls := "RoundReckoner$Out", name := "writeWord", desc := "(J)V" } : MethodName)
set_option maxRecDepth 100000 in
theorem uw5_211m : uw5_211 ∈ tW0 := tInW 5 211 rfl rfl
noncomputable def uw5_221 : Cond := Cond.methodLink "RoundReckoner" (238 : Nat) ({ cls := "RoundReckoner$Out", name := "write", desc := "(I)V" } : MethodName)
set_option maxRecDepth 100000 in
theorem uw5_221m : uw5_221 ∈ tW0 := tInW 5 221 rfl rfl
noncomputable def uw5_225 : Cond := Cond.code ({ cls := "RoundReckoner$Out", name := "writeNumber", desc := "(J)V" } : MethodName) prog_8_method_6_code (8 : Nat) (Option.none : Option FieldType)
set_option maxRecDepth 100000 in
theorem uw5_225m : uw5_225 ∈ tW0 := tInW 5 225 rfl rfl
noncomputable def uw5_222 : Cond := Cond.methodLink "RoundReckoner" (241 : Nat) ({ cls := "RoundReckoner$Out", name := "writeNumber", desc := "(J)V" } : MethodName)
set_option maxRecDepth 100000 in
theorem uw5_222m : uw5_222 ∈ tW0 := tInW 5 222 rfl rfl
noncomputable def uw5_223 : Cond := Cond.instanceMethod ({ cls := "RoundReckoner$Out", name := "writeNumber", desc := "(J)V" } : MethodName)
set_option maxRecDepth 100000 in
theorem uw5_223m : uw5_223 ∈ tW0 := tInW 5 223 rfl rfl
noncomputable def uw5_224 : Cond := Cond.selects "RoundReckoner$Out" ({ cls := "RoundReckoner$Out", name := "writeNumber", desc := "(J)V" } : MethodName) ({ cls := "RoundReckoner$Out", name := "writeNumber", desc := "(J)V" } : MethodName)
set_option maxRecDepth 100000 in
theorem uw5_224m : uw5_224 ∈ tW0 := tInW 5 224 rfl rfl
noncomputable def uw5_230 : Cond := Cond.code ({ cls := "RoundReckoner$Names", name := "wordOf", desc := "(I)J" } : MethodName) prog_7_method_3_code (2 : Nat) (Option.some FieldType.long)
set_option maxRecDepth 100000 in
theorem uw5_230m : uw5_230 ∈ tW0 := tInW 5 230 rfl rfl
noncomputable def uw5_227 : Cond := Cond.methodLink "RoundReckoner" (248 : Nat) ({ cls := "RoundReckoner$Names", name := "wordOf", desc := "(I)J" } : MethodName)
set_option maxRecDepth 100000 in
theorem uw5_227m : uw5_227 ∈ tW0 := tInW 5 227 rfl rfl
noncomputable def uw5_228 : Cond := Cond.instanceMethod ({ cls := "RoundReckoner$Names", name := "wordOf", desc := "(I)J" } : MethodName)
set_option maxRecDepth 100000 in
theorem uw5_228m : uw5_228 ∈ tW0 := tInW 5 228 rfl rfl
noncomputable def uw5_229 : Cond := Cond.selects "RoundReckoner$Names" ({ cls := "RoundReckoner$Names", name := "wordOf", desc := "(I)J" } : MethodName) ({ cls := "RoundReckoner$Names", name := "wordOf", desc := "(I)J" } : MethodName)
set_option maxRecDepth 100000 in
theorem uw5_229m : uw5_229 ∈ tW0 := tInW 5 229 rfl rfl
noncomputable def uw2_67 : Cond := Cond.fieldLink "RoundReckoner$Chains" (22 : Nat) "RoundReckoner$Chains" "first" "[I"
set_option maxRecDepth 100000 in
theorem uw2_67m : uw2_67 ∈ tW0 := tInW 2 67 rfl rfl
noncomputable def uw2_65 : Cond := Cond.code ({ cls := "java/util/Arrays", name := "fill", desc := "([II)V" } : MethodName) prog_25_method_103_code (4 : Nat) (Option.none : Option FieldType)
set_option maxRecDepth 100000 in
theorem uw2_65m : uw2_65 ∈ tW0 := tInW 2 65 rfl rfl
noncomputable def uw2_63 : Cond := Cond.methodLink "RoundReckoner$Chains" (32 : Nat) ({ cls := "java/util/Arrays", name := "fill", desc := "([II)V" } : MethodName)
set_option maxRecDepth 100000 in
theorem uw2_63m : uw2_63 ∈ tW0 := tInW 2 63 rfl rfl
noncomputable def uw2_64 : Cond := Cond.static ({ cls := "java/util/Arrays", name := "fill", desc := "([II)V" } : MethodName)
set_option maxRecDepth 100000 in
theorem uw2_64m : uw2_64 ∈ tW0 := tInW 2 64 rfl rfl
noncomputable def uw2_66 : Cond := Cond.fieldLink "RoundReckoner$Chains" (16 : Nat) "RoundReckoner$Chains" "shift" "I"
set_option maxRecDepth 100000 in
theorem uw2_66m : uw2_66 ∈ tW0 := tInW 2 66 rfl rfl
noncomputable def uw4_219 : Cond := Cond.constantLong "RoundReckoner$Chains" 38 (Int64.ofInt (-7046029254386353131))
set_option maxRecDepth 100000 in
theorem uw4_219m : uw4_219 ∈ tW0 := inAt_ok (ws := [uw4_219]) (is := [(4, 219)]) (by decide +kernel) _ (List.mem_cons_self ..)
noncomputable def uw2_69 : Cond := Cond.fieldLink "RoundReckoner$Chains" (29 : Nat) "RoundReckoner$Chains" "next" "[I"
set_option maxRecDepth 100000 in
theorem uw2_69m : uw2_69 ∈ tW0 := tInW 2 69 rfl rfl
noncomputable def uw2_68 : Cond := Cond.fieldLink "RoundReckoner$Chains" (26 : Nat) "RoundReckoner$Chains" "last" "[I"
set_option maxRecDepth 100000 in
theorem uw2_68m : uw2_68 ∈ tW0 := tInW 2 68 rfl rfl
noncomputable def uw2_98 : Cond := Cond.fieldLink "RoundReckoner$Tuples" (49 : Nat) "RoundReckoner$Tuples" "count" "I"
set_option maxRecDepth 100000 in
theorem uw2_98m : uw2_98 ∈ tW0 := tInW 2 98 rfl rfl
noncomputable def uw2_101 : Cond := Cond.fieldLink "RoundReckoner$Tuples" (39 : Nat) "RoundReckoner$Tuples" "byPredicate" "LRoundReckoner$Chains;"
set_option maxRecDepth 100000 in
theorem uw2_101m : uw2_101 ∈ tW0 := tInW 2 101 rfl rfl
noncomputable def uw2_102 : Cond := Cond.fieldLink "RoundReckoner$Tuples" (43 : Nat) "RoundReckoner$Tuples" "byArg" "LRoundReckoner$Chains;"
set_option maxRecDepth 100000 in
theorem uw2_102m : uw2_102 ∈ tW0 := tInW 2 102 rfl rfl
noncomputable def uw2_103 : Cond := Cond.fieldLink "RoundReckoner$Tuples" (46 : Nat) "RoundReckoner$Tuples" "whole" "LRoundReckoner$Chains;"
set_option maxRecDepth 100000 in
theorem uw2_103m : uw2_103 ∈ tW0 := tInW 2 103 rfl rfl
noncomputable def uw4_196 : Cond := Cond.code ({ cls := "RoundReckoner$Chains", name := "clear", desc := "()V" } : MethodName) prog_3_method_2_code (1 : Nat) (Option.none : Option FieldType)
set_option maxRecDepth 100000 in
theorem uw4_196m : uw4_196 ∈ tW0 := tInW 4 196 rfl rfl
noncomputable def uw1_8 : Cond := Cond.initialized "RoundReckoner$Chains"
set_option maxRecDepth 100000 in
theorem uw1_8m : uw1_8 ∈ tW0 := tInW 1 8 rfl rfl
noncomputable def uw4_193 : Cond := Cond.methodLink "RoundReckoner$Tuples" (53 : Nat) ({ cls := "RoundReckoner$Chains", name := "clear", desc := "()V" } : MethodName)
set_option maxRecDepth 100000 in
theorem uw4_193m : uw4_193 ∈ tW0 := tInW 4 193 rfl rfl
noncomputable def uw4_194 : Cond := Cond.instanceMethod ({ cls := "RoundReckoner$Chains", name := "clear", desc := "()V" } : MethodName)
set_option maxRecDepth 100000 in
theorem uw4_194m : uw4_194 ∈ tW0 := tInW 4 194 rfl rfl
noncomputable def uw4_195 : Cond := Cond.selects "RoundReckoner$Chains" ({ cls := "RoundReckoner$Chains", name := "clear", desc := "()V" } : MethodName) ({ cls := "RoundReckoner$Chains", name := "clear", desc := "()V" } : MethodName)
set_option maxRecDepth 100000 in
theorem uw4_195m : uw4_195 ∈ tW0 := tInW 4 195 rfl rfl
noncomputable def uw2_95 : Cond := Cond.fieldLink "RoundReckoner$Tuples" (31 : Nat) "RoundReckoner$Tuples" "draft" "[J"
set_option maxRecDepth 100000 in
theorem uw2_95m : uw2_95 ∈ tW0 := tInW 2 95 rfl rfl
noncomputable def uw4_214 : Cond := Cond.constantLong "RoundReckoner$Tuples" 56 (Int64.ofInt 1000003)
set_option maxRecDepth 100000 in
theorem uw4_214m : uw4_214 ∈ tW0 := inAt_ok (ws := [uw4_214]) (is := [(4, 214)]) (by decide +kernel) _ (List.mem_cons_self ..)
noncomputable def uw2_79 : Cond := Cond.fieldLink "RoundReckoner$Tuples" (9 : Nat) "RoundReckoner$Tuples" "values" "[J"
set_option maxRecDepth 100000 in
theorem uw2_79m : uw2_79 ∈ tW0 := tInW 2 79 rfl rfl
noncomputable def uw2_82 : Cond := Cond.fieldLink "RoundReckoner$Tuples" (15 : Nat) "RoundReckoner$Tuples" "predicates" "[I"
set_option maxRecDepth 100000 in
theorem uw2_82m : uw2_82 ∈ tW0 := tInW 2 82 rfl rfl
noncomputable def uw4_213 : Cond := Cond.code ({ cls := "RoundReckoner$Tuples", name := "wholeKey", desc := "(I)J" } : MethodName) prog_12_method_3_code (5 : Nat) (Option.some FieldType.long)
set_option maxRecDepth 100000 in
theorem uw4_213m : uw4_213 ∈ tW0 := tInW 4 213 rfl rfl
noncomputable def uw1_7 : Cond := Cond.initialized "RoundReckoner$Tuples"
set_option maxRecDepth 100000 in
theorem uw1_7m : uw1_7 ∈ tW0 := tInW 1 7 rfl rfl
noncomputable def uw4_210 : Cond := Cond.methodLink "RoundReckoner$Tuples" (58 : Nat) ({ cls := "RoundReckoner$Tuples", name := "wholeKey", desc := "(I)J" } : MethodName)
set_option maxRecDepth 100000 in
theorem uw4_210m : uw4_210 ∈ tW0 := tInW 4 210 rfl rfl
noncomputable def uw4_212 : Cond := Cond.instanceMethod ({ cls := "RoundReckoner$Tuples", name := "wholeKey", desc := "(I)J" } : MethodName)
set_option maxRecDepth 100000 in
theorem uw4_212m : uw4_212 ∈ tW0 := tInW 4 212 rfl rfl
noncomputable def uw0_28 : Cond := Cond.selects "RoundReckoner$Tuples" ⟨"RoundReckoner$Tuples", "wholeKey", "(I)J"⟩ ⟨"RoundReckoner$Tuples", "wholeKey", "(I)J"⟩
set_option maxRecDepth 100000 in
theorem uw0_28m : uw0_28 ∈ tW0 := tInW 0 28 rfl rfl
noncomputable def uw4_218 : Cond := Cond.code ({ cls := "RoundReckoner$Chains", name := "firstOf", desc := "(J)I" } : MethodName) prog_3_method_4_code (4 : Nat) (Option.some FieldType.int)
set_option maxRecDepth 100000 in
theorem uw4_218m : uw4_218 ∈ tW0 := tInW 4 218 rfl rfl
noncomputable def uw4_215 : Cond := Cond.methodLink "RoundReckoner$Tuples" (62 : Nat) ({ cls := "RoundReckoner$Chains", name := "firstOf", desc := "(J)I" } : MethodName)
set_option maxRecDepth 100000 in
theorem uw4_215m : uw4_215 ∈ tW0 := tInW 4 215 rfl rfl
noncomputable def uw4_216 : Cond := Cond.instanceMethod ({ cls := "RoundReckoner$Chains", name := "firstOf", desc := "(J)I" } : MethodName)
set_option maxRecDepth 100000 in
theorem uw4_216m : uw4_216 ∈ tW0 := tInW 4 216 rfl rfl
noncomputable def uw4_217 : Cond := Cond.selects "RoundReckoner$Chains" ({ cls := "RoundReckoner$Chains", name := "firstOf", desc := "(J)I" } : MethodName) ({ cls := "RoundReckoner$Chains", name := "firstOf", desc := "(J)I" } : MethodName)
set_option maxRecDepth 100000 in
theorem uw4_217m : uw4_217 ∈ tW0 := tInW 4 217 rfl rfl
noncomputable def uw4_223 : Cond := Cond.code ({ cls := "RoundReckoner$Tuples", name := "isDraft", desc := "(I)Z" } : MethodName) prog_12_method_6_code (3 : Nat) (Option.some FieldType.boolean)
set_option maxRecDepth 100000 in
theorem uw4_223m : uw4_223 ∈ tW0 := tInW 4 223 rfl rfl
noncomputable def uw4_220 : Cond := Cond.methodLink "RoundReckoner$Tuples" (66 : Nat) ({ cls := "RoundReckoner$Tuples", name := "isDraft", desc := "(I)Z" } : MethodName)
set_option maxRecDepth 100000 in
theorem uw4_220m : uw4_220 ∈ tW0 := tInW 4 220 rfl rfl
noncomputable def uw4_222 : Cond := Cond.instanceMethod ({ cls := "RoundReckoner$Tuples", name := "isDraft", desc := "(I)Z" } : MethodName)
set_option maxRecDepth 100000 in
theorem uw4_222m : uw4_222 ∈ tW0 := tInW 4 222 rfl rfl
noncomputable def uw0_29 : Cond := Cond.selects "RoundReckoner$Tuples" ⟨"RoundReckoner$Tuples", "isDraft", "(I)Z"⟩ ⟨"RoundReckoner$Tuples", "isDraft", "(I)Z"⟩
set_option maxRecDepth 100000 in
theorem uw0_29m : uw0_29 ∈ tW0 := tInW 0 29 rfl rfl
noncomputable def uw4_227 : Cond := Cond.code ({ cls := "RoundReckoner$Chains", name := "nextOf", desc := "(I)I" } : MethodName) prog_3_method_5_code (2 : Nat) (Option.some FieldType.int)
set_option maxRecDepth 100000 in
theorem uw4_227m : uw4_227 ∈ tW0 := tInW 4 227 rfl rfl
noncomputable def uw4_224 : Cond := Cond.methodLink "RoundReckoner$Tuples" (70 : Nat) ({ cls := "RoundReckoner$Chains", name := "nextOf", desc := "(I)I" } : MethodName)
set_option maxRecDepth 100000 in
theorem uw4_224m : uw4_224 ∈ tW0 := tInW 4 224 rfl rfl
noncomputable def uw4_225 : Cond := Cond.instanceMethod ({ cls := "RoundReckoner$Chains", name := "nextOf", desc := "(I)I" } : MethodName)
set_option maxRecDepth 100000 in
theorem uw4_225m : uw4_225 ∈ tW0 := tInW 4 225 rfl rfl
noncomputable def uw4_226 : Cond := Cond.selects "RoundReckoner$Chains" ({ cls := "RoundReckoner$Chains", name := "nextOf", desc := "(I)I" } : MethodName) ({ cls := "RoundReckoner$Chains", name := "nextOf", desc := "(I)I" } : MethodName)
set_option maxRecDepth 100000 in
theorem uw4_226m : uw4_226 ∈ tW0 := tInW 4 226 rfl rfl
noncomputable def uw2_85 : Cond := Cond.fieldLink "RoundReckoner$Tuples" (19 : Nat) "RoundReckoner$Tuples" "rounds" "[I"
set_option maxRecDepth 100000 in
theorem uw2_85m : uw2_85 ∈ tW0 := tInW 2 85 rfl rfl
noncomputable def uw2_87 : Cond := Cond.fieldLink "RoundReckoner$Tuples" (22 : Nat) "RoundReckoner$Tuples" "rules" "[I"
set_option maxRecDepth 100000 in
theorem uw2_87m : uw2_87 ∈ tW0 := tInW 2 87 rfl rfl
noncomputable def uw2_92 : Cond := Cond.fieldLink "RoundReckoner$Tuples" (28 : Nat) "RoundReckoner$Tuples" "tookCounts" "[I"
set_option maxRecDepth 100000 in
theorem uw2_92m : uw2_92 ∈ tW0 := tInW 2 92 rfl rfl
noncomputable def uw4_235 : Cond := Cond.code ({ cls := "RoundReckoner$Chains", name := "append", desc := "(JI)V" } : MethodName) prog_3_method_3_code (5 : Nat) (Option.none : Option FieldType)
set_option maxRecDepth 100000 in
theorem uw4_235m : uw4_235 ∈ tW0 := tInW 4 235 rfl rfl
noncomputable def uw4_232 : Cond := Cond.methodLink "RoundReckoner$Tuples" (74 : Nat) ({ cls := "RoundReckoner$Chains", name := "append", desc := "(JI)V" } : MethodName)
set_option maxRecDepth 100000 in
theorem uw4_232m : uw4_232 ∈ tW0 := tInW 4 232 rfl rfl
noncomputable def uw4_233 : Cond := Cond.instanceMethod ({ cls := "RoundReckoner$Chains", name := "append", desc := "(JI)V" } : MethodName)
set_option maxRecDepth 100000 in
theorem uw4_233m : uw4_233 ∈ tW0 := tInW 4 233 rfl rfl
noncomputable def uw4_234 : Cond := Cond.selects "RoundReckoner$Chains" ({ cls := "RoundReckoner$Chains", name := "append", desc := "(JI)V" } : MethodName) ({ cls := "RoundReckoner$Chains", name := "append", desc := "(JI)V" } : MethodName)
set_option maxRecDepth 100000 in
theorem uw4_234m : uw4_234 ∈ tW0 := tInW 4 234 rfl rfl
noncomputable def uw4_238 : Cond := Cond.code ({ cls := "RoundReckoner$Tuples", name := "argKey", desc := "(IIJ)J" } : MethodName) prog_12_method_4_code (4 : Nat) (Option.some FieldType.long)
set_option maxRecDepth 100000 in
theorem uw4_238m : uw4_238 ∈ tW0 := tInW 4 238 rfl rfl
noncomputable def uw4_236 : Cond := Cond.methodLink "RoundReckoner$Tuples" (78 : Nat) ({ cls := "RoundReckoner$Tuples", name := "argKey", desc := "(IIJ)J" } : MethodName)
set_option maxRecDepth 100000 in
theorem uw4_236m : uw4_236 ∈ tW0 := tInW 4 236 rfl rfl
noncomputable def uw4_237 : Cond := Cond.static ({ cls := "RoundReckoner$Tuples", name := "argKey", desc := "(IIJ)J" } : MethodName)
set_option maxRecDepth 100000 in
theorem uw4_237m : uw4_237 ∈ tW0 := tInW 4 237 rfl rfl
noncomputable def uw5_98 : Cond := Cond.code ({ cls := "RoundReckoner$Tuples", name := "withArg", desc := "(II)I" } : MethodName) prog_12_method_12_code (5 : Nat) (Option.some FieldType.int)
set_option maxRecDepth 100000 in
theorem uw5_98m : uw5_98 ∈ tW0 := tInW 5 98 rfl rfl
noncomputable def uw5_95 : Cond := Cond.methodLink "RoundReckoner$Tuples" (82 : Nat) ({ cls := "RoundReckoner$Tuples", name := "withArg", desc := "(II)I" } : MethodName)
set_option maxRecDepth 100000 in
theorem uw5_95m : uw5_95 ∈ tW0 := tInW 5 95 rfl rfl
noncomputable def uw5_97 : Cond := Cond.instanceMethod ({ cls := "RoundReckoner$Tuples", name := "withArg", desc := "(II)I" } : MethodName)
set_option maxRecDepth 100000 in
theorem uw5_97m : uw5_97 ∈ tW0 := tInW 5 97 rfl rfl
noncomputable def uw0_39 : Cond := Cond.selects "RoundReckoner$Tuples" ⟨"RoundReckoner$Tuples", "withArg", "(II)I"⟩ ⟨"RoundReckoner$Tuples", "withArg", "(II)I"⟩
set_option maxRecDepth 100000 in
theorem uw0_39m : uw0_39 ∈ tW0 := tInW 0 39 rfl rfl
noncomputable def uw2_147 : Cond := Cond.fieldLink "RoundReckoner$Rows" (32 : Nat) "RoundReckoner$Rows" "count" "I"
set_option maxRecDepth 100000 in
theorem uw2_147m : uw2_147 ∈ tW0 := tInW 2 147 rfl rfl
noncomputable def uw2_149 : Cond := Cond.fieldLink "RoundReckoner$Rows" (28 : Nat) "RoundReckoner$Rows" "whole" "LRoundReckoner$Chains;"
set_option maxRecDepth 100000 in
theorem uw2_149m : uw2_149 ∈ tW0 := tInW 2 149 rfl rfl
noncomputable def uw5_18 : Cond := Cond.methodLink "RoundReckoner$Rows" (36 : Nat) ({ cls := "RoundReckoner$Chains", name := "clear", desc := "()V" } : MethodName)
set_option maxRecDepth 100000 in
theorem uw5_18m : uw5_18 ∈ tW0 := tInW 5 18 rfl rfl
noncomputable def uw5_47 : Cond := Cond.constantLong "RoundReckoner$Rows" 39 (Int64.ofInt 1000003)
set_option maxRecDepth 100000 in
theorem uw5_47m : uw5_47 ∈ tW0 := inAt_ok (ws := [uw5_47]) (is := [(5, 47)]) (by decide +kernel) _ (List.mem_cons_self ..)
noncomputable def uw2_141 : Cond := Cond.fieldLink "RoundReckoner$Rows" (9 : Nat) "RoundReckoner$Rows" "keys" "[J"
set_option maxRecDepth 100000 in
theorem uw2_141m : uw2_141 ∈ tW0 := tInW 2 141 rfl rfl
noncomputable def uw2_143 : Cond := Cond.fieldLink "RoundReckoner$Rows" (15 : Nat) "RoundReckoner$Rows" "amounts" "[I"
set_option maxRecDepth 100000 in
theorem uw2_143m : uw2_143 ∈ tW0 := tInW 2 143 rfl rfl
noncomputable def uw2_145 : Cond := Cond.fieldLink "RoundReckoner$Rows" (19 : Nat) "RoundReckoner$Rows" "counted" "[Z"
set_option maxRecDepth 100000 in
theorem uw2_145m : uw2_145 ∈ tW0 := tInW 2 145 rfl rfl
noncomputable def uw5_46 : Cond := Cond.code ({ cls := "RoundReckoner$Rows", name := "keyOf", desc := "([J)J" } : MethodName) prog_10_method_3_code (4 : Nat) (Option.some FieldType.long)
set_option maxRecDepth 100000 in
theorem uw5_46m : uw5_46 ∈ tW0 := tInW 5 46 rfl rfl
noncomputable def uw1_12 : Cond := Cond.initialized "RoundReckoner$Rows"
set_option maxRecDepth 100000 in
theorem uw1_12m : uw1_12 ∈ tW0 := tInW 1 12 rfl rfl
noncomputable def uw5_44 : Cond := Cond.methodLink "RoundReckoner$Rows" (41 : Nat) ({ cls := "RoundReckoner$Rows", name := "keyOf", desc := "([J)J" } : MethodName)
set_option maxRecDepth 100000 in
theorem uw5_44m : uw5_44 ∈ tW0 := tInW 5 44 rfl rfl
noncomputable def uw5_45 : Cond := Cond.static ({ cls := "RoundReckoner$Rows", name := "keyOf", desc := "([J)J" } : MethodName)
set_option maxRecDepth 100000 in
theorem uw5_45m : uw5_45 ∈ tW0 := tInW 5 45 rfl rfl
noncomputable def uw5_48 : Cond := Cond.methodLink "RoundReckoner$Rows" (45 : Nat) ({ cls := "RoundReckoner$Chains", name := "firstOf", desc := "(J)I" } : MethodName)
set_option maxRecDepth 100000 in
theorem uw5_48m : uw5_48 ∈ tW0 := tInW 5 48 rfl rfl
noncomputable def uw5_52 : Cond := Cond.code ({ cls := "RoundReckoner$Rows", name := "isRow", desc := "(I[J)Z" } : MethodName) prog_10_method_4_code (4 : Nat) (Option.some FieldType.boolean)
set_option maxRecDepth 100000 in
theorem uw5_52m : uw5_52 ∈ tW0 := tInW 5 52 rfl rfl
noncomputable def uw5_49 : Cond := Cond.methodLink "RoundReckoner$Rows" (49 : Nat) ({ cls := "RoundReckoner$Rows", name := "isRow", desc := "(I[J)Z" } : MethodName)
set_option maxRecDepth 100000 in
theorem uw5_49m : uw5_49 ∈ tW0 := tInW 5 49 rfl rfl
noncomputable def uw5_51 : Cond := Cond.instanceMethod ({ cls := "RoundReckoner$Rows", name := "isRow", desc := "(I[J)Z" } : MethodName)
set_option maxRecDepth 100000 in
theorem uw5_51m : uw5_51 ∈ tW0 := tInW 5 51 rfl rfl
noncomputable def uw0_36 : Cond := Cond.selects "RoundReckoner$Rows" ⟨"RoundReckoner$Rows", "isRow", "(I[J)Z"⟩ ⟨"RoundReckoner$Rows", "isRow", "(I[J)Z"⟩
set_option maxRecDepth 100000 in
theorem uw0_36m : uw0_36 ∈ tW0 := tInW 0 36 rfl rfl
noncomputable def uw5_53 : Cond := Cond.methodLink "RoundReckoner$Rows" (53 : Nat) ({ cls := "RoundReckoner$Chains", name := "nextOf", desc := "(I)I" } : MethodName)
set_option maxRecDepth 100000 in
theorem uw5_53m : uw5_53 ∈ tW0 := tInW 5 53 rfl rfl
noncomputable def uw5_55 : Cond := Cond.methodLink "RoundReckoner$Rows" (63 : Nat) ({ cls := "RoundReckoner$Chains", name := "append", desc := "(JI)V" } : MethodName)
set_option maxRecDepth 100000 in
theorem uw5_55m : uw5_55 ∈ tW0 := tInW 5 55 rfl rfl
noncomputable def uw2_59 : Cond := Cond.code ({ cls := "java/lang/Math", name := "min", desc := "(II)I" } : MethodName) prog_20_method_69_code (2 : Nat) (Option.some FieldType.int)
set_option maxRecDepth 100000 in
theorem uw2_59m : uw2_59 ∈ tW0 := tInW 2 59 rfl rfl
noncomputable def uw1_9 : Cond := Cond.initialized "java/lang/Math"
set_option maxRecDepth 100000 in
theorem uw1_9m : uw1_9 ∈ tW0 := tInW 1 9 rfl rfl
noncomputable def uw5_72 : Cond := Cond.methodLink "RoundReckoner$Rows" (71 : Nat) ({ cls := "java/lang/Math", name := "min", desc := "(II)I" } : MethodName)
set_option maxRecDepth 100000 in
theorem uw5_72m : uw5_72 ∈ tW0 := tInW 5 72 rfl rfl
noncomputable def uw2_58 : Cond := Cond.static ({ cls := "java/lang/Math", name := "min", desc := "(II)I" } : MethodName)
set_option maxRecDepth 100000 in
theorem uw2_58m : uw2_58 ∈ tW0 := tInW 2 58 rfl rfl
noncomputable def uw2_62 : Cond := Cond.code ({ cls := "java/lang/Math", name := "max", desc := "(II)I" } : MethodName) prog_20_method_65_code (2 : Nat) (Option.some FieldType.int)
set_option maxRecDepth 100000 in
theorem uw2_62m : uw2_62 ∈ tW0 := tInW 2 62 rfl rfl
noncomputable def uw5_77 : Cond := Cond.methodLink "RoundReckoner$Rows" (77 : Nat) ({ cls := "java/lang/Math", name := "max", desc := "(II)I" } : MethodName)
set_option maxRecDepth 100000 in
theorem uw5_77m : uw5_77 ∈ tW0 := tInW 5 77 rfl rfl
noncomputable def uw2_61 : Cond := Cond.static ({ cls := "java/lang/Math", name := "max", desc := "(II)I" } : MethodName)
set_option maxRecDepth 100000 in
theorem uw2_61m : uw2_61 ∈ tW0 := tInW 2 61 rfl rfl
noncomputable def uw1_140 : Cond := Cond.fieldLink "RoundReckoner$Clauses" (103 : Nat) "RoundReckoner$Rule" "goalCount" "I"
set_option maxRecDepth 100000 in
theorem uw1_140m : uw1_140 ∈ tW0 := tInW 1 140 rfl rfl
noncomputable def uw1_66 : Cond := Cond.fieldLink "RoundReckoner$Clauses" (110 : Nat) "RoundReckoner$Goal" "kind" "I"
set_option maxRecDepth 100000 in
theorem uw1_66m : uw1_66 ∈ tW0 := tInW 1 66 rfl rfl
noncomputable def uw1_136 : Cond := Cond.fieldLink "RoundReckoner$Clauses" (90 : Nat) "RoundReckoner$Rule" "head" "LRoundReckoner$Goal;"
set_option maxRecDepth 100000 in
theorem uw1_136m : uw1_136 ∈ tW0 := tInW 1 136 rfl rfl
noncomputable def uw1_89 : Cond := Cond.fieldLink "RoundReckoner$Clauses" (113 : Nat) "RoundReckoner$Goal" "tally" "I"
set_option maxRecDepth 100000 in
theorem uw1_89m : uw1_89 ∈ tW0 := tInW 1 89 rfl rfl
noncomputable def uw1_156 : Cond := Cond.fieldLink "RoundReckoner$Clauses" (19 : Nat) "RoundReckoner$Clauses" "layers" "[I"
set_option maxRecDepth 100000 in
theorem uw1_156m : uw1_156 ∈ tW0 := tInW 1 156 rfl rfl
noncomputable def uw4_168 : Cond := Cond.methodLink "RoundReckoner$Clauses" (106 : Nat) ({ cls := "RoundReckoner$Rule", name := "goal", desc := "(I)LRoundReckoner$Goal;" } : MethodName)
set_option maxRecDepth 100000 in
theorem uw4_168m : uw4_168 ∈ tW0 := tInW 4 168 rfl rfl
noncomputable def uw4_169 : Cond := Cond.methodLink "RoundReckoner$Clauses" (97 : Nat) ({ cls := "java/lang/Math", name := "max", desc := "(II)I" } : MethodName)
set_option maxRecDepth 100000 in
theorem uw4_169m : uw4_169 ∈ tW0 := tInW 4 169 rfl rfl
noncomputable def uw1_168 : Cond := Cond.fieldLink "RoundReckoner$Clauses" (94 : Nat) "RoundReckoner$Clauses" "layerCount" "I"
set_option maxRecDepth 100000 in
theorem uw1_168m : uw1_168 ∈ tW0 := tInW 1 168 rfl rfl
noncomputable def uw4_163 : Cond := Cond.methodLink "RoundReckoner$Clauses" (80 : Nat) ({ cls := "java/util/Arrays", name := "fill", desc := "([II)V" } : MethodName)
set_option maxRecDepth 100000 in
theorem uw4_163m : uw4_163 ∈ tW0 := tInW 4 163 rfl rfl
noncomputable def uw4_167 : Cond := Cond.code ({ cls := "RoundReckoner$Clauses", name := "leastLayer", desc := "(LRoundReckoner$Rule;)I" } : MethodName) prog_4_method_15_code (6 : Nat) (Option.some FieldType.int)
set_option maxRecDepth 100000 in
theorem uw4_167m : uw4_167 ∈ tW0 := tInW 4 167 rfl rfl
noncomputable def uw4_164 : Cond := Cond.methodLink "RoundReckoner$Clauses" (86 : Nat) ({ cls := "RoundReckoner$Clauses", name := "leastLayer", desc := "(LRoundReckoner$Rule;)I" } : MethodName)
set_option maxRecDepth 100000 in
theorem uw4_164m : uw4_164 ∈ tW0 := tInW 4 164 rfl rfl
noncomputable def uw4_166 : Cond := Cond.instanceMethod ({ cls := "RoundReckoner$Clauses", name := "leastLayer", desc := "(LRoundReckoner$Rule;)I" } : MethodName)
set_option maxRecDepth 100000 in
theorem uw4_166m : uw4_166 ∈ tW0 := tInW 4 166 rfl rfl
noncomputable def uw0_26 : Cond := Cond.selects "RoundReckoner$Clauses" ⟨"RoundReckoner$Clauses", "leastLayer", "(LRoundReckoner$Rule;)I"⟩ ⟨"RoundReckoner$Clauses", "leastLayer", "(LRoundReckoner$Rule;)I"⟩
set_option maxRecDepth 100000 in
theorem uw0_26m : uw0_26 ∈ tW0 := tInW 0 26 rfl rfl
noncomputable def uw1_54 : Cond := Cond.fieldLink "RoundReckoner$Engine" (232 : Nat) "RoundReckoner$Goal" "kinds" "[I"
set_option maxRecDepth 100000 in
theorem uw1_54m : uw1_54 ∈ tW0 := tInW 1 54 rfl rfl
noncomputable def uw2_188 : Cond := Cond.fieldLink "RoundReckoner$Engine" (18 : Nat) "RoundReckoner$Engine" "bound" "[J"
set_option maxRecDepth 100000 in
theorem uw2_188m : uw2_188 ∈ tW0 := tInW 2 188 rfl rfl
noncomputable def uw1_57 : Cond := Cond.fieldLink "RoundReckoner$Engine" (235 : Nat) "RoundReckoner$Goal" "slots" "[I"
set_option maxRecDepth 100000 in
theorem uw1_57m : uw1_57 ∈ tW0 := tInW 1 57 rfl rfl
noncomputable def uw1_63 : Cond := Cond.fieldLink "RoundReckoner$Engine" (238 : Nat) "RoundReckoner$Goal" "values" "[J"
set_option maxRecDepth 100000 in
theorem uw1_63m : uw1_63 ∈ tW0 := tInW 1 63 rfl rfl
noncomputable def uw2_186 : Cond := Cond.fieldLink "RoundReckoner$Engine" (44 : Nat) "RoundReckoner$Engine" "tuples" "LRoundReckoner$Tuples;"
set_option maxRecDepth 100000 in
theorem uw2_186m : uw2_186 ∈ tW0 := tInW 2 186 rfl rfl
noncomputable def uw2_84 : Cond := Cond.fieldLink "RoundReckoner$Engine" (241 : Nat) "RoundReckoner$Tuples" "predicates" "[I"
set_option maxRecDepth 100000 in
theorem uw2_84m : uw2_84 ∈ tW0 := tInW 2 84 rfl rfl
noncomputable def uw1_76 : Cond := Cond.fieldLink "RoundReckoner$Engine" (110 : Nat) "RoundReckoner$Goal" "predicate" "I"
set_option maxRecDepth 100000 in
theorem uw1_76m : uw1_76 ∈ tW0 := tInW 1 76 rfl rfl
noncomputable def uw1_70 : Cond := Cond.fieldLink "RoundReckoner$Engine" (244 : Nat) "RoundReckoner$Goal" "size" "I"
set_option maxRecDepth 100000 in
theorem uw1_70m : uw1_70 ∈ tW0 := tInW 1 70 rfl rfl
noncomputable def uw2_81 : Cond := Cond.fieldLink "RoundReckoner$Engine" (247 : Nat) "RoundReckoner$Tuples" "values" "[J"
set_option maxRecDepth 100000 in
theorem uw2_81m : uw2_81 ∈ tW0 := tInW 2 81 rfl rfl
noncomputable def uw5_35 : Cond := Cond.code ({ cls := "RoundReckoner$Engine", name := "valueOf", desc := "(LRoundReckoner$Goal;I)J" } : MethodName) prog_5_method_17_code (3 : Nat) (Option.some FieldType.long)
set_option maxRecDepth 100000 in
theorem uw5_35m : uw5_35 ∈ tW0 := tInW 5 35 rfl rfl
noncomputable def uw1_11 : Cond := Cond.initialized "RoundReckoner$Engine"
set_option maxRecDepth 100000 in
theorem uw1_11m : uw1_11 ∈ tW0 := tInW 1 11 rfl rfl
noncomputable def uw5_32 : Cond := Cond.methodLink "RoundReckoner$Engine" (218 : Nat) ({ cls := "RoundReckoner$Engine", name := "valueOf", desc := "(LRoundReckoner$Goal;I)J" } : MethodName)
set_option maxRecDepth 100000 in
theorem uw5_32m : uw5_32 ∈ tW0 := tInW 5 32 rfl rfl
noncomputable def uw5_34 : Cond := Cond.instanceMethod ({ cls := "RoundReckoner$Engine", name := "valueOf", desc := "(LRoundReckoner$Goal;I)J" } : MethodName)
set_option maxRecDepth 100000 in
theorem uw5_34m : uw5_34 ∈ tW0 := tInW 5 34 rfl rfl
noncomputable def uw0_34 : Cond := Cond.selects "RoundReckoner$Engine" ⟨"RoundReckoner$Engine", "valueOf", "(LRoundReckoner$Goal;I)J"⟩ ⟨"RoundReckoner$Engine", "valueOf", "(LRoundReckoner$Goal;I)J"⟩
set_option maxRecDepth 100000 in
theorem uw0_34m : uw0_34 ∈ tW0 := tInW 0 34 rfl rfl
noncomputable def uw1_81 : Cond := Cond.fieldLink "RoundReckoner$Engine" (211 : Nat) "RoundReckoner$Goal" "guide" "I"
set_option maxRecDepth 100000 in
theorem uw1_81m : uw1_81 ∈ tW0 := tInW 1 81 rfl rfl
noncomputable def uw5_90 : Cond := Cond.code ({ cls := "RoundReckoner$Tuples", name := "firstFrom", desc := "(II)I" } : MethodName) prog_12_method_8_code (4 : Nat) (Option.some FieldType.int)
set_option maxRecDepth 100000 in
theorem uw5_90m : uw5_90 ∈ tW0 := tInW 5 90 rfl rfl
noncomputable def uw5_87 : Cond := Cond.methodLink "RoundReckoner$Engine" (214 : Nat) ({ cls := "RoundReckoner$Tuples", name := "firstFrom", desc := "(II)I" } : MethodName)
set_option maxRecDepth 100000 in
theorem uw5_87m : uw5_87 ∈ tW0 := tInW 5 87 rfl rfl
noncomputable def uw5_88 : Cond := Cond.instanceMethod ({ cls := "RoundReckoner$Tuples", name := "firstFrom", desc := "(II)I" } : MethodName)
set_option maxRecDepth 100000 in
theorem uw5_88m : uw5_88 ∈ tW0 := tInW 5 88 rfl rfl
noncomputable def uw5_89 : Cond := Cond.selects "RoundReckoner$Tuples" ({ cls := "RoundReckoner$Tuples", name := "firstFrom", desc := "(II)I" } : MethodName) ({ cls := "RoundReckoner$Tuples", name := "firstFrom", desc := "(II)I" } : MethodName)
set_option maxRecDepth 100000 in
theorem uw5_89m : uw5_89 ∈ tW0 := tInW 5 89 rfl rfl
noncomputable def uw5_94 : Cond := Cond.code ({ cls := "RoundReckoner$Tuples", name := "firstWith", desc := "(IIJ)I" } : MethodName) prog_12_method_10_code (5 : Nat) (Option.some FieldType.int)
set_option maxRecDepth 100000 in
theorem uw5_94m : uw5_94 ∈ tW0 := tInW 5 94 rfl rfl
noncomputable def uw5_91 : Cond := Cond.methodLink "RoundReckoner$Engine" (222 : Nat) ({ cls := "RoundReckoner$Tuples", name := "firstWith", desc := "(IIJ)I" } : MethodName)
set_option maxRecDepth 100000 in
theorem uw5_91m : uw5_91 ∈ tW0 := tInW 5 91 rfl rfl
noncomputable def uw5_92 : Cond := Cond.instanceMethod ({ cls := "RoundReckoner$Tuples", name := "firstWith", desc := "(IIJ)I" } : MethodName)
set_option maxRecDepth 100000 in
theorem uw5_92m : uw5_92 ∈ tW0 := tInW 5 92 rfl rfl
noncomputable def uw5_93 : Cond := Cond.selects "RoundReckoner$Tuples" ({ cls := "RoundReckoner$Tuples", name := "firstWith", desc := "(IIJ)I" } : MethodName) ({ cls := "RoundReckoner$Tuples", name := "firstWith", desc := "(IIJ)I" } : MethodName)
set_option maxRecDepth 100000 in
theorem uw5_93m : uw5_93 ∈ tW0 := tInW 5 93 rfl rfl
noncomputable def uw5_130 : Cond := Cond.code ({ cls := "RoundReckoner$Tuples", name := "nextOf", desc := "(I)I" } : MethodName) prog_12_method_9_code (2 : Nat) (Option.some FieldType.int)
set_option maxRecDepth 100000 in
theorem uw5_130m : uw5_130 ∈ tW0 := tInW 5 130 rfl rfl
noncomputable def uw5_127 : Cond := Cond.methodLink "RoundReckoner$Engine" (226 : Nat) ({ cls := "RoundReckoner$Tuples", name := "nextOf", desc := "(I)I" } : MethodName)
set_option maxRecDepth 100000 in
theorem uw5_127m : uw5_127 ∈ tW0 := tInW 5 127 rfl rfl
noncomputable def uw5_128 : Cond := Cond.instanceMethod ({ cls := "RoundReckoner$Tuples", name := "nextOf", desc := "(I)I" } : MethodName)
set_option maxRecDepth 100000 in
theorem uw5_128m : uw5_128 ∈ tW0 := tInW 5 128 rfl rfl
noncomputable def uw5_129 : Cond := Cond.selects "RoundReckoner$Tuples" ({ cls := "RoundReckoner$Tuples", name := "nextOf", desc := "(I)I" } : MethodName) ({ cls := "RoundReckoner$Tuples", name := "nextOf", desc := "(I)I" } : MethodName)
set_option maxRecDepth 100000 in
theorem uw5_129m : uw5_129 ∈ tW0 := tInW 5 129 rfl rfl
noncomputable def uw5_134 : Cond := Cond.code ({ cls := "RoundReckoner$Tuples", name := "nextWith", desc := "(II)I" } : MethodName) prog_12_method_11_code (3 : Nat) (Option.some FieldType.int)
set_option maxRecDepth 100000 in
theorem uw5_134m : uw5_134 ∈ tW0 := tInW 5 134 rfl rfl
noncomputable def uw5_131 : Cond := Cond.methodLink "RoundReckoner$Engine" (229 : Nat) ({ cls := "RoundReckoner$Tuples", name := "nextWith", desc := "(II)I" } : MethodName)
set_option maxRecDepth 100000 in
theorem uw5_131m : uw5_131 ∈ tW0 := tInW 5 131 rfl rfl
noncomputable def uw5_132 : Cond := Cond.instanceMethod ({ cls := "RoundReckoner$Tuples", name := "nextWith", desc := "(II)I" } : MethodName)
set_option maxRecDepth 100000 in
theorem uw5_132m : uw5_132 ∈ tW0 := tInW 5 132 rfl rfl
noncomputable def uw5_133 : Cond := Cond.selects "RoundReckoner$Tuples" ({ cls := "RoundReckoner$Tuples", name := "nextWith", desc := "(II)I" } : MethodName) ({ cls := "RoundReckoner$Tuples", name := "nextWith", desc := "(II)I" } : MethodName)
set_option maxRecDepth 100000 in
theorem uw5_133m : uw5_133 ∈ tW0 := tInW 5 133 rfl rfl
noncomputable def uw2_195 : Cond := Cond.fieldLink "RoundReckoner$Engine" (135 : Nat) "RoundReckoner$Engine" "limit" "I"
set_option maxRecDepth 100000 in
theorem uw2_195m : uw2_195 ∈ tW0 := tInW 2 195 rfl rfl
noncomputable def uw5_86 : Cond := Cond.code ({ cls := "RoundReckoner$Engine", name := "firstFor", desc := "(LRoundReckoner$Goal;I)I" } : MethodName) prog_5_method_15_code (3 : Nat) (Option.some FieldType.int)
set_option maxRecDepth 100000 in
theorem uw5_86m : uw5_86 ∈ tW0 := tInW 5 86 rfl rfl
noncomputable def uw5_83 : Cond := Cond.methodLink "RoundReckoner$Engine" (193 : Nat) ({ cls := "RoundReckoner$Engine", name := "firstFor", desc := "(LRoundReckoner$Goal;I)I" } : MethodName)
set_option maxRecDepth 100000 in
theorem uw5_83m : uw5_83 ∈ tW0 := tInW 5 83 rfl rfl
noncomputable def uw5_85 : Cond := Cond.instanceMethod ({ cls := "RoundReckoner$Engine", name := "firstFor", desc := "(LRoundReckoner$Goal;I)I" } : MethodName)
set_option maxRecDepth 100000 in
theorem uw5_85m : uw5_85 ∈ tW0 := tInW 5 85 rfl rfl
noncomputable def uw0_38 : Cond := Cond.selects "RoundReckoner$Engine" ⟨"RoundReckoner$Engine", "firstFor", "(LRoundReckoner$Goal;I)I"⟩ ⟨"RoundReckoner$Engine", "firstFor", "(LRoundReckoner$Goal;I)I"⟩
set_option maxRecDepth 100000 in
theorem uw0_38m : uw0_38 ∈ tW0 := tInW 0 38 rfl rfl
noncomputable def uw5_102 : Cond := Cond.code ({ cls := "RoundReckoner$Engine", name := "fits", desc := "(LRoundReckoner$Goal;I)Z" } : MethodName) prog_5_method_18_code (7 : Nat) (Option.some FieldType.boolean)
set_option maxRecDepth 100000 in
theorem uw5_102m : uw5_102 ∈ tW0 := tInW 5 102 rfl rfl
noncomputable def uw5_99 : Cond := Cond.methodLink "RoundReckoner$Engine" (197 : Nat) ({ cls := "RoundReckoner$Engine", name := "fits", desc := "(LRoundReckoner$Goal;I)Z" } : MethodName)
set_option maxRecDepth 100000 in
theorem uw5_99m : uw5_99 ∈ tW0 := tInW 5 99 rfl rfl
noncomputable def uw5_101 : Cond := Cond.instanceMethod ({ cls := "RoundReckoner$Engine", name := "fits", desc := "(LRoundReckoner$Goal;I)Z" } : MethodName)
set_option maxRecDepth 100000 in
theorem uw5_101m : uw5_101 ∈ tW0 := tInW 5 101 rfl rfl
noncomputable def uw0_40 : Cond := Cond.selects "RoundReckoner$Engine" ⟨"RoundReckoner$Engine", "fits", "(LRoundReckoner$Goal;I)Z"⟩ ⟨"RoundReckoner$Engine", "fits", "(LRoundReckoner$Goal;I)Z"⟩
set_option maxRecDepth 100000 in
theorem uw0_40m : uw0_40 ∈ tW0 := tInW 0 40 rfl rfl
noncomputable def uw5_126 : Cond := Cond.code ({ cls := "RoundReckoner$Engine", name := "nextFor", desc := "(LRoundReckoner$Goal;I)I" } : MethodName) prog_5_method_16_code (3 : Nat) (Option.some FieldType.int)
set_option maxRecDepth 100000 in
theorem uw5_126m : uw5_126 ∈ tW0 := tInW 5 126 rfl rfl
noncomputable def uw5_123 : Cond := Cond.methodLink "RoundReckoner$Engine" (204 : Nat) ({ cls := "RoundReckoner$Engine", name := "nextFor", desc := "(LRoundReckoner$Goal;I)I" } : MethodName)
set_option maxRecDepth 100000 in
theorem uw5_123m : uw5_123 ∈ tW0 := tInW 5 123 rfl rfl
noncomputable def uw5_125 : Cond := Cond.instanceMethod ({ cls := "RoundReckoner$Engine", name := "nextFor", desc := "(LRoundReckoner$Goal;I)I" } : MethodName)
set_option maxRecDepth 100000 in
theorem uw5_125m : uw5_125 ∈ tW0 := tInW 5 125 rfl rfl
noncomputable def uw0_42 : Cond := Cond.selects "RoundReckoner$Engine" ⟨"RoundReckoner$Engine", "nextFor", "(LRoundReckoner$Goal;I)I"⟩ ⟨"RoundReckoner$Engine", "nextFor", "(LRoundReckoner$Goal;I)I"⟩
set_option maxRecDepth 100000 in
theorem uw0_42m : uw0_42 ∈ tW0 := tInW 0 42 rfl rfl
noncomputable def uw1_65 : Cond := Cond.fieldLink "RoundReckoner$Engine" (177 : Nat) "RoundReckoner$Goal" "kind" "I"
set_option maxRecDepth 100000 in
theorem uw1_65m : uw1_65 ∈ tW0 := tInW 1 65 rfl rfl
noncomputable def uw1_85 : Cond := Cond.fieldLink "RoundReckoner$Engine" (252 : Nat) "RoundReckoner$Goal" "target" "I"
set_option maxRecDepth 100000 in
theorem uw1_85m : uw1_85 ∈ tW0 := tInW 1 85 rfl rfl
noncomputable def uw5_144 : Cond := Cond.constantLong "RoundReckoner$Engine" 255 (Int64.ofInt (-100000000))
set_option maxRecDepth 100000 in
theorem uw5_144m : uw5_144 ∈ tW0 := inAt_ok (ws := [uw5_144]) (is := [(5, 144)]) (by decide +kernel) _ (List.mem_cons_self ..)
noncomputable def uw5_145 : Cond := Cond.constantLong "RoundReckoner$Engine" 257 (Int64.ofInt 100000000)
set_option maxRecDepth 100000 in
theorem uw5_145m : uw5_145 ∈ tW0 := inAt_ok (ws := [uw5_145]) (is := [(5, 145)]) (by decide +kernel) _ (List.mem_cons_self ..)
noncomputable def uw2_185 : Cond := Cond.fieldLink "RoundReckoner$Engine" (40 : Nat) "RoundReckoner$Engine" "clauses" "LRoundReckoner$Clauses;"
set_option maxRecDepth 100000 in
theorem uw2_185m : uw2_185 ∈ tW0 := tInW 2 185 rfl rfl
noncomputable def uw1_157 : Cond := Cond.fieldLink "RoundReckoner$Engine" (65 : Nat) "RoundReckoner$Clauses" "layers" "[I"
set_option maxRecDepth 100000 in
theorem uw1_157m : uw1_157 ∈ tW0 := tInW 1 157 rfl rfl
noncomputable def uw1_134 : Cond := Cond.fieldLink "RoundReckoner$Engine" (106 : Nat) "RoundReckoner$Rule" "head" "LRoundReckoner$Goal;"
set_option maxRecDepth 100000 in
theorem uw1_134m : uw1_134 ∈ tW0 := tInW 1 134 rfl rfl
noncomputable def uw1_169 : Cond := Cond.fieldLink "RoundReckoner$Engine" (57 : Nat) "RoundReckoner$Clauses" "factCount" "I"
set_option maxRecDepth 100000 in
theorem uw1_169m : uw1_169 ∈ tW0 := tInW 1 169 rfl rfl
noncomputable def uw1_160 : Cond := Cond.fieldLink "RoundReckoner$Engine" (62 : Nat) "RoundReckoner$Clauses" "factPredicates" "[I"
set_option maxRecDepth 100000 in
theorem uw1_160m : uw1_160 ∈ tW0 := tInW 1 160 rfl rfl
noncomputable def uw1_162 : Cond := Cond.fieldLink "RoundReckoner$Engine" (68 : Nat) "RoundReckoner$Clauses" "factValues" "[J"
set_option maxRecDepth 100000 in
theorem uw1_162m : uw1_162 ∈ tW0 := tInW 1 162 rfl rfl
noncomputable def uw2_96 : Cond := Cond.fieldLink "RoundReckoner$Engine" (71 : Nat) "RoundReckoner$Tuples" "draft" "[J"
set_option maxRecDepth 100000 in
theorem uw2_96m : uw2_96 ∈ tW0 := tInW 2 96 rfl rfl
noncomputable def uw4_205 : Cond := Cond.code ({ cls := "RoundReckoner$Engine", name := "bring", desc := "(III)Z" } : MethodName) prog_5_method_4_code (4 : Nat) (Option.some FieldType.boolean)
set_option maxRecDepth 100000 in
theorem uw4_205m : uw4_205 ∈ tW0 := tInW 4 205 rfl rfl
noncomputable def uw4_202 : Cond := Cond.methodLink "RoundReckoner$Engine" (80 : Nat) ({ cls := "RoundReckoner$Engine", name := "bring", desc := "(III)Z" } : MethodName)
set_option maxRecDepth 100000 in
theorem uw4_202m : uw4_202 ∈ tW0 := tInW 4 202 rfl rfl
noncomputable def uw4_204 : Cond := Cond.instanceMethod ({ cls := "RoundReckoner$Engine", name := "bring", desc := "(III)Z" } : MethodName)
set_option maxRecDepth 100000 in
theorem uw4_204m : uw4_204 ∈ tW0 := tInW 4 204 rfl rfl
noncomputable def uw0_27 : Cond := Cond.selects "RoundReckoner$Engine" ⟨"RoundReckoner$Engine", "bring", "(III)Z"⟩ ⟨"RoundReckoner$Engine", "bring", "(III)Z"⟩
set_option maxRecDepth 100000 in
theorem uw0_27m : uw0_27 ∈ tW0 := tInW 0 27 rfl rfl
noncomputable def uw2_183 : Cond := Cond.fieldLink "RoundReckoner$Engine" (53 : Nat) "RoundReckoner$Engine" "steps" "I"
set_option maxRecDepth 100000 in
theorem uw2_183m : uw2_183 ∈ tW0 := tInW 2 183 rfl rfl
noncomputable def uw4_192 : Cond := Cond.code ({ cls := "RoundReckoner$Tuples", name := "clear", desc := "()V" } : MethodName) prog_12_method_2_code (1 : Nat) (Option.none : Option FieldType)
set_option maxRecDepth 100000 in
theorem uw4_192m : uw4_192 ∈ tW0 := tInW 4 192 rfl rfl
noncomputable def uw4_189 : Cond := Cond.methodLink "RoundReckoner$Engine" (48 : Nat) ({ cls := "RoundReckoner$Tuples", name := "clear", desc := "()V" } : MethodName)
set_option maxRecDepth 100000 in
theorem uw4_189m : uw4_189 ∈ tW0 := tInW 4 189 rfl rfl
noncomputable def uw4_190 : Cond := Cond.instanceMethod ({ cls := "RoundReckoner$Tuples", name := "clear", desc := "()V" } : MethodName)
set_option maxRecDepth 100000 in
theorem uw4_190m : uw4_190 ∈ tW0 := tInW 4 190 rfl rfl
noncomputable def uw4_191 : Cond := Cond.selects "RoundReckoner$Tuples" ({ cls := "RoundReckoner$Tuples", name := "clear", desc := "()V" } : MethodName) ({ cls := "RoundReckoner$Tuples", name := "clear", desc := "()V" } : MethodName)
set_option maxRecDepth 100000 in
theorem uw4_191m : uw4_191 ∈ tW0 := tInW 4 191 rfl rfl
noncomputable def uw2_187 : Cond := Cond.fieldLink "RoundReckoner$Engine" (12 : Nat) "RoundReckoner$Engine" "rows" "LRoundReckoner$Rows;"
set_option maxRecDepth 100000 in
theorem uw2_187m : uw2_187 ∈ tW0 := tInW 2 187 rfl rfl
noncomputable def uw2_148 : Cond := Cond.fieldLink "RoundReckoner$Engine" (147 : Nat) "RoundReckoner$Rows" "count" "I"
set_option maxRecDepth 100000 in
theorem uw2_148m : uw2_148 ∈ tW0 := tInW 2 148 rfl rfl
noncomputable def uw2_146 : Cond := Cond.fieldLink "RoundReckoner$Engine" (148 : Nat) "RoundReckoner$Rows" "counted" "[Z"
set_option maxRecDepth 100000 in
theorem uw2_146m : uw2_146 ∈ tW0 := tInW 2 146 rfl rfl
noncomputable def uw2_142 : Cond := Cond.fieldLink "RoundReckoner$Engine" (152 : Nat) "RoundReckoner$Rows" "keys" "[J"
set_option maxRecDepth 100000 in
theorem uw2_142m : uw2_142 ∈ tW0 := tInW 2 142 rfl rfl
noncomputable def uw1_91 : Cond := Cond.fieldLink "RoundReckoner$Engine" (155 : Nat) "RoundReckoner$Goal" "tallyAt" "I"
set_option maxRecDepth 100000 in
theorem uw1_91m : uw1_91 ∈ tW0 := tInW 1 91 rfl rfl
noncomputable def uw2_144 : Cond := Cond.fieldLink "RoundReckoner$Engine" (158 : Nat) "RoundReckoner$Rows" "amounts" "[I"
set_option maxRecDepth 100000 in
theorem uw2_144m : uw2_144 ∈ tW0 := tInW 2 144 rfl rfl
noncomputable def uw2_193 : Cond := Cond.fieldLink "RoundReckoner$Engine" (94 : Nat) "RoundReckoner$Engine" "purpose" "I"
set_option maxRecDepth 100000 in
theorem uw2_193m : uw2_193 ∈ tW0 := tInW 2 193 rfl rfl
noncomputable def uw2_194 : Cond := Cond.fieldLink "RoundReckoner$Engine" (97 : Nat) "RoundReckoner$Engine" "round" "I"
set_option maxRecDepth 100000 in
theorem uw2_194m : uw2_194 ∈ tW0 := tInW 2 194 rfl rfl
noncomputable def uw2_191 : Cond := Cond.fieldLink "RoundReckoner$Engine" (36 : Nat) "RoundReckoner$Engine" "rule" "LRoundReckoner$Rule;"
set_option maxRecDepth 100000 in
theorem uw2_191m : uw2_191 ∈ tW0 := tInW 2 191 rfl rfl
noncomputable def uw2_192 : Cond := Cond.fieldLink "RoundReckoner$Engine" (100 : Nat) "RoundReckoner$Engine" "ruleNumber" "I"
set_option maxRecDepth 100000 in
theorem uw2_192m : uw2_192 ∈ tW0 := tInW 2 192 rfl rfl
noncomputable def uw2_197 : Cond := Cond.fieldLink "RoundReckoner$Engine" (103 : Nat) "RoundReckoner$Engine" "freshTaken" "I"
set_option maxRecDepth 100000 in
theorem uw2_197m : uw2_197 ∈ tW0 := tInW 2 197 rfl rfl
noncomputable def uw2_168 : Cond := Cond.fieldLink "RoundReckoner$Answers" (9 : Nat) "RoundReckoner$Answers" "values" "[J"
set_option maxRecDepth 100000 in
theorem uw2_168m : uw2_168 ∈ tW0 := tInW 2 168 rfl rfl
noncomputable def uw2_190 : Cond := Cond.fieldLink "RoundReckoner$Engine" (29 : Nat) "RoundReckoner$Engine" "answers" "LRoundReckoner$Answers;"
set_option maxRecDepth 100000 in
theorem uw2_190m : uw2_190 ∈ tW0 := tInW 2 190 rfl rfl
noncomputable def uw2_99 : Cond := Cond.fieldLink "RoundReckoner$Engine" (132 : Nat) "RoundReckoner$Tuples" "count" "I"
set_option maxRecDepth 100000 in
theorem uw2_99m : uw2_99 ∈ tW0 := tInW 2 99 rfl rfl
noncomputable def uw2_94 : Cond := Cond.fieldLink "RoundReckoner$Engine" (267 : Nat) "RoundReckoner$Tuples" "tookCounts" "[I"
set_option maxRecDepth 100000 in
theorem uw2_94m : uw2_94 ∈ tW0 := tInW 2 94 rfl rfl
noncomputable def uw1_141 : Cond := Cond.fieldLink "RoundReckoner$Engine" (164 : Nat) "RoundReckoner$Rule" "atomCount" "I"
set_option maxRecDepth 100000 in
theorem uw1_141m : uw1_141 ∈ tW0 := tInW 1 141 rfl rfl
noncomputable def uw2_189 : Cond := Cond.fieldLink "RoundReckoner$Engine" (22 : Nat) "RoundReckoner$Engine" "taken" "[I"
set_option maxRecDepth 100000 in
theorem uw2_189m : uw2_189 ∈ tW0 := tInW 2 189 rfl rfl
noncomputable def uw2_91 : Cond := Cond.fieldLink "RoundReckoner$Engine" (270 : Nat) "RoundReckoner$Tuples" "took" "[I"
set_option maxRecDepth 100000 in
theorem uw2_91m : uw2_91 ∈ tW0 := tInW 2 91 rfl rfl
noncomputable def uw5_30 : Cond := Cond.code ({ cls := "RoundReckoner$Answers", name := "keep", desc := "([J)V" } : MethodName) prog_2_method_3_code (2 : Nat) (Option.none : Option FieldType)
set_option maxRecDepth 100000 in
theorem uw5_30m : uw5_30 ∈ tW0 := tInW 5 30 rfl rfl
noncomputable def uw5_27 : Cond := Cond.methodLink "RoundReckoner$Engine" (259 : Nat) ({ cls := "RoundReckoner$Answers", name := "keep", desc := "([J)V" } : MethodName)
set_option maxRecDepth 100000 in
theorem uw5_27m : uw5_27 ∈ tW0 := tInW 5 27 rfl rfl
noncomputable def uw5_28 : Cond := Cond.instanceMethod ({ cls := "RoundReckoner$Answers", name := "keep", desc := "([J)V" } : MethodName)
set_option maxRecDepth 100000 in
theorem uw5_28m : uw5_28 ∈ tW0 := tInW 5 28 rfl rfl
noncomputable def uw5_29 : Cond := Cond.selects "RoundReckoner$Answers" ({ cls := "RoundReckoner$Answers", name := "keep", desc := "([J)V" } : MethodName) ({ cls := "RoundReckoner$Answers", name := "keep", desc := "([J)V" } : MethodName)
set_option maxRecDepth 100000 in
theorem uw5_29m : uw5_29 ∈ tW0 := tInW 5 29 rfl rfl
noncomputable def uw5_39 : Cond := Cond.code ({ cls := "RoundReckoner$Engine", name := "tallyWay", desc := "(LRoundReckoner$Goal;)V" } : MethodName) prog_5_method_21_code (5 : Nat) (Option.none : Option FieldType)
set_option maxRecDepth 100000 in
theorem uw5_39m : uw5_39 ∈ tW0 := tInW 5 39 rfl rfl
noncomputable def uw5_36 : Cond := Cond.methodLink "RoundReckoner$Engine" (263 : Nat) ({ cls := "RoundReckoner$Engine", name := "tallyWay", desc := "(LRoundReckoner$Goal;)V" } : MethodName)
set_option maxRecDepth 100000 in
theorem uw5_36m : uw5_36 ∈ tW0 := tInW 5 36 rfl rfl
noncomputable def uw5_38 : Cond := Cond.instanceMethod ({ cls := "RoundReckoner$Engine", name := "tallyWay", desc := "(LRoundReckoner$Goal;)V" } : MethodName)
set_option maxRecDepth 100000 in
theorem uw5_38m : uw5_38 ∈ tW0 := tInW 5 38 rfl rfl
noncomputable def uw0_35 : Cond := Cond.selects "RoundReckoner$Engine" ⟨"RoundReckoner$Engine", "tallyWay", "(LRoundReckoner$Goal;)V"⟩ ⟨"RoundReckoner$Engine", "tallyWay", "(LRoundReckoner$Goal;)V"⟩
set_option maxRecDepth 100000 in
theorem uw0_35m : uw0_35 ∈ tW0 := tInW 0 35 rfl rfl
noncomputable def uw1_138 : Cond := Cond.fieldLink "RoundReckoner$Engine" (167 : Nat) "RoundReckoner$Rule" "goalCount" "I"
set_option maxRecDepth 100000 in
theorem uw1_138m : uw1_138 ∈ tW0 := tInW 1 138 rfl rfl
noncomputable def uw5_26 : Cond := Cond.code ({ cls := "RoundReckoner$Engine", name := "arrive", desc := "()V" } : MethodName) prog_5_method_20_code (3 : Nat) (Option.none : Option FieldType)
set_option maxRecDepth 100000 in
theorem uw5_26m : uw5_26 ∈ tW0 := tInW 5 26 rfl rfl
noncomputable def uw5_23 : Cond := Cond.methodLink "RoundReckoner$Engine" (170 : Nat) ({ cls := "RoundReckoner$Engine", name := "arrive", desc := "()V" } : MethodName)
set_option maxRecDepth 100000 in
theorem uw5_23m : uw5_23 ∈ tW0 := tInW 5 23 rfl rfl
noncomputable def uw5_25 : Cond := Cond.instanceMethod ({ cls := "RoundReckoner$Engine", name := "arrive", desc := "()V" } : MethodName)
set_option maxRecDepth 100000 in
theorem uw5_25m : uw5_25 ∈ tW0 := tInW 5 25 rfl rfl
noncomputable def uw0_33 : Cond := Cond.selects "RoundReckoner$Engine" ⟨"RoundReckoner$Engine", "arrive", "()V"⟩ ⟨"RoundReckoner$Engine", "arrive", "()V"⟩
set_option maxRecDepth 100000 in
theorem uw0_33m : uw0_33 ∈ tW0 := tInW 0 33 rfl rfl
noncomputable def uw5_78 : Cond := Cond.methodLink "RoundReckoner$Engine" (173 : Nat) ({ cls := "RoundReckoner$Rule", name := "goal", desc := "(I)LRoundReckoner$Goal;" } : MethodName)
set_option maxRecDepth 100000 in
theorem uw5_78m : uw5_78 ∈ tW0 := tInW 5 78 rfl rfl
noncomputable def uw5_82 : Cond := Cond.code ({ cls := "RoundReckoner$Engine", name := "takeEach", desc := "(LRoundReckoner$Goal;I)V" } : MethodName) prog_5_method_12_code (8 : Nat) (Option.none : Option FieldType)
set_option maxRecDepth 100000 in
theorem uw5_82m : uw5_82 ∈ tW0 := tInW 5 82 rfl rfl
noncomputable def uw5_79 : Cond := Cond.methodLink "RoundReckoner$Engine" (180 : Nat) ({ cls := "RoundReckoner$Engine", name := "takeEach", desc := "(LRoundReckoner$Goal;I)V" } : MethodName)
set_option maxRecDepth 100000 in
theorem uw5_79m : uw5_79 ∈ tW0 := tInW 5 79 rfl rfl
noncomputable def uw5_81 : Cond := Cond.instanceMethod ({ cls := "RoundReckoner$Engine", name := "takeEach", desc := "(LRoundReckoner$Goal;I)V" } : MethodName)
set_option maxRecDepth 100000 in
theorem uw5_81m : uw5_81 ∈ tW0 := tInW 5 81 rfl rfl
noncomputable def uw0_37 : Cond := Cond.selects "RoundReckoner$Engine" ⟨"RoundReckoner$Engine", "takeEach", "(LRoundReckoner$Goal;I)V"⟩ ⟨"RoundReckoner$Engine", "takeEach", "(LRoundReckoner$Goal;I)V"⟩
set_option maxRecDepth 100000 in
theorem uw0_37m : uw0_37 ∈ tW0 := tInW 0 37 rfl rfl
noncomputable def uw5_138 : Cond := Cond.code ({ cls := "RoundReckoner$Engine", name := "isAny", desc := "(LRoundReckoner$Goal;)Z" } : MethodName) prog_5_method_14_code (4 : Nat) (Option.some FieldType.boolean)
set_option maxRecDepth 100000 in
theorem uw5_138m : uw5_138 ∈ tW0 := tInW 5 138 rfl rfl
noncomputable def uw5_135 : Cond := Cond.methodLink "RoundReckoner$Engine" (183 : Nat) ({ cls := "RoundReckoner$Engine", name := "isAny", desc := "(LRoundReckoner$Goal;)Z" } : MethodName)
set_option maxRecDepth 100000 in
theorem uw5_135m : uw5_135 ∈ tW0 := tInW 5 135 rfl rfl
noncomputable def uw5_137 : Cond := Cond.instanceMethod ({ cls := "RoundReckoner$Engine", name := "isAny", desc := "(LRoundReckoner$Goal;)Z" } : MethodName)
set_option maxRecDepth 100000 in
theorem uw5_137m : uw5_137 ∈ tW0 := tInW 5 137 rfl rfl
noncomputable def uw0_43 : Cond := Cond.selects "RoundReckoner$Engine" ⟨"RoundReckoner$Engine", "isAny", "(LRoundReckoner$Goal;)Z"⟩ ⟨"RoundReckoner$Engine", "isAny", "(LRoundReckoner$Goal;)Z"⟩
set_option maxRecDepth 100000 in
theorem uw0_43m : uw0_43 ∈ tW0 := tInW 0 43 rfl rfl
noncomputable def uw5_142 : Cond := Cond.code ({ cls := "RoundReckoner$Engine", name := "isTrue", desc := "(LRoundReckoner$Goal;)Z" } : MethodName) prog_5_method_19_code (8 : Nat) (Option.some FieldType.boolean)
set_option maxRecDepth 100000 in
theorem uw5_142m : uw5_142 ∈ tW0 := tInW 5 142 rfl rfl
noncomputable def uw5_139 : Cond := Cond.methodLink "RoundReckoner$Engine" (187 : Nat) ({ cls := "RoundReckoner$Engine", name := "isTrue", desc := "(LRoundReckoner$Goal;)Z" } : MethodName)
set_option maxRecDepth 100000 in
theorem uw5_139m : uw5_139 ∈ tW0 := tInW 5 139 rfl rfl
noncomputable def uw5_141 : Cond := Cond.instanceMethod ({ cls := "RoundReckoner$Engine", name := "isTrue", desc := "(LRoundReckoner$Goal;)Z" } : MethodName)
set_option maxRecDepth 100000 in
theorem uw5_141m : uw5_141 ∈ tW0 := tInW 5 141 rfl rfl
noncomputable def uw0_44 : Cond := Cond.selects "RoundReckoner$Engine" ⟨"RoundReckoner$Engine", "isTrue", "(LRoundReckoner$Goal;)Z"⟩ ⟨"RoundReckoner$Engine", "isTrue", "(LRoundReckoner$Goal;)Z"⟩
set_option maxRecDepth 100000 in
theorem uw0_44m : uw0_44 ∈ tW0 := tInW 0 44 rfl rfl
noncomputable def uw5_22 : Cond := Cond.code ({ cls := "RoundReckoner$Engine", name := "walk", desc := "(I)V" } : MethodName) prog_5_method_11_code (3 : Nat) (Option.none : Option FieldType)
set_option maxRecDepth 100000 in
theorem uw5_22m : uw5_22 ∈ tW0 := tInW 5 22 rfl rfl
noncomputable def uw5_19 : Cond := Cond.methodLink "RoundReckoner$Engine" (139 : Nat) ({ cls := "RoundReckoner$Engine", name := "walk", desc := "(I)V" } : MethodName)
set_option maxRecDepth 100000 in
theorem uw5_19m : uw5_19 ∈ tW0 := tInW 5 19 rfl rfl
noncomputable def uw5_21 : Cond := Cond.instanceMethod ({ cls := "RoundReckoner$Engine", name := "walk", desc := "(I)V" } : MethodName)
set_option maxRecDepth 100000 in
theorem uw5_21m : uw5_21 ∈ tW0 := tInW 5 21 rfl rfl
noncomputable def uw0_32 : Cond := Cond.selects "RoundReckoner$Engine" ⟨"RoundReckoner$Engine", "walk", "(I)V"⟩ ⟨"RoundReckoner$Engine", "walk", "(I)V"⟩
set_option maxRecDepth 100000 in
theorem uw0_32m : uw0_32 ∈ tW0 := tInW 0 32 rfl rfl
noncomputable def uw1_83 : Cond := Cond.fieldLink "RoundReckoner$Engine" (190 : Nat) "RoundReckoner$Goal" "order" "I"
set_option maxRecDepth 100000 in
theorem uw1_83m : uw1_83 ∈ tW0 := tInW 1 83 rfl rfl
noncomputable def uw2_196 : Cond := Cond.fieldLink "RoundReckoner$Engine" (161 : Nat) "RoundReckoner$Engine" "freshFrom" "I"
set_option maxRecDepth 100000 in
theorem uw2_196m : uw2_196 ∈ tW0 := tInW 2 196 rfl rfl
noncomputable def uw5_106 : Cond := Cond.code ({ cls := "RoundReckoner$Engine", name := "takeOne", desc := "(LRoundReckoner$Goal;I)V" } : MethodName) prog_5_method_13_code (3 : Nat) (Option.none : Option FieldType)
set_option maxRecDepth 100000 in
theorem uw5_106m : uw5_106 ∈ tW0 := tInW 5 106 rfl rfl
noncomputable def uw5_103 : Cond := Cond.methodLink "RoundReckoner$Engine" (201 : Nat) ({ cls := "RoundReckoner$Engine", name := "takeOne", desc := "(LRoundReckoner$Goal;I)V" } : MethodName)
set_option maxRecDepth 100000 in
theorem uw5_103m : uw5_103 ∈ tW0 := tInW 5 103 rfl rfl
noncomputable def uw5_105 : Cond := Cond.instanceMethod ({ cls := "RoundReckoner$Engine", name := "takeOne", desc := "(LRoundReckoner$Goal;I)V" } : MethodName)
set_option maxRecDepth 100000 in
theorem uw5_105m : uw5_105 ∈ tW0 := tInW 5 105 rfl rfl
noncomputable def uw0_41 : Cond := Cond.selects "RoundReckoner$Engine" ⟨"RoundReckoner$Engine", "takeOne", "(LRoundReckoner$Goal;I)V"⟩ ⟨"RoundReckoner$Engine", "takeOne", "(LRoundReckoner$Goal;I)V"⟩
set_option maxRecDepth 100000 in
theorem uw0_41m : uw0_41 ∈ tW0 := tInW 0 41 rfl rfl
noncomputable def uw5_13 : Cond := Cond.code ({ cls := "RoundReckoner$Engine", name := "begin", desc := "(IILRoundReckoner$Rule;I)V" } : MethodName) prog_5_method_5_code (5 : Nat) (Option.none : Option FieldType)
set_option maxRecDepth 100000 in
theorem uw5_13m : uw5_13 ∈ tW0 := tInW 5 13 rfl rfl
noncomputable def uw5_10 : Cond := Cond.methodLink "RoundReckoner$Engine" (128 : Nat) ({ cls := "RoundReckoner$Engine", name := "begin", desc := "(IILRoundReckoner$Rule;I)V" } : MethodName)
set_option maxRecDepth 100000 in
theorem uw5_10m : uw5_10 ∈ tW0 := tInW 5 10 rfl rfl
noncomputable def uw5_12 : Cond := Cond.instanceMethod ({ cls := "RoundReckoner$Engine", name := "begin", desc := "(IILRoundReckoner$Rule;I)V" } : MethodName)
set_option maxRecDepth 100000 in
theorem uw5_12m : uw5_12 ∈ tW0 := tInW 5 12 rfl rfl
noncomputable def uw0_31 : Cond := Cond.selects "RoundReckoner$Engine" ⟨"RoundReckoner$Engine", "begin", "(IILRoundReckoner$Rule;I)V"⟩ ⟨"RoundReckoner$Engine", "begin", "(IILRoundReckoner$Rule;I)V"⟩
set_option maxRecDepth 100000 in
theorem uw0_31m : uw0_31 ∈ tW0 := tInW 0 31 rfl rfl
noncomputable def uw1_174 : Cond := Cond.fieldLink "RoundReckoner$Engine" (115 : Nat) "RoundReckoner$Clauses" "ruleCount" "I"
set_option maxRecDepth 100000 in
theorem uw1_174m : uw1_174 ∈ tW0 := tInW 1 174 rfl rfl
noncomputable def uw1_88 : Cond := Cond.fieldLink "RoundReckoner$Engine" (121 : Nat) "RoundReckoner$Goal" "tally" "I"
set_option maxRecDepth 100000 in
theorem uw1_88m : uw1_88 ∈ tW0 := tInW 1 88 rfl rfl
noncomputable def uw5_5 : Cond := Cond.methodLink "RoundReckoner$Engine" (118 : Nat) ({ cls := "RoundReckoner$Clauses", name := "rule", desc := "(I)LRoundReckoner$Rule;" } : MethodName)
set_option maxRecDepth 100000 in
theorem uw5_5m : uw5_5 ∈ tW0 := tInW 5 5 rfl rfl
noncomputable def uw5_9 : Cond := Cond.code ({ cls := "RoundReckoner$Engine", name := "isOfLayer", desc := "(LRoundReckoner$Rule;I)Z" } : MethodName) prog_5_method_6_code (3 : Nat) (Option.some FieldType.boolean)
set_option maxRecDepth 100000 in
theorem uw5_9m : uw5_9 ∈ tW0 := tInW 5 9 rfl rfl
noncomputable def uw5_6 : Cond := Cond.methodLink "RoundReckoner$Engine" (124 : Nat) ({ cls := "RoundReckoner$Engine", name := "isOfLayer", desc := "(LRoundReckoner$Rule;I)Z" } : MethodName)
set_option maxRecDepth 100000 in
theorem uw5_6m : uw5_6 ∈ tW0 := tInW 5 6 rfl rfl
noncomputable def uw5_8 : Cond := Cond.instanceMethod ({ cls := "RoundReckoner$Engine", name := "isOfLayer", desc := "(LRoundReckoner$Rule;I)Z" } : MethodName)
set_option maxRecDepth 100000 in
theorem uw5_8m : uw5_8 ∈ tW0 := tInW 5 8 rfl rfl
noncomputable def uw0_30 : Cond := Cond.selects "RoundReckoner$Engine" ⟨"RoundReckoner$Engine", "isOfLayer", "(LRoundReckoner$Rule;I)Z"⟩ ⟨"RoundReckoner$Engine", "isOfLayer", "(LRoundReckoner$Rule;I)Z"⟩
set_option maxRecDepth 100000 in
theorem uw0_30m : uw0_30 ∈ tW0 := tInW 0 30 rfl rfl
noncomputable def uw5_17 : Cond := Cond.code ({ cls := "RoundReckoner$Rows", name := "clear", desc := "()V" } : MethodName) prog_10_method_2_code (1 : Nat) (Option.none : Option FieldType)
set_option maxRecDepth 100000 in
theorem uw5_17m : uw5_17 ∈ tW0 := tInW 5 17 rfl rfl
noncomputable def uw5_14 : Cond := Cond.methodLink "RoundReckoner$Engine" (138 : Nat) ({ cls := "RoundReckoner$Rows", name := "clear", desc := "()V" } : MethodName)
set_option maxRecDepth 100000 in
theorem uw5_14m : uw5_14 ∈ tW0 := tInW 5 14 rfl rfl
noncomputable def uw5_15 : Cond := Cond.instanceMethod ({ cls := "RoundReckoner$Rows", name := "clear", desc := "()V" } : MethodName)
set_option maxRecDepth 100000 in
theorem uw5_15m : uw5_15 ∈ tW0 := tInW 5 15 rfl rfl
noncomputable def uw5_16 : Cond := Cond.selects "RoundReckoner$Rows" ({ cls := "RoundReckoner$Rows", name := "clear", desc := "()V" } : MethodName) ({ cls := "RoundReckoner$Rows", name := "clear", desc := "()V" } : MethodName)
set_option maxRecDepth 100000 in
theorem uw5_16m : uw5_16 ∈ tW0 := tInW 5 16 rfl rfl
noncomputable def uw5_149 : Cond := Cond.code ({ cls := "RoundReckoner$Engine", name := "bringRows", desc := "(LRoundReckoner$Goal;I)V" } : MethodName) prog_5_method_8_code (4 : Nat) (Option.none : Option FieldType)
set_option maxRecDepth 100000 in
theorem uw5_149m : uw5_149 ∈ tW0 := tInW 5 149 rfl rfl
noncomputable def uw5_146 : Cond := Cond.methodLink "RoundReckoner$Engine" (143 : Nat) ({ cls := "RoundReckoner$Engine", name := "bringRows", desc := "(LRoundReckoner$Goal;I)V" } : MethodName)
set_option maxRecDepth 100000 in
theorem uw5_146m : uw5_146 ∈ tW0 := tInW 5 146 rfl rfl
noncomputable def uw5_148 : Cond := Cond.instanceMethod ({ cls := "RoundReckoner$Engine", name := "bringRows", desc := "(LRoundReckoner$Goal;I)V" } : MethodName)
set_option maxRecDepth 100000 in
theorem uw5_148m : uw5_148 ∈ tW0 := tInW 5 148 rfl rfl
noncomputable def uw0_45 : Cond := Cond.selects "RoundReckoner$Engine" ⟨"RoundReckoner$Engine", "bringRows", "(LRoundReckoner$Goal;I)V"⟩ ⟨"RoundReckoner$Engine", "bringRows", "(LRoundReckoner$Goal;I)V"⟩
set_option maxRecDepth 100000 in
theorem uw0_45m : uw0_45 ∈ tW0 := tInW 0 45 rfl rfl
noncomputable def uw4_45 : Cond := Cond.code ({ cls := "RoundReckoner", name := "feed", desc := "(IIIII)I" } : MethodName) prog_1_method_2_code (6 : Nat) (Option.some FieldType.int)
set_option maxRecDepth 100000 in
theorem uw4_45m : uw4_45 ∈ tW0 := tInW 4 45 rfl rfl
noncomputable def uw4_42 : Cond := Cond.methodLink "RoundReckonerLaw" (7 : Nat) ({ cls := "RoundReckoner", name := "feed", desc := "(IIIII)I" } : MethodName)
set_option maxRecDepth 100000 in
theorem uw4_42m : uw4_42 ∈ tW0 := tInW 4 42 rfl rfl
noncomputable def uw4_43 : Cond := Cond.instanceMethod ({ cls := "RoundReckoner", name := "feed", desc := "(IIIII)I" } : MethodName)
set_option maxRecDepth 100000 in
theorem uw4_43m : uw4_43 ∈ tW0 := tInW 4 43 rfl rfl
noncomputable def uw4_44 : Cond := Cond.selects "RoundReckoner" ({ cls := "RoundReckoner", name := "feed", desc := "(IIIII)I" } : MethodName) ({ cls := "RoundReckoner", name := "feed", desc := "(IIIII)I" } : MethodName)
set_option maxRecDepth 100000 in
theorem uw4_44m : uw4_44 ∈ tW0 := tInW 4 44 rfl rfl
noncomputable def uw4_41 : Cond := Cond.classLink "RoundReckonerLaw" (13 : Nat) "java/lang/IndexOutOfBoundsException"
set_option maxRecDepth 100000 in
theorem uw4_41m : uw4_41 ∈ tW0 := tInW 4 41 rfl rfl
noncomputable def uw4_122 : Cond := Cond.code ({ cls := "RoundReckoner", name := "end", desc := "(I)I" } : MethodName) prog_1_method_3_code (2 : Nat) (Option.some FieldType.int)
set_option maxRecDepth 100000 in
theorem uw4_122m : uw4_122 ∈ tW0 := tInW 4 122 rfl rfl
noncomputable def uw4_119 : Cond := Cond.methodLink "RoundReckonerLaw" (15 : Nat) ({ cls := "RoundReckoner", name := "end", desc := "(I)I" } : MethodName)
set_option maxRecDepth 100000 in
theorem uw4_119m : uw4_119 ∈ tW0 := tInW 4 119 rfl rfl
noncomputable def uw4_120 : Cond := Cond.instanceMethod ({ cls := "RoundReckoner", name := "end", desc := "(I)I" } : MethodName)
set_option maxRecDepth 100000 in
theorem uw4_120m : uw4_120 ∈ tW0 := tInW 4 120 rfl rfl
noncomputable def uw4_121 : Cond := Cond.selects "RoundReckoner" ({ cls := "RoundReckoner", name := "end", desc := "(I)I" } : MethodName) ({ cls := "RoundReckoner", name := "end", desc := "(I)I" } : MethodName)
set_option maxRecDepth 100000 in
theorem uw4_121m : uw4_121 ∈ tW0 := tInW 4 121 rfl rfl
noncomputable def uw4_118 : Cond := Cond.classLink "RoundReckonerLaw" (19 : Nat) "java/lang/IllegalArgumentException"
set_option maxRecDepth 100000 in
theorem uw4_118m : uw4_118 ∈ tW0 := tInW 4 118 rfl rfl
noncomputable def uw4_144 : Cond := Cond.code ({ cls := "RoundReckoner", name := "drop", desc := "(I)I" } : MethodName) prog_1_method_7_code (2 : Nat) (Option.some FieldType.int)
set_option maxRecDepth 100000 in
theorem uw4_144m : uw4_144 ∈ tW0 := tInW 4 144 rfl rfl
noncomputable def uw4_141 : Cond := Cond.methodLink "RoundReckonerLaw" (21 : Nat) ({ cls := "RoundReckoner", name := "drop", desc := "(I)I" } : MethodName)
set_option maxRecDepth 100000 in
theorem uw4_141m : uw4_141 ∈ tW0 := tInW 4 141 rfl rfl
noncomputable def uw4_142 : Cond := Cond.instanceMethod ({ cls := "RoundReckoner", name := "drop", desc := "(I)I" } : MethodName)
set_option maxRecDepth 100000 in
theorem uw4_142m : uw4_142 ∈ tW0 := tInW 4 142 rfl rfl
noncomputable def uw4_143 : Cond := Cond.selects "RoundReckoner" ({ cls := "RoundReckoner", name := "drop", desc := "(I)I" } : MethodName) ({ cls := "RoundReckoner", name := "drop", desc := "(I)I" } : MethodName)
set_option maxRecDepth 100000 in
theorem uw4_143m : uw4_143 ∈ tW0 := tInW 4 143 rfl rfl
noncomputable def uw4_158 : Cond := Cond.code ({ cls := "RoundReckoner", name := "run", desc := "()I" } : MethodName) prog_1_method_8_code (3 : Nat) (Option.some FieldType.int)
set_option maxRecDepth 100000 in
theorem uw4_158m : uw4_158 ∈ tW0 := tInW 4 158 rfl rfl
noncomputable def uw4_155 : Cond := Cond.methodLink "RoundReckonerLaw" (24 : Nat) ({ cls := "RoundReckoner", name := "run", desc := "()I" } : MethodName)
set_option maxRecDepth 100000 in
theorem uw4_155m : uw4_155 ∈ tW0 := tInW 4 155 rfl rfl
noncomputable def uw4_156 : Cond := Cond.instanceMethod ({ cls := "RoundReckoner", name := "run", desc := "()I" } : MethodName)
set_option maxRecDepth 100000 in
theorem uw4_156m : uw4_156 ∈ tW0 := tInW 4 156 rfl rfl
noncomputable def uw4_157 : Cond := Cond.selects "RoundReckoner" ({ cls := "RoundReckoner", name := "run", desc := "()I" } : MethodName) ({ cls := "RoundReckoner", name := "run", desc := "()I" } : MethodName)
set_option maxRecDepth 100000 in
theorem uw4_157m : uw4_157 ∈ tW0 := tInW 4 157 rfl rfl
noncomputable def uw4_153 : Cond := Cond.classLink "RoundReckonerLaw" (28 : Nat) "java/lang/UnsupportedOperationException"
set_option maxRecDepth 100000 in
theorem uw4_153m : uw4_153 ∈ tW0 := tInW 4 153 rfl rfl
noncomputable def uw4_154 : Cond := Cond.classLink "RoundReckonerLaw" (30 : Nat) "java/lang/ArithmeticException"
set_option maxRecDepth 100000 in
theorem uw4_154m : uw4_154 ∈ tW0 := tInW 4 154 rfl rfl
noncomputable def uw5_161 : Cond := Cond.code ({ cls := "RoundReckoner", name := "tuple", desc := "(II)I" } : MethodName) prog_1_method_9_code (4 : Nat) (Option.some FieldType.int)
set_option maxRecDepth 100000 in
theorem uw5_161m : uw5_161 ∈ tW0 := tInW 5 161 rfl rfl
noncomputable def uw5_158 : Cond := Cond.methodLink "RoundReckonerLaw" (32 : Nat) ({ cls := "RoundReckoner", name := "tuple", desc := "(II)I" } : MethodName)
set_option maxRecDepth 100000 in
theorem uw5_158m : uw5_158 ∈ tW0 := tInW 5 158 rfl rfl
noncomputable def uw5_159 : Cond := Cond.instanceMethod ({ cls := "RoundReckoner", name := "tuple", desc := "(II)I" } : MethodName)
set_option maxRecDepth 100000 in
theorem uw5_159m : uw5_159 ∈ tW0 := tInW 5 159 rfl rfl
noncomputable def uw5_160 : Cond := Cond.selects "RoundReckoner" ({ cls := "RoundReckoner", name := "tuple", desc := "(II)I" } : MethodName) ({ cls := "RoundReckoner", name := "tuple", desc := "(II)I" } : MethodName)
set_option maxRecDepth 100000 in
theorem uw5_160m : uw5_160 ∈ tW0 := tInW 5 160 rfl rfl
noncomputable def uw5_157 : Cond := Cond.classLink "RoundReckonerLaw" (36 : Nat) "java/lang/IllegalStateException"
set_option maxRecDepth 100000 in
theorem uw5_157m : uw5_157 ∈ tW0 := tInW 5 157 rfl rfl
noncomputable def uw5_197 : Cond := Cond.code ({ cls := "RoundReckoner", name := "why", desc := "(II)I" } : MethodName) prog_1_method_14_code (3 : Nat) (Option.some FieldType.int)
set_option maxRecDepth 100000 in
theorem uw5_197m : uw5_197 ∈ tW0 := tInW 5 197 rfl rfl
noncomputable def uw5_194 : Cond := Cond.methodLink "RoundReckonerLaw" (38 : Nat) ({ cls := "RoundReckoner", name := "why", desc := "(II)I" } : MethodName)
set_option maxRecDepth 100000 in
theorem uw5_194m : uw5_194 ∈ tW0 := tInW 5 194 rfl rfl
noncomputable def uw5_195 : Cond := Cond.instanceMethod ({ cls := "RoundReckoner", name := "why", desc := "(II)I" } : MethodName)
set_option maxRecDepth 100000 in
theorem uw5_195m : uw5_195 ∈ tW0 := tInW 5 195 rfl rfl
noncomputable def uw5_196 : Cond := Cond.selects "RoundReckoner" ({ cls := "RoundReckoner", name := "why", desc := "(II)I" } : MethodName) ({ cls := "RoundReckoner", name := "why", desc := "(II)I" } : MethodName)
set_option maxRecDepth 100000 in
theorem uw5_196m : uw5_196 ∈ tW0 := tInW 5 196 rfl rfl
noncomputable def uw5_204 : Cond := Cond.code ({ cls := "RoundReckoner", name := "show", desc := "(I)I" } : MethodName) prog_1_method_15_code (6 : Nat) (Option.some FieldType.int)
set_option maxRecDepth 100000 in
theorem uw5_204m : uw5_204 ∈ tW0 := tInW 5 204 rfl rfl
noncomputable def uw5_201 : Cond := Cond.methodLink "RoundReckonerLaw" (41 : Nat) ({ cls := "RoundReckoner", name := "show", desc := "(I)I" } : MethodName)
set_option maxRecDepth 100000 in
theorem uw5_201m : uw5_201 ∈ tW0 := tInW 5 201 rfl rfl
noncomputable def uw5_202 : Cond := Cond.instanceMethod ({ cls := "RoundReckoner", name := "show", desc := "(I)I" } : MethodName)
set_option maxRecDepth 100000 in
theorem uw5_202m : uw5_202 ∈ tW0 := tInW 5 202 rfl rfl
noncomputable def uw5_203 : Cond := Cond.selects "RoundReckoner" ({ cls := "RoundReckoner", name := "show", desc := "(I)I" } : MethodName) ({ cls := "RoundReckoner", name := "show", desc := "(I)I" } : MethodName)
set_option maxRecDepth 100000 in
theorem uw5_203m : uw5_203 ∈ tW0 := tInW 5 203 rfl rfl
noncomputable def uw5_237 : Cond := Cond.code ({ cls := "RoundReckoner", name := "find", desc := "()I" } : MethodName) prog_1_method_16_code (4 : Nat) (Option.some FieldType.int)
set_option maxRecDepth 100000 in
theorem uw5_237m : uw5_237 ∈ tW0 := tInW 5 237 rfl rfl
noncomputable def uw5_234 : Cond := Cond.methodLink "RoundReckonerLaw" (44 : Nat) ({ cls := "RoundReckoner", name := "find", desc := "()I" } : MethodName)
set_option maxRecDepth 100000 in
theorem uw5_234m : uw5_234 ∈ tW0 := tInW 5 234 rfl rfl
noncomputable def uw5_235 : Cond := Cond.instanceMethod ({ cls := "RoundReckoner", name := "find", desc := "()I" } : MethodName)
set_option maxRecDepth 100000 in
theorem uw5_235m : uw5_235 ∈ tW0 := tInW 5 235 rfl rfl
noncomputable def uw5_236 : Cond := Cond.selects "RoundReckoner" ({ cls := "RoundReckoner", name := "find", desc := "()I" } : MethodName) ({ cls := "RoundReckoner", name := "find", desc := "()I" } : MethodName)
set_option maxRecDepth 100000 in
theorem uw5_236m : uw5_236 ∈ tW0 := tInW 5 236 rfl rfl
noncomputable def uw6_6 : Cond := Cond.code ({ cls := "RoundReckoner", name := "ask", desc := "()I" } : MethodName) prog_1_method_17_code (4 : Nat) (Option.some FieldType.int)
set_option maxRecDepth 100000 in
theorem uw6_6m : uw6_6 ∈ tW0 := tInW 6 6 rfl rfl
noncomputable def uw6_3 : Cond := Cond.methodLink "RoundReckonerLaw" (47 : Nat) ({ cls := "RoundReckoner", name := "ask", desc := "()I" } : MethodName)
set_option maxRecDepth 100000 in
theorem uw6_3m : uw6_3 ∈ tW0 := tInW 6 3 rfl rfl
noncomputable def uw6_4 : Cond := Cond.instanceMethod ({ cls := "RoundReckoner", name := "ask", desc := "()I" } : MethodName)
set_option maxRecDepth 100000 in
theorem uw6_4m : uw6_4 ∈ tW0 := tInW 6 4 rfl rfl
noncomputable def uw6_5 : Cond := Cond.selects "RoundReckoner" ({ cls := "RoundReckoner", name := "ask", desc := "()I" } : MethodName) ({ cls := "RoundReckoner", name := "ask", desc := "()I" } : MethodName)
set_option maxRecDepth 100000 in
theorem uw6_5m : uw6_5 ∈ tW0 := tInW 6 5 rfl rfl
noncomputable def uw6_17 : Cond := Cond.code ({ cls := "RoundReckoner", name := "answer", desc := "(II)I" } : MethodName) prog_1_method_18_code (3 : Nat) (Option.some FieldType.int)
set_option maxRecDepth 100000 in
theorem uw6_17m : uw6_17 ∈ tW0 := tInW 6 17 rfl rfl
noncomputable def uw6_14 : Cond := Cond.methodLink "RoundReckonerLaw" (50 : Nat) ({ cls := "RoundReckoner", name := "answer", desc := "(II)I" } : MethodName)
set_option maxRecDepth 100000 in
theorem uw6_14m : uw6_14 ∈ tW0 := tInW 6 14 rfl rfl
noncomputable def uw6_15 : Cond := Cond.instanceMethod ({ cls := "RoundReckoner", name := "answer", desc := "(II)I" } : MethodName)
set_option maxRecDepth 100000 in
theorem uw6_15m : uw6_15 ∈ tW0 := tInW 6 15 rfl rfl
noncomputable def uw6_16 : Cond := Cond.selects "RoundReckoner" ({ cls := "RoundReckoner", name := "answer", desc := "(II)I" } : MethodName) ({ cls := "RoundReckoner", name := "answer", desc := "(II)I" } : MethodName)
set_option maxRecDepth 100000 in
theorem uw6_16m : uw6_16 ∈ tW0 := tInW 6 16 rfl rfl
noncomputable def uw6_25 : Cond := Cond.code ({ cls := "RoundReckoner", name := "layer", desc := "(I)I" } : MethodName) prog_1_method_19_code (2 : Nat) (Option.some FieldType.int)
set_option maxRecDepth 100000 in
theorem uw6_25m : uw6_25 ∈ tW0 := tInW 6 25 rfl rfl
noncomputable def uw6_22 : Cond := Cond.methodLink "RoundReckonerLaw" (53 : Nat) ({ cls := "RoundReckoner", name := "layer", desc := "(I)I" } : MethodName)
set_option maxRecDepth 100000 in
theorem uw6_22m : uw6_22 ∈ tW0 := tInW 6 22 rfl rfl
noncomputable def uw6_23 : Cond := Cond.instanceMethod ({ cls := "RoundReckoner", name := "layer", desc := "(I)I" } : MethodName)
set_option maxRecDepth 100000 in
theorem uw6_23m : uw6_23 ∈ tW0 := tInW 6 23 rfl rfl
noncomputable def uw6_24 : Cond := Cond.selects "RoundReckoner" ({ cls := "RoundReckoner", name := "layer", desc := "(I)I" } : MethodName) ({ cls := "RoundReckoner", name := "layer", desc := "(I)I" } : MethodName)
set_option maxRecDepth 100000 in
theorem uw6_24m : uw6_24 ∈ tW0 := tInW 6 24 rfl rfl
noncomputable def uw6_32 : Cond := Cond.code ({ cls := "RoundReckoner", name := "word", desc := "(I)J" } : MethodName) prog_1_method_20_code (5 : Nat) (Option.some FieldType.long)
set_option maxRecDepth 100000 in
theorem uw6_32m : uw6_32 ∈ tW0 := tInW 6 32 rfl rfl
noncomputable def uw6_29 : Cond := Cond.methodLink "RoundReckonerLaw" (56 : Nat) ({ cls := "RoundReckoner", name := "word", desc := "(I)J" } : MethodName)
set_option maxRecDepth 100000 in
theorem uw6_29m : uw6_29 ∈ tW0 := tInW 6 29 rfl rfl
noncomputable def uw6_30 : Cond := Cond.instanceMethod ({ cls := "RoundReckoner", name := "word", desc := "(I)J" } : MethodName)
set_option maxRecDepth 100000 in
theorem uw6_30m : uw6_30 ∈ tW0 := tInW 6 30 rfl rfl
noncomputable def uw6_31 : Cond := Cond.selects "RoundReckoner" ({ cls := "RoundReckoner", name := "word", desc := "(I)J" } : MethodName) ({ cls := "RoundReckoner", name := "word", desc := "(I)J" } : MethodName)
set_option maxRecDepth 100000 in
theorem uw6_31m : uw6_31 ∈ tW0 := tInW 6 31 rfl rfl
noncomputable def uw6_39 : Cond := Cond.code ({ cls := "RoundReckoner", name := "count", desc := "(I)I" } : MethodName) prog_1_method_21_code (2 : Nat) (Option.some FieldType.int)
set_option maxRecDepth 100000 in
theorem uw6_39m : uw6_39 ∈ tW0 := tInW 6 39 rfl rfl
noncomputable def uw6_36 : Cond := Cond.methodLink "RoundReckonerLaw" (60 : Nat) ({ cls := "RoundReckoner", name := "count", desc := "(I)I" } : MethodName)
set_option maxRecDepth 100000 in
theorem uw6_36m : uw6_36 ∈ tW0 := tInW 6 36 rfl rfl
noncomputable def uw6_37 : Cond := Cond.instanceMethod ({ cls := "RoundReckoner", name := "count", desc := "(I)I" } : MethodName)
set_option maxRecDepth 100000 in
theorem uw6_37m : uw6_37 ∈ tW0 := tInW 6 37 rfl rfl
noncomputable def uw6_38 : Cond := Cond.selects "RoundReckoner" ({ cls := "RoundReckoner", name := "count", desc := "(I)I" } : MethodName) ({ cls := "RoundReckoner", name := "count", desc := "(I)I" } : MethodName)
set_option maxRecDepth 100000 in
theorem uw6_38m : uw6_38 ∈ tW0 := tInW 6 38 rfl rfl
noncomputable def uw3_7 : Cond := Cond.fieldLink "RoundReckoner" (37 : Nat) "RoundReckoner" "engine" "LRoundReckoner$Engine;"
set_option maxRecDepth 100000 in
theorem uw3_7m : uw3_7 ∈ tW0 := tInW 3 7 rfl rfl
noncomputable def uw3_10 : Cond := Cond.fieldLink "RoundReckoner" (55 : Nat) "RoundReckoner" "nextAnswers" "LRoundReckoner$Answers;"
set_option maxRecDepth 100000 in
theorem uw3_10m : uw3_10 ∈ tW0 := tInW 3 10 rfl rfl
noncomputable def uw1_33 : Cond := Cond.classLink "RoundReckoner" (7 : Nat) "RoundReckoner$Clauses"
set_option maxRecDepth 100000 in
theorem uw1_33m : uw1_33 ∈ tW0 := tInW 1 33 rfl rfl
noncomputable def uw1_34 : Cond := Cond.instantiable "RoundReckoner$Clauses" (14 : Nat)
set_option maxRecDepth 100000 in
theorem uw1_34m : uw1_34 ∈ tW0 := tInW 1 34 rfl rfl
noncomputable def uw1_208 : Cond := Cond.classLink "RoundReckoner" (16 : Nat) "RoundReckoner$Reader"
set_option maxRecDepth 100000 in
theorem uw1_208m : uw1_208 ∈ tW0 := tInW 1 208 rfl rfl
noncomputable def uw1_209 : Cond := Cond.instantiable "RoundReckoner$Reader" (17 : Nat)
set_option maxRecDepth 100000 in
theorem uw1_209m : uw1_209 ∈ tW0 := tInW 1 209 rfl rfl
noncomputable def uw2_45 : Cond := Cond.classLink "RoundReckoner" (25 : Nat) "RoundReckoner$Tuples"
set_option maxRecDepth 100000 in
theorem uw2_45m : uw2_45 ∈ tW0 := tInW 2 45 rfl rfl
noncomputable def uw2_46 : Cond := Cond.instantiable "RoundReckoner$Tuples" (11 : Nat)
set_option maxRecDepth 100000 in
theorem uw2_46m : uw2_46 ∈ tW0 := tInW 2 46 rfl rfl
noncomputable def uw2_127 : Cond := Cond.classLink "RoundReckoner" (32 : Nat) "RoundReckoner$Engine"
set_option maxRecDepth 100000 in
theorem uw2_127m : uw2_127 ∈ tW0 := tInW 2 127 rfl rfl
noncomputable def uw2_128 : Cond := Cond.instantiable "RoundReckoner$Engine" (14 : Nat)
set_option maxRecDepth 100000 in
theorem uw2_128m : uw2_128 ∈ tW0 := tInW 2 128 rfl rfl
noncomputable def uw2_227 : Cond := Cond.classLink "RoundReckoner" (41 : Nat) "RoundReckoner$Out"
set_option maxRecDepth 100000 in
theorem uw2_227m : uw2_227 ∈ tW0 := tInW 2 227 rfl rfl
noncomputable def uw2_228 : Cond := Cond.instantiable "RoundReckoner$Out" (2 : Nat)
set_option maxRecDepth 100000 in
theorem uw2_228m : uw2_228 ∈ tW0 := tInW 2 228 rfl rfl
noncomputable def uw3_2 : Cond := Cond.classLink "RoundReckoner" (48 : Nat) "RoundReckoner$Answers"
set_option maxRecDepth 100000 in
theorem uw3_2m : uw3_2 ∈ tW0 := tInW 3 2 rfl rfl
noncomputable def uw2_163 : Cond := Cond.instantiable "RoundReckoner$Answers" (3 : Nat)
set_option maxRecDepth 100000 in
theorem uw2_163m : uw2_163 ∈ tW0 := tInW 2 163 rfl rfl
noncomputable def uw1_30 : Cond := Cond.methodLink "RoundReckoner" (1 : Nat) ({ cls := "java/lang/Object", name := "<init>", desc := "()V" } : MethodName)
set_option maxRecDepth 100000 in
theorem uw1_30m : uw1_30 ∈ tW0 := tInW 1 30 rfl rfl
noncomputable def uw1_31 : Cond := Cond.instanceMethod ({ cls := "java/lang/Object", name := "<init>", desc := "()V" } : MethodName)
set_option maxRecDepth 100000 in
theorem uw1_31m : uw1_31 ∈ tW0 := tInW 1 31 rfl rfl
noncomputable def uw1_32 : Cond := Cond.code ({ cls := "java/lang/Object", name := "<init>", desc := "()V" } : MethodName) object_method_1_code (1 : Nat) (Option.none : Option FieldType)
set_option maxRecDepth 100000 in
theorem uw1_32m : uw1_32 ∈ tW0 := tInW 1 32 rfl rfl
noncomputable def uw1_37 : Cond := Cond.code ({ cls := "RoundReckoner$Clauses", name := "<init>", desc := "()V" } : MethodName) prog_4_method_1_code (2 : Nat) (Option.none : Option FieldType)
set_option maxRecDepth 100000 in
theorem uw1_37m : uw1_37 ∈ tW0 := tInW 1 37 rfl rfl
noncomputable def uw1_35 : Cond := Cond.methodLink "RoundReckoner" (9 : Nat) ({ cls := "RoundReckoner$Clauses", name := "<init>", desc := "()V" } : MethodName)
set_option maxRecDepth 100000 in
theorem uw1_35m : uw1_35 ∈ tW0 := tInW 1 35 rfl rfl
noncomputable def uw1_36 : Cond := Cond.instanceMethod ({ cls := "RoundReckoner$Clauses", name := "<init>", desc := "()V" } : MethodName)
set_option maxRecDepth 100000 in
theorem uw1_36m : uw1_36 ∈ tW0 := tInW 1 36 rfl rfl
noncomputable def uw1_212 : Cond := Cond.code ({ cls := "RoundReckoner$Reader", name := "<init>", desc := "(LRoundReckoner$Clauses;)V" } : MethodName) prog_9_method_1_code (2 : Nat) (Option.none : Option FieldType)
set_option maxRecDepth 100000 in
theorem uw1_212m : uw1_212 ∈ tW0 := tInW 1 212 rfl rfl
noncomputable def uw1_210 : Cond := Cond.methodLink "RoundReckoner" (18 : Nat) ({ cls := "RoundReckoner$Reader", name := "<init>", desc := "(LRoundReckoner$Clauses;)V" } : MethodName)
set_option maxRecDepth 100000 in
theorem uw1_210m : uw1_210 ∈ tW0 := tInW 1 210 rfl rfl
noncomputable def uw1_211 : Cond := Cond.instanceMethod ({ cls := "RoundReckoner$Reader", name := "<init>", desc := "(LRoundReckoner$Clauses;)V" } : MethodName)
set_option maxRecDepth 100000 in
theorem uw1_211m : uw1_211 ∈ tW0 := tInW 1 211 rfl rfl
noncomputable def uw2_49 : Cond := Cond.code ({ cls := "RoundReckoner$Tuples", name := "<init>", desc := "()V" } : MethodName) prog_12_method_1_code (1 : Nat) (Option.none : Option FieldType)
set_option maxRecDepth 100000 in
theorem uw2_49m : uw2_49 ∈ tW0 := tInW 2 49 rfl rfl
noncomputable def uw2_48 : Cond := Cond.instanceMethod ({ cls := "RoundReckoner$Tuples", name := "<init>", desc := "()V" } : MethodName)
set_option maxRecDepth 100000 in
theorem uw2_48m : uw2_48 ∈ tW0 := tInW 2 48 rfl rfl
noncomputable def uw2_131 : Cond := Cond.code ({ cls := "RoundReckoner$Engine", name := "<init>", desc := "(LRoundReckoner$Clauses;LRoundReckoner$Tuples;)V" } : MethodName) prog_5_method_1_code (3 : Nat) (Option.none : Option FieldType)
set_option maxRecDepth 100000 in
theorem uw2_131m : uw2_131 ∈ tW0 := tInW 2 131 rfl rfl
noncomputable def uw2_129 : Cond := Cond.methodLink "RoundReckoner" (34 : Nat) ({ cls := "RoundReckoner$Engine", name := "<init>", desc := "(LRoundReckoner$Clauses;LRoundReckoner$Tuples;)V" } : MethodName)
set_option maxRecDepth 100000 in
theorem uw2_129m : uw2_129 ∈ tW0 := tInW 2 129 rfl rfl
noncomputable def uw2_130 : Cond := Cond.instanceMethod ({ cls := "RoundReckoner$Engine", name := "<init>", desc := "(LRoundReckoner$Clauses;LRoundReckoner$Tuples;)V" } : MethodName)
set_option maxRecDepth 100000 in
theorem uw2_130m : uw2_130 ∈ tW0 := tInW 2 130 rfl rfl
noncomputable def uw2_231 : Cond := Cond.code ({ cls := "RoundReckoner$Out", name := "<init>", desc := "()V" } : MethodName) prog_8_method_1_code (1 : Nat) (Option.none : Option FieldType)
set_option maxRecDepth 100000 in
theorem uw2_231m : uw2_231 ∈ tW0 := tInW 2 231 rfl rfl
noncomputable def uw2_230 : Cond := Cond.instanceMethod ({ cls := "RoundReckoner$Out", name := "<init>", desc := "()V" } : MethodName)
set_option maxRecDepth 100000 in
theorem uw2_230m : uw2_230 ∈ tW0 := tInW 2 230 rfl rfl
noncomputable def uw2_166 : Cond := Cond.code ({ cls := "RoundReckoner$Answers", name := "<init>", desc := "()V" } : MethodName) prog_2_method_1_code (1 : Nat) (Option.none : Option FieldType)
set_option maxRecDepth 100000 in
theorem uw2_166m : uw2_166 ∈ tW0 := tInW 2 166 rfl rfl
noncomputable def uw2_165 : Cond := Cond.instanceMethod ({ cls := "RoundReckoner$Answers", name := "<init>", desc := "()V" } : MethodName)
set_option maxRecDepth 100000 in
theorem uw2_165m : uw2_165 ∈ tW0 := tInW 2 165 rfl rfl
noncomputable def uw1_39 : Cond := Cond.classLink "RoundReckoner$Clauses" (28 : Nat) "RoundReckoner$Rule"
set_option maxRecDepth 100000 in
theorem uw1_39m : uw1_39 ∈ tW0 := tInW 1 39 rfl rfl
noncomputable def uw1_41 : Cond := Cond.instantiable "RoundReckoner$Rule" (4 : Nat)
set_option maxRecDepth 100000 in
theorem uw1_41m : uw1_41 ∈ tW0 := tInW 1 41 rfl rfl
noncomputable def uw1_38 : Cond := Cond.methodLink "RoundReckoner$Clauses" (3 : Nat) ({ cls := "java/lang/Object", name := "<init>", desc := "()V" } : MethodName)
set_option maxRecDepth 100000 in
theorem uw1_38m : uw1_38 ∈ tW0 := tInW 1 38 rfl rfl
noncomputable def uw1_44 : Cond := Cond.code ({ cls := "RoundReckoner$Rule", name := "<init>", desc := "()V" } : MethodName) prog_11_method_1_code (2 : Nat) (Option.none : Option FieldType)
set_option maxRecDepth 100000 in
theorem uw1_44m : uw1_44 ∈ tW0 := tInW 1 44 rfl rfl
noncomputable def uw1_42 : Cond := Cond.methodLink "RoundReckoner$Clauses" (34 : Nat) ({ cls := "RoundReckoner$Rule", name := "<init>", desc := "()V" } : MethodName)
set_option maxRecDepth 100000 in
theorem uw1_42m : uw1_42 ∈ tW0 := tInW 1 42 rfl rfl
noncomputable def uw1_43 : Cond := Cond.instanceMethod ({ cls := "RoundReckoner$Rule", name := "<init>", desc := "()V" } : MethodName)
set_option maxRecDepth 100000 in
theorem uw1_43m : uw1_43 ∈ tW0 := tInW 1 43 rfl rfl
noncomputable def uw1_46 : Cond := Cond.classLink "RoundReckoner$Rule" (9 : Nat) "RoundReckoner$Goal"
set_option maxRecDepth 100000 in
theorem uw1_46m : uw1_46 ∈ tW0 := tInW 1 46 rfl rfl
noncomputable def uw1_47 : Cond := Cond.instantiable "RoundReckoner$Goal" (16 : Nat)
set_option maxRecDepth 100000 in
theorem uw1_47m : uw1_47 ∈ tW0 := tInW 1 47 rfl rfl
noncomputable def uw1_45 : Cond := Cond.methodLink "RoundReckoner$Rule" (3 : Nat) ({ cls := "java/lang/Object", name := "<init>", desc := "()V" } : MethodName)
set_option maxRecDepth 100000 in
theorem uw1_45m : uw1_45 ∈ tW0 := tInW 1 45 rfl rfl
noncomputable def uw1_50 : Cond := Cond.code ({ cls := "RoundReckoner$Goal", name := "<init>", desc := "()V" } : MethodName) prog_6_method_1_code (1 : Nat) (Option.none : Option FieldType)
set_option maxRecDepth 100000 in
theorem uw1_50m : uw1_50 ∈ tW0 := tInW 1 50 rfl rfl
noncomputable def uw1_49 : Cond := Cond.instanceMethod ({ cls := "RoundReckoner$Goal", name := "<init>", desc := "()V" } : MethodName)
set_option maxRecDepth 100000 in
theorem uw1_49m : uw1_49 ∈ tW0 := tInW 1 49 rfl rfl
noncomputable def uw1_51 : Cond := Cond.methodLink "RoundReckoner$Goal" (3 : Nat) ({ cls := "java/lang/Object", name := "<init>", desc := "()V" } : MethodName)
set_option maxRecDepth 100000 in
theorem uw1_51m : uw1_51 ∈ tW0 := tInW 1 51 rfl rfl
noncomputable def uw1_214 : Cond := Cond.classLink "RoundReckoner$Reader" (9 : Nat) "RoundReckoner$Names"
set_option maxRecDepth 100000 in
theorem uw1_214m : uw1_214 ∈ tW0 := tInW 1 214 rfl rfl
noncomputable def uw1_215 : Cond := Cond.instantiable "RoundReckoner$Names" (2 : Nat)
set_option maxRecDepth 100000 in
theorem uw1_215m : uw1_215 ∈ tW0 := tInW 1 215 rfl rfl
noncomputable def uw1_213 : Cond := Cond.methodLink "RoundReckoner$Reader" (3 : Nat) ({ cls := "java/lang/Object", name := "<init>", desc := "()V" } : MethodName)
set_option maxRecDepth 100000 in
theorem uw1_213m : uw1_213 ∈ tW0 := tInW 1 213 rfl rfl
noncomputable def uw1_218 : Cond := Cond.code ({ cls := "RoundReckoner$Names", name := "<init>", desc := "()V" } : MethodName) prog_7_method_1_code (1 : Nat) (Option.none : Option FieldType)
set_option maxRecDepth 100000 in
theorem uw1_218m : uw1_218 ∈ tW0 := tInW 1 218 rfl rfl
noncomputable def uw1_217 : Cond := Cond.instanceMethod ({ cls := "RoundReckoner$Names", name := "<init>", desc := "()V" } : MethodName)
set_option maxRecDepth 100000 in
theorem uw1_217m : uw1_217 ∈ tW0 := tInW 1 217 rfl rfl
noncomputable def uw1_219 : Cond := Cond.methodLink "RoundReckoner$Names" (3 : Nat) ({ cls := "java/lang/Object", name := "<init>", desc := "()V" } : MethodName)
set_option maxRecDepth 100000 in
theorem uw1_219m : uw1_219 ∈ tW0 := tInW 1 219 rfl rfl
noncomputable def uw2_89 : Cond := Cond.fieldLink "RoundReckoner$Tuples" (25 : Nat) "RoundReckoner$Tuples" "took" "[I"
set_option maxRecDepth 100000 in
theorem uw2_89m : uw2_89 ∈ tW0 := tInW 2 89 rfl rfl
noncomputable def uw2_51 : Cond := Cond.classLink "RoundReckoner$Tuples" (34 : Nat) "RoundReckoner$Chains"
set_option maxRecDepth 100000 in
theorem uw2_51m : uw2_51 ∈ tW0 := tInW 2 51 rfl rfl
noncomputable def uw2_52 : Cond := Cond.instantiable "RoundReckoner$Chains" (4 : Nat)
set_option maxRecDepth 100000 in
theorem uw2_52m : uw2_52 ∈ tW0 := tInW 2 52 rfl rfl
noncomputable def uw2_50 : Cond := Cond.methodLink "RoundReckoner$Tuples" (3 : Nat) ({ cls := "java/lang/Object", name := "<init>", desc := "()V" } : MethodName)
set_option maxRecDepth 100000 in
theorem uw2_50m : uw2_50 ∈ tW0 := tInW 2 50 rfl rfl
noncomputable def uw2_55 : Cond := Cond.code ({ cls := "RoundReckoner$Chains", name := "<init>", desc := "(II)V" } : MethodName) prog_3_method_1_code (4 : Nat) (Option.none : Option FieldType)
set_option maxRecDepth 100000 in
theorem uw2_55m : uw2_55 ∈ tW0 := tInW 2 55 rfl rfl
noncomputable def uw2_53 : Cond := Cond.methodLink "RoundReckoner$Tuples" (36 : Nat) ({ cls := "RoundReckoner$Chains", name := "<init>", desc := "(II)V" } : MethodName)
set_option maxRecDepth 100000 in
theorem uw2_53m : uw2_53 ∈ tW0 := tInW 2 53 rfl rfl
noncomputable def uw2_54 : Cond := Cond.instanceMethod ({ cls := "RoundReckoner$Chains", name := "<init>", desc := "(II)V" } : MethodName)
set_option maxRecDepth 100000 in
theorem uw2_54m : uw2_54 ∈ tW0 := tInW 2 54 rfl rfl
noncomputable def uw2_56 : Cond := Cond.methodLink "RoundReckoner$Chains" (1 : Nat) ({ cls := "java/lang/Object", name := "<init>", desc := "()V" } : MethodName)
set_option maxRecDepth 100000 in
theorem uw2_56m : uw2_56 ∈ tW0 := tInW 2 56 rfl rfl
noncomputable def uw2_57 : Cond := Cond.methodLink "RoundReckoner$Chains" (7 : Nat) ({ cls := "java/lang/Math", name := "min", desc := "(II)I" } : MethodName)
set_option maxRecDepth 100000 in
theorem uw2_57m : uw2_57 ∈ tW0 := tInW 2 57 rfl rfl
noncomputable def uw2_60 : Cond := Cond.methodLink "RoundReckoner$Chains" (13 : Nat) ({ cls := "java/lang/Math", name := "max", desc := "(II)I" } : MethodName)
set_option maxRecDepth 100000 in
theorem uw2_60m : uw2_60 ∈ tW0 := tInW 2 60 rfl rfl
noncomputable def uw2_133 : Cond := Cond.classLink "RoundReckoner$Engine" (9 : Nat) "RoundReckoner$Rows"
set_option maxRecDepth 100000 in
theorem uw2_133m : uw2_133 ∈ tW0 := tInW 2 133 rfl rfl
noncomputable def uw2_134 : Cond := Cond.instantiable "RoundReckoner$Rows" (5 : Nat)
set_option maxRecDepth 100000 in
theorem uw2_134m : uw2_134 ∈ tW0 := tInW 2 134 rfl rfl
noncomputable def uw2_162 : Cond := Cond.classLink "RoundReckoner$Engine" (26 : Nat) "RoundReckoner$Answers"
set_option maxRecDepth 100000 in
theorem uw2_162m : uw2_162 ∈ tW0 := tInW 2 162 rfl rfl
noncomputable def uw2_181 : Cond := Cond.classLink "RoundReckoner$Engine" (33 : Nat) "RoundReckoner$Rule"
set_option maxRecDepth 100000 in
theorem uw2_181m : uw2_181 ∈ tW0 := tInW 2 181 rfl rfl
noncomputable def uw2_132 : Cond := Cond.methodLink "RoundReckoner$Engine" (3 : Nat) ({ cls := "java/lang/Object", name := "<init>", desc := "()V" } : MethodName)
set_option maxRecDepth 100000 in
theorem uw2_132m : uw2_132 ∈ tW0 := tInW 2 132 rfl rfl
noncomputable def uw2_137 : Cond := Cond.code ({ cls := "RoundReckoner$Rows", name := "<init>", desc := "()V" } : MethodName) prog_10_method_1_code (1 : Nat) (Option.none : Option FieldType)
set_option maxRecDepth 100000 in
theorem uw2_137m : uw2_137 ∈ tW0 := tInW 2 137 rfl rfl
noncomputable def uw2_136 : Cond := Cond.instanceMethod ({ cls := "RoundReckoner$Rows", name := "<init>", desc := "()V" } : MethodName)
set_option maxRecDepth 100000 in
theorem uw2_136m : uw2_136 ∈ tW0 := tInW 2 136 rfl rfl
noncomputable def uw2_182 : Cond := Cond.methodLink "RoundReckoner$Engine" (35 : Nat) ({ cls := "RoundReckoner$Rule", name := "<init>", desc := "()V" } : MethodName)
set_option maxRecDepth 100000 in
theorem uw2_182m : uw2_182 ∈ tW0 := tInW 2 182 rfl rfl
noncomputable def uw2_139 : Cond := Cond.classLink "RoundReckoner$Rows" (23 : Nat) "RoundReckoner$Chains"
set_option maxRecDepth 100000 in
theorem uw2_139m : uw2_139 ∈ tW0 := tInW 2 139 rfl rfl
noncomputable def uw2_138 : Cond := Cond.methodLink "RoundReckoner$Rows" (3 : Nat) ({ cls := "java/lang/Object", name := "<init>", desc := "()V" } : MethodName)
set_option maxRecDepth 100000 in
theorem uw2_138m : uw2_138 ∈ tW0 := tInW 2 138 rfl rfl
noncomputable def uw2_140 : Cond := Cond.methodLink "RoundReckoner$Rows" (25 : Nat) ({ cls := "RoundReckoner$Chains", name := "<init>", desc := "(II)V" } : MethodName)
set_option maxRecDepth 100000 in
theorem uw2_140m : uw2_140 ∈ tW0 := tInW 2 140 rfl rfl
noncomputable def uw2_167 : Cond := Cond.methodLink "RoundReckoner$Answers" (3 : Nat) ({ cls := "java/lang/Object", name := "<init>", desc := "()V" } : MethodName)
set_option maxRecDepth 100000 in
theorem uw2_167m : uw2_167 ∈ tW0 := tInW 2 167 rfl rfl
noncomputable def uw2_232 : Cond := Cond.methodLink "RoundReckoner$Out" (3 : Nat) ({ cls := "java/lang/Object", name := "<init>", desc := "()V" } : MethodName)
set_option maxRecDepth 100000 in
theorem uw2_232m : uw2_232 ∈ tW0 := tInW 2 232 rfl rfl
noncomputable def uw6_50 : Cond := Cond.constant "RoundReckonerModel" 20 (Int32.ofInt 131072)
set_option maxRecDepth 100000 in
theorem uw6_50m : uw6_50 ∈ tW0 := inAt_ok (ws := [uw6_50]) (is := [(6, 50)]) (by decide +kernel) _ (List.mem_cons_self ..)
noncomputable def uw6_51 : Cond := Cond.constant "RoundReckonerModel" 24 (Int32.ofInt 65536)
set_option maxRecDepth 100000 in
theorem uw6_51m : uw6_51 ∈ tW0 := inAt_ok (ws := [uw6_51]) (is := [(6, 51)]) (by decide +kernel) _ (List.mem_cons_self ..)
noncomputable def uw6_49 : Cond := Cond.methodLink "RoundReckonerModel" (7 : Nat) ({ cls := "java/lang/Object", name := "<init>", desc := "()V" } : MethodName)
set_option maxRecDepth 100000 in
theorem uw6_49m : uw6_49 ∈ tW0 := tInW 6 49 rfl rfl
set_option maxRecDepth 100000 in
theorem x0_ : ∀ w ∈ rqM vwCl tMth tXn d0_.1.cls v0_, w ∈ tW0 := tEqW (K := [uw6_52]) rfl (tCoW uw6_52m (tNiW))
set_option maxRecDepth 100000 in
theorem x1_ : ∀ w ∈ rqM vwCl tMth tXn d1_.1.cls v1_, w ∈ tW0 := tEqW (K := [uw6_52]) rfl (tCoW uw6_52m (tNiW))
set_option maxRecDepth 100000 in
theorem x2_ : ∀ w ∈ rqM vwCl tMth tXn d2_.1.cls v2_, w ∈ tW0 := tEqW (K := [uw6_53, uw6_55]) rfl (tCoW uw6_53m (tCoW uw6_55m (tNiW)))
set_option maxRecDepth 100000 in
theorem x3_ : ∀ w ∈ rqM vwCl tMth tXn d3_.1.cls v3_, w ∈ tW0 := tEqW (K := [uw6_55, uw7_108, uw1_15, uw7_105, uw7_107, uw0_48, uw7_112, uw1_15, uw7_109, uw7_111, uw0_49]) rfl (tCoW uw6_55m (tCoW uw7_108m (tCoW uw1_15m (tCoW uw7_105m (tCoW uw7_107m (tCoW uw0_48m (tCoW uw7_112m (tCoW uw1_15m (tCoW uw7_109m (tCoW uw7_111m (tCoW uw0_49m (tNiW))))))))))))
set_option maxRecDepth 100000 in
theorem x4_ : ∀ w ∈ rqM vwCl tMth tXn d4_.1.cls v4_, w ∈ tW0 := tEqW (K := [uw6_55, uw7_108, uw1_15, uw7_105, uw7_107, uw0_48]) rfl (tCoW uw6_55m (tCoW uw7_108m (tCoW uw1_15m (tCoW uw7_105m (tCoW uw7_107m (tCoW uw0_48m (tNiW)))))))
set_option maxRecDepth 100000 in
theorem x5_ : ∀ w ∈ rqM vwCl tMth tXn d5_.1.cls v5_, w ∈ tW0 := tEqW (K := [uw6_55, uw6_86, uw6_87]) rfl (tCoW uw6_55m (tCoW uw6_86m (tCoW uw6_87m (tNiW))))
set_option maxRecDepth 100000 in
theorem x6_ : ∀ w ∈ rqM vwCl tMth tXn d6_.1.cls v6_, w ∈ tW0 := tEqW (K := [uw6_86, uw6_53]) rfl (tCoW uw6_86m (tCoW uw6_53m (tNiW)))
set_option maxRecDepth 100000 in
theorem x7_ : ∀ w ∈ rqM vwCl tMth tXn d7_.1.cls v7_, w ∈ tW0 := tEqW (K := [uw6_87, uw7_132, uw1_15, uw7_129, uw7_131, uw0_52]) rfl (tCoW uw6_87m (tCoW uw7_132m (tCoW uw1_15m (tCoW uw7_129m (tCoW uw7_131m (tCoW uw0_52m (tNiW)))))))
set_option maxRecDepth 100000 in
theorem x8_ : ∀ w ∈ rqM vwCl tMth tXn d8_.1.cls v8_, w ∈ tW0 := tEqW (K := [uw6_86, uw6_88]) rfl (tCoW uw6_86m (tCoW uw6_88m (tNiW)))
set_option maxRecDepth 100000 in
theorem x9_ : ∀ w ∈ rqM vwCl tMth tXn d9_.1.cls v9_, w ∈ tW0 := tEqW (K := []) rfl (tNiW)
set_option maxRecDepth 100000 in
theorem x10_ : ∀ w ∈ rqM vwCl tMth tXn d10_.1.cls v10_, w ∈ tW0 := tEqW (K := []) rfl (tNiW)
set_option maxRecDepth 100000 in
theorem x11_ : ∀ w ∈ rqM vwCl tMth tXn d11_.1.cls v11_, w ∈ tW0 := tEqW (K := []) rfl (tNiW)
set_option maxRecDepth 100000 in
theorem x12_ : ∀ w ∈ rqM vwCl tMth tXn d12_.1.cls v12_, w ∈ tW0 := tEqW (K := [uw6_87, uw6_89, uw6_90, uw7_132, uw1_15, uw7_129, uw7_131, uw0_52, uw7_152, uw1_15, uw7_149, uw7_151, uw0_57, uw7_160, uw1_15, uw7_157, uw7_159, uw0_59, uw7_164, uw1_15, uw7_161, uw7_163, uw0_60]) rfl (tCoW uw6_87m (tCoW uw6_89m (tCoW uw6_90m (tCoW uw7_132m (tCoW uw1_15m (tCoW uw7_129m (tCoW uw7_131m (tCoW uw0_52m (tCoW uw7_152m (tCoW uw1_15m (tCoW uw7_149m (tCoW uw7_151m (tCoW uw0_57m (tCoW uw7_160m (tCoW uw1_15m (tCoW uw7_157m (tCoW uw7_159m (tCoW uw0_59m (tCoW uw7_164m (tCoW uw1_15m (tCoW uw7_161m (tCoW uw7_163m (tCoW uw0_60m (tNiW))))))))))))))))))))))))
set_option maxRecDepth 100000 in
theorem x13_ : ∀ w ∈ rqM vwCl tMth tXn d13_.1.cls v13_, w ∈ tW0 := tEqW (K := [uw6_90, uw6_53, uw6_89]) rfl (tCoW uw6_90m (tCoW uw6_53m (tCoW uw6_89m (tNiW))))
set_option maxRecDepth 100000 in
theorem x14_ : ∀ w ∈ rqM vwCl tMth tXn d14_.1.cls v14_, w ∈ tW0 := tEqW (K := [uw6_87, uw6_91, uw6_92, uw7_206, uw7_207, uw7_132, uw1_15, uw7_129, uw7_131, uw0_52, uw7_160, uw1_15, uw7_157, uw7_159, uw0_59, uw7_164, uw1_15, uw7_161, uw7_163, uw0_60]) rfl (tCoW uw6_87m (tCoW uw6_91m (tCoW uw6_92m (tCoW uw7_206m (tCoW uw7_207m (tCoW uw7_132m (tCoW uw1_15m (tCoW uw7_129m (tCoW uw7_131m (tCoW uw0_52m (tCoW uw7_160m (tCoW uw1_15m (tCoW uw7_157m (tCoW uw7_159m (tCoW uw0_59m (tCoW uw7_164m (tCoW uw1_15m (tCoW uw7_161m (tCoW uw7_163m (tCoW uw0_60m (tNiW)))))))))))))))))))))
set_option maxRecDepth 100000 in
theorem x15_ : ∀ w ∈ rqM vwCl tMth tXn d15_.1.cls v15_, w ∈ tW0 := tEqW (K := [uw6_60, uw6_59, uw6_90, uw6_57, uw6_58, uw6_53, uw6_89, uw6_61, uw7_201]) rfl (tCoW uw6_60m (tCoW uw6_59m (tCoW uw6_90m (tCoW uw6_57m (tCoW uw6_58m (tCoW uw6_53m (tCoW uw6_89m (tCoW uw6_61m (tCoW uw7_201m (tNiW))))))))))
set_option maxRecDepth 100000 in
theorem x16_ : ∀ w ∈ rqM vwCl tMth tXn d16_.1.cls v16_, w ∈ tW0 := tEqW (K := [uw6_94, uw6_90, uw6_53, uw6_93, uw6_89]) rfl (tCoW uw6_94m (tCoW uw6_90m (tCoW uw6_53m (tCoW uw6_93m (tCoW uw6_89m (tNiW))))))
set_option maxRecDepth 100000 in
theorem x17_ : ∀ w ∈ rqM vwCl tMth tXn d17_.1.cls v17_, w ∈ tW0 := tEqW (K := [uw6_76, uw6_96, uw6_89, uw6_93, uw6_94, uw6_90, uw6_95, uw6_91, uw6_92, uw7_156, uw1_15, uw7_153, uw7_155, uw0_58, uw7_188, uw1_15, uw7_185, uw7_187, uw0_66, uw7_164, uw1_15, uw7_161, uw7_163, uw0_60]) rfl (tCoW uw6_76m (tCoW uw6_96m (tCoW uw6_89m (tCoW uw6_93m (tCoW uw6_94m (tCoW uw6_90m (tCoW uw6_95m (tCoW uw6_91m (tCoW uw6_92m (tCoW uw7_156m (tCoW uw1_15m (tCoW uw7_153m (tCoW uw7_155m (tCoW uw0_58m (tCoW uw7_188m (tCoW uw1_15m (tCoW uw7_185m (tCoW uw7_187m (tCoW uw0_66m (tCoW uw7_164m (tCoW uw1_15m (tCoW uw7_161m (tCoW uw7_163m (tCoW uw0_60m (tNiW)))))))))))))))))))))))))
set_option maxRecDepth 100000 in
theorem x18_ : ∀ w ∈ rqM vwCl tMth tXn d18_.1.cls v18_, w ∈ tW0 := tEqW (K := [uw6_97]) rfl (tCoW uw6_97m (tNiW))
set_option maxRecDepth 100000 in
theorem x19_ : ∀ w ∈ rqM vwCl tMth tXn d19_.1.cls v19_, w ∈ tW0 := tEqW (K := [uw6_87, uw6_91, uw6_92, uw7_128, uw1_15, uw7_125, uw7_127, uw0_51, uw7_132, uw1_15, uw7_129, uw7_131, uw0_52, uw7_180, uw1_15, uw7_177, uw7_179, uw0_64, uw7_184, uw1_15, uw7_181, uw7_183, uw0_65, uw7_152, uw1_15, uw7_149, uw7_151, uw0_57, uw7_156, uw1_15, uw7_153, uw7_155, uw0_58, uw7_200, uw1_15, uw7_197, uw7_199, uw0_69, uw7_160, uw1_15, uw7_157, uw7_159, uw0_59, uw7_205, uw1_15, uw7_202, uw7_204, uw0_70, uw7_164, uw1_15, uw7_161, uw7_163, uw0_60]) rfl (tCoW uw6_87m (tCoW uw6_91m (tCoW uw6_92m (tCoW uw7_128m (tCoW uw1_15m (tCoW uw7_125m (tCoW uw7_127m (tCoW uw0_51m (tCoW uw7_132m (tCoW uw1_15m (tCoW uw7_129m (tCoW uw7_131m (tCoW uw0_52m (tCoW uw7_180m (tCoW uw1_15m (tCoW uw7_177m (tCoW uw7_179m (tCoW uw0_64m (tCoW uw7_184m (tCoW uw1_15m (tCoW uw7_181m (tCoW uw7_183m (tCoW uw0_65m (tCoW uw7_152m (tCoW uw1_15m (tCoW uw7_149m (tCoW uw7_151m (tCoW uw0_57m (tCoW uw7_156m (tCoW uw1_15m (tCoW uw7_153m (tCoW uw7_155m (tCoW uw0_58m (tCoW uw7_200m (tCoW uw1_15m (tCoW uw7_197m (tCoW uw7_199m (tCoW uw0_69m (tCoW uw7_160m (tCoW uw1_15m (tCoW uw7_157m (tCoW uw7_159m (tCoW uw0_59m (tCoW uw7_205m (tCoW uw1_15m (tCoW uw7_202m (tCoW uw7_204m (tCoW uw0_70m (tCoW uw7_164m (tCoW uw1_15m (tCoW uw7_161m (tCoW uw7_163m (tCoW uw0_60m (tNiW))))))))))))))))))))))))))))))))))))))))))))))))))))))
set_option maxRecDepth 100000 in
theorem x20_ : ∀ w ∈ rqM vwCl tMth tXn d20_.1.cls v20_, w ∈ tW0 := tEqW (K := [uw6_66, uw6_64, uw6_63, uw6_62, uw6_53]) rfl (tCoW uw6_66m (tCoW uw6_64m (tCoW uw6_63m (tCoW uw6_62m (tCoW uw6_53m (tNiW))))))
set_option maxRecDepth 100000 in
theorem x21_ : ∀ w ∈ rqM vwCl tMth tXn d21_.1.cls v21_, w ∈ tW0 := tEqW (K := [uw6_66, uw6_64, uw6_63, uw6_62, uw6_53]) rfl (tCoW uw6_66m (tCoW uw6_64m (tCoW uw6_63m (tCoW uw6_62m (tCoW uw6_53m (tNiW))))))
set_option maxRecDepth 100000 in
theorem x22_ : ∀ w ∈ rqM vwCl tMth tXn d22_.1.cls v22_, w ∈ tW0 := tEqW (K := [uw6_87, uw7_128, uw1_15, uw7_125, uw7_127, uw0_51, uw7_132, uw1_15, uw7_129, uw7_131, uw0_52, uw7_152, uw1_15, uw7_149, uw7_151, uw0_57, uw7_156, uw1_15, uw7_153, uw7_155, uw0_58, uw7_164, uw1_15, uw7_161, uw7_163, uw0_60]) rfl (tCoW uw6_87m (tCoW uw7_128m (tCoW uw1_15m (tCoW uw7_125m (tCoW uw7_127m (tCoW uw0_51m (tCoW uw7_132m (tCoW uw1_15m (tCoW uw7_129m (tCoW uw7_131m (tCoW uw0_52m (tCoW uw7_152m (tCoW uw1_15m (tCoW uw7_149m (tCoW uw7_151m (tCoW uw0_57m (tCoW uw7_156m (tCoW uw1_15m (tCoW uw7_153m (tCoW uw7_155m (tCoW uw0_58m (tCoW uw7_164m (tCoW uw1_15m (tCoW uw7_161m (tCoW uw7_163m (tCoW uw0_60m (tNiW)))))))))))))))))))))))))))
set_option maxRecDepth 100000 in
theorem x23_ : ∀ w ∈ rqM vwCl tMth tXn d23_.1.cls v23_, w ∈ tW0 := tEqW (K := [uw6_87, uw7_128, uw1_15, uw7_125, uw7_127, uw0_51, uw7_132, uw1_15, uw7_129, uw7_131, uw0_52, uw7_164, uw1_15, uw7_161, uw7_163, uw0_60]) rfl (tCoW uw6_87m (tCoW uw7_128m (tCoW uw1_15m (tCoW uw7_125m (tCoW uw7_127m (tCoW uw0_51m (tCoW uw7_132m (tCoW uw1_15m (tCoW uw7_129m (tCoW uw7_131m (tCoW uw0_52m (tCoW uw7_164m (tCoW uw1_15m (tCoW uw7_161m (tCoW uw7_163m (tCoW uw0_60m (tNiW)))))))))))))))))
set_option maxRecDepth 100000 in
theorem x24_ : ∀ w ∈ rqM vwCl tMth tXn d24_.1.cls v24_, w ∈ tW0 := tEqW (K := [uw6_106, uw6_110, uw6_107, uw6_109, uw6_108, uw6_97]) rfl (tCoW uw6_106m (tCoW uw6_110m (tCoW uw6_107m (tCoW uw6_109m (tCoW uw6_108m (tCoW uw6_97m (tNiW)))))))
set_option maxRecDepth 100000 in
theorem x25_ : ∀ w ∈ rqM vwCl tMth tXn d25_.1.cls v25_, w ∈ tW0 := tEqW (K := [uw6_101, uw6_87, uw6_89, uw6_91, uw6_102, uw6_92, uw7_164, uw1_15, uw7_161, uw7_163, uw0_60, uw7_148, uw1_15, uw7_145, uw7_147, uw0_56, uw7_176, uw1_15, uw7_173, uw7_175, uw0_63, uw7_128, uw1_15, uw7_125, uw7_127, uw0_51, uw7_132, uw1_15, uw7_129, uw7_131, uw0_52, uw7_180, uw1_15, uw7_177, uw7_179, uw0_64, uw7_184, uw1_15, uw7_181, uw7_183, uw0_65, uw7_192, uw1_15, uw7_189, uw7_191, uw0_67]) rfl (tCoW uw6_101m (tCoW uw6_87m (tCoW uw6_89m (tCoW uw6_91m (tCoW uw6_102m (tCoW uw6_92m (tCoW uw7_164m (tCoW uw1_15m (tCoW uw7_161m (tCoW uw7_163m (tCoW uw0_60m (tCoW uw7_148m (tCoW uw1_15m (tCoW uw7_145m (tCoW uw7_147m (tCoW uw0_56m (tCoW uw7_176m (tCoW uw1_15m (tCoW uw7_173m (tCoW uw7_175m (tCoW uw0_63m (tCoW uw7_128m (tCoW uw1_15m (tCoW uw7_125m (tCoW uw7_127m (tCoW uw0_51m (tCoW uw7_132m (tCoW uw1_15m (tCoW uw7_129m (tCoW uw7_131m (tCoW uw0_52m (tCoW uw7_180m (tCoW uw1_15m (tCoW uw7_177m (tCoW uw7_179m (tCoW uw0_64m (tCoW uw7_184m (tCoW uw1_15m (tCoW uw7_181m (tCoW uw7_183m (tCoW uw0_65m (tCoW uw7_192m (tCoW uw1_15m (tCoW uw7_189m (tCoW uw7_191m (tCoW uw0_67m (tNiW)))))))))))))))))))))))))))))))))))))))))))))))
set_option maxRecDepth 100000 in
theorem x26_ : ∀ w ∈ rqM vwCl tMth tXn d26_.1.cls v26_, w ∈ tW0 := tEqW (K := [uw6_89, uw6_98, uw6_90, uw6_99, uw6_100, uw6_101, uw6_102, uw6_87, uw6_104, uw6_103, uw6_92, uw6_105, uw6_91, uw7_148, uw1_15, uw7_145, uw7_147, uw0_56, uw7_168, uw1_15, uw7_165, uw7_167, uw0_61, uw7_128, uw1_15, uw7_125, uw7_127, uw0_51, uw7_164, uw1_15, uw7_161, uw7_163, uw0_60, uw7_132, uw1_15, uw7_129, uw7_131, uw0_52, uw7_172, uw1_15, uw7_169, uw7_171, uw0_62, uw7_196, uw1_15, uw7_193, uw7_195, uw0_68]) rfl (tCoW uw6_89m (tCoW uw6_98m (tCoW uw6_90m (tCoW uw6_99m (tCoW uw6_100m (tCoW uw6_101m (tCoW uw6_102m (tCoW uw6_87m (tCoW uw6_104m (tCoW uw6_103m (tCoW uw6_92m (tCoW uw6_105m (tCoW uw6_91m (tCoW uw7_148m (tCoW uw1_15m (tCoW uw7_145m (tCoW uw7_147m (tCoW uw0_56m (tCoW uw7_168m (tCoW uw1_15m (tCoW uw7_165m (tCoW uw7_167m (tCoW uw0_61m (tCoW uw7_128m (tCoW uw1_15m (tCoW uw7_125m (tCoW uw7_127m (tCoW uw0_51m (tCoW uw7_164m (tCoW uw1_15m (tCoW uw7_161m (tCoW uw7_163m (tCoW uw0_60m (tCoW uw7_132m (tCoW uw1_15m (tCoW uw7_129m (tCoW uw7_131m (tCoW uw0_52m (tCoW uw7_172m (tCoW uw1_15m (tCoW uw7_169m (tCoW uw7_171m (tCoW uw0_62m (tCoW uw7_196m (tCoW uw1_15m (tCoW uw7_193m (tCoW uw7_195m (tCoW uw0_68m (tNiW)))))))))))))))))))))))))))))))))))))))))))))))))
set_option maxRecDepth 100000 in
theorem x27_ : ∀ w ∈ rqM vwCl tMth tXn d27_.1.cls v27_, w ∈ tW0 := tEqW (K := [uw6_110, uw6_109, uw6_108, uw6_107, uw6_95, uw6_106, uw8_7, uw1_15, uw8_4, uw8_6, uw0_80, uw7_164, uw1_15, uw7_161, uw7_163, uw0_60]) rfl (tCoW uw6_110m (tCoW uw6_109m (tCoW uw6_108m (tCoW uw6_107m (tCoW uw6_95m (tCoW uw6_106m (tCoW uw8_7m (tCoW uw1_15m (tCoW uw8_4m (tCoW uw8_6m (tCoW uw0_80m (tCoW uw7_164m (tCoW uw1_15m (tCoW uw7_161m (tCoW uw7_163m (tCoW uw0_60m (tNiW)))))))))))))))))
set_option maxRecDepth 100000 in
theorem x28_ : ∀ w ∈ rqM vwCl tMth tXn d28_.1.cls v28_, w ∈ tW0 := tEqW (K := [uw6_106, uw6_107, uw6_108, uw6_109]) rfl (tCoW uw6_106m (tCoW uw6_107m (tCoW uw6_108m (tCoW uw6_109m (tNiW)))))
set_option maxRecDepth 100000 in
theorem x29_ : ∀ w ∈ rqM vwCl tMth tXn d29_.1.cls v29_, w ∈ tW0 := tEqW (K := [uw6_110, uw6_106, uw8_19, uw1_15, uw8_16, uw8_18, uw0_83]) rfl (tCoW uw6_110m (tCoW uw6_106m (tCoW uw8_19m (tCoW uw1_15m (tCoW uw8_16m (tCoW uw8_18m (tCoW uw0_83m (tNiW))))))))
set_option maxRecDepth 100000 in
theorem x30_ : ∀ w ∈ rqM vwCl tMth tXn d30_.1.cls v30_, w ∈ tW0 := tEqW (K := [uw6_100, uw6_103, uw6_104, uw7_164, uw1_15, uw7_161, uw7_163, uw0_60]) rfl (tCoW uw6_100m (tCoW uw6_103m (tCoW uw6_104m (tCoW uw7_164m (tCoW uw1_15m (tCoW uw7_161m (tCoW uw7_163m (tCoW uw0_60m (tNiW)))))))))
set_option maxRecDepth 100000 in
theorem x31_ : ∀ w ∈ rqM vwCl tMth tXn d31_.1.cls v31_, w ∈ tW0 := tEqW (K := [uw6_96, uw6_75, uw6_76, uw6_97, uw6_110]) rfl (tCoW uw6_96m (tCoW uw6_75m (tCoW uw6_76m (tCoW uw6_97m (tCoW uw6_110m (tNiW))))))
set_option maxRecDepth 100000 in
theorem x32_ : ∀ w ∈ rqM vwCl tMth tXn d32_.1.cls v32_, w ∈ tW0 := tEqW (K := [uw6_96, uw6_75]) rfl (tCoW uw6_96m (tCoW uw6_75m (tNiW)))
set_option maxRecDepth 100000 in
theorem x33_ : ∀ w ∈ rqM vwCl tMth tXn d33_.1.cls v33_, w ∈ tW0 := tEqW (K := [uw6_87, uw6_92, uw6_91, uw6_82, uw6_83, uw7_128, uw1_15, uw7_125, uw7_127, uw0_51, uw7_196, uw1_15, uw7_193, uw7_195, uw0_68, uw8_7, uw1_15, uw8_4, uw8_6, uw0_80, uw7_164, uw1_15, uw7_161, uw7_163, uw0_60, uw7_235, uw1_15, uw7_232, uw7_234, uw0_77]) rfl (tCoW uw6_87m (tCoW uw6_92m (tCoW uw6_91m (tCoW uw6_82m (tCoW uw6_83m (tCoW uw7_128m (tCoW uw1_15m (tCoW uw7_125m (tCoW uw7_127m (tCoW uw0_51m (tCoW uw7_196m (tCoW uw1_15m (tCoW uw7_193m (tCoW uw7_195m (tCoW uw0_68m (tCoW uw8_7m (tCoW uw1_15m (tCoW uw8_4m (tCoW uw8_6m (tCoW uw0_80m (tCoW uw7_164m (tCoW uw1_15m (tCoW uw7_161m (tCoW uw7_163m (tCoW uw0_60m (tCoW uw7_235m (tCoW uw1_15m (tCoW uw7_232m (tCoW uw7_234m (tCoW uw0_77m (tNiW)))))))))))))))))))))))))))))))
set_option maxRecDepth 100000 in
theorem x34_ : ∀ w ∈ rqM vwCl tMth tXn d34_.1.cls v34_, w ∈ tW0 := tEqW (K := [uw6_87, uw6_79, uw6_82, uw6_83, uw7_235, uw1_15, uw7_232, uw7_234, uw0_77, uw7_128, uw1_15, uw7_125, uw7_127, uw0_51, uw7_132, uw1_15, uw7_129, uw7_131, uw0_52, uw7_164, uw1_15, uw7_161, uw7_163, uw0_60, uw8_7, uw1_15, uw8_4, uw8_6, uw0_80, uw8_11, uw1_15, uw8_8, uw8_10, uw0_81]) rfl (tCoW uw6_87m (tCoW uw6_79m (tCoW uw6_82m (tCoW uw6_83m (tCoW uw7_235m (tCoW uw1_15m (tCoW uw7_232m (tCoW uw7_234m (tCoW uw0_77m (tCoW uw7_128m (tCoW uw1_15m (tCoW uw7_125m (tCoW uw7_127m (tCoW uw0_51m (tCoW uw7_132m (tCoW uw1_15m (tCoW uw7_129m (tCoW uw7_131m (tCoW uw0_52m (tCoW uw7_164m (tCoW uw1_15m (tCoW uw7_161m (tCoW uw7_163m (tCoW uw0_60m (tCoW uw8_7m (tCoW uw1_15m (tCoW uw8_4m (tCoW uw8_6m (tCoW uw0_80m (tCoW uw8_11m (tCoW uw1_15m (tCoW uw8_8m (tCoW uw8_10m (tCoW uw0_81m (tNiW)))))))))))))))))))))))))))))))))))
set_option maxRecDepth 100000 in
theorem x35_ : ∀ w ∈ rqM vwCl tMth tXn d35_.1.cls v35_, w ∈ tW0 := tEqW (K := [uw6_89, uw6_90, uw6_97, uw6_87, uw6_82, uw6_92, uw6_83, uw6_91, uw6_66, uw6_79, uw6_80, uw6_81, uw7_235, uw1_15, uw7_232, uw7_234, uw0_77, uw7_128, uw1_15, uw7_125, uw7_127, uw0_51, uw7_164, uw1_15, uw7_161, uw7_163, uw0_60, uw7_196, uw1_15, uw7_193, uw7_195, uw0_68, uw7_192, uw1_15, uw7_189, uw7_191, uw0_67, uw7_132, uw1_15, uw7_129, uw7_131, uw0_52, uw7_168, uw1_15, uw7_165, uw7_167, uw0_61, uw7_211, uw1_15, uw7_208, uw7_210, uw0_71, uw7_215, uw1_15, uw7_212, uw7_214, uw0_72]) rfl (tCoW uw6_89m (tCoW uw6_90m (tCoW uw6_97m (tCoW uw6_87m (tCoW uw6_82m (tCoW uw6_92m (tCoW uw6_83m (tCoW uw6_91m (tCoW uw6_66m (tCoW uw6_79m (tCoW uw6_80m (tCoW uw6_81m (tCoW uw7_235m (tCoW uw1_15m (tCoW uw7_232m (tCoW uw7_234m (tCoW uw0_77m (tCoW uw7_128m (tCoW uw1_15m (tCoW uw7_125m (tCoW uw7_127m (tCoW uw0_51m (tCoW uw7_164m (tCoW uw1_15m (tCoW uw7_161m (tCoW uw7_163m (tCoW uw0_60m (tCoW uw7_196m (tCoW uw1_15m (tCoW uw7_193m (tCoW uw7_195m (tCoW uw0_68m (tCoW uw7_192m (tCoW uw1_15m (tCoW uw7_189m (tCoW uw7_191m (tCoW uw0_67m (tCoW uw7_132m (tCoW uw1_15m (tCoW uw7_129m (tCoW uw7_131m (tCoW uw0_52m (tCoW uw7_168m (tCoW uw1_15m (tCoW uw7_165m (tCoW uw7_167m (tCoW uw0_61m (tCoW uw7_211m (tCoW uw1_15m (tCoW uw7_208m (tCoW uw7_210m (tCoW uw0_71m (tCoW uw7_215m (tCoW uw1_15m (tCoW uw7_212m (tCoW uw7_214m (tCoW uw0_72m (tNiW))))))))))))))))))))))))))))))))))))))))))))))))))))))))))
set_option maxRecDepth 100000 in
theorem x36_ : ∀ w ∈ rqM vwCl tMth tXn d36_.1.cls v36_, w ∈ tW0 := tEqW (K := [uw6_81, uw6_97, uw6_87, uw6_91, uw6_92, uw6_82, uw6_83, uw6_89, uw6_79, uw7_128, uw1_15, uw7_125, uw7_127, uw0_51, uw7_235, uw1_15, uw7_232, uw7_234, uw0_77, uw7_132, uw1_15, uw7_129, uw7_131, uw0_52, uw7_148, uw1_15, uw7_145, uw7_147, uw0_56, uw7_239, uw1_15, uw7_236, uw7_238, uw0_78, uw7_164, uw1_15, uw7_161, uw7_163, uw0_60, uw7_152, uw1_15, uw7_149, uw7_151, uw0_57, uw7_156, uw1_15, uw7_153, uw7_155, uw0_58, uw7_200, uw1_15, uw7_197, uw7_199, uw0_69, uw7_196, uw1_15, uw7_193, uw7_195, uw0_68, uw8_3, uw1_15, uw8_0, uw8_2, uw0_79, uw7_176, uw1_15, uw7_173, uw7_175, uw0_63, uw8_7, uw1_15, uw8_4, uw8_6, uw0_80, uw8_11, uw1_15, uw8_8, uw8_10, uw0_81]) rfl (tCoW uw6_81m (tCoW uw6_97m (tCoW uw6_87m (tCoW uw6_91m (tCoW uw6_92m (tCoW uw6_82m (tCoW uw6_83m (tCoW uw6_89m (tCoW uw6_79m (tCoW uw7_128m (tCoW uw1_15m (tCoW uw7_125m (tCoW uw7_127m (tCoW uw0_51m (tCoW uw7_235m (tCoW uw1_15m (tCoW uw7_232m (tCoW uw7_234m (tCoW uw0_77m (tCoW uw7_132m (tCoW uw1_15m (tCoW uw7_129m (tCoW uw7_131m (tCoW uw0_52m (tCoW uw7_148m (tCoW uw1_15m (tCoW uw7_145m (tCoW uw7_147m (tCoW uw0_56m (tCoW uw7_239m (tCoW uw1_15m (tCoW uw7_236m (tCoW uw7_238m (tCoW uw0_78m (tCoW uw7_164m (tCoW uw1_15m (tCoW uw7_161m (tCoW uw7_163m (tCoW uw0_60m (tCoW uw7_152m (tCoW uw1_15m (tCoW uw7_149m (tCoW uw7_151m (tCoW uw0_57m (tCoW uw7_156m (tCoW uw1_15m (tCoW uw7_153m (tCoW uw7_155m (tCoW uw0_58m (tCoW uw7_200m (tCoW uw1_15m (tCoW uw7_197m (tCoW uw7_199m (tCoW uw0_69m (tCoW uw7_196m (tCoW uw1_15m (tCoW uw7_193m (tCoW uw7_195m (tCoW uw0_68m (tCoW uw8_3m (tCoW uw1_15m (tCoW uw8_0m (tCoW uw8_2m (tCoW uw0_79m (tCoW uw7_176m (tCoW uw1_15m (tCoW uw7_173m (tCoW uw7_175m (tCoW uw0_63m (tCoW uw8_7m (tCoW uw1_15m (tCoW uw8_4m (tCoW uw8_6m (tCoW uw0_80m (tCoW uw8_11m (tCoW uw1_15m (tCoW uw8_8m (tCoW uw8_10m (tCoW uw0_81m (tNiW))))))))))))))))))))))))))))))))))))))))))))))))))))))))))))))))))))))))))))))))
set_option maxRecDepth 100000 in
theorem x37_ : ∀ w ∈ rqM vwCl tMth tXn d37_.1.cls v37_, w ∈ tW0 := tEqW (K := [uw6_75, uw6_96, uw6_87, uw7_128, uw1_15, uw7_125, uw7_127, uw0_51, uw7_164, uw1_15, uw7_161, uw7_163, uw0_60, uw7_231, uw1_15, uw7_228, uw7_230, uw0_76, uw7_132, uw1_15, uw7_129, uw7_131, uw0_52]) rfl (tCoW uw6_75m (tCoW uw6_96m (tCoW uw6_87m (tCoW uw7_128m (tCoW uw1_15m (tCoW uw7_125m (tCoW uw7_127m (tCoW uw0_51m (tCoW uw7_164m (tCoW uw1_15m (tCoW uw7_161m (tCoW uw7_163m (tCoW uw0_60m (tCoW uw7_231m (tCoW uw1_15m (tCoW uw7_228m (tCoW uw7_230m (tCoW uw0_76m (tCoW uw7_132m (tCoW uw1_15m (tCoW uw7_129m (tCoW uw7_131m (tCoW uw0_52m (tNiW))))))))))))))))))))))))
set_option maxRecDepth 100000 in
theorem x38_ : ∀ w ∈ rqM vwCl tMth tXn d38_.1.cls v38_, w ∈ tW0 := tEqW (K := [uw6_77, uw6_96, uw6_97, uw6_79, uw6_64, uw6_80, uw6_82, uw6_81, uw6_83, uw7_235, uw1_15, uw7_232, uw7_234, uw0_77]) rfl (tCoW uw6_77m (tCoW uw6_96m (tCoW uw6_97m (tCoW uw6_79m (tCoW uw6_64m (tCoW uw6_80m (tCoW uw6_82m (tCoW uw6_81m (tCoW uw6_83m (tCoW uw7_235m (tCoW uw1_15m (tCoW uw7_232m (tCoW uw7_234m (tCoW uw0_77m (tNiW)))))))))))))))
set_option maxRecDepth 100000 in
theorem x39_ : ∀ w ∈ rqM vwCl tMth tXn d39_.1.cls v39_, w ∈ tW0 := tEqW (K := [uw6_67, uw6_100, uw6_68, uw6_105]) rfl (tCoW uw6_67m (tCoW uw6_100m (tCoW uw6_68m (tCoW uw6_105m (tNiW)))))
set_option maxRecDepth 100000 in
theorem x40_ : ∀ w ∈ rqM vwCl tMth tXn d40_.1.cls v40_, w ∈ tW0 := tEqW (K := [uw6_84, uw6_85, uw6_100, uw6_103, uw6_104, uw6_105, uw6_98, uw6_99, uw6_66, uw6_87, uw6_69, uw6_70, uw6_67, uw6_68, uw6_71, uw6_96, uw6_73, uw6_101, uw6_74, uw6_102, uw6_72, uw6_78, uw7_140, uw1_15, uw7_137, uw7_139, uw0_54, uw7_144, uw1_15, uw7_141, uw7_143, uw0_55, uw7_192, uw1_15, uw7_189, uw7_191, uw0_67, uw7_211, uw1_15, uw7_208, uw7_210, uw0_71, uw7_164, uw1_15, uw7_161, uw7_163, uw0_60, uw7_215, uw1_15, uw7_212, uw7_214, uw0_72, uw7_128, uw1_15, uw7_125, uw7_127, uw0_51, uw7_132, uw1_15, uw7_129, uw7_131, uw0_52, uw7_219, uw1_15, uw7_216, uw7_218, uw0_73, uw7_223, uw1_15, uw7_220, uw7_222, uw0_74, uw7_227, uw1_15, uw7_224, uw7_226, uw0_75, uw8_15, uw1_15, uw8_12, uw8_14, uw0_82, uw8_23, uw1_15, uw8_20, uw8_22, uw0_84, uw8_27, uw1_15, uw8_24, uw8_26, uw0_85]) rfl (tCoW uw6_84m (tCoW uw6_85m (tCoW uw6_100m (tCoW uw6_103m (tCoW uw6_104m (tCoW uw6_105m (tCoW uw6_98m (tCoW uw6_99m (tCoW uw6_66m (tCoW uw6_87m (tCoW uw6_69m (tCoW uw6_70m (tCoW uw6_67m (tCoW uw6_68m (tCoW uw6_71m (tCoW uw6_96m (tCoW uw6_73m (tCoW uw6_101m (tCoW uw6_74m (tCoW uw6_102m (tCoW uw6_72m (tCoW uw6_78m (tCoW uw7_140m (tCoW uw1_15m (tCoW uw7_137m (tCoW uw7_139m (tCoW uw0_54m (tCoW uw7_144m (tCoW uw1_15m (tCoW uw7_141m (tCoW uw7_143m (tCoW uw0_55m (tCoW uw7_192m (tCoW uw1_15m (tCoW uw7_189m (tCoW uw7_191m (tCoW uw0_67m (tCoW uw7_211m (tCoW uw1_15m (tCoW uw7_208m (tCoW uw7_210m (tCoW uw0_71m (tCoW uw7_164m (tCoW uw1_15m (tCoW uw7_161m (tCoW uw7_163m (tCoW uw0_60m (tCoW uw7_215m (tCoW uw1_15m (tCoW uw7_212m (tCoW uw7_214m (tCoW uw0_72m (tCoW uw7_128m (tCoW uw1_15m (tCoW uw7_125m (tCoW uw7_127m (tCoW uw0_51m (tCoW uw7_132m (tCoW uw1_15m (tCoW uw7_129m (tCoW uw7_131m (tCoW uw0_52m (tCoW uw7_219m (tCoW uw1_15m (tCoW uw7_216m (tCoW uw7_218m (tCoW uw0_73m (tCoW uw7_223m (tCoW uw1_15m (tCoW uw7_220m (tCoW uw7_222m (tCoW uw0_74m (tCoW uw7_227m (tCoW uw1_15m (tCoW uw7_224m (tCoW uw7_226m (tCoW uw0_75m (tCoW uw8_15m (tCoW uw1_15m (tCoW uw8_12m (tCoW uw8_14m (tCoW uw0_82m (tCoW uw8_23m (tCoW uw1_15m (tCoW uw8_20m (tCoW uw8_22m (tCoW uw0_84m (tCoW uw8_27m (tCoW uw1_15m (tCoW uw8_24m (tCoW uw8_26m (tCoW uw0_85m (tNiW)))))))))))))))))))))))))))))))))))))))))))))))))))))))))))))))))))))))))))))))))))))))))))))
set_option maxRecDepth 100000 in
theorem x41_ : ∀ w ∈ rqM vwCl tMth tXn d41_.1.cls v41_, w ∈ tW0 := tEqW (K := [uw6_111, uw6_145]) rfl (tCoW uw6_111m (tCoW uw6_145m (tNiW)))
set_option maxRecDepth 100000 in
theorem x42_ : ∀ w ∈ rqM vwCl tMth tXn d42_.1.cls v42_, w ∈ tW0 := tEqW (K := [uw6_52, uw6_65, uw6_66, uw6_70, uw6_85, uw6_87, uw6_86, uw6_88, uw6_69, uw6_84, uw7_124, uw1_15, uw7_121, uw7_123, uw0_50, uw7_128, uw1_15, uw7_125, uw7_127, uw0_51, uw7_136, uw1_15, uw7_133, uw7_135, uw0_53, uw8_31, uw1_15, uw8_28, uw8_30, uw0_86]) rfl (tCoW uw6_52m (tCoW uw6_65m (tCoW uw6_66m (tCoW uw6_70m (tCoW uw6_85m (tCoW uw6_87m (tCoW uw6_86m (tCoW uw6_88m (tCoW uw6_69m (tCoW uw6_84m (tCoW uw7_124m (tCoW uw1_15m (tCoW uw7_121m (tCoW uw7_123m (tCoW uw0_50m (tCoW uw7_128m (tCoW uw1_15m (tCoW uw7_125m (tCoW uw7_127m (tCoW uw0_51m (tCoW uw7_136m (tCoW uw1_15m (tCoW uw7_133m (tCoW uw7_135m (tCoW uw0_53m (tCoW uw8_31m (tCoW uw1_15m (tCoW uw8_28m (tCoW uw8_30m (tCoW uw0_86m (tNiW)))))))))))))))))))))))))))))))
set_option maxRecDepth 100000 in
theorem x43_ : ∀ w ∈ rqM vwCl tMth tXn d43_.1.cls v43_, w ∈ tW0 := tEqW (K := [uw6_52, uw6_65, uw6_66, uw6_87, uw6_86, uw6_88, uw6_98, uw6_99, uw6_100, uw6_69, uw6_67, uw6_68, uw7_124, uw1_15, uw7_121, uw7_123, uw0_50, uw7_140, uw1_15, uw7_137, uw7_139, uw0_54, uw7_144, uw1_15, uw7_141, uw7_143, uw0_55, uw7_128, uw1_15, uw7_125, uw7_127, uw0_51, uw7_132, uw1_15, uw7_129, uw7_131, uw0_52, uw7_219, uw1_15, uw7_216, uw7_218, uw0_73, uw7_164, uw1_15, uw7_161, uw7_163, uw0_60, uw7_211, uw1_15, uw7_208, uw7_210, uw0_71, uw7_223, uw1_15, uw7_220, uw7_222, uw0_74, uw8_31, uw1_15, uw8_28, uw8_30, uw0_86]) rfl (tCoW uw6_52m (tCoW uw6_65m (tCoW uw6_66m (tCoW uw6_87m (tCoW uw6_86m (tCoW uw6_88m (tCoW uw6_98m (tCoW uw6_99m (tCoW uw6_100m (tCoW uw6_69m (tCoW uw6_67m (tCoW uw6_68m (tCoW uw7_124m (tCoW uw1_15m (tCoW uw7_121m (tCoW uw7_123m (tCoW uw0_50m (tCoW uw7_140m (tCoW uw1_15m (tCoW uw7_137m (tCoW uw7_139m (tCoW uw0_54m (tCoW uw7_144m (tCoW uw1_15m (tCoW uw7_141m (tCoW uw7_143m (tCoW uw0_55m (tCoW uw7_128m (tCoW uw1_15m (tCoW uw7_125m (tCoW uw7_127m (tCoW uw0_51m (tCoW uw7_132m (tCoW uw1_15m (tCoW uw7_129m (tCoW uw7_131m (tCoW uw0_52m (tCoW uw7_219m (tCoW uw1_15m (tCoW uw7_216m (tCoW uw7_218m (tCoW uw0_73m (tCoW uw7_164m (tCoW uw1_15m (tCoW uw7_161m (tCoW uw7_163m (tCoW uw0_60m (tCoW uw7_211m (tCoW uw1_15m (tCoW uw7_208m (tCoW uw7_210m (tCoW uw0_71m (tCoW uw7_223m (tCoW uw1_15m (tCoW uw7_220m (tCoW uw7_222m (tCoW uw0_74m (tCoW uw8_31m (tCoW uw1_15m (tCoW uw8_28m (tCoW uw8_30m (tCoW uw0_86m (tNiW)))))))))))))))))))))))))))))))))))))))))))))))))))))))))))))))
set_option maxRecDepth 100000 in
theorem x44_ : ∀ w ∈ rqM vwCl tMth tXn d44_.1.cls v44_, w ∈ tW0 := tEqW (K := [uw6_71, uw6_73, uw6_74, uw6_75, uw6_76, uw6_77, uw6_72, uw6_78, uw6_79, uw6_80, uw6_81, uw6_82, uw6_83]) rfl (tCoW uw6_71m (tCoW uw6_73m (tCoW uw6_74m (tCoW uw6_75m (tCoW uw6_76m (tCoW uw6_77m (tCoW uw6_72m (tCoW uw6_78m (tCoW uw6_79m (tCoW uw6_80m (tCoW uw6_81m (tCoW uw6_82m (tCoW uw6_83m (tNiW))))))))))))))
set_option maxRecDepth 100000 in
theorem x45_ : ∀ w ∈ rqM vwCl tMth tXn d45_.1.cls v45_, w ∈ tW0 := tEqW (K := [uw6_84, uw7_108, uw1_15, uw7_105, uw7_107, uw0_48, uw8_43, uw1_15, uw8_40, uw8_42, uw0_87, uw8_31, uw1_15, uw8_28, uw8_30, uw0_86]) rfl (tCoW uw6_84m (tCoW uw7_108m (tCoW uw1_15m (tCoW uw7_105m (tCoW uw7_107m (tCoW uw0_48m (tCoW uw8_43m (tCoW uw1_15m (tCoW uw8_40m (tCoW uw8_42m (tCoW uw0_87m (tCoW uw8_31m (tCoW uw1_15m (tCoW uw8_28m (tCoW uw8_30m (tCoW uw0_86m (tNiW)))))))))))))))))
set_option maxRecDepth 100000 in
theorem x46_ : ∀ w ∈ rqM vwCl tMth tXn d46_.1.cls v46_, w ∈ tW0 := tEqW (K := [uw8_91]) rfl (tCoW uw8_91m (tNiW))
set_option maxRecDepth 100000 in
theorem x47_ : ∀ w ∈ rqM vwCl tMth tXn d47_.1.cls v47_, w ∈ tW0 := tEqW (K := [uw6_121, uw6_64, uw6_120, uw6_130, uw6_117]) rfl (tCoW uw6_121m (tCoW uw6_64m (tCoW uw6_120m (tCoW uw6_130m (tCoW uw6_117m (tNiW))))))
set_option maxRecDepth 100000 in
theorem x48_ : ∀ w ∈ rqM vwCl tMth tXn d48_.1.cls v48_, w ∈ tW0 := tEqW (K := [uw6_123, uw6_129, uw6_114, uw6_115, uw6_128, uw6_116, uw6_117, uw6_118, uw6_120, uw6_64, uw6_130, uw6_121, uw6_122, uw6_73, uw6_75, uw6_79, uw6_119, uw6_132, uw8_63, uw1_15, uw8_60, uw8_62, uw0_91]) rfl (tCoW uw6_123m (tCoW uw6_129m (tCoW uw6_114m (tCoW uw6_115m (tCoW uw6_128m (tCoW uw6_116m (tCoW uw6_117m (tCoW uw6_118m (tCoW uw6_120m (tCoW uw6_64m (tCoW uw6_130m (tCoW uw6_121m (tCoW uw6_122m (tCoW uw6_73m (tCoW uw6_75m (tCoW uw6_79m (tCoW uw6_119m (tCoW uw6_132m (tCoW uw8_63m (tCoW uw1_15m (tCoW uw8_60m (tCoW uw8_62m (tCoW uw0_91m (tNiW))))))))))))))))))))))))
set_option maxRecDepth 100000 in
theorem x49_ : ∀ w ∈ rqM vwCl tMth tXn d49_.1.cls v49_, w ∈ tW0 := tEqW (K := [uw6_82, uw6_131, uw6_83]) rfl (tCoW uw6_82m (tCoW uw6_131m (tCoW uw6_83m (tNiW))))
set_option maxRecDepth 100000 in
theorem x50_ : ∀ w ∈ rqM vwCl tMth tXn d50_.1.cls v50_, w ∈ tW0 := tEqW (K := [uw6_134, uw6_135]) rfl (tCoW uw6_134m (tCoW uw6_135m (tNiW)))
set_option maxRecDepth 100000 in
theorem x51_ : ∀ w ∈ rqM vwCl tMth tXn d51_.1.cls v51_, w ∈ tW0 := tEqW (K := [uw6_64, uw6_80, uw6_82, uw6_120, uw6_83, uw6_81, uw6_131]) rfl (tCoW uw6_64m (tCoW uw6_80m (tCoW uw6_82m (tCoW uw6_120m (tCoW uw6_83m (tCoW uw6_81m (tCoW uw6_131m (tNiW))))))))
set_option maxRecDepth 100000 in
theorem x52_ : ∀ w ∈ rqM vwCl tMth tXn d52_.1.cls v52_, w ∈ tW0 := tEqW (K := [uw6_136, uw6_75, uw6_79, uw6_132, uw8_121, uw1_15, uw8_118, uw8_120, uw0_104]) rfl (tCoW uw6_136m (tCoW uw6_75m (tCoW uw6_79m (tCoW uw6_132m (tCoW uw8_121m (tCoW uw1_15m (tCoW uw8_118m (tCoW uw8_120m (tCoW uw0_104m (tNiW))))))))))
set_option maxRecDepth 100000 in
theorem x53_ : ∀ w ∈ rqM vwCl tMth tXn d53_.1.cls v53_, w ∈ tW0 := tEqW (K := [uw6_133, uw6_117, uw8_117, uw1_15, uw8_114, uw8_116, uw0_103, uw8_121, uw1_15, uw8_118, uw8_120, uw0_104, uw8_103, uw1_15, uw8_100, uw8_102, uw0_100]) rfl (tCoW uw6_133m (tCoW uw6_117m (tCoW uw8_117m (tCoW uw1_15m (tCoW uw8_114m (tCoW uw8_116m (tCoW uw0_103m (tCoW uw8_121m (tCoW uw1_15m (tCoW uw8_118m (tCoW uw8_120m (tCoW uw0_104m (tCoW uw8_103m (tCoW uw1_15m (tCoW uw8_100m (tCoW uw8_102m (tCoW uw0_100m (tNiW))))))))))))))))))
set_option maxRecDepth 100000 in
theorem x54_ : ∀ w ∈ rqM vwCl tMth tXn d54_.1.cls v54_, w ∈ tW0 := tEqW (K := [uw6_64, uw6_80, uw6_82, uw6_131, uw6_83, uw6_120]) rfl (tCoW uw6_64m (tCoW uw6_80m (tCoW uw6_82m (tCoW uw6_131m (tCoW uw6_83m (tCoW uw6_120m (tNiW)))))))
set_option maxRecDepth 100000 in
theorem x55_ : ∀ w ∈ rqM vwCl tMth tXn d55_.1.cls v55_, w ∈ tW0 := tEqW (K := [uw6_79, uw6_121, uw6_80, uw6_133, uw6_117, uw6_131, uw6_83, uw8_108, uw8_109, uw8_103, uw1_15, uw8_100, uw8_102, uw0_100, uw8_107, uw1_15, uw8_104, uw8_106, uw0_101, uw8_90, uw1_15, uw8_88, uw8_89]) rfl (tCoW uw6_79m (tCoW uw6_121m (tCoW uw6_80m (tCoW uw6_133m (tCoW uw6_117m (tCoW uw6_131m (tCoW uw6_83m (tCoW uw8_108m (tCoW uw8_109m (tCoW uw8_103m (tCoW uw1_15m (tCoW uw8_100m (tCoW uw8_102m (tCoW uw0_100m (tCoW uw8_107m (tCoW uw1_15m (tCoW uw8_104m (tCoW uw8_106m (tCoW uw0_101m (tCoW uw8_90m (tCoW uw1_15m (tCoW uw8_88m (tCoW uw8_89m (tNiW))))))))))))))))))))))))
set_option maxRecDepth 100000 in
theorem x56_ : ∀ w ∈ rqM vwCl tMth tXn d56_.1.cls v56_, w ∈ tW0 := tEqW (K := [uw6_146, uw6_144, uw6_131]) rfl (tCoW uw6_146m (tCoW uw6_144m (tCoW uw6_131m (tNiW))))
set_option maxRecDepth 100000 in
theorem x57_ : ∀ w ∈ rqM vwCl tMth tXn d57_.1.cls v57_, w ∈ tW0 := tEqW (K := [uw6_130, uw6_64, uw6_71, uw6_72, uw6_131, uw6_78]) rfl (tCoW uw6_130m (tCoW uw6_64m (tCoW uw6_71m (tCoW uw6_72m (tCoW uw6_131m (tCoW uw6_78m (tNiW)))))))
set_option maxRecDepth 100000 in
theorem x58_ : ∀ w ∈ rqM vwCl tMth tXn d58_.1.cls v58_, w ∈ tW0 := tEqW (K := [uw6_71, uw8_79, uw1_15, uw8_76, uw8_78, uw0_95, uw8_59, uw1_15, uw8_56, uw8_58, uw0_90]) rfl (tCoW uw6_71m (tCoW uw8_79m (tCoW uw1_15m (tCoW uw8_76m (tCoW uw8_78m (tCoW uw0_95m (tCoW uw8_59m (tCoW uw1_15m (tCoW uw8_56m (tCoW uw8_58m (tCoW uw0_90m (tNiW))))))))))))
set_option maxRecDepth 100000 in
theorem x59_ : ∀ w ∈ rqM vwCl tMth tXn d59_.1.cls v59_, w ∈ tW0 := tEqW (K := [uw6_137, uw6_130]) rfl (tCoW uw6_137m (tCoW uw6_130m (tNiW)))
set_option maxRecDepth 100000 in
theorem x60_ : ∀ w ∈ rqM vwCl tMth tXn d60_.1.cls v60_, w ∈ tW0 := tEqW (K := [uw6_142, uw6_129, uw6_137, uw6_130, uw6_138, uw6_139, uw6_141, uw6_73, uw6_131, uw6_74, uw6_140, uw8_79, uw1_15, uw8_76, uw8_78, uw0_95, uw8_87, uw1_15, uw8_84, uw8_86, uw0_97, uw8_90, uw1_15, uw8_88, uw8_89]) rfl (tCoW uw6_142m (tCoW uw6_129m (tCoW uw6_137m (tCoW uw6_130m (tCoW uw6_138m (tCoW uw6_139m (tCoW uw6_141m (tCoW uw6_73m (tCoW uw6_131m (tCoW uw6_74m (tCoW uw6_140m (tCoW uw8_79m (tCoW uw1_15m (tCoW uw8_76m (tCoW uw8_78m (tCoW uw0_95m (tCoW uw8_87m (tCoW uw1_15m (tCoW uw8_84m (tCoW uw8_86m (tCoW uw0_97m (tCoW uw8_90m (tCoW uw1_15m (tCoW uw8_88m (tCoW uw8_89m (tNiW))))))))))))))))))))))))))
set_option maxRecDepth 100000 in
theorem x61_ : ∀ w ∈ rqM vwCl tMth tXn d61_.1.cls v61_, w ∈ tW0 := tEqW (K := [uw6_75, uw6_79]) rfl (tCoW uw6_75m (tCoW uw6_79m (tNiW)))
set_option maxRecDepth 100000 in
theorem x62_ : ∀ w ∈ rqM vwCl tMth tXn d62_.1.cls v62_, w ∈ tW0 := tEqW (K := [uw6_129, uw6_75, uw6_79, uw6_117, uw6_132, uw6_121, uw6_80, uw6_124, uw8_122, uw8_75, uw1_15, uw8_72, uw8_74, uw0_94, uw8_83, uw1_15, uw8_80, uw8_82, uw0_96, uw8_95, uw1_15, uw8_92, uw8_94, uw0_98, uw8_99, uw1_15, uw8_96, uw8_98, uw0_99, uw8_113, uw1_15, uw8_110, uw8_112, uw0_102, uw8_126, uw1_15, uw8_123, uw8_125, uw0_105]) rfl (tCoW uw6_129m (tCoW uw6_75m (tCoW uw6_79m (tCoW uw6_117m (tCoW uw6_132m (tCoW uw6_121m (tCoW uw6_80m (tCoW uw6_124m (tCoW uw8_122m (tCoW uw8_75m (tCoW uw1_15m (tCoW uw8_72m (tCoW uw8_74m (tCoW uw0_94m (tCoW uw8_83m (tCoW uw1_15m (tCoW uw8_80m (tCoW uw8_82m (tCoW uw0_96m (tCoW uw8_95m (tCoW uw1_15m (tCoW uw8_92m (tCoW uw8_94m (tCoW uw0_98m (tCoW uw8_99m (tCoW uw1_15m (tCoW uw8_96m (tCoW uw8_98m (tCoW uw0_99m (tCoW uw8_113m (tCoW uw1_15m (tCoW uw8_110m (tCoW uw8_112m (tCoW uw0_102m (tCoW uw8_126m (tCoW uw1_15m (tCoW uw8_123m (tCoW uw8_125m (tCoW uw0_105m (tNiW))))))))))))))))))))))))))))))))))))))))
set_option maxRecDepth 100000 in
theorem x63_ : ∀ w ∈ rqM vwCl tMth tXn d63_.1.cls v63_, w ∈ tW0 := tEqW (K := [uw6_142, uw6_123, uw6_133, uw6_136, uw6_129, uw6_73, uw6_141, uw6_138, uw6_139, uw6_140, uw6_130, uw6_64, uw6_71, uw6_72, uw6_137, uw8_71, uw1_15, uw8_68, uw8_70, uw0_93, uw8_59, uw1_15, uw8_56, uw8_58, uw0_90]) rfl (tCoW uw6_142m (tCoW uw6_123m (tCoW uw6_133m (tCoW uw6_136m (tCoW uw6_129m (tCoW uw6_73m (tCoW uw6_141m (tCoW uw6_138m (tCoW uw6_139m (tCoW uw6_140m (tCoW uw6_130m (tCoW uw6_64m (tCoW uw6_71m (tCoW uw6_72m (tCoW uw6_137m (tCoW uw8_71m (tCoW uw1_15m (tCoW uw8_68m (tCoW uw8_70m (tCoW uw0_93m (tCoW uw8_59m (tCoW uw1_15m (tCoW uw8_56m (tCoW uw8_58m (tCoW uw0_90m (tNiW))))))))))))))))))))))))))
set_option maxRecDepth 100000 in
theorem x64_ : ∀ w ∈ rqM vwCl tMth tXn d64_.1.cls v64_, w ∈ tW0 := tEqW (K := [uw6_128, uw6_69, uw6_129, uw6_112, uw6_67, uw6_130, uw6_68, uw6_84, uw6_73, uw6_71, uw6_134, uw6_135, uw6_125, uw6_123, uw6_133, uw6_136, uw8_59, uw1_15, uw8_56, uw8_58, uw0_90, uw8_67, uw1_15, uw8_64, uw8_66, uw0_92, uw8_130, uw1_15, uw8_127, uw8_129, uw0_106, uw8_71, uw1_15, uw8_68, uw8_70, uw0_93]) rfl (tCoW uw6_128m (tCoW uw6_69m (tCoW uw6_129m (tCoW uw6_112m (tCoW uw6_67m (tCoW uw6_130m (tCoW uw6_68m (tCoW uw6_84m (tCoW uw6_73m (tCoW uw6_71m (tCoW uw6_134m (tCoW uw6_135m (tCoW uw6_125m (tCoW uw6_123m (tCoW uw6_133m (tCoW uw6_136m (tCoW uw8_59m (tCoW uw1_15m (tCoW uw8_56m (tCoW uw8_58m (tCoW uw0_90m (tCoW uw8_67m (tCoW uw1_15m (tCoW uw8_64m (tCoW uw8_66m (tCoW uw0_92m (tCoW uw8_130m (tCoW uw1_15m (tCoW uw8_127m (tCoW uw8_129m (tCoW uw0_106m (tCoW uw8_71m (tCoW uw1_15m (tCoW uw8_68m (tCoW uw8_70m (tCoW uw0_93m (tNiW)))))))))))))))))))))))))))))))))))))
set_option maxRecDepth 100000 in
theorem x65_ : ∀ w ∈ rqM vwCl tMth tXn d65_.1.cls v65_, w ∈ tW0 := tEqW (K := [uw6_65, uw6_112, uw6_84, uw6_71, uw6_75, uw6_79, uw6_80, uw6_73, uw6_113]) rfl (tCoW uw6_65m (tCoW uw6_112m (tCoW uw6_84m (tCoW uw6_71m (tCoW uw6_75m (tCoW uw6_79m (tCoW uw6_80m (tCoW uw6_73m (tCoW uw6_113m (tNiW))))))))))
set_option maxRecDepth 100000 in
theorem x66_ : ∀ w ∈ rqM vwCl tMth tXn d66_.1.cls v66_, w ∈ tW0 := tEqW (K := [uw6_145, uw6_111, uw6_52, uw6_123, uw6_124, uw6_125, uw6_129, uw6_65, uw6_121, uw6_113, uw6_126, uw6_127, uw8_51, uw1_15, uw8_48, uw8_50, uw0_88, uw8_55, uw1_15, uw8_52, uw8_54, uw0_89, uw7_108, uw1_15, uw7_105, uw7_107, uw0_48]) rfl (tCoW uw6_145m (tCoW uw6_111m (tCoW uw6_52m (tCoW uw6_123m (tCoW uw6_124m (tCoW uw6_125m (tCoW uw6_129m (tCoW uw6_65m (tCoW uw6_121m (tCoW uw6_113m (tCoW uw6_126m (tCoW uw6_127m (tCoW uw8_51m (tCoW uw1_15m (tCoW uw8_48m (tCoW uw8_50m (tCoW uw0_88m (tCoW uw8_55m (tCoW uw1_15m (tCoW uw8_52m (tCoW uw8_54m (tCoW uw0_89m (tCoW uw7_108m (tCoW uw1_15m (tCoW uw7_105m (tCoW uw7_107m (tCoW uw0_48m (tNiW))))))))))))))))))))))))))))
set_option maxRecDepth 100000 in
theorem x67_ : ∀ w ∈ rqM vwCl tMth tXn d67_.1.cls v67_, w ∈ tW0 := tEqW (K := [uw6_123]) rfl (tCoW uw6_123m (tNiW))
set_option maxRecDepth 100000 in
theorem x68_ : ∀ w ∈ rqM vwCl tMth tXn d68_.1.cls v68_, w ∈ tW0 := tEqW (K := [uw8_142, uw7_201, uw8_90, uw1_15, uw8_88, uw8_89]) rfl (tCoW uw8_142m (tCoW uw7_201m (tCoW uw8_90m (tCoW uw1_15m (tCoW uw8_88m (tCoW uw8_89m (tNiW)))))))
set_option maxRecDepth 100000 in
theorem x69_ : ∀ w ∈ rqM vwCl tMth tXn d69_.1.cls v69_, w ∈ tW0 := tEqW (K := [uw6_111, uw6_114, uw6_112, uw6_115, uw6_116, uw6_118, uw6_64, uw6_120, uw8_143, uw8_138, uw1_15, uw8_135, uw8_137, uw0_107, uw7_108, uw1_15, uw7_105, uw7_107, uw0_48, uw8_141, uw1_15, uw8_139, uw8_140]) rfl (tCoW uw6_111m (tCoW uw6_114m (tCoW uw6_112m (tCoW uw6_115m (tCoW uw6_116m (tCoW uw6_118m (tCoW uw6_64m (tCoW uw6_120m (tCoW uw8_143m (tCoW uw8_138m (tCoW uw1_15m (tCoW uw8_135m (tCoW uw8_137m (tCoW uw0_107m (tCoW uw7_108m (tCoW uw1_15m (tCoW uw7_105m (tCoW uw7_107m (tCoW uw0_48m (tCoW uw8_141m (tCoW uw1_15m (tCoW uw8_139m (tCoW uw8_140m (tNiW))))))))))))))))))))))))
set_option maxRecDepth 100000 in
theorem x70_ : ∀ w ∈ rqM vwCl tMth tXn d70_.1.cls v70_, w ∈ tW0 := tEqW (K := [uw6_111, uw6_118, uw6_119, uw8_138, uw1_15, uw8_135, uw8_137, uw0_107, uw7_108, uw1_15, uw7_105, uw7_107, uw0_48]) rfl (tCoW uw6_111m (tCoW uw6_118m (tCoW uw6_119m (tCoW uw8_138m (tCoW uw1_15m (tCoW uw8_135m (tCoW uw8_137m (tCoW uw0_107m (tCoW uw7_108m (tCoW uw1_15m (tCoW uw7_105m (tCoW uw7_107m (tCoW uw0_48m (tNiW))))))))))))))
set_option maxRecDepth 100000 in
theorem x71_ : ∀ w ∈ rqM vwCl tMth tXn d71_.1.cls v71_, w ∈ tW0 := tEqW (K := [uw6_111, uw6_65, uw6_112, uw7_108, uw1_15, uw7_105, uw7_107, uw0_48]) rfl (tCoW uw6_111m (tCoW uw6_65m (tCoW uw6_112m (tCoW uw7_108m (tCoW uw1_15m (tCoW uw7_105m (tCoW uw7_107m (tCoW uw0_48m (tNiW)))))))))
set_option maxRecDepth 100000 in
theorem x72_ : ∀ w ∈ rqM vwCl tMth tXn d72_.1.cls v72_, w ∈ tW0 := tEqW (K := [uw6_55, uw6_56, uw6_84, uw6_69, uw6_65, uw6_111, uw6_123, uw6_126, uw6_127, uw6_113, uw6_60, uw7_108, uw1_15, uw7_105, uw7_107, uw0_48]) rfl (tCoW uw6_55m (tCoW uw6_56m (tCoW uw6_84m (tCoW uw6_69m (tCoW uw6_65m (tCoW uw6_111m (tCoW uw6_123m (tCoW uw6_126m (tCoW uw6_127m (tCoW uw6_113m (tCoW uw6_60m (tCoW uw7_108m (tCoW uw1_15m (tCoW uw7_105m (tCoW uw7_107m (tCoW uw0_48m (tNiW)))))))))))))))))
set_option maxRecDepth 100000 in
theorem x73_ : ∀ w ∈ rqM vwCl tMth tXn d73_.1.cls v73_, w ∈ tW0 := tEqW (K := [uw6_145, uw6_147, uw6_143, uw7_108, uw1_15, uw7_105, uw7_107, uw0_48, uw8_141, uw1_15, uw8_139, uw8_140]) rfl (tCoW uw6_145m (tCoW uw6_147m (tCoW uw6_143m (tCoW uw7_108m (tCoW uw1_15m (tCoW uw7_105m (tCoW uw7_107m (tCoW uw0_48m (tCoW uw8_141m (tCoW uw1_15m (tCoW uw8_139m (tCoW uw8_140m (tNiW)))))))))))))
set_option maxRecDepth 100000 in
theorem x74_ : ∀ w ∈ rqM vwCl tMth tXn d74_.1.cls v74_, w ∈ tW0 := tEqW (K := [uw6_56, uw6_54, uw8_181, uw7_108, uw1_15, uw7_105, uw7_107, uw0_48]) rfl (tCoW uw6_56m (tCoW uw6_54m (tCoW uw8_181m (tCoW uw7_108m (tCoW uw1_15m (tCoW uw7_105m (tCoW uw7_107m (tCoW uw0_48m (tNiW)))))))))
set_option maxRecDepth 100000 in
theorem x75_ : ∀ w ∈ rqM vwCl tMth tXn d75_.1.cls v75_, w ∈ tW0 := tEqW (K := [uw6_54, uw6_56]) rfl (tCoW uw6_54m (tCoW uw6_56m (tNiW)))
set_option maxRecDepth 100000 in
theorem x76_ : ∀ w ∈ rqM vwCl tMth tXn d76_.1.cls v76_, w ∈ tW0 := tEqW (K := [uw8_160, uw7_206, uw7_207, uw8_155, uw1_15, uw8_152, uw8_154, uw0_108]) rfl (tCoW uw8_160m (tCoW uw7_206m (tCoW uw7_207m (tCoW uw8_155m (tCoW uw1_15m (tCoW uw8_152m (tCoW uw8_154m (tCoW uw0_108m (tNiW)))))))))
set_option maxRecDepth 100000 in
theorem x77_ : ∀ w ∈ rqM vwCl tMth tXn d77_.1.cls v77_, w ∈ tW0 := tEqW (K := [uw6_111, uw6_114, uw6_56, uw6_63, uw6_62, uw6_64, uw6_120, uw6_59, uw6_57, uw6_58, uw7_201, uw8_138, uw1_15, uw8_135, uw8_137, uw0_107, uw7_108, uw1_15, uw7_105, uw7_107, uw0_48, uw8_155, uw1_15, uw8_152, uw8_154, uw0_108, uw8_90, uw1_15, uw8_88, uw8_89, uw8_159, uw1_15, uw8_156, uw8_158, uw0_109]) rfl (tCoW uw6_111m (tCoW uw6_114m (tCoW uw6_56m (tCoW uw6_63m (tCoW uw6_62m (tCoW uw6_64m (tCoW uw6_120m (tCoW uw6_59m (tCoW uw6_57m (tCoW uw6_58m (tCoW uw7_201m (tCoW uw8_138m (tCoW uw1_15m (tCoW uw8_135m (tCoW uw8_137m (tCoW uw0_107m (tCoW uw7_108m (tCoW uw1_15m (tCoW uw7_105m (tCoW uw7_107m (tCoW uw0_48m (tCoW uw8_155m (tCoW uw1_15m (tCoW uw8_152m (tCoW uw8_154m (tCoW uw0_108m (tCoW uw8_90m (tCoW uw1_15m (tCoW uw8_88m (tCoW uw8_89m (tCoW uw8_159m (tCoW uw1_15m (tCoW uw8_156m (tCoW uw8_158m (tCoW uw0_109m (tNiW))))))))))))))))))))))))))))))))))))
set_option maxRecDepth 100000 in
theorem x78_ : ∀ w ∈ rqM vwCl tMth tXn d78_.1.cls v78_, w ∈ tW0 := tEqW (K := [uw6_111, uw6_65, uw6_66, uw6_87, uw6_86, uw6_88, uw6_98, uw6_99, uw6_100, uw6_130, uw6_105, uw7_124, uw1_15, uw7_121, uw7_123, uw0_50, uw7_108, uw1_15, uw7_105, uw7_107, uw0_48, uw7_140, uw1_15, uw7_137, uw7_139, uw0_54, uw7_144, uw1_15, uw7_141, uw7_143, uw0_55, uw7_219, uw1_15, uw7_216, uw7_218, uw0_73, uw7_128, uw1_15, uw7_125, uw7_127, uw0_51, uw7_164, uw1_15, uw7_161, uw7_163, uw0_60, uw7_211, uw1_15, uw7_208, uw7_210, uw0_71, uw8_63, uw1_15, uw8_60, uw8_62, uw0_91]) rfl (tCoW uw6_111m (tCoW uw6_65m (tCoW uw6_66m (tCoW uw6_87m (tCoW uw6_86m (tCoW uw6_88m (tCoW uw6_98m (tCoW uw6_99m (tCoW uw6_100m (tCoW uw6_130m (tCoW uw6_105m (tCoW uw7_124m (tCoW uw1_15m (tCoW uw7_121m (tCoW uw7_123m (tCoW uw0_50m (tCoW uw7_108m (tCoW uw1_15m (tCoW uw7_105m (tCoW uw7_107m (tCoW uw0_48m (tCoW uw7_140m (tCoW uw1_15m (tCoW uw7_137m (tCoW uw7_139m (tCoW uw0_54m (tCoW uw7_144m (tCoW uw1_15m (tCoW uw7_141m (tCoW uw7_143m (tCoW uw0_55m (tCoW uw7_219m (tCoW uw1_15m (tCoW uw7_216m (tCoW uw7_218m (tCoW uw0_73m (tCoW uw7_128m (tCoW uw1_15m (tCoW uw7_125m (tCoW uw7_127m (tCoW uw0_51m (tCoW uw7_164m (tCoW uw1_15m (tCoW uw7_161m (tCoW uw7_163m (tCoW uw0_60m (tCoW uw7_211m (tCoW uw1_15m (tCoW uw7_208m (tCoW uw7_210m (tCoW uw0_71m (tCoW uw8_63m (tCoW uw1_15m (tCoW uw8_60m (tCoW uw8_62m (tCoW uw0_91m (tNiW)))))))))))))))))))))))))))))))))))))))))))))))))))))))))
set_option maxRecDepth 100000 in
theorem x79_ : ∀ w ∈ rqM vwCl tMth tXn d79_.1.cls v79_, w ∈ tW0 := tEqW (K := [uw6_111, uw6_65, uw6_66, uw6_87, uw6_86, uw6_88, uw6_123, uw6_133, uw6_136, uw6_124, uw6_129, uw6_146, uw6_126, uw6_145, uw6_77, uw6_147, uw6_143, uw6_144, uw7_124, uw1_15, uw7_121, uw7_123, uw0_50, uw7_108, uw1_15, uw7_105, uw7_107, uw0_48, uw7_140, uw1_15, uw7_137, uw7_139, uw0_54, uw7_227, uw1_15, uw7_224, uw7_226, uw0_75, uw7_128, uw1_15, uw7_125, uw7_127, uw0_51, uw7_164, uw1_15, uw7_161, uw7_163, uw0_60, uw8_23, uw1_15, uw8_20, uw8_22, uw0_84, uw8_27, uw1_15, uw8_24, uw8_26, uw0_85, uw8_71, uw1_15, uw8_68, uw8_70, uw0_93]) rfl (tCoW uw6_111m (tCoW uw6_65m (tCoW uw6_66m (tCoW uw6_87m (tCoW uw6_86m (tCoW uw6_88m (tCoW uw6_123m (tCoW uw6_133m (tCoW uw6_136m (tCoW uw6_124m (tCoW uw6_129m (tCoW uw6_146m (tCoW uw6_126m (tCoW uw6_145m (tCoW uw6_77m (tCoW uw6_147m (tCoW uw6_143m (tCoW uw6_144m (tCoW uw7_124m (tCoW uw1_15m (tCoW uw7_121m (tCoW uw7_123m (tCoW uw0_50m (tCoW uw7_108m (tCoW uw1_15m (tCoW uw7_105m (tCoW uw7_107m (tCoW uw0_48m (tCoW uw7_140m (tCoW uw1_15m (tCoW uw7_137m (tCoW uw7_139m (tCoW uw0_54m (tCoW uw7_227m (tCoW uw1_15m (tCoW uw7_224m (tCoW uw7_226m (tCoW uw0_75m (tCoW uw7_128m (tCoW uw1_15m (tCoW uw7_125m (tCoW uw7_127m (tCoW uw0_51m (tCoW uw7_164m (tCoW uw1_15m (tCoW uw7_161m (tCoW uw7_163m (tCoW uw0_60m (tCoW uw8_23m (tCoW uw1_15m (tCoW uw8_20m (tCoW uw8_22m (tCoW uw0_84m (tCoW uw8_27m (tCoW uw1_15m (tCoW uw8_24m (tCoW uw8_26m (tCoW uw0_85m (tCoW uw8_71m (tCoW uw1_15m (tCoW uw8_68m (tCoW uw8_70m (tCoW uw0_93m (tNiW))))))))))))))))))))))))))))))))))))))))))))))))))))))))))))))))
set_option maxRecDepth 100000 in
theorem x80_ : ∀ w ∈ rqM vwCl tMth tXn d80_.1.cls v80_, w ∈ tW0 := tEqW (K := [uw1_221, uw1_220]) rfl (tCoW uw1_221m (tCoW uw1_220m (tNiW)))
set_option maxRecDepth 100000 in
theorem x81_ : ∀ w ∈ rqM vwCl tMth tXn d81_.1.cls v81_, w ∈ tW0 := tEqW (K := [uw1_221, uw1_220]) rfl (tCoW uw1_221m (tCoW uw1_220m (tNiW)))
set_option maxRecDepth 100000 in
theorem x82_ : ∀ w ∈ rqM vwCl tMth tXn d82_.1.cls v82_, w ∈ tW0 := tEqW (K := []) rfl (tNiW)
set_option maxRecDepth 100000 in
theorem x83_ : ∀ w ∈ rqM vwCl tMth tXn d83_.1.cls v83_, w ∈ tW0 := tEqW (K := []) rfl (tNiW)
set_option maxRecDepth 100000 in
theorem x84_ : ∀ w ∈ rqM vwCl tMth tXn d84_.1.cls v84_, w ∈ tW0 := tEqW (K := []) rfl (tNiW)
set_option maxRecDepth 100000 in
theorem x85_ : ∀ w ∈ rqM vwCl tMth tXn d85_.1.cls v85_, w ∈ tW0 := tEqW (K := []) rfl (tNiW)
set_option maxRecDepth 100000 in
theorem x86_ : ∀ w ∈ rqM vwCl tMth tXn d86_.1.cls v86_, w ∈ tW0 := tEqW (K := [uw1_64, uw1_71, uw1_73, uw1_68, uw1_75, uw1_80, uw1_87, uw1_60, uw3_89, uw1_10, uw3_87, uw3_88]) rfl (tCoW uw1_64m (tCoW uw1_71m (tCoW uw1_73m (tCoW uw1_68m (tCoW uw1_75m (tCoW uw1_80m (tCoW uw1_87m (tCoW uw1_60m (tCoW uw3_89m (tCoW uw1_10m (tCoW uw3_87m (tCoW uw3_88m (tNiW)))))))))))))
set_option maxRecDepth 100000 in
theorem x87_ : ∀ w ∈ rqM vwCl tMth tXn d87_.1.cls v87_, w ∈ tW0 := tEqW (K := [uw1_68, uw1_52, uw1_58, uw1_55, uw1_60]) rfl (tCoW uw1_68m (tCoW uw1_52m (tCoW uw1_58m (tCoW uw1_55m (tCoW uw1_60m (tNiW))))))
set_option maxRecDepth 100000 in
theorem x88_ : ∀ w ∈ rqM vwCl tMth tXn d88_.1.cls v88_, w ∈ tW0 := tEqW (K := []) rfl (tNiW)
set_option maxRecDepth 100000 in
theorem x89_ : ∀ w ∈ rqM vwCl tMth tXn d89_.1.cls v89_, w ∈ tW0 := tEqW (K := []) rfl (tNiW)
set_option maxRecDepth 100000 in
theorem x90_ : ∀ w ∈ rqM vwCl tMth tXn d90_.1.cls v90_, w ∈ tW0 := tEqW (K := []) rfl (tNiW)
set_option maxRecDepth 100000 in
theorem x91_ : ∀ w ∈ rqM vwCl tMth tXn d91_.1.cls v91_, w ∈ tW0 := tEqW (K := []) rfl (tNiW)
set_option maxRecDepth 100000 in
theorem x92_ : ∀ w ∈ rqM vwCl tMth tXn d92_.1.cls v92_, w ∈ tW0 := tEqW (K := [uw1_235]) rfl (tCoW uw1_235m (tNiW))
set_option maxRecDepth 100000 in
theorem x93_ : ∀ w ∈ rqM vwCl tMth tXn d93_.1.cls v93_, w ∈ tW0 := tEqW (K := [uw2_5, uw2_8, uw1_236]) rfl (tCoW uw2_5m (tCoW uw2_8m (tCoW uw1_236m (tNiW))))
set_option maxRecDepth 100000 in
theorem x94_ : ∀ w ∈ rqM vwCl tMth tXn d94_.1.cls v94_, w ∈ tW0 := tEqW (K := [uw1_239, uw1_238, uw3_50, uw1_5, uw3_47, uw3_49, uw0_0]) rfl (tCoW uw1_239m (tCoW uw1_238m (tCoW uw3_50m (tCoW uw1_5m (tCoW uw3_47m (tCoW uw3_49m (tCoW uw0_0m (tNiW))))))))
set_option maxRecDepth 100000 in
theorem x95_ : ∀ w ∈ rqM vwCl tMth tXn d95_.1.cls v95_, w ∈ tW0 := tEqW (K := [uw1_233]) rfl (tCoW uw1_233m (tNiW))
set_option maxRecDepth 100000 in
theorem x96_ : ∀ w ∈ rqM vwCl tMth tXn d96_.1.cls v96_, w ∈ tW0 := tEqW (K := [uw1_233, uw1_231]) rfl (tCoW uw1_233m (tCoW uw1_231m (tNiW)))
set_option maxRecDepth 100000 in
theorem x97_ : ∀ w ∈ rqM vwCl tMth tXn d97_.1.cls v97_, w ∈ tW0 := tEqW (K := [uw1_238, uw1_233, uw1_231]) rfl (tCoW uw1_238m (tCoW uw1_233m (tCoW uw1_231m (tNiW))))
set_option maxRecDepth 100000 in
theorem x98_ : ∀ w ∈ rqM vwCl tMth tXn d98_.1.cls v98_, w ∈ tW0 := tEqW (K := [uw1_238, uw2_1, uw1_233, uw1_231, uw2_0, uw3_78, uw3_77, uw1_5, uw3_75, uw3_76, uw3_70, uw1_5, uw3_67, uw3_69, uw0_1]) rfl (tCoW uw1_238m (tCoW uw2_1m (tCoW uw1_233m (tCoW uw1_231m (tCoW uw2_0m (tCoW uw3_78m (tCoW uw3_77m (tCoW uw1_5m (tCoW uw3_75m (tCoW uw3_76m (tCoW uw3_70m (tCoW uw1_5m (tCoW uw3_67m (tCoW uw3_69m (tCoW uw0_1m (tNiW))))))))))))))))
set_option maxRecDepth 100000 in
theorem x99_ : ∀ w ∈ rqM vwCl tMth tXn d99_.1.cls v99_, w ∈ tW0 := tEqW (K := [uw1_238, uw1_233, uw1_231, uw2_2, uw3_152, uw3_147, uw1_5, uw3_145, uw3_146, uw3_70, uw1_5, uw3_67, uw3_69, uw0_1]) rfl (tCoW uw1_238m (tCoW uw1_233m (tCoW uw1_231m (tCoW uw2_2m (tCoW uw3_152m (tCoW uw3_147m (tCoW uw1_5m (tCoW uw3_145m (tCoW uw3_146m (tCoW uw3_70m (tCoW uw1_5m (tCoW uw3_67m (tCoW uw3_69m (tCoW uw0_1m (tNiW)))))))))))))))
set_option maxRecDepth 100000 in
theorem x100_ : ∀ w ∈ rqM vwCl tMth tXn d100_.1.cls v100_, w ∈ tW0 := tEqW (K := [uw1_236]) rfl (tCoW uw1_236m (tNiW))
set_option maxRecDepth 100000 in
theorem x101_ : ∀ w ∈ rqM vwCl tMth tXn d101_.1.cls v101_, w ∈ tW0 := tEqW (K := [uw2_5, uw2_3]) rfl (tCoW uw2_5m (tCoW uw2_3m (tNiW)))
set_option maxRecDepth 100000 in
theorem x102_ : ∀ w ∈ rqM vwCl tMth tXn d102_.1.cls v102_, w ∈ tW0 := tEqW (K := [uw2_4, uw2_5, uw2_3, uw3_108, uw1_5, uw3_105, uw3_107, uw0_7]) rfl (tCoW uw2_4m (tCoW uw2_5m (tCoW uw2_3m (tCoW uw3_108m (tCoW uw1_5m (tCoW uw3_105m (tCoW uw3_107m (tCoW uw0_7m (tNiW)))))))))
set_option maxRecDepth 100000 in
theorem x103_ : ∀ w ∈ rqM vwCl tMth tXn d103_.1.cls v103_, w ∈ tW0 := tEqW (K := [uw2_8, uw2_6, uw2_1, uw2_7]) rfl (tCoW uw2_8m (tCoW uw2_6m (tCoW uw2_1m (tCoW uw2_7m (tNiW)))))
set_option maxRecDepth 100000 in
theorem x104_ : ∀ w ∈ rqM vwCl tMth tXn d104_.1.cls v104_, w ∈ tW0 := tEqW (K := [uw3_128, uw3_129, uw3_130, uw3_131]) rfl (tCoW uw3_128m (tCoW uw3_129m (tCoW uw3_130m (tCoW uw3_131m (tNiW)))))
set_option maxRecDepth 100000 in
theorem x105_ : ∀ w ∈ rqM vwCl tMth tXn d105_.1.cls v105_, w ∈ tW0 := tEqW (K := [uw1_165, uw1_176, uw1_170, uw1_177, uw1_172, uw1_178]) rfl (tCoW uw1_165m (tCoW uw1_176m (tCoW uw1_170m (tCoW uw1_177m (tCoW uw1_172m (tCoW uw1_178m (tNiW)))))))
set_option maxRecDepth 100000 in
theorem x106_ : ∀ w ∈ rqM vwCl tMth tXn d106_.1.cls v106_, w ∈ tW0 := tEqW (K := [uw1_170, uw1_177, uw1_172, uw1_178]) rfl (tCoW uw1_170m (tCoW uw1_177m (tCoW uw1_172m (tCoW uw1_178m (tNiW)))))
set_option maxRecDepth 100000 in
theorem x107_ : ∀ w ∈ rqM vwCl tMth tXn d107_.1.cls v107_, w ∈ tW0 := tEqW (K := [uw1_165, uw1_152, uw1_154]) rfl (tCoW uw1_165m (tCoW uw1_152m (tCoW uw1_154m (tNiW))))
set_option maxRecDepth 100000 in
theorem x108_ : ∀ w ∈ rqM vwCl tMth tXn d108_.1.cls v108_, w ∈ tW0 := tEqW (K := [uw1_165, uw1_152, uw1_154]) rfl (tCoW uw1_165m (tCoW uw1_152m (tCoW uw1_154m (tNiW))))
set_option maxRecDepth 100000 in
theorem x109_ : ∀ w ∈ rqM vwCl tMth tXn d109_.1.cls v109_, w ∈ tW0 := tEqW (K := [uw1_161, uw1_61]) rfl (tCoW uw1_161m (tCoW uw1_61m (tNiW)))
set_option maxRecDepth 100000 in
theorem x110_ : ∀ w ∈ rqM vwCl tMth tXn d110_.1.cls v110_, w ∈ tW0 := tEqW (K := [uw1_170, uw1_159, uw1_77, uw3_187, uw1_2, uw3_184, uw3_186, uw0_15]) rfl (tCoW uw1_170m (tCoW uw1_159m (tCoW uw1_77m (tCoW uw3_187m (tCoW uw1_2m (tCoW uw3_184m (tCoW uw3_186m (tCoW uw0_15m (tNiW)))))))))
set_option maxRecDepth 100000 in
theorem x111_ : ∀ w ∈ rqM vwCl tMth tXn d111_.1.cls v111_, w ∈ tW0 := tEqW (K := [uw1_170, uw1_159, uw1_77, uw1_61, uw1_161]) rfl (tCoW uw1_170m (tCoW uw1_159m (tCoW uw1_77m (tCoW uw1_61m (tCoW uw1_161m (tNiW))))))
set_option maxRecDepth 100000 in
theorem x112_ : ∀ w ∈ rqM vwCl tMth tXn d112_.1.cls v112_, w ∈ tW0 := tEqW (K := [uw1_170, uw1_159, uw1_161]) rfl (tCoW uw1_170m (tCoW uw1_159m (tCoW uw1_161m (tNiW))))
set_option maxRecDepth 100000 in
theorem x113_ : ∀ w ∈ rqM vwCl tMth tXn d113_.1.cls v113_, w ∈ tW0 := tEqW (K := [uw1_163, uw1_164]) rfl (tCoW uw1_163m (tCoW uw1_164m (tNiW)))
set_option maxRecDepth 100000 in
theorem x114_ : ∀ w ∈ rqM vwCl tMth tXn d114_.1.cls v114_, w ∈ tW0 := tEqW (K := [uw1_137, uw1_132]) rfl (tCoW uw1_137m (tCoW uw1_132m (tNiW)))
set_option maxRecDepth 100000 in
theorem x115_ : ∀ w ∈ rqM vwCl tMth tXn d115_.1.cls v115_, w ∈ tW0 := tEqW (K := [uw1_228, uw1_72, uw1_69, uw1_79, uw1_239, uw1_74, uw3_163, uw1_2, uw3_160, uw3_161, uw3_162, uw3_167, uw1_2, uw3_164, uw3_165, uw3_166, uw3_70, uw1_5, uw3_67, uw3_69, uw0_1]) rfl (tCoW uw1_228m (tCoW uw1_72m (tCoW uw1_69m (tCoW uw1_79m (tCoW uw1_239m (tCoW uw1_74m (tCoW uw3_163m (tCoW uw1_2m (tCoW uw3_160m (tCoW uw3_161m (tCoW uw3_162m (tCoW uw3_167m (tCoW uw1_2m (tCoW uw3_164m (tCoW uw3_165m (tCoW uw3_166m (tCoW uw3_70m (tCoW uw1_5m (tCoW uw3_67m (tCoW uw3_69m (tCoW uw0_1m (tNiW))))))))))))))))))))))
set_option maxRecDepth 100000 in
theorem x116_ : ∀ w ∈ rqM vwCl tMth tXn d116_.1.cls v116_, w ∈ tW0 := tEqW (K := [uw1_229, uw3_144, uw3_143, uw1_6, uw3_140, uw3_141, uw3_142, uw3_116, uw1_4, uw3_113, uw3_114, uw3_115, uw3_70, uw1_5, uw3_67, uw3_69, uw0_1]) rfl (tCoW uw1_229m (tCoW uw3_144m (tCoW uw3_143m (tCoW uw1_6m (tCoW uw3_140m (tCoW uw3_141m (tCoW uw3_142m (tCoW uw3_116m (tCoW uw1_4m (tCoW uw3_113m (tCoW uw3_114m (tCoW uw3_115m (tCoW uw3_70m (tCoW uw1_5m (tCoW uw3_67m (tCoW uw3_69m (tCoW uw0_1m (tNiW))))))))))))))))))
set_option maxRecDepth 100000 in
theorem x117_ : ∀ w ∈ rqM vwCl tMth tXn d117_.1.cls v117_, w ∈ tW0 := tEqW (K := [uw1_238, uw2_0, uw2_2, uw3_54, uw1_5, uw3_63, uw3_52, uw3_53, uw3_66, uw1_5, uw3_64, uw3_65, uw3_74, uw1_5, uw3_71, uw3_73, uw0_2, uw3_139, uw1_5, uw3_136, uw3_138, uw0_12, uw3_147, uw1_5, uw3_145, uw3_146, uw3_70, uw1_5, uw3_67, uw3_69, uw0_1, uw3_151, uw1_5, uw3_148, uw3_150, uw0_13, uw3_116, uw1_4, uw3_113, uw3_114, uw3_115]) rfl (tCoW uw1_238m (tCoW uw2_0m (tCoW uw2_2m (tCoW uw3_54m (tCoW uw1_5m (tCoW uw3_63m (tCoW uw3_52m (tCoW uw3_53m (tCoW uw3_66m (tCoW uw1_5m (tCoW uw3_64m (tCoW uw3_65m (tCoW uw3_74m (tCoW uw1_5m (tCoW uw3_71m (tCoW uw3_73m (tCoW uw0_2m (tCoW uw3_139m (tCoW uw1_5m (tCoW uw3_136m (tCoW uw3_138m (tCoW uw0_12m (tCoW uw3_147m (tCoW uw1_5m (tCoW uw3_145m (tCoW uw3_146m (tCoW uw3_70m (tCoW uw1_5m (tCoW uw3_67m (tCoW uw3_69m (tCoW uw0_1m (tCoW uw3_151m (tCoW uw1_5m (tCoW uw3_148m (tCoW uw3_150m (tCoW uw0_13m (tCoW uw3_116m (tCoW uw1_4m (tCoW uw3_113m (tCoW uw3_114m (tCoW uw3_115m (tNiW))))))))))))))))))))))))))))))))))))))))))
set_option maxRecDepth 100000 in
theorem x118_ : ∀ w ∈ rqM vwCl tMth tXn d118_.1.cls v118_, w ∈ tW0 := tEqW (K := [uw2_0, uw2_1, uw1_67, uw1_236, uw3_104, uw1_5, uw3_101, uw3_103, uw0_6, uw3_70, uw1_5, uw3_67, uw3_69, uw0_1, uw3_112, uw1_5, uw3_109, uw3_111, uw0_8, uw3_116, uw1_4, uw3_113, uw3_114, uw3_115, uw3_120, uw1_5, uw3_117, uw3_119, uw0_9]) rfl (tCoW uw2_0m (tCoW uw2_1m (tCoW uw1_67m (tCoW uw1_236m (tCoW uw3_104m (tCoW uw1_5m (tCoW uw3_101m (tCoW uw3_103m (tCoW uw0_6m (tCoW uw3_70m (tCoW uw1_5m (tCoW uw3_67m (tCoW uw3_69m (tCoW uw0_1m (tCoW uw3_112m (tCoW uw1_5m (tCoW uw3_109m (tCoW uw3_111m (tCoW uw0_8m (tCoW uw3_116m (tCoW uw1_4m (tCoW uw3_113m (tCoW uw3_114m (tCoW uw3_115m (tCoW uw3_120m (tCoW uw1_5m (tCoW uw3_117m (tCoW uw3_119m (tCoW uw0_9m (tNiW))))))))))))))))))))))))))))))
set_option maxRecDepth 100000 in
theorem x119_ : ∀ w ∈ rqM vwCl tMth tXn d119_.1.cls v119_, w ∈ tW0 := tEqW (K := [uw2_4, uw3_108, uw1_5, uw3_105, uw3_107, uw0_7, uw3_112, uw1_5, uw3_109, uw3_111, uw0_8, uw3_70, uw1_5, uw3_67, uw3_69, uw0_1, uw3_116, uw1_4, uw3_113, uw3_114, uw3_115]) rfl (tCoW uw2_4m (tCoW uw3_108m (tCoW uw1_5m (tCoW uw3_105m (tCoW uw3_107m (tCoW uw0_7m (tCoW uw3_112m (tCoW uw1_5m (tCoW uw3_109m (tCoW uw3_111m (tCoW uw0_8m (tCoW uw3_70m (tCoW uw1_5m (tCoW uw3_67m (tCoW uw3_69m (tCoW uw0_1m (tCoW uw3_116m (tCoW uw1_4m (tCoW uw3_113m (tCoW uw3_114m (tCoW uw3_115m (tNiW))))))))))))))))))))))
set_option maxRecDepth 100000 in
theorem x120_ : ∀ w ∈ rqM vwCl tMth tXn d120_.1.cls v120_, w ∈ tW0 := tEqW (K := [uw2_0, uw2_1, uw3_54, uw1_5, uw3_63, uw3_52, uw3_53, uw3_96, uw1_5, uw3_94, uw3_95, uw3_135, uw1_5, uw3_132, uw3_134, uw0_11, uw3_74, uw1_5, uw3_71, uw3_73, uw0_2, uw3_223, uw1_5, uw3_220, uw3_222, uw0_19]) rfl (tCoW uw2_0m (tCoW uw2_1m (tCoW uw3_54m (tCoW uw1_5m (tCoW uw3_63m (tCoW uw3_52m (tCoW uw3_53m (tCoW uw3_96m (tCoW uw1_5m (tCoW uw3_94m (tCoW uw3_95m (tCoW uw3_135m (tCoW uw1_5m (tCoW uw3_132m (tCoW uw3_134m (tCoW uw0_11m (tCoW uw3_74m (tCoW uw1_5m (tCoW uw3_71m (tCoW uw3_73m (tCoW uw0_2m (tCoW uw3_223m (tCoW uw1_5m (tCoW uw3_220m (tCoW uw3_222m (tCoW uw0_19m (tNiW)))))))))))))))))))))))))))
set_option maxRecDepth 100000 in
theorem x121_ : ∀ w ∈ rqM vwCl tMth tXn d121_.1.cls v121_, w ∈ tW0 := tEqW (K := [uw1_90, uw1_238, uw1_69, uw1_92, uw2_0, uw2_1, uw1_95, uw1_94, uw3_70, uw1_5, uw3_67, uw3_69, uw0_1, uw3_116, uw1_4, uw3_113, uw3_114, uw3_115, uw3_54, uw1_5, uw3_63, uw3_52, uw3_53, uw3_66, uw1_5, uw3_64, uw3_65, uw3_74, uw1_5, uw3_71, uw3_73, uw0_2, uw3_127, uw1_5, uw3_125, uw3_126, uw3_96, uw1_5, uw3_94, uw3_95, uw3_104, uw1_5, uw3_101, uw3_103, uw0_6]) rfl (tCoW uw1_90m (tCoW uw1_238m (tCoW uw1_69m (tCoW uw1_92m (tCoW uw2_0m (tCoW uw2_1m (tCoW uw1_95m (tCoW uw1_94m (tCoW uw3_70m (tCoW uw1_5m (tCoW uw3_67m (tCoW uw3_69m (tCoW uw0_1m (tCoW uw3_116m (tCoW uw1_4m (tCoW uw3_113m (tCoW uw3_114m (tCoW uw3_115m (tCoW uw3_54m (tCoW uw1_5m (tCoW uw3_63m (tCoW uw3_52m (tCoW uw3_53m (tCoW uw3_66m (tCoW uw1_5m (tCoW uw3_64m (tCoW uw3_65m (tCoW uw3_74m (tCoW uw1_5m (tCoW uw3_71m (tCoW uw3_73m (tCoW uw0_2m (tCoW uw3_127m (tCoW uw1_5m (tCoW uw3_125m (tCoW uw3_126m (tCoW uw3_96m (tCoW uw1_5m (tCoW uw3_94m (tCoW uw3_95m (tCoW uw3_104m (tCoW uw1_5m (tCoW uw3_101m (tCoW uw3_103m (tCoW uw0_6m (tNiW))))))))))))))))))))))))))))))))))))))))))))))
set_option maxRecDepth 100000 in
theorem x122_ : ∀ w ∈ rqM vwCl tMth tXn d122_.1.cls v122_, w ∈ tW0 := tEqW (K := [uw1_67, uw1_238, uw3_54, uw1_5, uw3_63, uw3_52, uw3_53, uw3_96, uw1_5, uw3_94, uw3_95, uw3_74, uw1_5, uw3_71, uw3_73, uw0_2, uw3_100, uw1_5, uw3_97, uw3_99, uw0_5, uw3_124, uw1_5, uw3_121, uw3_123, uw0_10, uw3_116, uw1_4, uw3_113, uw3_114, uw3_115, uw3_135, uw1_5, uw3_132, uw3_134, uw0_11]) rfl (tCoW uw1_67m (tCoW uw1_238m (tCoW uw3_54m (tCoW uw1_5m (tCoW uw3_63m (tCoW uw3_52m (tCoW uw3_53m (tCoW uw3_96m (tCoW uw1_5m (tCoW uw3_94m (tCoW uw3_95m (tCoW uw3_74m (tCoW uw1_5m (tCoW uw3_71m (tCoW uw3_73m (tCoW uw0_2m (tCoW uw3_100m (tCoW uw1_5m (tCoW uw3_97m (tCoW uw3_99m (tCoW uw0_5m (tCoW uw3_124m (tCoW uw1_5m (tCoW uw3_121m (tCoW uw3_123m (tCoW uw0_10m (tCoW uw3_116m (tCoW uw1_4m (tCoW uw3_113m (tCoW uw3_114m (tCoW uw3_115m (tCoW uw3_135m (tCoW uw1_5m (tCoW uw3_132m (tCoW uw3_134m (tCoW uw0_11m (tNiW)))))))))))))))))))))))))))))))))))))
set_option maxRecDepth 100000 in
theorem x123_ : ∀ w ∈ rqM vwCl tMth tXn d123_.1.cls v123_, w ∈ tW0 := tEqW (K := [uw1_53, uw1_56]) rfl (tCoW uw1_53m (tCoW uw1_56m (tNiW)))
set_option maxRecDepth 100000 in
theorem x124_ : ∀ w ∈ rqM vwCl tMth tXn d124_.1.cls v124_, w ∈ tW0 := tEqW (K := [uw2_0, uw2_1, uw1_236, uw1_238, uw1_82, uw3_86, uw1_4, uw3_83, uw3_84, uw3_85, uw3_54, uw1_5, uw3_63, uw3_52, uw3_53, uw3_70, uw1_5, uw3_67, uw3_69, uw0_1, uw3_93, uw1_5, uw3_90, uw3_92, uw0_4, uw3_155, uw1_5, uw3_153, uw3_154, uw3_159, uw1_5, uw3_156, uw3_158, uw0_14]) rfl (tCoW uw2_0m (tCoW uw2_1m (tCoW uw1_236m (tCoW uw1_238m (tCoW uw1_82m (tCoW uw3_86m (tCoW uw1_4m (tCoW uw3_83m (tCoW uw3_84m (tCoW uw3_85m (tCoW uw3_54m (tCoW uw1_5m (tCoW uw3_63m (tCoW uw3_52m (tCoW uw3_53m (tCoW uw3_70m (tCoW uw1_5m (tCoW uw3_67m (tCoW uw3_69m (tCoW uw0_1m (tCoW uw3_93m (tCoW uw1_5m (tCoW uw3_90m (tCoW uw3_92m (tCoW uw0_4m (tCoW uw3_155m (tCoW uw1_5m (tCoW uw3_153m (tCoW uw3_154m (tCoW uw3_159m (tCoW uw1_5m (tCoW uw3_156m (tCoW uw3_158m (tCoW uw0_14m (tNiW)))))))))))))))))))))))))))))))))))
set_option maxRecDepth 100000 in
theorem x125_ : ∀ w ∈ rqM vwCl tMth tXn d125_.1.cls v125_, w ∈ tW0 := tEqW (K := [uw1_139, uw1_142, uw1_238, uw1_135, uw3_50, uw1_5, uw3_47, uw3_49, uw0_0, uw3_54, uw1_5, uw3_63, uw3_52, uw3_53, uw3_66, uw1_5, uw3_64, uw3_65, uw3_70, uw1_5, uw3_67, uw3_69, uw0_1, uw3_74, uw1_5, uw3_71, uw3_73, uw0_2, uw3_82, uw1_5, uw3_79, uw3_81, uw0_3]) rfl (tCoW uw1_139m (tCoW uw1_142m (tCoW uw1_238m (tCoW uw1_135m (tCoW uw3_50m (tCoW uw1_5m (tCoW uw3_47m (tCoW uw3_49m (tCoW uw0_0m (tCoW uw3_54m (tCoW uw1_5m (tCoW uw3_63m (tCoW uw3_52m (tCoW uw3_53m (tCoW uw3_66m (tCoW uw1_5m (tCoW uw3_64m (tCoW uw3_65m (tCoW uw3_70m (tCoW uw1_5m (tCoW uw3_67m (tCoW uw3_69m (tCoW uw0_1m (tCoW uw3_74m (tCoW uw1_5m (tCoW uw3_71m (tCoW uw3_73m (tCoW uw0_2m (tCoW uw3_82m (tCoW uw1_5m (tCoW uw3_79m (tCoW uw3_81m (tCoW uw0_3m (tNiW))))))))))))))))))))))))))))))))))
set_option maxRecDepth 100000 in
theorem x126_ : ∀ w ∈ rqM vwCl tMth tXn d126_.1.cls v126_, w ∈ tW0 := tEqW (K := [uw1_69, uw1_53, uw1_59, uw3_70, uw1_5, uw3_67, uw3_69, uw0_1]) rfl (tCoW uw1_69m (tCoW uw1_53m (tCoW uw1_59m (tCoW uw3_70m (tCoW uw1_5m (tCoW uw3_67m (tCoW uw3_69m (tCoW uw0_1m (tNiW)))))))))
set_option maxRecDepth 100000 in
theorem x127_ : ∀ w ∈ rqM vwCl tMth tXn d127_.1.cls v127_, w ∈ tW0 := tEqW (K := [uw1_238, uw3_54, uw1_5, uw3_63, uw3_52, uw3_53, uw3_70, uw1_5, uw3_67, uw3_69, uw0_1, uw3_179, uw1_5, uw3_176, uw3_177, uw3_178]) rfl (tCoW uw1_238m (tCoW uw3_54m (tCoW uw1_5m (tCoW uw3_63m (tCoW uw3_52m (tCoW uw3_53m (tCoW uw3_70m (tCoW uw1_5m (tCoW uw3_67m (tCoW uw3_69m (tCoW uw0_1m (tCoW uw3_179m (tCoW uw1_5m (tCoW uw3_176m (tCoW uw3_177m (tCoW uw3_178m (tNiW)))))))))))))))))
set_option maxRecDepth 100000 in
theorem x128_ : ∀ w ∈ rqM vwCl tMth tXn d128_.1.cls v128_, w ∈ tW0 := tEqW (K := [uw1_238, uw3_54, uw1_5, uw3_63, uw3_52, uw3_53, uw3_70, uw1_5, uw3_67, uw3_69, uw0_1]) rfl (tCoW uw1_238m (tCoW uw3_54m (tCoW uw1_5m (tCoW uw3_63m (tCoW uw3_52m (tCoW uw3_53m (tCoW uw3_70m (tCoW uw1_5m (tCoW uw3_67m (tCoW uw3_69m (tCoW uw0_1m (tNiW))))))))))))
set_option maxRecDepth 100000 in
theorem x129_ : ∀ w ∈ rqM vwCl tMth tXn d129_.1.cls v129_, w ∈ tW0 := tEqW (K := [uw1_228, uw1_74, uw3_175, uw1_5, uw3_172, uw3_173, uw3_174, uw3_183, uw1_2, uw3_180, uw3_181, uw3_182, uw3_191, uw1_2, uw3_188, uw3_189, uw3_190, uw3_70, uw1_5, uw3_67, uw3_69, uw0_1]) rfl (tCoW uw1_228m (tCoW uw1_74m (tCoW uw3_175m (tCoW uw1_5m (tCoW uw3_172m (tCoW uw3_173m (tCoW uw3_174m (tCoW uw3_183m (tCoW uw1_2m (tCoW uw3_180m (tCoW uw3_181m (tCoW uw3_182m (tCoW uw3_191m (tCoW uw1_2m (tCoW uw3_188m (tCoW uw3_189m (tCoW uw3_190m (tCoW uw3_70m (tCoW uw1_5m (tCoW uw3_67m (tCoW uw3_69m (tCoW uw0_1m (tNiW)))))))))))))))))))))))
set_option maxRecDepth 100000 in
theorem x130_ : ∀ w ∈ rqM vwCl tMth tXn d130_.1.cls v130_, w ∈ tW0 := tEqW (K := [uw1_238, uw1_233, uw1_231, uw1_228, uw1_175, uw1_74, uw3_54, uw1_5, uw3_63, uw3_52, uw3_53, uw3_70, uw1_5, uw3_67, uw3_69, uw0_1]) rfl (tCoW uw1_238m (tCoW uw1_233m (tCoW uw1_231m (tCoW uw1_228m (tCoW uw1_175m (tCoW uw1_74m (tCoW uw3_54m (tCoW uw1_5m (tCoW uw3_63m (tCoW uw3_52m (tCoW uw3_53m (tCoW uw3_70m (tCoW uw1_5m (tCoW uw3_67m (tCoW uw3_69m (tCoW uw0_1m (tNiW)))))))))))))))))
set_option maxRecDepth 100000 in
theorem x131_ : ∀ w ∈ rqM vwCl tMth tXn d131_.1.cls v131_, w ∈ tW0 := tEqW (K := [uw2_8, uw2_4, uw2_7, uw2_6, uw3_70, uw1_5, uw3_67, uw3_69, uw0_1]) rfl (tCoW uw2_8m (tCoW uw2_4m (tCoW uw2_7m (tCoW uw2_6m (tCoW uw3_70m (tCoW uw1_5m (tCoW uw3_67m (tCoW uw3_69m (tCoW uw0_1m (tNiW))))))))))
set_option maxRecDepth 100000 in
theorem x132_ : ∀ w ∈ rqM vwCl tMth tXn d132_.1.cls v132_, w ∈ tW0 := tEqW (K := [uw1_69, uw1_53, uw1_56, uw1_59, uw1_90, uw1_94, uw1_95, uw3_112, uw1_5, uw3_109, uw3_111, uw0_8, uw3_70, uw1_5, uw3_67, uw3_69, uw0_1]) rfl (tCoW uw1_69m (tCoW uw1_53m (tCoW uw1_56m (tCoW uw1_59m (tCoW uw1_90m (tCoW uw1_94m (tCoW uw1_95m (tCoW uw3_112m (tCoW uw1_5m (tCoW uw3_109m (tCoW uw3_111m (tCoW uw0_8m (tCoW uw3_70m (tCoW uw1_5m (tCoW uw3_67m (tCoW uw3_69m (tCoW uw0_1m (tNiW))))))))))))))))))
set_option maxRecDepth 100000 in
theorem x133_ : ∀ w ∈ rqM vwCl tMth tXn d133_.1.cls v133_, w ∈ tW0 := tEqW (K := [uw1_238, uw1_67, uw1_233, uw1_231, uw3_54, uw1_5, uw3_63, uw3_52, uw3_53, uw3_70, uw1_5, uw3_67, uw3_69, uw0_1]) rfl (tCoW uw1_238m (tCoW uw1_67m (tCoW uw1_233m (tCoW uw1_231m (tCoW uw3_54m (tCoW uw1_5m (tCoW uw3_63m (tCoW uw3_52m (tCoW uw3_53m (tCoW uw3_70m (tCoW uw1_5m (tCoW uw3_67m (tCoW uw3_69m (tCoW uw0_1m (tNiW)))))))))))))))
set_option maxRecDepth 100000 in
theorem x134_ : ∀ w ∈ rqM vwCl tMth tXn d134_.1.cls v134_, w ∈ tW0 := tEqW (K := [uw3_86, uw1_4, uw3_83, uw3_84, uw3_85, uw3_231, uw1_5, uw3_228, uw3_230, uw0_21, uw3_223, uw1_5, uw3_220, uw3_222, uw0_19, uw3_219, uw1_5, uw3_216, uw3_218, uw0_18]) rfl (tCoW uw3_86m (tCoW uw1_4m (tCoW uw3_83m (tCoW uw3_84m (tCoW uw3_85m (tCoW uw3_231m (tCoW uw1_5m (tCoW uw3_228m (tCoW uw3_230m (tCoW uw0_21m (tCoW uw3_223m (tCoW uw1_5m (tCoW uw3_220m (tCoW uw3_222m (tCoW uw0_19m (tCoW uw3_219m (tCoW uw1_5m (tCoW uw3_216m (tCoW uw3_218m (tCoW uw0_18m (tNiW)))))))))))))))))))))
set_option maxRecDepth 100000 in
theorem x135_ : ∀ w ∈ rqM vwCl tMth tXn d135_.1.cls v135_, w ∈ tW0 := tEqW (K := [uw2_0, uw2_1, uw1_86, uw1_238, uw1_67, uw1_236, uw3_215, uw3_74, uw1_5, uw3_71, uw3_73, uw0_2, uw3_70, uw1_5, uw3_67, uw3_69, uw0_1, uw3_86, uw1_4, uw3_83, uw3_84, uw3_85, uw3_104, uw1_5, uw3_101, uw3_103, uw0_6, uw3_112, uw1_5, uw3_109, uw3_111, uw0_8, uw3_219, uw1_5, uw3_216, uw3_218, uw0_18, uw3_54, uw1_5, uw3_63, uw3_52, uw3_53]) rfl (tCoW uw2_0m (tCoW uw2_1m (tCoW uw1_86m (tCoW uw1_238m (tCoW uw1_67m (tCoW uw1_236m (tCoW uw3_215m (tCoW uw3_74m (tCoW uw1_5m (tCoW uw3_71m (tCoW uw3_73m (tCoW uw0_2m (tCoW uw3_70m (tCoW uw1_5m (tCoW uw3_67m (tCoW uw3_69m (tCoW uw0_1m (tCoW uw3_86m (tCoW uw1_4m (tCoW uw3_83m (tCoW uw3_84m (tCoW uw3_85m (tCoW uw3_104m (tCoW uw1_5m (tCoW uw3_101m (tCoW uw3_103m (tCoW uw0_6m (tCoW uw3_112m (tCoW uw1_5m (tCoW uw3_109m (tCoW uw3_111m (tCoW uw0_8m (tCoW uw3_219m (tCoW uw1_5m (tCoW uw3_216m (tCoW uw3_218m (tCoW uw0_18m (tCoW uw3_54m (tCoW uw1_5m (tCoW uw3_63m (tCoW uw3_52m (tCoW uw3_53m (tNiW)))))))))))))))))))))))))))))))))))))))))))
set_option maxRecDepth 100000 in
theorem x136_ : ∀ w ∈ rqM vwCl tMth tXn d136_.1.cls v136_, w ∈ tW0 := tEqW (K := [uw1_238, uw2_0, uw2_2, uw3_54, uw1_5, uw3_63, uw3_52, uw3_53, uw3_66, uw1_5, uw3_64, uw3_65, uw3_70, uw1_5, uw3_67, uw3_69, uw0_1, uw3_74, uw1_5, uw3_71, uw3_73, uw0_2, uw3_82, uw1_5, uw3_79, uw3_81, uw0_3, uw3_96, uw1_5, uw3_94, uw3_95, uw3_214, uw1_5, uw3_211, uw3_213, uw0_17, uw3_227, uw1_5, uw3_224, uw3_226, uw0_20, uw3_86, uw1_4, uw3_83, uw3_84, uw3_85, uw3_139, uw1_5, uw3_136, uw3_138, uw0_12, uw3_231, uw1_5, uw3_228, uw3_230, uw0_21, uw3_219, uw1_5, uw3_216, uw3_218, uw0_18, uw3_147, uw1_5, uw3_145, uw3_146, uw3_151, uw1_5, uw3_148, uw3_150, uw0_13, uw3_116, uw1_4, uw3_113, uw3_114, uw3_115]) rfl (tCoW uw1_238m (tCoW uw2_0m (tCoW uw2_2m (tCoW uw3_54m (tCoW uw1_5m (tCoW uw3_63m (tCoW uw3_52m (tCoW uw3_53m (tCoW uw3_66m (tCoW uw1_5m (tCoW uw3_64m (tCoW uw3_65m (tCoW uw3_70m (tCoW uw1_5m (tCoW uw3_67m (tCoW uw3_69m (tCoW uw0_1m (tCoW uw3_74m (tCoW uw1_5m (tCoW uw3_71m (tCoW uw3_73m (tCoW uw0_2m (tCoW uw3_82m (tCoW uw1_5m (tCoW uw3_79m (tCoW uw3_81m (tCoW uw0_3m (tCoW uw3_96m (tCoW uw1_5m (tCoW uw3_94m (tCoW uw3_95m (tCoW uw3_214m (tCoW uw1_5m (tCoW uw3_211m (tCoW uw3_213m (tCoW uw0_17m (tCoW uw3_227m (tCoW uw1_5m (tCoW uw3_224m (tCoW uw3_226m (tCoW uw0_20m (tCoW uw3_86m (tCoW uw1_4m (tCoW uw3_83m (tCoW uw3_84m (tCoW uw3_85m (tCoW uw3_139m (tCoW uw1_5m (tCoW uw3_136m (tCoW uw3_138m (tCoW uw0_12m (tCoW uw3_231m (tCoW uw1_5m (tCoW uw3_228m (tCoW uw3_230m (tCoW uw0_21m (tCoW uw3_219m (tCoW uw1_5m (tCoW uw3_216m (tCoW uw3_218m (tCoW uw0_18m (tCoW uw3_147m (tCoW uw1_5m (tCoW uw3_145m (tCoW uw3_146m (tCoW uw3_151m (tCoW uw1_5m (tCoW uw3_148m (tCoW uw3_150m (tCoW uw0_13m (tCoW uw3_116m (tCoW uw1_4m (tCoW uw3_113m (tCoW uw3_114m (tCoW uw3_115m (tNiW))))))))))))))))))))))))))))))))))))))))))))))))))))))))))))))))))))))))))))
set_option maxRecDepth 100000 in
theorem x137_ : ∀ w ∈ rqM vwCl tMth tXn d137_.1.cls v137_, w ∈ tW0 := tEqW (K := [uw1_239, uw1_139, uw1_142, uw1_67, uw1_84, uw1_238, uw1_135, uw3_206, uw1_3, uw3_203, uw3_204, uw3_205, uw3_210, uw1_5, uw3_207, uw3_209, uw0_16, uw3_54, uw1_5, uw3_63, uw3_52, uw3_53, uw3_235, uw1_5, uw3_232, uw3_234, uw0_22, uw3_239, uw1_5, uw3_236, uw3_238, uw0_23, uw3_70, uw1_5, uw3_67, uw3_69, uw0_1]) rfl (tCoW uw1_239m (tCoW uw1_139m (tCoW uw1_142m (tCoW uw1_67m (tCoW uw1_84m (tCoW uw1_238m (tCoW uw1_135m (tCoW uw3_206m (tCoW uw1_3m (tCoW uw3_203m (tCoW uw3_204m (tCoW uw3_205m (tCoW uw3_210m (tCoW uw1_5m (tCoW uw3_207m (tCoW uw3_209m (tCoW uw0_16m (tCoW uw3_54m (tCoW uw1_5m (tCoW uw3_63m (tCoW uw3_52m (tCoW uw3_53m (tCoW uw3_235m (tCoW uw1_5m (tCoW uw3_232m (tCoW uw3_234m (tCoW uw0_22m (tCoW uw3_239m (tCoW uw1_5m (tCoW uw3_236m (tCoW uw3_238m (tCoW uw0_23m (tCoW uw3_70m (tCoW uw1_5m (tCoW uw3_67m (tCoW uw3_69m (tCoW uw0_1m (tNiW))))))))))))))))))))))))))))))))))))))
set_option maxRecDepth 100000 in
theorem x138_ : ∀ w ∈ rqM vwCl tMth tXn d138_.1.cls v138_, w ∈ tW0 := tEqW (K := [uw1_172]) rfl (tCoW uw1_172m (tNiW))
set_option maxRecDepth 100000 in
theorem x139_ : ∀ w ∈ rqM vwCl tMth tXn d139_.1.cls v139_, w ∈ tW0 := tEqW (K := [uw1_176, uw1_165, uw1_177, uw1_170, uw1_178, uw1_172]) rfl (tCoW uw1_176m (tCoW uw1_165m (tCoW uw1_177m (tCoW uw1_170m (tCoW uw1_178m (tCoW uw1_172m (tNiW)))))))
set_option maxRecDepth 100000 in
theorem x140_ : ∀ w ∈ rqM vwCl tMth tXn d140_.1.cls v140_, w ∈ tW0 := tEqW (K := [uw2_170, uw2_172]) rfl (tCoW uw2_170m (tCoW uw2_172m (tNiW)))
set_option maxRecDepth 100000 in
theorem x141_ : ∀ w ∈ rqM vwCl tMth tXn d141_.1.cls v141_, w ∈ tW0 := tEqW (K := [uw3_11, uw3_9, uw4_23, uw1_13, uw4_20, uw4_21, uw4_22]) rfl (tCoW uw3_11m (tCoW uw3_9m (tCoW uw4_23m (tCoW uw1_13m (tCoW uw4_20m (tCoW uw4_21m (tCoW uw4_22m (tNiW))))))))
set_option maxRecDepth 100000 in
theorem x142_ : ∀ w ∈ rqM vwCl tMth tXn d142_.1.cls v142_, w ∈ tW0 := inAt_ok (is := [(3, 5), (1, 232), (4, 114), (1, 5), (4, 111), (4, 112), (4, 113), (4, 46), (1, 19), (1, 16), (4, 68), (4, 77), (4, 83), (4, 86), (4, 88), (4, 69), (4, 70), (1, 31), (1, 32), (4, 71), (4, 76), (4, 84), (4, 100), (4, 58), (4, 101), (4, 60), (4, 102), (4, 62), (4, 72), (4, 74), (4, 64), (4, 90), (4, 91), (4, 92), (4, 93), (4, 93), (4, 94), (4, 95), (4, 96), (4, 96), (4, 97), (4, 98), (4, 69), (4, 89), (4, 47), (4, 55), (4, 56), (4, 57), (4, 59), (4, 61), (4, 63), (4, 67), (4, 66), (4, 65)]) (by decide +kernel)
set_option maxRecDepth 100000 in
theorem x143_ : ∀ w ∈ rqM vwCl tMth tXn d143_.1.cls v143_, w ∈ tW0 := inAt_ok (is := [(3, 5), (1, 232), (4, 123), (1, 20), (1, 16), (4, 68), (4, 77), (4, 83), (4, 86), (4, 88), (4, 69), (4, 70), (1, 31), (1, 32), (4, 71), (4, 76), (4, 84), (4, 100), (4, 58), (4, 101), (4, 60), (4, 102), (4, 62), (4, 72), (4, 74), (4, 64), (4, 133), (4, 134), (4, 135), (4, 93), (4, 93), (4, 94), (4, 95), (4, 96), (4, 96), (4, 97), (4, 98), (4, 69), (4, 132), (4, 124), (4, 126), (4, 80), (4, 127), (4, 128), (4, 129), (4, 130), (4, 67), (4, 66), (4, 131)]) (by decide +kernel)
set_option maxRecDepth 100000 in
theorem x144_ : ∀ w ∈ rqM vwCl tMth tXn d144_.1.cls v144_, w ∈ tW0 := tEqW (K := [uw3_4, uw3_5, uw1_173, uw1_133, uw1_234, uw3_42, uw1_2, uw3_39, uw3_40, uw3_41, uw3_46, uw1_5, uw3_43, uw3_44, uw3_45, uw3_54, uw1_5, uw3_51, uw3_52, uw3_53, uw3_58, uw1_2, uw3_55, uw3_56, uw3_57, uw3_62, uw1_5, uw3_59, uw3_60, uw3_61, uw3_171, uw1_5, uw3_168, uw3_169, uw3_170, uw3_198, uw1_5, uw3_195, uw3_196, uw3_197, uw3_202, uw1_5, uw3_199, uw3_200, uw3_201, uw4_3, uw1_2, uw4_0, uw4_1, uw4_2, uw4_7, uw1_5, uw4_4, uw4_5, uw4_6, uw4_11, uw1_2, uw4_8, uw4_9, uw4_10, uw4_15, uw1_2, uw4_12, uw4_13, uw4_14, uw4_19, uw1_1, uw4_16, uw4_18, uw0_24]) rfl (tCoW uw3_4m (tCoW uw3_5m (tCoW uw1_173m (tCoW uw1_133m (tCoW uw1_234m (tCoW uw3_42m (tCoW uw1_2m (tCoW uw3_39m (tCoW uw3_40m (tCoW uw3_41m (tCoW uw3_46m (tCoW uw1_5m (tCoW uw3_43m (tCoW uw3_44m (tCoW uw3_45m (tCoW uw3_54m (tCoW uw1_5m (tCoW uw3_51m (tCoW uw3_52m (tCoW uw3_53m (tCoW uw3_58m (tCoW uw1_2m (tCoW uw3_55m (tCoW uw3_56m (tCoW uw3_57m (tCoW uw3_62m (tCoW uw1_5m (tCoW uw3_59m (tCoW uw3_60m (tCoW uw3_61m (tCoW uw3_171m (tCoW uw1_5m (tCoW uw3_168m (tCoW uw3_169m (tCoW uw3_170m (tCoW uw3_198m (tCoW uw1_5m (tCoW uw3_195m (tCoW uw3_196m (tCoW uw3_197m (tCoW uw3_202m (tCoW uw1_5m (tCoW uw3_199m (tCoW uw3_200m (tCoW uw3_201m (tCoW uw4_3m (tCoW uw1_2m (tCoW uw4_0m (tCoW uw4_1m (tCoW uw4_2m (tCoW uw4_7m (tCoW uw1_5m (tCoW uw4_4m (tCoW uw4_5m (tCoW uw4_6m (tCoW uw4_11m (tCoW uw1_2m (tCoW uw4_8m (tCoW uw4_9m (tCoW uw4_10m (tCoW uw4_15m (tCoW uw1_2m (tCoW uw4_12m (tCoW uw4_13m (tCoW uw4_14m (tCoW uw4_19m (tCoW uw1_1m (tCoW uw4_16m (tCoW uw4_18m (tCoW uw0_24m (tNiW)))))))))))))))))))))))))))))))))))))))))))))))))))))))))))))))))))))))
set_option maxRecDepth 100000 in
theorem x145_ : ∀ w ∈ rqM vwCl tMth tXn d145_.1.cls v145_, w ∈ tW0 := tEqW (K := [uw3_4, uw1_173, uw3_5, uw1_133, uw1_234, uw3_58, uw1_2, uw3_55, uw3_56, uw3_57, uw3_46, uw1_5, uw3_43, uw3_44, uw3_45, uw3_62, uw1_5, uw3_59, uw3_60, uw3_61, uw3_175, uw1_5, uw4_28, uw3_173, uw3_174, uw4_32, uw1_5, uw4_29, uw4_30, uw4_31, uw4_7, uw1_5, uw4_4, uw4_5, uw4_6, uw3_183, uw1_2, uw4_33, uw3_181, uw3_182, uw4_37, uw1_2, uw4_34, uw4_35, uw4_36, uw4_19, uw1_1, uw4_16, uw4_18, uw0_24]) rfl (tCoW uw3_4m (tCoW uw1_173m (tCoW uw3_5m (tCoW uw1_133m (tCoW uw1_234m (tCoW uw3_58m (tCoW uw1_2m (tCoW uw3_55m (tCoW uw3_56m (tCoW uw3_57m (tCoW uw3_46m (tCoW uw1_5m (tCoW uw3_43m (tCoW uw3_44m (tCoW uw3_45m (tCoW uw3_62m (tCoW uw1_5m (tCoW uw3_59m (tCoW uw3_60m (tCoW uw3_61m (tCoW uw3_175m (tCoW uw1_5m (tCoW uw4_28m (tCoW uw3_173m (tCoW uw3_174m (tCoW uw4_32m (tCoW uw1_5m (tCoW uw4_29m (tCoW uw4_30m (tCoW uw4_31m (tCoW uw4_7m (tCoW uw1_5m (tCoW uw4_4m (tCoW uw4_5m (tCoW uw4_6m (tCoW uw3_183m (tCoW uw1_2m (tCoW uw4_33m (tCoW uw3_181m (tCoW uw3_182m (tCoW uw4_37m (tCoW uw1_2m (tCoW uw4_34m (tCoW uw4_35m (tCoW uw4_36m (tCoW uw4_19m (tCoW uw1_1m (tCoW uw4_16m (tCoW uw4_18m (tCoW uw0_24m (tNiW)))))))))))))))))))))))))))))))))))))))))))))))))))
set_option maxRecDepth 100000 in
theorem x146_ : ∀ w ∈ rqM vwCl tMth tXn d146_.1.cls v146_, w ∈ tW0 := tEqW (K := [uw1_172, uw1_163, uw3_58, uw1_2, uw4_149, uw3_56, uw3_57]) rfl (tCoW uw1_172m (tCoW uw1_163m (tCoW uw3_58m (tCoW uw1_2m (tCoW uw4_149m (tCoW uw3_56m (tCoW uw3_57m (tNiW))))))))
set_option maxRecDepth 100000 in
theorem x147_ : ∀ w ∈ rqM vwCl tMth tXn d147_.1.cls v147_, w ∈ tW0 := inAt_ok (is := [(3, 4), (1, 173), (4, 148), (1, 2), (4, 145), (4, 146), (4, 147), (4, 19), (1, 1), (4, 16), (4, 18), (0, 24), (4, 46), (1, 19), (1, 16), (4, 68), (4, 77), (4, 83), (4, 86), (4, 88), (4, 69), (4, 70), (1, 31), (1, 32), (4, 71), (4, 76), (4, 84), (4, 100), (4, 58), (4, 101), (4, 60), (4, 102), (4, 62), (4, 72), (4, 74), (4, 64), (4, 90), (4, 91), (4, 92), (4, 93), (4, 93), (4, 94), (4, 95), (4, 96), (4, 96), (4, 97), (4, 98), (4, 69), (4, 89), (4, 47), (4, 55), (4, 56), (4, 57), (4, 59), (4, 61), (4, 63), (4, 67), (4, 66), (4, 65)]) (by decide +kernel)
set_option maxRecDepth 100000 in
theorem x148_ : ∀ w ∈ rqM vwCl tMth tXn d148_.1.cls v148_, w ∈ tW0 := inAt_ok (is := [(3, 11), (5, 170), (1, 24), (1, 16), (4, 68), (4, 77), (4, 83), (4, 86), (4, 88), (4, 69), (4, 70), (1, 31), (1, 32), (4, 71), (4, 76), (4, 84), (4, 100), (4, 58), (4, 101), (4, 60), (4, 102), (4, 62), (4, 72), (4, 74), (4, 64), (5, 180), (5, 181), (5, 182), (4, 93), (4, 93), (4, 94), (4, 95), (4, 96), (4, 96), (4, 97), (4, 98), (4, 69), (5, 179), (5, 171), (5, 173), (4, 81), (5, 174), (5, 175), (5, 176), (5, 177), (4, 67), (4, 66), (5, 178)]) (by decide +kernel)
set_option maxRecDepth 100000 in
theorem x149_ : ∀ w ∈ rqM vwCl tMth tXn d149_.1.cls v149_, w ∈ tW0 := inAt_ok (is := [(3, 6), (2, 100), (5, 169), (1, 1), (5, 166), (5, 168), (0, 47), (4, 46), (1, 19), (1, 16), (4, 68), (4, 77), (4, 83), (4, 86), (4, 88), (4, 69), (4, 70), (1, 31), (1, 32), (4, 71), (4, 76), (4, 84), (4, 100), (4, 58), (4, 101), (4, 60), (4, 102), (4, 62), (4, 72), (4, 74), (4, 64), (4, 90), (4, 91), (4, 92), (4, 93), (4, 93), (4, 94), (4, 95), (4, 96), (4, 96), (4, 97), (4, 98), (4, 69), (4, 89), (4, 47), (4, 55), (4, 56), (4, 57), (4, 59), (4, 61), (4, 63), (4, 67), (4, 66), (4, 65)]) (by decide +kernel)
set_option maxRecDepth 100000 in
theorem x150_ : ∀ w ∈ rqM vwCl tMth tXn d150_.1.cls v150_, w ∈ tW0 := tEqW (K := [uw5_67]) rfl (tCoW uw5_67m (tNiW))
set_option maxRecDepth 100000 in
theorem x151_ : ∀ w ∈ rqM vwCl tMth tXn d151_.1.cls v151_, w ∈ tW0 := tEqW (K := [uw5_189, uw5_67, uw5_66, uw1_1, uw5_188, uw5_65]) rfl (tCoW uw5_189m (tCoW uw5_67m (tCoW uw5_66m (tCoW uw1_1m (tCoW uw5_188m (tCoW uw5_65m (tNiW)))))))
set_option maxRecDepth 100000 in
theorem x152_ : ∀ w ∈ rqM vwCl tMth tXn d152_.1.cls v152_, w ∈ tW0 := inAt_ok (is := [(3, 6), (2, 83), (3, 4), (1, 158), (2, 86), (2, 88), (2, 93), (1, 155), (2, 80), (5, 190), (5, 165), (1, 1), (5, 162), (5, 164), (0, 46), (5, 187), (1, 1), (5, 185), (5, 186), (4, 123), (1, 20), (1, 16), (4, 68), (4, 77), (4, 83), (4, 86), (4, 88), (4, 69), (4, 70), (1, 31), (1, 32), (4, 71), (4, 76), (4, 84), (4, 100), (4, 58), (4, 101), (4, 60), (4, 102), (4, 62), (4, 72), (4, 74), (4, 64), (4, 133), (4, 134), (4, 135), (4, 93), (4, 93), (4, 94), (4, 95), (4, 96), (4, 96), (4, 97), (4, 98), (4, 69), (4, 132), (4, 124), (4, 126), (4, 80), (4, 127), (4, 128), (4, 129), (4, 130), (4, 67), (4, 66), (4, 131)]) (by decide +kernel)
set_option maxRecDepth 100000 in
theorem x153_ : ∀ w ∈ rqM vwCl tMth tXn d153_.1.cls v153_, w ∈ tW0 := inAt_ok (is := [(3, 6), (2, 93), (2, 90), (5, 165), (1, 1), (5, 162), (5, 164), (0, 46), (4, 46), (1, 19), (1, 16), (4, 68), (4, 77), (4, 83), (4, 86), (4, 88), (4, 69), (4, 70), (1, 31), (1, 32), (4, 71), (4, 76), (4, 84), (4, 100), (4, 58), (4, 101), (4, 60), (4, 102), (4, 62), (4, 72), (4, 74), (4, 64), (4, 90), (4, 91), (4, 92), (4, 93), (4, 93), (4, 94), (4, 95), (4, 96), (4, 96), (4, 97), (4, 98), (4, 69), (4, 89), (4, 47), (4, 55), (4, 56), (4, 57), (4, 59), (4, 61), (4, 63), (4, 67), (4, 66), (4, 65)]) (by decide +kernel)
set_option maxRecDepth 100000 in
theorem x154_ : ∀ w ∈ rqM vwCl tMth tXn d154_.1.cls v154_, w ∈ tW0 := inAt_ok (is := [(3, 9), (2, 171), (2, 173), (2, 169), (2, 59), (1, 9), (6, 18), (2, 58), (5, 187), (1, 1), (5, 185), (5, 186), (4, 46), (1, 19), (1, 16), (4, 68), (4, 77), (4, 83), (4, 86), (4, 88), (4, 69), (4, 70), (1, 31), (1, 32), (4, 71), (4, 76), (4, 84), (4, 100), (4, 58), (4, 101), (4, 60), (4, 102), (4, 62), (4, 72), (4, 74), (4, 64), (4, 90), (4, 91), (4, 92), (4, 93), (4, 93), (4, 94), (4, 95), (4, 96), (4, 96), (4, 97), (4, 98), (4, 69), (4, 89), (4, 47), (4, 55), (4, 56), (4, 57), (4, 59), (4, 61), (4, 63), (4, 67), (4, 66), (4, 65), (4, 46), (1, 19), (1, 16), (4, 68), (4, 77), (4, 83), (4, 86), (4, 88), (4, 69), (4, 70), (1, 31), (1, 32), (4, 71), (4, 76), (4, 84), (4, 100), (4, 58), (4, 101), (4, 60), (4, 102), (4, 62), (4, 72), (4, 74), (4, 64), (4, 90), (4, 91), (4, 92), (4, 93), (4, 93), (4, 94), (4, 95), (4, 96), (4, 96), (4, 97), (4, 98), (4, 69), (4, 89), (4, 47), (4, 55), (4, 56), (4, 57), (4, 59), (4, 61), (4, 63), (4, 67), (4, 66), (4, 65)]) (by decide +kernel)
set_option maxRecDepth 100000 in
theorem x155_ : ∀ w ∈ rqM vwCl tMth tXn d155_.1.cls v155_, w ∈ tW0 := inAt_ok (is := [(3, 4), (1, 166), (1, 158), (5, 169), (1, 1), (5, 166), (5, 168), (0, 47), (4, 46), (1, 19), (1, 16), (4, 68), (4, 77), (4, 83), (4, 86), (4, 88), (4, 69), (4, 70), (1, 31), (1, 32), (4, 71), (4, 76), (4, 84), (4, 100), (4, 58), (4, 101), (4, 60), (4, 102), (4, 62), (4, 72), (4, 74), (4, 64), (4, 90), (4, 91), (4, 92), (4, 93), (4, 93), (4, 94), (4, 95), (4, 96), (4, 96), (4, 97), (4, 98), (4, 69), (4, 89), (4, 47), (4, 55), (4, 56), (4, 57), (4, 59), (4, 61), (4, 63), (4, 67), (4, 66), (4, 65)]) (by decide +kernel)
set_option maxRecDepth 100000 in
theorem x156_ : ∀ w ∈ rqM vwCl tMth tXn d156_.1.cls v156_, w ∈ tW0 := inAt_ok (is := [(3, 8), (2, 236), (2, 234), (4, 46), (1, 19), (1, 16), (4, 68), (4, 77), (4, 83), (4, 86), (4, 88), (4, 69), (4, 70), (1, 31), (1, 32), (4, 71), (4, 76), (4, 84), (4, 100), (4, 58), (4, 101), (4, 60), (4, 102), (4, 62), (4, 72), (4, 74), (4, 64), (4, 90), (4, 91), (4, 92), (4, 93), (4, 93), (4, 94), (4, 95), (4, 96), (4, 96), (4, 97), (4, 98), (4, 69), (4, 89), (4, 47), (4, 55), (4, 56), (4, 57), (4, 59), (4, 61), (4, 63), (4, 67), (4, 66), (4, 65)]) (by decide +kernel)
set_option maxRecDepth 100000 in
theorem x157_ : ∀ w ∈ rqM vwCl tMth tXn d157_.1.cls v157_, w ∈ tW0 := inAt_ok (is := [(3, 5), (1, 232), (3, 8), (2, 236), (3, 4), (1, 173), (1, 171), (1, 166), (3, 11), (3, 6), (2, 100), (3, 12), (3, 13), (1, 167), (1, 230), (1, 222), (4, 123), (1, 20), (1, 16), (4, 68), (4, 77), (4, 83), (4, 86), (4, 88), (4, 69), (4, 70), (1, 31), (1, 32), (4, 71), (4, 76), (4, 84), (4, 100), (4, 58), (4, 101), (4, 60), (4, 102), (4, 62), (4, 72), (4, 74), (4, 64), (4, 133), (4, 134), (4, 135), (4, 93), (4, 93), (4, 94), (4, 95), (4, 96), (4, 96), (4, 97), (4, 98), (4, 69), (4, 132), (4, 124), (4, 126), (4, 80), (4, 127), (4, 128), (4, 129), (4, 130), (4, 67), (4, 66), (4, 131)]) (by decide +kernel)
set_option maxRecDepth 100000 in
theorem x158_ : ∀ w ∈ rqM vwCl tMth tXn d158_.1.cls v158_, w ∈ tW0 := tEqW (K := [uw2_235]) rfl (tCoW uw2_235m (tNiW))
set_option maxRecDepth 100000 in
theorem x159_ : ∀ w ∈ rqM vwCl tMth tXn d159_.1.cls v159_, w ∈ tW0 := tEqW (K := [uw2_235, uw2_233]) rfl (tCoW uw2_235m (tCoW uw2_233m (tNiW)))
set_option maxRecDepth 100000 in
theorem x160_ : ∀ w ∈ rqM vwCl tMth tXn d160_.1.cls v160_, w ∈ tW0 := tEqW (K := []) rfl (tNiW)
set_option maxRecDepth 100000 in
theorem x161_ : ∀ w ∈ rqM vwCl tMth tXn d161_.1.cls v161_, w ∈ tW0 := tEqW (K := [uw5_213, uw5_216, uw1_14, uw5_214, uw5_215, uw5_220, uw1_14, uw5_217, uw5_218, uw5_219]) rfl (tCoW uw5_213m (tCoW uw5_216m (tCoW uw1_14m (tCoW uw5_214m (tCoW uw5_215m (tCoW uw5_220m (tCoW uw1_14m (tCoW uw5_217m (tCoW uw5_218m (tCoW uw5_219m (tNiW)))))))))))
set_option maxRecDepth 100000 in
theorem x162_ : ∀ w ∈ rqM vwCl tMth tXn d162_.1.cls v162_, w ∈ tW0 := tEqW (K := [uw5_226, uw5_220, uw1_14, uw5_217, uw5_218, uw5_219]) rfl (tCoW uw5_226m (tCoW uw5_220m (tCoW uw1_14m (tCoW uw5_217m (tCoW uw5_218m (tCoW uw5_219m (tNiW)))))))
set_option maxRecDepth 100000 in
theorem x163_ : ∀ w ∈ rqM vwCl tMth tXn d163_.1.cls v163_, w ∈ tW0 := tEqW (K := [uw3_6, uw2_83, uw3_8, uw3_4, uw1_153, uw1_155, uw2_80, uw3_5, uw1_230, uw2_236, uw5_67, uw5_165, uw1_1, uw5_162, uw5_164, uw0_46, uw5_208, uw1_14, uw5_205, uw5_206, uw5_207, uw5_212, uw1_14, uw5_209, uw5_210, uw5_211, uw5_220, uw1_14, uw5_221, uw5_218, uw5_219, uw5_66, uw1_1, uw5_188, uw5_65, uw5_225, uw1_14, uw5_222, uw5_223, uw5_224, uw5_230, uw1_6, uw5_227, uw5_228, uw5_229]) rfl (tCoW uw3_6m (tCoW uw2_83m (tCoW uw3_8m (tCoW uw3_4m (tCoW uw1_153m (tCoW uw1_155m (tCoW uw2_80m (tCoW uw3_5m (tCoW uw1_230m (tCoW uw2_236m (tCoW uw5_67m (tCoW uw5_165m (tCoW uw1_1m (tCoW uw5_162m (tCoW uw5_164m (tCoW uw0_46m (tCoW uw5_208m (tCoW uw1_14m (tCoW uw5_205m (tCoW uw5_206m (tCoW uw5_207m (tCoW uw5_212m (tCoW uw1_14m (tCoW uw5_209m (tCoW uw5_210m (tCoW uw5_211m (tCoW uw5_220m (tCoW uw1_14m (tCoW uw5_221m (tCoW uw5_218m (tCoW uw5_219m (tCoW uw5_66m (tCoW uw1_1m (tCoW uw5_188m (tCoW uw5_65m (tCoW uw5_225m (tCoW uw1_14m (tCoW uw5_222m (tCoW uw5_223m (tCoW uw5_224m (tCoW uw5_230m (tCoW uw1_6m (tCoW uw5_227m (tCoW uw5_228m (tCoW uw5_229m (tNiW))))))))))))))))))))))))))))))))))))))))))))))
set_option maxRecDepth 100000 in
theorem x164_ : ∀ w ∈ rqM vwCl tMth tXn d164_.1.cls v164_, w ∈ tW0 := tEqW (K := [uw2_67, uw2_65, uw1_10, uw2_63, uw2_64]) rfl (tCoW uw2_67m (tCoW uw2_65m (tCoW uw1_10m (tCoW uw2_63m (tCoW uw2_64m (tNiW))))))
set_option maxRecDepth 100000 in
theorem x165_ : ∀ w ∈ rqM vwCl tMth tXn d165_.1.cls v165_, w ∈ tW0 := tEqW (K := [uw2_66, uw2_67, uw4_219]) rfl (tCoW uw2_66m (tCoW uw2_67m (tCoW uw4_219m (tNiW))))
set_option maxRecDepth 100000 in
theorem x166_ : ∀ w ∈ rqM vwCl tMth tXn d166_.1.cls v166_, w ∈ tW0 := tEqW (K := [uw2_69]) rfl (tCoW uw2_69m (tNiW))
set_option maxRecDepth 100000 in
theorem x167_ : ∀ w ∈ rqM vwCl tMth tXn d167_.1.cls v167_, w ∈ tW0 := tEqW (K := [uw2_66, uw2_67, uw2_69, uw2_68, uw4_219]) rfl (tCoW uw2_66m (tCoW uw2_67m (tCoW uw2_69m (tCoW uw2_68m (tCoW uw4_219m (tNiW))))))
set_option maxRecDepth 100000 in
theorem x168_ : ∀ w ∈ rqM vwCl tMth tXn d168_.1.cls v168_, w ∈ tW0 := tEqW (K := [uw2_98, uw2_101, uw2_102, uw2_103, uw4_196, uw1_8, uw4_193, uw4_194, uw4_195]) rfl (tCoW uw2_98m (tCoW uw2_101m (tCoW uw2_102m (tCoW uw2_103m (tCoW uw4_196m (tCoW uw1_8m (tCoW uw4_193m (tCoW uw4_194m (tCoW uw4_195m (tNiW))))))))))
set_option maxRecDepth 100000 in
theorem x169_ : ∀ w ∈ rqM vwCl tMth tXn d169_.1.cls v169_, w ∈ tW0 := tEqW (K := [uw2_95, uw4_214]) rfl (tCoW uw2_95m (tCoW uw4_214m (tNiW)))
set_option maxRecDepth 100000 in
theorem x170_ : ∀ w ∈ rqM vwCl tMth tXn d170_.1.cls v170_, w ∈ tW0 := tEqW (K := [uw4_214]) rfl (tCoW uw4_214m (tNiW))
set_option maxRecDepth 100000 in
theorem x171_ : ∀ w ∈ rqM vwCl tMth tXn d171_.1.cls v171_, w ∈ tW0 := tEqW (K := [uw2_79, uw2_95]) rfl (tCoW uw2_79m (tCoW uw2_95m (tNiW)))
set_option maxRecDepth 100000 in
theorem x172_ : ∀ w ∈ rqM vwCl tMth tXn d172_.1.cls v172_, w ∈ tW0 := tEqW (K := [uw2_103, uw2_82, uw4_213, uw1_7, uw4_210, uw4_212, uw0_28, uw4_218, uw1_8, uw4_215, uw4_216, uw4_217, uw4_223, uw1_7, uw4_220, uw4_222, uw0_29, uw4_227, uw1_8, uw4_224, uw4_225, uw4_226]) rfl (tCoW uw2_103m (tCoW uw2_82m (tCoW uw4_213m (tCoW uw1_7m (tCoW uw4_210m (tCoW uw4_212m (tCoW uw0_28m (tCoW uw4_218m (tCoW uw1_8m (tCoW uw4_215m (tCoW uw4_216m (tCoW uw4_217m (tCoW uw4_223m (tCoW uw1_7m (tCoW uw4_220m (tCoW uw4_222m (tCoW uw0_29m (tCoW uw4_227m (tCoW uw1_8m (tCoW uw4_224m (tCoW uw4_225m (tCoW uw4_226m (tNiW)))))))))))))))))))))))
set_option maxRecDepth 100000 in
theorem x173_ : ∀ w ∈ rqM vwCl tMth tXn d173_.1.cls v173_, w ∈ tW0 := tEqW (K := [uw2_98, uw2_82, uw2_85, uw2_87, uw2_92, uw2_101, uw2_103, uw2_79, uw2_95, uw2_102, uw4_235, uw1_8, uw4_232, uw4_233, uw4_234, uw4_213, uw1_7, uw4_210, uw4_212, uw0_28, uw4_238, uw1_7, uw4_236, uw4_237]) rfl (tCoW uw2_98m (tCoW uw2_82m (tCoW uw2_85m (tCoW uw2_87m (tCoW uw2_92m (tCoW uw2_101m (tCoW uw2_103m (tCoW uw2_79m (tCoW uw2_95m (tCoW uw2_102m (tCoW uw4_235m (tCoW uw1_8m (tCoW uw4_232m (tCoW uw4_233m (tCoW uw4_234m (tCoW uw4_213m (tCoW uw1_7m (tCoW uw4_210m (tCoW uw4_212m (tCoW uw0_28m (tCoW uw4_238m (tCoW uw1_7m (tCoW uw4_236m (tCoW uw4_237m (tNiW)))))))))))))))))))))))))
set_option maxRecDepth 100000 in
theorem x174_ : ∀ w ∈ rqM vwCl tMth tXn d174_.1.cls v174_, w ∈ tW0 := tEqW (K := [uw2_101, uw2_98, uw2_82, uw4_218, uw1_8, uw4_215, uw4_216, uw4_217]) rfl (tCoW uw2_101m (tCoW uw2_98m (tCoW uw2_82m (tCoW uw4_218m (tCoW uw1_8m (tCoW uw4_215m (tCoW uw4_216m (tCoW uw4_217m (tNiW)))))))))
set_option maxRecDepth 100000 in
theorem x175_ : ∀ w ∈ rqM vwCl tMth tXn d175_.1.cls v175_, w ∈ tW0 := tEqW (K := [uw2_101, uw4_227, uw1_8, uw4_224, uw4_225, uw4_226]) rfl (tCoW uw2_101m (tCoW uw4_227m (tCoW uw1_8m (tCoW uw4_224m (tCoW uw4_225m (tCoW uw4_226m (tNiW)))))))
set_option maxRecDepth 100000 in
theorem x176_ : ∀ w ∈ rqM vwCl tMth tXn d176_.1.cls v176_, w ∈ tW0 := tEqW (K := [uw2_102, uw4_227, uw1_8, uw4_224, uw4_225, uw4_226]) rfl (tCoW uw2_102m (tCoW uw4_227m (tCoW uw1_8m (tCoW uw4_224m (tCoW uw4_225m (tCoW uw4_226m (tNiW)))))))
set_option maxRecDepth 100000 in
theorem x177_ : ∀ w ∈ rqM vwCl tMth tXn d177_.1.cls v177_, w ∈ tW0 := tEqW (K := [uw2_102, uw4_238, uw1_7, uw4_236, uw4_237, uw4_218, uw1_8, uw4_215, uw4_216, uw4_217, uw5_98, uw1_7, uw5_95, uw5_97, uw0_39]) rfl (tCoW uw2_102m (tCoW uw4_238m (tCoW uw1_7m (tCoW uw4_236m (tCoW uw4_237m (tCoW uw4_218m (tCoW uw1_8m (tCoW uw4_215m (tCoW uw4_216m (tCoW uw4_217m (tCoW uw5_98m (tCoW uw1_7m (tCoW uw5_95m (tCoW uw5_97m (tCoW uw0_39m (tNiW))))))))))))))))
set_option maxRecDepth 100000 in
theorem x178_ : ∀ w ∈ rqM vwCl tMth tXn d178_.1.cls v178_, w ∈ tW0 := tEqW (K := [uw2_102, uw4_227, uw1_8, uw4_224, uw4_225, uw4_226, uw5_98, uw1_7, uw5_95, uw5_97, uw0_39]) rfl (tCoW uw2_102m (tCoW uw4_227m (tCoW uw1_8m (tCoW uw4_224m (tCoW uw4_225m (tCoW uw4_226m (tCoW uw5_98m (tCoW uw1_7m (tCoW uw5_95m (tCoW uw5_97m (tCoW uw0_39m (tNiW))))))))))))
set_option maxRecDepth 100000 in
theorem x179_ : ∀ w ∈ rqM vwCl tMth tXn d179_.1.cls v179_, w ∈ tW0 := tEqW (K := [uw2_147, uw2_149, uw4_196, uw1_8, uw5_18, uw4_194, uw4_195]) rfl (tCoW uw2_147m (tCoW uw2_149m (tCoW uw4_196m (tCoW uw1_8m (tCoW uw5_18m (tCoW uw4_194m (tCoW uw4_195m (tNiW))))))))
set_option maxRecDepth 100000 in
theorem x180_ : ∀ w ∈ rqM vwCl tMth tXn d180_.1.cls v180_, w ∈ tW0 := tEqW (K := [uw5_47]) rfl (tCoW uw5_47m (tNiW))
set_option maxRecDepth 100000 in
theorem x181_ : ∀ w ∈ rqM vwCl tMth tXn d181_.1.cls v181_, w ∈ tW0 := tEqW (K := [uw2_141]) rfl (tCoW uw2_141m (tNiW))
set_option maxRecDepth 100000 in
theorem x182_ : ∀ w ∈ rqM vwCl tMth tXn d182_.1.cls v182_, w ∈ tW0 := tEqW (K := [uw2_149, uw2_147, uw2_141, uw2_143, uw2_145, uw5_46, uw1_12, uw5_44, uw5_45, uw4_218, uw1_8, uw5_48, uw4_216, uw4_217, uw5_52, uw1_12, uw5_49, uw5_51, uw0_36, uw4_227, uw1_8, uw5_53, uw4_225, uw4_226, uw4_235, uw1_8, uw5_55, uw4_233, uw4_234]) rfl (tCoW uw2_149m (tCoW uw2_147m (tCoW uw2_141m (tCoW uw2_143m (tCoW uw2_145m (tCoW uw5_46m (tCoW uw1_12m (tCoW uw5_44m (tCoW uw5_45m (tCoW uw4_218m (tCoW uw1_8m (tCoW uw5_48m (tCoW uw4_216m (tCoW uw4_217m (tCoW uw5_52m (tCoW uw1_12m (tCoW uw5_49m (tCoW uw5_51m (tCoW uw0_36m (tCoW uw4_227m (tCoW uw1_8m (tCoW uw5_53m (tCoW uw4_225m (tCoW uw4_226m (tCoW uw4_235m (tCoW uw1_8m (tCoW uw5_55m (tCoW uw4_233m (tCoW uw4_234m (tNiW))))))))))))))))))))))))))))))
set_option maxRecDepth 100000 in
theorem x183_ : ∀ w ∈ rqM vwCl tMth tXn d183_.1.cls v183_, w ∈ tW0 := tEqW (K := [uw2_143, uw2_145]) rfl (tCoW uw2_143m (tCoW uw2_145m (tNiW)))
set_option maxRecDepth 100000 in
theorem x184_ : ∀ w ∈ rqM vwCl tMth tXn d184_.1.cls v184_, w ∈ tW0 := tEqW (K := [uw2_145, uw2_143, uw5_66, uw1_1, uw5_65]) rfl (tCoW uw2_145m (tCoW uw2_143m (tCoW uw5_66m (tCoW uw1_1m (tCoW uw5_65m (tNiW))))))
set_option maxRecDepth 100000 in
theorem x185_ : ∀ w ∈ rqM vwCl tMth tXn d185_.1.cls v185_, w ∈ tW0 := tEqW (K := [uw2_143, uw2_145, uw5_66, uw1_1, uw5_65, uw2_59, uw1_9, uw5_72, uw2_58]) rfl (tCoW uw2_143m (tCoW uw2_145m (tCoW uw5_66m (tCoW uw1_1m (tCoW uw5_65m (tCoW uw2_59m (tCoW uw1_9m (tCoW uw5_72m (tCoW uw2_58m (tNiW))))))))))
set_option maxRecDepth 100000 in
theorem x186_ : ∀ w ∈ rqM vwCl tMth tXn d186_.1.cls v186_, w ∈ tW0 := tEqW (K := [uw2_143, uw2_145, uw5_66, uw1_1, uw5_65, uw2_62, uw1_9, uw5_77, uw2_61]) rfl (tCoW uw2_143m (tCoW uw2_145m (tCoW uw5_66m (tCoW uw1_1m (tCoW uw5_65m (tCoW uw2_62m (tCoW uw1_9m (tCoW uw5_77m (tCoW uw2_61m (tNiW))))))))))
set_option maxRecDepth 100000 in
theorem x187_ : ∀ w ∈ rqM vwCl tMth tXn d187_.1.cls v187_, w ∈ tW0 := inAt_ok (is := [(3, 11), (3, 5), (3, 4), (1, 173), (1, 133), (1, 234), (1, 78), (3, 6), (2, 97), (1, 62), (4, 7), (1, 5), (4, 4), (4, 5), (4, 6), (3, 58), (1, 2), (3, 55), (3, 56), (3, 57), (3, 46), (1, 5), (3, 43), (3, 44), (3, 45), (3, 62), (1, 5), (3, 59), (3, 60), (3, 61), (3, 179), (1, 5), (5, 238), (3, 177), (3, 178), (4, 32), (1, 5), (4, 29), (4, 30), (4, 31), (4, 209), (1, 7), (5, 239), (4, 207), (4, 208), (5, 170), (1, 24), (1, 16), (4, 68), (4, 77), (4, 83), (4, 86), (4, 88), (4, 69), (4, 70), (1, 31), (1, 32), (4, 71), (4, 76), (4, 84), (4, 100), (4, 58), (4, 101), (4, 60), (4, 102), (4, 62), (4, 72), (4, 74), (4, 64), (5, 180), (5, 181), (5, 182), (4, 93), (4, 93), (4, 94), (4, 95), (4, 96), (4, 96), (4, 97), (4, 98), (4, 69), (5, 179), (5, 171), (5, 173), (4, 81), (5, 174), (5, 175), (5, 176), (5, 177), (4, 67), (4, 66), (5, 178)]) (by decide +kernel)
set_option maxRecDepth 100000 in
theorem x188_ : ∀ w ∈ rqM vwCl tMth tXn d188_.1.cls v188_, w ∈ tW0 := tEqW (K := [uw1_140, uw1_66, uw1_136, uw1_89, uw1_156, uw1_77, uw3_206, uw1_3, uw4_168, uw3_204, uw3_205, uw2_62, uw1_9, uw4_169, uw2_61]) rfl (tCoW uw1_140m (tCoW uw1_66m (tCoW uw1_136m (tCoW uw1_89m (tCoW uw1_156m (tCoW uw1_77m (tCoW uw3_206m (tCoW uw1_3m (tCoW uw4_168m (tCoW uw3_204m (tCoW uw3_205m (tCoW uw2_62m (tCoW uw1_9m (tCoW uw4_169m (tCoW uw2_61m (tNiW))))))))))))))))
set_option maxRecDepth 100000 in
theorem x189_ : ∀ w ∈ rqM vwCl tMth tXn d189_.1.cls v189_, w ∈ tW0 := tEqW (K := [uw1_156, uw1_172, uw1_165, uw1_136, uw1_77, uw1_168, uw2_65, uw1_10, uw4_163, uw2_64, uw3_58, uw1_2, uw4_149, uw3_56, uw3_57, uw4_167, uw1_2, uw4_164, uw4_166, uw0_26, uw2_62, uw1_9, uw4_169, uw2_61]) rfl (tCoW uw1_156m (tCoW uw1_172m (tCoW uw1_165m (tCoW uw1_136m (tCoW uw1_77m (tCoW uw1_168m (tCoW uw2_65m (tCoW uw1_10m (tCoW uw4_163m (tCoW uw2_64m (tCoW uw3_58m (tCoW uw1_2m (tCoW uw4_149m (tCoW uw3_56m (tCoW uw3_57m (tCoW uw4_167m (tCoW uw1_2m (tCoW uw4_164m (tCoW uw4_166m (tCoW uw0_26m (tCoW uw2_62m (tCoW uw1_9m (tCoW uw4_169m (tCoW uw2_61m (tNiW)))))))))))))))))))))))))
set_option maxRecDepth 100000 in
theorem x190_ : ∀ w ∈ rqM vwCl tMth tXn d190_.1.cls v190_, w ∈ tW0 := tEqW (K := [uw1_54, uw2_188, uw1_57, uw1_63]) rfl (tCoW uw1_54m (tCoW uw2_188m (tCoW uw1_57m (tCoW uw1_63m (tNiW)))))
set_option maxRecDepth 100000 in
theorem x191_ : ∀ w ∈ rqM vwCl tMth tXn d191_.1.cls v191_, w ∈ tW0 := tEqW (K := [uw2_186, uw2_84, uw1_76, uw1_70, uw2_81, uw1_54, uw2_188, uw1_57, uw5_35, uw1_11, uw5_32, uw5_34, uw0_34]) rfl (tCoW uw2_186m (tCoW uw2_84m (tCoW uw1_76m (tCoW uw1_70m (tCoW uw2_81m (tCoW uw1_54m (tCoW uw2_188m (tCoW uw1_57m (tCoW uw5_35m (tCoW uw1_11m (tCoW uw5_32m (tCoW uw5_34m (tCoW uw0_34m (tNiW))))))))))))))
set_option maxRecDepth 100000 in
theorem x192_ : ∀ w ∈ rqM vwCl tMth tXn d192_.1.cls v192_, w ∈ tW0 := tEqW (K := [uw1_81, uw2_186, uw1_76, uw5_90, uw1_7, uw5_87, uw5_88, uw5_89, uw5_35, uw1_11, uw5_32, uw5_34, uw0_34, uw5_94, uw1_7, uw5_91, uw5_92, uw5_93]) rfl (tCoW uw1_81m (tCoW uw2_186m (tCoW uw1_76m (tCoW uw5_90m (tCoW uw1_7m (tCoW uw5_87m (tCoW uw5_88m (tCoW uw5_89m (tCoW uw5_35m (tCoW uw1_11m (tCoW uw5_32m (tCoW uw5_34m (tCoW uw0_34m (tCoW uw5_94m (tCoW uw1_7m (tCoW uw5_91m (tCoW uw5_92m (tCoW uw5_93m (tNiW)))))))))))))))))))
set_option maxRecDepth 100000 in
theorem x193_ : ∀ w ∈ rqM vwCl tMth tXn d193_.1.cls v193_, w ∈ tW0 := tEqW (K := [uw1_81, uw2_186, uw5_130, uw1_7, uw5_127, uw5_128, uw5_129, uw5_134, uw1_7, uw5_131, uw5_132, uw5_133]) rfl (tCoW uw1_81m (tCoW uw2_186m (tCoW uw5_130m (tCoW uw1_7m (tCoW uw5_127m (tCoW uw5_128m (tCoW uw5_129m (tCoW uw5_134m (tCoW uw1_7m (tCoW uw5_131m (tCoW uw5_132m (tCoW uw5_133m (tNiW)))))))))))))
set_option maxRecDepth 100000 in
theorem x194_ : ∀ w ∈ rqM vwCl tMth tXn d194_.1.cls v194_, w ∈ tW0 := tEqW (K := [uw2_195, uw5_86, uw1_11, uw5_83, uw5_85, uw0_38, uw5_102, uw1_11, uw5_99, uw5_101, uw0_40, uw5_126, uw1_11, uw5_123, uw5_125, uw0_42]) rfl (tCoW uw2_195m (tCoW uw5_86m (tCoW uw1_11m (tCoW uw5_83m (tCoW uw5_85m (tCoW uw0_38m (tCoW uw5_102m (tCoW uw1_11m (tCoW uw5_99m (tCoW uw5_101m (tCoW uw0_40m (tCoW uw5_126m (tCoW uw1_11m (tCoW uw5_123m (tCoW uw5_125m (tCoW uw0_42m (tNiW)))))))))))))))))
set_option maxRecDepth 100000 in
theorem x195_ : ∀ w ∈ rqM vwCl tMth tXn d195_.1.cls v195_, w ∈ tW0 := tEqW (K := [uw1_65, uw2_188, uw1_85, uw5_144, uw5_145, uw5_35, uw1_11, uw5_32, uw5_34, uw0_34, uw5_66, uw1_1, uw5_65]) rfl (tCoW uw1_65m (tCoW uw2_188m (tCoW uw1_85m (tCoW uw5_144m (tCoW uw5_145m (tCoW uw5_35m (tCoW uw1_11m (tCoW uw5_32m (tCoW uw5_34m (tCoW uw0_34m (tCoW uw5_66m (tCoW uw1_1m (tCoW uw5_65m (tNiW))))))))))))))
set_option maxRecDepth 100000 in
theorem x196_ : ∀ w ∈ rqM vwCl tMth tXn d196_.1.cls v196_, w ∈ tW0 := inAt_ok (is := [(2, 183), (2, 189), (1, 83), (5, 107), (5, 108), (1, 23), (1, 16), (4, 68), (4, 77), (4, 83), (4, 86), (4, 88), (4, 69), (4, 70), (1, 31), (1, 32), (4, 71), (4, 76), (4, 84), (4, 100), (4, 58), (4, 101), (4, 60), (4, 102), (4, 62), (4, 72), (4, 74), (4, 64), (5, 118), (5, 119), (5, 120), (4, 93), (4, 93), (4, 94), (4, 95), (4, 96), (4, 96), (4, 97), (4, 98), (4, 69), (5, 117), (5, 109), (5, 111), (4, 79), (5, 112), (5, 113), (5, 114), (5, 115), (4, 67), (4, 66), (5, 116)]) (by decide +kernel)
set_option maxRecDepth 100000 in
theorem x197_ : ∀ w ∈ rqM vwCl tMth tXn d197_.1.cls v197_, w ∈ tW0 := inAt_ok (is := [(2, 186), (4, 209), (1, 7), (4, 206), (4, 207), (4, 208), (4, 231), (1, 7), (4, 228), (4, 229), (4, 230), (4, 239), (1, 19), (1, 16), (4, 68), (4, 77), (4, 83), (4, 86), (4, 88), (4, 69), (4, 70), (1, 31), (1, 32), (4, 71), (4, 76), (4, 84), (4, 100), (4, 58), (4, 101), (4, 60), (4, 102), (4, 62), (4, 72), (4, 74), (4, 64), (4, 90), (4, 91), (4, 92), (4, 93), (4, 93), (4, 94), (4, 95), (4, 96), (4, 96), (4, 97), (4, 98), (4, 69), (5, 0), (4, 47), (4, 55), (4, 56), (4, 57), (4, 59), (4, 61), (4, 63), (4, 67), (4, 66), (4, 65)]) (by decide +kernel)
set_option maxRecDepth 100000 in
theorem x198_ : ∀ w ∈ rqM vwCl tMth tXn d198_.1.cls v198_, w ∈ tW0 := tEqW (K := [uw2_185, uw1_157, uw1_134, uw1_76]) rfl (tCoW uw2_185m (tCoW uw1_157m (tCoW uw1_134m (tCoW uw1_76m (tNiW)))))
set_option maxRecDepth 100000 in
theorem x199_ : ∀ w ∈ rqM vwCl tMth tXn d199_.1.cls v199_, w ∈ tW0 := tEqW (K := [uw2_185, uw1_169, uw1_160, uw1_157, uw1_162, uw2_186, uw2_96, uw4_205, uw1_11, uw4_202, uw4_204, uw0_27]) rfl (tCoW uw2_185m (tCoW uw1_169m (tCoW uw1_160m (tCoW uw1_157m (tCoW uw1_162m (tCoW uw2_186m (tCoW uw2_96m (tCoW uw4_205m (tCoW uw1_11m (tCoW uw4_202m (tCoW uw4_204m (tCoW uw0_27m (tNiW)))))))))))))
set_option maxRecDepth 100000 in
theorem x200_ : ∀ w ∈ rqM vwCl tMth tXn d200_.1.cls v200_, w ∈ tW0 := tEqW (K := [uw2_186, uw2_183, uw4_192, uw1_7, uw4_189, uw4_190, uw4_191]) rfl (tCoW uw2_186m (tCoW uw2_183m (tCoW uw4_192m (tCoW uw1_7m (tCoW uw4_189m (tCoW uw4_190m (tCoW uw4_191m (tNiW))))))))
set_option maxRecDepth 100000 in
theorem x201_ : ∀ w ∈ rqM vwCl tMth tXn d201_.1.cls v201_, w ∈ tW0 := tEqW (K := [uw2_187, uw2_148, uw2_146, uw2_142, uw2_186, uw2_96, uw1_91, uw2_144, uw1_76, uw4_205, uw1_11, uw4_202, uw4_204, uw0_27]) rfl (tCoW uw2_187m (tCoW uw2_148m (tCoW uw2_146m (tCoW uw2_142m (tCoW uw2_186m (tCoW uw2_96m (tCoW uw1_91m (tCoW uw2_144m (tCoW uw1_76m (tCoW uw4_205m (tCoW uw1_11m (tCoW uw4_202m (tCoW uw4_204m (tCoW uw0_27m (tNiW)))))))))))))))
set_option maxRecDepth 100000 in
theorem x202_ : ∀ w ∈ rqM vwCl tMth tXn d202_.1.cls v202_, w ∈ tW0 := tEqW (K := [uw2_193, uw2_194, uw2_191, uw2_192, uw2_197]) rfl (tCoW uw2_193m (tCoW uw2_194m (tCoW uw2_191m (tCoW uw2_192m (tCoW uw2_197m (tNiW))))))
set_option maxRecDepth 100000 in
theorem x203_ : ∀ w ∈ rqM vwCl tMth tXn d203_.1.cls v203_, w ∈ tW0 := tEqW (K := [uw2_170, uw2_168]) rfl (tCoW uw2_170m (tCoW uw2_168m (tNiW)))
set_option maxRecDepth 100000 in
theorem x204_ : ∀ w ∈ rqM vwCl tMth tXn d204_.1.cls v204_, w ∈ tW0 := inAt_ok (is := [(2, 187), (2, 186), (2, 96), (1, 88), (2, 188), (1, 93), (5, 43), (1, 12), (5, 40), (5, 41), (5, 42), (5, 59), (1, 12), (5, 56), (5, 57), (5, 58), (5, 63), (1, 12), (5, 60), (5, 61), (5, 62), (5, 71), (1, 12), (5, 68), (5, 69), (5, 70), (5, 76), (1, 12), (5, 73), (5, 74), (5, 75), (4, 239), (1, 19), (1, 16), (4, 68), (4, 77), (4, 83), (4, 86), (4, 88), (4, 69), (4, 70), (1, 31), (1, 32), (4, 71), (4, 76), (4, 84), (4, 100), (4, 58), (4, 101), (4, 60), (4, 102), (4, 62), (4, 72), (4, 74), (4, 64), (4, 90), (4, 91), (4, 92), (4, 93), (4, 93), (4, 94), (4, 95), (4, 96), (4, 96), (4, 97), (4, 98), (4, 69), (5, 0), (4, 47), (4, 55), (4, 56), (4, 57), (4, 59), (4, 61), (4, 63), (4, 67), (4, 66), (4, 65)]) (by decide +kernel)
set_option maxRecDepth 100000 in
theorem x205_ : ∀ w ∈ rqM vwCl tMth tXn d205_.1.cls v205_, w ∈ tW0 := tEqW (K := [uw2_193, uw2_190, uw2_188, uw2_191, uw1_134, uw2_186, uw2_96, uw1_70, uw1_76, uw2_194, uw2_192, uw2_99, uw2_94, uw1_141, uw2_189, uw2_91, uw5_30, uw1_13, uw5_27, uw5_28, uw5_29, uw5_35, uw1_11, uw5_32, uw5_34, uw0_34, uw5_39, uw1_11, uw5_36, uw5_38, uw0_35, uw4_205, uw1_11, uw4_202, uw4_204, uw0_27]) rfl (tCoW uw2_193m (tCoW uw2_190m (tCoW uw2_188m (tCoW uw2_191m (tCoW uw1_134m (tCoW uw2_186m (tCoW uw2_96m (tCoW uw1_70m (tCoW uw1_76m (tCoW uw2_194m (tCoW uw2_192m (tCoW uw2_99m (tCoW uw2_94m (tCoW uw1_141m (tCoW uw2_189m (tCoW uw2_91m (tCoW uw5_30m (tCoW uw1_13m (tCoW uw5_27m (tCoW uw5_28m (tCoW uw5_29m (tCoW uw5_35m (tCoW uw1_11m (tCoW uw5_32m (tCoW uw5_34m (tCoW uw0_34m (tCoW uw5_39m (tCoW uw1_11m (tCoW uw5_36m (tCoW uw5_38m (tCoW uw0_35m (tCoW uw4_205m (tCoW uw1_11m (tCoW uw4_202m (tCoW uw4_204m (tCoW uw0_27m (tNiW)))))))))))))))))))))))))))))))))))))
set_option maxRecDepth 100000 in
theorem x206_ : ∀ w ∈ rqM vwCl tMth tXn d206_.1.cls v206_, w ∈ tW0 := tEqW (K := [uw2_191, uw1_138, uw1_65, uw5_26, uw1_11, uw5_23, uw5_25, uw0_33, uw3_206, uw1_3, uw5_78, uw3_204, uw3_205, uw5_82, uw1_11, uw5_79, uw5_81, uw0_37, uw5_138, uw1_11, uw5_135, uw5_137, uw0_43, uw5_142, uw1_11, uw5_139, uw5_141, uw0_44, uw5_22, uw1_11, uw5_19, uw5_21, uw0_32]) rfl (tCoW uw2_191m (tCoW uw1_138m (tCoW uw1_65m (tCoW uw5_26m (tCoW uw1_11m (tCoW uw5_23m (tCoW uw5_25m (tCoW uw0_33m (tCoW uw3_206m (tCoW uw1_3m (tCoW uw5_78m (tCoW uw3_204m (tCoW uw3_205m (tCoW uw5_82m (tCoW uw1_11m (tCoW uw5_79m (tCoW uw5_81m (tCoW uw0_37m (tCoW uw5_138m (tCoW uw1_11m (tCoW uw5_135m (tCoW uw5_137m (tCoW uw0_43m (tCoW uw5_142m (tCoW uw1_11m (tCoW uw5_139m (tCoW uw5_141m (tCoW uw0_44m (tCoW uw5_22m (tCoW uw1_11m (tCoW uw5_19m (tCoW uw5_21m (tCoW uw0_32m (tNiW))))))))))))))))))))))))))))))))))
set_option maxRecDepth 100000 in
theorem x207_ : ∀ w ∈ rqM vwCl tMth tXn d207_.1.cls v207_, w ∈ tW0 := tEqW (K := [uw2_194, uw2_197, uw1_83, uw2_191, uw1_141, uw2_196, uw2_195, uw5_86, uw1_11, uw5_83, uw5_85, uw0_38, uw5_102, uw1_11, uw5_99, uw5_101, uw0_40, uw5_106, uw1_11, uw5_103, uw5_105, uw0_41, uw5_22, uw1_11, uw5_19, uw5_21, uw0_32, uw5_126, uw1_11, uw5_123, uw5_125, uw0_42]) rfl (tCoW uw2_194m (tCoW uw2_197m (tCoW uw1_83m (tCoW uw2_191m (tCoW uw1_141m (tCoW uw2_196m (tCoW uw2_195m (tCoW uw5_86m (tCoW uw1_11m (tCoW uw5_83m (tCoW uw5_85m (tCoW uw0_38m (tCoW uw5_102m (tCoW uw1_11m (tCoW uw5_99m (tCoW uw5_101m (tCoW uw0_40m (tCoW uw5_106m (tCoW uw1_11m (tCoW uw5_103m (tCoW uw5_105m (tCoW uw0_41m (tCoW uw5_22m (tCoW uw1_11m (tCoW uw5_19m (tCoW uw5_21m (tCoW uw0_32m (tCoW uw5_126m (tCoW uw1_11m (tCoW uw5_123m (tCoW uw5_125m (tCoW uw0_42m (tNiW)))))))))))))))))))))))))))))))))
set_option maxRecDepth 100000 in
theorem x208_ : ∀ w ∈ rqM vwCl tMth tXn d208_.1.cls v208_, w ∈ tW0 := tEqW (K := [uw2_190, uw2_186, uw2_99, uw2_195, uw2_183, uw5_13, uw1_11, uw5_10, uw5_12, uw0_31, uw5_22, uw1_11, uw5_19, uw5_21, uw0_32]) rfl (tCoW uw2_190m (tCoW uw2_186m (tCoW uw2_99m (tCoW uw2_195m (tCoW uw2_183m (tCoW uw5_13m (tCoW uw1_11m (tCoW uw5_10m (tCoW uw5_12m (tCoW uw0_31m (tCoW uw5_22m (tCoW uw1_11m (tCoW uw5_19m (tCoW uw5_21m (tCoW uw0_32m (tNiW))))))))))))))))
set_option maxRecDepth 100000 in
theorem x209_ : ∀ w ∈ rqM vwCl tMth tXn d209_.1.cls v209_, w ∈ tW0 := tEqW (K := [uw2_185, uw1_174, uw1_134, uw1_88, uw2_186, uw2_99, uw2_195, uw2_187, uw3_58, uw1_2, uw5_5, uw3_56, uw3_57, uw5_9, uw1_11, uw5_6, uw5_8, uw0_30, uw5_13, uw1_11, uw5_10, uw5_12, uw0_31, uw5_17, uw1_12, uw5_14, uw5_15, uw5_16, uw5_22, uw1_11, uw5_19, uw5_21, uw0_32, uw5_149, uw1_11, uw5_146, uw5_148, uw0_45]) rfl (tCoW uw2_185m (tCoW uw1_174m (tCoW uw1_134m (tCoW uw1_88m (tCoW uw2_186m (tCoW uw2_99m (tCoW uw2_195m (tCoW uw2_187m (tCoW uw3_58m (tCoW uw1_2m (tCoW uw5_5m (tCoW uw3_56m (tCoW uw3_57m (tCoW uw5_9m (tCoW uw1_11m (tCoW uw5_6m (tCoW uw5_8m (tCoW uw0_30m (tCoW uw5_13m (tCoW uw1_11m (tCoW uw5_10m (tCoW uw5_12m (tCoW uw0_31m (tCoW uw5_17m (tCoW uw1_12m (tCoW uw5_14m (tCoW uw5_15m (tCoW uw5_16m (tCoW uw5_22m (tCoW uw1_11m (tCoW uw5_19m (tCoW uw5_21m (tCoW uw0_32m (tCoW uw5_149m (tCoW uw1_11m (tCoW uw5_146m (tCoW uw5_148m (tCoW uw0_45m (tNiW)))))))))))))))))))))))))))))))))))))))
set_option maxRecDepth 100000 in
theorem x210_ : ∀ w ∈ rqM vwCl tMth tXn d210_.1.cls v210_, w ∈ tW0 := tEqW (K := [uw2_186, uw2_99, uw2_196, uw2_195, uw2_185, uw1_174, uw1_141, uw1_134, uw1_88, uw3_58, uw1_2, uw5_5, uw3_56, uw3_57, uw5_9, uw1_11, uw5_6, uw5_8, uw0_30, uw5_13, uw1_11, uw5_10, uw5_12, uw0_31, uw5_22, uw1_11, uw5_19, uw5_21, uw0_32]) rfl (tCoW uw2_186m (tCoW uw2_99m (tCoW uw2_196m (tCoW uw2_195m (tCoW uw2_185m (tCoW uw1_174m (tCoW uw1_141m (tCoW uw1_134m (tCoW uw1_88m (tCoW uw3_58m (tCoW uw1_2m (tCoW uw5_5m (tCoW uw3_56m (tCoW uw3_57m (tCoW uw5_9m (tCoW uw1_11m (tCoW uw5_6m (tCoW uw5_8m (tCoW uw0_30m (tCoW uw5_13m (tCoW uw1_11m (tCoW uw5_10m (tCoW uw5_12m (tCoW uw0_31m (tCoW uw5_22m (tCoW uw1_11m (tCoW uw5_19m (tCoW uw5_21m (tCoW uw0_32m (tNiW))))))))))))))))))))))))))))))
set_option maxRecDepth 100000 in
theorem x211_ : ∀ w ∈ rqM vwCl tMth tXn d211_.1.cls v211_, w ∈ tW0 := inAt_ok (is := [(3, 4), (3, 7), (1, 167), (3, 13), (2, 184), (3, 12), (3, 11), (3, 6), (2, 100), (4, 19), (1, 1), (4, 16), (4, 18), (0, 24), (4, 162), (1, 2), (4, 159), (4, 160), (4, 161), (4, 188), (1, 11), (4, 185), (4, 186), (4, 187), (4, 200), (1, 11), (4, 197), (4, 198), (4, 199), (5, 4), (1, 11), (5, 1), (5, 2), (5, 3), (5, 153), (1, 11), (5, 150), (5, 151), (5, 152), (4, 170), (1, 22), (1, 16), (4, 68), (4, 77), (4, 83), (4, 86), (4, 88), (4, 69), (4, 70), (1, 31), (1, 32), (4, 71), (4, 76), (4, 84), (4, 100), (4, 58), (4, 101), (4, 60), (4, 102), (4, 62), (4, 72), (4, 74), (4, 64), (4, 180), (4, 181), (4, 182), (4, 93), (4, 93), (4, 94), (4, 95), (4, 96), (4, 96), (4, 97), (4, 98), (4, 69), (4, 179), (4, 171), (4, 173), (4, 82), (4, 174), (4, 175), (4, 176), (4, 177), (4, 67), (4, 66), (4, 178)]) (by decide +kernel)
set_option maxRecDepth 100000 in
theorem x212_ : ∀ w ∈ rqM vwCl tMth tXn d212_.1.cls v212_, w ∈ tW0 := inAt_ok (is := [(3, 11), (3, 5), (3, 4), (1, 173), (1, 234), (3, 10), (1, 237), (2, 173), (3, 7), (3, 9), (2, 184), (3, 12), (2, 171), (4, 7), (1, 5), (4, 4), (4, 5), (4, 6), (3, 58), (1, 2), (3, 55), (3, 56), (3, 57), (3, 46), (1, 5), (3, 43), (3, 44), (3, 45), (3, 202), (1, 5), (3, 199), (3, 200), (3, 201), (4, 23), (1, 13), (4, 20), (4, 21), (4, 22), (6, 10), (1, 11), (6, 7), (6, 8), (6, 9), (5, 170), (1, 24), (1, 16), (4, 68), (4, 77), (4, 83), (4, 86), (4, 88), (4, 69), (4, 70), (1, 31), (1, 32), (4, 71), (4, 76), (4, 84), (4, 100), (4, 58), (4, 101), (4, 60), (4, 102), (4, 62), (4, 72), (4, 74), (4, 64), (5, 180), (5, 181), (5, 182), (4, 93), (4, 93), (4, 94), (4, 95), (4, 96), (4, 96), (4, 97), (4, 98), (4, 69), (5, 179), (5, 171), (5, 173), (4, 81), (5, 174), (5, 175), (5, 176), (5, 177), (4, 67), (4, 66), (5, 178)]) (by decide +kernel)
set_option maxRecDepth 100000 in
theorem x213_ : ∀ w ∈ rqM vwCl tMth tXn d213_.1.cls v213_, w ∈ tW0 := tEqW (K := [uw4_45, uw1_1, uw4_42, uw4_43, uw4_44, uw4_41]) rfl (tCoW uw4_45m (tCoW uw1_1m (tCoW uw4_42m (tCoW uw4_43m (tCoW uw4_44m (tCoW uw4_41m (tNiW)))))))
set_option maxRecDepth 100000 in
theorem x214_ : ∀ w ∈ rqM vwCl tMth tXn d214_.1.cls v214_, w ∈ tW0 := tEqW (K := [uw4_122, uw1_1, uw4_119, uw4_120, uw4_121, uw4_118]) rfl (tCoW uw4_122m (tCoW uw1_1m (tCoW uw4_119m (tCoW uw4_120m (tCoW uw4_121m (tCoW uw4_118m (tNiW)))))))
set_option maxRecDepth 100000 in
theorem x215_ : ∀ w ∈ rqM vwCl tMth tXn d215_.1.cls v215_, w ∈ tW0 := tEqW (K := [uw4_144, uw1_1, uw4_141, uw4_142, uw4_143, uw4_41]) rfl (tCoW uw4_144m (tCoW uw1_1m (tCoW uw4_141m (tCoW uw4_142m (tCoW uw4_143m (tCoW uw4_41m (tNiW)))))))
set_option maxRecDepth 100000 in
theorem x216_ : ∀ w ∈ rqM vwCl tMth tXn d216_.1.cls v216_, w ∈ tW0 := tEqW (K := [uw4_158, uw1_1, uw4_155, uw4_156, uw4_157, uw4_153, uw4_154, uw4_41]) rfl (tCoW uw4_158m (tCoW uw1_1m (tCoW uw4_155m (tCoW uw4_156m (tCoW uw4_157m (tCoW uw4_153m (tCoW uw4_154m (tCoW uw4_41m (tNiW)))))))))
set_option maxRecDepth 100000 in
theorem x217_ : ∀ w ∈ rqM vwCl tMth tXn d217_.1.cls v217_, w ∈ tW0 := tEqW (K := [uw5_161, uw1_1, uw5_158, uw5_159, uw5_160, uw4_118, uw5_157, uw4_41]) rfl (tCoW uw5_161m (tCoW uw1_1m (tCoW uw5_158m (tCoW uw5_159m (tCoW uw5_160m (tCoW uw4_118m (tCoW uw5_157m (tCoW uw4_41m (tNiW)))))))))
set_option maxRecDepth 100000 in
theorem x218_ : ∀ w ∈ rqM vwCl tMth tXn d218_.1.cls v218_, w ∈ tW0 := tEqW (K := [uw5_197, uw1_1, uw5_194, uw5_195, uw5_196, uw5_157, uw4_41]) rfl (tCoW uw5_197m (tCoW uw1_1m (tCoW uw5_194m (tCoW uw5_195m (tCoW uw5_196m (tCoW uw5_157m (tCoW uw4_41m (tNiW))))))))
set_option maxRecDepth 100000 in
theorem x219_ : ∀ w ∈ rqM vwCl tMth tXn d219_.1.cls v219_, w ∈ tW0 := tEqW (K := [uw5_204, uw1_1, uw5_201, uw5_202, uw5_203, uw5_157, uw4_41]) rfl (tCoW uw5_204m (tCoW uw1_1m (tCoW uw5_201m (tCoW uw5_202m (tCoW uw5_203m (tCoW uw5_157m (tCoW uw4_41m (tNiW))))))))
set_option maxRecDepth 100000 in
theorem x220_ : ∀ w ∈ rqM vwCl tMth tXn d220_.1.cls v220_, w ∈ tW0 := tEqW (K := [uw5_237, uw1_1, uw5_234, uw5_235, uw5_236, uw5_157]) rfl (tCoW uw5_237m (tCoW uw1_1m (tCoW uw5_234m (tCoW uw5_235m (tCoW uw5_236m (tCoW uw5_157m (tNiW)))))))
set_option maxRecDepth 100000 in
theorem x221_ : ∀ w ∈ rqM vwCl tMth tXn d221_.1.cls v221_, w ∈ tW0 := tEqW (K := [uw6_6, uw1_1, uw6_3, uw6_4, uw6_5, uw5_157, uw4_154]) rfl (tCoW uw6_6m (tCoW uw1_1m (tCoW uw6_3m (tCoW uw6_4m (tCoW uw6_5m (tCoW uw5_157m (tCoW uw4_154m (tNiW))))))))
set_option maxRecDepth 100000 in
theorem x222_ : ∀ w ∈ rqM vwCl tMth tXn d222_.1.cls v222_, w ∈ tW0 := tEqW (K := [uw6_17, uw1_1, uw6_14, uw6_15, uw6_16, uw4_41]) rfl (tCoW uw6_17m (tCoW uw1_1m (tCoW uw6_14m (tCoW uw6_15m (tCoW uw6_16m (tCoW uw4_41m (tNiW)))))))
set_option maxRecDepth 100000 in
theorem x223_ : ∀ w ∈ rqM vwCl tMth tXn d223_.1.cls v223_, w ∈ tW0 := tEqW (K := [uw6_25, uw1_1, uw6_22, uw6_23, uw6_24, uw5_157, uw4_41]) rfl (tCoW uw6_25m (tCoW uw1_1m (tCoW uw6_22m (tCoW uw6_23m (tCoW uw6_24m (tCoW uw5_157m (tCoW uw4_41m (tNiW))))))))
set_option maxRecDepth 100000 in
theorem x224_ : ∀ w ∈ rqM vwCl tMth tXn d224_.1.cls v224_, w ∈ tW0 := tEqW (K := [uw6_32, uw1_1, uw6_29, uw6_30, uw6_31, uw4_41]) rfl (tCoW uw6_32m (tCoW uw1_1m (tCoW uw6_29m (tCoW uw6_30m (tCoW uw6_31m (tCoW uw4_41m (tNiW)))))))
set_option maxRecDepth 100000 in
theorem x225_ : ∀ w ∈ rqM vwCl tMth tXn d225_.1.cls v225_, w ∈ tW0 := tEqW (K := [uw6_39, uw1_1, uw6_36, uw6_37, uw6_38, uw4_118]) rfl (tCoW uw6_39m (tCoW uw1_1m (tCoW uw6_36m (tCoW uw6_37m (tCoW uw6_38m (tCoW uw4_118m (tNiW)))))))
set_option maxRecDepth 100000 in
theorem x226_ : ∀ w ∈ rqM vwCl tMth tXn d226_.1.cls v226_, w ∈ tW0 := tEqW (K := [uw3_4, uw3_5, uw3_6, uw3_7, uw3_8, uw3_9, uw3_10, uw1_33, uw1_34, uw1_2, uw1_208, uw1_209, uw1_5, uw2_45, uw2_46, uw1_7, uw2_127, uw2_128, uw1_11, uw2_227, uw2_228, uw1_14, uw3_2, uw2_163, uw1_13, uw1_30, uw1_31, uw1_32, uw1_37, uw1_2, uw1_35, uw1_36, uw1_212, uw1_5, uw1_210, uw1_211, uw2_49, uw1_7, uw2_48, uw2_131, uw1_11, uw2_129, uw2_130, uw2_231, uw1_14, uw2_230, uw2_166, uw1_13, uw2_165]) rfl (tCoW uw3_4m (tCoW uw3_5m (tCoW uw3_6m (tCoW uw3_7m (tCoW uw3_8m (tCoW uw3_9m (tCoW uw3_10m (tCoW uw1_33m (tCoW uw1_34m (tCoW uw1_2m (tCoW uw1_208m (tCoW uw1_209m (tCoW uw1_5m (tCoW uw2_45m (tCoW uw2_46m (tCoW uw1_7m (tCoW uw2_127m (tCoW uw2_128m (tCoW uw1_11m (tCoW uw2_227m (tCoW uw2_228m (tCoW uw1_14m (tCoW uw3_2m (tCoW uw2_163m (tCoW uw1_13m (tCoW uw1_30m (tCoW uw1_31m (tCoW uw1_32m (tCoW uw1_37m (tCoW uw1_2m (tCoW uw1_35m (tCoW uw1_36m (tCoW uw1_212m (tCoW uw1_5m (tCoW uw1_210m (tCoW uw1_211m (tCoW uw2_49m (tCoW uw1_7m (tCoW uw2_48m (tCoW uw2_131m (tCoW uw1_11m (tCoW uw2_129m (tCoW uw2_130m (tCoW uw2_231m (tCoW uw1_14m (tCoW uw2_230m (tCoW uw2_166m (tCoW uw1_13m (tCoW uw2_165m (tNiW))))))))))))))))))))))))))))))))))))))))))))))))))
set_option maxRecDepth 100000 in
theorem x227_ : ∀ w ∈ rqM vwCl tMth tXn d227_.1.cls v227_, w ∈ tW0 := tEqW (K := [uw1_152, uw1_154, uw1_156, uw1_159, uw1_161, uw1_163, uw1_164, uw1_39, uw1_41, uw1_3, uw1_39, uw1_38, uw1_31, uw1_32, uw1_44, uw1_3, uw1_42, uw1_43]) rfl (tCoW uw1_152m (tCoW uw1_154m (tCoW uw1_156m (tCoW uw1_159m (tCoW uw1_161m (tCoW uw1_163m (tCoW uw1_164m (tCoW uw1_39m (tCoW uw1_41m (tCoW uw1_3m (tCoW uw1_39m (tCoW uw1_38m (tCoW uw1_31m (tCoW uw1_32m (tCoW uw1_44m (tCoW uw1_3m (tCoW uw1_42m (tCoW uw1_43m (tNiW)))))))))))))))))))
set_option maxRecDepth 100000 in
theorem x228_ : ∀ w ∈ rqM vwCl tMth tXn d228_.1.cls v228_, w ∈ tW0 := tEqW (K := [uw1_132, uw1_137, uw1_46, uw1_47, uw1_4, uw1_46, uw1_45, uw1_31, uw1_32, uw1_50, uw1_4, uw1_49]) rfl (tCoW uw1_132m (tCoW uw1_137m (tCoW uw1_46m (tCoW uw1_47m (tCoW uw1_4m (tCoW uw1_46m (tCoW uw1_45m (tCoW uw1_31m (tCoW uw1_32m (tCoW uw1_50m (tCoW uw1_4m (tCoW uw1_49m (tNiW)))))))))))))
set_option maxRecDepth 100000 in
theorem x229_ : ∀ w ∈ rqM vwCl tMth tXn d229_.1.cls v229_, w ∈ tW0 := tEqW (K := [uw1_52, uw1_55, uw1_58, uw1_60, uw1_51, uw1_31, uw1_32]) rfl (tCoW uw1_52m (tCoW uw1_55m (tCoW uw1_58m (tCoW uw1_60m (tCoW uw1_51m (tCoW uw1_31m (tCoW uw1_32m (tNiW))))))))
set_option maxRecDepth 100000 in
theorem x230_ : ∀ w ∈ rqM vwCl tMth tXn d230_.1.cls v230_, w ∈ tW0 := tEqW (K := [uw1_229, uw1_231, uw2_3, uw2_4, uw2_6, uw2_7, uw1_228, uw1_214, uw1_215, uw1_6, uw1_213, uw1_31, uw1_32, uw1_218, uw1_6, uw1_217]) rfl (tCoW uw1_229m (tCoW uw1_231m (tCoW uw2_3m (tCoW uw2_4m (tCoW uw2_6m (tCoW uw2_7m (tCoW uw1_228m (tCoW uw1_214m (tCoW uw1_215m (tCoW uw1_6m (tCoW uw1_213m (tCoW uw1_31m (tCoW uw1_32m (tCoW uw1_218m (tCoW uw1_6m (tCoW uw1_217m (tNiW)))))))))))))))))
set_option maxRecDepth 100000 in
theorem x231_ : ∀ w ∈ rqM vwCl tMth tXn d231_.1.cls v231_, w ∈ tW0 := tEqW (K := [uw1_220, uw1_219, uw1_31, uw1_32]) rfl (tCoW uw1_220m (tCoW uw1_219m (tCoW uw1_31m (tCoW uw1_32m (tNiW)))))
set_option maxRecDepth 100000 in
theorem x232_ : ∀ w ∈ rqM vwCl tMth tXn d232_.1.cls v232_, w ∈ tW0 := tEqW (K := [uw2_79, uw2_82, uw2_85, uw2_87, uw2_89, uw2_92, uw2_95, uw2_101, uw2_102, uw2_103, uw2_51, uw2_52, uw1_8, uw2_50, uw1_31, uw1_32, uw2_55, uw1_8, uw2_53, uw2_54]) rfl (tCoW uw2_79m (tCoW uw2_82m (tCoW uw2_85m (tCoW uw2_87m (tCoW uw2_89m (tCoW uw2_92m (tCoW uw2_95m (tCoW uw2_101m (tCoW uw2_102m (tCoW uw2_103m (tCoW uw2_51m (tCoW uw2_52m (tCoW uw1_8m (tCoW uw2_50m (tCoW uw1_31m (tCoW uw1_32m (tCoW uw2_55m (tCoW uw1_8m (tCoW uw2_53m (tCoW uw2_54m (tNiW)))))))))))))))))))))
set_option maxRecDepth 100000 in
theorem x233_ : ∀ w ∈ rqM vwCl tMth tXn d233_.1.cls v233_, w ∈ tW0 := tEqW (K := [uw2_66, uw2_67, uw2_68, uw2_69, uw2_56, uw1_31, uw1_32, uw2_59, uw1_9, uw2_57, uw2_58, uw2_62, uw1_9, uw2_60, uw2_61, uw2_65, uw1_10, uw2_63, uw2_64]) rfl (tCoW uw2_66m (tCoW uw2_67m (tCoW uw2_68m (tCoW uw2_69m (tCoW uw2_56m (tCoW uw1_31m (tCoW uw1_32m (tCoW uw2_59m (tCoW uw1_9m (tCoW uw2_57m (tCoW uw2_58m (tCoW uw2_62m (tCoW uw1_9m (tCoW uw2_60m (tCoW uw2_61m (tCoW uw2_65m (tCoW uw1_10m (tCoW uw2_63m (tCoW uw2_64m (tNiW))))))))))))))))))))
set_option maxRecDepth 100000 in
theorem x234_ : ∀ w ∈ rqM vwCl tMth tXn d234_.1.cls v234_, w ∈ tW0 := tEqW (K := [uw2_187, uw2_188, uw2_189, uw2_190, uw2_191, uw2_185, uw2_186, uw2_133, uw2_134, uw1_12, uw2_162, uw2_163, uw1_13, uw2_181, uw1_41, uw1_3, uw2_132, uw1_31, uw1_32, uw2_137, uw1_12, uw2_136, uw2_166, uw1_13, uw2_165, uw1_44, uw1_3, uw2_182, uw1_43]) rfl (tCoW uw2_187m (tCoW uw2_188m (tCoW uw2_189m (tCoW uw2_190m (tCoW uw2_191m (tCoW uw2_185m (tCoW uw2_186m (tCoW uw2_133m (tCoW uw2_134m (tCoW uw1_12m (tCoW uw2_162m (tCoW uw2_163m (tCoW uw1_13m (tCoW uw2_181m (tCoW uw1_41m (tCoW uw1_3m (tCoW uw2_132m (tCoW uw1_31m (tCoW uw1_32m (tCoW uw2_137m (tCoW uw1_12m (tCoW uw2_136m (tCoW uw2_166m (tCoW uw1_13m (tCoW uw2_165m (tCoW uw1_44m (tCoW uw1_3m (tCoW uw2_182m (tCoW uw1_43m (tNiW))))))))))))))))))))))))))))))
set_option maxRecDepth 100000 in
theorem x235_ : ∀ w ∈ rqM vwCl tMth tXn d235_.1.cls v235_, w ∈ tW0 := tEqW (K := [uw2_141, uw2_143, uw2_145, uw2_149, uw2_139, uw2_52, uw1_8, uw2_138, uw1_31, uw1_32, uw2_55, uw1_8, uw2_140, uw2_54]) rfl (tCoW uw2_141m (tCoW uw2_143m (tCoW uw2_145m (tCoW uw2_149m (tCoW uw2_139m (tCoW uw2_52m (tCoW uw1_8m (tCoW uw2_138m (tCoW uw1_31m (tCoW uw1_32m (tCoW uw2_55m (tCoW uw1_8m (tCoW uw2_140m (tCoW uw2_54m (tNiW)))))))))))))))
set_option maxRecDepth 100000 in
theorem x236_ : ∀ w ∈ rqM vwCl tMth tXn d236_.1.cls v236_, w ∈ tW0 := tEqW (K := [uw2_168, uw2_167, uw1_31, uw1_32]) rfl (tCoW uw2_168m (tCoW uw2_167m (tCoW uw1_31m (tCoW uw1_32m (tNiW)))))
set_option maxRecDepth 100000 in
theorem x237_ : ∀ w ∈ rqM vwCl tMth tXn d237_.1.cls v237_, w ∈ tW0 := tEqW (K := [uw2_233, uw2_232, uw1_31, uw1_32]) rfl (tCoW uw2_233m (tCoW uw2_232m (tCoW uw1_31m (tCoW uw1_32m (tNiW)))))
set_option maxRecDepth 100000 in
theorem x238_ : ∀ w ∈ rqM vwCl tMth tXn d238_.1.cls v238_, w ∈ tW0 := tEqW (K := [uw6_53, uw6_54, uw6_57, uw6_58, uw6_59, uw6_62, uw6_63, uw6_64, uw6_67, uw6_68, uw6_71, uw6_72, uw6_73, uw6_74, uw6_75, uw6_76, uw6_77, uw6_78, uw6_79, uw6_80, uw6_81, uw6_82, uw6_83, uw6_93, uw6_94, uw6_95, uw6_103, uw6_104, uw6_105, uw6_106, uw6_107, uw6_108, uw6_109, uw6_112, uw6_114, uw6_115, uw6_116, uw6_117, uw6_118, uw6_119, uw6_120, uw6_121, uw6_122, uw6_130, uw6_131, uw6_132, uw6_137, uw6_138, uw6_139, uw6_140, uw6_141, uw6_143, uw6_144, uw6_50, uw6_51, uw6_49, uw1_31, uw1_32]) rfl (tCoW uw6_53m (tCoW uw6_54m (tCoW uw6_57m (tCoW uw6_58m (tCoW uw6_59m (tCoW uw6_62m (tCoW uw6_63m (tCoW uw6_64m (tCoW uw6_67m (tCoW uw6_68m (tCoW uw6_71m (tCoW uw6_72m (tCoW uw6_73m (tCoW uw6_74m (tCoW uw6_75m (tCoW uw6_76m (tCoW uw6_77m (tCoW uw6_78m (tCoW uw6_79m (tCoW uw6_80m (tCoW uw6_81m (tCoW uw6_82m (tCoW uw6_83m (tCoW uw6_93m (tCoW uw6_94m (tCoW uw6_95m (tCoW uw6_103m (tCoW uw6_104m (tCoW uw6_105m (tCoW uw6_106m (tCoW uw6_107m (tCoW uw6_108m (tCoW uw6_109m (tCoW uw6_112m (tCoW uw6_114m (tCoW uw6_115m (tCoW uw6_116m (tCoW uw6_117m (tCoW uw6_118m (tCoW uw6_119m (tCoW uw6_120m (tCoW uw6_121m (tCoW uw6_122m (tCoW uw6_130m (tCoW uw6_131m (tCoW uw6_132m (tCoW uw6_137m (tCoW uw6_138m (tCoW uw6_139m (tCoW uw6_140m (tCoW uw6_141m (tCoW uw6_143m (tCoW uw6_144m (tCoW uw6_50m (tCoW uw6_51m (tCoW uw6_49m (tCoW uw1_31m (tCoW uw1_32m (tNiW)))))))))))))))))))))))))))))))))))))))))))))))))))))))))))
