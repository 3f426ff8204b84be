/-! ===== what each case does, all at once ===== -/
noncomputable def zTr : zSpc := fun _ _ _ _ _ => True
noncomputable def uSl : List zSpc := [sn0, sn1, sn2, sn3, sn4, sn5, sn6, sn7, sn8, sn9, sn10, sn11, sn12, sn13, sn14, sn15, sn16, sn17, sn18, sn19, sn20, sn21, sn22, sn23, sn24, sn25, sn26, sn27, sn28, sn29, sn30, sn31, sn32, sn33, sn34, sn35, sn36, sn37, sn38, sn39, sn40, sn41, sn42, sn43, sn44, sn45, sn46, sn47, sn48, sn49, sn50, sn51, sn52, sn53, sn54, sn55, sn56, sn57, sn58, sn59, sn60, sn61, sn62, sn63, sn64, sn65, sn66, sn67, sn68, sn69, sn70, sn71, sn72, sn73, sn74, sn75, sn76, sn77, sn78, sn79, sn80, sn81, sn82, sn83, sn84, sn85, sn86, sn87, sn88, sn89, sr90, sb91, sn92, sn93, sn94, sn95, sn96, sn97, sn98, sn99, sn100, sn101, sn102, sn103, sn104, sn105, sn106, sn107, sn108, sn109, sn110, sn111, sn112, sn113, sn114, sn115, sn116, sn117, sn118, sn119, sn120, sn121, sn122, sn123, sn124, sn125, sn126, sn127, sn128, sn129, sn130, sn131, sn132, sn133, sn134, sn135, sn136, sn137, sn138, sn139, sn140, sn141, sn142, sn143, sn144, sn145, sn146, sn147, sn148, sn149, sn150, sn151, sn152, sn153, sn154, sn155, sn156, sn157, sn158, sn159, sn160, sn161, sn162, sn163, sn164, sn165, sn166, sn167, sn168, sn169, sn170, sn171, sn172, sn173, sn174, sn175, sn176, sn177, sn178, sn179, sn180, sn181, sn182, sn183, sn184, sn185, sn186, sn187, sn188, sn189, sn190, sn191, sn192, sn193, sn194, sn195, sn196, sn197, sn198, sn199, sn200, sn201, sn202, sn203, sn204, sn205, sn206, sn207, sn208, sn209, sn210, sn211, sn212, sn213, sn214, sn215, sn216, sn217, sn218, sn219, sn220, sr221, sn222, sn223, sn224, sn225, sn226, sn227, sn228, sn229, sn230, sn231, sn232, sn233, sn234, sn235, sn236, sn237, sn238, sn239, sn240, sn241, sn242, sn243, sn244, sn245, sn246, sn247, sn248, sn249, sn250, sn251, sn252, sn253, sn254, sn255, sn256, sn257, sn258, sn259, sn260, sn261, sn262, sn263, sn264, sn265, sn266, sn267, sn268, sn269, sn270, sn271, sn272, sn273, sr274, sn275, sn276, sn277, sn278, sn279]
noncomputable def uS (n : Nat) : zSpc := uSl.getD n zTr
theorem uSi {k : Nat} {s : zSpc} (e : uS k = s) : ∀ x g o v g_q, uS k x g o v g_q → s x g o v g_q := fun x g o v g_q h => e ▸ h
noncomputable def zHz (n : Nat) : Prop := ∀ (I : rI) (a : zAn), uJL[n]? = some I → uAn[n]? = some a → ∃ (l0 : List zNx) (las : List (List zNx)), zOk 3000 uMx uW uT uJL uAn uBds n l0 las ∧ ∀ x g o v g_q, zSem uW uT I.2.2.2.1 I.2.2.1.1.length uS l0 (fun i => las.getD i []) (zNA a) x g o v g_q → uS n x g o v g_q
noncomputable def zHx (n : Nat) : Prop := zHz n ∨ (uS n = zTr ∧ rCkn 3000 uMx uW uT uJL uAn uBds n = true) ∨ n = 168
theorem zHz_of {n : Nat} {I0 : rI} {a0 : zAn} {s : zSpc} {l0 : List zNx} {las : List (List zNx)} (h1 : uJL[n]? = some I0) (h2 : uAn[n]? = some a0) (e : uS n = s) (h3 : zOk 3000 uMx uW uT uJL uAn uBds n l0 las) (h4 : ∀ x g o v g_q, zSem uW uT I0.2.2.2.1 I0.2.2.1.1.length uS l0 (fun i => las.getD i []) (zNA a0) x g o v g_q → s x g o v g_q) : zHx n := by
  refine Or.inl ?_
  intro I a hI ha
  rw [h1] at hI
  rw [h2] at ha
  cases hI
  cases ha
  exact ⟨l0, las, h3, fun x g o v g_q h => by rw [e]; exact h4 x g o v g_q h⟩
theorem sE0 : uS 0 = sn0 := rfl
theorem sE1 : uS 1 = sn1 := rfl
theorem sE2 : uS 2 = sn2 := rfl
theorem sE3 : uS 3 = sn3 := rfl
theorem sE4 : uS 4 = sn4 := rfl
theorem sE5 : uS 5 = sn5 := rfl
theorem sE6 : uS 6 = sn6 := rfl
theorem sE7 : uS 7 = sn7 := rfl
theorem sE8 : uS 8 = sn8 := rfl
theorem sE9 : uS 9 = sn9 := rfl
theorem sE10 : uS 10 = sn10 := rfl
theorem sE11 : uS 11 = sn11 := rfl
theorem sE12 : uS 12 = sn12 := rfl
theorem sE13 : uS 13 = sn13 := rfl
theorem sE14 : uS 14 = sn14 := rfl
theorem sE15 : uS 15 = sn15 := rfl
theorem sE16 : uS 16 = sn16 := rfl
theorem sE17 : uS 17 = sn17 := rfl
theorem sE18 : uS 18 = sn18 := rfl
theorem sE19 : uS 19 = sn19 := rfl
theorem sE20 : uS 20 = sn20 := rfl
theorem sE21 : uS 21 = sn21 := rfl
theorem sE22 : uS 22 = sn22 := rfl
theorem sE23 : uS 23 = sn23 := rfl
theorem sE24 : uS 24 = sn24 := rfl
theorem sE25 : uS 25 = sn25 := rfl
theorem sE26 : uS 26 = sn26 := rfl
theorem sE27 : uS 27 = sn27 := rfl
theorem sE28 : uS 28 = sn28 := rfl
theorem sE29 : uS 29 = sn29 := rfl
theorem sE30 : uS 30 = sn30 := rfl
theorem sE31 : uS 31 = sn31 := rfl
theorem sE32 : uS 32 = sn32 := rfl
theorem sE33 : uS 33 = sn33 := rfl
theorem sE34 : uS 34 = sn34 := rfl
theorem sE35 : uS 35 = sn35 := rfl
theorem sE36 : uS 36 = sn36 := rfl
theorem sE37 : uS 37 = sn37 := rfl
theorem sE38 : uS 38 = sn38 := rfl
theorem sE39 : uS 39 = sn39 := rfl
theorem sE40 : uS 40 = sn40 := rfl
theorem sE41 : uS 41 = sn41 := rfl
theorem sE42 : uS 42 = sn42 := rfl
theorem sE43 : uS 43 = sn43 := rfl
theorem sE44 : uS 44 = sn44 := rfl
theorem sE45 : uS 45 = sn45 := rfl
theorem sE46 : uS 46 = sn46 := rfl
theorem sE47 : uS 47 = sn47 := rfl
theorem sE48 : uS 48 = sn48 := rfl
theorem sE49 : uS 49 = sn49 := rfl
theorem sE50 : uS 50 = sn50 := rfl
theorem sE51 : uS 51 = sn51 := rfl
theorem sE52 : uS 52 = sn52 := rfl
theorem sE53 : uS 53 = sn53 := rfl
theorem sE54 : uS 54 = sn54 := rfl
theorem sE55 : uS 55 = sn55 := rfl
theorem sE56 : uS 56 = sn56 := rfl
theorem sE57 : uS 57 = sn57 := rfl
theorem sE58 : uS 58 = sn58 := rfl
theorem sE59 : uS 59 = sn59 := rfl
theorem sE60 : uS 60 = sn60 := rfl
theorem sE61 : uS 61 = sn61 := rfl
theorem sE62 : uS 62 = sn62 := rfl
theorem sE63 : uS 63 = sn63 := rfl
theorem sE64 : uS 64 = sn64 := rfl
theorem sE65 : uS 65 = sn65 := rfl
theorem sE66 : uS 66 = sn66 := rfl
theorem sE67 : uS 67 = sn67 := rfl
theorem sE68 : uS 68 = sn68 := rfl
theorem sE69 : uS 69 = sn69 := rfl
theorem sE70 : uS 70 = sn70 := rfl
theorem sE71 : uS 71 = sn71 := rfl
theorem sE72 : uS 72 = sn72 := rfl
theorem sE73 : uS 73 = sn73 := rfl
theorem sE74 : uS 74 = sn74 := rfl
theorem sE75 : uS 75 = sn75 := rfl
theorem sE76 : uS 76 = sn76 := rfl
theorem sE77 : uS 77 = sn77 := rfl
theorem sE78 : uS 78 = sn78 := rfl
theorem sE79 : uS 79 = sn79 := rfl
theorem sE80 : uS 80 = sn80 := rfl
theorem sE81 : uS 81 = sn81 := rfl
theorem sE82 : uS 82 = sn82 := rfl
theorem sE83 : uS 83 = sn83 := rfl
theorem sE84 : uS 84 = sn84 := rfl
theorem sE85 : uS 85 = sn85 := rfl
theorem sE86 : uS 86 = sn86 := rfl
theorem sE87 : uS 87 = sn87 := rfl
theorem sE88 : uS 88 = sn88 := rfl
theorem sE89 : uS 89 = sn89 := rfl
theorem sE90 : uS 90 = sr90 := rfl
theorem sE91 : uS 91 = sb91 := rfl
theorem sE92 : uS 92 = sn92 := rfl
theorem sE93 : uS 93 = sn93 := rfl
theorem sE94 : uS 94 = sn94 := rfl
theorem sE95 : uS 95 = sn95 := rfl
theorem sE96 : uS 96 = sn96 := rfl
theorem sE97 : uS 97 = sn97 := rfl
theorem sE98 : uS 98 = sn98 := rfl
theorem sE99 : uS 99 = sn99 := rfl
theorem sE100 : uS 100 = sn100 := rfl
theorem sE101 : uS 101 = sn101 := rfl
theorem sE102 : uS 102 = sn102 := rfl
theorem sE103 : uS 103 = sn103 := rfl
theorem sE104 : uS 104 = sn104 := rfl
theorem sE105 : uS 105 = sn105 := rfl
theorem sE106 : uS 106 = sn106 := rfl
theorem sE107 : uS 107 = sn107 := rfl
theorem sE108 : uS 108 = sn108 := rfl
theorem sE109 : uS 109 = sn109 := rfl
theorem sE110 : uS 110 = sn110 := rfl
theorem sE111 : uS 111 = sn111 := rfl
theorem sE112 : uS 112 = sn112 := rfl
theorem sE113 : uS 113 = sn113 := rfl
theorem sE114 : uS 114 = sn114 := rfl
theorem sE115 : uS 115 = sn115 := rfl
theorem sE116 : uS 116 = sn116 := rfl
theorem sE117 : uS 117 = sn117 := rfl
theorem sE118 : uS 118 = sn118 := rfl
theorem sE119 : uS 119 = sn119 := rfl
theorem sE120 : uS 120 = sn120 := rfl
theorem sE121 : uS 121 = sn121 := rfl
theorem sE122 : uS 122 = sn122 := rfl
theorem sE123 : uS 123 = sn123 := rfl
theorem sE124 : uS 124 = sn124 := rfl
theorem sE125 : uS 125 = sn125 := rfl
theorem sE126 : uS 126 = sn126 := rfl
theorem sE127 : uS 127 = sn127 := rfl
theorem sE128 : uS 128 = sn128 := rfl
theorem sE129 : uS 129 = sn129 := rfl
theorem sE130 : uS 130 = sn130 := rfl
theorem sE131 : uS 131 = sn131 := rfl
theorem sE132 : uS 132 = sn132 := rfl
theorem sE133 : uS 133 = sn133 := rfl
theorem sE134 : uS 134 = sn134 := rfl
theorem sE135 : uS 135 = sn135 := rfl
theorem sE136 : uS 136 = sn136 := rfl
theorem sE137 : uS 137 = sn137 := rfl
theorem sE138 : uS 138 = sn138 := rfl
theorem sE139 : uS 139 = sn139 := rfl
theorem sE140 : uS 140 = sn140 := rfl
theorem sE141 : uS 141 = sn141 := rfl
theorem sE142 : uS 142 = sn142 := rfl
theorem sE143 : uS 143 = sn143 := rfl
theorem sE144 : uS 144 = sn144 := rfl
theorem sE145 : uS 145 = sn145 := rfl
theorem sE146 : uS 146 = sn146 := rfl
theorem sE147 : uS 147 = sn147 := rfl
theorem sE148 : uS 148 = sn148 := rfl
theorem sE149 : uS 149 = sn149 := rfl
theorem sE150 : uS 150 = sn150 := rfl
theorem sE151 : uS 151 = sn151 := rfl
theorem sE152 : uS 152 = sn152 := rfl
theorem sE153 : uS 153 = sn153 := rfl
theorem sE154 : uS 154 = sn154 := rfl
theorem sE155 : uS 155 = sn155 := rfl
theorem sE156 : uS 156 = sn156 := rfl
theorem sE157 : uS 157 = sn157 := rfl
theorem sE158 : uS 158 = sn158 := rfl
theorem sE159 : uS 159 = sn159 := rfl
theorem sE160 : uS 160 = sn160 := rfl
theorem sE161 : uS 161 = sn161 := rfl
theorem sE162 : uS 162 = sn162 := rfl
theorem sE163 : uS 163 = sn163 := rfl
theorem sE164 : uS 164 = sn164 := rfl
theorem sE165 : uS 165 = sn165 := rfl
theorem sE166 : uS 166 = sn166 := rfl
theorem sE167 : uS 167 = sn167 := rfl
theorem sE168 : uS 168 = sn168 := rfl
theorem sE169 : uS 169 = sn169 := rfl
theorem sE170 : uS 170 = sn170 := rfl
theorem sE171 : uS 171 = sn171 := rfl
theorem sE172 : uS 172 = sn172 := rfl
theorem sE173 : uS 173 = sn173 := rfl
theorem sE174 : uS 174 = sn174 := rfl
theorem sE175 : uS 175 = sn175 := rfl
theorem sE176 : uS 176 = sn176 := rfl
theorem sE177 : uS 177 = sn177 := rfl
theorem sE178 : uS 178 = sn178 := rfl
theorem sE179 : uS 179 = sn179 := rfl
theorem sE180 : uS 180 = sn180 := rfl
theorem sE181 : uS 181 = sn181 := rfl
theorem sE182 : uS 182 = sn182 := rfl
theorem sE183 : uS 183 = sn183 := rfl
theorem sE184 : uS 184 = sn184 := rfl
theorem sE185 : uS 185 = sn185 := rfl
theorem sE186 : uS 186 = sn186 := rfl
theorem sE187 : uS 187 = sn187 := rfl
theorem sE188 : uS 188 = sn188 := rfl
theorem sE189 : uS 189 = sn189 := rfl
theorem sE190 : uS 190 = sn190 := rfl
theorem sE191 : uS 191 = sn191 := rfl
theorem sE192 : uS 192 = sn192 := rfl
theorem sE193 : uS 193 = sn193 := rfl
theorem sE194 : uS 194 = sn194 := rfl
theorem sE195 : uS 195 = sn195 := rfl
theorem sE196 : uS 196 = sn196 := rfl
theorem sE197 : uS 197 = sn197 := rfl
theorem sE198 : uS 198 = sn198 := rfl
theorem sE199 : uS 199 = sn199 := rfl
theorem sE200 : uS 200 = sn200 := rfl
theorem sE201 : uS 201 = sn201 := rfl
theorem sE202 : uS 202 = sn202 := rfl
theorem sE203 : uS 203 = sn203 := rfl
theorem sE204 : uS 204 = sn204 := rfl
theorem sE205 : uS 205 = sn205 := rfl
theorem sE206 : uS 206 = sn206 := rfl
theorem sE207 : uS 207 = sn207 := rfl
theorem sE208 : uS 208 = sn208 := rfl
theorem sE209 : uS 209 = sn209 := rfl
theorem sE210 : uS 210 = sn210 := rfl
theorem sE211 : uS 211 = sn211 := rfl
theorem sE212 : uS 212 = sn212 := rfl
theorem sE213 : uS 213 = sn213 := rfl
theorem sE214 : uS 214 = sn214 := rfl
theorem sE215 : uS 215 = sn215 := rfl
theorem sE216 : uS 216 = sn216 := rfl
theorem sE217 : uS 217 = sn217 := rfl
theorem sE218 : uS 218 = sn218 := rfl
theorem sE219 : uS 219 = sn219 := rfl
theorem sE220 : uS 220 = sn220 := rfl
theorem sE221 : uS 221 = sr221 := rfl
theorem sE222 : uS 222 = sn222 := rfl
theorem sE223 : uS 223 = sn223 := rfl
theorem sE224 : uS 224 = sn224 := rfl
theorem sE225 : uS 225 = sn225 := rfl
theorem sE226 : uS 226 = sn226 := rfl
theorem sE227 : uS 227 = sn227 := rfl
theorem sE228 : uS 228 = sn228 := rfl
theorem sE229 : uS 229 = sn229 := rfl
theorem sE230 : uS 230 = sn230 := rfl
theorem sE231 : uS 231 = sn231 := rfl
theorem sE232 : uS 232 = sn232 := rfl
theorem sE233 : uS 233 = sn233 := rfl
theorem sE234 : uS 234 = sn234 := rfl
theorem sE235 : uS 235 = sn235 := rfl
theorem sE236 : uS 236 = sn236 := rfl
theorem sE237 : uS 237 = sn237 := rfl
theorem sE238 : uS 238 = sn238 := rfl
theorem sE239 : uS 239 = sn239 := rfl
theorem sE240 : uS 240 = sn240 := rfl
theorem sE241 : uS 241 = sn241 := rfl
theorem sE242 : uS 242 = sn242 := rfl
theorem sE243 : uS 243 = sn243 := rfl
theorem sE244 : uS 244 = sn244 := rfl
theorem sE245 : uS 245 = sn245 := rfl
theorem sE246 : uS 246 = sn246 := rfl
theorem sE247 : uS 247 = sn247 := rfl
theorem sE248 : uS 248 = sn248 := rfl
theorem sE249 : uS 249 = sn249 := rfl
theorem sE250 : uS 250 = sn250 := rfl
theorem sE251 : uS 251 = sn251 := rfl
theorem sE252 : uS 252 = sn252 := rfl
theorem sE253 : uS 253 = sn253 := rfl
theorem sE254 : uS 254 = sn254 := rfl
theorem sE255 : uS 255 = sn255 := rfl
theorem sE256 : uS 256 = sn256 := rfl
theorem sE257 : uS 257 = sn257 := rfl
theorem sE258 : uS 258 = sn258 := rfl
theorem sE259 : uS 259 = sn259 := rfl
theorem sE260 : uS 260 = sn260 := rfl
theorem sE261 : uS 261 = sn261 := rfl
theorem sE262 : uS 262 = sn262 := rfl
theorem sE263 : uS 263 = sn263 := rfl
theorem sE264 : uS 264 = sn264 := rfl
theorem sE265 : uS 265 = sn265 := rfl
theorem sE266 : uS 266 = sn266 := rfl
theorem sE267 : uS 267 = sn267 := rfl
theorem sE268 : uS 268 = sn268 := rfl
theorem sE269 : uS 269 = sn269 := rfl
theorem sE270 : uS 270 = sn270 := rfl
theorem sE271 : uS 271 = sn271 := rfl
theorem sE272 : uS 272 = sn272 := rfl
theorem sE273 : uS 273 = sn273 := rfl
theorem sE274 : uS 274 = sr274 := rfl
theorem sE275 : uS 275 = sn275 := rfl
theorem sE276 : uS 276 = sn276 := rfl
theorem sE277 : uS 277 = sn277 := rfl
theorem sE278 : uS 278 = sn278 := rfl
theorem sE279 : uS 279 = sn279 := rfl
set_option maxRecDepth 100000 in
theorem zh0 : zHx 0 := zHz_of (I0 := w0_) (a0 := a0_) (l0 := q0) (las := q0a) rfl rfl sE0 (zOk_of zk0_) (yn0)
set_option maxRecDepth 100000 in
theorem zh1 : zHx 1 := zHz_of (I0 := w1_) (a0 := a1_) (l0 := q1) (las := q1a) rfl rfl sE1 (zOk_of zk1_) (yn1)
set_option maxRecDepth 100000 in
theorem zh2 : zHx 2 := zHz_of (I0 := w2_) (a0 := a2_) (l0 := q2) (las := q2a) rfl rfl sE2 (zOk_of zk2_) (yn2)
set_option maxRecDepth 100000 in
theorem zh3 : zHx 3 := zHz_of (I0 := w3_) (a0 := a3_) (l0 := q3) (las := q3a) rfl rfl sE3 (zOk_of zk3_) (yn3 (uSi sE1) (uSi sE2))
set_option maxRecDepth 100000 in
theorem zh4 : zHx 4 := zHz_of (I0 := w4_) (a0 := a4_) (l0 := q4) (las := q4a) rfl rfl sE4 (zOk_of zk4_) (yn4 (uSi sE1))
set_option maxRecDepth 100000 in
theorem zh5 : zHx 5 := zHz_of (I0 := w5_) (a0 := a5_) (l0 := q5) (las := q5a) rfl rfl sE5 (zOk_of zk5_) (yn5)
set_option maxRecDepth 100000 in
theorem zh6 : zHx 6 := zHz_of (I0 := w6_) (a0 := a6_) (l0 := q6) (las := q6a) rfl rfl sE6 (zOk_of zk6_) (yn6)
set_option maxRecDepth 100000 in
theorem zh7 : zHx 7 := zHz_of (I0 := w7_) (a0 := a7_) (l0 := q7) (las := q7a) rfl rfl sE7 (zOk_of zk7_) (yn7 (uSi sE6))
set_option maxRecDepth 100000 in
theorem zh8 : zHx 8 := zHz_of (I0 := w8_) (a0 := a8_) (l0 := q8) (las := q8a) rfl rfl sE8 (zOk_of zk8_) (yn8)
set_option maxRecDepth 100000 in
theorem zh9 : zHx 9 := zHz_of (I0 := w9_) (a0 := a9_) (l0 := q9) (las := q9a) rfl rfl sE9 (zOk_of zk9_) (yn9)
set_option maxRecDepth 100000 in
theorem zh10 : zHx 10 := zHz_of (I0 := w10_) (a0 := a10_) (l0 := q10) (las := q10a) rfl rfl sE10 (zOk_of zk10_) (yn10)
set_option maxRecDepth 100000 in
theorem zh11 : zHx 11 := zHz_of (I0 := w11_) (a0 := a11_) (l0 := q11) (las := q11a) rfl rfl sE11 (zOk_of zk11_) (yn11)
set_option maxRecDepth 100000 in
theorem zh12 : zHx 12 := zHz_of (I0 := w12_) (a0 := a12_) (l0 := q12) (las := q12a) rfl rfl sE12 (zOk_of zk12_) (yn12 (uSi sE6) (uSi sE8) (uSi sE9) (uSi sE11))
set_option maxRecDepth 100000 in
theorem zh13 : zHx 13 := zHz_of (I0 := w13_) (a0 := a13_) (l0 := q13) (las := q13a) rfl rfl sE13 (zOk_of zk13_) (yn13)
set_option maxRecDepth 100000 in
theorem zh14 : zHx 14 := zHz_of (I0 := w14_) (a0 := a14_) (l0 := q14) (las := q14a) rfl rfl sE14 (zOk_of zk14_) (yn14 (uSi sE6) (uSi sE8) (uSi sE11))
set_option maxRecDepth 100000 in
theorem zh15 : zHx 15 := zHz_of (I0 := w15_) (a0 := a15_) (l0 := q15) (las := q15a) rfl rfl sE15 (zOk_of zk15_) (yn15)
set_option maxRecDepth 100000 in
theorem zh16 : zHx 16 := zHz_of (I0 := w16_) (a0 := a16_) (l0 := q16) (las := q16a) rfl rfl sE16 (zOk_of zk16_) (yn16)
set_option maxRecDepth 100000 in
theorem zh17 : zHx 17 := zHz_of (I0 := w17_) (a0 := a17_) (l0 := q17) (las := q17a) rfl rfl sE17 (zOk_of zk17_) (yn17 (uSi sE8) (uSi sE12) (uSi sE16))
set_option maxRecDepth 100000 in
theorem zh18 : zHx 18 := zHz_of (I0 := w18_) (a0 := a18_) (l0 := q18) (las := q18a) rfl rfl sE18 (zOk_of zk18_) (yn18)
set_option maxRecDepth 100000 in
theorem zh19 : zHx 19 := zHz_of (I0 := w19_) (a0 := a19_) (l0 := q19) (las := q19a) rfl rfl sE19 (zOk_of zk19_) (yn19)
set_option maxRecDepth 100000 in
theorem zh20 : zHx 20 := zHz_of (I0 := w20_) (a0 := a20_) (l0 := q20) (las := q20a) rfl rfl sE20 (zOk_of zk20_) (yn20 (uSi sE6) (uSi sE7) (uSi sE8) (uSi sE9) (uSi sE10) (uSi sE11) (uSi sE12) (uSi sE14) (uSi sE15) (uSi sE17))
set_option maxRecDepth 100000 in
theorem zh21 : zHx 21 := zHz_of (I0 := w21_) (a0 := a21_) (l0 := q21) (las := q21a) rfl rfl sE21 (zOk_of zk21_) (yn21)
set_option maxRecDepth 100000 in
theorem zh22 : zHx 22 := zHz_of (I0 := w22_) (a0 := a22_) (l0 := q22) (las := q22a) rfl rfl sE22 (zOk_of zk22_) (yn22)
set_option maxRecDepth 100000 in
theorem zh23 : zHx 23 := zHz_of (I0 := w23_) (a0 := a23_) (l0 := q23) (las := q23a) rfl rfl sE23 (zOk_of zk23_) (yn23 (uSi sE6) (uSi sE7) (uSi sE8) (uSi sE9) (uSi sE12))
set_option maxRecDepth 100000 in
theorem zh24 : zHx 24 := zHz_of (I0 := w24_) (a0 := a24_) (l0 := q24) (las := q24a) rfl rfl sE24 (zOk_of zk24_) (yn24 (uSi sE6) (uSi sE7) (uSi sE8))
set_option maxRecDepth 100000 in
theorem zh25 : zHx 25 := zHz_of (I0 := w25_) (a0 := a25_) (l0 := q25) (las := q25a) rfl rfl sE25 (zOk_of zk25_) (yn25)
set_option maxRecDepth 100000 in
theorem zh26 : zHx 26 := zHz_of (I0 := w26_) (a0 := a26_) (l0 := q26) (las := q26a) rfl rfl sE26 (zOk_of zk26_) (yn26 (uSi sE6) (uSi sE7) (uSi sE8) (uSi sE10) (uSi sE13) (uSi sE17) (uSi sE23) (uSi sE25))
set_option maxRecDepth 100000 in
theorem zh27 : zHx 27 := zHz_of (I0 := w27_) (a0 := a27_) (l0 := q27) (las := q27a) rfl rfl sE27 (zOk_of zk27_) (yn27 (uSi sE6) (uSi sE7) (uSi sE8) (uSi sE20) (uSi sE23) (uSi sE24) (uSi sE26))
set_option maxRecDepth 100000 in
theorem zh28 : zHx 28 := zHz_of (I0 := w28_) (a0 := a28_) (l0 := q28) (las := q28a) rfl rfl sE28 (zOk_of zk28_) (yn28 (uSi sE8) (uSi sE18))
set_option maxRecDepth 100000 in
theorem zh29 : zHx 29 := zHz_of (I0 := w29_) (a0 := a29_) (l0 := q29) (las := q29a) rfl rfl sE29 (zOk_of zk29_) (yn29)
set_option maxRecDepth 100000 in
theorem zh30 : zHx 30 := zHz_of (I0 := w30_) (a0 := a30_) (l0 := q30) (las := q30a) rfl rfl sE30 (zOk_of zk30_) (yn30 (uSi sE29))
set_option maxRecDepth 100000 in
theorem zh31 : zHx 31 := zHz_of (I0 := w31_) (a0 := a31_) (l0 := q31) (las := q31a) rfl rfl sE31 (zOk_of zk31_) (yn31 (uSi sE8))
set_option maxRecDepth 100000 in
theorem zh32 : zHx 32 := zHz_of (I0 := w32_) (a0 := a32_) (l0 := q32) (las := q32a) rfl rfl sE32 (zOk_of zk32_) (yn32)
set_option maxRecDepth 100000 in
theorem zh33 : zHx 33 := zHz_of (I0 := w33_) (a0 := a33_) (l0 := q33) (las := q33a) rfl rfl sE33 (zOk_of zk33_) (yn33)
set_option maxRecDepth 100000 in
theorem zh34 : zHx 34 := zHz_of (I0 := w34_) (a0 := a34_) (l0 := q34) (las := q34a) rfl rfl sE34 (zOk_of zk34_) (yn34 (uSi sE7) (uSi sE8) (uSi sE19) (uSi sE20) (uSi sE33))
set_option maxRecDepth 100000 in
theorem zh35 : zHx 35 := zHz_of (I0 := w35_) (a0 := a35_) (l0 := q35) (las := q35a) rfl rfl sE35 (zOk_of zk35_) (yn35 (uSi sE6) (uSi sE7) (uSi sE8) (uSi sE19) (uSi sE33) (uSi sE34))
set_option maxRecDepth 100000 in
theorem zh36 : zHx 36 := zHz_of (I0 := w36_) (a0 := a36_) (l0 := q36) (las := q36a) rfl rfl sE36 (zOk_of zk36_) (yn36 (uSi sE6) (uSi sE7) (uSi sE8) (uSi sE20) (uSi sE21) (uSi sE22) (uSi sE24) (uSi sE25) (uSi sE33))
set_option maxRecDepth 100000 in
theorem zh37 : zHx 37 := zHz_of (I0 := w37_) (a0 := a37_) (l0 := q37) (las := q37a) rfl rfl sE37 (zOk_of zk37_) (yn37 (uSi sE6) (uSi sE7) (uSi sE8) (uSi sE9) (uSi sE12) (uSi sE13) (uSi sE15) (uSi sE18) (uSi sE20) (uSi sE23) (uSi sE33) (uSi sE34) (uSi sE35) (uSi sE36))
set_option maxRecDepth 100000 in
theorem zh38 : zHx 38 := zHz_of (I0 := w38_) (a0 := a38_) (l0 := q38) (las := q38a) rfl rfl sE38 (zOk_of zk38_) (yn38 (uSi sE6) (uSi sE7) (uSi sE8) (uSi sE37))
set_option maxRecDepth 100000 in
theorem zh39 : zHx 39 := zHz_of (I0 := w39_) (a0 := a39_) (l0 := q39) (las := q39a) rfl rfl sE39 (zOk_of zk39_) (yn39)
set_option maxRecDepth 100000 in
theorem zh40 : zHx 40 := zHz_of (I0 := w40_) (a0 := a40_) (l0 := q40) (las := q40a) rfl rfl sE40 (zOk_of zk40_) (yn40 (uSi sE6) (uSi sE7) (uSi sE8) (uSi sE19) (uSi sE33) (uSi sE34))
set_option maxRecDepth 100000 in
theorem zh41 : zHx 41 := zHz_of (I0 := w41_) (a0 := a41_) (l0 := q41) (las := q41a) rfl rfl sE41 (zOk_of zk41_) (yn41 (uSi sE6) (uSi sE7) (uSi sE8) (uSi sE20) (uSi sE21) (uSi sE24) (uSi sE25) (uSi sE33) (uSi sE39))
set_option maxRecDepth 100000 in
theorem zh42 : zHx 42 := zHz_of (I0 := w42_) (a0 := a42_) (l0 := q42) (las := q42a) rfl rfl sE42 (zOk_of zk42_) (yn42 (uSi sE6) (uSi sE7) (uSi sE8) (uSi sE9) (uSi sE12) (uSi sE13) (uSi sE15) (uSi sE18) (uSi sE20) (uSi sE23) (uSi sE33) (uSi sE34) (uSi sE40) (uSi sE41))
set_option maxRecDepth 100000 in
theorem zh43 : zHx 43 := zHz_of (I0 := w43_) (a0 := a43_) (l0 := q43) (las := q43a) rfl rfl sE43 (zOk_of zk43_) (yn43 (uSi sE6) (uSi sE7) (uSi sE8) (uSi sE42))
set_option maxRecDepth 100000 in
theorem zh44 : zHx 44 := zHz_of (I0 := w44_) (a0 := a44_) (l0 := q44) (las := q44a) rfl rfl sE44 (zOk_of zk44_) (yn44 (uSi sE33))
set_option maxRecDepth 100000 in
theorem zh45 : zHx 45 := zHz_of (I0 := w45_) (a0 := a45_) (l0 := q45) (las := q45a) rfl rfl sE45 (zOk_of zk45_) (yn45)
set_option maxRecDepth 100000 in
theorem zh46 : zHx 46 := zHz_of (I0 := w46_) (a0 := a46_) (l0 := q46) (las := q46a) rfl rfl sE46 (zOk_of zk46_) (yn46)
set_option maxRecDepth 100000 in
theorem zh47 : zHx 47 := zHz_of (I0 := w47_) (a0 := a47_) (l0 := q47) (las := q47a) rfl rfl sE47 (zOk_of zk47_) (yn47)
set_option maxRecDepth 100000 in
theorem zh48 : zHx 48 := zHz_of (I0 := w48_) (a0 := a48_) (l0 := q48) (las := q48a) rfl rfl sE48 (zOk_of zk48_) (yn48)
set_option maxRecDepth 100000 in
theorem zh49 : zHx 49 := zHz_of (I0 := w49_) (a0 := a49_) (l0 := q49) (las := q49a) rfl rfl sE49 (zOk_of zk49_) (yn49 (uSi sE6) (uSi sE7) (uSi sE8) (uSi sE21) (uSi sE25) (uSi sE27) (uSi sE28) (uSi sE30) (uSi sE31) (uSi sE39) (uSi sE43) (uSi sE44) (uSi sE45) (uSi sE46) (uSi sE47))
set_option maxRecDepth 100000 in
theorem zh50 : zHx 50 := zHz_of (I0 := w50_) (a0 := a50_) (l0 := q50) (las := q50a) rfl rfl sE50 (zOk_of zk50_) (yn50)
set_option maxRecDepth 100000 in
theorem zh51 : zHx 51 := zHz_of (I0 := w51_) (a0 := a51_) (l0 := q51) (las := q51a) rfl rfl sE51 (zOk_of zk51_) (yn51 (uSi sE5) (uSi sE7) (uSi sE49) (uSi sE50))
set_option maxRecDepth 100000 in
theorem zh52 : zHx 52 := zHz_of (I0 := w52_) (a0 := a52_) (l0 := q52) (las := q52a) rfl rfl sE52 (zOk_of zk52_) (yn52 (uSi sE5) (uSi sE6) (uSi sE7) (uSi sE8) (uSi sE21) (uSi sE27) (uSi sE31) (uSi sE32) (uSi sE45) (uSi sE50))
set_option maxRecDepth 100000 in
theorem zh53 : zHx 53 := zHz_of (I0 := w53_) (a0 := a53_) (l0 := q53) (las := q53a) rfl rfl sE53 zo53 (yn53)
set_option maxRecDepth 100000 in
theorem zh54 : zHx 54 := zHz_of (I0 := w54_) (a0 := a54_) (l0 := q54) (las := q54a) rfl rfl sE54 (zOk_of zk54_) (yn54 (uSi sE1) (uSi sE50) (uSi sE53))
set_option maxRecDepth 100000 in
theorem zh55 : zHx 55 := zHz_of (I0 := w55_) (a0 := a55_) (l0 := q55) (las := q55a) rfl rfl sE55 (zOk_of zk55_) (yn55)
set_option maxRecDepth 100000 in
theorem zh56 : zHx 56 := zHz_of (I0 := w56_) (a0 := a56_) (l0 := q56) (las := q56a) rfl rfl sE56 (zOk_of zk56_) (yn56)
set_option maxRecDepth 100000 in
theorem zh57 : zHx 57 := zHz_of (I0 := w57_) (a0 := a57_) (l0 := q57) (las := q57a) rfl rfl sE57 (zOk_of zk57_) (yn57 (uSi sE56))
set_option maxRecDepth 100000 in
theorem zh58 : zHx 58 := zHz_of (I0 := w58_) (a0 := a58_) (l0 := q58) (las := q58a) rfl rfl sE58 (zOk_of zk58_) (yn58)
set_option maxRecDepth 100000 in
theorem zh59 : zHx 59 := zHz_of (I0 := w59_) (a0 := a59_) (l0 := q59) (las := q59a) rfl rfl sE59 (zOk_of zk59_) (yn59)
set_option maxRecDepth 100000 in
theorem zh60 : zHx 60 := zHz_of (I0 := w60_) (a0 := a60_) (l0 := q60) (las := q60a) rfl rfl sE60 (zOk_of zk60_) (yn60)
set_option maxRecDepth 100000 in
theorem zh61 : zHx 61 := zHz_of (I0 := w61_) (a0 := a61_) (l0 := q61) (las := q61a) rfl rfl sE61 (zOk_of zk61_) (yn61 (uSi sE59))
set_option maxRecDepth 100000 in
theorem zh62 : zHx 62 := zHz_of (I0 := w62_) (a0 := a62_) (l0 := q62) (las := q62a) rfl rfl sE62 (zOk_of zk62_) (yn62 (uSi sE59) (uSi sE60) (uSi sE61))
set_option maxRecDepth 100000 in
theorem zh63 : zHx 63 := zHz_of (I0 := w63_) (a0 := a63_) (l0 := q63) (las := q63a) rfl rfl sE63 (zOk_of zk63_) (yn63)
set_option maxRecDepth 100000 in
theorem zh64 : zHx 64 := zHz_of (I0 := w64_) (a0 := a64_) (l0 := q64) (las := q64a) rfl rfl sE64 (zOk_of zk64_) (yn64 (uSi sE55) (uSi sE58) (uSi sE60))
set_option maxRecDepth 100000 in
theorem zh65 : zHx 65 := zHz_of (I0 := w65_) (a0 := a65_) (l0 := q65) (las := q65a) rfl rfl sE65 (zOk_of zk65_) (yn65 (uSi sE55) (uSi sE58))
set_option maxRecDepth 100000 in
theorem zh66 : zHx 66 := zHz_of (I0 := w66_) (a0 := a66_) (l0 := q66) (las := q66a) rfl rfl sE66 (zOk_of zk66_) (yn66)
set_option maxRecDepth 100000 in
theorem zh67 : zHx 67 := zHz_of (I0 := w67_) (a0 := a67_) (l0 := q67) (las := q67a) rfl rfl sE67 (zOk_of zk67_) (yn67)
set_option maxRecDepth 100000 in
theorem zh68 : zHx 68 := zHz_of (I0 := w68_) (a0 := a68_) (l0 := q68) (las := q68a) rfl rfl sE68 (zOk_of zk68_) (yn68 (uSi sE57) (uSi sE67))
set_option maxRecDepth 100000 in
theorem zh69 : zHx 69 := zHz_of (I0 := w69_) (a0 := a69_) (l0 := q69) (las := q69a) rfl rfl sE69 (zOk_of zk69_) (yn69)
set_option maxRecDepth 100000 in
theorem zh70 : zHx 70 := zHz_of (I0 := w70_) (a0 := a70_) (l0 := q70) (las := q70a) rfl rfl sE70 (zOk_of zk70_) (yn70 (uSi sE55) (uSi sE67) (uSi sE69))
set_option maxRecDepth 100000 in
theorem zh71 : zHx 71 := zHz_of (I0 := w71_) (a0 := a71_) (l0 := q71) (las := q71a) rfl rfl sE71 (zOk_of zk71_) (yn71)
set_option maxRecDepth 100000 in
theorem zh72 : zHx 72 := zHz_of (I0 := w72_) (a0 := a72_) (l0 := q72) (las := q72a) rfl rfl sE72 (zOk_of zk72_) (yn72 (uSi sE62) (uSi sE63) (uSi sE64) (uSi sE65) (uSi sE68))
set_option maxRecDepth 100000 in
theorem zh73 : zHx 73 := zHz_of (I0 := w73_) (a0 := a73_) (l0 := q73) (las := q73a) rfl rfl sE73 (zOk_of zk73_) (yn73 (uSi sE62) (uSi sE63) (uSi sE64) (uSi sE65) (uSi sE70))
set_option maxRecDepth 100000 in
theorem zh74 : zHx 74 := zHz_of (I0 := w74_) (a0 := a74_) (l0 := q74) (las := q74a) rfl rfl sE74 (zOk_of zk74_) (yn74 (uSi sE62) (uSi sE63) (uSi sE64) (uSi sE65) (uSi sE66))
set_option maxRecDepth 100000 in
theorem zh75 : zHx 75 := zHz_of (I0 := w75_) (a0 := a75_) (l0 := q75) (las := q75a) rfl rfl sE75 zo75 (yn75 (uSi sE57) (uSi sE73))
set_option maxRecDepth 100000 in
theorem zh76 : zHx 76 := zHz_of (I0 := w76_) (a0 := a76_) (l0 := q76) (las := q76a) rfl rfl sE76 (zOk_of zk76_) (yn76 (uSi sE57) (uSi sE71) (uSi sE72) (uSi sE75))
set_option maxRecDepth 100000 in
theorem zh77 : zHx 77 := zHz_of (I0 := w77_) (a0 := a77_) (l0 := q77) (las := q77a) rfl rfl sE77 (zOk_of zk77_) (yn77)
set_option maxRecDepth 100000 in
theorem zh78 : zHx 78 := zHz_of (I0 := w78_) (a0 := a78_) (l0 := q78) (las := q78a) rfl rfl sE78 (zOk_of zk78_) (yn78 (uSi sE1) (uSi sE76) (uSi sE77))
set_option maxRecDepth 100000 in
theorem zh79 : zHx 79 := zHz_of (I0 := w79_) (a0 := a79_) (l0 := q79) (las := q79a) rfl rfl sE79 (zOk_of zk79_) (yn79)
set_option maxRecDepth 100000 in
theorem zh80 : zHx 80 := zHz_of (I0 := w80_) (a0 := a80_) (l0 := q80) (las := q80a) rfl rfl sE80 (zOk_of zk80_) (yn80 (uSi sE55))
set_option maxRecDepth 100000 in
theorem zh81 : zHx 81 := zHz_of (I0 := w81_) (a0 := a81_) (l0 := q81) (las := q81a) rfl rfl sE81 (zOk_of zk81_) (yn81 (uSi sE1) (uSi sE79) (uSi sE80))
set_option maxRecDepth 100000 in
theorem zh82 : zHx 82 := zHz_of (I0 := w82_) (a0 := a82_) (l0 := q82) (las := q82a) rfl rfl sE82 (zOk_of zk82_) (yn82 (uSi sE1) (uSi sE79))
set_option maxRecDepth 100000 in
theorem zh83 : zHx 83 := zHz_of (I0 := w83_) (a0 := a83_) (l0 := q83) (las := q83a) rfl rfl sE83 (zOk_of zk83_) (yn83 (uSi sE1))
set_option maxRecDepth 100000 in
theorem zh84 : zHx 84 := zHz_of (I0 := w84_) (a0 := a84_) (l0 := q84) (las := q84a) rfl rfl sE84 (zOk_of zk84_) (yn84 (uSi sE1))
set_option maxRecDepth 100000 in
theorem zh85 : zHx 85 := zHz_of (I0 := w85_) (a0 := a85_) (l0 := q85) (las := q85a) rfl rfl sE85 (zOk_of zk85_) (yn85 (uSi sE1) (uSi sE80))
set_option maxRecDepth 100000 in
theorem zh86 : zHx 86 := zHz_of (I0 := w86_) (a0 := a86_) (l0 := q86) (las := q86a) rfl rfl sE86 (zOk_of zk86_) (yn86 (uSi sE1))
set_option maxRecDepth 100000 in
theorem zh87 : zHx 87 := zHz_of (I0 := w87_) (a0 := a87_) (l0 := q87) (las := q87a) rfl rfl sE87 (zOk_of zk87_) (yn87)
set_option maxRecDepth 100000 in
theorem zh88 : zHx 88 := zHz_of (I0 := w88_) (a0 := a88_) (l0 := q88) (las := q88a) rfl rfl sE88 (zOk_of zk88_) (yn88 (uSi sE87))
set_option maxRecDepth 100000 in
theorem zh89 : zHx 89 := zHz_of (I0 := w89_) (a0 := a89_) (l0 := q89) (las := q89a) rfl rfl sE89 (zOk_of zk89_) (yn89 (uSi sE1) (uSi sE55) (uSi sE79) (uSi sE87) (uSi sE88))
set_option maxRecDepth 100000 in
theorem zh90 : zHx 90 := zHz_of (I0 := w90_) (a0 := a90_) (l0 := q90) (las := q90a) rfl rfl sE90 (zOk_of zk90_) (un90 (uSi sE1) (uSi sE5) (uSi sE7) (uSi sE8) (uSi sE21) (uSi sE27) (uSi sE31) (uSi sE32))
set_option maxRecDepth 100000 in
theorem zh91 : zHx 91 := zHz_of (I0 := w91_) (a0 := a91_) (l0 := q91) (las := q91a) rfl rfl sE91 (zOk_of zk91_) (fun x g o v gz h => ⟨yn91 (uSi sE1) (uSi sE5) (uSi sE7) (uSi sE8) (uSi sE28) (uSi sE32) (uSi sE38) (uSi sE44) (uSi sE74) x g o v gz h, un91 (uSi sE1) (uSi sE5) (uSi sE7) (uSi sE8) (uSi sE28) (uSi sE32) (uSi sE38) (uSi sE44) x g o v gz h⟩)
set_option maxRecDepth 100000 in
theorem zh92 : zHx 92 := zHz_of (I0 := w92_) (a0 := a92_) (l0 := q92) (las := q92a) rfl rfl sE92 (zOk_of zk92_) (yn92)
set_option maxRecDepth 100000 in
theorem zh93 : zHx 93 := zHz_of (I0 := w93_) (a0 := a93_) (l0 := q93) (las := q93a) rfl rfl sE93 (zOk_of zk93_) (yn93)
set_option maxRecDepth 100000 in
theorem zh94 : zHx 94 := zHz_of (I0 := w94_) (a0 := a94_) (l0 := q94) (las := q94a) rfl rfl sE94 (zOk_of zk94_) (yn94)
set_option maxRecDepth 100000 in
theorem zh95 : zHx 95 := zHz_of (I0 := w95_) (a0 := a95_) (l0 := q95) (las := q95a) rfl rfl sE95 (zOk_of zk95_) (yn95)
set_option maxRecDepth 100000 in
theorem zh96 : zHx 96 := zHz_of (I0 := w96_) (a0 := a96_) (l0 := q96) (las := q96a) rfl rfl sE96 (zOk_of zk96_) (yn96)
set_option maxRecDepth 100000 in
theorem zh97 : zHx 97 := zHz_of (I0 := w97_) (a0 := a97_) (l0 := q97) (las := q97a) rfl rfl sE97 (zOk_of zk97_) (yn97)
set_option maxRecDepth 100000 in
theorem zh98 : zHx 98 := zHz_of (I0 := w98_) (a0 := a98_) (l0 := q98) (las := q98a) rfl rfl sE98 (zOk_of zk98_) (yn98)
set_option maxRecDepth 100000 in
theorem zh99 : zHx 99 := zHz_of (I0 := w99_) (a0 := a99_) (l0 := q99) (las := q99a) rfl rfl sE99 (zOk_of zk99_) (yn99)
set_option maxRecDepth 100000 in
theorem zh100 : zHx 100 := zHz_of (I0 := w100_) (a0 := a100_) (l0 := q100) (las := q100a) rfl rfl sE100 (zOk_of zk100_) (yn100)
set_option maxRecDepth 100000 in
theorem zh101 : zHx 101 := zHz_of (I0 := w101_) (a0 := a101_) (l0 := q101) (las := q101a) rfl rfl sE101 (zOk_of zk101_) (yn101)
set_option maxRecDepth 100000 in
theorem zh102 : zHx 102 := zHz_of (I0 := w102_) (a0 := a102_) (l0 := q102) (las := q102a) rfl rfl sE102 (zOk_of zk102_) (yn102 (uSi sE99))
set_option maxRecDepth 100000 in
theorem zh103 : zHx 103 := zHz_of (I0 := w103_) (a0 := a103_) (l0 := q103) (las := q103a) rfl rfl sE103 (zOk_of zk103_) (yn103 (uSi sE99))
set_option maxRecDepth 100000 in
theorem zh104 : zHx 104 := zHz_of (I0 := w104_) (a0 := a104_) (l0 := q104) (las := q104a) rfl rfl sE104 (zOk_of zk104_) (yn104)
set_option maxRecDepth 100000 in
theorem zh105 : zHx 105 := zHz_of (I0 := w105_) (a0 := a105_) (l0 := q105) (las := q105a) rfl rfl sE105 (zOk_of zk105_) (yn105)
set_option maxRecDepth 100000 in
theorem zh106 : zHx 106 := zHz_of (I0 := w106_) (a0 := a106_) (l0 := q106) (las := q106a) rfl rfl sE106 (zOk_of zk106_) (yn106)
set_option maxRecDepth 100000 in
theorem zh107 : zHx 107 := zHz_of (I0 := w107_) (a0 := a107_) (l0 := q107) (las := q107a) rfl rfl sE107 (zOk_of zk107_) (yn107)
set_option maxRecDepth 100000 in
theorem zh108 : zHx 108 := zHz_of (I0 := w108_) (a0 := a108_) (l0 := q108) (las := q108a) rfl rfl sE108 (zOk_of zk108_) (yn108)
set_option maxRecDepth 100000 in
theorem zh109 : zHx 109 := zHz_of (I0 := w109_) (a0 := a109_) (l0 := q109) (las := q109a) rfl rfl sE109 (zOk_of zk109_) (yn109)
set_option maxRecDepth 100000 in
theorem zh110 : zHx 110 := zHz_of (I0 := w110_) (a0 := a110_) (l0 := q110) (las := q110a) rfl rfl sE110 (zOk_of zk110_) (yn110)
set_option maxRecDepth 100000 in
theorem zh111 : zHx 111 := zHz_of (I0 := w111_) (a0 := a111_) (l0 := q111) (las := q111a) rfl rfl sE111 (zOk_of zk111_) (yn111 (uSi sE110))
set_option maxRecDepth 100000 in
theorem zh112 : zHx 112 := zHz_of (I0 := w112_) (a0 := a112_) (l0 := q112) (las := q112a) rfl rfl sE112 (zOk_of zk112_) (yn112)
set_option maxRecDepth 100000 in
theorem zh113 : zHx 113 := zHz_of (I0 := w113_) (a0 := a113_) (l0 := q113) (las := q113a) rfl rfl sE113 (zOk_of zk113_) (yn113)
set_option maxRecDepth 100000 in
theorem zh114 : zHx 114 := zHz_of (I0 := w114_) (a0 := a114_) (l0 := q114) (las := q114a) rfl rfl sE114 (zOk_of zk114_) (yn114)
set_option maxRecDepth 100000 in
theorem zh115 : zHx 115 := zHz_of (I0 := w115_) (a0 := a115_) (l0 := q115) (las := q115a) rfl rfl sE115 (zOk_of zk115_) (yn115 (uSi sE108) (uSi sE109))
set_option maxRecDepth 100000 in
theorem zh116 : zHx 116 := zHz_of (I0 := w116_) (a0 := a116_) (l0 := q116) (las := q116a) rfl rfl sE116 (zOk_of zk116_) (yn116 (uSi sE107) (uSi sE109))
set_option maxRecDepth 100000 in
theorem zh117 : zHx 117 := zHz_of (I0 := w117_) (a0 := a117_) (l0 := q117) (las := q117a) rfl rfl sE117 (zOk_of zk117_) (yn117)
set_option maxRecDepth 100000 in
theorem zh118 : zHx 118 := zHz_of (I0 := w118_) (a0 := a118_) (l0 := q118) (las := q118a) rfl rfl sE118 (zOk_of zk118_) (yn118)
set_option maxRecDepth 100000 in
theorem zh119 : zHx 119 := zHz_of (I0 := w119_) (a0 := a119_) (l0 := q119) (las := q119a) rfl rfl sE119 (zOk_of zk119_) (yn119)
set_option maxRecDepth 100000 in
theorem zh120 : zHx 120 := zHz_of (I0 := w120_) (a0 := a120_) (l0 := q120) (las := q120a) rfl rfl sE120 (zOk_of zk120_) (yn120 (uSi sE119))
set_option maxRecDepth 100000 in
theorem zh121 : zHx 121 := zHz_of (I0 := w121_) (a0 := a121_) (l0 := q121) (las := q121a) rfl rfl sE121 (zOk_of zk121_) (yn121)
set_option maxRecDepth 100000 in
theorem zh122 : zHx 122 := zHz_of (I0 := w122_) (a0 := a122_) (l0 := q122) (las := q122a) rfl rfl sE122 (zOk_of zk122_) (yn122)
set_option maxRecDepth 100000 in
theorem zh123 : zHx 123 := zHz_of (I0 := w123_) (a0 := a123_) (l0 := q123) (las := q123a) rfl rfl sE123 (zOk_of zk123_) (yn123)
set_option maxRecDepth 100000 in
theorem zh124 : zHx 124 := zHz_of (I0 := w124_) (a0 := a124_) (l0 := q124) (las := q124a) rfl rfl sE124 (zOk_of zk124_) (yn124)
set_option maxRecDepth 100000 in
theorem zh125 : zHx 125 := zHz_of (I0 := w125_) (a0 := a125_) (l0 := q125) (las := q125a) rfl rfl sE125 (zOk_of zk125_) (yn125)
set_option maxRecDepth 100000 in
theorem zh126 : zHx 126 := zHz_of (I0 := w126_) (a0 := a126_) (l0 := q126) (las := q126a) rfl rfl sE126 (zOk_of zk126_) (yn126)
set_option maxRecDepth 100000 in
theorem zh127 : zHx 127 := zHz_of (I0 := w127_) (a0 := a127_) (l0 := q127) (las := q127a) rfl rfl sE127 (zOk_of zk127_) (yn127)
set_option maxRecDepth 100000 in
theorem zh128 : zHx 128 := zHz_of (I0 := w128_) (a0 := a128_) (l0 := q128) (las := q128a) rfl rfl sE128 (zOk_of zk128_) (yn128 (uSi sE127))
set_option maxRecDepth 100000 in
theorem zh129 : zHx 129 := zHz_of (I0 := w129_) (a0 := a129_) (l0 := q129) (las := q129a) rfl rfl sE129 (zOk_of zk129_) (yn129)
set_option maxRecDepth 100000 in
theorem zh130 : zHx 130 := zHz_of (I0 := w130_) (a0 := a130_) (l0 := q130) (las := q130a) rfl rfl sE130 (zOk_of zk130_) (yn130)
set_option maxRecDepth 100000 in
theorem zh131 : zHx 131 := zHz_of (I0 := w131_) (a0 := a131_) (l0 := q131) (las := q131a) rfl rfl sE131 (zOk_of zk131_) (yn131)
set_option maxRecDepth 100000 in
theorem zh132 : zHx 132 := zHz_of (I0 := w132_) (a0 := a132_) (l0 := q132) (las := q132a) rfl rfl sE132 (zOk_of zk132_) (yn132)
set_option maxRecDepth 100000 in
theorem zh133 : zHx 133 := zHz_of (I0 := w133_) (a0 := a133_) (l0 := q133) (las := q133a) rfl rfl sE133 (zOk_of zk133_) (yn133 (uSi sE109) (uSi sE125) (uSi sE126))
set_option maxRecDepth 100000 in
theorem zh134 : zHx 134 := zHz_of (I0 := w134_) (a0 := a134_) (l0 := q134) (las := q134a) rfl rfl sE134 (zOk_of zk134_) (yn134 (uSi sE109) (uSi sE125) (uSi sE126))
set_option maxRecDepth 100000 in
theorem zh135 : zHx 135 := zHz_of (I0 := w135_) (a0 := a135_) (l0 := q135) (las := q135a) rfl rfl sE135 (zOk_of zk135_) (yn135 (uSi sE92) (uSi sE104) (uSi sE109))
set_option maxRecDepth 100000 in
theorem zh136 : zHx 136 := zHz_of (I0 := w136_) (a0 := a136_) (l0 := q136) (las := q136a) rfl rfl sE136 (zOk_of zk136_) (yn136 (uSi sE104) (uSi sE105) (uSi sE107) (uSi sE109) (uSi sE114) (uSi sE115) (uSi sE116) (uSi sE135))
set_option maxRecDepth 100000 in
theorem zh137 : zHx 137 := zHz_of (I0 := w137_) (a0 := a137_) (l0 := q137) (las := q137a) rfl rfl sE137 (zOk_of zk137_) (yn137 (uSi sE104) (uSi sE109) (uSi sE117) (uSi sE120) (uSi sE121))
set_option maxRecDepth 100000 in
theorem zh138 : zHx 138 := zHz_of (I0 := w138_) (a0 := a138_) (l0 := q138) (las := q138a) rfl rfl sE138 (zOk_of zk138_) (yn138 (uSi sE104) (uSi sE109) (uSi sE117) (uSi sE119))
set_option maxRecDepth 100000 in
theorem zh139 : zHx 139 := zHz_of (I0 := w139_) (a0 := a139_) (l0 := q139) (las := q139a) rfl rfl sE139 (zOk_of zk139_) (yn139 (uSi sE106) (uSi sE114) (uSi sE115) (uSi sE136) (uSi sE138))
set_option maxRecDepth 100000 in
theorem zh140 : zHx 140 := zHz_of (I0 := w140_) (a0 := a140_) (l0 := q140) (las := q140a) rfl rfl sE140 (zOk_of zk140_) (yn140 (uSi sE104) (uSi sE105) (uSi sE106) (uSi sE109) (uSi sE114) (uSi sE115) (uSi sE120) (uSi sE122))
set_option maxRecDepth 100000 in
theorem zh141 : zHx 141 := zHz_of (I0 := w141_) (a0 := a141_) (l0 := q141) (las := q141a) rfl rfl sE141 (zOk_of zk141_) (yn141 (uSi sE106) (uSi sE114) (uSi sE115) (uSi sE136) (uSi sE137) (uSi sE140))
set_option maxRecDepth 100000 in
theorem zh142 : zHx 142 := zHz_of (I0 := w142_) (a0 := a142_) (l0 := q142) (las := q142a) rfl rfl sE142 (zOk_of zk142_) (yn142 (uSi sE104) (uSi sE106) (uSi sE114) (uSi sE115) (uSi sE136) (uSi sE137))
set_option maxRecDepth 100000 in
theorem zh143 : zHx 143 := zHz_of (I0 := w143_) (a0 := a143_) (l0 := q143) (las := q143a) rfl rfl sE143 (zOk_of zk143_) (yn143)
set_option maxRecDepth 100000 in
theorem zh144 : zHx 144 := zHz_of (I0 := w144_) (a0 := a144_) (l0 := q144) (las := q144a) rfl rfl sE144 (zOk_of zk144_) (yn144 (uSi sE102) (uSi sE109) (uSi sE114) (uSi sE133) (uSi sE141) (uSi sE143))
set_option maxRecDepth 100000 in
theorem zh145 : zHx 145 := zHz_of (I0 := w145_) (a0 := a145_) (l0 := q145) (las := q145a) rfl rfl sE145 (zOk_of zk145_) (yn145 (uSi sE103) (uSi sE109) (uSi sE114) (uSi sE134) (uSi sE142) (uSi sE143))
set_option maxRecDepth 100000 in
theorem zh146 : zHx 146 := zHz_of (I0 := w146_) (a0 := a146_) (l0 := q146) (las := q146a) rfl rfl sE146 (zOk_of zk146_) (yn146 (uSi sE105) (uSi sE109) (uSi sE110) (uSi sE114) (uSi sE115) (uSi sE144))
set_option maxRecDepth 100000 in
theorem zh147 : zHx 147 := zHz_of (I0 := w147_) (a0 := a147_) (l0 := q147) (las := q147a) rfl rfl sE147 (zOk_of zk147_) (yn147 (uSi sE109))
set_option maxRecDepth 100000 in
theorem zh148 : zHx 148 := zHz_of (I0 := w148_) (a0 := a148_) (l0 := q148) (las := q148a) rfl rfl sE148 (zOk_of zk148_) (yn148 (uSi sE109) (uSi sE114) (uSi sE147))
set_option maxRecDepth 100000 in
theorem zh149 : zHx 149 := zHz_of (I0 := w149_) (a0 := a149_) (l0 := q149) (las := q149a) rfl rfl sE149 (zOk_of zk149_) (yn149 (uSi sE109) (uSi sE114))
set_option maxRecDepth 100000 in
theorem zh150 : zHx 150 := zHz_of (I0 := w150_) (a0 := a150_) (l0 := q150) (las := q150a) rfl rfl sE150 (zOk_of zk150_) (yn150 (uSi sE109) (uSi sE128) (uSi sE129) (uSi sE148))
set_option maxRecDepth 100000 in
theorem zh151 : zHx 151 := zHz_of (I0 := w151_) (a0 := a151_) (l0 := q151) (las := q151a) rfl rfl sE151 (zOk_of zk151_) (yn151 (uSi sE109) (uSi sE114))
set_option maxRecDepth 100000 in
theorem zh152 : zHx 152 := zHz_of (I0 := w152_) (a0 := a152_) (l0 := q152) (las := q152a) rfl rfl sE152 (zOk_of zk152_) (yn152 (uSi sE109))
set_option maxRecDepth 100000 in
theorem zh153 : zHx 153 := zHz_of (I0 := w153_) (a0 := a153_) (l0 := q153) (las := q153a) rfl rfl sE153 (zOk_of zk153_) (yn153 (uSi sE109) (uSi sE117) (uSi sE118))
set_option maxRecDepth 100000 in
theorem zh154 : zHx 154 := zHz_of (I0 := w154_) (a0 := a154_) (l0 := q154) (las := q154a) rfl rfl sE154 (zOk_of zk154_) (yn154 (uSi sE109) (uSi sE114))
set_option maxRecDepth 100000 in
theorem zh155 : zHx 155 := zHz_of (I0 := w155_) (a0 := a155_) (l0 := q155) (las := q155a) rfl rfl sE155 (zOk_of zk155_) (yn155 (uSi sE103) (uSi sE138) (uSi sE139) (uSi sE154))
set_option maxRecDepth 100000 in
theorem zh156 : zHx 156 := zHz_of (I0 := w156_) (a0 := a156_) (l0 := q156) (las := q156a) rfl rfl sE156 (zOk_of zk156_) (yn156 (uSi sE103) (uSi sE109) (uSi sE114) (uSi sE115) (uSi sE117) (uSi sE120) (uSi sE139))
set_option maxRecDepth 100000 in
theorem zh157 : zHx 157 := zHz_of (I0 := w157_) (a0 := a157_) (l0 := q157) (las := q157a) rfl rfl sE157 (zOk_of zk157_) (yn157 (uSi sE103) (uSi sE104) (uSi sE105) (uSi sE106) (uSi sE107) (uSi sE109) (uSi sE114) (uSi sE115) (uSi sE116) (uSi sE135) (uSi sE139) (uSi sE145) (uSi sE154) (uSi sE155) (uSi sE156))
set_option maxRecDepth 100000 in
theorem zh158 : zHx 158 := zHz_of (I0 := w158_) (a0 := a158_) (l0 := q158) (las := q158a) rfl rfl sE158 zo158 (yn158 (uSi sE109) (uSi sE114) (uSi sE132) (uSi sE152) (uSi sE153) (uSi sE157))
set_option maxRecDepth 100000 in
theorem zh159 : zHx 159 := zHz_of (I0 := w159_) (a0 := a159_) (l0 := q159) (las := q159a) rfl rfl sE159 zo159 (yn159 (uSi sE109) (uSi sE114) (uSi sE132) (uSi sE152) (uSi sE157))
set_option maxRecDepth 100000 in
theorem zh160 : zHx 160 := zHz_of (I0 := w160_) (a0 := a160_) (l0 := q160) (las := q160a) rfl rfl sE160 (zOk_of zk160_) (yn160)
set_option maxRecDepth 100000 in
theorem zh161 : zHx 161 := zHz_of (I0 := w161_) (a0 := a161_) (l0 := q161) (las := q161a) rfl rfl sE161 (zOk_of zk161_) (yn161)
set_option maxRecDepth 100000 in
theorem zh162 : zHx 162 := zHz_of (I0 := w162_) (a0 := a162_) (l0 := q162) (las := q162a) rfl rfl sE162 (zOk_of zk162_) (yn162)
set_option maxRecDepth 100000 in
theorem zh163 : zHx 163 := zHz_of (I0 := w163_) (a0 := a163_) (l0 := q163) (las := q163a) rfl rfl sE163 (zOk_of zk163_) (yn163 (uSi sE162))
set_option maxRecDepth 100000 in
theorem zh164 : zHx 164 := zHz_of (I0 := w164_) (a0 := a164_) (l0 := q164) (las := q164a) rfl rfl sE164 (zOk_of zk164_) (yn164 (uSi sE113))
set_option maxRecDepth 100000 in
theorem zh165 : zHx 165 := zHz_of (I0 := w165_) (a0 := a165_) (l0 := q165) (las := q165a) rfl rfl sE165 (zOk_of zk165_) (yn165)
set_option maxRecDepth 100000 in
theorem zh166 : zHx 166 := zHz_of (I0 := w166_) (a0 := a166_) (l0 := q166) (las := q166a) rfl rfl sE166 (zOk_of zk166_) (yn166 (uSi sE111) (uSi sE112) (uSi sE114) (uSi sE123) (uSi sE124) (uSi sE131) (uSi sE146) (uSi sE150) (uSi sE151) (uSi sE158) (uSi sE160) (uSi sE161) (uSi sE163))
set_option maxRecDepth 100000 in
theorem zh167 : zHx 167 := zHz_of (I0 := w167_) (a0 := a167_) (l0 := q167) (las := q167a) rfl rfl sE167 (zOk_of zk167_) (yn167 (uSi sE111) (uSi sE112) (uSi sE128) (uSi sE130) (uSi sE131) (uSi sE146) (uSi sE148) (uSi sE149) (uSi sE163))
theorem zh168 : zHx 168 := Or.inr (Or.inr rfl)
set_option maxRecDepth 100000 in
theorem zh169 : zHx 169 := zHz_of (I0 := w169_) (a0 := a169_) (l0 := q169) (las := q169a) rfl rfl sE169 (zOk_of zk169_) (yn169 (uSi sE163) (uSi sE168))
set_option maxRecDepth 100000 in
theorem zh170 : zHx 170 := zHz_of (I0 := w170_) (a0 := a170_) (l0 := q170) (las := q170a) rfl rfl sE170 (zOk_of zk170_) (yn170)
set_option maxRecDepth 100000 in
theorem zh171 : zHx 171 := zHz_of (I0 := w171_) (a0 := a171_) (l0 := q171) (las := q171a) rfl rfl sE171 (zOk_of zk171_) (yn171 (uSi sE170))
set_option maxRecDepth 100000 in
theorem zh172 : zHx 172 := zHz_of (I0 := w172_) (a0 := a172_) (l0 := q172) (las := q172a) rfl rfl sE172 (zOk_of zk172_) (yn172)
set_option maxRecDepth 100000 in
theorem zh173 : zHx 173 := zHz_of (I0 := w173_) (a0 := a173_) (l0 := q173) (las := q173a) rfl rfl sE173 (zOk_of zk173_) (yn173 (uSi sE172))
set_option maxRecDepth 100000 in
theorem zh174 : zHx 174 := zHz_of (I0 := w174_) (a0 := a174_) (l0 := q174) (las := q174a) rfl rfl sE174 (zOk_of zk174_) (yn174 (uSi sE171) (uSi sE173))
set_option maxRecDepth 100000 in
theorem zh175 : zHx 175 := zHz_of (I0 := w175_) (a0 := a175_) (l0 := q175) (las := q175a) rfl rfl sE175 (zOk_of zk175_) (yn175 (uSi sE171))
set_option maxRecDepth 100000 in
theorem zh176 : zHx 176 := zHz_of (I0 := w176_) (a0 := a176_) (l0 := q176) (las := q176a) rfl rfl sE176 (zOk_of zk176_) (yn176 (uSi sE100) (uSi sE173))
set_option maxRecDepth 100000 in
theorem zh177 : zHx 177 := zHz_of (I0 := w177_) (a0 := a177_) (l0 := q177) (las := q177a) rfl rfl sE177 (zOk_of zk177_) (yn177 (uSi sE170))
set_option maxRecDepth 100000 in
theorem zh178 : zHx 178 := zHz_of (I0 := w178_) (a0 := a178_) (l0 := q178) (las := q178a) rfl rfl sE178 (zOk_of zk178_) (yn178)
set_option maxRecDepth 100000 in
theorem zh179 : zHx 179 := zHz_of (I0 := w179_) (a0 := a179_) (l0 := q179) (las := q179a) rfl rfl sE179 (zOk_of zk179_) (yn179)
set_option maxRecDepth 100000 in
theorem zh180 : zHx 180 := zHz_of (I0 := w180_) (a0 := a180_) (l0 := q180) (las := q180a) rfl rfl sE180 (zOk_of zk180_) (yn180)
set_option maxRecDepth 100000 in
theorem zh181 : zHx 181 := zHz_of (I0 := w181_) (a0 := a181_) (l0 := q181) (las := q181a) rfl rfl sE181 (zOk_of zk181_) (yn181)
set_option maxRecDepth 100000 in
theorem zh182 : zHx 182 := zHz_of (I0 := w182_) (a0 := a182_) (l0 := q182) (las := q182a) rfl rfl sE182 (zOk_of zk182_) (yn182)
set_option maxRecDepth 100000 in
theorem zh183 : zHx 183 := zHz_of (I0 := w183_) (a0 := a183_) (l0 := q183) (las := q183a) rfl rfl sE183 (zOk_of zk183_) (yn183 (uSi sE181) (uSi sE182))
set_option maxRecDepth 100000 in
theorem zh184 : zHx 184 := zHz_of (I0 := w184_) (a0 := a184_) (l0 := q184) (las := q184a) rfl rfl sE184 (zOk_of zk184_) (yn184 (uSi sE181))
set_option maxRecDepth 100000 in
theorem zh185 : zHx 185 := zHz_of (I0 := w185_) (a0 := a185_) (l0 := q185) (las := q185a) rfl rfl sE185 (zOk_of zk185_) (yn185 (uSi sE93) (uSi sE171) (uSi sE172) (uSi sE180) (uSi sE181) (uSi sE183) (uSi sE184))
set_option maxRecDepth 100000 in
theorem zh186 : zHx 186 := zHz_of (I0 := w186_) (a0 := a186_) (l0 := q186) (las := q186a) rfl rfl sE186 (zOk_of zk186_) (yn186 (uSi sE95))
set_option maxRecDepth 100000 in
theorem zh187 : zHx 187 := zHz_of (I0 := w187_) (a0 := a187_) (l0 := q187) (las := q187a) rfl rfl sE187 (zOk_of zk187_) (yn187)
set_option maxRecDepth 100000 in
theorem zh188 : zHx 188 := zHz_of (I0 := w188_) (a0 := a188_) (l0 := q188) (las := q188a) rfl rfl sE188 (zOk_of zk188_) (yn188)
set_option maxRecDepth 100000 in
theorem zh189 : zHx 189 := zHz_of (I0 := w189_) (a0 := a189_) (l0 := q189) (las := q189a) rfl rfl sE189 (zOk_of zk189_) (yn189)
set_option maxRecDepth 100000 in
theorem zh190 : zHx 190 := zHz_of (I0 := w190_) (a0 := a190_) (l0 := q190) (las := q190a) rfl rfl sE190 (zOk_of zk190_) (yn190 (uSi sE96))
set_option maxRecDepth 100000 in
theorem zh191 : zHx 191 := zHz_of (I0 := w191_) (a0 := a191_) (l0 := q191) (las := q191a) rfl rfl sE191 (zOk_of zk191_) (yn191)
set_option maxRecDepth 100000 in
theorem zh192 : zHx 192 := zHz_of (I0 := w192_) (a0 := a192_) (l0 := q192) (las := q192a) rfl rfl sE192 (zOk_of zk192_) (yn192)
set_option maxRecDepth 100000 in
theorem zh193 : zHx 193 := zHz_of (I0 := w193_) (a0 := a193_) (l0 := q193) (las := q193a) rfl rfl sE193 (zOk_of zk193_) (yn193)
set_option maxRecDepth 100000 in
theorem zh194 : zHx 194 := zHz_of (I0 := w194_) (a0 := a194_) (l0 := q194) (las := q194a) rfl rfl sE194 (zOk_of zk194_) (yn194 (uSi sE97))
set_option maxRecDepth 100000 in
theorem zh195 : zHx 195 := zHz_of (I0 := w195_) (a0 := a195_) (l0 := q195) (las := q195a) rfl rfl sE195 (zOk_of zk195_) (yn195)
set_option maxRecDepth 100000 in
theorem zh196 : zHx 196 := zHz_of (I0 := w196_) (a0 := a196_) (l0 := q196) (las := q196a) rfl rfl sE196 (zOk_of zk196_) (yn196)
set_option maxRecDepth 100000 in
theorem zh197 : zHx 197 := zHz_of (I0 := w197_) (a0 := a197_) (l0 := q197) (las := q197a) rfl rfl sE197 (zOk_of zk197_) (yn197)
set_option maxRecDepth 100000 in
theorem zh198 : zHx 198 := zHz_of (I0 := w198_) (a0 := a198_) (l0 := q198) (las := q198a) rfl rfl sE198 (zOk_of zk198_) (yn198 (uSi sE98))
set_option maxRecDepth 100000 in
theorem zh199 : zHx 199 := zHz_of (I0 := w199_) (a0 := a199_) (l0 := q199) (las := q199a) rfl rfl sE199 (zOk_of zk199_) (yn199)
set_option maxRecDepth 100000 in
theorem zh200 : zHx 200 := zHz_of (I0 := w200_) (a0 := a200_) (l0 := q200) (las := q200a) rfl rfl sE200 (zOk_of zk200_) (yn200)
set_option maxRecDepth 100000 in
theorem zh201 : zHx 201 := zHz_of (I0 := w201_) (a0 := a201_) (l0 := q201) (las := q201a) rfl rfl sE201 (zOk_of zk201_) (yn201)
set_option maxRecDepth 100000 in
theorem zh202 : zHx 202 := zHz_of (I0 := w202_) (a0 := a202_) (l0 := q202) (las := q202a) rfl rfl sE202 (zOk_of zk202_) (yn202 (uSi sE186) (uSi sE190) (uSi sE194))
set_option maxRecDepth 100000 in
theorem zh203 : zHx 203 := zHz_of (I0 := w203_) (a0 := a203_) (l0 := q203) (las := q203a) rfl rfl sE203 (zOk_of zk203_) (yn203)
set_option maxRecDepth 100000 in
theorem zh204 : zHx 204 := zHz_of (I0 := w204_) (a0 := a204_) (l0 := q204) (las := q204a) rfl rfl sE204 (zOk_of zk204_) (yn204)
set_option maxRecDepth 100000 in
theorem zh205 : zHx 205 := zHz_of (I0 := w205_) (a0 := a205_) (l0 := q205) (las := q205a) rfl rfl sE205 (zOk_of zk205_) (yn205)
set_option maxRecDepth 100000 in
theorem zh206 : zHx 206 := zHz_of (I0 := w206_) (a0 := a206_) (l0 := q206) (las := q206a) rfl rfl sE206 (zOk_of zk206_) (yn206 (uSi sE195) (uSi sE196) (uSi sE203) (uSi sE205))
set_option maxRecDepth 100000 in
theorem zh207 : zHx 207 := zHz_of (I0 := w207_) (a0 := a207_) (l0 := q207) (las := q207a) rfl rfl sE207 (zOk_of zk207_) (yn207 (uSi sE189) (uSi sE193) (uSi sE197) (uSi sE203) (uSi sE204))
set_option maxRecDepth 100000 in
theorem zh208 : zHx 208 := zHz_of (I0 := w208_) (a0 := a208_) (l0 := q208) (las := q208a) rfl rfl sE208 (zOk_of zk208_) (yn208 (uSi sE187))
set_option maxRecDepth 100000 in
theorem zh209 : zHx 209 := zHz_of (I0 := w209_) (a0 := a209_) (l0 := q209) (las := q209a) rfl rfl sE209 (zOk_of zk209_) (yn209 (uSi sE188))
set_option maxRecDepth 100000 in
theorem zh210 : zHx 210 := zHz_of (I0 := w210_) (a0 := a210_) (l0 := q210) (las := q210a) rfl rfl sE210 (zOk_of zk210_) (yn210 (uSi sE192))
set_option maxRecDepth 100000 in
theorem zh211 : zHx 211 := zHz_of (I0 := w211_) (a0 := a211_) (l0 := q211) (las := q211a) rfl rfl sE211 (zOk_of zk211_) (yn211 (uSi sE191) (uSi sE204) (uSi sE210))
set_option maxRecDepth 100000 in
theorem zh212 : zHx 212 := zHz_of (I0 := w212_) (a0 := a212_) (l0 := q212) (las := q212a) rfl rfl sE212 (zOk_of zk212_) (yn212 (uSi sE192) (uSi sE210))
set_option maxRecDepth 100000 in
theorem zh213 : zHx 213 := zHz_of (I0 := w213_) (a0 := a213_) (l0 := q213) (las := q213a) rfl rfl sE213 (zOk_of zk213_) (yn213 (uSi sE198))
set_option maxRecDepth 100000 in
theorem zh214 : zHx 214 := zHz_of (I0 := w214_) (a0 := a214_) (l0 := q214) (las := q214a) rfl rfl sE214 (zOk_of zk214_) (yn214)
set_option maxRecDepth 100000 in
theorem zh215 : zHx 215 := zHz_of (I0 := w215_) (a0 := a215_) (l0 := q215) (las := q215a) rfl rfl sE215 (zOk_of zk215_) (yn215)
set_option maxRecDepth 100000 in
theorem zh216 : zHx 216 := zHz_of (I0 := w216_) (a0 := a216_) (l0 := q216) (las := q216a) rfl rfl sE216 (zOk_of zk216_) (yn216 (uSi sE199) (uSi sE200) (uSi sE201) (uSi sE214) (uSi sE215))
set_option maxRecDepth 100000 in
theorem zh217 : zHx 217 := zHz_of (I0 := w217_) (a0 := a217_) (l0 := q217) (las := q217a) rfl rfl sE217 (zOk_of zk217_) (yn217)
set_option maxRecDepth 100000 in
theorem zh218 : zHx 218 := zHz_of (I0 := w218_) (a0 := a218_) (l0 := q218) (las := q218a) rfl rfl sE218 (zOk_of zk218_) (yn218 (uSi sE172))
set_option maxRecDepth 100000 in
theorem zh219 : zHx 219 := zHz_of (I0 := w219_) (a0 := a219_) (l0 := q219) (las := q219a) rfl rfl sE219 (zOk_of zk219_) (yn219 (uSi sE100) (uSi sE172))
set_option maxRecDepth 100000 in
theorem zh220 : zHx 220 := zHz_of (I0 := w220_) (a0 := a220_) (l0 := q220) (las := q220a) rfl rfl sE220 (zOk_of zk220_) (yn220 (uSi sE101) (uSi sE172))
set_option maxRecDepth 100000 in
theorem zh221 : zHx 221 := zHz_of (I0 := w221_) (a0 := a221_) (l0 := q221) (las := q221a) rfl rfl sE221 (zOk_of zk221_) (un221 (uSi sE111) (uSi sE112) (uSi sE131) (uSi sE146) (uSi sE147) (uSi sE149))
set_option maxRecDepth 100000 in
theorem zh222 : zHx 222 := zHz_of (I0 := w222_) (a0 := a222_) (l0 := q222) (las := q222a) rfl rfl sE222 (zOk_of zk222_) (yn222 (uSi sE101) (uSi sE132))
set_option maxRecDepth 100000 in
theorem zh223 : zHx 223 := zHz_of (I0 := w223_) (a0 := a223_) (l0 := q223) (las := q223a) rfl rfl sE223 (zOk_of zk223_) (yn223 (uSi sE94) (uSi sE101) (uSi sE131) (uSi sE222))
set_option maxRecDepth 100000 in
theorem zh224 : zHx 224 := zHz_of (I0 := w224_) (a0 := a224_) (l0 := q224) (las := q224a) rfl rfl sE224 (zOk_of zk224_) (yn224)
set_option maxRecDepth 100000 in
theorem zh225 : zHx 225 := zHz_of (I0 := w225_) (a0 := a225_) (l0 := q225) (las := q225a) rfl rfl sE225 (zOk_of zk225_) (yn225 (uSi sE224))
set_option maxRecDepth 100000 in
theorem zh226 : zHx 226 := zHz_of (I0 := w226_) (a0 := a226_) (l0 := q226) (las := q226a) rfl rfl sE226 (zOk_of zk226_) (yn226 (uSi sE208) (uSi sE211) (uSi sE224))
set_option maxRecDepth 100000 in
theorem zh227 : zHx 227 := zHz_of (I0 := w227_) (a0 := a227_) (l0 := q227) (las := q227a) rfl rfl sE227 (zOk_of zk227_) (yn227 (uSi sE209) (uSi sE212))
set_option maxRecDepth 100000 in
theorem zh228 : zHx 228 := zHz_of (I0 := w228_) (a0 := a228_) (l0 := q228) (las := q228a) rfl rfl sE228 (zOk_of zk228_) (yn228 (uSi sE225) (uSi sE226) (uSi sE227))
set_option maxRecDepth 100000 in
theorem zh229 : zHx 229 := zHz_of (I0 := w229_) (a0 := a229_) (l0 := q229) (las := q229a) rfl rfl sE229 (zOk_of zk229_) (yn229 (uSi sE224))
set_option maxRecDepth 100000 in
theorem zh230 : zHx 230 := zHz_of (I0 := w230_) (a0 := a230_) (l0 := q230) (las := q230a) rfl rfl sE230 (zOk_of zk230_) (yn230 (uSi sE172) (uSi sE224))
set_option maxRecDepth 100000 in
theorem zh231 : zHx 231 := zHz_of (I0 := w231_) (a0 := a231_) (l0 := q231) (las := q231a) rfl rfl sE231 (zOk_of zk231_) (yn231 (uSi sE172) (uSi sE224))
set_option maxRecDepth 100000 in
theorem zh232 : zHx 232 := zHz_of (I0 := w232_) (a0 := a232_) (l0 := q232) (las := q232a) rfl rfl sE232 (zOk_of zk232_) (yn232)
set_option maxRecDepth 100000 in
theorem zh233 : zHx 233 := zHz_of (I0 := w233_) (a0 := a233_) (l0 := q233) (las := q233a) rfl rfl sE233 (zOk_of zk233_) (yn233 (uSi sE206) (uSi sE207))
set_option maxRecDepth 100000 in
theorem zh234 : zHx 234 := zHz_of (I0 := w234_) (a0 := a234_) (l0 := q234) (las := q234a) rfl rfl sE234 (zOk_of zk234_) (yn234)
set_option maxRecDepth 100000 in
theorem zh235 : zHx 235 := zHz_of (I0 := w235_) (a0 := a235_) (l0 := q235) (las := q235a) rfl rfl sE235 (zOk_of zk235_) (yn235 (uSi sE233))
set_option maxRecDepth 100000 in
theorem zh236 : zHx 236 := zHz_of (I0 := w236_) (a0 := a236_) (l0 := q236) (las := q236a) rfl rfl sE236 (zOk_of zk236_) (yn236 (uSi sE202))
set_option maxRecDepth 100000 in
theorem zh237 : zHx 237 := zHz_of (I0 := w237_) (a0 := a237_) (l0 := q237) (las := q237a) rfl rfl sE237 (zOk_of zk237_) (yn237 (uSi sE233))
set_option maxRecDepth 100000 in
theorem zh238 : zHx 238 := zHz_of (I0 := w238_) (a0 := a238_) (l0 := q238) (las := q238a) rfl rfl sE238 (zOk_of zk238_) (yn238)
set_option maxRecDepth 100000 in
theorem zh239 : zHx 239 := zHz_of (I0 := w239_) (a0 := a239_) (l0 := q239) (las := q239a) rfl rfl sE239 (zOk_of zk239_) (yn239)
set_option maxRecDepth 100000 in
theorem zh240 : zHx 240 := zHz_of (I0 := w240_) (a0 := a240_) (l0 := q240) (las := q240a) rfl rfl sE240 (zOk_of zk240_) (yn240)
set_option maxRecDepth 100000 in
theorem zh241 : zHx 241 := zHz_of (I0 := w241_) (a0 := a241_) (l0 := q241) (las := q241a) rfl rfl sE241 (zOk_of zk241_) (yn241)
set_option maxRecDepth 100000 in
theorem zh242 : zHx 242 := zHz_of (I0 := w242_) (a0 := a242_) (l0 := q242) (las := q242a) rfl rfl sE242 (zOk_of zk242_) (yn242)
set_option maxRecDepth 100000 in
theorem zh243 : zHx 243 := zHz_of (I0 := w243_) (a0 := a243_) (l0 := q243) (las := q243a) rfl rfl sE243 (zOk_of zk243_) (yn243 (uSi sE216) (uSi sE217) (uSi sE218) (uSi sE219) (uSi sE220))
set_option maxRecDepth 100000 in
theorem zh244 : zHx 244 := zHz_of (I0 := w244_) (a0 := a244_) (l0 := q244) (las := q244a) rfl rfl sE244 (zOk_of zk244_) (yn244 (uSi sE224) (uSi sE233) (uSi sE242) (uSi sE243))
set_option maxRecDepth 100000 in
theorem zh245 : zHx 245 := zHz_of (I0 := w245_) (a0 := a245_) (l0 := q245) (las := q245a) rfl rfl sE245 (zOk_of zk245_) (yn245 (uSi sE244))
set_option maxRecDepth 100000 in
theorem zh246 : zHx 246 := zHz_of (I0 := w246_) (a0 := a246_) (l0 := q246) (las := q246a) rfl rfl sE246 (zOk_of zk246_) (yn246 (uSi sE225) (uSi sE226) (uSi sE227) (uSi sE232) (uSi sE245))
set_option maxRecDepth 100000 in
theorem zh247 : zHx 247 := zHz_of (I0 := w247_) (a0 := a247_) (l0 := q247) (las := q247a) rfl rfl sE247 (zOk_of zk247_) (yn247 (uSi sE132) (uSi sE228) (uSi sE229) (uSi sE230) (uSi sE231) (uSi sE244) (uSi sE245) (uSi sE246))
set_option maxRecDepth 100000 in
theorem zh248 : zHx 248 := zHz_of (I0 := w248_) (a0 := a248_) (l0 := q248) (las := q248a) rfl rfl sE248 (zOk_of zk248_) (yn248 (uSi sE225) (uSi sE226) (uSi sE227) (uSi sE232) (uSi sE247))
set_option maxRecDepth 100000 in
theorem zh249 : zHx 249 := zHz_of (I0 := w249_) (a0 := a249_) (l0 := q249) (las := q249a) rfl rfl sE249 (zOk_of zk249_) (yn249 (uSi sE132) (uSi sE228) (uSi sE229) (uSi sE230) (uSi sE231) (uSi sE244) (uSi sE247) (uSi sE248))
set_option maxRecDepth 100000 in
theorem zh250 : zHx 250 := zHz_of (I0 := w250_) (a0 := a250_) (l0 := q250) (las := q250a) rfl rfl sE250 (zOk_of zk250_) (yn250 (uSi sE225) (uSi sE226) (uSi sE227) (uSi sE232) (uSi sE249))
set_option maxRecDepth 100000 in
theorem zh251 : zHx 251 := zHz_of (I0 := w251_) (a0 := a251_) (l0 := q251) (las := q251a) rfl rfl sE251 (zOk_of zk251_) (yn251 (uSi sE132) (uSi sE228) (uSi sE229) (uSi sE230) (uSi sE231) (uSi sE244) (uSi sE249) (uSi sE250))
set_option maxRecDepth 100000 in
theorem zh252 : zHx 252 := zHz_of (I0 := w252_) (a0 := a252_) (l0 := q252) (las := q252a) rfl rfl sE252 (zOk_of zk252_) (yn252 (uSi sE225) (uSi sE226) (uSi sE227) (uSi sE232) (uSi sE251))
set_option maxRecDepth 100000 in
theorem zh253 : zHx 253 := zHz_of (I0 := w253_) (a0 := a253_) (l0 := q253) (las := q253a) rfl rfl sE253 (zOk_of zk253_) (yn253 (uSi sE132) (uSi sE228) (uSi sE229) (uSi sE230) (uSi sE231) (uSi sE244) (uSi sE251) (uSi sE252))
set_option maxRecDepth 100000 in
theorem zh254 : zHx 254 := zHz_of (I0 := w254_) (a0 := a254_) (l0 := q254) (las := q254a) rfl rfl sE254 (zOk_of zk254_) (yn254 (uSi sE225) (uSi sE226) (uSi sE227) (uSi sE232) (uSi sE253))
set_option maxRecDepth 100000 in
theorem zh255 : zHx 255 := zHz_of (I0 := w255_) (a0 := a255_) (l0 := q255) (las := q255a) rfl rfl sE255 (zOk_of zk255_) (yn255 (uSi sE132) (uSi sE228) (uSi sE229) (uSi sE230) (uSi sE231) (uSi sE244) (uSi sE253) (uSi sE254))
set_option maxRecDepth 100000 in
theorem zh256 : zHx 256 := zHz_of (I0 := w256_) (a0 := a256_) (l0 := q256) (las := q256a) rfl rfl sE256 (zOk_of zk256_) (yn256 (uSi sE225) (uSi sE226) (uSi sE227) (uSi sE232) (uSi sE255))
set_option maxRecDepth 100000 in
theorem zh257 : zHx 257 := zHz_of (I0 := w257_) (a0 := a257_) (l0 := q257) (las := q257a) rfl rfl sE257 (zOk_of zk257_) (yn257 (uSi sE132) (uSi sE228) (uSi sE229) (uSi sE230) (uSi sE231) (uSi sE244) (uSi sE255) (uSi sE256))
set_option maxRecDepth 100000 in
theorem zh258 : zHx 258 := zHz_of (I0 := w258_) (a0 := a258_) (l0 := q258) (las := q258a) rfl rfl sE258 (zOk_of zk258_) (yn258 (uSi sE225) (uSi sE226) (uSi sE227) (uSi sE232) (uSi sE257))
set_option maxRecDepth 100000 in
theorem zh259 : zHx 259 := zHz_of (I0 := w259_) (a0 := a259_) (l0 := q259) (las := q259a) rfl rfl sE259 (zOk_of zk259_) (yn259 (uSi sE132) (uSi sE228) (uSi sE229) (uSi sE230) (uSi sE231) (uSi sE244) (uSi sE257) (uSi sE258))
set_option maxRecDepth 100000 in
theorem zh260 : zHx 260 := zHz_of (I0 := w260_) (a0 := a260_) (l0 := q260) (las := q260a) rfl rfl sE260 (zOk_of zk260_) (yn260 (uSi sE225) (uSi sE226) (uSi sE227) (uSi sE232) (uSi sE259))
set_option maxRecDepth 100000 in
theorem zh261 : zHx 261 := zHz_of (I0 := w261_) (a0 := a261_) (l0 := q261) (las := q261a) rfl rfl sE261 (zOk_of zk261_) (yn261 (uSi sE132) (uSi sE228) (uSi sE229) (uSi sE230) (uSi sE231) (uSi sE244) (uSi sE259) (uSi sE260))
set_option maxRecDepth 100000 in
theorem zh262 : zHx 262 := zHz_of (I0 := w262_) (a0 := a262_) (l0 := q262) (las := q262a) rfl rfl sE262 (zOk_of zk262_) (yn262 (uSi sE241) (uSi sE261))
set_option maxRecDepth 100000 in
theorem zh263 : zHx 263 := zHz_of (I0 := w263_) (a0 := a263_) (l0 := q263) (las := q263a) rfl rfl sE263 (zOk_of zk263_) (yn263 (uSi sE131) (uSi sE213) (uSi sE234) (uSi sE237) (uSi sE239) (uSi sE240) (uSi sE261))
set_option maxRecDepth 100000 in
theorem zh264 : zHx 264 := zHz_of (I0 := w264_) (a0 := a264_) (l0 := q264) (las := q264a) rfl rfl sE264 (zOk_of zk264_) (yn264 (uSi sE131) (uSi sE234) (uSi sE238) (uSi sE261))
set_option maxRecDepth 100000 in
theorem zh265 : zHx 265 := zHz_of (I0 := w265_) (a0 := a265_) (l0 := q265) (las := q265a) rfl rfl sE265 (zOk_of zk265_) (yn265 (uSi sE163) (uSi sE223) (uSi sE235) (uSi sE236) (uSi sE263) (uSi sE264))
set_option maxRecDepth 100000 in
theorem zh266 : zHx 266 := zHz_of (I0 := w266_) (a0 := a266_) (l0 := q266) (las := q266a) rfl rfl sE266 (zOk_of zk266_) (yn266 (uSi sE111) (uSi sE112) (uSi sE131) (uSi sE159) (uSi sE162) (uSi sE262))
set_option maxRecDepth 100000 in
theorem zh267 : zHx 267 := zHz_of (I0 := w267_) (a0 := a267_) (l0 := q267) (las := q267a) rfl rfl sE267 (zOk_of zk267_) (yn267 (uSi sE164))
set_option maxRecDepth 100000 in
theorem zh268 : zHx 268 := zHz_of (I0 := w268_) (a0 := a268_) (l0 := q268) (las := q268a) rfl rfl sE268 (zOk_of zk268_) (yn268 (uSi sE165))
set_option maxRecDepth 100000 in
theorem zh269 : zHx 269 := zHz_of (I0 := w269_) (a0 := a269_) (l0 := q269) (las := q269a) rfl rfl sE269 (zOk_of zk269_) (yn269 (uSi sE169))
set_option maxRecDepth 100000 in
theorem zh270 : zHx 270 := zHz_of (I0 := w270_) (a0 := a270_) (l0 := q270) (las := q270a) rfl rfl sE270 (zOk_of zk270_) (yn270 (uSi sE265))
set_option maxRecDepth 100000 in
theorem zh271 : zHx 271 := zHz_of (I0 := w271_) (a0 := a271_) (l0 := q271) (las := q271a) rfl rfl sE271 (zOk_of zk271_) (yn271 (uSi sE174))
set_option maxRecDepth 100000 in
theorem zh272 : zHx 272 := zHz_of (I0 := w272_) (a0 := a272_) (l0 := q272) (las := q272a) rfl rfl sE272 (zOk_of zk272_) (yn272 (uSi sE175))
set_option maxRecDepth 100000 in
theorem zh273 : zHx 273 := zHz_of (I0 := w273_) (a0 := a273_) (l0 := q273) (las := q273a) rfl rfl sE273 (zOk_of zk273_) (yn273 (uSi sE185))
set_option maxRecDepth 100000 in
theorem zh274 : zHx 274 := zHz_of (I0 := w274_) (a0 := a274_) (l0 := q274) (las := q274a) rfl rfl sE274 (zOk_of zk274_) (un274 (uSi sE221))
set_option maxRecDepth 100000 in
theorem zh275 : zHx 275 := zHz_of (I0 := w275_) (a0 := a275_) (l0 := q275) (las := q275a) rfl rfl sE275 (zOk_of zk275_) (yn275 (uSi sE266))
set_option maxRecDepth 100000 in
theorem zh276 : zHx 276 := zHz_of (I0 := w276_) (a0 := a276_) (l0 := q276) (las := q276a) rfl rfl sE276 (zOk_of zk276_) (yn276 (uSi sE176))
set_option maxRecDepth 100000 in
theorem zh277 : zHx 277 := zHz_of (I0 := w277_) (a0 := a277_) (l0 := q277) (las := q277a) rfl rfl sE277 (zOk_of zk277_) (yn277 (uSi sE177))
set_option maxRecDepth 100000 in
theorem zh278 : zHx 278 := zHz_of (I0 := w278_) (a0 := a278_) (l0 := q278) (las := q278a) rfl rfl sE278 (zOk_of zk278_) (yn278 (uSi sE178))
set_option maxRecDepth 100000 in
theorem zh279 : zHx 279 := zHz_of (I0 := w279_) (a0 := a279_) (l0 := q279) (las := q279a) rfl rfl sE279 (zOk_of zk279_) (yn279 (uSi sE179))
set_option maxRecDepth 100000 in
theorem zh_all : ∀ n, n < 280 → zHx n := by
  have h : ∀ n ∈ [0, 1, 2, 3, 4, 5, 6, 7, 8, 9, 10, 11, 12, 13, 14, 15, 16, 17, 18, 19, 20, 21, 22, 23, 24, 25, 26, 27, 28, 29, 30, 31, 32, 33, 34, 35, 36, 37, 38, 39, 40, 41, 42, 43, 44, 45, 46, 47, 48, 49, 50, 51, 52, 53, 54, 55, 56, 57, 58, 59, 60, 61, 62, 63, 64, 65, 66, 67, 68, 69, 70, 71, 72, 73, 74, 75, 76, 77, 78, 79, 80, 81, 82, 83, 84, 85, 86, 87, 88, 89, 90, 91, 92, 93, 94, 95, 96, 97, 98, 99, 100, 101, 102, 103, 104, 105, 106, 107, 108, 109, 110, 111, 112, 113, 114, 115, 116, 117, 118, 119, 120, 121, 122, 123, 124, 125, 126, 127, 128, 129, 130, 131, 132, 133, 134, 135, 136, 137, 138, 139, 140, 141, 142, 143, 144, 145, 146, 147, 148, 149, 150, 151, 152, 153, 154, 155, 156, 157, 158, 159, 160, 161, 162, 163, 164, 165, 166, 167, 168, 169, 170, 171, 172, 173, 174, 175, 176, 177, 178, 179, 180, 181, 182, 183, 184, 185, 186, 187, 188, 189, 190, 191, 192, 193, 194, 195, 196, 197, 198, 199, 200, 201, 202, 203, 204, 205, 206, 207, 208, 209, 210, 211, 212, 213, 214, 215, 216, 217, 218, 219, 220, 221, 222, 223, 224, 225, 226, 227, 228, 229, 230, 231, 232, 233, 234, 235, 236, 237, 238, 239, 240, 241, 242, 243, 244, 245, 246, 247, 248, 249, 250, 251, 252, 253, 254, 255, 256, 257, 258, 259, 260, 261, 262, 263, 264, 265, 266, 267, 268, 269, 270, 271, 272, 273, 274, 275, 276, 277, 278, 279], zHx n := List.forall_mem_cons.mpr ⟨zh0, List.forall_mem_cons.mpr ⟨zh1, List.forall_mem_cons.mpr ⟨zh2, List.forall_mem_cons.mpr ⟨zh3, List.forall_mem_cons.mpr ⟨zh4, List.forall_mem_cons.mpr ⟨zh5, List.forall_mem_cons.mpr ⟨zh6, List.forall_mem_cons.mpr ⟨zh7, List.forall_mem_cons.mpr ⟨zh8, List.forall_mem_cons.mpr ⟨zh9, List.forall_mem_cons.mpr ⟨zh10, List.forall_mem_cons.mpr ⟨zh11, List.forall_mem_cons.mpr ⟨zh12, List.forall_mem_cons.mpr ⟨zh13, List.forall_mem_cons.mpr ⟨zh14, List.forall_mem_cons.mpr ⟨zh15, List.forall_mem_cons.mpr ⟨zh16, List.forall_mem_cons.mpr ⟨zh17, List.forall_mem_cons.mpr ⟨zh18, List.forall_mem_cons.mpr ⟨zh19, List.forall_mem_cons.mpr ⟨zh20, List.forall_mem_cons.mpr ⟨zh21, List.forall_mem_cons.mpr ⟨zh22, List.forall_mem_cons.mpr ⟨zh23, List.forall_mem_cons.mpr ⟨zh24, List.forall_mem_cons.mpr ⟨zh25, List.forall_mem_cons.mpr ⟨zh26, List.forall_mem_cons.mpr ⟨zh27, List.forall_mem_cons.mpr ⟨zh28, List.forall_mem_cons.mpr ⟨zh29, List.forall_mem_cons.mpr ⟨zh30, List.forall_mem_cons.mpr ⟨zh31, List.forall_mem_cons.mpr ⟨zh32, List.forall_mem_cons.mpr ⟨zh33, List.forall_mem_cons.mpr ⟨zh34, List.forall_mem_cons.mpr ⟨zh35, List.forall_mem_cons.mpr ⟨zh36, List.forall_mem_cons.mpr ⟨zh37, List.forall_mem_cons.mpr ⟨zh38, List.forall_mem_cons.mpr ⟨zh39, List.forall_mem_cons.mpr ⟨zh40, List.forall_mem_cons.mpr ⟨zh41, List.forall_mem_cons.mpr ⟨zh42, List.forall_mem_cons.mpr ⟨zh43, List.forall_mem_cons.mpr ⟨zh44, List.forall_mem_cons.mpr ⟨zh45, List.forall_mem_cons.mpr ⟨zh46, List.forall_mem_cons.mpr ⟨zh47, List.forall_mem_cons.mpr ⟨zh48, List.forall_mem_cons.mpr ⟨zh49, List.forall_mem_cons.mpr ⟨zh50, List.forall_mem_cons.mpr ⟨zh51, List.forall_mem_cons.mpr ⟨zh52, List.forall_mem_cons.mpr ⟨zh53, List.forall_mem_cons.mpr ⟨zh54, List.forall_mem_cons.mpr ⟨zh55, List.forall_mem_cons.mpr ⟨zh56, List.forall_mem_cons.mpr ⟨zh57, List.forall_mem_cons.mpr ⟨zh58, List.forall_mem_cons.mpr ⟨zh59, List.forall_mem_cons.mpr ⟨zh60, List.forall_mem_cons.mpr ⟨zh61, List.forall_mem_cons.mpr ⟨zh62, List.forall_mem_cons.mpr ⟨zh63, List.forall_mem_cons.mpr ⟨zh64, List.forall_mem_cons.mpr ⟨zh65, List.forall_mem_cons.mpr ⟨zh66, List.forall_mem_cons.mpr ⟨zh67, List.forall_mem_cons.mpr ⟨zh68, List.forall_mem_cons.mpr ⟨zh69, List.forall_mem_cons.mpr ⟨zh70, List.forall_mem_cons.mpr ⟨zh71, List.forall_mem_cons.mpr ⟨zh72, List.forall_mem_cons.mpr ⟨zh73, List.forall_mem_cons.mpr ⟨zh74, List.forall_mem_cons.mpr ⟨zh75, List.forall_mem_cons.mpr ⟨zh76, List.forall_mem_cons.mpr ⟨zh77, List.forall_mem_cons.mpr ⟨zh78, List.forall_mem_cons.mpr ⟨zh79, List.forall_mem_cons.mpr ⟨zh80, List.forall_mem_cons.mpr ⟨zh81, List.forall_mem_cons.mpr ⟨zh82, List.forall_mem_cons.mpr ⟨zh83, List.forall_mem_cons.mpr ⟨zh84, List.forall_mem_cons.mpr ⟨zh85, List.forall_mem_cons.mpr ⟨zh86, List.forall_mem_cons.mpr ⟨zh87, List.forall_mem_cons.mpr ⟨zh88, List.forall_mem_cons.mpr ⟨zh89, List.forall_mem_cons.mpr ⟨zh90, List.forall_mem_cons.mpr ⟨zh91, List.forall_mem_cons.mpr ⟨zh92, List.forall_mem_cons.mpr ⟨zh93, List.forall_mem_cons.mpr ⟨zh94, List.forall_mem_cons.mpr ⟨zh95, List.forall_mem_cons.mpr ⟨zh96, List.forall_mem_cons.mpr ⟨zh97, List.forall_mem_cons.mpr ⟨zh98, List.forall_mem_cons.mpr ⟨zh99, List.forall_mem_cons.mpr ⟨zh100, List.forall_mem_cons.mpr ⟨zh101, List.forall_mem_cons.mpr ⟨zh102, List.forall_mem_cons.mpr ⟨zh103, List.forall_mem_cons.mpr ⟨zh104, List.forall_mem_cons.mpr ⟨zh105, List.forall_mem_cons.mpr ⟨zh106, List.forall_mem_cons.mpr ⟨zh107, List.forall_mem_cons.mpr ⟨zh108, List.forall_mem_cons.mpr ⟨zh109, List.forall_mem_cons.mpr ⟨zh110, List.forall_mem_cons.mpr ⟨zh111, List.forall_mem_cons.mpr ⟨zh112, List.forall_mem_cons.mpr ⟨zh113, List.forall_mem_cons.mpr ⟨zh114, List.forall_mem_cons.mpr ⟨zh115, List.forall_mem_cons.mpr ⟨zh116, List.forall_mem_cons.mpr ⟨zh117, List.forall_mem_cons.mpr ⟨zh118, List.forall_mem_cons.mpr ⟨zh119, List.forall_mem_cons.mpr ⟨zh120, List.forall_mem_cons.mpr ⟨zh121, List.forall_mem_cons.mpr ⟨zh122, List.forall_mem_cons.mpr ⟨zh123, List.forall_mem_cons.mpr ⟨zh124, List.forall_mem_cons.mpr ⟨zh125, List.forall_mem_cons.mpr ⟨zh126, List.forall_mem_cons.mpr ⟨zh127, List.forall_mem_cons.mpr ⟨zh128, List.forall_mem_cons.mpr ⟨zh129, List.forall_mem_cons.mpr ⟨zh130, List.forall_mem_cons.mpr ⟨zh131, List.forall_mem_cons.mpr ⟨zh132, List.forall_mem_cons.mpr ⟨zh133, List.forall_mem_cons.mpr ⟨zh134, List.forall_mem_cons.mpr ⟨zh135, List.forall_mem_cons.mpr ⟨zh136, List.forall_mem_cons.mpr ⟨zh137, List.forall_mem_cons.mpr ⟨zh138, List.forall_mem_cons.mpr ⟨zh139, List.forall_mem_cons.mpr ⟨zh140, List.forall_mem_cons.mpr ⟨zh141, List.forall_mem_cons.mpr ⟨zh142, List.forall_mem_cons.mpr ⟨zh143, List.forall_mem_cons.mpr ⟨zh144, List.forall_mem_cons.mpr ⟨zh145, List.forall_mem_cons.mpr ⟨zh146, List.forall_mem_cons.mpr ⟨zh147, List.forall_mem_cons.mpr ⟨zh148, List.forall_mem_cons.mpr ⟨zh149, List.forall_mem_cons.mpr ⟨zh150, List.forall_mem_cons.mpr ⟨zh151, List.forall_mem_cons.mpr ⟨zh152, List.forall_mem_cons.mpr ⟨zh153, List.forall_mem_cons.mpr ⟨zh154, List.forall_mem_cons.mpr ⟨zh155, List.forall_mem_cons.mpr ⟨zh156, List.forall_mem_cons.mpr ⟨zh157, List.forall_mem_cons.mpr ⟨zh158, List.forall_mem_cons.mpr ⟨zh159, List.forall_mem_cons.mpr ⟨zh160, List.forall_mem_cons.mpr ⟨zh161, List.forall_mem_cons.mpr ⟨zh162, List.forall_mem_cons.mpr ⟨zh163, List.forall_mem_cons.mpr ⟨zh164, List.forall_mem_cons.mpr ⟨zh165, List.forall_mem_cons.mpr ⟨zh166, List.forall_mem_cons.mpr ⟨zh167, List.forall_mem_cons.mpr ⟨zh168, List.forall_mem_cons.mpr ⟨zh169, List.forall_mem_cons.mpr ⟨zh170, List.forall_mem_cons.mpr ⟨zh171, List.forall_mem_cons.mpr ⟨zh172, List.forall_mem_cons.mpr ⟨zh173, List.forall_mem_cons.mpr ⟨zh174, List.forall_mem_cons.mpr ⟨zh175, List.forall_mem_cons.mpr ⟨zh176, List.forall_mem_cons.mpr ⟨zh177, List.forall_mem_cons.mpr ⟨zh178, List.forall_mem_cons.mpr ⟨zh179, List.forall_mem_cons.mpr ⟨zh180, List.forall_mem_cons.mpr ⟨zh181, List.forall_mem_cons.mpr ⟨zh182, List.forall_mem_cons.mpr ⟨zh183, List.forall_mem_cons.mpr ⟨zh184, List.forall_mem_cons.mpr ⟨zh185, List.forall_mem_cons.mpr ⟨zh186, List.forall_mem_cons.mpr ⟨zh187, List.forall_mem_cons.mpr ⟨zh188, List.forall_mem_cons.mpr ⟨zh189, List.forall_mem_cons.mpr ⟨zh190, List.forall_mem_cons.mpr ⟨zh191, List.forall_mem_cons.mpr ⟨zh192, List.forall_mem_cons.mpr ⟨zh193, List.forall_mem_cons.mpr ⟨zh194, List.forall_mem_cons.mpr ⟨zh195, List.forall_mem_cons.mpr ⟨zh196, List.forall_mem_cons.mpr ⟨zh197, List.forall_mem_cons.mpr ⟨zh198, List.forall_mem_cons.mpr ⟨zh199, List.forall_mem_cons.mpr ⟨zh200, List.forall_mem_cons.mpr ⟨zh201, List.forall_mem_cons.mpr ⟨zh202, List.forall_mem_cons.mpr ⟨zh203, List.forall_mem_cons.mpr ⟨zh204, List.forall_mem_cons.mpr ⟨zh205, List.forall_mem_cons.mpr ⟨zh206, List.forall_mem_cons.mpr ⟨zh207, List.forall_mem_cons.mpr ⟨zh208, List.forall_mem_cons.mpr ⟨zh209, List.forall_mem_cons.mpr ⟨zh210, List.forall_mem_cons.mpr ⟨zh211, List.forall_mem_cons.mpr ⟨zh212, List.forall_mem_cons.mpr ⟨zh213, List.forall_mem_cons.mpr ⟨zh214, List.forall_mem_cons.mpr ⟨zh215, List.forall_mem_cons.mpr ⟨zh216, List.forall_mem_cons.mpr ⟨zh217, List.forall_mem_cons.mpr ⟨zh218, List.forall_mem_cons.mpr ⟨zh219, List.forall_mem_cons.mpr ⟨zh220, List.forall_mem_cons.mpr ⟨zh221, List.forall_mem_cons.mpr ⟨zh222, List.forall_mem_cons.mpr ⟨zh223, List.forall_mem_cons.mpr ⟨zh224, List.forall_mem_cons.mpr ⟨zh225, List.forall_mem_cons.mpr ⟨zh226, List.forall_mem_cons.mpr ⟨zh227, List.forall_mem_cons.mpr ⟨zh228, List.forall_mem_cons.mpr ⟨zh229, List.forall_mem_cons.mpr ⟨zh230, List.forall_mem_cons.mpr ⟨zh231, List.forall_mem_cons.mpr ⟨zh232, List.forall_mem_cons.mpr ⟨zh233, List.forall_mem_cons.mpr ⟨zh234, List.forall_mem_cons.mpr ⟨zh235, List.forall_mem_cons.mpr ⟨zh236, List.forall_mem_cons.mpr ⟨zh237, List.forall_mem_cons.mpr ⟨zh238, List.forall_mem_cons.mpr ⟨zh239, List.forall_mem_cons.mpr ⟨zh240, List.forall_mem_cons.mpr ⟨zh241, List.forall_mem_cons.mpr ⟨zh242, List.forall_mem_cons.mpr ⟨zh243, List.forall_mem_cons.mpr ⟨zh244, List.forall_mem_cons.mpr ⟨zh245, List.forall_mem_cons.mpr ⟨zh246, List.forall_mem_cons.mpr ⟨zh247, List.forall_mem_cons.mpr ⟨zh248, List.forall_mem_cons.mpr ⟨zh249, List.forall_mem_cons.mpr ⟨zh250, List.forall_mem_cons.mpr ⟨zh251, List.forall_mem_cons.mpr ⟨zh252, List.forall_mem_cons.mpr ⟨zh253, List.forall_mem_cons.mpr ⟨zh254, List.forall_mem_cons.mpr ⟨zh255, List.forall_mem_cons.mpr ⟨zh256, List.forall_mem_cons.mpr ⟨zh257, List.forall_mem_cons.mpr ⟨zh258, List.forall_mem_cons.mpr ⟨zh259, List.forall_mem_cons.mpr ⟨zh260, List.forall_mem_cons.mpr ⟨zh261, List.forall_mem_cons.mpr ⟨zh262, List.forall_mem_cons.mpr ⟨zh263, List.forall_mem_cons.mpr ⟨zh264, List.forall_mem_cons.mpr ⟨zh265, List.forall_mem_cons.mpr ⟨zh266, List.forall_mem_cons.mpr ⟨zh267, List.forall_mem_cons.mpr ⟨zh268, List.forall_mem_cons.mpr ⟨zh269, List.forall_mem_cons.mpr ⟨zh270, List.forall_mem_cons.mpr ⟨zh271, List.forall_mem_cons.mpr ⟨zh272, List.forall_mem_cons.mpr ⟨zh273, List.forall_mem_cons.mpr ⟨zh274, List.forall_mem_cons.mpr ⟨zh275, List.forall_mem_cons.mpr ⟨zh276, List.forall_mem_cons.mpr ⟨zh277, List.forall_mem_cons.mpr ⟨zh278, List.forall_mem_cons.mpr ⟨zh279, fun _ h => by cases h⟩⟩⟩⟩⟩⟩⟩⟩⟩⟩⟩⟩⟩⟩⟩⟩⟩⟩⟩⟩⟩⟩⟩⟩⟩⟩⟩⟩⟩⟩⟩⟩⟩⟩⟩⟩⟩⟩⟩⟩⟩⟩⟩⟩⟩⟩⟩⟩⟩⟩⟩⟩⟩⟩⟩⟩⟩⟩⟩⟩⟩⟩⟩⟩⟩⟩⟩⟩⟩⟩⟩⟩⟩⟩⟩⟩⟩⟩⟩⟩⟩⟩⟩⟩⟩⟩⟩⟩⟩⟩⟩⟩⟩⟩⟩⟩⟩⟩⟩⟩⟩⟩⟩⟩⟩⟩⟩⟩⟩⟩⟩⟩⟩⟩⟩⟩⟩⟩⟩⟩⟩⟩⟩⟩⟩⟩⟩⟩⟩⟩⟩⟩⟩⟩⟩⟩⟩⟩⟩⟩⟩⟩⟩⟩⟩⟩⟩⟩⟩⟩⟩⟩⟩⟩⟩⟩⟩⟩⟩⟩⟩⟩⟩⟩⟩⟩⟩⟩⟩⟩⟩⟩⟩⟩⟩⟩⟩⟩⟩⟩⟩⟩⟩⟩⟩⟩⟩⟩⟩⟩⟩⟩⟩⟩⟩⟩⟩⟩⟩⟩⟩⟩⟩⟩⟩⟩⟩⟩⟩⟩⟩⟩⟩⟩⟩⟩⟩⟩⟩⟩⟩⟩⟩⟩⟩⟩⟩⟩⟩⟩⟩⟩⟩⟩⟩⟩⟩⟩⟩⟩⟩⟩⟩⟩⟩⟩⟩⟩⟩⟩⟩⟩⟩⟩⟩⟩⟩⟩⟩⟩⟩⟩⟩⟩⟩⟩⟩⟩⟩⟩⟩⟩⟩⟩⟩⟩⟩⟩⟩⟩
  intro n hn
  refine h n ?_
  have h2 : ∀ n, n < 280 → n ∈ [0, 1, 2, 3, 4, 5, 6, 7, 8, 9, 10, 11, 12, 13, 14, 15, 16, 17, 18, 19, 20, 21, 22, 23, 24, 25, 26, 27, 28, 29, 30, 31, 32, 33, 34, 35, 36, 37, 38, 39, 40, 41, 42, 43, 44, 45, 46, 47, 48, 49, 50, 51, 52, 53, 54, 55, 56, 57, 58, 59, 60, 61, 62, 63, 64, 65, 66, 67, 68, 69, 70, 71, 72, 73, 74, 75, 76, 77, 78, 79, 80, 81, 82, 83, 84, 85, 86, 87, 88, 89, 90, 91, 92, 93, 94, 95, 96, 97, 98, 99, 100, 101, 102, 103, 104, 105, 106, 107, 108, 109, 110, 111, 112, 113, 114, 115, 116, 117, 118, 119, 120, 121, 122, 123, 124, 125, 126, 127, 128, 129, 130, 131, 132, 133, 134, 135, 136, 137, 138, 139, 140, 141, 142, 143, 144, 145, 146, 147, 148, 149, 150, 151, 152, 153, 154, 155, 156, 157, 158, 159, 160, 161, 162, 163, 164, 165, 166, 167, 168, 169, 170, 171, 172, 173, 174, 175, 176, 177, 178, 179, 180, 181, 182, 183, 184, 185, 186, 187, 188, 189, 190, 191, 192, 193, 194, 195, 196, 197, 198, 199, 200, 201, 202, 203, 204, 205, 206, 207, 208, 209, 210, 211, 212, 213, 214, 215, 216, 217, 218, 219, 220, 221, 222, 223, 224, 225, 226, 227, 228, 229, 230, 231, 232, 233, 234, 235, 236, 237, 238, 239, 240, 241, 242, 243, 244, 245, 246, 247, 248, 249, 250, 251, 252, 253, 254, 255, 256, 257, 258, 259, 260, 261, 262, 263, 264, 265, 266, 267, 268, 269, 270, 271, 272, 273, 274, 275, 276, 277, 278, 279] := by decide +kernel
  exact h2 n hn
noncomputable def bdOk (n : Nat) : Bool := match uJL[n]? with
  | some I => Nat.blt I.1 uBds.length
  | none => true
set_option maxRecDepth 100000 in
theorem bdOk_ok : (List.range 280).all bdOk = true := by decide +kernel
theorem uBd : ∀ (n : Nat) (I : rI), uJL[n]? = some I → ∃ Bd, uBds[I.1]? = some Bd := by
  intro n I hI
  have hlt := (List.getElem?_eq_some_iff.mp hI).1
  rw [uJL_len] at hlt
  have h1 := List.all_eq_true.mp bdOk_ok n (List.mem_range.mpr hlt)
  unfold bdOk at h1
  rw [hI] at h1
  have h2 : I.1 < uBds.length := Nat.blt_eq.mp h1
  exact ⟨uBds[I.1], List.getElem?_eq_getElem h2⟩
set_option maxRecDepth 100000 in
theorem uAn_len : uJL.length ≤ uAn.length := by decide +kernel
section S49
variable {D : va_G} {dA : Nat → ClassId} {B : Nat} {l : Launch} {A : rA} {b : aSc}
theorem uAllZ (hl0 : l.stackTraces = false) (hL : b.2.1 < 2147483648) (hI : rInj uW A) : ∀ (n : Nat) (I : rI), uJL[n]? = some I → ∀ d : aMd, tMth[I.1]? = some d → zMt D dA vwCl tTA B tNw tNc tAo tW0 l uW uT A b tXn d.1 (aCw d) (uS n) I := by
  refine zAllMt3 (fuel := 3000) (tSg tKt_nil) uBd uCp tTab hl0 hL uKt hI uAn_len (fun n I a hI2 ha => ?_)
  have hn : n < 280 := by
    have := (List.getElem?_eq_some_iff.mp hI2).1
    rw [uJL_len] at this
    exact this
  rcases zh_all n hn with h | ⟨h1, h2⟩ | h3
  · exact Or.inl (h I a hI2 ha)
  · exact Or.inr (fun ih d hd => zMt_triv (fun x g o v g_q => by rw [h1]; exact trivial) (uOne hl0 hL hI h2 ih I hI2 d hd))
  · subst h3
    exact Or.inr (fun ih d hd => by rw [sE168]; exact zHand hl0 hL hI ih I hI2 d hd)
end S49
