/-! ===== cases, checked ===== -/
set_option maxRecDepth 100000 in
theorem k219_ : rCkn 3000 uMx uW uT uJL uAn uBds 219 = true := by decide +kernel
set_option maxRecDepth 100000 in
theorem k220_ : rCkn 3000 uMx uW uT uJL uAn uBds 220 = true := by decide +kernel
set_option maxRecDepth 100000 in
theorem k221_ : rCkn 3000 uMx uW uT uJL uAn uBds 221 = true := by decide +kernel
set_option maxRecDepth 100000 in
theorem k222_ : rCkn 3000 uMx uW uT uJL uAn uBds 222 = true := by decide +kernel
set_option maxRecDepth 100000 in
theorem k223_ : rCkn 3000 uMx uW uT uJL uAn uBds 223 = true := by decide +kernel
set_option maxRecDepth 100000 in
theorem k224_ : rCkn 3000 uMx uW uT uJL uAn uBds 224 = true := by decide +kernel
set_option maxRecDepth 100000 in
theorem k225_ : rCkn 3000 uMx uW uT uJL uAn uBds 225 = true := by decide +kernel
set_option maxRecDepth 100000 in
theorem k226_ : rCkn 3000 uMx uW uT uJL uAn uBds 226 = true := by decide +kernel
set_option maxRecDepth 100000 in
theorem k227_ : rCkn 3000 uMx uW uT uJL uAn uBds 227 = true := by decide +kernel
set_option maxRecDepth 100000 in
theorem k228_ : rCkn 3000 uMx uW uT uJL uAn uBds 228 = true := by decide +kernel
set_option maxRecDepth 100000 in
theorem k229_ : rCkn 3000 uMx uW uT uJL uAn uBds 229 = true := by decide +kernel
set_option maxRecDepth 100000 in
theorem k230_ : rCkn 3000 uMx uW uT uJL uAn uBds 230 = true := by decide +kernel
set_option maxRecDepth 100000 in
theorem k231_ : rCkn 3000 uMx uW uT uJL uAn uBds 231 = true := by decide +kernel
set_option maxRecDepth 100000 in
theorem k232_ : rCkn 3000 uMx uW uT uJL uAn uBds 232 = true := by decide +kernel
set_option maxRecDepth 100000 in
theorem k233_ : rCkn 3000 uMx uW uT uJL uAn uBds 233 = true := by decide +kernel
set_option maxRecDepth 100000 in
theorem k234_ : rCkn 3000 uMx uW uT uJL uAn uBds 234 = true := by decide +kernel
set_option maxRecDepth 100000 in
theorem k235_ : rCkn 3000 uMx uW uT uJL uAn uBds 235 = true := by decide +kernel
set_option maxRecDepth 100000 in
theorem k236_ : rCkn 3000 uMx uW uT uJL uAn uBds 236 = true := by decide +kernel
set_option maxRecDepth 100000 in
theorem k237_ : rCkn 3000 uMx uW uT uJL uAn uBds 237 = true := by decide +kernel
set_option maxRecDepth 100000 in
theorem k238_ : rCkn 3000 uMx uW uT uJL uAn uBds 238 = true := by decide +kernel
set_option maxRecDepth 100000 in
theorem k239_ : rCkn 3000 uMx uW uT uJL uAn uBds 239 = true := by decide +kernel
set_option maxRecDepth 100000 in
theorem k240_ : rCkn 3000 uMx uW uT uJL uAn uBds 240 = true := by decide +kernel
set_option maxRecDepth 100000 in
theorem k241_ : rCkn 3000 uMx uW uT uJL uAn uBds 241 = true := by decide +kernel
set_option maxRecDepth 100000 in
theorem k242_ : rCkn 3000 uMx uW uT uJL uAn uBds 242 = true := by decide +kernel
set_option maxRecDepth 100000 in
theorem k243_ : rCkn 3000 uMx uW uT uJL uAn uBds 243 = true := by decide +kernel
set_option maxRecDepth 100000 in
theorem k244_ : rCkn 3000 uMx uW uT uJL uAn uBds 244 = true := by decide +kernel
set_option maxRecDepth 100000 in
theorem k245_ : rCkn 3000 uMx uW uT uJL uAn uBds 245 = true := by decide +kernel
set_option maxRecDepth 100000 in
theorem k246_ : rCkn 3000 uMx uW uT uJL uAn uBds 246 = true := by decide +kernel
set_option maxRecDepth 100000 in
theorem k247_ : rCkn 3000 uMx uW uT uJL uAn uBds 247 = true := by decide +kernel
set_option maxRecDepth 100000 in
theorem k248_ : rCkn 3000 uMx uW uT uJL uAn uBds 248 = true := by decide +kernel
set_option maxRecDepth 100000 in
theorem k249_ : rCkn 3000 uMx uW uT uJL uAn uBds 249 = true := by decide +kernel
set_option maxRecDepth 100000 in
theorem k250_ : rCkn 3000 uMx uW uT uJL uAn uBds 250 = true := by decide +kernel
set_option maxRecDepth 100000 in
theorem k251_ : rCkn 3000 uMx uW uT uJL uAn uBds 251 = true := by decide +kernel
set_option maxRecDepth 100000 in
theorem k252_ : rCkn 3000 uMx uW uT uJL uAn uBds 252 = true := by decide +kernel
set_option maxRecDepth 100000 in
theorem k253_ : rCkn 3000 uMx uW uT uJL uAn uBds 253 = true := by decide +kernel
set_option maxRecDepth 100000 in
theorem k254_ : rCkn 3000 uMx uW uT uJL uAn uBds 254 = true := by decide +kernel
set_option maxRecDepth 100000 in
theorem k255_ : rCkn 3000 uMx uW uT uJL uAn uBds 255 = true := by decide +kernel
set_option maxRecDepth 100000 in
theorem k256_ : rCkn 3000 uMx uW uT uJL uAn uBds 256 = true := by decide +kernel
set_option maxRecDepth 100000 in
theorem k257_ : rCkn 3000 uMx uW uT uJL uAn uBds 257 = true := by decide +kernel
set_option maxRecDepth 100000 in
theorem k258_ : rCkn 3000 uMx uW uT uJL uAn uBds 258 = true := by decide +kernel
set_option maxRecDepth 100000 in
theorem k259_ : rCkn 3000 uMx uW uT uJL uAn uBds 259 = true := by decide +kernel
set_option maxRecDepth 100000 in
theorem k260_ : rCkn 3000 uMx uW uT uJL uAn uBds 260 = true := by decide +kernel
set_option maxRecDepth 100000 in
theorem k261_ : rCkn 3000 uMx uW uT uJL uAn uBds 261 = true := by decide +kernel
set_option maxRecDepth 100000 in
theorem k262_ : rCkn 3000 uMx uW uT uJL uAn uBds 262 = true := by decide +kernel
set_option maxRecDepth 100000 in
theorem k263_ : rCkn 3000 uMx uW uT uJL uAn uBds 263 = true := by decide +kernel
set_option maxRecDepth 100000 in
theorem k264_ : rCkn 3000 uMx uW uT uJL uAn uBds 264 = true := by decide +kernel
set_option maxRecDepth 100000 in
theorem k265_ : rCkn 3000 uMx uW uT uJL uAn uBds 265 = true := by decide +kernel
set_option maxRecDepth 100000 in
theorem k266_ : rCkn 3000 uMx uW uT uJL uAn uBds 266 = true := by decide +kernel
set_option maxRecDepth 100000 in
theorem k267_ : rCkn 3000 uMx uW uT uJL uAn uBds 267 = true := by decide +kernel
set_option maxRecDepth 100000 in
theorem k268_ : rCkn 3000 uMx uW uT uJL uAn uBds 268 = true := by decide +kernel
set_option maxRecDepth 100000 in
theorem k269_ : rCkn 3000 uMx uW uT uJL uAn uBds 269 = true := by decide +kernel
set_option maxRecDepth 100000 in
theorem k270_ : rCkn 3000 uMx uW uT uJL uAn uBds 270 = true := by decide +kernel
set_option maxRecDepth 100000 in
theorem k271_ : rCkn 3000 uMx uW uT uJL uAn uBds 271 = true := by decide +kernel
set_option maxRecDepth 100000 in
theorem k272_ : rCkn 3000 uMx uW uT uJL uAn uBds 272 = true := by decide +kernel
set_option maxRecDepth 100000 in
theorem k273_ : rCkn 3000 uMx uW uT uJL uAn uBds 273 = true := by decide +kernel
set_option maxRecDepth 100000 in
theorem k274_ : rCkn 3000 uMx uW uT uJL uAn uBds 274 = true := by decide +kernel
set_option maxRecDepth 100000 in
theorem k275_ : rCkn 3000 uMx uW uT uJL uAn uBds 275 = true := by decide +kernel
set_option maxRecDepth 100000 in
theorem k276_ : rCkn 3000 uMx uW uT uJL uAn uBds 276 = true := by decide +kernel
set_option maxRecDepth 100000 in
theorem k277_ : rCkn 3000 uMx uW uT uJL uAn uBds 277 = true := by decide +kernel
set_option maxRecDepth 100000 in
theorem k278_ : rCkn 3000 uMx uW uT uJL uAn uBds 278 = true := by decide +kernel
set_option maxRecDepth 100000 in
theorem k279_ : rCkn 3000 uMx uW uT uJL uAn uBds 279 = true := by decide +kernel
