/-! ===== cases that have no table, checked ===== -/
set_option maxRecDepth 100000 in
theorem k66_ : rCkn 3000 uMx uW uT uJL uAn uBds 66 = true := by decide +kernel
set_option maxRecDepth 100000 in
theorem k74_ : rCkn 3000 uMx uW uT uJL uAn uBds 74 = true := by decide +kernel
set_option maxRecDepth 100000 in
theorem k79_ : rCkn 3000 uMx uW uT uJL uAn uBds 79 = true := by decide +kernel
set_option maxRecDepth 100000 in
theorem k80_ : rCkn 3000 uMx uW uT uJL uAn uBds 80 = true := by decide +kernel
set_option maxRecDepth 100000 in
theorem k81_ : rCkn 3000 uMx uW uT uJL uAn uBds 81 = true := by decide +kernel
set_option maxRecDepth 100000 in
theorem k82_ : rCkn 3000 uMx uW uT uJL uAn uBds 82 = true := by decide +kernel
set_option maxRecDepth 100000 in
theorem k83_ : rCkn 3000 uMx uW uT uJL uAn uBds 83 = true := by decide +kernel
set_option maxRecDepth 100000 in
theorem k84_ : rCkn 3000 uMx uW uT uJL uAn uBds 84 = true := by decide +kernel
set_option maxRecDepth 100000 in
theorem k85_ : rCkn 3000 uMx uW uT uJL uAn uBds 85 = true := by decide +kernel
set_option maxRecDepth 100000 in
theorem k86_ : rCkn 3000 uMx uW uT uJL uAn uBds 86 = true := by decide +kernel
set_option maxRecDepth 100000 in
theorem k87_ : rCkn 3000 uMx uW uT uJL uAn uBds 87 = true := by decide +kernel
set_option maxRecDepth 100000 in
theorem k88_ : rCkn 3000 uMx uW uT uJL uAn uBds 88 = true := by decide +kernel
set_option maxRecDepth 100000 in
theorem k89_ : rCkn 3000 uMx uW uT uJL uAn uBds 89 = true := by decide +kernel
set_option maxRecDepth 100000 in
theorem k93_ : rCkn 3000 uMx uW uT uJL uAn uBds 93 = true := by decide +kernel
set_option maxRecDepth 100000 in
theorem k170_ : rCkn 3000 uMx uW uT uJL uAn uBds 170 = true := by decide +kernel
set_option maxRecDepth 100000 in
theorem k171_ : rCkn 3000 uMx uW uT uJL uAn uBds 171 = true := by decide +kernel
set_option maxRecDepth 100000 in
theorem k173_ : rCkn 3000 uMx uW uT uJL uAn uBds 173 = true := by decide +kernel
set_option maxRecDepth 100000 in
theorem k174_ : rCkn 3000 uMx uW uT uJL uAn uBds 174 = true := by decide +kernel
set_option maxRecDepth 100000 in
theorem k175_ : rCkn 3000 uMx uW uT uJL uAn uBds 175 = true := by decide +kernel
set_option maxRecDepth 100000 in
theorem k176_ : rCkn 3000 uMx uW uT uJL uAn uBds 176 = true := by decide +kernel
set_option maxRecDepth 100000 in
theorem k177_ : rCkn 3000 uMx uW uT uJL uAn uBds 177 = true := by decide +kernel
set_option maxRecDepth 100000 in
theorem k178_ : rCkn 3000 uMx uW uT uJL uAn uBds 178 = true := by decide +kernel
set_option maxRecDepth 100000 in
theorem k179_ : rCkn 3000 uMx uW uT uJL uAn uBds 179 = true := by decide +kernel
set_option maxRecDepth 100000 in
theorem k180_ : rCkn 3000 uMx uW uT uJL uAn uBds 180 = true := by decide +kernel
set_option maxRecDepth 100000 in
theorem k181_ : rCkn 3000 uMx uW uT uJL uAn uBds 181 = true := by decide +kernel
set_option maxRecDepth 100000 in
theorem k182_ : rCkn 3000 uMx uW uT uJL uAn uBds 182 = true := by decide +kernel
set_option maxRecDepth 100000 in
theorem k183_ : rCkn 3000 uMx uW uT uJL uAn uBds 183 = true := by decide +kernel
set_option maxRecDepth 100000 in
theorem k184_ : rCkn 3000 uMx uW uT uJL uAn uBds 184 = true := by decide +kernel
set_option maxRecDepth 100000 in
theorem k185_ : rCkn 3000 uMx uW uT uJL uAn uBds 185 = true := by decide +kernel
set_option maxRecDepth 100000 in
theorem k241_ : rCkn 3000 uMx uW uT uJL uAn uBds 241 = true := by decide +kernel
set_option maxRecDepth 100000 in
theorem k262_ : rCkn 3000 uMx uW uT uJL uAn uBds 262 = true := by decide +kernel
