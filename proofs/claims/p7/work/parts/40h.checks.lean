/-! ===== cases, checked ===== -/
set_option maxRecDepth 100000 in
theorem k0_ : rCkn 3000 uMx uW uT uJL uAn uBds 0 = true := by decide +kernel
set_option maxRecDepth 100000 in
theorem k1_ : rCkn 3000 uMx uW uT uJL uAn uBds 1 = true := by decide +kernel
set_option maxRecDepth 100000 in
theorem k2_ : rCkn 3000 uMx uW uT uJL uAn uBds 2 = true := by decide +kernel
set_option maxRecDepth 100000 in
theorem k3_ : rCkn 3000 uMx uW uT uJL uAn uBds 3 = true := by decide +kernel
set_option maxRecDepth 100000 in
theorem k4_ : rCkn 3000 uMx uW uT uJL uAn uBds 4 = true := by decide +kernel
set_option maxRecDepth 100000 in
theorem k5_ : rCkn 3000 uMx uW uT uJL uAn uBds 5 = true := by decide +kernel
set_option maxRecDepth 100000 in
theorem k6_ : rCkn 3000 uMx uW uT uJL uAn uBds 6 = true := by decide +kernel
set_option maxRecDepth 100000 in
theorem k7_ : rCkn 3000 uMx uW uT uJL uAn uBds 7 = true := by decide +kernel
set_option maxRecDepth 100000 in
theorem k8_ : rCkn 3000 uMx uW uT uJL uAn uBds 8 = true := by decide +kernel
set_option maxRecDepth 100000 in
theorem k9_ : rCkn 3000 uMx uW uT uJL uAn uBds 9 = true := by decide +kernel
set_option maxRecDepth 100000 in
theorem k10_ : rCkn 3000 uMx uW uT uJL uAn uBds 10 = true := by decide +kernel
set_option maxRecDepth 100000 in
theorem k11_ : rCkn 3000 uMx uW uT uJL uAn uBds 11 = true := by decide +kernel
set_option maxRecDepth 100000 in
theorem k12_ : rCkn 3000 uMx uW uT uJL uAn uBds 12 = true := by decide +kernel
set_option maxRecDepth 100000 in
theorem k13_ : rCkn 3000 uMx uW uT uJL uAn uBds 13 = true := by decide +kernel
set_option maxRecDepth 100000 in
theorem k14_ : rCkn 3000 uMx uW uT uJL uAn uBds 14 = true := by decide +kernel
set_option maxRecDepth 100000 in
theorem k15_ : rCkn 3000 uMx uW uT uJL uAn uBds 15 = true := by decide +kernel
set_option maxRecDepth 100000 in
theorem k16_ : rCkn 3000 uMx uW uT uJL uAn uBds 16 = true := by decide +kernel
set_option maxRecDepth 100000 in
theorem k17_ : rCkn 3000 uMx uW uT uJL uAn uBds 17 = true := by decide +kernel
set_option maxRecDepth 100000 in
theorem k18_ : rCkn 3000 uMx uW uT uJL uAn uBds 18 = true := by decide +kernel
set_option maxRecDepth 100000 in
theorem k19_ : rCkn 3000 uMx uW uT uJL uAn uBds 19 = true := by decide +kernel
set_option maxRecDepth 100000 in
theorem k20_ : rCkn 3000 uMx uW uT uJL uAn uBds 20 = true := by decide +kernel
set_option maxRecDepth 100000 in
theorem k21_ : rCkn 3000 uMx uW uT uJL uAn uBds 21 = true := by decide +kernel
set_option maxRecDepth 100000 in
theorem k22_ : rCkn 3000 uMx uW uT uJL uAn uBds 22 = true := by decide +kernel
set_option maxRecDepth 100000 in
theorem k23_ : rCkn 3000 uMx uW uT uJL uAn uBds 23 = true := by decide +kernel
set_option maxRecDepth 100000 in
theorem k24_ : rCkn 3000 uMx uW uT uJL uAn uBds 24 = true := by decide +kernel
set_option maxRecDepth 100000 in
theorem k25_ : rCkn 3000 uMx uW uT uJL uAn uBds 25 = true := by decide +kernel
set_option maxRecDepth 100000 in
theorem k26_ : rCkn 3000 uMx uW uT uJL uAn uBds 26 = true := by decide +kernel
set_option maxRecDepth 100000 in
theorem k27_ : rCkn 3000 uMx uW uT uJL uAn uBds 27 = true := by decide +kernel
set_option maxRecDepth 100000 in
theorem k28_ : rCkn 3000 uMx uW uT uJL uAn uBds 28 = true := by decide +kernel
set_option maxRecDepth 100000 in
theorem k29_ : rCkn 3000 uMx uW uT uJL uAn uBds 29 = true := by decide +kernel
set_option maxRecDepth 100000 in
theorem k30_ : rCkn 3000 uMx uW uT uJL uAn uBds 30 = true := by decide +kernel
set_option maxRecDepth 100000 in
theorem k31_ : rCkn 3000 uMx uW uT uJL uAn uBds 31 = true := by decide +kernel
set_option maxRecDepth 100000 in
theorem k32_ : rCkn 3000 uMx uW uT uJL uAn uBds 32 = true := by decide +kernel
set_option maxRecDepth 100000 in
theorem k33_ : rCkn 3000 uMx uW uT uJL uAn uBds 33 = true := by decide +kernel
set_option maxRecDepth 100000 in
theorem k34_ : rCkn 3000 uMx uW uT uJL uAn uBds 34 = true := by decide +kernel
set_option maxRecDepth 100000 in
theorem k35_ : rCkn 3000 uMx uW uT uJL uAn uBds 35 = true := by decide +kernel
set_option maxRecDepth 100000 in
theorem k36_ : rCkn 3000 uMx uW uT uJL uAn uBds 36 = true := by decide +kernel
set_option maxRecDepth 100000 in
theorem k38_ : rCkn 3000 uMx uW uT uJL uAn uBds 38 = true := by decide +kernel
set_option maxRecDepth 100000 in
theorem k39_ : rCkn 3000 uMx uW uT uJL uAn uBds 39 = true := by decide +kernel
set_option maxRecDepth 100000 in
theorem k40_ : rCkn 3000 uMx uW uT uJL uAn uBds 40 = true := by decide +kernel
set_option maxRecDepth 100000 in
theorem k41_ : rCkn 3000 uMx uW uT uJL uAn uBds 41 = true := by decide +kernel
set_option maxRecDepth 100000 in
theorem k43_ : rCkn 3000 uMx uW uT uJL uAn uBds 43 = true := by decide +kernel
set_option maxRecDepth 100000 in
theorem k44_ : rCkn 3000 uMx uW uT uJL uAn uBds 44 = true := by decide +kernel
set_option maxRecDepth 100000 in
theorem k45_ : rCkn 3000 uMx uW uT uJL uAn uBds 45 = true := by decide +kernel
set_option maxRecDepth 100000 in
theorem k46_ : rCkn 3000 uMx uW uT uJL uAn uBds 46 = true := by decide +kernel
set_option maxRecDepth 100000 in
theorem k47_ : rCkn 3000 uMx uW uT uJL uAn uBds 47 = true := by decide +kernel
set_option maxRecDepth 100000 in
theorem k48_ : rCkn 3000 uMx uW uT uJL uAn uBds 48 = true := by decide +kernel
set_option maxRecDepth 100000 in
theorem k50_ : rCkn 3000 uMx uW uT uJL uAn uBds 50 = true := by decide +kernel
set_option maxRecDepth 100000 in
theorem k51_ : rCkn 3000 uMx uW uT uJL uAn uBds 51 = true := by decide +kernel
set_option maxRecDepth 100000 in
theorem k52_ : rCkn 3000 uMx uW uT uJL uAn uBds 52 = true := by decide +kernel
set_option maxRecDepth 100000 in
theorem k54_ : rCkn 3000 uMx uW uT uJL uAn uBds 54 = true := by decide +kernel
set_option maxRecDepth 100000 in
theorem k55_ : rCkn 3000 uMx uW uT uJL uAn uBds 55 = true := by decide +kernel
set_option maxRecDepth 100000 in
theorem k56_ : rCkn 3000 uMx uW uT uJL uAn uBds 56 = true := by decide +kernel
set_option maxRecDepth 100000 in
theorem k57_ : rCkn 3000 uMx uW uT uJL uAn uBds 57 = true := by decide +kernel
set_option maxRecDepth 100000 in
theorem k58_ : rCkn 3000 uMx uW uT uJL uAn uBds 58 = true := by decide +kernel
set_option maxRecDepth 100000 in
theorem k59_ : rCkn 3000 uMx uW uT uJL uAn uBds 59 = true := by decide +kernel
set_option maxRecDepth 100000 in
theorem k60_ : rCkn 3000 uMx uW uT uJL uAn uBds 60 = true := by decide +kernel
set_option maxRecDepth 100000 in
theorem k61_ : rCkn 3000 uMx uW uT uJL uAn uBds 61 = true := by decide +kernel
set_option maxRecDepth 100000 in
theorem k62_ : rCkn 3000 uMx uW uT uJL uAn uBds 62 = true := by decide +kernel
set_option maxRecDepth 100000 in
theorem k63_ : rCkn 3000 uMx uW uT uJL uAn uBds 63 = true := by decide +kernel
set_option maxRecDepth 100000 in
theorem k64_ : rCkn 3000 uMx uW uT uJL uAn uBds 64 = true := by decide +kernel
set_option maxRecDepth 100000 in
theorem k65_ : rCkn 3000 uMx uW uT uJL uAn uBds 65 = true := by decide +kernel
set_option maxRecDepth 100000 in
theorem k66_ : rCkn 3000 uMx uW uT uJL uAn uBds 66 = true := by decide +kernel
set_option maxRecDepth 100000 in
theorem k67_ : rCkn 3000 uMx uW uT uJL uAn uBds 67 = true := by decide +kernel
set_option maxRecDepth 100000 in
theorem k68_ : rCkn 3000 uMx uW uT uJL uAn uBds 68 = true := by decide +kernel
set_option maxRecDepth 100000 in
theorem k69_ : rCkn 3000 uMx uW uT uJL uAn uBds 69 = true := by decide +kernel
set_option maxRecDepth 100000 in
theorem k70_ : rCkn 3000 uMx uW uT uJL uAn uBds 70 = true := by decide +kernel
set_option maxRecDepth 100000 in
theorem k71_ : rCkn 3000 uMx uW uT uJL uAn uBds 71 = true := by decide +kernel
set_option maxRecDepth 100000 in
theorem k72_ : rCkn 3000 uMx uW uT uJL uAn uBds 72 = true := by decide +kernel
set_option maxRecDepth 100000 in
theorem k73_ : rCkn 3000 uMx uW uT uJL uAn uBds 73 = true := by decide +kernel
