/-! ===== every case is checked ===== -/
set_option maxRecDepth 100000 in
theorem k0_ : aCkn 3000 tMx tKd tJL tAn tBds 0 = true := by decide +kernel
set_option maxRecDepth 100000 in
theorem k1_ : aCkn 3000 tMx tKd tJL tAn tBds 1 = true := by decide +kernel
set_option maxRecDepth 100000 in
theorem k2_ : aCkn 3000 tMx tKd tJL tAn tBds 2 = true := by decide +kernel
set_option maxRecDepth 100000 in
theorem k3_ : aCkn 3000 tMx tKd tJL tAn tBds 3 = true := by decide +kernel
set_option maxRecDepth 100000 in
theorem k4_ : aCkn 3000 tMx tKd tJL tAn tBds 4 = true := by decide +kernel
set_option maxRecDepth 100000 in
theorem k5_ : aCkn 3000 tMx tKd tJL tAn tBds 5 = true := by decide +kernel
set_option maxRecDepth 100000 in
theorem k6_ : aCkn 3000 tMx tKd tJL tAn tBds 6 = true := by decide +kernel
set_option maxRecDepth 100000 in
theorem k7_ : aCkn 3000 tMx tKd tJL tAn tBds 7 = true := by decide +kernel
set_option maxRecDepth 100000 in
theorem k8_ : aCkn 3000 tMx tKd tJL tAn tBds 8 = true := by decide +kernel
set_option maxRecDepth 100000 in
theorem k9_ : aCkn 3000 tMx tKd tJL tAn tBds 9 = true := by decide +kernel
set_option maxRecDepth 100000 in
theorem k10_ : aCkn 3000 tMx tKd tJL tAn tBds 10 = true := by decide +kernel
set_option maxRecDepth 100000 in
theorem k11_ : aCkn 3000 tMx tKd tJL tAn tBds 11 = true := by decide +kernel
set_option maxRecDepth 100000 in
theorem k12_ : aCkn 3000 tMx tKd tJL tAn tBds 12 = true := by decide +kernel
set_option maxRecDepth 100000 in
theorem k13_ : aCkn 3000 tMx tKd tJL tAn tBds 13 = true := by decide +kernel
set_option maxRecDepth 100000 in
theorem k14_ : aCkn 3000 tMx tKd tJL tAn tBds 14 = true := by decide +kernel
set_option maxRecDepth 100000 in
theorem k15_ : aCkn 3000 tMx tKd tJL tAn tBds 15 = true := by decide +kernel
set_option maxRecDepth 100000 in
theorem k16_ : aCkn 3000 tMx tKd tJL tAn tBds 16 = true := by decide +kernel
set_option maxRecDepth 100000 in
theorem k17_ : aCkn 3000 tMx tKd tJL tAn tBds 17 = true := by decide +kernel
set_option maxRecDepth 100000 in
theorem k18_ : aCkn 3000 tMx tKd tJL tAn tBds 18 = true := by decide +kernel
set_option maxRecDepth 100000 in
theorem k19_ : aCkn 3000 tMx tKd tJL tAn tBds 19 = true := by decide +kernel
set_option maxRecDepth 100000 in
theorem k20_ : aCkn 3000 tMx tKd tJL tAn tBds 20 = true := by decide +kernel
set_option maxRecDepth 100000 in
theorem k21_ : aCkn 3000 tMx tKd tJL tAn tBds 21 = true := by decide +kernel
set_option maxRecDepth 100000 in
theorem k22_ : aCkn 3000 tMx tKd tJL tAn tBds 22 = true := by decide +kernel
set_option maxRecDepth 100000 in
theorem k23_ : aCkn 3000 tMx tKd tJL tAn tBds 23 = true := by decide +kernel
set_option maxRecDepth 100000 in
theorem k24_ : aCkn 3000 tMx tKd tJL tAn tBds 24 = true := by decide +kernel
set_option maxRecDepth 100000 in
theorem k25_ : aCkn 3000 tMx tKd tJL tAn tBds 25 = true := by decide +kernel
set_option maxRecDepth 100000 in
theorem k26_ : aCkn 3000 tMx tKd tJL tAn tBds 26 = true := by decide +kernel
set_option maxRecDepth 100000 in
theorem k27_ : aCkn 3000 tMx tKd tJL tAn tBds 27 = true := by decide +kernel
set_option maxRecDepth 100000 in
theorem k28_ : aCkn 3000 tMx tKd tJL tAn tBds 28 = true := by decide +kernel
set_option maxRecDepth 100000 in
theorem k29_ : aCkn 3000 tMx tKd tJL tAn tBds 29 = true := by decide +kernel
set_option maxRecDepth 100000 in
theorem k30_ : aCkn 3000 tMx tKd tJL tAn tBds 30 = true := by decide +kernel
set_option maxRecDepth 100000 in
theorem k31_ : aCkn 3000 tMx tKd tJL tAn tBds 31 = true := by decide +kernel
set_option maxRecDepth 100000 in
theorem k32_ : aCkn 3000 tMx tKd tJL tAn tBds 32 = true := by decide +kernel
set_option maxRecDepth 100000 in
theorem k33_ : aCkn 3000 tMx tKd tJL tAn tBds 33 = true := by decide +kernel
set_option maxRecDepth 100000 in
theorem k34_ : aCkn 3000 tMx tKd tJL tAn tBds 34 = true := by decide +kernel
set_option maxRecDepth 100000 in
theorem k35_ : aCkn 3000 tMx tKd tJL tAn tBds 35 = true := by decide +kernel
set_option maxRecDepth 100000 in
theorem k36_ : aCkn 3000 tMx tKd tJL tAn tBds 36 = true := by decide +kernel
set_option maxRecDepth 100000 in
theorem k37_ : aCkn 3000 tMx tKd tJL tAn tBds 37 = true := by decide +kernel
set_option maxRecDepth 100000 in
theorem k38_ : aCkn 3000 tMx tKd tJL tAn tBds 38 = true := by decide +kernel
set_option maxRecDepth 100000 in
theorem k39_ : aCkn 3000 tMx tKd tJL tAn tBds 39 = true := by decide +kernel
set_option maxRecDepth 100000 in
theorem k40_ : aCkn 3000 tMx tKd tJL tAn tBds 40 = true := by decide +kernel
set_option maxRecDepth 100000 in
theorem k41_ : aCkn 3000 tMx tKd tJL tAn tBds 41 = true := by decide +kernel
set_option maxRecDepth 100000 in
theorem k42_ : aCkn 3000 tMx tKd tJL tAn tBds 42 = true := by decide +kernel
set_option maxRecDepth 100000 in
theorem k43_ : aCkn 3000 tMx tKd tJL tAn tBds 43 = true := by decide +kernel
set_option maxRecDepth 100000 in
theorem k44_ : aCkn 3000 tMx tKd tJL tAn tBds 44 = true := by decide +kernel
set_option maxRecDepth 100000 in
theorem k45_ : aCkn 3000 tMx tKd tJL tAn tBds 45 = true := by decide +kernel
set_option maxRecDepth 100000 in
theorem k46_ : aCkn 3000 tMx tKd tJL tAn tBds 46 = true := by decide +kernel
set_option maxRecDepth 100000 in
theorem k47_ : aCkn 3000 tMx tKd tJL tAn tBds 47 = true := by decide +kernel
set_option maxRecDepth 100000 in
theorem k48_ : aCkn 3000 tMx tKd tJL tAn tBds 48 = true := by decide +kernel
set_option maxRecDepth 100000 in
theorem k49_ : aCkn 3000 tMx tKd tJL tAn tBds 49 = true := by decide +kernel
set_option maxRecDepth 100000 in
theorem k50_ : aCkn 3000 tMx tKd tJL tAn tBds 50 = true := by decide +kernel
set_option maxRecDepth 100000 in
theorem k51_ : aCkn 3000 tMx tKd tJL tAn tBds 51 = true := by decide +kernel
set_option maxRecDepth 100000 in
theorem k52_ : aCkn 3000 tMx tKd tJL tAn tBds 52 = true := by decide +kernel
set_option maxRecDepth 100000 in
theorem k53_ : aCkn 3000 tMx tKd tJL tAn tBds 53 = true := by decide +kernel
set_option maxRecDepth 100000 in
theorem k54_ : aCkn 3000 tMx tKd tJL tAn tBds 54 = true := by decide +kernel
set_option maxRecDepth 100000 in
theorem k55_ : aCkn 3000 tMx tKd tJL tAn tBds 55 = true := by decide +kernel
set_option maxRecDepth 100000 in
theorem k56_ : aCkn 3000 tMx tKd tJL tAn tBds 56 = true := by decide +kernel
set_option maxRecDepth 100000 in
theorem k57_ : aCkn 3000 tMx tKd tJL tAn tBds 57 = true := by decide +kernel
set_option maxRecDepth 100000 in
theorem k58_ : aCkn 3000 tMx tKd tJL tAn tBds 58 = true := by decide +kernel
set_option maxRecDepth 100000 in
theorem k59_ : aCkn 3000 tMx tKd tJL tAn tBds 59 = true := by decide +kernel
set_option maxRecDepth 100000 in
theorem k60_ : aCkn 3000 tMx tKd tJL tAn tBds 60 = true := by decide +kernel
set_option maxRecDepth 100000 in
theorem k61_ : aCkn 3000 tMx tKd tJL tAn tBds 61 = true := by decide +kernel
set_option maxRecDepth 100000 in
theorem k62_ : aCkn 3000 tMx tKd tJL tAn tBds 62 = true := by decide +kernel
set_option maxRecDepth 100000 in
theorem k63_ : aCkn 3000 tMx tKd tJL tAn tBds 63 = true := by decide +kernel
set_option maxRecDepth 100000 in
theorem k64_ : aCkn 3000 tMx tKd tJL tAn tBds 64 = true := by decide +kernel
set_option maxRecDepth 100000 in
theorem k65_ : aCkn 3000 tMx tKd tJL tAn tBds 65 = true := by decide +kernel
set_option maxRecDepth 100000 in
theorem k66_ : aCkn 3000 tMx tKd tJL tAn tBds 66 = true := by decide +kernel
set_option maxRecDepth 100000 in
theorem k67_ : aCkn 3000 tMx tKd tJL tAn tBds 67 = true := by decide +kernel
set_option maxRecDepth 100000 in
theorem k68_ : aCkn 3000 tMx tKd tJL tAn tBds 68 = true := by decide +kernel
set_option maxRecDepth 100000 in
theorem k69_ : aCkn 3000 tMx tKd tJL tAn tBds 69 = true := by decide +kernel
set_option maxRecDepth 100000 in
theorem k70_ : aCkn 3000 tMx tKd tJL tAn tBds 70 = true := by decide +kernel
set_option maxRecDepth 100000 in
theorem k71_ : aCkn 3000 tMx tKd tJL tAn tBds 71 = true := by decide +kernel
set_option maxRecDepth 100000 in
theorem k72_ : aCkn 3000 tMx tKd tJL tAn tBds 72 = true := by decide +kernel
set_option maxRecDepth 100000 in
theorem k73_ : aCkn 3000 tMx tKd tJL tAn tBds 73 = true := by decide +kernel
set_option maxRecDepth 100000 in
theorem k74_ : aCkn 3000 tMx tKd tJL tAn tBds 74 = true := by decide +kernel
set_option maxRecDepth 100000 in
theorem k75_ : aCkn 3000 tMx tKd tJL tAn tBds 75 = true := by decide +kernel
set_option maxRecDepth 100000 in
theorem k76_ : aCkn 3000 tMx tKd tJL tAn tBds 76 = true := by decide +kernel
set_option maxRecDepth 100000 in
theorem k77_ : aCkn 3000 tMx tKd tJL tAn tBds 77 = true := by decide +kernel
set_option maxRecDepth 100000 in
theorem k78_ : aCkn 3000 tMx tKd tJL tAn tBds 78 = true := by decide +kernel
set_option maxRecDepth 100000 in
theorem k79_ : aCkn 3000 tMx tKd tJL tAn tBds 79 = true := by decide +kernel
set_option maxRecDepth 100000 in
theorem k80_ : aCkn 3000 tMx tKd tJL tAn tBds 80 = true := by decide +kernel
set_option maxRecDepth 100000 in
theorem k81_ : aCkn 3000 tMx tKd tJL tAn tBds 81 = true := by decide +kernel
set_option maxRecDepth 100000 in
theorem k82_ : aCkn 3000 tMx tKd tJL tAn tBds 82 = true := by decide +kernel
set_option maxRecDepth 100000 in
theorem k83_ : aCkn 3000 tMx tKd tJL tAn tBds 83 = true := by decide +kernel
set_option maxRecDepth 100000 in
theorem k84_ : aCkn 3000 tMx tKd tJL tAn tBds 84 = true := by decide +kernel
set_option maxRecDepth 100000 in
theorem k85_ : aCkn 3000 tMx tKd tJL tAn tBds 85 = true := by decide +kernel
set_option maxRecDepth 100000 in
theorem k86_ : aCkn 3000 tMx tKd tJL tAn tBds 86 = true := by decide +kernel
set_option maxRecDepth 100000 in
theorem k87_ : aCkn 3000 tMx tKd tJL tAn tBds 87 = true := by decide +kernel
set_option maxRecDepth 100000 in
theorem k88_ : aCkn 3000 tMx tKd tJL tAn tBds 88 = true := by decide +kernel
set_option maxRecDepth 100000 in
theorem k89_ : aCkn 3000 tMx tKd tJL tAn tBds 89 = true := by decide +kernel
set_option maxRecDepth 100000 in
theorem k90_ : aCkn 3000 tMx tKd tJL tAn tBds 90 = true := by decide +kernel
set_option maxRecDepth 100000 in
theorem k91_ : aCkn 3000 tMx tKd tJL tAn tBds 91 = true := by decide +kernel
set_option maxRecDepth 100000 in
theorem k92_ : aCkn 3000 tMx tKd tJL tAn tBds 92 = true := by decide +kernel
set_option maxRecDepth 100000 in
theorem k93_ : aCkn 3000 tMx tKd tJL tAn tBds 93 = true := by decide +kernel
set_option maxRecDepth 100000 in
theorem k94_ : aCkn 3000 tMx tKd tJL tAn tBds 94 = true := by decide +kernel
set_option maxRecDepth 100000 in
theorem k95_ : aCkn 3000 tMx tKd tJL tAn tBds 95 = true := by decide +kernel
set_option maxRecDepth 100000 in
theorem k96_ : aCkn 3000 tMx tKd tJL tAn tBds 96 = true := by decide +kernel
set_option maxRecDepth 100000 in
theorem k97_ : aCkn 3000 tMx tKd tJL tAn tBds 97 = true := by decide +kernel
set_option maxRecDepth 100000 in
theorem k98_ : aCkn 3000 tMx tKd tJL tAn tBds 98 = true := by decide +kernel
set_option maxRecDepth 100000 in
theorem k99_ : aCkn 3000 tMx tKd tJL tAn tBds 99 = true := by decide +kernel
set_option maxRecDepth 100000 in
theorem k100_ : aCkn 3000 tMx tKd tJL tAn tBds 100 = true := by decide +kernel
set_option maxRecDepth 100000 in
theorem k101_ : aCkn 3000 tMx tKd tJL tAn tBds 101 = true := by decide +kernel
set_option maxRecDepth 100000 in
theorem k102_ : aCkn 3000 tMx tKd tJL tAn tBds 102 = true := by decide +kernel
set_option maxRecDepth 100000 in
theorem k103_ : aCkn 3000 tMx tKd tJL tAn tBds 103 = true := by decide +kernel
set_option maxRecDepth 100000 in
theorem k104_ : aCkn 3000 tMx tKd tJL tAn tBds 104 = true := by decide +kernel
set_option maxRecDepth 100000 in
theorem k105_ : aCkn 3000 tMx tKd tJL tAn tBds 105 = true := by decide +kernel
set_option maxRecDepth 100000 in
theorem k106_ : aCkn 3000 tMx tKd tJL tAn tBds 106 = true := by decide +kernel
set_option maxRecDepth 100000 in
theorem k107_ : aCkn 3000 tMx tKd tJL tAn tBds 107 = true := by decide +kernel
set_option maxRecDepth 100000 in
theorem k108_ : aCkn 3000 tMx tKd tJL tAn tBds 108 = true := by decide +kernel
set_option maxRecDepth 100000 in
theorem k109_ : aCkn 3000 tMx tKd tJL tAn tBds 109 = true := by decide +kernel
set_option maxRecDepth 100000 in
theorem k110_ : aCkn 3000 tMx tKd tJL tAn tBds 110 = true := by decide +kernel
set_option maxRecDepth 100000 in
theorem k111_ : aCkn 3000 tMx tKd tJL tAn tBds 111 = true := by decide +kernel
set_option maxRecDepth 100000 in
theorem k112_ : aCkn 3000 tMx tKd tJL tAn tBds 112 = true := by decide +kernel
set_option maxRecDepth 100000 in
theorem k113_ : aCkn 3000 tMx tKd tJL tAn tBds 113 = true := by decide +kernel
set_option maxRecDepth 100000 in
theorem k114_ : aCkn 3000 tMx tKd tJL tAn tBds 114 = true := by decide +kernel
set_option maxRecDepth 100000 in
theorem k115_ : aCkn 3000 tMx tKd tJL tAn tBds 115 = true := by decide +kernel
set_option maxRecDepth 100000 in
theorem k116_ : aCkn 3000 tMx tKd tJL tAn tBds 116 = true := by decide +kernel
set_option maxRecDepth 100000 in
theorem k117_ : aCkn 3000 tMx tKd tJL tAn tBds 117 = true := by decide +kernel
set_option maxRecDepth 100000 in
theorem k118_ : aCkn 3000 tMx tKd tJL tAn tBds 118 = true := by decide +kernel
set_option maxRecDepth 100000 in
theorem k119_ : aCkn 3000 tMx tKd tJL tAn tBds 119 = true := by decide +kernel
set_option maxRecDepth 100000 in
theorem k120_ : aCkn 3000 tMx tKd tJL tAn tBds 120 = true := by decide +kernel
set_option maxRecDepth 100000 in
theorem k121_ : aCkn 3000 tMx tKd tJL tAn tBds 121 = true := by decide +kernel
set_option maxRecDepth 100000 in
theorem k122_ : aCkn 3000 tMx tKd tJL tAn tBds 122 = true := by decide +kernel
set_option maxRecDepth 100000 in
theorem k123_ : aCkn 3000 tMx tKd tJL tAn tBds 123 = true := by decide +kernel
set_option maxRecDepth 100000 in
theorem k124_ : aCkn 3000 tMx tKd tJL tAn tBds 124 = true := by decide +kernel
set_option maxRecDepth 100000 in
theorem k125_ : aCkn 3000 tMx tKd tJL tAn tBds 125 = true := by decide +kernel
set_option maxRecDepth 100000 in
theorem k126_ : aCkn 3000 tMx tKd tJL tAn tBds 126 = true := by decide +kernel
set_option maxRecDepth 100000 in
theorem k127_ : aCkn 3000 tMx tKd tJL tAn tBds 127 = true := by decide +kernel
set_option maxRecDepth 100000 in
theorem k128_ : aCkn 3000 tMx tKd tJL tAn tBds 128 = true := by decide +kernel
set_option maxRecDepth 100000 in
theorem k129_ : aCkn 3000 tMx tKd tJL tAn tBds 129 = true := by decide +kernel
set_option maxRecDepth 100000 in
theorem k130_ : aCkn 3000 tMx tKd tJL tAn tBds 130 = true := by decide +kernel
set_option maxRecDepth 100000 in
theorem k131_ : aCkn 3000 tMx tKd tJL tAn tBds 131 = true := by decide +kernel
set_option maxRecDepth 100000 in
theorem k132_ : aCkn 3000 tMx tKd tJL tAn tBds 132 = true := by decide +kernel
set_option maxRecDepth 100000 in
theorem k133_ : aCkn 3000 tMx tKd tJL tAn tBds 133 = true := by decide +kernel
set_option maxRecDepth 100000 in
theorem k134_ : aCkn 3000 tMx tKd tJL tAn tBds 134 = true := by decide +kernel
set_option maxRecDepth 100000 in
theorem k135_ : aCkn 3000 tMx tKd tJL tAn tBds 135 = true := by decide +kernel
set_option maxRecDepth 100000 in
theorem k136_ : aCkn 3000 tMx tKd tJL tAn tBds 136 = true := by decide +kernel
set_option maxRecDepth 100000 in
theorem k137_ : aCkn 3000 tMx tKd tJL tAn tBds 137 = true := by decide +kernel
set_option maxRecDepth 100000 in
theorem k138_ : aCkn 3000 tMx tKd tJL tAn tBds 138 = true := by decide +kernel
set_option maxRecDepth 100000 in
theorem k139_ : aCkn 3000 tMx tKd tJL tAn tBds 139 = true := by decide +kernel
set_option maxRecDepth 100000 in
theorem k140_ : aCkn 3000 tMx tKd tJL tAn tBds 140 = true := by decide +kernel
set_option maxRecDepth 100000 in
theorem k141_ : aCkn 3000 tMx tKd tJL tAn tBds 141 = true := by decide +kernel
set_option maxRecDepth 100000 in
theorem k142_ : aCkn 3000 tMx tKd tJL tAn tBds 142 = true := by decide +kernel
set_option maxRecDepth 100000 in
theorem k143_ : aCkn 3000 tMx tKd tJL tAn tBds 143 = true := by decide +kernel
set_option maxRecDepth 100000 in
theorem k144_ : aCkn 3000 tMx tKd tJL tAn tBds 144 = true := by decide +kernel
set_option maxRecDepth 100000 in
theorem k145_ : aCkn 3000 tMx tKd tJL tAn tBds 145 = true := by decide +kernel
set_option maxRecDepth 100000 in
theorem k146_ : aCkn 3000 tMx tKd tJL tAn tBds 146 = true := by decide +kernel
set_option maxRecDepth 100000 in
theorem k147_ : aCkn 3000 tMx tKd tJL tAn tBds 147 = true := by decide +kernel
set_option maxRecDepth 100000 in
theorem k148_ : aCkn 3000 tMx tKd tJL tAn tBds 148 = true := by decide +kernel
set_option maxRecDepth 100000 in
theorem tCk : ∀ n, n < tJL.length → aCkn 3000 tMx tKd tJL tAn tBds n = true := by
  have h : ∀ n ∈ List.range 149, aCkn 3000 tMx tKd tJL tAn tBds n = true := by
    show ∀ n ∈ [0, 1, 2, 3, 4, 5, 6, 7, 8, 9, 10, 11, 12, 13, 14, 15, 16, 17, 18, 19, 20, 21, 22, 23, 24, 25, 26, 27, 28, 29, 30, 31, 32, 33, 34, 35, 36, 37, 38, 39, 40, 41, 42, 43, 44, 45, 46, 47, 48, 49, 50, 51, 52, 53, 54, 55, 56, 57, 58, 59, 60, 61, 62, 63, 64, 65, 66, 67, 68, 69, 70, 71, 72, 73, 74, 75, 76, 77, 78, 79, 80, 81, 82, 83, 84, 85, 86, 87, 88, 89, 90, 91, 92, 93, 94, 95, 96, 97, 98, 99, 100, 101, 102, 103, 104, 105, 106, 107, 108, 109, 110, 111, 112, 113, 114, 115, 116, 117, 118, 119, 120, 121, 122, 123, 124, 125, 126, 127, 128, 129, 130, 131, 132, 133, 134, 135, 136, 137, 138, 139, 140, 141, 142, 143, 144, 145, 146, 147, 148], aCkn 3000 tMx tKd tJL tAn tBds n = true
    exact List.forall_mem_cons.mpr ⟨k0_, List.forall_mem_cons.mpr ⟨k1_, List.forall_mem_cons.mpr ⟨k2_, List.forall_mem_cons.mpr ⟨k3_, List.forall_mem_cons.mpr ⟨k4_, List.forall_mem_cons.mpr ⟨k5_, List.forall_mem_cons.mpr ⟨k6_, List.forall_mem_cons.mpr ⟨k7_, List.forall_mem_cons.mpr ⟨k8_, List.forall_mem_cons.mpr ⟨k9_, List.forall_mem_cons.mpr ⟨k10_, List.forall_mem_cons.mpr ⟨k11_, List.forall_mem_cons.mpr ⟨k12_, List.forall_mem_cons.mpr ⟨k13_, List.forall_mem_cons.mpr ⟨k14_, List.forall_mem_cons.mpr ⟨k15_, List.forall_mem_cons.mpr ⟨k16_, List.forall_mem_cons.mpr ⟨k17_, List.forall_mem_cons.mpr ⟨k18_, List.forall_mem_cons.mpr ⟨k19_, List.forall_mem_cons.mpr ⟨k20_, List.forall_mem_cons.mpr ⟨k21_, List.forall_mem_cons.mpr ⟨k22_, List.forall_mem_cons.mpr ⟨k23_, List.forall_mem_cons.mpr ⟨k24_, List.forall_mem_cons.mpr ⟨k25_, List.forall_mem_cons.mpr ⟨k26_, List.forall_mem_cons.mpr ⟨k27_, List.forall_mem_cons.mpr ⟨k28_, List.forall_mem_cons.mpr ⟨k29_, List.forall_mem_cons.mpr ⟨k30_, List.forall_mem_cons.mpr ⟨k31_, List.forall_mem_cons.mpr ⟨k32_, List.forall_mem_cons.mpr ⟨k33_, List.forall_mem_cons.mpr ⟨k34_, List.forall_mem_cons.mpr ⟨k35_, List.forall_mem_cons.mpr ⟨k36_, List.forall_mem_cons.mpr ⟨k37_, List.forall_mem_cons.mpr ⟨k38_, List.forall_mem_cons.mpr ⟨k39_, List.forall_mem_cons.mpr ⟨k40_, List.forall_mem_cons.mpr ⟨k41_, List.forall_mem_cons.mpr ⟨k42_, List.forall_mem_cons.mpr ⟨k43_, List.forall_mem_cons.mpr ⟨k44_, List.forall_mem_cons.mpr ⟨k45_, List.forall_mem_cons.mpr ⟨k46_, List.forall_mem_cons.mpr ⟨k47_, List.forall_mem_cons.mpr ⟨k48_, List.forall_mem_cons.mpr ⟨k49_, List.forall_mem_cons.mpr ⟨k50_, List.forall_mem_cons.mpr ⟨k51_, List.forall_mem_cons.mpr ⟨k52_, List.forall_mem_cons.mpr ⟨k53_, List.forall_mem_cons.mpr ⟨k54_, List.forall_mem_cons.mpr ⟨k55_, List.forall_mem_cons.mpr ⟨k56_, List.forall_mem_cons.mpr ⟨k57_, List.forall_mem_cons.mpr ⟨k58_, List.forall_mem_cons.mpr ⟨k59_, List.forall_mem_cons.mpr ⟨k60_, List.forall_mem_cons.mpr ⟨k61_, List.forall_mem_cons.mpr ⟨k62_, List.forall_mem_cons.mpr ⟨k63_, List.forall_mem_cons.mpr ⟨k64_, List.forall_mem_cons.mpr ⟨k65_, List.forall_mem_cons.mpr ⟨k66_, List.forall_mem_cons.mpr ⟨k67_, List.forall_mem_cons.mpr ⟨k68_, List.forall_mem_cons.mpr ⟨k69_, List.forall_mem_cons.mpr ⟨k70_, List.forall_mem_cons.mpr ⟨k71_, List.forall_mem_cons.mpr ⟨k72_, List.forall_mem_cons.mpr ⟨k73_, List.forall_mem_cons.mpr ⟨k74_, List.forall_mem_cons.mpr ⟨k75_, List.forall_mem_cons.mpr ⟨k76_, List.forall_mem_cons.mpr ⟨k77_, List.forall_mem_cons.mpr ⟨k78_, List.forall_mem_cons.mpr ⟨k79_, List.forall_mem_cons.mpr ⟨k80_, List.forall_mem_cons.mpr ⟨k81_, List.forall_mem_cons.mpr ⟨k82_, List.forall_mem_cons.mpr ⟨k83_, List.forall_mem_cons.mpr ⟨k84_, List.forall_mem_cons.mpr ⟨k85_, List.forall_mem_cons.mpr ⟨k86_, List.forall_mem_cons.mpr ⟨k87_, List.forall_mem_cons.mpr ⟨k88_, List.forall_mem_cons.mpr ⟨k89_, List.forall_mem_cons.mpr ⟨k90_, List.forall_mem_cons.mpr ⟨k91_, List.forall_mem_cons.mpr ⟨k92_, List.forall_mem_cons.mpr ⟨k93_, List.forall_mem_cons.mpr ⟨k94_, List.forall_mem_cons.mpr ⟨k95_, List.forall_mem_cons.mpr ⟨k96_, List.forall_mem_cons.mpr ⟨k97_, List.forall_mem_cons.mpr ⟨k98_, List.forall_mem_cons.mpr ⟨k99_, List.forall_mem_cons.mpr ⟨k100_, List.forall_mem_cons.mpr ⟨k101_, List.forall_mem_cons.mpr ⟨k102_, List.forall_mem_cons.mpr ⟨k103_, List.forall_mem_cons.mpr ⟨k104_, List.forall_mem_cons.mpr ⟨k105_, List.forall_mem_cons.mpr ⟨k106_, List.forall_mem_cons.mpr ⟨k107_, List.forall_mem_cons.mpr ⟨k108_, List.forall_mem_cons.mpr ⟨k109_, List.forall_mem_cons.mpr ⟨k110_, List.forall_mem_cons.mpr ⟨k111_, List.forall_mem_cons.mpr ⟨k112_, List.forall_mem_cons.mpr ⟨k113_, List.forall_mem_cons.mpr ⟨k114_, List.forall_mem_cons.mpr ⟨k115_, List.forall_mem_cons.mpr ⟨k116_, List.forall_mem_cons.mpr ⟨k117_, List.forall_mem_cons.mpr ⟨k118_, List.forall_mem_cons.mpr ⟨k119_, List.forall_mem_cons.mpr ⟨k120_, List.forall_mem_cons.mpr ⟨k121_, List.forall_mem_cons.mpr ⟨k122_, List.forall_mem_cons.mpr ⟨k123_, List.forall_mem_cons.mpr ⟨k124_, List.forall_mem_cons.mpr ⟨k125_, List.forall_mem_cons.mpr ⟨k126_, List.forall_mem_cons.mpr ⟨k127_, List.forall_mem_cons.mpr ⟨k128_, List.forall_mem_cons.mpr ⟨k129_, List.forall_mem_cons.mpr ⟨k130_, List.forall_mem_cons.mpr ⟨k131_, List.forall_mem_cons.mpr ⟨k132_, List.forall_mem_cons.mpr ⟨k133_, List.forall_mem_cons.mpr ⟨k134_, List.forall_mem_cons.mpr ⟨k135_, List.forall_mem_cons.mpr ⟨k136_, List.forall_mem_cons.mpr ⟨k137_, List.forall_mem_cons.mpr ⟨k138_, List.forall_mem_cons.mpr ⟨k139_, List.forall_mem_cons.mpr ⟨k140_, List.forall_mem_cons.mpr ⟨k141_, List.forall_mem_cons.mpr ⟨k142_, List.forall_mem_cons.mpr ⟨k143_, List.forall_mem_cons.mpr ⟨k144_, List.forall_mem_cons.mpr ⟨k145_, List.forall_mem_cons.mpr ⟨k146_, List.forall_mem_cons.mpr ⟨k147_, List.forall_mem_cons.mpr ⟨k148_, fun _ h => by cases h⟩⟩⟩⟩⟩⟩⟩⟩⟩⟩⟩⟩⟩⟩⟩⟩⟩⟩⟩⟩⟩⟩⟩⟩⟩⟩⟩⟩⟩⟩⟩⟩⟩⟩⟩⟩⟩⟩⟩⟩⟩⟩⟩⟩⟩⟩⟩⟩⟩⟩⟩⟩⟩⟩⟩⟩⟩⟩⟩⟩⟩⟩⟩⟩⟩⟩⟩⟩⟩⟩⟩⟩⟩⟩⟩⟩⟩⟩⟩⟩⟩⟩⟩⟩⟩⟩⟩⟩⟩⟩⟩⟩⟩⟩⟩⟩⟩⟩⟩⟩⟩⟩⟩⟩⟩⟩⟩⟩⟩⟩⟩⟩⟩⟩⟩⟩⟩⟩⟩⟩⟩⟩⟩⟩⟩⟩⟩⟩⟩⟩⟩⟩⟩⟩⟩⟩⟩⟩⟩⟩⟩⟩⟩⟩⟩⟩⟩⟩⟩
  intro n hn
  exact h n (List.mem_range.mpr hn)
