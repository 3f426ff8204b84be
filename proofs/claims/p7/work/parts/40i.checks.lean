/-! ===== cases, checked ===== -/
set_option maxRecDepth 100000 in
theorem k74_ : rCkn 3000 uMx uW uT uJL uAn uBds 74 = true := by decide +kernel
set_option maxRecDepth 100000 in
theorem k76_ : rCkn 3000 uMx uW uT uJL uAn uBds 76 = true := by decide +kernel
set_option maxRecDepth 100000 in
theorem k77_ : rCkn 3000 uMx uW uT uJL uAn uBds 77 = true := by decide +kernel
set_option maxRecDepth 100000 in
theorem k79_ : rCkn 3000 uMx uW uT uJL uAn uBds 79 = true := by decide +kernel
set_option maxRecDepth 100000 in
theorem k80_ : rCkn 3000 uMx uW uT uJL uAn uBds 80 = true := by decide +kernel
set_option maxRecDepth 100000 in
theorem k81_ : rCkn 3000 uMx uW uT uJL uAn uBds 81 = true := by decide +kernel
set_option maxRecDepth 100000 in
theorem k82_ : rCkn 3000 uMx uW uT uJL uAn uBds 82 = true := by decide +kernel
set_option maxRecDepth 100000 in
theorem k83_ : rCkn 3000 uMx uW uT uJL uAn uBds 83 = true := by decide +kernel
set_option maxRecDepth 100000 in
theorem k84_ : rCkn 3000 uMx uW uT uJL uAn uBds 84 = true := by decide +kernel
set_option maxRecDepth 100000 in
theorem k85_ : rCkn 3000 uMx uW uT uJL uAn uBds 85 = true := by decide +kernel
set_option maxRecDepth 100000 in
theorem k86_ : rCkn 3000 uMx uW uT uJL uAn uBds 86 = true := by decide +kernel
set_option maxRecDepth 100000 in
theorem k87_ : rCkn 3000 uMx uW uT uJL uAn uBds 87 = true := by decide +kernel
set_option maxRecDepth 100000 in
theorem k88_ : rCkn 3000 uMx uW uT uJL uAn uBds 88 = true := by decide +kernel
set_option maxRecDepth 100000 in
theorem k89_ : rCkn 3000 uMx uW uT uJL uAn uBds 89 = true := by decide +kernel
set_option maxRecDepth 100000 in
theorem k90_ : rCkn 3000 uMx uW uT uJL uAn uBds 90 = true := by decide +kernel
set_option maxRecDepth 100000 in
theorem k91_ : rCkn 3000 uMx uW uT uJL uAn uBds 91 = true := by decide +kernel
set_option maxRecDepth 100000 in
theorem k92_ : rCkn 3000 uMx uW uT uJL uAn uBds 92 = true := by decide +kernel
set_option maxRecDepth 100000 in
theorem k93_ : rCkn 3000 uMx uW uT uJL uAn uBds 93 = true := by decide +kernel
set_option maxRecDepth 100000 in
theorem k94_ : rCkn 3000 uMx uW uT uJL uAn uBds 94 = true := by decide +kernel
set_option maxRecDepth 100000 in
theorem k95_ : rCkn 3000 uMx uW uT uJL uAn uBds 95 = true := by decide +kernel
set_option maxRecDepth 100000 in
theorem k96_ : rCkn 3000 uMx uW uT uJL uAn uBds 96 = true := by decide +kernel
set_option maxRecDepth 100000 in
theorem k97_ : rCkn 3000 uMx uW uT uJL uAn uBds 97 = true := by decide +kernel
set_option maxRecDepth 100000 in
theorem k98_ : rCkn 3000 uMx uW uT uJL uAn uBds 98 = true := by decide +kernel
set_option maxRecDepth 100000 in
theorem k99_ : rCkn 3000 uMx uW uT uJL uAn uBds 99 = true := by decide +kernel
set_option maxRecDepth 100000 in
theorem k100_ : rCkn 3000 uMx uW uT uJL uAn uBds 100 = true := by decide +kernel
set_option maxRecDepth 100000 in
theorem k101_ : rCkn 3000 uMx uW uT uJL uAn uBds 101 = true := by decide +kernel
set_option maxRecDepth 100000 in
theorem k102_ : rCkn 3000 uMx uW uT uJL uAn uBds 102 = true := by decide +kernel
set_option maxRecDepth 100000 in
theorem k103_ : rCkn 3000 uMx uW uT uJL uAn uBds 103 = true := by decide +kernel
set_option maxRecDepth 100000 in
theorem k104_ : rCkn 3000 uMx uW uT uJL uAn uBds 104 = true := by decide +kernel
set_option maxRecDepth 100000 in
theorem k105_ : rCkn 3000 uMx uW uT uJL uAn uBds 105 = true := by decide +kernel
set_option maxRecDepth 100000 in
theorem k106_ : rCkn 3000 uMx uW uT uJL uAn uBds 106 = true := by decide +kernel
set_option maxRecDepth 100000 in
theorem k107_ : rCkn 3000 uMx uW uT uJL uAn uBds 107 = true := by decide +kernel
set_option maxRecDepth 100000 in
theorem k108_ : rCkn 3000 uMx uW uT uJL uAn uBds 108 = true := by decide +kernel
set_option maxRecDepth 100000 in
theorem k109_ : rCkn 3000 uMx uW uT uJL uAn uBds 109 = true := by decide +kernel
set_option maxRecDepth 100000 in
theorem k110_ : rCkn 3000 uMx uW uT uJL uAn uBds 110 = true := by decide +kernel
set_option maxRecDepth 100000 in
theorem k111_ : rCkn 3000 uMx uW uT uJL uAn uBds 111 = true := by decide +kernel
set_option maxRecDepth 100000 in
theorem k112_ : rCkn 3000 uMx uW uT uJL uAn uBds 112 = true := by decide +kernel
set_option maxRecDepth 100000 in
theorem k113_ : rCkn 3000 uMx uW uT uJL uAn uBds 113 = true := by decide +kernel
set_option maxRecDepth 100000 in
theorem k114_ : rCkn 3000 uMx uW uT uJL uAn uBds 114 = true := by decide +kernel
set_option maxRecDepth 100000 in
theorem k115_ : rCkn 3000 uMx uW uT uJL uAn uBds 115 = true := by decide +kernel
set_option maxRecDepth 100000 in
theorem k116_ : rCkn 3000 uMx uW uT uJL uAn uBds 116 = true := by decide +kernel
set_option maxRecDepth 100000 in
theorem k117_ : rCkn 3000 uMx uW uT uJL uAn uBds 117 = true := by decide +kernel
set_option maxRecDepth 100000 in
theorem k118_ : rCkn 3000 uMx uW uT uJL uAn uBds 118 = true := by decide +kernel
set_option maxRecDepth 100000 in
theorem k119_ : rCkn 3000 uMx uW uT uJL uAn uBds 119 = true := by decide +kernel
set_option maxRecDepth 100000 in
theorem k120_ : rCkn 3000 uMx uW uT uJL uAn uBds 120 = true := by decide +kernel
set_option maxRecDepth 100000 in
theorem k121_ : rCkn 3000 uMx uW uT uJL uAn uBds 121 = true := by decide +kernel
set_option maxRecDepth 100000 in
theorem k122_ : rCkn 3000 uMx uW uT uJL uAn uBds 122 = true := by decide +kernel
set_option maxRecDepth 100000 in
theorem k123_ : rCkn 3000 uMx uW uT uJL uAn uBds 123 = true := by decide +kernel
set_option maxRecDepth 100000 in
theorem k124_ : rCkn 3000 uMx uW uT uJL uAn uBds 124 = true := by decide +kernel
set_option maxRecDepth 100000 in
theorem k125_ : rCkn 3000 uMx uW uT uJL uAn uBds 125 = true := by decide +kernel
set_option maxRecDepth 100000 in
theorem k126_ : rCkn 3000 uMx uW uT uJL uAn uBds 126 = true := by decide +kernel
set_option maxRecDepth 100000 in
theorem k127_ : rCkn 3000 uMx uW uT uJL uAn uBds 127 = true := by decide +kernel
set_option maxRecDepth 100000 in
theorem k128_ : rCkn 3000 uMx uW uT uJL uAn uBds 128 = true := by decide +kernel
set_option maxRecDepth 100000 in
theorem k129_ : rCkn 3000 uMx uW uT uJL uAn uBds 129 = true := by decide +kernel
set_option maxRecDepth 100000 in
theorem k130_ : rCkn 3000 uMx uW uT uJL uAn uBds 130 = true := by decide +kernel
set_option maxRecDepth 100000 in
theorem k131_ : rCkn 3000 uMx uW uT uJL uAn uBds 131 = true := by decide +kernel
set_option maxRecDepth 100000 in
theorem k132_ : rCkn 3000 uMx uW uT uJL uAn uBds 132 = true := by decide +kernel
set_option maxRecDepth 100000 in
theorem k133_ : rCkn 3000 uMx uW uT uJL uAn uBds 133 = true := by decide +kernel
set_option maxRecDepth 100000 in
theorem k134_ : rCkn 3000 uMx uW uT uJL uAn uBds 134 = true := by decide +kernel
set_option maxRecDepth 100000 in
theorem k135_ : rCkn 3000 uMx uW uT uJL uAn uBds 135 = true := by decide +kernel
set_option maxRecDepth 100000 in
theorem k136_ : rCkn 3000 uMx uW uT uJL uAn uBds 136 = true := by decide +kernel
set_option maxRecDepth 100000 in
theorem k137_ : rCkn 3000 uMx uW uT uJL uAn uBds 137 = true := by decide +kernel
set_option maxRecDepth 100000 in
theorem k138_ : rCkn 3000 uMx uW uT uJL uAn uBds 138 = true := by decide +kernel
set_option maxRecDepth 100000 in
theorem k139_ : rCkn 3000 uMx uW uT uJL uAn uBds 139 = true := by decide +kernel
set_option maxRecDepth 100000 in
theorem k140_ : rCkn 3000 uMx uW uT uJL uAn uBds 140 = true := by decide +kernel
set_option maxRecDepth 100000 in
theorem k141_ : rCkn 3000 uMx uW uT uJL uAn uBds 141 = true := by decide +kernel
set_option maxRecDepth 100000 in
theorem k142_ : rCkn 3000 uMx uW uT uJL uAn uBds 142 = true := by decide +kernel
set_option maxRecDepth 100000 in
theorem k143_ : rCkn 3000 uMx uW uT uJL uAn uBds 143 = true := by decide +kernel
set_option maxRecDepth 100000 in
theorem k144_ : rCkn 3000 uMx uW uT uJL uAn uBds 144 = true := by decide +kernel
set_option maxRecDepth 100000 in
theorem k145_ : rCkn 3000 uMx uW uT uJL uAn uBds 145 = true := by decide +kernel
