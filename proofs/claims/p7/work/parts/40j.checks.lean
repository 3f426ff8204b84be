/-! ===== cases, checked ===== -/
set_option maxRecDepth 100000 in
theorem k146_ : rCkn 3000 uMx uW uT uJL uAn uBds 146 = true := by decide +kernel
set_option maxRecDepth 100000 in
theorem k147_ : rCkn 3000 uMx uW uT uJL uAn uBds 147 = true := by decide +kernel
set_option maxRecDepth 100000 in
theorem k148_ : rCkn 3000 uMx uW uT uJL uAn uBds 148 = true := by decide +kernel
set_option maxRecDepth 100000 in
theorem k149_ : rCkn 3000 uMx uW uT uJL uAn uBds 149 = true := by decide +kernel
set_option maxRecDepth 100000 in
theorem k150_ : rCkn 3000 uMx uW uT uJL uAn uBds 150 = true := by decide +kernel
set_option maxRecDepth 100000 in
theorem k151_ : rCkn 3000 uMx uW uT uJL uAn uBds 151 = true := by decide +kernel
set_option maxRecDepth 100000 in
theorem k152_ : rCkn 3000 uMx uW uT uJL uAn uBds 152 = true := by decide +kernel
set_option maxRecDepth 100000 in
theorem k153_ : rCkn 3000 uMx uW uT uJL uAn uBds 153 = true := by decide +kernel
set_option maxRecDepth 100000 in
theorem k154_ : rCkn 3000 uMx uW uT uJL uAn uBds 154 = true := by decide +kernel
set_option maxRecDepth 100000 in
theorem k155_ : rCkn 3000 uMx uW uT uJL uAn uBds 155 = true := by decide +kernel
set_option maxRecDepth 100000 in
theorem k156_ : rCkn 3000 uMx uW uT uJL uAn uBds 156 = true := by decide +kernel
set_option maxRecDepth 100000 in
theorem k157_ : rCkn 3000 uMx uW uT uJL uAn uBds 157 = true := by decide +kernel
set_option maxRecDepth 100000 in
theorem k160_ : rCkn 3000 uMx uW uT uJL uAn uBds 160 = true := by decide +kernel
set_option maxRecDepth 100000 in
theorem k161_ : rCkn 3000 uMx uW uT uJL uAn uBds 161 = true := by decide +kernel
set_option maxRecDepth 100000 in
theorem k162_ : rCkn 3000 uMx uW uT uJL uAn uBds 162 = true := by decide +kernel
set_option maxRecDepth 100000 in
theorem k163_ : rCkn 3000 uMx uW uT uJL uAn uBds 163 = true := by decide +kernel
set_option maxRecDepth 100000 in
theorem k164_ : rCkn 3000 uMx uW uT uJL uAn uBds 164 = true := by decide +kernel
set_option maxRecDepth 100000 in
theorem k165_ : rCkn 3000 uMx uW uT uJL uAn uBds 165 = true := by decide +kernel
set_option maxRecDepth 100000 in
theorem k166_ : rCkn 3000 uMx uW uT uJL uAn uBds 166 = true := by decide +kernel
set_option maxRecDepth 100000 in
theorem k167_ : rCkn 3000 uMx uW uT uJL uAn uBds 167 = true := by decide +kernel
set_option maxRecDepth 100000 in
theorem k169_ : rCkn 3000 uMx uW uT uJL uAn uBds 169 = true := by decide +kernel
set_option maxRecDepth 100000 in
theorem k170_ : rCkn 3000 uMx uW uT uJL uAn uBds 170 = true := by decide +kernel
set_option maxRecDepth 100000 in
theorem k171_ : rCkn 3000 uMx uW uT uJL uAn uBds 171 = true := by decide +kernel
set_option maxRecDepth 100000 in
theorem k172_ : rCkn 3000 uMx uW uT uJL uAn uBds 172 = true := by decide +kernel
set_option maxRecDepth 100000 in
theorem k173_ : rCkn 3000 uMx uW uT uJL uAn uBds 173 = true := by decide +kernel
set_option maxRecDepth 100000 in
theorem k174_ : rCkn 3000 uMx uW uT uJL uAn uBds 174 = true := by decide +kernel
set_option maxRecDepth 100000 in
theorem k175_ : rCkn 3000 uMx uW uT uJL uAn uBds 175 = true := by decide +kernel
set_option maxRecDepth 100000 in
theorem k176_ : rCkn 3000 uMx uW uT uJL uAn uBds 176 = true := by decide +kernel
set_option maxRecDepth 100000 in
theorem k177_ : rCkn 3000 uMx uW uT uJL uAn uBds 177 = true := by decide +kernel
set_option maxRecDepth 100000 in
theorem k178_ : rCkn 3000 uMx uW uT uJL uAn uBds 178 = true := by decide +kernel
set_option maxRecDepth 100000 in
theorem k179_ : rCkn 3000 uMx uW uT uJL uAn uBds 179 = true := by decide +kernel
set_option maxRecDepth 100000 in
theorem k180_ : rCkn 3000 uMx uW uT uJL uAn uBds 180 = true := by decide +kernel
set_option maxRecDepth 100000 in
theorem k181_ : rCkn 3000 uMx uW uT uJL uAn uBds 181 = true := by decide +kernel
set_option maxRecDepth 100000 in
theorem k182_ : rCkn 3000 uMx uW uT uJL uAn uBds 182 = true := by decide +kernel
set_option maxRecDepth 100000 in
theorem k183_ : rCkn 3000 uMx uW uT uJL uAn uBds 183 = true := by decide +kernel
set_option maxRecDepth 100000 in
theorem k184_ : rCkn 3000 uMx uW uT uJL uAn uBds 184 = true := by decide +kernel
set_option maxRecDepth 100000 in
theorem k185_ : rCkn 3000 uMx uW uT uJL uAn uBds 185 = true := by decide +kernel
set_option maxRecDepth 100000 in
theorem k186_ : rCkn 3000 uMx uW uT uJL uAn uBds 186 = true := by decide +kernel
set_option maxRecDepth 100000 in
theorem k187_ : rCkn 3000 uMx uW uT uJL uAn uBds 187 = true := by decide +kernel
set_option maxRecDepth 100000 in
theorem k188_ : rCkn 3000 uMx uW uT uJL uAn uBds 188 = true := by decide +kernel
set_option maxRecDepth 100000 in
theorem k189_ : rCkn 3000 uMx uW uT uJL uAn uBds 189 = true := by decide +kernel
set_option maxRecDepth 100000 in
theorem k190_ : rCkn 3000 uMx uW uT uJL uAn uBds 190 = true := by decide +kernel
set_option maxRecDepth 100000 in
theorem k191_ : rCkn 3000 uMx uW uT uJL uAn uBds 191 = true := by decide +kernel
set_option maxRecDepth 100000 in
theorem k192_ : rCkn 3000 uMx uW uT uJL uAn uBds 192 = true := by decide +kernel
set_option maxRecDepth 100000 in
theorem k193_ : rCkn 3000 uMx uW uT uJL uAn uBds 193 = true := by decide +kernel
set_option maxRecDepth 100000 in
theorem k194_ : rCkn 3000 uMx uW uT uJL uAn uBds 194 = true := by decide +kernel
set_option maxRecDepth 100000 in
theorem k195_ : rCkn 3000 uMx uW uT uJL uAn uBds 195 = true := by decide +kernel
set_option maxRecDepth 100000 in
theorem k196_ : rCkn 3000 uMx uW uT uJL uAn uBds 196 = true := by decide +kernel
set_option maxRecDepth 100000 in
theorem k197_ : rCkn 3000 uMx uW uT uJL uAn uBds 197 = true := by decide +kernel
set_option maxRecDepth 100000 in
theorem k198_ : rCkn 3000 uMx uW uT uJL uAn uBds 198 = true := by decide +kernel
set_option maxRecDepth 100000 in
theorem k199_ : rCkn 3000 uMx uW uT uJL uAn uBds 199 = true := by decide +kernel
set_option maxRecDepth 100000 in
theorem k200_ : rCkn 3000 uMx uW uT uJL uAn uBds 200 = true := by decide +kernel
set_option maxRecDepth 100000 in
theorem k201_ : rCkn 3000 uMx uW uT uJL uAn uBds 201 = true := by decide +kernel
set_option maxRecDepth 100000 in
theorem k202_ : rCkn 3000 uMx uW uT uJL uAn uBds 202 = true := by decide +kernel
set_option maxRecDepth 100000 in
theorem k203_ : rCkn 3000 uMx uW uT uJL uAn uBds 203 = true := by decide +kernel
set_option maxRecDepth 100000 in
theorem k204_ : rCkn 3000 uMx uW uT uJL uAn uBds 204 = true := by decide +kernel
set_option maxRecDepth 100000 in
theorem k205_ : rCkn 3000 uMx uW uT uJL uAn uBds 205 = true := by decide +kernel
set_option maxRecDepth 100000 in
theorem k206_ : rCkn 3000 uMx uW uT uJL uAn uBds 206 = true := by decide +kernel
set_option maxRecDepth 100000 in
theorem k207_ : rCkn 3000 uMx uW uT uJL uAn uBds 207 = true := by decide +kernel
set_option maxRecDepth 100000 in
theorem k208_ : rCkn 3000 uMx uW uT uJL uAn uBds 208 = true := by decide +kernel
set_option maxRecDepth 100000 in
theorem k209_ : rCkn 3000 uMx uW uT uJL uAn uBds 209 = true := by decide +kernel
set_option maxRecDepth 100000 in
theorem k210_ : rCkn 3000 uMx uW uT uJL uAn uBds 210 = true := by decide +kernel
set_option maxRecDepth 100000 in
theorem k211_ : rCkn 3000 uMx uW uT uJL uAn uBds 211 = true := by decide +kernel
set_option maxRecDepth 100000 in
theorem k212_ : rCkn 3000 uMx uW uT uJL uAn uBds 212 = true := by decide +kernel
set_option maxRecDepth 100000 in
theorem k213_ : rCkn 3000 uMx uW uT uJL uAn uBds 213 = true := by decide +kernel
set_option maxRecDepth 100000 in
theorem k214_ : rCkn 3000 uMx uW uT uJL uAn uBds 214 = true := by decide +kernel
set_option maxRecDepth 100000 in
theorem k215_ : rCkn 3000 uMx uW uT uJL uAn uBds 215 = true := by decide +kernel
set_option maxRecDepth 100000 in
theorem k216_ : rCkn 3000 uMx uW uT uJL uAn uBds 216 = true := by decide +kernel
set_option maxRecDepth 100000 in
theorem k217_ : rCkn 3000 uMx uW uT uJL uAn uBds 217 = true := by decide +kernel
set_option maxRecDepth 100000 in
theorem k218_ : rCkn 3000 uMx uW uT uJL uAn uBds 218 = true := by decide +kernel
