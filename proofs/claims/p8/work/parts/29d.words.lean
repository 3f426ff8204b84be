/-! ===== the words that the tables ask for are there ===== -/
set_option maxRecDepth 100000 in
theorem x0_ : inAt (rqM vwCl tMth tXn d0_.1.cls v0_) [(6, 52)] = true := by decide +kernel
set_option maxRecDepth 100000 in
theorem x1_ : inAt (rqM vwCl tMth tXn d1_.1.cls v1_) [(6, 52)] = true := by decide +kernel
set_option maxRecDepth 100000 in
theorem x2_ : inAt (rqM vwCl tMth tXn d2_.1.cls v2_) [(6, 53), (6, 55)] = true := by decide +kernel
set_option maxRecDepth 100000 in
theorem x3_ : inAt (rqM vwCl tMth tXn d3_.1.cls v3_) [(6, 55), (7, 108), (1, 15), (7, 105), (7, 107), (0, 48), (7, 112), (1, 15), (7, 109), (7, 111), (0, 49)] = true := by decide +kernel
set_option maxRecDepth 100000 in
theorem x4_ : inAt (rqM vwCl tMth tXn d4_.1.cls v4_) [(6, 55), (7, 108), (1, 15), (7, 105), (7, 107), (0, 48)] = true := by decide +kernel
set_option maxRecDepth 100000 in
theorem x5_ : inAt (rqM vwCl tMth tXn d5_.1.cls v5_) [(6, 55), (6, 86), (6, 87)] = true := by decide +kernel
set_option maxRecDepth 100000 in
theorem x6_ : inAt (rqM vwCl tMth tXn d6_.1.cls v6_) [(6, 86), (6, 53)] = true := by decide +kernel
set_option maxRecDepth 100000 in
theorem x7_ : inAt (rqM vwCl tMth tXn d7_.1.cls v7_) [(6, 87), (7, 132), (1, 15), (7, 129), (7, 131), (0, 52)] = true := by decide +kernel
set_option maxRecDepth 100000 in
theorem x8_ : inAt (rqM vwCl tMth tXn d8_.1.cls v8_) [(6, 86), (6, 88)] = true := by decide +kernel
set_option maxRecDepth 100000 in
theorem x9_ : inAt (rqM vwCl tMth tXn d9_.1.cls v9_) [] = true := by decide +kernel
set_option maxRecDepth 100000 in
theorem x10_ : inAt (rqM vwCl tMth tXn d10_.1.cls v10_) [] = true := by decide +kernel
set_option maxRecDepth 100000 in
theorem x11_ : inAt (rqM vwCl tMth tXn d11_.1.cls v11_) [] = true := by decide +kernel
set_option maxRecDepth 100000 in
theorem x12_ : inAt (rqM vwCl tMth tXn d12_.1.cls v12_) [(6, 87), (6, 89), (6, 90), (7, 132), (1, 15), (7, 129), (7, 131), (0, 52), (7, 152), (1, 15), (7, 149), (7, 151), (0, 57), (7, 160), (1, 15), (7, 157), (7, 159), (0, 59), (7, 164), (1, 15), (7, 161), (7, 163), (0, 60)] = true := by decide +kernel
set_option maxRecDepth 100000 in
theorem x13_ : inAt (rqM vwCl tMth tXn d13_.1.cls v13_) [(6, 90), (6, 53), (6, 89)] = true := by decide +kernel
set_option maxRecDepth 100000 in
theorem x14_ : inAt (rqM vwCl tMth tXn d14_.1.cls v14_) [(6, 87), (6, 91), (6, 92), (7, 206), (7, 207), (7, 132), (1, 15), (7, 129), (7, 131), (0, 52), (7, 160), (1, 15), (7, 157), (7, 159), (0, 59), (7, 164), (1, 15), (7, 161), (7, 163), (0, 60)] = true := by decide +kernel
set_option maxRecDepth 100000 in
theorem x15_ : inAt (rqM vwCl tMth tXn d15_.1.cls v15_) [(6, 60), (6, 59), (6, 90), (6, 57), (6, 58), (6, 53), (6, 89), (6, 61), (7, 201)] = true := by decide +kernel
set_option maxRecDepth 100000 in
theorem x16_ : inAt (rqM vwCl tMth tXn d16_.1.cls v16_) [(6, 94), (6, 90), (6, 53), (6, 93), (6, 89)] = true := by decide +kernel
set_option maxRecDepth 100000 in
theorem x17_ : inAt (rqM vwCl tMth tXn d17_.1.cls v17_) [(6, 76), (6, 96), (6, 89), (6, 93), (6, 94), (6, 90), (6, 95), (6, 91), (6, 92), (7, 156), (1, 15), (7, 153), (7, 155), (0, 58), (7, 188), (1, 15), (7, 185), (7, 187), (0, 66), (7, 164), (1, 15), (7, 161), (7, 163), (0, 60)] = true := by decide +kernel
set_option maxRecDepth 100000 in
theorem x18_ : inAt (rqM vwCl tMth tXn d18_.1.cls v18_) [(6, 97)] = true := by decide +kernel
set_option maxRecDepth 100000 in
theorem x19_ : inAt (rqM vwCl tMth tXn d19_.1.cls v19_) [(6, 87), (6, 91), (6, 92), (7, 128), (1, 15), (7, 125), (7, 127), (0, 51), (7, 132), (1, 15), (7, 129), (7, 131), (0, 52), (7, 180), (1, 15), (7, 177), (7, 179), (0, 64), (7, 184), (1, 15), (7, 181), (7, 183), (0, 65), (7, 152), (1, 15), (7, 149), (7, 151), (0, 57), (7, 156), (1, 15), (7, 153), (7, 155), (0, 58), (7, 200), (1, 15), (7, 197), (7, 199), (0, 69), (7, 160), (1, 15), (7, 157), (7, 159), (0, 59), (7, 205), (1, 15), (7, 202), (7, 204), (0, 70), (7, 164), (1, 15), (7, 161), (7, 163), (0, 60)] = true := by decide +kernel
set_option maxRecDepth 100000 in
theorem x20_ : inAt (rqM vwCl tMth tXn d20_.1.cls v20_) [(6, 66), (6, 64), (6, 63), (6, 62), (6, 53)] = true := by decide +kernel
set_option maxRecDepth 100000 in
theorem x21_ : inAt (rqM vwCl tMth tXn d21_.1.cls v21_) [(6, 66), (6, 64), (6, 63), (6, 62), (6, 53)] = true := by decide +kernel
set_option maxRecDepth 100000 in
theorem x22_ : inAt (rqM vwCl tMth tXn d22_.1.cls v22_) [(6, 87), (7, 128), (1, 15), (7, 125), (7, 127), (0, 51), (7, 132), (1, 15), (7, 129), (7, 131), (0, 52), (7, 152), (1, 15), (7, 149), (7, 151), (0, 57), (7, 156), (1, 15), (7, 153), (7, 155), (0, 58), (7, 164), (1, 15), (7, 161), (7, 163), (0, 60)] = true := by decide +kernel
set_option maxRecDepth 100000 in
theorem x23_ : inAt (rqM vwCl tMth tXn d23_.1.cls v23_) [(6, 87), (7, 128), (1, 15), (7, 125), (7, 127), (0, 51), (7, 132), (1, 15), (7, 129), (7, 131), (0, 52), (7, 164), (1, 15), (7, 161), (7, 163), (0, 60)] = true := by decide +kernel
set_option maxRecDepth 100000 in
theorem x24_ : inAt (rqM vwCl tMth tXn d24_.1.cls v24_) [(6, 106), (6, 110), (6, 107), (6, 109), (6, 108), (6, 97)] = true := by decide +kernel
set_option maxRecDepth 100000 in
theorem x25_ : inAt (rqM vwCl tMth tXn d25_.1.cls v25_) [(6, 101), (6, 87), (6, 89), (6, 91), (6, 102), (6, 92), (7, 164), (1, 15), (7, 161), (7, 163), (0, 60), (7, 148), (1, 15), (7, 145), (7, 147), (0, 56), (7, 176), (1, 15), (7, 173), (7, 175), (0, 63), (7, 128), (1, 15), (7, 125), (7, 127), (0, 51), (7, 132), (1, 15), (7, 129), (7, 131), (0, 52), (7, 180), (1, 15), (7, 177), (7, 179), (0, 64), (7, 184), (1, 15), (7, 181), (7, 183), (0, 65), (7, 192), (1, 15), (7, 189), (7, 191), (0, 67)] = true := by decide +kernel
set_option maxRecDepth 100000 in
theorem x26_ : inAt (rqM vwCl tMth tXn d26_.1.cls v26_) [(6, 89), (6, 98), (6, 90), (6, 99), (6, 100), (6, 101), (6, 102), (6, 87), (6, 104), (6, 103), (6, 92), (6, 105), (6, 91), (7, 148), (1, 15), (7, 145), (7, 147), (0, 56), (7, 168), (1, 15), (7, 165), (7, 167), (0, 61), (7, 128), (1, 15), (7, 125), (7, 127), (0, 51), (7, 164), (1, 15), (7, 161), (7, 163), (0, 60), (7, 132), (1, 15), (7, 129), (7, 131), (0, 52), (7, 172), (1, 15), (7, 169), (7, 171), (0, 62), (7, 196), (1, 15), (7, 193), (7, 195), (0, 68)] = true := by decide +kernel
set_option maxRecDepth 100000 in
theorem x27_ : inAt (rqM vwCl tMth tXn d27_.1.cls v27_) [(6, 110), (6, 109), (6, 108), (6, 107), (6, 95), (6, 106), (8, 7), (1, 15), (8, 4), (8, 6), (0, 80), (7, 164), (1, 15), (7, 161), (7, 163), (0, 60)] = true := by decide +kernel
set_option maxRecDepth 100000 in
theorem x28_ : inAt (rqM vwCl tMth tXn d28_.1.cls v28_) [(6, 106), (6, 107), (6, 108), (6, 109)] = true := by decide +kernel
set_option maxRecDepth 100000 in
theorem x29_ : inAt (rqM vwCl tMth tXn d29_.1.cls v29_) [(6, 110), (6, 106), (8, 19), (1, 15), (8, 16), (8, 18), (0, 83)] = true := by decide +kernel
set_option maxRecDepth 100000 in
theorem x30_ : inAt (rqM vwCl tMth tXn d30_.1.cls v30_) [(6, 100), (6, 103), (6, 104), (7, 164), (1, 15), (7, 161), (7, 163), (0, 60)] = true := by decide +kernel
set_option maxRecDepth 100000 in
theorem x31_ : inAt (rqM vwCl tMth tXn d31_.1.cls v31_) [(6, 96), (6, 75), (6, 76), (6, 97), (6, 110)] = true := by decide +kernel
set_option maxRecDepth 100000 in
theorem x32_ : inAt (rqM vwCl tMth tXn d32_.1.cls v32_) [(6, 96), (6, 75)] = true := by decide +kernel
set_option maxRecDepth 100000 in
theorem x33_ : inAt (rqM vwCl tMth tXn d33_.1.cls v33_) [(6, 87), (6, 92), (6, 91), (6, 82), (6, 83), (7, 128), (1, 15), (7, 125), (7, 127), (0, 51), (7, 196), (1, 15), (7, 193), (7, 195), (0, 68), (8, 7), (1, 15), (8, 4), (8, 6), (0, 80), (7, 164), (1, 15), (7, 161), (7, 163), (0, 60), (7, 235), (1, 15), (7, 232), (7, 234), (0, 77)] = true := by decide +kernel
set_option maxRecDepth 100000 in
theorem x34_ : inAt (rqM vwCl tMth tXn d34_.1.cls v34_) [(6, 87), (6, 79), (6, 82), (6, 83), (7, 235), (1, 15), (7, 232), (7, 234), (0, 77), (7, 128), (1, 15), (7, 125), (7, 127), (0, 51), (7, 132), (1, 15), (7, 129), (7, 131), (0, 52), (7, 164), (1, 15), (7, 161), (7, 163), (0, 60), (8, 7), (1, 15), (8, 4), (8, 6), (0, 80), (8, 11), (1, 15), (8, 8), (8, 10), (0, 81)] = true := by decide +kernel
set_option maxRecDepth 100000 in
theorem x35_ : inAt (rqM vwCl tMth tXn d35_.1.cls v35_) [(6, 89), (6, 90), (6, 97), (6, 87), (6, 82), (6, 92), (6, 83), (6, 91), (6, 66), (6, 79), (6, 80), (6, 81), (7, 235), (1, 15), (7, 232), (7, 234), (0, 77), (7, 128), (1, 15), (7, 125), (7, 127), (0, 51), (7, 164), (1, 15), (7, 161), (7, 163), (0, 60), (7, 196), (1, 15), (7, 193), (7, 195), (0, 68), (7, 192), (1, 15), (7, 189), (7, 191), (0, 67), (7, 132), (1, 15), (7, 129), (7, 131), (0, 52), (7, 168), (1, 15), (7, 165), (7, 167), (0, 61), (7, 211), (1, 15), (7, 208), (7, 210), (0, 71), (7, 215), (1, 15), (7, 212), (7, 214), (0, 72)] = true := by decide +kernel
set_option maxRecDepth 100000 in
theorem x36_ : inAt (rqM vwCl tMth tXn d36_.1.cls v36_) [(6, 81), (6, 97), (6, 87), (6, 91), (6, 92), (6, 82), (6, 83), (6, 89), (6, 79), (7, 128), (1, 15), (7, 125), (7, 127), (0, 51), (7, 235), (1, 15), (7, 232), (7, 234), (0, 77), (7, 132), (1, 15), (7, 129), (7, 131), (0, 52), (7, 148), (1, 15), (7, 145), (7, 147), (0, 56), (7, 239), (1, 15), (7, 236), (7, 238), (0, 78), (7, 164), (1, 15), (7, 161), (7, 163), (0, 60), (7, 152), (1, 15), (7, 149), (7, 151), (0, 57), (7, 156), (1, 15), (7, 153), (7, 155), (0, 58), (7, 200), (1, 15), (7, 197), (7, 199), (0, 69), (7, 196), (1, 15), (7, 193), (7, 195), (0, 68), (8, 3), (1, 15), (8, 0), (8, 2), (0, 79), (7, 176), (1, 15), (7, 173), (7, 175), (0, 63), (8, 7), (1, 15), (8, 4), (8, 6), (0, 80), (8, 11), (1, 15), (8, 8), (8, 10), (0, 81)] = true := by decide +kernel
set_option maxRecDepth 100000 in
theorem x37_ : inAt (rqM vwCl tMth tXn d37_.1.cls v37_) [(6, 75), (6, 96), (6, 87), (7, 128), (1, 15), (7, 125), (7, 127), (0, 51), (7, 164), (1, 15), (7, 161), (7, 163), (0, 60), (7, 231), (1, 15), (7, 228), (7, 230), (0, 76), (7, 132), (1, 15), (7, 129), (7, 131), (0, 52)] = true := by decide +kernel
set_option maxRecDepth 100000 in
theorem x38_ : inAt (rqM vwCl tMth tXn d38_.1.cls v38_) [(6, 77), (6, 96), (6, 97), (6, 79), (6, 64), (6, 80), (6, 82), (6, 81), (6, 83), (7, 235), (1, 15), (7, 232), (7, 234), (0, 77)] = true := by decide +kernel
set_option maxRecDepth 100000 in
theorem x39_ : inAt (rqM vwCl tMth tXn d39_.1.cls v39_) [(6, 67), (6, 100), (6, 68), (6, 105)] = true := by decide +kernel
set_option maxRecDepth 100000 in
theorem x40_ : inAt (rqM vwCl tMth tXn d40_.1.cls v40_) [(6, 84), (6, 85), (6, 100), (6, 103), (6, 104), (6, 105), (6, 98), (6, 99), (6, 66), (6, 87), (6, 69), (6, 70), (6, 67), (6, 68), (6, 71), (6, 96), (6, 73), (6, 101), (6, 74), (6, 102), (6, 72), (6, 78), (7, 140), (1, 15), (7, 137), (7, 139), (0, 54), (7, 144), (1, 15), (7, 141), (7, 143), (0, 55), (7, 192), (1, 15), (7, 189), (7, 191), (0, 67), (7, 211), (1, 15), (7, 208), (7, 210), (0, 71), (7, 164), (1, 15), (7, 161), (7, 163), (0, 60), (7, 215), (1, 15), (7, 212), (7, 214), (0, 72), (7, 128), (1, 15), (7, 125), (7, 127), (0, 51), (7, 132), (1, 15), (7, 129), (7, 131), (0, 52), (7, 219), (1, 15), (7, 216), (7, 218), (0, 73), (7, 223), (1, 15), (7, 220), (7, 222), (0, 74), (7, 227), (1, 15), (7, 224), (7, 226), (0, 75), (8, 15), (1, 15), (8, 12), (8, 14), (0, 82), (8, 23), (1, 15), (8, 20), (8, 22), (0, 84), (8, 27), (1, 15), (8, 24), (8, 26), (0, 85)] = true := by decide +kernel
set_option maxRecDepth 100000 in
theorem x41_ : inAt (rqM vwCl tMth tXn d41_.1.cls v41_) [(6, 111), (6, 145)] = true := by decide +kernel
set_option maxRecDepth 100000 in
theorem x42_ : inAt (rqM vwCl tMth tXn d42_.1.cls v42_) [(6, 52), (6, 65), (6, 66), (6, 70), (6, 85), (6, 87), (6, 86), (6, 88), (6, 69), (6, 84), (7, 124), (1, 15), (7, 121), (7, 123), (0, 50), (7, 128), (1, 15), (7, 125), (7, 127), (0, 51), (7, 136), (1, 15), (7, 133), (7, 135), (0, 53), (8, 31), (1, 15), (8, 28), (8, 30), (0, 86)] = true := by decide +kernel
set_option maxRecDepth 100000 in
theorem x43_ : inAt (rqM vwCl tMth tXn d43_.1.cls v43_) [(6, 52), (6, 65), (6, 66), (6, 87), (6, 86), (6, 88), (6, 98), (6, 99), (6, 100), (6, 69), (6, 67), (6, 68), (7, 124), (1, 15), (7, 121), (7, 123), (0, 50), (7, 140), (1, 15), (7, 137), (7, 139), (0, 54), (7, 144), (1, 15), (7, 141), (7, 143), (0, 55), (7, 128), (1, 15), (7, 125), (7, 127), (0, 51), (7, 132), (1, 15), (7, 129), (7, 131), (0, 52), (7, 219), (1, 15), (7, 216), (7, 218), (0, 73), (7, 164), (1, 15), (7, 161), (7, 163), (0, 60), (7, 211), (1, 15), (7, 208), (7, 210), (0, 71), (7, 223), (1, 15), (7, 220), (7, 222), (0, 74), (8, 31), (1, 15), (8, 28), (8, 30), (0, 86)] = true := by decide +kernel
set_option maxRecDepth 100000 in
theorem x44_ : inAt (rqM vwCl tMth tXn d44_.1.cls v44_) [(6, 71), (6, 73), (6, 74), (6, 75), (6, 76), (6, 77), (6, 72), (6, 78), (6, 79), (6, 80), (6, 81), (6, 82), (6, 83)] = true := by decide +kernel
set_option maxRecDepth 100000 in
theorem x45_ : inAt (rqM vwCl tMth tXn d45_.1.cls v45_) [(6, 84), (7, 108), (1, 15), (7, 105), (7, 107), (0, 48), (8, 43), (1, 15), (8, 40), (8, 42), (0, 87), (8, 31), (1, 15), (8, 28), (8, 30), (0, 86)] = true := by decide +kernel
set_option maxRecDepth 100000 in
theorem x46_ : inAt (rqM vwCl tMth tXn d46_.1.cls v46_) [(8, 91)] = true := by decide +kernel
set_option maxRecDepth 100000 in
theorem x47_ : inAt (rqM vwCl tMth tXn d47_.1.cls v47_) [(6, 121), (6, 64), (6, 120), (6, 130), (6, 117)] = true := by decide +kernel
set_option maxRecDepth 100000 in
theorem x48_ : inAt (rqM vwCl tMth tXn d48_.1.cls v48_) [(6, 123), (6, 129), (6, 114), (6, 115), (6, 128), (6, 116), (6, 117), (6, 118), (6, 120), (6, 64), (6, 130), (6, 121), (6, 122), (6, 73), (6, 75), (6, 79), (6, 119), (6, 132), (8, 63), (1, 15), (8, 60), (8, 62), (0, 91)] = true := by decide +kernel
set_option maxRecDepth 100000 in
theorem x49_ : inAt (rqM vwCl tMth tXn d49_.1.cls v49_) [(6, 82), (6, 131), (6, 83)] = true := by decide +kernel
set_option maxRecDepth 100000 in
theorem x50_ : inAt (rqM vwCl tMth tXn d50_.1.cls v50_) [(6, 134), (6, 135)] = true := by decide +kernel
set_option maxRecDepth 100000 in
theorem x51_ : inAt (rqM vwCl tMth tXn d51_.1.cls v51_) [(6, 64), (6, 80), (6, 82), (6, 120), (6, 83), (6, 81), (6, 131)] = true := by decide +kernel
set_option maxRecDepth 100000 in
theorem x52_ : inAt (rqM vwCl tMth tXn d52_.1.cls v52_) [(6, 136), (6, 75), (6, 79), (6, 132), (8, 121), (1, 15), (8, 118), (8, 120), (0, 104)] = true := by decide +kernel
set_option maxRecDepth 100000 in
theorem x53_ : inAt (rqM vwCl tMth tXn d53_.1.cls v53_) [(6, 133), (6, 117), (8, 117), (1, 15), (8, 114), (8, 116), (0, 103), (8, 121), (1, 15), (8, 118), (8, 120), (0, 104), (8, 103), (1, 15), (8, 100), (8, 102), (0, 100)] = true := by decide +kernel
set_option maxRecDepth 100000 in
theorem x54_ : inAt (rqM vwCl tMth tXn d54_.1.cls v54_) [(6, 64), (6, 80), (6, 82), (6, 131), (6, 83), (6, 120)] = true := by decide +kernel
set_option maxRecDepth 100000 in
theorem x55_ : inAt (rqM vwCl tMth tXn d55_.1.cls v55_) [(6, 79), (6, 121), (6, 80), (6, 133), (6, 117), (6, 131), (6, 83), (8, 108), (8, 109), (8, 103), (1, 15), (8, 100), (8, 102), (0, 100), (8, 107), (1, 15), (8, 104), (8, 106), (0, 101), (8, 90), (1, 15), (8, 88), (8, 89)] = true := by decide +kernel
set_option maxRecDepth 100000 in
theorem x56_ : inAt (rqM vwCl tMth tXn d56_.1.cls v56_) [(6, 146), (6, 144), (6, 131)] = true := by decide +kernel
set_option maxRecDepth 100000 in
theorem x57_ : inAt (rqM vwCl tMth tXn d57_.1.cls v57_) [(6, 130), (6, 64), (6, 71), (6, 72), (6, 131), (6, 78)] = true := by decide +kernel
set_option maxRecDepth 100000 in
theorem x58_ : inAt (rqM vwCl tMth tXn d58_.1.cls v58_) [(6, 71), (8, 79), (1, 15), (8, 76), (8, 78), (0, 95), (8, 59), (1, 15), (8, 56), (8, 58), (0, 90)] = true := by decide +kernel
set_option maxRecDepth 100000 in
theorem x59_ : inAt (rqM vwCl tMth tXn d59_.1.cls v59_) [(6, 137), (6, 130)] = true := by decide +kernel
set_option maxRecDepth 100000 in
theorem x60_ : inAt (rqM vwCl tMth tXn d60_.1.cls v60_) [(6, 142), (6, 129), (6, 137), (6, 130), (6, 138), (6, 139), (6, 141), (6, 73), (6, 131), (6, 74), (6, 140), (8, 79), (1, 15), (8, 76), (8, 78), (0, 95), (8, 87), (1, 15), (8, 84), (8, 86), (0, 97), (8, 90), (1, 15), (8, 88), (8, 89)] = true := by decide +kernel
set_option maxRecDepth 100000 in
theorem x61_ : inAt (rqM vwCl tMth tXn d61_.1.cls v61_) [(6, 75), (6, 79)] = true := by decide +kernel
set_option maxRecDepth 100000 in
theorem x62_ : inAt (rqM vwCl tMth tXn d62_.1.cls v62_) [(6, 129), (6, 75), (6, 79), (6, 117), (6, 132), (6, 121), (6, 80), (6, 124), (8, 122), (8, 75), (1, 15), (8, 72), (8, 74), (0, 94), (8, 83), (1, 15), (8, 80), (8, 82), (0, 96), (8, 95), (1, 15), (8, 92), (8, 94), (0, 98), (8, 99), (1, 15), (8, 96), (8, 98), (0, 99), (8, 113), (1, 15), (8, 110), (8, 112), (0, 102), (8, 126), (1, 15), (8, 123), (8, 125), (0, 105)] = true := by decide +kernel
set_option maxRecDepth 100000 in
theorem x63_ : inAt (rqM vwCl tMth tXn d63_.1.cls v63_) [(6, 142), (6, 123), (6, 133), (6, 136), (6, 129), (6, 73), (6, 141), (6, 138), (6, 139), (6, 140), (6, 130), (6, 64), (6, 71), (6, 72), (6, 137), (8, 71), (1, 15), (8, 68), (8, 70), (0, 93), (8, 59), (1, 15), (8, 56), (8, 58), (0, 90)] = true := by decide +kernel
set_option maxRecDepth 100000 in
theorem x64_ : inAt (rqM vwCl tMth tXn d64_.1.cls v64_) [(6, 128), (6, 69), (6, 129), (6, 112), (6, 67), (6, 130), (6, 68), (6, 84), (6, 73), (6, 71), (6, 134), (6, 135), (6, 125), (6, 123), (6, 133), (6, 136), (8, 59), (1, 15), (8, 56), (8, 58), (0, 90), (8, 67), (1, 15), (8, 64), (8, 66), (0, 92), (8, 130), (1, 15), (8, 127), (8, 129), (0, 106), (8, 71), (1, 15), (8, 68), (8, 70), (0, 93)] = true := by decide +kernel
set_option maxRecDepth 100000 in
theorem x65_ : inAt (rqM vwCl tMth tXn d65_.1.cls v65_) [(6, 65), (6, 112), (6, 84), (6, 71), (6, 75), (6, 79), (6, 80), (6, 73), (6, 113)] = true := by decide +kernel
set_option maxRecDepth 100000 in
theorem x66_ : inAt (rqM vwCl tMth tXn d66_.1.cls v66_) [(6, 145), (6, 111), (6, 52), (6, 123), (6, 124), (6, 125), (6, 129), (6, 65), (6, 121), (6, 113), (6, 126), (6, 127), (8, 51), (1, 15), (8, 48), (8, 50), (0, 88), (8, 55), (1, 15), (8, 52), (8, 54), (0, 89), (7, 108), (1, 15), (7, 105), (7, 107), (0, 48)] = true := by decide +kernel
set_option maxRecDepth 100000 in
theorem x67_ : inAt (rqM vwCl tMth tXn d67_.1.cls v67_) [(6, 123)] = true := by decide +kernel
set_option maxRecDepth 100000 in
theorem x68_ : inAt (rqM vwCl tMth tXn d68_.1.cls v68_) [(8, 142), (7, 201), (8, 90), (1, 15), (8, 88), (8, 89)] = true := by decide +kernel
set_option maxRecDepth 100000 in
theorem x69_ : inAt (rqM vwCl tMth tXn d69_.1.cls v69_) [(6, 111), (6, 114), (6, 112), (6, 115), (6, 116), (6, 118), (6, 64), (6, 120), (8, 143), (8, 138), (1, 15), (8, 135), (8, 137), (0, 107), (7, 108), (1, 15), (7, 105), (7, 107), (0, 48), (8, 141), (1, 15), (8, 139), (8, 140)] = true := by decide +kernel
set_option maxRecDepth 100000 in
theorem x70_ : inAt (rqM vwCl tMth tXn d70_.1.cls v70_) [(6, 111), (6, 118), (6, 119), (8, 138), (1, 15), (8, 135), (8, 137), (0, 107), (7, 108), (1, 15), (7, 105), (7, 107), (0, 48)] = true := by decide +kernel
set_option maxRecDepth 100000 in
theorem x71_ : inAt (rqM vwCl tMth tXn d71_.1.cls v71_) [(6, 111), (6, 65), (6, 112), (7, 108), (1, 15), (7, 105), (7, 107), (0, 48)] = true := by decide +kernel
set_option maxRecDepth 100000 in
theorem x72_ : inAt (rqM vwCl tMth tXn d72_.1.cls v72_) [(6, 55), (6, 56), (6, 84), (6, 69), (6, 65), (6, 111), (6, 123), (6, 126), (6, 127), (6, 113), (6, 60), (7, 108), (1, 15), (7, 105), (7, 107), (0, 48)] = true := by decide +kernel
set_option maxRecDepth 100000 in
theorem x73_ : inAt (rqM vwCl tMth tXn d73_.1.cls v73_) [(6, 145), (6, 147), (6, 143), (7, 108), (1, 15), (7, 105), (7, 107), (0, 48), (8, 141), (1, 15), (8, 139), (8, 140)] = true := by decide +kernel
set_option maxRecDepth 100000 in
theorem x74_ : inAt (rqM vwCl tMth tXn d74_.1.cls v74_) [(6, 56), (6, 54), (8, 181), (7, 108), (1, 15), (7, 105), (7, 107), (0, 48)] = true := by decide +kernel
set_option maxRecDepth 100000 in
theorem x75_ : inAt (rqM vwCl tMth tXn d75_.1.cls v75_) [(6, 54), (6, 56)] = true := by decide +kernel
set_option maxRecDepth 100000 in
theorem x76_ : inAt (rqM vwCl tMth tXn d76_.1.cls v76_) [(8, 160), (7, 206), (7, 207), (8, 155), (1, 15), (8, 152), (8, 154), (0, 108)] = true := by decide +kernel
set_option maxRecDepth 100000 in
theorem x77_ : inAt (rqM vwCl tMth tXn d77_.1.cls v77_) [(6, 111), (6, 114), (6, 56), (6, 63), (6, 62), (6, 64), (6, 120), (6, 59), (6, 57), (6, 58), (7, 201), (8, 138), (1, 15), (8, 135), (8, 137), (0, 107), (7, 108), (1, 15), (7, 105), (7, 107), (0, 48), (8, 155), (1, 15), (8, 152), (8, 154), (0, 108), (8, 90), (1, 15), (8, 88), (8, 89), (8, 159), (1, 15), (8, 156), (8, 158), (0, 109)] = true := by decide +kernel
set_option maxRecDepth 100000 in
theorem x78_ : inAt (rqM vwCl tMth tXn d78_.1.cls v78_) [(6, 111), (6, 65), (6, 66), (6, 87), (6, 86), (6, 88), (6, 98), (6, 99), (6, 100), (6, 130), (6, 105), (7, 124), (1, 15), (7, 121), (7, 123), (0, 50), (7, 108), (1, 15), (7, 105), (7, 107), (0, 48), (7, 140), (1, 15), (7, 137), (7, 139), (0, 54), (7, 144), (1, 15), (7, 141), (7, 143), (0, 55), (7, 219), (1, 15), (7, 216), (7, 218), (0, 73), (7, 128), (1, 15), (7, 125), (7, 127), (0, 51), (7, 164), (1, 15), (7, 161), (7, 163), (0, 60), (7, 211), (1, 15), (7, 208), (7, 210), (0, 71), (8, 63), (1, 15), (8, 60), (8, 62), (0, 91)] = true := by decide +kernel
set_option maxRecDepth 100000 in
theorem x79_ : inAt (rqM vwCl tMth tXn d79_.1.cls v79_) [(6, 111), (6, 65), (6, 66), (6, 87), (6, 86), (6, 88), (6, 123), (6, 133), (6, 136), (6, 124), (6, 129), (6, 146), (6, 126), (6, 145), (6, 77), (6, 147), (6, 143), (6, 144), (7, 124), (1, 15), (7, 121), (7, 123), (0, 50), (7, 108), (1, 15), (7, 105), (7, 107), (0, 48), (7, 140), (1, 15), (7, 137), (7, 139), (0, 54), (7, 227), (1, 15), (7, 224), (7, 226), (0, 75), (7, 128), (1, 15), (7, 125), (7, 127), (0, 51), (7, 164), (1, 15), (7, 161), (7, 163), (0, 60), (8, 23), (1, 15), (8, 20), (8, 22), (0, 84), (8, 27), (1, 15), (8, 24), (8, 26), (0, 85), (8, 71), (1, 15), (8, 68), (8, 70), (0, 93)] = true := by decide +kernel
set_option maxRecDepth 100000 in
theorem x80_ : inAt (rqM vwCl tMth tXn d80_.1.cls v80_) [(1, 221), (1, 220)] = true := by decide +kernel
set_option maxRecDepth 100000 in
theorem x81_ : inAt (rqM vwCl tMth tXn d81_.1.cls v81_) [(1, 221), (1, 220)] = true := by decide +kernel
set_option maxRecDepth 100000 in
theorem x82_ : inAt (rqM vwCl tMth tXn d82_.1.cls v82_) [] = true := by decide +kernel
set_option maxRecDepth 100000 in
theorem x83_ : inAt (rqM vwCl tMth tXn d83_.1.cls v83_) [] = true := by decide +kernel
set_option maxRecDepth 100000 in
theorem x84_ : inAt (rqM vwCl tMth tXn d84_.1.cls v84_) [] = true := by decide +kernel
set_option maxRecDepth 100000 in
theorem x85_ : inAt (rqM vwCl tMth tXn d85_.1.cls v85_) [] = true := by decide +kernel
set_option maxRecDepth 100000 in
theorem x86_ : inAt (rqM vwCl tMth tXn d86_.1.cls v86_) [(1, 64), (1, 71), (1, 73), (1, 68), (1, 75), (1, 80), (1, 87), (1, 60), (3, 89), (1, 10), (3, 87), (3, 88)] = true := by decide +kernel
set_option maxRecDepth 100000 in
theorem x87_ : inAt (rqM vwCl tMth tXn d87_.1.cls v87_) [(1, 68), (1, 52), (1, 58), (1, 55), (1, 60)] = true := by decide +kernel
set_option maxRecDepth 100000 in
theorem x88_ : inAt (rqM vwCl tMth tXn d88_.1.cls v88_) [] = true := by decide +kernel
set_option maxRecDepth 100000 in
theorem x89_ : inAt (rqM vwCl tMth tXn d89_.1.cls v89_) [] = true := by decide +kernel
set_option maxRecDepth 100000 in
theorem x90_ : inAt (rqM vwCl tMth tXn d90_.1.cls v90_) [] = true := by decide +kernel
set_option maxRecDepth 100000 in
theorem x91_ : inAt (rqM vwCl tMth tXn d91_.1.cls v91_) [] = true := by decide +kernel
set_option maxRecDepth 100000 in
theorem x92_ : inAt (rqM vwCl tMth tXn d92_.1.cls v92_) [(1, 235)] = true := by decide +kernel
set_option maxRecDepth 100000 in
theorem x93_ : inAt (rqM vwCl tMth tXn d93_.1.cls v93_) [(2, 5), (2, 8), (1, 236)] = true := by decide +kernel
set_option maxRecDepth 100000 in
theorem x94_ : inAt (rqM vwCl tMth tXn d94_.1.cls v94_) [(1, 239), (1, 238), (3, 50), (1, 5), (3, 47), (3, 49), (0, 0)] = true := by decide +kernel
set_option maxRecDepth 100000 in
theorem x95_ : inAt (rqM vwCl tMth tXn d95_.1.cls v95_) [(1, 233)] = true := by decide +kernel
set_option maxRecDepth 100000 in
theorem x96_ : inAt (rqM vwCl tMth tXn d96_.1.cls v96_) [(1, 233), (1, 231)] = true := by decide +kernel
set_option maxRecDepth 100000 in
theorem x97_ : inAt (rqM vwCl tMth tXn d97_.1.cls v97_) [(1, 238), (1, 233), (1, 231)] = true := by decide +kernel
set_option maxRecDepth 100000 in
theorem x98_ : inAt (rqM vwCl tMth tXn d98_.1.cls v98_) [(1, 238), (2, 1), (1, 233), (1, 231), (2, 0), (3, 78), (3, 77), (1, 5), (3, 75), (3, 76), (3, 70), (1, 5), (3, 67), (3, 69), (0, 1)] = true := by decide +kernel
set_option maxRecDepth 100000 in
theorem x99_ : inAt (rqM vwCl tMth tXn d99_.1.cls v99_) [(1, 238), (1, 233), (1, 231), (2, 2), (3, 152), (3, 147), (1, 5), (3, 145), (3, 146), (3, 70), (1, 5), (3, 67), (3, 69), (0, 1)] = true := by decide +kernel
set_option maxRecDepth 100000 in
theorem x100_ : inAt (rqM vwCl tMth tXn d100_.1.cls v100_) [(1, 236)] = true := by decide +kernel
set_option maxRecDepth 100000 in
theorem x101_ : inAt (rqM vwCl tMth tXn d101_.1.cls v101_) [(2, 5), (2, 3)] = true := by decide +kernel
set_option maxRecDepth 100000 in
theorem x102_ : inAt (rqM vwCl tMth tXn d102_.1.cls v102_) [(2, 4), (2, 5), (2, 3), (3, 108), (1, 5), (3, 105), (3, 107), (0, 7)] = true := by decide +kernel
set_option maxRecDepth 100000 in
theorem x103_ : inAt (rqM vwCl tMth tXn d103_.1.cls v103_) [(2, 8), (2, 6), (2, 1), (2, 7)] = true := by decide +kernel
set_option maxRecDepth 100000 in
theorem x104_ : inAt (rqM vwCl tMth tXn d104_.1.cls v104_) [(3, 128), (3, 129), (3, 130), (3, 131)] = true := by decide +kernel
set_option maxRecDepth 100000 in
theorem x105_ : inAt (rqM vwCl tMth tXn d105_.1.cls v105_) [(1, 165), (1, 176), (1, 170), (1, 177), (1, 172), (1, 178)] = true := by decide +kernel
set_option maxRecDepth 100000 in
theorem x106_ : inAt (rqM vwCl tMth tXn d106_.1.cls v106_) [(1, 170), (1, 177), (1, 172), (1, 178)] = true := by decide +kernel
set_option maxRecDepth 100000 in
theorem x107_ : inAt (rqM vwCl tMth tXn d107_.1.cls v107_) [(1, 165), (1, 152), (1, 154)] = true := by decide +kernel
set_option maxRecDepth 100000 in
theorem x108_ : inAt (rqM vwCl tMth tXn d108_.1.cls v108_) [(1, 165), (1, 152), (1, 154)] = true := by decide +kernel
set_option maxRecDepth 100000 in
theorem x109_ : inAt (rqM vwCl tMth tXn d109_.1.cls v109_) [(1, 161), (1, 61)] = true := by decide +kernel
set_option maxRecDepth 100000 in
theorem x110_ : inAt (rqM vwCl tMth tXn d110_.1.cls v110_) [(1, 170), (1, 159), (1, 77), (3, 187), (1, 2), (3, 184), (3, 186), (0, 15)] = true := by decide +kernel
set_option maxRecDepth 100000 in
theorem x111_ : inAt (rqM vwCl tMth tXn d111_.1.cls v111_) [(1, 170), (1, 159), (1, 77), (1, 61), (1, 161)] = true := by decide +kernel
set_option maxRecDepth 100000 in
theorem x112_ : inAt (rqM vwCl tMth tXn d112_.1.cls v112_) [(1, 170), (1, 159), (1, 161)] = true := by decide +kernel
set_option maxRecDepth 100000 in
theorem x113_ : inAt (rqM vwCl tMth tXn d113_.1.cls v113_) [(1, 163), (1, 164)] = true := by decide +kernel
set_option maxRecDepth 100000 in
theorem x114_ : inAt (rqM vwCl tMth tXn d114_.1.cls v114_) [(1, 137), (1, 132)] = true := by decide +kernel
set_option maxRecDepth 100000 in
theorem x115_ : inAt (rqM vwCl tMth tXn d115_.1.cls v115_) [(1, 228), (1, 72), (1, 69), (1, 79), (1, 239), (1, 74), (3, 163), (1, 2), (3, 160), (3, 161), (3, 162), (3, 167), (1, 2), (3, 164), (3, 165), (3, 166), (3, 70), (1, 5), (3, 67), (3, 69), (0, 1)] = true := by decide +kernel
set_option maxRecDepth 100000 in
theorem x116_ : inAt (rqM vwCl tMth tXn d116_.1.cls v116_) [(1, 229), (3, 144), (3, 143), (1, 6), (3, 140), (3, 141), (3, 142), (3, 116), (1, 4), (3, 113), (3, 114), (3, 115), (3, 70), (1, 5), (3, 67), (3, 69), (0, 1)] = true := by decide +kernel
set_option maxRecDepth 100000 in
theorem x117_ : inAt (rqM vwCl tMth tXn d117_.1.cls v117_) [(1, 238), (2, 0), (2, 2), (3, 54), (1, 5), (3, 63), (3, 52), (3, 53), (3, 66), (1, 5), (3, 64), (3, 65), (3, 74), (1, 5), (3, 71), (3, 73), (0, 2), (3, 139), (1, 5), (3, 136), (3, 138), (0, 12), (3, 147), (1, 5), (3, 145), (3, 146), (3, 70), (1, 5), (3, 67), (3, 69), (0, 1), (3, 151), (1, 5), (3, 148), (3, 150), (0, 13), (3, 116), (1, 4), (3, 113), (3, 114), (3, 115)] = true := by decide +kernel
set_option maxRecDepth 100000 in
theorem x118_ : inAt (rqM vwCl tMth tXn d118_.1.cls v118_) [(2, 0), (2, 1), (1, 67), (1, 236), (3, 104), (1, 5), (3, 101), (3, 103), (0, 6), (3, 70), (1, 5), (3, 67), (3, 69), (0, 1), (3, 112), (1, 5), (3, 109), (3, 111), (0, 8), (3, 116), (1, 4), (3, 113), (3, 114), (3, 115), (3, 120), (1, 5), (3, 117), (3, 119), (0, 9)] = true := by decide +kernel
set_option maxRecDepth 100000 in
theorem x119_ : inAt (rqM vwCl tMth tXn d119_.1.cls v119_) [(2, 4), (3, 108), (1, 5), (3, 105), (3, 107), (0, 7), (3, 112), (1, 5), (3, 109), (3, 111), (0, 8), (3, 70), (1, 5), (3, 67), (3, 69), (0, 1), (3, 116), (1, 4), (3, 113), (3, 114), (3, 115)] = true := by decide +kernel
set_option maxRecDepth 100000 in
theorem x120_ : inAt (rqM vwCl tMth tXn d120_.1.cls v120_) [(2, 0), (2, 1), (3, 54), (1, 5), (3, 63), (3, 52), (3, 53), (3, 96), (1, 5), (3, 94), (3, 95), (3, 135), (1, 5), (3, 132), (3, 134), (0, 11), (3, 74), (1, 5), (3, 71), (3, 73), (0, 2), (3, 223), (1, 5), (3, 220), (3, 222), (0, 19)] = true := by decide +kernel
set_option maxRecDepth 100000 in
theorem x121_ : inAt (rqM vwCl tMth tXn d121_.1.cls v121_) [(1, 90), (1, 238), (1, 69), (1, 92), (2, 0), (2, 1), (1, 95), (1, 94), (3, 70), (1, 5), (3, 67), (3, 69), (0, 1), (3, 116), (1, 4), (3, 113), (3, 114), (3, 115), (3, 54), (1, 5), (3, 63), (3, 52), (3, 53), (3, 66), (1, 5), (3, 64), (3, 65), (3, 74), (1, 5), (3, 71), (3, 73), (0, 2), (3, 127), (1, 5), (3, 125), (3, 126), (3, 96), (1, 5), (3, 94), (3, 95), (3, 104), (1, 5), (3, 101), (3, 103), (0, 6)] = true := by decide +kernel
set_option maxRecDepth 100000 in
theorem x122_ : inAt (rqM vwCl tMth tXn d122_.1.cls v122_) [(1, 67), (1, 238), (3, 54), (1, 5), (3, 63), (3, 52), (3, 53), (3, 96), (1, 5), (3, 94), (3, 95), (3, 74), (1, 5), (3, 71), (3, 73), (0, 2), (3, 100), (1, 5), (3, 97), (3, 99), (0, 5), (3, 124), (1, 5), (3, 121), (3, 123), (0, 10), (3, 116), (1, 4), (3, 113), (3, 114), (3, 115), (3, 135), (1, 5), (3, 132), (3, 134), (0, 11)] = true := by decide +kernel
set_option maxRecDepth 100000 in
theorem x123_ : inAt (rqM vwCl tMth tXn d123_.1.cls v123_) [(1, 53), (1, 56)] = true := by decide +kernel
set_option maxRecDepth 100000 in
theorem x124_ : inAt (rqM vwCl tMth tXn d124_.1.cls v124_) [(2, 0), (2, 1), (1, 236), (1, 238), (1, 82), (3, 86), (1, 4), (3, 83), (3, 84), (3, 85), (3, 54), (1, 5), (3, 63), (3, 52), (3, 53), (3, 70), (1, 5), (3, 67), (3, 69), (0, 1), (3, 93), (1, 5), (3, 90), (3, 92), (0, 4), (3, 155), (1, 5), (3, 153), (3, 154), (3, 159), (1, 5), (3, 156), (3, 158), (0, 14)] = true := by decide +kernel
set_option maxRecDepth 100000 in
theorem x125_ : inAt (rqM vwCl tMth tXn d125_.1.cls v125_) [(1, 139), (1, 142), (1, 238), (1, 135), (3, 50), (1, 5), (3, 47), (3, 49), (0, 0), (3, 54), (1, 5), (3, 63), (3, 52), (3, 53), (3, 66), (1, 5), (3, 64), (3, 65), (3, 70), (1, 5), (3, 67), (3, 69), (0, 1), (3, 74), (1, 5), (3, 71), (3, 73), (0, 2), (3, 82), (1, 5), (3, 79), (3, 81), (0, 3)] = true := by decide +kernel
set_option maxRecDepth 100000 in
theorem x126_ : inAt (rqM vwCl tMth tXn d126_.1.cls v126_) [(1, 69), (1, 53), (1, 59), (3, 70), (1, 5), (3, 67), (3, 69), (0, 1)] = true := by decide +kernel
set_option maxRecDepth 100000 in
theorem x127_ : inAt (rqM vwCl tMth tXn d127_.1.cls v127_) [(1, 238), (3, 54), (1, 5), (3, 63), (3, 52), (3, 53), (3, 70), (1, 5), (3, 67), (3, 69), (0, 1), (3, 179), (1, 5), (3, 176), (3, 177), (3, 178)] = true := by decide +kernel
set_option maxRecDepth 100000 in
theorem x128_ : inAt (rqM vwCl tMth tXn d128_.1.cls v128_) [(1, 238), (3, 54), (1, 5), (3, 63), (3, 52), (3, 53), (3, 70), (1, 5), (3, 67), (3, 69), (0, 1)] = true := by decide +kernel
set_option maxRecDepth 100000 in
theorem x129_ : inAt (rqM vwCl tMth tXn d129_.1.cls v129_) [(1, 228), (1, 74), (3, 175), (1, 5), (3, 172), (3, 173), (3, 174), (3, 183), (1, 2), (3, 180), (3, 181), (3, 182), (3, 191), (1, 2), (3, 188), (3, 189), (3, 190), (3, 70), (1, 5), (3, 67), (3, 69), (0, 1)] = true := by decide +kernel
set_option maxRecDepth 100000 in
theorem x130_ : inAt (rqM vwCl tMth tXn d130_.1.cls v130_) [(1, 238), (1, 233), (1, 231), (1, 228), (1, 175), (1, 74), (3, 54), (1, 5), (3, 63), (3, 52), (3, 53), (3, 70), (1, 5), (3, 67), (3, 69), (0, 1)] = true := by decide +kernel
set_option maxRecDepth 100000 in
theorem x131_ : inAt (rqM vwCl tMth tXn d131_.1.cls v131_) [(2, 8), (2, 4), (2, 7), (2, 6), (3, 70), (1, 5), (3, 67), (3, 69), (0, 1)] = true := by decide +kernel
set_option maxRecDepth 100000 in
theorem x132_ : inAt (rqM vwCl tMth tXn d132_.1.cls v132_) [(1, 69), (1, 53), (1, 56), (1, 59), (1, 90), (1, 94), (1, 95), (3, 112), (1, 5), (3, 109), (3, 111), (0, 8), (3, 70), (1, 5), (3, 67), (3, 69), (0, 1)] = true := by decide +kernel
set_option maxRecDepth 100000 in
theorem x133_ : inAt (rqM vwCl tMth tXn d133_.1.cls v133_) [(1, 238), (1, 67), (1, 233), (1, 231), (3, 54), (1, 5), (3, 63), (3, 52), (3, 53), (3, 70), (1, 5), (3, 67), (3, 69), (0, 1)] = true := by decide +kernel
set_option maxRecDepth 100000 in
theorem x134_ : inAt (rqM vwCl tMth tXn d134_.1.cls v134_) [(3, 86), (1, 4), (3, 83), (3, 84), (3, 85), (3, 231), (1, 5), (3, 228), (3, 230), (0, 21), (3, 223), (1, 5), (3, 220), (3, 222), (0, 19), (3, 219), (1, 5), (3, 216), (3, 218), (0, 18)] = true := by decide +kernel
set_option maxRecDepth 100000 in
theorem x135_ : inAt (rqM vwCl tMth tXn d135_.1.cls v135_) [(2, 0), (2, 1), (1, 86), (1, 238), (1, 67), (1, 236), (3, 215), (3, 74), (1, 5), (3, 71), (3, 73), (0, 2), (3, 70), (1, 5), (3, 67), (3, 69), (0, 1), (3, 86), (1, 4), (3, 83), (3, 84), (3, 85), (3, 104), (1, 5), (3, 101), (3, 103), (0, 6), (3, 112), (1, 5), (3, 109), (3, 111), (0, 8), (3, 219), (1, 5), (3, 216), (3, 218), (0, 18), (3, 54), (1, 5), (3, 63), (3, 52), (3, 53)] = true := by decide +kernel
set_option maxRecDepth 100000 in
theorem x136_ : inAt (rqM vwCl tMth tXn d136_.1.cls v136_) [(1, 238), (2, 0), (2, 2), (3, 54), (1, 5), (3, 63), (3, 52), (3, 53), (3, 66), (1, 5), (3, 64), (3, 65), (3, 70), (1, 5), (3, 67), (3, 69), (0, 1), (3, 74), (1, 5), (3, 71), (3, 73), (0, 2), (3, 82), (1, 5), (3, 79), (3, 81), (0, 3), (3, 96), (1, 5), (3, 94), (3, 95), (3, 214), (1, 5), (3, 211), (3, 213), (0, 17), (3, 227), (1, 5), (3, 224), (3, 226), (0, 20), (3, 86), (1, 4), (3, 83), (3, 84), (3, 85), (3, 139), (1, 5), (3, 136), (3, 138), (0, 12), (3, 231), (1, 5), (3, 228), (3, 230), (0, 21), (3, 219), (1, 5), (3, 216), (3, 218), (0, 18), (3, 147), (1, 5), (3, 145), (3, 146), (3, 151), (1, 5), (3, 148), (3, 150), (0, 13), (3, 116), (1, 4), (3, 113), (3, 114), (3, 115)] = true := by decide +kernel
set_option maxRecDepth 100000 in
theorem x137_ : inAt (rqM vwCl tMth tXn d137_.1.cls v137_) [(1, 239), (1, 139), (1, 142), (1, 67), (1, 84), (1, 238), (1, 135), (3, 206), (1, 3), (3, 203), (3, 204), (3, 205), (3, 210), (1, 5), (3, 207), (3, 209), (0, 16), (3, 54), (1, 5), (3, 63), (3, 52), (3, 53), (3, 235), (1, 5), (3, 232), (3, 234), (0, 22), (3, 239), (1, 5), (3, 236), (3, 238), (0, 23), (3, 70), (1, 5), (3, 67), (3, 69), (0, 1)] = true := by decide +kernel
set_option maxRecDepth 100000 in
theorem x138_ : inAt (rqM vwCl tMth tXn d138_.1.cls v138_) [(1, 172)] = true := by decide +kernel
set_option maxRecDepth 100000 in
theorem x139_ : inAt (rqM vwCl tMth tXn d139_.1.cls v139_) [(1, 176), (1, 165), (1, 177), (1, 170), (1, 178), (1, 172)] = true := by decide +kernel
set_option maxRecDepth 100000 in
theorem x140_ : inAt (rqM vwCl tMth tXn d140_.1.cls v140_) [(2, 170), (2, 172)] = true := by decide +kernel
set_option maxRecDepth 100000 in
theorem x141_ : inAt (rqM vwCl tMth tXn d141_.1.cls v141_) [(3, 11), (3, 9), (4, 23), (1, 13), (4, 20), (4, 21), (4, 22)] = true := by decide +kernel
set_option maxRecDepth 100000 in
theorem x142_ : inAt (rqM vwCl tMth tXn d142_.1.cls v142_) [(3, 5), (1, 232), (4, 114), (1, 5), (4, 111), (4, 112), (4, 113), (4, 46), (1, 19), (1, 16), (4, 68), (4, 77), (4, 83), (4, 86), (4, 88), (4, 69), (4, 70), (1, 31), (1, 32), (4, 71), (4, 76), (4, 84), (4, 100), (4, 58), (4, 101), (4, 60), (4, 102), (4, 62), (4, 72), (4, 74), (4, 64), (4, 90), (4, 91), (4, 92), (4, 93), (4, 93), (4, 94), (4, 95), (4, 96), (4, 96), (4, 97), (4, 98), (4, 69), (4, 89), (4, 47), (4, 55), (4, 56), (4, 57), (4, 59), (4, 61), (4, 63), (4, 67), (4, 66), (4, 65)] = true := by decide +kernel
set_option maxRecDepth 100000 in
theorem x143_ : inAt (rqM vwCl tMth tXn d143_.1.cls v143_) [(3, 5), (1, 232), (4, 123), (1, 20), (1, 16), (4, 68), (4, 77), (4, 83), (4, 86), (4, 88), (4, 69), (4, 70), (1, 31), (1, 32), (4, 71), (4, 76), (4, 84), (4, 100), (4, 58), (4, 101), (4, 60), (4, 102), (4, 62), (4, 72), (4, 74), (4, 64), (4, 133), (4, 134), (4, 135), (4, 93), (4, 93), (4, 94), (4, 95), (4, 96), (4, 96), (4, 97), (4, 98), (4, 69), (4, 132), (4, 124), (4, 126), (4, 80), (4, 127), (4, 128), (4, 129), (4, 130), (4, 67), (4, 66), (4, 131)] = true := by decide +kernel
set_option maxRecDepth 100000 in
theorem x144_ : inAt (rqM vwCl tMth tXn d144_.1.cls v144_) [(3, 4), (3, 5), (1, 173), (1, 133), (1, 234), (3, 42), (1, 2), (3, 39), (3, 40), (3, 41), (3, 46), (1, 5), (3, 43), (3, 44), (3, 45), (3, 54), (1, 5), (3, 51), (3, 52), (3, 53), (3, 58), (1, 2), (3, 55), (3, 56), (3, 57), (3, 62), (1, 5), (3, 59), (3, 60), (3, 61), (3, 171), (1, 5), (3, 168), (3, 169), (3, 170), (3, 198), (1, 5), (3, 195), (3, 196), (3, 197), (3, 202), (1, 5), (3, 199), (3, 200), (3, 201), (4, 3), (1, 2), (4, 0), (4, 1), (4, 2), (4, 7), (1, 5), (4, 4), (4, 5), (4, 6), (4, 11), (1, 2), (4, 8), (4, 9), (4, 10), (4, 15), (1, 2), (4, 12), (4, 13), (4, 14), (4, 19), (1, 1), (4, 16), (4, 18), (0, 24)] = true := by decide +kernel
set_option maxRecDepth 100000 in
theorem x145_ : inAt (rqM vwCl tMth tXn d145_.1.cls v145_) [(3, 4), (1, 173), (3, 5), (1, 133), (1, 234), (3, 58), (1, 2), (3, 55), (3, 56), (3, 57), (3, 46), (1, 5), (3, 43), (3, 44), (3, 45), (3, 62), (1, 5), (3, 59), (3, 60), (3, 61), (3, 175), (1, 5), (4, 28), (3, 173), (3, 174), (4, 32), (1, 5), (4, 29), (4, 30), (4, 31), (4, 7), (1, 5), (4, 4), (4, 5), (4, 6), (3, 183), (1, 2), (4, 33), (3, 181), (3, 182), (4, 37), (1, 2), (4, 34), (4, 35), (4, 36), (4, 19), (1, 1), (4, 16), (4, 18), (0, 24)] = true := by decide +kernel
set_option maxRecDepth 100000 in
theorem x146_ : inAt (rqM vwCl tMth tXn d146_.1.cls v146_) [(1, 172), (1, 163), (3, 58), (1, 2), (4, 149), (3, 56), (3, 57)] = true := by decide +kernel
set_option maxRecDepth 100000 in
theorem x147_ : inAt (rqM vwCl tMth tXn d147_.1.cls v147_) [(3, 4), (1, 173), (4, 148), (1, 2), (4, 145), (4, 146), (4, 147), (4, 19), (1, 1), (4, 16), (4, 18), (0, 24), (4, 46), (1, 19), (1, 16), (4, 68), (4, 77), (4, 83), (4, 86), (4, 88), (4, 69), (4, 70), (1, 31), (1, 32), (4, 71), (4, 76), (4, 84), (4, 100), (4, 58), (4, 101), (4, 60), (4, 102), (4, 62), (4, 72), (4, 74), (4, 64), (4, 90), (4, 91), (4, 92), (4, 93), (4, 93), (4, 94), (4, 95), (4, 96), (4, 96), (4, 97), (4, 98), (4, 69), (4, 89), (4, 47), (4, 55), (4, 56), (4, 57), (4, 59), (4, 61), (4, 63), (4, 67), (4, 66), (4, 65)] = true := by decide +kernel
set_option maxRecDepth 100000 in
theorem x148_ : inAt (rqM vwCl tMth tXn d148_.1.cls v148_) [(3, 11), (5, 170), (1, 24), (1, 16), (4, 68), (4, 77), (4, 83), (4, 86), (4, 88), (4, 69), (4, 70), (1, 31), (1, 32), (4, 71), (4, 76), (4, 84), (4, 100), (4, 58), (4, 101), (4, 60), (4, 102), (4, 62), (4, 72), (4, 74), (4, 64), (5, 180), (5, 181), (5, 182), (4, 93), (4, 93), (4, 94), (4, 95), (4, 96), (4, 96), (4, 97), (4, 98), (4, 69), (5, 179), (5, 171), (5, 173), (4, 81), (5, 174), (5, 175), (5, 176), (5, 177), (4, 67), (4, 66), (5, 178)] = true := by decide +kernel
set_option maxRecDepth 100000 in
theorem x149_ : inAt (rqM vwCl tMth tXn d149_.1.cls v149_) [(3, 6), (2, 100), (5, 169), (1, 1), (5, 166), (5, 168), (0, 47), (4, 46), (1, 19), (1, 16), (4, 68), (4, 77), (4, 83), (4, 86), (4, 88), (4, 69), (4, 70), (1, 31), (1, 32), (4, 71), (4, 76), (4, 84), (4, 100), (4, 58), (4, 101), (4, 60), (4, 102), (4, 62), (4, 72), (4, 74), (4, 64), (4, 90), (4, 91), (4, 92), (4, 93), (4, 93), (4, 94), (4, 95), (4, 96), (4, 96), (4, 97), (4, 98), (4, 69), (4, 89), (4, 47), (4, 55), (4, 56), (4, 57), (4, 59), (4, 61), (4, 63), (4, 67), (4, 66), (4, 65)] = true := by decide +kernel
set_option maxRecDepth 100000 in
theorem x150_ : inAt (rqM vwCl tMth tXn d150_.1.cls v150_) [(5, 67)] = true := by decide +kernel
set_option maxRecDepth 100000 in
theorem x151_ : inAt (rqM vwCl tMth tXn d151_.1.cls v151_) [(5, 189), (5, 67), (5, 66), (1, 1), (5, 188), (5, 65)] = true := by decide +kernel
set_option maxRecDepth 100000 in
theorem x152_ : inAt (rqM vwCl tMth tXn d152_.1.cls v152_) [(3, 6), (2, 83), (3, 4), (1, 158), (2, 86), (2, 88), (2, 93), (1, 155), (2, 80), (5, 190), (5, 165), (1, 1), (5, 162), (5, 164), (0, 46), (5, 187), (1, 1), (5, 185), (5, 186), (4, 123), (1, 20), (1, 16), (4, 68), (4, 77), (4, 83), (4, 86), (4, 88), (4, 69), (4, 70), (1, 31), (1, 32), (4, 71), (4, 76), (4, 84), (4, 100), (4, 58), (4, 101), (4, 60), (4, 102), (4, 62), (4, 72), (4, 74), (4, 64), (4, 133), (4, 134), (4, 135), (4, 93), (4, 93), (4, 94), (4, 95), (4, 96), (4, 96), (4, 97), (4, 98), (4, 69), (4, 132), (4, 124), (4, 126), (4, 80), (4, 127), (4, 128), (4, 129), (4, 130), (4, 67), (4, 66), (4, 131)] = true := by decide +kernel
set_option maxRecDepth 100000 in
theorem x153_ : inAt (rqM vwCl tMth tXn d153_.1.cls v153_) [(3, 6), (2, 93), (2, 90), (5, 165), (1, 1), (5, 162), (5, 164), (0, 46), (4, 46), (1, 19), (1, 16), (4, 68), (4, 77), (4, 83), (4, 86), (4, 88), (4, 69), (4, 70), (1, 31), (1, 32), (4, 71), (4, 76), (4, 84), (4, 100), (4, 58), (4, 101), (4, 60), (4, 102), (4, 62), (4, 72), (4, 74), (4, 64), (4, 90), (4, 91), (4, 92), (4, 93), (4, 93), (4, 94), (4, 95), (4, 96), (4, 96), (4, 97), (4, 98), (4, 69), (4, 89), (4, 47), (4, 55), (4, 56), (4, 57), (4, 59), (4, 61), (4, 63), (4, 67), (4, 66), (4, 65)] = true := by decide +kernel
set_option maxRecDepth 100000 in
theorem x154_ : inAt (rqM vwCl tMth tXn d154_.1.cls v154_) [(3, 9), (2, 171), (2, 173), (2, 169), (2, 59), (1, 9), (6, 18), (2, 58), (5, 187), (1, 1), (5, 185), (5, 186), (4, 46), (1, 19), (1, 16), (4, 68), (4, 77), (4, 83), (4, 86), (4, 88), (4, 69), (4, 70), (1, 31), (1, 32), (4, 71), (4, 76), (4, 84), (4, 100), (4, 58), (4, 101), (4, 60), (4, 102), (4, 62), (4, 72), (4, 74), (4, 64), (4, 90), (4, 91), (4, 92), (4, 93), (4, 93), (4, 94), (4, 95), (4, 96), (4, 96), (4, 97), (4, 98), (4, 69), (4, 89), (4, 47), (4, 55), (4, 56), (4, 57), (4, 59), (4, 61), (4, 63), (4, 67), (4, 66), (4, 65), (4, 46), (1, 19), (1, 16), (4, 68), (4, 77), (4, 83), (4, 86), (4, 88), (4, 69), (4, 70), (1, 31), (1, 32), (4, 71), (4, 76), (4, 84), (4, 100), (4, 58), (4, 101), (4, 60), (4, 102), (4, 62), (4, 72), (4, 74), (4, 64), (4, 90), (4, 91), (4, 92), (4, 93), (4, 93), (4, 94), (4, 95), (4, 96), (4, 96), (4, 97), (4, 98), (4, 69), (4, 89), (4, 47), (4, 55), (4, 56), (4, 57), (4, 59), (4, 61), (4, 63), (4, 67), (4, 66), (4, 65)] = true := by decide +kernel
set_option maxRecDepth 100000 in
theorem x155_ : inAt (rqM vwCl tMth tXn d155_.1.cls v155_) [(3, 4), (1, 166), (1, 158), (5, 169), (1, 1), (5, 166), (5, 168), (0, 47), (4, 46), (1, 19), (1, 16), (4, 68), (4, 77), (4, 83), (4, 86), (4, 88), (4, 69), (4, 70), (1, 31), (1, 32), (4, 71), (4, 76), (4, 84), (4, 100), (4, 58), (4, 101), (4, 60), (4, 102), (4, 62), (4, 72), (4, 74), (4, 64), (4, 90), (4, 91), (4, 92), (4, 93), (4, 93), (4, 94), (4, 95), (4, 96), (4, 96), (4, 97), (4, 98), (4, 69), (4, 89), (4, 47), (4, 55), (4, 56), (4, 57), (4, 59), (4, 61), (4, 63), (4, 67), (4, 66), (4, 65)] = true := by decide +kernel
set_option maxRecDepth 100000 in
theorem x156_ : inAt (rqM vwCl tMth tXn d156_.1.cls v156_) [(3, 8), (2, 236), (2, 234), (4, 46), (1, 19), (1, 16), (4, 68), (4, 77), (4, 83), (4, 86), (4, 88), (4, 69), (4, 70), (1, 31), (1, 32), (4, 71), (4, 76), (4, 84), (4, 100), (4, 58), (4, 101), (4, 60), (4, 102), (4, 62), (4, 72), (4, 74), (4, 64), (4, 90), (4, 91), (4, 92), (4, 93), (4, 93), (4, 94), (4, 95), (4, 96), (4, 96), (4, 97), (4, 98), (4, 69), (4, 89), (4, 47), (4, 55), (4, 56), (4, 57), (4, 59), (4, 61), (4, 63), (4, 67), (4, 66), (4, 65)] = true := by decide +kernel
set_option maxRecDepth 100000 in
theorem x157_ : inAt (rqM vwCl tMth tXn d157_.1.cls v157_) [(3, 5), (1, 232), (3, 8), (2, 236), (3, 4), (1, 173), (1, 171), (1, 166), (3, 11), (3, 6), (2, 100), (3, 12), (3, 13), (1, 167), (1, 230), (1, 222), (4, 123), (1, 20), (1, 16), (4, 68), (4, 77), (4, 83), (4, 86), (4, 88), (4, 69), (4, 70), (1, 31), (1, 32), (4, 71), (4, 76), (4, 84), (4, 100), (4, 58), (4, 101), (4, 60), (4, 102), (4, 62), (4, 72), (4, 74), (4, 64), (4, 133), (4, 134), (4, 135), (4, 93), (4, 93), (4, 94), (4, 95), (4, 96), (4, 96), (4, 97), (4, 98), (4, 69), (4, 132), (4, 124), (4, 126), (4, 80), (4, 127), (4, 128), (4, 129), (4, 130), (4, 67), (4, 66), (4, 131)] = true := by decide +kernel
set_option maxRecDepth 100000 in
theorem x158_ : inAt (rqM vwCl tMth tXn d158_.1.cls v158_) [(2, 235)] = true := by decide +kernel
set_option maxRecDepth 100000 in
theorem x159_ : inAt (rqM vwCl tMth tXn d159_.1.cls v159_) [(2, 235), (2, 233)] = true := by decide +kernel
set_option maxRecDepth 100000 in
theorem x160_ : inAt (rqM vwCl tMth tXn d160_.1.cls v160_) [] = true := by decide +kernel
set_option maxRecDepth 100000 in
theorem x161_ : inAt (rqM vwCl tMth tXn d161_.1.cls v161_) [(5, 213), (5, 216), (1, 14), (5, 214), (5, 215), (5, 220), (1, 14), (5, 217), (5, 218), (5, 219)] = true := by decide +kernel
set_option maxRecDepth 100000 in
theorem x162_ : inAt (rqM vwCl tMth tXn d162_.1.cls v162_) [(5, 226), (5, 220), (1, 14), (5, 217), (5, 218), (5, 219)] = true := by decide +kernel
set_option maxRecDepth 100000 in
theorem x163_ : inAt (rqM vwCl tMth tXn d163_.1.cls v163_) [(3, 6), (2, 83), (3, 8), (3, 4), (1, 153), (1, 155), (2, 80), (3, 5), (1, 230), (2, 236), (5, 67), (5, 165), (1, 1), (5, 162), (5, 164), (0, 46), (5, 208), (1, 14), (5, 205), (5, 206), (5, 207), (5, 212), (1, 14), (5, 209), (5, 210), (5, 211), (5, 220), (1, 14), (5, 221), (5, 218), (5, 219), (5, 66), (1, 1), (5, 188), (5, 65), (5, 225), (1, 14), (5, 222), (5, 223), (5, 224), (5, 230), (1, 6), (5, 227), (5, 228), (5, 229)] = true := by decide +kernel
set_option maxRecDepth 100000 in
theorem x164_ : inAt (rqM vwCl tMth tXn d164_.1.cls v164_) [(2, 67), (2, 65), (1, 10), (2, 63), (2, 64)] = true := by decide +kernel
set_option maxRecDepth 100000 in
theorem x165_ : inAt (rqM vwCl tMth tXn d165_.1.cls v165_) [(2, 66), (2, 67), (4, 219)] = true := by decide +kernel
set_option maxRecDepth 100000 in
theorem x166_ : inAt (rqM vwCl tMth tXn d166_.1.cls v166_) [(2, 69)] = true := by decide +kernel
set_option maxRecDepth 100000 in
theorem x167_ : inAt (rqM vwCl tMth tXn d167_.1.cls v167_) [(2, 66), (2, 67), (2, 69), (2, 68), (4, 219)] = true := by decide +kernel
set_option maxRecDepth 100000 in
theorem x168_ : inAt (rqM vwCl tMth tXn d168_.1.cls v168_) [(2, 98), (2, 101), (2, 102), (2, 103), (4, 196), (1, 8), (4, 193), (4, 194), (4, 195)] = true := by decide +kernel
set_option maxRecDepth 100000 in
theorem x169_ : inAt (rqM vwCl tMth tXn d169_.1.cls v169_) [(2, 95), (4, 214)] = true := by decide +kernel
set_option maxRecDepth 100000 in
theorem x170_ : inAt (rqM vwCl tMth tXn d170_.1.cls v170_) [(4, 214)] = true := by decide +kernel
set_option maxRecDepth 100000 in
theorem x171_ : inAt (rqM vwCl tMth tXn d171_.1.cls v171_) [(2, 79), (2, 95)] = true := by decide +kernel
set_option maxRecDepth 100000 in
theorem x172_ : inAt (rqM vwCl tMth tXn d172_.1.cls v172_) [(2, 103), (2, 82), (4, 213), (1, 7), (4, 210), (4, 212), (0, 28), (4, 218), (1, 8), (4, 215), (4, 216), (4, 217), (4, 223), (1, 7), (4, 220), (4, 222), (0, 29), (4, 227), (1, 8), (4, 224), (4, 225), (4, 226)] = true := by decide +kernel
set_option maxRecDepth 100000 in
theorem x173_ : inAt (rqM vwCl tMth tXn d173_.1.cls v173_) [(2, 98), (2, 82), (2, 85), (2, 87), (2, 92), (2, 101), (2, 103), (2, 79), (2, 95), (2, 102), (4, 235), (1, 8), (4, 232), (4, 233), (4, 234), (4, 213), (1, 7), (4, 210), (4, 212), (0, 28), (4, 238), (1, 7), (4, 236), (4, 237)] = true := by decide +kernel
set_option maxRecDepth 100000 in
theorem x174_ : inAt (rqM vwCl tMth tXn d174_.1.cls v174_) [(2, 101), (2, 98), (2, 82), (4, 218), (1, 8), (4, 215), (4, 216), (4, 217)] = true := by decide +kernel
set_option maxRecDepth 100000 in
theorem x175_ : inAt (rqM vwCl tMth tXn d175_.1.cls v175_) [(2, 101), (4, 227), (1, 8), (4, 224), (4, 225), (4, 226)] = true := by decide +kernel
set_option maxRecDepth 100000 in
theorem x176_ : inAt (rqM vwCl tMth tXn d176_.1.cls v176_) [(2, 102), (4, 227), (1, 8), (4, 224), (4, 225), (4, 226)] = true := by decide +kernel
set_option maxRecDepth 100000 in
theorem x177_ : inAt (rqM vwCl tMth tXn d177_.1.cls v177_) [(2, 102), (4, 238), (1, 7), (4, 236), (4, 237), (4, 218), (1, 8), (4, 215), (4, 216), (4, 217), (5, 98), (1, 7), (5, 95), (5, 97), (0, 39)] = true := by decide +kernel
set_option maxRecDepth 100000 in
theorem x178_ : inAt (rqM vwCl tMth tXn d178_.1.cls v178_) [(2, 102), (4, 227), (1, 8), (4, 224), (4, 225), (4, 226), (5, 98), (1, 7), (5, 95), (5, 97), (0, 39)] = true := by decide +kernel
set_option maxRecDepth 100000 in
theorem x179_ : inAt (rqM vwCl tMth tXn d179_.1.cls v179_) [(2, 147), (2, 149), (4, 196), (1, 8), (5, 18), (4, 194), (4, 195)] = true := by decide +kernel
set_option maxRecDepth 100000 in
theorem x180_ : inAt (rqM vwCl tMth tXn d180_.1.cls v180_) [(5, 47)] = true := by decide +kernel
set_option maxRecDepth 100000 in
theorem x181_ : inAt (rqM vwCl tMth tXn d181_.1.cls v181_) [(2, 141)] = true := by decide +kernel
set_option maxRecDepth 100000 in
theorem x182_ : inAt (rqM vwCl tMth tXn d182_.1.cls v182_) [(2, 149), (2, 147), (2, 141), (2, 143), (2, 145), (5, 46), (1, 12), (5, 44), (5, 45), (4, 218), (1, 8), (5, 48), (4, 216), (4, 217), (5, 52), (1, 12), (5, 49), (5, 51), (0, 36), (4, 227), (1, 8), (5, 53), (4, 225), (4, 226), (4, 235), (1, 8), (5, 55), (4, 233), (4, 234)] = true := by decide +kernel
set_option maxRecDepth 100000 in
theorem x183_ : inAt (rqM vwCl tMth tXn d183_.1.cls v183_) [(2, 143), (2, 145)] = true := by decide +kernel
set_option maxRecDepth 100000 in
theorem x184_ : inAt (rqM vwCl tMth tXn d184_.1.cls v184_) [(2, 145), (2, 143), (5, 66), (1, 1), (5, 65)] = true := by decide +kernel
set_option maxRecDepth 100000 in
theorem x185_ : inAt (rqM vwCl tMth tXn d185_.1.cls v185_) [(2, 143), (2, 145), (5, 66), (1, 1), (5, 65), (2, 59), (1, 9), (5, 72), (2, 58)] = true := by decide +kernel
set_option maxRecDepth 100000 in
theorem x186_ : inAt (rqM vwCl tMth tXn d186_.1.cls v186_) [(2, 143), (2, 145), (5, 66), (1, 1), (5, 65), (2, 62), (1, 9), (5, 77), (2, 61)] = true := by decide +kernel
set_option maxRecDepth 100000 in
theorem x187_ : inAt (rqM vwCl tMth tXn d187_.1.cls v187_) [(3, 11), (3, 5), (3, 4), (1, 173), (1, 133), (1, 234), (1, 78), (3, 6), (2, 97), (1, 62), (4, 7), (1, 5), (4, 4), (4, 5), (4, 6), (3, 58), (1, 2), (3, 55), (3, 56), (3, 57), (3, 46), (1, 5), (3, 43), (3, 44), (3, 45), (3, 62), (1, 5), (3, 59), (3, 60), (3, 61), (3, 179), (1, 5), (5, 238), (3, 177), (3, 178), (4, 32), (1, 5), (4, 29), (4, 30), (4, 31), (4, 209), (1, 7), (5, 239), (4, 207), (4, 208), (5, 170), (1, 24), (1, 16), (4, 68), (4, 77), (4, 83), (4, 86), (4, 88), (4, 69), (4, 70), (1, 31), (1, 32), (4, 71), (4, 76), (4, 84), (4, 100), (4, 58), (4, 101), (4, 60), (4, 102), (4, 62), (4, 72), (4, 74), (4, 64), (5, 180), (5, 181), (5, 182), (4, 93), (4, 93), (4, 94), (4, 95), (4, 96), (4, 96), (4, 97), (4, 98), (4, 69), (5, 179), (5, 171), (5, 173), (4, 81), (5, 174), (5, 175), (5, 176), (5, 177), (4, 67), (4, 66), (5, 178)] = true := by decide +kernel
set_option maxRecDepth 100000 in
theorem x188_ : inAt (rqM vwCl tMth tXn d188_.1.cls v188_) [(1, 140), (1, 66), (1, 136), (1, 89), (1, 156), (1, 77), (3, 206), (1, 3), (4, 168), (3, 204), (3, 205), (2, 62), (1, 9), (4, 169), (2, 61)] = true := by decide +kernel
set_option maxRecDepth 100000 in
theorem x189_ : inAt (rqM vwCl tMth tXn d189_.1.cls v189_) [(1, 156), (1, 172), (1, 165), (1, 136), (1, 77), (1, 168), (2, 65), (1, 10), (4, 163), (2, 64), (3, 58), (1, 2), (4, 149), (3, 56), (3, 57), (4, 167), (1, 2), (4, 164), (4, 166), (0, 26), (2, 62), (1, 9), (4, 169), (2, 61)] = true := by decide +kernel
set_option maxRecDepth 100000 in
theorem x190_ : inAt (rqM vwCl tMth tXn d190_.1.cls v190_) [(1, 54), (2, 188), (1, 57), (1, 63)] = true := by decide +kernel
set_option maxRecDepth 100000 in
theorem x191_ : inAt (rqM vwCl tMth tXn d191_.1.cls v191_) [(2, 186), (2, 84), (1, 76), (1, 70), (2, 81), (1, 54), (2, 188), (1, 57), (5, 35), (1, 11), (5, 32), (5, 34), (0, 34)] = true := by decide +kernel
set_option maxRecDepth 100000 in
theorem x192_ : inAt (rqM vwCl tMth tXn d192_.1.cls v192_) [(1, 81), (2, 186), (1, 76), (5, 90), (1, 7), (5, 87), (5, 88), (5, 89), (5, 35), (1, 11), (5, 32), (5, 34), (0, 34), (5, 94), (1, 7), (5, 91), (5, 92), (5, 93)] = true := by decide +kernel
set_option maxRecDepth 100000 in
theorem x193_ : inAt (rqM vwCl tMth tXn d193_.1.cls v193_) [(1, 81), (2, 186), (5, 130), (1, 7), (5, 127), (5, 128), (5, 129), (5, 134), (1, 7), (5, 131), (5, 132), (5, 133)] = true := by decide +kernel
set_option maxRecDepth 100000 in
theorem x194_ : inAt (rqM vwCl tMth tXn d194_.1.cls v194_) [(2, 195), (5, 86), (1, 11), (5, 83), (5, 85), (0, 38), (5, 102), (1, 11), (5, 99), (5, 101), (0, 40), (5, 126), (1, 11), (5, 123), (5, 125), (0, 42)] = true := by decide +kernel
set_option maxRecDepth 100000 in
theorem x195_ : inAt (rqM vwCl tMth tXn d195_.1.cls v195_) [(1, 65), (2, 188), (1, 85), (5, 144), (5, 145), (5, 35), (1, 11), (5, 32), (5, 34), (0, 34), (5, 66), (1, 1), (5, 65)] = true := by decide +kernel
set_option maxRecDepth 100000 in
theorem x196_ : inAt (rqM vwCl tMth tXn d196_.1.cls v196_) [(2, 183), (2, 189), (1, 83), (5, 107), (5, 108), (1, 23), (1, 16), (4, 68), (4, 77), (4, 83), (4, 86), (4, 88), (4, 69), (4, 70), (1, 31), (1, 32), (4, 71), (4, 76), (4, 84), (4, 100), (4, 58), (4, 101), (4, 60), (4, 102), (4, 62), (4, 72), (4, 74), (4, 64), (5, 118), (5, 119), (5, 120), (4, 93), (4, 93), (4, 94), (4, 95), (4, 96), (4, 96), (4, 97), (4, 98), (4, 69), (5, 117), (5, 109), (5, 111), (4, 79), (5, 112), (5, 113), (5, 114), (5, 115), (4, 67), (4, 66), (5, 116)] = true := by decide +kernel
set_option maxRecDepth 100000 in
theorem x197_ : inAt (rqM vwCl tMth tXn d197_.1.cls v197_) [(2, 186), (4, 209), (1, 7), (4, 206), (4, 207), (4, 208), (4, 231), (1, 7), (4, 228), (4, 229), (4, 230), (4, 239), (1, 19), (1, 16), (4, 68), (4, 77), (4, 83), (4, 86), (4, 88), (4, 69), (4, 70), (1, 31), (1, 32), (4, 71), (4, 76), (4, 84), (4, 100), (4, 58), (4, 101), (4, 60), (4, 102), (4, 62), (4, 72), (4, 74), (4, 64), (4, 90), (4, 91), (4, 92), (4, 93), (4, 93), (4, 94), (4, 95), (4, 96), (4, 96), (4, 97), (4, 98), (4, 69), (5, 0), (4, 47), (4, 55), (4, 56), (4, 57), (4, 59), (4, 61), (4, 63), (4, 67), (4, 66), (4, 65)] = true := by decide +kernel
set_option maxRecDepth 100000 in
theorem x198_ : inAt (rqM vwCl tMth tXn d198_.1.cls v198_) [(2, 185), (1, 157), (1, 134), (1, 76)] = true := by decide +kernel
set_option maxRecDepth 100000 in
theorem x199_ : inAt (rqM vwCl tMth tXn d199_.1.cls v199_) [(2, 185), (1, 169), (1, 160), (1, 157), (1, 162), (2, 186), (2, 96), (4, 205), (1, 11), (4, 202), (4, 204), (0, 27)] = true := by decide +kernel
set_option maxRecDepth 100000 in
theorem x200_ : inAt (rqM vwCl tMth tXn d200_.1.cls v200_) [(2, 186), (2, 183), (4, 192), (1, 7), (4, 189), (4, 190), (4, 191)] = true := by decide +kernel
set_option maxRecDepth 100000 in
theorem x201_ : inAt (rqM vwCl tMth tXn d201_.1.cls v201_) [(2, 187), (2, 148), (2, 146), (2, 142), (2, 186), (2, 96), (1, 91), (2, 144), (1, 76), (4, 205), (1, 11), (4, 202), (4, 204), (0, 27)] = true := by decide +kernel
set_option maxRecDepth 100000 in
theorem x202_ : inAt (rqM vwCl tMth tXn d202_.1.cls v202_) [(2, 193), (2, 194), (2, 191), (2, 192), (2, 197)] = true := by decide +kernel
set_option maxRecDepth 100000 in
theorem x203_ : inAt (rqM vwCl tMth tXn d203_.1.cls v203_) [(2, 170), (2, 168)] = true := by decide +kernel
set_option maxRecDepth 100000 in
theorem x204_ : inAt (rqM vwCl tMth tXn d204_.1.cls v204_) [(2, 187), (2, 186), (2, 96), (1, 88), (2, 188), (1, 93), (5, 43), (1, 12), (5, 40), (5, 41), (5, 42), (5, 59), (1, 12), (5, 56), (5, 57), (5, 58), (5, 63), (1, 12), (5, 60), (5, 61), (5, 62), (5, 71), (1, 12), (5, 68), (5, 69), (5, 70), (5, 76), (1, 12), (5, 73), (5, 74), (5, 75), (4, 239), (1, 19), (1, 16), (4, 68), (4, 77), (4, 83), (4, 86), (4, 88), (4, 69), (4, 70), (1, 31), (1, 32), (4, 71), (4, 76), (4, 84), (4, 100), (4, 58), (4, 101), (4, 60), (4, 102), (4, 62), (4, 72), (4, 74), (4, 64), (4, 90), (4, 91), (4, 92), (4, 93), (4, 93), (4, 94), (4, 95), (4, 96), (4, 96), (4, 97), (4, 98), (4, 69), (5, 0), (4, 47), (4, 55), (4, 56), (4, 57), (4, 59), (4, 61), (4, 63), (4, 67), (4, 66), (4, 65)] = true := by decide +kernel
set_option maxRecDepth 100000 in
theorem x205_ : inAt (rqM vwCl tMth tXn d205_.1.cls v205_) [(2, 193), (2, 190), (2, 188), (2, 191), (1, 134), (2, 186), (2, 96), (1, 70), (1, 76), (2, 194), (2, 192), (2, 99), (2, 94), (1, 141), (2, 189), (2, 91), (5, 30), (1, 13), (5, 27), (5, 28), (5, 29), (5, 35), (1, 11), (5, 32), (5, 34), (0, 34), (5, 39), (1, 11), (5, 36), (5, 38), (0, 35), (4, 205), (1, 11), (4, 202), (4, 204), (0, 27)] = true := by decide +kernel
set_option maxRecDepth 100000 in
theorem x206_ : inAt (rqM vwCl tMth tXn d206_.1.cls v206_) [(2, 191), (1, 138), (1, 65), (5, 26), (1, 11), (5, 23), (5, 25), (0, 33), (3, 206), (1, 3), (5, 78), (3, 204), (3, 205), (5, 82), (1, 11), (5, 79), (5, 81), (0, 37), (5, 138), (1, 11), (5, 135), (5, 137), (0, 43), (5, 142), (1, 11), (5, 139), (5, 141), (0, 44), (5, 22), (1, 11), (5, 19), (5, 21), (0, 32)] = true := by decide +kernel
set_option maxRecDepth 100000 in
theorem x207_ : inAt (rqM vwCl tMth tXn d207_.1.cls v207_) [(2, 194), (2, 197), (1, 83), (2, 191), (1, 141), (2, 196), (2, 195), (5, 86), (1, 11), (5, 83), (5, 85), (0, 38), (5, 102), (1, 11), (5, 99), (5, 101), (0, 40), (5, 106), (1, 11), (5, 103), (5, 105), (0, 41), (5, 22), (1, 11), (5, 19), (5, 21), (0, 32), (5, 126), (1, 11), (5, 123), (5, 125), (0, 42)] = true := by decide +kernel
set_option maxRecDepth 100000 in
theorem x208_ : inAt (rqM vwCl tMth tXn d208_.1.cls v208_) [(2, 190), (2, 186), (2, 99), (2, 195), (2, 183), (5, 13), (1, 11), (5, 10), (5, 12), (0, 31), (5, 22), (1, 11), (5, 19), (5, 21), (0, 32)] = true := by decide +kernel
set_option maxRecDepth 100000 in
theorem x209_ : inAt (rqM vwCl tMth tXn d209_.1.cls v209_) [(2, 185), (1, 174), (1, 134), (1, 88), (2, 186), (2, 99), (2, 195), (2, 187), (3, 58), (1, 2), (5, 5), (3, 56), (3, 57), (5, 9), (1, 11), (5, 6), (5, 8), (0, 30), (5, 13), (1, 11), (5, 10), (5, 12), (0, 31), (5, 17), (1, 12), (5, 14), (5, 15), (5, 16), (5, 22), (1, 11), (5, 19), (5, 21), (0, 32), (5, 149), (1, 11), (5, 146), (5, 148), (0, 45)] = true := by decide +kernel
set_option maxRecDepth 100000 in
theorem x210_ : inAt (rqM vwCl tMth tXn d210_.1.cls v210_) [(2, 186), (2, 99), (2, 196), (2, 195), (2, 185), (1, 174), (1, 141), (1, 134), (1, 88), (3, 58), (1, 2), (5, 5), (3, 56), (3, 57), (5, 9), (1, 11), (5, 6), (5, 8), (0, 30), (5, 13), (1, 11), (5, 10), (5, 12), (0, 31), (5, 22), (1, 11), (5, 19), (5, 21), (0, 32)] = true := by decide +kernel
set_option maxRecDepth 100000 in
theorem x211_ : inAt (rqM vwCl tMth tXn d211_.1.cls v211_) [(3, 4), (3, 7), (1, 167), (3, 13), (2, 184), (3, 12), (3, 11), (3, 6), (2, 100), (4, 19), (1, 1), (4, 16), (4, 18), (0, 24), (4, 162), (1, 2), (4, 159), (4, 160), (4, 161), (4, 188), (1, 11), (4, 185), (4, 186), (4, 187), (4, 200), (1, 11), (4, 197), (4, 198), (4, 199), (5, 4), (1, 11), (5, 1), (5, 2), (5, 3), (5, 153), (1, 11), (5, 150), (5, 151), (5, 152), (4, 170), (1, 22), (1, 16), (4, 68), (4, 77), (4, 83), (4, 86), (4, 88), (4, 69), (4, 70), (1, 31), (1, 32), (4, 71), (4, 76), (4, 84), (4, 100), (4, 58), (4, 101), (4, 60), (4, 102), (4, 62), (4, 72), (4, 74), (4, 64), (4, 180), (4, 181), (4, 182), (4, 93), (4, 93), (4, 94), (4, 95), (4, 96), (4, 96), (4, 97), (4, 98), (4, 69), (4, 179), (4, 171), (4, 173), (4, 82), (4, 174), (4, 175), (4, 176), (4, 177), (4, 67), (4, 66), (4, 178)] = true := by decide +kernel
set_option maxRecDepth 100000 in
theorem x212_ : inAt (rqM vwCl tMth tXn d212_.1.cls v212_) [(3, 11), (3, 5), (3, 4), (1, 173), (1, 234), (3, 10), (1, 237), (2, 173), (3, 7), (3, 9), (2, 184), (3, 12), (2, 171), (4, 7), (1, 5), (4, 4), (4, 5), (4, 6), (3, 58), (1, 2), (3, 55), (3, 56), (3, 57), (3, 46), (1, 5), (3, 43), (3, 44), (3, 45), (3, 202), (1, 5), (3, 199), (3, 200), (3, 201), (4, 23), (1, 13), (4, 20), (4, 21), (4, 22), (6, 10), (1, 11), (6, 7), (6, 8), (6, 9), (5, 170), (1, 24), (1, 16), (4, 68), (4, 77), (4, 83), (4, 86), (4, 88), (4, 69), (4, 70), (1, 31), (1, 32), (4, 71), (4, 76), (4, 84), (4, 100), (4, 58), (4, 101), (4, 60), (4, 102), (4, 62), (4, 72), (4, 74), (4, 64), (5, 180), (5, 181), (5, 182), (4, 93), (4, 93), (4, 94), (4, 95), (4, 96), (4, 96), (4, 97), (4, 98), (4, 69), (5, 179), (5, 171), (5, 173), (4, 81), (5, 174), (5, 175), (5, 176), (5, 177), (4, 67), (4, 66), (5, 178)] = true := by decide +kernel
set_option maxRecDepth 100000 in
theorem x213_ : inAt (rqM vwCl tMth tXn d213_.1.cls v213_) [(4, 45), (1, 1), (4, 42), (4, 43), (4, 44), (4, 41)] = true := by decide +kernel
set_option maxRecDepth 100000 in
theorem x214_ : inAt (rqM vwCl tMth tXn d214_.1.cls v214_) [(4, 122), (1, 1), (4, 119), (4, 120), (4, 121), (4, 118)] = true := by decide +kernel
set_option maxRecDepth 100000 in
theorem x215_ : inAt (rqM vwCl tMth tXn d215_.1.cls v215_) [(4, 144), (1, 1), (4, 141), (4, 142), (4, 143), (4, 41)] = true := by decide +kernel
set_option maxRecDepth 100000 in
theorem x216_ : inAt (rqM vwCl tMth tXn d216_.1.cls v216_) [(4, 158), (1, 1), (4, 155), (4, 156), (4, 157), (4, 153), (4, 154), (4, 41)] = true := by decide +kernel
set_option maxRecDepth 100000 in
theorem x217_ : inAt (rqM vwCl tMth tXn d217_.1.cls v217_) [(5, 161), (1, 1), (5, 158), (5, 159), (5, 160), (4, 118), (5, 157), (4, 41)] = true := by decide +kernel
set_option maxRecDepth 100000 in
theorem x218_ : inAt (rqM vwCl tMth tXn d218_.1.cls v218_) [(5, 197), (1, 1), (5, 194), (5, 195), (5, 196), (5, 157), (4, 41)] = true := by decide +kernel
set_option maxRecDepth 100000 in
theorem x219_ : inAt (rqM vwCl tMth tXn d219_.1.cls v219_) [(5, 204), (1, 1), (5, 201), (5, 202), (5, 203), (5, 157), (4, 41)] = true := by decide +kernel
set_option maxRecDepth 100000 in
theorem x220_ : inAt (rqM vwCl tMth tXn d220_.1.cls v220_) [(5, 237), (1, 1), (5, 234), (5, 235), (5, 236), (5, 157)] = true := by decide +kernel
set_option maxRecDepth 100000 in
theorem x221_ : inAt (rqM vwCl tMth tXn d221_.1.cls v221_) [(6, 6), (1, 1), (6, 3), (6, 4), (6, 5), (5, 157), (4, 154)] = true := by decide +kernel
set_option maxRecDepth 100000 in
theorem x222_ : inAt (rqM vwCl tMth tXn d222_.1.cls v222_) [(6, 17), (1, 1), (6, 14), (6, 15), (6, 16), (4, 41)] = true := by decide +kernel
set_option maxRecDepth 100000 in
theorem x223_ : inAt (rqM vwCl tMth tXn d223_.1.cls v223_) [(6, 25), (1, 1), (6, 22), (6, 23), (6, 24), (5, 157), (4, 41)] = true := by decide +kernel
set_option maxRecDepth 100000 in
theorem x224_ : inAt (rqM vwCl tMth tXn d224_.1.cls v224_) [(6, 32), (1, 1), (6, 29), (6, 30), (6, 31), (4, 41)] = true := by decide +kernel
set_option maxRecDepth 100000 in
theorem x225_ : inAt (rqM vwCl tMth tXn d225_.1.cls v225_) [(6, 39), (1, 1), (6, 36), (6, 37), (6, 38), (4, 118)] = true := by decide +kernel
set_option maxRecDepth 100000 in
theorem x226_ : inAt (rqM vwCl tMth tXn d226_.1.cls v226_) [(3, 4), (3, 5), (3, 6), (3, 7), (3, 8), (3, 9), (3, 10), (1, 33), (1, 34), (1, 2), (1, 208), (1, 209), (1, 5), (2, 45), (2, 46), (1, 7), (2, 127), (2, 128), (1, 11), (2, 227), (2, 228), (1, 14), (3, 2), (2, 163), (1, 13), (1, 30), (1, 31), (1, 32), (1, 37), (1, 2), (1, 35), (1, 36), (1, 212), (1, 5), (1, 210), (1, 211), (2, 49), (1, 7), (2, 48), (2, 131), (1, 11), (2, 129), (2, 130), (2, 231), (1, 14), (2, 230), (2, 166), (1, 13), (2, 165)] = true := by decide +kernel
set_option maxRecDepth 100000 in
theorem x227_ : inAt (rqM vwCl tMth tXn d227_.1.cls v227_) [(1, 152), (1, 154), (1, 156), (1, 159), (1, 161), (1, 163), (1, 164), (1, 39), (1, 41), (1, 3), (1, 39), (1, 38), (1, 31), (1, 32), (1, 44), (1, 3), (1, 42), (1, 43)] = true := by decide +kernel
set_option maxRecDepth 100000 in
theorem x228_ : inAt (rqM vwCl tMth tXn d228_.1.cls v228_) [(1, 132), (1, 137), (1, 46), (1, 47), (1, 4), (1, 46), (1, 45), (1, 31), (1, 32), (1, 50), (1, 4), (1, 49)] = true := by decide +kernel
set_option maxRecDepth 100000 in
theorem x229_ : inAt (rqM vwCl tMth tXn d229_.1.cls v229_) [(1, 52), (1, 55), (1, 58), (1, 60), (1, 51), (1, 31), (1, 32)] = true := by decide +kernel
set_option maxRecDepth 100000 in
theorem x230_ : inAt (rqM vwCl tMth tXn d230_.1.cls v230_) [(1, 229), (1, 231), (2, 3), (2, 4), (2, 6), (2, 7), (1, 228), (1, 214), (1, 215), (1, 6), (1, 213), (1, 31), (1, 32), (1, 218), (1, 6), (1, 217)] = true := by decide +kernel
set_option maxRecDepth 100000 in
theorem x231_ : inAt (rqM vwCl tMth tXn d231_.1.cls v231_) [(1, 220), (1, 219), (1, 31), (1, 32)] = true := by decide +kernel
set_option maxRecDepth 100000 in
theorem x232_ : inAt (rqM vwCl tMth tXn d232_.1.cls v232_) [(2, 79), (2, 82), (2, 85), (2, 87), (2, 89), (2, 92), (2, 95), (2, 101), (2, 102), (2, 103), (2, 51), (2, 52), (1, 8), (2, 50), (1, 31), (1, 32), (2, 55), (1, 8), (2, 53), (2, 54)] = true := by decide +kernel
set_option maxRecDepth 100000 in
theorem x233_ : inAt (rqM vwCl tMth tXn d233_.1.cls v233_) [(2, 66), (2, 67), (2, 68), (2, 69), (2, 56), (1, 31), (1, 32), (2, 59), (1, 9), (2, 57), (2, 58), (2, 62), (1, 9), (2, 60), (2, 61), (2, 65), (1, 10), (2, 63), (2, 64)] = true := by decide +kernel
set_option maxRecDepth 100000 in
theorem x234_ : inAt (rqM vwCl tMth tXn d234_.1.cls v234_) [(2, 187), (2, 188), (2, 189), (2, 190), (2, 191), (2, 185), (2, 186), (2, 133), (2, 134), (1, 12), (2, 162), (2, 163), (1, 13), (2, 181), (1, 41), (1, 3), (2, 132), (1, 31), (1, 32), (2, 137), (1, 12), (2, 136), (2, 166), (1, 13), (2, 165), (1, 44), (1, 3), (2, 182), (1, 43)] = true := by decide +kernel
set_option maxRecDepth 100000 in
theorem x235_ : inAt (rqM vwCl tMth tXn d235_.1.cls v235_) [(2, 141), (2, 143), (2, 145), (2, 149), (2, 139), (2, 52), (1, 8), (2, 138), (1, 31), (1, 32), (2, 55), (1, 8), (2, 140), (2, 54)] = true := by decide +kernel
set_option maxRecDepth 100000 in
theorem x236_ : inAt (rqM vwCl tMth tXn d236_.1.cls v236_) [(2, 168), (2, 167), (1, 31), (1, 32)] = true := by decide +kernel
set_option maxRecDepth 100000 in
theorem x237_ : inAt (rqM vwCl tMth tXn d237_.1.cls v237_) [(2, 233), (2, 232), (1, 31), (1, 32)] = true := by decide +kernel
set_option maxRecDepth 100000 in
theorem x238_ : inAt (rqM vwCl tMth tXn d238_.1.cls v238_) [(6, 53), (6, 54), (6, 57), (6, 58), (6, 59), (6, 62), (6, 63), (6, 64), (6, 67), (6, 68), (6, 71), (6, 72), (6, 73), (6, 74), (6, 75), (6, 76), (6, 77), (6, 78), (6, 79), (6, 80), (6, 81), (6, 82), (6, 83), (6, 93), (6, 94), (6, 95), (6, 103), (6, 104), (6, 105), (6, 106), (6, 107), (6, 108), (6, 109), (6, 112), (6, 114), (6, 115), (6, 116), (6, 117), (6, 118), (6, 119), (6, 120), (6, 121), (6, 122), (6, 130), (6, 131), (6, 132), (6, 137), (6, 138), (6, 139), (6, 140), (6, 141), (6, 143), (6, 144), (6, 50), (6, 51), (6, 49), (1, 31), (1, 32)] = true := by decide +kernel
