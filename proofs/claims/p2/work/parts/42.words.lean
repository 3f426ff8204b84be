/-! ===== the words that the tables ask for are there ===== -/
theorem tDrop {β : Type} {L : List β} {q : β → Prop} [DecidablePred q] (js : List Nat) (hj : (List.range L.length).all (fun i => js.any (fun j => Nat.ble j i && Nat.blt i (j + 60))) = true) (h : ∀ j ∈ js, ((L.drop j).take 60).all (fun z => decide (q z)) = true) : ∀ z ∈ L, q z := by
  intro z hz
  obtain ⟨i, hi⟩ := List.mem_iff_getElem?.mp hz
  have hlt : i < L.length := (List.getElem?_eq_some_iff.mp hi).1
  obtain ⟨j, hj1, hj2⟩ := List.any_eq_true.mp (List.all_eq_true.mp hj i (List.mem_range.mpr hlt))
  simp only [Bool.and_eq_true] at hj2
  have a1 := Nat.le_of_ble_eq_true hj2.1
  have a2 := (Nat.blt_eq).mp hj2.2
  refine of_decide_eq_true (List.all_eq_true.mp (h j hj1) z (List.mem_of_getElem? (i := i - j) ?_))
  rw [List.getElem?_take_of_lt (by omega), List.getElem?_drop, show j + (i - j) = i by omega]
  exact hi

set_option maxRecDepth 100000 in
theorem x0_ : inAt (rqM vwCl tMth tXn d0_.1.cls v0_) [(6, 52)] = true := by decide +kernel
set_option maxRecDepth 100000 in
theorem x1_ : inAt (rqM vwCl tMth tXn d1_.1.cls v1_) [(6, 52)] = true := by decide +kernel
set_option maxRecDepth 100000 in
theorem x2_ : inAt (rqM vwCl tMth tXn d2_.1.cls v2_) [(6, 53), (6, 55)] = true := by decide +kernel
set_option maxRecDepth 100000 in
theorem x3_ : inAt (rqM vwCl tMth tXn d3_.1.cls v3_) [(6, 55), (7, 108), (1, 15), (7, 105), (7, 107), (0, 48), (7, 112), (1, 15), (7, 109), (7, 111), (0, 49)] = true := by decide +kernel
set_option maxRecDepth 100000 in
theorem x4_ : inAt (rqM vwCl tMth tXn d4_.1.cls v4_) [(6, 55), (7, 108), (1, 15), (7, 105), (7, 107), (0, 48)] = true := by decide +kernel
set_option maxRecDepth 100000 in
theorem x5_ : inAt (rqM vwCl tMth tXn d5_.1.cls v5_) [(6, 55), (6, 86), (6, 87)] = true := by decide +kernel
set_option maxRecDepth 100000 in
theorem x6_ : inAt (rqM vwCl tMth tXn d6_.1.cls v6_) [(6, 86), (6, 53)] = true := by decide +kernel
set_option maxRecDepth 100000 in
theorem x7_ : inAt (rqM vwCl tMth tXn d7_.1.cls v7_) [(6, 87), (7, 132), (1, 15), (7, 129), (7, 131), (0, 52)] = true := by decide +kernel
set_option maxRecDepth 100000 in
theorem x8_ : inAt (rqM vwCl tMth tXn d8_.1.cls v8_) [(6, 86), (6, 88)] = true := by decide +kernel
set_option maxRecDepth 100000 in
theorem x9_ : inAt (rqM vwCl tMth tXn d9_.1.cls v9_) [] = true := by decide +kernel
set_option maxRecDepth 100000 in
theorem x10_ : inAt (rqM vwCl tMth tXn d10_.1.cls v10_) [] = true := by decide +kernel
set_option maxRecDepth 100000 in
theorem x11_ : inAt (rqM vwCl tMth tXn d11_.1.cls v11_) [] = true := by decide +kernel
set_option maxRecDepth 100000 in
theorem x12_ : inAt (rqM vwCl tMth tXn d12_.1.cls v12_) [(6, 87), (6, 89), (6, 90), (7, 132), (1, 15), (7, 129), (7, 131), (0, 52), (7, 152), (1, 15), (7, 149), (7, 151), (0, 57), (7, 160), (1, 15), (7, 157), (7, 159), (0, 59), (7, 164), (1, 15), (7, 161), (7, 163), (0, 60)] = true := by decide +kernel
set_option maxRecDepth 100000 in
theorem x13_ : inAt (rqM vwCl tMth tXn d13_.1.cls v13_) [(6, 90), (6, 53), (6, 89)] = true := by decide +kernel
set_option maxRecDepth 100000 in
theorem x14_ : inAt (rqM vwCl tMth tXn d14_.1.cls v14_) [(6, 87), (6, 91), (6, 92), (7, 206), (7, 207), (7, 132), (1, 15), (7, 129), (7, 131), (0, 52), (7, 160), (1, 15), (7, 157), (7, 159), (0, 59), (7, 164), (1, 15), (7, 161), (7, 163), (0, 60)] = true := by decide +kernel
set_option maxRecDepth 100000 in
theorem x15_ : inAt (rqM vwCl tMth tXn d15_.1.cls v15_) [(6, 60), (6, 59), (6, 90), (6, 57), (6, 58), (6, 53), (6, 89), (6, 61), (7, 201)] = true := by decide +kernel
set_option maxRecDepth 100000 in
theorem x16_ : inAt (rqM vwCl tMth tXn d16_.1.cls v16_) [(6, 94), (6, 90), (6, 53), (6, 93), (6, 89)] = true := by decide +kernel
set_option maxRecDepth 100000 in
theorem x17_ : inAt (rqM vwCl tMth tXn d17_.1.cls v17_) [(6, 76), (6, 96), (6, 89), (6, 93), (6, 94), (6, 90), (6, 95), (6, 91), (6, 92), (7, 156), (1, 15), (7, 153), (7, 155), (0, 58), (7, 188), (1, 15), (7, 185), (7, 187), (0, 66), (7, 164), (1, 15), (7, 161), (7, 163), (0, 60)] = true := by decide +kernel
set_option maxRecDepth 100000 in
theorem x18_ : inAt (rqM vwCl tMth tXn d18_.1.cls v18_) [(6, 97)] = true := by decide +kernel
set_option maxRecDepth 100000 in
theorem x19_ : inAt (rqM vwCl tMth tXn d19_.1.cls v19_) [(6, 87), (6, 91), (6, 92), (7, 128), (1, 15), (7, 125), (7, 127), (0, 51), (7, 132), (1, 15), (7, 129), (7, 131), (0, 52), (7, 180), (1, 15), (7, 177), (7, 179), (0, 64), (7, 184), (1, 15), (7, 181), (7, 183), (0, 65), (7, 152), (1, 15), (7, 149), (7, 151), (0, 57), (7, 156), (1, 15), (7, 153), (7, 155), (0, 58), (7, 200), (1, 15), (7, 197), (7, 199), (0, 69), (7, 160), (1, 15), (7, 157), (7, 159), (0, 59), (7, 205), (1, 15), (7, 202), (7, 204), (0, 70), (7, 164), (1, 15), (7, 161), (7, 163), (0, 60)] = true := by decide +kernel
set_option maxRecDepth 100000 in
theorem x20_ : inAt (rqM vwCl tMth tXn d20_.1.cls v20_) [(6, 66), (6, 64), (6, 63), (6, 62), (6, 53)] = true := by decide +kernel
set_option maxRecDepth 100000 in
theorem x21_ : inAt (rqM vwCl tMth tXn d21_.1.cls v21_) [(6, 66), (6, 64), (6, 63), (6, 62), (6, 53)] = true := by decide +kernel
set_option maxRecDepth 100000 in
theorem x22_ : inAt (rqM vwCl tMth tXn d22_.1.cls v22_) [(6, 87), (7, 128), (1, 15), (7, 125), (7, 127), (0, 51), (7, 132), (1, 15), (7, 129), (7, 131), (0, 52), (7, 152), (1, 15), (7, 149), (7, 151), (0, 57), (7, 156), (1, 15), (7, 153), (7, 155), (0, 58), (7, 164), (1, 15), (7, 161), (7, 163), (0, 60)] = true := by decide +kernel
set_option maxRecDepth 100000 in
theorem x23_ : inAt (rqM vwCl tMth tXn d23_.1.cls v23_) [(6, 87), (7, 128), (1, 15), (7, 125), (7, 127), (0, 51), (7, 132), (1, 15), (7, 129), (7, 131), (0, 52), (7, 164), (1, 15), (7, 161), (7, 163), (0, 60)] = true := by decide +kernel
set_option maxRecDepth 100000 in
theorem x24_ : inAt (rqM vwCl tMth tXn d24_.1.cls v24_) [(6, 106), (6, 110), (6, 107), (6, 109), (6, 108), (6, 97)] = true := by decide +kernel
set_option maxRecDepth 100000 in
theorem x25_ : inAt (rqM vwCl tMth tXn d25_.1.cls v25_) [(6, 101), (6, 87), (6, 89), (6, 91), (6, 102), (6, 92), (7, 164), (1, 15), (7, 161), (7, 163), (0, 60), (7, 148), (1, 15), (7, 145), (7, 147), (0, 56), (7, 176), (1, 15), (7, 173), (7, 175), (0, 63), (7, 128), (1, 15), (7, 125), (7, 127), (0, 51), (7, 132), (1, 15), (7, 129), (7, 131), (0, 52), (7, 180), (1, 15), (7, 177), (7, 179), (0, 64), (7, 184), (1, 15), (7, 181), (7, 183), (0, 65), (7, 192), (1, 15), (7, 189), (7, 191), (0, 67)] = true := by decide +kernel
set_option maxRecDepth 100000 in
theorem x26_ : inAt (rqM vwCl tMth tXn d26_.1.cls v26_) [(6, 89), (6, 98), (6, 90), (6, 99), (6, 100), (6, 101), (6, 102), (6, 87), (6, 104), (6, 103), (6, 92), (6, 105), (6, 91), (7, 148), (1, 15), (7, 145), (7, 147), (0, 56), (7, 168), (1, 15), (7, 165), (7, 167), (0, 61), (7, 128), (1, 15), (7, 125), (7, 127), (0, 51), (7, 164), (1, 15), (7, 161), (7, 163), (0, 60), (7, 132), (1, 15), (7, 129), (7, 131), (0, 52), (7, 172), (1, 15), (7, 169), (7, 171), (0, 62), (7, 196), (1, 15), (7, 193), (7, 195), (0, 68)] = true := by decide +kernel
set_option maxRecDepth 100000 in
theorem x27_ : inAt (rqM vwCl tMth tXn d27_.1.cls v27_) [(6, 110), (6, 109), (6, 108), (6, 107), (6, 95), (6, 106), (8, 7), (1, 15), (8, 4), (8, 6), (0, 80), (7, 164), (1, 15), (7, 161), (7, 163), (0, 60)] = true := by decide +kernel
set_option maxRecDepth 100000 in
theorem x28_ : inAt (rqM vwCl tMth tXn d28_.1.cls v28_) [(6, 106), (6, 107), (6, 108), (6, 109)] = true := by decide +kernel
set_option maxRecDepth 100000 in
theorem x29_ : inAt (rqM vwCl tMth tXn d29_.1.cls v29_) [(6, 110), (6, 106), (8, 19), (1, 15), (8, 16), (8, 18), (0, 83)] = true := by decide +kernel
set_option maxRecDepth 100000 in
theorem x30_ : inAt (rqM vwCl tMth tXn d30_.1.cls v30_) [(6, 100), (6, 103), (6, 104), (7, 164), (1, 15), (7, 161), (7, 163), (0, 60)] = true := by decide +kernel
set_option maxRecDepth 100000 in
theorem x31_ : inAt (rqM vwCl tMth tXn d31_.1.cls v31_) [(6, 96), (6, 75), (6, 76), (6, 97), (6, 110)] = true := by decide +kernel
set_option maxRecDepth 100000 in
theorem x32_ : inAt (rqM vwCl tMth tXn d32_.1.cls v32_) [(6, 96), (6, 75)] = true := by decide +kernel
set_option maxRecDepth 100000 in
theorem x33_ : inAt (rqM vwCl tMth tXn d33_.1.cls v33_) [(6, 87), (6, 92), (6, 91), (6, 82), (6, 83), (7, 128), (1, 15), (7, 125), (7, 127), (0, 51), (7, 196), (1, 15), (7, 193), (7, 195), (0, 68), (8, 7), (1, 15), (8, 4), (8, 6), (0, 80), (7, 164), (1, 15), (7, 161), (7, 163), (0, 60), (7, 235), (1, 15), (7, 232), (7, 234), (0, 77)] = true := by decide +kernel
set_option maxRecDepth 100000 in
theorem x34_ : inAt (rqM vwCl tMth tXn d34_.1.cls v34_) [(6, 87), (6, 79), (6, 82), (6, 83), (7, 235), (1, 15), (7, 232), (7, 234), (0, 77), (7, 128), (1, 15), (7, 125), (7, 127), (0, 51), (7, 132), (1, 15), (7, 129), (7, 131), (0, 52), (7, 164), (1, 15), (7, 161), (7, 163), (0, 60), (8, 7), (1, 15), (8, 4), (8, 6), (0, 80), (8, 11), (1, 15), (8, 8), (8, 10), (0, 81)] = true := by decide +kernel
set_option maxRecDepth 100000 in
theorem x35_ : inAt (rqM vwCl tMth tXn d35_.1.cls v35_) [(6, 89), (6, 90), (6, 97), (6, 87), (6, 82), (6, 92), (6, 83), (6, 91), (6, 66), (6, 79), (6, 80), (6, 81), (7, 235), (1, 15), (7, 232), (7, 234), (0, 77), (7, 128), (1, 15), (7, 125), (7, 127), (0, 51), (7, 164), (1, 15), (7, 161), (7, 163), (0, 60), (7, 196), (1, 15), (7, 193), (7, 195), (0, 68), (7, 192), (1, 15), (7, 189), (7, 191), (0, 67), (7, 132), (1, 15), (7, 129), (7, 131), (0, 52), (7, 168), (1, 15), (7, 165), (7, 167), (0, 61), (7, 211), (1, 15), (7, 208), (7, 210), (0, 71), (7, 215), (1, 15), (7, 212), (7, 214), (0, 72)] = true := by decide +kernel
set_option maxRecDepth 100000 in
theorem x36_ : inAt (rqM vwCl tMth tXn d36_.1.cls v36_) [(6, 81), (6, 97), (6, 87), (6, 91), (6, 92), (6, 82), (6, 83), (6, 89), (6, 79), (7, 128), (1, 15), (7, 125), (7, 127), (0, 51), (7, 235), (1, 15), (7, 232), (7, 234), (0, 77), (7, 132), (1, 15), (7, 129), (7, 131), (0, 52), (7, 148), (1, 15), (7, 145), (7, 147), (0, 56), (7, 239), (1, 15), (7, 236), (7, 238), (0, 78), (7, 164), (1, 15), (7, 161), (7, 163), (0, 60), (7, 152), (1, 15), (7, 149), (7, 151), (0, 57), (7, 156), (1, 15), (7, 153), (7, 155), (0, 58), (7, 200), (1, 15), (7, 197), (7, 199), (0, 69), (7, 196), (1, 15), (7, 193), (7, 195), (0, 68), (8, 3), (1, 15), (8, 0), (8, 2), (0, 79), (7, 176), (1, 15), (7, 173), (7, 175), (0, 63), (8, 7), (1, 15), (8, 4), (8, 6), (0, 80), (8, 11), (1, 15), (8, 8), (8, 10), (0, 81)] = true := by decide +kernel
set_option maxRecDepth 100000 in
theorem x37_ : inAt (rqM vwCl tMth tXn d37_.1.cls v37_) [(6, 75), (6, 96), (6, 87), (7, 128), (1, 15), (7, 125), (7, 127), (0, 51), (7, 164), (1, 15), (7, 161), (7, 163), (0, 60), (7, 231), (1, 15), (7, 228), (7, 230), (0, 76), (7, 132), (1, 15), (7, 129), (7, 131), (0, 52)] = true := by decide +kernel
set_option maxRecDepth 100000 in
theorem x38_ : inAt (rqM vwCl tMth tXn d38_.1.cls v38_) [(6, 77), (6, 96), (6, 97), (6, 79), (6, 64), (6, 80), (6, 82), (6, 81), (6, 83), (7, 235), (1, 15), (7, 232), (7, 234), (0, 77)] = true := by decide +kernel
set_option maxRecDepth 100000 in
theorem x39_ : inAt (rqM vwCl tMth tXn d39_.1.cls v39_) [(6, 67), (6, 100), (6, 68), (6, 105)] = true := by decide +kernel
set_option maxRecDepth 100000 in
theorem x40_ : inAt (rqM vwCl tMth tXn d40_.1.cls v40_) [(6, 84), (6, 85), (6, 100), (6, 103), (6, 104), (6, 105), (6, 98), (6, 99), (6, 66), (6, 87), (6, 69), (6, 70), (6, 67), (6, 68), (6, 71), (6, 96), (6, 73), (6, 101), (6, 74), (6, 102), (6, 72), (6, 78), (7, 140), (1, 15), (7, 137), (7, 139), (0, 54), (7, 144), (1, 15), (7, 141), (7, 143), (0, 55), (7, 192), (1, 15), (7, 189), (7, 191), (0, 67), (7, 211), (1, 15), (7, 208), (7, 210), (0, 71), (7, 164), (1, 15), (7, 161), (7, 163), (0, 60), (7, 215), (1, 15), (7, 212), (7, 214), (0, 72), (7, 128), (1, 15), (7, 125), (7, 127), (0, 51), (7, 132), (1, 15), (7, 129), (7, 131), (0, 52), (7, 219), (1, 15), (7, 216), (7, 218), (0, 73), (7, 223), (1, 15), (7, 220), (7, 222), (0, 74), (7, 227), (1, 15), (7, 224), (7, 226), (0, 75), (8, 15), (1, 15), (8, 12), (8, 14), (0, 82), (8, 23), (1, 15), (8, 20), (8, 22), (0, 84), (8, 27), (1, 15), (8, 24), (8, 26), (0, 85)] = true := by decide +kernel
set_option maxRecDepth 100000 in
theorem x41_ : inAt (rqM vwCl tMth tXn d41_.1.cls v41_) [(6, 111), (6, 145)] = true := by decide +kernel
set_option maxRecDepth 100000 in
theorem x42_ : inAt (rqM vwCl tMth tXn d42_.1.cls v42_) [(6, 52), (6, 65), (6, 66), (6, 70), (6, 85), (6, 87), (6, 86), (6, 88), (6, 69), (6, 84), (7, 124), (1, 15), (7, 121), (7, 123), (0, 50), (7, 128), (1, 15), (7, 125), (7, 127), (0, 51), (7, 136), (1, 15), (7, 133), (7, 135), (0, 53), (8, 31), (1, 15), (8, 28), (8, 30), (0, 86)] = true := by decide +kernel
set_option maxRecDepth 100000 in
theorem x43_ : inAt (rqM vwCl tMth tXn d43_.1.cls v43_) [(6, 52), (6, 65), (6, 66), (6, 87), (6, 86), (6, 88), (6, 98), (6, 99), (6, 100), (6, 69), (6, 67), (6, 68), (7, 124), (1, 15), (7, 121), (7, 123), (0, 50), (7, 140), (1, 15), (7, 137), (7, 139), (0, 54), (7, 144), (1, 15), (7, 141), (7, 143), (0, 55), (7, 128), (1, 15), (7, 125), (7, 127), (0, 51), (7, 132), (1, 15), (7, 129), (7, 131), (0, 52), (7, 219), (1, 15), (7, 216), (7, 218), (0, 73), (7, 164), (1, 15), (7, 161), (7, 163), (0, 60), (7, 211), (1, 15), (7, 208), (7, 210), (0, 71), (7, 223), (1, 15), (7, 220), (7, 222), (0, 74), (8, 31), (1, 15), (8, 28), (8, 30), (0, 86)] = true := by decide +kernel
set_option maxRecDepth 100000 in
theorem x44_ : inAt (rqM vwCl tMth tXn d44_.1.cls v44_) [(6, 71), (6, 73), (6, 74), (6, 75), (6, 76), (6, 77), (6, 72), (6, 78), (6, 79), (6, 80), (6, 81), (6, 82), (6, 83)] = true := by decide +kernel
set_option maxRecDepth 100000 in
theorem x45_ : inAt (rqM vwCl tMth tXn d45_.1.cls v45_) [(6, 84), (7, 108), (1, 15), (7, 105), (7, 107), (0, 48), (8, 43), (1, 15), (8, 40), (8, 42), (0, 87), (8, 31), (1, 15), (8, 28), (8, 30), (0, 86)] = true := by decide +kernel
set_option maxRecDepth 100000 in
theorem x46_ : inAt (rqM vwCl tMth tXn d46_.1.cls v46_) [(8, 91)] = true := by decide +kernel
set_option maxRecDepth 100000 in
theorem x47_ : inAt (rqM vwCl tMth tXn d47_.1.cls v47_) [(6, 121), (6, 64), (6, 120), (6, 130), (6, 117)] = true := by decide +kernel
set_option maxRecDepth 100000 in
theorem x48_ : inAt (rqM vwCl tMth tXn d48_.1.cls v48_) [(6, 123), (6, 129), (6, 114), (6, 115), (6, 128), (6, 116), (6, 117), (6, 118), (6, 120), (6, 64), (6, 130), (6, 121), (6, 122), (6, 73), (6, 75), (6, 79), (6, 119), (6, 132), (8, 63), (1, 15), (8, 60), (8, 62), (0, 91)] = true := by decide +kernel
set_option maxRecDepth 100000 in
theorem x49_ : inAt (rqM vwCl tMth tXn d49_.1.cls v49_) [(6, 82), (6, 131), (6, 83)] = true := by decide +kernel
set_option maxRecDepth 100000 in
theorem x50_ : inAt (rqM vwCl tMth tXn d50_.1.cls v50_) [(6, 134), (6, 135)] = true := by decide +kernel
set_option maxRecDepth 100000 in
theorem x51_ : inAt (rqM vwCl tMth tXn d51_.1.cls v51_) [(6, 64), (6, 80), (6, 82), (6, 120), (6, 83), (6, 81), (6, 131)] = true := by decide +kernel
set_option maxRecDepth 100000 in
theorem x52_ : inAt (rqM vwCl tMth tXn d52_.1.cls v52_) [(6, 136), (6, 75), (6, 79), (6, 132), (8, 121), (1, 15), (8, 118), (8, 120), (0, 104)] = true := by decide +kernel
set_option maxRecDepth 100000 in
theorem x53_ : inAt (rqM vwCl tMth tXn d53_.1.cls v53_) [(6, 133), (6, 117), (8, 117), (1, 15), (8, 114), (8, 116), (0, 103), (8, 121), (1, 15), (8, 118), (8, 120), (0, 104), (8, 103), (1, 15), (8, 100), (8, 102), (0, 100)] = true := by decide +kernel
set_option maxRecDepth 100000 in
theorem x54_ : inAt (rqM vwCl tMth tXn d54_.1.cls v54_) [(6, 64), (6, 80), (6, 82), (6, 131), (6, 83), (6, 120)] = true := by decide +kernel
set_option maxRecDepth 100000 in
theorem x55_ : inAt (rqM vwCl tMth tXn d55_.1.cls v55_) [(6, 79), (6, 121), (6, 80), (6, 133), (6, 117), (6, 131), (6, 83), (8, 108), (8, 109), (8, 103), (1, 15), (8, 100), (8, 102), (0, 100), (8, 107), (1, 15), (8, 104), (8, 106), (0, 101), (8, 90), (1, 15), (8, 88), (8, 89)] = true := by decide +kernel
set_option maxRecDepth 100000 in
theorem x56_ : inAt (rqM vwCl tMth tXn d56_.1.cls v56_) [(6, 146), (6, 144), (6, 131)] = true := by decide +kernel
set_option maxRecDepth 100000 in
theorem x57_ : inAt (rqM vwCl tMth tXn d57_.1.cls v57_) [(6, 130), (6, 64), (6, 71), (6, 72), (6, 131), (6, 78)] = true := by decide +kernel
set_option maxRecDepth 100000 in
theorem x58_ : inAt (rqM vwCl tMth tXn d58_.1.cls v58_) [(6, 71), (8, 79), (1, 15), (8, 76), (8, 78), (0, 95), (8, 59), (1, 15), (8, 56), (8, 58), (0, 90)] = true := by decide +kernel
set_option maxRecDepth 100000 in
theorem x59_ : inAt (rqM vwCl tMth tXn d59_.1.cls v59_) [(6, 137), (6, 130)] = true := by decide +kernel
set_option maxRecDepth 100000 in
theorem x60_ : inAt (rqM vwCl tMth tXn d60_.1.cls v60_) [(6, 142), (6, 129), (6, 137), (6, 130), (6, 138), (6, 139), (6, 141), (6, 73), (6, 131), (6, 74), (6, 140), (8, 79), (1, 15), (8, 76), (8, 78), (0, 95), (8, 87), (1, 15), (8, 84), (8, 86), (0, 97), (8, 90), (1, 15), (8, 88), (8, 89)] = true := by decide +kernel
set_option maxRecDepth 100000 in
theorem x61_ : inAt (rqM vwCl tMth tXn d61_.1.cls v61_) [(6, 75), (6, 79)] = true := by decide +kernel
set_option maxRecDepth 100000 in
theorem x62_ : inAt (rqM vwCl tMth tXn d62_.1.cls v62_) [(6, 129), (6, 75), (6, 79), (6, 117), (6, 132), (6, 121), (6, 80), (6, 124), (8, 122), (8, 75), (1, 15), (8, 72), (8, 74), (0, 94), (8, 83), (1, 15), (8, 80), (8, 82), (0, 96), (8, 95), (1, 15), (8, 92), (8, 94), (0, 98), (8, 99), (1, 15), (8, 96), (8, 98), (0, 99), (8, 113), (1, 15), (8, 110), (8, 112), (0, 102), (8, 126), (1, 15), (8, 123), (8, 125), (0, 105)] = true := by decide +kernel
set_option maxRecDepth 100000 in
theorem x63_ : inAt (rqM vwCl tMth tXn d63_.1.cls v63_) [(6, 142), (6, 123), (6, 133), (6, 136), (6, 129), (6, 73), (6, 141), (6, 138), (6, 139), (6, 140), (6, 130), (6, 64), (6, 71), (6, 72), (6, 137), (8, 71), (1, 15), (8, 68), (8, 70), (0, 93), (8, 59), (1, 15), (8, 56), (8, 58), (0, 90)] = true := by decide +kernel
set_option maxRecDepth 100000 in
theorem x64_ : inAt (rqM vwCl tMth tXn d64_.1.cls v64_) [(6, 128), (6, 69), (6, 129), (6, 112), (6, 67), (6, 130), (6, 68), (6, 84), (6, 73), (6, 71), (6, 134), (6, 135), (6, 125), (6, 123), (6, 133), (6, 136), (8, 59), (1, 15), (8, 56), (8, 58), (0, 90), (8, 67), (1, 15), (8, 64), (8, 66), (0, 92), (8, 130), (1, 15), (8, 127), (8, 129), (0, 106), (8, 71), (1, 15), (8, 68), (8, 70), (0, 93)] = true := by decide +kernel
set_option maxRecDepth 100000 in
theorem x65_ : inAt (rqM vwCl tMth tXn d65_.1.cls v65_) [(6, 65), (6, 112), (6, 84), (6, 71), (6, 75), (6, 79), (6, 80), (6, 73), (6, 113)] = true := by decide +kernel
set_option maxRecDepth 100000 in
theorem x66_ : inAt (rqM vwCl tMth tXn d66_.1.cls v66_) [(6, 145), (6, 111), (6, 52), (6, 123), (6, 124), (6, 125), (6, 129), (6, 65), (6, 121), (6, 113), (6, 126), (6, 127), (8, 51), (1, 15), (8, 48), (8, 50), (0, 88), (8, 55), (1, 15), (8, 52), (8, 54), (0, 89), (7, 108), (1, 15), (7, 105), (7, 107), (0, 48)] = true := by decide +kernel
set_option maxRecDepth 100000 in
theorem x67_ : inAt (rqM vwCl tMth tXn d67_.1.cls v67_) [(6, 123)] = true := by decide +kernel
set_option maxRecDepth 100000 in
theorem x68_ : inAt (rqM vwCl tMth tXn d68_.1.cls v68_) [(8, 142), (7, 201), (8, 90), (1, 15), (8, 88), (8, 89)] = true := by decide +kernel
set_option maxRecDepth 100000 in
theorem x69_ : inAt (rqM vwCl tMth tXn d69_.1.cls v69_) [(6, 111), (6, 114), (6, 112), (6, 115), (6, 116), (6, 118), (6, 64), (6, 120), (8, 143), (8, 138), (1, 15), (8, 135), (8, 137), (0, 107), (7, 108), (1, 15), (7, 105), (7, 107), (0, 48), (8, 141), (1, 15), (8, 139), (8, 140)] = true := by decide +kernel
set_option maxRecDepth 100000 in
theorem x70_ : inAt (rqM vwCl tMth tXn d70_.1.cls v70_) [(6, 111), (6, 118), (6, 119), (8, 138), (1, 15), (8, 135), (8, 137), (0, 107), (7, 108), (1, 15), (7, 105), (7, 107), (0, 48)] = true := by decide +kernel
set_option maxRecDepth 100000 in
theorem x71_ : inAt (rqM vwCl tMth tXn d71_.1.cls v71_) [(6, 111), (6, 65), (6, 112), (7, 108), (1, 15), (7, 105), (7, 107), (0, 48)] = true := by decide +kernel
set_option maxRecDepth 100000 in
theorem x72_ : inAt (rqM vwCl tMth tXn d72_.1.cls v72_) [(6, 55), (6, 56), (6, 84), (6, 69), (6, 65), (6, 111), (6, 123), (6, 126), (6, 127), (6, 113), (6, 60), (7, 108), (1, 15), (7, 105), (7, 107), (0, 48)] = true := by decide +kernel
set_option maxRecDepth 100000 in
theorem x73_ : inAt (rqM vwCl tMth tXn d73_.1.cls v73_) [(6, 145), (6, 147), (6, 143), (7, 108), (1, 15), (7, 105), (7, 107), (0, 48), (8, 141), (1, 15), (8, 139), (8, 140)] = true := by decide +kernel
set_option maxRecDepth 100000 in
theorem x74_ : inAt (rqM vwCl tMth tXn d74_.1.cls v74_) [(6, 56), (6, 54), (8, 181), (7, 108), (1, 15), (7, 105), (7, 107), (0, 48)] = true := by decide +kernel
set_option maxRecDepth 100000 in
theorem x75_ : inAt (rqM vwCl tMth tXn d75_.1.cls v75_) [(6, 54), (6, 56)] = true := by decide +kernel
set_option maxRecDepth 100000 in
theorem x76_ : inAt (rqM vwCl tMth tXn d76_.1.cls v76_) [(8, 160), (7, 206), (7, 207), (8, 155), (1, 15), (8, 152), (8, 154), (0, 108)] = true := by decide +kernel
set_option maxRecDepth 100000 in
theorem x77_ : inAt (rqM vwCl tMth tXn d77_.1.cls v77_) [(6, 111), (6, 114), (6, 56), (6, 63), (6, 62), (6, 64), (6, 120), (6, 59), (6, 57), (6, 58), (7, 201), (8, 138), (1, 15), (8, 135), (8, 137), (0, 107), (7, 108), (1, 15), (7, 105), (7, 107), (0, 48), (8, 155), (1, 15), (8, 152), (8, 154), (0, 108), (8, 90), (1, 15), (8, 88), (8, 89), (8, 159), (1, 15), (8, 156), (8, 158), (0, 109)] = true := by decide +kernel
set_option maxRecDepth 100000 in
theorem x78_ : inAt (rqM vwCl tMth tXn d78_.1.cls v78_) [(6, 111), (6, 65), (6, 66), (6, 87), (6, 86), (6, 88), (6, 98), (6, 99), (6, 100), (6, 130), (6, 105), (7, 124), (1, 15), (7, 121), (7, 123), (0, 50), (7, 108), (1, 15), (7, 105), (7, 107), (0, 48), (7, 140), (1, 15), (7, 137), (7, 139), (0, 54), (7, 144), (1, 15), (7, 141), (7, 143), (0, 55), (7, 219), (1, 15), (7, 216), (7, 218), (0, 73), (7, 128), (1, 15), (7, 125), (7, 127), (0, 51), (7, 164), (1, 15), (7, 161), (7, 163), (0, 60), (7, 211), (1, 15), (7, 208), (7, 210), (0, 71), (8, 63), (1, 15), (8, 60), (8, 62), (0, 91)] = true := by decide +kernel
set_option maxRecDepth 100000 in
theorem x79_ : inAt (rqM vwCl tMth tXn d79_.1.cls v79_) [(6, 111), (6, 65), (6, 66), (6, 87), (6, 86), (6, 88), (6, 123), (6, 133), (6, 136), (6, 124), (6, 129), (6, 146), (6, 126), (6, 145), (6, 77), (6, 147), (6, 143), (6, 144), (7, 124), (1, 15), (7, 121), (7, 123), (0, 50), (7, 108), (1, 15), (7, 105), (7, 107), (0, 48), (7, 140), (1, 15), (7, 137), (7, 139), (0, 54), (7, 227), (1, 15), (7, 224), (7, 226), (0, 75), (7, 128), (1, 15), (7, 125), (7, 127), (0, 51), (7, 164), (1, 15), (7, 161), (7, 163), (0, 60), (8, 23), (1, 15), (8, 20), (8, 22), (0, 84), (8, 27), (1, 15), (8, 24), (8, 26), (0, 85), (8, 71), (1, 15), (8, 68), (8, 70), (0, 93)] = true := by decide +kernel
set_option maxRecDepth 100000 in
theorem x80_ : inAt (rqM vwCl tMth tXn d80_.1.cls v80_) [(1, 221), (1, 220)] = true := by decide +kernel
set_option maxRecDepth 100000 in
theorem x81_ : inAt (rqM vwCl tMth tXn d81_.1.cls v81_) [(1, 221), (1, 220)] = true := by decide +kernel
set_option maxRecDepth 100000 in
theorem x82_ : inAt (rqM vwCl tMth tXn d82_.1.cls v82_) [] = true := by decide +kernel
set_option maxRecDepth 100000 in
theorem x83_ : inAt (rqM vwCl tMth tXn d83_.1.cls v83_) [] = true := by decide +kernel
set_option maxRecDepth 100000 in
theorem x84_ : inAt (rqM vwCl tMth tXn d84_.1.cls v84_) [] = true := by decide +kernel
set_option maxRecDepth 100000 in
theorem x85_ : inAt (rqM vwCl tMth tXn d85_.1.cls v85_) [] = true := by decide +kernel
set_option maxRecDepth 100000 in
theorem x86_ : inAt (rqM vwCl tMth tXn d86_.1.cls v86_) [(1, 64), (1, 71), (1, 73), (1, 68), (1, 75), (1, 80), (1, 87), (1, 60), (3, 89), (1, 10), (3, 87), (3, 88)] = true := by decide +kernel
set_option maxRecDepth 100000 in
theorem x87_ : inAt (rqM vwCl tMth tXn d87_.1.cls v87_) [(1, 68), (1, 52), (1, 58), (1, 55), (1, 60)] = true := by decide +kernel
set_option maxRecDepth 100000 in
theorem x88_ : inAt (rqM vwCl tMth tXn d88_.1.cls v88_) [] = true := by decide +kernel
set_option maxRecDepth 100000 in
theorem x89_ : inAt (rqM vwCl tMth tXn d89_.1.cls v89_) [] = true := by decide +kernel
set_option maxRecDepth 100000 in
theorem x90_ : inAt (rqM vwCl tMth tXn d90_.1.cls v90_) [] = true := by decide +kernel
set_option maxRecDepth 100000 in
theorem x91_ : inAt (rqM vwCl tMth tXn d91_.1.cls v91_) [] = true := by decide +kernel
set_option maxRecDepth 100000 in
theorem x92_ : inAt (rqM vwCl tMth tXn d92_.1.cls v92_) [(1, 235)] = true := by decide +kernel
set_option maxRecDepth 100000 in
theorem x93_ : inAt (rqM vwCl tMth tXn d93_.1.cls v93_) [(2, 5), (2, 8), (1, 236)] = true := by decide +kernel
set_option maxRecDepth 100000 in
theorem x94_ : inAt (rqM vwCl tMth tXn d94_.1.cls v94_) [(1, 239), (1, 238), (3, 50), (1, 5), (3, 47), (3, 49), (0, 0)] = true := by decide +kernel
set_option maxRecDepth 100000 in
theorem x95_ : inAt (rqM vwCl tMth tXn d95_.1.cls v95_) [(1, 233)] = true := by decide +kernel
set_option maxRecDepth 100000 in
theorem x96_ : inAt (rqM vwCl tMth tXn d96_.1.cls v96_) [(1, 233), (1, 231)] = true := by decide +kernel
set_option maxRecDepth 100000 in
theorem x97_ : inAt (rqM vwCl tMth tXn d97_.1.cls v97_) [(1, 238), (1, 233), (1, 231)] = true := by decide +kernel
set_option maxRecDepth 100000 in
theorem x98_ : inAt (rqM vwCl tMth tXn d98_.1.cls v98_) [(1, 238), (2, 1), (1, 233), (1, 231), (2, 0), (3, 78), (3, 77), (1, 5), (3, 75), (3, 76), (3, 70), (1, 5), (3, 67), (3, 69), (0, 1)] = true := by decide +kernel
set_option maxRecDepth 100000 in
theorem x99_ : inAt (rqM vwCl tMth tXn d99_.1.cls v99_) [(1, 238), (1, 233), (1, 231), (2, 2), (3, 152), (3, 147), (1, 5), (3, 145), (3, 146), (3, 70), (1, 5), (3, 67), (3, 69), (0, 1)] = true := by decide +kernel
set_option maxRecDepth 100000 in
theorem x100_ : inAt (rqM vwCl tMth tXn d100_.1.cls v100_) [(1, 236)] = true := by decide +kernel
set_option maxRecDepth 100000 in
theorem x101_ : inAt (rqM vwCl tMth tXn d101_.1.cls v101_) [(2, 5), (2, 3)] = true := by decide +kernel
set_option maxRecDepth 100000 in
theorem x102_ : inAt (rqM vwCl tMth tXn d102_.1.cls v102_) [(2, 4), (2, 5), (2, 3), (3, 108), (1, 5), (3, 105), (3, 107), (0, 7)] = true := by decide +kernel
set_option maxRecDepth 100000 in
theorem x103_ : inAt (rqM vwCl tMth tXn d103_.1.cls v103_) [(2, 8), (2, 6), (2, 1), (2, 7)] = true := by decide +kernel
set_option maxRecDepth 100000 in
theorem x104_ : inAt (rqM vwCl tMth tXn d104_.1.cls v104_) [(3, 128), (3, 129), (3, 130), (3, 131)] = true := by decide +kernel
set_option maxRecDepth 100000 in
theorem x105_ : inAt (rqM vwCl tMth tXn d105_.1.cls v105_) [(1, 165), (1, 176), (1, 170), (1, 177), (1, 172), (1, 178)] = true := by decide +kernel
set_option maxRecDepth 100000 in
theorem x106_ : inAt (rqM vwCl tMth tXn d106_.1.cls v106_) [(1, 170), (1, 177), (1, 172), (1, 178)] = true := by decide +kernel
set_option maxRecDepth 100000 in
theorem x107_ : inAt (rqM vwCl tMth tXn d107_.1.cls v107_) [(1, 165), (1, 152), (1, 154)] = true := by decide +kernel
set_option maxRecDepth 100000 in
theorem x108_ : inAt (rqM vwCl tMth tXn d108_.1.cls v108_) [(1, 165), (1, 152), (1, 154)] = true := by decide +kernel
set_option maxRecDepth 100000 in
theorem x109_ : inAt (rqM vwCl tMth tXn d109_.1.cls v109_) [(1, 161), (1, 61)] = true := by decide +kernel
set_option maxRecDepth 100000 in
theorem x110_ : inAt (rqM vwCl tMth tXn d110_.1.cls v110_) [(1, 170), (1, 159), (1, 77), (3, 187), (1, 2), (3, 184), (3, 186), (0, 15)] = true := by decide +kernel
set_option maxRecDepth 100000 in
theorem x111_ : inAt (rqM vwCl tMth tXn d111_.1.cls v111_) [(1, 170), (1, 159), (1, 77), (1, 61), (1, 161)] = true := by decide +kernel
set_option maxRecDepth 100000 in
theorem x112_ : inAt (rqM vwCl tMth tXn d112_.1.cls v112_) [(1, 170), (1, 159), (1, 161)] = true := by decide +kernel
set_option maxRecDepth 100000 in
theorem x113_ : inAt (rqM vwCl tMth tXn d113_.1.cls v113_) [(1, 163), (1, 164)] = true := by decide +kernel
set_option maxRecDepth 100000 in
theorem x114_ : inAt (rqM vwCl tMth tXn d114_.1.cls v114_) [(1, 137), (1, 132)] = true := by decide +kernel
set_option maxRecDepth 100000 in
theorem x115_ : inAt (rqM vwCl tMth tXn d115_.1.cls v115_) [(1, 228), (1, 72), (1, 69), (1, 79), (1, 239), (1, 74), (3, 163), (1, 2), (3, 160), (3, 161), (3, 162), (3, 167), (1, 2), (3, 164), (3, 165), (3, 166), (3, 70), (1, 5), (3, 67), (3, 69), (0, 1)] = true := by decide +kernel
set_option maxRecDepth 100000 in
theorem x116_ : inAt (rqM vwCl tMth tXn d116_.1.cls v116_) [(1, 229), (3, 144), (3, 143), (1, 6), (3, 140), (3, 141), (3, 142), (3, 116), (1, 4), (3, 113), (3, 114), (3, 115), (3, 70), (1, 5), (3, 67), (3, 69), (0, 1)] = true := by decide +kernel
set_option maxRecDepth 100000 in
theorem x117_ : inAt (rqM vwCl tMth tXn d117_.1.cls v117_) [(1, 238), (2, 0), (2, 2), (3, 54), (1, 5), (3, 63), (3, 52), (3, 53), (3, 66), (1, 5), (3, 64), (3, 65), (3, 74), (1, 5), (3, 71), (3, 73), (0, 2), (3, 139), (1, 5), (3, 136), (3, 138), (0, 12), (3, 147), (1, 5), (3, 145), (3, 146), (3, 70), (1, 5), (3, 67), (3, 69), (0, 1), (3, 151), (1, 5), (3, 148), (3, 150), (0, 13), (3, 116), (1, 4), (3, 113), (3, 114), (3, 115)] = true := by decide +kernel
set_option maxRecDepth 100000 in
theorem x118_ : inAt (rqM vwCl tMth tXn d118_.1.cls v118_) [(2, 0), (2, 1), (1, 67), (1, 236), (3, 104), (1, 5), (3, 101), (3, 103), (0, 6), (3, 70), (1, 5), (3, 67), (3, 69), (0, 1), (3, 112), (1, 5), (3, 109), (3, 111), (0, 8), (3, 116), (1, 4), (3, 113), (3, 114), (3, 115), (3, 120), (1, 5), (3, 117), (3, 119), (0, 9)] = true := by decide +kernel
set_option maxRecDepth 100000 in
theorem x119_ : inAt (rqM vwCl tMth tXn d119_.1.cls v119_) [(2, 4), (3, 108), (1, 5), (3, 105), (3, 107), (0, 7), (3, 112), (1, 5), (3, 109), (3, 111), (0, 8), (3, 70), (1, 5), (3, 67), (3, 69), (0, 1), (3, 116), (1, 4), (3, 113), (3, 114), (3, 115)] = true := by decide +kernel
set_option maxRecDepth 100000 in
theorem x120_ : inAt (rqM vwCl tMth tXn d120_.1.cls v120_) [(2, 0), (2, 1), (3, 54), (1, 5), (3, 63), (3, 52), (3, 53), (3, 96), (1, 5), (3, 94), (3, 95), (3, 135), (1, 5), (3, 132), (3, 134), (0, 11), (3, 74), (1, 5), (3, 71), (3, 73), (0, 2), (3, 223), (1, 5), (3, 220), (3, 222), (0, 19)] = true := by decide +kernel
set_option maxRecDepth 100000 in
theorem x121_ : inAt (rqM vwCl tMth tXn d121_.1.cls v121_) [(1, 90), (1, 238), (1, 69), (1, 92), (2, 0), (2, 1), (1, 95), (1, 94), (3, 70), (1, 5), (3, 67), (3, 69), (0, 1), (3, 116), (1, 4), (3, 113), (3, 114), (3, 115), (3, 54), (1, 5), (3, 63), (3, 52), (3, 53), (3, 66), (1, 5), (3, 64), (3, 65), (3, 74), (1, 5), (3, 71), (3, 73), (0, 2), (3, 127), (1, 5), (3, 125), (3, 126), (3, 96), (1, 5), (3, 94), (3, 95), (3, 104), (1, 5), (3, 101), (3, 103), (0, 6)] = true := by decide +kernel
set_option maxRecDepth 100000 in
theorem x122_ : inAt (rqM vwCl tMth tXn d122_.1.cls v122_) [(1, 67), (1, 238), (3, 54), (1, 5), (3, 63), (3, 52), (3, 53), (3, 96), (1, 5), (3, 94), (3, 95), (3, 74), (1, 5), (3, 71), (3, 73), (0, 2), (3, 100), (1, 5), (3, 97), (3, 99), (0, 5), (3, 124), (1, 5), (3, 121), (3, 123), (0, 10), (3, 116), (1, 4), (3, 113), (3, 114), (3, 115), (3, 135), (1, 5), (3, 132), (3, 134), (0, 11)] = true := by decide +kernel
set_option maxRecDepth 100000 in
theorem x123_ : inAt (rqM vwCl tMth tXn d123_.1.cls v123_) [(1, 53), (1, 56)] = true := by decide +kernel
set_option maxRecDepth 100000 in
theorem x124_ : inAt (rqM vwCl tMth tXn d124_.1.cls v124_) [(2, 0), (2, 1), (1, 236), (1, 238), (1, 82), (3, 86), (1, 4), (3, 83), (3, 84), (3, 85), (3, 54), (1, 5), (3, 63), (3, 52), (3, 53), (3, 70), (1, 5), (3, 67), (3, 69), (0, 1), (3, 93), (1, 5), (3, 90), (3, 92), (0, 4), (3, 155), (1, 5), (3, 153), (3, 154), (3, 159), (1, 5), (3, 156), (3, 158), (0, 14)] = true := by decide +kernel
set_option maxRecDepth 100000 in
theorem x125_ : inAt (rqM vwCl tMth tXn d125_.1.cls v125_) [(1, 139), (1, 142), (1, 238), (1, 135), (3, 50), (1, 5), (3, 47), (3, 49), (0, 0), (3, 54), (1, 5), (3, 63), (3, 52), (3, 53), (3, 66), (1, 5), (3, 64), (3, 65), (3, 70), (1, 5), (3, 67), (3, 69), (0, 1), (3, 74), (1, 5), (3, 71), (3, 73), (0, 2), (3, 82), (1, 5), (3, 79), (3, 81), (0, 3)] = true := by decide +kernel
set_option maxRecDepth 100000 in
theorem x126_ : inAt (rqM vwCl tMth tXn d126_.1.cls v126_) [(1, 69), (1, 53), (1, 59), (3, 70), (1, 5), (3, 67), (3, 69), (0, 1)] = true := by decide +kernel
set_option maxRecDepth 100000 in
theorem x127_ : inAt (rqM vwCl tMth tXn d127_.1.cls v127_) [(1, 238), (3, 54), (1, 5), (3, 63), (3, 52), (3, 53), (3, 70), (1, 5), (3, 67), (3, 69), (0, 1), (3, 179), (1, 5), (3, 176), (3, 177), (3, 178)] = true := by decide +kernel
set_option maxRecDepth 100000 in
theorem x128_ : inAt (rqM vwCl tMth tXn d128_.1.cls v128_) [(1, 238), (3, 54), (1, 5), (3, 63), (3, 52), (3, 53), (3, 70), (1, 5), (3, 67), (3, 69), (0, 1)] = true := by decide +kernel
set_option maxRecDepth 100000 in
theorem x129_ : inAt (rqM vwCl tMth tXn d129_.1.cls v129_) [(1, 228), (1, 74), (3, 175), (1, 5), (3, 172), (3, 173), (3, 174), (3, 183), (1, 2), (3, 180), (3, 181), (3, 182), (3, 191), (1, 2), (3, 188), (3, 189), (3, 190), (3, 70), (1, 5), (3, 67), (3, 69), (0, 1)] = true := by decide +kernel
set_option maxRecDepth 100000 in
theorem x130_ : inAt (rqM vwCl tMth tXn d130_.1.cls v130_) [(1, 238), (1, 233), (1, 231), (1, 228), (1, 175), (1, 74), (3, 54), (1, 5), (3, 63), (3, 52), (3, 53), (3, 70), (1, 5), (3, 67), (3, 69), (0, 1)] = true := by decide +kernel
set_option maxRecDepth 100000 in
theorem x131_ : inAt (rqM vwCl tMth tXn d131_.1.cls v131_) [(2, 8), (2, 4), (2, 7), (2, 6), (3, 70), (1, 5), (3, 67), (3, 69), (0, 1)] = true := by decide +kernel
set_option maxRecDepth 100000 in
theorem x132_ : inAt (rqM vwCl tMth tXn d132_.1.cls v132_) [(1, 69), (1, 53), (1, 56), (1, 59), (1, 90), (1, 94), (1, 95), (3, 112), (1, 5), (3, 109), (3, 111), (0, 8), (3, 70), (1, 5), (3, 67), (3, 69), (0, 1)] = true := by decide +kernel
set_option maxRecDepth 100000 in
theorem x133_ : inAt (rqM vwCl tMth tXn d133_.1.cls v133_) [(1, 238), (1, 67), (1, 233), (1, 231), (3, 54), (1, 5), (3, 63), (3, 52), (3, 53), (3, 70), (1, 5), (3, 67), (3, 69), (0, 1)] = true := by decide +kernel
set_option maxRecDepth 100000 in
theorem x134_ : inAt (rqM vwCl tMth tXn d134_.1.cls v134_) [(3, 86), (1, 4), (3, 83), (3, 84), (3, 85), (3, 231), (1, 5), (3, 228), (3, 230), (0, 21), (3, 223), (1, 5), (3, 220), (3, 222), (0, 19), (3, 219), (1, 5), (3, 216), (3, 218), (0, 18)] = true := by decide +kernel
set_option maxRecDepth 100000 in
theorem x135_ : inAt (rqM vwCl tMth tXn d135_.1.cls v135_) [(2, 0), (2, 1), (1, 86), (1, 238), (1, 67), (1, 236), (3, 215), (3, 74), (1, 5), (3, 71), (3, 73), (0, 2), (3, 70), (1, 5), (3, 67), (3, 69), (0, 1), (3, 86), (1, 4), (3, 83), (3, 84), (3, 85), (3, 104), (1, 5), (3, 101), (3, 103), (0, 6), (3, 112), (1, 5), (3, 109), (3, 111), (0, 8), (3, 219), (1, 5), (3, 216), (3, 218), (0, 18), (3, 54), (1, 5), (3, 63), (3, 52), (3, 53)] = true := by decide +kernel
set_option maxRecDepth 100000 in
theorem x136_ : inAt (rqM vwCl tMth tXn d136_.1.cls v136_) [(1, 238), (2, 0), (2, 2), (3, 54), (1, 5), (3, 63), (3, 52), (3, 53), (3, 66), (1, 5), (3, 64), (3, 65), (3, 70), (1, 5), (3, 67), (3, 69), (0, 1), (3, 74), (1, 5), (3, 71), (3, 73), (0, 2), (3, 82), (1, 5), (3, 79), (3, 81), (0, 3), (3, 96), (1, 5), (3, 94), (3, 95), (3, 214), (1, 5), (3, 211), (3, 213), (0, 17), (3, 227), (1, 5), (3, 224), (3, 226), (0, 20), (3, 86), (1, 4), (3, 83), (3, 84), (3, 85), (3, 139), (1, 5), (3, 136), (3, 138), (0, 12), (3, 231), (1, 5), (3, 228), (3, 230), (0, 21), (3, 219), (1, 5), (3, 216), (3, 218), (0, 18), (3, 147), (1, 5), (3, 145), (3, 146), (3, 151), (1, 5), (3, 148), (3, 150), (0, 13), (3, 116), (1, 4), (3, 113), (3, 114), (3, 115)] = true := by decide +kernel
set_option maxRecDepth 100000 in
theorem x137_ : inAt (rqM vwCl tMth tXn d137_.1.cls v137_) [(1, 239), (1, 139), (1, 142), (1, 67), (1, 84), (1, 238), (1, 135), (3, 206), (1, 3), (3, 203), (3, 204), (3, 205), (3, 210), (1, 5), (3, 207), (3, 209), (0, 16), (3, 54), (1, 5), (3, 63), (3, 52), (3, 53), (3, 235), (1, 5), (3, 232), (3, 234), (0, 22), (3, 239), (1, 5), (3, 236), (3, 238), (0, 23), (3, 70), (1, 5), (3, 67), (3, 69), (0, 1)] = true := by decide +kernel
set_option maxRecDepth 100000 in
theorem x138_ : inAt (rqM vwCl tMth tXn d138_.1.cls v138_) [(1, 172)] = true := by decide +kernel
set_option maxRecDepth 100000 in
theorem x139_ : inAt (rqM vwCl tMth tXn d139_.1.cls v139_) [(1, 176), (1, 165), (1, 177), (1, 170), (1, 178), (1, 172)] = true := by decide +kernel
set_option maxRecDepth 100000 in
theorem x140_ : inAt (rqM vwCl tMth tXn d140_.1.cls v140_) [(2, 170), (2, 172)] = true := by decide +kernel
set_option maxRecDepth 100000 in
theorem x141_ : inAt (rqM vwCl tMth tXn d141_.1.cls v141_) [(3, 11), (3, 9), (4, 23), (1, 13), (4, 20), (4, 21), (4, 22)] = true := by decide +kernel
set_option maxRecDepth 100000 in
theorem x142_ : inAt (rqM vwCl tMth tXn d142_.1.cls v142_) [(3, 5), (1, 232), (4, 114), (1, 5), (4, 111), (4, 112), (4, 113), (4, 46), (1, 19), (1, 16), (4, 68), (4, 77), (4, 83), (4, 86), (4, 88), (4, 69), (4, 70), (1, 31), (1, 32), (4, 71), (4, 76), (4, 84), (4, 100), (4, 58), (4, 101), (4, 60), (4, 102), (4, 62), (4, 72), (4, 74), (4, 64), (4, 90), (4, 91), (4, 92), (4, 93), (4, 93), (4, 94), (4, 95), (4, 96), (4, 96), (4, 97), (4, 98), (4, 69), (4, 89), (4, 47), (4, 55), (4, 56), (4, 57), (4, 59), (4, 61), (4, 63), (4, 67), (4, 66), (4, 65)] = true := by decide +kernel
set_option maxRecDepth 100000 in
theorem x143_ : inAt (rqM vwCl tMth tXn d143_.1.cls v143_) [(3, 5), (1, 232), (4, 123), (1, 20), (1, 16), (4, 68), (4, 77), (4, 83), (4, 86), (4, 88), (4, 69), (4, 70), (1, 31), (1, 32), (4, 71), (4, 76), (4, 84), (4, 100), (4, 58), (4, 101), (4, 60), (4, 102), (4, 62), (4, 72), (4, 74), (4, 64), (4, 133), (4, 134), (4, 135), (4, 93), (4, 93), (4, 94), (4, 95), (4, 96), (4, 96), (4, 97), (4, 98), (4, 69), (4, 132), (4, 124), (4, 126), (4, 80), (4, 127), (4, 128), (4, 129), (4, 130), (4, 67), (4, 66), (4, 131)] = true := by decide +kernel
set_option maxRecDepth 100000 in
theorem x144_ : inAt (rqM vwCl tMth tXn d144_.1.cls v144_) [(3, 4), (3, 5), (1, 173), (1, 133), (1, 234), (3, 42), (1, 2), (3, 39), (3, 40), (3, 41), (3, 46), (1, 5), (3, 43), (3, 44), (3, 45), (3, 54), (1, 5), (3, 51), (3, 52), (3, 53), (3, 58), (1, 2), (3, 55), (3, 56), (3, 57), (3, 62), (1, 5), (3, 59), (3, 60), (3, 61), (3, 171), (1, 5), (3, 168), (3, 169), (3, 170), (3, 198), (1, 5), (3, 195), (3, 196), (3, 197), (3, 202), (1, 5), (3, 199), (3, 200), (3, 201), (4, 3), (1, 2), (4, 0), (4, 1), (4, 2), (4, 7), (1, 5), (4, 4), (4, 5), (4, 6), (4, 11), (1, 2), (4, 8), (4, 9), (4, 10), (4, 15), (1, 2), (4, 12), (4, 13), (4, 14), (4, 19), (1, 1), (4, 16), (4, 18), (0, 24)] = true := by decide +kernel
set_option maxRecDepth 100000 in
theorem x145_ : inAt (rqM vwCl tMth tXn d145_.1.cls v145_) [(3, 4), (1, 173), (3, 5), (1, 133), (1, 234), (3, 58), (1, 2), (3, 55), (3, 56), (3, 57), (3, 46), (1, 5), (3, 43), (3, 44), (3, 45), (3, 62), (1, 5), (3, 59), (3, 60), (3, 61), (3, 175), (1, 5), (4, 28), (3, 173), (3, 174), (4, 32), (1, 5), (4, 29), (4, 30), (4, 31), (4, 7), (1, 5), (4, 4), (4, 5), (4, 6), (3, 183), (1, 2), (4, 33), (3, 181), (3, 182), (4, 37), (1, 2), (4, 34), (4, 35), (4, 36), (4, 19), (1, 1), (4, 16), (4, 18), (0, 24)] = true := by decide +kernel
set_option maxRecDepth 100000 in
theorem x146_ : inAt (rqM vwCl tMth tXn d146_.1.cls v146_) [(1, 172), (1, 163), (3, 58), (1, 2), (4, 149), (3, 56), (3, 57)] = true := by decide +kernel
set_option maxRecDepth 100000 in
theorem x147_ : inAt (rqM vwCl tMth tXn d147_.1.cls v147_) [(3, 4), (1, 173), (4, 148), (1, 2), (4, 145), (4, 146), (4, 147), (4, 19), (1, 1), (4, 16), (4, 18), (0, 24), (4, 46), (1, 19), (1, 16), (4, 68), (4, 77), (4, 83), (4, 86), (4, 88), (4, 69), (4, 70), (1, 31), (1, 32), (4, 71), (4, 76), (4, 84), (4, 100), (4, 58), (4, 101), (4, 60), (4, 102), (4, 62), (4, 72), (4, 74), (4, 64), (4, 90), (4, 91), (4, 92), (4, 93), (4, 93), (4, 94), (4, 95), (4, 96), (4, 96), (4, 97), (4, 98), (4, 69), (4, 89), (4, 47), (4, 55), (4, 56), (4, 57), (4, 59), (4, 61), (4, 63), (4, 67), (4, 66), (4, 65)] = true := by decide +kernel
set_option maxRecDepth 100000 in
theorem x148_ : inAt (rqM vwCl tMth tXn d148_.1.cls v148_) [(3, 11), (5, 170), (1, 24), (1, 16), (4, 68), (4, 77), (4, 83), (4, 86), (4, 88), (4, 69), (4, 70), (1, 31), (1, 32), (4, 71), (4, 76), (4, 84), (4, 100), (4, 58), (4, 101), (4, 60), (4, 102), (4, 62), (4, 72), (4, 74), (4, 64), (5, 180), (5, 181), (5, 182), (4, 93), (4, 93), (4, 94), (4, 95), (4, 96), (4, 96), (4, 97), (4, 98), (4, 69), (5, 179), (5, 171), (5, 173), (4, 81), (5, 174), (5, 175), (5, 176), (5, 177), (4, 67), (4, 66), (5, 178)] = true := by decide +kernel
set_option maxRecDepth 100000 in
theorem x149_ : inAt (rqM vwCl tMth tXn d149_.1.cls v149_) [(3, 6), (2, 100), (5, 169), (1, 1), (5, 166), (5, 168), (0, 47), (4, 46), (1, 19), (1, 16), (4, 68), (4, 77), (4, 83), (4, 86), (4, 88), (4, 69), (4, 70), (1, 31), (1, 32), (4, 71), (4, 76), (4, 84), (4, 100), (4, 58), (4, 101), (4, 60), (4, 102), (4, 62), (4, 72), (4, 74), (4, 64), (4, 90), (4, 91), (4, 92), (4, 93), (4, 93), (4, 94), (4, 95), (4, 96), (4, 96), (4, 97), (4, 98), (4, 69), (4, 89), (4, 47), (4, 55), (4, 56), (4, 57), (4, 59), (4, 61), (4, 63), (4, 67), (4, 66), (4, 65)] = true := by decide +kernel
set_option maxRecDepth 100000 in
theorem x150_ : inAt (rqM vwCl tMth tXn d150_.1.cls v150_) [(5, 67)] = true := by decide +kernel
set_option maxRecDepth 100000 in
theorem x151_ : inAt (rqM vwCl tMth tXn d151_.1.cls v151_) [(5, 189), (5, 67), (5, 66), (1, 1), (5, 188), (5, 65)] = true := by decide +kernel
set_option maxRecDepth 100000 in
theorem x152_ : inAt (rqM vwCl tMth tXn d152_.1.cls v152_) [(3, 6), (2, 83), (3, 4), (1, 158), (2, 86), (2, 88), (2, 93), (1, 155), (2, 80), (5, 190), (5, 165), (1, 1), (5, 162), (5, 164), (0, 46), (5, 187), (1, 1), (5, 185), (5, 186), (4, 123), (1, 20), (1, 16), (4, 68), (4, 77), (4, 83), (4, 86), (4, 88), (4, 69), (4, 70), (1, 31), (1, 32), (4, 71), (4, 76), (4, 84), (4, 100), (4, 58), (4, 101), (4, 60), (4, 102), (4, 62), (4, 72), (4, 74), (4, 64), (4, 133), (4, 134), (4, 135), (4, 93), (4, 93), (4, 94), (4, 95), (4, 96), (4, 96), (4, 97), (4, 98), (4, 69), (4, 132), (4, 124), (4, 126), (4, 80), (4, 127), (4, 128), (4, 129), (4, 130), (4, 67), (4, 66), (4, 131)] = true := by decide +kernel
set_option maxRecDepth 100000 in
theorem x153_ : inAt (rqM vwCl tMth tXn d153_.1.cls v153_) [(3, 6), (2, 93), (2, 90), (5, 165), (1, 1), (5, 162), (5, 164), (0, 46), (4, 46), (1, 19), (1, 16), (4, 68), (4, 77), (4, 83), (4, 86), (4, 88), (4, 69), (4, 70), (1, 31), (1, 32), (4, 71), (4, 76), (4, 84), (4, 100), (4, 58), (4, 101), (4, 60), (4, 102), (4, 62), (4, 72), (4, 74), (4, 64), (4, 90), (4, 91), (4, 92), (4, 93), (4, 93), (4, 94), (4, 95), (4, 96), (4, 96), (4, 97), (4, 98), (4, 69), (4, 89), (4, 47), (4, 55), (4, 56), (4, 57), (4, 59), (4, 61), (4, 63), (4, 67), (4, 66), (4, 65)] = true := by decide +kernel
set_option maxRecDepth 100000 in
theorem x154_ : inAt (rqM vwCl tMth tXn d154_.1.cls v154_) [(3, 9), (2, 171), (2, 173), (2, 169), (2, 59), (1, 9), (6, 18), (2, 58), (5, 187), (1, 1), (5, 185), (5, 186), (4, 46), (1, 19), (1, 16), (4, 68), (4, 77), (4, 83), (4, 86), (4, 88), (4, 69), (4, 70), (1, 31), (1, 32), (4, 71), (4, 76), (4, 84), (4, 100), (4, 58), (4, 101), (4, 60), (4, 102), (4, 62), (4, 72), (4, 74), (4, 64), (4, 90), (4, 91), (4, 92), (4, 93), (4, 93), (4, 94), (4, 95), (4, 96), (4, 96), (4, 97), (4, 98), (4, 69), (4, 89), (4, 47), (4, 55), (4, 56), (4, 57), (4, 59), (4, 61), (4, 63), (4, 67), (4, 66), (4, 65), (4, 46), (1, 19), (1, 16), (4, 68), (4, 77), (4, 83), (4, 86), (4, 88), (4, 69), (4, 70), (1, 31), (1, 32), (4, 71), (4, 76), (4, 84), (4, 100), (4, 58), (4, 101), (4, 60), (4, 102), (4, 62), (4, 72), (4, 74), (4, 64), (4, 90), (4, 91), (4, 92), (4, 93), (4, 93), (4, 94), (4, 95), (4, 96), (4, 96), (4, 97), (4, 98), (4, 69), (4, 89), (4, 47), (4, 55), (4, 56), (4, 57), (4, 59), (4, 61), (4, 63), (4, 67), (4, 66), (4, 65)] = true := by decide +kernel
set_option maxRecDepth 100000 in
theorem x155_ : inAt (rqM vwCl tMth tXn d155_.1.cls v155_) [(3, 4), (1, 166), (1, 158), (5, 169), (1, 1), (5, 166), (5, 168), (0, 47), (4, 46), (1, 19), (1, 16), (4, 68), (4, 77), (4, 83), (4, 86), (4, 88), (4, 69), (4, 70), (1, 31), (1, 32), (4, 71), (4, 76), (4, 84), (4, 100), (4, 58), (4, 101), (4, 60), (4, 102), (4, 62), (4, 72), (4, 74), (4, 64), (4, 90), (4, 91), (4, 92), (4, 93), (4, 93), (4, 94), (4, 95), (4, 96), (4, 96), (4, 97), (4, 98), (4, 69), (4, 89), (4, 47), (4, 55), (4, 56), (4, 57), (4, 59), (4, 61), (4, 63), (4, 67), (4, 66), (4, 65)] = true := by decide +kernel
set_option maxRecDepth 100000 in
theorem x156_ : inAt (rqM vwCl tMth tXn d156_.1.cls v156_) [(3, 8), (2, 236), (2, 234), (4, 46), (1, 19), (1, 16), (4, 68), (4, 77), (4, 83), (4, 86), (4, 88), (4, 69), (4, 70), (1, 31), (1, 32), (4, 71), (4, 76), (4, 84), (4, 100), (4, 58), (4, 101), (4, 60), (4, 102), (4, 62), (4, 72), (4, 74), (4, 64), (4, 90), (4, 91), (4, 92), (4, 93), (4, 93), (4, 94), (4, 95), (4, 96), (4, 96), (4, 97), (4, 98), (4, 69), (4, 89), (4, 47), (4, 55), (4, 56), (4, 57), (4, 59), (4, 61), (4, 63), (4, 67), (4, 66), (4, 65)] = true := by decide +kernel
set_option maxRecDepth 100000 in
theorem x157_ : inAt (rqM vwCl tMth tXn d157_.1.cls v157_) [(3, 5), (1, 232), (3, 8), (2, 236), (3, 4), (1, 173), (1, 171), (1, 166), (3, 11), (3, 6), (2, 100), (3, 12), (3, 13), (1, 167), (1, 230), (1, 222), (4, 123), (1, 20), (1, 16), (4, 68), (4, 77), (4, 83), (4, 86), (4, 88), (4, 69), (4, 70), (1, 31), (1, 32), (4, 71), (4, 76), (4, 84), (4, 100), (4, 58), (4, 101), (4, 60), (4, 102), (4, 62), (4, 72), (4, 74), (4, 64), (4, 133), (4, 134), (4, 135), (4, 93), (4, 93), (4, 94), (4, 95), (4, 96), (4, 96), (4, 97), (4, 98), (4, 69), (4, 132), (4, 124), (4, 126), (4, 80), (4, 127), (4, 128), (4, 129), (4, 130), (4, 67), (4, 66), (4, 131)] = true := by decide +kernel
set_option maxRecDepth 100000 in
theorem x158_ : inAt (rqM vwCl tMth tXn d158_.1.cls v158_) [(2, 235)] = true := by decide +kernel
set_option maxRecDepth 100000 in
theorem x159_ : inAt (rqM vwCl tMth tXn d159_.1.cls v159_) [(2, 235), (2, 233)] = true := by decide +kernel
set_option maxRecDepth 100000 in
theorem x160_ : inAt (rqM vwCl tMth tXn d160_.1.cls v160_) [] = true := by decide +kernel
set_option maxRecDepth 100000 in
theorem x161_ : inAt (rqM vwCl tMth tXn d161_.1.cls v161_) [(5, 213), (5, 216), (1, 14), (5, 214), (5, 215), (5, 220), (1, 14), (5, 217), (5, 218), (5, 219)] = true := by decide +kernel
set_option maxRecDepth 100000 in
theorem x162_ : inAt (rqM vwCl tMth tXn d162_.1.cls v162_) [(5, 226), (5, 220), (1, 14), (5, 217), (5, 218), (5, 219)] = true := by decide +kernel
set_option maxRecDepth 100000 in
theorem x163_ : inAt (rqM vwCl tMth tXn d163_.1.cls v163_) [(3, 6), (2, 83), (3, 8), (3, 4), (1, 153), (1, 155), (2, 80), (3, 5), (1, 230), (2, 236), (5, 67), (5, 165), (1, 1), (5, 162), (5, 164), (0, 46), (5, 208), (1, 14), (5, 205), (5, 206), (5, 207), (5, 212), (1, 14), (5, 209), (5, 210), (5, 211), (5, 220), (1, 14), (5, 221), (5, 218), (5, 219), (5, 66), (1, 1), (5, 188), (5, 65), (5, 225), (1, 14), (5, 222), (5, 223), (5, 224), (5, 230), (1, 6), (5, 227), (5, 228), (5, 229)] = true := by decide +kernel
set_option maxRecDepth 100000 in
theorem x164_ : inAt (rqM vwCl tMth tXn d164_.1.cls v164_) [(2, 67), (2, 65), (1, 10), (2, 63), (2, 64)] = true := by decide +kernel
set_option maxRecDepth 100000 in
theorem x165_ : inAt (rqM vwCl tMth tXn d165_.1.cls v165_) [(2, 66), (2, 67), (4, 219)] = true := by decide +kernel
set_option maxRecDepth 100000 in
theorem x166_ : inAt (rqM vwCl tMth tXn d166_.1.cls v166_) [(2, 69)] = true := by decide +kernel
set_option maxRecDepth 100000 in
theorem x167_ : inAt (rqM vwCl tMth tXn d167_.1.cls v167_) [(2, 66), (2, 67), (2, 69), (2, 68), (4, 219)] = true := by decide +kernel
set_option maxRecDepth 100000 in
theorem x168_ : inAt (rqM vwCl tMth tXn d168_.1.cls v168_) [(2, 98), (2, 101), (2, 102), (2, 103), (4, 196), (1, 8), (4, 193), (4, 194), (4, 195)] = true := by decide +kernel
set_option maxRecDepth 100000 in
theorem x169_ : inAt (rqM vwCl tMth tXn d169_.1.cls v169_) [(2, 95), (4, 214)] = true := by decide +kernel
set_option maxRecDepth 100000 in
theorem x170_ : inAt (rqM vwCl tMth tXn d170_.1.cls v170_) [(4, 214)] = true := by decide +kernel
set_option maxRecDepth 100000 in
theorem x171_ : inAt (rqM vwCl tMth tXn d171_.1.cls v171_) [(2, 79), (2, 95)] = true := by decide +kernel
set_option maxRecDepth 100000 in
theorem x172_ : inAt (rqM vwCl tMth tXn d172_.1.cls v172_) [(2, 103), (2, 82), (4, 213), (1, 7), (4, 210), (4, 212), (0, 28), (4, 218), (1, 8), (4, 215), (4, 216), (4, 217), (4, 223), (1, 7), (4, 220), (4, 222), (0, 29), (4, 227), (1, 8), (4, 224), (4, 225), (4, 226)] = true := by decide +kernel
set_option maxRecDepth 100000 in
theorem x173_ : inAt (rqM vwCl tMth tXn d173_.1.cls v173_) [(2, 98), (2, 82), (2, 85), (2, 87), (2, 92), (2, 101), (2, 103), (2, 79), (2, 95), (2, 102), (4, 235), (1, 8), (4, 232), (4, 233), (4, 234), (4, 213), (1, 7), (4, 210), (4, 212), (0, 28), (4, 238), (1, 7), (4, 236), (4, 237)] = true := by decide +kernel
set_option maxRecDepth 100000 in
theorem x174_ : inAt (rqM vwCl tMth tXn d174_.1.cls v174_) [(2, 101), (2, 98), (2, 82), (4, 218), (1, 8), (4, 215), (4, 216), (4, 217)] = true := by decide +kernel
set_option maxRecDepth 100000 in
theorem x175_ : inAt (rqM vwCl tMth tXn d175_.1.cls v175_) [(2, 101), (4, 227), (1, 8), (4, 224), (4, 225), (4, 226)] = true := by decide +kernel
set_option maxRecDepth 100000 in
theorem x176_ : inAt (rqM vwCl tMth tXn d176_.1.cls v176_) [(2, 102), (4, 227), (1, 8), (4, 224), (4, 225), (4, 226)] = true := by decide +kernel
set_option maxRecDepth 100000 in
theorem x177_ : inAt (rqM vwCl tMth tXn d177_.1.cls v177_) [(2, 102), (4, 238), (1, 7), (4, 236), (4, 237), (4, 218), (1, 8), (4, 215), (4, 216), (4, 217), (5, 98), (1, 7), (5, 95), (5, 97), (0, 39)] = true := by decide +kernel
set_option maxRecDepth 100000 in
theorem x178_ : inAt (rqM vwCl tMth tXn d178_.1.cls v178_) [(2, 102), (4, 227), (1, 8), (4, 224), (4, 225), (4, 226), (5, 98), (1, 7), (5, 95), (5, 97), (0, 39)] = true := by decide +kernel
set_option maxRecDepth 100000 in
theorem x179_ : inAt (rqM vwCl tMth tXn d179_.1.cls v179_) [(2, 147), (2, 149), (4, 196), (1, 8), (5, 18), (4, 194), (4, 195)] = true := by decide +kernel
set_option maxRecDepth 100000 in
theorem x180_ : inAt (rqM vwCl tMth tXn d180_.1.cls v180_) [(5, 47)] = true := by decide +kernel
set_option maxRecDepth 100000 in
theorem x181_ : inAt (rqM vwCl tMth tXn d181_.1.cls v181_) [(2, 141)] = true := by decide +kernel
set_option maxRecDepth 100000 in
theorem x182_ : inAt (rqM vwCl tMth tXn d182_.1.cls v182_) [(2, 149), (2, 147), (2, 141), (2, 143), (2, 145), (5, 46), (1, 12), (5, 44), (5, 45), (4, 218), (1, 8), (5, 48), (4, 216), (4, 217), (5, 52), (1, 12), (5, 49), (5, 51), (0, 36), (4, 227), (1, 8), (5, 53), (4, 225), (4, 226), (4, 235), (1, 8), (5, 55), (4, 233), (4, 234)] = true := by decide +kernel
set_option maxRecDepth 100000 in
theorem x183_ : inAt (rqM vwCl tMth tXn d183_.1.cls v183_) [(2, 143), (2, 145)] = true := by decide +kernel
set_option maxRecDepth 100000 in
theorem x184_ : inAt (rqM vwCl tMth tXn d184_.1.cls v184_) [(2, 145), (2, 143), (5, 66), (1, 1), (5, 65)] = true := by decide +kernel
set_option maxRecDepth 100000 in
theorem x185_ : inAt (rqM vwCl tMth tXn d185_.1.cls v185_) [(2, 143), (2, 145), (5, 66), (1, 1), (5, 65), (2, 59), (1, 9), (5, 72), (2, 58)] = true := by decide +kernel
set_option maxRecDepth 100000 in
theorem x186_ : inAt (rqM vwCl tMth tXn d186_.1.cls v186_) [(2, 143), (2, 145), (5, 66), (1, 1), (5, 65), (2, 62), (1, 9), (5, 77), (2, 61)] = true := by decide +kernel
set_option maxRecDepth 100000 in
theorem x187_ : inAt (rqM vwCl tMth tXn d187_.1.cls v187_) [(3, 11), (3, 5), (3, 4), (1, 173), (1, 133), (1, 234), (1, 78), (3, 6), (2, 97), (1, 62), (4, 7), (1, 5), (4, 4), (4, 5), (4, 6), (3, 58), (1, 2), (3, 55), (3, 56), (3, 57), (3, 46), (1, 5), (3, 43), (3, 44), (3, 45), (3, 62), (1, 5), (3, 59), (3, 60), (3, 61), (3, 179), (1, 5), (5, 238), (3, 177), (3, 178), (4, 32), (1, 5), (4, 29), (4, 30), (4, 31), (4, 209), (1, 7), (5, 239), (4, 207), (4, 208), (5, 170), (1, 24), (1, 16), (4, 68), (4, 77), (4, 83), (4, 86), (4, 88), (4, 69), (4, 70), (1, 31), (1, 32), (4, 71), (4, 76), (4, 84), (4, 100), (4, 58), (4, 101), (4, 60), (4, 102), (4, 62), (4, 72), (4, 74), (4, 64), (5, 180), (5, 181), (5, 182), (4, 93), (4, 93), (4, 94), (4, 95), (4, 96), (4, 96), (4, 97), (4, 98), (4, 69), (5, 179), (5, 171), (5, 173), (4, 81), (5, 174), (5, 175), (5, 176), (5, 177), (4, 67), (4, 66), (5, 178)] = true := by decide +kernel
set_option maxRecDepth 100000 in
theorem x188_ : inAt (rqM vwCl tMth tXn d188_.1.cls v188_) [(1, 140), (1, 66), (1, 136), (1, 89), (1, 156), (1, 77), (3, 206), (1, 3), (4, 168), (3, 204), (3, 205), (2, 62), (1, 9), (4, 169), (2, 61)] = true := by decide +kernel
set_option maxRecDepth 100000 in
theorem x189_ : inAt (rqM vwCl tMth tXn d189_.1.cls v189_) [(1, 156), (1, 172), (1, 165), (1, 136), (1, 77), (1, 168), (2, 65), (1, 10), (4, 163), (2, 64), (3, 58), (1, 2), (4, 149), (3, 56), (3, 57), (4, 167), (1, 2), (4, 164), (4, 166), (0, 26), (2, 62), (1, 9), (4, 169), (2, 61)] = true := by decide +kernel
set_option maxRecDepth 100000 in
theorem x190_ : inAt (rqM vwCl tMth tXn d190_.1.cls v190_) [(1, 54), (2, 188), (1, 57), (1, 63)] = true := by decide +kernel
set_option maxRecDepth 100000 in
theorem x191_ : inAt (rqM vwCl tMth tXn d191_.1.cls v191_) [(2, 186), (2, 84), (1, 76), (1, 70), (2, 81), (1, 54), (2, 188), (1, 57), (5, 35), (1, 11), (5, 32), (5, 34), (0, 34)] = true := by decide +kernel
set_option maxRecDepth 100000 in
theorem x192_ : inAt (rqM vwCl tMth tXn d192_.1.cls v192_) [(1, 81), (2, 186), (1, 76), (5, 90), (1, 7), (5, 87), (5, 88), (5, 89), (5, 35), (1, 11), (5, 32), (5, 34), (0, 34), (5, 94), (1, 7), (5, 91), (5, 92), (5, 93)] = true := by decide +kernel
set_option maxRecDepth 100000 in
theorem x193_ : inAt (rqM vwCl tMth tXn d193_.1.cls v193_) [(1, 81), (2, 186), (5, 130), (1, 7), (5, 127), (5, 128), (5, 129), (5, 134), (1, 7), (5, 131), (5, 132), (5, 133)] = true := by decide +kernel
set_option maxRecDepth 100000 in
theorem x194_ : inAt (rqM vwCl tMth tXn d194_.1.cls v194_) [(2, 195), (5, 86), (1, 11), (5, 83), (5, 85), (0, 38), (5, 102), (1, 11), (5, 99), (5, 101), (0, 40), (5, 126), (1, 11), (5, 123), (5, 125), (0, 42)] = true := by decide +kernel
set_option maxRecDepth 100000 in
theorem x195_ : inAt (rqM vwCl tMth tXn d195_.1.cls v195_) [(1, 65), (2, 188), (1, 85), (5, 144), (5, 145), (5, 35), (1, 11), (5, 32), (5, 34), (0, 34), (5, 66), (1, 1), (5, 65)] = true := by decide +kernel
set_option maxRecDepth 100000 in
theorem x196_ : inAt (rqM vwCl tMth tXn d196_.1.cls v196_) [(2, 183), (2, 189), (1, 83), (5, 107), (5, 108), (1, 23), (1, 16), (4, 68), (4, 77), (4, 83), (4, 86), (4, 88), (4, 69), (4, 70), (1, 31), (1, 32), (4, 71), (4, 76), (4, 84), (4, 100), (4, 58), (4, 101), (4, 60), (4, 102), (4, 62), (4, 72), (4, 74), (4, 64), (5, 118), (5, 119), (5, 120), (4, 93), (4, 93), (4, 94), (4, 95), (4, 96), (4, 96), (4, 97), (4, 98), (4, 69), (5, 117), (5, 109), (5, 111), (4, 79), (5, 112), (5, 113), (5, 114), (5, 115), (4, 67), (4, 66), (5, 116)] = true := by decide +kernel
set_option maxRecDepth 100000 in
theorem x197_ : inAt (rqM vwCl tMth tXn d197_.1.cls v197_) [(2, 186), (4, 209), (1, 7), (4, 206), (4, 207), (4, 208), (4, 231), (1, 7), (4, 228), (4, 229), (4, 230), (4, 239), (1, 19), (1, 16), (4, 68), (4, 77), (4, 83), (4, 86), (4, 88), (4, 69), (4, 70), (1, 31), (1, 32), (4, 71), (4, 76), (4, 84), (4, 100), (4, 58), (4, 101), (4, 60), (4, 102), (4, 62), (4, 72), (4, 74), (4, 64), (4, 90), (4, 91), (4, 92), (4, 93), (4, 93), (4, 94), (4, 95), (4, 96), (4, 96), (4, 97), (4, 98), (4, 69), (5, 0), (4, 47), (4, 55), (4, 56), (4, 57), (4, 59), (4, 61), (4, 63), (4, 67), (4, 66), (4, 65)] = true := by decide +kernel
set_option maxRecDepth 100000 in
theorem x198_ : inAt (rqM vwCl tMth tXn d198_.1.cls v198_) [(2, 185), (1, 157), (1, 134), (1, 76)] = true := by decide +kernel
set_option maxRecDepth 100000 in
theorem x199_ : inAt (rqM vwCl tMth tXn d199_.1.cls v199_) [(2, 185), (1, 169), (1, 160), (1, 157), (1, 162), (2, 186), (2, 96), (4, 205), (1, 11), (4, 202), (4, 204), (0, 27)] = true := by decide +kernel
set_option maxRecDepth 100000 in
theorem x200_ : inAt (rqM vwCl tMth tXn d200_.1.cls v200_) [(2, 186), (2, 183), (4, 192), (1, 7), (4, 189), (4, 190), (4, 191)] = true := by decide +kernel
set_option maxRecDepth 100000 in
theorem x201_ : inAt (rqM vwCl tMth tXn d201_.1.cls v201_) [(2, 187), (2, 148), (2, 146), (2, 142), (2, 186), (2, 96), (1, 91), (2, 144), (1, 76), (4, 205), (1, 11), (4, 202), (4, 204), (0, 27)] = true := by decide +kernel
set_option maxRecDepth 100000 in
theorem x202_ : inAt (rqM vwCl tMth tXn d202_.1.cls v202_) [(2, 193), (2, 194), (2, 191), (2, 192), (2, 197)] = true := by decide +kernel
set_option maxRecDepth 100000 in
theorem x203_ : inAt (rqM vwCl tMth tXn d203_.1.cls v203_) [(2, 170), (2, 168)] = true := by decide +kernel
set_option maxRecDepth 100000 in
theorem x204_ : inAt (rqM vwCl tMth tXn d204_.1.cls v204_) [(2, 187), (2, 186), (2, 96), (1, 88), (2, 188), (1, 93), (5, 43), (1, 12), (5, 40), (5, 41), (5, 42), (5, 59), (1, 12), (5, 56), (5, 57), (5, 58), (5, 63), (1, 12), (5, 60), (5, 61), (5, 62), (5, 71), (1, 12), (5, 68), (5, 69), (5, 70), (5, 76), (1, 12), (5, 73), (5, 74), (5, 75), (4, 239), (1, 19), (1, 16), (4, 68), (4, 77), (4, 83), (4, 86), (4, 88), (4, 69), (4, 70), (1, 31), (1, 32), (4, 71), (4, 76), (4, 84), (4, 100), (4, 58), (4, 101), (4, 60), (4, 102), (4, 62), (4, 72), (4, 74), (4, 64), (4, 90), (4, 91), (4, 92), (4, 93), (4, 93), (4, 94), (4, 95), (4, 96), (4, 96), (4, 97), (4, 98), (4, 69), (5, 0), (4, 47), (4, 55), (4, 56), (4, 57), (4, 59), (4, 61), (4, 63), (4, 67), (4, 66), (4, 65)] = true := by decide +kernel
set_option maxRecDepth 100000 in
theorem x205_ : inAt (rqM vwCl tMth tXn d205_.1.cls v205_) [(2, 193), (2, 190), (2, 188), (2, 191), (1, 134), (2, 186), (2, 96), (1, 70), (1, 76), (2, 194), (2, 192), (2, 99), (2, 94), (1, 141), (2, 189), (2, 91), (5, 30), (1, 13), (5, 27), (5, 28), (5, 29), (5, 35), (1, 11), (5, 32), (5, 34), (0, 34), (5, 39), (1, 11), (5, 36), (5, 38), (0, 35), (4, 205), (1, 11), (4, 202), (4, 204), (0, 27)] = true := by decide +kernel
set_option maxRecDepth 100000 in
theorem x206_ : inAt (rqM vwCl tMth tXn d206_.1.cls v206_) [(2, 191), (1, 138), (1, 65), (5, 26), (1, 11), (5, 23), (5, 25), (0, 33), (3, 206), (1, 3), (5, 78), (3, 204), (3, 205), (5, 82), (1, 11), (5, 79), (5, 81), (0, 37), (5, 138), (1, 11), (5, 135), (5, 137), (0, 43), (5, 142), (1, 11), (5, 139), (5, 141), (0, 44), (5, 22), (1, 11), (5, 19), (5, 21), (0, 32)] = true := by decide +kernel
set_option maxRecDepth 100000 in
theorem x207_ : inAt (rqM vwCl tMth tXn d207_.1.cls v207_) [(2, 194), (2, 197), (1, 83), (2, 191), (1, 141), (2, 196), (2, 195), (5, 86), (1, 11), (5, 83), (5, 85), (0, 38), (5, 102), (1, 11), (5, 99), (5, 101), (0, 40), (5, 106), (1, 11), (5, 103), (5, 105), (0, 41), (5, 22), (1, 11), (5, 19), (5, 21), (0, 32), (5, 126), (1, 11), (5, 123), (5, 125), (0, 42)] = true := by decide +kernel
set_option maxRecDepth 100000 in
theorem x208_ : inAt (rqM vwCl tMth tXn d208_.1.cls v208_) [(2, 190), (2, 186), (2, 99), (2, 195), (2, 183), (5, 13), (1, 11), (5, 10), (5, 12), (0, 31), (5, 22), (1, 11), (5, 19), (5, 21), (0, 32)] = true := by decide +kernel
set_option maxRecDepth 100000 in
theorem x209_ : inAt (rqM vwCl tMth tXn d209_.1.cls v209_) [(2, 185), (1, 174), (1, 134), (1, 88), (2, 186), (2, 99), (2, 195), (2, 187), (3, 58), (1, 2), (5, 5), (3, 56), (3, 57), (5, 9), (1, 11), (5, 6), (5, 8), (0, 30), (5, 13), (1, 11), (5, 10), (5, 12), (0, 31), (5, 17), (1, 12), (5, 14), (5, 15), (5, 16), (5, 22), (1, 11), (5, 19), (5, 21), (0, 32), (5, 149), (1, 11), (5, 146), (5, 148), (0, 45)] = true := by decide +kernel
set_option maxRecDepth 100000 in
theorem x210_ : inAt (rqM vwCl tMth tXn d210_.1.cls v210_) [(2, 186), (2, 99), (2, 196), (2, 195), (2, 185), (1, 174), (1, 141), (1, 134), (1, 88), (3, 58), (1, 2), (5, 5), (3, 56), (3, 57), (5, 9), (1, 11), (5, 6), (5, 8), (0, 30), (5, 13), (1, 11), (5, 10), (5, 12), (0, 31), (5, 22), (1, 11), (5, 19), (5, 21), (0, 32)] = true := by decide +kernel
set_option maxRecDepth 100000 in
theorem x211_ : inAt (rqM vwCl tMth tXn d211_.1.cls v211_) [(3, 4), (3, 7), (1, 167), (3, 13), (2, 184), (3, 12), (3, 11), (3, 6), (2, 100), (4, 19), (1, 1), (4, 16), (4, 18), (0, 24), (4, 162), (1, 2), (4, 159), (4, 160), (4, 161), (4, 188), (1, 11), (4, 185), (4, 186), (4, 187), (4, 200), (1, 11), (4, 197), (4, 198), (4, 199), (5, 4), (1, 11), (5, 1), (5, 2), (5, 3), (5, 153), (1, 11), (5, 150), (5, 151), (5, 152), (4, 170), (1, 22), (1, 16), (4, 68), (4, 77), (4, 83), (4, 86), (4, 88), (4, 69), (4, 70), (1, 31), (1, 32), (4, 71), (4, 76), (4, 84), (4, 100), (4, 58), (4, 101), (4, 60), (4, 102), (4, 62), (4, 72), (4, 74), (4, 64), (4, 180), (4, 181), (4, 182), (4, 93), (4, 93), (4, 94), (4, 95), (4, 96), (4, 96), (4, 97), (4, 98), (4, 69), (4, 179), (4, 171), (4, 173), (4, 82), (4, 174), (4, 175), (4, 176), (4, 177), (4, 67), (4, 66), (4, 178)] = true := by decide +kernel
set_option maxRecDepth 100000 in
theorem x212_ : inAt (rqM vwCl tMth tXn d212_.1.cls v212_) [(3, 11), (3, 5), (3, 4), (1, 173), (1, 234), (3, 10), (1, 237), (2, 173), (3, 7), (3, 9), (2, 184), (3, 12), (2, 171), (4, 7), (1, 5), (4, 4), (4, 5), (4, 6), (3, 58), (1, 2), (3, 55), (3, 56), (3, 57), (3, 46), (1, 5), (3, 43), (3, 44), (3, 45), (3, 202), (1, 5), (3, 199), (3, 200), (3, 201), (4, 23), (1, 13), (4, 20), (4, 21), (4, 22), (6, 10), (1, 11), (6, 7), (6, 8), (6, 9), (5, 170), (1, 24), (1, 16), (4, 68), (4, 77), (4, 83), (4, 86), (4, 88), (4, 69), (4, 70), (1, 31), (1, 32), (4, 71), (4, 76), (4, 84), (4, 100), (4, 58), (4, 101), (4, 60), (4, 102), (4, 62), (4, 72), (4, 74), (4, 64), (5, 180), (5, 181), (5, 182), (4, 93), (4, 93), (4, 94), (4, 95), (4, 96), (4, 96), (4, 97), (4, 98), (4, 69), (5, 179), (5, 171), (5, 173), (4, 81), (5, 174), (5, 175), (5, 176), (5, 177), (4, 67), (4, 66), (5, 178)] = true := by decide +kernel
set_option maxRecDepth 100000 in
theorem x213_ : inAt (rqM vwCl tMth tXn d213_.1.cls v213_) [(4, 45), (1, 1), (4, 42), (4, 43), (4, 44), (4, 41)] = true := by decide +kernel
set_option maxRecDepth 100000 in
theorem x214_ : inAt (rqM vwCl tMth tXn d214_.1.cls v214_) [(4, 122), (1, 1), (4, 119), (4, 120), (4, 121), (4, 118)] = true := by decide +kernel
set_option maxRecDepth 100000 in
theorem x215_ : inAt (rqM vwCl tMth tXn d215_.1.cls v215_) [(4, 144), (1, 1), (4, 141), (4, 142), (4, 143), (4, 41)] = true := by decide +kernel
set_option maxRecDepth 100000 in
theorem x216_ : inAt (rqM vwCl tMth tXn d216_.1.cls v216_) [(4, 158), (1, 1), (4, 155), (4, 156), (4, 157), (4, 153), (4, 154), (4, 41)] = true := by decide +kernel
set_option maxRecDepth 100000 in
theorem x217_ : inAt (rqM vwCl tMth tXn d217_.1.cls v217_) [(5, 161), (1, 1), (5, 158), (5, 159), (5, 160), (4, 118), (5, 157), (4, 41)] = true := by decide +kernel
set_option maxRecDepth 100000 in
theorem x218_ : inAt (rqM vwCl tMth tXn d218_.1.cls v218_) [(5, 197), (1, 1), (5, 194), (5, 195), (5, 196), (5, 157), (4, 41)] = true := by decide +kernel
set_option maxRecDepth 100000 in
theorem x219_ : inAt (rqM vwCl tMth tXn d219_.1.cls v219_) [(5, 204), (1, 1), (5, 201), (5, 202), (5, 203), (5, 157), (4, 41)] = true := by decide +kernel
set_option maxRecDepth 100000 in
theorem x220_ : inAt (rqM vwCl tMth tXn d220_.1.cls v220_) [(5, 237), (1, 1), (5, 234), (5, 235), (5, 236), (5, 157)] = true := by decide +kernel
set_option maxRecDepth 100000 in
theorem x221_ : inAt (rqM vwCl tMth tXn d221_.1.cls v221_) [(6, 6), (1, 1), (6, 3), (6, 4), (6, 5), (5, 157), (4, 154)] = true := by decide +kernel
set_option maxRecDepth 100000 in
theorem x222_ : inAt (rqM vwCl tMth tXn d222_.1.cls v222_) [(6, 17), (1, 1), (6, 14), (6, 15), (6, 16), (4, 41)] = true := by decide +kernel
set_option maxRecDepth 100000 in
theorem x223_ : inAt (rqM vwCl tMth tXn d223_.1.cls v223_) [(6, 25), (1, 1), (6, 22), (6, 23), (6, 24), (5, 157), (4, 41)] = true := by decide +kernel
set_option maxRecDepth 100000 in
theorem x224_ : inAt (rqM vwCl tMth tXn d224_.1.cls v224_) [(6, 32), (1, 1), (6, 29), (6, 30), (6, 31), (4, 41)] = true := by decide +kernel
set_option maxRecDepth 100000 in
theorem x225_ : inAt (rqM vwCl tMth tXn d225_.1.cls v225_) [(6, 39), (1, 1), (6, 36), (6, 37), (6, 38), (4, 118)] = true := by decide +kernel
set_option maxRecDepth 100000 in
theorem x226_ : inAt (rqM vwCl tMth tXn d226_.1.cls v226_) [(3, 4), (3, 5), (3, 6), (3, 7), (3, 8), (3, 9), (3, 10), (1, 33), (1, 34), (1, 2), (1, 208), (1, 209), (1, 5), (2, 45), (2, 46), (1, 7), (2, 127), (2, 128), (1, 11), (2, 227), (2, 228), (1, 14), (3, 2), (2, 163), (1, 13), (1, 30), (1, 31), (1, 32), (1, 37), (1, 2), (1, 35), (1, 36), (1, 212), (1, 5), (1, 210), (1, 211), (2, 49), (1, 7), (2, 48), (2, 131), (1, 11), (2, 129), (2, 130), (2, 231), (1, 14), (2, 230), (2, 166), (1, 13), (2, 165)] = true := by decide +kernel
set_option maxRecDepth 100000 in
theorem x227_ : inAt (rqM vwCl tMth tXn d227_.1.cls v227_) [(1, 152), (1, 154), (1, 156), (1, 159), (1, 161), (1, 163), (1, 164), (1, 39), (1, 41), (1, 3), (1, 39), (1, 38), (1, 31), (1, 32), (1, 44), (1, 3), (1, 42), (1, 43)] = true := by decide +kernel
set_option maxRecDepth 100000 in
theorem x228_ : inAt (rqM vwCl tMth tXn d228_.1.cls v228_) [(1, 132), (1, 137), (1, 46), (1, 47), (1, 4), (1, 46), (1, 45), (1, 31), (1, 32), (1, 50), (1, 4), (1, 49)] = true := by decide +kernel
set_option maxRecDepth 100000 in
theorem x229_ : inAt (rqM vwCl tMth tXn d229_.1.cls v229_) [(1, 52), (1, 55), (1, 58), (1, 60), (1, 51), (1, 31), (1, 32)] = true := by decide +kernel
set_option maxRecDepth 100000 in
theorem x230_ : inAt (rqM vwCl tMth tXn d230_.1.cls v230_) [(1, 229), (1, 231), (2, 3), (2, 4), (2, 6), (2, 7), (1, 228), (1, 214), (1, 215), (1, 6), (1, 213), (1, 31), (1, 32), (1, 218), (1, 6), (1, 217)] = true := by decide +kernel
set_option maxRecDepth 100000 in
theorem x231_ : inAt (rqM vwCl tMth tXn d231_.1.cls v231_) [(1, 220), (1, 219), (1, 31), (1, 32)] = true := by decide +kernel
set_option maxRecDepth 100000 in
theorem x232_ : inAt (rqM vwCl tMth tXn d232_.1.cls v232_) [(2, 79), (2, 82), (2, 85), (2, 87), (2, 89), (2, 92), (2, 95), (2, 101), (2, 102), (2, 103), (2, 51), (2, 52), (1, 8), (2, 50), (1, 31), (1, 32), (2, 55), (1, 8), (2, 53), (2, 54)] = true := by decide +kernel
set_option maxRecDepth 100000 in
theorem x233_ : inAt (rqM vwCl tMth tXn d233_.1.cls v233_) [(2, 66), (2, 67), (2, 68), (2, 69), (2, 56), (1, 31), (1, 32), (2, 59), (1, 9), (2, 57), (2, 58), (2, 62), (1, 9), (2, 60), (2, 61), (2, 65), (1, 10), (2, 63), (2, 64)] = true := by decide +kernel
set_option maxRecDepth 100000 in
theorem x234_ : inAt (rqM vwCl tMth tXn d234_.1.cls v234_) [(2, 187), (2, 188), (2, 189), (2, 190), (2, 191), (2, 185), (2, 186), (2, 133), (2, 134), (1, 12), (2, 162), (2, 163), (1, 13), (2, 181), (1, 41), (1, 3), (2, 132), (1, 31), (1, 32), (2, 137), (1, 12), (2, 136), (2, 166), (1, 13), (2, 165), (1, 44), (1, 3), (2, 182), (1, 43)] = true := by decide +kernel
set_option maxRecDepth 100000 in
theorem x235_ : inAt (rqM vwCl tMth tXn d235_.1.cls v235_) [(2, 141), (2, 143), (2, 145), (2, 149), (2, 139), (2, 52), (1, 8), (2, 138), (1, 31), (1, 32), (2, 55), (1, 8), (2, 140), (2, 54)] = true := by decide +kernel
set_option maxRecDepth 100000 in
theorem x236_ : inAt (rqM vwCl tMth tXn d236_.1.cls v236_) [(2, 168), (2, 167), (1, 31), (1, 32)] = true := by decide +kernel
set_option maxRecDepth 100000 in
theorem x237_ : inAt (rqM vwCl tMth tXn d237_.1.cls v237_) [(2, 233), (2, 232), (1, 31), (1, 32)] = true := by decide +kernel
set_option maxRecDepth 100000 in
theorem x238_ : inAt (rqM vwCl tMth tXn d238_.1.cls v238_) [(6, 53), (6, 54), (6, 57), (6, 58), (6, 59), (6, 62), (6, 63), (6, 64), (6, 67), (6, 68), (6, 71), (6, 72), (6, 73), (6, 74), (6, 75), (6, 76), (6, 77), (6, 78), (6, 79), (6, 80), (6, 81), (6, 82), (6, 83), (6, 93), (6, 94), (6, 95), (6, 103), (6, 104), (6, 105), (6, 106), (6, 107), (6, 108), (6, 109), (6, 112), (6, 114), (6, 115), (6, 116), (6, 117), (6, 118), (6, 119), (6, 120), (6, 121), (6, 122), (6, 130), (6, 131), (6, 132), (6, 137), (6, 138), (6, 139), (6, 140), (6, 141), (6, 143), (6, 144), (6, 50), (6, 51), (6, 49), (1, 31), (1, 32)] = true := by decide +kernel
set_option maxRecDepth 100000 in
theorem e0_0 : ((v0_.2.1.drop 0).take 60).all (fun z => decide (decode d0_.2.1 z.1 = .ok (z.2.1, z.2.2))) = true := by decide +kernel
set_option maxRecDepth 100000 in
theorem e0_ : ∀ z ∈ v0_.2.1, decode d0_.2.1 z.1 = .ok (z.2.1, z.2.2) := tDrop [0] (by decide +kernel) (by simp only [List.forall_mem_cons]; exact ⟨e0_0, fun _ h => by cases h⟩)
set_option maxRecDepth 100000 in
theorem e1_0 : ((v1_.2.1.drop 0).take 60).all (fun z => decide (decode d1_.2.1 z.1 = .ok (z.2.1, z.2.2))) = true := by decide +kernel
set_option maxRecDepth 100000 in
theorem e1_ : ∀ z ∈ v1_.2.1, decode d1_.2.1 z.1 = .ok (z.2.1, z.2.2) := tDrop [0] (by decide +kernel) (by simp only [List.forall_mem_cons]; exact ⟨e1_0, fun _ h => by cases h⟩)
set_option maxRecDepth 100000 in
theorem e2_0 : ((v2_.2.1.drop 0).take 60).all (fun z => decide (decode d2_.2.1 z.1 = .ok (z.2.1, z.2.2))) = true := by decide +kernel
set_option maxRecDepth 100000 in
theorem e2_ : ∀ z ∈ v2_.2.1, decode d2_.2.1 z.1 = .ok (z.2.1, z.2.2) := tDrop [0] (by decide +kernel) (by simp only [List.forall_mem_cons]; exact ⟨e2_0, fun _ h => by cases h⟩)
set_option maxRecDepth 100000 in
theorem e3_0 : ((v3_.2.1.drop 0).take 60).all (fun z => decide (decode d3_.2.1 z.1 = .ok (z.2.1, z.2.2))) = true := by decide +kernel
set_option maxRecDepth 100000 in
theorem e3_ : ∀ z ∈ v3_.2.1, decode d3_.2.1 z.1 = .ok (z.2.1, z.2.2) := tDrop [0] (by decide +kernel) (by simp only [List.forall_mem_cons]; exact ⟨e3_0, fun _ h => by cases h⟩)
set_option maxRecDepth 100000 in
theorem e4_0 : ((v4_.2.1.drop 0).take 60).all (fun z => decide (decode d4_.2.1 z.1 = .ok (z.2.1, z.2.2))) = true := by decide +kernel
set_option maxRecDepth 100000 in
theorem e4_ : ∀ z ∈ v4_.2.1, decode d4_.2.1 z.1 = .ok (z.2.1, z.2.2) := tDrop [0] (by decide +kernel) (by simp only [List.forall_mem_cons]; exact ⟨e4_0, fun _ h => by cases h⟩)
set_option maxRecDepth 100000 in
theorem e5_0 : ((v5_.2.1.drop 0).take 60).all (fun z => decide (decode d5_.2.1 z.1 = .ok (z.2.1, z.2.2))) = true := by decide +kernel
set_option maxRecDepth 100000 in
theorem e5_ : ∀ z ∈ v5_.2.1, decode d5_.2.1 z.1 = .ok (z.2.1, z.2.2) := tDrop [0] (by decide +kernel) (by simp only [List.forall_mem_cons]; exact ⟨e5_0, fun _ h => by cases h⟩)
set_option maxRecDepth 100000 in
theorem e6_0 : ((v6_.2.1.drop 0).take 60).all (fun z => decide (decode d6_.2.1 z.1 = .ok (z.2.1, z.2.2))) = true := by decide +kernel
set_option maxRecDepth 100000 in
theorem e6_ : ∀ z ∈ v6_.2.1, decode d6_.2.1 z.1 = .ok (z.2.1, z.2.2) := tDrop [0] (by decide +kernel) (by simp only [List.forall_mem_cons]; exact ⟨e6_0, fun _ h => by cases h⟩)
set_option maxRecDepth 100000 in
theorem e7_0 : ((v7_.2.1.drop 0).take 60).all (fun z => decide (decode d7_.2.1 z.1 = .ok (z.2.1, z.2.2))) = true := by decide +kernel
set_option maxRecDepth 100000 in
theorem e7_ : ∀ z ∈ v7_.2.1, decode d7_.2.1 z.1 = .ok (z.2.1, z.2.2) := tDrop [0] (by decide +kernel) (by simp only [List.forall_mem_cons]; exact ⟨e7_0, fun _ h => by cases h⟩)
set_option maxRecDepth 100000 in
theorem e8_0 : ((v8_.2.1.drop 0).take 60).all (fun z => decide (decode d8_.2.1 z.1 = .ok (z.2.1, z.2.2))) = true := by decide +kernel
set_option maxRecDepth 100000 in
theorem e8_ : ∀ z ∈ v8_.2.1, decode d8_.2.1 z.1 = .ok (z.2.1, z.2.2) := tDrop [0] (by decide +kernel) (by simp only [List.forall_mem_cons]; exact ⟨e8_0, fun _ h => by cases h⟩)
set_option maxRecDepth 100000 in
theorem e9_0 : ((v9_.2.1.drop 0).take 60).all (fun z => decide (decode d9_.2.1 z.1 = .ok (z.2.1, z.2.2))) = true := by decide +kernel
set_option maxRecDepth 100000 in
theorem e9_ : ∀ z ∈ v9_.2.1, decode d9_.2.1 z.1 = .ok (z.2.1, z.2.2) := tDrop [0] (by decide +kernel) (by simp only [List.forall_mem_cons]; exact ⟨e9_0, fun _ h => by cases h⟩)
set_option maxRecDepth 100000 in
theorem e10_0 : ((v10_.2.1.drop 0).take 60).all (fun z => decide (decode d10_.2.1 z.1 = .ok (z.2.1, z.2.2))) = true := by decide +kernel
set_option maxRecDepth 100000 in
theorem e10_ : ∀ z ∈ v10_.2.1, decode d10_.2.1 z.1 = .ok (z.2.1, z.2.2) := tDrop [0] (by decide +kernel) (by simp only [List.forall_mem_cons]; exact ⟨e10_0, fun _ h => by cases h⟩)
set_option maxRecDepth 100000 in
theorem e11_0 : ((v11_.2.1.drop 0).take 60).all (fun z => decide (decode d11_.2.1 z.1 = .ok (z.2.1, z.2.2))) = true := by decide +kernel
set_option maxRecDepth 100000 in
theorem e11_ : ∀ z ∈ v11_.2.1, decode d11_.2.1 z.1 = .ok (z.2.1, z.2.2) := tDrop [0] (by decide +kernel) (by simp only [List.forall_mem_cons]; exact ⟨e11_0, fun _ h => by cases h⟩)
set_option maxRecDepth 100000 in
theorem e12_0 : ((v12_.2.1.drop 0).take 60).all (fun z => decide (decode d12_.2.1 z.1 = .ok (z.2.1, z.2.2))) = true := by decide +kernel
set_option maxRecDepth 100000 in
theorem e12_ : ∀ z ∈ v12_.2.1, decode d12_.2.1 z.1 = .ok (z.2.1, z.2.2) := tDrop [0] (by decide +kernel) (by simp only [List.forall_mem_cons]; exact ⟨e12_0, fun _ h => by cases h⟩)
set_option maxRecDepth 100000 in
theorem e13_0 : ((v13_.2.1.drop 0).take 60).all (fun z => decide (decode d13_.2.1 z.1 = .ok (z.2.1, z.2.2))) = true := by decide +kernel
set_option maxRecDepth 100000 in
theorem e13_60 : ((v13_.2.1.drop 60).take 60).all (fun z => decide (decode d13_.2.1 z.1 = .ok (z.2.1, z.2.2))) = true := by decide +kernel
set_option maxRecDepth 100000 in
theorem e13_ : ∀ z ∈ v13_.2.1, decode d13_.2.1 z.1 = .ok (z.2.1, z.2.2) := tDrop [0, 60] (by decide +kernel) (by simp only [List.forall_mem_cons]; exact ⟨e13_0, e13_60, fun _ h => by cases h⟩)
set_option maxRecDepth 100000 in
theorem e14_0 : ((v14_.2.1.drop 0).take 60).all (fun z => decide (decode d14_.2.1 z.1 = .ok (z.2.1, z.2.2))) = true := by decide +kernel
set_option maxRecDepth 100000 in
theorem e14_60 : ((v14_.2.1.drop 60).take 60).all (fun z => decide (decode d14_.2.1 z.1 = .ok (z.2.1, z.2.2))) = true := by decide +kernel
set_option maxRecDepth 100000 in
theorem e14_ : ∀ z ∈ v14_.2.1, decode d14_.2.1 z.1 = .ok (z.2.1, z.2.2) := tDrop [0, 60] (by decide +kernel) (by simp only [List.forall_mem_cons]; exact ⟨e14_0, e14_60, fun _ h => by cases h⟩)
set_option maxRecDepth 100000 in
theorem e15_0 : ((v15_.2.1.drop 0).take 60).all (fun z => decide (decode d15_.2.1 z.1 = .ok (z.2.1, z.2.2))) = true := by decide +kernel
set_option maxRecDepth 100000 in
theorem e15_60 : ((v15_.2.1.drop 60).take 60).all (fun z => decide (decode d15_.2.1 z.1 = .ok (z.2.1, z.2.2))) = true := by decide +kernel
set_option maxRecDepth 100000 in
theorem e15_ : ∀ z ∈ v15_.2.1, decode d15_.2.1 z.1 = .ok (z.2.1, z.2.2) := tDrop [0, 60] (by decide +kernel) (by simp only [List.forall_mem_cons]; exact ⟨e15_0, e15_60, fun _ h => by cases h⟩)
set_option maxRecDepth 100000 in
theorem e16_0 : ((v16_.2.1.drop 0).take 60).all (fun z => decide (decode d16_.2.1 z.1 = .ok (z.2.1, z.2.2))) = true := by decide +kernel
set_option maxRecDepth 100000 in
theorem e16_ : ∀ z ∈ v16_.2.1, decode d16_.2.1 z.1 = .ok (z.2.1, z.2.2) := tDrop [0] (by decide +kernel) (by simp only [List.forall_mem_cons]; exact ⟨e16_0, fun _ h => by cases h⟩)
set_option maxRecDepth 100000 in
theorem e17_0 : ((v17_.2.1.drop 0).take 60).all (fun z => decide (decode d17_.2.1 z.1 = .ok (z.2.1, z.2.2))) = true := by decide +kernel
set_option maxRecDepth 100000 in
theorem e17_60 : ((v17_.2.1.drop 60).take 60).all (fun z => decide (decode d17_.2.1 z.1 = .ok (z.2.1, z.2.2))) = true := by decide +kernel
set_option maxRecDepth 100000 in
theorem e17_ : ∀ z ∈ v17_.2.1, decode d17_.2.1 z.1 = .ok (z.2.1, z.2.2) := tDrop [0, 60] (by decide +kernel) (by simp only [List.forall_mem_cons]; exact ⟨e17_0, e17_60, fun _ h => by cases h⟩)
set_option maxRecDepth 100000 in
theorem e18_0 : ((v18_.2.1.drop 0).take 60).all (fun z => decide (decode d18_.2.1 z.1 = .ok (z.2.1, z.2.2))) = true := by decide +kernel
set_option maxRecDepth 100000 in
theorem e18_ : ∀ z ∈ v18_.2.1, decode d18_.2.1 z.1 = .ok (z.2.1, z.2.2) := tDrop [0] (by decide +kernel) (by simp only [List.forall_mem_cons]; exact ⟨e18_0, fun _ h => by cases h⟩)
set_option maxRecDepth 100000 in
theorem e19_0 : ((v19_.2.1.drop 0).take 60).all (fun z => decide (decode d19_.2.1 z.1 = .ok (z.2.1, z.2.2))) = true := by decide +kernel
set_option maxRecDepth 100000 in
theorem e19_60 : ((v19_.2.1.drop 60).take 60).all (fun z => decide (decode d19_.2.1 z.1 = .ok (z.2.1, z.2.2))) = true := by decide +kernel
set_option maxRecDepth 100000 in
theorem e19_ : ∀ z ∈ v19_.2.1, decode d19_.2.1 z.1 = .ok (z.2.1, z.2.2) := tDrop [0, 60] (by decide +kernel) (by simp only [List.forall_mem_cons]; exact ⟨e19_0, e19_60, fun _ h => by cases h⟩)
set_option maxRecDepth 100000 in
theorem e20_0 : ((v20_.2.1.drop 0).take 60).all (fun z => decide (decode d20_.2.1 z.1 = .ok (z.2.1, z.2.2))) = true := by decide +kernel
set_option maxRecDepth 100000 in
theorem e20_ : ∀ z ∈ v20_.2.1, decode d20_.2.1 z.1 = .ok (z.2.1, z.2.2) := tDrop [0] (by decide +kernel) (by simp only [List.forall_mem_cons]; exact ⟨e20_0, fun _ h => by cases h⟩)
set_option maxRecDepth 100000 in
theorem e21_0 : ((v21_.2.1.drop 0).take 60).all (fun z => decide (decode d21_.2.1 z.1 = .ok (z.2.1, z.2.2))) = true := by decide +kernel
set_option maxRecDepth 100000 in
theorem e21_ : ∀ z ∈ v21_.2.1, decode d21_.2.1 z.1 = .ok (z.2.1, z.2.2) := tDrop [0] (by decide +kernel) (by simp only [List.forall_mem_cons]; exact ⟨e21_0, fun _ h => by cases h⟩)
set_option maxRecDepth 100000 in
theorem e22_0 : ((v22_.2.1.drop 0).take 60).all (fun z => decide (decode d22_.2.1 z.1 = .ok (z.2.1, z.2.2))) = true := by decide +kernel
set_option maxRecDepth 100000 in
theorem e22_ : ∀ z ∈ v22_.2.1, decode d22_.2.1 z.1 = .ok (z.2.1, z.2.2) := tDrop [0] (by decide +kernel) (by simp only [List.forall_mem_cons]; exact ⟨e22_0, fun _ h => by cases h⟩)
set_option maxRecDepth 100000 in
theorem e23_0 : ((v23_.2.1.drop 0).take 60).all (fun z => decide (decode d23_.2.1 z.1 = .ok (z.2.1, z.2.2))) = true := by decide +kernel
set_option maxRecDepth 100000 in
theorem e23_ : ∀ z ∈ v23_.2.1, decode d23_.2.1 z.1 = .ok (z.2.1, z.2.2) := tDrop [0] (by decide +kernel) (by simp only [List.forall_mem_cons]; exact ⟨e23_0, fun _ h => by cases h⟩)
set_option maxRecDepth 100000 in
theorem e24_0 : ((v24_.2.1.drop 0).take 60).all (fun z => decide (decode d24_.2.1 z.1 = .ok (z.2.1, z.2.2))) = true := by decide +kernel
set_option maxRecDepth 100000 in
theorem e24_ : ∀ z ∈ v24_.2.1, decode d24_.2.1 z.1 = .ok (z.2.1, z.2.2) := tDrop [0] (by decide +kernel) (by simp only [List.forall_mem_cons]; exact ⟨e24_0, fun _ h => by cases h⟩)
set_option maxRecDepth 100000 in
theorem e25_0 : ((v25_.2.1.drop 0).take 60).all (fun z => decide (decode d25_.2.1 z.1 = .ok (z.2.1, z.2.2))) = true := by decide +kernel
set_option maxRecDepth 100000 in
theorem e25_60 : ((v25_.2.1.drop 60).take 60).all (fun z => decide (decode d25_.2.1 z.1 = .ok (z.2.1, z.2.2))) = true := by decide +kernel
set_option maxRecDepth 100000 in
theorem e25_ : ∀ z ∈ v25_.2.1, decode d25_.2.1 z.1 = .ok (z.2.1, z.2.2) := tDrop [0, 60] (by decide +kernel) (by simp only [List.forall_mem_cons]; exact ⟨e25_0, e25_60, fun _ h => by cases h⟩)
set_option maxRecDepth 100000 in
theorem e26_0 : ((v26_.2.1.drop 0).take 60).all (fun z => decide (decode d26_.2.1 z.1 = .ok (z.2.1, z.2.2))) = true := by decide +kernel
set_option maxRecDepth 100000 in
theorem e26_60 : ((v26_.2.1.drop 60).take 60).all (fun z => decide (decode d26_.2.1 z.1 = .ok (z.2.1, z.2.2))) = true := by decide +kernel
set_option maxRecDepth 100000 in
theorem e26_ : ∀ z ∈ v26_.2.1, decode d26_.2.1 z.1 = .ok (z.2.1, z.2.2) := tDrop [0, 60] (by decide +kernel) (by simp only [List.forall_mem_cons]; exact ⟨e26_0, e26_60, fun _ h => by cases h⟩)
set_option maxRecDepth 100000 in
theorem e27_0 : ((v27_.2.1.drop 0).take 60).all (fun z => decide (decode d27_.2.1 z.1 = .ok (z.2.1, z.2.2))) = true := by decide +kernel
set_option maxRecDepth 100000 in
theorem e27_ : ∀ z ∈ v27_.2.1, decode d27_.2.1 z.1 = .ok (z.2.1, z.2.2) := tDrop [0] (by decide +kernel) (by simp only [List.forall_mem_cons]; exact ⟨e27_0, fun _ h => by cases h⟩)
set_option maxRecDepth 100000 in
theorem e28_0 : ((v28_.2.1.drop 0).take 60).all (fun z => decide (decode d28_.2.1 z.1 = .ok (z.2.1, z.2.2))) = true := by decide +kernel
set_option maxRecDepth 100000 in
theorem e28_60 : ((v28_.2.1.drop 60).take 60).all (fun z => decide (decode d28_.2.1 z.1 = .ok (z.2.1, z.2.2))) = true := by decide +kernel
set_option maxRecDepth 100000 in
theorem e28_ : ∀ z ∈ v28_.2.1, decode d28_.2.1 z.1 = .ok (z.2.1, z.2.2) := tDrop [0, 60] (by decide +kernel) (by simp only [List.forall_mem_cons]; exact ⟨e28_0, e28_60, fun _ h => by cases h⟩)
set_option maxRecDepth 100000 in
theorem e29_0 : ((v29_.2.1.drop 0).take 60).all (fun z => decide (decode d29_.2.1 z.1 = .ok (z.2.1, z.2.2))) = true := by decide +kernel
set_option maxRecDepth 100000 in
theorem e29_ : ∀ z ∈ v29_.2.1, decode d29_.2.1 z.1 = .ok (z.2.1, z.2.2) := tDrop [0] (by decide +kernel) (by simp only [List.forall_mem_cons]; exact ⟨e29_0, fun _ h => by cases h⟩)
set_option maxRecDepth 100000 in
theorem e30_0 : ((v30_.2.1.drop 0).take 60).all (fun z => decide (decode d30_.2.1 z.1 = .ok (z.2.1, z.2.2))) = true := by decide +kernel
set_option maxRecDepth 100000 in
theorem e30_ : ∀ z ∈ v30_.2.1, decode d30_.2.1 z.1 = .ok (z.2.1, z.2.2) := tDrop [0] (by decide +kernel) (by simp only [List.forall_mem_cons]; exact ⟨e30_0, fun _ h => by cases h⟩)
set_option maxRecDepth 100000 in
theorem e31_0 : ((v31_.2.1.drop 0).take 60).all (fun z => decide (decode d31_.2.1 z.1 = .ok (z.2.1, z.2.2))) = true := by decide +kernel
set_option maxRecDepth 100000 in
theorem e31_ : ∀ z ∈ v31_.2.1, decode d31_.2.1 z.1 = .ok (z.2.1, z.2.2) := tDrop [0] (by decide +kernel) (by simp only [List.forall_mem_cons]; exact ⟨e31_0, fun _ h => by cases h⟩)
set_option maxRecDepth 100000 in
theorem e32_0 : ((v32_.2.1.drop 0).take 60).all (fun z => decide (decode d32_.2.1 z.1 = .ok (z.2.1, z.2.2))) = true := by decide +kernel
set_option maxRecDepth 100000 in
theorem e32_ : ∀ z ∈ v32_.2.1, decode d32_.2.1 z.1 = .ok (z.2.1, z.2.2) := tDrop [0] (by decide +kernel) (by simp only [List.forall_mem_cons]; exact ⟨e32_0, fun _ h => by cases h⟩)
set_option maxRecDepth 100000 in
theorem e33_0 : ((v33_.2.1.drop 0).take 60).all (fun z => decide (decode d33_.2.1 z.1 = .ok (z.2.1, z.2.2))) = true := by decide +kernel
set_option maxRecDepth 100000 in
theorem e33_ : ∀ z ∈ v33_.2.1, decode d33_.2.1 z.1 = .ok (z.2.1, z.2.2) := tDrop [0] (by decide +kernel) (by simp only [List.forall_mem_cons]; exact ⟨e33_0, fun _ h => by cases h⟩)
set_option maxRecDepth 100000 in
theorem e34_0 : ((v34_.2.1.drop 0).take 60).all (fun z => decide (decode d34_.2.1 z.1 = .ok (z.2.1, z.2.2))) = true := by decide +kernel
set_option maxRecDepth 100000 in
theorem e34_60 : ((v34_.2.1.drop 60).take 60).all (fun z => decide (decode d34_.2.1 z.1 = .ok (z.2.1, z.2.2))) = true := by decide +kernel
set_option maxRecDepth 100000 in
theorem e34_ : ∀ z ∈ v34_.2.1, decode d34_.2.1 z.1 = .ok (z.2.1, z.2.2) := tDrop [0, 60] (by decide +kernel) (by simp only [List.forall_mem_cons]; exact ⟨e34_0, e34_60, fun _ h => by cases h⟩)
set_option maxRecDepth 100000 in
theorem e35_0 : ((v35_.2.1.drop 0).take 60).all (fun z => decide (decode d35_.2.1 z.1 = .ok (z.2.1, z.2.2))) = true := by decide +kernel
set_option maxRecDepth 100000 in
theorem e35_60 : ((v35_.2.1.drop 60).take 60).all (fun z => decide (decode d35_.2.1 z.1 = .ok (z.2.1, z.2.2))) = true := by decide +kernel
set_option maxRecDepth 100000 in
theorem e35_120 : ((v35_.2.1.drop 120).take 60).all (fun z => decide (decode d35_.2.1 z.1 = .ok (z.2.1, z.2.2))) = true := by decide +kernel
set_option maxRecDepth 100000 in
theorem e35_ : ∀ z ∈ v35_.2.1, decode d35_.2.1 z.1 = .ok (z.2.1, z.2.2) := tDrop [0, 60, 120] (by decide +kernel) (by simp only [List.forall_mem_cons]; exact ⟨e35_0, e35_60, e35_120, fun _ h => by cases h⟩)
set_option maxRecDepth 100000 in
theorem e36_0 : ((v36_.2.1.drop 0).take 60).all (fun z => decide (decode d36_.2.1 z.1 = .ok (z.2.1, z.2.2))) = true := by decide +kernel
set_option maxRecDepth 100000 in
theorem e36_60 : ((v36_.2.1.drop 60).take 60).all (fun z => decide (decode d36_.2.1 z.1 = .ok (z.2.1, z.2.2))) = true := by decide +kernel
set_option maxRecDepth 100000 in
theorem e36_120 : ((v36_.2.1.drop 120).take 60).all (fun z => decide (decode d36_.2.1 z.1 = .ok (z.2.1, z.2.2))) = true := by decide +kernel
set_option maxRecDepth 100000 in
theorem e36_180 : ((v36_.2.1.drop 180).take 60).all (fun z => decide (decode d36_.2.1 z.1 = .ok (z.2.1, z.2.2))) = true := by decide +kernel
set_option maxRecDepth 100000 in
theorem e36_ : ∀ z ∈ v36_.2.1, decode d36_.2.1 z.1 = .ok (z.2.1, z.2.2) := tDrop [0, 60, 120, 180] (by decide +kernel) (by simp only [List.forall_mem_cons]; exact ⟨e36_0, e36_60, e36_120, e36_180, fun _ h => by cases h⟩)
set_option maxRecDepth 100000 in
theorem e37_0 : ((v37_.2.1.drop 0).take 60).all (fun z => decide (decode d37_.2.1 z.1 = .ok (z.2.1, z.2.2))) = true := by decide +kernel
set_option maxRecDepth 100000 in
theorem e37_ : ∀ z ∈ v37_.2.1, decode d37_.2.1 z.1 = .ok (z.2.1, z.2.2) := tDrop [0] (by decide +kernel) (by simp only [List.forall_mem_cons]; exact ⟨e37_0, fun _ h => by cases h⟩)
set_option maxRecDepth 100000 in
theorem e38_0 : ((v38_.2.1.drop 0).take 60).all (fun z => decide (decode d38_.2.1 z.1 = .ok (z.2.1, z.2.2))) = true := by decide +kernel
set_option maxRecDepth 100000 in
theorem e38_60 : ((v38_.2.1.drop 60).take 60).all (fun z => decide (decode d38_.2.1 z.1 = .ok (z.2.1, z.2.2))) = true := by decide +kernel
set_option maxRecDepth 100000 in
theorem e38_ : ∀ z ∈ v38_.2.1, decode d38_.2.1 z.1 = .ok (z.2.1, z.2.2) := tDrop [0, 60] (by decide +kernel) (by simp only [List.forall_mem_cons]; exact ⟨e38_0, e38_60, fun _ h => by cases h⟩)
set_option maxRecDepth 100000 in
theorem e39_0 : ((v39_.2.1.drop 0).take 60).all (fun z => decide (decode d39_.2.1 z.1 = .ok (z.2.1, z.2.2))) = true := by decide +kernel
set_option maxRecDepth 100000 in
theorem e39_ : ∀ z ∈ v39_.2.1, decode d39_.2.1 z.1 = .ok (z.2.1, z.2.2) := tDrop [0] (by decide +kernel) (by simp only [List.forall_mem_cons]; exact ⟨e39_0, fun _ h => by cases h⟩)
set_option maxRecDepth 100000 in
theorem e40_0 : ((v40_.2.1.drop 0).take 60).all (fun z => decide (decode d40_.2.1 z.1 = .ok (z.2.1, z.2.2))) = true := by decide +kernel
set_option maxRecDepth 100000 in
theorem e40_60 : ((v40_.2.1.drop 60).take 60).all (fun z => decide (decode d40_.2.1 z.1 = .ok (z.2.1, z.2.2))) = true := by decide +kernel
set_option maxRecDepth 100000 in
theorem e40_120 : ((v40_.2.1.drop 120).take 60).all (fun z => decide (decode d40_.2.1 z.1 = .ok (z.2.1, z.2.2))) = true := by decide +kernel
set_option maxRecDepth 100000 in
theorem e40_180 : ((v40_.2.1.drop 180).take 60).all (fun z => decide (decode d40_.2.1 z.1 = .ok (z.2.1, z.2.2))) = true := by decide +kernel
set_option maxRecDepth 100000 in
theorem e40_240 : ((v40_.2.1.drop 240).take 60).all (fun z => decide (decode d40_.2.1 z.1 = .ok (z.2.1, z.2.2))) = true := by decide +kernel
set_option maxRecDepth 100000 in
theorem e40_ : ∀ z ∈ v40_.2.1, decode d40_.2.1 z.1 = .ok (z.2.1, z.2.2) := tDrop [0, 60, 120, 180, 240] (by decide +kernel) (by simp only [List.forall_mem_cons]; exact ⟨e40_0, e40_60, e40_120, e40_180, e40_240, fun _ h => by cases h⟩)
set_option maxRecDepth 100000 in
theorem e41_0 : ((v41_.2.1.drop 0).take 60).all (fun z => decide (decode d41_.2.1 z.1 = .ok (z.2.1, z.2.2))) = true := by decide +kernel
set_option maxRecDepth 100000 in
theorem e41_ : ∀ z ∈ v41_.2.1, decode d41_.2.1 z.1 = .ok (z.2.1, z.2.2) := tDrop [0] (by decide +kernel) (by simp only [List.forall_mem_cons]; exact ⟨e41_0, fun _ h => by cases h⟩)
set_option maxRecDepth 100000 in
theorem e42_0 : ((v42_.2.1.drop 0).take 60).all (fun z => decide (decode d42_.2.1 z.1 = .ok (z.2.1, z.2.2))) = true := by decide +kernel
set_option maxRecDepth 100000 in
theorem e42_60 : ((v42_.2.1.drop 60).take 60).all (fun z => decide (decode d42_.2.1 z.1 = .ok (z.2.1, z.2.2))) = true := by decide +kernel
set_option maxRecDepth 100000 in
theorem e42_ : ∀ z ∈ v42_.2.1, decode d42_.2.1 z.1 = .ok (z.2.1, z.2.2) := tDrop [0, 60] (by decide +kernel) (by simp only [List.forall_mem_cons]; exact ⟨e42_0, e42_60, fun _ h => by cases h⟩)
set_option maxRecDepth 100000 in
theorem e43_0 : ((v43_.2.1.drop 0).take 60).all (fun z => decide (decode d43_.2.1 z.1 = .ok (z.2.1, z.2.2))) = true := by decide +kernel
set_option maxRecDepth 100000 in
theorem e43_60 : ((v43_.2.1.drop 60).take 60).all (fun z => decide (decode d43_.2.1 z.1 = .ok (z.2.1, z.2.2))) = true := by decide +kernel
set_option maxRecDepth 100000 in
theorem e43_120 : ((v43_.2.1.drop 120).take 60).all (fun z => decide (decode d43_.2.1 z.1 = .ok (z.2.1, z.2.2))) = true := by decide +kernel
set_option maxRecDepth 100000 in
theorem e43_ : ∀ z ∈ v43_.2.1, decode d43_.2.1 z.1 = .ok (z.2.1, z.2.2) := tDrop [0, 60, 120] (by decide +kernel) (by simp only [List.forall_mem_cons]; exact ⟨e43_0, e43_60, e43_120, fun _ h => by cases h⟩)
set_option maxRecDepth 100000 in
theorem e44_0 : ((v44_.2.1.drop 0).take 60).all (fun z => decide (decode d44_.2.1 z.1 = .ok (z.2.1, z.2.2))) = true := by decide +kernel
set_option maxRecDepth 100000 in
theorem e44_60 : ((v44_.2.1.drop 60).take 60).all (fun z => decide (decode d44_.2.1 z.1 = .ok (z.2.1, z.2.2))) = true := by decide +kernel
set_option maxRecDepth 100000 in
theorem e44_120 : ((v44_.2.1.drop 120).take 60).all (fun z => decide (decode d44_.2.1 z.1 = .ok (z.2.1, z.2.2))) = true := by decide +kernel
set_option maxRecDepth 100000 in
theorem e44_180 : ((v44_.2.1.drop 180).take 60).all (fun z => decide (decode d44_.2.1 z.1 = .ok (z.2.1, z.2.2))) = true := by decide +kernel
set_option maxRecDepth 100000 in
theorem e44_ : ∀ z ∈ v44_.2.1, decode d44_.2.1 z.1 = .ok (z.2.1, z.2.2) := tDrop [0, 60, 120, 180] (by decide +kernel) (by simp only [List.forall_mem_cons]; exact ⟨e44_0, e44_60, e44_120, e44_180, fun _ h => by cases h⟩)
set_option maxRecDepth 100000 in
theorem e45_0 : ((v45_.2.1.drop 0).take 60).all (fun z => decide (decode d45_.2.1 z.1 = .ok (z.2.1, z.2.2))) = true := by decide +kernel
set_option maxRecDepth 100000 in
theorem e45_ : ∀ z ∈ v45_.2.1, decode d45_.2.1 z.1 = .ok (z.2.1, z.2.2) := tDrop [0] (by decide +kernel) (by simp only [List.forall_mem_cons]; exact ⟨e45_0, fun _ h => by cases h⟩)
set_option maxRecDepth 100000 in
theorem e46_0 : ((v46_.2.1.drop 0).take 60).all (fun z => decide (decode d46_.2.1 z.1 = .ok (z.2.1, z.2.2))) = true := by decide +kernel
set_option maxRecDepth 100000 in
theorem e46_ : ∀ z ∈ v46_.2.1, decode d46_.2.1 z.1 = .ok (z.2.1, z.2.2) := tDrop [0] (by decide +kernel) (by simp only [List.forall_mem_cons]; exact ⟨e46_0, fun _ h => by cases h⟩)
set_option maxRecDepth 100000 in
theorem e47_0 : ((v47_.2.1.drop 0).take 60).all (fun z => decide (decode d47_.2.1 z.1 = .ok (z.2.1, z.2.2))) = true := by decide +kernel
set_option maxRecDepth 100000 in
theorem e47_ : ∀ z ∈ v47_.2.1, decode d47_.2.1 z.1 = .ok (z.2.1, z.2.2) := tDrop [0] (by decide +kernel) (by simp only [List.forall_mem_cons]; exact ⟨e47_0, fun _ h => by cases h⟩)
set_option maxRecDepth 100000 in
theorem e48_0 : ((v48_.2.1.drop 0).take 60).all (fun z => decide (decode d48_.2.1 z.1 = .ok (z.2.1, z.2.2))) = true := by decide +kernel
set_option maxRecDepth 100000 in
theorem e48_60 : ((v48_.2.1.drop 60).take 60).all (fun z => decide (decode d48_.2.1 z.1 = .ok (z.2.1, z.2.2))) = true := by decide +kernel
set_option maxRecDepth 100000 in
theorem e48_120 : ((v48_.2.1.drop 120).take 60).all (fun z => decide (decode d48_.2.1 z.1 = .ok (z.2.1, z.2.2))) = true := by decide +kernel
set_option maxRecDepth 100000 in
theorem e48_ : ∀ z ∈ v48_.2.1, decode d48_.2.1 z.1 = .ok (z.2.1, z.2.2) := tDrop [0, 60, 120] (by decide +kernel) (by simp only [List.forall_mem_cons]; exact ⟨e48_0, e48_60, e48_120, fun _ h => by cases h⟩)
set_option maxRecDepth 100000 in
theorem e49_0 : ((v49_.2.1.drop 0).take 60).all (fun z => decide (decode d49_.2.1 z.1 = .ok (z.2.1, z.2.2))) = true := by decide +kernel
set_option maxRecDepth 100000 in
theorem e49_ : ∀ z ∈ v49_.2.1, decode d49_.2.1 z.1 = .ok (z.2.1, z.2.2) := tDrop [0] (by decide +kernel) (by simp only [List.forall_mem_cons]; exact ⟨e49_0, fun _ h => by cases h⟩)
set_option maxRecDepth 100000 in
theorem e50_0 : ((v50_.2.1.drop 0).take 60).all (fun z => decide (decode d50_.2.1 z.1 = .ok (z.2.1, z.2.2))) = true := by decide +kernel
set_option maxRecDepth 100000 in
theorem e50_ : ∀ z ∈ v50_.2.1, decode d50_.2.1 z.1 = .ok (z.2.1, z.2.2) := tDrop [0] (by decide +kernel) (by simp only [List.forall_mem_cons]; exact ⟨e50_0, fun _ h => by cases h⟩)
set_option maxRecDepth 100000 in
theorem e51_0 : ((v51_.2.1.drop 0).take 60).all (fun z => decide (decode d51_.2.1 z.1 = .ok (z.2.1, z.2.2))) = true := by decide +kernel
set_option maxRecDepth 100000 in
theorem e51_60 : ((v51_.2.1.drop 60).take 60).all (fun z => decide (decode d51_.2.1 z.1 = .ok (z.2.1, z.2.2))) = true := by decide +kernel
set_option maxRecDepth 100000 in
theorem e51_120 : ((v51_.2.1.drop 120).take 60).all (fun z => decide (decode d51_.2.1 z.1 = .ok (z.2.1, z.2.2))) = true := by decide +kernel
set_option maxRecDepth 100000 in
theorem e51_ : ∀ z ∈ v51_.2.1, decode d51_.2.1 z.1 = .ok (z.2.1, z.2.2) := tDrop [0, 60, 120] (by decide +kernel) (by simp only [List.forall_mem_cons]; exact ⟨e51_0, e51_60, e51_120, fun _ h => by cases h⟩)
set_option maxRecDepth 100000 in
theorem e52_0 : ((v52_.2.1.drop 0).take 60).all (fun z => decide (decode d52_.2.1 z.1 = .ok (z.2.1, z.2.2))) = true := by decide +kernel
set_option maxRecDepth 100000 in
theorem e52_ : ∀ z ∈ v52_.2.1, decode d52_.2.1 z.1 = .ok (z.2.1, z.2.2) := tDrop [0] (by decide +kernel) (by simp only [List.forall_mem_cons]; exact ⟨e52_0, fun _ h => by cases h⟩)
set_option maxRecDepth 100000 in
theorem e53_0 : ((v53_.2.1.drop 0).take 60).all (fun z => decide (decode d53_.2.1 z.1 = .ok (z.2.1, z.2.2))) = true := by decide +kernel
set_option maxRecDepth 100000 in
theorem e53_ : ∀ z ∈ v53_.2.1, decode d53_.2.1 z.1 = .ok (z.2.1, z.2.2) := tDrop [0] (by decide +kernel) (by simp only [List.forall_mem_cons]; exact ⟨e53_0, fun _ h => by cases h⟩)
set_option maxRecDepth 100000 in
theorem e54_0 : ((v54_.2.1.drop 0).take 60).all (fun z => decide (decode d54_.2.1 z.1 = .ok (z.2.1, z.2.2))) = true := by decide +kernel
set_option maxRecDepth 100000 in
theorem e54_ : ∀ z ∈ v54_.2.1, decode d54_.2.1 z.1 = .ok (z.2.1, z.2.2) := tDrop [0] (by decide +kernel) (by simp only [List.forall_mem_cons]; exact ⟨e54_0, fun _ h => by cases h⟩)
set_option maxRecDepth 100000 in
theorem e55_0 : ((v55_.2.1.drop 0).take 60).all (fun z => decide (decode d55_.2.1 z.1 = .ok (z.2.1, z.2.2))) = true := by decide +kernel
set_option maxRecDepth 100000 in
theorem e55_60 : ((v55_.2.1.drop 60).take 60).all (fun z => decide (decode d55_.2.1 z.1 = .ok (z.2.1, z.2.2))) = true := by decide +kernel
set_option maxRecDepth 100000 in
theorem e55_120 : ((v55_.2.1.drop 120).take 60).all (fun z => decide (decode d55_.2.1 z.1 = .ok (z.2.1, z.2.2))) = true := by decide +kernel
set_option maxRecDepth 100000 in
theorem e55_ : ∀ z ∈ v55_.2.1, decode d55_.2.1 z.1 = .ok (z.2.1, z.2.2) := tDrop [0, 60, 120] (by decide +kernel) (by simp only [List.forall_mem_cons]; exact ⟨e55_0, e55_60, e55_120, fun _ h => by cases h⟩)
set_option maxRecDepth 100000 in
theorem e56_0 : ((v56_.2.1.drop 0).take 60).all (fun z => decide (decode d56_.2.1 z.1 = .ok (z.2.1, z.2.2))) = true := by decide +kernel
set_option maxRecDepth 100000 in
theorem e56_ : ∀ z ∈ v56_.2.1, decode d56_.2.1 z.1 = .ok (z.2.1, z.2.2) := tDrop [0] (by decide +kernel) (by simp only [List.forall_mem_cons]; exact ⟨e56_0, fun _ h => by cases h⟩)
set_option maxRecDepth 100000 in
theorem e57_0 : ((v57_.2.1.drop 0).take 60).all (fun z => decide (decode d57_.2.1 z.1 = .ok (z.2.1, z.2.2))) = true := by decide +kernel
set_option maxRecDepth 100000 in
theorem e57_60 : ((v57_.2.1.drop 60).take 60).all (fun z => decide (decode d57_.2.1 z.1 = .ok (z.2.1, z.2.2))) = true := by decide +kernel
set_option maxRecDepth 100000 in
theorem e57_ : ∀ z ∈ v57_.2.1, decode d57_.2.1 z.1 = .ok (z.2.1, z.2.2) := tDrop [0, 60] (by decide +kernel) (by simp only [List.forall_mem_cons]; exact ⟨e57_0, e57_60, fun _ h => by cases h⟩)
set_option maxRecDepth 100000 in
theorem e58_0 : ((v58_.2.1.drop 0).take 60).all (fun z => decide (decode d58_.2.1 z.1 = .ok (z.2.1, z.2.2))) = true := by decide +kernel
set_option maxRecDepth 100000 in
theorem e58_ : ∀ z ∈ v58_.2.1, decode d58_.2.1 z.1 = .ok (z.2.1, z.2.2) := tDrop [0] (by decide +kernel) (by simp only [List.forall_mem_cons]; exact ⟨e58_0, fun _ h => by cases h⟩)
set_option maxRecDepth 100000 in
theorem e59_0 : ((v59_.2.1.drop 0).take 60).all (fun z => decide (decode d59_.2.1 z.1 = .ok (z.2.1, z.2.2))) = true := by decide +kernel
set_option maxRecDepth 100000 in
theorem e59_ : ∀ z ∈ v59_.2.1, decode d59_.2.1 z.1 = .ok (z.2.1, z.2.2) := tDrop [0] (by decide +kernel) (by simp only [List.forall_mem_cons]; exact ⟨e59_0, fun _ h => by cases h⟩)
set_option maxRecDepth 100000 in
theorem e60_0 : ((v60_.2.1.drop 0).take 60).all (fun z => decide (decode d60_.2.1 z.1 = .ok (z.2.1, z.2.2))) = true := by decide +kernel
set_option maxRecDepth 100000 in
theorem e60_60 : ((v60_.2.1.drop 60).take 60).all (fun z => decide (decode d60_.2.1 z.1 = .ok (z.2.1, z.2.2))) = true := by decide +kernel
set_option maxRecDepth 100000 in
theorem e60_120 : ((v60_.2.1.drop 120).take 60).all (fun z => decide (decode d60_.2.1 z.1 = .ok (z.2.1, z.2.2))) = true := by decide +kernel
set_option maxRecDepth 100000 in
theorem e60_ : ∀ z ∈ v60_.2.1, decode d60_.2.1 z.1 = .ok (z.2.1, z.2.2) := tDrop [0, 60, 120] (by decide +kernel) (by simp only [List.forall_mem_cons]; exact ⟨e60_0, e60_60, e60_120, fun _ h => by cases h⟩)
set_option maxRecDepth 100000 in
theorem e61_0 : ((v61_.2.1.drop 0).take 60).all (fun z => decide (decode d61_.2.1 z.1 = .ok (z.2.1, z.2.2))) = true := by decide +kernel
set_option maxRecDepth 100000 in
theorem e61_ : ∀ z ∈ v61_.2.1, decode d61_.2.1 z.1 = .ok (z.2.1, z.2.2) := tDrop [0] (by decide +kernel) (by simp only [List.forall_mem_cons]; exact ⟨e61_0, fun _ h => by cases h⟩)
set_option maxRecDepth 100000 in
theorem e62_0 : ((v62_.2.1.drop 0).take 60).all (fun z => decide (decode d62_.2.1 z.1 = .ok (z.2.1, z.2.2))) = true := by decide +kernel
set_option maxRecDepth 100000 in
theorem e62_60 : ((v62_.2.1.drop 60).take 60).all (fun z => decide (decode d62_.2.1 z.1 = .ok (z.2.1, z.2.2))) = true := by decide +kernel
set_option maxRecDepth 100000 in
theorem e62_120 : ((v62_.2.1.drop 120).take 60).all (fun z => decide (decode d62_.2.1 z.1 = .ok (z.2.1, z.2.2))) = true := by decide +kernel
set_option maxRecDepth 100000 in
theorem e62_ : ∀ z ∈ v62_.2.1, decode d62_.2.1 z.1 = .ok (z.2.1, z.2.2) := tDrop [0, 60, 120] (by decide +kernel) (by simp only [List.forall_mem_cons]; exact ⟨e62_0, e62_60, e62_120, fun _ h => by cases h⟩)
set_option maxRecDepth 100000 in
theorem e63_0 : ((v63_.2.1.drop 0).take 60).all (fun z => decide (decode d63_.2.1 z.1 = .ok (z.2.1, z.2.2))) = true := by decide +kernel
set_option maxRecDepth 100000 in
theorem e63_60 : ((v63_.2.1.drop 60).take 60).all (fun z => decide (decode d63_.2.1 z.1 = .ok (z.2.1, z.2.2))) = true := by decide +kernel
set_option maxRecDepth 100000 in
theorem e63_ : ∀ z ∈ v63_.2.1, decode d63_.2.1 z.1 = .ok (z.2.1, z.2.2) := tDrop [0, 60] (by decide +kernel) (by simp only [List.forall_mem_cons]; exact ⟨e63_0, e63_60, fun _ h => by cases h⟩)
set_option maxRecDepth 100000 in
theorem e64_0 : ((v64_.2.1.drop 0).take 60).all (fun z => decide (decode d64_.2.1 z.1 = .ok (z.2.1, z.2.2))) = true := by decide +kernel
set_option maxRecDepth 100000 in
theorem e64_60 : ((v64_.2.1.drop 60).take 60).all (fun z => decide (decode d64_.2.1 z.1 = .ok (z.2.1, z.2.2))) = true := by decide +kernel
set_option maxRecDepth 100000 in
theorem e64_120 : ((v64_.2.1.drop 120).take 60).all (fun z => decide (decode d64_.2.1 z.1 = .ok (z.2.1, z.2.2))) = true := by decide +kernel
set_option maxRecDepth 100000 in
theorem e64_ : ∀ z ∈ v64_.2.1, decode d64_.2.1 z.1 = .ok (z.2.1, z.2.2) := tDrop [0, 60, 120] (by decide +kernel) (by simp only [List.forall_mem_cons]; exact ⟨e64_0, e64_60, e64_120, fun _ h => by cases h⟩)
set_option maxRecDepth 100000 in
theorem e65_0 : ((v65_.2.1.drop 0).take 60).all (fun z => decide (decode d65_.2.1 z.1 = .ok (z.2.1, z.2.2))) = true := by decide +kernel
set_option maxRecDepth 100000 in
theorem e65_60 : ((v65_.2.1.drop 60).take 60).all (fun z => decide (decode d65_.2.1 z.1 = .ok (z.2.1, z.2.2))) = true := by decide +kernel
set_option maxRecDepth 100000 in
theorem e65_120 : ((v65_.2.1.drop 120).take 60).all (fun z => decide (decode d65_.2.1 z.1 = .ok (z.2.1, z.2.2))) = true := by decide +kernel
set_option maxRecDepth 100000 in
theorem e65_ : ∀ z ∈ v65_.2.1, decode d65_.2.1 z.1 = .ok (z.2.1, z.2.2) := tDrop [0, 60, 120] (by decide +kernel) (by simp only [List.forall_mem_cons]; exact ⟨e65_0, e65_60, e65_120, fun _ h => by cases h⟩)
set_option maxRecDepth 100000 in
theorem e66_0 : ((v66_.2.1.drop 0).take 60).all (fun z => decide (decode d66_.2.1 z.1 = .ok (z.2.1, z.2.2))) = true := by decide +kernel
set_option maxRecDepth 100000 in
theorem e66_60 : ((v66_.2.1.drop 60).take 60).all (fun z => decide (decode d66_.2.1 z.1 = .ok (z.2.1, z.2.2))) = true := by decide +kernel
set_option maxRecDepth 100000 in
theorem e66_ : ∀ z ∈ v66_.2.1, decode d66_.2.1 z.1 = .ok (z.2.1, z.2.2) := tDrop [0, 60] (by decide +kernel) (by simp only [List.forall_mem_cons]; exact ⟨e66_0, e66_60, fun _ h => by cases h⟩)
set_option maxRecDepth 100000 in
theorem e67_0 : ((v67_.2.1.drop 0).take 60).all (fun z => decide (decode d67_.2.1 z.1 = .ok (z.2.1, z.2.2))) = true := by decide +kernel
set_option maxRecDepth 100000 in
theorem e67_ : ∀ z ∈ v67_.2.1, decode d67_.2.1 z.1 = .ok (z.2.1, z.2.2) := tDrop [0] (by decide +kernel) (by simp only [List.forall_mem_cons]; exact ⟨e67_0, fun _ h => by cases h⟩)
set_option maxRecDepth 100000 in
theorem e68_0 : ((v68_.2.1.drop 0).take 60).all (fun z => decide (decode d68_.2.1 z.1 = .ok (z.2.1, z.2.2))) = true := by decide +kernel
set_option maxRecDepth 100000 in
theorem e68_ : ∀ z ∈ v68_.2.1, decode d68_.2.1 z.1 = .ok (z.2.1, z.2.2) := tDrop [0] (by decide +kernel) (by simp only [List.forall_mem_cons]; exact ⟨e68_0, fun _ h => by cases h⟩)
set_option maxRecDepth 100000 in
theorem e69_0 : ((v69_.2.1.drop 0).take 60).all (fun z => decide (decode d69_.2.1 z.1 = .ok (z.2.1, z.2.2))) = true := by decide +kernel
set_option maxRecDepth 100000 in
theorem e69_60 : ((v69_.2.1.drop 60).take 60).all (fun z => decide (decode d69_.2.1 z.1 = .ok (z.2.1, z.2.2))) = true := by decide +kernel
set_option maxRecDepth 100000 in
theorem e69_ : ∀ z ∈ v69_.2.1, decode d69_.2.1 z.1 = .ok (z.2.1, z.2.2) := tDrop [0, 60] (by decide +kernel) (by simp only [List.forall_mem_cons]; exact ⟨e69_0, e69_60, fun _ h => by cases h⟩)
set_option maxRecDepth 100000 in
theorem e70_0 : ((v70_.2.1.drop 0).take 60).all (fun z => decide (decode d70_.2.1 z.1 = .ok (z.2.1, z.2.2))) = true := by decide +kernel
set_option maxRecDepth 100000 in
theorem e70_ : ∀ z ∈ v70_.2.1, decode d70_.2.1 z.1 = .ok (z.2.1, z.2.2) := tDrop [0] (by decide +kernel) (by simp only [List.forall_mem_cons]; exact ⟨e70_0, fun _ h => by cases h⟩)
set_option maxRecDepth 100000 in
theorem e71_0 : ((v71_.2.1.drop 0).take 60).all (fun z => decide (decode d71_.2.1 z.1 = .ok (z.2.1, z.2.2))) = true := by decide +kernel
set_option maxRecDepth 100000 in
theorem e71_ : ∀ z ∈ v71_.2.1, decode d71_.2.1 z.1 = .ok (z.2.1, z.2.2) := tDrop [0] (by decide +kernel) (by simp only [List.forall_mem_cons]; exact ⟨e71_0, fun _ h => by cases h⟩)
set_option maxRecDepth 100000 in
theorem e72_0 : ((v72_.2.1.drop 0).take 60).all (fun z => decide (decode d72_.2.1 z.1 = .ok (z.2.1, z.2.2))) = true := by decide +kernel
set_option maxRecDepth 100000 in
theorem e72_ : ∀ z ∈ v72_.2.1, decode d72_.2.1 z.1 = .ok (z.2.1, z.2.2) := tDrop [0] (by decide +kernel) (by simp only [List.forall_mem_cons]; exact ⟨e72_0, fun _ h => by cases h⟩)
set_option maxRecDepth 100000 in
theorem e73_0 : ((v73_.2.1.drop 0).take 60).all (fun z => decide (decode d73_.2.1 z.1 = .ok (z.2.1, z.2.2))) = true := by decide +kernel
set_option maxRecDepth 100000 in
theorem e73_ : ∀ z ∈ v73_.2.1, decode d73_.2.1 z.1 = .ok (z.2.1, z.2.2) := tDrop [0] (by decide +kernel) (by simp only [List.forall_mem_cons]; exact ⟨e73_0, fun _ h => by cases h⟩)
set_option maxRecDepth 100000 in
theorem e74_0 : ((v74_.2.1.drop 0).take 60).all (fun z => decide (decode d74_.2.1 z.1 = .ok (z.2.1, z.2.2))) = true := by decide +kernel
set_option maxRecDepth 100000 in
theorem e74_ : ∀ z ∈ v74_.2.1, decode d74_.2.1 z.1 = .ok (z.2.1, z.2.2) := tDrop [0] (by decide +kernel) (by simp only [List.forall_mem_cons]; exact ⟨e74_0, fun _ h => by cases h⟩)
set_option maxRecDepth 100000 in
theorem e75_0 : ((v75_.2.1.drop 0).take 60).all (fun z => decide (decode d75_.2.1 z.1 = .ok (z.2.1, z.2.2))) = true := by decide +kernel
set_option maxRecDepth 100000 in
theorem e75_ : ∀ z ∈ v75_.2.1, decode d75_.2.1 z.1 = .ok (z.2.1, z.2.2) := tDrop [0] (by decide +kernel) (by simp only [List.forall_mem_cons]; exact ⟨e75_0, fun _ h => by cases h⟩)
set_option maxRecDepth 100000 in
theorem e76_0 : ((v76_.2.1.drop 0).take 60).all (fun z => decide (decode d76_.2.1 z.1 = .ok (z.2.1, z.2.2))) = true := by decide +kernel
set_option maxRecDepth 100000 in
theorem e76_ : ∀ z ∈ v76_.2.1, decode d76_.2.1 z.1 = .ok (z.2.1, z.2.2) := tDrop [0] (by decide +kernel) (by simp only [List.forall_mem_cons]; exact ⟨e76_0, fun _ h => by cases h⟩)
set_option maxRecDepth 100000 in
theorem e77_0 : ((v77_.2.1.drop 0).take 60).all (fun z => decide (decode d77_.2.1 z.1 = .ok (z.2.1, z.2.2))) = true := by decide +kernel
set_option maxRecDepth 100000 in
theorem e77_60 : ((v77_.2.1.drop 60).take 60).all (fun z => decide (decode d77_.2.1 z.1 = .ok (z.2.1, z.2.2))) = true := by decide +kernel
set_option maxRecDepth 100000 in
theorem e77_ : ∀ z ∈ v77_.2.1, decode d77_.2.1 z.1 = .ok (z.2.1, z.2.2) := tDrop [0, 60] (by decide +kernel) (by simp only [List.forall_mem_cons]; exact ⟨e77_0, e77_60, fun _ h => by cases h⟩)
set_option maxRecDepth 100000 in
theorem e78_0 : ((v78_.2.1.drop 0).take 60).all (fun z => decide (decode d78_.2.1 z.1 = .ok (z.2.1, z.2.2))) = true := by decide +kernel
set_option maxRecDepth 100000 in
theorem e78_60 : ((v78_.2.1.drop 60).take 60).all (fun z => decide (decode d78_.2.1 z.1 = .ok (z.2.1, z.2.2))) = true := by decide +kernel
set_option maxRecDepth 100000 in
theorem e78_ : ∀ z ∈ v78_.2.1, decode d78_.2.1 z.1 = .ok (z.2.1, z.2.2) := tDrop [0, 60] (by decide +kernel) (by simp only [List.forall_mem_cons]; exact ⟨e78_0, e78_60, fun _ h => by cases h⟩)
set_option maxRecDepth 100000 in
theorem e79_0 : ((v79_.2.1.drop 0).take 60).all (fun z => decide (decode d79_.2.1 z.1 = .ok (z.2.1, z.2.2))) = true := by decide +kernel
set_option maxRecDepth 100000 in
theorem e79_60 : ((v79_.2.1.drop 60).take 60).all (fun z => decide (decode d79_.2.1 z.1 = .ok (z.2.1, z.2.2))) = true := by decide +kernel
set_option maxRecDepth 100000 in
theorem e79_ : ∀ z ∈ v79_.2.1, decode d79_.2.1 z.1 = .ok (z.2.1, z.2.2) := tDrop [0, 60] (by decide +kernel) (by simp only [List.forall_mem_cons]; exact ⟨e79_0, e79_60, fun _ h => by cases h⟩)
set_option maxRecDepth 100000 in
theorem e80_0 : ((v80_.2.1.drop 0).take 60).all (fun z => decide (decode d80_.2.1 z.1 = .ok (z.2.1, z.2.2))) = true := by decide +kernel
set_option maxRecDepth 100000 in
theorem e80_ : ∀ z ∈ v80_.2.1, decode d80_.2.1 z.1 = .ok (z.2.1, z.2.2) := tDrop [0] (by decide +kernel) (by simp only [List.forall_mem_cons]; exact ⟨e80_0, fun _ h => by cases h⟩)
set_option maxRecDepth 100000 in
theorem e81_0 : ((v81_.2.1.drop 0).take 60).all (fun z => decide (decode d81_.2.1 z.1 = .ok (z.2.1, z.2.2))) = true := by decide +kernel
set_option maxRecDepth 100000 in
theorem e81_ : ∀ z ∈ v81_.2.1, decode d81_.2.1 z.1 = .ok (z.2.1, z.2.2) := tDrop [0] (by decide +kernel) (by simp only [List.forall_mem_cons]; exact ⟨e81_0, fun _ h => by cases h⟩)
set_option maxRecDepth 100000 in
theorem e82_0 : ((v82_.2.1.drop 0).take 60).all (fun z => decide (decode d82_.2.1 z.1 = .ok (z.2.1, z.2.2))) = true := by decide +kernel
set_option maxRecDepth 100000 in
theorem e82_ : ∀ z ∈ v82_.2.1, decode d82_.2.1 z.1 = .ok (z.2.1, z.2.2) := tDrop [0] (by decide +kernel) (by simp only [List.forall_mem_cons]; exact ⟨e82_0, fun _ h => by cases h⟩)
set_option maxRecDepth 100000 in
theorem e83_0 : ((v83_.2.1.drop 0).take 60).all (fun z => decide (decode d83_.2.1 z.1 = .ok (z.2.1, z.2.2))) = true := by decide +kernel
set_option maxRecDepth 100000 in
theorem e83_ : ∀ z ∈ v83_.2.1, decode d83_.2.1 z.1 = .ok (z.2.1, z.2.2) := tDrop [0] (by decide +kernel) (by simp only [List.forall_mem_cons]; exact ⟨e83_0, fun _ h => by cases h⟩)
set_option maxRecDepth 100000 in
theorem e84_0 : ((v84_.2.1.drop 0).take 60).all (fun z => decide (decode d84_.2.1 z.1 = .ok (z.2.1, z.2.2))) = true := by decide +kernel
set_option maxRecDepth 100000 in
theorem e84_ : ∀ z ∈ v84_.2.1, decode d84_.2.1 z.1 = .ok (z.2.1, z.2.2) := tDrop [0] (by decide +kernel) (by simp only [List.forall_mem_cons]; exact ⟨e84_0, fun _ h => by cases h⟩)
set_option maxRecDepth 100000 in
theorem e85_0 : ((v85_.2.1.drop 0).take 60).all (fun z => decide (decode d85_.2.1 z.1 = .ok (z.2.1, z.2.2))) = true := by decide +kernel
set_option maxRecDepth 100000 in
theorem e85_ : ∀ z ∈ v85_.2.1, decode d85_.2.1 z.1 = .ok (z.2.1, z.2.2) := tDrop [0] (by decide +kernel) (by simp only [List.forall_mem_cons]; exact ⟨e85_0, fun _ h => by cases h⟩)
set_option maxRecDepth 100000 in
theorem e86_0 : ((v86_.2.1.drop 0).take 60).all (fun z => decide (decode d86_.2.1 z.1 = .ok (z.2.1, z.2.2))) = true := by decide +kernel
set_option maxRecDepth 100000 in
theorem e86_ : ∀ z ∈ v86_.2.1, decode d86_.2.1 z.1 = .ok (z.2.1, z.2.2) := tDrop [0] (by decide +kernel) (by simp only [List.forall_mem_cons]; exact ⟨e86_0, fun _ h => by cases h⟩)
set_option maxRecDepth 100000 in
theorem e87_0 : ((v87_.2.1.drop 0).take 60).all (fun z => decide (decode d87_.2.1 z.1 = .ok (z.2.1, z.2.2))) = true := by decide +kernel
set_option maxRecDepth 100000 in
theorem e87_ : ∀ z ∈ v87_.2.1, decode d87_.2.1 z.1 = .ok (z.2.1, z.2.2) := tDrop [0] (by decide +kernel) (by simp only [List.forall_mem_cons]; exact ⟨e87_0, fun _ h => by cases h⟩)
set_option maxRecDepth 100000 in
theorem e88_0 : ((v88_.2.1.drop 0).take 60).all (fun z => decide (decode d88_.2.1 z.1 = .ok (z.2.1, z.2.2))) = true := by decide +kernel
set_option maxRecDepth 100000 in
theorem e88_ : ∀ z ∈ v88_.2.1, decode d88_.2.1 z.1 = .ok (z.2.1, z.2.2) := tDrop [0] (by decide +kernel) (by simp only [List.forall_mem_cons]; exact ⟨e88_0, fun _ h => by cases h⟩)
set_option maxRecDepth 100000 in
theorem e89_0 : ((v89_.2.1.drop 0).take 60).all (fun z => decide (decode d89_.2.1 z.1 = .ok (z.2.1, z.2.2))) = true := by decide +kernel
set_option maxRecDepth 100000 in
theorem e89_ : ∀ z ∈ v89_.2.1, decode d89_.2.1 z.1 = .ok (z.2.1, z.2.2) := tDrop [0] (by decide +kernel) (by simp only [List.forall_mem_cons]; exact ⟨e89_0, fun _ h => by cases h⟩)
set_option maxRecDepth 100000 in
theorem e90_0 : ((v90_.2.1.drop 0).take 60).all (fun z => decide (decode d90_.2.1 z.1 = .ok (z.2.1, z.2.2))) = true := by decide +kernel
set_option maxRecDepth 100000 in
theorem e90_ : ∀ z ∈ v90_.2.1, decode d90_.2.1 z.1 = .ok (z.2.1, z.2.2) := tDrop [0] (by decide +kernel) (by simp only [List.forall_mem_cons]; exact ⟨e90_0, fun _ h => by cases h⟩)
set_option maxRecDepth 100000 in
theorem e91_0 : ((v91_.2.1.drop 0).take 60).all (fun z => decide (decode d91_.2.1 z.1 = .ok (z.2.1, z.2.2))) = true := by decide +kernel
set_option maxRecDepth 100000 in
theorem e91_ : ∀ z ∈ v91_.2.1, decode d91_.2.1 z.1 = .ok (z.2.1, z.2.2) := tDrop [0] (by decide +kernel) (by simp only [List.forall_mem_cons]; exact ⟨e91_0, fun _ h => by cases h⟩)
set_option maxRecDepth 100000 in
theorem e92_0 : ((v92_.2.1.drop 0).take 60).all (fun z => decide (decode d92_.2.1 z.1 = .ok (z.2.1, z.2.2))) = true := by decide +kernel
set_option maxRecDepth 100000 in
theorem e92_ : ∀ z ∈ v92_.2.1, decode d92_.2.1 z.1 = .ok (z.2.1, z.2.2) := tDrop [0] (by decide +kernel) (by simp only [List.forall_mem_cons]; exact ⟨e92_0, fun _ h => by cases h⟩)
set_option maxRecDepth 100000 in
theorem e93_0 : ((v93_.2.1.drop 0).take 60).all (fun z => decide (decode d93_.2.1 z.1 = .ok (z.2.1, z.2.2))) = true := by decide +kernel
set_option maxRecDepth 100000 in
theorem e93_ : ∀ z ∈ v93_.2.1, decode d93_.2.1 z.1 = .ok (z.2.1, z.2.2) := tDrop [0] (by decide +kernel) (by simp only [List.forall_mem_cons]; exact ⟨e93_0, fun _ h => by cases h⟩)
set_option maxRecDepth 100000 in
theorem e94_0 : ((v94_.2.1.drop 0).take 60).all (fun z => decide (decode d94_.2.1 z.1 = .ok (z.2.1, z.2.2))) = true := by decide +kernel
set_option maxRecDepth 100000 in
theorem e94_ : ∀ z ∈ v94_.2.1, decode d94_.2.1 z.1 = .ok (z.2.1, z.2.2) := tDrop [0] (by decide +kernel) (by simp only [List.forall_mem_cons]; exact ⟨e94_0, fun _ h => by cases h⟩)
set_option maxRecDepth 100000 in
theorem e95_0 : ((v95_.2.1.drop 0).take 60).all (fun z => decide (decode d95_.2.1 z.1 = .ok (z.2.1, z.2.2))) = true := by decide +kernel
set_option maxRecDepth 100000 in
theorem e95_ : ∀ z ∈ v95_.2.1, decode d95_.2.1 z.1 = .ok (z.2.1, z.2.2) := tDrop [0] (by decide +kernel) (by simp only [List.forall_mem_cons]; exact ⟨e95_0, fun _ h => by cases h⟩)
set_option maxRecDepth 100000 in
theorem e96_0 : ((v96_.2.1.drop 0).take 60).all (fun z => decide (decode d96_.2.1 z.1 = .ok (z.2.1, z.2.2))) = true := by decide +kernel
set_option maxRecDepth 100000 in
theorem e96_ : ∀ z ∈ v96_.2.1, decode d96_.2.1 z.1 = .ok (z.2.1, z.2.2) := tDrop [0] (by decide +kernel) (by simp only [List.forall_mem_cons]; exact ⟨e96_0, fun _ h => by cases h⟩)
set_option maxRecDepth 100000 in
theorem e97_0 : ((v97_.2.1.drop 0).take 60).all (fun z => decide (decode d97_.2.1 z.1 = .ok (z.2.1, z.2.2))) = true := by decide +kernel
set_option maxRecDepth 100000 in
theorem e97_ : ∀ z ∈ v97_.2.1, decode d97_.2.1 z.1 = .ok (z.2.1, z.2.2) := tDrop [0] (by decide +kernel) (by simp only [List.forall_mem_cons]; exact ⟨e97_0, fun _ h => by cases h⟩)
set_option maxRecDepth 100000 in
theorem e98_0 : ((v98_.2.1.drop 0).take 60).all (fun z => decide (decode d98_.2.1 z.1 = .ok (z.2.1, z.2.2))) = true := by decide +kernel
set_option maxRecDepth 100000 in
theorem e98_60 : ((v98_.2.1.drop 60).take 60).all (fun z => decide (decode d98_.2.1 z.1 = .ok (z.2.1, z.2.2))) = true := by decide +kernel
set_option maxRecDepth 100000 in
theorem e98_ : ∀ z ∈ v98_.2.1, decode d98_.2.1 z.1 = .ok (z.2.1, z.2.2) := tDrop [0, 60] (by decide +kernel) (by simp only [List.forall_mem_cons]; exact ⟨e98_0, e98_60, fun _ h => by cases h⟩)
set_option maxRecDepth 100000 in
theorem e99_0 : ((v99_.2.1.drop 0).take 60).all (fun z => decide (decode d99_.2.1 z.1 = .ok (z.2.1, z.2.2))) = true := by decide +kernel
set_option maxRecDepth 100000 in
theorem e99_60 : ((v99_.2.1.drop 60).take 60).all (fun z => decide (decode d99_.2.1 z.1 = .ok (z.2.1, z.2.2))) = true := by decide +kernel
set_option maxRecDepth 100000 in
theorem e99_ : ∀ z ∈ v99_.2.1, decode d99_.2.1 z.1 = .ok (z.2.1, z.2.2) := tDrop [0, 60] (by decide +kernel) (by simp only [List.forall_mem_cons]; exact ⟨e99_0, e99_60, fun _ h => by cases h⟩)
set_option maxRecDepth 100000 in
theorem e100_0 : ((v100_.2.1.drop 0).take 60).all (fun z => decide (decode d100_.2.1 z.1 = .ok (z.2.1, z.2.2))) = true := by decide +kernel
set_option maxRecDepth 100000 in
theorem e100_ : ∀ z ∈ v100_.2.1, decode d100_.2.1 z.1 = .ok (z.2.1, z.2.2) := tDrop [0] (by decide +kernel) (by simp only [List.forall_mem_cons]; exact ⟨e100_0, fun _ h => by cases h⟩)
set_option maxRecDepth 100000 in
theorem e101_0 : ((v101_.2.1.drop 0).take 60).all (fun z => decide (decode d101_.2.1 z.1 = .ok (z.2.1, z.2.2))) = true := by decide +kernel
set_option maxRecDepth 100000 in
theorem e101_ : ∀ z ∈ v101_.2.1, decode d101_.2.1 z.1 = .ok (z.2.1, z.2.2) := tDrop [0] (by decide +kernel) (by simp only [List.forall_mem_cons]; exact ⟨e101_0, fun _ h => by cases h⟩)
set_option maxRecDepth 100000 in
theorem e102_0 : ((v102_.2.1.drop 0).take 60).all (fun z => decide (decode d102_.2.1 z.1 = .ok (z.2.1, z.2.2))) = true := by decide +kernel
set_option maxRecDepth 100000 in
theorem e102_ : ∀ z ∈ v102_.2.1, decode d102_.2.1 z.1 = .ok (z.2.1, z.2.2) := tDrop [0] (by decide +kernel) (by simp only [List.forall_mem_cons]; exact ⟨e102_0, fun _ h => by cases h⟩)
set_option maxRecDepth 100000 in
theorem e103_0 : ((v103_.2.1.drop 0).take 60).all (fun z => decide (decode d103_.2.1 z.1 = .ok (z.2.1, z.2.2))) = true := by decide +kernel
set_option maxRecDepth 100000 in
theorem e103_ : ∀ z ∈ v103_.2.1, decode d103_.2.1 z.1 = .ok (z.2.1, z.2.2) := tDrop [0] (by decide +kernel) (by simp only [List.forall_mem_cons]; exact ⟨e103_0, fun _ h => by cases h⟩)
set_option maxRecDepth 100000 in
theorem e104_0 : ((v104_.2.1.drop 0).take 60).all (fun z => decide (decode d104_.2.1 z.1 = .ok (z.2.1, z.2.2))) = true := by decide +kernel
set_option maxRecDepth 100000 in
theorem e104_ : ∀ z ∈ v104_.2.1, decode d104_.2.1 z.1 = .ok (z.2.1, z.2.2) := tDrop [0] (by decide +kernel) (by simp only [List.forall_mem_cons]; exact ⟨e104_0, fun _ h => by cases h⟩)
set_option maxRecDepth 100000 in
theorem e105_0 : ((v105_.2.1.drop 0).take 60).all (fun z => decide (decode d105_.2.1 z.1 = .ok (z.2.1, z.2.2))) = true := by decide +kernel
set_option maxRecDepth 100000 in
theorem e105_ : ∀ z ∈ v105_.2.1, decode d105_.2.1 z.1 = .ok (z.2.1, z.2.2) := tDrop [0] (by decide +kernel) (by simp only [List.forall_mem_cons]; exact ⟨e105_0, fun _ h => by cases h⟩)
set_option maxRecDepth 100000 in
theorem e106_0 : ((v106_.2.1.drop 0).take 60).all (fun z => decide (decode d106_.2.1 z.1 = .ok (z.2.1, z.2.2))) = true := by decide +kernel
set_option maxRecDepth 100000 in
theorem e106_ : ∀ z ∈ v106_.2.1, decode d106_.2.1 z.1 = .ok (z.2.1, z.2.2) := tDrop [0] (by decide +kernel) (by simp only [List.forall_mem_cons]; exact ⟨e106_0, fun _ h => by cases h⟩)
set_option maxRecDepth 100000 in
theorem e107_0 : ((v107_.2.1.drop 0).take 60).all (fun z => decide (decode d107_.2.1 z.1 = .ok (z.2.1, z.2.2))) = true := by decide +kernel
set_option maxRecDepth 100000 in
theorem e107_ : ∀ z ∈ v107_.2.1, decode d107_.2.1 z.1 = .ok (z.2.1, z.2.2) := tDrop [0] (by decide +kernel) (by simp only [List.forall_mem_cons]; exact ⟨e107_0, fun _ h => by cases h⟩)
set_option maxRecDepth 100000 in
theorem e108_0 : ((v108_.2.1.drop 0).take 60).all (fun z => decide (decode d108_.2.1 z.1 = .ok (z.2.1, z.2.2))) = true := by decide +kernel
set_option maxRecDepth 100000 in
theorem e108_ : ∀ z ∈ v108_.2.1, decode d108_.2.1 z.1 = .ok (z.2.1, z.2.2) := tDrop [0] (by decide +kernel) (by simp only [List.forall_mem_cons]; exact ⟨e108_0, fun _ h => by cases h⟩)
set_option maxRecDepth 100000 in
theorem e109_0 : ((v109_.2.1.drop 0).take 60).all (fun z => decide (decode d109_.2.1 z.1 = .ok (z.2.1, z.2.2))) = true := by decide +kernel
set_option maxRecDepth 100000 in
theorem e109_ : ∀ z ∈ v109_.2.1, decode d109_.2.1 z.1 = .ok (z.2.1, z.2.2) := tDrop [0] (by decide +kernel) (by simp only [List.forall_mem_cons]; exact ⟨e109_0, fun _ h => by cases h⟩)
set_option maxRecDepth 100000 in
theorem e110_0 : ((v110_.2.1.drop 0).take 60).all (fun z => decide (decode d110_.2.1 z.1 = .ok (z.2.1, z.2.2))) = true := by decide +kernel
set_option maxRecDepth 100000 in
theorem e110_ : ∀ z ∈ v110_.2.1, decode d110_.2.1 z.1 = .ok (z.2.1, z.2.2) := tDrop [0] (by decide +kernel) (by simp only [List.forall_mem_cons]; exact ⟨e110_0, fun _ h => by cases h⟩)
set_option maxRecDepth 100000 in
theorem e111_0 : ((v111_.2.1.drop 0).take 60).all (fun z => decide (decode d111_.2.1 z.1 = .ok (z.2.1, z.2.2))) = true := by decide +kernel
set_option maxRecDepth 100000 in
theorem e111_ : ∀ z ∈ v111_.2.1, decode d111_.2.1 z.1 = .ok (z.2.1, z.2.2) := tDrop [0] (by decide +kernel) (by simp only [List.forall_mem_cons]; exact ⟨e111_0, fun _ h => by cases h⟩)
set_option maxRecDepth 100000 in
theorem e112_0 : ((v112_.2.1.drop 0).take 60).all (fun z => decide (decode d112_.2.1 z.1 = .ok (z.2.1, z.2.2))) = true := by decide +kernel
set_option maxRecDepth 100000 in
theorem e112_ : ∀ z ∈ v112_.2.1, decode d112_.2.1 z.1 = .ok (z.2.1, z.2.2) := tDrop [0] (by decide +kernel) (by simp only [List.forall_mem_cons]; exact ⟨e112_0, fun _ h => by cases h⟩)
set_option maxRecDepth 100000 in
theorem e113_0 : ((v113_.2.1.drop 0).take 60).all (fun z => decide (decode d113_.2.1 z.1 = .ok (z.2.1, z.2.2))) = true := by decide +kernel
set_option maxRecDepth 100000 in
theorem e113_ : ∀ z ∈ v113_.2.1, decode d113_.2.1 z.1 = .ok (z.2.1, z.2.2) := tDrop [0] (by decide +kernel) (by simp only [List.forall_mem_cons]; exact ⟨e113_0, fun _ h => by cases h⟩)
set_option maxRecDepth 100000 in
theorem e114_0 : ((v114_.2.1.drop 0).take 60).all (fun z => decide (decode d114_.2.1 z.1 = .ok (z.2.1, z.2.2))) = true := by decide +kernel
set_option maxRecDepth 100000 in
theorem e114_ : ∀ z ∈ v114_.2.1, decode d114_.2.1 z.1 = .ok (z.2.1, z.2.2) := tDrop [0] (by decide +kernel) (by simp only [List.forall_mem_cons]; exact ⟨e114_0, fun _ h => by cases h⟩)
set_option maxRecDepth 100000 in
theorem e115_0 : ((v115_.2.1.drop 0).take 60).all (fun z => decide (decode d115_.2.1 z.1 = .ok (z.2.1, z.2.2))) = true := by decide +kernel
set_option maxRecDepth 100000 in
theorem e115_ : ∀ z ∈ v115_.2.1, decode d115_.2.1 z.1 = .ok (z.2.1, z.2.2) := tDrop [0] (by decide +kernel) (by simp only [List.forall_mem_cons]; exact ⟨e115_0, fun _ h => by cases h⟩)
set_option maxRecDepth 100000 in
theorem e116_0 : ((v116_.2.1.drop 0).take 60).all (fun z => decide (decode d116_.2.1 z.1 = .ok (z.2.1, z.2.2))) = true := by decide +kernel
set_option maxRecDepth 100000 in
theorem e116_ : ∀ z ∈ v116_.2.1, decode d116_.2.1 z.1 = .ok (z.2.1, z.2.2) := tDrop [0] (by decide +kernel) (by simp only [List.forall_mem_cons]; exact ⟨e116_0, fun _ h => by cases h⟩)
set_option maxRecDepth 100000 in
theorem e117_0 : ((v117_.2.1.drop 0).take 60).all (fun z => decide (decode d117_.2.1 z.1 = .ok (z.2.1, z.2.2))) = true := by decide +kernel
set_option maxRecDepth 100000 in
theorem e117_ : ∀ z ∈ v117_.2.1, decode d117_.2.1 z.1 = .ok (z.2.1, z.2.2) := tDrop [0] (by decide +kernel) (by simp only [List.forall_mem_cons]; exact ⟨e117_0, fun _ h => by cases h⟩)
set_option maxRecDepth 100000 in
theorem e118_0 : ((v118_.2.1.drop 0).take 60).all (fun z => decide (decode d118_.2.1 z.1 = .ok (z.2.1, z.2.2))) = true := by decide +kernel
set_option maxRecDepth 100000 in
theorem e118_ : ∀ z ∈ v118_.2.1, decode d118_.2.1 z.1 = .ok (z.2.1, z.2.2) := tDrop [0] (by decide +kernel) (by simp only [List.forall_mem_cons]; exact ⟨e118_0, fun _ h => by cases h⟩)
set_option maxRecDepth 100000 in
theorem e119_0 : ((v119_.2.1.drop 0).take 60).all (fun z => decide (decode d119_.2.1 z.1 = .ok (z.2.1, z.2.2))) = true := by decide +kernel
set_option maxRecDepth 100000 in
theorem e119_ : ∀ z ∈ v119_.2.1, decode d119_.2.1 z.1 = .ok (z.2.1, z.2.2) := tDrop [0] (by decide +kernel) (by simp only [List.forall_mem_cons]; exact ⟨e119_0, fun _ h => by cases h⟩)
set_option maxRecDepth 100000 in
theorem e120_0 : ((v120_.2.1.drop 0).take 60).all (fun z => decide (decode d120_.2.1 z.1 = .ok (z.2.1, z.2.2))) = true := by decide +kernel
set_option maxRecDepth 100000 in
theorem e120_ : ∀ z ∈ v120_.2.1, decode d120_.2.1 z.1 = .ok (z.2.1, z.2.2) := tDrop [0] (by decide +kernel) (by simp only [List.forall_mem_cons]; exact ⟨e120_0, fun _ h => by cases h⟩)
set_option maxRecDepth 100000 in
theorem e121_0 : ((v121_.2.1.drop 0).take 60).all (fun z => decide (decode d121_.2.1 z.1 = .ok (z.2.1, z.2.2))) = true := by decide +kernel
set_option maxRecDepth 100000 in
theorem e121_60 : ((v121_.2.1.drop 60).take 60).all (fun z => decide (decode d121_.2.1 z.1 = .ok (z.2.1, z.2.2))) = true := by decide +kernel
set_option maxRecDepth 100000 in
theorem e121_ : ∀ z ∈ v121_.2.1, decode d121_.2.1 z.1 = .ok (z.2.1, z.2.2) := tDrop [0, 60] (by decide +kernel) (by simp only [List.forall_mem_cons]; exact ⟨e121_0, e121_60, fun _ h => by cases h⟩)
set_option maxRecDepth 100000 in
theorem e122_0 : ((v122_.2.1.drop 0).take 60).all (fun z => decide (decode d122_.2.1 z.1 = .ok (z.2.1, z.2.2))) = true := by decide +kernel
set_option maxRecDepth 100000 in
theorem e122_ : ∀ z ∈ v122_.2.1, decode d122_.2.1 z.1 = .ok (z.2.1, z.2.2) := tDrop [0] (by decide +kernel) (by simp only [List.forall_mem_cons]; exact ⟨e122_0, fun _ h => by cases h⟩)
set_option maxRecDepth 100000 in
theorem e123_0 : ((v123_.2.1.drop 0).take 60).all (fun z => decide (decode d123_.2.1 z.1 = .ok (z.2.1, z.2.2))) = true := by decide +kernel
set_option maxRecDepth 100000 in
theorem e123_ : ∀ z ∈ v123_.2.1, decode d123_.2.1 z.1 = .ok (z.2.1, z.2.2) := tDrop [0] (by decide +kernel) (by simp only [List.forall_mem_cons]; exact ⟨e123_0, fun _ h => by cases h⟩)
set_option maxRecDepth 100000 in
theorem e124_0 : ((v124_.2.1.drop 0).take 60).all (fun z => decide (decode d124_.2.1 z.1 = .ok (z.2.1, z.2.2))) = true := by decide +kernel
set_option maxRecDepth 100000 in
theorem e124_60 : ((v124_.2.1.drop 60).take 60).all (fun z => decide (decode d124_.2.1 z.1 = .ok (z.2.1, z.2.2))) = true := by decide +kernel
set_option maxRecDepth 100000 in
theorem e124_ : ∀ z ∈ v124_.2.1, decode d124_.2.1 z.1 = .ok (z.2.1, z.2.2) := tDrop [0, 60] (by decide +kernel) (by simp only [List.forall_mem_cons]; exact ⟨e124_0, e124_60, fun _ h => by cases h⟩)
set_option maxRecDepth 100000 in
theorem e125_0 : ((v125_.2.1.drop 0).take 60).all (fun z => decide (decode d125_.2.1 z.1 = .ok (z.2.1, z.2.2))) = true := by decide +kernel
set_option maxRecDepth 100000 in
theorem e125_ : ∀ z ∈ v125_.2.1, decode d125_.2.1 z.1 = .ok (z.2.1, z.2.2) := tDrop [0] (by decide +kernel) (by simp only [List.forall_mem_cons]; exact ⟨e125_0, fun _ h => by cases h⟩)
set_option maxRecDepth 100000 in
theorem e126_0 : ((v126_.2.1.drop 0).take 60).all (fun z => decide (decode d126_.2.1 z.1 = .ok (z.2.1, z.2.2))) = true := by decide +kernel
set_option maxRecDepth 100000 in
theorem e126_ : ∀ z ∈ v126_.2.1, decode d126_.2.1 z.1 = .ok (z.2.1, z.2.2) := tDrop [0] (by decide +kernel) (by simp only [List.forall_mem_cons]; exact ⟨e126_0, fun _ h => by cases h⟩)
set_option maxRecDepth 100000 in
theorem e127_0 : ((v127_.2.1.drop 0).take 60).all (fun z => decide (decode d127_.2.1 z.1 = .ok (z.2.1, z.2.2))) = true := by decide +kernel
set_option maxRecDepth 100000 in
theorem e127_ : ∀ z ∈ v127_.2.1, decode d127_.2.1 z.1 = .ok (z.2.1, z.2.2) := tDrop [0] (by decide +kernel) (by simp only [List.forall_mem_cons]; exact ⟨e127_0, fun _ h => by cases h⟩)
set_option maxRecDepth 100000 in
theorem e128_0 : ((v128_.2.1.drop 0).take 60).all (fun z => decide (decode d128_.2.1 z.1 = .ok (z.2.1, z.2.2))) = true := by decide +kernel
set_option maxRecDepth 100000 in
theorem e128_ : ∀ z ∈ v128_.2.1, decode d128_.2.1 z.1 = .ok (z.2.1, z.2.2) := tDrop [0] (by decide +kernel) (by simp only [List.forall_mem_cons]; exact ⟨e128_0, fun _ h => by cases h⟩)
set_option maxRecDepth 100000 in
theorem e129_0 : ((v129_.2.1.drop 0).take 60).all (fun z => decide (decode d129_.2.1 z.1 = .ok (z.2.1, z.2.2))) = true := by decide +kernel
set_option maxRecDepth 100000 in
theorem e129_ : ∀ z ∈ v129_.2.1, decode d129_.2.1 z.1 = .ok (z.2.1, z.2.2) := tDrop [0] (by decide +kernel) (by simp only [List.forall_mem_cons]; exact ⟨e129_0, fun _ h => by cases h⟩)
set_option maxRecDepth 100000 in
theorem e130_0 : ((v130_.2.1.drop 0).take 60).all (fun z => decide (decode d130_.2.1 z.1 = .ok (z.2.1, z.2.2))) = true := by decide +kernel
set_option maxRecDepth 100000 in
theorem e130_ : ∀ z ∈ v130_.2.1, decode d130_.2.1 z.1 = .ok (z.2.1, z.2.2) := tDrop [0] (by decide +kernel) (by simp only [List.forall_mem_cons]; exact ⟨e130_0, fun _ h => by cases h⟩)
set_option maxRecDepth 100000 in
theorem e131_0 : ((v131_.2.1.drop 0).take 60).all (fun z => decide (decode d131_.2.1 z.1 = .ok (z.2.1, z.2.2))) = true := by decide +kernel
set_option maxRecDepth 100000 in
theorem e131_ : ∀ z ∈ v131_.2.1, decode d131_.2.1 z.1 = .ok (z.2.1, z.2.2) := tDrop [0] (by decide +kernel) (by simp only [List.forall_mem_cons]; exact ⟨e131_0, fun _ h => by cases h⟩)
set_option maxRecDepth 100000 in
theorem e132_0 : ((v132_.2.1.drop 0).take 60).all (fun z => decide (decode d132_.2.1 z.1 = .ok (z.2.1, z.2.2))) = true := by decide +kernel
set_option maxRecDepth 100000 in
theorem e132_ : ∀ z ∈ v132_.2.1, decode d132_.2.1 z.1 = .ok (z.2.1, z.2.2) := tDrop [0] (by decide +kernel) (by simp only [List.forall_mem_cons]; exact ⟨e132_0, fun _ h => by cases h⟩)
set_option maxRecDepth 100000 in
theorem e133_0 : ((v133_.2.1.drop 0).take 60).all (fun z => decide (decode d133_.2.1 z.1 = .ok (z.2.1, z.2.2))) = true := by decide +kernel
set_option maxRecDepth 100000 in
theorem e133_ : ∀ z ∈ v133_.2.1, decode d133_.2.1 z.1 = .ok (z.2.1, z.2.2) := tDrop [0] (by decide +kernel) (by simp only [List.forall_mem_cons]; exact ⟨e133_0, fun _ h => by cases h⟩)
set_option maxRecDepth 100000 in
theorem e134_0 : ((v134_.2.1.drop 0).take 60).all (fun z => decide (decode d134_.2.1 z.1 = .ok (z.2.1, z.2.2))) = true := by decide +kernel
set_option maxRecDepth 100000 in
theorem e134_ : ∀ z ∈ v134_.2.1, decode d134_.2.1 z.1 = .ok (z.2.1, z.2.2) := tDrop [0] (by decide +kernel) (by simp only [List.forall_mem_cons]; exact ⟨e134_0, fun _ h => by cases h⟩)
set_option maxRecDepth 100000 in
theorem e135_0 : ((v135_.2.1.drop 0).take 60).all (fun z => decide (decode d135_.2.1 z.1 = .ok (z.2.1, z.2.2))) = true := by decide +kernel
set_option maxRecDepth 100000 in
theorem e135_60 : ((v135_.2.1.drop 60).take 60).all (fun z => decide (decode d135_.2.1 z.1 = .ok (z.2.1, z.2.2))) = true := by decide +kernel
set_option maxRecDepth 100000 in
theorem e135_ : ∀ z ∈ v135_.2.1, decode d135_.2.1 z.1 = .ok (z.2.1, z.2.2) := tDrop [0, 60] (by decide +kernel) (by simp only [List.forall_mem_cons]; exact ⟨e135_0, e135_60, fun _ h => by cases h⟩)
set_option maxRecDepth 100000 in
theorem e136_0 : ((v136_.2.1.drop 0).take 60).all (fun z => decide (decode d136_.2.1 z.1 = .ok (z.2.1, z.2.2))) = true := by decide +kernel
set_option maxRecDepth 100000 in
theorem e136_60 : ((v136_.2.1.drop 60).take 60).all (fun z => decide (decode d136_.2.1 z.1 = .ok (z.2.1, z.2.2))) = true := by decide +kernel
set_option maxRecDepth 100000 in
theorem e136_120 : ((v136_.2.1.drop 120).take 60).all (fun z => decide (decode d136_.2.1 z.1 = .ok (z.2.1, z.2.2))) = true := by decide +kernel
set_option maxRecDepth 100000 in
theorem e136_ : ∀ z ∈ v136_.2.1, decode d136_.2.1 z.1 = .ok (z.2.1, z.2.2) := tDrop [0, 60, 120] (by decide +kernel) (by simp only [List.forall_mem_cons]; exact ⟨e136_0, e136_60, e136_120, fun _ h => by cases h⟩)
set_option maxRecDepth 100000 in
theorem e137_0 : ((v137_.2.1.drop 0).take 60).all (fun z => decide (decode d137_.2.1 z.1 = .ok (z.2.1, z.2.2))) = true := by decide +kernel
set_option maxRecDepth 100000 in
theorem e137_60 : ((v137_.2.1.drop 60).take 60).all (fun z => decide (decode d137_.2.1 z.1 = .ok (z.2.1, z.2.2))) = true := by decide +kernel
set_option maxRecDepth 100000 in
theorem e137_ : ∀ z ∈ v137_.2.1, decode d137_.2.1 z.1 = .ok (z.2.1, z.2.2) := tDrop [0, 60] (by decide +kernel) (by simp only [List.forall_mem_cons]; exact ⟨e137_0, e137_60, fun _ h => by cases h⟩)
set_option maxRecDepth 100000 in
theorem e138_0 : ((v138_.2.1.drop 0).take 60).all (fun z => decide (decode d138_.2.1 z.1 = .ok (z.2.1, z.2.2))) = true := by decide +kernel
set_option maxRecDepth 100000 in
theorem e138_ : ∀ z ∈ v138_.2.1, decode d138_.2.1 z.1 = .ok (z.2.1, z.2.2) := tDrop [0] (by decide +kernel) (by simp only [List.forall_mem_cons]; exact ⟨e138_0, fun _ h => by cases h⟩)
set_option maxRecDepth 100000 in
theorem e139_0 : ((v139_.2.1.drop 0).take 60).all (fun z => decide (decode d139_.2.1 z.1 = .ok (z.2.1, z.2.2))) = true := by decide +kernel
set_option maxRecDepth 100000 in
theorem e139_ : ∀ z ∈ v139_.2.1, decode d139_.2.1 z.1 = .ok (z.2.1, z.2.2) := tDrop [0] (by decide +kernel) (by simp only [List.forall_mem_cons]; exact ⟨e139_0, fun _ h => by cases h⟩)
set_option maxRecDepth 100000 in
theorem e140_0 : ((v140_.2.1.drop 0).take 60).all (fun z => decide (decode d140_.2.1 z.1 = .ok (z.2.1, z.2.2))) = true := by decide +kernel
set_option maxRecDepth 100000 in
theorem e140_ : ∀ z ∈ v140_.2.1, decode d140_.2.1 z.1 = .ok (z.2.1, z.2.2) := tDrop [0] (by decide +kernel) (by simp only [List.forall_mem_cons]; exact ⟨e140_0, fun _ h => by cases h⟩)
set_option maxRecDepth 100000 in
theorem e141_0 : ((v141_.2.1.drop 0).take 60).all (fun z => decide (decode d141_.2.1 z.1 = .ok (z.2.1, z.2.2))) = true := by decide +kernel
set_option maxRecDepth 100000 in
theorem e141_ : ∀ z ∈ v141_.2.1, decode d141_.2.1 z.1 = .ok (z.2.1, z.2.2) := tDrop [0] (by decide +kernel) (by simp only [List.forall_mem_cons]; exact ⟨e141_0, fun _ h => by cases h⟩)
set_option maxRecDepth 100000 in
theorem e142_0 : ((v142_.2.1.drop 0).take 60).all (fun z => decide (decode d142_.2.1 z.1 = .ok (z.2.1, z.2.2))) = true := by decide +kernel
set_option maxRecDepth 100000 in
theorem e142_ : ∀ z ∈ v142_.2.1, decode d142_.2.1 z.1 = .ok (z.2.1, z.2.2) := tDrop [0] (by decide +kernel) (by simp only [List.forall_mem_cons]; exact ⟨e142_0, fun _ h => by cases h⟩)
set_option maxRecDepth 100000 in
theorem e143_0 : ((v143_.2.1.drop 0).take 60).all (fun z => decide (decode d143_.2.1 z.1 = .ok (z.2.1, z.2.2))) = true := by decide +kernel
set_option maxRecDepth 100000 in
theorem e143_ : ∀ z ∈ v143_.2.1, decode d143_.2.1 z.1 = .ok (z.2.1, z.2.2) := tDrop [0] (by decide +kernel) (by simp only [List.forall_mem_cons]; exact ⟨e143_0, fun _ h => by cases h⟩)
set_option maxRecDepth 100000 in
theorem e144_0 : ((v144_.2.1.drop 0).take 60).all (fun z => decide (decode d144_.2.1 z.1 = .ok (z.2.1, z.2.2))) = true := by decide +kernel
set_option maxRecDepth 100000 in
theorem e144_60 : ((v144_.2.1.drop 60).take 60).all (fun z => decide (decode d144_.2.1 z.1 = .ok (z.2.1, z.2.2))) = true := by decide +kernel
set_option maxRecDepth 100000 in
theorem e144_ : ∀ z ∈ v144_.2.1, decode d144_.2.1 z.1 = .ok (z.2.1, z.2.2) := tDrop [0, 60] (by decide +kernel) (by simp only [List.forall_mem_cons]; exact ⟨e144_0, e144_60, fun _ h => by cases h⟩)
set_option maxRecDepth 100000 in
theorem e145_0 : ((v145_.2.1.drop 0).take 60).all (fun z => decide (decode d145_.2.1 z.1 = .ok (z.2.1, z.2.2))) = true := by decide +kernel
set_option maxRecDepth 100000 in
theorem e145_ : ∀ z ∈ v145_.2.1, decode d145_.2.1 z.1 = .ok (z.2.1, z.2.2) := tDrop [0] (by decide +kernel) (by simp only [List.forall_mem_cons]; exact ⟨e145_0, fun _ h => by cases h⟩)
set_option maxRecDepth 100000 in
theorem e146_0 : ((v146_.2.1.drop 0).take 60).all (fun z => decide (decode d146_.2.1 z.1 = .ok (z.2.1, z.2.2))) = true := by decide +kernel
set_option maxRecDepth 100000 in
theorem e146_ : ∀ z ∈ v146_.2.1, decode d146_.2.1 z.1 = .ok (z.2.1, z.2.2) := tDrop [0] (by decide +kernel) (by simp only [List.forall_mem_cons]; exact ⟨e146_0, fun _ h => by cases h⟩)
set_option maxRecDepth 100000 in
theorem e147_0 : ((v147_.2.1.drop 0).take 60).all (fun z => decide (decode d147_.2.1 z.1 = .ok (z.2.1, z.2.2))) = true := by decide +kernel
set_option maxRecDepth 100000 in
theorem e147_ : ∀ z ∈ v147_.2.1, decode d147_.2.1 z.1 = .ok (z.2.1, z.2.2) := tDrop [0] (by decide +kernel) (by simp only [List.forall_mem_cons]; exact ⟨e147_0, fun _ h => by cases h⟩)
set_option maxRecDepth 100000 in
theorem e148_0 : ((v148_.2.1.drop 0).take 60).all (fun z => decide (decode d148_.2.1 z.1 = .ok (z.2.1, z.2.2))) = true := by decide +kernel
set_option maxRecDepth 100000 in
theorem e148_ : ∀ z ∈ v148_.2.1, decode d148_.2.1 z.1 = .ok (z.2.1, z.2.2) := tDrop [0] (by decide +kernel) (by simp only [List.forall_mem_cons]; exact ⟨e148_0, fun _ h => by cases h⟩)
set_option maxRecDepth 100000 in
theorem e149_0 : ((v149_.2.1.drop 0).take 60).all (fun z => decide (decode d149_.2.1 z.1 = .ok (z.2.1, z.2.2))) = true := by decide +kernel
set_option maxRecDepth 100000 in
theorem e149_ : ∀ z ∈ v149_.2.1, decode d149_.2.1 z.1 = .ok (z.2.1, z.2.2) := tDrop [0] (by decide +kernel) (by simp only [List.forall_mem_cons]; exact ⟨e149_0, fun _ h => by cases h⟩)
set_option maxRecDepth 100000 in
theorem e150_0 : ((v150_.2.1.drop 0).take 60).all (fun z => decide (decode d150_.2.1 z.1 = .ok (z.2.1, z.2.2))) = true := by decide +kernel
set_option maxRecDepth 100000 in
theorem e150_ : ∀ z ∈ v150_.2.1, decode d150_.2.1 z.1 = .ok (z.2.1, z.2.2) := tDrop [0] (by decide +kernel) (by simp only [List.forall_mem_cons]; exact ⟨e150_0, fun _ h => by cases h⟩)
set_option maxRecDepth 100000 in
theorem e151_0 : ((v151_.2.1.drop 0).take 60).all (fun z => decide (decode d151_.2.1 z.1 = .ok (z.2.1, z.2.2))) = true := by decide +kernel
set_option maxRecDepth 100000 in
theorem e151_ : ∀ z ∈ v151_.2.1, decode d151_.2.1 z.1 = .ok (z.2.1, z.2.2) := tDrop [0] (by decide +kernel) (by simp only [List.forall_mem_cons]; exact ⟨e151_0, fun _ h => by cases h⟩)
set_option maxRecDepth 100000 in
theorem e152_0 : ((v152_.2.1.drop 0).take 60).all (fun z => decide (decode d152_.2.1 z.1 = .ok (z.2.1, z.2.2))) = true := by decide +kernel
set_option maxRecDepth 100000 in
theorem e152_60 : ((v152_.2.1.drop 60).take 60).all (fun z => decide (decode d152_.2.1 z.1 = .ok (z.2.1, z.2.2))) = true := by decide +kernel
set_option maxRecDepth 100000 in
theorem e152_ : ∀ z ∈ v152_.2.1, decode d152_.2.1 z.1 = .ok (z.2.1, z.2.2) := tDrop [0, 60] (by decide +kernel) (by simp only [List.forall_mem_cons]; exact ⟨e152_0, e152_60, fun _ h => by cases h⟩)
set_option maxRecDepth 100000 in
theorem e153_0 : ((v153_.2.1.drop 0).take 60).all (fun z => decide (decode d153_.2.1 z.1 = .ok (z.2.1, z.2.2))) = true := by decide +kernel
set_option maxRecDepth 100000 in
theorem e153_ : ∀ z ∈ v153_.2.1, decode d153_.2.1 z.1 = .ok (z.2.1, z.2.2) := tDrop [0] (by decide +kernel) (by simp only [List.forall_mem_cons]; exact ⟨e153_0, fun _ h => by cases h⟩)
set_option maxRecDepth 100000 in
theorem e154_0 : ((v154_.2.1.drop 0).take 60).all (fun z => decide (decode d154_.2.1 z.1 = .ok (z.2.1, z.2.2))) = true := by decide +kernel
set_option maxRecDepth 100000 in
theorem e154_ : ∀ z ∈ v154_.2.1, decode d154_.2.1 z.1 = .ok (z.2.1, z.2.2) := tDrop [0] (by decide +kernel) (by simp only [List.forall_mem_cons]; exact ⟨e154_0, fun _ h => by cases h⟩)
set_option maxRecDepth 100000 in
theorem e155_0 : ((v155_.2.1.drop 0).take 60).all (fun z => decide (decode d155_.2.1 z.1 = .ok (z.2.1, z.2.2))) = true := by decide +kernel
set_option maxRecDepth 100000 in
theorem e155_ : ∀ z ∈ v155_.2.1, decode d155_.2.1 z.1 = .ok (z.2.1, z.2.2) := tDrop [0] (by decide +kernel) (by simp only [List.forall_mem_cons]; exact ⟨e155_0, fun _ h => by cases h⟩)
set_option maxRecDepth 100000 in
theorem e156_0 : ((v156_.2.1.drop 0).take 60).all (fun z => decide (decode d156_.2.1 z.1 = .ok (z.2.1, z.2.2))) = true := by decide +kernel
set_option maxRecDepth 100000 in
theorem e156_ : ∀ z ∈ v156_.2.1, decode d156_.2.1 z.1 = .ok (z.2.1, z.2.2) := tDrop [0] (by decide +kernel) (by simp only [List.forall_mem_cons]; exact ⟨e156_0, fun _ h => by cases h⟩)
set_option maxRecDepth 100000 in
theorem e157_0 : ((v157_.2.1.drop 0).take 60).all (fun z => decide (decode d157_.2.1 z.1 = .ok (z.2.1, z.2.2))) = true := by decide +kernel
set_option maxRecDepth 100000 in
theorem e157_ : ∀ z ∈ v157_.2.1, decode d157_.2.1 z.1 = .ok (z.2.1, z.2.2) := tDrop [0] (by decide +kernel) (by simp only [List.forall_mem_cons]; exact ⟨e157_0, fun _ h => by cases h⟩)
set_option maxRecDepth 100000 in
theorem e158_0 : ((v158_.2.1.drop 0).take 60).all (fun z => decide (decode d158_.2.1 z.1 = .ok (z.2.1, z.2.2))) = true := by decide +kernel
set_option maxRecDepth 100000 in
theorem e158_ : ∀ z ∈ v158_.2.1, decode d158_.2.1 z.1 = .ok (z.2.1, z.2.2) := tDrop [0] (by decide +kernel) (by simp only [List.forall_mem_cons]; exact ⟨e158_0, fun _ h => by cases h⟩)
set_option maxRecDepth 100000 in
theorem e159_0 : ((v159_.2.1.drop 0).take 60).all (fun z => decide (decode d159_.2.1 z.1 = .ok (z.2.1, z.2.2))) = true := by decide +kernel
set_option maxRecDepth 100000 in
theorem e159_ : ∀ z ∈ v159_.2.1, decode d159_.2.1 z.1 = .ok (z.2.1, z.2.2) := tDrop [0] (by decide +kernel) (by simp only [List.forall_mem_cons]; exact ⟨e159_0, fun _ h => by cases h⟩)
set_option maxRecDepth 100000 in
theorem e160_0 : ((v160_.2.1.drop 0).take 60).all (fun z => decide (decode d160_.2.1 z.1 = .ok (z.2.1, z.2.2))) = true := by decide +kernel
set_option maxRecDepth 100000 in
theorem e160_ : ∀ z ∈ v160_.2.1, decode d160_.2.1 z.1 = .ok (z.2.1, z.2.2) := tDrop [0] (by decide +kernel) (by simp only [List.forall_mem_cons]; exact ⟨e160_0, fun _ h => by cases h⟩)
set_option maxRecDepth 100000 in
theorem e161_0 : ((v161_.2.1.drop 0).take 60).all (fun z => decide (decode d161_.2.1 z.1 = .ok (z.2.1, z.2.2))) = true := by decide +kernel
set_option maxRecDepth 100000 in
theorem e161_ : ∀ z ∈ v161_.2.1, decode d161_.2.1 z.1 = .ok (z.2.1, z.2.2) := tDrop [0] (by decide +kernel) (by simp only [List.forall_mem_cons]; exact ⟨e161_0, fun _ h => by cases h⟩)
set_option maxRecDepth 100000 in
theorem e162_0 : ((v162_.2.1.drop 0).take 60).all (fun z => decide (decode d162_.2.1 z.1 = .ok (z.2.1, z.2.2))) = true := by decide +kernel
set_option maxRecDepth 100000 in
theorem e162_ : ∀ z ∈ v162_.2.1, decode d162_.2.1 z.1 = .ok (z.2.1, z.2.2) := tDrop [0] (by decide +kernel) (by simp only [List.forall_mem_cons]; exact ⟨e162_0, fun _ h => by cases h⟩)
set_option maxRecDepth 100000 in
theorem e163_0 : ((v163_.2.1.drop 0).take 60).all (fun z => decide (decode d163_.2.1 z.1 = .ok (z.2.1, z.2.2))) = true := by decide +kernel
set_option maxRecDepth 100000 in
theorem e163_60 : ((v163_.2.1.drop 60).take 60).all (fun z => decide (decode d163_.2.1 z.1 = .ok (z.2.1, z.2.2))) = true := by decide +kernel
set_option maxRecDepth 100000 in
theorem e163_ : ∀ z ∈ v163_.2.1, decode d163_.2.1 z.1 = .ok (z.2.1, z.2.2) := tDrop [0, 60] (by decide +kernel) (by simp only [List.forall_mem_cons]; exact ⟨e163_0, e163_60, fun _ h => by cases h⟩)
set_option maxRecDepth 100000 in
theorem e164_0 : ((v164_.2.1.drop 0).take 60).all (fun z => decide (decode d164_.2.1 z.1 = .ok (z.2.1, z.2.2))) = true := by decide +kernel
set_option maxRecDepth 100000 in
theorem e164_ : ∀ z ∈ v164_.2.1, decode d164_.2.1 z.1 = .ok (z.2.1, z.2.2) := tDrop [0] (by decide +kernel) (by simp only [List.forall_mem_cons]; exact ⟨e164_0, fun _ h => by cases h⟩)
set_option maxRecDepth 100000 in
theorem e165_0 : ((v165_.2.1.drop 0).take 60).all (fun z => decide (decode d165_.2.1 z.1 = .ok (z.2.1, z.2.2))) = true := by decide +kernel
set_option maxRecDepth 100000 in
theorem e165_ : ∀ z ∈ v165_.2.1, decode d165_.2.1 z.1 = .ok (z.2.1, z.2.2) := tDrop [0] (by decide +kernel) (by simp only [List.forall_mem_cons]; exact ⟨e165_0, fun _ h => by cases h⟩)
set_option maxRecDepth 100000 in
theorem e166_0 : ((v166_.2.1.drop 0).take 60).all (fun z => decide (decode d166_.2.1 z.1 = .ok (z.2.1, z.2.2))) = true := by decide +kernel
set_option maxRecDepth 100000 in
theorem e166_ : ∀ z ∈ v166_.2.1, decode d166_.2.1 z.1 = .ok (z.2.1, z.2.2) := tDrop [0] (by decide +kernel) (by simp only [List.forall_mem_cons]; exact ⟨e166_0, fun _ h => by cases h⟩)
set_option maxRecDepth 100000 in
theorem e167_0 : ((v167_.2.1.drop 0).take 60).all (fun z => decide (decode d167_.2.1 z.1 = .ok (z.2.1, z.2.2))) = true := by decide +kernel
set_option maxRecDepth 100000 in
theorem e167_ : ∀ z ∈ v167_.2.1, decode d167_.2.1 z.1 = .ok (z.2.1, z.2.2) := tDrop [0] (by decide +kernel) (by simp only [List.forall_mem_cons]; exact ⟨e167_0, fun _ h => by cases h⟩)
set_option maxRecDepth 100000 in
theorem e168_0 : ((v168_.2.1.drop 0).take 60).all (fun z => decide (decode d168_.2.1 z.1 = .ok (z.2.1, z.2.2))) = true := by decide +kernel
set_option maxRecDepth 100000 in
theorem e168_ : ∀ z ∈ v168_.2.1, decode d168_.2.1 z.1 = .ok (z.2.1, z.2.2) := tDrop [0] (by decide +kernel) (by simp only [List.forall_mem_cons]; exact ⟨e168_0, fun _ h => by cases h⟩)
set_option maxRecDepth 100000 in
theorem e169_0 : ((v169_.2.1.drop 0).take 60).all (fun z => decide (decode d169_.2.1 z.1 = .ok (z.2.1, z.2.2))) = true := by decide +kernel
set_option maxRecDepth 100000 in
theorem e169_ : ∀ z ∈ v169_.2.1, decode d169_.2.1 z.1 = .ok (z.2.1, z.2.2) := tDrop [0] (by decide +kernel) (by simp only [List.forall_mem_cons]; exact ⟨e169_0, fun _ h => by cases h⟩)
set_option maxRecDepth 100000 in
theorem e170_0 : ((v170_.2.1.drop 0).take 60).all (fun z => decide (decode d170_.2.1 z.1 = .ok (z.2.1, z.2.2))) = true := by decide +kernel
set_option maxRecDepth 100000 in
theorem e170_ : ∀ z ∈ v170_.2.1, decode d170_.2.1 z.1 = .ok (z.2.1, z.2.2) := tDrop [0] (by decide +kernel) (by simp only [List.forall_mem_cons]; exact ⟨e170_0, fun _ h => by cases h⟩)
set_option maxRecDepth 100000 in
theorem e171_0 : ((v171_.2.1.drop 0).take 60).all (fun z => decide (decode d171_.2.1 z.1 = .ok (z.2.1, z.2.2))) = true := by decide +kernel
set_option maxRecDepth 100000 in
theorem e171_ : ∀ z ∈ v171_.2.1, decode d171_.2.1 z.1 = .ok (z.2.1, z.2.2) := tDrop [0] (by decide +kernel) (by simp only [List.forall_mem_cons]; exact ⟨e171_0, fun _ h => by cases h⟩)
set_option maxRecDepth 100000 in
theorem e172_0 : ((v172_.2.1.drop 0).take 60).all (fun z => decide (decode d172_.2.1 z.1 = .ok (z.2.1, z.2.2))) = true := by decide +kernel
set_option maxRecDepth 100000 in
theorem e172_ : ∀ z ∈ v172_.2.1, decode d172_.2.1 z.1 = .ok (z.2.1, z.2.2) := tDrop [0] (by decide +kernel) (by simp only [List.forall_mem_cons]; exact ⟨e172_0, fun _ h => by cases h⟩)
set_option maxRecDepth 100000 in
theorem e173_0 : ((v173_.2.1.drop 0).take 60).all (fun z => decide (decode d173_.2.1 z.1 = .ok (z.2.1, z.2.2))) = true := by decide +kernel
set_option maxRecDepth 100000 in
theorem e173_60 : ((v173_.2.1.drop 60).take 60).all (fun z => decide (decode d173_.2.1 z.1 = .ok (z.2.1, z.2.2))) = true := by decide +kernel
set_option maxRecDepth 100000 in
theorem e173_ : ∀ z ∈ v173_.2.1, decode d173_.2.1 z.1 = .ok (z.2.1, z.2.2) := tDrop [0, 60] (by decide +kernel) (by simp only [List.forall_mem_cons]; exact ⟨e173_0, e173_60, fun _ h => by cases h⟩)
set_option maxRecDepth 100000 in
theorem e174_0 : ((v174_.2.1.drop 0).take 60).all (fun z => decide (decode d174_.2.1 z.1 = .ok (z.2.1, z.2.2))) = true := by decide +kernel
set_option maxRecDepth 100000 in
theorem e174_ : ∀ z ∈ v174_.2.1, decode d174_.2.1 z.1 = .ok (z.2.1, z.2.2) := tDrop [0] (by decide +kernel) (by simp only [List.forall_mem_cons]; exact ⟨e174_0, fun _ h => by cases h⟩)
set_option maxRecDepth 100000 in
theorem e175_0 : ((v175_.2.1.drop 0).take 60).all (fun z => decide (decode d175_.2.1 z.1 = .ok (z.2.1, z.2.2))) = true := by decide +kernel
set_option maxRecDepth 100000 in
theorem e175_ : ∀ z ∈ v175_.2.1, decode d175_.2.1 z.1 = .ok (z.2.1, z.2.2) := tDrop [0] (by decide +kernel) (by simp only [List.forall_mem_cons]; exact ⟨e175_0, fun _ h => by cases h⟩)
set_option maxRecDepth 100000 in
theorem e176_0 : ((v176_.2.1.drop 0).take 60).all (fun z => decide (decode d176_.2.1 z.1 = .ok (z.2.1, z.2.2))) = true := by decide +kernel
set_option maxRecDepth 100000 in
theorem e176_ : ∀ z ∈ v176_.2.1, decode d176_.2.1 z.1 = .ok (z.2.1, z.2.2) := tDrop [0] (by decide +kernel) (by simp only [List.forall_mem_cons]; exact ⟨e176_0, fun _ h => by cases h⟩)
set_option maxRecDepth 100000 in
theorem e177_0 : ((v177_.2.1.drop 0).take 60).all (fun z => decide (decode d177_.2.1 z.1 = .ok (z.2.1, z.2.2))) = true := by decide +kernel
set_option maxRecDepth 100000 in
theorem e177_ : ∀ z ∈ v177_.2.1, decode d177_.2.1 z.1 = .ok (z.2.1, z.2.2) := tDrop [0] (by decide +kernel) (by simp only [List.forall_mem_cons]; exact ⟨e177_0, fun _ h => by cases h⟩)
set_option maxRecDepth 100000 in
theorem e178_0 : ((v178_.2.1.drop 0).take 60).all (fun z => decide (decode d178_.2.1 z.1 = .ok (z.2.1, z.2.2))) = true := by decide +kernel
set_option maxRecDepth 100000 in
theorem e178_ : ∀ z ∈ v178_.2.1, decode d178_.2.1 z.1 = .ok (z.2.1, z.2.2) := tDrop [0] (by decide +kernel) (by simp only [List.forall_mem_cons]; exact ⟨e178_0, fun _ h => by cases h⟩)
set_option maxRecDepth 100000 in
theorem e179_0 : ((v179_.2.1.drop 0).take 60).all (fun z => decide (decode d179_.2.1 z.1 = .ok (z.2.1, z.2.2))) = true := by decide +kernel
set_option maxRecDepth 100000 in
theorem e179_ : ∀ z ∈ v179_.2.1, decode d179_.2.1 z.1 = .ok (z.2.1, z.2.2) := tDrop [0] (by decide +kernel) (by simp only [List.forall_mem_cons]; exact ⟨e179_0, fun _ h => by cases h⟩)
set_option maxRecDepth 100000 in
theorem e180_0 : ((v180_.2.1.drop 0).take 60).all (fun z => decide (decode d180_.2.1 z.1 = .ok (z.2.1, z.2.2))) = true := by decide +kernel
set_option maxRecDepth 100000 in
theorem e180_ : ∀ z ∈ v180_.2.1, decode d180_.2.1 z.1 = .ok (z.2.1, z.2.2) := tDrop [0] (by decide +kernel) (by simp only [List.forall_mem_cons]; exact ⟨e180_0, fun _ h => by cases h⟩)
set_option maxRecDepth 100000 in
theorem e181_0 : ((v181_.2.1.drop 0).take 60).all (fun z => decide (decode d181_.2.1 z.1 = .ok (z.2.1, z.2.2))) = true := by decide +kernel
set_option maxRecDepth 100000 in
theorem e181_ : ∀ z ∈ v181_.2.1, decode d181_.2.1 z.1 = .ok (z.2.1, z.2.2) := tDrop [0] (by decide +kernel) (by simp only [List.forall_mem_cons]; exact ⟨e181_0, fun _ h => by cases h⟩)
set_option maxRecDepth 100000 in
theorem e182_0 : ((v182_.2.1.drop 0).take 60).all (fun z => decide (decode d182_.2.1 z.1 = .ok (z.2.1, z.2.2))) = true := by decide +kernel
set_option maxRecDepth 100000 in
theorem e182_60 : ((v182_.2.1.drop 60).take 60).all (fun z => decide (decode d182_.2.1 z.1 = .ok (z.2.1, z.2.2))) = true := by decide +kernel
set_option maxRecDepth 100000 in
theorem e182_ : ∀ z ∈ v182_.2.1, decode d182_.2.1 z.1 = .ok (z.2.1, z.2.2) := tDrop [0, 60] (by decide +kernel) (by simp only [List.forall_mem_cons]; exact ⟨e182_0, e182_60, fun _ h => by cases h⟩)
set_option maxRecDepth 100000 in
theorem e183_0 : ((v183_.2.1.drop 0).take 60).all (fun z => decide (decode d183_.2.1 z.1 = .ok (z.2.1, z.2.2))) = true := by decide +kernel
set_option maxRecDepth 100000 in
theorem e183_ : ∀ z ∈ v183_.2.1, decode d183_.2.1 z.1 = .ok (z.2.1, z.2.2) := tDrop [0] (by decide +kernel) (by simp only [List.forall_mem_cons]; exact ⟨e183_0, fun _ h => by cases h⟩)
set_option maxRecDepth 100000 in
theorem e184_0 : ((v184_.2.1.drop 0).take 60).all (fun z => decide (decode d184_.2.1 z.1 = .ok (z.2.1, z.2.2))) = true := by decide +kernel
set_option maxRecDepth 100000 in
theorem e184_ : ∀ z ∈ v184_.2.1, decode d184_.2.1 z.1 = .ok (z.2.1, z.2.2) := tDrop [0] (by decide +kernel) (by simp only [List.forall_mem_cons]; exact ⟨e184_0, fun _ h => by cases h⟩)
set_option maxRecDepth 100000 in
theorem e185_0 : ((v185_.2.1.drop 0).take 60).all (fun z => decide (decode d185_.2.1 z.1 = .ok (z.2.1, z.2.2))) = true := by decide +kernel
set_option maxRecDepth 100000 in
theorem e185_ : ∀ z ∈ v185_.2.1, decode d185_.2.1 z.1 = .ok (z.2.1, z.2.2) := tDrop [0] (by decide +kernel) (by simp only [List.forall_mem_cons]; exact ⟨e185_0, fun _ h => by cases h⟩)
set_option maxRecDepth 100000 in
theorem e186_0 : ((v186_.2.1.drop 0).take 60).all (fun z => decide (decode d186_.2.1 z.1 = .ok (z.2.1, z.2.2))) = true := by decide +kernel
set_option maxRecDepth 100000 in
theorem e186_ : ∀ z ∈ v186_.2.1, decode d186_.2.1 z.1 = .ok (z.2.1, z.2.2) := tDrop [0] (by decide +kernel) (by simp only [List.forall_mem_cons]; exact ⟨e186_0, fun _ h => by cases h⟩)
set_option maxRecDepth 100000 in
theorem e187_0 : ((v187_.2.1.drop 0).take 60).all (fun z => decide (decode d187_.2.1 z.1 = .ok (z.2.1, z.2.2))) = true := by decide +kernel
set_option maxRecDepth 100000 in
theorem e187_60 : ((v187_.2.1.drop 60).take 60).all (fun z => decide (decode d187_.2.1 z.1 = .ok (z.2.1, z.2.2))) = true := by decide +kernel
set_option maxRecDepth 100000 in
theorem e187_ : ∀ z ∈ v187_.2.1, decode d187_.2.1 z.1 = .ok (z.2.1, z.2.2) := tDrop [0, 60] (by decide +kernel) (by simp only [List.forall_mem_cons]; exact ⟨e187_0, e187_60, fun _ h => by cases h⟩)
set_option maxRecDepth 100000 in
theorem e188_0 : ((v188_.2.1.drop 0).take 60).all (fun z => decide (decode d188_.2.1 z.1 = .ok (z.2.1, z.2.2))) = true := by decide +kernel
set_option maxRecDepth 100000 in
theorem e188_ : ∀ z ∈ v188_.2.1, decode d188_.2.1 z.1 = .ok (z.2.1, z.2.2) := tDrop [0] (by decide +kernel) (by simp only [List.forall_mem_cons]; exact ⟨e188_0, fun _ h => by cases h⟩)
set_option maxRecDepth 100000 in
theorem e189_0 : ((v189_.2.1.drop 0).take 60).all (fun z => decide (decode d189_.2.1 z.1 = .ok (z.2.1, z.2.2))) = true := by decide +kernel
set_option maxRecDepth 100000 in
theorem e189_60 : ((v189_.2.1.drop 60).take 60).all (fun z => decide (decode d189_.2.1 z.1 = .ok (z.2.1, z.2.2))) = true := by decide +kernel
set_option maxRecDepth 100000 in
theorem e189_ : ∀ z ∈ v189_.2.1, decode d189_.2.1 z.1 = .ok (z.2.1, z.2.2) := tDrop [0, 60] (by decide +kernel) (by simp only [List.forall_mem_cons]; exact ⟨e189_0, e189_60, fun _ h => by cases h⟩)
set_option maxRecDepth 100000 in
theorem e190_0 : ((v190_.2.1.drop 0).take 60).all (fun z => decide (decode d190_.2.1 z.1 = .ok (z.2.1, z.2.2))) = true := by decide +kernel
set_option maxRecDepth 100000 in
theorem e190_ : ∀ z ∈ v190_.2.1, decode d190_.2.1 z.1 = .ok (z.2.1, z.2.2) := tDrop [0] (by decide +kernel) (by simp only [List.forall_mem_cons]; exact ⟨e190_0, fun _ h => by cases h⟩)
set_option maxRecDepth 100000 in
theorem e191_0 : ((v191_.2.1.drop 0).take 60).all (fun z => decide (decode d191_.2.1 z.1 = .ok (z.2.1, z.2.2))) = true := by decide +kernel
set_option maxRecDepth 100000 in
theorem e191_ : ∀ z ∈ v191_.2.1, decode d191_.2.1 z.1 = .ok (z.2.1, z.2.2) := tDrop [0] (by decide +kernel) (by simp only [List.forall_mem_cons]; exact ⟨e191_0, fun _ h => by cases h⟩)
set_option maxRecDepth 100000 in
theorem e192_0 : ((v192_.2.1.drop 0).take 60).all (fun z => decide (decode d192_.2.1 z.1 = .ok (z.2.1, z.2.2))) = true := by decide +kernel
set_option maxRecDepth 100000 in
theorem e192_ : ∀ z ∈ v192_.2.1, decode d192_.2.1 z.1 = .ok (z.2.1, z.2.2) := tDrop [0] (by decide +kernel) (by simp only [List.forall_mem_cons]; exact ⟨e192_0, fun _ h => by cases h⟩)
set_option maxRecDepth 100000 in
theorem e193_0 : ((v193_.2.1.drop 0).take 60).all (fun z => decide (decode d193_.2.1 z.1 = .ok (z.2.1, z.2.2))) = true := by decide +kernel
set_option maxRecDepth 100000 in
theorem e193_ : ∀ z ∈ v193_.2.1, decode d193_.2.1 z.1 = .ok (z.2.1, z.2.2) := tDrop [0] (by decide +kernel) (by simp only [List.forall_mem_cons]; exact ⟨e193_0, fun _ h => by cases h⟩)
set_option maxRecDepth 100000 in
theorem e194_0 : ((v194_.2.1.drop 0).take 60).all (fun z => decide (decode d194_.2.1 z.1 = .ok (z.2.1, z.2.2))) = true := by decide +kernel
set_option maxRecDepth 100000 in
theorem e194_ : ∀ z ∈ v194_.2.1, decode d194_.2.1 z.1 = .ok (z.2.1, z.2.2) := tDrop [0] (by decide +kernel) (by simp only [List.forall_mem_cons]; exact ⟨e194_0, fun _ h => by cases h⟩)
set_option maxRecDepth 100000 in
theorem e195_0 : ((v195_.2.1.drop 0).take 60).all (fun z => decide (decode d195_.2.1 z.1 = .ok (z.2.1, z.2.2))) = true := by decide +kernel
set_option maxRecDepth 100000 in
theorem e195_60 : ((v195_.2.1.drop 60).take 60).all (fun z => decide (decode d195_.2.1 z.1 = .ok (z.2.1, z.2.2))) = true := by decide +kernel
set_option maxRecDepth 100000 in
theorem e195_ : ∀ z ∈ v195_.2.1, decode d195_.2.1 z.1 = .ok (z.2.1, z.2.2) := tDrop [0, 60] (by decide +kernel) (by simp only [List.forall_mem_cons]; exact ⟨e195_0, e195_60, fun _ h => by cases h⟩)
set_option maxRecDepth 100000 in
theorem e196_0 : ((v196_.2.1.drop 0).take 60).all (fun z => decide (decode d196_.2.1 z.1 = .ok (z.2.1, z.2.2))) = true := by decide +kernel
set_option maxRecDepth 100000 in
theorem e196_ : ∀ z ∈ v196_.2.1, decode d196_.2.1 z.1 = .ok (z.2.1, z.2.2) := tDrop [0] (by decide +kernel) (by simp only [List.forall_mem_cons]; exact ⟨e196_0, fun _ h => by cases h⟩)
set_option maxRecDepth 100000 in
theorem e197_0 : ((v197_.2.1.drop 0).take 60).all (fun z => decide (decode d197_.2.1 z.1 = .ok (z.2.1, z.2.2))) = true := by decide +kernel
set_option maxRecDepth 100000 in
theorem e197_ : ∀ z ∈ v197_.2.1, decode d197_.2.1 z.1 = .ok (z.2.1, z.2.2) := tDrop [0] (by decide +kernel) (by simp only [List.forall_mem_cons]; exact ⟨e197_0, fun _ h => by cases h⟩)
set_option maxRecDepth 100000 in
theorem e198_0 : ((v198_.2.1.drop 0).take 60).all (fun z => decide (decode d198_.2.1 z.1 = .ok (z.2.1, z.2.2))) = true := by decide +kernel
set_option maxRecDepth 100000 in
theorem e198_ : ∀ z ∈ v198_.2.1, decode d198_.2.1 z.1 = .ok (z.2.1, z.2.2) := tDrop [0] (by decide +kernel) (by simp only [List.forall_mem_cons]; exact ⟨e198_0, fun _ h => by cases h⟩)
set_option maxRecDepth 100000 in
theorem e199_0 : ((v199_.2.1.drop 0).take 60).all (fun z => decide (decode d199_.2.1 z.1 = .ok (z.2.1, z.2.2))) = true := by decide +kernel
set_option maxRecDepth 100000 in
theorem e199_ : ∀ z ∈ v199_.2.1, decode d199_.2.1 z.1 = .ok (z.2.1, z.2.2) := tDrop [0] (by decide +kernel) (by simp only [List.forall_mem_cons]; exact ⟨e199_0, fun _ h => by cases h⟩)
set_option maxRecDepth 100000 in
theorem e200_0 : ((v200_.2.1.drop 0).take 60).all (fun z => decide (decode d200_.2.1 z.1 = .ok (z.2.1, z.2.2))) = true := by decide +kernel
set_option maxRecDepth 100000 in
theorem e200_ : ∀ z ∈ v200_.2.1, decode d200_.2.1 z.1 = .ok (z.2.1, z.2.2) := tDrop [0] (by decide +kernel) (by simp only [List.forall_mem_cons]; exact ⟨e200_0, fun _ h => by cases h⟩)
set_option maxRecDepth 100000 in
theorem e201_0 : ((v201_.2.1.drop 0).take 60).all (fun z => decide (decode d201_.2.1 z.1 = .ok (z.2.1, z.2.2))) = true := by decide +kernel
set_option maxRecDepth 100000 in
theorem e201_ : ∀ z ∈ v201_.2.1, decode d201_.2.1 z.1 = .ok (z.2.1, z.2.2) := tDrop [0] (by decide +kernel) (by simp only [List.forall_mem_cons]; exact ⟨e201_0, fun _ h => by cases h⟩)
set_option maxRecDepth 100000 in
theorem e202_0 : ((v202_.2.1.drop 0).take 60).all (fun z => decide (decode d202_.2.1 z.1 = .ok (z.2.1, z.2.2))) = true := by decide +kernel
set_option maxRecDepth 100000 in
theorem e202_ : ∀ z ∈ v202_.2.1, decode d202_.2.1 z.1 = .ok (z.2.1, z.2.2) := tDrop [0] (by decide +kernel) (by simp only [List.forall_mem_cons]; exact ⟨e202_0, fun _ h => by cases h⟩)
set_option maxRecDepth 100000 in
theorem e203_0 : ((v203_.2.1.drop 0).take 60).all (fun z => decide (decode d203_.2.1 z.1 = .ok (z.2.1, z.2.2))) = true := by decide +kernel
set_option maxRecDepth 100000 in
theorem e203_ : ∀ z ∈ v203_.2.1, decode d203_.2.1 z.1 = .ok (z.2.1, z.2.2) := tDrop [0] (by decide +kernel) (by simp only [List.forall_mem_cons]; exact ⟨e203_0, fun _ h => by cases h⟩)
set_option maxRecDepth 100000 in
theorem e204_0 : ((v204_.2.1.drop 0).take 60).all (fun z => decide (decode d204_.2.1 z.1 = .ok (z.2.1, z.2.2))) = true := by decide +kernel
set_option maxRecDepth 100000 in
theorem e204_ : ∀ z ∈ v204_.2.1, decode d204_.2.1 z.1 = .ok (z.2.1, z.2.2) := tDrop [0] (by decide +kernel) (by simp only [List.forall_mem_cons]; exact ⟨e204_0, fun _ h => by cases h⟩)
set_option maxRecDepth 100000 in
theorem e205_0 : ((v205_.2.1.drop 0).take 60).all (fun z => decide (decode d205_.2.1 z.1 = .ok (z.2.1, z.2.2))) = true := by decide +kernel
set_option maxRecDepth 100000 in
theorem e205_60 : ((v205_.2.1.drop 60).take 60).all (fun z => decide (decode d205_.2.1 z.1 = .ok (z.2.1, z.2.2))) = true := by decide +kernel
set_option maxRecDepth 100000 in
theorem e205_ : ∀ z ∈ v205_.2.1, decode d205_.2.1 z.1 = .ok (z.2.1, z.2.2) := tDrop [0, 60] (by decide +kernel) (by simp only [List.forall_mem_cons]; exact ⟨e205_0, e205_60, fun _ h => by cases h⟩)
set_option maxRecDepth 100000 in
theorem e206_0 : ((v206_.2.1.drop 0).take 60).all (fun z => decide (decode d206_.2.1 z.1 = .ok (z.2.1, z.2.2))) = true := by decide +kernel
set_option maxRecDepth 100000 in
theorem e206_ : ∀ z ∈ v206_.2.1, decode d206_.2.1 z.1 = .ok (z.2.1, z.2.2) := tDrop [0] (by decide +kernel) (by simp only [List.forall_mem_cons]; exact ⟨e206_0, fun _ h => by cases h⟩)
set_option maxRecDepth 100000 in
theorem e207_0 : ((v207_.2.1.drop 0).take 60).all (fun z => decide (decode d207_.2.1 z.1 = .ok (z.2.1, z.2.2))) = true := by decide +kernel
set_option maxRecDepth 100000 in
theorem e207_60 : ((v207_.2.1.drop 60).take 60).all (fun z => decide (decode d207_.2.1 z.1 = .ok (z.2.1, z.2.2))) = true := by decide +kernel
set_option maxRecDepth 100000 in
theorem e207_ : ∀ z ∈ v207_.2.1, decode d207_.2.1 z.1 = .ok (z.2.1, z.2.2) := tDrop [0, 60] (by decide +kernel) (by simp only [List.forall_mem_cons]; exact ⟨e207_0, e207_60, fun _ h => by cases h⟩)
set_option maxRecDepth 100000 in
theorem e208_0 : ((v208_.2.1.drop 0).take 60).all (fun z => decide (decode d208_.2.1 z.1 = .ok (z.2.1, z.2.2))) = true := by decide +kernel
set_option maxRecDepth 100000 in
theorem e208_ : ∀ z ∈ v208_.2.1, decode d208_.2.1 z.1 = .ok (z.2.1, z.2.2) := tDrop [0] (by decide +kernel) (by simp only [List.forall_mem_cons]; exact ⟨e208_0, fun _ h => by cases h⟩)
set_option maxRecDepth 100000 in
theorem e209_0 : ((v209_.2.1.drop 0).take 60).all (fun z => decide (decode d209_.2.1 z.1 = .ok (z.2.1, z.2.2))) = true := by decide +kernel
set_option maxRecDepth 100000 in
theorem e209_ : ∀ z ∈ v209_.2.1, decode d209_.2.1 z.1 = .ok (z.2.1, z.2.2) := tDrop [0] (by decide +kernel) (by simp only [List.forall_mem_cons]; exact ⟨e209_0, fun _ h => by cases h⟩)
set_option maxRecDepth 100000 in
theorem e210_0 : ((v210_.2.1.drop 0).take 60).all (fun z => decide (decode d210_.2.1 z.1 = .ok (z.2.1, z.2.2))) = true := by decide +kernel
set_option maxRecDepth 100000 in
theorem e210_60 : ((v210_.2.1.drop 60).take 60).all (fun z => decide (decode d210_.2.1 z.1 = .ok (z.2.1, z.2.2))) = true := by decide +kernel
set_option maxRecDepth 100000 in
theorem e210_ : ∀ z ∈ v210_.2.1, decode d210_.2.1 z.1 = .ok (z.2.1, z.2.2) := tDrop [0, 60] (by decide +kernel) (by simp only [List.forall_mem_cons]; exact ⟨e210_0, e210_60, fun _ h => by cases h⟩)
set_option maxRecDepth 100000 in
theorem e211_0 : ((v211_.2.1.drop 0).take 60).all (fun z => decide (decode d211_.2.1 z.1 = .ok (z.2.1, z.2.2))) = true := by decide +kernel
set_option maxRecDepth 100000 in
theorem e211_ : ∀ z ∈ v211_.2.1, decode d211_.2.1 z.1 = .ok (z.2.1, z.2.2) := tDrop [0] (by decide +kernel) (by simp only [List.forall_mem_cons]; exact ⟨e211_0, fun _ h => by cases h⟩)
set_option maxRecDepth 100000 in
theorem e212_0 : ((v212_.2.1.drop 0).take 60).all (fun z => decide (decode d212_.2.1 z.1 = .ok (z.2.1, z.2.2))) = true := by decide +kernel
set_option maxRecDepth 100000 in
theorem e212_60 : ((v212_.2.1.drop 60).take 60).all (fun z => decide (decode d212_.2.1 z.1 = .ok (z.2.1, z.2.2))) = true := by decide +kernel
set_option maxRecDepth 100000 in
theorem e212_ : ∀ z ∈ v212_.2.1, decode d212_.2.1 z.1 = .ok (z.2.1, z.2.2) := tDrop [0, 60] (by decide +kernel) (by simp only [List.forall_mem_cons]; exact ⟨e212_0, e212_60, fun _ h => by cases h⟩)
set_option maxRecDepth 100000 in
theorem e213_0 : ((v213_.2.1.drop 0).take 60).all (fun z => decide (decode d213_.2.1 z.1 = .ok (z.2.1, z.2.2))) = true := by decide +kernel
set_option maxRecDepth 100000 in
theorem e213_ : ∀ z ∈ v213_.2.1, decode d213_.2.1 z.1 = .ok (z.2.1, z.2.2) := tDrop [0] (by decide +kernel) (by simp only [List.forall_mem_cons]; exact ⟨e213_0, fun _ h => by cases h⟩)
set_option maxRecDepth 100000 in
theorem e214_0 : ((v214_.2.1.drop 0).take 60).all (fun z => decide (decode d214_.2.1 z.1 = .ok (z.2.1, z.2.2))) = true := by decide +kernel
set_option maxRecDepth 100000 in
theorem e214_ : ∀ z ∈ v214_.2.1, decode d214_.2.1 z.1 = .ok (z.2.1, z.2.2) := tDrop [0] (by decide +kernel) (by simp only [List.forall_mem_cons]; exact ⟨e214_0, fun _ h => by cases h⟩)
set_option maxRecDepth 100000 in
theorem e215_0 : ((v215_.2.1.drop 0).take 60).all (fun z => decide (decode d215_.2.1 z.1 = .ok (z.2.1, z.2.2))) = true := by decide +kernel
set_option maxRecDepth 100000 in
theorem e215_ : ∀ z ∈ v215_.2.1, decode d215_.2.1 z.1 = .ok (z.2.1, z.2.2) := tDrop [0] (by decide +kernel) (by simp only [List.forall_mem_cons]; exact ⟨e215_0, fun _ h => by cases h⟩)
set_option maxRecDepth 100000 in
theorem e216_0 : ((v216_.2.1.drop 0).take 60).all (fun z => decide (decode d216_.2.1 z.1 = .ok (z.2.1, z.2.2))) = true := by decide +kernel
set_option maxRecDepth 100000 in
theorem e216_ : ∀ z ∈ v216_.2.1, decode d216_.2.1 z.1 = .ok (z.2.1, z.2.2) := tDrop [0] (by decide +kernel) (by simp only [List.forall_mem_cons]; exact ⟨e216_0, fun _ h => by cases h⟩)
set_option maxRecDepth 100000 in
theorem e217_0 : ((v217_.2.1.drop 0).take 60).all (fun z => decide (decode d217_.2.1 z.1 = .ok (z.2.1, z.2.2))) = true := by decide +kernel
set_option maxRecDepth 100000 in
theorem e217_ : ∀ z ∈ v217_.2.1, decode d217_.2.1 z.1 = .ok (z.2.1, z.2.2) := tDrop [0] (by decide +kernel) (by simp only [List.forall_mem_cons]; exact ⟨e217_0, fun _ h => by cases h⟩)
set_option maxRecDepth 100000 in
theorem e218_0 : ((v218_.2.1.drop 0).take 60).all (fun z => decide (decode d218_.2.1 z.1 = .ok (z.2.1, z.2.2))) = true := by decide +kernel
set_option maxRecDepth 100000 in
theorem e218_ : ∀ z ∈ v218_.2.1, decode d218_.2.1 z.1 = .ok (z.2.1, z.2.2) := tDrop [0] (by decide +kernel) (by simp only [List.forall_mem_cons]; exact ⟨e218_0, fun _ h => by cases h⟩)
set_option maxRecDepth 100000 in
theorem e219_0 : ((v219_.2.1.drop 0).take 60).all (fun z => decide (decode d219_.2.1 z.1 = .ok (z.2.1, z.2.2))) = true := by decide +kernel
set_option maxRecDepth 100000 in
theorem e219_ : ∀ z ∈ v219_.2.1, decode d219_.2.1 z.1 = .ok (z.2.1, z.2.2) := tDrop [0] (by decide +kernel) (by simp only [List.forall_mem_cons]; exact ⟨e219_0, fun _ h => by cases h⟩)
set_option maxRecDepth 100000 in
theorem e220_0 : ((v220_.2.1.drop 0).take 60).all (fun z => decide (decode d220_.2.1 z.1 = .ok (z.2.1, z.2.2))) = true := by decide +kernel
set_option maxRecDepth 100000 in
theorem e220_ : ∀ z ∈ v220_.2.1, decode d220_.2.1 z.1 = .ok (z.2.1, z.2.2) := tDrop [0] (by decide +kernel) (by simp only [List.forall_mem_cons]; exact ⟨e220_0, fun _ h => by cases h⟩)
set_option maxRecDepth 100000 in
theorem e221_0 : ((v221_.2.1.drop 0).take 60).all (fun z => decide (decode d221_.2.1 z.1 = .ok (z.2.1, z.2.2))) = true := by decide +kernel
set_option maxRecDepth 100000 in
theorem e221_ : ∀ z ∈ v221_.2.1, decode d221_.2.1 z.1 = .ok (z.2.1, z.2.2) := tDrop [0] (by decide +kernel) (by simp only [List.forall_mem_cons]; exact ⟨e221_0, fun _ h => by cases h⟩)
set_option maxRecDepth 100000 in
theorem e222_0 : ((v222_.2.1.drop 0).take 60).all (fun z => decide (decode d222_.2.1 z.1 = .ok (z.2.1, z.2.2))) = true := by decide +kernel
set_option maxRecDepth 100000 in
theorem e222_ : ∀ z ∈ v222_.2.1, decode d222_.2.1 z.1 = .ok (z.2.1, z.2.2) := tDrop [0] (by decide +kernel) (by simp only [List.forall_mem_cons]; exact ⟨e222_0, fun _ h => by cases h⟩)
set_option maxRecDepth 100000 in
theorem e223_0 : ((v223_.2.1.drop 0).take 60).all (fun z => decide (decode d223_.2.1 z.1 = .ok (z.2.1, z.2.2))) = true := by decide +kernel
set_option maxRecDepth 100000 in
theorem e223_ : ∀ z ∈ v223_.2.1, decode d223_.2.1 z.1 = .ok (z.2.1, z.2.2) := tDrop [0] (by decide +kernel) (by simp only [List.forall_mem_cons]; exact ⟨e223_0, fun _ h => by cases h⟩)
set_option maxRecDepth 100000 in
theorem e224_0 : ((v224_.2.1.drop 0).take 60).all (fun z => decide (decode d224_.2.1 z.1 = .ok (z.2.1, z.2.2))) = true := by decide +kernel
set_option maxRecDepth 100000 in
theorem e224_ : ∀ z ∈ v224_.2.1, decode d224_.2.1 z.1 = .ok (z.2.1, z.2.2) := tDrop [0] (by decide +kernel) (by simp only [List.forall_mem_cons]; exact ⟨e224_0, fun _ h => by cases h⟩)
set_option maxRecDepth 100000 in
theorem e225_0 : ((v225_.2.1.drop 0).take 60).all (fun z => decide (decode d225_.2.1 z.1 = .ok (z.2.1, z.2.2))) = true := by decide +kernel
set_option maxRecDepth 100000 in
theorem e225_ : ∀ z ∈ v225_.2.1, decode d225_.2.1 z.1 = .ok (z.2.1, z.2.2) := tDrop [0] (by decide +kernel) (by simp only [List.forall_mem_cons]; exact ⟨e225_0, fun _ h => by cases h⟩)
set_option maxRecDepth 100000 in
theorem e226_0 : ((v226_.2.1.drop 0).take 60).all (fun z => decide (decode d226_.2.1 z.1 = .ok (z.2.1, z.2.2))) = true := by decide +kernel
set_option maxRecDepth 100000 in
theorem e226_ : ∀ z ∈ v226_.2.1, decode d226_.2.1 z.1 = .ok (z.2.1, z.2.2) := tDrop [0] (by decide +kernel) (by simp only [List.forall_mem_cons]; exact ⟨e226_0, fun _ h => by cases h⟩)
set_option maxRecDepth 100000 in
theorem e227_0 : ((v227_.2.1.drop 0).take 60).all (fun z => decide (decode d227_.2.1 z.1 = .ok (z.2.1, z.2.2))) = true := by decide +kernel
set_option maxRecDepth 100000 in
theorem e227_ : ∀ z ∈ v227_.2.1, decode d227_.2.1 z.1 = .ok (z.2.1, z.2.2) := tDrop [0] (by decide +kernel) (by simp only [List.forall_mem_cons]; exact ⟨e227_0, fun _ h => by cases h⟩)
set_option maxRecDepth 100000 in
theorem e228_0 : ((v228_.2.1.drop 0).take 60).all (fun z => decide (decode d228_.2.1 z.1 = .ok (z.2.1, z.2.2))) = true := by decide +kernel
set_option maxRecDepth 100000 in
theorem e228_ : ∀ z ∈ v228_.2.1, decode d228_.2.1 z.1 = .ok (z.2.1, z.2.2) := tDrop [0] (by decide +kernel) (by simp only [List.forall_mem_cons]; exact ⟨e228_0, fun _ h => by cases h⟩)
set_option maxRecDepth 100000 in
theorem e229_0 : ((v229_.2.1.drop 0).take 60).all (fun z => decide (decode d229_.2.1 z.1 = .ok (z.2.1, z.2.2))) = true := by decide +kernel
set_option maxRecDepth 100000 in
theorem e229_ : ∀ z ∈ v229_.2.1, decode d229_.2.1 z.1 = .ok (z.2.1, z.2.2) := tDrop [0] (by decide +kernel) (by simp only [List.forall_mem_cons]; exact ⟨e229_0, fun _ h => by cases h⟩)
set_option maxRecDepth 100000 in
theorem e230_0 : ((v230_.2.1.drop 0).take 60).all (fun z => decide (decode d230_.2.1 z.1 = .ok (z.2.1, z.2.2))) = true := by decide +kernel
set_option maxRecDepth 100000 in
theorem e230_ : ∀ z ∈ v230_.2.1, decode d230_.2.1 z.1 = .ok (z.2.1, z.2.2) := tDrop [0] (by decide +kernel) (by simp only [List.forall_mem_cons]; exact ⟨e230_0, fun _ h => by cases h⟩)
set_option maxRecDepth 100000 in
theorem e231_0 : ((v231_.2.1.drop 0).take 60).all (fun z => decide (decode d231_.2.1 z.1 = .ok (z.2.1, z.2.2))) = true := by decide +kernel
set_option maxRecDepth 100000 in
theorem e231_ : ∀ z ∈ v231_.2.1, decode d231_.2.1 z.1 = .ok (z.2.1, z.2.2) := tDrop [0] (by decide +kernel) (by simp only [List.forall_mem_cons]; exact ⟨e231_0, fun _ h => by cases h⟩)
set_option maxRecDepth 100000 in
theorem e232_0 : ((v232_.2.1.drop 0).take 60).all (fun z => decide (decode d232_.2.1 z.1 = .ok (z.2.1, z.2.2))) = true := by decide +kernel
set_option maxRecDepth 100000 in
theorem e232_ : ∀ z ∈ v232_.2.1, decode d232_.2.1 z.1 = .ok (z.2.1, z.2.2) := tDrop [0] (by decide +kernel) (by simp only [List.forall_mem_cons]; exact ⟨e232_0, fun _ h => by cases h⟩)
set_option maxRecDepth 100000 in
theorem e233_0 : ((v233_.2.1.drop 0).take 60).all (fun z => decide (decode d233_.2.1 z.1 = .ok (z.2.1, z.2.2))) = true := by decide +kernel
set_option maxRecDepth 100000 in
theorem e233_ : ∀ z ∈ v233_.2.1, decode d233_.2.1 z.1 = .ok (z.2.1, z.2.2) := tDrop [0] (by decide +kernel) (by simp only [List.forall_mem_cons]; exact ⟨e233_0, fun _ h => by cases h⟩)
set_option maxRecDepth 100000 in
theorem e234_0 : ((v234_.2.1.drop 0).take 60).all (fun z => decide (decode d234_.2.1 z.1 = .ok (z.2.1, z.2.2))) = true := by decide +kernel
set_option maxRecDepth 100000 in
theorem e234_ : ∀ z ∈ v234_.2.1, decode d234_.2.1 z.1 = .ok (z.2.1, z.2.2) := tDrop [0] (by decide +kernel) (by simp only [List.forall_mem_cons]; exact ⟨e234_0, fun _ h => by cases h⟩)
set_option maxRecDepth 100000 in
theorem e235_0 : ((v235_.2.1.drop 0).take 60).all (fun z => decide (decode d235_.2.1 z.1 = .ok (z.2.1, z.2.2))) = true := by decide +kernel
set_option maxRecDepth 100000 in
theorem e235_ : ∀ z ∈ v235_.2.1, decode d235_.2.1 z.1 = .ok (z.2.1, z.2.2) := tDrop [0] (by decide +kernel) (by simp only [List.forall_mem_cons]; exact ⟨e235_0, fun _ h => by cases h⟩)
set_option maxRecDepth 100000 in
theorem e236_0 : ((v236_.2.1.drop 0).take 60).all (fun z => decide (decode d236_.2.1 z.1 = .ok (z.2.1, z.2.2))) = true := by decide +kernel
set_option maxRecDepth 100000 in
theorem e236_ : ∀ z ∈ v236_.2.1, decode d236_.2.1 z.1 = .ok (z.2.1, z.2.2) := tDrop [0] (by decide +kernel) (by simp only [List.forall_mem_cons]; exact ⟨e236_0, fun _ h => by cases h⟩)
set_option maxRecDepth 100000 in
theorem e237_0 : ((v237_.2.1.drop 0).take 60).all (fun z => decide (decode d237_.2.1 z.1 = .ok (z.2.1, z.2.2))) = true := by decide +kernel
set_option maxRecDepth 100000 in
theorem e237_ : ∀ z ∈ v237_.2.1, decode d237_.2.1 z.1 = .ok (z.2.1, z.2.2) := tDrop [0] (by decide +kernel) (by simp only [List.forall_mem_cons]; exact ⟨e237_0, fun _ h => by cases h⟩)
set_option maxRecDepth 100000 in
theorem e238_0 : ((v238_.2.1.drop 0).take 60).all (fun z => decide (decode d238_.2.1 z.1 = .ok (z.2.1, z.2.2))) = true := by decide +kernel
set_option maxRecDepth 100000 in
theorem e238_60 : ((v238_.2.1.drop 60).take 60).all (fun z => decide (decode d238_.2.1 z.1 = .ok (z.2.1, z.2.2))) = true := by decide +kernel
set_option maxRecDepth 100000 in
theorem e238_120 : ((v238_.2.1.drop 120).take 60).all (fun z => decide (decode d238_.2.1 z.1 = .ok (z.2.1, z.2.2))) = true := by decide +kernel
set_option maxRecDepth 100000 in
theorem e238_180 : ((v238_.2.1.drop 180).take 60).all (fun z => decide (decode d238_.2.1 z.1 = .ok (z.2.1, z.2.2))) = true := by decide +kernel
set_option maxRecDepth 100000 in
theorem e238_ : ∀ z ∈ v238_.2.1, decode d238_.2.1 z.1 = .ok (z.2.1, z.2.2) := tDrop [0, 60, 120, 180] (by decide +kernel) (by simp only [List.forall_mem_cons]; exact ⟨e238_0, e238_60, e238_120, e238_180, fun _ h => by cases h⟩)

set_option maxRecDepth 100000 in
theorem tLen : uMx = tMth.map (fun d => d.2.2.1) := by decide +kernel
theorem tKt_nil : aKt [] tTA := fun q hq => by cases hq
def tAw : List Cond := [.arrayClass .int, .arrayClass .long, .arrayClass .byte, .arrayClass .boolean]
set_option maxRecDepth 100000 in
theorem tAw_ok : ∀ w ∈ tAw, w ∈ tW0 := inAt_ok (is := [(1, 130), (1, 129), (2, 44), (2, 161)]) (by decide +kernel)
theorem tTA_ok : aTAok vwCl tTA tW0 := by
  refine ⟨rfl, tAw_ok _ (by simp [tAw]), tAw_ok _ (by simp [tAw]), tAw_ok _ (by simp [tAw]), tAw_ok _ (by simp [tAw]), fun t ty h h2 => ?_⟩
  simp only [tTA, List.mem_cons, Prod.mk.injEq, List.not_mem_nil, or_false] at h
  rcases h with ⟨rfl, rfl⟩ | ⟨rfl, rfl⟩ | ⟨rfl, rfl⟩ | ⟨rfl, rfl⟩ | ⟨rfl, rfl⟩ | ⟨rfl, rfl⟩
  all_goals first | (exfalso; omega) | exact ⟨_, rfl, rfl⟩
def tP (q : aMd × aBd) : Prop := ∀ kd : List aKd, aKt kd tTA → aSg vwCl tTA tTy kd tNw tNc tAo tW0 tMth uMx tXn q.1 q.2 ∧ plainFor q.1.1 = true
theorem tP_of {d : aMd} {Bd : aBd} {is : List (Nat × Nat)} (h1 : inAt (rqM vwCl tMth tXn d.1.cls Bd) is = true) (h2 : ∀ z ∈ Bd.2.1, decode d.2.1 z.1 = .ok (z.2.1, z.2.2)) (h3 : okM vwCl tTA tAo tNw tNc tMth uMx tXn d Bd = true) : tP (d, Bd) :=
  fun kd hkt => aSg_of (kd := kd) tW0_all tTA_ok hkt (inAt_ok h1) h3 h2
set_option maxRecDepth 100000 in
theorem s0_ : tP (d0_, v0_) := tP_of x0_ e0_ (by decide +kernel)
set_option maxRecDepth 100000 in
theorem s1_ : tP (d1_, v1_) := tP_of x1_ e1_ (by decide +kernel)
set_option maxRecDepth 100000 in
theorem s2_ : tP (d2_, v2_) := tP_of x2_ e2_ (by decide +kernel)
set_option maxRecDepth 100000 in
theorem s3_ : tP (d3_, v3_) := tP_of x3_ e3_ (by decide +kernel)
set_option maxRecDepth 100000 in
theorem s4_ : tP (d4_, v4_) := tP_of x4_ e4_ (by decide +kernel)
set_option maxRecDepth 100000 in
theorem s5_ : tP (d5_, v5_) := tP_of x5_ e5_ (by decide +kernel)
set_option maxRecDepth 100000 in
theorem s6_ : tP (d6_, v6_) := tP_of x6_ e6_ (by decide +kernel)
set_option maxRecDepth 100000 in
theorem s7_ : tP (d7_, v7_) := tP_of x7_ e7_ (by decide +kernel)
set_option maxRecDepth 100000 in
theorem s8_ : tP (d8_, v8_) := tP_of x8_ e8_ (by decide +kernel)
set_option maxRecDepth 100000 in
theorem s9_ : tP (d9_, v9_) := tP_of x9_ e9_ (by decide +kernel)
set_option maxRecDepth 100000 in
theorem s10_ : tP (d10_, v10_) := tP_of x10_ e10_ (by decide +kernel)
set_option maxRecDepth 100000 in
theorem s11_ : tP (d11_, v11_) := tP_of x11_ e11_ (by decide +kernel)
set_option maxRecDepth 100000 in
theorem s12_ : tP (d12_, v12_) := tP_of x12_ e12_ (by decide +kernel)
set_option maxRecDepth 100000 in
theorem s13_ : tP (d13_, v13_) := tP_of x13_ e13_ (by decide +kernel)
set_option maxRecDepth 100000 in
theorem s14_ : tP (d14_, v14_) := tP_of x14_ e14_ (by decide +kernel)
set_option maxRecDepth 100000 in
theorem s15_ : tP (d15_, v15_) := tP_of x15_ e15_ (by decide +kernel)
set_option maxRecDepth 100000 in
theorem s16_ : tP (d16_, v16_) := tP_of x16_ e16_ (by decide +kernel)
set_option maxRecDepth 100000 in
theorem s17_ : tP (d17_, v17_) := tP_of x17_ e17_ (by decide +kernel)
set_option maxRecDepth 100000 in
theorem s18_ : tP (d18_, v18_) := tP_of x18_ e18_ (by decide +kernel)
set_option maxRecDepth 100000 in
theorem s19_ : tP (d19_, v19_) := tP_of x19_ e19_ (by decide +kernel)
set_option maxRecDepth 100000 in
theorem s20_ : tP (d20_, v20_) := tP_of x20_ e20_ (by decide +kernel)
set_option maxRecDepth 100000 in
theorem s21_ : tP (d21_, v21_) := tP_of x21_ e21_ (by decide +kernel)
set_option maxRecDepth 100000 in
theorem s22_ : tP (d22_, v22_) := tP_of x22_ e22_ (by decide +kernel)
set_option maxRecDepth 100000 in
theorem s23_ : tP (d23_, v23_) := tP_of x23_ e23_ (by decide +kernel)
set_option maxRecDepth 100000 in
theorem s24_ : tP (d24_, v24_) := tP_of x24_ e24_ (by decide +kernel)
set_option maxRecDepth 100000 in
theorem s25_ : tP (d25_, v25_) := tP_of x25_ e25_ (by decide +kernel)
set_option maxRecDepth 100000 in
theorem s26_ : tP (d26_, v26_) := tP_of x26_ e26_ (by decide +kernel)
set_option maxRecDepth 100000 in
theorem s27_ : tP (d27_, v27_) := tP_of x27_ e27_ (by decide +kernel)
set_option maxRecDepth 100000 in
theorem s28_ : tP (d28_, v28_) := tP_of x28_ e28_ (by decide +kernel)
set_option maxRecDepth 100000 in
theorem s29_ : tP (d29_, v29_) := tP_of x29_ e29_ (by decide +kernel)
set_option maxRecDepth 100000 in
theorem s30_ : tP (d30_, v30_) := tP_of x30_ e30_ (by decide +kernel)
set_option maxRecDepth 100000 in
theorem s31_ : tP (d31_, v31_) := tP_of x31_ e31_ (by decide +kernel)
set_option maxRecDepth 100000 in
theorem s32_ : tP (d32_, v32_) := tP_of x32_ e32_ (by decide +kernel)
set_option maxRecDepth 100000 in
theorem s33_ : tP (d33_, v33_) := tP_of x33_ e33_ (by decide +kernel)
set_option maxRecDepth 100000 in
theorem s34_ : tP (d34_, v34_) := tP_of x34_ e34_ (by decide +kernel)
set_option maxRecDepth 100000 in
theorem s35_ : tP (d35_, v35_) := tP_of x35_ e35_ (by decide +kernel)
set_option maxRecDepth 100000 in
theorem s36_ : tP (d36_, v36_) := tP_of x36_ e36_ (by decide +kernel)
set_option maxRecDepth 100000 in
theorem s37_ : tP (d37_, v37_) := tP_of x37_ e37_ (by decide +kernel)
set_option maxRecDepth 100000 in
theorem s38_ : tP (d38_, v38_) := tP_of x38_ e38_ (by decide +kernel)
set_option maxRecDepth 100000 in
theorem s39_ : tP (d39_, v39_) := tP_of x39_ e39_ (by decide +kernel)
set_option maxRecDepth 100000 in
theorem s40_ : tP (d40_, v40_) := tP_of x40_ e40_ (by decide +kernel)
set_option maxRecDepth 100000 in
theorem s41_ : tP (d41_, v41_) := tP_of x41_ e41_ (by decide +kernel)
set_option maxRecDepth 100000 in
theorem s42_ : tP (d42_, v42_) := tP_of x42_ e42_ (by decide +kernel)
set_option maxRecDepth 100000 in
theorem s43_ : tP (d43_, v43_) := tP_of x43_ e43_ (by decide +kernel)
set_option maxRecDepth 100000 in
theorem s44_ : tP (d44_, v44_) := tP_of x44_ e44_ (by decide +kernel)
set_option maxRecDepth 100000 in
theorem s45_ : tP (d45_, v45_) := tP_of x45_ e45_ (by decide +kernel)
set_option maxRecDepth 100000 in
theorem s46_ : tP (d46_, v46_) := tP_of x46_ e46_ (by decide +kernel)
set_option maxRecDepth 100000 in
theorem s47_ : tP (d47_, v47_) := tP_of x47_ e47_ (by decide +kernel)
set_option maxRecDepth 100000 in
theorem s48_ : tP (d48_, v48_) := tP_of x48_ e48_ (by decide +kernel)
set_option maxRecDepth 100000 in
theorem s49_ : tP (d49_, v49_) := tP_of x49_ e49_ (by decide +kernel)
set_option maxRecDepth 100000 in
theorem s50_ : tP (d50_, v50_) := tP_of x50_ e50_ (by decide +kernel)
set_option maxRecDepth 100000 in
theorem s51_ : tP (d51_, v51_) := tP_of x51_ e51_ (by decide +kernel)
set_option maxRecDepth 100000 in
theorem s52_ : tP (d52_, v52_) := tP_of x52_ e52_ (by decide +kernel)
set_option maxRecDepth 100000 in
theorem s53_ : tP (d53_, v53_) := tP_of x53_ e53_ (by decide +kernel)
set_option maxRecDepth 100000 in
theorem s54_ : tP (d54_, v54_) := tP_of x54_ e54_ (by decide +kernel)
set_option maxRecDepth 100000 in
theorem s55_ : tP (d55_, v55_) := tP_of x55_ e55_ (by decide +kernel)
set_option maxRecDepth 100000 in
theorem s56_ : tP (d56_, v56_) := tP_of x56_ e56_ (by decide +kernel)
set_option maxRecDepth 100000 in
theorem s57_ : tP (d57_, v57_) := tP_of x57_ e57_ (by decide +kernel)
set_option maxRecDepth 100000 in
theorem s58_ : tP (d58_, v58_) := tP_of x58_ e58_ (by decide +kernel)
set_option maxRecDepth 100000 in
theorem s59_ : tP (d59_, v59_) := tP_of x59_ e59_ (by decide +kernel)
set_option maxRecDepth 100000 in
theorem s60_ : tP (d60_, v60_) := tP_of x60_ e60_ (by decide +kernel)
set_option maxRecDepth 100000 in
theorem s61_ : tP (d61_, v61_) := tP_of x61_ e61_ (by decide +kernel)
set_option maxRecDepth 100000 in
theorem s62_ : tP (d62_, v62_) := tP_of x62_ e62_ (by decide +kernel)
set_option maxRecDepth 100000 in
theorem s63_ : tP (d63_, v63_) := tP_of x63_ e63_ (by decide +kernel)
set_option maxRecDepth 100000 in
theorem s64_ : tP (d64_, v64_) := tP_of x64_ e64_ (by decide +kernel)
set_option maxRecDepth 100000 in
theorem s65_ : tP (d65_, v65_) := tP_of x65_ e65_ (by decide +kernel)
set_option maxRecDepth 100000 in
theorem s66_ : tP (d66_, v66_) := tP_of x66_ e66_ (by decide +kernel)
set_option maxRecDepth 100000 in
theorem s67_ : tP (d67_, v67_) := tP_of x67_ e67_ (by decide +kernel)
set_option maxRecDepth 100000 in
theorem s68_ : tP (d68_, v68_) := tP_of x68_ e68_ (by decide +kernel)
set_option maxRecDepth 100000 in
theorem s69_ : tP (d69_, v69_) := tP_of x69_ e69_ (by decide +kernel)
set_option maxRecDepth 100000 in
theorem s70_ : tP (d70_, v70_) := tP_of x70_ e70_ (by decide +kernel)
set_option maxRecDepth 100000 in
theorem s71_ : tP (d71_, v71_) := tP_of x71_ e71_ (by decide +kernel)
set_option maxRecDepth 100000 in
theorem s72_ : tP (d72_, v72_) := tP_of x72_ e72_ (by decide +kernel)
set_option maxRecDepth 100000 in
theorem s73_ : tP (d73_, v73_) := tP_of x73_ e73_ (by decide +kernel)
set_option maxRecDepth 100000 in
theorem s74_ : tP (d74_, v74_) := tP_of x74_ e74_ (by decide +kernel)
set_option maxRecDepth 100000 in
theorem s75_ : tP (d75_, v75_) := tP_of x75_ e75_ (by decide +kernel)
set_option maxRecDepth 100000 in
theorem s76_ : tP (d76_, v76_) := tP_of x76_ e76_ (by decide +kernel)
set_option maxRecDepth 100000 in
theorem s77_ : tP (d77_, v77_) := tP_of x77_ e77_ (by decide +kernel)
set_option maxRecDepth 100000 in
theorem s78_ : tP (d78_, v78_) := tP_of x78_ e78_ (by decide +kernel)
set_option maxRecDepth 100000 in
theorem s79_ : tP (d79_, v79_) := tP_of x79_ e79_ (by decide +kernel)
set_option maxRecDepth 100000 in
theorem s80_ : tP (d80_, v80_) := tP_of x80_ e80_ (by decide +kernel)
set_option maxRecDepth 100000 in
theorem s81_ : tP (d81_, v81_) := tP_of x81_ e81_ (by decide +kernel)
set_option maxRecDepth 100000 in
theorem s82_ : tP (d82_, v82_) := tP_of x82_ e82_ (by decide +kernel)
set_option maxRecDepth 100000 in
theorem s83_ : tP (d83_, v83_) := tP_of x83_ e83_ (by decide +kernel)
set_option maxRecDepth 100000 in
theorem s84_ : tP (d84_, v84_) := tP_of x84_ e84_ (by decide +kernel)
set_option maxRecDepth 100000 in
theorem s85_ : tP (d85_, v85_) := tP_of x85_ e85_ (by decide +kernel)
set_option maxRecDepth 100000 in
theorem s86_ : tP (d86_, v86_) := tP_of x86_ e86_ (by decide +kernel)
set_option maxRecDepth 100000 in
theorem s87_ : tP (d87_, v87_) := tP_of x87_ e87_ (by decide +kernel)
set_option maxRecDepth 100000 in
theorem s88_ : tP (d88_, v88_) := tP_of x88_ e88_ (by decide +kernel)
set_option maxRecDepth 100000 in
theorem s89_ : tP (d89_, v89_) := tP_of x89_ e89_ (by decide +kernel)
set_option maxRecDepth 100000 in
theorem s90_ : tP (d90_, v90_) := tP_of x90_ e90_ (by decide +kernel)
set_option maxRecDepth 100000 in
theorem s91_ : tP (d91_, v91_) := tP_of x91_ e91_ (by decide +kernel)
set_option maxRecDepth 100000 in
theorem s92_ : tP (d92_, v92_) := tP_of x92_ e92_ (by decide +kernel)
set_option maxRecDepth 100000 in
theorem s93_ : tP (d93_, v93_) := tP_of x93_ e93_ (by decide +kernel)
set_option maxRecDepth 100000 in
theorem s94_ : tP (d94_, v94_) := tP_of x94_ e94_ (by decide +kernel)
set_option maxRecDepth 100000 in
theorem s95_ : tP (d95_, v95_) := tP_of x95_ e95_ (by decide +kernel)
set_option maxRecDepth 100000 in
theorem s96_ : tP (d96_, v96_) := tP_of x96_ e96_ (by decide +kernel)
set_option maxRecDepth 100000 in
theorem s97_ : tP (d97_, v97_) := tP_of x97_ e97_ (by decide +kernel)
set_option maxRecDepth 100000 in
theorem s98_ : tP (d98_, v98_) := tP_of x98_ e98_ (by decide +kernel)
set_option maxRecDepth 100000 in
theorem s99_ : tP (d99_, v99_) := tP_of x99_ e99_ (by decide +kernel)
set_option maxRecDepth 100000 in
theorem s100_ : tP (d100_, v100_) := tP_of x100_ e100_ (by decide +kernel)
set_option maxRecDepth 100000 in
theorem s101_ : tP (d101_, v101_) := tP_of x101_ e101_ (by decide +kernel)
set_option maxRecDepth 100000 in
theorem s102_ : tP (d102_, v102_) := tP_of x102_ e102_ (by decide +kernel)
set_option maxRecDepth 100000 in
theorem s103_ : tP (d103_, v103_) := tP_of x103_ e103_ (by decide +kernel)
set_option maxRecDepth 100000 in
theorem s104_ : tP (d104_, v104_) := tP_of x104_ e104_ (by decide +kernel)
set_option maxRecDepth 100000 in
theorem s105_ : tP (d105_, v105_) := tP_of x105_ e105_ (by decide +kernel)
set_option maxRecDepth 100000 in
theorem s106_ : tP (d106_, v106_) := tP_of x106_ e106_ (by decide +kernel)
set_option maxRecDepth 100000 in
theorem s107_ : tP (d107_, v107_) := tP_of x107_ e107_ (by decide +kernel)
set_option maxRecDepth 100000 in
theorem s108_ : tP (d108_, v108_) := tP_of x108_ e108_ (by decide +kernel)
set_option maxRecDepth 100000 in
theorem s109_ : tP (d109_, v109_) := tP_of x109_ e109_ (by decide +kernel)
set_option maxRecDepth 100000 in
theorem s110_ : tP (d110_, v110_) := tP_of x110_ e110_ (by decide +kernel)
set_option maxRecDepth 100000 in
theorem s111_ : tP (d111_, v111_) := tP_of x111_ e111_ (by decide +kernel)
set_option maxRecDepth 100000 in
theorem s112_ : tP (d112_, v112_) := tP_of x112_ e112_ (by decide +kernel)
set_option maxRecDepth 100000 in
theorem s113_ : tP (d113_, v113_) := tP_of x113_ e113_ (by decide +kernel)
set_option maxRecDepth 100000 in
theorem s114_ : tP (d114_, v114_) := tP_of x114_ e114_ (by decide +kernel)
set_option maxRecDepth 100000 in
theorem s115_ : tP (d115_, v115_) := tP_of x115_ e115_ (by decide +kernel)
set_option maxRecDepth 100000 in
theorem s116_ : tP (d116_, v116_) := tP_of x116_ e116_ (by decide +kernel)
set_option maxRecDepth 100000 in
theorem s117_ : tP (d117_, v117_) := tP_of x117_ e117_ (by decide +kernel)
set_option maxRecDepth 100000 in
theorem s118_ : tP (d118_, v118_) := tP_of x118_ e118_ (by decide +kernel)
set_option maxRecDepth 100000 in
theorem s119_ : tP (d119_, v119_) := tP_of x119_ e119_ (by decide +kernel)
set_option maxRecDepth 100000 in
theorem s120_ : tP (d120_, v120_) := tP_of x120_ e120_ (by decide +kernel)
set_option maxRecDepth 100000 in
theorem s121_ : tP (d121_, v121_) := tP_of x121_ e121_ (by decide +kernel)
set_option maxRecDepth 100000 in
theorem s122_ : tP (d122_, v122_) := tP_of x122_ e122_ (by decide +kernel)
set_option maxRecDepth 100000 in
theorem s123_ : tP (d123_, v123_) := tP_of x123_ e123_ (by decide +kernel)
set_option maxRecDepth 100000 in
theorem s124_ : tP (d124_, v124_) := tP_of x124_ e124_ (by decide +kernel)
set_option maxRecDepth 100000 in
theorem s125_ : tP (d125_, v125_) := tP_of x125_ e125_ (by decide +kernel)
set_option maxRecDepth 100000 in
theorem s126_ : tP (d126_, v126_) := tP_of x126_ e126_ (by decide +kernel)
set_option maxRecDepth 100000 in
theorem s127_ : tP (d127_, v127_) := tP_of x127_ e127_ (by decide +kernel)
set_option maxRecDepth 100000 in
theorem s128_ : tP (d128_, v128_) := tP_of x128_ e128_ (by decide +kernel)
set_option maxRecDepth 100000 in
theorem s129_ : tP (d129_, v129_) := tP_of x129_ e129_ (by decide +kernel)
set_option maxRecDepth 100000 in
theorem s130_ : tP (d130_, v130_) := tP_of x130_ e130_ (by decide +kernel)
set_option maxRecDepth 100000 in
theorem s131_ : tP (d131_, v131_) := tP_of x131_ e131_ (by decide +kernel)
set_option maxRecDepth 100000 in
theorem s132_ : tP (d132_, v132_) := tP_of x132_ e132_ (by decide +kernel)
set_option maxRecDepth 100000 in
theorem s133_ : tP (d133_, v133_) := tP_of x133_ e133_ (by decide +kernel)
set_option maxRecDepth 100000 in
theorem s134_ : tP (d134_, v134_) := tP_of x134_ e134_ (by decide +kernel)
set_option maxRecDepth 100000 in
theorem s135_ : tP (d135_, v135_) := tP_of x135_ e135_ (by decide +kernel)
set_option maxRecDepth 100000 in
theorem s136_ : tP (d136_, v136_) := tP_of x136_ e136_ (by decide +kernel)
set_option maxRecDepth 100000 in
theorem s137_ : tP (d137_, v137_) := tP_of x137_ e137_ (by decide +kernel)
set_option maxRecDepth 100000 in
theorem s138_ : tP (d138_, v138_) := tP_of x138_ e138_ (by decide +kernel)
set_option maxRecDepth 100000 in
theorem s139_ : tP (d139_, v139_) := tP_of x139_ e139_ (by decide +kernel)
set_option maxRecDepth 100000 in
theorem s140_ : tP (d140_, v140_) := tP_of x140_ e140_ (by decide +kernel)
set_option maxRecDepth 100000 in
theorem s141_ : tP (d141_, v141_) := tP_of x141_ e141_ (by decide +kernel)
set_option maxRecDepth 100000 in
theorem s142_ : tP (d142_, v142_) := tP_of x142_ e142_ (by decide +kernel)
set_option maxRecDepth 100000 in
theorem s143_ : tP (d143_, v143_) := tP_of x143_ e143_ (by decide +kernel)
set_option maxRecDepth 100000 in
theorem s144_ : tP (d144_, v144_) := tP_of x144_ e144_ (by decide +kernel)
set_option maxRecDepth 100000 in
theorem s145_ : tP (d145_, v145_) := tP_of x145_ e145_ (by decide +kernel)
set_option maxRecDepth 100000 in
theorem s146_ : tP (d146_, v146_) := tP_of x146_ e146_ (by decide +kernel)
set_option maxRecDepth 100000 in
theorem s147_ : tP (d147_, v147_) := tP_of x147_ e147_ (by decide +kernel)
set_option maxRecDepth 100000 in
theorem s148_ : tP (d148_, v148_) := tP_of x148_ e148_ (by decide +kernel)
set_option maxRecDepth 100000 in
theorem s149_ : tP (d149_, v149_) := tP_of x149_ e149_ (by decide +kernel)
set_option maxRecDepth 100000 in
theorem s150_ : tP (d150_, v150_) := tP_of x150_ e150_ (by decide +kernel)
set_option maxRecDepth 100000 in
theorem s151_ : tP (d151_, v151_) := tP_of x151_ e151_ (by decide +kernel)
set_option maxRecDepth 100000 in
theorem s152_ : tP (d152_, v152_) := tP_of x152_ e152_ (by decide +kernel)
set_option maxRecDepth 100000 in
theorem s153_ : tP (d153_, v153_) := tP_of x153_ e153_ (by decide +kernel)
set_option maxRecDepth 100000 in
theorem s154_ : tP (d154_, v154_) := tP_of x154_ e154_ (by decide +kernel)
set_option maxRecDepth 100000 in
theorem s155_ : tP (d155_, v155_) := tP_of x155_ e155_ (by decide +kernel)
set_option maxRecDepth 100000 in
theorem s156_ : tP (d156_, v156_) := tP_of x156_ e156_ (by decide +kernel)
set_option maxRecDepth 100000 in
theorem s157_ : tP (d157_, v157_) := tP_of x157_ e157_ (by decide +kernel)
set_option maxRecDepth 100000 in
theorem s158_ : tP (d158_, v158_) := tP_of x158_ e158_ (by decide +kernel)
set_option maxRecDepth 100000 in
theorem s159_ : tP (d159_, v159_) := tP_of x159_ e159_ (by decide +kernel)
set_option maxRecDepth 100000 in
theorem s160_ : tP (d160_, v160_) := tP_of x160_ e160_ (by decide +kernel)
set_option maxRecDepth 100000 in
theorem s161_ : tP (d161_, v161_) := tP_of x161_ e161_ (by decide +kernel)
set_option maxRecDepth 100000 in
theorem s162_ : tP (d162_, v162_) := tP_of x162_ e162_ (by decide +kernel)
set_option maxRecDepth 100000 in
theorem s163_ : tP (d163_, v163_) := tP_of x163_ e163_ (by decide +kernel)
set_option maxRecDepth 100000 in
theorem s164_ : tP (d164_, v164_) := tP_of x164_ e164_ (by decide +kernel)
set_option maxRecDepth 100000 in
theorem s165_ : tP (d165_, v165_) := tP_of x165_ e165_ (by decide +kernel)
set_option maxRecDepth 100000 in
theorem s166_ : tP (d166_, v166_) := tP_of x166_ e166_ (by decide +kernel)
set_option maxRecDepth 100000 in
theorem s167_ : tP (d167_, v167_) := tP_of x167_ e167_ (by decide +kernel)
set_option maxRecDepth 100000 in
theorem s168_ : tP (d168_, v168_) := tP_of x168_ e168_ (by decide +kernel)
set_option maxRecDepth 100000 in
theorem s169_ : tP (d169_, v169_) := tP_of x169_ e169_ (by decide +kernel)
set_option maxRecDepth 100000 in
theorem s170_ : tP (d170_, v170_) := tP_of x170_ e170_ (by decide +kernel)
set_option maxRecDepth 100000 in
theorem s171_ : tP (d171_, v171_) := tP_of x171_ e171_ (by decide +kernel)
set_option maxRecDepth 100000 in
theorem s172_ : tP (d172_, v172_) := tP_of x172_ e172_ (by decide +kernel)
set_option maxRecDepth 100000 in
theorem s173_ : tP (d173_, v173_) := tP_of x173_ e173_ (by decide +kernel)
set_option maxRecDepth 100000 in
theorem s174_ : tP (d174_, v174_) := tP_of x174_ e174_ (by decide +kernel)
set_option maxRecDepth 100000 in
theorem s175_ : tP (d175_, v175_) := tP_of x175_ e175_ (by decide +kernel)
set_option maxRecDepth 100000 in
theorem s176_ : tP (d176_, v176_) := tP_of x176_ e176_ (by decide +kernel)
set_option maxRecDepth 100000 in
theorem s177_ : tP (d177_, v177_) := tP_of x177_ e177_ (by decide +kernel)
set_option maxRecDepth 100000 in
theorem s178_ : tP (d178_, v178_) := tP_of x178_ e178_ (by decide +kernel)
set_option maxRecDepth 100000 in
theorem s179_ : tP (d179_, v179_) := tP_of x179_ e179_ (by decide +kernel)
set_option maxRecDepth 100000 in
theorem s180_ : tP (d180_, v180_) := tP_of x180_ e180_ (by decide +kernel)
set_option maxRecDepth 100000 in
theorem s181_ : tP (d181_, v181_) := tP_of x181_ e181_ (by decide +kernel)
set_option maxRecDepth 100000 in
theorem s182_ : tP (d182_, v182_) := tP_of x182_ e182_ (by decide +kernel)
set_option maxRecDepth 100000 in
theorem s183_ : tP (d183_, v183_) := tP_of x183_ e183_ (by decide +kernel)
set_option maxRecDepth 100000 in
theorem s184_ : tP (d184_, v184_) := tP_of x184_ e184_ (by decide +kernel)
set_option maxRecDepth 100000 in
theorem s185_ : tP (d185_, v185_) := tP_of x185_ e185_ (by decide +kernel)
set_option maxRecDepth 100000 in
theorem s186_ : tP (d186_, v186_) := tP_of x186_ e186_ (by decide +kernel)
set_option maxRecDepth 100000 in
theorem s187_ : tP (d187_, v187_) := tP_of x187_ e187_ (by decide +kernel)
set_option maxRecDepth 100000 in
theorem s188_ : tP (d188_, v188_) := tP_of x188_ e188_ (by decide +kernel)
set_option maxRecDepth 100000 in
theorem s189_ : tP (d189_, v189_) := tP_of x189_ e189_ (by decide +kernel)
set_option maxRecDepth 100000 in
theorem s190_ : tP (d190_, v190_) := tP_of x190_ e190_ (by decide +kernel)
set_option maxRecDepth 100000 in
theorem s191_ : tP (d191_, v191_) := tP_of x191_ e191_ (by decide +kernel)
set_option maxRecDepth 100000 in
theorem s192_ : tP (d192_, v192_) := tP_of x192_ e192_ (by decide +kernel)
set_option maxRecDepth 100000 in
theorem s193_ : tP (d193_, v193_) := tP_of x193_ e193_ (by decide +kernel)
set_option maxRecDepth 100000 in
theorem s194_ : tP (d194_, v194_) := tP_of x194_ e194_ (by decide +kernel)
set_option maxRecDepth 100000 in
theorem s195_ : tP (d195_, v195_) := tP_of x195_ e195_ (by decide +kernel)
set_option maxRecDepth 100000 in
theorem s196_ : tP (d196_, v196_) := tP_of x196_ e196_ (by decide +kernel)
set_option maxRecDepth 100000 in
theorem s197_ : tP (d197_, v197_) := tP_of x197_ e197_ (by decide +kernel)
set_option maxRecDepth 100000 in
theorem s198_ : tP (d198_, v198_) := tP_of x198_ e198_ (by decide +kernel)
set_option maxRecDepth 100000 in
theorem s199_ : tP (d199_, v199_) := tP_of x199_ e199_ (by decide +kernel)
set_option maxRecDepth 100000 in
theorem s200_ : tP (d200_, v200_) := tP_of x200_ e200_ (by decide +kernel)
set_option maxRecDepth 100000 in
theorem s201_ : tP (d201_, v201_) := tP_of x201_ e201_ (by decide +kernel)
set_option maxRecDepth 100000 in
theorem s202_ : tP (d202_, v202_) := tP_of x202_ e202_ (by decide +kernel)
set_option maxRecDepth 100000 in
theorem s203_ : tP (d203_, v203_) := tP_of x203_ e203_ (by decide +kernel)
set_option maxRecDepth 100000 in
theorem s204_ : tP (d204_, v204_) := tP_of x204_ e204_ (by decide +kernel)
set_option maxRecDepth 100000 in
theorem s205_ : tP (d205_, v205_) := tP_of x205_ e205_ (by decide +kernel)
set_option maxRecDepth 100000 in
theorem s206_ : tP (d206_, v206_) := tP_of x206_ e206_ (by decide +kernel)
set_option maxRecDepth 100000 in
theorem s207_ : tP (d207_, v207_) := tP_of x207_ e207_ (by decide +kernel)
set_option maxRecDepth 100000 in
theorem s208_ : tP (d208_, v208_) := tP_of x208_ e208_ (by decide +kernel)
set_option maxRecDepth 100000 in
theorem s209_ : tP (d209_, v209_) := tP_of x209_ e209_ (by decide +kernel)
set_option maxRecDepth 100000 in
theorem s210_ : tP (d210_, v210_) := tP_of x210_ e210_ (by decide +kernel)
set_option maxRecDepth 100000 in
theorem s211_ : tP (d211_, v211_) := tP_of x211_ e211_ (by decide +kernel)
set_option maxRecDepth 100000 in
theorem s212_ : tP (d212_, v212_) := tP_of x212_ e212_ (by decide +kernel)
set_option maxRecDepth 100000 in
theorem s213_ : tP (d213_, v213_) := tP_of x213_ e213_ (by decide +kernel)
set_option maxRecDepth 100000 in
theorem s214_ : tP (d214_, v214_) := tP_of x214_ e214_ (by decide +kernel)
set_option maxRecDepth 100000 in
theorem s215_ : tP (d215_, v215_) := tP_of x215_ e215_ (by decide +kernel)
set_option maxRecDepth 100000 in
theorem s216_ : tP (d216_, v216_) := tP_of x216_ e216_ (by decide +kernel)
set_option maxRecDepth 100000 in
theorem s217_ : tP (d217_, v217_) := tP_of x217_ e217_ (by decide +kernel)
set_option maxRecDepth 100000 in
theorem s218_ : tP (d218_, v218_) := tP_of x218_ e218_ (by decide +kernel)
set_option maxRecDepth 100000 in
theorem s219_ : tP (d219_, v219_) := tP_of x219_ e219_ (by decide +kernel)
set_option maxRecDepth 100000 in
theorem s220_ : tP (d220_, v220_) := tP_of x220_ e220_ (by decide +kernel)
set_option maxRecDepth 100000 in
theorem s221_ : tP (d221_, v221_) := tP_of x221_ e221_ (by decide +kernel)
set_option maxRecDepth 100000 in
theorem s222_ : tP (d222_, v222_) := tP_of x222_ e222_ (by decide +kernel)
set_option maxRecDepth 100000 in
theorem s223_ : tP (d223_, v223_) := tP_of x223_ e223_ (by decide +kernel)
set_option maxRecDepth 100000 in
theorem s224_ : tP (d224_, v224_) := tP_of x224_ e224_ (by decide +kernel)
set_option maxRecDepth 100000 in
theorem s225_ : tP (d225_, v225_) := tP_of x225_ e225_ (by decide +kernel)
set_option maxRecDepth 100000 in
theorem s226_ : tP (d226_, v226_) := tP_of x226_ e226_ (by decide +kernel)
set_option maxRecDepth 100000 in
theorem s227_ : tP (d227_, v227_) := tP_of x227_ e227_ (by decide +kernel)
set_option maxRecDepth 100000 in
theorem s228_ : tP (d228_, v228_) := tP_of x228_ e228_ (by decide +kernel)
set_option maxRecDepth 100000 in
theorem s229_ : tP (d229_, v229_) := tP_of x229_ e229_ (by decide +kernel)
set_option maxRecDepth 100000 in
theorem s230_ : tP (d230_, v230_) := tP_of x230_ e230_ (by decide +kernel)
set_option maxRecDepth 100000 in
theorem s231_ : tP (d231_, v231_) := tP_of x231_ e231_ (by decide +kernel)
set_option maxRecDepth 100000 in
theorem s232_ : tP (d232_, v232_) := tP_of x232_ e232_ (by decide +kernel)
set_option maxRecDepth 100000 in
theorem s233_ : tP (d233_, v233_) := tP_of x233_ e233_ (by decide +kernel)
set_option maxRecDepth 100000 in
theorem s234_ : tP (d234_, v234_) := tP_of x234_ e234_ (by decide +kernel)
set_option maxRecDepth 100000 in
theorem s235_ : tP (d235_, v235_) := tP_of x235_ e235_ (by decide +kernel)
set_option maxRecDepth 100000 in
theorem s236_ : tP (d236_, v236_) := tP_of x236_ e236_ (by decide +kernel)
set_option maxRecDepth 100000 in
theorem s237_ : tP (d237_, v237_) := tP_of x237_ e237_ (by decide +kernel)
set_option maxRecDepth 100000 in
theorem s238_ : tP (d238_, v238_) := tP_of x238_ e238_ (by decide +kernel)
theorem tZip : tMth.zip uBds = [(d0_, v0_), (d1_, v1_), (d2_, v2_), (d3_, v3_), (d4_, v4_), (d5_, v5_), (d6_, v6_), (d7_, v7_), (d8_, v8_), (d9_, v9_), (d10_, v10_), (d11_, v11_), (d12_, v12_), (d13_, v13_), (d14_, v14_), (d15_, v15_), (d16_, v16_), (d17_, v17_), (d18_, v18_), (d19_, v19_), (d20_, v20_), (d21_, v21_), (d22_, v22_), (d23_, v23_), (d24_, v24_), (d25_, v25_), (d26_, v26_), (d27_, v27_), (d28_, v28_), (d29_, v29_), (d30_, v30_), (d31_, v31_), (d32_, v32_), (d33_, v33_), (d34_, v34_), (d35_, v35_), (d36_, v36_), (d37_, v37_), (d38_, v38_), (d39_, v39_), (d40_, v40_), (d41_, v41_), (d42_, v42_), (d43_, v43_), (d44_, v44_), (d45_, v45_), (d46_, v46_), (d47_, v47_), (d48_, v48_), (d49_, v49_), (d50_, v50_), (d51_, v51_), (d52_, v52_), (d53_, v53_), (d54_, v54_), (d55_, v55_), (d56_, v56_), (d57_, v57_), (d58_, v58_), (d59_, v59_), (d60_, v60_), (d61_, v61_), (d62_, v62_), (d63_, v63_), (d64_, v64_), (d65_, v65_), (d66_, v66_), (d67_, v67_), (d68_, v68_), (d69_, v69_), (d70_, v70_), (d71_, v71_), (d72_, v72_), (d73_, v73_), (d74_, v74_), (d75_, v75_), (d76_, v76_), (d77_, v77_), (d78_, v78_), (d79_, v79_), (d80_, v80_), (d81_, v81_), (d82_, v82_), (d83_, v83_), (d84_, v84_), (d85_, v85_), (d86_, v86_), (d87_, v87_), (d88_, v88_), (d89_, v89_), (d90_, v90_), (d91_, v91_), (d92_, v92_), (d93_, v93_), (d94_, v94_), (d95_, v95_), (d96_, v96_), (d97_, v97_), (d98_, v98_), (d99_, v99_), (d100_, v100_), (d101_, v101_), (d102_, v102_), (d103_, v103_), (d104_, v104_), (d105_, v105_), (d106_, v106_), (d107_, v107_), (d108_, v108_), (d109_, v109_), (d110_, v110_), (d111_, v111_), (d112_, v112_), (d113_, v113_), (d114_, v114_), (d115_, v115_), (d116_, v116_), (d117_, v117_), (d118_, v118_), (d119_, v119_), (d120_, v120_), (d121_, v121_), (d122_, v122_), (d123_, v123_), (d124_, v124_), (d125_, v125_), (d126_, v126_), (d127_, v127_), (d128_, v128_), (d129_, v129_), (d130_, v130_), (d131_, v131_), (d132_, v132_), (d133_, v133_), (d134_, v134_), (d135_, v135_), (d136_, v136_), (d137_, v137_), (d138_, v138_), (d139_, v139_), (d140_, v140_), (d141_, v141_), (d142_, v142_), (d143_, v143_), (d144_, v144_), (d145_, v145_), (d146_, v146_), (d147_, v147_), (d148_, v148_), (d149_, v149_), (d150_, v150_), (d151_, v151_), (d152_, v152_), (d153_, v153_), (d154_, v154_), (d155_, v155_), (d156_, v156_), (d157_, v157_), (d158_, v158_), (d159_, v159_), (d160_, v160_), (d161_, v161_), (d162_, v162_), (d163_, v163_), (d164_, v164_), (d165_, v165_), (d166_, v166_), (d167_, v167_), (d168_, v168_), (d169_, v169_), (d170_, v170_), (d171_, v171_), (d172_, v172_), (d173_, v173_), (d174_, v174_), (d175_, v175_), (d176_, v176_), (d177_, v177_), (d178_, v178_), (d179_, v179_), (d180_, v180_), (d181_, v181_), (d182_, v182_), (d183_, v183_), (d184_, v184_), (d185_, v185_), (d186_, v186_), (d187_, v187_), (d188_, v188_), (d189_, v189_), (d190_, v190_), (d191_, v191_), (d192_, v192_), (d193_, v193_), (d194_, v194_), (d195_, v195_), (d196_, v196_), (d197_, v197_), (d198_, v198_), (d199_, v199_), (d200_, v200_), (d201_, v201_), (d202_, v202_), (d203_, v203_), (d204_, v204_), (d205_, v205_), (d206_, v206_), (d207_, v207_), (d208_, v208_), (d209_, v209_), (d210_, v210_), (d211_, v211_), (d212_, v212_), (d213_, v213_), (d214_, v214_), (d215_, v215_), (d216_, v216_), (d217_, v217_), (d218_, v218_), (d219_, v219_), (d220_, v220_), (d221_, v221_), (d222_, v222_), (d223_, v223_), (d224_, v224_), (d225_, v225_), (d226_, v226_), (d227_, v227_), (d228_, v228_), (d229_, v229_), (d230_, v230_), (d231_, v231_), (d232_, v232_), (d233_, v233_), (d234_, v234_), (d235_, v235_), (d236_, v236_), (d237_, v237_), (d238_, v238_)] := rfl
theorem tSg {kd : List aKd} (hkt : aKt kd tTA) : ∀ (k : Nat) (d : aMd) (Bd : aBd), tMth[k]? = some d → uBds[k]? = some Bd → aSg vwCl tTA tTy kd tNw tNc tAo tW0 tMth uMx tXn d Bd ∧ plainFor d.1 = true ∧ uMx.getD k 0 = d.2.2.1 := by
  intro k d Bd hd hB
  have hz : (d, Bd) ∈ tMth.zip uBds := List.mem_of_getElem? (i := k) (by simp [List.getElem?_zip_eq_some, hd, hB])
  have ha : ∀ q ∈ tMth.zip uBds, tP q := by
    rw [tZip]
    exact List.forall_mem_cons.mpr ⟨s0_, List.forall_mem_cons.mpr ⟨s1_, List.forall_mem_cons.mpr ⟨s2_, List.forall_mem_cons.mpr ⟨s3_, List.forall_mem_cons.mpr ⟨s4_, List.forall_mem_cons.mpr ⟨s5_, List.forall_mem_cons.mpr ⟨s6_, List.forall_mem_cons.mpr ⟨s7_, List.forall_mem_cons.mpr ⟨s8_, List.forall_mem_cons.mpr ⟨s9_, List.forall_mem_cons.mpr ⟨s10_, List.forall_mem_cons.mpr ⟨s11_, List.forall_mem_cons.mpr ⟨s12_, List.forall_mem_cons.mpr ⟨s13_, List.forall_mem_cons.mpr ⟨s14_, List.forall_mem_cons.mpr ⟨s15_, List.forall_mem_cons.mpr ⟨s16_, List.forall_mem_cons.mpr ⟨s17_, List.forall_mem_cons.mpr ⟨s18_, List.forall_mem_cons.mpr ⟨s19_, List.forall_mem_cons.mpr ⟨s20_, List.forall_mem_cons.mpr ⟨s21_, List.forall_mem_cons.mpr ⟨s22_, List.forall_mem_cons.mpr ⟨s23_, List.forall_mem_cons.mpr ⟨s24_, List.forall_mem_cons.mpr ⟨s25_, List.forall_mem_cons.mpr ⟨s26_, List.forall_mem_cons.mpr ⟨s27_, List.forall_mem_cons.mpr ⟨s28_, List.forall_mem_cons.mpr ⟨s29_, List.forall_mem_cons.mpr ⟨s30_, List.forall_mem_cons.mpr ⟨s31_, List.forall_mem_cons.mpr ⟨s32_, List.forall_mem_cons.mpr ⟨s33_, List.forall_mem_cons.mpr ⟨s34_, List.forall_mem_cons.mpr ⟨s35_, List.forall_mem_cons.mpr ⟨s36_, List.forall_mem_cons.mpr ⟨s37_, List.forall_mem_cons.mpr ⟨s38_, List.forall_mem_cons.mpr ⟨s39_, List.forall_mem_cons.mpr ⟨s40_, List.forall_mem_cons.mpr ⟨s41_, List.forall_mem_cons.mpr ⟨s42_, List.forall_mem_cons.mpr ⟨s43_, List.forall_mem_cons.mpr ⟨s44_, List.forall_mem_cons.mpr ⟨s45_, List.forall_mem_cons.mpr ⟨s46_, List.forall_mem_cons.mpr ⟨s47_, List.forall_mem_cons.mpr ⟨s48_, List.forall_mem_cons.mpr ⟨s49_, List.forall_mem_cons.mpr ⟨s50_, List.forall_mem_cons.mpr ⟨s51_, List.forall_mem_cons.mpr ⟨s52_, List.forall_mem_cons.mpr ⟨s53_, List.forall_mem_cons.mpr ⟨s54_, List.forall_mem_cons.mpr ⟨s55_, List.forall_mem_cons.mpr ⟨s56_, List.forall_mem_cons.mpr ⟨s57_, List.forall_mem_cons.mpr ⟨s58_, List.forall_mem_cons.mpr ⟨s59_, List.forall_mem_cons.mpr ⟨s60_, List.forall_mem_cons.mpr ⟨s61_, List.forall_mem_cons.mpr ⟨s62_, List.forall_mem_cons.mpr ⟨s63_, List.forall_mem_cons.mpr ⟨s64_, List.forall_mem_cons.mpr ⟨s65_, List.forall_mem_cons.mpr ⟨s66_, List.forall_mem_cons.mpr ⟨s67_, List.forall_mem_cons.mpr ⟨s68_, List.forall_mem_cons.mpr ⟨s69_, List.forall_mem_cons.mpr ⟨s70_, List.forall_mem_cons.mpr ⟨s71_, List.forall_mem_cons.mpr ⟨s72_, List.forall_mem_cons.mpr ⟨s73_, List.forall_mem_cons.mpr ⟨s74_, List.forall_mem_cons.mpr ⟨s75_, List.forall_mem_cons.mpr ⟨s76_, List.forall_mem_cons.mpr ⟨s77_, List.forall_mem_cons.mpr ⟨s78_, List.forall_mem_cons.mpr ⟨s79_, List.forall_mem_cons.mpr ⟨s80_, List.forall_mem_cons.mpr ⟨s81_, List.forall_mem_cons.mpr ⟨s82_, List.forall_mem_cons.mpr ⟨s83_, List.forall_mem_cons.mpr ⟨s84_, List.forall_mem_cons.mpr ⟨s85_, List.forall_mem_cons.mpr ⟨s86_, List.forall_mem_cons.mpr ⟨s87_, List.forall_mem_cons.mpr ⟨s88_, List.forall_mem_cons.mpr ⟨s89_, List.forall_mem_cons.mpr ⟨s90_, List.forall_mem_cons.mpr ⟨s91_, List.forall_mem_cons.mpr ⟨s92_, List.forall_mem_cons.mpr ⟨s93_, List.forall_mem_cons.mpr ⟨s94_, List.forall_mem_cons.mpr ⟨s95_, List.forall_mem_cons.mpr ⟨s96_, List.forall_mem_cons.mpr ⟨s97_, List.forall_mem_cons.mpr ⟨s98_, List.forall_mem_cons.mpr ⟨s99_, List.forall_mem_cons.mpr ⟨s100_, List.forall_mem_cons.mpr ⟨s101_, List.forall_mem_cons.mpr ⟨s102_, List.forall_mem_cons.mpr ⟨s103_, List.forall_mem_cons.mpr ⟨s104_, List.forall_mem_cons.mpr ⟨s105_, List.forall_mem_cons.mpr ⟨s106_, List.forall_mem_cons.mpr ⟨s107_, List.forall_mem_cons.mpr ⟨s108_, List.forall_mem_cons.mpr ⟨s109_, List.forall_mem_cons.mpr ⟨s110_, List.forall_mem_cons.mpr ⟨s111_, List.forall_mem_cons.mpr ⟨s112_, List.forall_mem_cons.mpr ⟨s113_, List.forall_mem_cons.mpr ⟨s114_, List.forall_mem_cons.mpr ⟨s115_, List.forall_mem_cons.mpr ⟨s116_, List.forall_mem_cons.mpr ⟨s117_, List.forall_mem_cons.mpr ⟨s118_, List.forall_mem_cons.mpr ⟨s119_, List.forall_mem_cons.mpr ⟨s120_, List.forall_mem_cons.mpr ⟨s121_, List.forall_mem_cons.mpr ⟨s122_, List.forall_mem_cons.mpr ⟨s123_, List.forall_mem_cons.mpr ⟨s124_, List.forall_mem_cons.mpr ⟨s125_, List.forall_mem_cons.mpr ⟨s126_, List.forall_mem_cons.mpr ⟨s127_, List.forall_mem_cons.mpr ⟨s128_, List.forall_mem_cons.mpr ⟨s129_, List.forall_mem_cons.mpr ⟨s130_, List.forall_mem_cons.mpr ⟨s131_, List.forall_mem_cons.mpr ⟨s132_, List.forall_mem_cons.mpr ⟨s133_, List.forall_mem_cons.mpr ⟨s134_, List.forall_mem_cons.mpr ⟨s135_, List.forall_mem_cons.mpr ⟨s136_, List.forall_mem_cons.mpr ⟨s137_, List.forall_mem_cons.mpr ⟨s138_, List.forall_mem_cons.mpr ⟨s139_, List.forall_mem_cons.mpr ⟨s140_, List.forall_mem_cons.mpr ⟨s141_, List.forall_mem_cons.mpr ⟨s142_, List.forall_mem_cons.mpr ⟨s143_, List.forall_mem_cons.mpr ⟨s144_, List.forall_mem_cons.mpr ⟨s145_, List.forall_mem_cons.mpr ⟨s146_, List.forall_mem_cons.mpr ⟨s147_, List.forall_mem_cons.mpr ⟨s148_, List.forall_mem_cons.mpr ⟨s149_, List.forall_mem_cons.mpr ⟨s150_, List.forall_mem_cons.mpr ⟨s151_, List.forall_mem_cons.mpr ⟨s152_, List.forall_mem_cons.mpr ⟨s153_, List.forall_mem_cons.mpr ⟨s154_, List.forall_mem_cons.mpr ⟨s155_, List.forall_mem_cons.mpr ⟨s156_, List.forall_mem_cons.mpr ⟨s157_, List.forall_mem_cons.mpr ⟨s158_, List.forall_mem_cons.mpr ⟨s159_, List.forall_mem_cons.mpr ⟨s160_, List.forall_mem_cons.mpr ⟨s161_, List.forall_mem_cons.mpr ⟨s162_, List.forall_mem_cons.mpr ⟨s163_, List.forall_mem_cons.mpr ⟨s164_, List.forall_mem_cons.mpr ⟨s165_, List.forall_mem_cons.mpr ⟨s166_, List.forall_mem_cons.mpr ⟨s167_, List.forall_mem_cons.mpr ⟨s168_, List.forall_mem_cons.mpr ⟨s169_, List.forall_mem_cons.mpr ⟨s170_, List.forall_mem_cons.mpr ⟨s171_, List.forall_mem_cons.mpr ⟨s172_, List.forall_mem_cons.mpr ⟨s173_, List.forall_mem_cons.mpr ⟨s174_, List.forall_mem_cons.mpr ⟨s175_, List.forall_mem_cons.mpr ⟨s176_, List.forall_mem_cons.mpr ⟨s177_, List.forall_mem_cons.mpr ⟨s178_, List.forall_mem_cons.mpr ⟨s179_, List.forall_mem_cons.mpr ⟨s180_, List.forall_mem_cons.mpr ⟨s181_, List.forall_mem_cons.mpr ⟨s182_, List.forall_mem_cons.mpr ⟨s183_, List.forall_mem_cons.mpr ⟨s184_, List.forall_mem_cons.mpr ⟨s185_, List.forall_mem_cons.mpr ⟨s186_, List.forall_mem_cons.mpr ⟨s187_, List.forall_mem_cons.mpr ⟨s188_, List.forall_mem_cons.mpr ⟨s189_, List.forall_mem_cons.mpr ⟨s190_, List.forall_mem_cons.mpr ⟨s191_, List.forall_mem_cons.mpr ⟨s192_, List.forall_mem_cons.mpr ⟨s193_, List.forall_mem_cons.mpr ⟨s194_, List.forall_mem_cons.mpr ⟨s195_, List.forall_mem_cons.mpr ⟨s196_, List.forall_mem_cons.mpr ⟨s197_, List.forall_mem_cons.mpr ⟨s198_, List.forall_mem_cons.mpr ⟨s199_, List.forall_mem_cons.mpr ⟨s200_, List.forall_mem_cons.mpr ⟨s201_, List.forall_mem_cons.mpr ⟨s202_, List.forall_mem_cons.mpr ⟨s203_, List.forall_mem_cons.mpr ⟨s204_, List.forall_mem_cons.mpr ⟨s205_, List.forall_mem_cons.mpr ⟨s206_, List.forall_mem_cons.mpr ⟨s207_, List.forall_mem_cons.mpr ⟨s208_, List.forall_mem_cons.mpr ⟨s209_, List.forall_mem_cons.mpr ⟨s210_, List.forall_mem_cons.mpr ⟨s211_, List.forall_mem_cons.mpr ⟨s212_, List.forall_mem_cons.mpr ⟨s213_, List.forall_mem_cons.mpr ⟨s214_, List.forall_mem_cons.mpr ⟨s215_, List.forall_mem_cons.mpr ⟨s216_, List.forall_mem_cons.mpr ⟨s217_, List.forall_mem_cons.mpr ⟨s218_, List.forall_mem_cons.mpr ⟨s219_, List.forall_mem_cons.mpr ⟨s220_, List.forall_mem_cons.mpr ⟨s221_, List.forall_mem_cons.mpr ⟨s222_, List.forall_mem_cons.mpr ⟨s223_, List.forall_mem_cons.mpr ⟨s224_, List.forall_mem_cons.mpr ⟨s225_, List.forall_mem_cons.mpr ⟨s226_, List.forall_mem_cons.mpr ⟨s227_, List.forall_mem_cons.mpr ⟨s228_, List.forall_mem_cons.mpr ⟨s229_, List.forall_mem_cons.mpr ⟨s230_, List.forall_mem_cons.mpr ⟨s231_, List.forall_mem_cons.mpr ⟨s232_, List.forall_mem_cons.mpr ⟨s233_, List.forall_mem_cons.mpr ⟨s234_, List.forall_mem_cons.mpr ⟨s235_, List.forall_mem_cons.mpr ⟨s236_, List.forall_mem_cons.mpr ⟨s237_, List.forall_mem_cons.mpr ⟨s238_, fun _ h => by cases h⟩⟩⟩⟩⟩⟩⟩⟩⟩⟩⟩⟩⟩⟩⟩⟩⟩⟩⟩⟩⟩⟩⟩⟩⟩⟩⟩⟩⟩⟩⟩⟩⟩⟩⟩⟩⟩⟩⟩⟩⟩⟩⟩⟩⟩⟩⟩⟩⟩⟩⟩⟩⟩⟩⟩⟩⟩⟩⟩⟩⟩⟩⟩⟩⟩⟩⟩⟩⟩⟩⟩⟩⟩⟩⟩⟩⟩⟩⟩⟩⟩⟩⟩⟩⟩⟩⟩⟩⟩⟩⟩⟩⟩⟩⟩⟩⟩⟩⟩⟩⟩⟩⟩⟩⟩⟩⟩⟩⟩⟩⟩⟩⟩⟩⟩⟩⟩⟩⟩⟩⟩⟩⟩⟩⟩⟩⟩⟩⟩⟩⟩⟩⟩⟩⟩⟩⟩⟩⟩⟩⟩⟩⟩⟩⟩⟩⟩⟩⟩⟩⟩⟩⟩⟩⟩⟩⟩⟩⟩⟩⟩⟩⟩⟩⟩⟩⟩⟩⟩⟩⟩⟩⟩⟩⟩⟩⟩⟩⟩⟩⟩⟩⟩⟩⟩⟩⟩⟩⟩⟩⟩⟩⟩⟩⟩⟩⟩⟩⟩⟩⟩⟩⟩⟩⟩⟩⟩⟩⟩⟩⟩⟩⟩⟩⟩⟩⟩⟩⟩⟩⟩⟩⟩⟩⟩⟩⟩⟩⟩⟩⟩⟩⟩⟩⟩⟩⟩⟩⟩
  obtain ⟨g1, g2⟩ := ha _ hz kd hkt
  refine ⟨g1, g2, ?_⟩
  rw [tLen, List.getD_eq_getElem?_getD, List.getElem?_map, hd]
  rfl

