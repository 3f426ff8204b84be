/-! ===== the code is as the tables say ===== -/
theorem tDrop {β : Type} {L : List β} {q : β → Prop} [DecidablePred q] (js : List Nat) (hj : (List.range L.length).all (fun i => js.any (fun j => Nat.ble j i && Nat.blt i (j + 60))) = true) (h : ∀ j ∈ js, ((L.drop j).take 60).all (fun z => decide (q z)) = true) : ∀ z ∈ L, q z := by
  intro z hz
  obtain ⟨i, hi⟩ := List.mem_iff_getElem?.mp hz
  have hlt : i < L.length := (List.getElem?_eq_some_iff.mp hi).1
  obtain ⟨j, hj1, hj2⟩ := List.any_eq_true.mp (List.all_eq_true.mp hj i (List.mem_range.mpr hlt))
  simp only [Bool.and_eq_true] at hj2
  have a1 := Nat.le_of_ble_eq_true hj2.1
  have a2 := (Nat.blt_eq).mp hj2.2
  refine of_decide_eq_true (List.all_eq_true.mp (h j hj1) z (List.mem_of_getElem? (i := i - j) ?_))
  rw [List.getElem?_take_of_lt (by omega), List.getElem?_drop, show j + (i - j) = i by omega]
  exact hi

set_option maxRecDepth 100000 in
theorem e0_0 : ((v0_.2.1.drop 0).take 60).all (fun z => decide (decode d0_.2.1 z.1 = .ok (z.2.1, z.2.2))) = true := by decide +kernel
set_option maxRecDepth 100000 in
theorem e0_ : ∀ z ∈ v0_.2.1, decode d0_.2.1 z.1 = .ok (z.2.1, z.2.2) := tDrop [0] (by decide +kernel) (by simp only [List.forall_mem_cons]; exact ⟨e0_0, fun _ h => by cases h⟩)
set_option maxRecDepth 100000 in
theorem e1_0 : ((v1_.2.1.drop 0).take 60).all (fun z => decide (decode d1_.2.1 z.1 = .ok (z.2.1, z.2.2))) = true := by decide +kernel
set_option maxRecDepth 100000 in
theorem e1_ : ∀ z ∈ v1_.2.1, decode d1_.2.1 z.1 = .ok (z.2.1, z.2.2) := tDrop [0] (by decide +kernel) (by simp only [List.forall_mem_cons]; exact ⟨e1_0, fun _ h => by cases h⟩)
set_option maxRecDepth 100000 in
theorem e2_0 : ((v2_.2.1.drop 0).take 60).all (fun z => decide (decode d2_.2.1 z.1 = .ok (z.2.1, z.2.2))) = true := by decide +kernel
set_option maxRecDepth 100000 in
theorem e2_ : ∀ z ∈ v2_.2.1, decode d2_.2.1 z.1 = .ok (z.2.1, z.2.2) := tDrop [0] (by decide +kernel) (by simp only [List.forall_mem_cons]; exact ⟨e2_0, fun _ h => by cases h⟩)
set_option maxRecDepth 100000 in
theorem e3_0 : ((v3_.2.1.drop 0).take 60).all (fun z => decide (decode d3_.2.1 z.1 = .ok (z.2.1, z.2.2))) = true := by decide +kernel
set_option maxRecDepth 100000 in
theorem e3_ : ∀ z ∈ v3_.2.1, decode d3_.2.1 z.1 = .ok (z.2.1, z.2.2) := tDrop [0] (by decide +kernel) (by simp only [List.forall_mem_cons]; exact ⟨e3_0, fun _ h => by cases h⟩)
set_option maxRecDepth 100000 in
theorem e4_0 : ((v4_.2.1.drop 0).take 60).all (fun z => decide (decode d4_.2.1 z.1 = .ok (z.2.1, z.2.2))) = true := by decide +kernel
set_option maxRecDepth 100000 in
theorem e4_ : ∀ z ∈ v4_.2.1, decode d4_.2.1 z.1 = .ok (z.2.1, z.2.2) := tDrop [0] (by decide +kernel) (by simp only [List.forall_mem_cons]; exact ⟨e4_0, fun _ h => by cases h⟩)
set_option maxRecDepth 100000 in
theorem e5_0 : ((v5_.2.1.drop 0).take 60).all (fun z => decide (decode d5_.2.1 z.1 = .ok (z.2.1, z.2.2))) = true := by decide +kernel
set_option maxRecDepth 100000 in
theorem e5_ : ∀ z ∈ v5_.2.1, decode d5_.2.1 z.1 = .ok (z.2.1, z.2.2) := tDrop [0] (by decide +kernel) (by simp only [List.forall_mem_cons]; exact ⟨e5_0, fun _ h => by cases h⟩)
set_option maxRecDepth 100000 in
theorem e6_0 : ((v6_.2.1.drop 0).take 60).all (fun z => decide (decode d6_.2.1 z.1 = .ok (z.2.1, z.2.2))) = true := by decide +kernel
set_option maxRecDepth 100000 in
theorem e6_ : ∀ z ∈ v6_.2.1, decode d6_.2.1 z.1 = .ok (z.2.1, z.2.2) := tDrop [0] (by decide +kernel) (by simp only [List.forall_mem_cons]; exact ⟨e6_0, fun _ h => by cases h⟩)
set_option maxRecDepth 100000 in
theorem e7_0 : ((v7_.2.1.drop 0).take 60).all (fun z => decide (decode d7_.2.1 z.1 = .ok (z.2.1, z.2.2))) = true := by decide +kernel
set_option maxRecDepth 100000 in
theorem e7_ : ∀ z ∈ v7_.2.1, decode d7_.2.1 z.1 = .ok (z.2.1, z.2.2) := tDrop [0] (by decide +kernel) (by simp only [List.forall_mem_cons]; exact ⟨e7_0, fun _ h => by cases h⟩)
set_option maxRecDepth 100000 in
theorem e8_0 : ((v8_.2.1.drop 0).take 60).all (fun z => decide (decode d8_.2.1 z.1 = .ok (z.2.1, z.2.2))) = true := by decide +kernel
set_option maxRecDepth 100000 in
theorem e8_ : ∀ z ∈ v8_.2.1, decode d8_.2.1 z.1 = .ok (z.2.1, z.2.2) := tDrop [0] (by decide +kernel) (by simp only [List.forall_mem_cons]; exact ⟨e8_0, fun _ h => by cases h⟩)
set_option maxRecDepth 100000 in
theorem e9_0 : ((v9_.2.1.drop 0).take 60).all (fun z => decide (decode d9_.2.1 z.1 = .ok (z.2.1, z.2.2))) = true := by decide +kernel
set_option maxRecDepth 100000 in
theorem e9_ : ∀ z ∈ v9_.2.1, decode d9_.2.1 z.1 = .ok (z.2.1, z.2.2) := tDrop [0] (by decide +kernel) (by simp only [List.forall_mem_cons]; exact ⟨e9_0, fun _ h => by cases h⟩)
set_option maxRecDepth 100000 in
theorem e10_0 : ((v10_.2.1.drop 0).take 60).all (fun z => decide (decode d10_.2.1 z.1 = .ok (z.2.1, z.2.2))) = true := by decide +kernel
set_option maxRecDepth 100000 in
theorem e10_ : ∀ z ∈ v10_.2.1, decode d10_.2.1 z.1 = .ok (z.2.1, z.2.2) := tDrop [0] (by decide +kernel) (by simp only [List.forall_mem_cons]; exact ⟨e10_0, fun _ h => by cases h⟩)
set_option maxRecDepth 100000 in
theorem e11_0 : ((v11_.2.1.drop 0).take 60).all (fun z => decide (decode d11_.2.1 z.1 = .ok (z.2.1, z.2.2))) = true := by decide +kernel
set_option maxRecDepth 100000 in
theorem e11_ : ∀ z ∈ v11_.2.1, decode d11_.2.1 z.1 = .ok (z.2.1, z.2.2) := tDrop [0] (by decide +kernel) (by simp only [List.forall_mem_cons]; exact ⟨e11_0, fun _ h => by cases h⟩)
set_option maxRecDepth 100000 in
theorem e12_0 : ((v12_.2.1.drop 0).take 60).all (fun z => decide (decode d12_.2.1 z.1 = .ok (z.2.1, z.2.2))) = true := by decide +kernel
set_option maxRecDepth 100000 in
theorem e12_ : ∀ z ∈ v12_.2.1, decode d12_.2.1 z.1 = .ok (z.2.1, z.2.2) := tDrop [0] (by decide +kernel) (by simp only [List.forall_mem_cons]; exact ⟨e12_0, fun _ h => by cases h⟩)
set_option maxRecDepth 100000 in
theorem e13_0 : ((v13_.2.1.drop 0).take 60).all (fun z => decide (decode d13_.2.1 z.1 = .ok (z.2.1, z.2.2))) = true := by decide +kernel
set_option maxRecDepth 100000 in
theorem e13_60 : ((v13_.2.1.drop 60).take 60).all (fun z => decide (decode d13_.2.1 z.1 = .ok (z.2.1, z.2.2))) = true := by decide +kernel
set_option maxRecDepth 100000 in
theorem e13_ : ∀ z ∈ v13_.2.1, decode d13_.2.1 z.1 = .ok (z.2.1, z.2.2) := tDrop [0, 60] (by decide +kernel) (by simp only [List.forall_mem_cons]; exact ⟨e13_0, e13_60, fun _ h => by cases h⟩)
set_option maxRecDepth 100000 in
theorem e14_0 : ((v14_.2.1.drop 0).take 60).all (fun z => decide (decode d14_.2.1 z.1 = .ok (z.2.1, z.2.2))) = true := by decide +kernel
set_option maxRecDepth 100000 in
theorem e14_60 : ((v14_.2.1.drop 60).take 60).all (fun z => decide (decode d14_.2.1 z.1 = .ok (z.2.1, z.2.2))) = true := by decide +kernel
set_option maxRecDepth 100000 in
theorem e14_ : ∀ z ∈ v14_.2.1, decode d14_.2.1 z.1 = .ok (z.2.1, z.2.2) := tDrop [0, 60] (by decide +kernel) (by simp only [List.forall_mem_cons]; exact ⟨e14_0, e14_60, fun _ h => by cases h⟩)
set_option maxRecDepth 100000 in
theorem e15_0 : ((v15_.2.1.drop 0).take 60).all (fun z => decide (decode d15_.2.1 z.1 = .ok (z.2.1, z.2.2))) = true := by decide +kernel
set_option maxRecDepth 100000 in
theorem e15_60 : ((v15_.2.1.drop 60).take 60).all (fun z => decide (decode d15_.2.1 z.1 = .ok (z.2.1, z.2.2))) = true := by decide +kernel
set_option maxRecDepth 100000 in
theorem e15_ : ∀ z ∈ v15_.2.1, decode d15_.2.1 z.1 = .ok (z.2.1, z.2.2) := tDrop [0, 60] (by decide +kernel) (by simp only [List.forall_mem_cons]; exact ⟨e15_0, e15_60, fun _ h => by cases h⟩)
set_option maxRecDepth 100000 in
theorem e16_0 : ((v16_.2.1.drop 0).take 60).all (fun z => decide (decode d16_.2.1 z.1 = .ok (z.2.1, z.2.2))) = true := by decide +kernel
set_option maxRecDepth 100000 in
theorem e16_ : ∀ z ∈ v16_.2.1, decode d16_.2.1 z.1 = .ok (z.2.1, z.2.2) := tDrop [0] (by decide +kernel) (by simp only [List.forall_mem_cons]; exact ⟨e16_0, fun _ h => by cases h⟩)
set_option maxRecDepth 100000 in
theorem e17_0 : ((v17_.2.1.drop 0).take 60).all (fun z => decide (decode d17_.2.1 z.1 = .ok (z.2.1, z.2.2))) = true := by decide +kernel
set_option maxRecDepth 100000 in
theorem e17_60 : ((v17_.2.1.drop 60).take 60).all (fun z => decide (decode d17_.2.1 z.1 = .ok (z.2.1, z.2.2))) = true := by decide +kernel
set_option maxRecDepth 100000 in
theorem e17_ : ∀ z ∈ v17_.2.1, decode d17_.2.1 z.1 = .ok (z.2.1, z.2.2) := tDrop [0, 60] (by decide +kernel) (by simp only [List.forall_mem_cons]; exact ⟨e17_0, e17_60, fun _ h => by cases h⟩)
set_option maxRecDepth 100000 in
theorem e18_0 : ((v18_.2.1.drop 0).take 60).all (fun z => decide (decode d18_.2.1 z.1 = .ok (z.2.1, z.2.2))) = true := by decide +kernel
set_option maxRecDepth 100000 in
theorem e18_ : ∀ z ∈ v18_.2.1, decode d18_.2.1 z.1 = .ok (z.2.1, z.2.2) := tDrop [0] (by decide +kernel) (by simp only [List.forall_mem_cons]; exact ⟨e18_0, fun _ h => by cases h⟩)
set_option maxRecDepth 100000 in
theorem e19_0 : ((v19_.2.1.drop 0).take 60).all (fun z => decide (decode d19_.2.1 z.1 = .ok (z.2.1, z.2.2))) = true := by decide +kernel
set_option maxRecDepth 100000 in
theorem e19_60 : ((v19_.2.1.drop 60).take 60).all (fun z => decide (decode d19_.2.1 z.1 = .ok (z.2.1, z.2.2))) = true := by decide +kernel
set_option maxRecDepth 100000 in
theorem e19_ : ∀ z ∈ v19_.2.1, decode d19_.2.1 z.1 = .ok (z.2.1, z.2.2) := tDrop [0, 60] (by decide +kernel) (by simp only [List.forall_mem_cons]; exact ⟨e19_0, e19_60, fun _ h => by cases h⟩)
set_option maxRecDepth 100000 in
theorem e20_0 : ((v20_.2.1.drop 0).take 60).all (fun z => decide (decode d20_.2.1 z.1 = .ok (z.2.1, z.2.2))) = true := by decide +kernel
set_option maxRecDepth 100000 in
theorem e20_ : ∀ z ∈ v20_.2.1, decode d20_.2.1 z.1 = .ok (z.2.1, z.2.2) := tDrop [0] (by decide +kernel) (by simp only [List.forall_mem_cons]; exact ⟨e20_0, fun _ h => by cases h⟩)
set_option maxRecDepth 100000 in
theorem e21_0 : ((v21_.2.1.drop 0).take 60).all (fun z => decide (decode d21_.2.1 z.1 = .ok (z.2.1, z.2.2))) = true := by decide +kernel
set_option maxRecDepth 100000 in
theorem e21_ : ∀ z ∈ v21_.2.1, decode d21_.2.1 z.1 = .ok (z.2.1, z.2.2) := tDrop [0] (by decide +kernel) (by simp only [List.forall_mem_cons]; exact ⟨e21_0, fun _ h => by cases h⟩)
set_option maxRecDepth 100000 in
theorem e22_0 : ((v22_.2.1.drop 0).take 60).all (fun z => decide (decode d22_.2.1 z.1 = .ok (z.2.1, z.2.2))) = true := by decide +kernel
set_option maxRecDepth 100000 in
theorem e22_ : ∀ z ∈ v22_.2.1, decode d22_.2.1 z.1 = .ok (z.2.1, z.2.2) := tDrop [0] (by decide +kernel) (by simp only [List.forall_mem_cons]; exact ⟨e22_0, fun _ h => by cases h⟩)
set_option maxRecDepth 100000 in
theorem e23_0 : ((v23_.2.1.drop 0).take 60).all (fun z => decide (decode d23_.2.1 z.1 = .ok (z.2.1, z.2.2))) = true := by decide +kernel
set_option maxRecDepth 100000 in
theorem e23_ : ∀ z ∈ v23_.2.1, decode d23_.2.1 z.1 = .ok (z.2.1, z.2.2) := tDrop [0] (by decide +kernel) (by simp only [List.forall_mem_cons]; exact ⟨e23_0, fun _ h => by cases h⟩)
set_option maxRecDepth 100000 in
theorem e24_0 : ((v24_.2.1.drop 0).take 60).all (fun z => decide (decode d24_.2.1 z.1 = .ok (z.2.1, z.2.2))) = true := by decide +kernel
set_option maxRecDepth 100000 in
theorem e24_ : ∀ z ∈ v24_.2.1, decode d24_.2.1 z.1 = .ok (z.2.1, z.2.2) := tDrop [0] (by decide +kernel) (by simp only [List.forall_mem_cons]; exact ⟨e24_0, fun _ h => by cases h⟩)
set_option maxRecDepth 100000 in
theorem e25_0 : ((v25_.2.1.drop 0).take 60).all (fun z => decide (decode d25_.2.1 z.1 = .ok (z.2.1, z.2.2))) = true := by decide +kernel
set_option maxRecDepth 100000 in
theorem e25_60 : ((v25_.2.1.drop 60).take 60).all (fun z => decide (decode d25_.2.1 z.1 = .ok (z.2.1, z.2.2))) = true := by decide +kernel
set_option maxRecDepth 100000 in
theorem e25_ : ∀ z ∈ v25_.2.1, decode d25_.2.1 z.1 = .ok (z.2.1, z.2.2) := tDrop [0, 60] (by decide +kernel) (by simp only [List.forall_mem_cons]; exact ⟨e25_0, e25_60, fun _ h => by cases h⟩)
set_option maxRecDepth 100000 in
theorem e26_0 : ((v26_.2.1.drop 0).take 60).all (fun z => decide (decode d26_.2.1 z.1 = .ok (z.2.1, z.2.2))) = true := by decide +kernel
set_option maxRecDepth 100000 in
theorem e26_60 : ((v26_.2.1.drop 60).take 60).all (fun z => decide (decode d26_.2.1 z.1 = .ok (z.2.1, z.2.2))) = true := by decide +kernel
set_option maxRecDepth 100000 in
theorem e26_ : ∀ z ∈ v26_.2.1, decode d26_.2.1 z.1 = .ok (z.2.1, z.2.2) := tDrop [0, 60] (by decide +kernel) (by simp only [List.forall_mem_cons]; exact ⟨e26_0, e26_60, fun _ h => by cases h⟩)
set_option maxRecDepth 100000 in
theorem e27_0 : ((v27_.2.1.drop 0).take 60).all (fun z => decide (decode d27_.2.1 z.1 = .ok (z.2.1, z.2.2))) = true := by decide +kernel
set_option maxRecDepth 100000 in
theorem e27_ : ∀ z ∈ v27_.2.1, decode d27_.2.1 z.1 = .ok (z.2.1, z.2.2) := tDrop [0] (by decide +kernel) (by simp only [List.forall_mem_cons]; exact ⟨e27_0, fun _ h => by cases h⟩)
set_option maxRecDepth 100000 in
theorem e28_0 : ((v28_.2.1.drop 0).take 60).all (fun z => decide (decode d28_.2.1 z.1 = .ok (z.2.1, z.2.2))) = true := by decide +kernel
set_option maxRecDepth 100000 in
theorem e28_60 : ((v28_.2.1.drop 60).take 60).all (fun z => decide (decode d28_.2.1 z.1 = .ok (z.2.1, z.2.2))) = true := by decide +kernel
set_option maxRecDepth 100000 in
theorem e28_ : ∀ z ∈ v28_.2.1, decode d28_.2.1 z.1 = .ok (z.2.1, z.2.2) := tDrop [0, 60] (by decide +kernel) (by simp only [List.forall_mem_cons]; exact ⟨e28_0, e28_60, fun _ h => by cases h⟩)
set_option maxRecDepth 100000 in
theorem e29_0 : ((v29_.2.1.drop 0).take 60).all (fun z => decide (decode d29_.2.1 z.1 = .ok (z.2.1, z.2.2))) = true := by decide +kernel
set_option maxRecDepth 100000 in
theorem e29_ : ∀ z ∈ v29_.2.1, decode d29_.2.1 z.1 = .ok (z.2.1, z.2.2) := tDrop [0] (by decide +kernel) (by simp only [List.forall_mem_cons]; exact ⟨e29_0, fun _ h => by cases h⟩)
set_option maxRecDepth 100000 in
theorem e30_0 : ((v30_.2.1.drop 0).take 60).all (fun z => decide (decode d30_.2.1 z.1 = .ok (z.2.1, z.2.2))) = true := by decide +kernel
set_option maxRecDepth 100000 in
theorem e30_ : ∀ z ∈ v30_.2.1, decode d30_.2.1 z.1 = .ok (z.2.1, z.2.2) := tDrop [0] (by decide +kernel) (by simp only [List.forall_mem_cons]; exact ⟨e30_0, fun _ h => by cases h⟩)
set_option maxRecDepth 100000 in
theorem e31_0 : ((v31_.2.1.drop 0).take 60).all (fun z => decide (decode d31_.2.1 z.1 = .ok (z.2.1, z.2.2))) = true := by decide +kernel
set_option maxRecDepth 100000 in
theorem e31_ : ∀ z ∈ v31_.2.1, decode d31_.2.1 z.1 = .ok (z.2.1, z.2.2) := tDrop [0] (by decide +kernel) (by simp only [List.forall_mem_cons]; exact ⟨e31_0, fun _ h => by cases h⟩)
set_option maxRecDepth 100000 in
theorem e32_0 : ((v32_.2.1.drop 0).take 60).all (fun z => decide (decode d32_.2.1 z.1 = .ok (z.2.1, z.2.2))) = true := by decide +kernel
set_option maxRecDepth 100000 in
theorem e32_ : ∀ z ∈ v32_.2.1, decode d32_.2.1 z.1 = .ok (z.2.1, z.2.2) := tDrop [0] (by decide +kernel) (by simp only [List.forall_mem_cons]; exact ⟨e32_0, fun _ h => by cases h⟩)
set_option maxRecDepth 100000 in
theorem e33_0 : ((v33_.2.1.drop 0).take 60).all (fun z => decide (decode d33_.2.1 z.1 = .ok (z.2.1, z.2.2))) = true := by decide +kernel
set_option maxRecDepth 100000 in
theorem e33_ : ∀ z ∈ v33_.2.1, decode d33_.2.1 z.1 = .ok (z.2.1, z.2.2) := tDrop [0] (by decide +kernel) (by simp only [List.forall_mem_cons]; exact ⟨e33_0, fun _ h => by cases h⟩)
set_option maxRecDepth 100000 in
theorem e34_0 : ((v34_.2.1.drop 0).take 60).all (fun z => decide (decode d34_.2.1 z.1 = .ok (z.2.1, z.2.2))) = true := by decide +kernel
set_option maxRecDepth 100000 in
theorem e34_60 : ((v34_.2.1.drop 60).take 60).all (fun z => decide (decode d34_.2.1 z.1 = .ok (z.2.1, z.2.2))) = true := by decide +kernel
set_option maxRecDepth 100000 in
theorem e34_ : ∀ z ∈ v34_.2.1, decode d34_.2.1 z.1 = .ok (z.2.1, z.2.2) := tDrop [0, 60] (by decide +kernel) (by simp only [List.forall_mem_cons]; exact ⟨e34_0, e34_60, fun _ h => by cases h⟩)
set_option maxRecDepth 100000 in
theorem e35_0 : ((v35_.2.1.drop 0).take 60).all (fun z => decide (decode d35_.2.1 z.1 = .ok (z.2.1, z.2.2))) = true := by decide +kernel
set_option maxRecDepth 100000 in
theorem e35_60 : ((v35_.2.1.drop 60).take 60).all (fun z => decide (decode d35_.2.1 z.1 = .ok (z.2.1, z.2.2))) = true := by decide +kernel
set_option maxRecDepth 100000 in
theorem e35_120 : ((v35_.2.1.drop 120).take 60).all (fun z => decide (decode d35_.2.1 z.1 = .ok (z.2.1, z.2.2))) = true := by decide +kernel
set_option maxRecDepth 100000 in
theorem e35_ : ∀ z ∈ v35_.2.1, decode d35_.2.1 z.1 = .ok (z.2.1, z.2.2) := tDrop [0, 60, 120] (by decide +kernel) (by simp only [List.forall_mem_cons]; exact ⟨e35_0, e35_60, e35_120, fun _ h => by cases h⟩)
set_option maxRecDepth 100000 in
theorem e36_0 : ((v36_.2.1.drop 0).take 60).all (fun z => decide (decode d36_.2.1 z.1 = .ok (z.2.1, z.2.2))) = true := by decide +kernel
set_option maxRecDepth 100000 in
theorem e36_60 : ((v36_.2.1.drop 60).take 60).all (fun z => decide (decode d36_.2.1 z.1 = .ok (z.2.1, z.2.2))) = true := by decide +kernel
set_option maxRecDepth 100000 in
theorem e36_120 : ((v36_.2.1.drop 120).take 60).all (fun z => decide (decode d36_.2.1 z.1 = .ok (z.2.1, z.2.2))) = true := by decide +kernel
set_option maxRecDepth 100000 in
theorem e36_180 : ((v36_.2.1.drop 180).take 60).all (fun z => decide (decode d36_.2.1 z.1 = .ok (z.2.1, z.2.2))) = true := by decide +kernel
set_option maxRecDepth 100000 in
theorem e36_ : ∀ z ∈ v36_.2.1, decode d36_.2.1 z.1 = .ok (z.2.1, z.2.2) := tDrop [0, 60, 120, 180] (by decide +kernel) (by simp only [List.forall_mem_cons]; exact ⟨e36_0, e36_60, e36_120, e36_180, fun _ h => by cases h⟩)
set_option maxRecDepth 100000 in
theorem e37_0 : ((v37_.2.1.drop 0).take 60).all (fun z => decide (decode d37_.2.1 z.1 = .ok (z.2.1, z.2.2))) = true := by decide +kernel
set_option maxRecDepth 100000 in
theorem e37_ : ∀ z ∈ v37_.2.1, decode d37_.2.1 z.1 = .ok (z.2.1, z.2.2) := tDrop [0] (by decide +kernel) (by simp only [List.forall_mem_cons]; exact ⟨e37_0, fun _ h => by cases h⟩)
set_option maxRecDepth 100000 in
theorem e38_0 : ((v38_.2.1.drop 0).take 60).all (fun z => decide (decode d38_.2.1 z.1 = .ok (z.2.1, z.2.2))) = true := by decide +kernel
set_option maxRecDepth 100000 in
theorem e38_60 : ((v38_.2.1.drop 60).take 60).all (fun z => decide (decode d38_.2.1 z.1 = .ok (z.2.1, z.2.2))) = true := by decide +kernel
set_option maxRecDepth 100000 in
theorem e38_ : ∀ z ∈ v38_.2.1, decode d38_.2.1 z.1 = .ok (z.2.1, z.2.2) := tDrop [0, 60] (by decide +kernel) (by simp only [List.forall_mem_cons]; exact ⟨e38_0, e38_60, fun _ h => by cases h⟩)
set_option maxRecDepth 100000 in
theorem e39_0 : ((v39_.2.1.drop 0).take 60).all (fun z => decide (decode d39_.2.1 z.1 = .ok (z.2.1, z.2.2))) = true := by decide +kernel
set_option maxRecDepth 100000 in
theorem e39_ : ∀ z ∈ v39_.2.1, decode d39_.2.1 z.1 = .ok (z.2.1, z.2.2) := tDrop [0] (by decide +kernel) (by simp only [List.forall_mem_cons]; exact ⟨e39_0, fun _ h => by cases h⟩)
set_option maxRecDepth 100000 in
theorem e40_0 : ((v40_.2.1.drop 0).take 60).all (fun z => decide (decode d40_.2.1 z.1 = .ok (z.2.1, z.2.2))) = true := by decide +kernel
set_option maxRecDepth 100000 in
theorem e40_60 : ((v40_.2.1.drop 60).take 60).all (fun z => decide (decode d40_.2.1 z.1 = .ok (z.2.1, z.2.2))) = true := by decide +kernel
set_option maxRecDepth 100000 in
theorem e40_120 : ((v40_.2.1.drop 120).take 60).all (fun z => decide (decode d40_.2.1 z.1 = .ok (z.2.1, z.2.2))) = true := by decide +kernel
set_option maxRecDepth 100000 in
theorem e40_180 : ((v40_.2.1.drop 180).take 60).all (fun z => decide (decode d40_.2.1 z.1 = .ok (z.2.1, z.2.2))) = true := by decide +kernel
set_option maxRecDepth 100000 in
theorem e40_240 : ((v40_.2.1.drop 240).take 60).all (fun z => decide (decode d40_.2.1 z.1 = .ok (z.2.1, z.2.2))) = true := by decide +kernel
set_option maxRecDepth 100000 in
theorem e40_ : ∀ z ∈ v40_.2.1, decode d40_.2.1 z.1 = .ok (z.2.1, z.2.2) := tDrop [0, 60, 120, 180, 240] (by decide +kernel) (by simp only [List.forall_mem_cons]; exact ⟨e40_0, e40_60, e40_120, e40_180, e40_240, fun _ h => by cases h⟩)
set_option maxRecDepth 100000 in
theorem e41_0 : ((v41_.2.1.drop 0).take 60).all (fun z => decide (decode d41_.2.1 z.1 = .ok (z.2.1, z.2.2))) = true := by decide +kernel
set_option maxRecDepth 100000 in
theorem e41_ : ∀ z ∈ v41_.2.1, decode d41_.2.1 z.1 = .ok (z.2.1, z.2.2) := tDrop [0] (by decide +kernel) (by simp only [List.forall_mem_cons]; exact ⟨e41_0, fun _ h => by cases h⟩)
set_option maxRecDepth 100000 in
theorem e42_0 : ((v42_.2.1.drop 0).take 60).all (fun z => decide (decode d42_.2.1 z.1 = .ok (z.2.1, z.2.2))) = true := by decide +kernel
set_option maxRecDepth 100000 in
theorem e42_60 : ((v42_.2.1.drop 60).take 60).all (fun z => decide (decode d42_.2.1 z.1 = .ok (z.2.1, z.2.2))) = true := by decide +kernel
set_option maxRecDepth 100000 in
theorem e42_ : ∀ z ∈ v42_.2.1, decode d42_.2.1 z.1 = .ok (z.2.1, z.2.2) := tDrop [0, 60] (by decide +kernel) (by simp only [List.forall_mem_cons]; exact ⟨e42_0, e42_60, fun _ h => by cases h⟩)
set_option maxRecDepth 100000 in
theorem e43_0 : ((v43_.2.1.drop 0).take 60).all (fun z => decide (decode d43_.2.1 z.1 = .ok (z.2.1, z.2.2))) = true := by decide +kernel
set_option maxRecDepth 100000 in
theorem e43_60 : ((v43_.2.1.drop 60).take 60).all (fun z => decide (decode d43_.2.1 z.1 = .ok (z.2.1, z.2.2))) = true := by decide +kernel
set_option maxRecDepth 100000 in
theorem e43_120 : ((v43_.2.1.drop 120).take 60).all (fun z => decide (decode d43_.2.1 z.1 = .ok (z.2.1, z.2.2))) = true := by decide +kernel
set_option maxRecDepth 100000 in
theorem e43_ : ∀ z ∈ v43_.2.1, decode d43_.2.1 z.1 = .ok (z.2.1, z.2.2) := tDrop [0, 60, 120] (by decide +kernel) (by simp only [List.forall_mem_cons]; exact ⟨e43_0, e43_60, e43_120, fun _ h => by cases h⟩)
set_option maxRecDepth 100000 in
theorem e44_0 : ((v44_.2.1.drop 0).take 60).all (fun z => decide (decode d44_.2.1 z.1 = .ok (z.2.1, z.2.2))) = true := by decide +kernel
set_option maxRecDepth 100000 in
theorem e44_60 : ((v44_.2.1.drop 60).take 60).all (fun z => decide (decode d44_.2.1 z.1 = .ok (z.2.1, z.2.2))) = true := by decide +kernel
set_option maxRecDepth 100000 in
theorem e44_120 : ((v44_.2.1.drop 120).take 60).all (fun z => decide (decode d44_.2.1 z.1 = .ok (z.2.1, z.2.2))) = true := by decide +kernel
set_option maxRecDepth 100000 in
theorem e44_180 : ((v44_.2.1.drop 180).take 60).all (fun z => decide (decode d44_.2.1 z.1 = .ok (z.2.1, z.2.2))) = true := by decide +kernel
set_option maxRecDepth 100000 in
theorem e44_ : ∀ z ∈ v44_.2.1, decode d44_.2.1 z.1 = .ok (z.2.1, z.2.2) := tDrop [0, 60, 120, 180] (by decide +kernel) (by simp only [List.forall_mem_cons]; exact ⟨e44_0, e44_60, e44_120, e44_180, fun _ h => by cases h⟩)
set_option maxRecDepth 100000 in
theorem e45_0 : ((v45_.2.1.drop 0).take 60).all (fun z => decide (decode d45_.2.1 z.1 = .ok (z.2.1, z.2.2))) = true := by decide +kernel
set_option maxRecDepth 100000 in
theorem e45_ : ∀ z ∈ v45_.2.1, decode d45_.2.1 z.1 = .ok (z.2.1, z.2.2) := tDrop [0] (by decide +kernel) (by simp only [List.forall_mem_cons]; exact ⟨e45_0, fun _ h => by cases h⟩)
set_option maxRecDepth 100000 in
theorem e46_0 : ((v46_.2.1.drop 0).take 60).all (fun z => decide (decode d46_.2.1 z.1 = .ok (z.2.1, z.2.2))) = true := by decide +kernel
set_option maxRecDepth 100000 in
theorem e46_ : ∀ z ∈ v46_.2.1, decode d46_.2.1 z.1 = .ok (z.2.1, z.2.2) := tDrop [0] (by decide +kernel) (by simp only [List.forall_mem_cons]; exact ⟨e46_0, fun _ h => by cases h⟩)
set_option maxRecDepth 100000 in
theorem e47_0 : ((v47_.2.1.drop 0).take 60).all (fun z => decide (decode d47_.2.1 z.1 = .ok (z.2.1, z.2.2))) = true := by decide +kernel
set_option maxRecDepth 100000 in
theorem e47_ : ∀ z ∈ v47_.2.1, decode d47_.2.1 z.1 = .ok (z.2.1, z.2.2) := tDrop [0] (by decide +kernel) (by simp only [List.forall_mem_cons]; exact ⟨e47_0, fun _ h => by cases h⟩)
set_option maxRecDepth 100000 in
theorem e48_0 : ((v48_.2.1.drop 0).take 60).all (fun z => decide (decode d48_.2.1 z.1 = .ok (z.2.1, z.2.2))) = true := by decide +kernel
set_option maxRecDepth 100000 in
theorem e48_60 : ((v48_.2.1.drop 60).take 60).all (fun z => decide (decode d48_.2.1 z.1 = .ok (z.2.1, z.2.2))) = true := by decide +kernel
set_option maxRecDepth 100000 in
theorem e48_120 : ((v48_.2.1.drop 120).take 60).all (fun z => decide (decode d48_.2.1 z.1 = .ok (z.2.1, z.2.2))) = true := by decide +kernel
set_option maxRecDepth 100000 in
theorem e48_ : ∀ z ∈ v48_.2.1, decode d48_.2.1 z.1 = .ok (z.2.1, z.2.2) := tDrop [0, 60, 120] (by decide +kernel) (by simp only [List.forall_mem_cons]; exact ⟨e48_0, e48_60, e48_120, fun _ h => by cases h⟩)
set_option maxRecDepth 100000 in
theorem e49_0 : ((v49_.2.1.drop 0).take 60).all (fun z => decide (decode d49_.2.1 z.1 = .ok (z.2.1, z.2.2))) = true := by decide +kernel
set_option maxRecDepth 100000 in
theorem e49_ : ∀ z ∈ v49_.2.1, decode d49_.2.1 z.1 = .ok (z.2.1, z.2.2) := tDrop [0] (by decide +kernel) (by simp only [List.forall_mem_cons]; exact ⟨e49_0, fun _ h => by cases h⟩)
set_option maxRecDepth 100000 in
theorem e50_0 : ((v50_.2.1.drop 0).take 60).all (fun z => decide (decode d50_.2.1 z.1 = .ok (z.2.1, z.2.2))) = true := by decide +kernel
set_option maxRecDepth 100000 in
theorem e50_ : ∀ z ∈ v50_.2.1, decode d50_.2.1 z.1 = .ok (z.2.1, z.2.2) := tDrop [0] (by decide +kernel) (by simp only [List.forall_mem_cons]; exact ⟨e50_0, fun _ h => by cases h⟩)
set_option maxRecDepth 100000 in
theorem e51_0 : ((v51_.2.1.drop 0).take 60).all (fun z => decide (decode d51_.2.1 z.1 = .ok (z.2.1, z.2.2))) = true := by decide +kernel
set_option maxRecDepth 100000 in
theorem e51_60 : ((v51_.2.1.drop 60).take 60).all (fun z => decide (decode d51_.2.1 z.1 = .ok (z.2.1, z.2.2))) = true := by decide +kernel
set_option maxRecDepth 100000 in
theorem e51_120 : ((v51_.2.1.drop 120).take 60).all (fun z => decide (decode d51_.2.1 z.1 = .ok (z.2.1, z.2.2))) = true := by decide +kernel
set_option maxRecDepth 100000 in
theorem e51_ : ∀ z ∈ v51_.2.1, decode d51_.2.1 z.1 = .ok (z.2.1, z.2.2) := tDrop [0, 60, 120] (by decide +kernel) (by simp only [List.forall_mem_cons]; exact ⟨e51_0, e51_60, e51_120, fun _ h => by cases h⟩)
set_option maxRecDepth 100000 in
theorem e52_0 : ((v52_.2.1.drop 0).take 60).all (fun z => decide (decode d52_.2.1 z.1 = .ok (z.2.1, z.2.2))) = true := by decide +kernel
set_option maxRecDepth 100000 in
theorem e52_ : ∀ z ∈ v52_.2.1, decode d52_.2.1 z.1 = .ok (z.2.1, z.2.2) := tDrop [0] (by decide +kernel) (by simp only [List.forall_mem_cons]; exact ⟨e52_0, fun _ h => by cases h⟩)
set_option maxRecDepth 100000 in
theorem e53_0 : ((v53_.2.1.drop 0).take 60).all (fun z => decide (decode d53_.2.1 z.1 = .ok (z.2.1, z.2.2))) = true := by decide +kernel
set_option maxRecDepth 100000 in
theorem e53_ : ∀ z ∈ v53_.2.1, decode d53_.2.1 z.1 = .ok (z.2.1, z.2.2) := tDrop [0] (by decide +kernel) (by simp only [List.forall_mem_cons]; exact ⟨e53_0, fun _ h => by cases h⟩)
set_option maxRecDepth 100000 in
theorem e54_0 : ((v54_.2.1.drop 0).take 60).all (fun z => decide (decode d54_.2.1 z.1 = .ok (z.2.1, z.2.2))) = true := by decide +kernel
set_option maxRecDepth 100000 in
theorem e54_ : ∀ z ∈ v54_.2.1, decode d54_.2.1 z.1 = .ok (z.2.1, z.2.2) := tDrop [0] (by decide +kernel) (by simp only [List.forall_mem_cons]; exact ⟨e54_0, fun _ h => by cases h⟩)
set_option maxRecDepth 100000 in
theorem e55_0 : ((v55_.2.1.drop 0).take 60).all (fun z => decide (decode d55_.2.1 z.1 = .ok (z.2.1, z.2.2))) = true := by decide +kernel
set_option maxRecDepth 100000 in
theorem e55_60 : ((v55_.2.1.drop 60).take 60).all (fun z => decide (decode d55_.2.1 z.1 = .ok (z.2.1, z.2.2))) = true := by decide +kernel
set_option maxRecDepth 100000 in
theorem e55_120 : ((v55_.2.1.drop 120).take 60).all (fun z => decide (decode d55_.2.1 z.1 = .ok (z.2.1, z.2.2))) = true := by decide +kernel
set_option maxRecDepth 100000 in
theorem e55_ : ∀ z ∈ v55_.2.1, decode d55_.2.1 z.1 = .ok (z.2.1, z.2.2) := tDrop [0, 60, 120] (by decide +kernel) (by simp only [List.forall_mem_cons]; exact ⟨e55_0, e55_60, e55_120, fun _ h => by cases h⟩)
set_option maxRecDepth 100000 in
theorem e56_0 : ((v56_.2.1.drop 0).take 60).all (fun z => decide (decode d56_.2.1 z.1 = .ok (z.2.1, z.2.2))) = true := by decide +kernel
set_option maxRecDepth 100000 in
theorem e56_ : ∀ z ∈ v56_.2.1, decode d56_.2.1 z.1 = .ok (z.2.1, z.2.2) := tDrop [0] (by decide +kernel) (by simp only [List.forall_mem_cons]; exact ⟨e56_0, fun _ h => by cases h⟩)
set_option maxRecDepth 100000 in
theorem e57_0 : ((v57_.2.1.drop 0).take 60).all (fun z => decide (decode d57_.2.1 z.1 = .ok (z.2.1, z.2.2))) = true := by decide +kernel
set_option maxRecDepth 100000 in
theorem e57_60 : ((v57_.2.1.drop 60).take 60).all (fun z => decide (decode d57_.2.1 z.1 = .ok (z.2.1, z.2.2))) = true := by decide +kernel
set_option maxRecDepth 100000 in
theorem e57_ : ∀ z ∈ v57_.2.1, decode d57_.2.1 z.1 = .ok (z.2.1, z.2.2) := tDrop [0, 60] (by decide +kernel) (by simp only [List.forall_mem_cons]; exact ⟨e57_0, e57_60, fun _ h => by cases h⟩)
set_option maxRecDepth 100000 in
theorem e58_0 : ((v58_.2.1.drop 0).take 60).all (fun z => decide (decode d58_.2.1 z.1 = .ok (z.2.1, z.2.2))) = true := by decide +kernel
set_option maxRecDepth 100000 in
theorem e58_ : ∀ z ∈ v58_.2.1, decode d58_.2.1 z.1 = .ok (z.2.1, z.2.2) := tDrop [0] (by decide +kernel) (by simp only [List.forall_mem_cons]; exact ⟨e58_0, fun _ h => by cases h⟩)
set_option maxRecDepth 100000 in
theorem e59_0 : ((v59_.2.1.drop 0).take 60).all (fun z => decide (decode d59_.2.1 z.1 = .ok (z.2.1, z.2.2))) = true := by decide +kernel
set_option maxRecDepth 100000 in
theorem e59_ : ∀ z ∈ v59_.2.1, decode d59_.2.1 z.1 = .ok (z.2.1, z.2.2) := tDrop [0] (by decide +kernel) (by simp only [List.forall_mem_cons]; exact ⟨e59_0, fun _ h => by cases h⟩)
set_option maxRecDepth 100000 in
theorem e60_0 : ((v60_.2.1.drop 0).take 60).all (fun z => decide (decode d60_.2.1 z.1 = .ok (z.2.1, z.2.2))) = true := by decide +kernel
set_option maxRecDepth 100000 in
theorem e60_60 : ((v60_.2.1.drop 60).take 60).all (fun z => decide (decode d60_.2.1 z.1 = .ok (z.2.1, z.2.2))) = true := by decide +kernel
set_option maxRecDepth 100000 in
theorem e60_120 : ((v60_.2.1.drop 120).take 60).all (fun z => decide (decode d60_.2.1 z.1 = .ok (z.2.1, z.2.2))) = true := by decide +kernel
set_option maxRecDepth 100000 in
theorem e60_ : ∀ z ∈ v60_.2.1, decode d60_.2.1 z.1 = .ok (z.2.1, z.2.2) := tDrop [0, 60, 120] (by decide +kernel) (by simp only [List.forall_mem_cons]; exact ⟨e60_0, e60_60, e60_120, fun _ h => by cases h⟩)
set_option maxRecDepth 100000 in
theorem e61_0 : ((v61_.2.1.drop 0).take 60).all (fun z => decide (decode d61_.2.1 z.1 = .ok (z.2.1, z.2.2))) = true := by decide +kernel
set_option maxRecDepth 100000 in
theorem e61_ : ∀ z ∈ v61_.2.1, decode d61_.2.1 z.1 = .ok (z.2.1, z.2.2) := tDrop [0] (by decide +kernel) (by simp only [List.forall_mem_cons]; exact ⟨e61_0, fun _ h => by cases h⟩)
set_option maxRecDepth 100000 in
theorem e62_0 : ((v62_.2.1.drop 0).take 60).all (fun z => decide (decode d62_.2.1 z.1 = .ok (z.2.1, z.2.2))) = true := by decide +kernel
set_option maxRecDepth 100000 in
theorem e62_60 : ((v62_.2.1.drop 60).take 60).all (fun z => decide (decode d62_.2.1 z.1 = .ok (z.2.1, z.2.2))) = true := by decide +kernel
set_option maxRecDepth 100000 in
theorem e62_120 : ((v62_.2.1.drop 120).take 60).all (fun z => decide (decode d62_.2.1 z.1 = .ok (z.2.1, z.2.2))) = true := by decide +kernel
set_option maxRecDepth 100000 in
theorem e62_ : ∀ z ∈ v62_.2.1, decode d62_.2.1 z.1 = .ok (z.2.1, z.2.2) := tDrop [0, 60, 120] (by decide +kernel) (by simp only [List.forall_mem_cons]; exact ⟨e62_0, e62_60, e62_120, fun _ h => by cases h⟩)
set_option maxRecDepth 100000 in
theorem e63_0 : ((v63_.2.1.drop 0).take 60).all (fun z => decide (decode d63_.2.1 z.1 = .ok (z.2.1, z.2.2))) = true := by decide +kernel
set_option maxRecDepth 100000 in
theorem e63_60 : ((v63_.2.1.drop 60).take 60).all (fun z => decide (decode d63_.2.1 z.1 = .ok (z.2.1, z.2.2))) = true := by decide +kernel
set_option maxRecDepth 100000 in
theorem e63_ : ∀ z ∈ v63_.2.1, decode d63_.2.1 z.1 = .ok (z.2.1, z.2.2) := tDrop [0, 60] (by decide +kernel) (by simp only [List.forall_mem_cons]; exact ⟨e63_0, e63_60, fun _ h => by cases h⟩)
set_option maxRecDepth 100000 in
theorem e64_0 : ((v64_.2.1.drop 0).take 60).all (fun z => decide (decode d64_.2.1 z.1 = .ok (z.2.1, z.2.2))) = true := by decide +kernel
set_option maxRecDepth 100000 in
theorem e64_60 : ((v64_.2.1.drop 60).take 60).all (fun z => decide (decode d64_.2.1 z.1 = .ok (z.2.1, z.2.2))) = true := by decide +kernel
set_option maxRecDepth 100000 in
theorem e64_120 : ((v64_.2.1.drop 120).take 60).all (fun z => decide (decode d64_.2.1 z.1 = .ok (z.2.1, z.2.2))) = true := by decide +kernel
set_option maxRecDepth 100000 in
theorem e64_ : ∀ z ∈ v64_.2.1, decode d64_.2.1 z.1 = .ok (z.2.1, z.2.2) := tDrop [0, 60, 120] (by decide +kernel) (by simp only [List.forall_mem_cons]; exact ⟨e64_0, e64_60, e64_120, fun _ h => by cases h⟩)
set_option maxRecDepth 100000 in
theorem e65_0 : ((v65_.2.1.drop 0).take 60).all (fun z => decide (decode d65_.2.1 z.1 = .ok (z.2.1, z.2.2))) = true := by decide +kernel
set_option maxRecDepth 100000 in
theorem e65_60 : ((v65_.2.1.drop 60).take 60).all (fun z => decide (decode d65_.2.1 z.1 = .ok (z.2.1, z.2.2))) = true := by decide +kernel
set_option maxRecDepth 100000 in
theorem e65_120 : ((v65_.2.1.drop 120).take 60).all (fun z => decide (decode d65_.2.1 z.1 = .ok (z.2.1, z.2.2))) = true := by decide +kernel
set_option maxRecDepth 100000 in
theorem e65_ : ∀ z ∈ v65_.2.1, decode d65_.2.1 z.1 = .ok (z.2.1, z.2.2) := tDrop [0, 60, 120] (by decide +kernel) (by simp only [List.forall_mem_cons]; exact ⟨e65_0, e65_60, e65_120, fun _ h => by cases h⟩)
set_option maxRecDepth 100000 in
theorem e66_0 : ((v66_.2.1.drop 0).take 60).all (fun z => decide (decode d66_.2.1 z.1 = .ok (z.2.1, z.2.2))) = true := by decide +kernel
set_option maxRecDepth 100000 in
theorem e66_60 : ((v66_.2.1.drop 60).take 60).all (fun z => decide (decode d66_.2.1 z.1 = .ok (z.2.1, z.2.2))) = true := by decide +kernel
set_option maxRecDepth 100000 in
theorem e66_ : ∀ z ∈ v66_.2.1, decode d66_.2.1 z.1 = .ok (z.2.1, z.2.2) := tDrop [0, 60] (by decide +kernel) (by simp only [List.forall_mem_cons]; exact ⟨e66_0, e66_60, fun _ h => by cases h⟩)
set_option maxRecDepth 100000 in
theorem e67_0 : ((v67_.2.1.drop 0).take 60).all (fun z => decide (decode d67_.2.1 z.1 = .ok (z.2.1, z.2.2))) = true := by decide +kernel
set_option maxRecDepth 100000 in
theorem e67_ : ∀ z ∈ v67_.2.1, decode d67_.2.1 z.1 = .ok (z.2.1, z.2.2) := tDrop [0] (by decide +kernel) (by simp only [List.forall_mem_cons]; exact ⟨e67_0, fun _ h => by cases h⟩)
set_option maxRecDepth 100000 in
theorem e68_0 : ((v68_.2.1.drop 0).take 60).all (fun z => decide (decode d68_.2.1 z.1 = .ok (z.2.1, z.2.2))) = true := by decide +kernel
set_option maxRecDepth 100000 in
theorem e68_ : ∀ z ∈ v68_.2.1, decode d68_.2.1 z.1 = .ok (z.2.1, z.2.2) := tDrop [0] (by decide +kernel) (by simp only [List.forall_mem_cons]; exact ⟨e68_0, fun _ h => by cases h⟩)
set_option maxRecDepth 100000 in
theorem e69_0 : ((v69_.2.1.drop 0).take 60).all (fun z => decide (decode d69_.2.1 z.1 = .ok (z.2.1, z.2.2))) = true := by decide +kernel
set_option maxRecDepth 100000 in
theorem e69_60 : ((v69_.2.1.drop 60).take 60).all (fun z => decide (decode d69_.2.1 z.1 = .ok (z.2.1, z.2.2))) = true := by decide +kernel
set_option maxRecDepth 100000 in
theorem e69_ : ∀ z ∈ v69_.2.1, decode d69_.2.1 z.1 = .ok (z.2.1, z.2.2) := tDrop [0, 60] (by decide +kernel) (by simp only [List.forall_mem_cons]; exact ⟨e69_0, e69_60, fun _ h => by cases h⟩)
set_option maxRecDepth 100000 in
theorem e70_0 : ((v70_.2.1.drop 0).take 60).all (fun z => decide (decode d70_.2.1 z.1 = .ok (z.2.1, z.2.2))) = true := by decide +kernel
set_option maxRecDepth 100000 in
theorem e70_ : ∀ z ∈ v70_.2.1, decode d70_.2.1 z.1 = .ok (z.2.1, z.2.2) := tDrop [0] (by decide +kernel) (by simp only [List.forall_mem_cons]; exact ⟨e70_0, fun _ h => by cases h⟩)
set_option maxRecDepth 100000 in
theorem e71_0 : ((v71_.2.1.drop 0).take 60).all (fun z => decide (decode d71_.2.1 z.1 = .ok (z.2.1, z.2.2))) = true := by decide +kernel
set_option maxRecDepth 100000 in
theorem e71_ : ∀ z ∈ v71_.2.1, decode d71_.2.1 z.1 = .ok (z.2.1, z.2.2) := tDrop [0] (by decide +kernel) (by simp only [List.forall_mem_cons]; exact ⟨e71_0, fun _ h => by cases h⟩)
set_option maxRecDepth 100000 in
theorem e72_0 : ((v72_.2.1.drop 0).take 60).all (fun z => decide (decode d72_.2.1 z.1 = .ok (z.2.1, z.2.2))) = true := by decide +kernel
set_option maxRecDepth 100000 in
theorem e72_ : ∀ z ∈ v72_.2.1, decode d72_.2.1 z.1 = .ok (z.2.1, z.2.2) := tDrop [0] (by decide +kernel) (by simp only [List.forall_mem_cons]; exact ⟨e72_0, fun _ h => by cases h⟩)
set_option maxRecDepth 100000 in
theorem e73_0 : ((v73_.2.1.drop 0).take 60).all (fun z => decide (decode d73_.2.1 z.1 = .ok (z.2.1, z.2.2))) = true := by decide +kernel
set_option maxRecDepth 100000 in
theorem e73_ : ∀ z ∈ v73_.2.1, decode d73_.2.1 z.1 = .ok (z.2.1, z.2.2) := tDrop [0] (by decide +kernel) (by simp only [List.forall_mem_cons]; exact ⟨e73_0, fun _ h => by cases h⟩)
set_option maxRecDepth 100000 in
theorem e74_0 : ((v74_.2.1.drop 0).take 60).all (fun z => decide (decode d74_.2.1 z.1 = .ok (z.2.1, z.2.2))) = true := by decide +kernel
set_option maxRecDepth 100000 in
theorem e74_ : ∀ z ∈ v74_.2.1, decode d74_.2.1 z.1 = .ok (z.2.1, z.2.2) := tDrop [0] (by decide +kernel) (by simp only [List.forall_mem_cons]; exact ⟨e74_0, fun _ h => by cases h⟩)
set_option maxRecDepth 100000 in
theorem e75_0 : ((v75_.2.1.drop 0).take 60).all (fun z => decide (decode d75_.2.1 z.1 = .ok (z.2.1, z.2.2))) = true := by decide +kernel
set_option maxRecDepth 100000 in
theorem e75_ : ∀ z ∈ v75_.2.1, decode d75_.2.1 z.1 = .ok (z.2.1, z.2.2) := tDrop [0] (by decide +kernel) (by simp only [List.forall_mem_cons]; exact ⟨e75_0, fun _ h => by cases h⟩)
set_option maxRecDepth 100000 in
theorem e76_0 : ((v76_.2.1.drop 0).take 60).all (fun z => decide (decode d76_.2.1 z.1 = .ok (z.2.1, z.2.2))) = true := by decide +kernel
set_option maxRecDepth 100000 in
theorem e76_ : ∀ z ∈ v76_.2.1, decode d76_.2.1 z.1 = .ok (z.2.1, z.2.2) := tDrop [0] (by decide +kernel) (by simp only [List.forall_mem_cons]; exact ⟨e76_0, fun _ h => by cases h⟩)
set_option maxRecDepth 100000 in
theorem e77_0 : ((v77_.2.1.drop 0).take 60).all (fun z => decide (decode d77_.2.1 z.1 = .ok (z.2.1, z.2.2))) = true := by decide +kernel
set_option maxRecDepth 100000 in
theorem e77_60 : ((v77_.2.1.drop 60).take 60).all (fun z => decide (decode d77_.2.1 z.1 = .ok (z.2.1, z.2.2))) = true := by decide +kernel
set_option maxRecDepth 100000 in
theorem e77_ : ∀ z ∈ v77_.2.1, decode d77_.2.1 z.1 = .ok (z.2.1, z.2.2) := tDrop [0, 60] (by decide +kernel) (by simp only [List.forall_mem_cons]; exact ⟨e77_0, e77_60, fun _ h => by cases h⟩)
set_option maxRecDepth 100000 in
theorem e78_0 : ((v78_.2.1.drop 0).take 60).all (fun z => decide (decode d78_.2.1 z.1 = .ok (z.2.1, z.2.2))) = true := by decide +kernel
set_option maxRecDepth 100000 in
theorem e78_60 : ((v78_.2.1.drop 60).take 60).all (fun z => decide (decode d78_.2.1 z.1 = .ok (z.2.1, z.2.2))) = true := by decide +kernel
set_option maxRecDepth 100000 in
theorem e78_ : ∀ z ∈ v78_.2.1, decode d78_.2.1 z.1 = .ok (z.2.1, z.2.2) := tDrop [0, 60] (by decide +kernel) (by simp only [List.forall_mem_cons]; exact ⟨e78_0, e78_60, fun _ h => by cases h⟩)
set_option maxRecDepth 100000 in
theorem e79_0 : ((v79_.2.1.drop 0).take 60).all (fun z => decide (decode d79_.2.1 z.1 = .ok (z.2.1, z.2.2))) = true := by decide +kernel
set_option maxRecDepth 100000 in
theorem e79_60 : ((v79_.2.1.drop 60).take 60).all (fun z => decide (decode d79_.2.1 z.1 = .ok (z.2.1, z.2.2))) = true := by decide +kernel
set_option maxRecDepth 100000 in
theorem e79_ : ∀ z ∈ v79_.2.1, decode d79_.2.1 z.1 = .ok (z.2.1, z.2.2) := tDrop [0, 60] (by decide +kernel) (by simp only [List.forall_mem_cons]; exact ⟨e79_0, e79_60, fun _ h => by cases h⟩)
set_option maxRecDepth 100000 in
theorem e80_0 : ((v80_.2.1.drop 0).take 60).all (fun z => decide (decode d80_.2.1 z.1 = .ok (z.2.1, z.2.2))) = true := by decide +kernel
set_option maxRecDepth 100000 in
theorem e80_ : ∀ z ∈ v80_.2.1, decode d80_.2.1 z.1 = .ok (z.2.1, z.2.2) := tDrop [0] (by decide +kernel) (by simp only [List.forall_mem_cons]; exact ⟨e80_0, fun _ h => by cases h⟩)
set_option maxRecDepth 100000 in
theorem e81_0 : ((v81_.2.1.drop 0).take 60).all (fun z => decide (decode d81_.2.1 z.1 = .ok (z.2.1, z.2.2))) = true := by decide +kernel
set_option maxRecDepth 100000 in
theorem e81_ : ∀ z ∈ v81_.2.1, decode d81_.2.1 z.1 = .ok (z.2.1, z.2.2) := tDrop [0] (by decide +kernel) (by simp only [List.forall_mem_cons]; exact ⟨e81_0, fun _ h => by cases h⟩)
set_option maxRecDepth 100000 in
theorem e82_0 : ((v82_.2.1.drop 0).take 60).all (fun z => decide (decode d82_.2.1 z.1 = .ok (z.2.1, z.2.2))) = true := by decide +kernel
set_option maxRecDepth 100000 in
theorem e82_ : ∀ z ∈ v82_.2.1, decode d82_.2.1 z.1 = .ok (z.2.1, z.2.2) := tDrop [0] (by decide +kernel) (by simp only [List.forall_mem_cons]; exact ⟨e82_0, fun _ h => by cases h⟩)
set_option maxRecDepth 100000 in
theorem e83_0 : ((v83_.2.1.drop 0).take 60).all (fun z => decide (decode d83_.2.1 z.1 = .ok (z.2.1, z.2.2))) = true := by decide +kernel
set_option maxRecDepth 100000 in
theorem e83_ : ∀ z ∈ v83_.2.1, decode d83_.2.1 z.1 = .ok (z.2.1, z.2.2) := tDrop [0] (by decide +kernel) (by simp only [List.forall_mem_cons]; exact ⟨e83_0, fun _ h => by cases h⟩)
set_option maxRecDepth 100000 in
theorem e84_0 : ((v84_.2.1.drop 0).take 60).all (fun z => decide (decode d84_.2.1 z.1 = .ok (z.2.1, z.2.2))) = true := by decide +kernel
set_option maxRecDepth 100000 in
theorem e84_ : ∀ z ∈ v84_.2.1, decode d84_.2.1 z.1 = .ok (z.2.1, z.2.2) := tDrop [0] (by decide +kernel) (by simp only [List.forall_mem_cons]; exact ⟨e84_0, fun _ h => by cases h⟩)
set_option maxRecDepth 100000 in
theorem e85_0 : ((v85_.2.1.drop 0).take 60).all (fun z => decide (decode d85_.2.1 z.1 = .ok (z.2.1, z.2.2))) = true := by decide +kernel
set_option maxRecDepth 100000 in
theorem e85_ : ∀ z ∈ v85_.2.1, decode d85_.2.1 z.1 = .ok (z.2.1, z.2.2) := tDrop [0] (by decide +kernel) (by simp only [List.forall_mem_cons]; exact ⟨e85_0, fun _ h => by cases h⟩)
set_option maxRecDepth 100000 in
theorem e86_0 : ((v86_.2.1.drop 0).take 60).all (fun z => decide (decode d86_.2.1 z.1 = .ok (z.2.1, z.2.2))) = true := by decide +kernel
set_option maxRecDepth 100000 in
theorem e86_ : ∀ z ∈ v86_.2.1, decode d86_.2.1 z.1 = .ok (z.2.1, z.2.2) := tDrop [0] (by decide +kernel) (by simp only [List.forall_mem_cons]; exact ⟨e86_0, fun _ h => by cases h⟩)
set_option maxRecDepth 100000 in
theorem e87_0 : ((v87_.2.1.drop 0).take 60).all (fun z => decide (decode d87_.2.1 z.1 = .ok (z.2.1, z.2.2))) = true := by decide +kernel
set_option maxRecDepth 100000 in
theorem e87_ : ∀ z ∈ v87_.2.1, decode d87_.2.1 z.1 = .ok (z.2.1, z.2.2) := tDrop [0] (by decide +kernel) (by simp only [List.forall_mem_cons]; exact ⟨e87_0, fun _ h => by cases h⟩)
set_option maxRecDepth 100000 in
theorem e88_0 : ((v88_.2.1.drop 0).take 60).all (fun z => decide (decode d88_.2.1 z.1 = .ok (z.2.1, z.2.2))) = true := by decide +kernel
set_option maxRecDepth 100000 in
theorem e88_ : ∀ z ∈ v88_.2.1, decode d88_.2.1 z.1 = .ok (z.2.1, z.2.2) := tDrop [0] (by decide +kernel) (by simp only [List.forall_mem_cons]; exact ⟨e88_0, fun _ h => by cases h⟩)
set_option maxRecDepth 100000 in
theorem e89_0 : ((v89_.2.1.drop 0).take 60).all (fun z => decide (decode d89_.2.1 z.1 = .ok (z.2.1, z.2.2))) = true := by decide +kernel
set_option maxRecDepth 100000 in
theorem e89_ : ∀ z ∈ v89_.2.1, decode d89_.2.1 z.1 = .ok (z.2.1, z.2.2) := tDrop [0] (by decide +kernel) (by simp only [List.forall_mem_cons]; exact ⟨e89_0, fun _ h => by cases h⟩)
set_option maxRecDepth 100000 in
theorem e90_0 : ((v90_.2.1.drop 0).take 60).all (fun z => decide (decode d90_.2.1 z.1 = .ok (z.2.1, z.2.2))) = true := by decide +kernel
set_option maxRecDepth 100000 in
theorem e90_ : ∀ z ∈ v90_.2.1, decode d90_.2.1 z.1 = .ok (z.2.1, z.2.2) := tDrop [0] (by decide +kernel) (by simp only [List.forall_mem_cons]; exact ⟨e90_0, fun _ h => by cases h⟩)
set_option maxRecDepth 100000 in
theorem e91_0 : ((v91_.2.1.drop 0).take 60).all (fun z => decide (decode d91_.2.1 z.1 = .ok (z.2.1, z.2.2))) = true := by decide +kernel
set_option maxRecDepth 100000 in
theorem e91_ : ∀ z ∈ v91_.2.1, decode d91_.2.1 z.1 = .ok (z.2.1, z.2.2) := tDrop [0] (by decide +kernel) (by simp only [List.forall_mem_cons]; exact ⟨e91_0, fun _ h => by cases h⟩)
set_option maxRecDepth 100000 in
theorem e92_0 : ((v92_.2.1.drop 0).take 60).all (fun z => decide (decode d92_.2.1 z.1 = .ok (z.2.1, z.2.2))) = true := by decide +kernel
set_option maxRecDepth 100000 in
theorem e92_ : ∀ z ∈ v92_.2.1, decode d92_.2.1 z.1 = .ok (z.2.1, z.2.2) := tDrop [0] (by decide +kernel) (by simp only [List.forall_mem_cons]; exact ⟨e92_0, fun _ h => by cases h⟩)
set_option maxRecDepth 100000 in
theorem e93_0 : ((v93_.2.1.drop 0).take 60).all (fun z => decide (decode d93_.2.1 z.1 = .ok (z.2.1, z.2.2))) = true := by decide +kernel
set_option maxRecDepth 100000 in
theorem e93_ : ∀ z ∈ v93_.2.1, decode d93_.2.1 z.1 = .ok (z.2.1, z.2.2) := tDrop [0] (by decide +kernel) (by simp only [List.forall_mem_cons]; exact ⟨e93_0, fun _ h => by cases h⟩)
set_option maxRecDepth 100000 in
theorem e94_0 : ((v94_.2.1.drop 0).take 60).all (fun z => decide (decode d94_.2.1 z.1 = .ok (z.2.1, z.2.2))) = true := by decide +kernel
set_option maxRecDepth 100000 in
theorem e94_ : ∀ z ∈ v94_.2.1, decode d94_.2.1 z.1 = .ok (z.2.1, z.2.2) := tDrop [0] (by decide +kernel) (by simp only [List.forall_mem_cons]; exact ⟨e94_0, fun _ h => by cases h⟩)
set_option maxRecDepth 100000 in
theorem e95_0 : ((v95_.2.1.drop 0).take 60).all (fun z => decide (decode d95_.2.1 z.1 = .ok (z.2.1, z.2.2))) = true := by decide +kernel
set_option maxRecDepth 100000 in
theorem e95_ : ∀ z ∈ v95_.2.1, decode d95_.2.1 z.1 = .ok (z.2.1, z.2.2) := tDrop [0] (by decide +kernel) (by simp only [List.forall_mem_cons]; exact ⟨e95_0, fun _ h => by cases h⟩)
set_option maxRecDepth 100000 in
theorem e96_0 : ((v96_.2.1.drop 0).take 60).all (fun z => decide (decode d96_.2.1 z.1 = .ok (z.2.1, z.2.2))) = true := by decide +kernel
set_option maxRecDepth 100000 in
theorem e96_ : ∀ z ∈ v96_.2.1, decode d96_.2.1 z.1 = .ok (z.2.1, z.2.2) := tDrop [0] (by decide +kernel) (by simp only [List.forall_mem_cons]; exact ⟨e96_0, fun _ h => by cases h⟩)
set_option maxRecDepth 100000 in
theorem e97_0 : ((v97_.2.1.drop 0).take 60).all (fun z => decide (decode d97_.2.1 z.1 = .ok (z.2.1, z.2.2))) = true := by decide +kernel
set_option maxRecDepth 100000 in
theorem e97_ : ∀ z ∈ v97_.2.1, decode d97_.2.1 z.1 = .ok (z.2.1, z.2.2) := tDrop [0] (by decide +kernel) (by simp only [List.forall_mem_cons]; exact ⟨e97_0, fun _ h => by cases h⟩)
set_option maxRecDepth 100000 in
theorem e98_0 : ((v98_.2.1.drop 0).take 60).all (fun z => decide (decode d98_.2.1 z.1 = .ok (z.2.1, z.2.2))) = true := by decide +kernel
set_option maxRecDepth 100000 in
theorem e98_60 : ((v98_.2.1.drop 60).take 60).all (fun z => decide (decode d98_.2.1 z.1 = .ok (z.2.1, z.2.2))) = true := by decide +kernel
set_option maxRecDepth 100000 in
theorem e98_ : ∀ z ∈ v98_.2.1, decode d98_.2.1 z.1 = .ok (z.2.1, z.2.2) := tDrop [0, 60] (by decide +kernel) (by simp only [List.forall_mem_cons]; exact ⟨e98_0, e98_60, fun _ h => by cases h⟩)
set_option maxRecDepth 100000 in
theorem e99_0 : ((v99_.2.1.drop 0).take 60).all (fun z => decide (decode d99_.2.1 z.1 = .ok (z.2.1, z.2.2))) = true := by decide +kernel
set_option maxRecDepth 100000 in
theorem e99_60 : ((v99_.2.1.drop 60).take 60).all (fun z => decide (decode d99_.2.1 z.1 = .ok (z.2.1, z.2.2))) = true := by decide +kernel
set_option maxRecDepth 100000 in
theorem e99_ : ∀ z ∈ v99_.2.1, decode d99_.2.1 z.1 = .ok (z.2.1, z.2.2) := tDrop [0, 60] (by decide +kernel) (by simp only [List.forall_mem_cons]; exact ⟨e99_0, e99_60, fun _ h => by cases h⟩)
set_option maxRecDepth 100000 in
theorem e100_0 : ((v100_.2.1.drop 0).take 60).all (fun z => decide (decode d100_.2.1 z.1 = .ok (z.2.1, z.2.2))) = true := by decide +kernel
set_option maxRecDepth 100000 in
theorem e100_ : ∀ z ∈ v100_.2.1, decode d100_.2.1 z.1 = .ok (z.2.1, z.2.2) := tDrop [0] (by decide +kernel) (by simp only [List.forall_mem_cons]; exact ⟨e100_0, fun _ h => by cases h⟩)
set_option maxRecDepth 100000 in
theorem e101_0 : ((v101_.2.1.drop 0).take 60).all (fun z => decide (decode d101_.2.1 z.1 = .ok (z.2.1, z.2.2))) = true := by decide +kernel
set_option maxRecDepth 100000 in
theorem e101_ : ∀ z ∈ v101_.2.1, decode d101_.2.1 z.1 = .ok (z.2.1, z.2.2) := tDrop [0] (by decide +kernel) (by simp only [List.forall_mem_cons]; exact ⟨e101_0, fun _ h => by cases h⟩)
set_option maxRecDepth 100000 in
theorem e102_0 : ((v102_.2.1.drop 0).take 60).all (fun z => decide (decode d102_.2.1 z.1 = .ok (z.2.1, z.2.2))) = true := by decide +kernel
set_option maxRecDepth 100000 in
theorem e102_ : ∀ z ∈ v102_.2.1, decode d102_.2.1 z.1 = .ok (z.2.1, z.2.2) := tDrop [0] (by decide +kernel) (by simp only [List.forall_mem_cons]; exact ⟨e102_0, fun _ h => by cases h⟩)
set_option maxRecDepth 100000 in
theorem e103_0 : ((v103_.2.1.drop 0).take 60).all (fun z => decide (decode d103_.2.1 z.1 = .ok (z.2.1, z.2.2))) = true := by decide +kernel
set_option maxRecDepth 100000 in
theorem e103_ : ∀ z ∈ v103_.2.1, decode d103_.2.1 z.1 = .ok (z.2.1, z.2.2) := tDrop [0] (by decide +kernel) (by simp only [List.forall_mem_cons]; exact ⟨e103_0, fun _ h => by cases h⟩)
set_option maxRecDepth 100000 in
theorem e104_0 : ((v104_.2.1.drop 0).take 60).all (fun z => decide (decode d104_.2.1 z.1 = .ok (z.2.1, z.2.2))) = true := by decide +kernel
set_option maxRecDepth 100000 in
theorem e104_ : ∀ z ∈ v104_.2.1, decode d104_.2.1 z.1 = .ok (z.2.1, z.2.2) := tDrop [0] (by decide +kernel) (by simp only [List.forall_mem_cons]; exact ⟨e104_0, fun _ h => by cases h⟩)
set_option maxRecDepth 100000 in
theorem e105_0 : ((v105_.2.1.drop 0).take 60).all (fun z => decide (decode d105_.2.1 z.1 = .ok (z.2.1, z.2.2))) = true := by decide +kernel
set_option maxRecDepth 100000 in
theorem e105_ : ∀ z ∈ v105_.2.1, decode d105_.2.1 z.1 = .ok (z.2.1, z.2.2) := tDrop [0] (by decide +kernel) (by simp only [List.forall_mem_cons]; exact ⟨e105_0, fun _ h => by cases h⟩)
set_option maxRecDepth 100000 in
theorem e106_0 : ((v106_.2.1.drop 0).take 60).all (fun z => decide (decode d106_.2.1 z.1 = .ok (z.2.1, z.2.2))) = true := by decide +kernel
set_option maxRecDepth 100000 in
theorem e106_ : ∀ z ∈ v106_.2.1, decode d106_.2.1 z.1 = .ok (z.2.1, z.2.2) := tDrop [0] (by decide +kernel) (by simp only [List.forall_mem_cons]; exact ⟨e106_0, fun _ h => by cases h⟩)
set_option maxRecDepth 100000 in
theorem e107_0 : ((v107_.2.1.drop 0).take 60).all (fun z => decide (decode d107_.2.1 z.1 = .ok (z.2.1, z.2.2))) = true := by decide +kernel
set_option maxRecDepth 100000 in
theorem e107_ : ∀ z ∈ v107_.2.1, decode d107_.2.1 z.1 = .ok (z.2.1, z.2.2) := tDrop [0] (by decide +kernel) (by simp only [List.forall_mem_cons]; exact ⟨e107_0, fun _ h => by cases h⟩)
set_option maxRecDepth 100000 in
theorem e108_0 : ((v108_.2.1.drop 0).take 60).all (fun z => decide (decode d108_.2.1 z.1 = .ok (z.2.1, z.2.2))) = true := by decide +kernel
set_option maxRecDepth 100000 in
theorem e108_ : ∀ z ∈ v108_.2.1, decode d108_.2.1 z.1 = .ok (z.2.1, z.2.2) := tDrop [0] (by decide +kernel) (by simp only [List.forall_mem_cons]; exact ⟨e108_0, fun _ h => by cases h⟩)
set_option maxRecDepth 100000 in
theorem e109_0 : ((v109_.2.1.drop 0).take 60).all (fun z => decide (decode d109_.2.1 z.1 = .ok (z.2.1, z.2.2))) = true := by decide +kernel
set_option maxRecDepth 100000 in
theorem e109_ : ∀ z ∈ v109_.2.1, decode d109_.2.1 z.1 = .ok (z.2.1, z.2.2) := tDrop [0] (by decide +kernel) (by simp only [List.forall_mem_cons]; exact ⟨e109_0, fun _ h => by cases h⟩)
set_option maxRecDepth 100000 in
theorem e110_0 : ((v110_.2.1.drop 0).take 60).all (fun z => decide (decode d110_.2.1 z.1 = .ok (z.2.1, z.2.2))) = true := by decide +kernel
set_option maxRecDepth 100000 in
theorem e110_ : ∀ z ∈ v110_.2.1, decode d110_.2.1 z.1 = .ok (z.2.1, z.2.2) := tDrop [0] (by decide +kernel) (by simp only [List.forall_mem_cons]; exact ⟨e110_0, fun _ h => by cases h⟩)
set_option maxRecDepth 100000 in
theorem e111_0 : ((v111_.2.1.drop 0).take 60).all (fun z => decide (decode d111_.2.1 z.1 = .ok (z.2.1, z.2.2))) = true := by decide +kernel
set_option maxRecDepth 100000 in
theorem e111_ : ∀ z ∈ v111_.2.1, decode d111_.2.1 z.1 = .ok (z.2.1, z.2.2) := tDrop [0] (by decide +kernel) (by simp only [List.forall_mem_cons]; exact ⟨e111_0, fun _ h => by cases h⟩)
set_option maxRecDepth 100000 in
theorem e112_0 : ((v112_.2.1.drop 0).take 60).all (fun z => decide (decode d112_.2.1 z.1 = .ok (z.2.1, z.2.2))) = true := by decide +kernel
set_option maxRecDepth 100000 in
theorem e112_ : ∀ z ∈ v112_.2.1, decode d112_.2.1 z.1 = .ok (z.2.1, z.2.2) := tDrop [0] (by decide +kernel) (by simp only [List.forall_mem_cons]; exact ⟨e112_0, fun _ h => by cases h⟩)
set_option maxRecDepth 100000 in
theorem e113_0 : ((v113_.2.1.drop 0).take 60).all (fun z => decide (decode d113_.2.1 z.1 = .ok (z.2.1, z.2.2))) = true := by decide +kernel
set_option maxRecDepth 100000 in
theorem e113_ : ∀ z ∈ v113_.2.1, decode d113_.2.1 z.1 = .ok (z.2.1, z.2.2) := tDrop [0] (by decide +kernel) (by simp only [List.forall_mem_cons]; exact ⟨e113_0, fun _ h => by cases h⟩)
set_option maxRecDepth 100000 in
theorem e114_0 : ((v114_.2.1.drop 0).take 60).all (fun z => decide (decode d114_.2.1 z.1 = .ok (z.2.1, z.2.2))) = true := by decide +kernel
set_option maxRecDepth 100000 in
theorem e114_ : ∀ z ∈ v114_.2.1, decode d114_.2.1 z.1 = .ok (z.2.1, z.2.2) := tDrop [0] (by decide +kernel) (by simp only [List.forall_mem_cons]; exact ⟨e114_0, fun _ h => by cases h⟩)
set_option maxRecDepth 100000 in
theorem e115_0 : ((v115_.2.1.drop 0).take 60).all (fun z => decide (decode d115_.2.1 z.1 = .ok (z.2.1, z.2.2))) = true := by decide +kernel
set_option maxRecDepth 100000 in
theorem e115_ : ∀ z ∈ v115_.2.1, decode d115_.2.1 z.1 = .ok (z.2.1, z.2.2) := tDrop [0] (by decide +kernel) (by simp only [List.forall_mem_cons]; exact ⟨e115_0, fun _ h => by cases h⟩)
set_option maxRecDepth 100000 in
theorem e116_0 : ((v116_.2.1.drop 0).take 60).all (fun z => decide (decode d116_.2.1 z.1 = .ok (z.2.1, z.2.2))) = true := by decide +kernel
set_option maxRecDepth 100000 in
theorem e116_ : ∀ z ∈ v116_.2.1, decode d116_.2.1 z.1 = .ok (z.2.1, z.2.2) := tDrop [0] (by decide +kernel) (by simp only [List.forall_mem_cons]; exact ⟨e116_0, fun _ h => by cases h⟩)
set_option maxRecDepth 100000 in
theorem e117_0 : ((v117_.2.1.drop 0).take 60).all (fun z => decide (decode d117_.2.1 z.1 = .ok (z.2.1, z.2.2))) = true := by decide +kernel
set_option maxRecDepth 100000 in
theorem e117_ : ∀ z ∈ v117_.2.1, decode d117_.2.1 z.1 = .ok (z.2.1, z.2.2) := tDrop [0] (by decide +kernel) (by simp only [List.forall_mem_cons]; exact ⟨e117_0, fun _ h => by cases h⟩)
set_option maxRecDepth 100000 in
theorem e118_0 : ((v118_.2.1.drop 0).take 60).all (fun z => decide (decode d118_.2.1 z.1 = .ok (z.2.1, z.2.2))) = true := by decide +kernel
set_option maxRecDepth 100000 in
theorem e118_ : ∀ z ∈ v118_.2.1, decode d118_.2.1 z.1 = .ok (z.2.1, z.2.2) := tDrop [0] (by decide +kernel) (by simp only [List.forall_mem_cons]; exact ⟨e118_0, fun _ h => by cases h⟩)
set_option maxRecDepth 100000 in
theorem e119_0 : ((v119_.2.1.drop 0).take 60).all (fun z => decide (decode d119_.2.1 z.1 = .ok (z.2.1, z.2.2))) = true := by decide +kernel
set_option maxRecDepth 100000 in
theorem e119_ : ∀ z ∈ v119_.2.1, decode d119_.2.1 z.1 = .ok (z.2.1, z.2.2) := tDrop [0] (by decide +kernel) (by simp only [List.forall_mem_cons]; exact ⟨e119_0, fun _ h => by cases h⟩)
set_option maxRecDepth 100000 in
theorem e120_0 : ((v120_.2.1.drop 0).take 60).all (fun z => decide (decode d120_.2.1 z.1 = .ok (z.2.1, z.2.2))) = true := by decide +kernel
set_option maxRecDepth 100000 in
theorem e120_ : ∀ z ∈ v120_.2.1, decode d120_.2.1 z.1 = .ok (z.2.1, z.2.2) := tDrop [0] (by decide +kernel) (by simp only [List.forall_mem_cons]; exact ⟨e120_0, fun _ h => by cases h⟩)
set_option maxRecDepth 100000 in
theorem e121_0 : ((v121_.2.1.drop 0).take 60).all (fun z => decide (decode d121_.2.1 z.1 = .ok (z.2.1, z.2.2))) = true := by decide +kernel
set_option maxRecDepth 100000 in
theorem e121_60 : ((v121_.2.1.drop 60).take 60).all (fun z => decide (decode d121_.2.1 z.1 = .ok (z.2.1, z.2.2))) = true := by decide +kernel
set_option maxRecDepth 100000 in
theorem e121_ : ∀ z ∈ v121_.2.1, decode d121_.2.1 z.1 = .ok (z.2.1, z.2.2) := tDrop [0, 60] (by decide +kernel) (by simp only [List.forall_mem_cons]; exact ⟨e121_0, e121_60, fun _ h => by cases h⟩)
set_option maxRecDepth 100000 in
theorem e122_0 : ((v122_.2.1.drop 0).take 60).all (fun z => decide (decode d122_.2.1 z.1 = .ok (z.2.1, z.2.2))) = true := by decide +kernel
set_option maxRecDepth 100000 in
theorem e122_ : ∀ z ∈ v122_.2.1, decode d122_.2.1 z.1 = .ok (z.2.1, z.2.2) := tDrop [0] (by decide +kernel) (by simp only [List.forall_mem_cons]; exact ⟨e122_0, fun _ h => by cases h⟩)
set_option maxRecDepth 100000 in
theorem e123_0 : ((v123_.2.1.drop 0).take 60).all (fun z => decide (decode d123_.2.1 z.1 = .ok (z.2.1, z.2.2))) = true := by decide +kernel
set_option maxRecDepth 100000 in
theorem e123_ : ∀ z ∈ v123_.2.1, decode d123_.2.1 z.1 = .ok (z.2.1, z.2.2) := tDrop [0] (by decide +kernel) (by simp only [List.forall_mem_cons]; exact ⟨e123_0, fun _ h => by cases h⟩)
set_option maxRecDepth 100000 in
theorem e124_0 : ((v124_.2.1.drop 0).take 60).all (fun z => decide (decode d124_.2.1 z.1 = .ok (z.2.1, z.2.2))) = true := by decide +kernel
set_option maxRecDepth 100000 in
theorem e124_60 : ((v124_.2.1.drop 60).take 60).all (fun z => decide (decode d124_.2.1 z.1 = .ok (z.2.1, z.2.2))) = true := by decide +kernel
set_option maxRecDepth 100000 in
theorem e124_ : ∀ z ∈ v124_.2.1, decode d124_.2.1 z.1 = .ok (z.2.1, z.2.2) := tDrop [0, 60] (by decide +kernel) (by simp only [List.forall_mem_cons]; exact ⟨e124_0, e124_60, fun _ h => by cases h⟩)
set_option maxRecDepth 100000 in
theorem e125_0 : ((v125_.2.1.drop 0).take 60).all (fun z => decide (decode d125_.2.1 z.1 = .ok (z.2.1, z.2.2))) = true := by decide +kernel
set_option maxRecDepth 100000 in
theorem e125_ : ∀ z ∈ v125_.2.1, decode d125_.2.1 z.1 = .ok (z.2.1, z.2.2) := tDrop [0] (by decide +kernel) (by simp only [List.forall_mem_cons]; exact ⟨e125_0, fun _ h => by cases h⟩)
set_option maxRecDepth 100000 in
theorem e126_0 : ((v126_.2.1.drop 0).take 60).all (fun z => decide (decode d126_.2.1 z.1 = .ok (z.2.1, z.2.2))) = true := by decide +kernel
set_option maxRecDepth 100000 in
theorem e126_ : ∀ z ∈ v126_.2.1, decode d126_.2.1 z.1 = .ok (z.2.1, z.2.2) := tDrop [0] (by decide +kernel) (by simp only [List.forall_mem_cons]; exact ⟨e126_0, fun _ h => by cases h⟩)
set_option maxRecDepth 100000 in
theorem e127_0 : ((v127_.2.1.drop 0).take 60).all (fun z => decide (decode d127_.2.1 z.1 = .ok (z.2.1, z.2.2))) = true := by decide +kernel
set_option maxRecDepth 100000 in
theorem e127_ : ∀ z ∈ v127_.2.1, decode d127_.2.1 z.1 = .ok (z.2.1, z.2.2) := tDrop [0] (by decide +kernel) (by simp only [List.forall_mem_cons]; exact ⟨e127_0, fun _ h => by cases h⟩)
set_option maxRecDepth 100000 in
theorem e128_0 : ((v128_.2.1.drop 0).take 60).all (fun z => decide (decode d128_.2.1 z.1 = .ok (z.2.1, z.2.2))) = true := by decide +kernel
set_option maxRecDepth 100000 in
theorem e128_ : ∀ z ∈ v128_.2.1, decode d128_.2.1 z.1 = .ok (z.2.1, z.2.2) := tDrop [0] (by decide +kernel) (by simp only [List.forall_mem_cons]; exact ⟨e128_0, fun _ h => by cases h⟩)
set_option maxRecDepth 100000 in
theorem e129_0 : ((v129_.2.1.drop 0).take 60).all (fun z => decide (decode d129_.2.1 z.1 = .ok (z.2.1, z.2.2))) = true := by decide +kernel
set_option maxRecDepth 100000 in
theorem e129_ : ∀ z ∈ v129_.2.1, decode d129_.2.1 z.1 = .ok (z.2.1, z.2.2) := tDrop [0] (by decide +kernel) (by simp only [List.forall_mem_cons]; exact ⟨e129_0, fun _ h => by cases h⟩)
set_option maxRecDepth 100000 in
theorem e130_0 : ((v130_.2.1.drop 0).take 60).all (fun z => decide (decode d130_.2.1 z.1 = .ok (z.2.1, z.2.2))) = true := by decide +kernel
set_option maxRecDepth 100000 in
theorem e130_ : ∀ z ∈ v130_.2.1, decode d130_.2.1 z.1 = .ok (z.2.1, z.2.2) := tDrop [0] (by decide +kernel) (by simp only [List.forall_mem_cons]; exact ⟨e130_0, fun _ h => by cases h⟩)
set_option maxRecDepth 100000 in
theorem e131_0 : ((v131_.2.1.drop 0).take 60).all (fun z => decide (decode d131_.2.1 z.1 = .ok (z.2.1, z.2.2))) = true := by decide +kernel
set_option maxRecDepth 100000 in
theorem e131_ : ∀ z ∈ v131_.2.1, decode d131_.2.1 z.1 = .ok (z.2.1, z.2.2) := tDrop [0] (by decide +kernel) (by simp only [List.forall_mem_cons]; exact ⟨e131_0, fun _ h => by cases h⟩)
set_option maxRecDepth 100000 in
theorem e132_0 : ((v132_.2.1.drop 0).take 60).all (fun z => decide (decode d132_.2.1 z.1 = .ok (z.2.1, z.2.2))) = true := by decide +kernel
set_option maxRecDepth 100000 in
theorem e132_ : ∀ z ∈ v132_.2.1, decode d132_.2.1 z.1 = .ok (z.2.1, z.2.2) := tDrop [0] (by decide +kernel) (by simp only [List.forall_mem_cons]; exact ⟨e132_0, fun _ h => by cases h⟩)
set_option maxRecDepth 100000 in
theorem e133_0 : ((v133_.2.1.drop 0).take 60).all (fun z => decide (decode d133_.2.1 z.1 = .ok (z.2.1, z.2.2))) = true := by decide +kernel
set_option maxRecDepth 100000 in
theorem e133_ : ∀ z ∈ v133_.2.1, decode d133_.2.1 z.1 = .ok (z.2.1, z.2.2) := tDrop [0] (by decide +kernel) (by simp only [List.forall_mem_cons]; exact ⟨e133_0, fun _ h => by cases h⟩)
set_option maxRecDepth 100000 in
theorem e134_0 : ((v134_.2.1.drop 0).take 60).all (fun z => decide (decode d134_.2.1 z.1 = .ok (z.2.1, z.2.2))) = true := by decide +kernel
set_option maxRecDepth 100000 in
theorem e134_ : ∀ z ∈ v134_.2.1, decode d134_.2.1 z.1 = .ok (z.2.1, z.2.2) := tDrop [0] (by decide +kernel) (by simp only [List.forall_mem_cons]; exact ⟨e134_0, fun _ h => by cases h⟩)
set_option maxRecDepth 100000 in
theorem e135_0 : ((v135_.2.1.drop 0).take 60).all (fun z => decide (decode d135_.2.1 z.1 = .ok (z.2.1, z.2.2))) = true := by decide +kernel
set_option maxRecDepth 100000 in
theorem e135_60 : ((v135_.2.1.drop 60).take 60).all (fun z => decide (decode d135_.2.1 z.1 = .ok (z.2.1, z.2.2))) = true := by decide +kernel
set_option maxRecDepth 100000 in
theorem e135_ : ∀ z ∈ v135_.2.1, decode d135_.2.1 z.1 = .ok (z.2.1, z.2.2) := tDrop [0, 60] (by decide +kernel) (by simp only [List.forall_mem_cons]; exact ⟨e135_0, e135_60, fun _ h => by cases h⟩)
set_option maxRecDepth 100000 in
theorem e136_0 : ((v136_.2.1.drop 0).take 60).all (fun z => decide (decode d136_.2.1 z.1 = .ok (z.2.1, z.2.2))) = true := by decide +kernel
set_option maxRecDepth 100000 in
theorem e136_60 : ((v136_.2.1.drop 60).take 60).all (fun z => decide (decode d136_.2.1 z.1 = .ok (z.2.1, z.2.2))) = true := by decide +kernel
set_option maxRecDepth 100000 in
theorem e136_120 : ((v136_.2.1.drop 120).take 60).all (fun z => decide (decode d136_.2.1 z.1 = .ok (z.2.1, z.2.2))) = true := by decide +kernel
set_option maxRecDepth 100000 in
theorem e136_ : ∀ z ∈ v136_.2.1, decode d136_.2.1 z.1 = .ok (z.2.1, z.2.2) := tDrop [0, 60, 120] (by decide +kernel) (by simp only [List.forall_mem_cons]; exact ⟨e136_0, e136_60, e136_120, fun _ h => by cases h⟩)
set_option maxRecDepth 100000 in
theorem e137_0 : ((v137_.2.1.drop 0).take 60).all (fun z => decide (decode d137_.2.1 z.1 = .ok (z.2.1, z.2.2))) = true := by decide +kernel
set_option maxRecDepth 100000 in
theorem e137_60 : ((v137_.2.1.drop 60).take 60).all (fun z => decide (decode d137_.2.1 z.1 = .ok (z.2.1, z.2.2))) = true := by decide +kernel
set_option maxRecDepth 100000 in
theorem e137_ : ∀ z ∈ v137_.2.1, decode d137_.2.1 z.1 = .ok (z.2.1, z.2.2) := tDrop [0, 60] (by decide +kernel) (by simp only [List.forall_mem_cons]; exact ⟨e137_0, e137_60, fun _ h => by cases h⟩)
set_option maxRecDepth 100000 in
theorem e138_0 : ((v138_.2.1.drop 0).take 60).all (fun z => decide (decode d138_.2.1 z.1 = .ok (z.2.1, z.2.2))) = true := by decide +kernel
set_option maxRecDepth 100000 in
theorem e138_ : ∀ z ∈ v138_.2.1, decode d138_.2.1 z.1 = .ok (z.2.1, z.2.2) := tDrop [0] (by decide +kernel) (by simp only [List.forall_mem_cons]; exact ⟨e138_0, fun _ h => by cases h⟩)
set_option maxRecDepth 100000 in
theorem e139_0 : ((v139_.2.1.drop 0).take 60).all (fun z => decide (decode d139_.2.1 z.1 = .ok (z.2.1, z.2.2))) = true := by decide +kernel
set_option maxRecDepth 100000 in
theorem e139_ : ∀ z ∈ v139_.2.1, decode d139_.2.1 z.1 = .ok (z.2.1, z.2.2) := tDrop [0] (by decide +kernel) (by simp only [List.forall_mem_cons]; exact ⟨e139_0, fun _ h => by cases h⟩)
set_option maxRecDepth 100000 in
theorem e140_0 : ((v140_.2.1.drop 0).take 60).all (fun z => decide (decode d140_.2.1 z.1 = .ok (z.2.1, z.2.2))) = true := by decide +kernel
set_option maxRecDepth 100000 in
theorem e140_ : ∀ z ∈ v140_.2.1, decode d140_.2.1 z.1 = .ok (z.2.1, z.2.2) := tDrop [0] (by decide +kernel) (by simp only [List.forall_mem_cons]; exact ⟨e140_0, fun _ h => by cases h⟩)
set_option maxRecDepth 100000 in
theorem e141_0 : ((v141_.2.1.drop 0).take 60).all (fun z => decide (decode d141_.2.1 z.1 = .ok (z.2.1, z.2.2))) = true := by decide +kernel
set_option maxRecDepth 100000 in
theorem e141_ : ∀ z ∈ v141_.2.1, decode d141_.2.1 z.1 = .ok (z.2.1, z.2.2) := tDrop [0] (by decide +kernel) (by simp only [List.forall_mem_cons]; exact ⟨e141_0, fun _ h => by cases h⟩)
set_option maxRecDepth 100000 in
theorem e142_0 : ((v142_.2.1.drop 0).take 60).all (fun z => decide (decode d142_.2.1 z.1 = .ok (z.2.1, z.2.2))) = true := by decide +kernel
set_option maxRecDepth 100000 in
theorem e142_ : ∀ z ∈ v142_.2.1, decode d142_.2.1 z.1 = .ok (z.2.1, z.2.2) := tDrop [0] (by decide +kernel) (by simp only [List.forall_mem_cons]; exact ⟨e142_0, fun _ h => by cases h⟩)
set_option maxRecDepth 100000 in
theorem e143_0 : ((v143_.2.1.drop 0).take 60).all (fun z => decide (decode d143_.2.1 z.1 = .ok (z.2.1, z.2.2))) = true := by decide +kernel
set_option maxRecDepth 100000 in
theorem e143_ : ∀ z ∈ v143_.2.1, decode d143_.2.1 z.1 = .ok (z.2.1, z.2.2) := tDrop [0] (by decide +kernel) (by simp only [List.forall_mem_cons]; exact ⟨e143_0, fun _ h => by cases h⟩)
set_option maxRecDepth 100000 in
theorem e144_0 : ((v144_.2.1.drop 0).take 60).all (fun z => decide (decode d144_.2.1 z.1 = .ok (z.2.1, z.2.2))) = true := by decide +kernel
set_option maxRecDepth 100000 in
theorem e144_60 : ((v144_.2.1.drop 60).take 60).all (fun z => decide (decode d144_.2.1 z.1 = .ok (z.2.1, z.2.2))) = true := by decide +kernel
set_option maxRecDepth 100000 in
theorem e144_ : ∀ z ∈ v144_.2.1, decode d144_.2.1 z.1 = .ok (z.2.1, z.2.2) := tDrop [0, 60] (by decide +kernel) (by simp only [List.forall_mem_cons]; exact ⟨e144_0, e144_60, fun _ h => by cases h⟩)
set_option maxRecDepth 100000 in
theorem e145_0 : ((v145_.2.1.drop 0).take 60).all (fun z => decide (decode d145_.2.1 z.1 = .ok (z.2.1, z.2.2))) = true := by decide +kernel
set_option maxRecDepth 100000 in
theorem e145_ : ∀ z ∈ v145_.2.1, decode d145_.2.1 z.1 = .ok (z.2.1, z.2.2) := tDrop [0] (by decide +kernel) (by simp only [List.forall_mem_cons]; exact ⟨e145_0, fun _ h => by cases h⟩)
set_option maxRecDepth 100000 in
theorem e146_0 : ((v146_.2.1.drop 0).take 60).all (fun z => decide (decode d146_.2.1 z.1 = .ok (z.2.1, z.2.2))) = true := by decide +kernel
set_option maxRecDepth 100000 in
theorem e146_ : ∀ z ∈ v146_.2.1, decode d146_.2.1 z.1 = .ok (z.2.1, z.2.2) := tDrop [0] (by decide +kernel) (by simp only [List.forall_mem_cons]; exact ⟨e146_0, fun _ h => by cases h⟩)
set_option maxRecDepth 100000 in
theorem e147_0 : ((v147_.2.1.drop 0).take 60).all (fun z => decide (decode d147_.2.1 z.1 = .ok (z.2.1, z.2.2))) = true := by decide +kernel
set_option maxRecDepth 100000 in
theorem e147_ : ∀ z ∈ v147_.2.1, decode d147_.2.1 z.1 = .ok (z.2.1, z.2.2) := tDrop [0] (by decide +kernel) (by simp only [List.forall_mem_cons]; exact ⟨e147_0, fun _ h => by cases h⟩)
set_option maxRecDepth 100000 in
theorem e148_0 : ((v148_.2.1.drop 0).take 60).all (fun z => decide (decode d148_.2.1 z.1 = .ok (z.2.1, z.2.2))) = true := by decide +kernel
set_option maxRecDepth 100000 in
theorem e148_ : ∀ z ∈ v148_.2.1, decode d148_.2.1 z.1 = .ok (z.2.1, z.2.2) := tDrop [0] (by decide +kernel) (by simp only [List.forall_mem_cons]; exact ⟨e148_0, fun _ h => by cases h⟩)
set_option maxRecDepth 100000 in
theorem e149_0 : ((v149_.2.1.drop 0).take 60).all (fun z => decide (decode d149_.2.1 z.1 = .ok (z.2.1, z.2.2))) = true := by decide +kernel
set_option maxRecDepth 100000 in
theorem e149_ : ∀ z ∈ v149_.2.1, decode d149_.2.1 z.1 = .ok (z.2.1, z.2.2) := tDrop [0] (by decide +kernel) (by simp only [List.forall_mem_cons]; exact ⟨e149_0, fun _ h => by cases h⟩)
set_option maxRecDepth 100000 in
theorem e150_0 : ((v150_.2.1.drop 0).take 60).all (fun z => decide (decode d150_.2.1 z.1 = .ok (z.2.1, z.2.2))) = true := by decide +kernel
set_option maxRecDepth 100000 in
theorem e150_ : ∀ z ∈ v150_.2.1, decode d150_.2.1 z.1 = .ok (z.2.1, z.2.2) := tDrop [0] (by decide +kernel) (by simp only [List.forall_mem_cons]; exact ⟨e150_0, fun _ h => by cases h⟩)
set_option maxRecDepth 100000 in
theorem e151_0 : ((v151_.2.1.drop 0).take 60).all (fun z => decide (decode d151_.2.1 z.1 = .ok (z.2.1, z.2.2))) = true := by decide +kernel
set_option maxRecDepth 100000 in
theorem e151_ : ∀ z ∈ v151_.2.1, decode d151_.2.1 z.1 = .ok (z.2.1, z.2.2) := tDrop [0] (by decide +kernel) (by simp only [List.forall_mem_cons]; exact ⟨e151_0, fun _ h => by cases h⟩)
set_option maxRecDepth 100000 in
theorem e152_0 : ((v152_.2.1.drop 0).take 60).all (fun z => decide (decode d152_.2.1 z.1 = .ok (z.2.1, z.2.2))) = true := by decide +kernel
set_option maxRecDepth 100000 in
theorem e152_60 : ((v152_.2.1.drop 60).take 60).all (fun z => decide (decode d152_.2.1 z.1 = .ok (z.2.1, z.2.2))) = true := by decide +kernel
set_option maxRecDepth 100000 in
theorem e152_ : ∀ z ∈ v152_.2.1, decode d152_.2.1 z.1 = .ok (z.2.1, z.2.2) := tDrop [0, 60] (by decide +kernel) (by simp only [List.forall_mem_cons]; exact ⟨e152_0, e152_60, fun _ h => by cases h⟩)
set_option maxRecDepth 100000 in
theorem e153_0 : ((v153_.2.1.drop 0).take 60).all (fun z => decide (decode d153_.2.1 z.1 = .ok (z.2.1, z.2.2))) = true := by decide +kernel
set_option maxRecDepth 100000 in
theorem e153_ : ∀ z ∈ v153_.2.1, decode d153_.2.1 z.1 = .ok (z.2.1, z.2.2) := tDrop [0] (by decide +kernel) (by simp only [List.forall_mem_cons]; exact ⟨e153_0, fun _ h => by cases h⟩)
set_option maxRecDepth 100000 in
theorem e154_0 : ((v154_.2.1.drop 0).take 60).all (fun z => decide (decode d154_.2.1 z.1 = .ok (z.2.1, z.2.2))) = true := by decide +kernel
set_option maxRecDepth 100000 in
theorem e154_ : ∀ z ∈ v154_.2.1, decode d154_.2.1 z.1 = .ok (z.2.1, z.2.2) := tDrop [0] (by decide +kernel) (by simp only [List.forall_mem_cons]; exact ⟨e154_0, fun _ h => by cases h⟩)
set_option maxRecDepth 100000 in
theorem e155_0 : ((v155_.2.1.drop 0).take 60).all (fun z => decide (decode d155_.2.1 z.1 = .ok (z.2.1, z.2.2))) = true := by decide +kernel
set_option maxRecDepth 100000 in
theorem e155_ : ∀ z ∈ v155_.2.1, decode d155_.2.1 z.1 = .ok (z.2.1, z.2.2) := tDrop [0] (by decide +kernel) (by simp only [List.forall_mem_cons]; exact ⟨e155_0, fun _ h => by cases h⟩)
set_option maxRecDepth 100000 in
theorem e156_0 : ((v156_.2.1.drop 0).take 60).all (fun z => decide (decode d156_.2.1 z.1 = .ok (z.2.1, z.2.2))) = true := by decide +kernel
set_option maxRecDepth 100000 in
theorem e156_ : ∀ z ∈ v156_.2.1, decode d156_.2.1 z.1 = .ok (z.2.1, z.2.2) := tDrop [0] (by decide +kernel) (by simp only [List.forall_mem_cons]; exact ⟨e156_0, fun _ h => by cases h⟩)
set_option maxRecDepth 100000 in
theorem e157_0 : ((v157_.2.1.drop 0).take 60).all (fun z => decide (decode d157_.2.1 z.1 = .ok (z.2.1, z.2.2))) = true := by decide +kernel
set_option maxRecDepth 100000 in
theorem e157_ : ∀ z ∈ v157_.2.1, decode d157_.2.1 z.1 = .ok (z.2.1, z.2.2) := tDrop [0] (by decide +kernel) (by simp only [List.forall_mem_cons]; exact ⟨e157_0, fun _ h => by cases h⟩)
set_option maxRecDepth 100000 in
theorem e158_0 : ((v158_.2.1.drop 0).take 60).all (fun z => decide (decode d158_.2.1 z.1 = .ok (z.2.1, z.2.2))) = true := by decide +kernel
set_option maxRecDepth 100000 in
theorem e158_ : ∀ z ∈ v158_.2.1, decode d158_.2.1 z.1 = .ok (z.2.1, z.2.2) := tDrop [0] (by decide +kernel) (by simp only [List.forall_mem_cons]; exact ⟨e158_0, fun _ h => by cases h⟩)
set_option maxRecDepth 100000 in
theorem e159_0 : ((v159_.2.1.drop 0).take 60).all (fun z => decide (decode d159_.2.1 z.1 = .ok (z.2.1, z.2.2))) = true := by decide +kernel
set_option maxRecDepth 100000 in
theorem e159_ : ∀ z ∈ v159_.2.1, decode d159_.2.1 z.1 = .ok (z.2.1, z.2.2) := tDrop [0] (by decide +kernel) (by simp only [List.forall_mem_cons]; exact ⟨e159_0, fun _ h => by cases h⟩)
set_option maxRecDepth 100000 in
theorem e160_0 : ((v160_.2.1.drop 0).take 60).all (fun z => decide (decode d160_.2.1 z.1 = .ok (z.2.1, z.2.2))) = true := by decide +kernel
set_option maxRecDepth 100000 in
theorem e160_ : ∀ z ∈ v160_.2.1, decode d160_.2.1 z.1 = .ok (z.2.1, z.2.2) := tDrop [0] (by decide +kernel) (by simp only [List.forall_mem_cons]; exact ⟨e160_0, fun _ h => by cases h⟩)
set_option maxRecDepth 100000 in
theorem e161_0 : ((v161_.2.1.drop 0).take 60).all (fun z => decide (decode d161_.2.1 z.1 = .ok (z.2.1, z.2.2))) = true := by decide +kernel
set_option maxRecDepth 100000 in
theorem e161_ : ∀ z ∈ v161_.2.1, decode d161_.2.1 z.1 = .ok (z.2.1, z.2.2) := tDrop [0] (by decide +kernel) (by simp only [List.forall_mem_cons]; exact ⟨e161_0, fun _ h => by cases h⟩)
set_option maxRecDepth 100000 in
theorem e162_0 : ((v162_.2.1.drop 0).take 60).all (fun z => decide (decode d162_.2.1 z.1 = .ok (z.2.1, z.2.2))) = true := by decide +kernel
set_option maxRecDepth 100000 in
theorem e162_ : ∀ z ∈ v162_.2.1, decode d162_.2.1 z.1 = .ok (z.2.1, z.2.2) := tDrop [0] (by decide +kernel) (by simp only [List.forall_mem_cons]; exact ⟨e162_0, fun _ h => by cases h⟩)
set_option maxRecDepth 100000 in
theorem e163_0 : ((v163_.2.1.drop 0).take 60).all (fun z => decide (decode d163_.2.1 z.1 = .ok (z.2.1, z.2.2))) = true := by decide +kernel
set_option maxRecDepth 100000 in
theorem e163_60 : ((v163_.2.1.drop 60).take 60).all (fun z => decide (decode d163_.2.1 z.1 = .ok (z.2.1, z.2.2))) = true := by decide +kernel
set_option maxRecDepth 100000 in
theorem e163_ : ∀ z ∈ v163_.2.1, decode d163_.2.1 z.1 = .ok (z.2.1, z.2.2) := tDrop [0, 60] (by decide +kernel) (by simp only [List.forall_mem_cons]; exact ⟨e163_0, e163_60, fun _ h => by cases h⟩)
set_option maxRecDepth 100000 in
theorem e164_0 : ((v164_.2.1.drop 0).take 60).all (fun z => decide (decode d164_.2.1 z.1 = .ok (z.2.1, z.2.2))) = true := by decide +kernel
set_option maxRecDepth 100000 in
theorem e164_ : ∀ z ∈ v164_.2.1, decode d164_.2.1 z.1 = .ok (z.2.1, z.2.2) := tDrop [0] (by decide +kernel) (by simp only [List.forall_mem_cons]; exact ⟨e164_0, fun _ h => by cases h⟩)
set_option maxRecDepth 100000 in
theorem e165_0 : ((v165_.2.1.drop 0).take 60).all (fun z => decide (decode d165_.2.1 z.1 = .ok (z.2.1, z.2.2))) = true := by decide +kernel
set_option maxRecDepth 100000 in
theorem e165_ : ∀ z ∈ v165_.2.1, decode d165_.2.1 z.1 = .ok (z.2.1, z.2.2) := tDrop [0] (by decide +kernel) (by simp only [List.forall_mem_cons]; exact ⟨e165_0, fun _ h => by cases h⟩)
set_option maxRecDepth 100000 in
theorem e166_0 : ((v166_.2.1.drop 0).take 60).all (fun z => decide (decode d166_.2.1 z.1 = .ok (z.2.1, z.2.2))) = true := by decide +kernel
set_option maxRecDepth 100000 in
theorem e166_ : ∀ z ∈ v166_.2.1, decode d166_.2.1 z.1 = .ok (z.2.1, z.2.2) := tDrop [0] (by decide +kernel) (by simp only [List.forall_mem_cons]; exact ⟨e166_0, fun _ h => by cases h⟩)
set_option maxRecDepth 100000 in
theorem e167_0 : ((v167_.2.1.drop 0).take 60).all (fun z => decide (decode d167_.2.1 z.1 = .ok (z.2.1, z.2.2))) = true := by decide +kernel
set_option maxRecDepth 100000 in
theorem e167_ : ∀ z ∈ v167_.2.1, decode d167_.2.1 z.1 = .ok (z.2.1, z.2.2) := tDrop [0] (by decide +kernel) (by simp only [List.forall_mem_cons]; exact ⟨e167_0, fun _ h => by cases h⟩)
set_option maxRecDepth 100000 in
theorem e168_0 : ((v168_.2.1.drop 0).take 60).all (fun z => decide (decode d168_.2.1 z.1 = .ok (z.2.1, z.2.2))) = true := by decide +kernel
set_option maxRecDepth 100000 in
theorem e168_ : ∀ z ∈ v168_.2.1, decode d168_.2.1 z.1 = .ok (z.2.1, z.2.2) := tDrop [0] (by decide +kernel) (by simp only [List.forall_mem_cons]; exact ⟨e168_0, fun _ h => by cases h⟩)
set_option maxRecDepth 100000 in
theorem e169_0 : ((v169_.2.1.drop 0).take 60).all (fun z => decide (decode d169_.2.1 z.1 = .ok (z.2.1, z.2.2))) = true := by decide +kernel
set_option maxRecDepth 100000 in
theorem e169_ : ∀ z ∈ v169_.2.1, decode d169_.2.1 z.1 = .ok (z.2.1, z.2.2) := tDrop [0] (by decide +kernel) (by simp only [List.forall_mem_cons]; exact ⟨e169_0, fun _ h => by cases h⟩)
set_option maxRecDepth 100000 in
theorem e170_0 : ((v170_.2.1.drop 0).take 60).all (fun z => decide (decode d170_.2.1 z.1 = .ok (z.2.1, z.2.2))) = true := by decide +kernel
set_option maxRecDepth 100000 in
theorem e170_ : ∀ z ∈ v170_.2.1, decode d170_.2.1 z.1 = .ok (z.2.1, z.2.2) := tDrop [0] (by decide +kernel) (by simp only [List.forall_mem_cons]; exact ⟨e170_0, fun _ h => by cases h⟩)
set_option maxRecDepth 100000 in
theorem e171_0 : ((v171_.2.1.drop 0).take 60).all (fun z => decide (decode d171_.2.1 z.1 = .ok (z.2.1, z.2.2))) = true := by decide +kernel
set_option maxRecDepth 100000 in
theorem e171_ : ∀ z ∈ v171_.2.1, decode d171_.2.1 z.1 = .ok (z.2.1, z.2.2) := tDrop [0] (by decide +kernel) (by simp only [List.forall_mem_cons]; exact ⟨e171_0, fun _ h => by cases h⟩)
set_option maxRecDepth 100000 in
theorem e172_0 : ((v172_.2.1.drop 0).take 60).all (fun z => decide (decode d172_.2.1 z.1 = .ok (z.2.1, z.2.2))) = true := by decide +kernel
set_option maxRecDepth 100000 in
theorem e172_ : ∀ z ∈ v172_.2.1, decode d172_.2.1 z.1 = .ok (z.2.1, z.2.2) := tDrop [0] (by decide +kernel) (by simp only [List.forall_mem_cons]; exact ⟨e172_0, fun _ h => by cases h⟩)
set_option maxRecDepth 100000 in
theorem e173_0 : ((v173_.2.1.drop 0).take 60).all (fun z => decide (decode d173_.2.1 z.1 = .ok (z.2.1, z.2.2))) = true := by decide +kernel
set_option maxRecDepth 100000 in
theorem e173_60 : ((v173_.2.1.drop 60).take 60).all (fun z => decide (decode d173_.2.1 z.1 = .ok (z.2.1, z.2.2))) = true := by decide +kernel
set_option maxRecDepth 100000 in
theorem e173_ : ∀ z ∈ v173_.2.1, decode d173_.2.1 z.1 = .ok (z.2.1, z.2.2) := tDrop [0, 60] (by decide +kernel) (by simp only [List.forall_mem_cons]; exact ⟨e173_0, e173_60, fun _ h => by cases h⟩)
set_option maxRecDepth 100000 in
theorem e174_0 : ((v174_.2.1.drop 0).take 60).all (fun z => decide (decode d174_.2.1 z.1 = .ok (z.2.1, z.2.2))) = true := by decide +kernel
set_option maxRecDepth 100000 in
theorem e174_ : ∀ z ∈ v174_.2.1, decode d174_.2.1 z.1 = .ok (z.2.1, z.2.2) := tDrop [0] (by decide +kernel) (by simp only [List.forall_mem_cons]; exact ⟨e174_0, fun _ h => by cases h⟩)
set_option maxRecDepth 100000 in
theorem e175_0 : ((v175_.2.1.drop 0).take 60).all (fun z => decide (decode d175_.2.1 z.1 = .ok (z.2.1, z.2.2))) = true := by decide +kernel
set_option maxRecDepth 100000 in
theorem e175_ : ∀ z ∈ v175_.2.1, decode d175_.2.1 z.1 = .ok (z.2.1, z.2.2) := tDrop [0] (by decide +kernel) (by simp only [List.forall_mem_cons]; exact ⟨e175_0, fun _ h => by cases h⟩)
set_option maxRecDepth 100000 in
theorem e176_0 : ((v176_.2.1.drop 0).take 60).all (fun z => decide (decode d176_.2.1 z.1 = .ok (z.2.1, z.2.2))) = true := by decide +kernel
set_option maxRecDepth 100000 in
theorem e176_ : ∀ z ∈ v176_.2.1, decode d176_.2.1 z.1 = .ok (z.2.1, z.2.2) := tDrop [0] (by decide +kernel) (by simp only [List.forall_mem_cons]; exact ⟨e176_0, fun _ h => by cases h⟩)
set_option maxRecDepth 100000 in
theorem e177_0 : ((v177_.2.1.drop 0).take 60).all (fun z => decide (decode d177_.2.1 z.1 = .ok (z.2.1, z.2.2))) = true := by decide +kernel
set_option maxRecDepth 100000 in
theorem e177_ : ∀ z ∈ v177_.2.1, decode d177_.2.1 z.1 = .ok (z.2.1, z.2.2) := tDrop [0] (by decide +kernel) (by simp only [List.forall_mem_cons]; exact ⟨e177_0, fun _ h => by cases h⟩)
set_option maxRecDepth 100000 in
theorem e178_0 : ((v178_.2.1.drop 0).take 60).all (fun z => decide (decode d178_.2.1 z.1 = .ok (z.2.1, z.2.2))) = true := by decide +kernel
set_option maxRecDepth 100000 in
theorem e178_ : ∀ z ∈ v178_.2.1, decode d178_.2.1 z.1 = .ok (z.2.1, z.2.2) := tDrop [0] (by decide +kernel) (by simp only [List.forall_mem_cons]; exact ⟨e178_0, fun _ h => by cases h⟩)
set_option maxRecDepth 100000 in
theorem e179_0 : ((v179_.2.1.drop 0).take 60).all (fun z => decide (decode d179_.2.1 z.1 = .ok (z.2.1, z.2.2))) = true := by decide +kernel
set_option maxRecDepth 100000 in
theorem e179_ : ∀ z ∈ v179_.2.1, decode d179_.2.1 z.1 = .ok (z.2.1, z.2.2) := tDrop [0] (by decide +kernel) (by simp only [List.forall_mem_cons]; exact ⟨e179_0, fun _ h => by cases h⟩)
set_option maxRecDepth 100000 in
theorem e180_0 : ((v180_.2.1.drop 0).take 60).all (fun z => decide (decode d180_.2.1 z.1 = .ok (z.2.1, z.2.2))) = true := by decide +kernel
set_option maxRecDepth 100000 in
theorem e180_ : ∀ z ∈ v180_.2.1, decode d180_.2.1 z.1 = .ok (z.2.1, z.2.2) := tDrop [0] (by decide +kernel) (by simp only [List.forall_mem_cons]; exact ⟨e180_0, fun _ h => by cases h⟩)
set_option maxRecDepth 100000 in
theorem e181_0 : ((v181_.2.1.drop 0).take 60).all (fun z => decide (decode d181_.2.1 z.1 = .ok (z.2.1, z.2.2))) = true := by decide +kernel
set_option maxRecDepth 100000 in
theorem e181_ : ∀ z ∈ v181_.2.1, decode d181_.2.1 z.1 = .ok (z.2.1, z.2.2) := tDrop [0] (by decide +kernel) (by simp only [List.forall_mem_cons]; exact ⟨e181_0, fun _ h => by cases h⟩)
set_option maxRecDepth 100000 in
theorem e182_0 : ((v182_.2.1.drop 0).take 60).all (fun z => decide (decode d182_.2.1 z.1 = .ok (z.2.1, z.2.2))) = true := by decide +kernel
set_option maxRecDepth 100000 in
theorem e182_60 : ((v182_.2.1.drop 60).take 60).all (fun z => decide (decode d182_.2.1 z.1 = .ok (z.2.1, z.2.2))) = true := by decide +kernel
set_option maxRecDepth 100000 in
theorem e182_ : ∀ z ∈ v182_.2.1, decode d182_.2.1 z.1 = .ok (z.2.1, z.2.2) := tDrop [0, 60] (by decide +kernel) (by simp only [List.forall_mem_cons]; exact ⟨e182_0, e182_60, fun _ h => by cases h⟩)
set_option maxRecDepth 100000 in
theorem e183_0 : ((v183_.2.1.drop 0).take 60).all (fun z => decide (decode d183_.2.1 z.1 = .ok (z.2.1, z.2.2))) = true := by decide +kernel
set_option maxRecDepth 100000 in
theorem e183_ : ∀ z ∈ v183_.2.1, decode d183_.2.1 z.1 = .ok (z.2.1, z.2.2) := tDrop [0] (by decide +kernel) (by simp only [List.forall_mem_cons]; exact ⟨e183_0, fun _ h => by cases h⟩)
set_option maxRecDepth 100000 in
theorem e184_0 : ((v184_.2.1.drop 0).take 60).all (fun z => decide (decode d184_.2.1 z.1 = .ok (z.2.1, z.2.2))) = true := by decide +kernel
set_option maxRecDepth 100000 in
theorem e184_ : ∀ z ∈ v184_.2.1, decode d184_.2.1 z.1 = .ok (z.2.1, z.2.2) := tDrop [0] (by decide +kernel) (by simp only [List.forall_mem_cons]; exact ⟨e184_0, fun _ h => by cases h⟩)
set_option maxRecDepth 100000 in
theorem e185_0 : ((v185_.2.1.drop 0).take 60).all (fun z => decide (decode d185_.2.1 z.1 = .ok (z.2.1, z.2.2))) = true := by decide +kernel
set_option maxRecDepth 100000 in
theorem e185_ : ∀ z ∈ v185_.2.1, decode d185_.2.1 z.1 = .ok (z.2.1, z.2.2) := tDrop [0] (by decide +kernel) (by simp only [List.forall_mem_cons]; exact ⟨e185_0, fun _ h => by cases h⟩)
set_option maxRecDepth 100000 in
theorem e186_0 : ((v186_.2.1.drop 0).take 60).all (fun z => decide (decode d186_.2.1 z.1 = .ok (z.2.1, z.2.2))) = true := by decide +kernel
set_option maxRecDepth 100000 in
theorem e186_ : ∀ z ∈ v186_.2.1, decode d186_.2.1 z.1 = .ok (z.2.1, z.2.2) := tDrop [0] (by decide +kernel) (by simp only [List.forall_mem_cons]; exact ⟨e186_0, fun _ h => by cases h⟩)
set_option maxRecDepth 100000 in
theorem e187_0 : ((v187_.2.1.drop 0).take 60).all (fun z => decide (decode d187_.2.1 z.1 = .ok (z.2.1, z.2.2))) = true := by decide +kernel
set_option maxRecDepth 100000 in
theorem e187_60 : ((v187_.2.1.drop 60).take 60).all (fun z => decide (decode d187_.2.1 z.1 = .ok (z.2.1, z.2.2))) = true := by decide +kernel
set_option maxRecDepth 100000 in
theorem e187_ : ∀ z ∈ v187_.2.1, decode d187_.2.1 z.1 = .ok (z.2.1, z.2.2) := tDrop [0, 60] (by decide +kernel) (by simp only [List.forall_mem_cons]; exact ⟨e187_0, e187_60, fun _ h => by cases h⟩)
set_option maxRecDepth 100000 in
theorem e188_0 : ((v188_.2.1.drop 0).take 60).all (fun z => decide (decode d188_.2.1 z.1 = .ok (z.2.1, z.2.2))) = true := by decide +kernel
set_option maxRecDepth 100000 in
theorem e188_ : ∀ z ∈ v188_.2.1, decode d188_.2.1 z.1 = .ok (z.2.1, z.2.2) := tDrop [0] (by decide +kernel) (by simp only [List.forall_mem_cons]; exact ⟨e188_0, fun _ h => by cases h⟩)
set_option maxRecDepth 100000 in
theorem e189_0 : ((v189_.2.1.drop 0).take 60).all (fun z => decide (decode d189_.2.1 z.1 = .ok (z.2.1, z.2.2))) = true := by decide +kernel
set_option maxRecDepth 100000 in
theorem e189_60 : ((v189_.2.1.drop 60).take 60).all (fun z => decide (decode d189_.2.1 z.1 = .ok (z.2.1, z.2.2))) = true := by decide +kernel
set_option maxRecDepth 100000 in
theorem e189_ : ∀ z ∈ v189_.2.1, decode d189_.2.1 z.1 = .ok (z.2.1, z.2.2) := tDrop [0, 60] (by decide +kernel) (by simp only [List.forall_mem_cons]; exact ⟨e189_0, e189_60, fun _ h => by cases h⟩)
set_option maxRecDepth 100000 in
theorem e190_0 : ((v190_.2.1.drop 0).take 60).all (fun z => decide (decode d190_.2.1 z.1 = .ok (z.2.1, z.2.2))) = true := by decide +kernel
set_option maxRecDepth 100000 in
theorem e190_ : ∀ z ∈ v190_.2.1, decode d190_.2.1 z.1 = .ok (z.2.1, z.2.2) := tDrop [0] (by decide +kernel) (by simp only [List.forall_mem_cons]; exact ⟨e190_0, fun _ h => by cases h⟩)
set_option maxRecDepth 100000 in
theorem e191_0 : ((v191_.2.1.drop 0).take 60).all (fun z => decide (decode d191_.2.1 z.1 = .ok (z.2.1, z.2.2))) = true := by decide +kernel
set_option maxRecDepth 100000 in
theorem e191_ : ∀ z ∈ v191_.2.1, decode d191_.2.1 z.1 = .ok (z.2.1, z.2.2) := tDrop [0] (by decide +kernel) (by simp only [List.forall_mem_cons]; exact ⟨e191_0, fun _ h => by cases h⟩)
set_option maxRecDepth 100000 in
theorem e192_0 : ((v192_.2.1.drop 0).take 60).all (fun z => decide (decode d192_.2.1 z.1 = .ok (z.2.1, z.2.2))) = true := by decide +kernel
set_option maxRecDepth 100000 in
theorem e192_ : ∀ z ∈ v192_.2.1, decode d192_.2.1 z.1 = .ok (z.2.1, z.2.2) := tDrop [0] (by decide +kernel) (by simp only [List.forall_mem_cons]; exact ⟨e192_0, fun _ h => by cases h⟩)
set_option maxRecDepth 100000 in
theorem e193_0 : ((v193_.2.1.drop 0).take 60).all (fun z => decide (decode d193_.2.1 z.1 = .ok (z.2.1, z.2.2))) = true := by decide +kernel
set_option maxRecDepth 100000 in
theorem e193_ : ∀ z ∈ v193_.2.1, decode d193_.2.1 z.1 = .ok (z.2.1, z.2.2) := tDrop [0] (by decide +kernel) (by simp only [List.forall_mem_cons]; exact ⟨e193_0, fun _ h => by cases h⟩)
set_option maxRecDepth 100000 in
theorem e194_0 : ((v194_.2.1.drop 0).take 60).all (fun z => decide (decode d194_.2.1 z.1 = .ok (z.2.1, z.2.2))) = true := by decide +kernel
set_option maxRecDepth 100000 in
theorem e194_ : ∀ z ∈ v194_.2.1, decode d194_.2.1 z.1 = .ok (z.2.1, z.2.2) := tDrop [0] (by decide +kernel) (by simp only [List.forall_mem_cons]; exact ⟨e194_0, fun _ h => by cases h⟩)
set_option maxRecDepth 100000 in
theorem e195_0 : ((v195_.2.1.drop 0).take 60).all (fun z => decide (decode d195_.2.1 z.1 = .ok (z.2.1, z.2.2))) = true := by decide +kernel
set_option maxRecDepth 100000 in
theorem e195_60 : ((v195_.2.1.drop 60).take 60).all (fun z => decide (decode d195_.2.1 z.1 = .ok (z.2.1, z.2.2))) = true := by decide +kernel
set_option maxRecDepth 100000 in
theorem e195_ : ∀ z ∈ v195_.2.1, decode d195_.2.1 z.1 = .ok (z.2.1, z.2.2) := tDrop [0, 60] (by decide +kernel) (by simp only [List.forall_mem_cons]; exact ⟨e195_0, e195_60, fun _ h => by cases h⟩)
set_option maxRecDepth 100000 in
theorem e196_0 : ((v196_.2.1.drop 0).take 60).all (fun z => decide (decode d196_.2.1 z.1 = .ok (z.2.1, z.2.2))) = true := by decide +kernel
set_option maxRecDepth 100000 in
theorem e196_ : ∀ z ∈ v196_.2.1, decode d196_.2.1 z.1 = .ok (z.2.1, z.2.2) := tDrop [0] (by decide +kernel) (by simp only [List.forall_mem_cons]; exact ⟨e196_0, fun _ h => by cases h⟩)
set_option maxRecDepth 100000 in
theorem e197_0 : ((v197_.2.1.drop 0).take 60).all (fun z => decide (decode d197_.2.1 z.1 = .ok (z.2.1, z.2.2))) = true := by decide +kernel
set_option maxRecDepth 100000 in
theorem e197_ : ∀ z ∈ v197_.2.1, decode d197_.2.1 z.1 = .ok (z.2.1, z.2.2) := tDrop [0] (by decide +kernel) (by simp only [List.forall_mem_cons]; exact ⟨e197_0, fun _ h => by cases h⟩)
set_option maxRecDepth 100000 in
theorem e198_0 : ((v198_.2.1.drop 0).take 60).all (fun z => decide (decode d198_.2.1 z.1 = .ok (z.2.1, z.2.2))) = true := by decide +kernel
set_option maxRecDepth 100000 in
theorem e198_ : ∀ z ∈ v198_.2.1, decode d198_.2.1 z.1 = .ok (z.2.1, z.2.2) := tDrop [0] (by decide +kernel) (by simp only [List.forall_mem_cons]; exact ⟨e198_0, fun _ h => by cases h⟩)
set_option maxRecDepth 100000 in
theorem e199_0 : ((v199_.2.1.drop 0).take 60).all (fun z => decide (decode d199_.2.1 z.1 = .ok (z.2.1, z.2.2))) = true := by decide +kernel
set_option maxRecDepth 100000 in
theorem e199_ : ∀ z ∈ v199_.2.1, decode d199_.2.1 z.1 = .ok (z.2.1, z.2.2) := tDrop [0] (by decide +kernel) (by simp only [List.forall_mem_cons]; exact ⟨e199_0, fun _ h => by cases h⟩)
set_option maxRecDepth 100000 in
theorem e200_0 : ((v200_.2.1.drop 0).take 60).all (fun z => decide (decode d200_.2.1 z.1 = .ok (z.2.1, z.2.2))) = true := by decide +kernel
set_option maxRecDepth 100000 in
theorem e200_ : ∀ z ∈ v200_.2.1, decode d200_.2.1 z.1 = .ok (z.2.1, z.2.2) := tDrop [0] (by decide +kernel) (by simp only [List.forall_mem_cons]; exact ⟨e200_0, fun _ h => by cases h⟩)
set_option maxRecDepth 100000 in
theorem e201_0 : ((v201_.2.1.drop 0).take 60).all (fun z => decide (decode d201_.2.1 z.1 = .ok (z.2.1, z.2.2))) = true := by decide +kernel
set_option maxRecDepth 100000 in
theorem e201_ : ∀ z ∈ v201_.2.1, decode d201_.2.1 z.1 = .ok (z.2.1, z.2.2) := tDrop [0] (by decide +kernel) (by simp only [List.forall_mem_cons]; exact ⟨e201_0, fun _ h => by cases h⟩)
set_option maxRecDepth 100000 in
theorem e202_0 : ((v202_.2.1.drop 0).take 60).all (fun z => decide (decode d202_.2.1 z.1 = .ok (z.2.1, z.2.2))) = true := by decide +kernel
set_option maxRecDepth 100000 in
theorem e202_ : ∀ z ∈ v202_.2.1, decode d202_.2.1 z.1 = .ok (z.2.1, z.2.2) := tDrop [0] (by decide +kernel) (by simp only [List.forall_mem_cons]; exact ⟨e202_0, fun _ h => by cases h⟩)
set_option maxRecDepth 100000 in
theorem e203_0 : ((v203_.2.1.drop 0).take 60).all (fun z => decide (decode d203_.2.1 z.1 = .ok (z.2.1, z.2.2))) = true := by decide +kernel
set_option maxRecDepth 100000 in
theorem e203_ : ∀ z ∈ v203_.2.1, decode d203_.2.1 z.1 = .ok (z.2.1, z.2.2) := tDrop [0] (by decide +kernel) (by simp only [List.forall_mem_cons]; exact ⟨e203_0, fun _ h => by cases h⟩)
set_option maxRecDepth 100000 in
theorem e204_0 : ((v204_.2.1.drop 0).take 60).all (fun z => decide (decode d204_.2.1 z.1 = .ok (z.2.1, z.2.2))) = true := by decide +kernel
set_option maxRecDepth 100000 in
theorem e204_ : ∀ z ∈ v204_.2.1, decode d204_.2.1 z.1 = .ok (z.2.1, z.2.2) := tDrop [0] (by decide +kernel) (by simp only [List.forall_mem_cons]; exact ⟨e204_0, fun _ h => by cases h⟩)
set_option maxRecDepth 100000 in
theorem e205_0 : ((v205_.2.1.drop 0).take 60).all (fun z => decide (decode d205_.2.1 z.1 = .ok (z.2.1, z.2.2))) = true := by decide +kernel
set_option maxRecDepth 100000 in
theorem e205_60 : ((v205_.2.1.drop 60).take 60).all (fun z => decide (decode d205_.2.1 z.1 = .ok (z.2.1, z.2.2))) = true := by decide +kernel
set_option maxRecDepth 100000 in
theorem e205_ : ∀ z ∈ v205_.2.1, decode d205_.2.1 z.1 = .ok (z.2.1, z.2.2) := tDrop [0, 60] (by decide +kernel) (by simp only [List.forall_mem_cons]; exact ⟨e205_0, e205_60, fun _ h => by cases h⟩)
set_option maxRecDepth 100000 in
theorem e206_0 : ((v206_.2.1.drop 0).take 60).all (fun z => decide (decode d206_.2.1 z.1 = .ok (z.2.1, z.2.2))) = true := by decide +kernel
set_option maxRecDepth 100000 in
theorem e206_ : ∀ z ∈ v206_.2.1, decode d206_.2.1 z.1 = .ok (z.2.1, z.2.2) := tDrop [0] (by decide +kernel) (by simp only [List.forall_mem_cons]; exact ⟨e206_0, fun _ h => by cases h⟩)
set_option maxRecDepth 100000 in
theorem e207_0 : ((v207_.2.1.drop 0).take 60).all (fun z => decide (decode d207_.2.1 z.1 = .ok (z.2.1, z.2.2))) = true := by decide +kernel
set_option maxRecDepth 100000 in
theorem e207_60 : ((v207_.2.1.drop 60).take 60).all (fun z => decide (decode d207_.2.1 z.1 = .ok (z.2.1, z.2.2))) = true := by decide +kernel
set_option maxRecDepth 100000 in
theorem e207_ : ∀ z ∈ v207_.2.1, decode d207_.2.1 z.1 = .ok (z.2.1, z.2.2) := tDrop [0, 60] (by decide +kernel) (by simp only [List.forall_mem_cons]; exact ⟨e207_0, e207_60, fun _ h => by cases h⟩)
set_option maxRecDepth 100000 in
theorem e208_0 : ((v208_.2.1.drop 0).take 60).all (fun z => decide (decode d208_.2.1 z.1 = .ok (z.2.1, z.2.2))) = true := by decide +kernel
set_option maxRecDepth 100000 in
theorem e208_ : ∀ z ∈ v208_.2.1, decode d208_.2.1 z.1 = .ok (z.2.1, z.2.2) := tDrop [0] (by decide +kernel) (by simp only [List.forall_mem_cons]; exact ⟨e208_0, fun _ h => by cases h⟩)
set_option maxRecDepth 100000 in
theorem e209_0 : ((v209_.2.1.drop 0).take 60).all (fun z => decide (decode d209_.2.1 z.1 = .ok (z.2.1, z.2.2))) = true := by decide +kernel
set_option maxRecDepth 100000 in
theorem e209_ : ∀ z ∈ v209_.2.1, decode d209_.2.1 z.1 = .ok (z.2.1, z.2.2) := tDrop [0] (by decide +kernel) (by simp only [List.forall_mem_cons]; exact ⟨e209_0, fun _ h => by cases h⟩)
set_option maxRecDepth 100000 in
theorem e210_0 : ((v210_.2.1.drop 0).take 60).all (fun z => decide (decode d210_.2.1 z.1 = .ok (z.2.1, z.2.2))) = true := by decide +kernel
set_option maxRecDepth 100000 in
theorem e210_60 : ((v210_.2.1.drop 60).take 60).all (fun z => decide (decode d210_.2.1 z.1 = .ok (z.2.1, z.2.2))) = true := by decide +kernel
set_option maxRecDepth 100000 in
theorem e210_ : ∀ z ∈ v210_.2.1, decode d210_.2.1 z.1 = .ok (z.2.1, z.2.2) := tDrop [0, 60] (by decide +kernel) (by simp only [List.forall_mem_cons]; exact ⟨e210_0, e210_60, fun _ h => by cases h⟩)
set_option maxRecDepth 100000 in
theorem e211_0 : ((v211_.2.1.drop 0).take 60).all (fun z => decide (decode d211_.2.1 z.1 = .ok (z.2.1, z.2.2))) = true := by decide +kernel
set_option maxRecDepth 100000 in
theorem e211_ : ∀ z ∈ v211_.2.1, decode d211_.2.1 z.1 = .ok (z.2.1, z.2.2) := tDrop [0] (by decide +kernel) (by simp only [List.forall_mem_cons]; exact ⟨e211_0, fun _ h => by cases h⟩)
set_option maxRecDepth 100000 in
theorem e212_0 : ((v212_.2.1.drop 0).take 60).all (fun z => decide (decode d212_.2.1 z.1 = .ok (z.2.1, z.2.2))) = true := by decide +kernel
set_option maxRecDepth 100000 in
theorem e212_60 : ((v212_.2.1.drop 60).take 60).all (fun z => decide (decode d212_.2.1 z.1 = .ok (z.2.1, z.2.2))) = true := by decide +kernel
set_option maxRecDepth 100000 in
theorem e212_ : ∀ z ∈ v212_.2.1, decode d212_.2.1 z.1 = .ok (z.2.1, z.2.2) := tDrop [0, 60] (by decide +kernel) (by simp only [List.forall_mem_cons]; exact ⟨e212_0, e212_60, fun _ h => by cases h⟩)
set_option maxRecDepth 100000 in
theorem e213_0 : ((v213_.2.1.drop 0).take 60).all (fun z => decide (decode d213_.2.1 z.1 = .ok (z.2.1, z.2.2))) = true := by decide +kernel
set_option maxRecDepth 100000 in
theorem e213_ : ∀ z ∈ v213_.2.1, decode d213_.2.1 z.1 = .ok (z.2.1, z.2.2) := tDrop [0] (by decide +kernel) (by simp only [List.forall_mem_cons]; exact ⟨e213_0, fun _ h => by cases h⟩)
set_option maxRecDepth 100000 in
theorem e214_0 : ((v214_.2.1.drop 0).take 60).all (fun z => decide (decode d214_.2.1 z.1 = .ok (z.2.1, z.2.2))) = true := by decide +kernel
set_option maxRecDepth 100000 in
theorem e214_ : ∀ z ∈ v214_.2.1, decode d214_.2.1 z.1 = .ok (z.2.1, z.2.2) := tDrop [0] (by decide +kernel) (by simp only [List.forall_mem_cons]; exact ⟨e214_0, fun _ h => by cases h⟩)
set_option maxRecDepth 100000 in
theorem e215_0 : ((v215_.2.1.drop 0).take 60).all (fun z => decide (decode d215_.2.1 z.1 = .ok (z.2.1, z.2.2))) = true := by decide +kernel
set_option maxRecDepth 100000 in
theorem e215_ : ∀ z ∈ v215_.2.1, decode d215_.2.1 z.1 = .ok (z.2.1, z.2.2) := tDrop [0] (by decide +kernel) (by simp only [List.forall_mem_cons]; exact ⟨e215_0, fun _ h => by cases h⟩)
set_option maxRecDepth 100000 in
theorem e216_0 : ((v216_.2.1.drop 0).take 60).all (fun z => decide (decode d216_.2.1 z.1 = .ok (z.2.1, z.2.2))) = true := by decide +kernel
set_option maxRecDepth 100000 in
theorem e216_ : ∀ z ∈ v216_.2.1, decode d216_.2.1 z.1 = .ok (z.2.1, z.2.2) := tDrop [0] (by decide +kernel) (by simp only [List.forall_mem_cons]; exact ⟨e216_0, fun _ h => by cases h⟩)
set_option maxRecDepth 100000 in
theorem e217_0 : ((v217_.2.1.drop 0).take 60).all (fun z => decide (decode d217_.2.1 z.1 = .ok (z.2.1, z.2.2))) = true := by decide +kernel
set_option maxRecDepth 100000 in
theorem e217_ : ∀ z ∈ v217_.2.1, decode d217_.2.1 z.1 = .ok (z.2.1, z.2.2) := tDrop [0] (by decide +kernel) (by simp only [List.forall_mem_cons]; exact ⟨e217_0, fun _ h => by cases h⟩)
set_option maxRecDepth 100000 in
theorem e218_0 : ((v218_.2.1.drop 0).take 60).all (fun z => decide (decode d218_.2.1 z.1 = .ok (z.2.1, z.2.2))) = true := by decide +kernel
set_option maxRecDepth 100000 in
theorem e218_ : ∀ z ∈ v218_.2.1, decode d218_.2.1 z.1 = .ok (z.2.1, z.2.2) := tDrop [0] (by decide +kernel) (by simp only [List.forall_mem_cons]; exact ⟨e218_0, fun _ h => by cases h⟩)
set_option maxRecDepth 100000 in
theorem e219_0 : ((v219_.2.1.drop 0).take 60).all (fun z => decide (decode d219_.2.1 z.1 = .ok (z.2.1, z.2.2))) = true := by decide +kernel
set_option maxRecDepth 100000 in
theorem e219_ : ∀ z ∈ v219_.2.1, decode d219_.2.1 z.1 = .ok (z.2.1, z.2.2) := tDrop [0] (by decide +kernel) (by simp only [List.forall_mem_cons]; exact ⟨e219_0, fun _ h => by cases h⟩)
set_option maxRecDepth 100000 in
theorem e220_0 : ((v220_.2.1.drop 0).take 60).all (fun z => decide (decode d220_.2.1 z.1 = .ok (z.2.1, z.2.2))) = true := by decide +kernel
set_option maxRecDepth 100000 in
theorem e220_ : ∀ z ∈ v220_.2.1, decode d220_.2.1 z.1 = .ok (z.2.1, z.2.2) := tDrop [0] (by decide +kernel) (by simp only [List.forall_mem_cons]; exact ⟨e220_0, fun _ h => by cases h⟩)
set_option maxRecDepth 100000 in
theorem e221_0 : ((v221_.2.1.drop 0).take 60).all (fun z => decide (decode d221_.2.1 z.1 = .ok (z.2.1, z.2.2))) = true := by decide +kernel
set_option maxRecDepth 100000 in
theorem e221_ : ∀ z ∈ v221_.2.1, decode d221_.2.1 z.1 = .ok (z.2.1, z.2.2) := tDrop [0] (by decide +kernel) (by simp only [List.forall_mem_cons]; exact ⟨e221_0, fun _ h => by cases h⟩)
set_option maxRecDepth 100000 in
theorem e222_0 : ((v222_.2.1.drop 0).take 60).all (fun z => decide (decode d222_.2.1 z.1 = .ok (z.2.1, z.2.2))) = true := by decide +kernel
set_option maxRecDepth 100000 in
theorem e222_ : ∀ z ∈ v222_.2.1, decode d222_.2.1 z.1 = .ok (z.2.1, z.2.2) := tDrop [0] (by decide +kernel) (by simp only [List.forall_mem_cons]; exact ⟨e222_0, fun _ h => by cases h⟩)
set_option maxRecDepth 100000 in
theorem e223_0 : ((v223_.2.1.drop 0).take 60).all (fun z => decide (decode d223_.2.1 z.1 = .ok (z.2.1, z.2.2))) = true := by decide +kernel
set_option maxRecDepth 100000 in
theorem e223_ : ∀ z ∈ v223_.2.1, decode d223_.2.1 z.1 = .ok (z.2.1, z.2.2) := tDrop [0] (by decide +kernel) (by simp only [List.forall_mem_cons]; exact ⟨e223_0, fun _ h => by cases h⟩)
set_option maxRecDepth 100000 in
theorem e224_0 : ((v224_.2.1.drop 0).take 60).all (fun z => decide (decode d224_.2.1 z.1 = .ok (z.2.1, z.2.2))) = true := by decide +kernel
set_option maxRecDepth 100000 in
theorem e224_ : ∀ z ∈ v224_.2.1, decode d224_.2.1 z.1 = .ok (z.2.1, z.2.2) := tDrop [0] (by decide +kernel) (by simp only [List.forall_mem_cons]; exact ⟨e224_0, fun _ h => by cases h⟩)
set_option maxRecDepth 100000 in
theorem e225_0 : ((v225_.2.1.drop 0).take 60).all (fun z => decide (decode d225_.2.1 z.1 = .ok (z.2.1, z.2.2))) = true := by decide +kernel
set_option maxRecDepth 100000 in
theorem e225_ : ∀ z ∈ v225_.2.1, decode d225_.2.1 z.1 = .ok (z.2.1, z.2.2) := tDrop [0] (by decide +kernel) (by simp only [List.forall_mem_cons]; exact ⟨e225_0, fun _ h => by cases h⟩)
set_option maxRecDepth 100000 in
theorem e226_0 : ((v226_.2.1.drop 0).take 60).all (fun z => decide (decode d226_.2.1 z.1 = .ok (z.2.1, z.2.2))) = true := by decide +kernel
set_option maxRecDepth 100000 in
theorem e226_ : ∀ z ∈ v226_.2.1, decode d226_.2.1 z.1 = .ok (z.2.1, z.2.2) := tDrop [0] (by decide +kernel) (by simp only [List.forall_mem_cons]; exact ⟨e226_0, fun _ h => by cases h⟩)
set_option maxRecDepth 100000 in
theorem e227_0 : ((v227_.2.1.drop 0).take 60).all (fun z => decide (decode d227_.2.1 z.1 = .ok (z.2.1, z.2.2))) = true := by decide +kernel
set_option maxRecDepth 100000 in
theorem e227_ : ∀ z ∈ v227_.2.1, decode d227_.2.1 z.1 = .ok (z.2.1, z.2.2) := tDrop [0] (by decide +kernel) (by simp only [List.forall_mem_cons]; exact ⟨e227_0, fun _ h => by cases h⟩)
set_option maxRecDepth 100000 in
theorem e228_0 : ((v228_.2.1.drop 0).take 60).all (fun z => decide (decode d228_.2.1 z.1 = .ok (z.2.1, z.2.2))) = true := by decide +kernel
set_option maxRecDepth 100000 in
theorem e228_ : ∀ z ∈ v228_.2.1, decode d228_.2.1 z.1 = .ok (z.2.1, z.2.2) := tDrop [0] (by decide +kernel) (by simp only [List.forall_mem_cons]; exact ⟨e228_0, fun _ h => by cases h⟩)
set_option maxRecDepth 100000 in
theorem e229_0 : ((v229_.2.1.drop 0).take 60).all (fun z => decide (decode d229_.2.1 z.1 = .ok (z.2.1, z.2.2))) = true := by decide +kernel
set_option maxRecDepth 100000 in
theorem e229_ : ∀ z ∈ v229_.2.1, decode d229_.2.1 z.1 = .ok (z.2.1, z.2.2) := tDrop [0] (by decide +kernel) (by simp only [List.forall_mem_cons]; exact ⟨e229_0, fun _ h => by cases h⟩)
set_option maxRecDepth 100000 in
theorem e230_0 : ((v230_.2.1.drop 0).take 60).all (fun z => decide (decode d230_.2.1 z.1 = .ok (z.2.1, z.2.2))) = true := by decide +kernel
set_option maxRecDepth 100000 in
theorem e230_ : ∀ z ∈ v230_.2.1, decode d230_.2.1 z.1 = .ok (z.2.1, z.2.2) := tDrop [0] (by decide +kernel) (by simp only [List.forall_mem_cons]; exact ⟨e230_0, fun _ h => by cases h⟩)
set_option maxRecDepth 100000 in
theorem e231_0 : ((v231_.2.1.drop 0).take 60).all (fun z => decide (decode d231_.2.1 z.1 = .ok (z.2.1, z.2.2))) = true := by decide +kernel
set_option maxRecDepth 100000 in
theorem e231_ : ∀ z ∈ v231_.2.1, decode d231_.2.1 z.1 = .ok (z.2.1, z.2.2) := tDrop [0] (by decide +kernel) (by simp only [List.forall_mem_cons]; exact ⟨e231_0, fun _ h => by cases h⟩)
set_option maxRecDepth 100000 in
theorem e232_0 : ((v232_.2.1.drop 0).take 60).all (fun z => decide (decode d232_.2.1 z.1 = .ok (z.2.1, z.2.2))) = true := by decide +kernel
set_option maxRecDepth 100000 in
theorem e232_ : ∀ z ∈ v232_.2.1, decode d232_.2.1 z.1 = .ok (z.2.1, z.2.2) := tDrop [0] (by decide +kernel) (by simp only [List.forall_mem_cons]; exact ⟨e232_0, fun _ h => by cases h⟩)
set_option maxRecDepth 100000 in
theorem e233_0 : ((v233_.2.1.drop 0).take 60).all (fun z => decide (decode d233_.2.1 z.1 = .ok (z.2.1, z.2.2))) = true := by decide +kernel
set_option maxRecDepth 100000 in
theorem e233_ : ∀ z ∈ v233_.2.1, decode d233_.2.1 z.1 = .ok (z.2.1, z.2.2) := tDrop [0] (by decide +kernel) (by simp only [List.forall_mem_cons]; exact ⟨e233_0, fun _ h => by cases h⟩)
set_option maxRecDepth 100000 in
theorem e234_0 : ((v234_.2.1.drop 0).take 60).all (fun z => decide (decode d234_.2.1 z.1 = .ok (z.2.1, z.2.2))) = true := by decide +kernel
set_option maxRecDepth 100000 in
theorem e234_ : ∀ z ∈ v234_.2.1, decode d234_.2.1 z.1 = .ok (z.2.1, z.2.2) := tDrop [0] (by decide +kernel) (by simp only [List.forall_mem_cons]; exact ⟨e234_0, fun _ h => by cases h⟩)
set_option maxRecDepth 100000 in
theorem e235_0 : ((v235_.2.1.drop 0).take 60).all (fun z => decide (decode d235_.2.1 z.1 = .ok (z.2.1, z.2.2))) = true := by decide +kernel
set_option maxRecDepth 100000 in
theorem e235_ : ∀ z ∈ v235_.2.1, decode d235_.2.1 z.1 = .ok (z.2.1, z.2.2) := tDrop [0] (by decide +kernel) (by simp only [List.forall_mem_cons]; exact ⟨e235_0, fun _ h => by cases h⟩)
set_option maxRecDepth 100000 in
theorem e236_0 : ((v236_.2.1.drop 0).take 60).all (fun z => decide (decode d236_.2.1 z.1 = .ok (z.2.1, z.2.2))) = true := by decide +kernel
set_option maxRecDepth 100000 in
theorem e236_ : ∀ z ∈ v236_.2.1, decode d236_.2.1 z.1 = .ok (z.2.1, z.2.2) := tDrop [0] (by decide +kernel) (by simp only [List.forall_mem_cons]; exact ⟨e236_0, fun _ h => by cases h⟩)
set_option maxRecDepth 100000 in
theorem e237_0 : ((v237_.2.1.drop 0).take 60).all (fun z => decide (decode d237_.2.1 z.1 = .ok (z.2.1, z.2.2))) = true := by decide +kernel
set_option maxRecDepth 100000 in
theorem e237_ : ∀ z ∈ v237_.2.1, decode d237_.2.1 z.1 = .ok (z.2.1, z.2.2) := tDrop [0] (by decide +kernel) (by simp only [List.forall_mem_cons]; exact ⟨e237_0, fun _ h => by cases h⟩)
set_option maxRecDepth 100000 in
theorem e238_0 : ((v238_.2.1.drop 0).take 60).all (fun z => decide (decode d238_.2.1 z.1 = .ok (z.2.1, z.2.2))) = true := by decide +kernel
set_option maxRecDepth 100000 in
theorem e238_60 : ((v238_.2.1.drop 60).take 60).all (fun z => decide (decode d238_.2.1 z.1 = .ok (z.2.1, z.2.2))) = true := by decide +kernel
set_option maxRecDepth 100000 in
theorem e238_120 : ((v238_.2.1.drop 120).take 60).all (fun z => decide (decode d238_.2.1 z.1 = .ok (z.2.1, z.2.2))) = true := by decide +kernel
set_option maxRecDepth 100000 in
theorem e238_180 : ((v238_.2.1.drop 180).take 60).all (fun z => decide (decode d238_.2.1 z.1 = .ok (z.2.1, z.2.2))) = true := by decide +kernel
set_option maxRecDepth 100000 in
theorem e238_ : ∀ z ∈ v238_.2.1, decode d238_.2.1 z.1 = .ok (z.2.1, z.2.2) := tDrop [0, 60, 120, 180] (by decide +kernel) (by simp only [List.forall_mem_cons]; exact ⟨e238_0, e238_60, e238_120, e238_180, fun _ h => by cases h⟩)
