/-! ===== the law's tables, the fields_q words, the start ===== -/
noncomputable def dL : aMd := (x, code, maxLocals, ret, [])
noncomputable def tRqL : List Cond := rqM vwCl tMth tXn dL.1.cls vL_
noncomputable def tUw : List Cond := vwCl.flatMap (fun r => u_ws r.1 r.2.1 r.2.2)
noncomputable def tIw : List Cond := vwCl.map (fun r => Cond.instantiable r.1 r.2.2)
noncomputable def tSw : List Cond := [Cond.laysStatic Bundle.tN "UNASSIGNED_STACK" Bundle.steD, Cond.laysStatic Bundle.tN "SUPPRESSED_SENTINEL" Bundle.listD, Cond.initialized Bundle.tN, .arrayOver (.object "RoundReckoner$Goal"), .arrayOver (.object "RoundReckoner$Rule"), .arrayClass .int, .arrayClass .long, .arrayClass .byte, .arrayClass .boolean]
noncomputable def tRw : List Cond := tIw ++ (tSw ++ tNw)
theorem tDropW {β : Type} {L : List β} {q : β → Prop} (js : List Nat) (hj : (List.range L.length).all (fun i => js.any (fun j => Nat.ble j i && Nat.blt i (j + 30))) = true) (h : ∀ j ∈ js, ∀ z ∈ (L.drop j).take 30, q z) : ∀ z ∈ L, q z := by
  intro z hz
  obtain ⟨i, hi⟩ := List.mem_iff_getElem?.mp hz
  have hlt : i < L.length := (List.getElem?_eq_some_iff.mp hi).1
  obtain ⟨j, hj1, hj2⟩ := List.any_eq_true.mp (List.all_eq_true.mp hj i (List.mem_range.mpr hlt))
  simp only [Bool.and_eq_true] at hj2
  have a1 := Nat.le_of_ble_eq_true hj2.1
  have a2 := (Nat.blt_eq).mp hj2.2
  refine h j hj1 z (List.mem_of_getElem? (i := i - j) ?_)
  rw [List.getElem?_take_of_lt (by omega), List.getElem?_drop, show j + (i - j) = i by omega]
  exact hi
set_option maxRecDepth 100000 in
theorem wL0_ : inAt ((tRqL.drop 0).take 30) [(1, 25), (1, 26), (1, 1), (6, 44), (6, 45), (1, 15), (1, 29), (1, 1), (1, 27), (1, 28), (6, 48), (1, 15), (6, 46), (6, 47), (4, 40), (1, 0), (4, 38), (4, 39), (7, 104), (1, 15), (7, 101), (7, 102), (7, 103), (4, 117), (1, 0), (4, 115), (4, 116), (7, 116), (1, 15), (7, 113)] = true := by decide +kernel
set_option maxRecDepth 100000 in
theorem wL30_ : inAt ((tRqL.drop 30).take 30) [(7, 114), (7, 115), (3, 38), (1, 1), (3, 35), (3, 36), (3, 37), (7, 120), (1, 15), (7, 117), (7, 118), (7, 119), (4, 27), (1, 1), (4, 24), (4, 25), (4, 26), (8, 35), (1, 15), (8, 32), (8, 33), (8, 34), (4, 140), (1, 0), (4, 138), (4, 139), (8, 39), (1, 15), (8, 36), (8, 37)] = true := by decide +kernel
set_option maxRecDepth 100000 in
theorem wL60_ : inAt ((tRqL.drop 60).take 30) [(8, 38), (4, 152), (1, 0), (4, 150), (4, 151), (8, 47), (1, 15), (8, 44), (8, 45), (8, 46), (5, 156), (1, 0), (5, 154), (5, 155), (8, 134), (1, 15), (8, 131), (8, 132), (8, 133), (5, 193), (1, 0), (5, 191), (5, 192), (8, 147), (1, 15), (8, 144), (8, 145), (8, 146), (5, 200), (1, 0)] = true := by decide +kernel
set_option maxRecDepth 100000 in
theorem wL90_ : inAt ((tRqL.drop 90).take 30) [(5, 198), (5, 199), (8, 151), (1, 15), (8, 148), (8, 149), (8, 150), (5, 233), (1, 0), (5, 231), (5, 232), (8, 164), (1, 15), (8, 161), (8, 162), (8, 163), (6, 2), (1, 0), (6, 0), (6, 1), (8, 168), (1, 15), (8, 165), (8, 166), (8, 167), (6, 13), (1, 0), (6, 11), (6, 12), (8, 172)] = true := by decide +kernel
set_option maxRecDepth 100000 in
theorem wL120_ : inAt ((tRqL.drop 120).take 30) [(1, 15), (8, 169), (8, 170), (8, 171), (6, 21), (1, 0), (6, 19), (6, 20), (8, 176), (1, 15), (8, 173), (8, 174), (8, 175), (6, 28), (1, 0), (6, 26), (6, 27), (8, 180), (1, 15), (8, 177), (8, 178), (8, 179), (6, 43), (1, 15), (6, 40), (6, 41), (6, 42), (6, 35), (1, 0), (6, 33)] = true := by decide +kernel
set_option maxRecDepth 100000 in
theorem wL150_ : inAt ((tRqL.drop 150).take 30) [(6, 34), (8, 185), (1, 15), (8, 182), (8, 183), (8, 184)] = true := by decide +kernel
set_option maxRecDepth 100000 in
theorem tRqL_ok : ∀ w ∈ tRqL, w ∈ tW0 := tDropW [0, 30, 60, 90, 120, 150] (by decide +kernel) (by simp only [List.forall_mem_cons]; exact ⟨inAt_ok wL0_, inAt_ok wL30_, inAt_ok wL60_, inAt_ok wL90_, inAt_ok wL120_, inAt_ok wL150_, fun _ h => by cases h⟩)
set_option maxRecDepth 100000 in
theorem tUw_ok : inAt tUw [(2, 174), (2, 176), (2, 178), (2, 70), (2, 72), (2, 74), (2, 76), (1, 179), (1, 181), (1, 183), (1, 185), (1, 187), (1, 189), (1, 191), (1, 193), (1, 195), (1, 197), (1, 199), (1, 201), (1, 203), (1, 205), (2, 198), (2, 200), (2, 202), (2, 204), (2, 206), (2, 208), (2, 210), (2, 212), (2, 214), (2, 216), (2, 218), (2, 220), (2, 222), (2, 224), (1, 96), (1, 98), (1, 100), (1, 102), (1, 104), (1, 106), (1, 108), (1, 110), (1, 112), (1, 114), (1, 116), (1, 118), (1, 120), (1, 122), (1, 124), (1, 126), (1, 223), (1, 225), (2, 237), (2, 239), (2, 9), (2, 11), (2, 13), (2, 15), (2, 17), (2, 19), (2, 21), (2, 23), (2, 25), (2, 27), (2, 29), (2, 31), (2, 33), (2, 35), (2, 37), (2, 39), (2, 41), (2, 150), (2, 152), (2, 154), (2, 156), (2, 158), (1, 143), (1, 145), (1, 147), (1, 149), (2, 104), (2, 106), (2, 108), (2, 110), (2, 112), (2, 114), (2, 116), (2, 118), (2, 120), (2, 122), (2, 124), (3, 14), (3, 16), (3, 18), (3, 20), (3, 22), (3, 24), (3, 26), (3, 28), (3, 30), (3, 32), (6, 148), (6, 150), (6, 152), (6, 154), (6, 156), (6, 158), (6, 160), (6, 162), (6, 164), (6, 166), (6, 168), (6, 170), (6, 172), (6, 174), (6, 176), (6, 178), (6, 180), (6, 182), (6, 184), (6, 186), (6, 188), (6, 190), (6, 192), (6, 194), (6, 196), (6, 198), (6, 200), (6, 202), (6, 204), (6, 206), (6, 208), (6, 210), (6, 212), (6, 214), (6, 216), (6, 218), (6, 220), (6, 222), (6, 224), (6, 226), (6, 228), (6, 230), (6, 232), (6, 234), (6, 236), (6, 238), (7, 0), (7, 2), (7, 4), (7, 6), (7, 8), (7, 10), (7, 12), (7, 14), (7, 16), (7, 18), (7, 20), (7, 22), (7, 24), (7, 26), (7, 28), (7, 30), (7, 32), (7, 34), (7, 36), (7, 38), (7, 40), (7, 42), (7, 44), (7, 46), (7, 48), (7, 50), (7, 52), (7, 54), (7, 56), (7, 58), (7, 60), (7, 62), (7, 64), (7, 66), (7, 68), (7, 70), (7, 72), (7, 74), (7, 76), (7, 78), (7, 80), (7, 82), (7, 84), (7, 86), (7, 88), (7, 90), (7, 92), (7, 94), (7, 96), (7, 98)] = true := by decide +kernel
set_option maxRecDepth 100000 in
theorem tRw_ok : inRaw tRw [(2, 163), (2, 52), (1, 34), (2, 128), (1, 47), (1, 215), (2, 228), (1, 209), (2, 134), (1, 41), (2, 46), (1, 26), (6, 45), (4, 73), (4, 75), (1, 16), (1, 131), (1, 40), (1, 130), (1, 129), (2, 44), (2, 161), (1, 48), (1, 216), (2, 47), (2, 135), (2, 164), (2, 229), (3, 3), (4, 48), (4, 49), (4, 50), (4, 51), (4, 52), (4, 53), (4, 54), (4, 125), (4, 172), (5, 64), (5, 110), (5, 143), (5, 172)] = true := by decide +kernel
set_option maxRecDepth 100000 in
theorem tOkL : okM vwCl tTA tAo tNw tNc tMth uMx tXn dL vL_ = true := by decide +kernel
set_option maxRecDepth 100000 in
theorem tDecL : ∀ z ∈ vL_.2.1, decode dL.2.1 z.1 = .ok (z.2.1, z.2.2) := dx_all (by decide +kernel)
set_option maxRecDepth 100000 in
theorem lSg : aSg vwCl tTA tTy [] tNw tNc tAo tW0 tMth uMx tXn dL vL_ :=
  (aSg_of (kd := []) tW0_all tTA_ok tKt_nil tRqL_ok tOkL tDecL).1
noncomputable def tNmB (r : vw_C) : Bool := (List.range r.2.2).all (fun a => (List.range r.2.2).all (fun b => Nat.beq a b || decide ((r.2.1 a).2.1 ≠ (r.2.1 b).2.1)))
set_option maxRecDepth 100000 in
theorem tNmB_ok : vwCl.all tNmB = true := by decide +kernel
noncomputable def tPf (ci : Nat) : Bool := match vwCl[ci]? with
  | some r => (List.range r.2.2).all (fun k => decide (parseFieldDescriptor (r.2.1 k).2.2.1 = some (tTy ci k)))
  | none => true
set_option maxRecDepth 100000 in
theorem tPf_ok : (List.range vwCl.length).all tPf = true := by decide +kernel
set_option maxRecDepth 100000 in
theorem tTab : xTab vwCl tTA tTy tW0 := by
  refine ⟨fun ci r hr => ?_, fun t ty h => ?_⟩
  · have hlt : ci < vwCl.length := (List.getElem?_eq_some_iff.mp hr).1
    have hm : r ∈ vwCl := List.mem_of_getElem? hr
    refine ⟨Nat.lt_of_lt_of_le hlt (by decide), fun w hw => inAt_ok tUw_ok w (List.mem_flatMap.mpr ⟨r, hm, hw⟩), fun k hk => ?_, fun a ha b hb hne => ?_⟩
    · have h1 := List.all_eq_true.mp tPf_ok ci (List.mem_range.mpr hlt)
      unfold tPf at h1
      rw [hr] at h1
      exact of_decide_eq_true (List.all_eq_true.mp h1 k (List.mem_range.mpr hk))
    · have h1 := List.all_eq_true.mp (List.all_eq_true.mp (List.all_eq_true.mp tNmB_ok r hm) a (List.mem_range.mpr ha)) b (List.mem_range.mpr hb)
      simp only [Bool.or_eq_true, decide_eq_true_eq] at h1
      rcases h1 with h1 | h1
      · exact absurd (Nat.eq_of_beq_eq_true h1) hne
      · exact h1
  · have h1 : tTA.all (fun z => Nat.ble 1000 z.1) = true := by decide +kernel
    exact Nat.le_of_ble_eq_true (List.all_eq_true.mp h1 _ h)
set_option maxRecDepth 100000 in
theorem tNw_x : tNw.all xNw = true := by decide +kernel
set_option maxRecDepth 100000 in
theorem tNc_in : tNc.all (fun q => decide (Cond.not (.castable q.1 q.2) ∈ flatC (Jvm.Cond.and given_1 narrow_1))) = true := by decide +kernel
set_option maxRecDepth 100000 in
theorem tEnv {args : Array Value} {s : State} (hts : ∀ w ∈ lw_tbl, w.before args s = true) (hgv : (Jvm.Cond.and given_1 narrow_1).before args s = true) : ∃ (D : va_G) (dA : Nat → ClassId), xEnv D dA vwCl tTA s.heap.size tNw tNc tAo s := by
  have hfl := flat_of_before _ hgv
  have hrw : ∀ w ∈ tRw, w.before args s = true := fun w hw => hts w (inRaw_ok tRw_ok w hw)
  have hsw : ∀ w ∈ tSw, w.before args s = true := fun w hw => hrw w (List.mem_append.mpr (Or.inr (List.mem_append.mpr (Or.inl hw))))
  have huw : ∀ w ∈ tUw, w ∈ lw_tbl := fun w hw => (List.mem_filter.mp (inAt_ok tUw_ok w hw)).1
  have c1 : ∀ ci : Nat, ∃ q : ClassId × (Nat → Nat), ∀ r, vwCl[ci]? = some r → u_Kn s r.1 r.2.1 r.2.2 q.1 q.2 := by
    intro ci
    cases h : vwCl[ci]? with
    | none => exact ⟨(0, fun _ => 0), fun r hr => by cases hr⟩
    | some r =>
      have hm : r ∈ vwCl := List.mem_of_getElem? h
      obtain ⟨cC, iS, hk⟩ := u_known (C := r.1) (T := r.2.1) (N := r.2.2) (n := r.2.2) hts (fun w hw => huw w (List.mem_flatMap.mpr ⟨r, hm, hw⟩)) (hrw _ (List.mem_append.mpr (Or.inl (List.mem_map.mpr ⟨r, hm, rfl⟩))))
      exact ⟨(cC, iS), fun r_q hr_q => by cases hr_q; exact hk⟩
  have pr : ∀ ty : FieldType, (Cond.arrayClass ty).before args s = true → ∃ cA : ClassId, ArrOfT s cA ty ∧ s.vm.findClass ("[" ++ ty.toString) = some cA := by
    intro ty h
    obtain ⟨cA, kA, comp, h1, h2, h3⟩ := Cond.arrayClass_spec h
    exact ⟨cA, fun n z => ⟨fun k h => (by cases h), kA, h2, comp, h3⟩, h1⟩
  have po : ∀ C : String, (Cond.arrayOver (.object C)).before args s = true → ∃ cA : ClassId, ArrOfT s cA (.object C) ∧ va_RA s cA (.object C) := by
    intro C h
    obtain ⟨comp, cA, kA, h1, -, h2, h3, h4⟩ := Cond.arrayOver_spec h
    exact ⟨cA, fun n z => ⟨fun k h => (by cases h), kA, h2, comp, h3⟩, kA, comp, h2, h3, h1, h4⟩
  have c2 : ∀ t : Nat, ∃ cA : ClassId, ∀ ty, (t, ty) ∈ tTA → ArrOfT s cA ty ∧ va_RA s cA ty := by
    obtain ⟨a0, p0, q0⟩ := pr .int (hsw _ (by simp [tSw]))
    obtain ⟨a1, p1, q1⟩ := pr .long (hsw _ (by simp [tSw]))
    obtain ⟨a2, p2, q2⟩ := pr .byte (hsw _ (by simp [tSw]))
    obtain ⟨a3, p3, q3⟩ := pr .boolean (hsw _ (by simp [tSw]))
    obtain ⟨a4, p4, q4⟩ := po "RoundReckoner$Goal" (hsw _ (by simp [tSw]))
    obtain ⟨a5, p5, q5⟩ := po "RoundReckoner$Rule" (hsw _ (by simp [tSw]))
    intro t
    refine ⟨if t = 1000 then a0 else if t = 1001 then a1 else if t = 1002 then a2 else if t = 1003 then a3 else if t = 2004 then a4 else a5, fun ty h => ?_⟩
    simp only [tTA, List.mem_cons, Prod.mk.injEq, List.not_mem_nil, or_false] at h
    rcases h with ⟨rfl, rfl⟩ | ⟨rfl, rfl⟩ | ⟨rfl, rfl⟩ | ⟨rfl, rfl⟩ | ⟨rfl, rfl⟩ | ⟨rfl, rfl⟩
    · exact ⟨p0, q0⟩
    · exact ⟨p1, q1⟩
    · exact ⟨p2, q2⟩
    · exact ⟨p3, q3⟩
    · exact ⟨p4, q4⟩
    · exact ⟨p5, q5⟩
  refine ⟨(fun ci => (Classical.choose (c1 ci)).1, fun ci => (Classical.choose (c1 ci)).2), fun t => Classical.choose (c2 t), ⟨fun ci r hr => Classical.choose_spec (c1 ci) r hr, fun t ty h => Classical.choose_spec (c2 t) ty h⟩, Nat.le_refl _, fun w hw => ?_, fun q hq => ?_, fun E hE => ?_, ?_, ?_⟩
  · have h1 := List.all_eq_true.mp tNw_x w hw
    exact ⟨h1, va_Nw.of (xNw_tab h1) (hrw w (List.mem_append.mpr (Or.inr (List.mem_append.mpr (Or.inr hw)))))⟩
  · exact va_Nc.of (hfl _ (of_decide_eq_true (List.all_eq_true.mp tNc_in q hq)))
  · simp only [tAo, List.mem_cons, List.not_mem_nil, or_false] at hE
    rcases hE with rfl | rfl
    · exact va_AO.of (hsw _ (by simp [tSw]))
    · exact va_AO.of (hsw _ (by simp [tSw]))
  · exact vx_Zqof (hsw _ (by simp [tSw])) (hsw _ (by simp [tSw])) (hfl _ (by decide +kernel)) (fun a ha h9 => by omega)
  · exact vx_Zqof (hsw _ (by simp [tSw])) (hsw _ (by simp [tSw])) (hfl _ (by decide +kernel)) (fun a ha h9 => by omega)
