/-! ===== the law's tables, the fields' words, the start ===== -/
def dL : aMd := (x, code, maxLocals, ret, [])
def tRqL : List Cond := rqM vwCl tMth tXn dL.1.cls bL_
def tUw : List Cond := vwCl.flatMap (fun r => u_ws r.1 r.2.1 r.2.2)
def tIw : List Cond := vwCl.map (fun r => Cond.instantiable r.1 r.2.2)
def tSw : List Cond := [Cond.laysStatic Bundle.tN "UNASSIGNED_STACK" Bundle.steD, Cond.laysStatic Bundle.tN "SUPPRESSED_SENTINEL" Bundle.listD, Cond.initialized Bundle.tN, .arrayOver (.object "RoundReckoner$Goal"), .arrayOver (.object "RoundReckoner$Rule"), .arrayClass .int, .arrayClass .long, .arrayClass .byte, .arrayClass .boolean]
def tRw : List Cond := tIw ++ (tSw ++ tNw)
def inRaw (big : List Cond) : List Cond → List Nat → Bool
  | [], _ => true
  | w :: ws, i :: is => decide (big[i]? = some w) && inRaw big ws is
  | _ :: _, [] => false
theorem inRaw_ok {big : List Cond} : ∀ {ws : List Cond} {is : List Nat}, inRaw big ws is = true → ∀ w ∈ ws, w ∈ big
  | [], _, _, w, hw => by cases hw
  | _ :: _, [], h, _, _ => by cases h
  | v :: ws, i :: is, h, w, hw => by
    simp only [inRaw, Bool.and_eq_true, decide_eq_true_eq] at h
    rcases List.mem_cons.mp hw with rfl | hw
    · exact List.mem_of_getElem? h.1
    · exact inRaw_ok h.2 w hw
set_option maxRecDepth 100000
theorem tRqL_ok : inAt lw_tbl tRqL [135, 136, 111, 1354, 1355, 125, 139, 111, 137, 138, 1358, 125, 1356, 1357, 870, 110, 868, 869, 1654, 125, 1651, 1652, 1653, 1353, 125, 1350, 1351, 1352, 947, 110, 945, 946, 1666, 125, 1663, 1664, 1665, 628, 111, 625, 626, 627, 1670, 125, 1667, 1668, 1669, 857, 111, 854, 855, 856, 1825, 125, 1822, 1823, 1824, 970, 110, 968, 969, 1829, 125, 1826, 1827, 1828, 982, 110, 980, 981, 1837, 125, 1834, 1835, 1836, 1226, 110, 1224, 1225, 1924, 125, 1921, 1922, 1923, 1263, 110, 1261, 1262, 1937, 125, 1934, 1935, 1936, 1270, 110, 1268, 1269, 1941, 125, 1938, 1939, 1940, 1303, 110, 1301, 1302, 1954, 125, 1951, 1952, 1953, 1312, 110, 1310, 1311, 1958, 125, 1955, 1956, 1957, 1323, 110, 1321, 1322, 1962, 125, 1959, 1960, 1961, 1331, 110, 1329, 1330, 1966, 125, 1963, 1964, 1965, 1338, 110, 1336, 1337, 1970, 125, 1967, 1968, 1969, 1345, 110, 1343, 1344, 1975, 125, 1972, 1973, 1974] = true := by decide +kernel
theorem tUw_ok : inAt lw_tbl tUw [524, 526, 528, 420, 422, 424, 426, 289, 291, 293, 295, 297, 299, 301, 303, 305, 307, 309, 311, 313, 315, 548, 550, 552, 554, 556, 558, 560, 562, 564, 566, 568, 570, 572, 574, 206, 208, 210, 212, 214, 216, 218, 220, 222, 224, 226, 228, 230, 232, 234, 236, 333, 335, 587, 589, 359, 361, 363, 365, 367, 369, 371, 373, 375, 377, 379, 381, 383, 385, 387, 389, 391, 500, 502, 504, 506, 508, 253, 255, 257, 259, 454, 456, 458, 460, 462, 464, 466, 468, 470, 472, 474, 604, 606, 608, 610, 612, 614, 616, 618, 620, 622, 1458, 1460, 1462, 1464, 1466, 1468, 1470, 1472, 1474, 1476, 1478, 1480, 1482, 1484, 1486, 1488, 1490, 1492, 1494, 1496, 1498, 1500, 1502, 1504, 1506, 1508, 1510, 1512, 1514, 1516, 1518, 1520, 1522, 1524, 1526, 1528, 1530, 1532, 1534, 1536, 1538, 1540, 1542, 1544, 1546, 1548, 1550, 1552, 1554, 1556, 1558, 1560, 1562, 1564, 1566, 1568, 1570, 1572, 1574, 1576, 1578, 1580, 1582, 1584, 1586, 1588, 1590, 1592, 1594, 1596, 1598, 1600, 1602, 1604, 1606, 1608, 1610, 1612, 1614, 1616, 1618, 1620, 1622, 1624, 1626, 1628, 1630, 1632, 1634, 1636, 1638, 1640, 1642, 1644, 1646, 1648] = true := by decide +kernel
theorem tRw_ok : inRaw lw_tbl tRw [513, 402, 144, 478, 157, 325, 578, 319, 484, 151, 396, 136, 1355, 903, 905, 126, 241, 150, 240, 239, 394, 511, 158, 326, 397, 485, 514, 579, 593, 878, 879, 880, 881, 882, 883, 884, 955, 1002, 1134, 1180, 1213, 1242] = true := by decide +kernel
theorem tOkL : okM vwCl tTA tAo tNw tNc tMth tMx tXn dL bL_ = true := by decide +kernel
theorem tDecL : bL_.2.1.all (fun z => decide (decode code z.1 = .ok (z.2.1, z.2.2))) = true := by decide +kernel
theorem lSg : aSg vwCl tTA tTy tKd tNw tNc tAo tW0 tMth tMx tXn dL bL_ :=
  (aSg_of (kd := tKd) tW0_all tTA_ok tKt_ok (inAt_ok tRqL_ok) tOkL (fun q hq => of_decide_eq_true (List.all_eq_true.mp tDecL q hq))).1
def tNmB (r : vw_C) : Bool := (List.range r.2.2).all (fun a => (List.range r.2.2).all (fun b => Nat.beq a b || decide ((r.2.1 a).2.1 ≠ (r.2.1 b).2.1)))
theorem tNmB_ok : vwCl.all tNmB = true := by decide +kernel
def tPf (ci : Nat) : Bool := match vwCl[ci]? with
  | some r => (List.range r.2.2).all (fun k => decide (parseFieldDescriptor (r.2.1 k).2.2.1 = some (tTy ci k)))
  | none => true
theorem tPf_ok : (List.range vwCl.length).all tPf = true := by decide +kernel
theorem tTab : xTab vwCl tTA tTy tW0 := by
  refine ⟨fun ci r hr => ?_, fun t ty h => ?_⟩
  · have hlt : ci < vwCl.length := (List.getElem?_eq_some_iff.mp hr).1
    have hm : r ∈ vwCl := List.mem_of_getElem? hr
    refine ⟨Nat.lt_of_lt_of_le hlt (by decide), fun w hw => inAt_ok tUw_ok w (List.mem_flatMap.mpr ⟨r, hm, hw⟩), fun k hk => ?_, fun a ha b hb hne => ?_⟩
    · have h1 := List.all_eq_true.mp tPf_ok ci (List.mem_range.mpr hlt)
      unfold tPf at h1
      rw [hr] at h1
      exact of_decide_eq_true (List.all_eq_true.mp h1 k (List.mem_range.mpr hk))
    · have h1 := List.all_eq_true.mp (List.all_eq_true.mp (List.all_eq_true.mp tNmB_ok r hm) a (List.mem_range.mpr ha)) b (List.mem_range.mpr hb)
      simp only [Bool.or_eq_true, decide_eq_true_eq] at h1
      rcases h1 with h1 | h1
      · exact absurd (Nat.eq_of_beq_eq_true h1) hne
      · exact h1
  · have h1 : tTA.all (fun z => Nat.ble 1000 z.1) = true := by decide +kernel
    exact Nat.le_of_ble_eq_true (List.all_eq_true.mp h1 _ h)
theorem tNw_x : tNw.all xNw = true := by decide +kernel
theorem tNc_in : tNc.all (fun q => decide (Cond.not (.castable q.1 q.2) ∈ flatC (Jvm.Cond.and given_1 narrow_1))) = true := by decide +kernel
theorem tEnv {args : Array Value} {s : State} (hts : ∀ w ∈ lw_tbl, w.before args s = true) (hgv : (Jvm.Cond.and given_1 narrow_1).before args s = true) : ∃ (D : va_G) (dA : Nat → ClassId), xEnv D dA vwCl tTA s.heap.size tNw tNc tAo s := by
  have hfl := flat_of_before _ hgv
  have hrw : ∀ w ∈ tRw, w.before args s = true := fun w hw => hts w (inRaw_ok tRw_ok w hw)
  have hsw : ∀ w ∈ tSw, w.before args s = true := fun w hw => hrw w (List.mem_append.mpr (Or.inr (List.mem_append.mpr (Or.inl hw))))
  have huw : ∀ w ∈ tUw, w ∈ lw_tbl := fun w hw => (List.mem_filter.mp (inAt_ok tUw_ok w hw)).1
  have c1 : ∀ ci : Nat, ∃ q : ClassId × (Nat → Nat), ∀ r, vwCl[ci]? = some r → u_Kn s r.1 r.2.1 r.2.2 q.1 q.2 := by
    intro ci
    cases h : vwCl[ci]? with
    | none => exact ⟨(0, fun _ => 0), fun r hr => by cases hr⟩
    | some r =>
      have hm : r ∈ vwCl := List.mem_of_getElem? h
      obtain ⟨cC, iS, hk⟩ := u_known (C := r.1) (T := r.2.1) (N := r.2.2) (n := r.2.2) hts (fun w hw => huw w (List.mem_flatMap.mpr ⟨r, hm, hw⟩)) (hrw _ (List.mem_append.mpr (Or.inl (List.mem_map.mpr ⟨r, hm, rfl⟩))))
      exact ⟨(cC, iS), fun r' hr' => by cases hr'; exact hk⟩
  have pr : ∀ ty : FieldType, (Cond.arrayClass ty).before args s = true → ∃ cA : ClassId, ArrOfT s cA ty ∧ s.vm.findClass ("[" ++ ty.toString) = some cA := by
    intro ty h
    obtain ⟨cA, kA, comp, h1, h2, h3⟩ := Cond.arrayClass_spec h
    exact ⟨cA, fun n z => ⟨fun k h => (by cases h), kA, h2, comp, h3⟩, h1⟩
  have po : ∀ C : String, (Cond.arrayOver (.object C)).before args s = true → ∃ cA : ClassId, ArrOfT s cA (.object C) ∧ va_RA s cA (.object C) := by
    intro C h
    obtain ⟨comp, cA, kA, h1, -, h2, h3, h4⟩ := Cond.arrayOver_spec h
    exact ⟨cA, fun n z => ⟨fun k h => (by cases h), kA, h2, comp, h3⟩, kA, comp, h2, h3, h1, h4⟩
  have c2 : ∀ t : Nat, ∃ cA : ClassId, ∀ ty, (t, ty) ∈ tTA → ArrOfT s cA ty ∧ va_RA s cA ty := by
    obtain ⟨a0, p0, q0⟩ := pr .int (hsw _ (by simp [tSw]))
    obtain ⟨a1, p1, q1⟩ := pr .long (hsw _ (by simp [tSw]))
    obtain ⟨a2, p2, q2⟩ := pr .byte (hsw _ (by simp [tSw]))
    obtain ⟨a3, p3, q3⟩ := pr .boolean (hsw _ (by simp [tSw]))
    obtain ⟨a4, p4, q4⟩ := po "RoundReckoner$Goal" (hsw _ (by simp [tSw]))
    obtain ⟨a5, p5, q5⟩ := po "RoundReckoner$Rule" (hsw _ (by simp [tSw]))
    intro t
    refine ⟨if t = 1000 then a0 else if t = 1001 then a1 else if t = 1002 then a2 else if t = 1003 then a3 else if t = 2004 then a4 else a5, fun ty h => ?_⟩
    simp only [tTA, List.mem_cons, Prod.mk.injEq, List.not_mem_nil, or_false] at h
    rcases h with ⟨rfl, rfl⟩ | ⟨rfl, rfl⟩ | ⟨rfl, rfl⟩ | ⟨rfl, rfl⟩ | ⟨rfl, rfl⟩ | ⟨rfl, rfl⟩
    · exact ⟨p0, q0⟩
    · exact ⟨p1, q1⟩
    · exact ⟨p2, q2⟩
    · exact ⟨p3, q3⟩
    · exact ⟨p4, q4⟩
    · exact ⟨p5, q5⟩
  refine ⟨(fun ci => (Classical.choose (c1 ci)).1, fun ci => (Classical.choose (c1 ci)).2), fun t => Classical.choose (c2 t), ⟨fun ci r hr => Classical.choose_spec (c1 ci) r hr, fun t ty h => Classical.choose_spec (c2 t) ty h⟩, Nat.le_refl _, fun w hw => ?_, fun q hq => ?_, fun E hE => ?_, ?_, ?_⟩
  · have h1 := List.all_eq_true.mp tNw_x w hw
    exact ⟨h1, va_Nw.of (xNw_tab h1) (hrw w (List.mem_append.mpr (Or.inr (List.mem_append.mpr (Or.inr hw)))))⟩
  · exact va_Nc.of (hfl _ (of_decide_eq_true (List.all_eq_true.mp tNc_in q hq)))
  · simp only [tAo, List.mem_cons, List.not_mem_nil, or_false] at hE
    rcases hE with rfl | rfl
    · exact va_AO.of (hsw _ (by simp [tSw]))
    · exact va_AO.of (hsw _ (by simp [tSw]))
  · exact vx_Zqof (hsw _ (by simp [tSw])) (hsw _ (by simp [tSw])) (hfl _ (by decide +kernel)) (fun a ha h9 => by omega)
  · exact vx_Zqof (hsw _ (by simp [tSw])) (hsw _ (by simp [tSw])) (hfl _ (by decide +kernel)) (fun a ha h9 => by omega)
