/-! ===== the heap at the loop's beginning ===== -/
noncomputable def uA (as : Nat → Nat) : rA := fun G k => as (uIx G k.toNat)
noncomputable def cV (h : xH) (a : Nat) : Nat → Value := match h a with
  | some c => c.2.2
  | none => fun _ => .null
noncomputable def gW (G : Nat) : rGr := uW.getD G (0, 0, 0, [])
theorem gW_eq {G : Nat} {q : rGr} (h : uW[G]? = some q) : gW G = q := by
  unfold gW
  rw [List.getD_eq_getElem?_getD, h]
  rfl
noncomputable def sG (as : Nat → Nat) (h : xH) (xs : Nat → Int32) : rHp := fun G k j => if G = 113 then (if 0 ≤ j then (xs j.toNat).toInt else 0) else
  if uFst G = true ∧ k = 0 ∧ 0 ≤ j ∧ j.toNat < (gW G).2.1 then rNum (cV h (as (uIx G 0)) j.toNat) else uZn G j.toNat (rTy (gW G) j.toNat)
theorem mk_cell : ∀ {cs : List (Nat × kC)} {n : Nat}, ckAll cs n = true → ∀ i, 1 ≤ i → i ≤ n → ∃ c, kGet cs i = some c ∧ ckC i c = true
  | [], n, h, i, h1, h2 => by
    have := Nat.eq_of_beq_eq_true (show Nat.beq n 0 = true from h)
    omega
  | q :: r, n, h, i, h1, h2 => by
    have h : rCo (Nat.beq q.1 n) (rCo (ckC n q.2) (ckAll r (Nat.pred n)) false) false = true := h
    obtain ⟨e1, h⟩ := rcn.mp h
    obtain ⟨e2, h⟩ := rcn.mp h
    have e1 := Nat.eq_of_beq_eq_true e1
    have hk : kGet (q :: r) i = if q.1 = i then some q.2 else kGet r i := kGet_cons (k := q.1) (c := q.2)
    by_cases e : i = n
    · refine ⟨q.2, ?_, by rw [e]; exact e2⟩
      rw [hk, if_pos (by omega)]
    · obtain ⟨c, c1, c2⟩ := mk_cell h i h1 (by show i ≤ n - 1; omega)
      refine ⟨c, ?_, c2⟩
      rw [hk, if_neg (by omega)]
      exact c1
theorem ckA_ok {t : rT} {G k : Nat} : ∀ {l : List Value} {j0 : Nat}, ckA t G k l j0 = true → ∀ (j : Nat) (v : Value), l[j]? = some v → ckV G k (j0 + j) t v = true
  | [], _, _, j, v, hv => by simp at hv
  | x :: r, j0, h, j, v, hv => by
    have h : rCo (ckV G k j0 t x) (ckA t G k r (j0 + 1)) false = true := h
    obtain ⟨h1, h2⟩ := rcn.mp h
    cases j with
    | zero =>
      simp only [List.getElem?_cons_zero, Option.some.injEq] at hv
      subst hv
      exact h1
    | succ j =>
      simp only [List.getElem?_cons_succ] at hv
      have := ckA_ok h2 j v hv
      rw [show j0 + (j + 1) = j0 + 1 + j by omega]
      exact this
theorem ckO_ok {G k : Nat} : ∀ {l : List Value} {ts : List rT} {j0 : Nat}, ckO G k l ts j0 = true → ∀ (j : Nat) (v : Value), l[j]? = some v → ckV G k (j0 + j) (ts.getD j (9, 0, 0, 0, 0, 0, 0)) v = true
  | [], _, _, _, j, v, hv => by simp at hv
  | x :: r, [], _, h, _, _, _ => by cases h
  | x :: r, t :: ts, j0, h, j, v, hv => by
    have h : rCo (ckV G k j0 t x) (ckO G k r ts (j0 + 1)) false = true := h
    obtain ⟨h1, h2⟩ := rcn.mp h
    cases j with
    | zero =>
      simp only [List.getElem?_cons_zero, Option.some.injEq] at hv
      subst hv
      exact h1
    | succ j =>
      simp only [List.getElem?_cons_succ] at hv
      have := ckO_ok h2 j v hv
      rw [show j0 + (j + 1) = j0 + 1 + j by omega]
      exact this
theorem rTy_arr {q : rGr} (h : 1000 ≤ q.1) (n : Nat) : rTy q n = rTy q 0 := by
  simp only [rTy]
  rw [if_neg (by omega), if_neg (by omega)]
theorem ckL_ok {q : rGr} {G k : Nat} {l : List Value} (h : ckL q G k l 0 = true) (j : Nat) (v : Value) (hv : l[j]? = some v) : ckV G k j (rTy q j) v = true := by
  unfold ckL at h
  cases hb : Nat.ble (Nat.succ q.1) 1000 with
  | true =>
    rw [hb, rCo_t] at h
    have := ckO_ok h j v hv
    rw [Nat.zero_add] at this
    have hq : q.1 < 1000 := Nat.le_of_ble_eq_true hb
    unfold rTy
    rw [if_pos hq]
    exact this
  | false =>
    rw [hb, rCo_f] at h
    have := ckA_ok h j v hv
    rw [Nat.zero_add] at this
    have hq : 1000 ≤ q.1 := by
      have : ¬ (q.1 + 1 ≤ 1000) := fun e => by
        rw [show Nat.ble (Nat.succ q.1) 1000 = true from Nat.ble_eq_true_of_le e] at hb
        cases hb
      omega
    rw [rTy_arr hq]
    exact this
theorem uPl_ok {G n : Nat} {t : rT} (h : uPl G = true) : uZn G n t = zv t := by
  unfold uPl at h
  unfold uZn
  cases h1 : Nat.beq G 40 with
  | true => rw [h1] at h; cases h
  | false =>
    rw [h1, rCo_f] at h
    rw [rCo_f]
    cases h2 : Nat.beq G 0 with
    | true => rw [h2] at h; cases h
    | false =>
      rw [h2, rCo_f] at h
      rw [rCo_f, rCo_f]
      cases h3 : Nat.beq G 6 with
      | true => rw [h3] at h; cases h
      | false => rfl
set_option maxRecDepth 100000 in
theorem uSz_ok : (List.range 114).all (fun G => !(uFst G) || (Nat.beq (gW G).2.2.1.toNat 1 && Nat.ble 1000 (gW G).1)) = true := by decide +kernel
set_option maxRecDepth 100000 in
theorem uLe_ok : uW.all (fun q => q.2.2.2.all (fun t => rLe t.2.1 t.2.2.1)) = true := by decide +kernel
section S46
variable {as : Nat → Nat} {B : Nat} {cs : List (Nat × kC)} {h : xH} {xs : Nat → Int32}
/-- a cell of a group, as it was made -/
theorem st_cell (hR : kRel as B 3072 cs h) (hc : ckAll cs 3071 = true) {G : Nat} {q : rGr} (hG : uW[G]? = some q) {k : Int} (h0 : 0 ≤ k) (h1 : k < q.2.2.1) :
    B ≤ uA as G k ∧ ∃ (c : kC) (V : Nat → Value), kGet cs (uIx G k.toNat) = some c ∧ h (uA as G k) = some (q.1, q.2.1, V) ∧ c.1 = q.1 ∧ c.2.1 = q.2.1 ∧
      (c.1 < 1000 ∨ 2000 ≤ c.1 → c.2.2.1.length = c.2.1 ∧ ∀ (j : Nat) (v : Value), c.2.2.1[j]? = some v → V j = kRn as v ∧ kW 3072 v) ∧ (1000 ≤ c.1 → c.1 < 2000 → ∀ j, j < c.2.1 → kNm c (V j)) ∧
      rCo (rCo (Nat.ble 1000 c.1) (Nat.ble c.1 1999) false)
      (rCo (uFst G) (Nat.beq c.1 1000 && Nat.beq (rTy q 0).1 0 && rLe (-1) c.2.2.2.1 && rLe c.2.2.2.2 0 && rLe (rTy q 0).2.1 (-1) && rLe 0 (rTy q 0).2.2.1)
        (rIq c.2.2.2.1 0 && rIq c.2.2.2.2 0 && rIq (zv (rTy q 0)) 0 && (rCo (Nat.beq c.1 1001) (Nat.beq (rTy q 0).1 1) (Nat.beq (rTy q 0).1 0)) && uPl G))
      (rCo (uFst G) false (ckL q G k.toNat c.2.2.1 0)) = true := by
  obtain ⟨i1, i2, i3⟩ := uIx_ok hG h0 h1
  obtain ⟨c, c1, c2⟩ := mk_cell hc _ i1 i2
  obtain ⟨b1, V, v1, v2, v3⟩ := hR.1 (uIx G k.toNat) (by omega) c c1
  unfold ckC at c2
  rw [i3] at c2
  dsimp only at c2
  rw [hG] at c2
  simp only [Bool.and_eq_true (Nat.beq c.1 q.1 && Nat.beq c.2.1 q.2.1), Bool.and_eq_true (Nat.beq c.1 q.1)] at c2
  obtain ⟨⟨e1, e2⟩, e3⟩ := c2
  have e1 := Nat.eq_of_beq_eq_true e1
  have e2 := Nat.eq_of_beq_eq_true e2
  refine ⟨b1, c, V, c1, ?_, e1, e2, v2, v3, e3⟩
  show h (as (uIx G k.toNat)) = _
  rw [v1, e1, e2]
theorem st_sc {G : Nat} {q : rGr} (hG : uW[G]? = some q) {k : Int} (h0 : 0 ≤ k) (h1 : k < q.2.2.1) : G ≠ 113 := by
  rintro rfl
  have e := gW_eq hG
  have : (gW 113).2.2.1 = 0 := rfl
  rw [e] at this
  omega
theorem st_fst {G : Nat} {q : rGr} (hG : uW[G]? = some q) (hf : uFst G = true) : q.2.2.1 = 1 ∧ 1000 ≤ q.1 := by
  have h := List.all_eq_true.mp uSz_ok G (List.mem_range.mpr (List.getElem?_eq_some_iff.mp hG).1)
  rw [hf, gW_eq hG] at h
  simp only [Bool.not_true, Bool.false_or, Bool.and_eq_true] at h
  have h1 := Nat.eq_of_beq_eq_true h.1
  exact ⟨by omega, Nat.le_of_ble_eq_true h.2⟩
theorem st_lay (hR : kRel as B 3072 cs h) (hc : ckAll cs 3071 = true) : rLay uW B (uA as) (sG as h xs) h := by
  intro G q hG k h0 h1
  obtain ⟨b1, c, V, -, v1, e1, e2, v2, v3, ck⟩ := st_cell hR hc hG h0 h1
  have hsc := st_sc hG h0 h1
  refine ⟨b1, V, v1, fun j hj => ?_⟩
  have hg : sG as h xs G k (j : Int) = if uFst G = true ∧ k = 0 ∧ 0 ≤ (j : Int) ∧ j < q.2.1 then rNum (cV h (as (uIx G 0)) j) else uZn G j (rTy q j) := by
    unfold sG
    rw [if_neg hsc, gW_eq hG, Int.toNat_natCast]
  cases ha : rCo (Nat.ble 1000 c.1) (Nat.ble c.1 1999) false with
  | true =>
    rw [ha, rCo_t] at ck
    obtain ⟨a1, a2⟩ := rcn.mp ha
    have a1 := Nat.le_of_ble_eq_true a1
    have a2 := Nat.le_of_ble_eq_true a2
    have hn := v3 a1 (by omega) j (by omega)
    rw [rTy_arr (by omega) j] at hg ⊢
    cases hf : uFst G with
    | true =>
      rw [hf, rCo_t] at ck
      simp only [Bool.and_eq_true] at ck
      obtain ⟨⟨⟨⟨⟨k1, k2⟩, k3⟩, k4⟩, -⟩, -⟩ := ck
      have k1 := Nat.eq_of_beq_eq_true k1
      have k2 := Nat.eq_of_beq_eq_true k2
      have hk0 : k = 0 := by
        have := (st_fst hG hf).1
        omega
      subst hk0
      rw [if_pos ⟨hf, rfl, by omega, hj⟩] at hg
      unfold kNm at hn
      rw [if_neg (by omega)] at hn
      obtain ⟨z, z1, -, -⟩ := hn
      have hcv : cV h (as (uIx G 0)) = V := by
        have v1 : h (as (uIx G 0)) = some (q.1, q.2.1, V) := v1
        unfold cV
        rw [v1]
      rw [hg, hcv, z1]
      unfold rEn
      rw [k2]
      exact ⟨z, rfl, rfl⟩
    | false =>
      rw [hf, rCo_f] at ck
      simp only [Bool.and_eq_true] at ck
      obtain ⟨⟨⟨⟨k1, k2⟩, k3⟩, k4⟩, k5⟩ := ck
      have k1 := rIq_ok k1
      have k2 := rIq_ok k2
      have k3 := rIq_ok k3
      rw [if_neg (by rw [hf]; rintro ⟨q, -⟩; cases q), uPl_ok k5, k3] at hg
      rw [hg]
      unfold kNm at hn
      rw [k1, k2] at hn
      cases h9 : Nat.beq c.1 1001 with
      | true =>
        rw [h9, rCo_t] at k4
        rw [if_pos (Nat.eq_of_beq_eq_true h9)] at hn
        obtain ⟨z, z1, z2, z3⟩ := hn
        unfold rEn
        rw [Nat.eq_of_beq_eq_true k4]
        exact ⟨z, z1, by omega⟩
      | false =>
        rw [h9, rCo_f] at k4
        rw [if_neg (fun e => by rw [e] at h9; cases h9)] at hn
        obtain ⟨z, z1, z2, z3⟩ := hn
        unfold rEn
        rw [Nat.eq_of_beq_eq_true k4]
        exact ⟨z, z1, by omega⟩
  | false =>
    rw [ha, rCo_f] at ck
    have hob : c.1 < 1000 ∨ 2000 ≤ c.1 := by
      by_cases h2 : c.1 < 1000
      · exact Or.inl h2
      · refine Or.inr ?_
        rw [show Nat.ble 1000 c.1 = true from Nat.ble_eq_true_of_le (by omega), rCo_t] at ha
        by_cases h3 : 2000 ≤ c.1
        · exact h3
        · rw [show Nat.ble c.1 1999 = true from Nat.ble_eq_true_of_le (by omega)] at ha
          cases ha
    cases hf : uFst G with
    | true => rw [hf] at ck; cases ck
    | false =>
      rw [hf, rCo_f] at ck
      rw [if_neg (by rw [hf]; rintro ⟨q, -⟩; cases q)] at hg
      obtain ⟨l1, l2⟩ := v2 hob
      have hjl : j < c.2.2.1.length := by omega
      obtain ⟨w1, w2⟩ := l2 j c.2.2.1[j] (List.getElem?_eq_getElem hjl)
      have hv := ckL_ok ck j _ (List.getElem?_eq_getElem hjl)
      rw [w1, hg]
      generalize c.2.2.1[j] = v at *
      unfold ckV at hv
      have hkn : ((k.toNat : Nat) : Int) = k := Int.toNat_of_nonneg h0
      split at hv
      · rename_i x
        obtain ⟨ht, hv⟩ := rcn.mp hv
        unfold rEn
        rw [Nat.eq_of_beq_eq_true ht]
        exact ⟨x, rfl, rIq_ok hv⟩
      · rename_i x
        obtain ⟨ht, hv⟩ := rcn.mp hv
        unfold rEn
        rw [Nat.eq_of_beq_eq_true ht]
        exact ⟨x, rfl, rIq_ok hv⟩
      · rename_i i
        cases h2 : Nat.beq (rTy q j).1 2 with
        | true =>
          rw [h2, rCo_t] at hv
          unfold rEn
          rw [Nat.eq_of_beq_eq_true h2]
          show Value.ref (as i) = Value.ref (as _)
          rw [Nat.eq_of_beq_eq_true hv, hkn]
        | false =>
          rw [h2, rCo_f] at hv
          obtain ⟨ht, hv⟩ := rcn.mp hv
          unfold rEn
          rw [Nat.eq_of_beq_eq_true ht]
          show Value.ref (as i) = Value.ref (as _)
          rw [Nat.eq_of_beq_eq_true hv]
      · cases hv
theorem st_inj (hR : kRel as B 3072 cs h) (hc : ckAll cs 3071 = true) : rInj uW (uA as) := by
  intro G G_q q q_q k k_q hG hG_q h0 h1 h0_q h1_q e
  obtain ⟨i1, i2, i3⟩ := uIx_ok hG h0 h1
  obtain ⟨j1, j2, j3⟩ := uIx_ok hG_q h0_q h1_q
  obtain ⟨c, c1, -⟩ := mk_cell hc _ i1 i2
  obtain ⟨c_q, c1_q, -⟩ := mk_cell hc _ j1 j2
  have := hR.2 _ _ (by omega) (by omega) (by rw [c1]; exact fun q => by cases q) (by rw [c1_q]; exact fun q => by cases q) e
  rw [this, j3] at i3
  injection i3 with a1 a2
  exact ⟨a1.symm, by omega⟩
theorem zv_rg {t : rT} (h : t.2.1 ≤ t.2.2.1) : t.2.1 ≤ zv t ∧ zv t ≤ t.2.2.1 := by
  unfold zv
  cases hb : rCo (rLe t.2.1 0) (rLe 0 t.2.2.1) false with
  | true =>
    obtain ⟨a1, a2⟩ := rcn.mp hb
    exact ⟨rLe_iff.mp a1, rLe_iff.mp a2⟩
  | false => exact ⟨Int.le_refl _, h⟩
theorem rTy_le {G : Nat} {q : rGr} (hG : uW[G]? = some q) (n : Nat) : (rTy q n).2.1 ≤ (rTy q n).2.2.1 := by
  have h := List.all_eq_true.mp uLe_ok q (List.mem_of_getElem? hG)
  have h2 : ∀ (l : List rT) (n : Nat), l.all (fun t => rLe t.2.1 t.2.2.1) = true → (l.getD n (9, 0, 0, 0, 0, 0, 0)).2.1 ≤ (l.getD n (9, 0, 0, 0, 0, 0, 0)).2.2.1 := by
    intro l n hl
    rw [List.getD_eq_getElem?_getD]
    cases e : l[n]? with
    | none => exact Int.le_refl _
    | some t => exact rLe_iff.mp (List.all_eq_true.mp hl t (List.mem_of_getElem? e))
  unfold rTy
  split
  · exact h2 _ _ h
  · exact h2 _ _ h
theorem uZn_rg {G : Nat} {q : rGr} (hG : uW[G]? = some q) (n : Nat) : (rTy q n).2.1 ≤ uZn G n (rTy q n) ∧ uZn G n (rTy q n) ≤ (rTy q n).2.2.1 := by
  have hz := zv_rg (rTy_le hG n)
  have e := gW_eq hG
  unfold uZn
  cases h1 : Nat.beq G 40 with
  | true =>
    rw [rCo_t]
    have hg := Nat.eq_of_beq_eq_true h1
    subst hg
    have hk : (gW 40).1 = (gW 40).1 := rfl
    have ht : rTy q n = rTy (gW 40) 0 := by
      rw [e]
      exact rTy_arr (by rw [← e]; decide +kernel) n
    rw [ht]
    have hlo : (rTy (gW 40) 0).2.1 = 0 := rfl
    have hhi : (rTy (gW 40) 0).2.2.1 = 60 := rfl
    rw [hlo, hhi]
    cases hb : Nat.ble n 60 with
    | true =>
      have := Nat.le_of_ble_eq_true hb
      show (0 : Int) ≤ (n : Int) ∧ (n : Int) ≤ 60
      omega
    | false => exact ⟨Int.le_refl _, by show (0 : Int) ≤ 60; decide⟩
  | false =>
    rw [rCo_f]
    cases h2 : rCo (Nat.beq G 0) (Nat.beq n 6) false with
    | true =>
      obtain ⟨g1, g2⟩ := rcn.mp h2
      have g1 := Nat.eq_of_beq_eq_true g1
      have g2 := Nat.eq_of_beq_eq_true g2
      subst g1
      subst g2
      rw [← e]
      decide +kernel
    | false =>
      rw [rCo_f]
      cases h3 : rCo (Nat.beq G 6) (Nat.beq n 6) false with
      | true =>
        obtain ⟨g1, g2⟩ := rcn.mp h3
        have g1 := Nat.eq_of_beq_eq_true g1
        have g2 := Nat.eq_of_beq_eq_true g2
        subst g1
        subst g2
        rw [← e]
        decide +kernel
      | false =>
        rw [rCo_f]
        cases h4 : rCo (Nat.beq G 6) (Nat.beq n 7) false with
        | true =>
          obtain ⟨g1, g2⟩ := rcn.mp h4
          have g1 := Nat.eq_of_beq_eq_true g1
          have g2 := Nat.eq_of_beq_eq_true g2
          subst g1
          subst g2
          rw [← e]
          decide +kernel
        | false => exact hz
theorem st_rg (hR : kRel as B 3072 cs h) (hc : ckAll cs 3071 = true) : rRg uW (sG as h xs) := by
  intro G q hG k j
  unfold sG
  rw [gW_eq hG]
  split
  · rename_i e
    subst e
    have e := gW_eq hG
    have ht : rTy q j.toNat = rTy (gW 113) 0 := by
      rw [e]
      exact rTy_arr (by rw [← e]; decide +kernel) _
    rw [ht]
    have hlo : (rTy (gW 113) 0).2.1 = -2147483648 := rfl
    have hhi : (rTy (gW 113) 0).2.2.1 = 2147483647 := rfl
    rw [hlo, hhi]
    split
    · have h1 := (xs j.toNat).le_toInt
      have h2 := (xs j.toNat).toInt_lt
      omega
    · omega
  · split
    · rename_i hsc hf
      obtain ⟨f1, rfl, f3, f4⟩ := hf
      obtain ⟨g1, g2⟩ := st_fst hG f1
      obtain ⟨-, c, V, -, v1, e1, e2, -, v3, ck⟩ := st_cell hR hc hG (k := 0) (Int.le_refl _) (by omega)
      cases ha : rCo (Nat.ble 1000 c.1) (Nat.ble c.1 1999) false with
      | false => rw [ha, rCo_f, f1] at ck; cases ck
      | true =>
        rw [ha, rCo_t, f1, rCo_t] at ck
        obtain ⟨a1, a2⟩ := rcn.mp ha
        have a1 := Nat.le_of_ble_eq_true a1
        have a2 := Nat.le_of_ble_eq_true a2
        simp only [Bool.and_eq_true] at ck
        obtain ⟨⟨⟨⟨⟨k1, k2⟩, k3⟩, k4⟩, k5⟩, k6⟩ := ck
        have k1 := Nat.eq_of_beq_eq_true k1
        have k3 := rLe_iff.mp k3
        have k4 := rLe_iff.mp k4
        have k5 := rLe_iff.mp k5
        have k6 := rLe_iff.mp k6
        have hn := v3 a1 (by omega) j.toNat (by omega)
        unfold kNm at hn
        rw [if_neg (by omega)] at hn
        obtain ⟨z, z1, z2, z3⟩ := hn
        have hcv : cV h (as (uIx G 0)) = V := by
          have v1 : h (as (uIx G 0)) = some (q.1, q.2.1, V) := v1
          unfold cV
          rw [v1]
        rw [hcv, z1, rTy_arr g2]
        show _ ≤ z.toInt ∧ z.toInt ≤ _
        omega
    · exact uZn_rg hG j.toNat
end S46
set_option maxRecDepth 100000 in
theorem uKt_ok : uW.all (fun g => Nat.blt g.1 1000 || tTA.any (fun z => Nat.beq z.1 g.1)) = true := by decide +kernel
theorem uKt : ∀ g ∈ uW, 1000 ≤ g.1 → ∃ ty, (g.1, ty) ∈ tTA := by
  intro g hg h
  have h2 := List.all_eq_true.mp uKt_ok g hg
  simp only [Bool.or_eq_true] at h2
  rcases h2 with h2 | h2
  · have := (Nat.blt_eq).mp h2
    omega
  · obtain ⟨z, hz, hz2⟩ := List.any_eq_true.mp h2
    exact ⟨z.2, by rw [← Nat.eq_of_beq_eq_true hz2]; exact hz⟩
/-! what is true at all places is so at the beginning -/
noncomputable def ivV (R : aRg) (s : List rX) (c : Nat × rX × rX) : Option rX := rCo (Nat.beq c.1 113) none (rCo (uFst c.1) none (rCo (Nat.beq c.1 40)
  (rCo (rCo (rPv R [] 2 (rSx s c.2.2)) (rPv R [] 2 (rPl (rMu (-1) (rSx s c.2.2)) 60)) false) (some (rSx s c.2.2)) none)
  (match uW[c.1]? with
    | some q => rCo (Nat.ble 1000 q.1) (rCo (uPl c.1) (some (rC (zv (rTy q 0)))) none) (match (rSx s c.2.2).1 with | [] => some (rC (uZn c.1 (rSx s c.2.2).2.toNat (rTy q (rSx s c.2.2).2.toNat))) | _ => none)
    | none => none)))
noncomputable def ivL (R : aRg) : List rX → List (Nat × rX × rX) → Option (List rX)
  | s, [] => some s
  | s, c :: r => (match ivV R s c with
    | some v => ivL R (s ++ [v]) r
    | none => none)
noncomputable def ivZ (iv : rIT) : Bool := match ivL iv.1 (rSyL 0 iv.1.length) iv.2.1 with
  | some s => (match rAsL iv.1 [] (iv.2.2.1.map (rSx s)) with
    | none => true
    | some z => iv.2.2.2.1.all (fun c => rPv z.1 z.2 2 (rSx s c)))
  | none => false
section S46b
variable {as : Nat → Nat} {h : xH} {xs : Nat → Int32} {R : aRg} {ρ : Nat → Int}
theorem ivV_ok (hR : aOkR R ρ) {s : List rX} {c : Nat × rX × rX} {v : rX} (h1 : ivV R s c = some v) : sG as h xs c.1 (rE (rVs ρ s) c.2.1) (rE (rVs ρ s) c.2.2) = rE ρ v := by
  have h0 : rFa ρ [] := fun g hg => by cases hg
  rw [← rE_sx (s := s) (x := c.2.2)]
  unfold ivV at h1
  cases e1 : Nat.beq c.1 113 with
  | true => rw [e1] at h1; cases h1
  | false =>
    rw [e1, rCo_f] at h1
    have e1 : c.1 ≠ 113 := fun e => by rw [e] at e1; cases e1
    cases e2 : uFst c.1 with
    | true => rw [e2] at h1; cases h1
    | false =>
      rw [e2, rCo_f] at h1
      unfold sG
      rw [if_neg e1, if_neg (by rw [e2]; rintro ⟨q, -⟩; cases q)]
      cases e3 : Nat.beq c.1 40 with
      | true =>
        rw [e3, rCo_t] at h1
        cases e4 : rCo (rPv R [] 2 (rSx s c.2.2)) (rPv R [] 2 (rPl (rMu (-1) (rSx s c.2.2)) 60)) false with
        | false => rw [e4] at h1; cases h1
        | true =>
          rw [e4, rCo_t] at h1
          cases h1
          obtain ⟨p1, p2⟩ := rcn.mp e4
          have p1 := rPv_ok hR h0 p1
          have p2 := rPv_ok hR h0 p2
          rw [rE_pl, rE_mu] at p2
          unfold uZn
          rw [e3, rCo_t, show Nat.ble (rE ρ (rSx s c.2.2)).toNat 60 = true from Nat.ble_eq_true_of_le (by omega), rCo_t]
          exact Int.toNat_of_nonneg p1
      | false =>
        rw [e3, rCo_f] at h1
        split at h1
        · rename_i q hq
          rw [gW_eq hq]
          cases e5 : Nat.ble 1000 q.1 with
          | true =>
            rw [e5, rCo_t] at h1
            cases e6 : uPl c.1 with
            | false => rw [e6] at h1; cases h1
            | true =>
              rw [e6, rCo_t] at h1
              cases h1
              rw [uPl_ok e6, rE_c, rTy_arr (Nat.le_of_ble_eq_true e5)]
          | false =>
            rw [e5, rCo_f] at h1
            split at h1
            · rename_i hn
              cases h1
              rw [rE_c, rCst hn]
            · cases h1
        · cases h1
theorem ivL_ok (hR : aOkR R ρ) : ∀ {cs : List (Nat × rX × rX)} {s s_q : List rX}, ivL R s cs = some s_q → rVs ρ s_q = rCe (sG as h xs) s.length cs (rVs ρ s)
  | [], s, s_q, h1 => by cases h1; rfl
  | c :: r, s, s_q, h1 => by
    unfold ivL at h1
    split at h1
    · rename_i v hv
      rw [ivL_ok hR h1, rVs_app]
      simp only [rCe, List.length_append, List.length_cons, List.length_nil]
      rw [ivV_ok hR hv]
    · cases h1
theorem ivZ_ok {iv : rIT} (h1 : ivZ iv = true) : rIv (sG as h xs) iv := by
  intro p hl hr hg
  have hR : aOkR iv.1 (rPs p) := by
    intro k
    unfold aG
    rw [List.getD_eq_getElem?_getD]
    cases e : iv.1[k]? with
    | some q => exact hr k q e
    | none =>
      have : rPs p k = 0 := by
        unfold rPs
        rw [List.getD_eq_getElem?_getD, List.getElem?_eq_none (by rw [hl]; exact List.getElem?_eq_none_iff.mp e)]
        rfl
      rw [this]
      exact ⟨Int.le_refl _, Int.le_refl _⟩
  unfold ivZ at h1
  split at h1
  · rename_i s hs
    have e := ivL_ok (as := as) (h := h) (xs := xs) hR hs
    have hsy : rVs (rPs p) (rSyL 0 iv.1.length) = rPs p := by
      funext k
      unfold rVs rSyL
      rw [List.getD_eq_getElem?_getD, List.getElem?_map]
      by_cases hk : k < iv.1.length
      · rw [List.getElem?_range hk]
        simp only [Option.map_some, Option.getD_some]
        rw [rE_sy, Nat.zero_add]
      · rw [List.getElem?_eq_none (by simp; omega)]
        unfold rPs
        rw [List.getD_eq_getElem?_getD, List.getElem?_eq_none (by omega)]
        simp [rE, rSm]
    have hlen : (rSyL 0 iv.1.length).length = iv.1.length := by simp [rSyL]
    rw [hsy, hlen] at e
    rw [← e] at hg ⊢
    obtain ⟨z, z1, z2, z3, -⟩ := rAsL_ok (xs := iv.2.2.1.map (rSx s)) (Γ := []) hR (fun g hg => by cases hg) (fun x hx => by
      obtain ⟨y, hy, rfl⟩ := List.mem_map.mp hx
      rw [rE_sx]
      exact hg y hy)
    rw [z1] at h1
    intro x hx
    have := rPv_ok z2 z3 (List.all_eq_true.mp h1 x hx)
    rw [rE_sx] at this
    exact this
  · cases h1
end S46b
set_option maxRecDepth 100000 in
theorem uIv_ok : wL_.2.2.2.1.all (fun i => match uT[i]? with | some iv => ivZ iv | none => true) = true := by decide +kernel
theorem uIvs {as : Nat → Nat} {h : xH} {xs : Nat → Int32} : rIvs uT (sG as h xs) wL_.2.2.2.1 := by
  intro i hi iv hiv
  have h1 := List.all_eq_true.mp uIv_ok i hi
  rw [hiv] at h1
  exact ivZ_ok h1
