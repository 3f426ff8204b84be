/-! ===== what is KNOWN, bit by bit ===== -/
noncomputable def qBt (k v : Int) : Int := zF2 .iand (zF2 .ishr k v) 1
noncomputable def qSt (k v : Int) : Int := zF2 .ior k (zF2 .ishl 1 v)
theorem qSt_nat : ∀ (k : Fin 256) (v : Fin 8), qSt (k.val : Int) (v.val : Int) = Int.ofNat (Nat.lor k.val (Nat.shiftLeft 1 v.val)) := by decide +kernel
theorem qBt_nat : ∀ (k : Fin 256) (v : Fin 8), qBt (k.val : Int) (v.val : Int) = Int.ofNat (Nat.land (Nat.shiftRight k.val v.val) 1) := by decide +kernel
theorem qNt_one : ∀ (k : Fin 256) (v : Fin 8), Nat.lor k.val (Nat.shiftLeft 1 v.val) < 256 ∧ (Nat.land (Nat.shiftRight k.val v.val) 1 = 1 → Nat.lor k.val (Nat.shiftLeft 1 v.val) = k.val) ∧ Nat.land (Nat.shiftRight (Nat.lor k.val (Nat.shiftLeft 1 v.val)) v.val) 1 = 1 ∧ (Nat.land (Nat.shiftRight k.val v.val) 1 = 0 ∨ Nat.land (Nat.shiftRight k.val v.val) 1 = 1) := by decide +kernel
theorem qNt_two : ∀ (k : Fin 256) (v u : Fin 8), u ≠ v → Nat.land (Nat.shiftRight (Nat.lor k.val (Nat.shiftLeft 1 v.val)) u.val) 1 = Nat.land (Nat.shiftRight k.val u.val) 1 := by decide +kernel
theorem qSt_fin : ∀ (k : Fin 256) (v : Fin 8), 0 ≤ qSt (k.val : Int) (v.val : Int) ∧ qSt (k.val : Int) (v.val : Int) < 256 ∧ (qBt (k.val : Int) (v.val : Int) = 1 → qSt (k.val : Int) (v.val : Int) = (k.val : Int)) ∧ qBt (qSt (k.val : Int) (v.val : Int)) (v.val : Int) = 1 ∧ (qBt (k.val : Int) (v.val : Int) = 0 ∨ qBt (k.val : Int) (v.val : Int) = 1) := by
  intro k v
  obtain ⟨h1, h2, h3, h4⟩ := qNt_one k v
  have e3 : qBt (Int.ofNat (Nat.lor k.val (Nat.shiftLeft 1 v.val))) (v.val : Int) = Int.ofNat (Nat.land (Nat.shiftRight (Nat.lor k.val (Nat.shiftLeft 1 v.val)) v.val) 1) := qBt_nat ⟨Nat.lor k.val (Nat.shiftLeft 1 v.val), h1⟩ v
  rw [qSt_nat k v, qBt_nat k v, e3, h3]
  refine ⟨Int.natCast_nonneg _, Int.ofNat_lt.mpr h1, fun q => congrArg Int.ofNat (h2 (Int.ofNat.inj q)), rfl, ?_⟩
  rcases h4 with h | h
  · exact Or.inl (congrArg Int.ofNat h)
  · exact Or.inr (congrArg Int.ofNat h)
theorem qBt_fin : ∀ (k : Fin 256) (v u : Fin 8), u ≠ v → qBt (qSt (k.val : Int) (v.val : Int)) (u.val : Int) = qBt (k.val : Int) (u.val : Int) := by
  intro k v u h
  have h1 := (qNt_one k v).1
  have e3 : qBt (Int.ofNat (Nat.lor k.val (Nat.shiftLeft 1 v.val))) (u.val : Int) = Int.ofNat (Nat.land (Nat.shiftRight (Nat.lor k.val (Nat.shiftLeft 1 v.val)) u.val) 1) := qBt_nat ⟨Nat.lor k.val (Nat.shiftLeft 1 v.val), h1⟩ u
  rw [qSt_nat k v, e3, qBt_nat k u, qNt_two k v u h]
theorem qBt_zero_fin : ∀ (v : Fin 8), qBt 0 (v.val : Int) = 0 ∧ zF1 .l2i (v.val : Int) = (v.val : Int) := by decide +kernel
noncomputable def qKr (k : Int) : Prop := 0 ≤ k ∧ k < 256
noncomputable def qVr (v : Int) : Prop := 0 ≤ v ∧ v < 8
theorem qSt_all {k v : Int} (hk : qKr k) (hv : qVr v) : qKr (qSt k v) ∧ (qBt k v = 1 → qSt k v = k) ∧ qBt (qSt k v) v = 1 ∧ (qBt k v = 0 ∨ qBt k v = 1) := by
  have h := qSt_fin ⟨k.toNat, by unfold qKr at hk; omega⟩ ⟨v.toNat, by unfold qVr at hv; omega⟩
  have e1 : ((k.toNat : Nat) : Int) = k := Int.toNat_of_nonneg hk.1
  have e2 : ((v.toNat : Nat) : Int) = v := Int.toNat_of_nonneg hv.1
  simp only [e1, e2] at h
  exact ⟨⟨h.1, h.2.1⟩, h.2.2⟩
theorem qBt_other {k v u : Int} (hk : qKr k) (hv : qVr v) (hu : qVr u) (h : u ≠ v) : qBt (qSt k v) u = qBt k u := by
  unfold qKr at hk
  unfold qVr at hv hu
  have h := qBt_fin ⟨k.toNat, by omega⟩ ⟨v.toNat, by omega⟩ ⟨u.toNat, by omega⟩ (fun q => h (by have := congrArg Fin.val q; simp only at this; omega))
  have e1 : ((k.toNat : Nat) : Int) = k := Int.toNat_of_nonneg hk.1
  have e2 : ((v.toNat : Nat) : Int) = v := Int.toNat_of_nonneg hv.1
  have e3 : ((u.toNat : Nat) : Int) = u := Int.toNat_of_nonneg hu.1
  simp only [e1, e2, e3] at h
  exact h
theorem qBt_zero {v : Int} (hv : qVr v) : qBt 0 v = 0 := by
  have h := (qBt_zero_fin ⟨v.toNat, by unfold qVr at hv; omega⟩).1
  have e2 : ((v.toNat : Nat) : Int) = v := Int.toNat_of_nonneg hv.1
  simp only [e2] at h
  exact h
theorem l2i_slot {v : Int} (hv : qVr v) : zF1 .l2i v = v := by
  have h := (qBt_zero_fin ⟨v.toNat, by unfold qVr at hv; omega⟩).2
  have e2 : ((v.toNat : Nat) : Int) = v := Int.toNat_of_nonneg hv.1
  simp only [e2] at h
  exact h
theorem ior_assoc (a b d : Int) : zF2 .ior a (zF2 .ior b d) = zF2 .ior (zF2 .ior a b) d := by
  show (Int32.ofInt a ||| Int32.ofInt (Int32.ofInt b ||| Int32.ofInt d).toInt).toInt = (Int32.ofInt (Int32.ofInt a ||| Int32.ofInt b).toInt ||| Int32.ofInt d).toInt
  rw [Int32.ofInt_toInt, Int32.ofInt_toInt, Int32.or_assoc]
theorem ior_zero_fin : ∀ (k : Fin 256), zF2 .ior (k.val : Int) 0 = (k.val : Int) := by decide +kernel
theorem ior_zero {k : Int} (hk : qKr k) : zF2 .ior k 0 = k := by
  have h := ior_zero_fin ⟨k.toNat, by unfold qKr at hk; omega⟩
  have e1 : ((k.toNat : Nat) : Int) = k := Int.toNat_of_nonneg hk.1
  simp only [e1] at h
  exact h
theorem fn117_eq {v : Int} {c : rHp} : fn117 [v] c = (0, (if qBt (c 2 0 5) v = 1 then 1 else 0), c) := by
  unfold fn117
  simp only [zLet, List.getD_cons_zero]
  by_cases h : qBt (c 2 0 5) v = 1
  · rw [if_neg (show ¬ zF2 .iand (zF2 .ishr (c 2 0 5) v) 1 ≠ 1 from fun q => q h), if_pos h]
  · rw [if_pos (show zF2 .iand (zF2 .ishr (c 2 0 5) v) 1 ≠ 1 from h), if_neg h]
theorem fn118_eq {v : Int} {c : rHp} : fn118 [v] c = (0, (if qBt (c 2 0 5) v = 1 then 1 else 0), c) := fn117_eq
theorem fn18_eq {v : Int} {m : rHp} : fn18 [v] m = (0, (if qBt (m 15 0 45) v = 1 then 1 else 0), m) := by
  unfold fn18
  simp only [zLet, List.getD_cons_zero]
  by_cases h : qBt (m 15 0 45) v = 1
  · rw [if_neg (show ¬ zF2 .iand (zF2 .ishr (m 15 0 45) v) 1 ≠ 1 from fun q => q h), if_pos h]
  · rw [if_pos (show zF2 .iand (zF2 .ishr (m 15 0 45) v) 1 ≠ 1 from h), if_neg h]
theorem fn19_eq {v : Int} {m : rHp} (hv : qVr v) : fn19 [v] m = (0, (if qBt (m 15 0 45) v = 1 then 1 else 0), m) := by
  unfold fn19
  simp only [zLet, List.getD_cons_zero, l2i_slot hv]
  by_cases h : qBt (m 15 0 45) v = 1
  · rw [if_neg (show ¬ zF2 .iand (zF2 .ishr (m 15 0 45) v) 1 ≠ 1 from fun q => q h), if_pos h]
  · rw [if_pos (show zF2 .iand (zF2 .ishr (m 15 0 45) v) 1 ≠ 1 from h), if_neg h]
theorem one_bit {p : Prop} [Decidable p] : (1 ≤ (if p then (1 : Int) else 0)) = p := by
  by_cases h : p
  · rw [if_pos h]; exact propext ⟨fun _ => h, fun _ => Int.le_refl 1⟩
  · rw [if_neg h]; exact propext ⟨fun q => absurd q (by decide), fun q => absurd q h⟩
