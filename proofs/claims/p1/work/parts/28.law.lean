/-! ===== the law's own case ===== -/
/-! ===== a body's run cut at a frontier ===== -/
def aFr1 (sc : Bool) (mx : List Nat) (kd : List aKd) (own : aI) (J : List aI) (Bd : aBd) (ann : List (Nat × aS × aRk)) (r0 : Option aRk) : List (Nat × aS) → Option (List (Nat × aS))
  | [] => some []
  | z :: zs => (match aSp sc mx kd own J Bd z.2 z.1 with
    | some l => if l.all (fun q => Nat.ble z.2.1.length q.2.1.length && Nat.ble z.2.2.1 q.2.2.1) = true then (match aFr1 sc mx kd own J Bd ann r0 zs with
      | some r => some (l.filter (fun q => !(aMg own.2.2.1.length own.2.2.2.1 ann r0 q.1 q.2)) ++ r)
      | none => none) else none
    | none => none)
def aFr (sc : Bool) (mx : List Nat) (kd : List aKd) (own : aI) (J : List aI) (Bd : aBd) (ann : List (Nat × aS × aRk)) (r0 : Option aRk) : Nat → List (Nat × aS) → Option (List (Nat × aS))
  | 0, l => some l
  | k + 1, l => (match aFr1 sc mx kd own J Bd ann r0 l with
    | some l' => aFr sc mx kd own J Bd ann r0 k l'
    | none => none)
section XF
variable {sc : Bool} {mx : List Nat} {kd : List aKd} {own : aI} {J : List aI} {Bd : aBd} {ann : List (Nat × aS × aRk)} {r0 : Option aRk}
theorem aFr1_ok {f : Nat} : ∀ {l l' : List (Nat × aS)}, aFr1 sc mx kd own J Bd ann r0 l = some l' → (∀ q ∈ l', aEx sc mx kd own J Bd ann r0 f q.1 q.2 = true) → ∀ q ∈ l, aEx sc mx kd own J Bd ann r0 (f + 1) q.1 q.2 = true
  | [], _, _, _, q, hq => by cases hq
  | z :: zs, l', h, hk, q, hq => by
    unfold aFr1 at h
    split at h
    · rename_i l hl
      split at h
      · rename_i hb
        split at h
        · rename_i r hr
          cases h
          rcases List.mem_cons.mp hq with rfl | hq
          · unfold aEx
            rw [hl]
            refine List.all_eq_true.mpr fun y hy => ?_
            have h1 := List.all_eq_true.mp hb y hy
            simp only [Bool.and_eq_true] at h1 ⊢
            refine ⟨h1, ?_⟩
            cases hm : aMg own.2.2.1.length own.2.2.2.1 ann r0 y.1 y.2 with
            | true => simp
            | false =>
              simp only [Bool.false_or]
              exact hk y (List.mem_append.mpr (Or.inl (List.mem_filter.mpr ⟨hy, by simp [hm]⟩)))
          · exact aFr1_ok hr (fun y hy => hk y (List.mem_append.mpr (Or.inr hy))) q hq
        · cases h
      · cases h
    · cases h
theorem aFr_ok {f : Nat} : ∀ {k : Nat} {l l' : List (Nat × aS)}, aFr sc mx kd own J Bd ann r0 k l = some l' → (∀ q ∈ l', aEx sc mx kd own J Bd ann r0 f q.1 q.2 = true) → ∀ q ∈ l, aEx sc mx kd own J Bd ann r0 (f + k) q.1 q.2 = true
  | 0, l, l', h, hk, q, hq => by
    simp only [aFr] at h
    cases h
    exact hk q hq
  | k + 1, l, l', h, hk, q, hq => by
    simp only [aFr] at h
    split at h
    · rename_i l1 h1
      have := aFr1_ok (f := f + k) h1 (fun y hy => aFr_ok h hk y hy) q hq
      exact this
    · cases h
/-- the place i of the frontier -/
def aFq (sc : Bool) (mx : List Nat) (kd : List aKd) (own : aI) (J : List aI) (Bd : aBd) (ann : List (Nat × aS × aRk)) (r0 : Option aRk) (f k pc : Nat) (σ : aS) (i : Nat) : Bool := match aFr sc mx kd own J Bd ann r0 k [(pc, σ)] with
  | some l => (match l[i]? with
    | some q => aEx sc mx kd own J Bd ann r0 f q.1 q.2
    | none => true)
  | none => false
theorem aFq_ok {f k pc n : Nat} {σ : aS} (hn : ((aFr sc mx kd own J Bd ann r0 k [(pc, σ)]).map (fun l => Nat.ble l.length n)) = some true) (h : ∀ i, i < n → aFq sc mx kd own J Bd ann r0 f k pc σ i = true) : aEx sc mx kd own J Bd ann r0 (f + k) pc σ = true := by
  cases hl : aFr sc mx kd own J Bd ann r0 k [(pc, σ)] with
  | none => rw [hl] at hn; cases hn
  | some l =>
    rw [hl] at hn
    have hlen : l.length ≤ n := Nat.le_of_ble_eq_true (by simpa using hn)
    refine aFr_ok hl (fun q hq => ?_) (pc, σ) (List.mem_singleton.mpr rfl)
    obtain ⟨i, hi⟩ := List.mem_iff_getElem?.mp hq
    have h1 := h i (Nat.lt_of_lt_of_le (List.getElem?_eq_some_iff.mp hi).1 hlen)
    unfold aFq at h1
    rw [hl] at h1
    dsimp only at h1
    rw [hi] at h1
    exact h1
end XF
def tR0 : aRg := [(0, 0), (0, 6), (-2147483648, 2147483647), (-2147483648, 2147483647), (-2147483648, 2147483647), (-2147483648, 2147483647), (-2147483648, 2147483647), (-2147483648, 2147483647)]
def jL : aI := (0, (2048, 600002, 7302232, 84000), tR0, 0, [(7, 1, 0)], [], [(tR0, 0, [], [(0, 0, 1)], [], 600002, 7302232)], [])
set_option maxRecDepth 100000 in
theorem le_ : aEx true tMx tKd jL tJL bL_ tAnL none 3000 0 (aEn jL) = true := by decide +kernel
set_option maxRecDepth 100000 in
theorem lf1_0 : aFq true tMx tKd jL tJL bL_ tAnL (some aL1_.2.2) 2992 8 aL1_.1 aL1_.2.1 0 = true := by decide +kernel
set_option maxRecDepth 100000 in
theorem lf1_1 : aFq true tMx tKd jL tJL bL_ tAnL (some aL1_.2.2) 2992 8 aL1_.1 aL1_.2.1 1 = true := by decide +kernel
set_option maxRecDepth 100000 in
theorem lf1_2 : aFq true tMx tKd jL tJL bL_ tAnL (some aL1_.2.2) 2992 8 aL1_.1 aL1_.2.1 2 = true := by decide +kernel
set_option maxRecDepth 100000 in
theorem lf1_3 : aFq true tMx tKd jL tJL bL_ tAnL (some aL1_.2.2) 2992 8 aL1_.1 aL1_.2.1 3 = true := by decide +kernel
set_option maxRecDepth 100000 in
theorem lf1_4 : aFq true tMx tKd jL tJL bL_ tAnL (some aL1_.2.2) 2992 8 aL1_.1 aL1_.2.1 4 = true := by decide +kernel
set_option maxRecDepth 100000 in
theorem lf1_5 : aFq true tMx tKd jL tJL bL_ tAnL (some aL1_.2.2) 2992 8 aL1_.1 aL1_.2.1 5 = true := by decide +kernel
set_option maxRecDepth 100000 in
theorem lf1_6 : aFq true tMx tKd jL tJL bL_ tAnL (some aL1_.2.2) 2992 8 aL1_.1 aL1_.2.1 6 = true := by decide +kernel
set_option maxRecDepth 100000 in
theorem lf1_7 : aFq true tMx tKd jL tJL bL_ tAnL (some aL1_.2.2) 2992 8 aL1_.1 aL1_.2.1 7 = true := by decide +kernel
set_option maxRecDepth 100000 in
theorem lf1_8 : aFq true tMx tKd jL tJL bL_ tAnL (some aL1_.2.2) 2992 8 aL1_.1 aL1_.2.1 8 = true := by decide +kernel
set_option maxRecDepth 100000 in
theorem lf1_9 : aFq true tMx tKd jL tJL bL_ tAnL (some aL1_.2.2) 2992 8 aL1_.1 aL1_.2.1 9 = true := by decide +kernel
set_option maxRecDepth 100000 in
theorem lf1_10 : aFq true tMx tKd jL tJL bL_ tAnL (some aL1_.2.2) 2992 8 aL1_.1 aL1_.2.1 10 = true := by decide +kernel
set_option maxRecDepth 100000 in
theorem lf1_11 : aFq true tMx tKd jL tJL bL_ tAnL (some aL1_.2.2) 2992 8 aL1_.1 aL1_.2.1 11 = true := by decide +kernel
set_option maxRecDepth 100000 in
theorem la1_ : (Nat.ble jL.2.2.1.length aL1_.2.1.1.length && Nat.ble jL.2.2.2.1 aL1_.2.1.2.1 && aL1_.2.2.1.all (fun q => Nat.blt q.1 aL1_.2.1.1.length) && aEx true tMx tKd jL tJL bL_ tAnL (some aL1_.2.2) 3000 aL1_.1 aL1_.2.1) = true := by
  refine Bool.and_eq_true_iff.mpr ⟨by decide +kernel, aFq_ok (f := 2992) (k := 8) (n := 12) (by decide +kernel) (fun i hi => ?_)⟩
  have h : ∀ i ∈ List.range 12, aFq true tMx tKd jL tJL bL_ tAnL (some aL1_.2.2) 2992 8 aL1_.1 aL1_.2.1 i = true := by
    show ∀ i ∈ [0, 1, 2, 3, 4, 5, 6, 7, 8, 9, 10, 11], _
    exact List.forall_mem_cons.mpr ⟨lf1_0, List.forall_mem_cons.mpr ⟨lf1_1, List.forall_mem_cons.mpr ⟨lf1_2, List.forall_mem_cons.mpr ⟨lf1_3, List.forall_mem_cons.mpr ⟨lf1_4, List.forall_mem_cons.mpr ⟨lf1_5, List.forall_mem_cons.mpr ⟨lf1_6, List.forall_mem_cons.mpr ⟨lf1_7, List.forall_mem_cons.mpr ⟨lf1_8, List.forall_mem_cons.mpr ⟨lf1_9, List.forall_mem_cons.mpr ⟨lf1_10, List.forall_mem_cons.mpr ⟨lf1_11, fun _ h => by cases h⟩⟩⟩⟩⟩⟩⟩⟩⟩⟩⟩⟩
  exact h i (List.mem_range.mpr hi)
set_option maxRecDepth 100000 in
theorem la0_ : (Nat.ble jL.2.2.1.length aL0_.2.1.1.length && Nat.ble jL.2.2.2.1 aL0_.2.1.2.1 && aL0_.2.2.1.all (fun q => Nat.blt q.1 aL0_.2.1.1.length) && aEx true tMx tKd jL tJL bL_ tAnL (some aL0_.2.2) 3000 aL0_.1 aL0_.2.1) = true := by decide +kernel
set_option maxRecDepth 100000 in
theorem la2_ : (Nat.ble jL.2.2.1.length aL2_.2.1.1.length && Nat.ble jL.2.2.2.1 aL2_.2.1.2.1 && aL2_.2.2.1.all (fun q => Nat.blt q.1 aL2_.2.1.1.length) && aEx true tMx tKd jL tJL bL_ tAnL (some aL2_.2.2) 3000 aL2_.1 aL2_.2.1) = true := by decide +kernel
set_option maxRecDepth 100000 in
theorem la3_ : (Nat.ble jL.2.2.1.length aL3_.2.1.1.length && Nat.ble jL.2.2.2.1 aL3_.2.1.2.1 && aL3_.2.2.1.all (fun q => Nat.blt q.1 aL3_.2.1.1.length) && aEx true tMx tKd jL tJL bL_ tAnL (some aL3_.2.2) 3000 aL3_.1 aL3_.2.1) = true := by decide +kernel
set_option maxRecDepth 100000 in
theorem la4_ : (Nat.ble jL.2.2.1.length aL4_.2.1.1.length && Nat.ble jL.2.2.2.1 aL4_.2.1.2.1 && aL4_.2.2.1.all (fun q => Nat.blt q.1 aL4_.2.1.1.length) && aEx true tMx tKd jL tJL bL_ tAnL (some aL4_.2.2) 3000 aL4_.1 aL4_.2.1) = true := by decide +kernel
set_option maxRecDepth 100000 in
theorem la5_ : (Nat.ble jL.2.2.1.length aL5_.2.1.1.length && Nat.ble jL.2.2.2.1 aL5_.2.1.2.1 && aL5_.2.2.1.all (fun q => Nat.blt q.1 aL5_.2.1.1.length) && aEx true tMx tKd jL tJL bL_ tAnL (some aL5_.2.2) 3000 aL5_.1 aL5_.2.1) = true := by decide +kernel
set_option maxRecDepth 100000 in
theorem la6_ : (Nat.ble jL.2.2.1.length aL6_.2.1.1.length && Nat.ble jL.2.2.2.1 aL6_.2.1.2.1 && aL6_.2.2.1.all (fun q => Nat.blt q.1 aL6_.2.1.1.length) && aEx true tMx tKd jL tJL bL_ tAnL (some aL6_.2.2) 3000 aL6_.1 aL6_.2.1) = true := by decide +kernel
set_option maxRecDepth 100000 in
theorem la7_ : (Nat.ble jL.2.2.1.length aL7_.2.1.1.length && Nat.ble jL.2.2.2.1 aL7_.2.1.2.1 && aL7_.2.2.1.all (fun q => Nat.blt q.1 aL7_.2.1.1.length) && aEx true tMx tKd jL tJL bL_ tAnL (some aL7_.2.2) 3000 aL7_.1 aL7_.2.1) = true := by decide +kernel
set_option maxRecDepth 100000 in
theorem la8_ : (Nat.ble jL.2.2.1.length aL8_.2.1.1.length && Nat.ble jL.2.2.2.1 aL8_.2.1.2.1 && aL8_.2.2.1.all (fun q => Nat.blt q.1 aL8_.2.1.1.length) && aEx true tMx tKd jL tJL bL_ tAnL (some aL8_.2.2) 3000 aL8_.1 aL8_.2.1) = true := by decide +kernel
set_option maxRecDepth 100000 in
theorem la9_ : (Nat.ble jL.2.2.1.length aL9_.2.1.1.length && Nat.ble jL.2.2.2.1 aL9_.2.1.2.1 && aL9_.2.2.1.all (fun q => Nat.blt q.1 aL9_.2.1.1.length) && aEx true tMx tKd jL tJL bL_ tAnL (some aL9_.2.2) 3000 aL9_.1 aL9_.2.1) = true := by decide +kernel
set_option maxRecDepth 100000 in
theorem la10_ : (Nat.ble jL.2.2.1.length aL10_.2.1.1.length && Nat.ble jL.2.2.2.1 aL10_.2.1.2.1 && aL10_.2.2.1.all (fun q => Nat.blt q.1 aL10_.2.1.1.length) && aEx true tMx tKd jL tJL bL_ tAnL (some aL10_.2.2) 3000 aL10_.1 aL10_.2.1) = true := by decide +kernel
set_option maxRecDepth 100000 in
theorem la11_ : (Nat.ble jL.2.2.1.length aL11_.2.1.1.length && Nat.ble jL.2.2.2.1 aL11_.2.1.2.1 && aL11_.2.2.1.all (fun q => Nat.blt q.1 aL11_.2.1.1.length) && aEx true tMx tKd jL tJL bL_ tAnL (some aL11_.2.2) 3000 aL11_.1 aL11_.2.1) = true := by decide +kernel
set_option maxRecDepth 100000 in
theorem la12_ : (Nat.ble jL.2.2.1.length aL12_.2.1.1.length && Nat.ble jL.2.2.2.1 aL12_.2.1.2.1 && aL12_.2.2.1.all (fun q => Nat.blt q.1 aL12_.2.1.1.length) && aEx true tMx tKd jL tJL bL_ tAnL (some aL12_.2.2) 3000 aL12_.1 aL12_.2.1) = true := by decide +kernel
set_option maxRecDepth 100000 in
theorem la13_ : (Nat.ble jL.2.2.1.length aL13_.2.1.1.length && Nat.ble jL.2.2.2.1 aL13_.2.1.2.1 && aL13_.2.2.1.all (fun q => Nat.blt q.1 aL13_.2.1.1.length) && aEx true tMx tKd jL tJL bL_ tAnL (some aL13_.2.2) 3000 aL13_.1 aL13_.2.1) = true := by decide +kernel
set_option maxRecDepth 100000 in
theorem la14_ : (Nat.ble jL.2.2.1.length aL14_.2.1.1.length && Nat.ble jL.2.2.2.1 aL14_.2.1.2.1 && aL14_.2.2.1.all (fun q => Nat.blt q.1 aL14_.2.1.1.length) && aEx true tMx tKd jL tJL bL_ tAnL (some aL14_.2.2) 3000 aL14_.1 aL14_.2.1) = true := by decide +kernel
set_option maxRecDepth 100000 in
theorem la15_ : (Nat.ble jL.2.2.1.length aL15_.2.1.1.length && Nat.ble jL.2.2.2.1 aL15_.2.1.2.1 && aL15_.2.2.1.all (fun q => Nat.blt q.1 aL15_.2.1.1.length) && aEx true tMx tKd jL tJL bL_ tAnL (some aL15_.2.2) 3000 aL15_.1 aL15_.2.1) = true := by decide +kernel
set_option maxRecDepth 100000 in
theorem law_ok : aOkB 3000 true tMx tKd jL tJL bL_ tAnL (aEn jL) = true := by
  unfold aOkB
  simp only [Bool.and_eq_true (aEx true tMx tKd jL tJL bL_ tAnL none 3000 0 (aEn jL))]
  refine ⟨le_, List.all_eq_true.mpr ?_⟩
  show ∀ a ∈ [aL0_, aL1_, aL2_, aL3_, aL4_, aL5_, aL6_, aL7_, aL8_, aL9_, aL10_, aL11_, aL12_, aL13_, aL14_, aL15_], _
  exact List.forall_mem_cons.mpr ⟨la0_, List.forall_mem_cons.mpr ⟨la1_, List.forall_mem_cons.mpr ⟨la2_, List.forall_mem_cons.mpr ⟨la3_, List.forall_mem_cons.mpr ⟨la4_, List.forall_mem_cons.mpr ⟨la5_, List.forall_mem_cons.mpr ⟨la6_, List.forall_mem_cons.mpr ⟨la7_, List.forall_mem_cons.mpr ⟨la8_, List.forall_mem_cons.mpr ⟨la9_, List.forall_mem_cons.mpr ⟨la10_, List.forall_mem_cons.mpr ⟨la11_, List.forall_mem_cons.mpr ⟨la12_, List.forall_mem_cons.mpr ⟨la13_, List.forall_mem_cons.mpr ⟨la14_, List.forall_mem_cons.mpr ⟨la15_, fun _ h => by cases h⟩⟩⟩⟩⟩⟩⟩⟩⟩⟩⟩⟩⟩⟩⟩⟩
