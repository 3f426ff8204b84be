/-! ===== the method that fills ===== -/
noncomputable def fKd : List aKd := [(1000, 64, [(0, -1, 0)]), (1000, 512, [(0, -1, 0)]), (1000, 2048, [(0, -1, 0)]), (1000, 4096, [(0, -1, 0)])]
noncomputable def fI (K : Nat) : aI := (82, (0, 0, 0, 0), [(0, 0)], 1, [(4, 0, (K : Int)), (0, 0, -1)], [], [([(0, 0)], 1, [], [], [], 0, 0)], [])
noncomputable def fJL : List aI := [fI 0, fI 1, fI 2, fI 3]
noncomputable def fAn : List (List (Nat × aS × aRk)) := [[(5, ([(0, 0), (0, 64)], 1, [(2, 0, 1, 0), (3, 0, 0, 64), (0, 4, 0, 0), (1, 0, 0, -1)], [], [], 0, 0), ([(1, -1)], 64))], [(5, ([(0, 0), (0, 512)], 1, [(2, 0, 1, 0), (3, 0, 0, 512), (0, 4, 0, 1), (1, 0, 0, -1)], [], [], 0, 0), ([(1, -1)], 512))], [(5, ([(0, 0), (0, 2048)], 1, [(2, 0, 1, 0), (3, 0, 0, 2048), (0, 4, 0, 2), (1, 0, 0, -1)], [], [], 0, 0), ([(1, -1)], 2048))], [(5, ([(0, 0), (0, 4096)], 1, [(2, 0, 1, 0), (3, 0, 0, 4096), (0, 4, 0, 3), (1, 0, 0, -1)], [], [], 0, 0), ([(1, -1)], 4096))]]
set_option maxRecDepth 100000 in
theorem fk0_ : aCkn 3000 uMx fKd fJL fAn uBds 0 = true := by decide +kernel
set_option maxRecDepth 100000 in
theorem fk1_ : aCkn 3000 uMx fKd fJL fAn uBds 1 = true := by decide +kernel
set_option maxRecDepth 100000 in
theorem fk2_ : aCkn 3000 uMx fKd fJL fAn uBds 2 = true := by decide +kernel
set_option maxRecDepth 100000 in
theorem fk3_ : aCkn 3000 uMx fKd fJL fAn uBds 3 = true := by decide +kernel
theorem fCk : ∀ n, n < fJL.length → aCkn 3000 uMx fKd fJL fAn uBds n = true := by
  intro n hn
  have hn : n < 4 := hn
  rcases (show n = 0 ∨ n = 1 ∨ n = 2 ∨ n = 3 by omega) with rfl | rfl | rfl | rfl
  · exact fk0_
  · exact fk1_
  · exact fk2_
  · exact fk3_
theorem fKt : aKt fKd tTA := by
  intro q hq h
  refine ⟨.int, ?_⟩
  have : q.1 = 1000 := by
    simp only [fKd, List.mem_cons, List.not_mem_nil, or_false] at hq
    rcases hq with rfl | rfl | rfl | rfl <;> rfl
  rw [this]
  simp [tTA]
theorem fill_one {D : va_G} {dA : Nat → ClassId} {B : Nat} {l : Launch} (hl0 : l.stackTraces = false) {K N : Nat} (hK : fKd[K]? = some (1000, N, [(0, -1, 0)])) (hI : fJL[K]? = some (fI K)) {d : aMd} (hd : tMth[82]? = some d) {h : xH} {a : Nat} {V : Nat → Value} (hB : B ≤ a) (ha : h a = some (1000, N, V)) (hV : ∀ j, j < N → ∃ z : Int32, V j = .int z ∧ -1 ≤ z.toInt ∧ z.toInt ≤ 0) :
    ∃ (rm : Room) (Qf : Option Value → xH → Prop) (Xf : String → xH → Prop), (rm.frames = 0 ∧ rm.cells = 0 ∧ rm.slots = 0 ∧ rm.locals = 0) ∧ xMet D dA vwCl tTA B tNw tNc tAo tW0 l d.1 (aCw d) rm [.ref a, .int (-1)] h Qf Xf ∧
      (∀ v h_q, Qf v h_q → v = none ∧ (∀ q, q ≠ a → h q ≠ none → h_q q = h q) ∧ ∃ V_q, h_q a = some (1000, N, V_q) ∧ ∀ j, j < N → ∃ z : Int32, V_q j = .int z ∧ -1 ≤ z.toInt ∧ z.toInt ≤ 0) ∧ ∀ E h_q, ¬ Xf E h_q := by
  have hM := aAllMt (D := D) (dA := dA) (B := B) (l := l) (b := (0, 0, fun _ => 0)) (tSg fKt) tTab hl0 (by decide) fCk K (fI K) hI d hd
  let P : Nat → Prop := fun q => q = a ∨ h q = none
  let α : Nat → Option Nat := fun k => if k = 0 then some a else none
  let τ : Nat → Option Nat := fun q => if q = a then some K else none
  have hKnd : ∀ (τ9 : Nat → Option Nat) (h9 : xH), aKnd fKd B τ9 h9 → τ9 a = some K → ∃ V_q, h9 a = some (1000, N, V_q) ∧ ∀ j, j < N → ∃ z : Int32, V_q j = .int z ∧ -1 ≤ z.toInt ∧ z.toInt ≤ 0 := by
    intro τ9 h9 hk ht
    obtain ⟨q, V_q, e1, -, e3, e4⟩ := hk a K ht
    cases hK.symm.trans e1
    refine ⟨V_q, e3, fun j hj => ?_⟩
    obtain ⟨z, z1, z2, z3⟩ := e4 j hj
    exact ⟨z, z1, z2, z3⟩
  have hA : aSx fKd B (0, 0, fun _ => 0) P h (fun _ => 0) α τ (aEa (fI K)) [] [.ref a, .int (-1)] h := by
    refine ⟨⟨fun k => ?_, (fun q hq => by cases hq), ⟨⟨a, rfl, rfl, ?_⟩, ⟨-1, rfl, rfl⟩, trivial⟩, ⟨(fun o ho => by cases ho), List.Pairwise.nil⟩, fun a_q K_q hk => ?_⟩, fun q hq => ⟨rfl, ?_⟩, (fun o ho => by cases ho), fun q hq => Or.inr hq⟩
    · have : aG (aEa (fI K)).1 k = (0, 0) := by
        show List.getD [(0, 0)] k (0, 0) = (0, 0)
        cases k with
        | zero => rfl
        | succ k => simp
      rw [this]
      exact ⟨Int.le_refl _, Int.le_refl _⟩
    · show (if a = a then some K else none) = some ((K : Int)).toNat
      rw [if_pos rfl, Int.toNat_natCast]
    · have hk : (if a_q = a then some K else none) = some K_q := hk
      split at hk
      · rename_i e
        cases hk
        rw [e]
        exact ⟨_, V, hK, hB, ha, fun j hj => by
          obtain ⟨z, z1, z2, z3⟩ := hV j hj
          exact ⟨z, z1, z2, z3⟩⟩
      · cases hk
    · show (if q = a then some K else none) = none
      rw [if_neg (fun e => hq (Or.inl e))]
  refine ⟨aIr (fI K), _, _, ⟨rfl, rfl, rfl, rfl⟩, hM P (fun _ => 0) α τ _ h hA, fun v h_q hQ => ?_, fun E h_q hX => ?_⟩
  · obtain ⟨E, hE, ρ_q, α_q, τ_q, -, hsub, hS⟩ := hQ
    have hE : E = ([(0, 0)], 1, [], [], [], 0, 0) := by simpa [fI] using hE
    subst hE
    refine ⟨?_, fun q hq hn => (hS.2.1 q (fun hp => hp.elim hq hn)).1, hKnd τ_q h_q hS.1.2.2.2.2 (hsub a K (by show (if a = a then some K else none) = some K; rw [if_pos rfl]))⟩
    have hstk := hS.1.2.2.1
    cases v with
    | none => rfl
    | some v => exact hstk.elim
  · obtain ⟨q, hq, -⟩ := hX
    cases hq
theorem tFill {D : va_G} {dA : Nat → ClassId} {B : Nat} {l : Launch} (hl0 : l.stackTraces = false) : kFill D dA vwCl tTA B tNw tNc tAo tW0 l tMth 82 := by
  intro d hd h a N V hN hB ha hV
  simp only [List.mem_cons, List.not_mem_nil, or_false] at hN
  rcases hN with rfl | rfl | rfl | rfl
  · exact fill_one hl0 (K := 0) rfl rfl hd hB ha hV
  · exact fill_one hl0 (K := 1) rfl rfl hd hB ha hV
  · exact fill_one hl0 (K := 2) rfl rfl hd hB ha hV
  · exact fill_one hl0 (K := 3) rfl rfl hd hB ha hV
