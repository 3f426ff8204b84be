/-- what more is known at the law's entry -/
theorem law_start {p : Program} {e : Env} {s : State} {m : MethodId} {below : List Frame} {meth : Method} {c : Code} (l : Launch) (hl0 : l.stackTraces = false) {b L : Nat} {xs : Nat → Int32} (hL : L ≤ 6) (hexec : p.tables.exec = Jvm.exec) (hcode : c.code = code) (hret : meth.sig.returnType = ret) (hml : c.maxLocals = 8) (hown : s.vm.findClass "RoundReckonerLaw" = some m.cls) (hts : ∀ w ∈ lw_tbl, w.before #[Value.ref b] s = true) (hX : va_X b L xs s s.heap) (hbl : b < s.heap.size) (hlocks : meth.locks = false) (hgv : (Jvm.Cond.and given_1 narrow_1).before #[Value.ref b] s = true)
    (hn : meth.name = x.name) (hx : c.exceptionTable.toList = []) :
    W p l e room_1 s m #[Value.ref b] below meth c s.heap [] 0 0 (fun t => ∃ o, t.status = .running ∧ Ended t below o ∧ o = .returned (some (.int 1)) ∧ Framed s o t [] 600002 7302232) (entryFrame m ([Value.ref b] : List Value).toArray 8) := by
  obtain ⟨D, dA, hE⟩ := tEnv hts hgv
  have hb31 : ((b, L, fun j => (xs j).toInt) : aSc).2.1 < 2147483648 := by show L < 2147483648; omega
  have C : xCx p s m #[Value.ref b] c code maxLocals tW0 "RoundReckonerLaw" D dA vwCl tTA tTy s.heap.size := ⟨hexec, hcode, hml, hown, fun w hw => hts w (List.mem_filter.mp hw).1, hE.1, tTab, Nat.le_refl _⟩
  have hJ := aAllMt (D := D) (dA := dA) (B := s.heap.size) (l := l) (b := (b, L, fun j => (xs j).toInt)) tSg tTab hl0 hb31 tCk
  have hBg := aSg_bg (D := D) (dA := dA) (B := s.heap.size) (b := (b, L, fun j => (xs j).toInt)) (Ts := tW0) (s := s) (meth := meth) (c := c) (fun w hw => hw) lSg hb31 hE hn hret hx
  have hR : aOkR tR0 (fun k => if k = 0 then 0 else if k = 1 then (L : Int) else if k < 8 then (xs (k - 2)).toInt else 0) := by
    intro k
    by_cases h0 : k < 8
    · have hx1 := fun j => (xs j).le_toInt
      have hx2 := fun j => (xs j).toInt_lt
      have hc : k = 0 ∨ k = 1 ∨ k = 2 ∨ k = 3 ∨ k = 4 ∨ k = 5 ∨ k = 6 ∨ k = 7 := by omega
      rcases hc with rfl | rfl | rfl | rfl | rfl | rfl | rfl | rfl
      · exact ⟨(show (0 : Int) ≤ 0 from Int.le_refl _), (show (0 : Int) ≤ 0 from Int.le_refl _)⟩
      · exact ⟨by show (0 : Int) ≤ (L : Int); omega, by show (L : Int) ≤ 6; omega⟩
      all_goals
        refine ⟨?_, ?_⟩
        · show (-2147483648 : Int) ≤ (xs _).toInt
          have := hx1
          simpa using this _
        · show (xs _).toInt ≤ 2147483647
          have := hx2
          exact Int.le_of_lt_add_one (by simpa using this _)
    · have e1 : aG tR0 k = (0, 0) := by
        unfold aG
        rw [List.getD_eq_getElem?_getD, List.getElem?_eq_none (by show 8 ≤ k; omega)]
        rfl
      rw [e1]
      dsimp only
      rw [if_neg (by omega), if_neg (by omega), if_neg h0]
      exact ⟨Int.le_refl _, Int.le_refl _⟩
  have hA : aSx tKd s.heap.size (b, L, fun j => (xs j).toInt) (fun _ => True) (fun _ => none) (fun k => if k = 0 then 0 else if k = 1 then (L : Int) else if k < 8 then (xs (k - 2)).toInt else 0) (fun _ => none) (fun _ => none) (aEn jL) (lv_args 0 [Value.ref b]) [] (fun _ => none) := by
    refine ⟨⟨hR, ?_, trivial, ⟨fun o ho => (by cases ho), List.Pairwise.nil⟩, fun a K h => (by cases h)⟩, fun a h => absurd trivial h, fun o ho => (by cases ho), fun _ _ => trivial⟩
    intro q hq
    have : q = (0, 7, 1, 0) := by simpa [aEn, jL, aArgs] using hq
    subst this
    refine ⟨.ref b, rfl, rfl, rfl, fun j hj => ?_⟩
    show (if 1 + 1 + j = 0 then (0 : Int) else if 1 + 1 + j = 1 then (L : Int) else if 1 + 1 + j < 8 then (xs (1 + 1 + j - 2)).toInt else 0) = (xs j).toInt
    rw [if_neg (by omega), if_neg (by omega), if_pos (by omega), show 1 + 1 + j - 2 = j by omega]
  have hs := aOkB_ok (below := below) (e := e) (sc := true) (xs := xs) C hE hlocks hl0 hJ hBg (fun _ => ⟨hX, hbl, (by show ¬ s.heap.size ≤ b; omega), fun j _ => rfl⟩) law_ok hA (Nat.le_refl _) (Nat.le_refl _)
  have hw := hs s.heap _ [] (fun a c h => by cases h) (lv_entry [Value.ref b] (n := maxLocals) (by show (1 : Nat) ≤ 8; decide)) va_S.rf
  rw [lg_entry_eq]
  intro T hT X
  obtain ⟨t, a1, o, b1, b2, b3⟩ := hw T hT X
  refine ⟨t, a1, o, b1, b2, ?_⟩
  rcases b3 with ⟨hq, Lc, hfe, hLc⟩ | ⟨q, rfl, E, ce, Lc, hxc, -⟩
  · obtain ⟨v, h1, rfl, hQ, -, -⟩ := hq
    obtain ⟨E, hE1, ρ', α', τ', -, -, hSx⟩ := hQ
    have hEe : E = (tR0, 0, [], [(0, 0, 1)], [], 600002, 7302232) := by simpa [jL] using hE1
    subst hEe
    have hstk := hSx.1.2.2.1
    have h00 : ρ' 0 = 0 := aZ_ok (R := tR0) (by decide) hSx.1.1
    cases v with
    | none => exact hstk.elim
    | some v =>
      obtain ⟨⟨z, rfl, hz⟩, -⟩ := hstk
      have hz1 : z.toInt = 1 := by
        have hz' : z.toInt = ρ' 0 + 1 := hz
        rw [hz', h00]
        rfl
      have hz2 : z = 1 := Int32.toInt_inj.mp (by rw [hz1]; rfl)
      subst hz2
      exact ⟨rfl, hfe.1, hfe.2.1, State.sameButNew.drop_fresh (L := []) (J := Lc) hfe.2.2 hLc⟩
  · obtain ⟨h1, ⟨q9, hq9, -⟩, -⟩ := hxc
    cases hq9
