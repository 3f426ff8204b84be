/-! ===== the law's loop, and its beginning ===== -/
/-- the law answers 1 -/
noncomputable def lS9 : zSpc := fun _ _ _ v _ => v = 1
theorem rL_val {ρ : Nat → Int} : rE ρ rL_ = ρ 0 - ρ 1 := by
  show (0 : Int) + (Int.negSucc 0 * ρ 1 + (1 * ρ 0 + 0)) = _
  have : (Int.negSucc 0 : Int) = -1 := rfl
  rw [this]
  omega
theorem lrow {l1 : List zNx} (hgo : zCov l1 qLs = true) {ρ ρ_q : Nat → Int} {γ γ_q : Nat → rHp} (hW : rRg uW (γ 1)) (hJ : lJC (ρ 1) (γ 1)) {q : zNx} (hq : q ∈ l1) (g1 : rSm0 pL0_ ρ ρ_q γ γ_q) (g2 : zK uW uT wZ_.2.2.2.1 ρ_q γ_q q.2.2.1) (g3 : zLgs uS ρ_q γ_q q.2.2.2.1) : zGl (fun _ vs g1 => lJC (vs.getD 1 0) g1) (fun _ v _ => v = 1) q ρ_q γ_q := by
  obtain ⟨P, hP, hsub⟩ := List.any_eq_true.mp (List.all_eq_true.mp hgo q hq)
  obtain ⟨hF, e1, e2, e3, e4, e5⟩ := zSub_ok (W := uW) (T := uT) (i0 := wZ_.2.2.2.1) (m := 1) (S := uS) (a := zAg 1 ρ_q) (g := γ_q 0) (ρ := ρ_q) (γ := γ_q) hsub ⟨rfl, rfl, g2, g3⟩
  obtain ⟨hO, -⟩ := zOpen hF
  have k1 : ρ_q 1 = ρ 1 := g1.1 1 (by decide)
  have k2 : γ_q 1 = γ 1 := g1.2 1 (by decide)
  have h9 := lr_all (uSi sE0) (uSi sE3) (uSi sE4) (uSi sE51) (uSi sE52) (uSi sE54) (uSi sE78) (uSi sE84) (uSi sE89) (uSi sE90) (uSi sE91) (uSi sE166) (uSi sE167) (uSi sE267) (uSi sE268) (uSi sE269) (uSi sE270) (uSi sE273) (uSi sE274) (uSi sE275) (uSi sE279) P hP ρ_q γ_q (by rw [k2]; exact hW) (by rw [k1, k2]; exact hJ) hO
  unfold zGl at h9 ⊢
  rw [e1, e2, e3, e4, e5] at h9
  exact h9
section S60b
variable {p : Program} {l : Launch} {e : Env} {R0 : Room} {s : State} {m : MethodId} {args : Array Value} {below : List Frame} {meth : Method} {c : Code}
variable {D : va_G} {dA : Nat → ClassId} {B : Nat} {A : rA} {b : aSc} {ρ0 : Nat → Int} {γ0 : Nat → rHp} {xs : Nat → Int32} {k0 n0 : Nat}
theorem law_loop (C : xCx p s m args c code maxLocals tW0 "RoundReckonerLaw" D dA vwCl tTA tTy B) (hE : xEnv D dA vwCl tTA B tNw tNc tAo s) (hlocks : meth.locks = false) (hl0 : l.stackTraces = false) (hL : b.2.1 < 2147483648) (hBg : aBg "RoundReckonerLaw" tW0 vwCl tTA tTy [] tNw tNc tW0 tMth uMx tXn b meth s c code maxLocals vL_) (hI : rInj uW A)
    (hX : (va_X b.1 b.2.1 xs s s.heap ∧ b.1 < s.heap.size ∧ ¬ B ≤ b.1) ∧ ∀ j : Nat, j < b.2.1 → γ0 0 (uW.length - 1) 0 (j : Int) = (xs j).toInt) (hf : 60 ≤ R0.frames) (hlo : 2000 ≤ R0.locals) (hk : k0 + 3073 ≤ R0.cells) (hn : n0 + 18438 ≤ R0.slots) :
    ∀ (n : Nat) (ρ : Nat → Int) (γ : Nat → rHp) (lv : List (Nat × Value)) (st : List Value) (h : xH), rSt uW uT B A b wZ_.2.2.2.1 ρ γ pL0_ lv st h → ((∀ k, k < wZ_.2.2.1.1.length → ρ k = ρ0 k) ∧ γ 0 = γ0 0) → 0 ≤ rE ρ rL_ → rE ρ rL_ < (n : Int) → rE ρ rL_ ≤ 3072 → lJC (ρ 1) (γ 1) →
      xSafe p l e R0 s m args below meth c maxLocals D dA vwCl tTA B (yEnd below args s D dA vwCl tTA B (zQs uW uT B A b ρ0 γ0 lS9 wZ_) (zXs uW uT B A b ρ0 γ0 tXn lS9 wZ_) R0.cells R0.slots R0.cells R0.slots) 23 lv st h (k0 + (3072 - (rE ρ rL_).toNat)) (n0 + 6 * (3072 - (rE ρ rL_).toNat)) := by
  intro n
  induction n with
  | zero => intro ρ γ lv st h _ _ h1 h2 _ _; omega
  | succ n ih =>
    intro ρ γ lv st h hA hs h1 h2 h3 hJ
    have hRm : rRmo wZ_ R0 (k0 + (3072 - (rE ρ rL_).toNat)) (n0 + 6 * (3072 - (rE ρ rL_).toNat)) R0.cells R0.slots := by
      refine ⟨hf, ?_, ?_, hlo, ?_, ?_⟩
      · show 1 + _ ≤ _; omega
      · show 6 + _ ≤ _; omega
      · show 1 + _ ≤ _; omega
      · show 6 + _ ≤ _; omega
    have hgo := lRun_ok
    unfold lRun at hgo
    split at hgo
    · rename_i l1 hl1
      have := zGo_ok (p := p) (l := l) (e := e) (below := below) (sc := true) (Bd := lBd) (ann := lAn) (r0 := some rL_) (v0 := rE ρ rL_) (J := uJL) (S := uS) (S9 := lS9) (ρ0 := ρ0) (γ0 := γ0) (xs := xs) (σs := pL0_) (ρs := ρ) (γs := γ) (Kk := fun _ vs _ g9 => lJC (vs.getD 1 0) g9) (lf := l1) C hE hlocks hRm hl0 (uAllZ hl0 hL hI) hBg (fun x hx => by cases hx) uKt hI (fun _ => hX) (fun i pc P r hin ρ_q γ_q lv_q st_q h_q g1 g2 g4 g5 g6 => ?_) (fun q hq q0 ρ_q γ_q g1 g2 g3 => ?_) (fun q hq q0 ρ_q γ_q g1 g2 g3 => ?_) 600 23 pL0_ [] ρ γ lv st h l1 hl1 (fun z hz => hz) hA hs (by show 1 ≤ 5; decide) (Nat.le_refl _) (Nat.le_refl _) rSm0_rf (fun z hz => by cases hz) rfl (fun r hr => by cases hr; exact ⟨by decide +kernel, rfl⟩)
      · have e0 : pL0_.2.2.2.2.2.2.1 = 0 := rfl
        have e1 : pL0_.2.2.2.2.2.2.2 = 0 := rfl
        rw [e0, e1, Nat.zero_add, Nat.zero_add] at this
        exact this
      · have hin : (pc, P, r) = (23, pL1_, rL_) := by
          have := List.mem_of_getElem? hin
          simpa [lAn] using this
        cases hin
        have g5 := g5 (by simp)
        have g1 : rSt uW uT B A b wZ_.2.2.2.1 ρ_q γ_q pL0_ lv_q st_q h_q := g1
        have := ih ρ_q γ_q lv_q st_q h_q g1 g2 g4 (by omega) (by omega) (show lJC (ρ_q 1) (γ_q 1) from g6)
        have e0 : pL1_.2.2.2.2.2.2.1 = 1 := rfl
        have e1 : pL1_.2.2.2.2.2.2.2 = 6 := rfl
        rw [e0, e1]
        exact xSafe_widen (by omega) (by omega) this
      · have h9 := lrow hgo (hA.1.2.2.2.2.1 1 (by decide)) hJ hq g1 g2 g3
        unfold zGl at h9
        rw [q0] at h9
        show rE ρ_q _ = 1
        rw [zE_eq]
        exact h9
      · have h9 := lrow hgo (hA.1.2.2.2.2.1 1 (by decide)) hJ hq g1 g2 g3
        unfold zGl at h9
        rw [q0] at h9
        rw [funext (zE_eq ρ_q)]
        exact h9
    · cases hgo
end S60b
theorem yU_start {g : rHp} (a3 : g 3 0 1 = 0) (a7 : g 15 0 8 = 0) (a11 : g 15 0 32 = 0) (d : ∀ a b : Int, 0 ≤ a → a < b → b ≤ 60 → g 40 0 a ≠ g 40 0 b) : yU g g := by
  refine ⟨fun i j i0 i1 j0 j1 e => ?_, ⟨by rw [a3, a7], fun k k0 k1 => by rw [a3] at k1; omega⟩, fun r r0 r1 => by rw [a11] at r1; omega⟩
  rcases Int.lt_trichotomy i j with q | q | q
  · exact absurd e (d i j i0 q j1)
  · exact q
  · exact absurd e.symm (d j i j0 q i1)
theorem Rel_start {g : rHp} (a1 : g 2 0 3 = 0) (a2 : g 15 0 3 = 0) (a3 : g 3 0 1 = 0) (a4 : g 1 0 7 = 0) (a5 : g 1 0 9 = 0) (a6 : g 1 0 10 = 0) (a7 : g 15 0 8 = 0) (a8 : g 15 0 9 = 0) (a9 : g 15 0 13 = 0) (a10 : g 15 0 17 = 0) (a11 : g 15 0 32 = 0) : Rel 0 g g := by
  have p14 : rUp g 15 0 14 (g 15 0 13) 15 0 14 = g 15 0 13 := rUp_at
  unfold Rel qNc qNm qP FR
  rw [p14, a1, a2, a3, a4, a5, a6, a7, a8, a9, a10, a11]
  refine ⟨⟨rfl, by decide, by decide, fun j j0 j1 => ?_⟩, ⟨by decide, fun i j i0 i1 _ _ _ => ?_⟩, ⟨by decide, by decide, fun k k0 k1 => ?_, fun i j i0 i1 _ _ _ _ => ?_⟩, by decide, ⟨rfl, by decide, by decide, fun p p0 p1 => ?_⟩, ⟨rfl, by decide, by decide⟩, ⟨rfl, by decide, by decide⟩, fun f f0 f1 => ?_⟩
  all_goals omega
theorem law_start {p : Program} {e : Env} {s : State} {m : MethodId} {below : List Frame} {meth : Method} {c : Code} (l : Launch) (hl0 : l.stackTraces = false) {b L : Nat} {xs : Nat → Int32} (hL : L ≤ 3072) (hexec : p.tables.exec = Jvm.exec) (hcode : c.code = code) (hret : meth.sig.returnType = ret) (hml : c.maxLocals = maxLocals) (hown : s.vm.findClass "RoundReckonerLaw" = some m.cls) (hts : ∀ w ∈ lw_tbl, w.before #[Value.ref b] s = true) (hX : va_X b L xs s s.heap) (hbl : b < s.heap.size) (hlocks : meth.locks = false) (hgv : (Jvm.Cond.and given_1 narrow_1).before #[Value.ref b] s = true)
    (hn : meth.name = x.name) (hx : c.exceptionTable.toList = []) :
    W p l e room_1 s m #[Value.ref b] below meth c s.heap [] 0 0 (fun t => ∃ o, t.status = .running ∧ Ended t below o ∧ o = .returned (some (.int 1)) ∧ Framed s o t [] room_1.cells room_1.slots) (entryFrame m ([Value.ref b] : List Value).toArray maxLocals) := by
  obtain ⟨D, dA, hE⟩ := tEnv hts hgv
  have hb31 : ((b, L, fun j => (xs j).toInt) : aSc).2.1 < 2147483648 := by show L < 2147483648; omega
  have C : xCx p s m #[Value.ref b] c code maxLocals tW0 "RoundReckonerLaw" D dA vwCl tTA tTy s.heap.size := ⟨hexec, hcode, hml, hown, fun w hw => hts w (List.mem_filter.mp hw).1, hE.1, tTab, Nat.le_refl _⟩
  have hBg := aSg_bg (D := D) (dA := dA) (B := s.heap.size) (b := (b, L, fun j => (xs j).toInt)) (Ts := tW0) (s := s) (meth := meth) (c := c) (fun w hw => hw) lSg hb31 hE hn hret hx
  have hF : kFill D dA vwCl tTA s.heap.size tNw tNc tAo tW0 l tMth 82 := tFill hl0
  have hS := kCall_ok (D := D) (dA := dA) (B := s.heap.size) (l := l) (rm := uRm) (bds := uBds) (tSg tKt_nil) tTab hF 5
  have hgo := uGo_ok
  cases hq : uGo with
  | none => rw [hq] at hgo; cases hgo
  | some q =>
    rw [hq] at hgo
    simp only [ckS, Bool.and_eq_true] at hgo
    obtain ⟨⟨⟨⟨⟨⟨q1, q2⟩, q3⟩, q4⟩, q5⟩, q6⟩, q7⟩ := hgo
    have q1 := Nat.eq_of_beq_eq_true q1
    have q4 := Nat.eq_of_beq_eq_true q4
    have q5 := Nat.le_of_ble_eq_true q5
    have q6 := Nat.le_of_ble_eq_true q6
    have q3 : q.2.2.1 = [] := List.isEmpty_iff.mp q3
    have hfin : xSafe p l e room_1 s m #[Value.ref b] below meth c maxLocals D dA vwCl tTA s.heap.size (fun t => ∃ o, t.status = .running ∧ Ended t below o ∧ o = .returned (some (.int 1)) ∧ Framed s o t [] room_1.cells room_1.slots) 0 (lv_args 0 [Value.ref b]) [] (fun _ => none) 0 0 := by
      refine kTo_ok (stop := fun pc _ => Nat.beq pc 23) (fl := 82) (rm := uRm) (rc := 3071) (rs := 464756) (d0 := 5) (p := p) (l := l) (e := e) (below := below) C hE hBg hS hF (by decide) (by decide) (by decide) (by decide) 100 0 ([(0, .ref 0)], [], [], 1, 0, 0) (fun _ => b) (lv_args 0 [Value.ref b]) [] (fun _ => none) q hq ⟨rfl, rfl, ⟨(fun i hi c hc => by cases hc), fun i j hi hj ni => absurd rfl ni⟩, fun z hz => ?_, (fun v hv => by cases hv)⟩ (fun as lv st h hup hA => ?_)
      · have : z = (0, .ref 0) := by simpa using hz
        subst this
        intro i hi
        cases hi
        exact Nat.lt_succ_self 0
      · obtain ⟨hn9, has⟩ := hup
        have ha0 : as 0 = b := has 0 (Nat.lt_succ_self 0)
        have hR : kRel as s.heap.size 3072 q.2.2.2.1 h := by
          have := hA.2.2.1
          rw [q4] at this
          exact this
        have hst : st = [] := by
          have := hA.2.1
          rw [q3] at this
          exact this
        subst hst
        have hI := st_inj hR q7
        have hrg := st_rg (xs := xs) hR q7
        have hlay := st_lay (xs := xs) hR q7
        have hivs := uIvs (as := as) (h := h) (xs := xs)
        have hX9 : (va_X b L xs s s.heap ∧ b < s.heap.size ∧ ¬ s.heap.size ≤ b) ∧ ∀ j : Nat, j < L → (fun _ : Nat => sG as h xs) 0 (uW.length - 1) 0 (j : Int) = (xs j).toInt := by
          refine ⟨⟨hX, hbl, by omega⟩, fun j hj => ?_⟩
          show sG as h xs (uW.length - 1) 0 (j : Int) = _
          have e1 : uW.length - 1 = 113 := by decide +kernel
          rw [e1]
          unfold sG
          rw [if_pos rfl, if_pos (by omega), Int.toNat_natCast]
        have hz : ∀ (G n : Nat) (q : rGr), uW[G]? = some q → G ≠ 113 → uFst G = false → uPl G = true → zv (rTy q n) = 0 → sG as h xs G 0 (n : Int) = 0 := by
          intro G n q hG g1 g2 g3 g4
          unfold sG
          rw [if_neg g1, if_neg (by rw [g2]; rintro ⟨q, -⟩; cases q), gW_eq hG, Int.toNat_natCast, uPl_ok g3, g4]
        have hSt : rSt uW uT s.heap.size (uA as) (b, L, fun j => (xs j).toInt) wZ_.2.2.2.1 (fun k => if k = 0 then (L : Int) else 0) (fun _ => sG as h xs) pL0_ lv [] h := by
          refine ⟨⟨fun k => ?_, fun g hg => ?_, ⟨?_, trivial⟩, fun z hz9 => ?_, fun n _ => hrg, hivs⟩, fun z hz9 => ?_, trivial, hlay⟩
          · by_cases hk : k < 5
            · rcases (show k = 0 ∨ k = 1 ∨ k = 2 ∨ k = 3 ∨ k = 4 by omega) with rfl | rfl | rfl | rfl | rfl
              · exact ⟨by show (0 : Int) ≤ (L : Int); omega, by show (L : Int) ≤ 3072; omega⟩
              all_goals exact ⟨Int.le_refl _, Int.natCast_nonneg _⟩
            · have e1 : aG pL0_.1 k = (0, 0) := by
                unfold aG
                rw [List.getD_eq_getElem?_getD, List.getElem?_eq_none (by show 5 ≤ k; omega)]
                rfl
              rw [e1]
              dsimp only
              rw [if_neg (by omega)]
              exact ⟨Int.le_refl _, Int.le_refl _⟩
          · have hg : g ∈ [([(1, Int.negSucc 0), (0, Int.ofNat 1)], Int.ofNat 0), ([(3, Int.negSucc 0), (2, Int.negSucc 0), (1, Int.ofNat 4)], Int.ofNat 0), ([(4, Int.negSucc 0), (2, Int.negSucc 0), (1, Int.ofNat 4)], Int.ofNat 0)] := hg
            simp only [List.mem_cons, List.not_mem_nil, or_false] at hg
            rcases hg with rfl | rfl | rfl
            · show (0 : Int) ≤ 0 + (Int.negSucc 0 * 0 + (1 * (L : Int) + 0))
              omega
            · show (0 : Int) ≤ 0 + (Int.negSucc 0 * 0 + (Int.negSucc 0 * 0 + (4 * 0 + 0)))
              decide
            · show (0 : Int) ≤ 0 + (Int.negSucc 0 * 0 + (Int.negSucc 0 * 0 + (4 * 0 + 0)))
              decide
          · unfold rD1
            rw [if_neg (show ¬ (1 : Nat) = 0 by decide)]
            exact ⟨fun _ _ _ _ => rfl, hivs⟩
          · have hz9 : z ∈ [(1, 2, ([], Int.ofNat 0), ([], Int.ofNat 3), ([(2, Int.ofNat 1)], Int.ofNat 0)), (1, 15, ([], Int.ofNat 0), ([], Int.ofNat 3), ([(2, Int.ofNat 1)], Int.ofNat 0)), (1, 15, ([], Int.ofNat 0), ([], Int.ofNat 8), ([(3, Int.ofNat 1)], Int.ofNat 0)), (1, 15, ([], Int.ofNat 0), ([], Int.ofNat 9), ([(4, Int.ofNat 1)], Int.ofNat 0))] := hz9
            simp only [List.mem_cons, List.not_mem_nil, or_false] at hz9
            rcases hz9 with rfl | rfl | rfl | rfl
            · exact hz 2 3 (gW 2) rfl (by decide) (by decide +kernel) (by decide +kernel) (by decide +kernel)
            · exact hz 15 3 (gW 15) rfl (by decide) (by decide +kernel) (by decide +kernel) (by decide +kernel)
            · exact hz 15 8 (gW 15) rfl (by decide) (by decide +kernel) (by decide +kernel) (by decide +kernel)
            · exact hz 15 9 (gW 15) rfl (by decide) (by decide +kernel) (by decide +kernel) (by decide +kernel)
          · have hlv : ∀ i, xget lv i = (xget q.2.1 i).map (kRn as) := fun i => by rw [hA.1, xget_rn]
            simp only [ckLv, Bool.and_eq_true] at q2
            obtain ⟨⟨⟨⟨l0, l1⟩, l2⟩, l3⟩, l4⟩ := q2
            have hz9 : z ∈ [(0, (7, 0, ([(0, Int.ofNat 1)], Int.ofNat 0))), (1, (2, 0, ([], Int.ofNat 0))), (2, (2, 15, ([], Int.ofNat 0))), (3, (2, 112, ([], Int.ofNat 0))), (4, (0, 0, ([(1, Int.ofNat 1)], Int.ofNat 0)))] := hz9
            simp only [List.mem_cons, List.not_mem_nil, or_false] at hz9
            rcases hz9 with rfl | rfl | rfl | rfl | rfl
            · split at l0
              · rename_i i hi
                refine ⟨.ref (as i), by rw [hlv, hi]; rfl, ?_, ?_⟩
                · rw [Nat.eq_of_beq_eq_true l0, ha0]
                · show (0 : Int) + (1 * (L : Int) + 0) = (L : Int)
                  omega
              · cases l0
            · split at l1
              · rename_i i hi
                refine ⟨.ref (as i), by rw [hlv, hi]; rfl, ?_, gW 0, rfl, Int.le_refl _, (show (0 : Int) < (gW 0).2.2.1 by decide +kernel)⟩
                rw [Nat.eq_of_beq_eq_true l1]
                rfl
              · cases l1
            · split at l2
              · rename_i i hi
                refine ⟨.ref (as i), by rw [hlv, hi]; rfl, ?_, gW 15, rfl, Int.le_refl _, (show (0 : Int) < (gW 15).2.2.1 by decide +kernel)⟩
                rw [Nat.eq_of_beq_eq_true l2]
                rfl
              · cases l2
            · split at l3
              · rename_i i hi
                refine ⟨.ref (as i), by rw [hlv, hi]; rfl, ?_, gW 112, rfl, Int.le_refl _, (show (0 : Int) < (gW 112).2.2.1 by decide +kernel)⟩
                rw [Nat.eq_of_beq_eq_true l3]
                rfl
              · cases l3
            · split at l4
              · rename_i w hw
                refine ⟨.int w, by rw [hlv, hw]; rfl, w, rfl, ?_⟩
                rw [rIq_ok l4]
                rfl
              · cases l4
        have z0 : lJC ((fun k : Nat => if k = 0 then (L : Int) else 0) 1) ((fun _ : Nat => sG as h xs) 1) := by
          show lJC 0 (sG as h xs)
          have a1 : sG as h xs 2 0 3 = 0 := hz 2 3 (gW 2) rfl (by decide) (by decide +kernel) (by decide +kernel) (by decide +kernel)
          have a2 : sG as h xs 15 0 3 = 0 := hz 15 3 (gW 15) rfl (by decide) (by decide +kernel) (by decide +kernel) (by decide +kernel)
          have a3 : sG as h xs 3 0 1 = 0 := hz 3 1 (gW 3) rfl (by decide) (by decide +kernel) (by decide +kernel) (by decide +kernel)
          have a4 : sG as h xs 1 0 7 = 0 := hz 1 7 (gW 1) rfl (by decide) (by decide +kernel) (by decide +kernel) (by decide +kernel)
          have a5 : sG as h xs 1 0 9 = 0 := hz 1 9 (gW 1) rfl (by decide) (by decide +kernel) (by decide +kernel) (by decide +kernel)
          have a6 : sG as h xs 1 0 10 = 0 := hz 1 10 (gW 1) rfl (by decide) (by decide +kernel) (by decide +kernel) (by decide +kernel)
          have a7 : sG as h xs 15 0 8 = 0 := hz 15 8 (gW 15) rfl (by decide) (by decide +kernel) (by decide +kernel) (by decide +kernel)
          have a8 : sG as h xs 15 0 9 = 0 := hz 15 9 (gW 15) rfl (by decide) (by decide +kernel) (by decide +kernel) (by decide +kernel)
          have a9 : sG as h xs 15 0 13 = 0 := hz 15 13 (gW 15) rfl (by decide) (by decide +kernel) (by decide +kernel) (by decide +kernel)
          have a10 : sG as h xs 15 0 17 = 0 := hz 15 17 (gW 15) rfl (by decide) (by decide +kernel) (by decide +kernel) (by decide +kernel)
          have a11 : sG as h xs 15 0 32 = 0 := hz 15 32 (gW 15) rfl (by decide) (by decide +kernel) (by decide +kernel) (by decide +kernel)
          have a12 : sG as h xs 0 0 7 = 0 := by
            unfold sG
            rw [if_neg (show ¬ (0 : Nat) = 113 by decide), if_neg (by rw [show uFst 0 = false from by decide +kernel]; rintro ⟨q, -⟩; cases q)]
            exact (show uZn 0 7 (rTy (gW 0) 7) = 0 from by decide +kernel)
          have a13 : sG as h xs 15 0 59 = 0 := hz 15 59 (gW 15) rfl (by decide) (by decide +kernel) (by decide +kernel) (by decide +kernel)
          have b1 : sG as h xs 7 0 1 = 0 := hz 7 1 (gW 7) rfl (by decide) (by decide +kernel) (by decide +kernel) (by decide +kernel)
          have b2 : sG as h xs 15 0 4 = 0 := hz 15 4 (gW 15) rfl (by decide) (by decide +kernel) (by decide +kernel) (by decide +kernel)
          have s46 : ∀ x y : Int, sG as h xs 46 x y = 0 := by
            intro x y
            unfold sG
            rw [if_neg (show ¬ (46 : Nat) = 113 by decide), if_neg (by rw [show uFst 46 = false from by decide +kernel]; rintro ⟨q, -⟩; cases q), uPl_ok (show uPl 46 = true from by decide +kernel), rTy_arr (show 1000 ≤ (gW 46).1 from by decide +kernel)]
            exact (show zv (rTy (gW 46) 0) = 0 from by decide +kernel)
          have b5 : sG as h xs 0 0 5 = 0 := by
            unfold sG
            rw [if_neg (show ¬ (0 : Nat) = 113 by decide), if_neg (by rw [show uFst 0 = false from by decide +kernel]; rintro ⟨q, -⟩; cases q)]
            exact (show uZn 0 5 (rTy (gW 0) 5) = 0 from by decide +kernel)
          have b6 : sG as h xs 0 0 6 = 1 := by
            unfold sG
            rw [if_neg (show ¬ (0 : Nat) = 113 by decide), if_neg (by rw [show uFst 0 = false from by decide +kernel]; rintro ⟨q, -⟩; cases q)]
            exact (show uZn 0 6 (rTy (gW 0) 6) = 1 from by decide +kernel)
          have b7 : ∀ k : Int, sG as h xs 8 k 1 = 0 := by
            intro k
            unfold sG
            rw [if_neg (show ¬ (8 : Nat) = 113 by decide), if_neg (by rw [show uFst 8 = false from by decide +kernel]; rintro ⟨q, -⟩; cases q)]
            exact (show uZn 8 1 (rTy (gW 8) 1) = 0 from by decide +kernel)
          have b8 : sG as h xs 15 0 93 = 0 := hz 15 93 (gW 15) rfl (by decide) (by decide +kernel) (by decide +kernel) (by decide +kernel)
          have b9 : sG as h xs 0 0 8 = 0 := by
            unfold sG
            rw [if_neg (show ¬ (0 : Nat) = 113 by decide), if_neg (by rw [show uFst 0 = false from by decide +kernel]; rintro ⟨q, -⟩; cases q)]
            exact (show uZn 0 8 (rTy (gW 0) 8) = 0 from by decide +kernel)
          have b10 : sG as h xs 0 0 9 = 0 := by
            unfold sG
            rw [if_neg (show ¬ (0 : Nat) = 113 by decide), if_neg (by rw [show uFst 0 = false from by decide +kernel]; rintro ⟨q, -⟩; cases q)]
            exact (show uZn 0 9 (rTy (gW 0) 9) = 0 from by decide +kernel)
          have b11 : sG as h xs 15 0 74 = 0 := hz 15 74 (gW 15) rfl (by decide) (by decide +kernel) (by decide +kernel) (by decide +kernel)
          have b12 : sG as h xs 15 0 75 = 0 := hz 15 75 (gW 15) rfl (by decide) (by decide +kernel) (by decide +kernel) (by decide +kernel)
          exact ⟨0, by decide, ⟨⟨Rel_start a1 a2 a3 a4 a5 a6 a7 a8 a9 a10 a11, yU_start a3 a7 a11 (hv38_iff.mp (hivs 38 (by decide +kernel) hv38_ hv38_at)), by rw [a12, a13]⟩, fun w => absurd a12 w⟩, ⟨fun w => absurd a12 w, ⟨by rw [b1, b2], by rw [b2]; exact Int.le_refl _, fun j j0 j1 => by rw [b2] at j1; omega⟩, ⟨by rw [a3]; exact Int.le_refl _, fun x y => by rw [s46, a3]; decide⟩⟩, ⟨by rw [b5, b6]; decide, by rw [b7, b8], by rw [b8]; exact Int.le_refl _, fun w => absurd b8 w⟩, ⟨by rw [b9, b11], by rw [b10, b12]⟩⟩
        have hv : rE (fun k => if k = 0 then (L : Int) else 0) rL_ = (L : Int) := by
          rw [rL_val]
          show (L : Int) - 0 = _
          omega
        have hlp := law_loop (p := p) (l := l) (e := e) (R0 := room_1) (below := below) (k0 := 3071) (n0 := 464756) (ρ0 := fun k => if k = 0 then (L : Int) else 0) (γ0 := fun _ => sG as h xs) (xs := xs) C hE hlocks hl0 hb31 hBg hI hX9 (by decide) (by decide) (by decide) (by decide) 3073 _ _ lv [] h hSt ⟨fun _ _ => rfl, rfl⟩ (by rw [hv]; omega) (by rw [hv]; omega) (by rw [hv]; omega) z0
        rw [q1]
        have hlp2 := xSafe_widen (k := q.2.2.2.2.2.1) (n := q.2.2.2.2.2.2) (by omega) (by omega) hlp
        intro H ls locs g1 g2 g3 T hT X
        obtain ⟨t, a1, o, b1, b2, b3⟩ := hlp2 H ls locs g1 g2 g3 T hT X
        refine ⟨t, a1, o, b1, b2, ?_⟩
        rcases b3 with ⟨hq9, Lc, hfe, hLc⟩ | ⟨q9, rfl, E, ce, Lc, hxc, -⟩
        · obtain ⟨v, h1, rfl, hQ, -, -⟩ := hq9
          obtain ⟨E, hE1, ρ_q, γ_q, -, -, hSx, h9⟩ := hQ
          have hstk := hSx.2.2.1
          have hE2 : E.2.2.2.1 = [(0, 0, ([(1, Int.ofNat 1)], Int.ofNat 0))] := by
            have h5 : wZ_.2.2.2.2.1 = [wZ_.2.2.2.2.1.headD pL0_] := rfl
            rw [h5, List.mem_singleton] at hE1
            rw [hE1]
            rfl
          rw [hE2] at hstk h9
          have h9 : rE ρ_q ([(1, Int.ofNat 1)], Int.ofNat 0) = 1 := h9
          cases v with
          | none => exact hstk.elim
          | some v =>
            obtain ⟨⟨z, rfl, hz⟩, -⟩ := hstk
            have hz1 : z.toInt = 1 := hz.trans h9
            have hz2 : z = 1 := Int32.toInt_inj.mp (by rw [hz1]; rfl)
            subst hz2
            exact ⟨rfl, hfe.1, hfe.2.1, State.sameButNew.drop_fresh (L := []) (J := Lc) hfe.2.2 hLc⟩
        · obtain ⟨h1, ⟨q8, hq8, -⟩, -⟩ := hxc
          cases hq8
    have hw := hfin s.heap _ [] (fun a c h => by cases h) (lv_entry [Value.ref b] (n := maxLocals) (by show (1 : Nat) ≤ 8; decide)) va_S.rf
    rw [lg_entry_eq]
    exact hw
