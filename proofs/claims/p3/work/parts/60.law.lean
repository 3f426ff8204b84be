/-! ===== all cases ===== -/
def cpW : List Cond := [Cond.methodLink "RoundReckoner$Answers" 22 arraycopyName, Cond.methodLink "RoundReckoner$Clauses" 70 arraycopyName, Cond.methodLink "RoundReckoner$Engine" 74 arraycopyName, Cond.methodLink "RoundReckoner$Rows" 57 arraycopyName, Cond.native arraycopyName, Cond.static arraycopyName, Cond.initialized "java/lang/System"]
set_option maxRecDepth 100000 in
theorem cpW_ok : ∀ w ∈ cpW, w ∈ tW0 := inAt_ok (is := [(5, 31), (3, 192), (4, 201), (5, 54), (3, 194), (3, 193), (1, 21)]) (by decide +kernel)
def cpL : List (String × Nat) := [("RoundReckoner$Answers", 22), ("RoundReckoner$Clauses", 70), ("RoundReckoner$Engine", 74), ("RoundReckoner$Rows", 57)]
theorem cpX : ∀ q ∈ cpL, xCpy q.1 tW0 q.2 := by
  intro q hq
  simp only [cpL, List.mem_cons, List.not_mem_nil, or_false] at hq
  rcases hq with rfl | rfl | rfl | rfl
  all_goals exact ⟨cpW_ok _ (by simp [cpW]), cpW_ok _ (by simp [cpW]), cpW_ok _ (by simp [cpW]), cpW_ok _ (by simp [cpW])⟩
def cpOk (n : Nat) : Bool := match uJL[n]?, uAn[n]? with
  | some I, some a => a.2.2.2.all (fun x => match tMth[I.1]? with
    | some d => cpL.any (fun z => decide (d.1.cls = z.1) && Nat.beq x z.2)
    | none => true)
  | _, _ => true
set_option maxRecDepth 100000 in
theorem uJL_len : uJL.length = 280 := by decide +kernel
set_option maxRecDepth 100000 in
theorem cpOk_ok : (List.range 280).all cpOk = true := by decide +kernel
theorem uCp : ∀ (n : Nat) (I : rI) (a : List (Nat × rS × rX) × List rHn × List (Nat × Nat × Int) × List Nat) (d : aMd), uJL[n]? = some I → uAn[n]? = some a → tMth[I.1]? = some d → ∀ x ∈ a.2.2.2, xCpy d.1.cls tW0 x := by
  intro n I a d hI ha hd x hx
  have hlt := (List.getElem?_eq_some_iff.mp hI).1
  rw [uJL_len] at hlt
  have h1 := List.all_eq_true.mp cpOk_ok n (List.mem_range.mpr hlt)
  unfold cpOk at h1
  rw [hI, ha] at h1
  have h2 := List.all_eq_true.mp h1 x hx
  rw [hd] at h2
  obtain ⟨z, hz, h3⟩ := List.any_eq_true.mp h2
  simp only [Bool.and_eq_true, decide_eq_true_eq] at h3
  have := cpX z hz
  rw [h3.1, Nat.eq_of_beq_eq_true h3.2]
  exact this
section S60
variable {D : va_G} {dA : Nat → ClassId} {B : Nat} {l : Launch} {A : rA} {b : aSc}
/-- the case of the number n, where all ahead of it are so -/
theorem uOne (hl0 : l.stackTraces = false) (hL : b.2.1 < 2147483648) (hI : rInj uW A) {n : Nat} (h1 : rCkn 3000 uMx uW uT uJL uAn uBds n = true) (ih : ∀ m, m < n → ∀ (I : rI), uJL[m]? = some I → ∀ d : aMd, tMth[I.1]? = some d → rMt D dA vwCl tTA B tNw tNc tAo tW0 l uW uT A b tXn d.1 (aCw d) I) :
    ∀ (I : rI), uJL[n]? = some I → ∀ d : aMd, tMth[I.1]? = some d → rMt D dA vwCl tTA B tNw tNc tAo tW0 l uW uT A b tXn d.1 (aCw d) I := by
  intro I hI2 d hd
  unfold rCkn at h1
  rw [hI2] at h1
  split at h1
  · rename_i I' a hI' ha
    cases hI'
    split at h1
    · rename_i Bd hBd
      simp only [Bool.and_eq_true] at h1
      obtain ⟨g1, g2, g3⟩ := tSg tKt_nil _ d Bd hd hBd
      refine rMt_of (Bd := (Bd, a.2)) g1 (uCp n I a d hI2 ha hd) g2 tTab hl0 hL uKt hI (fun k I2 hk d2 hd2 => ?_) h1.1 (by rw [← g3]; exact Nat.le_of_ble_eq_true h1.2)
      have hlt : k < n := by
        have := (List.getElem?_eq_some_iff.mp hk).1
        simp at this
        omega
      rw [List.getElem?_take_of_lt hlt] at hk
      exact ih k hlt I2 hk d2 hd2
    · cases h1
  · cases h1
theorem uAll (hl0 : l.stackTraces = false) (hL : b.2.1 < 2147483648) (hI : rInj uW A) : ∀ (n : Nat) (I : rI), uJL[n]? = some I → ∀ d : aMd, tMth[I.1]? = some d → rMt D dA vwCl tTA B tNw tNc tAo tW0 l uW uT A b tXn d.1 (aCw d) I := by
  intro n
  induction n using Nat.strongRecOn with
  | ind n ih =>
    by_cases hn : n = 168
    · subst hn
      intro I hI2 d hd
      exact uHand hl0 hL hI ih I hI2 d hd
    · intro I hI2
      exact uOne hl0 hL hI (uCk n (List.getElem?_eq_some_iff.mp hI2).1 hn) ih I hI2
end S60
/-! ===== the law's loop ===== -/
noncomputable def lBd : rBd := (vL_, [], [], [])
noncomputable def lAn : List (Nat × rS × rX) := [(23, pL1_, rL_)]
set_option maxRecDepth 100000 in
theorem law_ck : rEx true uMx uW uT wL_ uJL lBd lAn (some rL_) 600 23 pL0_ = true := by decide +kernel
theorem rL_val {ρ : Nat → Int} : rE ρ rL_ = ρ 0 - ρ 1 := by
  show (0 : Int) + (Int.negSucc 0 * ρ 1 + (1 * ρ 0 + 0)) = _
  have : (Int.negSucc 0 : Int) = -1 := rfl
  rw [this]
  omega
section S60b
variable {p : Program} {l : Launch} {e : Env} {R0 : Room} {s : State} {m : MethodId} {args : Array Value} {below : List Frame} {meth : Method} {c : Code}
variable {D : va_G} {dA : Nat → ClassId} {B : Nat} {A : rA} {b : aSc} {ρ0 : Nat → Int} {γ0 : Nat → rHp} {xs : Nat → Int32} {k0 n0 : Nat}
theorem law_loop (C : xCx p s m args c code maxLocals tW0 "RoundReckonerLaw" D dA vwCl tTA tTy B) (hE : xEnv D dA vwCl tTA B tNw tNc tAo s) (hlocks : meth.locks = false) (hl0 : l.stackTraces = false) (hL : b.2.1 < 2147483648) (hBg : aBg "RoundReckonerLaw" tW0 vwCl tTA tTy [] tNw tNc tW0 tMth uMx tXn b meth s c code maxLocals vL_) (hI : rInj uW A)
    (hX : (va_X b.1 b.2.1 xs s s.heap ∧ b.1 < s.heap.size ∧ ¬ B ≤ b.1) ∧ ∀ j : Nat, j < b.2.1 → γ0 0 (uW.length - 1) 0 (j : Int) = (xs j).toInt) (hf : 60 ≤ R0.frames) (hlo : 2000 ≤ R0.locals) (hk : k0 + 3073 ≤ R0.cells) (hn : n0 + 18438 ≤ R0.slots) :
    ∀ (n : Nat) (ρ : Nat → Int) (γ : Nat → rHp) (lv : List (Nat × Value)) (st : List Value) (h : xH), rSt uW uT B A b wL_.2.2.2.1 ρ γ pL0_ lv st h → ((∀ k, k < wL_.2.2.1.1.length → ρ k = ρ0 k) ∧ γ 0 = γ0 0) → 0 ≤ rE ρ rL_ → rE ρ rL_ < (n : Int) → rE ρ rL_ ≤ 3072 →
      xSafe p l e R0 s m args below meth c maxLocals D dA vwCl tTA B (yEnd below args s D dA vwCl tTA B (rQf uW uT B A b ρ0 γ0 wL_) (rXf uW uT B A b ρ0 γ0 tXn wL_) R0.cells R0.slots R0.cells R0.slots) 23 lv st h (k0 + (3072 - (rE ρ rL_).toNat)) (n0 + 6 * (3072 - (rE ρ rL_).toNat)) := by
  intro n
  induction n with
  | zero => intro ρ γ lv st h _ _ h1 h2 _; omega
  | succ n ih =>
    intro ρ γ lv st h hA hs h1 h2 h3
    have hRm : rRmo wL_ R0 (k0 + (3072 - (rE ρ rL_).toNat)) (n0 + 6 * (3072 - (rE ρ rL_).toNat)) R0.cells R0.slots := by
      refine ⟨hf, ?_, ?_, hlo, ?_, ?_⟩
      · show 1 + _ ≤ _; omega
      · show 6 + _ ≤ _; omega
      · show 1 + _ ≤ _; omega
      · show 6 + _ ≤ _; omega
    have := rEx_ok (p := p) (l := l) (e := e) (below := below) (sc := true) (Bd := lBd) (ann := lAn) (r0 := some rL_) (v0 := rE ρ rL_) (J := uJL) (ρ0 := ρ0) (γ0 := γ0) (xs := xs) C hE hlocks hRm hl0 (uAll hl0 hL hI) hBg (fun x hx => by cases hx) uKt hI (fun _ => hX) (fun pc P r hin ρ' γ' lv' st' h' g1 g2 g4 g5 => ?_) 600 23 pL0_ ρ γ lv st h law_ck hA hs (by show 1 ≤ 5; decide) (fun r hr => by cases hr; exact ⟨by decide +kernel, rfl⟩)
    · have e0 : pL0_.2.2.2.2.2.2.1 = 0 := rfl
      have e1 : pL0_.2.2.2.2.2.2.2 = 0 := rfl
      rw [e0, e1, Nat.zero_add, Nat.zero_add] at this
      exact this
    · have hin : (pc, P, r) = (23, pL1_, rL_) := by simpa [lAn] using hin
      cases hin
      have g5 := g5 (by simp)
      have g1 : rSt uW uT B A b wL_.2.2.2.1 ρ' γ' pL0_ lv' st' h' := g1
      have := ih ρ' γ' lv' st' h' g1 g2 g4 (by omega) (by omega)
      have e0 : pL1_.2.2.2.2.2.2.1 = 1 := rfl
      have e1 : pL1_.2.2.2.2.2.2.2 = 6 := rfl
      rw [e0, e1]
      exact xSafe_widen (by omega) (by omega) this
end S60b
theorem law_start {p : Program} {e : Env} {s : State} {m : MethodId} {below : List Frame} {meth : Method} {c : Code} (l : Launch) (hl0 : l.stackTraces = false) {b L : Nat} {xs : Nat → Int32} (hL : L ≤ 3072) (hexec : p.tables.exec = Jvm.exec) (hcode : c.code = code) (hret : meth.sig.returnType = ret) (hml : c.maxLocals = maxLocals) (hown : s.vm.findClass "RoundReckonerLaw" = some m.cls) (hts : ∀ w ∈ lw_tbl, w.before #[Value.ref b] s = true) (hX : va_X b L xs s s.heap) (hbl : b < s.heap.size) (hlocks : meth.locks = false) (hgv : (Jvm.Cond.and given_1 narrow_1).before #[Value.ref b] s = true)
    (hn : meth.name = x.name) (hx : c.exceptionTable.toList = []) :
    W p l e room_1 s m #[Value.ref b] below meth c s.heap [] 0 0 (fun t => ∃ o, t.status = .running ∧ Ended t below o ∧ o = .returned (some (.int 1)) ∧ Framed s o t [] room_1.cells room_1.slots) (entryFrame m ([Value.ref b] : List Value).toArray maxLocals) := by
  obtain ⟨D, dA, hE⟩ := tEnv hts hgv
  have hb31 : ((b, L, fun j => (xs j).toInt) : aSc).2.1 < 2147483648 := by show L < 2147483648; omega
  have C : xCx p s m #[Value.ref b] c code maxLocals tW0 "RoundReckonerLaw" D dA vwCl tTA tTy s.heap.size := ⟨hexec, hcode, hml, hown, fun w hw => hts w (List.mem_filter.mp hw).1, hE.1, tTab, Nat.le_refl _⟩
  have hBg := aSg_bg (D := D) (dA := dA) (B := s.heap.size) (b := (b, L, fun j => (xs j).toInt)) (Ts := tW0) (s := s) (meth := meth) (c := c) (fun w hw => hw) lSg hb31 hE hn hret hx
  have hF : kFill D dA vwCl tTA s.heap.size tNw tNc tAo tW0 l tMth 82 := tFill hl0
  have hS := kCall_ok (D := D) (dA := dA) (B := s.heap.size) (l := l) (rm := uRm) (bds := uBds) (tSg tKt_nil) tTab hF 5
  have hgo := uGo_ok
  cases hq : uGo with
  | none => rw [hq] at hgo; cases hgo
  | some q =>
    rw [hq] at hgo
    simp only [ckS, Bool.and_eq_true] at hgo
    obtain ⟨⟨⟨⟨⟨⟨q1, q2⟩, q3⟩, q4⟩, q5⟩, q6⟩, q7⟩ := hgo
    have q1 := Nat.eq_of_beq_eq_true q1
    have q4 := Nat.eq_of_beq_eq_true q4
    have q5 := Nat.le_of_ble_eq_true q5
    have q6 := Nat.le_of_ble_eq_true q6
    have q3 : q.2.2.1 = [] := List.isEmpty_iff.mp q3
    have hfin : xSafe p l e room_1 s m #[Value.ref b] below meth c maxLocals D dA vwCl tTA s.heap.size (fun t => ∃ o, t.status = .running ∧ Ended t below o ∧ o = .returned (some (.int 1)) ∧ Framed s o t [] room_1.cells room_1.slots) 0 (lv_args 0 [Value.ref b]) [] (fun _ => none) 0 0 := by
      refine kTo_ok (stop := fun pc _ => Nat.beq pc 23) (fl := 82) (rm := uRm) (rc := 3071) (rs := 464756) (d0 := 5) (p := p) (l := l) (e := e) (below := below) C hE hBg hS hF (by decide) (by decide) (by decide) (by decide) 100 0 ([(0, .ref 0)], [], [], 1, 0, 0) (fun _ => b) (lv_args 0 [Value.ref b]) [] (fun _ => none) q hq ⟨rfl, rfl, ⟨(fun i hi c hc => by cases hc), fun i j hi hj ni => absurd rfl ni⟩, fun z hz => ?_, (fun v hv => by cases hv)⟩ (fun as lv st h hup hA => ?_)
      · have : z = (0, .ref 0) := by simpa using hz
        subst this
        intro i hi
        cases hi
        exact Nat.lt_succ_self 0
      · obtain ⟨hn9, has⟩ := hup
        have ha0 : as 0 = b := has 0 (Nat.lt_succ_self 0)
        have hR : kRel as s.heap.size 3072 q.2.2.2.1 h := by
          have := hA.2.2.1
          rw [q4] at this
          exact this
        have hst : st = [] := by
          have := hA.2.1
          rw [q3] at this
          exact this
        subst hst
        have hI := st_inj hR q7
        have hrg := st_rg (xs := xs) hR q7
        have hlay := st_lay (xs := xs) hR q7
        have hivs := uIvs (as := as) (h := h) (xs := xs)
        have hX9 : (va_X b L xs s s.heap ∧ b < s.heap.size ∧ ¬ s.heap.size ≤ b) ∧ ∀ j : Nat, j < L → (fun _ : Nat => sG as h xs) 0 (uW.length - 1) 0 (j : Int) = (xs j).toInt := by
          refine ⟨⟨hX, hbl, by omega⟩, fun j hj => ?_⟩
          show sG as h xs (uW.length - 1) 0 (j : Int) = _
          have e1 : uW.length - 1 = 113 := by decide +kernel
          rw [e1]
          unfold sG
          rw [if_pos rfl, if_pos (by omega), Int.toNat_natCast]
        have hz : ∀ (G n : Nat) (q : rGr), uW[G]? = some q → G ≠ 113 → uFst G = false → uPl G = true → zv (rTy q n) = 0 → sG as h xs G 0 (n : Int) = 0 := by
          intro G n q hG g1 g2 g3 g4
          unfold sG
          rw [if_neg g1, if_neg (by rw [g2]; rintro ⟨q, -⟩; cases q), gW_eq hG, Int.toNat_natCast, uPl_ok g3, g4]
        have hSt : rSt uW uT s.heap.size (uA as) (b, L, fun j => (xs j).toInt) wL_.2.2.2.1 (fun k => if k = 0 then (L : Int) else 0) (fun _ => sG as h xs) pL0_ lv [] h := by
          refine ⟨⟨fun k => ?_, fun g hg => ?_, ⟨?_, trivial⟩, fun z hz9 => ?_, fun n _ => hrg, hivs⟩, fun z hz9 => ?_, trivial, hlay⟩
          · by_cases hk : k < 5
            · rcases (show k = 0 ∨ k = 1 ∨ k = 2 ∨ k = 3 ∨ k = 4 by omega) with rfl | rfl | rfl | rfl | rfl
              · exact ⟨by show (0 : Int) ≤ (L : Int); omega, by show (L : Int) ≤ 3072; omega⟩
              all_goals exact ⟨Int.le_refl _, Int.natCast_nonneg _⟩
            · have e1 : aG pL0_.1 k = (0, 0) := by
                unfold aG
                rw [List.getD_eq_getElem?_getD, List.getElem?_eq_none (by show 5 ≤ k; omega)]
                rfl
              rw [e1]
              dsimp only
              rw [if_neg (by omega)]
              exact ⟨Int.le_refl _, Int.le_refl _⟩
          · have hg : g ∈ [([(1, Int.negSucc 0), (0, Int.ofNat 1)], Int.ofNat 0), ([(3, Int.negSucc 0), (2, Int.negSucc 0), (1, Int.ofNat 4)], Int.ofNat 0), ([(4, Int.negSucc 0), (2, Int.negSucc 0), (1, Int.ofNat 4)], Int.ofNat 0)] := hg
            simp only [List.mem_cons, List.not_mem_nil, or_false] at hg
            rcases hg with rfl | rfl | rfl
            · show (0 : Int) ≤ 0 + (Int.negSucc 0 * 0 + (1 * (L : Int) + 0))
              omega
            · show (0 : Int) ≤ 0 + (Int.negSucc 0 * 0 + (Int.negSucc 0 * 0 + (4 * 0 + 0)))
              decide
            · show (0 : Int) ≤ 0 + (Int.negSucc 0 * 0 + (Int.negSucc 0 * 0 + (4 * 0 + 0)))
              decide
          · unfold rD1
            rw [if_neg (show ¬ (1 : Nat) = 0 by decide)]
            exact ⟨fun _ _ _ _ => rfl, hivs⟩
          · have hz9 : z ∈ [(1, 2, ([], Int.ofNat 0), ([], Int.ofNat 3), ([(2, Int.ofNat 1)], Int.ofNat 0)), (1, 15, ([], Int.ofNat 0), ([], Int.ofNat 3), ([(2, Int.ofNat 1)], Int.ofNat 0)), (1, 15, ([], Int.ofNat 0), ([], Int.ofNat 8), ([(3, Int.ofNat 1)], Int.ofNat 0)), (1, 15, ([], Int.ofNat 0), ([], Int.ofNat 9), ([(4, Int.ofNat 1)], Int.ofNat 0))] := hz9
            simp only [List.mem_cons, List.not_mem_nil, or_false] at hz9
            rcases hz9 with rfl | rfl | rfl | rfl
            · exact hz 2 3 (gW 2) rfl (by decide) (by decide +kernel) (by decide +kernel) (by decide +kernel)
            · exact hz 15 3 (gW 15) rfl (by decide) (by decide +kernel) (by decide +kernel) (by decide +kernel)
            · exact hz 15 8 (gW 15) rfl (by decide) (by decide +kernel) (by decide +kernel) (by decide +kernel)
            · exact hz 15 9 (gW 15) rfl (by decide) (by decide +kernel) (by decide +kernel) (by decide +kernel)
          · have hlv : ∀ i, xget lv i = (xget q.2.1 i).map (kRn as) := fun i => by rw [hA.1, xget_rn]
            simp only [ckLv, Bool.and_eq_true] at q2
            obtain ⟨⟨⟨⟨l0, l1⟩, l2⟩, l3⟩, l4⟩ := q2
            have hz9 : z ∈ [(0, (7, 0, ([(0, Int.ofNat 1)], Int.ofNat 0))), (1, (2, 0, ([], Int.ofNat 0))), (2, (2, 15, ([], Int.ofNat 0))), (3, (2, 112, ([], Int.ofNat 0))), (4, (0, 0, ([(1, Int.ofNat 1)], Int.ofNat 0)))] := hz9
            simp only [List.mem_cons, List.not_mem_nil, or_false] at hz9
            rcases hz9 with rfl | rfl | rfl | rfl | rfl
            · split at l0
              · rename_i i hi
                refine ⟨.ref (as i), by rw [hlv, hi]; rfl, ?_, ?_⟩
                · rw [Nat.eq_of_beq_eq_true l0, ha0]
                · show (0 : Int) + (1 * (L : Int) + 0) = (L : Int)
                  omega
              · cases l0
            · split at l1
              · rename_i i hi
                refine ⟨.ref (as i), by rw [hlv, hi]; rfl, ?_, gW 0, rfl, Int.le_refl _, (show (0 : Int) < (gW 0).2.2.1 by decide +kernel)⟩
                rw [Nat.eq_of_beq_eq_true l1]
                rfl
              · cases l1
            · split at l2
              · rename_i i hi
                refine ⟨.ref (as i), by rw [hlv, hi]; rfl, ?_, gW 15, rfl, Int.le_refl _, (show (0 : Int) < (gW 15).2.2.1 by decide +kernel)⟩
                rw [Nat.eq_of_beq_eq_true l2]
                rfl
              · cases l2
            · split at l3
              · rename_i i hi
                refine ⟨.ref (as i), by rw [hlv, hi]; rfl, ?_, gW 112, rfl, Int.le_refl _, (show (0 : Int) < (gW 112).2.2.1 by decide +kernel)⟩
                rw [Nat.eq_of_beq_eq_true l3]
                rfl
              · cases l3
            · split at l4
              · rename_i w hw
                refine ⟨.int w, by rw [hlv, hw]; rfl, w, rfl, ?_⟩
                rw [rIq_ok l4]
                rfl
              · cases l4
        have hv : rE (fun k => if k = 0 then (L : Int) else 0) rL_ = (L : Int) := by
          rw [rL_val]
          show (L : Int) - 0 = _
          omega
        have hlp := law_loop (p := p) (l := l) (e := e) (R0 := room_1) (below := below) (k0 := 3071) (n0 := 464756) (ρ0 := fun k => if k = 0 then (L : Int) else 0) (γ0 := fun _ => sG as h xs) (xs := xs) C hE hlocks hl0 hb31 hBg hI hX9 (by decide) (by decide) (by decide) (by decide) 3073 _ _ lv [] h hSt ⟨fun _ _ => rfl, rfl⟩ (by rw [hv]; omega) (by rw [hv]; omega) (by rw [hv]; omega)
        rw [q1]
        have hlp2 := xSafe_widen (k := q.2.2.2.2.2.1) (n := q.2.2.2.2.2.2) (by omega) (by omega) hlp
        intro H ls locs g1 g2 g3 T hT X
        obtain ⟨t, a1, o, b1, b2, b3⟩ := hlp2 H ls locs g1 g2 g3 T hT X
        refine ⟨t, a1, o, b1, b2, ?_⟩
        rcases b3 with ⟨hq9, Lc, hfe, hLc⟩ | ⟨q9, rfl, E, ce, Lc, hxc, -⟩
        · obtain ⟨v, h1, rfl, hQ, -, -⟩ := hq9
          obtain ⟨E, hE1, ρ', γ', -, -, hSx⟩ := hQ
          have hstk := hSx.2.2.1
          have hE2 : E.2.2.2.1 = [(0, 0, ([], Int.ofNat 1))] := by
            have h5 : wL_.2.2.2.2.1 = [wL_.2.2.2.2.1.headD pL0_] := rfl
            rw [h5, List.mem_singleton] at hE1
            rw [hE1]
            rfl
          rw [hE2] at hstk
          cases v with
          | none => exact hstk.elim
          | some v =>
            obtain ⟨⟨z, rfl, hz⟩, -⟩ := hstk
            have hz1 : z.toInt = 1 := hz
            have hz2 : z = 1 := Int32.toInt_inj.mp (by rw [hz1]; rfl)
            subst hz2
            exact ⟨rfl, hfe.1, hfe.2.1, State.sameButNew.drop_fresh (L := []) (J := Lc) hfe.2.2 hLc⟩
        · obtain ⟨h1, ⟨q8, hq8, -⟩, -⟩ := hxc
          cases hq8
    have hw := hfin s.heap _ [] (fun a c h => by cases h) (lv_entry [Value.ref b] (n := maxLocals) (by show (1 : Nat) ≤ 8; decide)) va_S.rf
    rw [lg_entry_eq]
    exact hw
