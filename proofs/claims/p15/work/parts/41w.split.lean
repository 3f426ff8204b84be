/-! ===== a run cut at a frontier, with the log ===== -/
theorem zAll_mk {β : Type} {P : β → Prop} : ∀ {ls : List (Option (List β))}, (∀ o ∈ ls, ∃ x, o = some x ∧ ∀ z ∈ x, P z) → ∃ r, aAll ls = some r ∧ ∀ z ∈ r, P z
  | [], _ => ⟨[], rfl, fun z hz => by cases hz⟩
  | o :: ls, h => by
    obtain ⟨x, e, hx⟩ := h o List.mem_cons_self
    obtain ⟨r, e2, hr⟩ := zAll_mk (fun o_q ho_q => h o_q (List.mem_cons_of_mem _ ho_q))
    subst e
    refine ⟨x ++ r, by simp [aAll, e2], fun z hz => ?_⟩
    rcases List.mem_append.mp hz with hz | hz
    · exact hx z hz
    · exact hr z hz
noncomputable def zFr (sc : Bool) (mx : List Nat) (W : List rGr) (T : List rIT) (own : rI) (J : List rI) (Bd : rBd) (ann : List (Nat × rS × rX)) (r0 : Option rX) : Nat → Nat → rS → List zLg → Option (List zNx)
  | 0, pc, σ, L => some [(0, pc, σ, L, [])]
  | n + 1, pc, σ, L => (match zSp sc mx W T own J Bd σ L pc with
    | some l => aAll (l.map (fun q => if q.1 = 0 then (if Nat.ble σ.1.length q.2.2.1.1.length = true ∧ Nat.ble σ.2.2.2.2.1.length q.2.2.1.2.2.2.2.1.length = true ∧ q.2.2.2.1.all (zLgb q.2.2.1.1.length q.2.2.1.2.2.2.2.1.length) = true then
        (match zArv W T own.2.2.2.1 own.2.2.1.1.length ann r0 q with | some z => some [z] | none => zFr sc mx W T own J Bd ann r0 n q.2.1 q.2.2.1 q.2.2.2.1) else none) else some [q]))
    | none => none)
theorem zArv_tag {W : List rGr} {T : List rIT} {j0 : List Nat} {m : Nat} {ann : List (Nat × rS × rX)} {r0 : Option rX} {q z : zNx} (h : zArv W T j0 m ann r0 q = some z) : z.1 ≠ 0 := by
  unfold zArv at h
  obtain ⟨i, -, h⟩ := aFst_at h
  split at h
  · split at h
    · split at h
      · split at h
        · cases h
          exact fun e => by cases e
        · cases h
      · cases h
    · cases h
  · cases h
theorem zFr_ok {sc : Bool} {mx : List Nat} {W : List rGr} {T : List rIT} {own : rI} {J : List rI} {Bd : rBd} {ann : List (Nat × rS × rX)} {r0 : Option rX} {f : Nat} {P : zNx → Prop} : ∀ {n pc : Nat} {σ : rS} {L : List zLg} {F : List zNx}, zFr sc mx W T own J Bd ann r0 n pc σ L = some F →
    (∀ q ∈ F, q.1 = 0 → ∃ l, zGo sc mx W T own J Bd ann r0 f q.2.1 q.2.2.1 q.2.2.2.1 = some l ∧ ∀ z ∈ l, P z) → (∀ q ∈ F, q.1 ≠ 0 → P q) → ∃ l, zGo sc mx W T own J Bd ann r0 (f + n) pc σ L = some l ∧ ∀ z ∈ l, P z
  | 0, pc, σ, L, F, h, h0, _ => by
    cases h
    exact h0 _ List.mem_cons_self rfl
  | n + 1, pc, σ, L, F, h, h0, h1 => by
    unfold zFr at h
    show ∃ l, zGo sc mx W T own J Bd ann r0 ((f + n) + 1) pc σ L = some l ∧ _
    unfold zGo
    split at h
    · rename_i l hl
      rw [hl]
      have hall := aAll_in h
      refine zAll_mk (fun o ho => ?_)
      obtain ⟨q, hq, rfl⟩ := List.mem_map.mp ho
      obtain ⟨x, e1, e2⟩ := hall _ (List.mem_map.mpr ⟨q, hq, rfl⟩)
      by_cases hq0 : q.1 = 0
      · rw [if_pos hq0] at e1 ⊢
        split at e1
        · rename_i hc
          rw [if_pos hc]
          split at e1
          · rename_i z hz
            rw [hz]
            cases e1
            exact ⟨[z], rfl, fun y hy => by
              rw [List.mem_singleton] at hy
              subst hy
              exact h1 _ (e2 _ List.mem_cons_self) (zArv_tag hz)⟩
          · rename_i hz
            rw [hz]
            exact zFr_ok e1 (fun y hy => h0 y (e2 y hy)) (fun y hy => h1 y (e2 y hy))
        · cases e1
      · rw [if_neg hq0] at e1 ⊢
        cases e1
        exact ⟨[q], rfl, fun y hy => by
          rw [List.mem_singleton] at hy
          subst hy
          exact h1 _ (e2 _ List.mem_cons_self) hq0⟩
    · cases h
/-- the piece i of the frontier behind n steps -/
noncomputable def zYq (fuel : Nat) (mx : List Nat) (W : List rGr) (T : List rIT) (JL : List rI) (I : rI) (Bd : aBd) (a : zAn) (m : Nat) (r0 : Option rX) (n pc : Nat) (σ : rS) (l : List zNx) (i : Nat) : Bool := match zFr false mx W T I (JL.take m) (Bd, a.2) a.1 r0 n pc σ [] with
  | some F => (match F[i]? with
    | some q => if q.1 = 0 then (match zGo false mx W T I (JL.take m) (Bd, a.2) a.1 r0 fuel q.2.1 q.2.2.1 q.2.2.2.1 with | some l1 => zCov l1 l | none => false) else l.any (zSub q)
    | none => true)
  | none => false
noncomputable def zYn (mx : List Nat) (W : List rGr) (T : List rIT) (JL : List rI) (I : rI) (Bd : aBd) (a : zAn) (m : Nat) (r0 : Option rX) (n pc : Nat) (σ : rS) (N : Nat) : Bool := match zFr false mx W T I (JL.take m) (Bd, a.2) a.1 r0 n pc σ [] with
  | some F => Nat.ble F.length N
  | none => false
theorem zYs_ok {fuel : Nat} {mx : List Nat} {W : List rGr} {T : List rIT} {JL : List rI} {I : rI} {Bd : aBd} {a : zAn} {m : Nat} {r0 : Option rX} {n pc : Nat} {σ : rS} {l : List zNx} {N : Nat} (hN : zYn mx W T JL I Bd a m r0 n pc σ N = true) (h : ∀ i ∈ List.range N, zYq fuel mx W T JL I Bd a m r0 n pc σ l i = true) : zRun (fuel + n) mx W T JL I Bd a m r0 pc σ l = true := by
  unfold zYn at hN
  split at hN
  · rename_i F hF
    have key : ∀ q ∈ F, (q.1 = 0 → ∃ l1, zGo false mx W T I (JL.take m) (Bd, a.2) a.1 r0 fuel q.2.1 q.2.2.1 q.2.2.2.1 = some l1 ∧ ∀ z ∈ l1, l.any (zSub z) = true) ∧ (q.1 ≠ 0 → l.any (zSub q) = true) := by
      intro q hq
      obtain ⟨i, hi⟩ := List.mem_iff_getElem?.mp hq
      have hlt := (List.getElem?_eq_some_iff.mp hi).1
      have h1 := h i (List.mem_range.mpr (Nat.lt_of_lt_of_le hlt (Nat.le_of_ble_eq_true hN)))
      unfold zYq at h1
      rw [hF] at h1
      dsimp only at h1
      rw [hi] at h1
      dsimp only at h1
      refine ⟨fun h0 => ?_, fun h0 => ?_⟩
      · rw [if_pos h0] at h1
        split at h1
        · rename_i l1 hl1
          exact ⟨l1, hl1, fun z hz => List.all_eq_true.mp h1 z hz⟩
        · cases h1
      · rw [if_neg h0] at h1
        exact h1
    obtain ⟨l1, e1, e2⟩ := zFr_ok (f := fuel) (P := fun z => l.any (zSub z) = true) hF (fun q hq => (key q hq).1) (fun q hq => (key q hq).2)
    unfold zRun
    rw [e1]
    exact List.all_eq_true.mpr e2
  · cases hN
/-- the case n is checked, as a statement -/
noncomputable def zOk (fuel : Nat) (mx : List Nat) (W : List rGr) (T : List rIT) (JL : List rI) (an : List zAn) (bds : List aBd) (n : Nat) (l0 : List zNx) (las : List (List zNx)) : Prop :=
  ∀ (I : rI) (a : zAn) (Bd : aBd), JL[n]? = some I → an[n]? = some a → bds[I.1]? = some Bd → zRun fuel mx W T JL I Bd a n none 0 (rEnt I) l0 = true ∧ (I.2.2.1.2.2.2.1.map rcat).sum ≤ mx.getD I.1 0 ∧ ∀ (i : Nat) (p : Nat × rS × rX), a.1[i]? = some p → zRun fuel mx W T JL I Bd a n (some p.2.2) p.1 p.2.1 (las.getD i []) = true ∧ I.2.2.1.1.length ≤ p.2.1.1.length ∧ rWx p.2.1.1.length p.2.2 = true ∧ p.2.1.2.2.2.2.1.length = 1
theorem zOk_of {fuel : Nat} {mx : List Nat} {W : List rGr} {T : List rIT} {JL : List rI} {an : List zAn} {bds : List aBd} {n : Nat} {l0 : List zNx} {las : List (List zNx)} (h : zCk fuel mx W T JL an bds n l0 las = true) : zOk fuel mx W T JL an bds n l0 las := by
  intro I a Bd h1 h2 h3
  unfold zCk at h
  rw [h1, h2] at h
  dsimp only at h
  rw [h3] at h
  simp only [Bool.and_eq_true] at h
  refine ⟨h.1.1, Nat.le_of_ble_eq_true h.1.2, fun i p hp => ?_⟩
  have h4 := List.all_eq_true.mp h.2 i (List.mem_range.mpr (List.getElem?_eq_some_iff.mp hp).1)
  rw [hp] at h4
  simp only [Bool.and_eq_true] at h4
  exact ⟨h4.1.1.1, Nat.le_of_ble_eq_true h4.1.1.2, h4.1.2, Nat.eq_of_beq_eq_true h4.2⟩
/-- a case by its number: its beginning, and what stands of its patterns -/
noncomputable def zB0 (fuel : Nat) (mx : List Nat) (W : List rGr) (T : List rIT) (JL : List rI) (an : List zAn) (bds : List aBd) (n : Nat) (l0 : List zNx) (A : Nat) : Bool := match JL[n]?, an[n]? with
  | some I, some a => (match bds[I.1]? with
    | some Bd => zRun fuel mx W T JL I Bd a n none 0 (rEnt I) l0 && Nat.ble (I.2.2.1.2.2.2.1.map rcat).sum (mx.getD I.1 0) && Nat.ble a.1.length A && a.1.all (fun p => Nat.ble I.2.2.1.1.length p.2.1.1.length && rWx p.2.1.1.length p.2.2 && Nat.beq p.2.1.2.2.2.2.1.length 1)
    | none => false)
  | _, _ => false
noncomputable def zBY (mx : List Nat) (W : List rGr) (T : List rIT) (JL : List rI) (an : List zAn) (bds : List aBd) (n k st N : Nat) : Bool := match JL[n]?, an[n]? with
  | some I, some a => (match bds[I.1]?, a.1[k]? with
    | some Bd, some p => zYn mx W T JL I Bd a n (some p.2.2) st p.1 p.2.1 N
    | _, _ => false)
  | _, _ => false
noncomputable def zBP (fuel : Nat) (mx : List Nat) (W : List rGr) (T : List rIT) (JL : List rI) (an : List zAn) (bds : List aBd) (n k st : Nat) (l : List zNx) (i : Nat) : Bool := match JL[n]?, an[n]? with
  | some I, some a => (match bds[I.1]?, a.1[k]? with
    | some Bd, some p => zYq fuel mx W T JL I Bd a n (some p.2.2) st p.1 p.2.1 l i
    | _, _ => false)
  | _, _ => false
theorem zB_run {fuel : Nat} {mx : List Nat} {W : List rGr} {T : List rIT} {JL : List rI} {an : List zAn} {bds : List aBd} {n k st N : Nat} {l : List zNx} (h1 : zBY mx W T JL an bds n k st N = true) (h2 : ∀ i ∈ List.range N, zBP fuel mx W T JL an bds n k st l i = true) {I : rI} {a : zAn} {Bd : aBd} {p : Nat × rS × rX} (e1 : JL[n]? = some I) (e2 : an[n]? = some a) (e3 : bds[I.1]? = some Bd) (e4 : a.1[k]? = some p) : zRun (fuel + st) mx W T JL I Bd a n (some p.2.2) p.1 p.2.1 l = true := by
  unfold zBY at h1
  rw [e1, e2] at h1
  dsimp only at h1
  rw [e3, e4] at h1
  refine zYs_ok h1 (fun i hi => ?_)
  have h3 := h2 i hi
  unfold zBP at h3
  rw [e1, e2] at h3
  dsimp only at h3
  rw [e3, e4] at h3
  exact h3
theorem zB_ok {fuel : Nat} {mx : List Nat} {W : List rGr} {T : List rIT} {JL : List rI} {an : List zAn} {bds : List aBd} {n A : Nat} {l0 : List zNx} {las : List (List zNx)} (h0 : zB0 fuel mx W T JL an bds n l0 A = true) (ha : ∀ (k : Nat), k < A → ∀ (I : rI) (a : zAn) (Bd : aBd) (p : Nat × rS × rX), JL[n]? = some I → an[n]? = some a → bds[I.1]? = some Bd → a.1[k]? = some p → zRun fuel mx W T JL I Bd a n (some p.2.2) p.1 p.2.1 (las.getD k []) = true) : zOk fuel mx W T JL an bds n l0 las := by
  intro I a Bd h1 h2 h3
  unfold zB0 at h0
  rw [h1, h2] at h0
  dsimp only at h0
  rw [h3] at h0
  simp only [Bool.and_eq_true] at h0
  obtain ⟨⟨⟨c1, c2⟩, c3⟩, c4⟩ := h0
  refine ⟨c1, Nat.le_of_ble_eq_true c2, fun i p hp => ?_⟩
  have hi := (List.getElem?_eq_some_iff.mp hp).1
  have h5 := List.all_eq_true.mp c4 p (List.mem_of_getElem? hp)
  simp only [Bool.and_eq_true] at h5
  exact ⟨ha i (Nat.lt_of_lt_of_le hi (Nat.le_of_ble_eq_true c3)) I a Bd p h1 h2 h3 hp, Nat.le_of_ble_eq_true h5.1.1, h5.1.2, Nat.eq_of_beq_eq_true h5.2⟩
section ZAll2
variable {D : va_G} {dA : Nat → ClassId} {cl : List vw_C} {tA : List (Nat × FieldType)} {tyf : Nat → Nat → FieldType} {B : Nat} {nw : List Cond} {nc : List (String × String)} {ao : List String} {W0 : List Cond} {l : Launch} {W : List rGr} {T : List rIT} {A : rA} {b : aSc} {xn : List String} {mth : List aMd} {mx : List Nat} {S : Nat → zSpc}
theorem zAllMt2 {bds : List aBd} {JL : List rI} {an : List zAn} {fuel : Nat} (hsg : ∀ (k : Nat) (d : aMd) (Bd : aBd), mth[k]? = some d → bds[k]? = some Bd → aSg cl tA tyf [] nw nc ao W0 mth mx xn d Bd ∧ plainFor d.1 = true ∧ mx.getD k 0 = d.2.2.1) (hbd : ∀ (n : Nat) (I : rI), JL[n]? = some I → ∃ Bd, bds[I.1]? = some Bd) (hcp : ∀ (n : Nat) (I : rI) (a : zAn) (d : aMd), JL[n]? = some I → an[n]? = some a → mth[I.1]? = some d → ∀ x ∈ a.2.2.2, xCpy d.1.cls W0 x) (hTab : xTab cl tA tyf W0) (hl0 : l.stackTraces = false) (hL : b.2.1 < 2147483648) (hKt : ∀ g ∈ W, 1000 ≤ g.1 → ∃ ty, (g.1, ty) ∈ tA) (hI : rInj W A)
    (hall : ∀ (n : Nat) (I : rI), JL[n]? = some I → ∀ d : aMd, mth[I.1]? = some d → rMt D dA cl tA B nw nc ao W0 l W T A b xn d.1 (aCw d) I) (hlen : JL.length ≤ an.length)
    (hz : ∀ (n : Nat) (I : rI) (a : zAn), JL[n]? = some I → an[n]? = some a → ((∀ x g o v g_q, S n x g o v g_q) ∨ ∃ (l0 : List zNx) (las : List (List zNx)), zOk fuel mx W T JL an bds n l0 las ∧ ∀ x g o v g_q, zSem W T I.2.2.2.1 I.2.2.1.1.length S l0 (fun i => las.getD i []) (zNA a) x g o v g_q → S n x g o v g_q) ∨ ∀ d : aMd, mth[I.1]? = some d → zMt D dA cl tA B nw nc ao W0 l W T A b xn d.1 (aCw d) (S n) I) :
    ∀ (n : Nat) (I : rI), JL[n]? = some I → ∀ d : aMd, mth[I.1]? = some d → zMt D dA cl tA B nw nc ao W0 l W T A b xn d.1 (aCw d) (S n) I := by
  intro n
  induction n using Nat.strongRecOn with
  | ind n ih =>
    intro I hI2 d hd
    have hn := (List.getElem?_eq_some_iff.mp hI2).1
    have hna : n < an.length := by omega
    obtain ⟨a, ha⟩ : ∃ a, an[n]? = some a := ⟨_, List.getElem?_eq_getElem hna⟩
    rcases hz n I a hI2 ha with (h0 | ⟨l0, las, h1, h2⟩) | h0
    · exact zMt_triv h0 (hall n I hI2 d hd)
    · obtain ⟨Bd, hBd⟩ := hbd n I hI2
      obtain ⟨c1, c2, c3⟩ := h1 I a Bd hI2 ha hBd
      obtain ⟨g1, g2, g3⟩ := hsg _ d Bd hd hBd
      unfold zRun at c1
      split at c1
      · rename_i l1 hl1
        refine zMt_of (Bd := (Bd, a.2)) (ann := a.1) (l0 := l1) (la := fun i => match a.1[i]? with | some p => ((zGo false mx W T I (JL.take n) (Bd, a.2) a.1 (some p.2.2) fuel p.1 p.2.1 []).getD []) | none => []) (nA := zNA a) g1 (hcp n I a d hI2 ha hd) g2 hTab hl0 hL hKt hI (J := JL.take n) (S := S) (fun k I2 hk d2 hd2 => ?_) (fun x g o v g_q h => h2 x g o v g_q (zSem_sub c1 (fun j => ?_) h)) (fun i p hp => ?_) hl1 (by rw [← g3]; exact c2)
        · have hlt : k < n := by
            have := (List.getElem?_eq_some_iff.mp hk).1
            simp at this
            omega
          rw [List.getElem?_take_of_lt hlt] at hk
          exact ih k hlt I2 hk d2 hd2
        · cases hj : a.1[j]? with
          | none => rfl
          | some p =>
            have h4 := (c3 j p hj).1
            unfold zRun at h4
            split at h4
            · rename_i l2 hl2
              show zCov ((zGo false mx W T I (JL.take n) (Bd, a.2) a.1 (some p.2.2) fuel p.1 p.2.1 []).getD []) _ = true
              rw [hl2]
              exact h4
            · cases h4
        · obtain ⟨h4, h5, h6, h7⟩ := c3 i p hp
          unfold zRun at h4
          split at h4
          · rename_i l2 hl2
            refine ⟨?_, by unfold zNA; rw [hp], h5, h6, h7⟩
            rw [hp]
            show _ = some ((zGo false mx W T I (JL.take n) (Bd, a.2) a.1 (some p.2.2) fuel p.1 p.2.1 []).getD [])
            rw [hl2]
            rfl
          · cases h4
      · cases c1
    · exact h0 d hd
end ZAll2
