section KP4
variable {p : Program} {l : Launch} {e : Env} {R : Room} {s : State} {m : MethodId} {args : Array Value} {below : List Frame} {meth : Method} {c : Code} {Q : State → Prop}
variable {cc : ByteArray} {nL : Nat} {Ts : List Cond} {own : String} {D : va_G} {dA : Nat → ClassId} {cl : List vw_C} {tA : List (Nat × FieldType)} {tyf : Nat → Nat → FieldType} {B : Nat}
variable {pc len : Nat} {lv : List (Nat × Value)} {st : List Value} {h : xH} {i : Instr} {as : Nat → Nat} {σ : kS} {q : Nat × kS} {b : aSc} {M : aTb}
theorem kDf_rn {as : Nat → Nat} {k : Nat} : kRn as (kDf k) = kDf k := by
  unfold kDf
  split
  · rfl
  · split <;> rfl
theorem kDf_w {n k : Nat} : kW n (kDf k) := by
  intro i hi
  unfold kDf at hi
  split at hi
  · cases hi
  · split at hi <;> cases hi
theorem kW_ref {n a : Nat} (h : kW n (.ref a)) : a < n := h a rfl
/-- a cell that is reached by a reference -/
theorem kCell {a : Nat} {c0 : kC} (hA : kSt as B σ lv st h) (ha : a < σ.2.2.2.1) (hg : kGet σ.2.2.1 a = some c0) : B ≤ as a ∧ ∃ V, h (as a) = some (c0.1, c0.2.1, V) ∧ (c0.1 < 1000 ∨ 2000 ≤ c0.1 → c0.2.2.1.length = c0.2.1 ∧ ∀ (j : Nat) (v : Value), c0.2.2.1[j]? = some v → V j = kRn as v ∧ kW σ.2.2.2.1 v) ∧ (1000 ≤ c0.1 → c0.1 < 2000 → ∀ j, j < c0.2.1 → kNm c0 (V j)) := by
  exact hA.2.2.1.1 a ha c0 hg
theorem kSetL {c0 : kC} {V : Nat → Value} {n f : Nat} {v : Value} (hl : c0.2.2.1.length = c0.2.1) (hV : ∀ (j : Nat) (w : Value), c0.2.2.1[j]? = some w → V j = kRn as w ∧ kW n w) (hv : kW n v) (hob : c0.1 < 1000 ∨ 2000 ≤ c0.1) : kAt as n (c0.1, c0.2.1, c0.2.2.1.set f v, c0.2.2.2) (some (c0.1, c0.2.1, updV V f (kRn as v))) := by
  refine ⟨_, rfl, fun _ => ⟨by rw [List.length_set]; exact hl, fun j w hw => ?_⟩, fun h1 h2 => ?_⟩
  · have hw : (c0.2.2.1.set f v)[j]? = some w := hw
    rw [List.getElem?_set] at hw
    by_cases e : f = j
    · subst e
      rw [if_pos rfl] at hw
      split at hw
      · cases hw
        exact ⟨by simp [updV], hv⟩
      · cases hw
    · rw [if_neg e] at hw
      obtain ⟨g1, g2⟩ := hV j w hw
      exact ⟨by simp only [updV]; rw [if_neg (Ne.symm e)]; exact g1, g2⟩
  · have h1 : 1000 ≤ c0.1 := h1
    have h2 : c0.1 < 2000 := h2
    omega
theorem kP4_ok (C : xCx p s m args c cc nL Ts own D dA cl tA tyf B) (hG : aGd own Ts cl tA tyf meth s b M) (hA : kSt as B σ lv st h) (hdg : decode cc pc = .ok (i, len)) (h1 : kP4 M i len pc σ = some q) : kGo p l e R s m args below meth c nL D dA cl tA B Q pc lv st h as σ q := by
  unfold kP4 at h1
  have h2 := hA.2.1
  have h5 := hA.2.2.2.2
  split at h1
  · rename_i idx
    split at h1
    · rename_i z a S hz hS
      split at h1
      · rename_i c0 hc0
        split at h1
        · rename_i v hv
          split at h1
          · rename_i hc
            obtain ⟨rfl, e1, e2⟩ := hc
            cases h1
            intro k1 k2 kk
            rw [hS] at h2 h5
            obtain ⟨st_q, rfl, h21⟩ := kStk_cons h2
            obtain ⟨g1, V, g2, g3, -⟩ := kCell hA (kW_ref (h5 _ List.mem_cons_self)) hc0
            obtain ⟨rr, w1, w2, w3, -⟩ := hG.1 _ (kF1_mem hz)
            dsimp only at w1 w2 w3
            obtain ⟨g4, g5⟩ := (g3 (Or.inl (by rw [e1]; exact e2))).2 _ v hv
            rw [e1] at g2
            refine xs_get C w1 w2 w3 g2 hdg ?_
            rw [g4]
            refine kk as lv _ h ⟨Nat.le_refl _, fun _ _ => rfl⟩ ⟨hA.1, by rw [h21]; rfl, hA.2.2.1, hA.2.2.2.1, fun w hw => ?_⟩
            rcases List.mem_cons.mp hw with rfl | hw
            · exact g5
            · exact h5 w (List.mem_cons_of_mem _ hw)
          · cases h1
        · cases h1
      · cases h1
    · cases h1
  · rename_i idx
    split at h1
    · rename_i z v a S hz hS
      split at h1
      · rename_i c0 hc0
        split at h1
        · rename_i hc
          obtain ⟨rfl, e1, e2, e3, e4, e5⟩ := hc
          rw [kSp_ok] at h1
          cases h1
          intro k1 k2 kk
          rw [hS] at h2 h5
          obtain ⟨st1, rfl, h21⟩ := kStk_cons h2
          obtain ⟨st_q, rfl, h22⟩ := kStk_cons h21
          have ha := kW_ref (h5 (.ref a) (List.mem_cons_of_mem _ List.mem_cons_self))
          obtain ⟨g1, V, g2, g3, -⟩ := kCell hA ha hc0
          have hob : c0.1 < 1000 ∨ 2000 ≤ c0.1 := Or.inl (by rw [e1]; exact e2)
          obtain ⟨g4, g5⟩ := g3 hob
          obtain ⟨rr, w1, w2, w3, w4, w5⟩ := hG.1 _ (kF1_mem hz)
          dsimp only at w1 w2 w3 w4 w5
          obtain ⟨n1, n2⟩ := kTk_ok (as := as) (hG.2.1 z.1 z.2.1) e4
          have hA2 : kSt as B (σ.1, S, σ.2.2) lv st_q h := ⟨hA.1, h22, hA.2.2.1, hA.2.2.2.1, fun w hw => h5 w (List.mem_cons_of_mem _ (List.mem_cons_of_mem _ hw))⟩
          have hput := kSt_put hA2 ha hc0 (kSetL (f := z.2.1) g4 g5 (h5 v List.mem_cons_self) hob)
          have g2_q := g2
          rw [e1] at g2_q
          refine xs_put C w1 w2 w3 g2_q g1 n1 n2 ?_ hdg ?_
          · rcases e5 with e5 | ⟨e5, e6⟩
            · exact Or.inl (w4 e5)
            · exact Or.inr ⟨(w5 e5).1, hG.2.2.2.2.2.2.2.1 e6, (w5 e5).2⟩
          · rw [← e1]
            exact kk as lv st_q _ ⟨Nat.le_refl _, fun _ _ => rfl⟩ hput
        · cases h1
      · cases h1
    · cases h1
  · rename_i idx
    split at h1
    · rename_i z hz
      split at h1
      · rename_i hc
        obtain ⟨rfl, e2, e3⟩ := hc
        rw [kSp_ok, kFn_ok] at h1
        cases h1
        intro k1 k2 kk
        obtain ⟨rr, hr, hN, w1, w2, w3⟩ := hG.2.2.1 _ (kF1_mem hz)
        dsimp only at hN hr w1 w2 w3
        have k2_q : σ.2.2.2.2.2 + rr.2.2 ≤ R.slots := by rw [hN]; exact k2
        refine xs_new C hr w1 w2 w3 k1 k2_q hdg (fun a ha hB => ?_)
        have hV : ∀ as_q n, kAt as_q n ((z.1, z.2, (List.range z.2).map (fun j => kDf (aTc M.2.1 z.1 j)), 0, 0) : kC) (some (z.1, z.2, fun j => defaultValue (tyf z.1 j))) := by
          intro as_q n
          refine ⟨_, rfl, fun _ => ⟨by simp, fun j w hw => ?_⟩, fun h1 h2 => ?_⟩
          · have hw : ((List.range z.2).map (fun j => kDf (aTc M.2.1 z.1 j)))[j]? = some w := hw
            rw [List.getElem?_map] at hw
            by_cases hj : j < z.2
            · rw [List.getElem?_range hj] at hw
              cases hw
              have h4 := Nat.le_of_ble_eq_true (List.all_eq_true.mp e3 j (List.mem_range.mpr hj))
              have e9 := kDf_ok (hG.2.1 z.1 j) h4
              exact ⟨by show defaultValue (tyf z.1 j) = _; rw [e9]; exact kDf_rn.symm, kDf_w⟩
            · rw [List.getElem?_eq_none (by simp; omega)] at hw
              cases hw
          · have h1 : 1000 ≤ z.1 := h1
            omega
        obtain ⟨n1, n2⟩ := kSt_new (σ := σ) (S := σ.2.1) (k_q := σ.2.2.2.2.1 + 1) (s_q := σ.2.2.2.2.2 + z.2) hA ha hB hV
        have := kk _ lv _ _ ⟨Nat.le_succ _, n1⟩ n2
        rw [hN]
        exact this
      · cases h1
    · cases h1
  · rename_i at0
    split at h1
    · rename_i t j S ht hS
      split at h1
      · rename_i hc
        obtain ⟨rfl, e2, e3⟩ := hc
        rw [kFn_ok, kFn_ok] at h1
        cases h1
        intro k1 k2 kk
        rw [hS] at h2 h5
        obtain ⟨st_q, rfl, h21⟩ := kStk_cons h2
        have hA2 : kSt as B (σ.1, S, σ.2.2) lv st_q h := ⟨hA.1, h21, hA.2.2.1, hA.2.2.2.1, fun w hw => h5 w (List.mem_cons_of_mem _ hw)⟩
        obtain ⟨u1, u2, u3, u4, u5, u6⟩ := aNt_ok (Ts := Ts) (tA := tA) (ρ := fun _ => 0) (b := (0, 0, fun _ => 0)) ht hG.2.2.2.2.1.1 ⟨hG.2.2.2.2.1.2.1, hG.2.2.2.2.1.2.2.1, hG.2.2.2.2.1.2.2.2.1, hG.2.2.2.2.1.2.2.2.2.1⟩ rfl
        have hb : j.toNatClampNeg * componentBytes (newarray.typeOf at0) ≤ 536870912 := Nat.le_trans (Nat.mul_le_mul e3 u4) (by decide)
        refine xs_newa C u1 u2 u3 e2 hb k1 k2 hdg (fun a ha hB => ?_)
        have hV : ∀ as_q n, kAt as_q n ((t.1, j.toNatClampNeg, [], 0, 0) : kC) (some (t.1, j.toNatClampNeg, fun _ => defaultValue (newarray.typeOf at0))) := by
          intro as_q n
          have hcase : (t.1 = 1001 ∧ defaultValue (newarray.typeOf at0) = .long 0) ∨ (1000 ≤ t.1 ∧ t.1 < 2000 ∧ t.1 ≠ 1001 ∧ defaultValue (newarray.typeOf at0) = .int 0) := by
            unfold aNt at ht
            split at ht <;> first | (cases ht; done) | skip
            · cases ht; exact Or.inr ⟨by decide, by decide, by decide, rfl⟩
            · cases ht; exact Or.inl ⟨rfl, rfl⟩
            · cases ht; exact Or.inr ⟨by decide, by decide, by decide, rfl⟩
            · cases ht; exact Or.inr ⟨by decide, by decide, by decide, rfl⟩
          refine ⟨_, rfl, fun h9 => ?_, fun _ _ j_q _ => ?_⟩
          · have h9 : t.1 < 1000 ∨ 2000 ≤ t.1 := h9
            exfalso
            rcases hcase with ⟨q, -⟩ | ⟨q1, q2, -, -⟩ <;> omega
          · show kNm _ (defaultValue (newarray.typeOf at0))
            unfold kNm
            rcases hcase with ⟨q, q2⟩ | ⟨-, -, q1, q2⟩
            · rw [if_pos q, q2]
              exact ⟨0, rfl, (by show (0 : Int) ≤ Int64.toInt 0; decide), (by show Int64.toInt 0 ≤ (0 : Int); decide)⟩
            · rw [if_neg q1, q2]
              exact ⟨0, rfl, (by show (0 : Int) ≤ Int32.toInt 0; decide), (by show Int32.toInt 0 ≤ (0 : Int); decide)⟩
        obtain ⟨n1, n2⟩ := kSt_new (σ := σ) (S := S) (k_q := σ.2.2.2.2.1 + 1) (s_q := σ.2.2.2.2.2 + j.toNatClampNeg) hA2 ha hB hV
        exact kk _ lv _ _ ⟨Nat.le_succ _, n1⟩ n2
      · cases h1
    · cases h1
  · rename_i idx
    split at h1
    · rename_i t j S ht hS
      split at h1
      · rename_i hc
        obtain ⟨rfl, e2, e3, e4⟩ := hc
        rw [kFn_ok, kFn_ok, kSp_ok] at h1
        cases h1
        intro k1 k2 kk
        rw [hS] at h2 h5
        obtain ⟨st_q, rfl, h21⟩ := kStk_cons h2
        have hA2 : kSt as B (σ.1, S, σ.2.2) lv st_q h := ⟨hA.1, h21, hA.2.2.1, hA.2.2.2.1, fun w hw => h5 w (List.mem_cons_of_mem _ hw)⟩
        obtain ⟨E, u1, u2, u3⟩ := hG.2.2.2.1 _ (kF1_mem ht)
        dsimp only at u1 u2
        refine xs_anew C u1 u2 u3 e2 (by omega) k1 k2 hdg (fun a ha hB => ?_)
        have hV : ∀ as_q n, kAt as_q n ((t, j.toNatClampNeg, List.replicate j.toNatClampNeg .null, 0, 0) : kC) (some (t, j.toNatClampNeg, fun _ => .null)) := by
          intro as_q n
          refine ⟨_, rfl, fun _ => ⟨by simp, fun j_q w hw => ?_⟩, fun h1 h21 => ?_⟩
          · have hw : (List.replicate j.toNatClampNeg Value.null)[j_q]? = some w := hw
            rw [List.getElem?_replicate] at hw
            split at hw
            · cases hw
              exact ⟨rfl, fun i hi => by cases hi⟩
            · cases hw
          · have h21 : t < 2000 := h21
            omega
        obtain ⟨n1, n2⟩ := kSt_new (σ := σ) (S := S) (k_q := σ.2.2.2.2.1 + 1) (s_q := σ.2.2.2.2.2 + j.toNatClampNeg) hA2 ha hB hV
        exact kk _ lv _ _ ⟨Nat.le_succ _, n1⟩ n2
      · cases h1
    · cases h1
  · split at h1
    · rename_i a2 j a S hS
      split at h1
      · rename_i c0 c2 hc0 hc2
        split at h1
        · rename_i hc
          obtain ⟨rfl, e1, e2, e3, e4, e5⟩ := hc
          rw [kSp_ok, kSq_ok] at h1
          cases h1
          intro k1 k2 kk
          rw [hS] at h2 h5
          obtain ⟨st1, rfl, h21⟩ := kStk_cons h2
          obtain ⟨st2, rfl, h22⟩ := kStk_cons h21
          obtain ⟨st_q, rfl, h23⟩ := kStk_cons h22
          have ha := kW_ref (h5 (.ref a) (List.mem_cons_of_mem _ (List.mem_cons_of_mem _ List.mem_cons_self)))
          have ha2 := kW_ref (h5 (.ref a2) List.mem_cons_self)
          obtain ⟨g1, V, g2, g3, -⟩ := kCell hA ha hc0
          obtain ⟨-, V2, m2, -⟩ := kCell hA ha2 hc2
          have hob : c0.1 < 1000 ∨ 2000 ≤ c0.1 := Or.inr e1
          obtain ⟨g4, g5⟩ := g3 hob
          have hA2 : kSt as B (σ.1, S, σ.2.2) lv st_q h := ⟨hA.1, h23, hA.2.2.1, hA.2.2.2.1, fun w hw => h5 w (List.mem_cons_of_mem _ (List.mem_cons_of_mem _ (List.mem_cons_of_mem _ hw)))⟩
          have hput := kSt_put hA2 ha hc0 (kSetL (f := j.toNatClampNeg) g4 g5 (h5 (.ref a2) List.mem_cons_self) hob)
          obtain ⟨z9, hz9, hz8⟩ := List.any_eq_true.mp e5
          obtain ⟨E9, hty, -⟩ := hG.2.2.2.1 _ hz9
          rw [Nat.eq_of_beq_eq_true hz8] at hty
          obtain ⟨rr, hrr, hE9⟩ := hG.2.2.2.2.1.2.2.2.2.2 _ _ hty e1
          rw [hE9] at hty
          rw [e2] at m2
          exact xs_aast C hrr hty g2 g1 m2 (fun q9 => by rcases q9 with q9 | q9; exact e3 q9; omega) hdg (kk as lv st_q _ ⟨Nat.le_refl _, fun _ _ => rfl⟩ hput)
        · cases h1
      · cases h1
    · cases h1
  · cases h1
end KP4
