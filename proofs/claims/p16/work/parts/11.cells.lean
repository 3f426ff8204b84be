/-! ===== the checker on the heap ===== -/
def aIn (R : aRg) (v : aV) (lo hi : Int) : Bool := decide (lo ≤ (aG R v.2.1).1 + v.2.2) && decide ((aG R v.2.1).2 + v.2.2 ≤ hi)
def aInF (R : aRg) (v : aV) (f : aF) : Bool := match f.1 with
  | 0 => decide (v.1 = 0) && aIn R v f.2.1 f.2.2
  | 1 => decide (v.1 = 1) && aIn R v f.2.1 f.2.2
  | 4 => decide (v.1 = 4) && decide (v.2.2 = f.2.1)
  | 5 => decide (v.1 = 3) || ((decide (v.1 = 4) || decide (v.1 = 5)) && decide (v.2.2 = f.2.1))
  | _ => false
theorem aIn_ok {R : aRg} {ρ : Nat → Int} {v : aV} {lo hi : Int} (hR : aOkR R ρ) (h : aIn R v lo hi = true) : lo ≤ ρ v.2.1 + v.2.2 ∧ ρ v.2.1 + v.2.2 ≤ hi := by
  simp only [aIn, Bool.and_eq_true, decide_eq_true_eq] at h
  have := hR v.2.1
  omega
theorem aInF_ok {R : aRg} {ρ : Nat → Int} {α τ : Nat → Option Nat} {b : aSc} {v : aV} {x : Value} {f : aF} (hR : aOkR R ρ) (hv : aM ρ α τ b v x) (h : aInF R v f = true) : aFm τ f x := by
  obtain ⟨t, k, o⟩ := v
  unfold aInF at h
  unfold aFm
  split at h
  · simp only [Bool.and_eq_true, decide_eq_true_eq] at h
    obtain ⟨rfl, h2⟩ := h
    obtain ⟨z, h3, h4⟩ := (show ∃ z : Int32, x = .int z ∧ z.toInt = ρ k + o from hv)
    have := aIn_ok hR h2
    rw [← h4] at this
    rename_i e
    rw [e]
    exact ⟨z, h3, this.1, this.2⟩
  · simp only [Bool.and_eq_true, decide_eq_true_eq] at h
    obtain ⟨rfl, h2⟩ := h
    obtain ⟨z, h3, h4⟩ := (show ∃ z : Int64, x = .long z ∧ z.toInt = ρ k + o from hv)
    have := aIn_ok hR h2
    rw [← h4] at this
    rename_i e
    rw [e]
    exact ⟨z, h3, this.1, this.2⟩
  · simp only [Bool.and_eq_true, decide_eq_true_eq] at h
    obtain ⟨rfl, h2⟩ := h
    obtain ⟨a, h3, h4, h5⟩ := (show ∃ a : Nat, x = .ref a ∧ α k = some a ∧ τ a = some o.toNat from hv)
    rename_i e
    rw [e]
    exact ⟨a, h3, by rw [← h2]; exact h5⟩
  · rename_i e
    rw [e]
    simp only [Bool.or_eq_true, Bool.and_eq_true, decide_eq_true_eq] at h
    rcases h with rfl | ⟨h1, h2⟩
    · exact Or.inl hv
    · rcases h1 with rfl | rfl
      · obtain ⟨a, h3, h4, h5⟩ := (show ∃ a : Nat, x = .ref a ∧ α k = some a ∧ τ a = some o.toNat from hv)
        exact Or.inr ⟨a, h3, by rw [← h2]; exact h5⟩
      · rcases (show (x = .null ∧ α k = none) ∨ ∃ a : Nat, x = .ref a ∧ α k = some a ∧ τ a = some o.toNat from hv) with ⟨h3, -⟩ | ⟨a, h3, h4, h5⟩
        · exact Or.inl h3
        · exact Or.inr ⟨a, h3, by rw [← h2]; exact h5⟩
  · cases h
/-- what a cell of a kind held comes onto the stack -/
def aPf (σ : aS) (S : List aV) (f : aF) : Option aS := match f.1 with
  | 0 => aPu σ S 0 (.inr f.2)
  | 1 => aPu σ S 1 (.inr f.2)
  | 4 => if aWf (σ.1, σ.2.1, σ.2.2.1, S, σ.2.2.2.2) = true then some (σ.1, σ.2.1 + 1, σ.2.2.1, (4, σ.2.1, f.2.1) :: S, σ.2.2.2.2) else none
  | 5 => if aWf (σ.1, σ.2.1, σ.2.2.1, S, σ.2.2.2.2) = true then some (σ.1, σ.2.1 + 1, σ.2.2.1, (5, σ.2.1, f.2.1) :: S, σ.2.2.2.2) else none
  | _ => none
def aFo (O : List aO) (k : Nat) : Option aO := O.find? (fun o => o.1 == k)
def aSo (O : List aO) (k f : Nat) (v : aV) : List aO := O.map (fun o => if o.1 = k then (o.1, o.2.1, o.2.2.set f v) else o)
theorem aFo_mem {O : List aO} {k : Nat} {o : aO} (h : aFo O k = some o) : o ∈ O ∧ o.1 = k := by
  unfold aFo at h
  exact ⟨List.mem_of_find?_eq_some h, by simpa using List.find?_some h⟩
theorem pw_sym {β : Type} {r : β → β → Prop} (hs : ∀ x y, r x y → r y x) {x y : β} : ∀ {l : List β}, l.Pairwise r → x ∈ l → y ∈ l → x ≠ y → r x y
  | [], _, hx, _, _ => by cases hx
  | z :: zs, h, hx, hy, hne => by
    rw [List.pairwise_cons] at h
    rcases List.mem_cons.mp hx with rfl | hx1
    · rcases List.mem_cons.mp hy with rfl | hy1
      · exact absurd rfl hne
      · exact h.1 y hy1
    · rcases List.mem_cons.mp hy with rfl | hy1
      · exact hs _ _ (h.1 x hx1)
      · exact pw_sym hs h.2 hx1 hy1 hne
theorem aObs_ne {ρ : Nat → Int} {α τ : Nat → Option Nat} {b : aSc} {B : Nat} {O : List aO} {h : xH} (hO : aObs ρ α τ b B O h) {o o_q : aO} (h1 : o ∈ O) (h2 : o_q ∈ O) (hne : o.1 ≠ o_q.1) : α o.1 ≠ α o_q.1 :=
  pw_sym (fun _ _ g => Ne.symm g) hO.2 h1 h2 (fun q => hne (by rw [q]))
section XW
variable {p : Program} {l : Launch} {e : Env} {R0 : Room} {s : State} {m : MethodId} {args : Array Value} {below : List Frame} {meth : Method} {c : Code} {Q : State → Prop}
variable {cc : ByteArray} {nL : Nat} {Ts : List Cond} {own : String} {D : va_G} {dA : Nat → ClassId} {cl : List vw_C} {tA : List (Nat × FieldType)} {tyf : Nat → Nat → FieldType} {B : Nat}
variable {kd : List aKd} {b : aSc} {P : Nat → Prop} {h0 : xH} {ρ : Nat → Int} {α τ : Nat → Option Nat} {σ : aS} {pc len : Nat} {lv : List (Nat × Value)} {st : List Value} {h : xH} {i : Instr} {l1 : List (Nat × aS)}
theorem aPf_ok {S : List aV} {f : aF} {σ_q : aS} {v : Value} (hA : aSx kd B b P h0 ρ α τ (σ.1, σ.2.1, σ.2.2.1, S, σ.2.2.2.2) lv st h) (hp : aPf σ S f = some σ_q) (hv : aFm τ f v) :
    ∃ (ρ_q : Nat → Int) (α_q : Nat → Option Nat), aSame σ.1.length σ.2.1 ρ ρ_q α α_q ∧ aSx kd B b P h0 ρ_q α_q τ σ_q lv (v :: st) h ∧ σ_q.2.2.2.2.2 = σ.2.2.2.2.2 := by
  have nw : ∀ (r : Option Nat), aWf (σ.1, σ.2.1, σ.2.2.1, S, σ.2.2.2.2) = true → aSame σ.1.length σ.2.1 ρ ρ α (aUp α σ.2.1 r) ∧ aSx kd B b P h0 ρ (aUp α σ.2.1 r) τ (σ.1, σ.2.1 + 1, σ.2.2.1, S, σ.2.2.2.2) lv st h := by
    intro r hw
    have hs : aSame σ.1.length σ.2.1 ρ ρ α (aUp α σ.2.1 r) := ⟨fun _ _ => rfl, fun k hk => aUp_ne _ _ (Nat.ne_of_lt hk)⟩
    exact ⟨hs, aSx_to (R_q := σ.1) (m_q := σ.2.1 + 1) hw hA hs hA.1.1⟩
  unfold aPf at hp
  unfold aFm at hv
  split at hp
  · rename_i e
    rw [e] at hv
    obtain ⟨z, h1, h2, h3⟩ := hv
    obtain ⟨ρ_q, g1, g2, g3⟩ := aPu_ok hA hp (Or.inl ⟨rfl, z, h1, h2, h3⟩)
    exact ⟨ρ_q, α, g1, g2, g3⟩
  · rename_i e
    rw [e] at hv
    obtain ⟨z, h1, h2, h3⟩ := hv
    obtain ⟨ρ_q, g1, g2, g3⟩ := aPu_ok hA hp (Or.inr ⟨rfl, z, h1, h2, h3⟩)
    exact ⟨ρ_q, α, g1, g2, g3⟩
  · rename_i e
    rw [e] at hv
    split at hp
    · rename_i hw
      cases hp
      obtain ⟨a, h1, h2⟩ := hv
      obtain ⟨g1, g2⟩ := nw (some a) hw
      exact ⟨ρ, _, g1, ⟨⟨g2.1.1, g2.1.2.1, ⟨⟨a, h1, aUp_self _ _ _, h2⟩, g2.1.2.2.1⟩, g2.1.2.2.2⟩, g2.2⟩, rfl⟩
    · cases hp
  · rename_i e
    rw [e] at hv
    split at hp
    · rename_i hw
      cases hp
      rcases hv with h1 | ⟨a, h1, h2⟩
      · obtain ⟨g1, g2⟩ := nw none hw
        exact ⟨ρ, _, g1, ⟨⟨g2.1.1, g2.1.2.1, ⟨Or.inl ⟨h1, aUp_self _ _ _⟩, g2.1.2.2.1⟩, g2.1.2.2.2⟩, g2.2⟩, rfl⟩
      · obtain ⟨g1, g2⟩ := nw (some a) hw
        exact ⟨ρ, _, g1, ⟨⟨g2.1.1, g2.1.2.1, ⟨Or.inr ⟨a, h1, aUp_self _ _ _, h2⟩, g2.1.2.2.1⟩, g2.1.2.2.2⟩, g2.2⟩, rfl⟩
    · cases hp
  · cases hp
/-- a write into a cell of a kind -/
theorem aSx_wk {a K j : Nat} {q : aKd} {V : Nat → Value} {x : Value} (hA : aSx kd B b P h0 ρ α τ σ lv st h) (ht : τ a = some K) (hq : kd[K]? = some q) (ha : h a = some (q.1, q.2.1, V)) (hx : aFm τ (aKf q j) x) : aSx kd B b P h0 ρ α τ σ lv st (xput h a (q.1, q.2.1, updV V j x)) := by
  obtain ⟨⟨g1, g2, g3, g4, g5⟩, g6, g7, g8⟩ := hA
  refine ⟨⟨g1, g2, g3, ⟨fun o ho => ?_, g4.2⟩, fun a_q K_q ht_q => ?_⟩, fun a_q hp => ?_, g7, g8⟩
  · obtain ⟨a_q, V_q, e1, e2, e3, e4, e5⟩ := g4.1 o ho
    have hne : a_q ≠ a := fun q => by rw [q, ht] at e3; cases e3
    exact ⟨a_q, V_q, e1, e2, e3, by simp only [xput, if_neg hne]; exact e4, e5⟩
  · obtain ⟨q_q, V_q, e1, e2, e3, e4⟩ := g5 a_q K_q ht_q
    by_cases he : a_q = a
    · subst he
      cases ht.symm.trans ht_q
      cases hq.symm.trans e1
      cases ha.symm.trans e3
      refine ⟨q, updV V j x, hq, e2, by simp only [xput, if_true], fun j_q hj_q => ?_⟩
      unfold updV
      split
      · rename_i hj; rw [hj]; exact hx
      · exact e4 j_q hj_q
    · exact ⟨q_q, V_q, e1, e2, by simp only [xput, if_neg he]; exact e3, e4⟩
  · have hne : a_q ≠ a := fun q => by
      rw [q] at hp
      have := (g6 a hp).2
      rw [ht] at this
      cases this
    simp only [xput, if_neg hne]
    exact g6 a_q hp
/-- a write into a followed cell -/
theorem aSx_wo {k f a : Nat} {o : aO} {V : Nat → Value} {v : aV} {x : Value} (hA : aSx kd B b P h0 ρ α τ σ lv st h) (ho : aFo σ.2.2.2.2.1 k = some o) (hk : α k = some a) (ha : h a = some (o.2.1, o.2.2.length, V)) (hx : aM ρ α τ b v x) :
    aSx kd B b P h0 ρ α τ (σ.1, σ.2.1, σ.2.2.1, σ.2.2.2.1, aSo σ.2.2.2.2.1 k f v, σ.2.2.2.2.2) lv st (xput h a (o.2.1, o.2.2.length, updV V f x)) := by
  obtain ⟨⟨g1, g2, g3, g4, g5⟩, g6, g7, g8⟩ := hA
  obtain ⟨ho1, ho2⟩ := aFo_mem ho
  obtain ⟨a0, V0, e1, e2, e3, e4, e5⟩ := g4.1 o ho1
  rw [ho2, hk] at e1
  cases e1
  rw [ha] at e4
  cases e4
  refine ⟨⟨g1, g2, g3, ⟨fun o_q ho_q => ?_, ?_⟩, fun a_q K_q ht_q => ?_⟩, fun a_q hp => ?_, ?_, g8⟩
  · obtain ⟨o1, ho1_q, rfl⟩ := List.mem_map.mp ho_q
    by_cases he : o1.1 = k
    · rw [if_pos he]
      have hs : o1 = o := by
        apply Classical.byContradiction
        intro hne
        have := pw_sym (fun _ _ g => Ne.symm g) g4.2 ho1_q ho1 hne
        rw [he, ho2] at this
        exact this rfl
      subst hs
      refine ⟨a, updV V f x, by rw [he]; exact hk, e2, e3, by simp only [xput, if_true, List.length_set], fun j v_q hv_q => ?_⟩
      dsimp only at hv_q
      rw [List.getElem?_set] at hv_q
      unfold updV
      by_cases hj : f = j
      · rw [if_pos hj] at hv_q
        split at hv_q
        · cases hv_q
          rw [if_pos hj.symm]
          exact hx
        · cases hv_q
      · rw [if_neg hj] at hv_q
        rw [if_neg (fun q => hj q.symm)]
        exact e5 j v_q hv_q
    · rw [if_neg he]
      obtain ⟨a1, V1, f1, f2, f3, f4, f5⟩ := g4.1 o1 ho1_q
      have hne : a1 ≠ a := fun q => by
        have := aObs_ne g4 ho1_q ho1 (by rw [ho2]; exact he)
        rw [f1, ho2, hk, q] at this
        exact this rfl
      exact ⟨a1, V1, f1, f2, f3, by simp only [xput, if_neg hne]; exact f4, f5⟩
  · show List.Pairwise _ (List.map _ _)
    rw [List.pairwise_map]
    refine List.Pairwise.imp ?_ g4.2
    intro x1 x2 hne
    have : ∀ z : aO, (if z.1 = k then (z.1, z.2.1, z.2.2.set f v) else z).1 = z.1 := fun z => by split <;> rfl
    rw [this, this]
    exact hne
  · obtain ⟨q_q, V_q, h1, h2, h3, h4⟩ := g5 a_q K_q ht_q
    have hne : a_q ≠ a := fun q => by rw [q, e3] at ht_q; cases ht_q
    exact ⟨q_q, V_q, h1, h2, by simp only [xput, if_neg hne]; exact h3, h4⟩
  · have hne : a_q ≠ a := fun q => by
      rw [q] at hp
      exact hp (g7 o ho1 a (by rw [ho2]; exact hk))
    simp only [xput, if_neg hne]
    exact g6 a_q hp
  · intro o_q ho_q a_q ha_q
    obtain ⟨o1, ho1_q, rfl⟩ := List.mem_map.mp ho_q
    have : (if o1.1 = k then (o1.1, o1.2.1, o1.2.2.set f v) else o1).1 = o1.1 := by split <;> rfl
    rw [this] at ha_q
    exact g7 o1 ho1_q a_q ha_q
end XW
/-! publishing: a followed cell becomes one of a kind -/
def aPb (k : Nat) (K : Int) (v : aV) : aV := if v.1 = 2 ∧ v.2.1 = k then (4, k, K) else v
def aPubOk (R : aRg) (q : aKd) : Nat → List aV → Bool
  | _, [] => true
  | j, v :: vs => aInF R v (aKf q j) && aPubOk R q (j + 1) vs
def aPub (kd : List aKd) (σ : aS) (k : Nat) (K : Int) : Option aS := match aFo σ.2.2.2.2.1 k, kd[K.toNat]? with
  | some o, some q => if o.2.1 = q.1 ∧ o.2.2.length = q.2.1 ∧ aPubOk σ.1 q 0 o.2.2 = true then
      some (σ.1, σ.2.1, σ.2.2.1.map (fun x => (x.1, aPb k K x.2)), σ.2.2.2.1.map (aPb k K), (σ.2.2.2.2.1.filter (fun o_q => !(o_q.1 == k))).map (fun o_q => (o_q.1, o_q.2.1, o_q.2.2.map (aPb k K))), σ.2.2.2.2.2) else none
  | _, _ => none
theorem aPubOk_at {R : aRg} {q : aKd} : ∀ {vs : List aV} {j0 : Nat}, aPubOk R q j0 vs = true → ∀ (j : Nat) (v : aV), vs[j]? = some v → aInF R v (aKf q (j0 + j)) = true
  | [], _, _, _, _, hv => by simp at hv
  | w :: vs, j0, h, j, v, hv => by
    simp only [aPubOk, Bool.and_eq_true] at h
    cases j with
    | zero =>
      simp at hv
      subst hv
      exact h.1
    | succ j =>
      have := aPubOk_at h.2 j v (by simpa using hv)
      rw [show j0 + (j + 1) = j0 + 1 + j by omega]
      exact this
section XV
variable {p : Program} {l : Launch} {e : Env} {R0 : Room} {s : State} {m : MethodId} {args : Array Value} {below : List Frame} {meth : Method} {c : Code} {Q : State → Prop}
variable {cc : ByteArray} {nL : Nat} {Ts : List Cond} {own : String} {D : va_G} {dA : Nat → ClassId} {cl : List vw_C} {tA : List (Nat × FieldType)} {tyf : Nat → Nat → FieldType} {B : Nat}
variable {kd : List aKd} {b : aSc} {P : Nat → Prop} {h0 : xH} {ρ : Nat → Int} {α τ : Nat → Option Nat} {σ : aS} {pc len : Nat} {lv : List (Nat × Value)} {st : List Value} {h : xH} {i : Instr} {l1 : List (Nat × aS)}
theorem aPub_ok {k : Nat} {K : Int} {σ_q : aS} (hA : aSx kd B b P h0 ρ α τ σ lv st h) (hp : aPub kd σ k K = some σ_q) : ∃ τ_q, aSub τ τ_q ∧ aSx kd B b P h0 ρ α τ_q σ_q lv st h ∧ σ_q.1 = σ.1 ∧ σ_q.2.1 = σ.2.1 ∧ σ_q.2.2.2.1 = σ.2.2.2.1.map (aPb k K) ∧ σ_q.2.2.2.2.2 = σ.2.2.2.2.2 := by
  unfold aPub at hp
  split at hp
  · rename_i o q ho hq
    split at hp
    · rename_i hc
      cases hp
      obtain ⟨hc1, hc2, hc3⟩ := hc
      obtain ⟨⟨g1, g2, g3, g4, g5⟩, g6, g7, g8⟩ := hA
      obtain ⟨ho1, ho2⟩ := aFo_mem ho
      obtain ⟨a, V, e1, e2, e3, e4, e5⟩ := g4.1 o ho1
      rw [ho2] at e1
      have hsub : aSub τ (aUp τ a (some K.toNat)) := fun a_q K_q h_q => by
        rw [aUp_ne _ _ (fun q => by rw [q, e3] at h_q; cases h_q)]
        exact h_q
      have hM : ∀ (v : aV) (x : Value), aM ρ α τ b v x → aM ρ α (aUp τ a (some K.toNat)) b (aPb k K v) x := by
        intro v x hv
        unfold aPb
        split
        · rename_i hv2
          obtain ⟨t, k1, o1⟩ := v
          dsimp only at hv2
          obtain ⟨rfl, rfl⟩ := hv2
          obtain ⟨a1, h1, h2⟩ := (show ∃ a1 : Nat, x = .ref a1 ∧ α k1 = some a1 from hv)
          rw [e1] at h2
          cases h2
          exact ⟨a, h1, e1, aUp_self _ _ _⟩
        · obtain ⟨t, k1, o1⟩ := v
          unfold aM at hv ⊢
          dsimp only at hv ⊢
          split at hv
          · exact hv
          · exact hv
          · exact hv
          · exact hv
          · obtain ⟨a1, h1, h2, h3⟩ := hv; exact ⟨a1, h1, h2, hsub _ _ h3⟩
          · rcases hv with hv | ⟨a1, h1, h2, h3⟩
            · exact Or.inl hv
            · exact Or.inr ⟨a1, h1, h2, hsub _ _ h3⟩
          · exact hv
          · exact hv
          · exact hv
      refine ⟨aUp τ a (some K.toNat), hsub, ⟨⟨g1, ?_, ?_, ⟨?_, ?_⟩, ?_⟩, ?_, ?_, g8⟩, rfl, rfl, rfl, rfl⟩
      · intro x hx
        obtain ⟨x_q, hx_q, rfl⟩ := List.mem_map.mp hx
        obtain ⟨y, h1, h2⟩ := g2 x_q hx_q
        exact ⟨y, h1, hM _ _ h2⟩
      · have : ∀ (S : List aV) (st : List Value), aStk ρ α τ b S st → aStk ρ α (aUp τ a (some K.toNat)) b (S.map (aPb k K)) st := by
          intro S
          induction S with
          | nil => intro st h1; cases st with
            | nil => trivial
            | cons _ _ => exact h1.elim
          | cons v S ih =>
            intro st h1
            obtain ⟨x, st_q, rfl, hx, h2⟩ := aStk_cons h1
            exact ⟨hM _ _ hx, ih st_q h2⟩
        exact this _ _ g3
      · intro o_q ho_q
        obtain ⟨o1, ho1_q, rfl⟩ := List.mem_map.mp ho_q
        obtain ⟨m1, m2⟩ := List.mem_filter.mp ho1_q
        have hne : o1.1 ≠ k := by simpa using m2
        obtain ⟨a1, V1, f1, f2, f3, f4, f5⟩ := g4.1 o1 m1
        have hna : a1 ≠ a := fun q => by
          have := aObs_ne g4 m1 ho1 (by rw [ho2]; exact hne)
          rw [f1, ho2, e1, q] at this
          exact this rfl
        refine ⟨a1, V1, f1, f2, by rw [aUp_ne _ _ hna]; exact f3, by simpa using f4, fun j v hv => ?_⟩
        rw [List.getElem?_map] at hv
        cases hj : o1.2.2[j]? with
        | none => rw [hj] at hv; cases hv
        | some v_q =>
          rw [hj] at hv
          cases hv
          exact hM _ _ (f5 j v_q hj)
      · show List.Pairwise _ (List.map _ _)
        rw [List.pairwise_map]
        exact List.Pairwise.filter _ g4.2
      · intro a_q K_q h_q
        by_cases he : a_q = a
        · subst he
          rw [aUp_self] at h_q
          cases h_q
          refine ⟨q, V, hq, e2, by rw [← hc1, ← hc2]; exact e4, fun j hj => ?_⟩
          have hj2 : j < o.2.2.length := by omega
          obtain ⟨v, hv⟩ : ∃ v, o.2.2[j]? = some v := ⟨_, List.getElem?_eq_getElem hj2⟩
          have h9 := aPubOk_at hc3 j v hv
          rw [Nat.zero_add] at h9
          exact aFm_to hsub (aInF_ok g1 (e5 j v hv) h9)
        · rw [aUp_ne _ _ he] at h_q
          obtain ⟨q_q, V_q, h1, h2, h3, h4⟩ := g5 a_q K_q h_q
          exact ⟨q_q, V_q, h1, h2, h3, fun j hj => aFm_to hsub (h4 j hj)⟩
      · intro a_q hp
        refine ⟨(g6 a_q hp).1, ?_⟩
        rw [aUp_ne _ _ (fun q => hp (by rw [q]; exact g7 o ho1 a (by rw [ho2]; exact e1)))]
        exact (g6 a_q hp).2
      · intro o_q ho_q a_q ha_q
        obtain ⟨o1, ho1_q, rfl⟩ := List.mem_map.mp ho_q
        exact g7 o1 (List.mem_filter.mp ho1_q).1 a_q ha_q
    · cases hp
  · cases hp
end XV
