/-! ===== the rows of a table, opened ===== -/
noncomputable def zT (a x : Int) : Int := match a with
  | Int.ofNat 1 => x
  | Int.negSucc 0 => -x
  | _ => a * x
theorem zT_eq (a x : Int) : zT a x = a * x := by
  unfold zT
  split
  · rw [show (Int.ofNat 1) = 1 from rfl, Int.one_mul]
  · rw [show (Int.negSucc 0) = -1 from rfl]
    omega
  · rfl
noncomputable def zS (ρ : Nat → Int) : List (Nat × Int) → Int
  | [] => 0
  | [q] => zT q.2 (ρ q.1)
  | q :: q2 :: r => zT q.2 (ρ q.1) + zS ρ (q2 :: r)
theorem zS_eq {ρ : Nat → Int} : ∀ l : List (Nat × Int), rSm ρ l = zS ρ l
  | [] => rfl
  | [q] => by
    simp only [rSm, zS, zT_eq]
    omega
  | q :: q2 :: r => by
    simp only [rSm, zS, zT_eq] at *
    have := zS_eq (ρ := ρ) (q2 :: r)
    simp only [rSm] at this
    omega
noncomputable def zE (ρ : Nat → Int) (x : rX) : Int := match x.1, x.2 with
  | [], c => c
  | l, Int.ofNat 0 => zS ρ l
  | l, c => zS ρ l + c
theorem zE_eq (ρ : Nat → Int) (x : rX) : rE ρ x = zE ρ x := by
  obtain ⟨l, c⟩ := x
  unfold zE rE
  dsimp only
  rw [zS_eq]
  split
  · simp [zS]
  · rw [show Int.ofNat 0 = 0 from rfl]
    omega
  · omega
noncomputable def zAnd : List Prop → Prop
  | [] => True
  | p :: r => p ∧ zAnd r
noncomputable def zAll {α : Type} (P : α → Prop) : List α → Prop
  | [] => True
  | x :: r => P x ∧ zAll P r
theorem zAll_of {α : Type} {P : α → Prop} : ∀ {l : List α}, (∀ x ∈ l, P x) → zAll P l
  | [], _ => trivial
  | x :: _, h => ⟨h x List.mem_cons_self, zAll_of (fun y hy => h y (List.mem_cons_of_mem _ hy))⟩
theorem zAll_in {α : Type} {P : α → Prop} : ∀ {l : List α}, zAll P l → ∀ x ∈ l, P x
  | [], _, x, hx => by cases hx
  | y :: _, h, x, hx => by
    rcases List.mem_cons.mp hx with rfl | hx
    · exact h.1
    · exact zAll_in h.2 x hx
noncomputable def zRn (ρ : Nat → Int) : Nat → aRg → Prop
  | _, [] => True
  | k, q :: r => (q.1 ≤ ρ k ∧ ρ k ≤ q.2) ∧ zRn ρ (k + 1) r
theorem zRn_of {ρ : Nat → Int} : ∀ {R : aRg} {k : Nat}, (∀ i, i < R.length → (aG R i).1 ≤ ρ (k + i) ∧ ρ (k + i) ≤ (aG R i).2) → zRn ρ k R
  | [], _, _ => trivial
  | q :: r, k, h => by
    refine ⟨?_, zRn_of (k := k + 1) (fun i hi => ?_)⟩
    · have := h 0 (by simp)
      simpa [aG] using this
    · have := h (i + 1) (by simp; omega)
      rw [show k + (i + 1) = k + 1 + i by omega] at this
      simpa [aG] using this
noncomputable def zCh (ρ : Nat → Int) (γ : Nat → rHp) : List rD → Prop
  | [] => True
  | d :: r => zCh ρ γ r ∧ (match d.1 with
    | 0 => γ (r.length + 1) = rUp (γ r.length) d.2.1.1 (zE ρ d.2.1.2.1) (zE ρ d.2.1.2.2.1) (zE ρ d.2.1.2.2.2)
    | _ => ∀ (G : Nat) (k j : Int), ¬ rMdP d.2.2.1 G j → γ (r.length + 1) G k j = γ r.length G k j)
theorem zCh_of {T : List rIT} {ρ : Nat → Int} {γ : Nat → rHp} : ∀ {ch : List rD}, rCh T ρ γ ch → zCh ρ γ ch
  | [], _ => trivial
  | d :: r, h => by
    refine ⟨zCh_of h.2, ?_⟩
    have h1 := h.1
    unfold rD1 at h1
    split
    · rename_i e
      rw [if_pos e] at h1
      rw [h1, zE_eq, zE_eq, zE_eq]
    · rename_i e
      rw [if_neg (fun q => e q)] at h1
      exact h1.1
noncomputable def zLgE (S : Nat → zSpc) (ρ : Nat → Int) (γ : Nat → rHp) (q : zLg) : Prop := match q.1 with
  | .inl k => S k (q.2.1.map (zE ρ)) (γ q.2.2.1) q.2.2.2.1 (zE ρ q.2.2.2.2) (γ (q.2.2.1 + 1))
  | .inr i => zOpP i (γ q.2.2.1) (γ (q.2.2.1 + 1)) (q.2.1.map (zE ρ)) (zE ρ q.2.2.2.2)
noncomputable def zO (m : Nat) (S : Nat → zSpc) (a : List Int) (g : rHp) (q : zNx) (ρ : Nat → Int) (γ : Nat → rHp) : Prop :=
  a = zAg m ρ ∧ g = γ 0 ∧ zRn ρ 0 q.2.2.1.1 ∧ zAll (fun x => 0 ≤ zE ρ x) q.2.2.1.2.1 ∧ zAll (fun x => γ x.1 x.2.1 (zE ρ x.2.2.1) (zE ρ x.2.2.2.1) = zE ρ x.2.2.2.2) q.2.2.1.2.2.2.2.2.1 ∧ zCh ρ γ q.2.2.1.2.2.2.2.1 ∧ zAll (zLgE S ρ γ) q.2.2.2.1
theorem zOpen {W : List rGr} {T : List rIT} {i0 : List Nat} {m : Nat} {S : Nat → zSpc} {a : List Int} {g : rHp} {q : zNx} {ρ : Nat → Int} {γ : Nat → rHp} (h : zF0 W T i0 m S a g q ρ γ) : zO m S a g q ρ γ ∧ rIvs T g i0 := by
  obtain ⟨h1, h2, ⟨h3, h4, h5, h6, h7, h8⟩, h9⟩ := h
  have e : rE ρ = zE ρ := funext (zE_eq ρ)
  refine ⟨⟨h1.symm, h2.symm, zRn_of (fun i _ => by rw [Nat.zero_add]; exact h3 i), zAll_of (fun x hx => by rw [← zE_eq]; exact h4 x hx), zAll_of (fun x hx => by rw [← zE_eq, ← zE_eq, ← zE_eq]; exact h6 x hx), zCh_of h5, zAll_of (fun x hx => ?_)⟩, by rw [← h2]; exact h8⟩
  have := h9 x hx
  unfold zLgP at this
  unfold zLgE
  rw [← e]
  exact this
/-- where a row ends -/
noncomputable def zGl (J : Nat → List Int → rHp → Prop) (P : Nat → Int → rHp → Prop) (q : zNx) (ρ : Nat → Int) (γ : Nat → rHp) : Prop := match q.1 with
  | 1 => P q.2.1 (zE ρ (zTx q.2.2.1.2.2.2.1)) (γ q.2.2.1.2.2.2.2.1.length)
  | 2 => J q.2.1 (q.2.2.2.2.map (zE ρ)) (γ q.2.2.1.2.2.2.2.1.length)
  | _ => True
noncomputable def zAllI (P : Nat → zNx → Prop) : Nat → List (List zNx) → Prop
  | _, [] => True
  | i, l :: r => zAll (P i) l ∧ zAllI P (i + 1) r
theorem zAllI_in {P : Nat → zNx → Prop} : ∀ {las : List (List zNx)} {i : Nat}, zAllI P i las → ∀ (j : Nat), ∀ q ∈ las.getD j [], P (i + j) q
  | [], _, _, j, q, hq => by simp at hq
  | l :: r, i, h, 0, q, hq => zAll_in h.1 q (by simpa using hq)
  | l :: r, i, h, j + 1, q, hq => by
    have := zAllI_in h.2 j q (by simpa using hq)
    rw [show i + (j + 1) = i + 1 + j by omega]
    exact this
theorem zSem_all {W : List rGr} {T : List rIT} {i0 : List Nat} {m : Nat} {S : Nat → zSpc} {l0 : List zNx} {las : List (List zNx)} {nA : Nat → Nat} {a : List Int} {g g_q : rHp} {o : Nat} {v : Int} {J : Nat → List Int → rHp → Prop} {P : Nat → Int → rHp → Prop}
    (h0 : rIvs T g i0 → zAll (fun q => ∀ (ρ : Nat → Int) (γ : Nat → rHp), zO m S a g q ρ γ → zGl J P q ρ γ) l0)
    (ha : rIvs T g i0 → zAllI (fun j q => ∀ (ρ : Nat → Int) (γ : Nat → rHp), J j (zAg (nA j) ρ) (γ 1) → zO m S a g q ρ γ → zGl J P q ρ γ) 0 las)
    (h : zSem W T i0 m S l0 (fun i => las.getD i []) nA a g o v g_q) : P o v g_q := by
  have inv : ∀ (k i : Nat) (vs : List Int) (g1 : rHp), zRch W T i0 m S l0 (fun i => las.getD i []) nA a g k i vs g1 → J i vs g1 := by
    intro k
    induction k with
    | zero =>
      rintro i vs g1 ⟨q, hq, e1, e2, ρ, γ, hF, e3, e4⟩
      obtain ⟨hO, hT⟩ := zOpen hF
      have := zAll_in (h0 hT) q hq ρ γ hO
      unfold zGl at this
      rw [e1] at this
      rw [e2] at this
      rw [e3, e4, funext (zE_eq ρ)]
      exact this
    | succ k ih =>
      rintro i vs g1 ⟨j, us, g0, h1, q, hq, e1, e2, ρ, γ, ⟨e5, e6, hF⟩, e3, e4⟩
      obtain ⟨hO, hT⟩ := zOpen hF
      have := zAllI_in (ha hT) j q hq ρ γ (by rw [Nat.zero_add, e5, e6]; exact ih j us g0 h1) hO
      unfold zGl at this
      rw [e1] at this
      rw [e2] at this
      rw [e3, e4, funext (zE_eq ρ)]
      exact this
  rcases h with ⟨q, hq, e1, e2, ρ, γ, hF, e3, e4⟩ | ⟨k, j, us, g1, h1, q, hq, e1, e2, ρ, γ, ⟨e5, e6, hF⟩, e3, e4⟩
  · obtain ⟨hO, hT⟩ := zOpen hF
    have := zAll_in (h0 hT) q hq ρ γ hO
    unfold zGl at this
    rw [e1] at this
    rw [e2] at this
    rw [e3, e4, zE_eq]
    exact this
  · obtain ⟨hO, hT⟩ := zOpen hF
    have := zAllI_in (ha hT) j q hq ρ γ (by rw [Nat.zero_add, e5, e6]; exact inv k j us g1 h1) hO
    unfold zGl at this
    rw [e1] at this
    rw [e2] at this
    rw [e3, e4, zE_eq]
    exact this
/-! what did not change -/
theorem zKa {ms : Nat} {G : Nat} (h16 : 16 ≤ G) (h : Nat.testBit ms (2048 + G) = false) {g g_q : rHp} (hk : ∀ (G : Nat) (k j : Int), ¬ rMdP ms G j → g_q G k j = g G k j) : g_q G = g G := by
  funext k j
  refine hk G k j ?_
  rintro (⟨h1, -⟩ | ⟨-, h1⟩)
  · omega
  · rw [h] at h1
    cases h1
theorem zKo {ms : Nat} {G n : Nat} (h16 : G < 16) (h : Nat.testBit ms (128 * G + n) = false) {g g_q : rHp} (hk : ∀ (G : Nat) (k j : Int), ¬ rMdP ms G j → g_q G k j = g G k j) (k : Int) : g_q G k (n : Int) = g G k (n : Int) := by
  refine hk G k n ?_
  rintro (⟨-, m, h1, -, h2⟩ | ⟨h1, -⟩)
  · have : m = n := by omega
    rw [this, h] at h2
    cases h2
  · omega
theorem rUp_grp {g : rHp} {G G_q : Nat} {k j v : Int} (h : G_q ≠ G) : rUp g G k j v G_q = g G_q := by
  funext k_q j_q
  exact rUp_ne (fun q => h q.1)
theorem rUp_self {g : rHp} {G : Nat} {k j v : Int} (h : g G k j = v) : rUp g G k j v = g := by
  funext G_q k_q j_q
  unfold rUp
  split
  · rename_i e
    obtain ⟨rfl, rfl, rfl⟩ := e
    exact h.symm
  · rfl
theorem rUp_two {g : rHp} {G : Nat} {k j v w : Int} : rUp (rUp g G k j v) G k j w = rUp g G k j w := by
  funext G_q k_q j_q
  unfold rUp
  split <;> rfl
