/-! ===== cells that are made: a machine run as it is, but for the names of the places ===== -/
/-- a made cell: its kind, how many places, what they hold (objects and arrays of references), between which numbers they lie (arrays of numbers) -/
abbrev kC : Type := Nat × Nat × List Value × Int × Int
/-- locals, stack, the made cells (the newest first), how many, cells and slots made -/
abbrev kS : Type := List (Nat × Value) × List Value × List (Nat × kC) × Nat × Nat × Nat
noncomputable def kRn (as : Nat → Nat) : Value → Value
  | .ref i => .ref (as i)
  | .int z => .int z
  | .long z => .long z
  | .float z => .float z
  | .double z => .double z
  | .null => .null
  | .retAddr z => .retAddr z
theorem kRn_cat {as : Nat → Nat} {v : Value} : (kRn as v).category = v.category := by cases v <;> rfl
theorem kRn_sort {as : Nat → Nat} {v : Value} : xsort (kRn as v) = xsort v := by cases v <;> rfl
noncomputable def kRL (as : Nat → Nat) (L : List (Nat × Value)) : List (Nat × Value) := L.map (fun q => (q.1, kRn as q.2))
theorem xget_rn {as : Nat → Nat} {L : List (Nat × Value)} {i : Nat} : xget (kRL as L) i = (xget L i).map (kRn as) := by
  unfold xget kRL
  rw [List.find?_map, Option.map_map, Option.map_map]
  rfl
theorem xset_rn {as : Nat → Nat} {L : List (Nat × Value)} {i : Nat} {v : Value} : xset (kRL as L) i (kRn as v) = kRL as (xset L i v) := by
  unfold xset kRL
  rw [kRn_cat]
  split
  · rw [List.map_cons, List.filter_map]
    congr 3
    funext q
    simp only [Function.comp, kRn_cat]
  · rw [List.map_cons, List.filter_map]
    congr 3
    funext q
    simp only [Function.comp, kRn_cat]
theorem lv_args_rn {as : Nat → Nat} : ∀ {av : List Value} {i : Nat}, lv_args i (av.map (kRn as)) = kRL as (lv_args i av)
  | [], _ => rfl
  | v :: av, i => by
    simp only [List.map_cons, lv_args, kRL, kRn_cat]
    rw [lv_args_rn]
    rfl
noncomputable def kW (n : Nat) (v : Value) : Prop := ∀ i, v = .ref i → i < n
theorem kRn_same {as as_q : Nat → Nat} {n : Nat} {v : Value} (h : kW n v) (hs : ∀ i, i < n → as_q i = as i) : kRn as_q v = kRn as v := by
  cases v with
  | ref i => simp only [kRn]; rw [hs i (h i rfl)]
  | _ => rfl
theorem kW_up {n n_q : Nat} {v : Value} (h : kW n v) (hn : n ≤ n_q) : kW n_q v := fun i hi => Nat.lt_of_lt_of_le (h i hi) hn
noncomputable def kGet (cs : List (Nat × kC)) (i : Nat) : Option kC := @List.rec (Nat × kC) (fun _ => Option kC) none (fun q _ ih => @Bool.rec (fun _ => Option kC) ih (some q.2) (Nat.beq q.1 i)) cs
noncomputable def kSet (cs : List (Nat × kC)) (i : Nat) (c : kC) : List (Nat × kC) := @List.rec (Nat × kC) (fun _ => List (Nat × kC)) [] (fun q r ih => @Bool.rec (fun _ => List (Nat × kC)) (q :: ih) ((q.1, c) :: r) (Nat.beq q.1 i)) cs
theorem kGetE {q : Nat × kC} {r : List (Nat × kC)} {i : Nat} : kGet (q :: r) i = cond (Nat.beq q.1 i) (some q.2) (kGet r i) := by
  show @Bool.rec (fun _ => Option kC) (kGet r i) (some q.2) (Nat.beq q.1 i) = _
  cases Nat.beq q.1 i <;> rfl
theorem kSetE {q : Nat × kC} {r : List (Nat × kC)} {i : Nat} {c : kC} : kSet (q :: r) i c = cond (Nat.beq q.1 i) ((q.1, c) :: r) (q :: kSet r i c) := by
  show @Bool.rec (fun _ => List (Nat × kC)) (q :: kSet r i c) ((q.1, c) :: r) (Nat.beq q.1 i) = _
  cases Nat.beq q.1 i <;> rfl
theorem kGet_set : ∀ {cs : List (Nat × kC)} {i : Nat} {c c_q : kC}, kGet cs i = some c → (kGet (kSet cs i c_q) i = some c_q ∧ ∀ j, j ≠ i → kGet (kSet cs i c_q) j = kGet cs j)
  | [], _, _, _, h => by cases h
  | q :: r, i, c, c_q, h => by
    rw [kGetE] at h
    rw [kSetE]
    cases hb : Nat.beq q.1 i with
    | true =>
      have e := Nat.eq_of_beq_eq_true hb
      refine ⟨?_, fun j hj => ?_⟩
      · simp only [cond_true]
        rw [kGetE]
        rw [hb]
        rfl
      · simp only [cond_true]
        rw [kGetE, kGetE]
        have : Nat.beq q.1 j = false := by
          cases hb2 : Nat.beq q.1 j with
          | true => exact absurd ((Nat.eq_of_beq_eq_true hb2).symm.trans e) hj
          | false => rfl
        rw [this]
        rfl
    | false =>
      rw [hb] at h
      obtain ⟨h1, h2⟩ := kGet_set (c_q := c_q) h
      refine ⟨?_, fun j hj => ?_⟩
      · simp only [cond_false]
        rw [kGetE]
        rw [hb]
        exact h1
      · simp only [cond_false]
        rw [kGetE, kGetE]
        rw [h2 j hj]
noncomputable def kNm (c : kC) (x : Value) : Prop := if c.1 = 1001 then ∃ z : Int64, x = .long z ∧ c.2.2.2.1 ≤ z.toInt ∧ z.toInt ≤ c.2.2.2.2 else ∃ z : Int32, x = .int z ∧ c.2.2.2.1 ≤ z.toInt ∧ z.toInt ≤ c.2.2.2.2
noncomputable def kAt (as : Nat → Nat) (n : Nat) (c : kC) (o : Option xC) : Prop := ∃ V, o = some (c.1, c.2.1, V) ∧
  (c.1 < 1000 ∨ 2000 ≤ c.1 → c.2.2.1.length = c.2.1 ∧ ∀ (j : Nat) (v : Value), c.2.2.1[j]? = some v → V j = kRn as v ∧ kW n v) ∧ (1000 ≤ c.1 → c.1 < 2000 → ∀ j, j < c.2.1 → kNm c (V j))
noncomputable def kRel (as : Nat → Nat) (B n : Nat) (cs : List (Nat × kC)) (h : xH) : Prop :=
  (∀ i, i < n → ∀ c, kGet cs i = some c → B ≤ as i ∧ kAt as n c (h (as i))) ∧ ∀ i j, i < n → j < n → kGet cs i ≠ none → kGet cs j ≠ none → as i = as j → i = j
noncomputable def kSt (as : Nat → Nat) (B : Nat) (σ : kS) (lv : List (Nat × Value)) (st : List Value) (h : xH) : Prop :=
  lv = kRL as σ.1 ∧ st = σ.2.1.map (kRn as) ∧ kRel as B σ.2.2.2.1 σ.2.2.1 h ∧ (∀ q ∈ σ.1, kW σ.2.2.2.1 q.2) ∧ ∀ v ∈ σ.2.1, kW σ.2.2.2.1 v
theorem kAt_same {as as_q : Nat → Nat} {n n_q : Nat} {c : kC} {o : Option xC} (h : kAt as n c o) (hs : ∀ i, i < n → as_q i = as i) (hn : n ≤ n_q) : kAt as_q n_q c o := by
  obtain ⟨V, h1, h2, h3⟩ := h
  refine ⟨V, h1, fun hc => ⟨(h2 hc).1, fun j v hv => ?_⟩, h3⟩
  obtain ⟨g1, g2⟩ := (h2 hc).2 j v hv
  exact ⟨by rw [g1, kRn_same g2 hs], kW_up g2 hn⟩
theorem kRL_same {as as_q : Nat → Nat} {n : Nat} {L : List (Nat × Value)} (h : ∀ q ∈ L, kW n q.2) (hs : ∀ i, i < n → as_q i = as i) : kRL as_q L = kRL as L := by
  unfold kRL
  refine List.map_congr_left (fun q hq => ?_)
  rw [kRn_same (h q hq) hs]
theorem kRS_same {as as_q : Nat → Nat} {n : Nat} {S : List Value} (h : ∀ v ∈ S, kW n v) (hs : ∀ i, i < n → as_q i = as i) : S.map (kRn as_q) = S.map (kRn as) := List.map_congr_left (fun v hv => kRn_same (h v hv) hs)
theorem kGet_cons {k i : Nat} {c : kC} {cs : List (Nat × kC)} : kGet ((k, c) :: cs) i = if k = i then some c else kGet cs i := by
  rw [kGetE]
  show cond (Nat.beq k i) (some c) (kGet cs i) = _
  cases h : Nat.beq k i with
  | true => rw [if_pos (Nat.eq_of_beq_eq_true h)]; rfl
  | false => rw [if_neg (fun e => by rw [e, Nat.beq_refl] at h; cases h)]; rfl
/-- a new cell -/
theorem kSt_new {as : Nat → Nat} {B : Nat} {σ : kS} {S : List Value} {lv : List (Nat × Value)} {st : List Value} {h : xH} {c : kC} {V : Nat → Value} {a k_q s_q : Nat} (hA : kSt as B (σ.1, S, σ.2.2) lv st h) (ha : h a = none) (hB : B ≤ a) (hV : ∀ as_q n, kAt as_q n c (some (c.1, c.2.1, V))) :
    (∀ i, i < σ.2.2.2.1 → aUp as σ.2.2.2.1 a i = as i) ∧ kSt (aUp as σ.2.2.2.1 a) B (σ.1, .ref σ.2.2.2.1 :: S, (σ.2.2.2.1, c) :: σ.2.2.1, σ.2.2.2.1 + 1, k_q, s_q) lv (.ref a :: st) (xput h a (c.1, c.2.1, V)) := by
  obtain ⟨h1, h2, h3, h4, h5⟩ := hA
  have hs : ∀ i, i < σ.2.2.2.1 → aUp as σ.2.2.2.1 a i = as i := fun i hi => aUp_ne _ _ (by omega)
  have hne : ∀ i, i < σ.2.2.2.1 → kGet σ.2.2.1 i ≠ none → as i ≠ a := fun i hi hn e => by
    cases hg : kGet σ.2.2.1 i with
    | none => exact hn hg
    | some c_q =>
      obtain ⟨-, V_q, g, -⟩ := h3.1 i hi c_q hg
      rw [e, ha] at g
      cases g
  refine ⟨hs, ?_, ?_, ⟨fun i hi c_q hc_q => ?_, fun i j hi hj ni nj e => ?_⟩, fun q hq => kW_up (h4 q hq) (Nat.le_succ _), fun v hv => ?_⟩
  · rw [h1]
    exact (kRL_same h4 hs).symm
  · show Value.ref a :: st = kRn _ (.ref σ.2.2.2.1) :: S.map (kRn _)
    rw [kRS_same h5 hs, h2]
    simp only [kRn, aUp_self]
  · have hi : i < σ.2.2.2.1 + 1 := hi
    have hc_q : kGet ((σ.2.2.2.1, c) :: σ.2.2.1) i = some c_q := hc_q
    rw [kGet_cons] at hc_q
    by_cases e : σ.2.2.2.1 = i
    · rw [if_pos e] at hc_q
      cases hc_q
      rw [← e, aUp_self]
      refine ⟨hB, ?_⟩
      simp only [xput, if_true]
      exact hV _ _
    · rw [if_neg e] at hc_q
      have hi_q : i < σ.2.2.2.1 := by omega
      obtain ⟨g1, g3⟩ := h3.1 i hi_q c_q hc_q
      rw [hs i hi_q]
      refine ⟨g1, ?_⟩
      simp only [xput]
      rw [if_neg (hne i hi_q (by rw [hc_q]; exact fun q => by cases q))]
      exact kAt_same g3 hs (Nat.le_succ _)
  · have hi : i < σ.2.2.2.1 + 1 := hi
    have hj : j < σ.2.2.2.1 + 1 := hj
    have ni : kGet ((σ.2.2.2.1, c) :: σ.2.2.1) i ≠ none := ni
    have nj : kGet ((σ.2.2.2.1, c) :: σ.2.2.1) j ≠ none := nj
    rw [kGet_cons] at ni nj
    by_cases e1 : i = σ.2.2.2.1
    · by_cases e2 : j = σ.2.2.2.1
      · omega
      · rw [if_neg (Ne.symm e2)] at nj
        rw [e1, aUp_self, hs j (by omega)] at e
        exact absurd e.symm (hne j (by omega) nj)
    · rw [if_neg (Ne.symm e1)] at ni
      by_cases e2 : j = σ.2.2.2.1
      · rw [e2, aUp_self, hs i (by omega)] at e
        exact absurd e (hne i (by omega) ni)
      · rw [if_neg (Ne.symm e2)] at nj
        rw [hs i (by omega), hs j (by omega)] at e
        exact h3.2 i j (by show i < σ.2.2.2.1; omega) (by show j < σ.2.2.2.1; omega) ni nj e
  · rcases List.mem_cons.mp hv with rfl | hv
    · intro i hi
      cases hi
      exact Nat.lt_succ_self _
    · exact kW_up (h5 v hv) (Nat.le_succ _)
/-- a cell is changed -/
theorem kSt_put {as : Nat → Nat} {B : Nat} {σ : kS} {S : List Value} {lv : List (Nat × Value)} {st : List Value} {h : xH} {c c_q : kC} {V : Nat → Value} {i : Nat} (hA : kSt as B (σ.1, S, σ.2.2) lv st h) (hi : i < σ.2.2.2.1) (hc : kGet σ.2.2.1 i = some c) (hV : kAt as σ.2.2.2.1 c_q (some (c_q.1, c_q.2.1, V))) :
    kSt as B (σ.1, S, kSet σ.2.2.1 i c_q, σ.2.2.2) lv st (xput h (as i) (c_q.1, c_q.2.1, V)) := by
  obtain ⟨h1, h2, h3, h4, h5⟩ := hA
  obtain ⟨k1, k2⟩ := kGet_set (c_q := c_q) hc
  have hnn : kGet σ.2.2.1 i ≠ none := by rw [hc]; exact fun q => by cases q
  have hkn : ∀ j, kGet (kSet σ.2.2.1 i c_q) j ≠ none → kGet σ.2.2.1 j ≠ none := fun j hj => by
    by_cases e : j = i
    · rw [e]; exact hnn
    · rw [← k2 j e]; exact hj
  refine ⟨h1, h2, ⟨fun j hj d hd => ?_, fun a b ha hb na nb e => h3.2 a b ha hb (hkn a na) (hkn b nb) e⟩, h4, h5⟩
  by_cases e : j = i
  · subst e
    have hd : kGet (kSet σ.2.2.1 j c_q) j = some d := hd
    rw [k1] at hd
    cases hd
    refine ⟨(h3.1 j hi c hc).1, ?_⟩
    simp only [xput, if_true]
    exact hV
  · have hd : kGet (kSet σ.2.2.1 i c_q) j = some d := hd
    rw [k2 j e] at hd
    obtain ⟨g1, g3⟩ := h3.1 j hj d hd
    refine ⟨g1, ?_⟩
    simp only [xput]
    rw [if_neg (fun q => e (h3.2 j i hj hi (by rw [hd]; exact fun q => by cases q) hnn q))]
    exact g3
