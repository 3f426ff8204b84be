/-! ===== what the law makes ahead of its loop ===== -/
noncomputable def uRm : List (Nat × Nat) := [(0, 0), (0, 0), (0, 0), (0, 0), (0, 0), (0, 0), (0, 0), (0, 0), (0, 0), (0, 0), (0, 0), (0, 0), (0, 0), (0, 0), (0, 0), (0, 0), (0, 0), (0, 0), (0, 0), (0, 0), (0, 0), (0, 0), (0, 0), (0, 0), (0, 0), (0, 0), (0, 0), (0, 0), (0, 0), (0, 0), (0, 0), (0, 0), (0, 0), (0, 0), (0, 0), (0, 0), (0, 0), (0, 0), (0, 0), (0, 0), (0, 0), (0, 0), (0, 0), (0, 0), (0, 0), (0, 0), (0, 0), (0, 0), (0, 0), (0, 0), (0, 0), (0, 0), (0, 0), (0, 0), (0, 0), (0, 0), (0, 0), (0, 0), (0, 0), (0, 0), (0, 0), (0, 0), (0, 0), (0, 0), (0, 0), (0, 0), (0, 0), (0, 0), (0, 0), (0, 0), (0, 0), (0, 0), (0, 0), (0, 0), (0, 0), (0, 0), (0, 0), (0, 0), (0, 0), (0, 0), (0, 0), (0, 0), (0, 0), (0, 0), (0, 0), (0, 0), (0, 0), (0, 0), (0, 0), (0, 0), (0, 0), (0, 0), (0, 0), (0, 0), (0, 0), (0, 0), (0, 0), (0, 0), (0, 0), (0, 0), (0, 0), (0, 0), (0, 0), (0, 0), (0, 0), (0, 0), (0, 0), (0, 0), (0, 0), (0, 0), (0, 0), (0, 0), (0, 0), (0, 0), (0, 0), (0, 0), (0, 0), (0, 0), (0, 0), (0, 0), (0, 0), (0, 0), (0, 0), (0, 0), (0, 0), (0, 0), (0, 0), (0, 0), (0, 0), (0, 0), (0, 0), (0, 0), (0, 0), (0, 0), (0, 0), (0, 0), (0, 0), (0, 0), (0, 0), (0, 0), (0, 0), (0, 0), (0, 0), (0, 0), (0, 0), (0, 0), (0, 0), (0, 0), (0, 0), (0, 0), (0, 0), (0, 0), (0, 0), (0, 0), (0, 0), (0, 0), (0, 0), (0, 0), (0, 0), (0, 0), (0, 0), (0, 0), (0, 0), (0, 0), (0, 0), (0, 0), (0, 0), (0, 0), (0, 0), (0, 0), (0, 0), (0, 0), (0, 0), (0, 0), (0, 0), (0, 0), (0, 0), (0, 0), (0, 0), (0, 0), (0, 0), (0, 0), (0, 0), (0, 0), (0, 0), (0, 0), (0, 0), (0, 0), (0, 0), (0, 0), (0, 0), (0, 0), (0, 0), (0, 0), (0, 0), (0, 0), (0, 0), (0, 0), (0, 0), (0, 0), (0, 0), (0, 0), (0, 0), (0, 0), (0, 0), (0, 0), (0, 0), (0, 0), (0, 0), (0, 0), (0, 0), (0, 0), (0, 0), (0, 0), (0, 0), (0, 0), (0, 0), (0, 0), (0, 0), (0, 0), (0, 0), (0, 0), (0, 0), (0, 0), (0, 0), (0, 0), (3015, 139699), (2920, 20721), (46, 296), (4, 16), (7, 7202), (1, 5120), (19, 80592), (3, 16192), (59, 29320), (7, 28196), (1, 800), (1, 200), (53, 324950)]
/-- the number of a rule's first cell -/
noncomputable def uRb (k : Nat) : Nat := rCo (Nat.ble k 60) (Nat.add 56 (Nat.mul 47 k)) (rCo (Nat.beq k 61) 9 2964)
noncomputable def uOf (g : Nat) : Nat := rCo (Nat.beq g 0) 1 (Nat.add 2 (Nat.mul 5 g))
noncomputable def uSg : List Nat := [1, 2, 2923, 2924, 2931, 2952, 2951, 3011, 0, 0, 0, 2939, 2943, 2947, 2956, 3017, 3, 4, 5, 6, 7, 2926, 2927, 2928, 2929, 2930, 2925, 2932, 2933, 2934, 2935, 2936, 2937, 2938, 2953, 2954, 2955, 2960, 2961, 3012, 8, 0, 0, 0, 0, 0, 0, 2940, 2941, 2942, 2944, 2945, 2946, 2948, 2949, 2950, 2957, 2958, 2959, 3018, 3019, 3020, 3021, 3022, 3023, 3024, 3025, 3026, 3027, 3028, 3029, 3030, 3031, 3032, 3033, 3034, 3035, 3036, 3037, 3038, 3039, 3040, 3041, 3042, 3043, 3044, 3045, 3046, 3047, 3048, 3049, 3050, 3051, 3052, 3053, 3054, 3055, 3056, 3057, 3058, 3059, 3060, 3061, 3062, 3063, 3064, 3065, 3066, 3067, 3068, 3069, 3070, 3071, 0]
noncomputable def uAn3 : List Nat := [3013, 3015, 2962]
noncomputable def uAv3 : List Nat := [3014, 3016, 2963]
/-- the number of the cell k of the group G -/
noncomputable def uIx (G k : Nat) : Nat := rCo (Nat.beq G 9) (uRb k) (rCo (Nat.beq G 42) (Nat.add (uRb k) 6) (rCo (Nat.beq G 10) (Nat.add (uRb (Nat.div k 9)) (uOf (Nat.mod k 9)))
  (rCo (rCo (Nat.ble 43 G) (Nat.ble G 46) false) (Nat.add (uRb (Nat.div k 9)) (Nat.add (uOf (Nat.mod k 9)) (Nat.sub G 42)))
  (rCo (Nat.beq G 8) (rGe 0 uAn3 k) (rCo (Nat.beq G 41) (rGe 0 uAv3 k) (rGe 0 uSg G))))))
noncomputable def uIl : List (Nat × Nat × Nat) := [(1, 0, 0), (2, 1, 0), (3, 16, 0), (4, 17, 0), (5, 18, 0), (6, 19, 0), (7, 20, 0), (8, 40, 0), (2923, 2, 0), (2924, 3, 0), (2925, 26, 0), (2926, 21, 0), (2927, 22, 0), (2928, 23, 0), (2929, 24, 0), (2930, 25, 0), (2931, 4, 0), (2932, 27, 0), (2933, 28, 0), (2934, 29, 0), (2935, 30, 0), (2936, 31, 0), (2937, 32, 0), (2938, 33, 0), (2939, 11, 0), (2940, 47, 0), (2941, 48, 0), (2942, 49, 0), (2943, 12, 0), (2944, 50, 0), (2945, 51, 0), (2946, 52, 0), (2947, 13, 0), (2948, 53, 0), (2949, 54, 0), (2950, 55, 0), (2951, 6, 0), (2952, 5, 0), (2953, 34, 0), (2954, 35, 0), (2955, 36, 0), (2956, 14, 0), (2957, 56, 0), (2958, 57, 0), (2959, 58, 0), (2960, 37, 0), (2961, 38, 0), (2962, 8, 2), (2963, 41, 2), (3011, 7, 0), (3012, 39, 0), (3013, 8, 0), (3014, 41, 0), (3015, 8, 1), (3016, 41, 1), (3017, 15, 0), (3018, 59, 0), (3019, 60, 0), (3020, 61, 0), (3021, 62, 0), (3022, 63, 0), (3023, 64, 0), (3024, 65, 0), (3025, 66, 0), (3026, 67, 0), (3027, 68, 0), (3028, 69, 0), (3029, 70, 0), (3030, 71, 0), (3031, 72, 0), (3032, 73, 0), (3033, 74, 0), (3034, 75, 0), (3035, 76, 0), (3036, 77, 0), (3037, 78, 0), (3038, 79, 0), (3039, 80, 0), (3040, 81, 0), (3041, 82, 0), (3042, 83, 0), (3043, 84, 0), (3044, 85, 0), (3045, 86, 0), (3046, 87, 0), (3047, 88, 0), (3048, 89, 0), (3049, 90, 0), (3050, 91, 0), (3051, 92, 0), (3052, 93, 0), (3053, 94, 0), (3054, 95, 0), (3055, 96, 0), (3056, 97, 0), (3057, 98, 0), (3058, 99, 0), (3059, 100, 0), (3060, 101, 0), (3061, 102, 0), (3062, 103, 0), (3063, 104, 0), (3064, 105, 0), (3065, 106, 0), (3066, 107, 0), (3067, 108, 0), (3068, 109, 0), (3069, 110, 0), (3070, 111, 0), (3071, 112, 0)]
/-- which group and cell a part of a rule's cells is -/
noncomputable def uPt (r o : Nat) : Nat × Nat := rCo (Nat.beq o 0) (9, r) (rCo (Nat.beq o 6) (42, r) (rCo (Nat.ble o 5) (rCo (Nat.beq o 1) (10, Nat.mul 9 r) (Nat.add 41 o, Nat.mul 9 r))
  (rCo (Nat.beq (Nat.mod (Nat.sub o 7) 5) 0) (10, Nat.add (Nat.mul 9 r) (Nat.succ (Nat.div (Nat.sub o 7) 5))) (Nat.add 42 (Nat.mod (Nat.sub o 7) 5), Nat.add (Nat.mul 9 r) (Nat.succ (Nat.div (Nat.sub o 7) 5))))))
noncomputable def uInv (i : Nat) : Nat × Nat := rCo (rCo (Nat.ble 9 i) (Nat.ble i 55) false) (uPt 61 (Nat.sub i 9)) (rCo (rCo (Nat.ble 56 i) (Nat.ble i 2922) false) (uPt (Nat.div (Nat.sub i 56) 47) (Nat.mod (Nat.sub i 56) 47))
  (rCo (rCo (Nat.ble 2964 i) (Nat.ble i 3010) false) (uPt 62 (Nat.sub i 2964)) (@Option.rec (Nat × Nat) (fun _ => Nat × Nat) (9999, 0) (fun x => x) (rF1 uIl i))))
/-- what a number is at first -/
noncomputable def zv (t : rT) : Int := rCo (rCo (rLe t.2.1 0) (rLe 0 t.2.2.1) false) 0 t.2.1
noncomputable def uZn (G n : Nat) (t : rT) : Int := rCo (Nat.beq G 40) (rCo (Nat.ble n 60) (Int.ofNat n) 0)
  (rCo (rCo (Nat.beq G 0) (Nat.beq n 6) false) 1 (rCo (rCo (Nat.beq G 6) (Nat.beq n 6) false) 2 (rCo (rCo (Nat.beq G 6) (Nat.beq n 7) false) 62 (zv t))))
noncomputable def uFst (G : Nat) : Bool := rCo (Nat.beq G 47) true (rCo (Nat.beq G 50) true (rCo (Nat.beq G 53) true (Nat.beq G 56)))
/-- a group of which nothing is other at first -/
noncomputable def uPl (G : Nat) : Bool := rCo (Nat.beq G 40) false (rCo (Nat.beq G 0) false (rCo (Nat.beq G 6) false true))
noncomputable def ckV (G k j : Nat) (t : rT) (v : Value) : Bool := match v with
  | .int x => rCo (Nat.beq t.1 0) (rIq x.toInt (uZn G j t)) false
  | .long x => rCo (Nat.beq t.1 1) (rIq x.toInt (uZn G j t)) false
  | .ref i => rCo (Nat.beq t.1 2) (Nat.beq i (uIx t.2.2.2.1 (t.2.2.2.2.1 * (k : Int) + t.2.2.2.2.2.1 + t.2.2.2.2.2.2 * (j : Int)).toNat)) (rCo (Nat.beq t.1 3) (Nat.beq i (uIx t.2.2.2.1 (uZn G j t).toNat)) false)
  | _ => false
noncomputable def ckA (t : rT) (G k : Nat) (l : List Value) : Nat → Bool := @List.rec Value (fun _ => Nat → Bool) (fun _ => true) (fun v _ ih j => rCo (ckV G k j t v) (ih (Nat.succ j)) false) l
noncomputable def ckO (G k : Nat) (l : List Value) : List rT → Nat → Bool := @List.rec Value (fun _ => List rT → Nat → Bool) (fun _ _ => true) (fun v _ ih ts j => @List.rec rT (fun _ => Bool) false (fun t r _ => rCo (ckV G k j t v) (ih r (Nat.succ j)) false) ts) l
noncomputable def ckL (q : rGr) (G k : Nat) (l : List Value) (j : Nat) : Bool := rCo (Nat.ble (Nat.succ q.1) 1000) (ckO G k l q.2.2.2 j) (ckA (rTy q 0) G k l j)
/-- the cell is as its group says -/
noncomputable def ckC (i : Nat) (c : kC) : Bool := match uW[(uInv i).1]? with
  | some q => Nat.beq c.1 q.1 && Nat.beq c.2.1 q.2.1 && (rCo (rCo (Nat.ble 1000 c.1) (Nat.ble c.1 1999) false)
      (rCo (uFst (uInv i).1) (Nat.beq c.1 1000 && Nat.beq (rTy q 0).1 0 && rLe (-1) c.2.2.2.1 && rLe c.2.2.2.2 0 && rLe (rTy q 0).2.1 (-1) && rLe 0 (rTy q 0).2.2.1)
        (rIq c.2.2.2.1 0 && rIq c.2.2.2.2 0 && rIq (zv (rTy q 0)) 0 && (rCo (Nat.beq c.1 1001) (Nat.beq (rTy q 0).1 1) (Nat.beq (rTy q 0).1 0)) && uPl (uInv i).1))
      (rCo (uFst (uInv i).1) false (ckL q (uInv i).1 (uInv i).2 c.2.2.1 0)))
  | none => false
noncomputable def ckAll (cs : List (Nat × kC)) : Nat → Bool := @List.rec (Nat × kC) (fun _ => Nat → Bool) (fun i => Nat.beq i 0) (fun q _ ih i => rCo (Nat.beq q.1 i) (rCo (ckC i q.2) (ih (Nat.pred i)) false) false) cs
noncomputable def ckLv (L : List (Nat × Value)) : Bool := (match xget L 0 with | some (.ref i) => Nat.beq i 0 | _ => false) && (match xget L 1 with | some (.ref i) => Nat.beq i (uIx 0 0) | _ => false) && (match xget L 2 with | some (.ref i) => Nat.beq i (uIx 15 0) | _ => false) && (match xget L 3 with | some (.ref i) => Nat.beq i (uIx 112 0) | _ => false) && (match xget L 4 with | some (.int x) => rIq x.toInt 0 | _ => false)
noncomputable def ckS (o : Option (Nat × kS)) : Bool := match o with
  | some q => Nat.beq q.1 23 && ckLv q.2.1 && q.2.2.1.isEmpty && Nat.beq q.2.2.2.2.1 3072 && Nat.ble q.2.2.2.2.2.1 3071 && Nat.ble q.2.2.2.2.2.2 464756 && ckAll q.2.2.2.1 3071
  | none => false
noncomputable def uGo : Option (Nat × kS) := kTo 82 uMx uRm 3071 464756 (kCall 82 uMx uRm uBds 5) (fun pc _ => Nat.beq pc 23) vL_ 100 0 ([(0, .ref 0)], [], [], 1, 0, 0)
/-- the same, cheaper -/
noncomputable def ckD (G k : Nat) (c : kC) (q : rGr) : Bool := Nat.beq c.1 q.1 && Nat.beq c.2.1 q.2.1 && (rCo (rCo (Nat.ble 1000 c.1) (Nat.ble c.1 1999) false)
      (rCo (uFst G) (Nat.beq c.1 1000 && Nat.beq (rTy q 0).1 0 && rLe (-1) c.2.2.2.1 && rLe c.2.2.2.2 0 && rLe (rTy q 0).2.1 (-1) && rLe 0 (rTy q 0).2.2.1)
        (rIq c.2.2.2.1 0 && rIq c.2.2.2.2 0 && rIq (zv (rTy q 0)) 0 && (rCo (Nat.beq c.1 1001) (Nat.beq (rTy q 0).1 1) (Nat.beq (rTy q 0).1 0)) && uPl G))
      (rCo (uFst G) false (ckL q G k c.2.2.1 0)))
noncomputable def rGo {α : Type} (l : List α) (k : Nat) : Option α := @List.rec α (fun _ => Nat → Option α) (fun _ => none) (fun q _ ih k => @Nat.rec (fun _ => Option α) (some q) (fun k_q _ => ih k_q) k) l k
theorem rGo_eq {α : Type} : ∀ {l : List α} {k : Nat}, rGo l k = l[k]?
  | [], _ => rfl
  | _ :: _, 0 => rfl
  | _ :: r, k + 1 => by
    show rGo r k = _
    rw [rGo_eq, List.getElem?_cons_succ]
noncomputable def ckCf (i : Nat) (c : kC) : Bool := @Prod.rec Nat Nat (fun _ => Bool) (fun G k => kFn G (fun G => kFn k (fun k => @Option.rec rGr (fun _ => Bool) false (fun q => ckD G k c q) (rGo uW G)))) (uInv i)
theorem ckCf_ok {i : Nat} {c : kC} (h : ckCf i c = true) : ckC i c = true := by
  unfold ckCf at h
  unfold ckC
  generalize uInv i = z at h
  obtain ⟨G, k⟩ := z
  dsimp only at h
  rw [kFn_ok, kFn_ok, rGo_eq] at h
  dsimp only
  cases hq : uW[G]? with
  | none => rw [hq] at h; cases h
  | some q =>
    rw [hq] at h
    exact h
noncomputable def ckAp (lo hi : Nat) (cs : List (Nat × kC)) : Nat → Bool := @List.rec (Nat × kC) (fun _ => Nat → Bool) (fun i => Nat.beq i 0) (fun q _ ih i => kFn i (fun i => rCo (Nat.beq q.1 i) (rCo (rCo (rCo (Nat.ble lo i) (Nat.ble i hi) false) (ckCf i q.2) true) (ih (Nat.sub i 1)) false) false)) cs
noncomputable def ckSp (lo hi : Nat) (o : Option (Nat × kS)) : Bool := @Option.rec (Nat × kS) (fun _ => Bool) false (fun q => ckAp lo hi q.2.2.2.1 3071) o
noncomputable def ckS0 (o : Option (Nat × kS)) : Bool := match o with
  | some q => Nat.beq q.1 23 && ckLv q.2.1 && q.2.2.1.isEmpty && Nat.beq q.2.2.2.2.1 3072 && Nat.ble q.2.2.2.2.2.1 3071 && Nat.ble q.2.2.2.2.2.2 464756
  | none => false
theorem ckAp_all : ∀ {cs : List (Nat × kC)} {n : Nat}, (∀ i, i ≤ n → ∃ lo hi, lo ≤ i ∧ i ≤ hi ∧ ckAp lo hi cs n = true) → ckAll cs n = true
  | [], n, h => by
    obtain ⟨_, _, _, _, h⟩ := h 0 (Nat.zero_le _)
    exact h
  | q :: r, n, h => by
    show rCo (Nat.beq q.1 n) (rCo (ckC n q.2) (ckAll r (Nat.pred n)) false) false = true
    have un : ∀ {lo hi : Nat}, ckAp lo hi (q :: r) n = true → Nat.beq q.1 n = true ∧ (lo ≤ n → n ≤ hi → ckCf n q.2 = true) ∧ ckAp lo hi r (n - 1) = true := by
      intro lo hi h
      have h : kFn n (fun i => rCo (Nat.beq q.1 i) (rCo (rCo (rCo (Nat.ble lo i) (Nat.ble i hi) false) (ckCf i q.2) true) (ckAp lo hi r (Nat.sub i 1)) false) false) = true := h
      rw [kFn_ok] at h
      obtain ⟨h1, h⟩ := rcn.mp h
      obtain ⟨h2, h3⟩ := rcn.mp h
      refine ⟨h1, fun a b => ?_, h3⟩
      rw [show Nat.ble lo n = true from Nat.ble_eq_true_of_le a, show Nat.ble n hi = true from Nat.ble_eq_true_of_le b] at h2
      exact h2
    obtain ⟨lo, hi, a, b, h1⟩ := h n (Nat.le_refl n)
    obtain ⟨g1, g2, -⟩ := un h1
    refine rcn.mpr ⟨g1, rcn.mpr ⟨ckCf_ok (g2 a b), ?_⟩⟩
    refine ckAp_all (fun i hi => ?_)
    have hi_q : i ≤ n - 1 := hi
    obtain ⟨lo, hi2, a, b, h1⟩ := h i (by omega)
    exact ⟨lo, hi2, a, b, (un h1).2.2⟩
noncomputable def ckIx (G : Nat) (k : Nat) : Bool := rCo (Nat.ble 1 (uIx G k)) (rCo (Nat.ble (uIx G k) 3071) (rCo (Nat.beq (uInv (uIx G k)).1 G) (Nat.beq (uInv (uIx G k)).2 k) false) false) false
set_option maxRecDepth 100000 in
theorem ix8_ : (List.range 3).all (ckIx 8) = true := by decide +kernel
set_option maxRecDepth 100000 in
theorem ix9_ : (List.range 63).all (ckIx 9) = true := by decide +kernel
set_option maxRecDepth 100000 in
theorem ix10_ : (List.range 567).all (ckIx 10) = true := by decide +kernel
set_option maxRecDepth 100000 in
theorem ix41_ : (List.range 3).all (ckIx 41) = true := by decide +kernel
set_option maxRecDepth 100000 in
theorem ix42_ : (List.range 63).all (ckIx 42) = true := by decide +kernel
set_option maxRecDepth 100000 in
theorem ix43_ : (List.range 567).all (ckIx 43) = true := by decide +kernel
set_option maxRecDepth 100000 in
theorem ix44_ : (List.range 567).all (ckIx 44) = true := by decide +kernel
set_option maxRecDepth 100000 in
theorem ix45_ : (List.range 567).all (ckIx 45) = true := by decide +kernel
set_option maxRecDepth 100000 in
theorem ix46_ : (List.range 567).all (ckIx 46) = true := by decide +kernel
set_option maxRecDepth 100000 in
theorem ixS_ : (List.range 114).all (fun G => (List.range (uW.getD G (0, 0, 0, [])).2.2.1.toNat).all (fun k => Nat.blt 1 (uW.getD G (0, 0, 0, [])).2.2.1.toNat || ckIx G k)) = true := by decide +kernel
theorem uIx_ok {G : Nat} {q : rGr} (hG : uW[G]? = some q) {k : Int} (h0 : 0 ≤ k) (h1 : k < q.2.2.1) : 1 ≤ uIx G k.toNat ∧ uIx G k.toNat ≤ 3071 ∧ uInv (uIx G k.toNat) = (G, k.toNat) := by
  have hk : ckIx G k.toNat = true := by
    have hlt : G < 114 := (List.getElem?_eq_some_iff.mp hG).1
    have hq : uW.getD G (0, 0, 0, []) = q := by rw [List.getD_eq_getElem?_getD, hG]; rfl
    have h2 := List.all_eq_true.mp ixS_ G (List.mem_range.mpr hlt)
    rw [hq] at h2
    have h3 := List.all_eq_true.mp h2 k.toNat (List.mem_range.mpr (by omega))
    simp only [Bool.or_eq_true] at h3
    rcases h3 with h3 | h3
    · have h4 := (Nat.blt_eq).mp h3
      have hm : G = 8 ∨ G = 9 ∨ G = 10 ∨ G = 41 ∨ G = 42 ∨ G = 43 ∨ G = 44 ∨ G = 45 ∨ G = 46 := by
        have h5 : (List.range 114).all (fun G => !(Nat.blt 1 (uW.getD G (0, 0, 0, [])).2.2.1.toNat) || [8, 9, 10, 41, 42, 43, 44, 45, 46].any (Nat.beq G)) = true := by decide +kernel
        have h6 := List.all_eq_true.mp h5 G (List.mem_range.mpr hlt)
        rw [hq, h3] at h6
        simp only [Bool.not_true, Bool.false_or, List.any_cons, List.any_nil, Bool.or_false, Bool.or_eq_true] at h6
        rcases h6 with h6 | h6 | h6 | h6 | h6 | h6 | h6 | h6 | h6
        · exact Or.inl (Nat.eq_of_beq_eq_true h6)
        · exact Or.inr (Or.inl (Nat.eq_of_beq_eq_true h6))
        · exact Or.inr (Or.inr (Or.inl (Nat.eq_of_beq_eq_true h6)))
        · exact Or.inr (Or.inr (Or.inr (Or.inl (Nat.eq_of_beq_eq_true h6))))
        · exact Or.inr (Or.inr (Or.inr (Or.inr (Or.inl (Nat.eq_of_beq_eq_true h6)))))
        · exact Or.inr (Or.inr (Or.inr (Or.inr (Or.inr (Or.inl (Nat.eq_of_beq_eq_true h6))))))
        · exact Or.inr (Or.inr (Or.inr (Or.inr (Or.inr (Or.inr (Or.inl (Nat.eq_of_beq_eq_true h6)))))))
        · exact Or.inr (Or.inr (Or.inr (Or.inr (Or.inr (Or.inr (Or.inr (Or.inl (Nat.eq_of_beq_eq_true h6))))))))
        · exact Or.inr (Or.inr (Or.inr (Or.inr (Or.inr (Or.inr (Or.inr (Or.inr ((Nat.eq_of_beq_eq_true h6)))))))))
      rcases hm with rfl | rfl | rfl | rfl | rfl | rfl | rfl | rfl | rfl
      · have : q.2.2.1 = 3 := by have := hG; simp only [uW] at this; cases this; rfl
        exact List.all_eq_true.mp ix8_ k.toNat (List.mem_range.mpr (by omega))
      · have : q.2.2.1 = 63 := by have := hG; simp only [uW] at this; cases this; rfl
        exact List.all_eq_true.mp ix9_ k.toNat (List.mem_range.mpr (by omega))
      · have : q.2.2.1 = 567 := by have := hG; simp only [uW] at this; cases this; rfl
        exact List.all_eq_true.mp ix10_ k.toNat (List.mem_range.mpr (by omega))
      · have : q.2.2.1 = 3 := by have := hG; simp only [uW] at this; cases this; rfl
        exact List.all_eq_true.mp ix41_ k.toNat (List.mem_range.mpr (by omega))
      · have : q.2.2.1 = 63 := by have := hG; simp only [uW] at this; cases this; rfl
        exact List.all_eq_true.mp ix42_ k.toNat (List.mem_range.mpr (by omega))
      · have : q.2.2.1 = 567 := by have := hG; simp only [uW] at this; cases this; rfl
        exact List.all_eq_true.mp ix43_ k.toNat (List.mem_range.mpr (by omega))
      · have : q.2.2.1 = 567 := by have := hG; simp only [uW] at this; cases this; rfl
        exact List.all_eq_true.mp ix44_ k.toNat (List.mem_range.mpr (by omega))
      · have : q.2.2.1 = 567 := by have := hG; simp only [uW] at this; cases this; rfl
        exact List.all_eq_true.mp ix45_ k.toNat (List.mem_range.mpr (by omega))
      · have : q.2.2.1 = 567 := by have := hG; simp only [uW] at this; cases this; rfl
        exact List.all_eq_true.mp ix46_ k.toNat (List.mem_range.mpr (by omega))
    · exact h3
  unfold ckIx at hk
  obtain ⟨a1, hk⟩ := rcn.mp hk
  obtain ⟨a2, hk⟩ := rcn.mp hk
  obtain ⟨a3, a4⟩ := rcn.mp hk
  exact ⟨Nat.le_of_ble_eq_true a1, Nat.le_of_ble_eq_true a2, Prod.ext (Nat.eq_of_beq_eq_true a3) (Nat.eq_of_beq_eq_true a4)⟩
