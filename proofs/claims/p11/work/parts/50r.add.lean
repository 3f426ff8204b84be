/-! ===== a TUPLE comes: the first side ===== -/
theorem apd_grp {F L N K : Nat} {x n : Int} {c : rHp} (h1 : K ≠ F) (h2 : K ≠ L) (h3 : K ≠ N) : apd F L N x n c K = c K := by
  unfold apd
  by_cases b : c F 0 x ≥ 0
  · rw [if_pos b, rUp_grp h2, rUp_grp h3, rUp_grp h3]
  · rw [if_neg b, rUp_grp h2, rUp_grp h1, rUp_grp h3]
theorem cH_eq {F L N : Nat} {D : Int → Prop} {ch : Int → Int} {n : Int} {c c_q : rHp} (h : cH F L N D ch n c) (h1 : c_q F = c F) (h2 : c_q L = c L) (h3 : c_q N = c N) : cH F L N D ch n c_q := by
  unfold cH at h ⊢
  rw [h1, h2, h3]
  exact h
/-- one ARG put down -/
noncomputable def uPu (p n k v : Int) (g : rHp) : rHp := apd 50 51 52 (hs 52 (aKey p k v)) (k + 4 * n) (rUp g 27 0 (k + 4 * n) v)
theorem uPu_grp {p n k v : Int} {g : rHp} {K : Nat} (h0 : K ≠ 27) (h1 : K ≠ 50) (h2 : K ≠ 51) (h3 : K ≠ 52) : uPu p n k v g K = g K := by
  unfold uPu
  rw [apd_grp h1 h2 h3, rUp_grp h0]
theorem uPu_27 {p n k v : Int} {g : rHp} : uPu p n k v g 27 = rUp g 27 0 (k + 4 * n) v 27 := by
  unfold uPu
  rw [apd_grp (by decide) (by decide) (by decide)]
/-- the heap ahead of the ARGS -/
noncomputable def uHe (p rd ru n : Int) (c : rHp) : rHp := apd 53 54 55 (hs 53 (wKey p (fun k => c 33 0 k))) n (apd 47 48 49 (hs 58 p) n (rUp (rUp (rUp (rUp c 28 0 n p) 29 0 n rd) 30 0 n ru) 32 0 n 0))
noncomputable def uAd (p rd ru n : Int) (c : rHp) : rHp := rUp (uPu p n 3 (c 33 0 3) (uPu p n 2 (c 33 0 2) (uPu p n 1 (c 33 0 1) (uPu p n 0 (c 33 0 0) (uHe p rd ru n c))))) 4 0 7 (n + 1)
theorem en207_go {p rd ru k : Int} {c g : rHp} (n1 : c 4 0 7 < 2000) (n0 : 0 ≤ c 4 0 7) (k0 : 0 ≤ k) (k4 : k < 4) : en207 c (0, [p, rd, ru, k], g) = .inl (0, [p, rd, ru, k + 1], uPu p (c 4 0 7) k (c 33 0 k) g) := by
  unfold en207
  simp only [zLet, List.getD_cons_zero, List.getD_cons_succ, ↓reduceIte, fn204_eq]
  rw [if_neg (show ¬ k ≥ 4 by omega), fn193_eq (by omega) (by omega)]
  rfl
theorem fn207_st {p rd ru K : Int} {c g4 g5 : rHp} (hg : g4 = rUp (rUp (rUp (rUp c 28 0 (c 4 0 7) p) 29 0 (c 4 0 7) rd) 30 0 (c 4 0 7) ru) 32 0 (c 4 0 7) 0) (n1 : c 4 0 7 < 2000) (h1 : fn189 [p, c 4 0 7] g4 = (0, 0, g5)) (h2 : fn203 [p] g5 = (0, K, g5)) {g6 : rHp} (h3 : fn197 [K, c 4 0 7] g5 = (0, 0, g6)) : fn207 [p, rd, ru] c = zLoop (en207 c) (0, [p, rd, ru, 0], g6) := by
  unfold fn207 dn207
  simp only [zLet, List.getD_cons_zero, List.getD_cons_succ]
  rw [if_pos n1, ← hg, h1, h2, h3]
  rfl
theorem fn207_eq {p rd ru : Int} {c : rHp} (n0 : 0 ≤ c 4 0 7) : fn207 [p, rd, ru] c = if c 4 0 7 < 2000 then (0, 1, uAd p rd ru (c 4 0 7) c) else (0, 0, c) := by
  by_cases n1 : c 4 0 7 < 2000
  · rw [if_pos n1]
    have e33 : ∀ K : Nat, K = 33 → apd 47 48 49 (hs 58 p) (c 4 0 7) (rUp (rUp (rUp (rUp c 28 0 (c 4 0 7) p) 29 0 (c 4 0 7) rd) 30 0 (c 4 0 7) ru) 32 0 (c 4 0 7) 0) K = c K := fun K hK => by
      rw [hK, apd_grp (by decide) (by decide) (by decide), rUp_grp (by decide), rUp_grp (by decide), rUp_grp (by decide), rUp_grp (by decide)]
    have f3 := fn203_eq (p := p) (c := apd 47 48 49 (hs 58 p) (c 4 0 7) (rUp (rUp (rUp (rUp c 28 0 (c 4 0 7) p) 29 0 (c 4 0 7) rd) 30 0 (c 4 0 7) ru) 32 0 (c 4 0 7) 0))
    rw [e33 33 rfl] at f3
    rw [fn207_st rfl n1 (fn189_eq n0 n1) f3 (fn197_eq n0 n1)]
    rw [zLoop_inl (en207_go n1 n0 (by decide) (by decide)), zLoop_inl (en207_go n1 n0 (by decide) (by decide)), zLoop_inl (en207_go n1 n0 (by decide) (by decide)), zLoop_inl (en207_go n1 n0 (by decide) (by decide))]
    refine zLoop_inr ?_
    unfold en207
    simp only [zLet, List.getD_cons_zero, List.getD_cons_succ, ↓reduceIte]
    rw [if_pos (by decide)]
    rfl
  · rw [if_neg n1]
    unfold fn207 dn207
    simp only [zLet, List.getD_cons_zero, List.getD_cons_succ]
    rw [if_neg n1]
    rfl
theorem uHe_grp {p rd ru n : Int} {c : rHp} {K : Nat} (h : K ≠ 28 ∧ K ≠ 29 ∧ K ≠ 30 ∧ K ≠ 32) (h2 : K ≠ 47 ∧ K ≠ 48 ∧ K ≠ 49 ∧ K ≠ 53 ∧ K ≠ 54 ∧ K ≠ 55) : uHe p rd ru n c K = c K := by
  unfold uHe
  rw [apd_grp h2.2.2.2.1 h2.2.2.2.2.1 h2.2.2.2.2.2, apd_grp h2.1 h2.2.1 h2.2.2.1, rUp_grp h.2.2.2, rUp_grp h.2.2.1, rUp_grp h.2.1, rUp_grp h.1]
theorem uAd_grp {p rd ru n : Int} {c : rHp} {K : Nat} (h : K ≠ 28 ∧ K ≠ 29 ∧ K ≠ 30 ∧ K ≠ 32) (h2 : K ≠ 47 ∧ K ≠ 48 ∧ K ≠ 49 ∧ K ≠ 53 ∧ K ≠ 54 ∧ K ≠ 55) (h3 : K ≠ 4 ∧ K ≠ 27 ∧ K ≠ 50 ∧ K ≠ 51 ∧ K ≠ 52) : uAd p rd ru n c K = c K := by
  unfold uAd
  rw [rUp_grp h3.1, uPu_grp h3.2.1 h3.2.2.1 h3.2.2.2.1 h3.2.2.2.2, uPu_grp h3.2.1 h3.2.2.1 h3.2.2.2.1 h3.2.2.2.2, uPu_grp h3.2.1 h3.2.2.1 h3.2.2.2.1 h3.2.2.2.2, uPu_grp h3.2.1 h3.2.2.1 h3.2.2.2.1 h3.2.2.2.2, uHe_grp h h2]
theorem uAd_hd {p rd ru n : Int} {c : rHp} {K : Nat} (h3 : K ≠ 4 ∧ K ≠ 27 ∧ K ≠ 50 ∧ K ≠ 51 ∧ K ≠ 52) : uAd p rd ru n c K = uHe p rd ru n c K := by
  unfold uAd
  rw [rUp_grp h3.1, uPu_grp h3.2.1 h3.2.2.1 h3.2.2.2.1 h3.2.2.2.2, uPu_grp h3.2.1 h3.2.2.1 h3.2.2.2.1 h3.2.2.2.2, uPu_grp h3.2.1 h3.2.2.1 h3.2.2.2.1 h3.2.2.2.2, uPu_grp h3.2.1 h3.2.2.1 h3.2.2.2.1 h3.2.2.2.2]
theorem uAd_4 {p rd ru n j : Int} {c : rHp} : uAd p rd ru n c 4 0 j = if j = 7 then n + 1 else c 4 0 j := by
  unfold uAd
  by_cases e : j = 7
  · rw [e, rUp_at, if_pos rfl]
  · rw [rUp_ne (fun z => e z.2.2), uPu_grp (by decide) (by decide) (by decide) (by decide), uPu_grp (by decide) (by decide) (by decide) (by decide), uPu_grp (by decide) (by decide) (by decide) (by decide), uPu_grp (by decide) (by decide) (by decide) (by decide), uHe_grp (by decide) (by decide), if_neg e]
theorem uAd_28 {p rd ru n : Int} {c : rHp} : uAd p rd ru n c 28 = rUp c 28 0 n p 28 ∧ uAd p rd ru n c 29 = rUp c 29 0 n rd 29 ∧ uAd p rd ru n c 30 = rUp c 30 0 n ru 30 ∧ uAd p rd ru n c 32 = rUp c 32 0 n 0 32 := by
  refine ⟨?_, ?_, ?_, ?_⟩
  · rw [uAd_hd (by decide)]
    unfold uHe
    rw [apd_grp (by decide) (by decide) (by decide), apd_grp (by decide) (by decide) (by decide), rUp_grp (by decide), rUp_grp (by decide), rUp_grp (by decide)]
  · rw [uAd_hd (by decide)]
    unfold uHe
    rw [apd_grp (by decide) (by decide) (by decide), apd_grp (by decide) (by decide) (by decide), rUp_grp (by decide), rUp_grp (by decide)]
    funext k j
    by_cases e : k = 0 ∧ j = n
    · rw [e.1, e.2, rUp_at, rUp_at]
    · rw [rUp_ne (fun z => e z.2), rUp_grp (by decide), rUp_ne (fun z => e z.2)]
  · rw [uAd_hd (by decide)]
    unfold uHe
    rw [apd_grp (by decide) (by decide) (by decide), apd_grp (by decide) (by decide) (by decide), rUp_grp (by decide)]
    funext k j
    by_cases e : k = 0 ∧ j = n
    · rw [e.1, e.2, rUp_at, rUp_at]
    · rw [rUp_ne (fun z => e z.2), rUp_grp (by decide), rUp_grp (by decide), rUp_ne (fun z => e z.2)]
  · rw [uAd_hd (by decide)]
    unfold uHe
    rw [apd_grp (by decide) (by decide) (by decide), apd_grp (by decide) (by decide) (by decide)]
    funext k j
    by_cases e : k = 0 ∧ j = n
    · rw [e.1, e.2, rUp_at, rUp_at]
    · rw [rUp_ne (fun z => e z.2), rUp_grp (by decide), rUp_grp (by decide), rUp_grp (by decide), rUp_ne (fun z => e z.2)]
theorem uAd_27 {p rd ru n j : Int} {c : rHp} : uAd p rd ru n c 27 0 j = if j = 3 + 4 * n then c 33 0 3 else if j = 2 + 4 * n then c 33 0 2 else if j = 1 + 4 * n then c 33 0 1 else if j = 4 * n then c 33 0 0 else c 27 0 j := by
  unfold uAd
  rw [rUp_grp (by decide), uPu_27]
  by_cases e3 : j = 3 + 4 * n
  · rw [e3, rUp_at, if_pos rfl]
  · rw [rUp_ne (fun z => e3 z.2.2), if_neg e3, uPu_27]
    by_cases e2 : j = 2 + 4 * n
    · rw [e2, rUp_at, if_pos rfl]
    · rw [rUp_ne (fun z => e2 z.2.2), if_neg e2, uPu_27]
      by_cases e1 : j = 1 + 4 * n
      · rw [e1, rUp_at, if_pos rfl]
      · rw [rUp_ne (fun z => e1 z.2.2), if_neg e1, uPu_27]
        by_cases e0 : j = 4 * n
        · rw [show j = 0 + 4 * n by omega, rUp_at, if_pos (by omega)]
        · rw [rUp_ne (fun z => e0 (by have := z.2.2; omega)), if_neg e0, uHe_grp (by decide) (by decide)]
theorem uAd_new {p rd ru n k : Int} {c : rHp} (k0 : 0 ≤ k) (k4 : k < 4) : uAd p rd ru n c 27 0 (k + 4 * n) = c 33 0 k := by
  rw [uAd_27]
  by_cases e3 : k = 3
  · rw [e3, if_pos rfl]
  · rw [if_neg (by omega)]
    by_cases e2 : k = 2
    · rw [e2, if_pos rfl]
    · rw [if_neg (by omega)]
      by_cases e1 : k = 1
      · rw [e1, if_pos rfl]
      · rw [if_neg (by omega), if_pos (by omega), show k = 0 by omega]
theorem uAd_old {p rd ru n j : Int} {c : rHp} (h : j < 4 * n) : uAd p rd ru n c 27 0 j = c 27 0 j := by
  rw [uAd_27, if_neg (by omega), if_neg (by omega), if_neg (by omega), if_neg (by omega)]
/-- the three chains, with the new TUPLE in them -/
theorem uAd_chn {p rd ru n : Int} {c : rHp} (n0 : 0 ≤ n) (h : tChn c n) : tChn (uAd p rd ru n c) (n + 1) := by
  obtain ⟨h1, h2, h3⟩ := h
  have e28 : ∀ t, uAd p rd ru n c 28 0 t = if t = n then p else c 28 0 t := fun t => by
    rw [uAd_28.1]
    by_cases e : t = n
    · rw [e, rUp_at, if_pos rfl]
    · rw [rUp_ne (fun z => e z.2.2), if_neg e]
  refine ⟨?_, ?_, ?_⟩
  · have a := apd_cH (F := 47) (L := 48) (N := 49) (x := hs 58 p) (ch_q := chP (uAd p rd ru n c)) (by decide) (by decide) (by decide) (cH_eq (c_q := rUp (rUp (rUp (rUp c 28 0 n p) 29 0 n rd) 30 0 n ru) 32 0 n 0) h1 (by rw [rUp_grp (by decide), rUp_grp (by decide), rUp_grp (by decide), rUp_grp (by decide)]) (by rw [rUp_grp (by decide), rUp_grp (by decide), rUp_grp (by decide), rUp_grp (by decide)]) (by rw [rUp_grp (by decide), rUp_grp (by decide), rUp_grp (by decide), rUp_grp (by decide)])) (fun t t0 t1 => by unfold chP; rw [e28, if_neg (by omega)]) (by unfold chP; rw [e28, if_pos rfl]) (hs58 p)
    refine cH_eq a ?_ ?_ ?_
    · rw [uAd_hd (by decide)]; unfold uHe; rw [apd_grp (by decide) (by decide) (by decide)]
    · rw [uAd_hd (by decide)]; unfold uHe; rw [apd_grp (by decide) (by decide) (by decide)]
    · rw [uAd_hd (by decide)]; unfold uHe; rw [apd_grp (by decide) (by decide) (by decide)]
  · have new : ∀ k, 0 ≤ k → k < 4 → chA (uAd p rd ru n c) (k + 4 * n) = hs 52 (aKey p k (c 33 0 k)) := fun k k0 k4 => by
      unfold chA
      rw [show (k + 4 * n) / 4 = n by omega, show (k + 4 * n) % 4 = k by omega, e28, if_pos rfl, uAd_new k0 k4]
    have old : ∀ j, 0 ≤ j → j < 4 * n → chA (uAd p rd ru n c) j = chA c j := fun j j0 j1 => by
      unfold chA
      rw [e28, if_neg (by omega), uAd_old j1]
    have s0 : cH 50 51 52 dA (chA (uAd p rd ru n c)) (4 * n + 1) (uPu p n 0 (c 33 0 0) (uHe p rd ru n c)) := by
      unfold uPu
      rw [show (0 : Int) + 4 * n = 4 * n by omega]
      refine apd_cH (by decide) (by decide) (by decide) (cH_eq h2 ?_ ?_ ?_) old ?_ (hs52 _)
      · rw [rUp_grp (by decide), uHe_grp (by decide) (by decide)]
      · rw [rUp_grp (by decide), uHe_grp (by decide) (by decide)]
      · rw [rUp_grp (by decide), uHe_grp (by decide) (by decide)]
      · have := new 0 (by decide) (by decide)
        rw [show (0 : Int) + 4 * n = 4 * n by omega] at this
        exact this
    have step : ∀ k (g : rHp), 0 ≤ k → k < 4 → cH 50 51 52 dA (chA (uAd p rd ru n c)) (k + 4 * n) g → cH 50 51 52 dA (chA (uAd p rd ru n c)) (k + 4 * n + 1) (uPu p n k (c 33 0 k) g) := fun k g k0 k4 hg => by
      unfold uPu
      exact apd_cH (by decide) (by decide) (by decide) (cH_eq hg (by rw [rUp_grp (by decide)]) (by rw [rUp_grp (by decide)]) (by rw [rUp_grp (by decide)])) (fun _ _ _ => rfl) (new k k0 k4) (hs52 _)
    have s1 := step 1 _ (by decide) (by decide) (by rw [show (1 : Int) + 4 * n = 4 * n + 1 by omega]; exact s0)
    have s2 := step 2 _ (by decide) (by decide) (by rw [show (2 : Int) + 4 * n = 1 + 4 * n + 1 by omega]; exact s1)
    have s3 := step 3 _ (by decide) (by decide) (by rw [show (3 : Int) + 4 * n = 2 + 4 * n + 1 by omega]; exact s2)
    rw [show (3 : Int) + 4 * n + 1 = 4 * (n + 1) by omega] at s3
    refine cH_eq s3 ?_ ?_ ?_ <;> (unfold uAd; rw [rUp_grp (by decide)])
  · have e27 : wKey p (fun k => uAd p rd ru n c 27 0 (k + 4 * n)) = wKey p (fun k => c 33 0 k) := wKey_congr (fun k k0 k4 => uAd_new k0 k4)
    have a := apd_cH (F := 53) (L := 54) (N := 55) (x := hs 53 (wKey p (fun k => c 33 0 k))) (ch_q := chW (uAd p rd ru n c)) (by decide) (by decide) (by decide) (cH_eq (c_q := apd 47 48 49 (hs 58 p) n (rUp (rUp (rUp (rUp c 28 0 n p) 29 0 n rd) 30 0 n ru) 32 0 n 0)) h3 (by rw [apd_grp (by decide) (by decide) (by decide), rUp_grp (by decide), rUp_grp (by decide), rUp_grp (by decide), rUp_grp (by decide)]) (by rw [apd_grp (by decide) (by decide) (by decide), rUp_grp (by decide), rUp_grp (by decide), rUp_grp (by decide), rUp_grp (by decide)]) (by rw [apd_grp (by decide) (by decide) (by decide), rUp_grp (by decide), rUp_grp (by decide), rUp_grp (by decide), rUp_grp (by decide)])) (fun t t0 t1 => by
        unfold chW
        rw [e28, if_neg (by omega), wKey_congr (w := fun k => c 27 0 (k + 4 * t)) (fun k k0 k4 => uAd_old (by omega))]) (by unfold chW; rw [e28, if_pos rfl, e27]) (hs53 _)
    refine cH_eq a ?_ ?_ ?_ <;> rw [uAd_hd (by decide)] <;> rfl
