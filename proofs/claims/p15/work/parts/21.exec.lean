/-! ===== the checker: loops, and a whole body ===== -/
/-- a number that falls: coefficients of numbers, and a constant -/
abbrev aRk : Type := List (Nat × Int) × Int
def aSm (ρ : Nat → Int) : List (Nat × Int) → Int
  | [] => 0
  | q :: r => q.2 * ρ q.1 + aSm ρ r
def aRkv (ρ : Nat → Int) (r : aRk) : Int := r.2 + aSm ρ r.1
def aIns (k : Nat) (c : Int) : List (Nat × Int) → List (Nat × Int)
  | [] => [(k, c)]
  | q :: r => if q.1 = k then (k, q.2 + c) :: r else q :: aIns k c r
theorem aIns_ok {ρ : Nat → Int} {k : Nat} {c : Int} : ∀ {l : List (Nat × Int)}, aSm ρ (aIns k c l) = c * ρ k + aSm ρ l
  | [] => by simp [aIns, aSm]
  | q :: r => by
    unfold aIns
    split
    · rename_i h
      simp only [aSm]
      rw [← h, Int.add_mul]
      omega
    · simp only [aSm]
      rw [aIns_ok]
      omega
/-- the target's number in the numbers here -/
def aLf (mp : aMp) : List (Nat × Int) → Option (List (Nat × Int) × Int)
  | [] => some ([], 0)
  | q :: r => (match aF1 mp.1 q.1, aLf mp r with
    | some z, some t => some (aIns z.1 q.2 t.1, q.2 * z.2 + t.2)
    | _, _ => none)
theorem aLf_ok {mp : aMp} {RB : aRg} {ρ : Nat → Int} : ∀ {l : List (Nat × Int)} {t : List (Nat × Int) × Int}, aLf mp l = some t → aSm (aRB mp RB ρ) l = aSm ρ t.1 + t.2
  | [], t, h => by cases h; simp [aSm]
  | q :: r, t, h => by
    unfold aLf at h
    split at h
    · rename_i z t_q hz ht
      cases h
      simp only [aSm]
      rw [aLf_ok ht, aIns_ok]
      unfold aRB
      rw [hz]
      dsimp only
      rw [Int.mul_add]
      omega
    · cases h
def aNg : List (Nat × Int) → List (Nat × Int) → List (Nat × Int)
  | [], l => l
  | q :: r, l => aIns q.1 (-q.2) (aNg r l)
theorem aNg_ok {ρ : Nat → Int} {l : List (Nat × Int)} : ∀ {r : List (Nat × Int)}, aSm ρ (aNg r l) = aSm ρ l - aSm ρ r
  | [] => by simp [aNg, aSm]
  | q :: r => by
    unfold aNg
    rw [aIns_ok, aNg_ok]
    simp only [aSm]
    rw [Int.neg_mul]
    omega
def aUb (R : aRg) : List (Nat × Int) → Int
  | [] => 0
  | q :: r => (if 0 ≤ q.2 then q.2 * (aG R q.1).2 else q.2 * (aG R q.1).1) + aUb R r
theorem aUb_ok {R : aRg} {ρ : Nat → Int} (hR : aOkR R ρ) : ∀ {l : List (Nat × Int)}, aSm ρ l ≤ aUb R l
  | [] => Int.le_refl _
  | q :: r => by
    unfold aUb aSm
    have h1 := aUb_ok hR (l := r)
    have h2 := hR q.1
    split
    · rename_i hc
      have := Int.mul_le_mul_of_nonneg_left h2.2 hc
      omega
    · rename_i hc
      have := Int.mul_le_mul_of_nonpos_left (show q.2 ≤ 0 by omega) h2.1
      omega
/-- it falls, and stays above -1 -/
def aFl (R : aRg) (mp : aMp) (W : aRg) (r0 r1 : aRk) : Bool := (match aLf mp r1.1 with
  | some t => decide (aUb R (aNg r0.1 t.1) + (t.2 + r1.2 - r0.2) ≤ -1)
  | none => false) && decide (aUb W (aNg r1.1 []) - r1.2 ≤ 0)
theorem aFl_ok {R W : aRg} {mp : aMp} {r0 r1 : aRk} {ρ : Nat → Int} (hR : aOkR R ρ) (hW : aOkR W (aRB mp W ρ)) (h : aFl R mp W r0 r1 = true) : aRkv (aRB mp W ρ) r1 < aRkv ρ r0 ∧ 0 ≤ aRkv (aRB mp W ρ) r1 := by
  simp only [aFl, Bool.and_eq_true, decide_eq_true_eq] at h
  obtain ⟨h1, h2⟩ := h
  have h3 := aUb_ok hW (l := aNg r1.1 [])
  rw [aNg_ok] at h3
  simp only [aSm] at h3
  split at h1
  · rename_i t ht
    simp only [decide_eq_true_eq] at h1
    have h4 := aUb_ok hR (l := aNg r0.1 t.1)
    rw [aNg_ok] at h4
    have h5 := aLf_ok (RB := W) (ρ := ρ) ht
    unfold aRkv
    omega
  · cases h1
theorem aSm_same {n : Nat} {ρ ρ_q : Nat → Int} (hs : ∀ k, k < n → ρ_q k = ρ k) : ∀ {l : List (Nat × Int)}, (∀ q ∈ l, q.1 < n) → aSm ρ_q l = aSm ρ l
  | [], _ => rfl
  | q :: r, h => by
    simp only [aSm]
    rw [hs q.1 (h q List.mem_cons_self), aSm_same hs (fun z hz => h z (List.mem_cons_of_mem _ hz))]
/-- does the state come to a place with a pattern -/
def aMg (m ma : Nat) (ann : List (Nat × aS × aRk)) (r0 : Option aRk) (pc : Nat) (σ : aS) : Bool := match aF1 ann pc with
  | some a => aEnd1 m ma σ a.1 && (match r0 with | some r => aFl σ.1 (amF (aMp0 m ma) σ a.1) a.1.1 r a.2 | none => decide (aUb a.1.1 (aNg a.2.1 []) - a.2.2 ≤ 0))
  | none => false
def aEx (sc : Bool) (mx : List Nat) (kd : List aKd) (own : aI) (J : List aI) (Bd : aBd) (ann : List (Nat × aS × aRk)) (r0 : Option aRk) : Nat → Nat → aS → Bool
  | 0, _, _ => false
  | f + 1, pc, σ => (match aSp sc mx kd own J Bd σ pc with
    | some l => l.all (fun q => Nat.ble σ.1.length q.2.1.length && Nat.ble σ.2.1 q.2.2.1 && (aMg own.2.2.1.length own.2.2.2.1 ann r0 q.1 q.2 || aEx sc mx kd own J Bd ann r0 f q.1 q.2))
    | none => false)
theorem xSafe_widen {p : Program} {l : Launch} {e : Env} {R : Room} {s : State} {m : MethodId} {args : Array Value} {below : List Frame} {meth : Method} {c : Code} {nL : Nat} {D : va_G} {dA : Nat → ClassId} {cl : List vw_C} {tA : List (Nat × FieldType)} {B : Nat} {Q : State → Prop} {pc : Nat} {lv : List (Nat × Value)} {st : List Value} {h : xH} {k n k_q n_q : Nat} (h1 : k ≤ k_q) (h2 : n ≤ n_q)
    (kk : xSafe p l e R s m args below meth c nL D dA cl tA B Q pc lv st h k_q n_q) : xSafe p l e R s m args below meth c nL D dA cl tA B Q pc lv st h k n :=
  fun H ls locs hR hl hS => W.widen h1 h2 (kk H ls locs hR hl hS)
section XX
variable {p : Program} {l : Launch} {e : Env} {R0 : Room} {s : State} {m : MethodId} {args : Array Value} {below : List Frame} {meth : Method} {c : Code} {Q : State → Prop}
variable {cc : ByteArray} {nL : Nat} {Ts : List Cond} {own : String} {D : va_G} {dA : Nat → ClassId} {cl : List vw_C} {tA : List (Nat × FieldType)} {tyf : Nat → Nat → FieldType} {B : Nat}
variable {kd : List aKd} {b : aSc} {P : Nat → Prop} {h0 : xH} {ρ : Nat → Int} {α τ : Nat → Option Nat} {σ : aS} {pc len : Nat} {lv : List (Nat × Value)} {st : List Value} {h : xH} {i : Instr} {l1 : List (Nat × aS)}
variable {hI : xH} {own9 I : aI} {ρ0 : Nat → Int} {α0 τ0 : Nat → Option Nat} {xn : List String} {nw : List Cond} {nc : List (String × String)} {ao : List String} {W0 : List Cond} {mth : List aMd} {mx : List Nat} {J : List aI} {Bd : aBd} {ann : List (Nat × aS × aRk)} {r0 : Option aRk} {sc : Bool}
theorem aEx_ok (C : xCx p s m args c cc nL Ts own D dA cl tA tyf B) (hE : xEnv D dA cl tA B nw nc ao s) (hlocks : meth.locks = false) (hl0 : l.stackTraces = false) (hJ : ∀ (n : Nat) (I : aI), J[n]? = some I → ∀ d : aMd, mth[I.1]? = some d → aMt D dA cl tA B nw nc ao W0 l kd b xn d.1 (aCw d) I)
    (hBg : aBg own Ts cl tA tyf kd nw nc W0 mth mx xn b meth s c cc nL Bd) {xs : Nat → Int32} (hX : sc = true → va_X b.1 b.2.1 xs s s.heap ∧ b.1 < s.heap.size ∧ ¬ B ≤ b.1 ∧ ∀ j : Nat, j < b.2.1 → b.2.2 j = (xs j).toInt) {v0 : Int}
    (hann : ∀ (pc : Nat) (W : aS) (r : aRk), (pc, W, r) ∈ ann → ∀ (ρ_q : Nat → Int) (α_q τ_q : Nat → Option Nat) (lv_q : List (Nat × Value)) (st_q : List Value) (h_q : xH), aSx kd B b P hI ρ_q α_q τ_q W lv_q st_q h_q → aSame own9.2.2.1.length own9.2.2.2.1 ρ0 ρ_q α0 α_q → aSub τ0 τ_q → 0 ≤ aRkv ρ_q r → (r0 ≠ none → aRkv ρ_q r < v0) → xSafe p l e (aIr own9) s m args below meth c nL D dA cl tA B (xEnd below args s D dA cl tA B (aQf kd B b P hI ρ0 α0 τ0 own9) (aXf kd B b P hI ρ0 α0 τ0 xn own9) (aIr own9).cells (aIr own9).slots) pc lv_q st_q h_q W.2.2.2.2.2.1 W.2.2.2.2.2.2) :
    ∀ (f pc : Nat) (σ : aS) (ρ : Nat → Int) (α τ : Nat → Option Nat) (lv : List (Nat × Value)) (st : List Value) (h : xH), aEx sc mx kd own9 J Bd ann r0 f pc σ = true → aSx kd B b P hI ρ α τ σ lv st h → aSame own9.2.2.1.length own9.2.2.2.1 ρ0 ρ α0 α → own9.2.2.1.length ≤ σ.1.length → own9.2.2.2.1 ≤ σ.2.1 → aSub τ0 τ →
      (∀ r, r0 = some r → (∀ q ∈ r.1, q.1 < σ.1.length) ∧ aRkv ρ r = v0) → xSafe p l e (aIr own9) s m args below meth c nL D dA cl tA B (xEnd below args s D dA cl tA B (aQf kd B b P hI ρ0 α0 τ0 own9) (aXf kd B b P hI ρ0 α0 τ0 xn own9) (aIr own9).cells (aIr own9).slots) pc lv st h σ.2.2.2.2.2.1 σ.2.2.2.2.2.2 := by
  intro f
  induction f with
  | zero => intro pc σ ρ α τ lv st h h1; cases h1
  | succ f ih =>
    intro pc σ ρ α τ lv st h h1 hA hs hm hma hb hr
    unfold aEx at h1
    split at h1
    · rename_i l1 hl1
      refine aSp_ok C hE hlocks hl0 hJ hBg hX hA hs hm hma hb hl1 ?_
      intro q hq ρ_q α_q τ_q lv_q st_q h_q g1 g2 g3
      have h2 := List.all_eq_true.mp h1 q hq
      simp only [Bool.and_eq_true, Bool.or_eq_true] at h2
      obtain ⟨⟨k1, k2⟩, k3⟩ := h2
      have k1 := Nat.le_of_ble_eq_true k1
      have k2 := Nat.le_of_ble_eq_true k2
      have hs_q : aSame own9.2.2.1.length own9.2.2.2.1 ρ0 ρ_q α0 α_q := ⟨fun k hk => (g1.1 k (by omega)).trans (hs.1 k hk), fun k hk => (g1.2 k (by omega)).trans (hs.2 k hk)⟩
      have hb_q : aSub τ0 τ_q := fun a K hK => g2 _ _ (hb _ _ hK)
      have hr_q : ∀ r, r0 = some r → (∀ z ∈ r.1, z.1 < q.2.1.length) ∧ aRkv ρ_q r = v0 := by
        intro r hr0
        obtain ⟨e1, e2⟩ := hr r hr0
        refine ⟨fun z hz => by have := e1 z hz; omega, ?_⟩
        rw [← e2]
        unfold aRkv
        rw [aSm_same g1.1 e1]
      rcases k3 with k3 | k3
      · unfold aMg at k3
        split at k3
        · rename_i a ha
          simp only [Bool.and_eq_true] at k3
          obtain ⟨k3, k4⟩ := k3
          have k5 := k3
          simp only [aEnd1, Bool.and_eq_true] at k5
          obtain ⟨f1, f2, f3⟩ := ack_ok g3 k5.1
          have hrank : 0 ≤ aRkv (aRB (amF (aMp0 own9.2.2.1.length own9.2.2.2.1) q.2 a.1) a.1.1 ρ_q) a.2 ∧ (r0 ≠ none → aRkv (aRB (amF (aMp0 own9.2.2.1.length own9.2.2.2.1) q.2 a.1) a.1.1 ρ_q) a.2 < v0) := by
            split at k4
            · rename_i r
              obtain ⟨e1, e2⟩ := aFl_ok g3.1.1 f1.1.1 k4
              rw [(hr_q r rfl).2] at e1
              exact ⟨e2, fun _ => e1⟩
            · simp only [decide_eq_true_eq] at k4
              have h3 := aUb_ok f1.1.1 (l := aNg a.2.1 [])
              rw [aNg_ok] at h3
              simp only [aSm] at h3
              refine ⟨?_, fun q => absurd rfl q⟩
              unfold aRkv
              omega
          exact xSafe_widen f2 f3 (hann q.1 a.1 a.2 (aF1_mem ha) _ _ τ_q lv_q st_q h_q f1 (aId_ok k5.2 hs_q) hb_q hrank.1 hrank.2)
        · cases k3
      · exact ih q.1 q.2 ρ_q α_q τ_q lv_q st_q h_q k3 g3 hs_q (by omega) (by omega) hb_q hr_q
    · cases h1
/-- the whole body is checked -/
def aOkB (fuel : Nat) (sc : Bool) (mx : List Nat) (kd : List aKd) (own : aI) (J : List aI) (Bd : aBd) (ann : List (Nat × aS × aRk)) (σ : aS) : Bool :=
  aEx sc mx kd own J Bd ann none fuel 0 σ && ann.all (fun a => Nat.ble own.2.2.1.length a.2.1.1.length && Nat.ble own.2.2.2.1 a.2.1.2.1 && a.2.2.1.all (fun q => Nat.blt q.1 a.2.1.1.length) && aEx sc mx kd own J Bd ann (some a.2.2) fuel a.1 a.2.1)
theorem aOkB_ok (C : xCx p s m args c cc nL Ts own D dA cl tA tyf B) (hE : xEnv D dA cl tA B nw nc ao s) (hlocks : meth.locks = false) (hl0 : l.stackTraces = false) (hJ : ∀ (n : Nat) (I : aI), J[n]? = some I → ∀ d : aMd, mth[I.1]? = some d → aMt D dA cl tA B nw nc ao W0 l kd b xn d.1 (aCw d) I)
    (hBg : aBg own Ts cl tA tyf kd nw nc W0 mth mx xn b meth s c cc nL Bd) {xs : Nat → Int32} (hX : sc = true → va_X b.1 b.2.1 xs s s.heap ∧ b.1 < s.heap.size ∧ ¬ B ≤ b.1 ∧ ∀ j : Nat, j < b.2.1 → b.2.2 j = (xs j).toInt) {fuel : Nat} (hk : aOkB fuel sc mx kd own9 J Bd ann σ = true) (hA : aSx kd B b P hI ρ0 α0 τ0 σ lv st h) (hm : own9.2.2.1.length ≤ σ.1.length) (hma : own9.2.2.2.1 ≤ σ.2.1) :
    xSafe p l e (aIr own9) s m args below meth c nL D dA cl tA B (xEnd below args s D dA cl tA B (aQf kd B b P hI ρ0 α0 τ0 own9) (aXf kd B b P hI ρ0 α0 τ0 xn own9) (aIr own9).cells (aIr own9).slots) 0 lv st h σ.2.2.2.2.2.1 σ.2.2.2.2.2.2 := by
  simp only [aOkB, Bool.and_eq_true] at hk
  obtain ⟨k1, k2⟩ := hk
  have key : ∀ (n : Nat) (pc : Nat) (W : aS) (r : aRk), (pc, W, r) ∈ ann → ∀ (ρ_q : Nat → Int) (α_q τ_q : Nat → Option Nat) (lv_q : List (Nat × Value)) (st_q : List Value) (h_q : xH), aSx kd B b P hI ρ_q α_q τ_q W lv_q st_q h_q → aSame own9.2.2.1.length own9.2.2.2.1 ρ0 ρ_q α0 α_q → aSub τ0 τ_q → 0 ≤ aRkv ρ_q r → aRkv ρ_q r < n → xSafe p l e (aIr own9) s m args below meth c nL D dA cl tA B (xEnd below args s D dA cl tA B (aQf kd B b P hI ρ0 α0 τ0 own9) (aXf kd B b P hI ρ0 α0 τ0 xn own9) (aIr own9).cells (aIr own9).slots) pc lv_q st_q h_q W.2.2.2.2.2.1 W.2.2.2.2.2.2 := by
    intro n
    induction n with
    | zero => intro pc W r _ ρ_q α_q τ_q lv_q st_q h_q _ _ _ h9 h10; omega
    | succ n ih =>
      intro pc W r hin ρ_q α_q τ_q lv_q st_q h_q g1 g2 g3 g4 g5
      have h2 := List.all_eq_true.mp k2 _ hin
      simp only [Bool.and_eq_true] at h2
      obtain ⟨⟨⟨j1, j2⟩, j3⟩, j4⟩ := h2
      refine aEx_ok (r0 := some r) (v0 := aRkv ρ_q r) C hE hlocks hl0 hJ hBg hX ?_ fuel pc W ρ_q α_q τ_q lv_q st_q h_q j4 g1 g2 (Nat.le_of_ble_eq_true j1) (Nat.le_of_ble_eq_true j2) g3 ?_
      · intro pc2 W2 r2 hin2 ρ2 α2 τ2 lv2 st2 h2 f1 f2 f3 f4 f5
        have := f5 (by simp)
        exact ih pc2 W2 r2 hin2 ρ2 α2 τ2 lv2 st2 h2 f1 f2 f3 f4 (by omega)
      · intro r_q hr_q
        cases hr_q
        exact ⟨fun q hq => (Nat.blt_eq).mp (List.all_eq_true.mp j3 q hq), rfl⟩
  refine aEx_ok (r0 := none) (v0 := 0) C hE hlocks hl0 hJ hBg hX ?_ fuel 0 σ ρ0 α0 τ0 lv st h k1 hA aSame_rf hm hma aSub_rf (fun r hr => by cases hr)
  intro pc2 W2 r2 hin2 ρ2 α2 τ2 lv2 st2 h2 f1 f2 f3 f4 f5
  exact key ((aRkv ρ2 r2).toNat + 1) pc2 W2 r2 hin2 ρ2 α2 τ2 lv2 st2 h2 f1 f2 f3 f4 (by omega)
end XX
