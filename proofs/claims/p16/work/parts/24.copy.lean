/-! ===== values of one array laid into another ===== -/
theorem arrV_pairs (cI : ClassId) (N at_ : Nat) : ∀ (vs : List (Value × Nat)) (g : Nat → Value), ∃ g_q : Nat → Value, (arrV cI N g).storePairs at_ vs = arrV cI N g_q ∧ ∀ j, g_q j = g j ∨ ∃ q ∈ vs, g_q j = q.1
  | [], g => ⟨g, rfl, fun _ => Or.inl rfl⟩
  | q :: r, g => by
    obtain ⟨g_q, h1, h2⟩ := arrV_pairs cI N at_ r (updV g (at_ + q.2) q.1)
    refine ⟨g_q, ?_, fun j => ?_⟩
    · show ((arrV cI N g).setSlot (at_ + q.2) q.1).storePairs at_ r = _
      rw [arrV_store]
      exact h1
    · rcases h2 j with h3 | ⟨z, hz, h3⟩
      · by_cases e : j = at_ + q.2
        · exact Or.inr ⟨q, List.mem_cons_self, by rw [h3]; simp [updV, e]⟩
        · exact Or.inl (by rw [h3]; simp [updV, e])
      · exact Or.inr ⟨z, List.mem_cons_of_mem _ hz, h3⟩
theorem arrV_copied (cI : ClassId) {N0 N1 sp dp n : Nat} {f g : Nat → Value} (hs : sp + n ≤ N0) : ∃ g_q : Nat → Value, (arrV cI N1 g).storeRun dp ((arrV cI N0 f).stretch sp n) = arrV cI N1 g_q ∧ ∀ j, g_q j = g j ∨ ∃ i, i < n ∧ g_q j = f (sp + i) := by
  obtain ⟨g_q, h1, h2⟩ := arrV_pairs cI N1 dp ((arrV cI N0 f).stretch sp n).zipIdx g
  refine ⟨g_q, h1, fun j => ?_⟩
  rcases h2 j with h3 | ⟨z, hz, h3⟩
  · exact Or.inl h3
  · right
    have hz2 := List.mem_zipIdx hz
    have hlt : z.2 < n := by
      have := hz2.2.1
      simpa [Cell.stretch] using this
    refine ⟨z.2, hlt, ?_⟩
    rw [h3]
    have e := hz2.2.2
    rw [e]
    simp only [Cell.stretch, List.getElem_map, List.getElem_range, Nat.sub_zero]
    rw [Array.getD_eq_getD_getElem?, arrV_read _ _ (by omega)]
    rfl
section XCp
variable {p : Program} {l : Launch} {e : Env} {R : Room} {s : State} {m : MethodId} {args : Array Value} {below : List Frame} {meth : Method} {c : Code} {Q : State → Prop}
variable {cc : ByteArray} {nL : Nat} {Ts : List Cond} {own : String} {D : va_G} {dA : Nat → ClassId} {cl : List vw_C} {tA : List (Nat × FieldType)} {tyf : Nat → Nat → FieldType} {B : Nat}
variable {pc : Nat} {lv : List (Nat × Value)} {st : List Value} {h : xH} {k n : Nat} {i : Instr}
/-- what the tables must say of a place that copies -/
def xCpy (own : String) (Ts : List Cond) (idx : Nat) : Prop := Cond.methodLink own idx arraycopyName ∈ Ts ∧ Cond.native arraycopyName ∈ Ts ∧ Cond.static arraycopyName ∈ Ts ∧ Cond.initialized "java/lang/System" ∈ Ts
theorem xs_copy (C : xCx p s m args c cc nL Ts own D dA cl tA tyf B) {idx : Nat} (hw : xCpy own Ts idx) {t src dst N0 N1 : Nat} {f g : Nat → Value} {ty : FieldType} (ht : (t, ty) ∈ tA) (hprim : refKind ty = false) (ha0 : h src = some (t, N0, f)) (ha1 : h dst = some (t, N1, g)) (hBa : B ≤ dst)
    {sp dp z : Int32} (h1 : ¬ sp < 0) (h2 : ¬ dp < 0) (h3 : ¬ z < 0) (h4 : sp.toNatClampNeg + z.toNatClampNeg ≤ N0) (h5 : dp.toNatClampNeg + z.toNatClampNeg ≤ N1) (hfit : ∀ j, j < N0 → fits ty (f j) = true ∧ ∀ a, f j ≠ .ref a)
    (hframes : 1 ≤ R.frames) (hlocals : (st.map fun v => v.category).sum + 18 ≤ R.locals) (hdg : decode cc pc = .ok (.invokestatic idx, 3))
    (kk : ∀ g_q : Nat → Value, (∀ j, g_q j = g j ∨ ∃ j_q, j_q < N0 ∧ g_q j = f j_q) → xSafe p l e R s m args below meth c nL D dA cl tA B Q (pc + 3) lv st (xput h dst (t, N1, g_q)) k n) : xSafe p l e R s m args below meth c nL D dA cl tA B Q pc lv (.int z :: .int dp :: .ref dst :: .int sp :: .ref src :: st) h k n := by
  have nn : ∀ z : Int32, ¬ z < 0 → z.toInt = (z.toNatClampNeg : Int) := by
    intro z hz
    have hz0 : (0 : Int) ≤ z.toInt := by
      have := Int32.not_lt.mp hz
      simpa using Int32.le_iff_toInt_le.mp this
    show z.toInt = ((z.toInt.toNat : Nat) : Int)
    omega
  intro H ls locs hR hl hS T hT X
  obtain ⟨hx, hb, hml, hown, hts, hK, hTb, hB⟩ := C
  obtain ⟨w1, w2, w3, w4⟩ := hw
  have h1000 := hTb.2 _ _ ht
  obtain ⟨hty, hN0, hc0⟩ := xat_arr h1000 (hR src _ ha0)
  obtain ⟨-, hN1, hc1⟩ := xat_arr h1000 (hR dst _ ha1)
  obtain ⟨-, k0, hk0, cm0, hkk0⟩ := (hK.2 t _ ht).1 N0 f
  obtain ⟨-, k1, hk1, cm1, hkk1⟩ := (hK.2 t _ ht).1 N1 g
  obtain ⟨vm_q, X_q, step⟩ := X.arraycopy hx hown (hts _ w1) (hts _ w2) (hts _ w3) (hts _ w4) (src := src) (dst := dst) (cs := arrV (dA t) N0 f) (cd := arrV (dA t) N1 g) (srcPos := sp) (destPos := dp) (n := z) (by rw [hT]; exact hc0) (by rw [hT]; exact hc1)
    (fun _ h => by cases h) (fun _ h => by cases h) (fun h => by cases h) (fun h => by cases h) hk0 hk1 hkk0 hkk1 (by simp [hprim]) h1 h2 h3
    (by rw [nn sp h1, nn z h3, arrV_size]; omega)
    (by rw [nn dp h2, nn z h3, arrV_size]; omega)
    (fun vm₁ _ i hi => by
      have e : (arrV (dA t) N0 f).slots.getD (sp.toNatClampNeg + i) .null = f (sp.toNatClampNeg + i) := by
        rw [Array.getD_eq_getD_getElem?, arrV_read _ _ (by omega)]
        rfl
      rw [e]
      obtain ⟨g1, g2⟩ := hfit (sp.toNatClampNeg + i) (by omega)
      refine ⟨g1, ?_⟩
      cases hv : f (sp.toNatClampNeg + i) with
      | ref a => exact absurd hv (g2 a)
      | _ => exact trivial)
    (g := F0 m pc ls (.int z :: .int dp :: .ref dst :: .int sp :: .ref src :: st)) rfl (by rw [hml]; exact hl.1) (rest := st) rfl (by rw [hb]; exact hdg) hframes (by show 2 * 0 + _ + (7 + 11) ≤ _; omega)
  obtain ⟨g_q, e1, e2⟩ := arrV_copied (dA t) (N1 := N1) (dp := dp.toNatClampNeg) (g := g) (f := f) h4
  have e1_q : copied (arrV (dA t) N0 f) (arrV (dA t) N1 g) sp dp z = arrV (dA t) N1 g_q := e1
  rw [e1_q] at X_q step
  have hlt : dst < H.size := (Array.getElem?_eq_some_iff.mp hc1).1
  have hheap : ((T.setVm vm_q).setCell dst (arrV (dA t) N1 g_q)).heap = H.setIfInBounds dst (arrV (dA t) N1 g_q) := by rw [← hT]; rfl
  have oq : ∀ q : Nat, q ≠ dst → (H.setIfInBounds dst (arrV (dA t) N1 g_q))[q]? = H[q]? := fun q hq => by simp [Array.getElem?_setIfInBounds, Ne.symm hq]
  obtain ⟨t9, a1, b1⟩ := kk g_q (fun j => (e2 j).imp id (fun ⟨i, hi, h9⟩ => ⟨_, by omega, h9⟩)) _ ls _ (hR.put (xat_mkarr h1000 hty hN1 (by simp [Array.getElem?_setIfInBounds, hlt])) oq) hl ⟨by simp; exact hS.1, fun q g1 g2 => by
      rw [oq q (fun e => g2 (by rw [e]; exact hBa))]
      exact hS.2.1 q g1 g2, fun q hq => by
      rcases List.mem_append.mp hq with h | h
      · exact hS.2.2 q h
      · obtain ⟨z, -, hz⟩ := List.mem_map.mp h
        rw [← hz]
        exact hBa⟩ _ hheap X_q
  exact ⟨t9, step t9 a1, b1⟩
end XCp
