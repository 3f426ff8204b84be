section XHp
variable {p : Program} {l : Launch} {e : Env} {R : Room} {s : State} {m : MethodId} {args : Array Value} {below : List Frame} {meth : Method} {c : Code} {Q : State → Prop}
variable {cc : ByteArray} {nL : Nat} {Ts : List Cond} {own : String} {D : va_G} {dA : Nat → ClassId} {cl : List vw_C} {tA : List (Nat × FieldType)} {tyf : Nat → Nat → FieldType} {B : Nat}
variable {pc : Nat} {lv : List (Nat × Value)} {st : List Value} {h : xH} {k n : Nat} {i : Instr}
theorem xat_obj {a ci N : Nat} {V : Nat → Value} {H : Heap} (hc : ci < 1000) (h1 : xAt D dA cl tA a (ci, N, V) H) : ∃ r : vw_C, cl[ci]? = some r ∧ N = r.2.2 ∧ t_OB a (D.1 ci) r.2.2 (D.2 ci) H V := by
  unfold xAt at h1
  rw [if_pos (show (ci, N, V).1 < 1000 from hc)] at h1
  exact h1
theorem xat_arr {a t N : Nat} {V : Nat → Value} {H : Heap} (hc : 1000 ≤ t) (h1 : xAt D dA cl tA a (t, N, V) H) : (∃ ty, (t, ty) ∈ tA) ∧ N < 2147483648 ∧ H[a]? = some (arrV (dA t) N V) := by
  unfold xAt at h1
  rw [if_neg (show ¬ (t, N, V).1 < 1000 from Nat.not_lt.mpr hc)] at h1
  exact h1
theorem xat_mkarr {a t N : Nat} {V : Nat → Value} {H : Heap} (hc : 1000 ≤ t) (ht : ∃ ty, (t, ty) ∈ tA) (hN : N < 2147483648) (h1 : H[a]? = some (arrV (dA t) N V)) : xAt D dA cl tA a (t, N, V) H := by
  unfold xAt
  rw [if_neg (show ¬ (t, N, V).1 < 1000 from Nat.not_lt.mpr hc)]
  exact ⟨ht, hN, h1⟩
theorem xS_put {H H1 : Heap} {locs : List Loc} {a j : Nat} (hS : va_S (fun q => B ≤ q) s.heap H locs) (z : H1.size = H.size) (oq : ∀ q, q ≠ a → H1[q]? = H[q]?) (ha : B ≤ a) : va_S (fun q => B ≤ q) s.heap H1 (locs ++ [⟨a, j⟩]) :=
  ⟨by rw [z]; exact hS.1, fun q h1 h2 => by
    rw [oq q (fun he => h2 (by rw [he]; exact ha))]
    exact hS.2.1 q h1 h2, fun q hq => by
    rcases List.mem_append.mp hq with hq | hq
    · exact hS.2.2 q hq
    · cases List.mem_singleton.mp hq
      exact ha⟩
theorem xS_new {H H1 : Heap} {locs : List Loc} (hS : va_S (fun q => B ≤ q) s.heap H locs) (z : H1.size = H.size + 1) (oq : ∀ q, q < H.size → H1[q]? = H[q]?) : va_S (fun q => B ≤ q) s.heap H1 locs :=
  ⟨by rw [z]; exact Nat.le_succ_of_le hS.1, fun q h1 h2 => by
    rw [oq q (Nat.lt_of_lt_of_le h1 hS.1)]
    exact hS.2.1 q h1 h2, hS.2.2⟩
theorem xs_get (C : xCx p s m args c cc nL Ts own D dA cl tA tyf B) {a ci N f idx : Nat} {V : Nat → Value} {r : vw_C} (hr : cl[ci]? = some r) (hf : f < r.2.2) (hw : Cond.fieldLink own idx (r.2.1 f).1 (r.2.1 f).2.1 (r.2.1 f).2.2.1 ∈ Ts) (ha : h a = some (ci, N, V)) (hdg : decode cc pc = .ok (.getfield idx, 3)) (kk : xSafe p l e R s m args below meth c nL D dA cl tA B Q (pc + 3) lv (V f :: st) h k n) : xSafe p l e R s m args below meth c nL D dA cl tA B Q pc lv (.ref a :: st) h k n := by
  intro H ls locs hR hl hS
  obtain ⟨hx, hb, hml, hown, hts, hK, hT, hB⟩ := C
  obtain ⟨hc, hin, -, -⟩ := hT.1 ci r hr
  obtain ⟨r_q, hr_q, hN, cell, q1, q2, q3, q4⟩ := xat_obj hc (hR a _ ha)
  cases hr.symm.trans hr_q
  obtain ⟨hSl, hfc, kC, hkC, hkind⟩ := hK.1 ci r hr
  obtain ⟨cf, kf, fi, f_q, hi, hsl⟩ := hSl f hf
  exact W.getf hx hb hown (hts _ hw) hi (u_facts hfc hkC (u_lays hts hin hf) hi).1 q1 (by rw [q3]; exact fun h => by cases h) (v := V f) (by rw [hsl]; exact q4 f hf) rfl rfl hdg (kk H ls locs hR hl hS)
theorem xs_put (C : xCx p s m args c cc nL Ts own D dA cl tA tyf B) {a ci N f idx : Nat} {V : Nat → Value} {v : Value} {r : vw_C} (hr : cl[ci]? = some r) (hf : f < r.2.2) (hw : Cond.fieldLink own idx (r.2.1 f).1 (r.2.1 f).2.1 (r.2.1 f).2.2.1 ∈ Ts) (ha : h a = some (ci, N, V)) (hBa : B ≤ a) (hn : narrow (tyf ci f) v = v) (hfit : fits (tyf ci f) v = true)
    (hfin : (r.2.1 f).2.2.2 = false ∨ ((r.2.1 f).2.2.2 = true ∧ meth.name = "<init>" ∧ (r.2.1 f).1 = own)) (hdg : decode cc pc = .ok (.putfield idx, 3)) (kk : xSafe p l e R s m args below meth c nL D dA cl tA B Q (pc + 3) lv st (xput h a (ci, N, updV V f v)) k n) : xSafe p l e R s m args below meth c nL D dA cl tA B Q pc lv (v :: .ref a :: st) h k n := by
  intro H ls locs hR hl hS
  obtain ⟨hx, hb, hml, hown, hts, hK, hT, hB⟩ := C
  obtain ⟨hc, hin, hty, hnm⟩ := hT.1 ci r hr
  obtain ⟨r_q, hr_q, hN, cell, q1, q2, q3, q4⟩ := xat_obj hc (hR a _ ha)
  cases hr.symm.trans hr_q
  obtain ⟨hSl, hfc, kC, hkC, hkind⟩ := hK.1 ci r hr
  have hKa : va_K D cl [] s := ⟨hK.1, fun j q hq => by simp at hq⟩
  have hap := va_apart (own := own) (C := r.1) (T := r.2.1) (N := r.2.2) hts hin (tyf ci) hty hnm hKa hr
  obtain ⟨cf, kf, fi, f_q, hi, hsl⟩ := hSl f hf
  have hlay := hts _ (hin _ (u_in_lay hf))
  have hst := (u_facts hfc hkC (u_lays hts hin hf) hi).1
  have fin : ∀ H_q : Heap, H_q[a]? = some (cell.setSlot f_q.slot v) → H_q.size = H.size → (∀ q, q ≠ a → H_q[q]? = H[q]?) → W p l e R s m args below meth c H_q (locs ++ [⟨a, f_q.slot⟩]) k n Q (F0 m (pc + 3) ls st) := by
    intro H_q e1 e2 e3
    refine kk H_q ls _ (hR.put ?_ e3) hl (xS_put hS e2 e3 hBa)
    unfold xAt
    rw [if_pos (show ((ci, N, updV V f v) : xC).1 < 1000 from hc)]
    refine ⟨r, hr, hN, cell.setSlot f_q.slot v, e1, q2, q3, ?_⟩
    rw [hsl]
    exact t_set q4 hap hf v
  rcases hfin with hfin | ⟨hfin, hin2, hdecl⟩
  · unfold u_lay at hlay
    rw [if_neg (by rw [hfin]; decide)] at hlay
    have h6 := u_store hfc hkC hkind hlay hi (hty f hf) hn hfit
    exact W.putK hx hb (f := f_q) ⟨hown, hts _ hw, ⟨_, _, _, hi⟩, hst⟩ (by rw [q2]; exact h6) q1 q3 (by rw [hsl]; exact k2_hasslot (q4 f hf)) rfl rfl hdg fin
  · unfold u_lay at hlay
    rw [if_pos hfin] at hlay
    have hcf : m.cls = cf := by
      obtain ⟨_, _, c_q, _, _, _, -, -, hf_q, -, -, -, hown2, -⟩ := Cond.laysFinal_spec hlay
      have e1 : c_q = cf := by have := hi.symm.trans hf_q; simp at this; exact this.1.symm
      rw [hdecl] at hown2
      rw [← e1]; exact Option.some.inj (hown.symm.trans hown2)
    have h6 := u_fits hfc hkC hkind (Or.inr hlay) hi (hty f hf) hn hfit
    exact W.putFinK hx hb hown (hts _ hw) hi hst hcf hin2 (by rw [q2]; exact h6) q1 q3 (by rw [hsl]; exact k2_hasslot (q4 f hf)) rfl rfl hdg fin
theorem xin_lt {j : Int32} {N : Nat} (hj : vp_in j N) : j.toNatClampNeg < N := Nat.not_le.mp fun q => hj (Or.inr q)
theorem xs_ald (C : xCx p s m args c cc nL Ts own D dA cl tA tyf B) {a t N : Nat} {V : Nat → Value} {j : Int32} (ht : (t = 1000 ∧ i = .iaload) ∨ (t = 1001 ∧ i = .laload) ∨ (t = 1002 ∧ i = .baload) ∨ (t = 1003 ∧ i = .baload)) (hA : tA.take 4 = [(1000, .int), (1001, .long), (1002, .byte), (1003, .boolean)]) (ha : h a = some (t, N, V)) (hj : vp_in j N) (hdg : decode cc pc = .ok (i, 1)) (kk : xSafe p l e R s m args below meth c nL D dA cl tA B Q (pc + 1) lv (V j.toNatClampNeg :: st) h k n) : xSafe p l e R s m args below meth c nL D dA cl tA B Q pc lv (.int j :: .ref a :: st) h k n := by
  intro H ls locs hR hl hS
  obtain ⟨hx, hb, hml, hown, hts, hK, hT, hB⟩ := C
  have kk := kk H ls locs hR hl hS
  have hm : ∀ q, q ∈ tA.take 4 → q ∈ tA := fun q hq => List.mem_of_mem_take hq
  rw [hA] at hm
  have hsz : ¬ (j < 0 ∨ (arrV (dA t) N V).slots.size ≤ j.toNatClampNeg) := by rw [arrV_size]; exact hj
  have hrd : (arrV (dA t) N V).slots[j.toNatClampNeg]? = some (V j.toNatClampNeg) := arrV_read _ _ (xin_lt hj)
  have hun : (arrV (dA t) N V).vm ≠ .unknown := fun q => by cases q
  rcases ht with ⟨rfl, rfl⟩ | ⟨rfl, rfl⟩ | ⟨rfl, rfl⟩ | ⟨rfl, rfl⟩
  · exact W.iald hx hb (xat_arr (by decide) (hR a _ ha)).2.2 ((hK.2 1000 .int (hm _ (by simp))).1 N V) hun hsz hrd rfl rfl hdg kk
  · exact W.lald hx hb (xat_arr (by decide) (hR a _ ha)).2.2 ((hK.2 1001 .long (hm _ (by simp))).1 N V) hun hsz hrd rfl rfl hdg kk
  · exact W.bald hx hb (xat_arr (by decide) (hR a _ ha)).2.2 ((hK.2 1002 .byte (hm _ (by simp))).1 N V) hun hsz hrd rfl rfl hdg kk
  · exact W.zald hx hb (xat_arr (by decide) (hR a _ ha)).2.2 ((hK.2 1003 .boolean (hm _ (by simp))).1 N V) hun hsz hrd rfl rfl hdg kk
theorem xs_aald (C : xCx p s m args c cc nL Ts own D dA cl tA tyf B) {a t N : Nat} {V : Nat → Value} {j : Int32} {E : String} (ht : (t, FieldType.object E) ∈ tA) (ha : h a = some (t, N, V)) (hj : vp_in j N) (hdg : decode cc pc = .ok (.aaload, 1)) (kk : xSafe p l e R s m args below meth c nL D dA cl tA B Q (pc + 1) lv (V j.toNatClampNeg :: st) h k n) : xSafe p l e R s m args below meth c nL D dA cl tA B Q pc lv (.int j :: .ref a :: st) h k n := by
  intro H ls locs hR hl hS
  obtain ⟨hx, hb, hml, hown, hts, hK, hT, hB⟩ := C
  have kk := kk H ls locs hR hl hS
  have hsz : ¬ (j < 0 ∨ (arrV (dA t) N V).slots.size ≤ j.toNatClampNeg) := by rw [arrV_size]; exact hj
  exact W.aald (ty := .object E) hx hb (xat_arr (hT.2 _ _ ht) (hR a _ ha)).2.2 ((hK.2 t _ ht).1 N V) rfl (fun q => by cases q) hsz (arrV_read _ _ (xin_lt hj)) rfl rfl hdg kk
theorem xs_alen (C : xCx p s m args c cc nL Ts own D dA cl tA tyf B) {a t N : Nat} {V : Nat → Value} (hc : 1000 ≤ t) (ha : h a = some (t, N, V)) (hdg : decode cc pc = .ok (.arraylength, 1)) (kk : xSafe p l e R s m args below meth c nL D dA cl tA B Q (pc + 1) lv (.int (Int32.ofNat N) :: st) h k n) : xSafe p l e R s m args below meth c nL D dA cl tA B Q pc lv (.ref a :: st) h k n := by
  intro H ls locs hR hl hS
  obtain ⟨hx, hb, hml, hown, hts, hK, hT, hB⟩ := C
  obtain ⟨⟨ty, ht⟩, hN, h1⟩ := xat_arr hc (hR a _ ha)
  exact W.alen (n := Int32.ofNat N) hx hb h1 ((hK.2 t ty ht).1 N V) (by rw [arrV_size] <;> rfl) rfl rfl hdg (kk H ls locs hR hl hS)
/-- what an array of the kind t keeps of a value -/
def xnar (t : Nat) (v : Value) : Value := if t = 1002 then narrow .byte v else if t = 1003 then narrow .boolean v else v
theorem xs_ast (C : xCx p s m args c cc nL Ts own D dA cl tA tyf B) {a t N : Nat} {V : Nat → Value} {j : Int32} {v : Value} (ht : (t = 1000 ∧ i = .iastore ∧ xsort v = 0) ∨ (t = 1001 ∧ i = .lastore ∧ xsort v = 1) ∨ (t = 1002 ∧ i = .bastore ∧ xsort v = 0) ∨ (t = 1003 ∧ i = .bastore ∧ xsort v = 0)) (hA : tA.take 4 = [(1000, .int), (1001, .long), (1002, .byte), (1003, .boolean)]) (ha : h a = some (t, N, V)) (hBa : B ≤ a) (hj : vp_in j N) (hdg : decode cc pc = .ok (i, 1)) (kk : xSafe p l e R s m args below meth c nL D dA cl tA B Q (pc + 1) lv st (xput h a (t, N, updV V j.toNatClampNeg (xnar t v))) k n) : xSafe p l e R s m args below meth c nL D dA cl tA B Q pc lv (v :: .int j :: .ref a :: st) h k n := by
  intro H ls locs hR hl hS
  obtain ⟨hx, hb, hml, hown, hts, hK, hT, hB⟩ := C
  have hm : ∀ q, q ∈ tA.take 4 → q ∈ tA := fun q hq => List.mem_of_mem_take hq
  rw [hA] at hm
  have hsz : ¬ (j < 0 ∨ (arrV (dA t) N V).slots.size ≤ j.toNatClampNeg) := by rw [arrV_size]; exact hj
  have hun : (arrV (dA t) N V).vm ≠ .unknown := fun q => by cases q
  have h1000 : 1000 ≤ t := by rcases ht with ⟨rfl, -⟩ | ⟨rfl, -⟩ | ⟨rfl, -⟩ | ⟨rfl, -⟩ <;> decide
  obtain ⟨hty, hN, hcell⟩ := xat_arr h1000 (hR a _ ha)
  have fin : ∀ (H_q : Heap), H_q[a]? = some ((arrV (dA t) N V).setSlot j.toNatClampNeg (xnar t v)) → H_q.size = H.size → (∀ q, q ≠ a → H_q[q]? = H[q]?) → W p l e R s m args below meth c H_q (locs ++ [⟨a, j.toNatClampNeg⟩]) k n Q (F0 m (pc + 1) ls st) := by
    intro H_q e1 e2 e3
    rw [arrV_store] at e1
    exact kk H_q ls _ (hR.put (xat_mkarr h1000 hty hN e1) e3) hl (xS_put hS e2 e3 hBa)
  rcases ht with ⟨rfl, rfl, hv⟩ | ⟨rfl, rfl, hv⟩ | ⟨rfl, rfl, hv⟩ | ⟨rfl, rfl, hv⟩
  · cases v <;> simp only [xsort] at hv <;> first | (exact absurd hv (by decide)) | exact W.iast hx hb hcell ((hK.2 1000 .int (hm _ (by simp))).1 N V) hun hsz rfl rfl hdg fin
  · cases v <;> simp only [xsort] at hv <;> first | (exact absurd hv (by decide)) | exact W.last hx hb hcell ((hK.2 1001 .long (hm _ (by simp))).1 N V) hun hsz rfl rfl hdg fin
  · cases v <;> simp only [xsort] at hv <;> first | (exact absurd hv (by decide)) | exact W.bast hx hb hcell ((hK.2 1002 .byte (hm _ (by simp))).1 N V) hun hsz rfl rfl hdg fin
  · cases v <;> simp only [xsort] at hv <;> first | (exact absurd hv (by decide)) | exact W.zast hx hb hcell ((hK.2 1003 .boolean (hm _ (by simp))).1 N V) hun hsz rfl rfl hdg fin
theorem xs_aast (C : xCx p s m args c cc nL Ts own D dA cl tA tyf B) {a t N a2 ci N2 : Nat} {V V2 : Nat → Value} {j : Int32} {r : vw_C} (hr : cl[ci]? = some r) (ht : (t, FieldType.object r.1) ∈ tA) (ha : h a = some (t, N, V)) (hBa : B ≤ a) (ha2 : h a2 = some (ci, N2, V2)) (hj : vp_in j N) (hdg : decode cc pc = .ok (.aastore, 1)) (kk : xSafe p l e R s m args below meth c nL D dA cl tA B Q (pc + 1) lv st (xput h a (t, N, updV V j.toNatClampNeg (.ref a2))) k n) : xSafe p l e R s m args below meth c nL D dA cl tA B Q pc lv (.ref a2 :: .int j :: .ref a :: st) h k n := by
  intro H ls locs hR hl hS
  obtain ⟨hx, hb, hml, hown, hts, hK, hT, hB⟩ := C
  have hci := (hT.1 ci r hr).1
  have h1000 := hT.2 _ _ ht
  obtain ⟨hty, hN, hcell⟩ := xat_arr h1000 (hR a _ ha)
  obtain ⟨r_q, hr_q, -, cellV, g1, g2, g3, -⟩ := xat_obj hci (hR a2 _ ha2)
  cases hr.symm.trans hr_q
  have hcls := (hK.1 ci r hr).2
  obtain ⟨kA, comp, k1, k2, k3, -⟩ := (hK.2 t _ ht).2
  have hcomp : comp = D.1 ci := Option.some.inj (k3.symm.trans hcls.1)
  subst hcomp
  obtain ⟨kC, hkC, -⟩ := hcls.2
  have h0 : ¬ j < 0 := fun q => hj (Or.inl q)
  refine W.aast hx hb hcell (fun q h => by cases h) (fun h => by cases h) k1 k2 rfl hkC ⟨h0, by show _ < (arrV _ _ _).slots.size; rw [arrV_size]; exact xin_lt hj⟩ g1 (fun q h => by rw [g3] at h; cases h) (by rw [g2]; exact hkC) (by rw [g2]; exact va_assign hcls) rfl rfl hdg fun H1 e1 e2 e3 => ?_
  rw [arrV_store] at e1
  exact kk H1 ls _ (hR.put (xat_mkarr h1000 hty hN e1) e3) hl (xS_put hS e2 e3 hBa)
theorem xs_new (C : xCx p s m args c cc nL Ts own D dA cl tA tyf B) {ci idx : Nat} {r : vw_C} (hr : cl[ci]? = some r) (hw1 : Cond.classLink own idx r.1 ∈ Ts) (hw2 : Cond.instantiable r.1 r.2.2 ∈ Ts) (hw3 : Cond.initialized r.1 ∈ Ts) (hcells : k + 1 ≤ R.cells) (hslots : n + r.2.2 ≤ R.slots) (hdg : decode cc pc = .ok (.new idx, 3))
    (kk : ∀ a : Nat, h a = none → B ≤ a → xSafe p l e R s m args below meth c nL D dA cl tA B Q (pc + 3) lv (.ref a :: st) (xput h a (ci, r.2.2, fun j => defaultValue (tyf ci j))) (k + 1) (n + r.2.2)) : xSafe p l e R s m args below meth c nL D dA cl tA B Q pc lv st h k n := by
  intro H ls locs hR hl hS
  obtain ⟨hx, hb, hml, hown, hts, hK, hT, hB⟩ := C
  obtain ⟨hc, hin, hty, hnm⟩ := hT.1 ci r hr
  have hKn := hK.1 ci r hr
  have hBH : B ≤ H.size := Nat.le_trans hB hS.1
  refine W.newcK hx hb hown (hts _ hw1) (hts _ hw2) (hts _ hw3) rfl hdg hcells hslots hKn.2.1 rfl fun H1 kC hkC e1 z1 o1 => ?_
  refine kk H.size hR.free hBH H1 ls locs (hR.new ?_ o1) hl (xS_new hS z1 o1)
  unfold xAt
  rw [if_pos (show ((ci, r.2.2, fun j => defaultValue (tyf ci j)) : xC).1 < 1000 from hc)]
  exact ⟨r, hr, rfl, u_born (tyf ci) hts hin hKn hkC e1 hty⟩
theorem xs_newa (C : xCx p s m args c cc nL Ts own D dA cl tA tyf B) {t : Nat} {at0 : ArrayType} {j : Int32} (ht : (t, newarray.typeOf at0) ∈ tA) (hnr : ∀ E, newarray.typeOf at0 ≠ .object E) (hw : Cond.arrayClass (newarray.typeOf at0) ∈ Ts) (hj : ¬ j < 0) (hbytes : j.toNatClampNeg * componentBytes (newarray.typeOf at0) ≤ 536870912) (hcells : k + 1 ≤ R.cells) (hslots : n + j.toNatClampNeg ≤ R.slots) (hdg : decode cc pc = .ok (.newarray at0, 2))
    (kk : ∀ a : Nat, h a = none → B ≤ a → xSafe p l e R s m args below meth c nL D dA cl tA B Q (pc + 2) lv (.ref a :: st) (xput h a (t, j.toNatClampNeg, fun _ => defaultValue (newarray.typeOf at0))) (k + 1) (n + j.toNatClampNeg)) : xSafe p l e R s m args below meth c nL D dA cl tA B Q pc lv (.int j :: st) h k n := by
  intro H ls locs hR hl hS
  obtain ⟨hx, hb, hml, hown, hts, hK, hT, hB⟩ := C
  have hBH : B ≤ H.size := Nat.le_trans hB hS.1
  have h2 : j.toNatClampNeg < 2147483648 := by
    have := Int32.toInt_lt j
    unfold Int32.toNatClampNeg
    omega
  refine va_newaK hx hb (hts _ hw) rfl hdg rfl hj rfl hbytes hcells hslots rfl fun H1 cA e1 z1 o1 hAr hNm => ?_
  have hcA : dA t = cA := by
    have h9 := (hK.2 t _ ht).2
    have h10 : s.vm.findClass ("[" ++ (newarray.typeOf at0).toString) = some (dA t) := by
      unfold va_RA at h9
      split at h9
      · rename_i C9 he
        exact absurd he (hnr C9)
      · exact h9
    exact Option.some.inj (h10.symm.trans hNm)
  subst hcA
  exact kk H.size hR.free hBH H1 ls locs (hR.new (xat_mkarr (hT.2 _ _ ht) ⟨_, ht⟩ h2 e1) o1) hl (xS_new hS z1 o1)
theorem xs_anew (C : xCx p s m args c cc nL Ts own D dA cl tA tyf B) {t idx : Nat} {E : String} {j : Int32} (ht : (t, FieldType.object E) ∈ tA) (hw : Cond.classLink own idx E ∈ Ts) (hover : va_AO E s) (hj : ¬ j < 0) (hbytes : j.toNatClampNeg * 4 ≤ 536870912) (hcells : k + 1 ≤ R.cells) (hslots : n + j.toNatClampNeg ≤ R.slots) (hdg : decode cc pc = .ok (.anewarray idx, 3))
    (kk : ∀ a : Nat, h a = none → B ≤ a → xSafe p l e R s m args below meth c nL D dA cl tA B Q (pc + 3) lv (.ref a :: st) (xput h a (t, j.toNatClampNeg, fun _ => .null)) (k + 1) (n + j.toNatClampNeg)) : xSafe p l e R s m args below meth c nL D dA cl tA B Q pc lv (.int j :: st) h k n := by
  intro H ls locs hR hl hS
  obtain ⟨hx, hb, hml, hown, hts, hK, hT, hB⟩ := C
  have hBH : B ≤ H.size := Nat.le_trans hB hS.1
  have h2 : j.toNatClampNeg < 2147483648 := by
    have := Int32.toInt_lt j
    unfold Int32.toNatClampNeg
    omega
  refine W.anew hx hb hown (hts _ hw) (va_AO.use hover) rfl hdg rfl hj hbytes hcells hslots fun cA kA comp f1 f2 f3 f4 => ?_
  have hcA : dA t = cA := by
    obtain ⟨-, -, -, -, -, h9⟩ := (hK.2 t _ ht).2
    exact Option.some.inj (h9.symm.trans f1)
  subst hcA
  generalize hH1 : H.push ({ cls := dA t, slots := Array.replicate j.toNatClampNeg .null, vm := .none } : Cell) = H1
  have z1 : H1.size = H.size + 1 := by rw [← hH1, Array.size_push]
  have e1 : H1[H.size]? = some (arrV (dA t) j.toNatClampNeg (fun _ => .null)) := by rw [← hH1, Array.getElem?_push_size, ← arrV_new]
  have o1 : ∀ q : Nat, q < H.size → H1[q]? = H[q]? := fun q hq => by rw [← hH1, Array.getElem?_push, if_neg (Nat.ne_of_lt hq)]
  exact kk H.size hR.free hBH H1 ls locs (hR.new (xat_mkarr (hT.2 _ _ ht) ⟨_, ht⟩ h2 e1) o1) hl (xS_new hS z1 o1)
/-- the law's own script -/
theorem xs_sld (C : xCx p s m args c cc nL Ts own D dA cl tA tyf B) {b L : Nat} {xs : Nat → Int32} (hX : va_X b L xs s s.heap) (hb1 : b < s.heap.size) (hb2 : ¬ B ≤ b) {j : Int32} (hj : vp_in j L) (hdg : decode cc pc = .ok (.iaload, 1)) (kk : xSafe p l e R s m args below meth c nL D dA cl tA B Q (pc + 1) lv (.int (xs j.toNatClampNeg) :: st) h k n) : xSafe p l e R s m args below meth c nL D dA cl tA B Q pc lv (.int j :: .ref b :: st) h k n :=
  fun H ls locs hR hl hS => va_sld C.1 C.2.1 hX hb1 hb2 hS hj hdg (kk H ls locs hR hl hS)
theorem xs_slen (C : xCx p s m args c cc nL Ts own D dA cl tA tyf B) {b L : Nat} {xs : Nat → Int32} (hX : va_X b L xs s s.heap) (hb1 : b < s.heap.size) (hb2 : ¬ B ≤ b) (hdg : decode cc pc = .ok (.arraylength, 1)) (kk : xSafe p l e R s m args below meth c nL D dA cl tA B Q (pc + 1) lv (.int (Int32.ofNat L) :: st) h k n) : xSafe p l e R s m args below meth c nL D dA cl tA B Q pc lv (.ref b :: st) h k n :=
  fun H ls locs hR hl hS => va_slen C.1 C.2.1 hX hb1 hb2 hS hdg (kk H ls locs hR hl hS)
theorem xs_objInit (C : xCx p s m args c cc nL Ts own D dA cl tA tyf B) {a idx : Nat} (hw1 : Cond.methodLink own idx Lib.objectInit ∈ Ts) (hw2 : Cond.instanceMethod Lib.objectInit ∈ Ts) (hw3 : Cond.code Lib.objectInit ⟨#[0xb1]⟩ 1 none ∈ Ts) (hfr : 1 ≤ R.frames) (hlo : (st.map fun v => v.category).sum + 12 ≤ R.locals) (hdg : decode cc pc = .ok (.invokespecial idx, 3)) (kk : xSafe p l e R s m args below meth c nL D dA cl tA B Q (pc + 3) lv st h k n) : xSafe p l e R s m args below meth c nL D dA cl tA B Q pc lv (.ref a :: st) h k n := by
  intro H ls locs hR hl hS
  obtain ⟨hx, hb, hml, hown, hts, hK, hT, hB⟩ := C
  refine W.objInit hx hb hown (hts _ hw1) (hts _ hw2) (hts _ hw3) rfl (by rw [hml]; exact hl.1) rfl hdg hfr ?_ (kk H ls locs hR hl hS)
  show 2 * 0 + _ + 12 ≤ _
  omega
end XHp
