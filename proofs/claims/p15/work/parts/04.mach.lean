/-! ===== the pure machine: a heap is a function from addresses to cells ===== -/
/-- a cell: its kind (below 1000: an object, by the number of its class; from 1000 on an array, by tA), how many places it has, what they hold -/
abbrev xC : Type := Nat × Nat × (Nat → Value)
abbrev xH : Type := Nat → Option xC
def xput (h : xH) (a : Nat) (c : xC) : xH := fun q => if q = a then some c else h q
def xAt (D : va_G) (dA : Nat → ClassId) (cl : List vw_C) (tA : List (Nat × FieldType)) (a : Nat) (c : xC) (H : Heap) : Prop :=
  if c.1 < 1000 then ∃ r : vw_C, cl[c.1]? = some r ∧ c.2.1 = r.2.2 ∧ t_OB a (D.1 c.1) r.2.2 (D.2 c.1) H c.2.2
  else (∃ ty, (c.1, ty) ∈ tA) ∧ c.2.1 < 2147483648 ∧ H[a]? = some (arrV (dA c.1) c.2.1 c.2.2)
def xRel (D : va_G) (dA : Nat → ClassId) (cl : List vw_C) (tA : List (Nat × FieldType)) (h : xH) (H : Heap) : Prop := ∀ (a : Nat) (c : xC), h a = some c → xAt D dA cl tA a c H
def xK (D : va_G) (dA : Nat → ClassId) (cl : List vw_C) (tA : List (Nat × FieldType)) (U : State) : Prop :=
  (∀ (ci : Nat) (r : vw_C), cl[ci]? = some r → u_Kn U r.1 r.2.1 r.2.2 (D.1 ci) (D.2 ci)) ∧ ∀ (t : Nat) (ty : FieldType), (t, ty) ∈ tA → ArrOfT U (dA t) ty ∧ va_RA U (dA t) ty
def xTab (cl : List vw_C) (tA : List (Nat × FieldType)) (tyf : Nat → Nat → FieldType) (Ts : List Cond) : Prop :=
  (∀ (ci : Nat) (r : vw_C), cl[ci]? = some r → ci < 1000 ∧ (∀ w ∈ u_ws r.1 r.2.1 r.2.2, w ∈ Ts) ∧ (∀ k, k < r.2.2 → parseFieldDescriptor (r.2.1 k).2.2.1 = some (tyf ci k)) ∧ (∀ a, a < r.2.2 → ∀ b, b < r.2.2 → a ≠ b → (r.2.1 a).2.1 ≠ (r.2.1 b).2.1)) ∧
  ∀ (t : Nat) (ty : FieldType), (t, ty) ∈ tA → 1000 ≤ t
theorem xK.moved {D : va_G} {dA : Nat → ClassId} {cl : List vw_C} {tA : List (Nat × FieldType)} {u U : State} (hvm : u.vm.Alike U.vm) (h : xK D dA cl tA u) : xK D dA cl tA U :=
  ⟨fun ci r hr => u_Kn_moved hvm (h.1 ci r hr), fun t ty ht => ⟨arrOfT_moved hvm (h.2 t ty ht).1, (h.2 t ty ht).2.moved hvm⟩⟩
theorem xAt.kept {D : va_G} {dA : Nat → ClassId} {cl : List vw_C} {tA : List (Nat × FieldType)} {a : Nat} {c : xC} {H H1 : Heap} (h : xAt D dA cl tA a c H) (hq : H1[a]? = H[a]?) : xAt D dA cl tA a c H1 := by
  unfold xAt at h ⊢
  by_cases hc : c.1 < 1000
  · rw [if_pos hc] at h ⊢
    obtain ⟨r, h1, h2, h3⟩ := h
    exact ⟨r, h1, h2, h3.kept hq⟩
  · rw [if_neg hc] at h ⊢
    exact ⟨h.1, h.2.1, by rw [hq]; exact h.2.2⟩
theorem xAt.lt {D : va_G} {dA : Nat → ClassId} {cl : List vw_C} {tA : List (Nat × FieldType)} {a : Nat} {c : xC} {H : Heap} (h : xAt D dA cl tA a c H) : a < H.size := by
  unfold xAt at h
  by_cases hc : c.1 < 1000
  · rw [if_pos hc] at h
    obtain ⟨r, h1, h2, cell, h3, -⟩ := h
    exact (Array.getElem?_eq_some_iff.mp h3).1
  · rw [if_neg hc] at h
    exact (Array.getElem?_eq_some_iff.mp h.2.2).1
theorem xRel.put {D : va_G} {dA : Nat → ClassId} {cl : List vw_C} {tA : List (Nat × FieldType)} {h : xH} {a : Nat} {c : xC} {H H1 : Heap} (hR : xRel D dA cl tA h H) (ha : xAt D dA cl tA a c H1) (hq : ∀ q, q ≠ a → H1[q]? = H[q]?) : xRel D dA cl tA (xput h a c) H1 := by
  intro q d hd
  by_cases e : q = a
  · subst e
    simp only [xput, if_true] at hd
    cases hd
    exact ha
  · simp only [xput, if_neg e] at hd
    exact (hR q d hd).kept (hq q e)
theorem xRel.new {D : va_G} {dA : Nat → ClassId} {cl : List vw_C} {tA : List (Nat × FieldType)} {h : xH} {c : xC} {H H1 : Heap} (hR : xRel D dA cl tA h H) (ha : xAt D dA cl tA H.size c H1) (hq : ∀ q, q < H.size → H1[q]? = H[q]?) : xRel D dA cl tA (xput h H.size c) H1 := by
  intro q d hd
  by_cases e : q = H.size
  · subst e
    simp only [xput, if_true] at hd
    cases hd
    exact ha
  · simp only [xput, if_neg e] at hd
    exact (hR q d hd).kept (hq q (hR q d hd).lt)
theorem xRel.free {D : va_G} {dA : Nat → ClassId} {cl : List vw_C} {tA : List (Nat × FieldType)} {h : xH} {H : Heap} (hR : xRel D dA cl tA h H) : h H.size = none := by
  cases e : h H.size with
  | none => rfl
  | some c => exact absurd (hR _ _ e).lt (Nat.lt_irrefl _)
/-- the machine at pc, with these locals, this stack and this heap, comes to Q -/
def xSafe (p : Program) (l : Launch) (e : Env) (R : Room) (s : State) (m : MethodId) (args : Array Value) (below : List Frame) (meth : Method) (c : Code) (nL : Nat) (D : va_G) (dA : Nat → ClassId) (cl : List vw_C) (tA : List (Nat × FieldType)) (B : Nat) (Q : State → Prop)
    (pc : Nat) (lv : List (Nat × Value)) (st : List Value) (h : xH) (k n : Nat) : Prop :=
  ∀ (H : Heap) (ls : Array Slot) (locs : List Loc), xRel D dA cl tA h H → lv_has ls nL lv → va_S (fun q => B ≤ q) s.heap H locs → W p l e R s m args below meth c H locs k n Q (F0 m pc ls st)
/-- what stands fast in a method's body -/
def xCx (p : Program) (s : State) (m : MethodId) (args : Array Value) (c : Code) (cc : ByteArray) (nL : Nat) (Ts : List Cond) (own : String) (D : va_G) (dA : Nat → ClassId) (cl : List vw_C) (tA : List (Nat × FieldType)) (tyf : Nat → Nat → FieldType) (B : Nat) : Prop :=
  p.tables.exec = Jvm.exec ∧ c.code = cc ∧ c.maxLocals = nL ∧ s.vm.findClass own = some m.cls ∧ (∀ w ∈ Ts, w.before args s = true) ∧ xK D dA cl tA s ∧ xTab cl tA tyf Ts ∧ B ≤ s.heap.size
/-! the operations on values alone -/
def xop0 : Instr → Option (Value × Nat)
  | .iconst n => some (.int (Int32.ofInt n), 1)
  | .bipush n => some (.int (Int8.ofInt n).toInt32, 2)
  | .sipush n => some (.int (Int16.ofInt n).toInt32, 3)
  | .lconst n => some (.long (Int64.ofNat (n : Nat)), 1)
  | .aconst_null => some (.null, 1)
  | _ => none
def xop1 : Instr → Value → Option Value
  | .ineg, .int x => some (.int (-x))
  | .lneg, .long x => some (.long (-x))
  | .i2l, .int x => some (.long x.toInt64)
  | .l2i, .long x => some (.int x.toInt32)
  | .i2b, .int x => some (.int x.toInt8.toInt32)
  | _, _ => none
def xop2 : Instr → Value → Value → Option Value
  | .iadd, .int x, .int y => some (.int (x + y))
  | .isub, .int x, .int y => some (.int (x - y))
  | .imul, .int x, .int y => some (.int (x * y))
  | .idiv, .int x, .int y => if y = 0 then none else some (.int (x / y))
  | .irem, .int x, .int y => if y = 0 then none else some (.int (x - x / y * y))
  | .ishl, .int x, .int y => some (.int (x <<< (y &&& 31)))
  | .ishr, .int x, .int y => some (.int (x >>> (y &&& 31)))
  | .iushr, .int x, .int y => some (.int (x.toUInt32 >>> (y.toUInt32 &&& Int32.toUInt32 31)).toInt32)
  | .iand, .int x, .int y => some (.int (x &&& y))
  | .ior, .int x, .int y => some (.int (x ||| y))
  | .ixor, .int x, .int y => some (.int (x ^^^ y))
  | .ladd, .long x, .long y => some (.long (x + y))
  | .lsub, .long x, .long y => some (.long (x - y))
  | .lmul, .long x, .long y => some (.long (x * y))
  | .ldiv, .long x, .long y => if y = 0 then none else some (.long (x / y))
  | .lrem, .long x, .long y => if y = 0 then none else some (.long (x - x / y * y))
  | .lshl, .long x, .int y => some (.long (x <<< (y.toInt64 &&& 63)))
  | .lshr, .long x, .int y => some (.long (x >>> (y.toInt64 &&& 63)))
  | .lushr, .long x, .int y => some (.long (x.toUInt64 >>> (y.toInt64.toUInt64 &&& Int64.toUInt64 63)).toInt64)
  | .land, .long x, .long y => some (.long (x &&& y))
  | .lor, .long x, .long y => some (.long (x ||| y))
  | .lxor, .long x, .long y => some (.long (x ^^^ y))
  | .lcmp, .long x, .long y => some (.int (lg_cmp x y))
  | _, _, _ => none
def xstk : Instr → List Value → Option (List Value)
  | .pop, a :: r => if a.category = 1 then some r else none
  | .dup, a :: r => if a.category = 1 then some (a :: a :: r) else none
  | .dup_x1, a :: b :: r => if a.category = 1 ∧ b.category = 1 then some (a :: b :: a :: r) else none
  | .dup2, a :: r => if a.category = 2 then some (a :: a :: r) else
      match r with
      | b :: r2 => if a.category = 1 ∧ b.category = 1 then some (a :: b :: a :: b :: r2) else none
      | [] => none
  | _, _ => none
def xldi : Instr → Option (Nat × Nat × Nat)
  | .iload i => some (i, 0, 2)
  | .iload_n k => some ((k : Nat), 0, 1)
  | .lload i => some (i, 1, 2)
  | .lload_n k => some ((k : Nat), 1, 1)
  | .aload i => some (i, 2, 2)
  | .aload_n k => some ((k : Nat), 2, 1)
  | _ => none
def xsti : Instr → Option (Nat × Nat × Nat)
  | .istore i => some (i, 0, 2)
  | .istore_n k => some ((k : Nat), 0, 1)
  | .lstore i => some (i, 1, 2)
  | .lstore_n k => some ((k : Nat), 1, 1)
  | .astore i => some (i, 2, 2)
  | .astore_n k => some ((k : Nat), 2, 1)
  | _ => none
def xsort : Value → Nat
  | .int _ => 0
  | .long _ => 1
  | .null => 2
  | .ref _ => 2
  | _ => 3
def xget (lv : List (Nat × Value)) (i : Nat) : Option Value := (lv.find? (fun q => q.1 == i)).map (fun q => q.2)
def xset (lv : List (Nat × Value)) (i : Nat) (v : Value) : List (Nat × Value) :=
  if v.category = 2 then (i, v) :: lv.filter (fun q => !(q.1 == i) && (!(q.1 == i + 1) && !(q.1 + 1 == i && q.2.category == 2)))
  else (i, v) :: lv.filter (fun q => !(q.1 == i) && !(q.1 + 1 == i && q.2.category == 2))
def xcmp : ClassFile.Cond → Int32 → Int32 → Bool
  | .eq, x, y => decide (x = y)
  | .ne, x, y => decide (¬ x = y)
  | .lt, x, y => decide (x < y)
  | .ge, x, y => decide (y ≤ x)
  | .gt, x, y => decide (y < x)
  | .le, x, y => decide (x ≤ y)
theorem xget_at {ls : Array Slot} {nL : Nat} {lv : List (Nat × Value)} {i : Nat} {v : Value} (h : lv_has ls nL lv) (hg : xget lv i = some v) : ls[i]? = some (.val v) := by
  unfold xget at hg
  cases e : lv.find? (fun q => q.1 == i) with
  | none => rw [e] at hg; cases hg
  | some q =>
    rw [e] at hg
    cases hg
    have h1 := List.mem_of_find?_eq_some e
    have h2 : (q.1 == i) = true := by simpa using List.find?_some e
    have h3 : q.1 = i := by simpa using h2
    have h4 := h.2.2 q h1
    rw [h3] at h4
    exact h4
section XR
variable {p : Program} {l : Launch} {e : Env} {R : Room} {s : State} {m : MethodId} {args : Array Value} {below : List Frame} {meth : Method} {c : Code} {Q : State → Prop}
variable {cc : ByteArray} {nL : Nat} {Ts : List Cond} {own : String} {D : va_G} {dA : Nat → ClassId} {cl : List vw_C} {tA : List (Nat × FieldType)} {tyf : Nat → Nat → FieldType} {B : Nat}
variable {pc : Nat} {lv : List (Nat × Value)} {st : List Value} {h : xH} {k n : Nat} {i : Instr}
theorem xs_op0 (C : xCx p s m args c cc nL Ts own D dA cl tA tyf B) {v : Value} {len : Nat} (hx : xop0 i = some (v, len)) (hdg : decode cc pc = .ok (i, len)) (kk : xSafe p l e R s m args below meth c nL D dA cl tA B Q (pc + len) lv (v :: st) h k n) : xSafe p l e R s m args below meth c nL D dA cl tA B Q pc lv st h k n := by
  intro H ls locs hR hl hS
  have kk := kk H ls locs hR hl hS
  have hb := C.2.1
  have hx0 := C.1
  unfold xop0 at hx
  split at hx
  · cases hx; exact lv_iconst hx0 hb hdg rfl kk
  · cases hx; exact lv_bipush hx0 hb hdg rfl kk
  · cases hx; exact lv_sipush hx0 hb hdg rfl kk
  · cases hx; exact lv_lconst hx0 hb hdg rfl kk
  · cases hx; exact lv_null hx0 hb hdg kk
  · cases hx
theorem xs_op1 (C : xCx p s m args c cc nL Ts own D dA cl tA tyf B) {a v : Value} (hx : xop1 i a = some v) (hdg : decode cc pc = .ok (i, 1)) (kk : xSafe p l e R s m args below meth c nL D dA cl tA B Q (pc + 1) lv (v :: st) h k n) : xSafe p l e R s m args below meth c nL D dA cl tA B Q pc lv (a :: st) h k n := by
  intro H ls locs hR hl hS
  have kk := kk H ls locs hR hl hS
  have hb := C.2.1
  have hx0 := C.1
  unfold xop1 at hx
  split at hx
  · cases hx; exact lv_ineg hx0 hb hdg kk
  · cases hx; exact lv_lneg hx0 hb hdg kk
  · cases hx; exact lv_i2l hx0 hb hdg rfl kk
  · cases hx; exact lv_l2i hx0 hb hdg rfl kk
  · cases hx; exact lv_i2b hx0 hb hdg rfl kk
  · cases hx
theorem xs_op2 (C : xCx p s m args c cc nL Ts own D dA cl tA tyf B) {a b v : Value} (hx : xop2 i a b = some v) (hdg : decode cc pc = .ok (i, 1)) (kk : xSafe p l e R s m args below meth c nL D dA cl tA B Q (pc + 1) lv (v :: st) h k n) : xSafe p l e R s m args below meth c nL D dA cl tA B Q pc lv (b :: a :: st) h k n := by
  intro H ls locs hR hl hS
  have kk := kk H ls locs hR hl hS
  have hb := C.2.1
  have hx0 := C.1
  unfold xop2 at hx
  split at hx
  · cases hx; exact lv_iadd hx0 hb hdg kk
  · cases hx; exact lv_isub hx0 hb hdg kk
  · cases hx; exact lv_imul hx0 hb hdg kk
  · split at hx
    · cases hx
    · rename_i hne; cases hx; exact lv_idiv hx0 hb hdg hne kk
  · split at hx
    · cases hx
    · rename_i hne; cases hx; exact lv_irem hx0 hb hdg hne kk
  · cases hx; exact lv_ishl hx0 hb hdg kk
  · cases hx; exact lv_ishr hx0 hb hdg kk
  · cases hx; exact lv_iushr hx0 hb hdg rfl kk
  · cases hx; exact lv_iand hx0 hb hdg kk
  · cases hx; exact lv_ior hx0 hb hdg kk
  · cases hx; exact lv_ixor hx0 hb hdg kk
  · cases hx; exact lv_ladd hx0 hb hdg kk
  · cases hx; exact lv_lsub hx0 hb hdg kk
  · cases hx; exact lv_lmul hx0 hb hdg kk
  · split at hx
    · cases hx
    · rename_i hne; cases hx; exact lv_ldiv hx0 hb hdg hne kk
  · split at hx
    · cases hx
    · rename_i hne; cases hx; exact lv_lrem hx0 hb hdg hne kk
  · cases hx; exact lv_lshl hx0 hb hdg rfl kk
  · cases hx; exact lv_lshr hx0 hb hdg rfl kk
  · cases hx; exact lv_lushr hx0 hb hdg rfl kk
  · cases hx; exact lv_land hx0 hb hdg kk
  · cases hx; exact lv_lor hx0 hb hdg kk
  · cases hx; exact lv_lxor hx0 hb hdg kk
  · cases hx; exact W.lcmp hx0 hb hdg kk
  · cases hx
theorem xs_stk (C : xCx p s m args c cc nL Ts own D dA cl tA tyf B) {st2 : List Value} (hx : xstk i st = some st2) (hdg : decode cc pc = .ok (i, 1)) (kk : xSafe p l e R s m args below meth c nL D dA cl tA B Q (pc + 1) lv st2 h k n) : xSafe p l e R s m args below meth c nL D dA cl tA B Q pc lv st h k n := by
  intro H ls locs hR hl hS
  have kk := kk H ls locs hR hl hS
  have hb := C.2.1
  have hx0 := C.1
  unfold xstk at hx
  split at hx
  · split at hx
    · rename_i hc; cases hx; exact lv_pop hx0 hb hdg hc kk
    · cases hx
  · split at hx
    · rename_i hc; cases hx; exact lv_dup hx0 hb hdg hc kk
    · cases hx
  · split at hx
    · rename_i hc; cases hx; exact lv_dup_x1 hx0 hb hdg hc.1 hc.2 kk
    · cases hx
  · split at hx
    · rename_i hc; cases hx; exact lv_dup2_2 hx0 hb hdg hc kk
    · split at hx
      · split at hx
        · rename_i hc; cases hx; exact lv_dup2_11 hx0 hb hdg hc.1 hc.2 kk
        · cases hx
      · cases hx
  · cases hx
theorem xs_ld (C : xCx p s m args c cc nL Ts own D dA cl tA tyf B) {ix so len : Nat} {v : Value} (hx : xldi i = some (ix, so, len)) (hv : xget lv ix = some v) (hso : xsort v = so) (hdg : decode cc pc = .ok (i, len)) (kk : xSafe p l e R s m args below meth c nL D dA cl tA B Q (pc + len) lv (v :: st) h k n) : xSafe p l e R s m args below meth c nL D dA cl tA B Q pc lv st h k n := by
  intro H ls locs hR hl hS
  have kk := kk H ls locs hR hl hS
  have hb := C.2.1
  have hx0 := C.1
  have hg := xget_at hl hv
  unfold xldi at hx
  split at hx <;> cases hx
  · cases v <;> simp only [xsort] at hso <;> first | exact lv_iload hx0 hb hdg hg kk | (exact absurd hso (by decide))
  · cases v <;> simp only [xsort] at hso <;> first | exact lv_iload_n hx0 hb hdg rfl hg kk | (exact absurd hso (by decide))
  · cases v <;> simp only [xsort] at hso <;> first | exact lv_lload hx0 hb hdg hg kk | (exact absurd hso (by decide))
  · cases v <;> simp only [xsort] at hso <;> first | exact lv_lload_n hx0 hb hdg rfl hg kk | (exact absurd hso (by decide))
  · cases v <;> simp only [xsort] at hso <;> first | exact lv_aload hx0 hb hdg hg kk | exact lv_aloadN hx0 hb hdg hg kk | (exact absurd hso (by decide))
  · cases v <;> simp only [xsort] at hso <;> first | exact lv_aload_n hx0 hb hdg rfl hg kk | exact lv_aload_nN hx0 hb hdg rfl hg kk | (exact absurd hso (by decide))
theorem xs_st (C : xCx p s m args c cc nL Ts own D dA cl tA tyf B) {ix so len : Nat} {v : Value} (hx : xsti i = some (ix, so, len)) (hso : xsort v = so) (hn : ix + v.category ≤ nL) (hdg : decode cc pc = .ok (i, len)) (kk : xSafe p l e R s m args below meth c nL D dA cl tA B Q (pc + len) (xset lv ix v) st h k n) : xSafe p l e R s m args below meth c nL D dA cl tA B Q pc lv (v :: st) h k n := by
  intro H ls locs hR hl hS
  have kk := fun ls2 hl2 => kk H ls2 locs hR hl2 hS
  have hb := C.2.1
  have hx0 := C.1
  unfold xsti at hx
  split at hx <;> cases hx
  · cases v <;> simp only [xsort] at hso <;> first | exact lv_istore hx0 hb hdg hl (show _ < nL from hn) rfl kk | (exact absurd hso (by decide))
  · cases v <;> simp only [xsort] at hso <;> first | exact lv_istore_n hx0 hb hdg rfl hl (show _ < nL from hn) rfl kk | (exact absurd hso (by decide))
  · cases v <;> simp only [xsort] at hso <;> first | exact lv_lstore hx0 hb hdg hl (show _ < nL from hn) rfl kk | (exact absurd hso (by decide))
  · cases v <;> simp only [xsort] at hso <;> first | exact lv_lstore_n hx0 hb hdg rfl hl (show _ < nL from hn) rfl kk | (exact absurd hso (by decide))
  · cases v <;> simp only [xsort] at hso <;> first | exact lv_astore hx0 hb hdg hl (show _ < nL from hn) rfl kk | exact lv_astoreN hx0 hb hdg hl (show _ < nL from hn) rfl kk | (exact absurd hso (by decide))
  · cases v <;> simp only [xsort] at hso <;> first | exact lv_astore_n hx0 hb hdg rfl hl (show _ < nL from hn) rfl kk | exact lv_astore_nN hx0 hb hdg rfl hl (show _ < nL from hn) rfl kk | (exact absurd hso (by decide))
theorem xs_iinc (C : xCx p s m args c cc nL Ts own D dA cl tA tyf B) {ix : Nat} {z : Int} {x : Int32} (hv : xget lv ix = some (.int x)) (hn : ix < nL) (hdg : decode cc pc = .ok (.iinc ix z, 3)) (kk : xSafe p l e R s m args below meth c nL D dA cl tA B Q (pc + 3) (xset lv ix (.int (x + Int32.ofInt z))) st h k n) : xSafe p l e R s m args below meth c nL D dA cl tA B Q pc lv st h k n := by
  intro H ls locs hR hl hS
  have kk := fun ls2 hl2 => kk H ls2 locs hR hl2 hS
  have hm : (ix, Value.int x) ∈ lv := by
    unfold xget at hv
    cases e : lv.find? (fun q => q.1 == ix) with
    | none => rw [e] at hv; cases hv
    | some q =>
      rw [e] at hv
      have h1 := List.mem_of_find?_eq_some e
      have h2 : (q.1 == ix) = true := by simpa using List.find?_some e
      have h3 : q.1 = ix := by simpa using h2
      have h4 : q.2 = .int x := by simpa using hv
      have h5 : q = (ix, Value.int x) := Prod.ext h3 h4
      rw [h5] at h1
      exact h1
  obtain ⟨j, hj⟩ := List.getElem?_of_mem hm
  exact lv_iinc C.1 C.2.1 hdg hl hj rfl hn rfl kk
theorem xs_goto (C : xCx p s m args c cc nL Ts own D dA cl tA tyf B) {off : Int} {tgt : Nat} (ht : (pc : Int) + off = (tgt : Int)) (hdg : decode cc pc = .ok (.goto off, 3)) (kk : xSafe p l e R s m args below meth c nL D dA cl tA B Q tgt lv st h k n) : xSafe p l e R s m args below meth c nL D dA cl tA B Q pc lv st h k n :=
  fun H ls locs hR hl hS => lv_goto C.1 C.2.1 hdg ht (kk H ls locs hR hl hS)
theorem xs_if (C : xCx p s m args c cc nL Ts own D dA cl tA tyf B) {cd : ClassFile.Cond} {off : Int} {tgt : Nat} {x : Int32} (ht : (pc : Int) + off = (tgt : Int)) (hdg : decode cc pc = .ok (.ifCond cd off, 3)) (kt : xcmp cd x 0 = true → xSafe p l e R s m args below meth c nL D dA cl tA B Q tgt lv st h k n) (kf : xcmp cd x 0 = false → xSafe p l e R s m args below meth c nL D dA cl tA B Q (pc + 3) lv st h k n) : xSafe p l e R s m args below meth c nL D dA cl tA B Q pc lv (.int x :: st) h k n := by
  intro H ls locs hR hl hS
  have kt := fun q => kt q H ls locs hR hl hS
  have kf := fun q => kf q H ls locs hR hl hS
  cases cd
  all_goals
    simp only [xcmp, decide_eq_true_eq, decide_eq_false_iff_not, Classical.not_not] at kt kf
    first
    | exact lv_if_eq C.1 C.2.1 hdg ht kt kf
    | exact lv_if_ne C.1 C.2.1 hdg ht kt kf
    | exact lv_if_lt C.1 C.2.1 hdg ht kt kf
    | exact lv_if_ge C.1 C.2.1 hdg ht kt kf
    | exact lv_if_gt C.1 C.2.1 hdg ht kt kf
    | exact lv_if_le C.1 C.2.1 hdg ht kt kf
theorem xs_icmp (C : xCx p s m args c cc nL Ts own D dA cl tA tyf B) {cd : ClassFile.Cond} {off : Int} {tgt : Nat} {x y : Int32} (ht : (pc : Int) + off = (tgt : Int)) (hdg : decode cc pc = .ok (.if_icmp cd off, 3)) (kt : xcmp cd x y = true → xSafe p l e R s m args below meth c nL D dA cl tA B Q tgt lv st h k n) (kf : xcmp cd x y = false → xSafe p l e R s m args below meth c nL D dA cl tA B Q (pc + 3) lv st h k n) : xSafe p l e R s m args below meth c nL D dA cl tA B Q pc lv (.int y :: .int x :: st) h k n := by
  intro H ls locs hR hl hS
  have kt := fun q => kt q H ls locs hR hl hS
  have kf := fun q => kf q H ls locs hR hl hS
  cases cd
  all_goals
    simp only [xcmp, decide_eq_true_eq, decide_eq_false_iff_not, Classical.not_not] at kt kf
    first
    | exact lv_icmp_eq C.1 C.2.1 hdg ht kt kf
    | exact lv_icmp_ne C.1 C.2.1 hdg ht kt kf
    | exact lv_icmp_lt C.1 C.2.1 hdg ht kt kf
    | exact lv_icmp_ge C.1 C.2.1 hdg ht kt kf
    | exact lv_icmp_gt C.1 C.2.1 hdg ht kt kf
    | exact lv_icmp_le C.1 C.2.1 hdg ht kt kf
theorem xs_null (C : xCx p s m args c cc nL Ts own D dA cl tA tyf B) {off : Int} {tgt : Nat} {v : Value} (hv : xsort v = 2) (ht : (pc : Int) + off = (tgt : Int)) (hdg : decode cc pc = .ok (.ifnull off, 3)) (kt : v = .null → xSafe p l e R s m args below meth c nL D dA cl tA B Q tgt lv st h k n) (kf : ¬ v = .null → xSafe p l e R s m args below meth c nL D dA cl tA B Q (pc + 3) lv st h k n) : xSafe p l e R s m args below meth c nL D dA cl tA B Q pc lv (v :: st) h k n := by
  intro H ls locs hR hl hS
  cases v <;> simp only [xsort] at hv <;> first | (exact absurd hv (by decide)) | skip
  · exact lv_ifnullN C.1 C.2.1 hdg ht (kt rfl H ls locs hR hl hS)
  · exact lv_ifnull C.1 C.2.1 hdg (kf (fun q => by cases q) H ls locs hR hl hS)
theorem xs_nonnull (C : xCx p s m args c cc nL Ts own D dA cl tA tyf B) {off : Int} {tgt : Nat} {v : Value} (hv : xsort v = 2) (ht : (pc : Int) + off = (tgt : Int)) (hdg : decode cc pc = .ok (.ifnonnull off, 3)) (kt : ¬ v = .null → xSafe p l e R s m args below meth c nL D dA cl tA B Q tgt lv st h k n) (kf : v = .null → xSafe p l e R s m args below meth c nL D dA cl tA B Q (pc + 3) lv st h k n) : xSafe p l e R s m args below meth c nL D dA cl tA B Q pc lv (v :: st) h k n := by
  intro H ls locs hR hl hS
  cases v <;> simp only [xsort] at hv <;> first | (exact absurd hv (by decide)) | skip
  · exact lv_ifnonnullN C.1 C.2.1 hdg (kf rfl H ls locs hR hl hS)
  · exact lv_ifnonnull C.1 C.2.1 hdg ht (kt (fun q => by cases q) H ls locs hR hl hS)
theorem xs_tab (C : xCx p s m args c cc nL Ts own D dA cl tA tyf B) {dflt lo hi : Int} {offs : Array Int} {len tgt : Nat} {x : Int32} (hdg : decode cc pc = .ok (.tableswitch dflt lo hi offs, len)) (kk : ∀ off : Int, (if x.toInt < lo ∨ hi < x.toInt then off = dflt else offs[(x.toInt - lo).toNat]? = some off) → (pc : Int) + off = (tgt : Int) ∧ xSafe p l e R s m args below meth c nL D dA cl tA B Q tgt lv st h k n)
    (hin : ¬ (x.toInt < lo ∨ hi < x.toInt) → ∃ off, offs[(x.toInt - lo).toNat]? = some off) : xSafe p l e R s m args below meth c nL D dA cl tA B Q pc lv (.int x :: st) h k n := by
  intro H ls locs hR hl hS
  by_cases ho : x.toInt < lo ∨ hi < x.toInt
  · obtain ⟨ht, k1⟩ := kk dflt (by rw [if_pos ho])
    exact lv_tableOut C.1 C.2.1 hdg ho ht (k1 H ls locs hR hl hS)
  · obtain ⟨off, he⟩ := hin ho
    obtain ⟨ht, k1⟩ := kk off (by rw [if_neg ho]; exact he)
    exact lv_tableIn C.1 C.2.1 hdg (fun q => ho (Or.inl q)) (fun q => ho (Or.inr q)) he ht (k1 H ls locs hR hl hS)
theorem xs_ldc (C : xCx p s m args c cc nL Ts own D dA cl tA tyf B) {ix : Nat} {v : Int32} (hw : Cond.constant own ix v ∈ Ts) (hdg : decode cc pc = .ok (.ldc ix, 2)) (kk : xSafe p l e R s m args below meth c nL D dA cl tA B Q (pc + 2) lv (.int v :: st) h k n) : xSafe p l e R s m args below meth c nL D dA cl tA B Q pc lv st h k n :=
  fun H ls locs hR hl hS => lv_ldc C.1 C.2.1 C.2.2.2.1 (C.2.2.2.2.1 _ hw) hdg (kk H ls locs hR hl hS)
theorem xs_ldcw (C : xCx p s m args c cc nL Ts own D dA cl tA tyf B) {ix : Nat} {v : Int32} (hw : Cond.constant own ix v ∈ Ts) (hdg : decode cc pc = .ok (.ldc_w ix, 3)) (kk : xSafe p l e R s m args below meth c nL D dA cl tA B Q (pc + 3) lv (.int v :: st) h k n) : xSafe p l e R s m args below meth c nL D dA cl tA B Q pc lv st h k n :=
  fun H ls locs hR hl hS => lv_ldcw C.1 C.2.1 C.2.2.2.1 (C.2.2.2.2.1 _ hw) hdg (kk H ls locs hR hl hS)
theorem xs_ldc2 (C : xCx p s m args c cc nL Ts own D dA cl tA tyf B) {ix : Nat} {v : Int64} (hw : Cond.constantLong own ix v ∈ Ts) (hdg : decode cc pc = .ok (.ldc2_w ix, 3)) (kk : xSafe p l e R s m args below meth c nL D dA cl tA B Q (pc + 3) lv (.long v :: st) h k n) : xSafe p l e R s m args below meth c nL D dA cl tA B Q pc lv st h k n :=
  fun H ls locs hR hl hS => lv_ldc2 C.1 C.2.1 C.2.2.2.1 (C.2.2.2.2.1 _ hw) hdg (kk H ls locs hR hl hS)
end XR
