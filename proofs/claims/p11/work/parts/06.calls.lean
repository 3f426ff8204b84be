/-! ===== contracts over the pure machine ===== -/
def xNw : Cond → Bool
  | .methodLinkNest .. => true
  | .declares _ => true
  | .castable .. => true
  | _ => false
theorem xNw_tab {w : Cond} (h : xNw w = true) : w.onTables = true := by
  cases w <;> first | rfl | (simp [xNw] at h)
theorem xNw_warm {w : Cond} {s U : State} (h : xNw w = true) (hW : s.WarmedH U.vm) (hZ : va_Nw w s) : va_Nw w U := by
  cases w <;> first | (simp [xNw] at h; done) | exact va_Nw.warmM hW hZ | exact va_Nw.warmD hW hZ | exact va_Nw.warmC hW hZ
/-- what every method takes as given of the tables and of Throwable's statics -/
def xEnv (D : va_G) (dA : Nat → ClassId) (cl : List vw_C) (tA : List (Nat × FieldType)) (B : Nat) (nw : List Cond) (nc : List (String × String)) (ao : List String) (U : State) : Prop :=
  xK D dA cl tA U ∧ B ≤ U.heap.size ∧ (∀ w ∈ nw, xNw w = true ∧ va_Nw w U) ∧ (∀ q ∈ nc, va_Nc q.1 q.2 U) ∧ (∀ E ∈ ao, va_AO E U) ∧
  vx_Zq Bundle.tN "UNASSIGNED_STACK" Bundle.steD (fun q => B ≤ q) U U.heap ∧ vx_Zq Bundle.tN "SUPPRESSED_SENTINEL" Bundle.listD (fun q => B ≤ q) U U.heap
theorem xEnv.to {D : va_G} {dA : Nat → ClassId} {cl : List vw_C} {tA : List (Nat × FieldType)} {B : Nat} {nw : List Cond} {nc : List (String × String)} {ao : List String} {s U : State} {locs : List Loc} (h : xEnv D dA cl tA B nw nc ao s) (hW : s.WarmedH U.vm) (hS : va_S (fun q => B ≤ q) s.heap U.heap locs) : xEnv D dA cl tA B nw nc ao U := by
  obtain ⟨h1, h2, h3, h4, h5, h6, h7⟩ := h
  exact ⟨h1.moved hW.alike, Nat.le_trans h2 hS.1, fun w hw => ⟨(h3 w hw).1, xNw_warm (h3 w hw).1 hW (h3 w hw).2⟩, fun q hq => (h4 q hq).moved hW.alike, fun E hE => va_AO.moved hW.alike (h5 E hE), (h6.moved hW.alike).kept hS.2.1, (h7.moved hW.alike).kept hS.2.1⟩
def xPc (D : va_G) (dA : Nat → ClassId) (cl : List vw_C) (tA : List (Nat × FieldType)) (B : Nat) (nw : List Cond) (nc : List (String × String)) (ao : List String) (av : List Value) (h : xH) : Array Value → State → Prop := fun a U => a = av.toArray ∧ xEnv D dA cl tA B nw nc ao U ∧ xRel D dA cl tA h U.heap
def xQc (D : va_G) (dA : Nat → ClassId) (cl : List vw_C) (tA : List (Nat × FieldType)) (B : Nat) (Qf : Option Value → xH → Prop) : Array Value → State → Outcome → State → Prop := fun _ st o t => ∃ (v : Option Value) (h1 : xH), o = .returned v ∧ Qf v h1 ∧ xRel D dA cl tA h1 t.heap ∧ va_F (fun q => B ≤ q) st t
def xXc (D : va_G) (dA : Nat → ClassId) (cl : List vw_C) (tA : List (Nat × FieldType)) (B : Nat) (Xf : String → xH → Prop) : String → State → State → Prop := fun E st t => ∃ h1 : xH, Xf E h1 ∧ xRel D dA cl tA h1 t.heap ∧ va_F (fun q => B ≤ q) st t
def xMet (D : va_G) (dA : Nat → ClassId) (cl : List vw_C) (tA : List (Nat × FieldType)) (B : Nat) (nw : List Cond) (nc : List (String × String)) (ao : List String) (W0 : List Cond) (l : Launch) (y : MethodName) (cw : Cond) (rm : Room) (av : List Value) (h : xH) (Qf : Option Value → xH → Prop) (Xf : String → xH → Prop) : Prop :=
  vx_Met l y (cw :: W0) rm (xPc D dA cl tA B nw nc ao av h) (xQc D dA cl tA B Qf) (xXc D dA cl tA B Xf) rm.cells rm.slots (fun q => B ≤ q)
/-- q is thrown over the frame at pc -/
def xThr (p : Program) (l : Launch) (e : Env) (R : Room) (s : State) (m : MethodId) (args : Array Value) (below : List Frame) (meth : Method) (c : Code) (nL : Nat) (D : va_G) (dA : Nat → ClassId) (cl : List vw_C) (tA : List (Nat × FieldType)) (B : Nat) (Q : State → Prop)
    (pc : Nat) (lv : List (Nat × Value)) (st : List Value) (E : String) (h : xH) (k n : Nat) : Prop :=
  ∀ (H : Heap) (ls : Array Slot) (locs : List Loc) (q : Addr) (ce : Cell), xRel D dA cl tA h H → lv_has ls nL lv → va_S (fun q => B ≤ q) s.heap H locs → H[q]? = some ce → ce.vm = .none → s.vm.findClass E = some ce.cls → vx_W p l e R s m args below meth c H locs k n Q (F0 m pc ls st) q
theorem xPc_blind {D : va_G} {dA : Nat → ClassId} {cl : List vw_C} {tA : List (Nat × FieldType)} {B : Nat} {nw : List Cond} {nc : List (String × String)} {ao : List String} {av : List Value} {h : xH} : FrameBlind (xPc D dA cl tA B nw nc ao av h) := by
  intro a U g mk hp
  exact ⟨hp.1, hp.2.1.to (U := U.calling g mk a) (locs := []) (State.WarmedH.refl U) va_S.rf, hp.2.2⟩
theorem xMet.met {D : va_G} {dA : Nat → ClassId} {cl : List vw_C} {tA : List (Nat × FieldType)} {B : Nat} {nw : List Cond} {nc : List (String × String)} {ao : List String} {W0 : List Cond} {l : Launch} {y : MethodName} {cw : Cond} {rm : Room} {av : List Value} {h : xH} {Qf : Option Value → xH → Prop} (hM : xMet D dA cl tA B nw nc ao W0 l y cw rm av h Qf (fun _ _ => False)) :
    Met l y (cw :: W0) rm (xPc D dA cl tA B nw nc ao av h) (xQc D dA cl tA B Qf) rm.cells rm.slots (fun q => B ≤ q) := by
  intro p e h1 h2 h3 s m args below h4 h5 h6 h7
  obtain ⟨n, o, g1, g2, g3, g4⟩ := hM p e h1 h2 h3 s m args below h4 h5 h6 h7
  refine ⟨n, o, g1, g2, g3, ?_⟩
  rcases g4 with g4 | ⟨q, -, E, ce, L, ⟨h9, hf, -⟩, -⟩
  · exact g4
  · exact hf.elim
section XCl
variable {p : Program} {l : Launch} {e : Env} {R : Room} {s : State} {m : MethodId} {args : Array Value} {below : List Frame} {meth : Method} {c : Code} {Q : State → Prop}
variable {cc : ByteArray} {nL : Nat} {Ts : List Cond} {own : String} {D : va_G} {dA : Nat → ClassId} {cl : List vw_C} {tA : List (Nat × FieldType)} {tyf : Nat → Nat → FieldType} {B : Nat} {nw : List Cond} {nc : List (String × String)} {ao : List String} {W0 : List Cond}
variable {pc : Nat} {lv : List (Nat × Value)} {st : List Value} {h : xH} {k n : Nat} {i : Instr}
variable {y : MethodName} {bytes : ByteArray} {maxL idx ci N np : Nat} {ret : Option FieldType} {rm : Room} {As : List Value} {b : Nat} {V : Nat → Value} {r : vw_C} {Qf : Option Value → xH → Prop} {Xf : String → xH → Prop}
theorem xS_join {H H1 : Heap} {locs L : List Loc} {st0 t : State} (hS : va_S (fun q => B ≤ q) s.heap H locs) (h0 : st0.heap = H) (hF : va_F (fun q => B ≤ q) st0 t) (ht : H1 = t.heap) (hL : ∀ q ∈ L, B ≤ q.base) : va_S (fun q => B ≤ q) s.heap H1 (locs ++ L) := by
  subst ht
  subst h0
  exact ⟨Nat.le_trans hS.1 hF.1, fun q h1 h2 => by rw [hF.2 q (Nat.lt_of_lt_of_le h1 hS.1) h2]; exact hS.2.1 q h1 h2, fun q hq => (List.mem_append.mp hq).elim (hS.2.2 q) (hL q)⟩
/-- what a call's room must be -/
abbrev xRm (R : Room) (k n : Nat) (rm : Room) (maxL : Nat) : Prop := rm.frames + 1 ≤ R.frames ∧ 8 + (maxL + 11) + rm.locals ≤ R.locals ∧ k + rm.cells ≤ R.cells ∧ n + rm.slots ≤ R.slots
abbrev xNm (y : MethodName) (np : Nat) : Prop := y.cls ≠ "java/lang/invoke/MethodHandle" ∧ y.cls ≠ "java/lang/invoke/VarHandle" ∧ (parseMethodDescriptor y.desc).map (fun d => d.parameters.length) = some np
theorem xs_callV (C : xCx p s m args c cc nL Ts own D dA cl tA tyf B) (hE : xEnv D dA cl tA B nw nc ao s) (hM : xMet D dA cl tA B nw nc ao W0 l y (.code y bytes maxL ret) rm (.ref b :: As) h Qf Xf) (hG : GoodIn Ts (Cond.code y bytes maxL ret :: W0)) (hw1 : Cond.methodLink own idx y ∈ Ts) (hw2 : Cond.instanceMethod y ∈ Ts) (hw3 : Cond.selects y.cls y y ∈ Ts) (hw4 : Cond.initialized y.cls ∈ Ts)
    (hd : xNm y np) (hn : As.length = np) (hr : cl[ci]? = some r) (hry : r.1 = y.cls) (hb : h b = some (ci, N, V)) (hrm : xRm R k n rm maxL) (hst : (st.map fun v => v.category).sum ≤ 8) (hdg : decode cc pc = .ok (.invokevirtual idx, 3))
    (kk : ∀ (v : Option Value) (h1 : xH), Qf v h1 → xSafe p l e R s m args below meth c nL D dA cl tA B Q (pc + 3) lv (v.toList ++ st) h1 (k + rm.cells) (n + rm.slots)) (kx : ∀ (E : String) (h1 : xH), Xf E h1 → xThr p l e R s m args below meth c nL D dA cl tA B Q pc lv st E h1 (k + rm.cells) (n + rm.slots)) : xSafe p l e R s m args below meth c nL D dA cl tA B Q pc lv (As.reverse ++ .ref b :: st) h k n := by
  intro H ls locs hR hl hS T hT X
  obtain ⟨hx, hb0, hml, hown, hts, hK, hTb, hB⟩ := C
  have hci := (hTb.1 ci r hr).1
  obtain ⟨r_q, hr_q, -, cell, q1, q2, q3, -⟩ := xat_obj hci (hR b _ hb)
  cases hr.symm.trans hr_q
  have hcls := (hK.1 ci r hr).2.1
  have hp : PreV s H y.cls b (xPc D dA cl tA B nw nc ao (.ref b :: As) h) As := ⟨xPc_blind, ⟨cell, q1, by rw [q3]; rfl, by rw [← hry, q2]; exact hcls⟩, fun U hU hW => ⟨rfl, hE.to (locs := locs) hW (by rw [hU]; exact hS), by rw [hU]; exact hR⟩⟩
  have cw : CallW R s args own y.cls idx y bytes maxL ret (Cond.code y bytes maxL ret :: W0) rm rm.cells rm.slots np := ⟨callB_of np hts hG rfl rfl rfl (hts _ hw4) (hts _ hw1) hd ⟨hrm.1, hrm.2.1⟩, hts _ hw2, hts _ hw3⟩
  rcases vx_runV (g := F0 m pc ls (As.reverse ++ .ref b :: st)) (rest := st) ⟨hx, hb0, hml, hown, hts⟩ hM cw hp rfl hn hl.1 rfl (lv_room (m := m) (pc := pc) (ls := ls) (rest := st) hst) hdg ⟨hrm.2.2.1, hrm.2.2.2⟩ T hT X with ⟨v, st₀, t, T_q, L, h0, X_q, hL, e1, e2, ⟨v_q, h1, hv, hq, hR1, hF⟩, go⟩ | ⟨q, st₀, t, T_q, L, E, ce, h0, X_q, hL, e1, e2, ⟨h1, hq, hR1, hF⟩, hce, hcv, hcl, go⟩
  · cases hv
    obtain ⟨t2, a1, b1⟩ := kk v h1 hq T_q.heap ls (locs ++ L) (by rw [e1]; exact hR1) hl (xS_join hS h0 hF e1 hL) T_q rfl X_q
    exact ⟨t2, go t2 a1, b1⟩
  · obtain ⟨t2, a1, b1⟩ := kx E h1 hq T_q.heap ls (locs ++ L) q ce (by rw [e1]; exact hR1) hl (xS_join hS h0 hF e1 hL) (by rw [e1]; exact hce) hcv hcl T_q rfl X_q
    exact ⟨t2, go.trans a1, b1⟩
theorem xs_callS (C : xCx p s m args c cc nL Ts own D dA cl tA tyf B) (hE : xEnv D dA cl tA B nw nc ao s) (hM : xMet D dA cl tA B nw nc ao W0 l y (.code y bytes maxL ret) rm As h Qf Xf) (hG : GoodIn Ts (Cond.code y bytes maxL ret :: W0)) (hw1 : Cond.methodLink own idx y ∈ Ts) (hw2 : Cond.static y ∈ Ts) (hw4 : Cond.initialized y.cls ∈ Ts)
    (hd : xNm y np) (hn : As.length = np) (hrm : xRm R k n rm maxL) (hst : (st.map fun v => v.category).sum ≤ 8) (hdg : decode cc pc = .ok (.invokestatic idx, 3))
    (kk : ∀ (v : Option Value) (h1 : xH), Qf v h1 → xSafe p l e R s m args below meth c nL D dA cl tA B Q (pc + 3) lv (v.toList ++ st) h1 (k + rm.cells) (n + rm.slots)) (kx : ∀ (E : String) (h1 : xH), Xf E h1 → xThr p l e R s m args below meth c nL D dA cl tA B Q pc lv st E h1 (k + rm.cells) (n + rm.slots)) : xSafe p l e R s m args below meth c nL D dA cl tA B Q pc lv (As.reverse ++ st) h k n := by
  intro H ls locs hR hl hS T hT X
  obtain ⟨hx, hb0, hml, hown, hts, hK, hTb, hB⟩ := C
  have hp : PreS s H (xPc D dA cl tA B nw nc ao As h) As := ⟨xPc_blind, fun U hU hW => ⟨rfl, hE.to (locs := locs) hW (by rw [hU]; exact hS), by rw [hU]; exact hR⟩⟩
  have cw : CallB R s args own idx y bytes maxL ret (Cond.code y bytes maxL ret :: W0) rm rm.cells rm.slots np ∧ (Cond.static y).before args s = true := ⟨callB_of np hts hG rfl rfl rfl (hts _ hw4) (hts _ hw1) hd ⟨hrm.1, hrm.2.1⟩, hts _ hw2⟩
  rcases vx_runS (g := F0 m pc ls (As.reverse ++ st)) (rest := st) ⟨hx, hb0, hml, hown, hts⟩ hM cw hp rfl hn hl.1 rfl (lv_room (m := m) (pc := pc) (ls := ls) (rest := st) hst) hdg ⟨hrm.2.2.1, hrm.2.2.2⟩ T hT X with ⟨v, st₀, t, T_q, L, h0, X_q, hL, e1, e2, ⟨v_q, h1, hv, hq, hR1, hF⟩, go⟩ | ⟨q, st₀, t, T_q, L, E, ce, h0, X_q, hL, e1, e2, ⟨h1, hq, hR1, hF⟩, hce, hcv, hcl, go⟩
  · cases hv
    obtain ⟨t2, a1, b1⟩ := kk v h1 hq T_q.heap ls (locs ++ L) (by rw [e1]; exact hR1) hl (xS_join hS h0 hF e1 hL) T_q rfl X_q
    exact ⟨t2, go t2 a1, b1⟩
  · obtain ⟨t2, a1, b1⟩ := kx E h1 hq T_q.heap ls (locs ++ L) q ce (by rw [e1]; exact hR1) hl (xS_join hS h0 hF e1 hL) (by rw [e1]; exact hce) hcv hcl T_q rfl X_q
    exact ⟨t2, go.trans a1, b1⟩
theorem xs_callI (C : xCx p s m args c cc nL Ts own D dA cl tA tyf B) (hE : xEnv D dA cl tA B nw nc ao s) (hM : xMet D dA cl tA B nw nc ao W0 l y (.code y bytes maxL none) rm (.ref b :: As) h Qf (fun _ _ => False)) (hG : GoodIn Ts (Cond.code y bytes maxL none :: W0)) (hw1 : Cond.methodLink own idx y ∈ Ts) (hw2 : Cond.instanceMethod y ∈ Ts) (hw4 : Cond.initialized y.cls ∈ Ts) (hy : y.name = "<init>")
    (hd : xNm y np) (hn : As.length = np) (hrm : xRm R k n rm maxL) (hst : (st.map fun v => v.category).sum ≤ 8) (hdg : decode cc pc = .ok (.invokespecial idx, 3))
    (kk : ∀ (v : Option Value) (h1 : xH), Qf v h1 → xSafe p l e R s m args below meth c nL D dA cl tA B Q (pc + 3) lv (v.toList ++ st) h1 (k + rm.cells) (n + rm.slots)) : xSafe p l e R s m args below meth c nL D dA cl tA B Q pc lv (As.reverse ++ .ref b :: st) h k n := by
  intro H ls locs hR hl hS T hT X
  obtain ⟨hx, hb0, hml, hown, hts, hK, hTb, hB⟩ := C
  have hp : PreS s H (xPc D dA cl tA B nw nc ao (.ref b :: As) h) (.ref b :: As) := ⟨xPc_blind, fun U hU hW => ⟨rfl, hE.to (locs := locs) hW (by rw [hU]; exact hS), by rw [hU]; exact hR⟩⟩
  obtain ⟨v, st₀, t, T_q, L, h0, X_q, hL, e1, e2, ⟨v_q, h1, hv, hq, hR1, hF⟩, go⟩ := va_runI (g := F0 m pc ls (As.reverse ++ .ref b :: st)) (rest := st) ⟨hx, hb0, hml, hown, hts⟩ hM.met (cwI np hts hG rfl rfl rfl (hts _ hw4) (hts _ hw1) (hts _ hw2) hy hd ⟨hrm.1, hrm.2.1⟩) hp rfl hn hl.1 rfl (lv_room (m := m) (pc := pc) (ls := ls) (rest := st) hst) hdg ⟨hrm.2.2.1, hrm.2.2.2⟩ T hT X
  cases hv
  obtain ⟨t2, a1, b1⟩ := kk v h1 hq T_q.heap ls (locs ++ L) (by rw [e1]; exact hR1) hl (xS_join hS h0 hF e1 hL) T_q rfl X_q
  exact ⟨t2, go t2 a1, b1⟩
theorem xs_callIN (C : xCx p s m args c cc nL Ts own D dA cl tA tyf B) (hE : xEnv D dA cl tA B nw nc ao s) {host : String} (hM : xMet D dA cl tA B nw nc ao W0 l y (.code y bytes maxL none) rm (.ref b :: As) h Qf (fun _ _ => False)) (hG : GoodIn Ts (Cond.code y bytes maxL none :: W0)) (hw1 : Cond.methodLinkNest own idx y host ∈ nw) (hw2 : Cond.instanceMethod y ∈ Ts) (hw4 : Cond.initialized y.cls ∈ Ts) (hy : y.name = "<init>")
    (hd : xNm y np) (hn : As.length = np) (hrm : xRm R k n rm maxL) (hst : (st.map fun v => v.category).sum ≤ 8) (hdg : decode cc pc = .ok (.invokespecial idx, 3))
    (kk : ∀ (v : Option Value) (h1 : xH), Qf v h1 → xSafe p l e R s m args below meth c nL D dA cl tA B Q (pc + 3) lv (v.toList ++ st) h1 (k + rm.cells) (n + rm.slots)) : xSafe p l e R s m args below meth c nL D dA cl tA B Q pc lv (As.reverse ++ .ref b :: st) h k n := by
  intro H ls locs hR hl hS T hT X
  obtain ⟨hx, hb0, hml, hown, hts, hK, hTb, hB⟩ := C
  have hp : PreS s H (xPc D dA cl tA B nw nc ao (.ref b :: As) h) (.ref b :: As) := ⟨xPc_blind, fun U hU hW => ⟨rfl, hE.to (locs := locs) hW (by rw [hU]; exact hS), by rw [hU]; exact hR⟩⟩
  obtain ⟨v, st₀, t, T_q, L, h0, X_q, hL, e1, e2, ⟨v_q, h1, hv, hq, hR1, hF⟩, go⟩ := va_runIN (g := F0 m pc ls (As.reverse ++ .ref b :: st)) (rest := st) ⟨hx, hb0, hml, hown, hts⟩ hM.met ⟨va_cnB np hts hG rfl rfl rfl (hE.2.2.1 _ hw1).2 (hts _ hw4) hd ⟨hrm.1, hrm.2.1⟩, hy, hts _ hw2⟩ hp rfl hn hl.1 rfl (lv_room (m := m) (pc := pc) (ls := ls) (rest := st) hst) hdg ⟨hrm.2.2.1, hrm.2.2.2⟩ T hT X
  cases hv
  obtain ⟨t2, a1, b1⟩ := kk v h1 hq T_q.heap ls (locs ++ L) (by rw [e1]; exact hR1) hl (xS_join hS h0 hF e1 hL) T_q rfl X_q
  exact ⟨t2, go t2 a1, b1⟩
theorem xs_callSW (C : xCx p s m args c cc nL Ts own D dA cl tA tyf B) (hE : xEnv D dA cl tA B nw nc ao s) {hh : List (Nat × Nat × Nat × Nat)} (hM : xMet D dA cl tA B nw nc ao W0 l y (.codeWith y bytes maxL ret hh) rm As h Qf (fun _ _ => False)) (hG : GoodIn Ts (Cond.codeWith y bytes maxL ret hh :: W0)) (hw1 : Cond.methodLink own idx y ∈ Ts) (hw2 : Cond.static y ∈ Ts) (hw4 : Cond.initialized y.cls ∈ Ts)
    (hd : xNm y np) (hn : As.length = np) (hrm : xRm R k n rm maxL) (hst : (st.map fun v => v.category).sum ≤ 8) (hdg : decode cc pc = .ok (.invokestatic idx, 3))
    (kk : ∀ (v : Option Value) (h1 : xH), Qf v h1 → xSafe p l e R s m args below meth c nL D dA cl tA B Q (pc + 3) lv (v.toList ++ st) h1 (k + rm.cells) (n + rm.slots)) : xSafe p l e R s m args below meth c nL D dA cl tA B Q pc lv (As.reverse ++ st) h k n := by
  intro H ls locs hR hl hS T hT X
  obtain ⟨hx, hb0, hml, hown, hts, hK, hTb, hB⟩ := C
  have hp : PreS s H (xPc D dA cl tA B nw nc ao As h) As := ⟨xPc_blind, fun U hU hW => ⟨rfl, hE.to (locs := locs) hW (by rw [hU]; exact hS), by rw [hU]; exact hR⟩⟩
  have cw : vx_CSW R s args own idx y bytes maxL ret hh (Cond.codeWith y bytes maxL ret hh :: W0) rm rm.cells rm.slots np :=
    ⟨⟨rfl, rfl, hrm.1, hrm.2.1, pay_in hts hG, List.mem_cons_self⟩, hts _ (hG _ List.mem_cons_self).1, hts _ hw4, ⟨hd.1, hd.2.1⟩, fun sig h9 => by
      have h2 := hd.2.2
      rw [h9] at h2
      exact (Option.some.inj h2).symm, hts _ hw1, hts _ hw2⟩
  obtain ⟨v, st₀, t, T_q, L, h0, X_q, hL, e1, e2, ⟨v_q, h1, hv, hq, hR1, hF⟩, go⟩ := vx_runSW (g := F0 m pc ls (As.reverse ++ st)) (rest := st) ⟨hx, hb0, hml, hown, hts⟩ hM.met cw hp rfl hn hl.1 rfl (lv_room (m := m) (pc := pc) (ls := ls) (rest := st) hst) hdg ⟨hrm.2.2.1, hrm.2.2.2⟩ T hT X
  cases hv
  obtain ⟨t2, a1, b1⟩ := kk v h1 hq T_q.heap ls (locs ++ L) (by rw [e1]; exact hR1) hl (xS_join hS h0 hF e1 hL) T_q rfl X_q
  exact ⟨t2, go t2 a1, b1⟩
end XCl
/-! returns and throws: the judgement's end is the contract's own -/
section XRt
variable {p : Program} {l : Launch} {e : Env} {R : Room} {s : State} {m : MethodId} {args : Array Value} {below : List Frame} {meth : Method} {c : Code}
variable {cc : ByteArray} {nL : Nat} {Ts : List Cond} {own : String} {D : va_G} {dA : Nat → ClassId} {cl : List vw_C} {tA : List (Nat × FieldType)} {tyf : Nat → Nat → FieldType} {B : Nat} {nw : List Cond} {nc : List (String × String)} {ao : List String}
variable {pc : Nat} {lv : List (Nat × Value)} {st : List Value} {h : xH} {k n mc ms : Nat} {i : Instr} {Qf : Option Value → xH → Prop} {Xf : String → xH → Prop}
abbrev xEnd (below : List Frame) (args : Array Value) (s : State) (D : va_G) (dA : Nat → ClassId) (cl : List vw_C) (tA : List (Nat × FieldType)) (B : Nat) (Qf : Option Value → xH → Prop) (Xf : String → xH → Prop) (mc ms : Nat) : State → Prop := vx_MQ below (xQc D dA cl tA B Qf) (xXc D dA cl tA B Xf) args s mc ms (fun q => B ≤ q)
theorem xs_iret (C : xCx p s m args c cc nL Ts own D dA cl tA tyf B) (hlocks : meth.locks = false) {ty : FieldType} (hr : meth.sig.returnType = some ty) {x : Int32} (hn : narrow ty (.int x) = .int x) (hk : k ≤ mc) (hs : n ≤ ms) (hq : Qf (some (.int x)) h) (hdg : decode cc pc = .ok (.ireturn, 1)) : xSafe p l e R s m args below meth c nL D dA cl tA B (xEnd below args s D dA cl tA B Qf Xf mc ms) pc lv [.int x] h k n :=
  fun H ls locs hR hl hS => W.widen hk hs (vx_ret (W.zret C.1 C.2.1 hr hn (fun t ht hW => ⟨_, h, rfl, hq, by rw [ht]; exact hR, hS.F ht⟩) hS.2.2 hdg hlocks))
theorem xs_lret (C : xCx p s m args c cc nL Ts own D dA cl tA tyf B) (hlocks : meth.locks = false) (hr : meth.sig.returnType = some .long) {x : Int64} (hk : k ≤ mc) (hs : n ≤ ms) (hq : Qf (some (.long x)) h) (hdg : decode cc pc = .ok (.lreturn, 1)) : xSafe p l e R s m args below meth c nL D dA cl tA B (xEnd below args s D dA cl tA B Qf Xf mc ms) pc lv [.long x] h k n :=
  fun H ls locs hR hl hS => W.widen hk hs (vx_ret (W.lret C.1 C.2.1 hr (fun t ht hW => ⟨_, h, rfl, hq, by rw [ht]; exact hR, hS.F ht⟩) hS.2.2 hdg hlocks))
theorem xs_aret (C : xCx p s m args c cc nL Ts own D dA cl tA tyf B) (hlocks : meth.locks = false) {rt : FieldType} (hr : meth.sig.returnType = some rt) (hrt : (∃ z, rt = .object z) ∨ ∃ z, rt = .array z) {v : Value} (hv : v = .null ∨ ∃ a, v = .ref a) (hk : k ≤ mc) (hs : n ≤ ms) (hq : Qf (some v) h) (hdg : decode cc pc = .ok (.areturn, 1)) : xSafe p l e R s m args below meth c nL D dA cl tA B (xEnd below args s D dA cl tA B Qf Xf mc ms) pc lv [v] h k n :=
  fun H ls locs hR hl hS => W.widen hk hs (vx_ret (W.aret C.1 C.2.1 hr hrt hv (fun t ht hW => ⟨_, h, rfl, hq, by rw [ht]; exact hR, hS.F ht⟩) hS.2.2 hdg hlocks))
theorem xs_vret (C : xCx p s m args c cc nL Ts own D dA cl tA tyf B) (hlocks : meth.locks = false) (hr : meth.sig.returnType = none) (hk : k ≤ mc) (hs : n ≤ ms) (hq : Qf none h) (hdg : decode cc pc = .ok (.return_, 1)) : xSafe p l e R s m args below meth c nL D dA cl tA B (xEnd below args s D dA cl tA B Qf Xf mc ms) pc lv [] h k n :=
  fun H ls locs hR hl hS => W.widen hk hs (vx_ret (W.vret C.1 C.2.1 hr (fun t ht hW => ⟨_, h, rfl, hq, by rw [ht]; exact hR, hS.F ht⟩) hS.2.2 hdg hlocks))
/-- 'throw new E()' -/
theorem xs_throw (C : xCx p s m args c cc nL Ts own D dA cl tA tyf B) (hE : xEnv D dA cl tA B nw nc ao s) (hlocks : meth.locks = false) (hnt : ∀ x ∈ c.exceptionTable.toList, False) (hl0 : l.stackTraces = false) {cls : String} {names : List String} {ik ic : Nat} (hcls : Bundle.fit cls = true) (hnames : ∀ z ∈ names, Bundle.fit z = true)
    (hw1 : Cond.classLink own ik cls ∈ Ts) (hw2 : Cond.initialized cls ∈ Ts) (hat : ∀ w ∈ vx_at0 own ic cls names, w ∈ Ts ∨ w ∈ nw) (hgood : ∀ w ∈ Cond.classLink own ik cls :: Cond.initialized cls :: vx_at0 own ic cls names, vx_ot w = true)
    (d0 : decode cc pc = .ok (.new ik, 3)) (d3 : decode cc (pc + 3) = .ok (.dup, 1)) (d4 : decode cc (pc + 4) = .ok (.invokespecial ic, 3)) (d7 : decode cc (pc + 7) = .ok (.athrow, 1))
    (hRf : names.length + 3 < R.frames) (hRl : (st.map fun v => v.category).sum + (13 * (names.length + 1) + 42) ≤ R.locals) (hRc : k + 1 ≤ R.cells) (hRs : n + 6 ≤ R.slots) (hk : k + 1 ≤ mc) (hs : n + 6 ≤ ms) (hq : Xf cls h) : xSafe p l e R s m args below meth c nL D dA cl tA B (xEnd below args s D dA cl tA B Qf Xf mc ms) pc lv st h k n := by
  intro H ls locs hR hl hS
  obtain ⟨hx, hb0, hml, hown, hts, hK, hTb, hB⟩ := C
  obtain ⟨-, -, hnw, -, -, hU, hN⟩ := hE
  refine vx_throw0 hx hb0 hl0 hown hcls hnames (hts _ hw1) (hts _ hw2) (fun w hw => ?_) hgood hU hN hS (by rw [hml]; exact hl.1) d0 d3 d4 d7 (fun x hx => (hnt x hx).elim) hRf hRl hRc hRs hlocks (fun t _ h1 h2 => ⟨h, hq, fun a d hd => (hR a d hd).kept (h2 a (hR a d hd).lt), Nat.le_trans hS.1 h1, fun q g1 g2 => by rw [h2 q (Nat.lt_of_lt_of_le g1 hS.1)]; exact hS.2.1 q g1 g2⟩) hS.2.2 hk hs
  rcases hat w hw with h1 | h1
  · exact hts w h1
  · exact (hnw w h1).2.use (xNw_tab (hnw w h1).1)
/-- not caught here -/
theorem xt_out (hlocks : meth.locks = false) (hnt : ∀ x ∈ c.exceptionTable.toList, False) {E : String} (hk : k ≤ mc) (hs : n ≤ ms) (hq : Xf E h) : xThr p l e R s m args below meth c nL D dA cl tA B (xEnd below args s D dA cl tA B Qf Xf mc ms) pc lv st E h k n :=
  fun H ls locs q ce hR hl hS hce hcv hcl => vx_out (fun x hx => (hnt x hx).elim) hlocks hce hcv hcl (fun t ht _ => ⟨h, hq, by rw [ht]; exact hR, hS.F ht⟩) hS.2.2 hk hs
end XRt
/-- caught by the method's own table -/
theorem xt_catch {p : Program} {l : Launch} {e : Env} {R : Room} {s : State} {m : MethodId} {args : Array Value} {below : List Frame} {meth : Method} {c : Code} {Q : State → Prop} {cc : ByteArray} {nL : Nat} {Ts : List Cond} {own : String} {D : va_G} {dA : Nat → ClassId} {cl : List vw_C} {tA : List (Nat × FieldType)} {tyf : Nat → Nat → FieldType} {B : Nat} {nw : List Cond} {nc : List (String × String)} {ao : List String} {pc : Nat} {lv : List (Nat × Value)} {st : List Value} {h : xH} {k n : Nat}
    (C : xCx p s m args c cc nL Ts own D dA cl tA tyf B) (hE : xEnv D dA cl tA B nw nc ao s) {E name : String} (pre : List ExceptionTableEntry) (x : ExceptionTableEntry) (suf : List ExceptionTableEntry) (hsplit : c.exceptionTable.toList = pre ++ x :: suf) (hpass : ∀ z ∈ pre, covers z pc = false ∨ (z.catchType ≠ 0 ∧ ∃ nm : String, Cond.classLink own z.catchType nm ∈ Ts ∧ (E, nm) ∈ nc))
    (hx : covers x pc = true) (h0 : x.catchType ≠ 0) (hw : Cond.classLink own x.catchType name ∈ Ts) (hc : Cond.castable E name ∈ nw) (kk : ∀ q : Nat, xSafe p l e R s m args below meth c nL D dA cl tA B Q x.handlerPc lv [.ref q] h k n) : xThr p l e R s m args below meth c nL D dA cl tA B Q pc lv st E h k n := by
  intro H ls locs q ce hR hl hS hce hcv hcl
  obtain ⟨hx0, hb0, hml, hown, hts, hK, hTb, hB⟩ := C
  refine vx_catch hown pre x suf hsplit (fun z hz => ?_) hx h0 (hts _ hw) ((hE.2.2.1 _ hc).2.use rfl) hce hcv hcl (kk q H ls locs hR hl hS)
  rcases hpass z hz with h1 | ⟨h1, nm, h2, h3⟩
  · exact Or.inl h1
  · exact Or.inr ⟨h1, nm, hts _ h2, hE.2.2.2.1 _ h3⟩
/-! a method's contract out of its body -/
section XBd
variable {D : va_G} {dA : Nat → ClassId} {cl : List vw_C} {tA : List (Nat × FieldType)} {tyf : Nat → Nat → FieldType} {B : Nat} {nw : List Cond} {nc : List (String × String)} {ao : List String} {W0 : List Cond} {l : Launch}
variable {y : MethodName} {cc : ByteArray} {maxL : Nat} {ret : Option FieldType} {rm : Room} {av : List Value} {h : xH} {Qf : Option Value → xH → Prop} {Xf : String → xH → Prop}
theorem xMet_of (hy : plainFor y = true) (hT : xTab cl tA tyf (Cond.code y cc maxL ret :: W0)) (hav : (lg_sl av).length ≤ maxL)
    (body : ∀ (p : Program) (e : Env) (s : State) (m : MethodId) (args : Array Value) (below : List Frame) (meth : Method) (c : Code), xCx p s m args c cc maxL (Cond.code y cc maxL ret :: W0) y.cls D dA cl tA tyf B → xEnv D dA cl tA B nw nc ao s → meth.locks = false → meth.sig.returnType = ret → meth.name = y.name → (∀ x ∈ c.exceptionTable.toList, False) →
      xSafe p l e rm s m args below meth c maxL D dA cl tA B (xEnd below args s D dA cl tA B Qf Xf rm.cells rm.slots) 0 (lv_args 0 av) [] h 0 0) : xMet D dA cl tA B nw nc ao W0 l y (.code y cc maxL ret) rm av h Qf Xf := by
  refine vx_ofW (cc := cc) (maxL := maxL) (ret := ret) hy rfl ?_
  intro p e s m args below meth c s₁ Bd hml hnt hP
  obtain ⟨rfl, hE, hR⟩ := hP
  rw [lg_entry_eq]
  exact body p e s m av.toArray below meth c ⟨Bd.exec, Bd.bytes, hml, findClass_of_methodNamed Bd.named, atoms_spec (ws := Cond.code y cc maxL ret :: W0) Bd.pre, hE.1, hT, hE.2.1⟩ hE Bd.notSynchronized Bd.returns (name_of_methodNamed Bd.named Bd.method).1 hnt s.heap _ [] hR (lv_entry av hav) va_S.rf
theorem xMet_ofH {hh : List (Nat × Nat × Nat × Nat)} (hy : plainFor y = true) (hT : xTab cl tA tyf (Cond.codeWith y cc maxL ret hh :: W0)) (hav : (lg_sl av).length ≤ maxL)
    (body : ∀ (p : Program) (e : Env) (s : State) (m : MethodId) (args : Array Value) (below : List Frame) (meth : Method) (c : Code), xCx p s m args c cc maxL (Cond.codeWith y cc maxL ret hh :: W0) y.cls D dA cl tA tyf B → xEnv D dA cl tA B nw nc ao s → meth.locks = false → meth.sig.returnType = ret → meth.name = y.name → c.exceptionTable.toList = tableOf hh →
      xSafe p l e rm s m args below meth c maxL D dA cl tA B (xEnd below args s D dA cl tA B Qf Xf rm.cells rm.slots) 0 (lv_args 0 av) [] h 0 0) : xMet D dA cl tA B nw nc ao W0 l y (.codeWith y cc maxL ret hh) rm av h Qf Xf := by
  refine vx_ofWH (cc := cc) (maxL := maxL) (ret := ret) (hh := hh) hy rfl ?_
  intro p e s m args below meth c s₁ Bd hml hP
  obtain ⟨rfl, hE, hR⟩ := hP
  rw [lg_entry_eq]
  have hts := atoms_spec (ws := Cond.codeWith y cc maxL ret hh :: W0) Bd.pre
  exact body p e s m av.toArray below meth c ⟨Bd.exec, Bd.bytes, hml, findClass_of_methodNamed Bd.named, hts, hE.1, hT, hE.2.1⟩ hE Bd.notSynchronized Bd.returns (name_of_methodNamed Bd.named Bd.method).1 (vx_table (x := y) Bd (hts _ List.mem_cons_self)) s.heap _ [] hR (lv_entry av hav) va_S.rf
end XBd
