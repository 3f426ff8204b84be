/-! ===== calls that return or throw, each with its own bound ===== -/
section VYA
def vy_Q (Qc : Array Value → State → Outcome → State → Prop) (XC : String → State → State → Prop) (kc ks mc ms : Nat) (free : Addr → Prop) : Array Value → State → Outcome → State → Prop := fun a st o t =>
  (Qc a st o t ∧ ∃ L, FrameEnd st o t L kc ks ∧ ∀ q ∈ L, free q.base) ∨ ∃ q, o = .threw q ∧ vx_T XC st q t mc ms free
def vy_Met (l : Launch) (y : MethodName) (ws : List Cond) (rm : Room) (Pc : Array Value → State → Prop) (Qc : Array Value → State → Outcome → State → Prop) (XC : String → State → State → Prop) (kc ks mc ms : Nat) (free : Addr → Prop) : Prop :=
  MetFree l y (headSpec ws rm) Pc (fun _ _ _ _ _ => True) (vy_Q Qc XC kc ks mc ms free)
section Payer
variable {l : Launch} {R : Room} {p : Program} {e : Env} {below : List Frame} {s : State} {sargs : Array Value} {y : MethodName} {len W9 : Nat}
theorem vy_back {ws : List Cond} {rm : Room} {Pc : Array Value → State → Prop} {Qc : Array Value → State → Outcome → State → Prop} {XC : String → State → State → Prop} {kc ks mc ms : Nat} {free : Addr → Prop} {bytes : ByteArray} {maxL : Nat} {ret : Option FieldType}
    (hM : vy_Met l y ws rm Pc Qc XC kc ks mc ms free) (hblind : FrameBlind Pc) (hrc : rm.cells = mc) (hrs : rm.slots = ms)
    (hframes : rm.frames + 1 ≤ R.frames) (hlocals : W9 + (maxL + 11) + rm.locals ≤ R.locals)
    (hws : ∀ w ∈ ws, ∀ a' U, s.WarmedH U.vm → w.before a' U = true) (hcode : Cond.code y bytes maxL ret ∈ ws) (hinit : ∀ a' U, s.WarmedH U.vm → (Cond.initialized y.cls).before a' U = true) :
    vx_Back l R p e below s sargs y len W9 (PreOf R mc ms Pc) (PostOf Qc kc ks free) (vx_Post XC mc ms free) := by
  intro m meth c A g ig mk a X hg hsize hdg hW hn hp
  have h1 : (headSpec ws rm).pre.before a A.U = true := atoms_intro fun w hw => hws w hw _ _ X.warmed
  have h2 : (Cond.code y bytes maxL ret).before a A.U = true := hws _ hcode _ _ X.warmed
  have h3 : (Cond.initialized y.cls).before a A.U = true := hinit _ _ X.warmed
  have h4 : A.cells + (headSpec ws rm).room.cells ≤ R.cells := by rw [show (headSpec ws rm).room.cells = mc from hrc]; exact hp.1
  have h5 : A.slots + (headSpec ws rm).room.slots ≤ R.slots := by rw [show (headSpec ws rm).room.slots = ms from hrs]; exact hp.2.1
  have hPc : Pc a (A.U.calling g mk a) := hblind _ _ _ _ hp.2.2
  obtain ⟨U, Ls, c0, s0⟩ := A
  dsimp only [Pt.U, Pt.locs, Pt.cells, Pt.slots] at h1 h2 h3 h4 h5 X hn hPc ⊢
  obtain ⟨methY, cY, hmY, hcY, -, hlY, -, -, -, -⟩ := Cond.code_spec hn h2
  obtain ⟨kY, hkY, -⟩ := className_of_methodNamed hn
  have hinitY : kY.init = .initialized := Cond.initialized_spec (findClass_of_methodNamed hn) hkY h3
  have h : At U g.method c below := by rw [hg]; exact X.here
  have hlocals9 : W9 + (maxL + 11) + (headSpec ws rm).room.locals ≤ R.locals := hlocals
  have happ : (headSpec ws rm).appliesLoose y e.platform (U.calling g mk a) = true :=
    Spec.appliesLoose_calling (g := g) h hdg hn hkY hinitY
      (X.room_calling (g := g) (R' := (headSpec ws rm).room) hsize hmY hcY hframes (by rw [hlY]; omega) h4 h5) h1
  obtain ⟨mid, hmid⟩ := h.above
  have hfr : (U.setTop g).frames = (.java g :: mid) ++ below := by rw [State.frames_setTop' g h.top, hmid]; rfl
  obtain ⟨o, s₂, hsteps, -, hend, hq⟩ := Steps.callFree hM p X.admits X.cas X.clock (acts := []) hfr happ hPc trivial
  have hq' : vy_Q Qc XC kc ks mc ms free a (U.calling g mk a) o s₂ := hq
  rw [State.frames_setTop' g h.top] at hend
  obtain ⟨g₀, hg0⟩ := Option.isSome_iff_exists.mp h.top
  obtain ⟨r, hr⟩ := State.topJava?_eq_some.mp hg0
  have hr' : (({ U with heap := s₂.heap, slotsUsed := s₂.slotsUsed } : State).setVm s₂.vm).frames = .java g₀ :: r := hr
  rcases hq' with ⟨hqc, L, hfe, hL⟩ | ⟨q, rfl, E, ce, L, hx, hce, hcv, hcl, hW₂, hsm, hL⟩
  · obtain ⟨⟨v, rfl⟩, hW₂, e2, q2, q3, q4, q5, q6⟩ := id hfe
    have e3 : s₂ = ({ (U.calling g mk a).setFrames s₂.frames with heap := s₂.heap, slotsUsed := s₂.slotsUsed } : State).setVm s₂.vm := by
      have : s₂ = ({ s₂ with vm := (U.calling g mk a).vm } : State).setVm s₂.vm := rfl
      rw [e2] at this
      exact this
    obtain ⟨c₂, i₂, len₂, hc₂, hd₂, hf₂⟩ := hend
    have hW' : U.WarmedH s₂.vm := hW₂
    have hcc : c₂ = c := by
      have h1 : s₂.code? g.method = U.code? g.method := by
        rw [State.code?_eq, State.code?_eq, hW'.alike.method?]
      exact Option.some.inj (hc₂.symm.trans (h1.trans h.code))
    subst hcc
    have hlen : len₂ = len := by rw [hdg] at hd₂; cases hd₂; rfl
    subst hlen
    have hs₂ : s₂ = (({ U with heap := s₂.heap, slotsUsed := s₂.slotsUsed } : State).setVm s₂.vm).setTop { g with pc := g.pc + len₂, stack := v.toList ++ g.stack } := by
      refine e3.trans ?_
      rw [hf₂, State.calling_eq h.top, State.setFrames_setFrames, State.setTop_of_frames _ hr', hr]
      rfl
    have hsame : U.sameButNew ({ U with heap := s₂.heap, slotsUsed := s₂.slotsUsed } : State) L kc ks := by
      refine ⟨?_, q2, q3, q4, q5, q6⟩
      obtain ⟨t, ht, -⟩ := State.frames_cons hr
      show ({ U with heap := s₂.heap, slotsUsed := s₂.slotsUsed } : State) = { U.setFrames U.frames with heap := s₂.heap, slotsUsed := s₂.slotsUsed }
      rw [State.setFrames_self ht]
    subst hg
    refine Or.inl ⟨v, ⟨(({ U with heap := s₂.heap, slotsUsed := s₂.slotsUsed } : State).setVm s₂.vm), Ls ++ L, c0 + kc, s0 + ks⟩,
      ⟨X.admits, X.cas, X.clock, X.frames, X.room, X.hears, X.method, X.code, (X.here.setHeapUsed s₂.heap s₂.slotsUsed).setVm hW'.alike, X.tail, State.WarmedH.trans X.warmed hW', X.limits, X.bytes, X.same.trans (hsame.setVm s.vm)⟩,
      ⟨g, mk, s₂, L, rfl, rfl, hqc, rfl, hL, rfl, rfl⟩, ?_⟩
    show Steps p.tables e below _ ((({ U with heap := s₂.heap, slotsUsed := s₂.slotsUsed } : State).setVm s₂.vm).setTop { g with pc := g.pc + len₂, stack := v.toList ++ g.stack })
    rw [← hs₂]
    exact hsteps
  · obtain ⟨e2, q2, q3, q4, q5, q6⟩ := id hsm
    have e3 : s₂ = ({ (U.calling g mk a).setFrames s₂.frames with heap := s₂.heap, slotsUsed := s₂.slotsUsed } : State).setVm s₂.vm := by
      have : s₂ = ({ s₂ with vm := (U.calling g mk a).vm } : State).setVm s₂.vm := rfl
      rw [e2] at this
      exact this
    have hf₂ : s₂.frames = .throwing q :: .java g :: U.frames.tail := hend
    have hW' : U.WarmedH s₂.vm := hW₂
    have hs₂ : s₂ = ((({ U with heap := s₂.heap, slotsUsed := s₂.slotsUsed } : State).setVm s₂.vm).setTop g).pushFrame (.throwing q) := by
      refine e3.trans ?_
      rw [hf₂, State.calling_eq h.top, State.setFrames_setFrames, State.pushFrame, State.frames_setTop _ hr', State.setTop_of_frames _ hr', State.setFrames_setFrames, hr]
      rfl
    have hsame : U.sameButNew ({ U with heap := s₂.heap, slotsUsed := s₂.slotsUsed } : State) L mc ms := by
      refine ⟨?_, q2, q3, q4, q5, q6⟩
      obtain ⟨t, ht, -⟩ := State.frames_cons hr
      show ({ U with heap := s₂.heap, slotsUsed := s₂.slotsUsed } : State) = { U.setFrames U.frames with heap := s₂.heap, slotsUsed := s₂.slotsUsed }
      rw [State.setFrames_self ht]
    subst hg
    refine Or.inr ⟨q, ⟨(({ U with heap := s₂.heap, slotsUsed := s₂.slotsUsed } : State).setVm s₂.vm), Ls ++ L, c0 + mc, s0 + ms⟩,
      ⟨X.admits, X.cas, X.clock, X.frames, X.room, X.hears, X.method, X.code, (X.here.setHeapUsed s₂.heap s₂.slotsUsed).setVm hW'.alike, X.tail, State.WarmedH.trans X.warmed hW', X.limits, X.bytes, X.same.trans (hsame.setVm s.vm)⟩,
      ⟨g, mk, s₂, L, E, ce, rfl, rfl, hx, hce, hcv, hcl, rfl, hL, rfl, rfl⟩, ?_⟩
    show Steps p.tables e below _ (((({ U with heap := s₂.heap, slotsUsed := s₂.slotsUsed } : State).setVm s₂.vm).setTop g).pushFrame (.throwing q))
    rw [← hs₂]
    exact hsteps
end Payer
def vy_Run (p : Program) (l : Launch) (e : Env) (R : Room) (s : State) (m : MethodId) (args : Array Value) (below : List Frame) (meth : Method) (c : Code) (H : Heap) (locs : List Loc) (cells slots kc ks mc ms : Nat) (g : JFrame) (rest : List Value) (Qa : State → Outcome → State → Prop) (XC : String → State → State → Prop) (free : Addr → Prop) : Prop :=
  ∀ T : State, T.heap = H → Stand p l e R s m args below meth c T locs cells slots →
    (∃ (v : Option Value) (st₀ t T' : State) (L : List Loc), st₀.heap = H ∧ Stand p l e R s m args below meth c T' (locs ++ L) (cells + kc) (slots + ks) ∧ (∀ q ∈ L, free q.base) ∧ T'.heap = t.heap ∧ T'.vm = t.vm ∧ Qa st₀ (.returned v) t ∧
      Goes p e below T g T' { g with pc := g.pc + 3, stack := v.toList ++ rest }) ∨
    (∃ (q : Addr) (st₀ t T' : State) (L : List Loc) (E : String) (ce : Cell), st₀.heap = H ∧ Stand p l e R s m args below meth c T' (locs ++ L) (cells + mc) (slots + ms) ∧ (∀ z ∈ L, free z.base) ∧ T'.heap = t.heap ∧ T'.vm = t.vm ∧ XC E st₀ t ∧ t.heap[q]? = some ce ∧ ce.vm = .none ∧ s.vm.findClass E = some ce.cls ∧
      Steps p.tables e below (T.setTop g) ((T'.setTop { g with stack := rest }).pushFrame (.throwing q)))
section Runs
variable {p : Program} {l : Launch} {e : Env} {R : Room} {s : State} {m : MethodId} {args : Array Value} {below : List Frame} {meth : Method} {c : Code} {H : Heap} {locs : List Loc} {cells slots : Nat}
variable {y : MethodName} {bytes cc : ByteArray} {maxL nL kc ks mc ms n index : Nat} {ret : Option FieldType} {ws : List Cond} {rm : Room} {Pc : Array Value → State → Prop} {Qc : Array Value → State → Outcome → State → Prop} {XC : String → State → State → Prop} {free : Addr → Prop} {Ts : List Cond} {own C : String} {b : Addr} {As rest : List Value} {g : JFrame}
theorem vy_callBack (cb : CallB R s args own index y bytes maxL ret ws rm mc ms n) (hM : vy_Met l y ws rm Pc Qc XC kc ks mc ms free) (hbl : FrameBlind Pc) : vx_Back l R p e below s args y 3 8 (PreOf R mc ms Pc) (PostOf Qc kc ks free) (vx_Post XC mc ms free) := by
  obtain ⟨hrc, hrs, hfr, hlo, hws, hcw, -, hini, -⟩ := cb
  exact vy_back (bytes := bytes) (maxL := maxL) (ret := ret) hM hbl hrc hrs hfr hlo hws hcw (fun a' U hW => word_at hW (Or.inl (by first | rfl | simp [Cond.onTables, Cond.keeps, Cond.steady])) hini)
theorem vy_runV (S : CallFix p m c cc nL s args Ts own) (hM : vy_Met l y ws rm Pc Qc XC kc ks mc ms free) (cw : CallW R s args own C index y bytes maxL ret ws rm mc ms n) (hp : PreV s H C b Pc As)
    (hg : g.method = m) (hn : As.length = n) (hsize : g.locals.size = nL) (hstack : g.stack = As.reverse ++ .ref b :: rest) (hW : 2 * g.monitorRoom + (rest.map fun v => v.category).sum ≤ 8) (hdg : decode cc g.pc = .ok (.invokevirtual index, 3)) (hf : cells + mc ≤ R.cells ∧ slots + ms ≤ R.slots) :
    vy_Run p l e R s m args below meth c H locs cells slots kc ks mc ms g rest (Qc (Value.ref b :: As).toArray) XC free := by
  have hK : vx_Back l R p e below s args y 3 8 (PreOf R mc ms Pc) (PostOf Qc kc ks free) (vx_Post XC mc ms free) := vy_callBack cw.1 hM hp.1
  obtain ⟨⟨-, -, -, -, -, -, hcode, -, hy, hlen, hl⟩, hin, hse⟩ := cw
  obtain ⟨hx, hb, hml, ho, -⟩ := S
  obtain ⟨-, ⟨cellB, hcB, hoB, hclB⟩, hPc⟩ := hp
  intro T hT X
  rcases vx_callV X hx (C := C) (bytes := bytes) (maxL := maxL) (ret := ret) ho hl hin hse hcode hy hK (by rw [hT]; exact hcB) hoB hclB hg (hsize.trans hml.symm) (argsL := As) (rest := rest) (fun sig h => hn.trans (hlen sig h)) hstack hW (by rw [hb]; exact hdg)
    (fun vm₁ hW₁ => ⟨hf.1, hf.2, hPc (T.setVm vm₁) hT hW₁⟩) with ⟨v, vm₁, ⟨U', l2, c2, s2⟩, hW₁, X', ⟨g', mk, t, L, e1, e2, hq, h1, hL, h2, h3⟩, st⟩ | ⟨q, vm₁, ⟨U', l2, c2, s2⟩, hW₁, X', ⟨g', mk, t, L, E, ce, e1, e2, hq, hce, hcv, hcl, h1, hL, h2, h3⟩, st⟩
  · dsimp only [Pt.U, Pt.locs, Pt.cells, Pt.slots] at X' e1 e2 h1 h2 h3 st
    subst h1; subst h2; subst h3
    exact Or.inl ⟨v, (T.setVm vm₁).calling g' mk (Value.ref b :: As).toArray, t, U', L, hT, X', hL, e1, e2, hq, st⟩
  · dsimp only [Pt.U, Pt.locs, Pt.cells, Pt.slots] at X' e1 e2 h1 h2 h3 st hcl
    subst h1; subst h2; subst h3
    exact Or.inr ⟨q, (T.setVm vm₁).calling g' mk (Value.ref b :: As).toArray, t, U', L, E, ce, hT, X', hL, e1, e2, hq, hce, hcv, vx_cls hW₁ hcl, st⟩
theorem vy_runS (S : CallFix p m c cc nL s args Ts own) (hM : vy_Met l y ws rm Pc Qc XC kc ks mc ms free) (cw : CallB R s args own index y bytes maxL ret ws rm mc ms n ∧ (Cond.static y).before args s = true) (hp : PreS s H Pc As)
    (hg : g.method = m) (hn : As.length = n) (hsize : g.locals.size = nL) (hstack : g.stack = As.reverse ++ rest) (hW : 2 * g.monitorRoom + (rest.map fun v => v.category).sum ≤ 8) (hdg : decode cc g.pc = .ok (.invokestatic index, 3)) (hf : cells + mc ≤ R.cells ∧ slots + ms ≤ R.slots) :
    vy_Run p l e R s m args below meth c H locs cells slots kc ks mc ms g rest (Qc As.toArray) XC free := by
  have hK : vx_Back l R p e below s args y 3 8 (PreOf R mc ms Pc) (PostOf Qc kc ks free) (vx_Post XC mc ms free) := vy_callBack cw.1 hM hp.1
  obtain ⟨⟨-, -, -, -, -, -, hcode, hini, hy, hlen, hl⟩, hstt⟩ := cw
  obtain ⟨hx, hb, hml, ho, -⟩ := S
  intro T hT X
  rcases vx_callS X hx (bytes := bytes) (maxL := maxL) (ret := ret) ho hl hstt hini hcode hy hK hg (hsize.trans hml.symm) (argsL := As) (rest := rest) (fun sig h => hn.trans (hlen sig h)) hstack hW (by rw [hb]; exact hdg)
    (fun vm₁ hW₁ => ⟨hf.1, hf.2, hp.2 (T.setVm vm₁) hT hW₁⟩) with ⟨v, vm₁, ⟨U', l2, c2, s2⟩, hW₁, X', ⟨g', mk, t, L, e1, e2, hq, h1, hL, h2, h3⟩, st⟩ | ⟨q, vm₁, ⟨U', l2, c2, s2⟩, hW₁, X', ⟨g', mk, t, L, E, ce, e1, e2, hq, hce, hcv, hcl, h1, hL, h2, h3⟩, st⟩
  · dsimp only [Pt.U, Pt.locs, Pt.cells, Pt.slots] at X' e1 e2 h1 h2 h3 st
    subst h1; subst h2; subst h3
    exact Or.inl ⟨v, (T.setVm vm₁).calling g' mk As.toArray, t, U', L, hT, X', hL, e1, e2, hq, st⟩
  · dsimp only [Pt.U, Pt.locs, Pt.cells, Pt.slots] at X' e1 e2 h1 h2 h3 st hcl
    subst h1; subst h2; subst h3
    exact Or.inr ⟨q, (T.setVm vm₁).calling g' mk As.toArray, t, U', L, E, ce, hT, X', hL, e1, e2, hq, hce, hcv, vx_cls hW₁ hcl, st⟩
end Runs
section Ends
variable {p : Program} {l : Launch} {e : Env} {R : Room} {s : State} {m : MethodId} {args : Array Value} {below : List Frame} {meth : Method} {c : Code} {H : Heap} {locs : List Loc} {cells slots : Nat} {Q : State → Prop}
variable {kc ks mc ms : Nat} {free : Addr → Prop} {A0 A1 : Nat → Prop} {H0 : Heap} {a : Array Value} {ls : Array Slot} {st0 rest : List Value}
variable {Qc : Array Value → State → Outcome → State → Prop} {XC : String → State → State → Prop}
def vy_MQ (below : List Frame) (Qc : Array Value → State → Outcome → State → Prop) (XC : String → State → State → Prop) (a : Array Value) (s : State) (kc ks mc ms : Nat) (free : Addr → Prop) : State → Prop := fun t =>
  ∃ o, t.status = .running ∧ Ended t below o ∧ vy_Q Qc XC kc ks mc ms free a s o t
theorem vy_ret {g : JFrame} (k : W p l e R s m args below meth c H locs cells slots (MQ below Qc args s kc ks free) g) : W p l e R s m args below meth c H locs cells slots (vy_MQ below Qc XC args s kc ks mc ms free) g := by
  intro T hT X
  obtain ⟨t, a1, o, b1, b2, b3, b4⟩ := k T hT X
  exact ⟨t, a1, o, b1, b2, Or.inl ⟨b3, b4⟩⟩
theorem vy_out {pc : Nat} {E : String} {ce : Cell} {q : Addr} (hout : ∀ x ∈ c.exceptionTable.toList, covers x pc = false) (hlocks : meth.locks = false) (hcell : H[q]? = some ce) (hv : ce.vm = .none) (hcl : s.vm.findClass E = some ce.cls)
    (hx : ∀ t : State, t.heap = H → s.vm.Alike t.vm → XC E s t) (hf : ∀ z ∈ locs, free z.base) (hc : cells ≤ mc) (hs : slots ≤ ms) :
    vx_W p l e R s m args below meth c H locs cells slots (vy_MQ below Qc XC args s kc ks mc ms free) (F0 m pc ls rest) q := by
  intro T hT X
  obtain ⟨st1, hrun, hend, hW, hsm⟩ := X.leaveThrown q (g := F0 m pc ls rest) rfl rfl rfl hout hlocks
  have hcell9 : (T.setFrames (.throwing q :: below)).heap[q]? = some ce := by
    show T.heap[q]? = some ce
    rw [hT]; exact hcell
  exact ⟨_, st1, .threw q, hrun, hend, Or.inr ⟨q, rfl, E, ce, locs, hx _ hT hW.alike, hcell9, hv, hcl, hW, hsm.mono hc hs, hf⟩⟩
theorem vy_throw0 {cc : ByteArray} {pc : Nat} (hexec : p.tables.exec = Jvm.exec) (hb : c.code = cc) (hl : l.stackTraces = false) {own cls : String} {names : List String} {ik ic mc ms : Nat} {A : Nat → Prop}
    (hown : s.vm.findClass own = some m.cls) (hcls : Bundle.fit cls = true) (hnames : ∀ n ∈ names, Bundle.fit n = true)
    (hk : (Cond.classLink own ik cls).before args s = true) (hini : (Cond.initialized cls).before args s = true) (hat : ∀ w ∈ vx_at0 own ic cls names, w.before args s = true)
    (hgood : ∀ w ∈ Cond.classLink own ik cls :: Cond.initialized cls :: vx_at0 own ic cls names, vx_ot w = true)
    (hU : vx_Zq Bundle.tN "UNASSIGNED_STACK" Bundle.steD A s s.heap) (hN : vx_Zq Bundle.tN "SUPPRESSED_SENTINEL" Bundle.listD A s s.heap) (hS : va_S A s.heap H locs) (hsize : ls.size = c.maxLocals)
    (d0 : decode cc pc = .ok (.new ik, 3)) (d3 : decode cc (pc + 3) = .ok (.dup, 1)) (d4 : decode cc (pc + 4) = .ok (.invokespecial ic, 3)) (d7 : decode cc (pc + 7) = .ok (.athrow, 1))
    (hout : ∀ x ∈ c.exceptionTable.toList, covers x (pc + 7) = false)
    (hRframes : names.length + 3 < R.frames) (hRlocals : (rest.map fun v => v.category).sum + (13 * (names.length + 1) + 42) ≤ R.locals) (hRcells : cells + 1 ≤ R.cells) (hRslots : slots + 6 ≤ R.slots) (hlocks : meth.locks = false)
    (hx : ∀ t : State, s.vm.Alike t.vm → H.size ≤ t.heap.size → (∀ q : Nat, q < H.size → t.heap[q]? = H[q]?) → XC cls s t)
    (hf : ∀ z ∈ locs, free z.base) (hc : cells + 1 ≤ mc) (hs : slots + 6 ≤ ms) :
    W p l e R s m args below meth c H locs cells slots (vy_MQ below Qc XC args s kc ks mc ms free) (F0 m pc ls rest) := by
  intro T hT X
  have htr : e.platform.stackTraces = false := (show e.platform.stackTraces = l.stackTraces by rw [X.admits.platform]).trans hl
  have Y := vx_rebase X (R' := { frames := R.frames, locals := R.locals, cells := 1, slots := 6 }) (Nat.le_refl _) (Nat.le_refl _) hRcells hRslots
  obtain ⟨s', hA⟩ : ∃ z, z = (T.setVm s.vm).setFrames (.invoking m args :: below) := ⟨_, rfl⟩
  rw [← hA] at Y
  have hvm : s'.vm = s.vm := by rw [hA]; rfl
  have hhp : s'.heap = H := by rw [hA]; exact hT
  have hW0 : s.WarmedH s'.vm := by rw [hvm]; exact State.WarmedH.refl s
  have hat' : ∀ w ∈ vx_at0 own ic cls names, w.before args s' = true := fun w hw => vx_ot_at hW0 hvm.symm (hgood w (List.mem_cons_of_mem _ (List.mem_cons_of_mem _ hw))) (hat w hw)
  have hk' : (Cond.classLink own ik cls).before args s' = true := vx_ot_at hW0 hvm.symm (hgood _ List.mem_cons_self) hk
  have hini' : (Cond.initialized cls).before args s' = true := vx_ot_at hW0 hvm.symm (hgood _ (List.mem_cons_of_mem _ List.mem_cons_self)) hini
  have hU' : vx_Zq Bundle.tN "UNASSIGNED_STACK" Bundle.steD A s' s'.heap := by rw [hhp]; exact vx_Zq.moved hW0.alike (hU.kept hS.2.1)
  have hN' : vx_Zq Bundle.tN "SUPPRESSED_SENTINEL" Bundle.listD A s' s'.heap := by rw [hhp]; exact vx_Zq.moved hW0.alike (hN.kept hS.2.1)
  have h : ∀ w ∈ Bundle.ownAtoms0 own ic cls names, w.before args s' = true := vx_own hat' (vx_isRefq hU'.1) (vx_isRefq hN'.1) hU'.2.word hN'.2.word
  have hown' : s'.vm.findClass own = some m.cls := by rw [hvm]; exact hown
  have hins : (Cond.instantiable cls 6).before args s' = true := h _ (by simp [Bundle.ownAtoms0])
  obtain ⟨vm₁, cX, kX, hfX, hkX, -, -, X₁, st1⟩ := Y.newCold hexec (own := own) (C := cls) (index := ik) (n := 6) hown' hk' hins hini'
    (g := F0 m pc ls rest) rfl (by rw [hb]; exact d0) (Nat.le_refl _) (Nat.le_refl _)
  generalize hT1 : (T.setVm vm₁).pushCell { cls := cX, slots := kX.instanceTypes.map defaultValue, vm := .none } = T1 at X₁ st1
  have hcat : (Value.ref T.heap.size).category = 1 := rfl
  have hcellA : T1.heap[T.heap.size]? = some (freshCell cX kX) := by rw [← hT1]; exact State.heap_pushCell_size _ _
  have d3' : decode c.code (pc + 3) = .ok (.dup, 1) := by rw [hb]; exact d3
  obtain ⟨U, hsteps, hrun, hend, hW, hsame, ce, hce, hO⟩ := X₁.ctorThrow0 hexec htr (own := own) (cls := cls) (names := names) (ic := ic) hown' hcls hnames h (fun x hx => nomatch hx) hfX hkX hcellA (by rw [hhp, hT]; exact Nat.le_refl _)
    (g := { method := m, pc := pc + 4, locals := ls, stack := .ref T.heap.size :: .ref T.heap.size :: rest, locked := none }) rfl hsize rfl rfl (rest := rest) rfl
    (by rw [hb]; exact d4) (by rw [hb]; exact d7) hout hRframes (by simp only [List.map_cons, List.sum_cons, hcat]; omega) hlocks
  obtain ⟨f1, f2⟩ := vx_frame hsame
  rw [hhp] at f1 f2
  have hWs : s.WarmedH U.vm := State.WarmedH.trans hW0 hW
  have hcl : s.vm.findClass cls = some ce.cls := by
    have h9 := hO.cls
    rw [hvm] at h9
    exact h9
  have hall : s.sameButNew ({ U with vm := s.vm } : State) locs mc ms := by
    subst hA
    obtain ⟨e1, e2⟩ := hsame
    rw [State.setFrames_setFrames] at e1
    have h2 : (T.setVm s.vm).sameButNew ({ U with vm := s.vm } : State) [] (0 + 1) (0 + 6) := ⟨e1, e2⟩
    have h3 := X.same.trans h2
    rw [List.append_nil] at h3
    exact h3.mono hc hs
  refine ⟨U, ?_, .threw T.heap.size, hrun, hend, Or.inr ⟨T.heap.size, rfl, cls, ce, locs, hx U hWs.alike f1 (fun q hq => f2 q hq (fun z hz => nomatch hz)), hce, hO.vm, hcl, hWs, hall, hf⟩⟩
  refine st1 _ ?_
  show Steps p.tables e below (T1.setTop { method := m, pc := pc + 3, locals := ls, stack := .ref T.heap.size :: rest, locked := none }) _
  jvm_step X₁.here [X₁.here.top, hexec, d3', Value.category]
  exact hsteps
end Ends
section Bodies
variable {l : Launch}
theorem vy_ofW {y : MethodName} {ws ws' : List Cond} {rm : Room} {Pc : Array Value → State → Prop} {Qc : Array Value → State → Outcome → State → Prop} {XC : String → State → State → Prop} {kc ks mc ms : Nat} {free : Addr → Prop} {cc : ByteArray} {maxL : Nat} {ret : Option FieldType}
    (hy : plainFor y = true) (hw : ws = Cond.code y cc maxL ret :: ws')
    (body : ∀ p e s m args below meth c s₁, BodyLoose p l y (headSpec ws rm) cc maxL ret e s m args below meth c s₁ → c.maxLocals = maxL → (∀ x ∈ c.exceptionTable.toList, False) → Pc args s →
      W p l e (headSpec ws rm).room s m args below meth c s.heap [] 0 0 (vy_MQ below Qc XC args s kc ks mc ms free) (entryFrame m args maxL)) : vy_Met l y ws rm Pc Qc XC kc ks mc ms free := by
  refine MetFree.of_bodySF (code := cc) (maxLocals := maxL) (ret := ret) hy ?_ ?_
  · intro args s m h hn
    obtain ⟨meth, c, h1, h2, h3, h4, h5, h6, -, -⟩ := Cond.code_spec hn (atoms_spec (ws := ws) h _ (by rw [hw]; exact List.mem_cons_self))
    exact ⟨meth, c, h1, h2, h3, h4, h5, h6⟩
  · intro p e s m args below meth c s₁ B hml hP _
    have hh0 : s₁.heap = s.heap := by rw [B.state]; rfl
    have ht : ∀ x ∈ c.exceptionTable.toList, False := by
      obtain ⟨meth9, c9, h1, h2, -, -, -, -, h7, -⟩ := Cond.code_spec B.named (atoms_spec (ws := ws) B.pre _ (by rw [hw]; exact List.mem_cons_self))
      cases Option.some.inj (h1.symm.trans B.method)
      cases Option.some.inj (h2.symm.trans (Stand.of_body B).code)
      intro x hx
      rw [Array.isEmpty_iff.mp h7] at hx
      cases hx
    obtain ⟨t, a1, o, b1, b2, b3⟩ := body p e s m args below meth c s₁ B hml ht hP s₁ hh0 (Stand.of_body B)
    exact ⟨t, o, a1, b1, b2, b3⟩
theorem vy_ofWH {l : Launch} {y : MethodName} {ws ws' : List Cond} {rm : Room} {Pc : Array Value → State → Prop} {Qc : Array Value → State → Outcome → State → Prop} {XC : String → State → State → Prop} {kc ks mc ms : Nat} {free : Addr → Prop} {cc : ByteArray} {maxL : Nat} {ret : Option FieldType} {hh : List (Nat × Nat × Nat × Nat)}
    (hy : plainFor y = true) (hw : ws = Cond.codeWith y cc maxL ret hh :: ws')
    (body : ∀ p e s m args below meth c s₁, BodyLoose p l y (headSpec ws rm) cc maxL ret e s m args below meth c s₁ → c.maxLocals = maxL → Pc args s →
      W p l e (headSpec ws rm).room s m args below meth c s.heap [] 0 0 (vy_MQ below Qc XC args s kc ks mc ms free) (entryFrame m args maxL)) : vy_Met l y ws rm Pc Qc XC kc ks mc ms free := by
  refine MetFree.of_bodySF (code := cc) (maxLocals := maxL) (ret := ret) hy ?_ ?_
  · intro args s m h hn
    obtain ⟨m9, meth, c, hn9, h1, h2, h3, h4, -, h5, h6, -⟩ := Cond.codeWith_spec (atoms_spec (ws := ws) h _ (by rw [hw]; exact List.mem_cons_self))
    cases hn.symm.trans hn9
    exact ⟨meth, c, h1, h2, h3, h4, h5, h6⟩
  · intro p e s m args below meth c s₁ B hml hP _
    have hh0 : s₁.heap = s.heap := by rw [B.state]; rfl
    obtain ⟨t, a1, o, b1, b2, b3⟩ := body p e s m args below meth c s₁ B hml hP s₁ hh0 (Stand.of_body B)
    exact ⟨t, o, a1, b1, b2, b3⟩
end Bodies
end VYA
def yMet (D : va_G) (dA : Nat → ClassId) (cl : List vw_C) (tA : List (Nat × FieldType)) (B : Nat) (nw : List Cond) (nc : List (String × String)) (ao : List String) (W0 : List Cond) (l : Launch) (y : MethodName) (cw : Cond) (rm : Room) (kc ks : Nat) (av : List Value) (h : xH) (Qf : Option Value → xH → Prop) (Xf : String → xH → Prop) : Prop :=
  vy_Met l y (cw :: W0) rm (xPc D dA cl tA B nw nc ao av h) (xQc D dA cl tA B Qf) (xXc D dA cl tA B Xf) kc ks rm.cells rm.slots (fun q => B ≤ q)
section YCl
variable {p : Program} {l : Launch} {e : Env} {R : Room} {s : State} {m : MethodId} {args : Array Value} {below : List Frame} {meth : Method} {c : Code} {Q : State → Prop}
variable {cc : ByteArray} {nL : Nat} {Ts : List Cond} {own : String} {D : va_G} {dA : Nat → ClassId} {cl : List vw_C} {tA : List (Nat × FieldType)} {tyf : Nat → Nat → FieldType} {B : Nat} {nw : List Cond} {nc : List (String × String)} {ao : List String} {W0 : List Cond}
variable {pc : Nat} {lv : List (Nat × Value)} {st : List Value} {h : xH} {k n kc ks : Nat} {i : Instr}
variable {y : MethodName} {bytes : ByteArray} {maxL idx ci N np : Nat} {ret : Option FieldType} {rm : Room} {As : List Value} {b : Nat} {V : Nat → Value} {r : vw_C} {Qf : Option Value → xH → Prop} {Xf : String → xH → Prop}
theorem ys_callV (C : xCx p s m args c cc nL Ts own D dA cl tA tyf B) (hE : xEnv D dA cl tA B nw nc ao s) (hM : yMet D dA cl tA B nw nc ao W0 l y (.code y bytes maxL ret) rm kc ks (.ref b :: As) h Qf Xf) (hG : GoodIn Ts (Cond.code y bytes maxL ret :: W0)) (hw1 : Cond.methodLink own idx y ∈ Ts) (hw2 : Cond.instanceMethod y ∈ Ts) (hw3 : Cond.selects y.cls y y ∈ Ts) (hw4 : Cond.initialized y.cls ∈ Ts)
    (hd : xNm y np) (hn : As.length = np) (hr : cl[ci]? = some r) (hry : r.1 = y.cls) (hb : h b = some (ci, N, V)) (hrm : xRm R k n rm maxL) (hst : (st.map fun v => v.category).sum ≤ 8) (hdg : decode cc pc = .ok (.invokevirtual idx, 3))
    (kk : ∀ (v : Option Value) (h1 : xH), Qf v h1 → xSafe p l e R s m args below meth c nL D dA cl tA B Q (pc + 3) lv (v.toList ++ st) h1 (k + kc) (n + ks)) (kx : ∀ (E : String) (h1 : xH), Xf E h1 → xThr p l e R s m args below meth c nL D dA cl tA B Q pc lv st E h1 (k + rm.cells) (n + rm.slots)) : xSafe p l e R s m args below meth c nL D dA cl tA B Q pc lv (As.reverse ++ .ref b :: st) h k n := by
  intro H ls locs hR hl hS T hT X
  obtain ⟨hx, hb0, hml, hown, hts, hK, hTb, hB⟩ := C
  have hci := (hTb.1 ci r hr).1
  obtain ⟨r', hr', -, cell, q1, q2, q3, -⟩ := xat_obj hci (hR b _ hb)
  cases hr.symm.trans hr'
  have hcls := (hK.1 ci r hr).2.1
  have hp : PreV s H y.cls b (xPc D dA cl tA B nw nc ao (.ref b :: As) h) As := ⟨xPc_blind, ⟨cell, q1, by rw [q3]; rfl, by rw [← hry, q2]; exact hcls⟩, fun U hU hW => ⟨rfl, hE.to (locs := locs) hW (by rw [hU]; exact hS), by rw [hU]; exact hR⟩⟩
  have cw : CallW R s args own y.cls idx y bytes maxL ret (Cond.code y bytes maxL ret :: W0) rm rm.cells rm.slots np := ⟨callB_of np hts hG rfl rfl rfl (hts _ hw4) (hts _ hw1) hd ⟨hrm.1, hrm.2.1⟩, hts _ hw2, hts _ hw3⟩
  rcases vy_runV (g := F0 m pc ls (As.reverse ++ .ref b :: st)) (rest := st) ⟨hx, hb0, hml, hown, hts⟩ hM cw hp rfl hn hl.1 rfl (lv_room (m := m) (pc := pc) (ls := ls) (rest := st) hst) hdg ⟨hrm.2.2.1, hrm.2.2.2⟩ T hT X with ⟨v, st₀, t, T', L, h0, X', hL, e1, e2, ⟨v', h1, hv, hq, hR1, hF⟩, go⟩ | ⟨q, st₀, t, T', L, E, ce, h0, X', hL, e1, e2, ⟨h1, hq, hR1, hF⟩, hce, hcv, hcl, go⟩
  · cases hv
    obtain ⟨t2, a1, b1⟩ := kk v h1 hq T'.heap ls (locs ++ L) (by rw [e1]; exact hR1) hl (xS_join hS h0 hF e1 hL) T' rfl X'
    exact ⟨t2, go t2 a1, b1⟩
  · obtain ⟨t2, a1, b1⟩ := kx E h1 hq T'.heap ls (locs ++ L) q ce (by rw [e1]; exact hR1) hl (xS_join hS h0 hF e1 hL) (by rw [e1]; exact hce) hcv hcl T' rfl X'
    exact ⟨t2, go.trans a1, b1⟩
theorem ys_callS (C : xCx p s m args c cc nL Ts own D dA cl tA tyf B) (hE : xEnv D dA cl tA B nw nc ao s) (hM : yMet D dA cl tA B nw nc ao W0 l y (.code y bytes maxL ret) rm kc ks As h Qf Xf) (hG : GoodIn Ts (Cond.code y bytes maxL ret :: W0)) (hw1 : Cond.methodLink own idx y ∈ Ts) (hw2 : Cond.static y ∈ Ts) (hw4 : Cond.initialized y.cls ∈ Ts)
    (hd : xNm y np) (hn : As.length = np) (hrm : xRm R k n rm maxL) (hst : (st.map fun v => v.category).sum ≤ 8) (hdg : decode cc pc = .ok (.invokestatic idx, 3))
    (kk : ∀ (v : Option Value) (h1 : xH), Qf v h1 → xSafe p l e R s m args below meth c nL D dA cl tA B Q (pc + 3) lv (v.toList ++ st) h1 (k + kc) (n + ks)) (kx : ∀ (E : String) (h1 : xH), Xf E h1 → xThr p l e R s m args below meth c nL D dA cl tA B Q pc lv st E h1 (k + rm.cells) (n + rm.slots)) : xSafe p l e R s m args below meth c nL D dA cl tA B Q pc lv (As.reverse ++ st) h k n := by
  intro H ls locs hR hl hS T hT X
  obtain ⟨hx, hb0, hml, hown, hts, hK, hTb, hB⟩ := C
  have hp : PreS s H (xPc D dA cl tA B nw nc ao As h) As := ⟨xPc_blind, fun U hU hW => ⟨rfl, hE.to (locs := locs) hW (by rw [hU]; exact hS), by rw [hU]; exact hR⟩⟩
  have cw : CallB R s args own idx y bytes maxL ret (Cond.code y bytes maxL ret :: W0) rm rm.cells rm.slots np ∧ (Cond.static y).before args s = true := ⟨callB_of np hts hG rfl rfl rfl (hts _ hw4) (hts _ hw1) hd ⟨hrm.1, hrm.2.1⟩, hts _ hw2⟩
  rcases vy_runS (g := F0 m pc ls (As.reverse ++ st)) (rest := st) ⟨hx, hb0, hml, hown, hts⟩ hM cw hp rfl hn hl.1 rfl (lv_room (m := m) (pc := pc) (ls := ls) (rest := st) hst) hdg ⟨hrm.2.2.1, hrm.2.2.2⟩ T hT X with ⟨v, st₀, t, T', L, h0, X', hL, e1, e2, ⟨v', h1, hv, hq, hR1, hF⟩, go⟩ | ⟨q, st₀, t, T', L, E, ce, h0, X', hL, e1, e2, ⟨h1, hq, hR1, hF⟩, hce, hcv, hcl, go⟩
  · cases hv
    obtain ⟨t2, a1, b1⟩ := kk v h1 hq T'.heap ls (locs ++ L) (by rw [e1]; exact hR1) hl (xS_join hS h0 hF e1 hL) T' rfl X'
    exact ⟨t2, go t2 a1, b1⟩
  · obtain ⟨t2, a1, b1⟩ := kx E h1 hq T'.heap ls (locs ++ L) q ce (by rw [e1]; exact hR1) hl (xS_join hS h0 hF e1 hL) (by rw [e1]; exact hce) hcv hcl T' rfl X'
    exact ⟨t2, go.trans a1, b1⟩
theorem yMet.met {D : va_G} {dA : Nat → ClassId} {cl : List vw_C} {tA : List (Nat × FieldType)} {B : Nat} {nw : List Cond} {nc : List (String × String)} {ao : List String} {W0 : List Cond} {l : Launch} {y : MethodName} {cw : Cond} {rm : Room} {av : List Value} {h : xH} {Qf : Option Value → xH → Prop} (hM : yMet D dA cl tA B nw nc ao W0 l y cw rm rm.cells rm.slots av h Qf (fun _ _ => False)) :
    Met l y (cw :: W0) rm (xPc D dA cl tA B nw nc ao av h) (xQc D dA cl tA B Qf) rm.cells rm.slots (fun q => B ≤ q) := by
  intro p e h1 h2 h3 s m args below h4 h5 h6 h7
  obtain ⟨n, o, g1, g2, g3, g4⟩ := hM p e h1 h2 h3 s m args below h4 h5 h6 h7
  refine ⟨n, o, g1, g2, g3, ?_⟩
  rcases g4 with g4 | ⟨q, -, E, ce, L, ⟨h9, hf, -⟩, -⟩
  · exact g4
  · exact hf.elim
theorem ys_callSW (C : xCx p s m args c cc nL Ts own D dA cl tA tyf B) (hE : xEnv D dA cl tA B nw nc ao s) {hh : List (Nat × Nat × Nat × Nat)} (hM : yMet D dA cl tA B nw nc ao W0 l y (.codeWith y bytes maxL ret hh) rm rm.cells rm.slots As h Qf (fun _ _ => False)) (hG : GoodIn Ts (Cond.codeWith y bytes maxL ret hh :: W0)) (hw1 : Cond.methodLink own idx y ∈ Ts) (hw2 : Cond.static y ∈ Ts) (hw4 : Cond.initialized y.cls ∈ Ts)
    (hd : xNm y np) (hn : As.length = np) (hrm : xRm R k n rm maxL) (hst : (st.map fun v => v.category).sum ≤ 8) (hdg : decode cc pc = .ok (.invokestatic idx, 3))
    (kk : ∀ (v : Option Value) (h1 : xH), Qf v h1 → xSafe p l e R s m args below meth c nL D dA cl tA B Q (pc + 3) lv (v.toList ++ st) h1 (k + rm.cells) (n + rm.slots)) : xSafe p l e R s m args below meth c nL D dA cl tA B Q pc lv (As.reverse ++ st) h k n := by
  intro H ls locs hR hl hS T hT X
  obtain ⟨hx, hb0, hml, hown, hts, hK, hTb, hB⟩ := C
  have hp : PreS s H (xPc D dA cl tA B nw nc ao As h) As := ⟨xPc_blind, fun U hU hW => ⟨rfl, hE.to (locs := locs) hW (by rw [hU]; exact hS), by rw [hU]; exact hR⟩⟩
  have cw : vx_CSW R s args own idx y bytes maxL ret hh (Cond.codeWith y bytes maxL ret hh :: W0) rm rm.cells rm.slots np :=
    ⟨⟨rfl, rfl, hrm.1, hrm.2.1, pay_in hts hG, List.mem_cons_self⟩, hts _ (hG _ List.mem_cons_self).1, hts _ hw4, ⟨hd.1, hd.2.1⟩, fun sig h9 => by
      have h2 := hd.2.2
      rw [h9] at h2
      exact (Option.some.inj h2).symm, hts _ hw1, hts _ hw2⟩
  obtain ⟨v, st₀, t, T', L, h0, X', hL, e1, e2, ⟨v', h1, hv, hq, hR1, hF⟩, go⟩ := vx_runSW (g := F0 m pc ls (As.reverse ++ st)) (rest := st) ⟨hx, hb0, hml, hown, hts⟩ hM.met cw hp rfl hn hl.1 rfl (lv_room (m := m) (pc := pc) (ls := ls) (rest := st) hst) hdg ⟨hrm.2.2.1, hrm.2.2.2⟩ T hT X
  cases hv
  obtain ⟨t2, a1, b1⟩ := kk v h1 hq T'.heap ls (locs ++ L) (by rw [e1]; exact hR1) hl (xS_join hS h0 hF e1 hL) T' rfl X'
  exact ⟨t2, go t2 a1, b1⟩
theorem ys_callSN (C : xCx p s m args c cc nL Ts own D dA cl tA tyf B) (hE : xEnv D dA cl tA B nw nc ao s) {host : String} (hM : yMet D dA cl tA B nw nc ao W0 l y (.code y bytes maxL ret) rm rm.cells rm.slots As h Qf (fun _ _ => False)) (hG : GoodIn Ts (Cond.code y bytes maxL ret :: W0)) (hw1 : Cond.methodLinkNest own idx y host ∈ nw) (hw2 : Cond.static y ∈ Ts) (hw4 : Cond.initialized y.cls ∈ Ts)
    (hd : xNm y np) (hn : As.length = np) (hrm : xRm R k n rm maxL) (hst : (st.map fun v => v.category).sum ≤ 8) (hdg : decode cc pc = .ok (.invokestatic idx, 3))
    (kk : ∀ (v : Option Value) (h1 : xH), Qf v h1 → xSafe p l e R s m args below meth c nL D dA cl tA B Q (pc + 3) lv (v.toList ++ st) h1 (k + rm.cells) (n + rm.slots)) : xSafe p l e R s m args below meth c nL D dA cl tA B Q pc lv (As.reverse ++ st) h k n := by
  intro H ls locs hR hl hS T hT X
  obtain ⟨hx, hb0, hml, hown, hts, hK, hTb, hB⟩ := C
  have hp : PreS s H (xPc D dA cl tA B nw nc ao As h) As := ⟨xPc_blind, fun U hU hW => ⟨rfl, hE.to (locs := locs) hW (by rw [hU]; exact hS), by rw [hU]; exact hR⟩⟩
  obtain ⟨v, st₀, t, T', L, h0, X', hL, e1, e2, ⟨v', h1, hv, hq, hR1, hF⟩, go⟩ := va_runSN (g := F0 m pc ls (As.reverse ++ st)) (rest := st) ⟨hx, hb0, hml, hown, hts⟩ hM.met ⟨va_cnB np hts hG rfl rfl rfl (hE.2.2.1 _ hw1).2 (hts _ hw4) hd ⟨hrm.1, hrm.2.1⟩, hts _ hw2, trivial⟩ hp rfl hn hl.1 rfl (lv_room (m := m) (pc := pc) (ls := ls) (rest := st) hst) hdg ⟨hrm.2.2.1, hrm.2.2.2⟩ T hT X
  cases hv
  obtain ⟨t2, a1, b1⟩ := kk v h1 hq T'.heap ls (locs ++ L) (by rw [e1]; exact hR1) hl (xS_join hS h0 hF e1 hL) T' rfl X'
  exact ⟨t2, go t2 a1, b1⟩
end YCl
section YRt
variable {p : Program} {l : Launch} {e : Env} {R : Room} {s : State} {m : MethodId} {args : Array Value} {below : List Frame} {meth : Method} {c : Code}
variable {cc : ByteArray} {nL : Nat} {Ts : List Cond} {own : String} {D : va_G} {dA : Nat → ClassId} {cl : List vw_C} {tA : List (Nat × FieldType)} {tyf : Nat → Nat → FieldType} {B : Nat} {nw : List Cond} {nc : List (String × String)} {ao : List String}
variable {pc : Nat} {lv : List (Nat × Value)} {st : List Value} {h : xH} {k n kc ks mc ms : Nat} {i : Instr} {Qf : Option Value → xH → Prop} {Xf : String → xH → Prop}
abbrev yEnd (below : List Frame) (args : Array Value) (s : State) (D : va_G) (dA : Nat → ClassId) (cl : List vw_C) (tA : List (Nat × FieldType)) (B : Nat) (Qf : Option Value → xH → Prop) (Xf : String → xH → Prop) (kc ks mc ms : Nat) : State → Prop := vy_MQ below (xQc D dA cl tA B Qf) (xXc D dA cl tA B Xf) args s kc ks mc ms (fun q => B ≤ q)
theorem ys_iret (C : xCx p s m args c cc nL Ts own D dA cl tA tyf B) (hlocks : meth.locks = false) {ty : FieldType} (hr : meth.sig.returnType = some ty) {x : Int32} (hn : narrow ty (.int x) = .int x) (hk : k ≤ kc) (hs : n ≤ ks) (hq : Qf (some (.int x)) h) (hdg : decode cc pc = .ok (.ireturn, 1)) : xSafe p l e R s m args below meth c nL D dA cl tA B (yEnd below args s D dA cl tA B Qf Xf kc ks mc ms) pc lv [.int x] h k n :=
  fun H ls locs hR hl hS => W.widen hk hs (vy_ret (W.zret C.1 C.2.1 hr hn (fun t ht hW => ⟨_, h, rfl, hq, by rw [ht]; exact hR, hS.F ht⟩) hS.2.2 hdg hlocks))
theorem ys_lret (C : xCx p s m args c cc nL Ts own D dA cl tA tyf B) (hlocks : meth.locks = false) (hr : meth.sig.returnType = some .long) {x : Int64} (hk : k ≤ kc) (hs : n ≤ ks) (hq : Qf (some (.long x)) h) (hdg : decode cc pc = .ok (.lreturn, 1)) : xSafe p l e R s m args below meth c nL D dA cl tA B (yEnd below args s D dA cl tA B Qf Xf kc ks mc ms) pc lv [.long x] h k n :=
  fun H ls locs hR hl hS => W.widen hk hs (vy_ret (W.lret C.1 C.2.1 hr (fun t ht hW => ⟨_, h, rfl, hq, by rw [ht]; exact hR, hS.F ht⟩) hS.2.2 hdg hlocks))
theorem ys_aret (C : xCx p s m args c cc nL Ts own D dA cl tA tyf B) (hlocks : meth.locks = false) {rt : FieldType} (hr : meth.sig.returnType = some rt) (hrt : (∃ z, rt = .object z) ∨ ∃ z, rt = .array z) {v : Value} (hv : v = .null ∨ ∃ a, v = .ref a) (hk : k ≤ kc) (hs : n ≤ ks) (hq : Qf (some v) h) (hdg : decode cc pc = .ok (.areturn, 1)) : xSafe p l e R s m args below meth c nL D dA cl tA B (yEnd below args s D dA cl tA B Qf Xf kc ks mc ms) pc lv [v] h k n :=
  fun H ls locs hR hl hS => W.widen hk hs (vy_ret (W.aret C.1 C.2.1 hr hrt hv (fun t ht hW => ⟨_, h, rfl, hq, by rw [ht]; exact hR, hS.F ht⟩) hS.2.2 hdg hlocks))
theorem ys_vret (C : xCx p s m args c cc nL Ts own D dA cl tA tyf B) (hlocks : meth.locks = false) (hr : meth.sig.returnType = none) (hk : k ≤ kc) (hs : n ≤ ks) (hq : Qf none h) (hdg : decode cc pc = .ok (.return_, 1)) : xSafe p l e R s m args below meth c nL D dA cl tA B (yEnd below args s D dA cl tA B Qf Xf kc ks mc ms) pc lv [] h k n :=
  fun H ls locs hR hl hS => W.widen hk hs (vy_ret (W.vret C.1 C.2.1 hr (fun t ht hW => ⟨_, h, rfl, hq, by rw [ht]; exact hR, hS.F ht⟩) hS.2.2 hdg hlocks))
theorem ys_throw (C : xCx p s m args c cc nL Ts own D dA cl tA tyf B) (hE : xEnv D dA cl tA B nw nc ao s) (hlocks : meth.locks = false) (hnt : ∀ x ∈ c.exceptionTable.toList, False) (hl0 : l.stackTraces = false) {cls : String} {names : List String} {ik ic : Nat} (hcls : Bundle.fit cls = true) (hnames : ∀ z ∈ names, Bundle.fit z = true)
    (hw1 : Cond.classLink own ik cls ∈ Ts) (hw2 : Cond.initialized cls ∈ Ts) (hat : ∀ w ∈ vx_at0 own ic cls names, w ∈ Ts ∨ w ∈ nw) (hgood : ∀ w ∈ Cond.classLink own ik cls :: Cond.initialized cls :: vx_at0 own ic cls names, vx_ot w = true)
    (d0 : decode cc pc = .ok (.new ik, 3)) (d3 : decode cc (pc + 3) = .ok (.dup, 1)) (d4 : decode cc (pc + 4) = .ok (.invokespecial ic, 3)) (d7 : decode cc (pc + 7) = .ok (.athrow, 1))
    (hRf : names.length + 3 < R.frames) (hRl : (st.map fun v => v.category).sum + (13 * (names.length + 1) + 42) ≤ R.locals) (hRc : k + 1 ≤ R.cells) (hRs : n + 6 ≤ R.slots) (hk : k + 1 ≤ mc) (hs : n + 6 ≤ ms) (hq : Xf cls h) : xSafe p l e R s m args below meth c nL D dA cl tA B (yEnd below args s D dA cl tA B Qf Xf kc ks mc ms) pc lv st h k n := by
  intro H ls locs hR hl hS
  obtain ⟨hx, hb0, hml, hown, hts, hK, hTb, hB⟩ := C
  obtain ⟨-, -, hnw, -, -, hU, hN⟩ := hE
  refine vy_throw0 hx hb0 hl0 hown hcls hnames (hts _ hw1) (hts _ hw2) (fun w hw => ?_) hgood hU hN hS (by rw [hml]; exact hl.1) d0 d3 d4 d7 (fun x hx => (hnt x hx).elim) hRf hRl hRc hRs hlocks (fun t _ h1 h2 => ⟨h, hq, fun a d hd => (hR a d hd).kept (h2 a (hR a d hd).lt), Nat.le_trans hS.1 h1, fun q g1 g2 => by rw [h2 q (Nat.lt_of_lt_of_le g1 hS.1)]; exact hS.2.1 q g1 g2⟩) hS.2.2 hk hs
  rcases hat w hw with h1 | h1
  · exact hts w h1
  · exact (hnw w h1).2.use (xNw_tab (hnw w h1).1)
theorem yt_out (hlocks : meth.locks = false) (hnt : ∀ x ∈ c.exceptionTable.toList, False) {E : String} (hk : k ≤ mc) (hs : n ≤ ms) (hq : Xf E h) : xThr p l e R s m args below meth c nL D dA cl tA B (yEnd below args s D dA cl tA B Qf Xf kc ks mc ms) pc lv st E h k n :=
  fun H ls locs q ce hR hl hS hce hcv hcl => vy_out (fun x hx => (hnt x hx).elim) hlocks hce hcv hcl (fun t ht _ => ⟨h, hq, by rw [ht]; exact hR, hS.F ht⟩) hS.2.2 hk hs
end YRt
section YBd
variable {D : va_G} {dA : Nat → ClassId} {cl : List vw_C} {tA : List (Nat × FieldType)} {tyf : Nat → Nat → FieldType} {B : Nat} {nw : List Cond} {nc : List (String × String)} {ao : List String} {W0 : List Cond} {l : Launch}
variable {y : MethodName} {cc : ByteArray} {maxL kc ks : Nat} {ret : Option FieldType} {rm : Room} {av : List Value} {h : xH} {Qf : Option Value → xH → Prop} {Xf : String → xH → Prop}
theorem yMet_of (hy : plainFor y = true) (hT : xTab cl tA tyf (Cond.code y cc maxL ret :: W0)) (hav : (lg_sl av).length ≤ maxL)
    (body : ∀ (p : Program) (e : Env) (s : State) (m : MethodId) (args : Array Value) (below : List Frame) (meth : Method) (c : Code), xCx p s m args c cc maxL (Cond.code y cc maxL ret :: W0) y.cls D dA cl tA tyf B → xEnv D dA cl tA B nw nc ao s → meth.locks = false → meth.sig.returnType = ret → meth.name = y.name → (∀ x ∈ c.exceptionTable.toList, False) →
      xSafe p l e rm s m args below meth c maxL D dA cl tA B (yEnd below args s D dA cl tA B Qf Xf kc ks rm.cells rm.slots) 0 (lv_args 0 av) [] h 0 0) : yMet D dA cl tA B nw nc ao W0 l y (.code y cc maxL ret) rm kc ks av h Qf Xf := by
  refine vy_ofW (cc := cc) (maxL := maxL) (ret := ret) hy rfl ?_
  intro p e s m args below meth c s₁ Bd hml hnt hP
  obtain ⟨rfl, hE, hR⟩ := hP
  rw [lg_entry_eq]
  exact body p e s m av.toArray below meth c ⟨Bd.exec, Bd.bytes, hml, findClass_of_methodNamed Bd.named, atoms_spec (ws := Cond.code y cc maxL ret :: W0) Bd.pre, hE.1, hT, hE.2.1⟩ hE Bd.notSynchronized Bd.returns (name_of_methodNamed Bd.named Bd.method).1 hnt s.heap _ [] hR (lv_entry av hav) va_S.rf
theorem yMet_ofH {hh : List (Nat × Nat × Nat × Nat)} (hy : plainFor y = true) (hT : xTab cl tA tyf (Cond.codeWith y cc maxL ret hh :: W0)) (hav : (lg_sl av).length ≤ maxL)
    (body : ∀ (p : Program) (e : Env) (s : State) (m : MethodId) (args : Array Value) (below : List Frame) (meth : Method) (c : Code), xCx p s m args c cc maxL (Cond.codeWith y cc maxL ret hh :: W0) y.cls D dA cl tA tyf B → xEnv D dA cl tA B nw nc ao s → meth.locks = false → meth.sig.returnType = ret → meth.name = y.name → c.exceptionTable.toList = tableOf hh →
      xSafe p l e rm s m args below meth c maxL D dA cl tA B (yEnd below args s D dA cl tA B Qf Xf kc ks rm.cells rm.slots) 0 (lv_args 0 av) [] h 0 0) : yMet D dA cl tA B nw nc ao W0 l y (.codeWith y cc maxL ret hh) rm kc ks av h Qf Xf := by
  refine vy_ofWH (cc := cc) (maxL := maxL) (ret := ret) (hh := hh) hy rfl ?_
  intro p e s m args below meth c s₁ Bd hml hP
  obtain ⟨rfl, hE, hR⟩ := hP
  rw [lg_entry_eq]
  have hts := atoms_spec (ws := Cond.codeWith y cc maxL ret hh :: W0) Bd.pre
  exact body p e s m av.toArray below meth c ⟨Bd.exec, Bd.bytes, hml, findClass_of_methodNamed Bd.named, hts, hE.1, hT, hE.2.1⟩ hE Bd.notSynchronized Bd.returns (name_of_methodNamed Bd.named Bd.method).1 (vx_table (x := y) Bd (hts _ List.mem_cons_self)) s.heap _ [] hR (lv_entry av hav) va_S.rf
end YBd
