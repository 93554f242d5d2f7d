/-! AX, calls that may throw, and the catching of what they threw -/
section AXH
/-- what a search through a table of handlers gives, whatever is asked afterwards; it may note what it resolved -/
def ax_Finds (e : Env) (s : State) (f : JFrame) (a : Addr) (h : Handler) (vm' : Vm) : Prop :=
  ∀ (Q : Handler → Pre) (E : CtlPost) (d : Bool) (acts : List Action), wp (findHandler f a) Q E e d acts s ↔ Q h d acts (s.setVm vm')
theorem ax_hHit {Q : Handler → Pre} {E : CtlPost} {e : Env} {d : Bool} {acts : List Action} {s : State} {f : JFrame} {a : Addr} {x : ExceptionTableEntry} {t : List ExceptionTableEntry} {c : ClassId} {cell : Cell} (hx : covers x f.pc = true) (h0 : x.catchType ≠ 0)
    (hl : s.vm.ClassLinks e.platform f.method.cls x.catchType c) (hcell : s.heap[a]? = some cell) (hobj : ∀ k, cell.vm ≠ .statics k) (hk : ∃ k, s.vm.classes[cell.cls]? = some k) (hc : ∃ k, s.vm.classes[c]? = some k) (hyes : s.vm.assignable cell.cls c = true) :
    wp (findHandler.go f a (x :: t)) Q E e d acts s ↔ Q (.found x.handlerPc) d acts (s.setVm (s.vm.noted f.method.cls x.catchType (.cls c))) := by
  simp only [covers] at hx
  obtain ⟨ha, ht⟩ := (resolveClass_links e.toSetting hl).op (op := VmOp.resolveClass f.method.cls x.catchType) rfl
  have hal : s.vm.Alike (s.vm.noted f.method.cls x.catchType (.cls c)) := (Vm.Alike.refl s.vm).noted _ _ _
  obtain ⟨k1, hk1⟩ := hk
  obtain ⟨k2, hk2⟩ := hc
  obtain ⟨k1', hk1', -⟩ := hal.2.2 _ _ hk1
  obtain ⟨k2', hk2', -⟩ := hal.2.2 _ _ hk2
  have hyes' : (s.vm.noted f.method.cls x.catchType (.cls c)).assignable cell.cls c = true := by rw [hal.assignable]; exact hyes
  simp [findHandler.go, hx, h0, ha, ht, hcell, hobj, hk1', hk2', hyes', VmOp.dirties, VmOp.acts]
theorem ax_hMiss {Q : Handler → Pre} {E : CtlPost} {e : Env} {d : Bool} {acts : List Action} {s : State} {f : JFrame} {a : Addr} {x : ExceptionTableEntry} {t : List ExceptionTableEntry} {c : ClassId} {cell : Cell} (hx : covers x f.pc = true) (h0 : x.catchType ≠ 0)
    (hl : s.vm.ClassLinks e.platform f.method.cls x.catchType c) (hcell : s.heap[a]? = some cell) (hobj : ∀ k, cell.vm ≠ .statics k) (hk : ∃ k, s.vm.classes[cell.cls]? = some k) (hc : ∃ k, s.vm.classes[c]? = some k) (hno : s.vm.assignable cell.cls c = false) :
    wp (findHandler.go f a (x :: t)) Q E e d acts s ↔ wp (findHandler.go f a t) Q E e d acts (s.setVm (s.vm.noted f.method.cls x.catchType (.cls c))) := by
  simp only [covers] at hx
  obtain ⟨ha, ht⟩ := (resolveClass_links e.toSetting hl).op (op := VmOp.resolveClass f.method.cls x.catchType) rfl
  have hal : s.vm.Alike (s.vm.noted f.method.cls x.catchType (.cls c)) := (Vm.Alike.refl s.vm).noted _ _ _
  obtain ⟨k1, hk1⟩ := hk
  obtain ⟨k2, hk2⟩ := hc
  obtain ⟨k1', hk1', -⟩ := hal.2.2 _ _ hk1
  obtain ⟨k2', hk2', -⟩ := hal.2.2 _ _ hk2
  have hno' : (s.vm.noted f.method.cls x.catchType (.cls c)).assignable cell.cls c = false := by rw [hal.assignable]; exact hno
  simp [findHandler.go, hx, h0, ha, ht, hcell, hobj, hk1', hk2', hno', VmOp.dirties, VmOp.acts]
/-- the rows ahead link to classes that don't take it, the next one takes it -/
theorem ax_hgo {e : Env} {s0 : State} {f : JFrame} {a : Addr} {cell : Cell} (hobj : ∀ k, cell.vm ≠ .statics k) (hk0 : ∃ k, s0.vm.classes[cell.cls]? = some k) (x : ExceptionTableEntry) (rest : List ExceptionTableEntry) (hx : covers x f.pc = true) (h0 : x.catchType ≠ 0) {cx : ClassId} (hlx : s0.vm.ClassLinks e.platform f.method.cls x.catchType cx) (hfx : s0.vm.assignable cell.cls cx = true) :
    ∀ (pre : List ExceptionTableEntry) (S : State), s0.WarmedH S.vm → S.heap[a]? = some cell → (∀ y ∈ pre, covers y f.pc = true ∧ y.catchType ≠ 0 ∧ ∃ c, s0.vm.ClassLinks e.platform f.method.cls y.catchType c ∧ s0.vm.assignable cell.cls c = false) →
      ∃ vm', s0.WarmedH vm' ∧ ∀ (Q : Handler → Pre) (E : CtlPost) (d : Bool) (acts : List Action), wp (findHandler.go f a (pre ++ x :: rest)) Q E e d acts S ↔ Q (.found x.handlerPc) d acts (S.setVm vm') := by
  obtain ⟨k0, hk0⟩ := hk0
  intro pre
  induction pre with
  | nil =>
    intro S hW hcell _
    obtain ⟨k0', hk0', -⟩ := hW.alike.2.2 _ _ hk0
    obtain ⟨dk, _, _, kt, hd, _, _, _, _, hkt, _, hopen⟩ := hlx.here
    obtain ⟨kt', hkt', -⟩ := hW.alike.2.2 _ _ hkt
    exact ⟨_, hW.noted hd hopen (State.rightAt_cls hlx), fun Q E d acts => by
      rw [List.nil_append]
      exact ax_hHit hx h0 (hW.classLinks hlx) hcell hobj ⟨k0', hk0'⟩ ⟨kt', hkt'⟩ (by rw [hW.alike.assignable]; exact hfx)⟩
  | cons y ys ih =>
    intro S hW hcell hpass
    obtain ⟨k0', hk0', -⟩ := hW.alike.2.2 _ _ hk0
    obtain ⟨hcov, hy0, c, hl, hno⟩ := hpass y List.mem_cons_self
    obtain ⟨dk, _, _, kt, hd, _, _, _, _, hkt, _, hopen⟩ := hl.here
    obtain ⟨kt', hkt', -⟩ := hW.alike.2.2 _ _ hkt
    obtain ⟨vm', hW', hq⟩ := ih (S.setVm (S.vm.noted f.method.cls y.catchType (.cls c))) (hW.noted hd hopen (State.rightAt_cls hl)) hcell (fun z hz => hpass z (List.mem_cons_of_mem _ hz))
    exact ⟨vm', hW', fun Q E d acts => by
      rw [List.cons_append, ax_hMiss hcov hy0 (hW.classLinks hl) hcell hobj ⟨k0', hk0'⟩ ⟨kt', hkt'⟩ (by rw [hW.alike.assignable]; exact hno)]
      exact hq Q E d acts⟩
theorem ax_stepCatch {e : Env} {s : State} {a : Addr} {f : JFrame} {r : List Frame} {pc : Nat} {vm' : Vm} (hfind : ax_Finds e s f a (.found pc) vm') :
    (stepThrowing e s a (.java f :: r)).Is ((s.setVm vm').setFrames (.java { f with pc := pc, stack := [.ref a] } :: r)) [] := by
  simp only [stepThrowing, searchFrame, vmDo]
  generalize hr : Sem.go _ e false [] s = res
  obtain ⟨as, rfl, ha⟩ := Sem.eq_ok_of hr (a := Handler.found pc) (s' := s.setVm vm') (acts' := []) (by simp [hfind _ _ _ _])
  exact ⟨rfl, ha⟩
theorem ax_stepsCatch {tb : Tables} {e : Env} {s target : State} {g : JFrame} {c : Code} {below : List Frame} {a : Addr} {vm' : Vm} (h : At s g.method c below) {pc : Nat} (hfind : ax_Finds e ((s.setTop g).pushFrame (.throwing a)) g a (.found pc) vm')
    (hrest : Steps tb e below ((s.setVm vm').setTop { g with pc := pc, stack := [.ref a] }) target) :
    Steps tb e below ((s.setTop g).pushFrame (.throwing a)) target := by
  obtain ⟨hgo, hw⟩ := h.throwing a
  refine Steps.head hgo hw ?_
  rw [stepThread_throwing (frames_entered h.top _), (ax_stepCatch (s := (s.setTop g).pushFrame (.throwing a)) hfind).1]
  obtain ⟨g₀, hg⟩ := Option.isSome_iff_exists.mp h.top
  obtain ⟨r, hr⟩ := State.topJava?_eq_some.mp hg
  have hr' : (s.setVm vm').frames = .java g₀ :: r := hr
  rw [State.setTop_of_frames _ hr'] at hrest
  rw [State.pushFrame, State.setTop_of_frames _ hr, State.setFrames_setFrames]
  show Steps tb e below ((((s.setVm vm').setFrames _)).setFrames _) target
  rw [State.setFrames_setFrames, hr]
  exact hrest
end AXH
/-- a call that returns or throws: the walk's own point behind it -/
theorem ax_pay {p : Program} {l : Launch} {e : Env} {Rm : Room} {s : State} {m : MethodId} {args : Array Value} {below : List Frame} {meth : Method} {c : Code} {U : State} {locs : List Loc} {cells slots : Nat} {g : JFrame} {ig : Instr} {len : Nat} {mk : MethodId} {a : Array Value} {y : MethodName} {bytes : ByteArray} {maxL : Nat} {ret : Option FieldType} {rm' : Room} {Pc : Array Value → State → Prop} {G : ax_G} {ad : Nat → Nat} {S : ax_S} {sz : Nat} {RX : ax_RX}
    (X : Stand p l e Rm s m args below meth c U locs cells slots) (hg : g.method = m) (hsize : g.locals.size = c.maxLocals) (hdg : decode c.code g.pc = .ok (ig, len)) (hW : 2 * g.monitorRoom + (g.stack.map fun v => v.category).sum ≤ 8) (hn : U.methodNamed? y = some mk)
    (hM : MetFree l y (headSpec (Cond.code y bytes maxL ret :: ax_tb) rm') Pc (fun _ _ _ _ _ => True) (ax_PostX G ad S sz rm'.cells rm'.slots RX)) (hPc : Pc a (U.calling g mk a)) (hrm : ax_rmle rm' Rm maxL) (hcs : cells + rm'.cells ≤ Rm.cells) (hss : slots + rm'.slots ≤ Rm.slots)
    (hws : ∀ w ∈ Cond.code y bytes maxL ret :: ax_tb, ∀ (a' : Array Value) (V : State), s.WarmedH V.vm → w.before a' V = true) (hini : Cond.initialized y.cls ∈ ax_tb) :
    ∃ (o : Outcome) (t B : State) (Ls : List Loc), ax_PostX G ad S sz rm'.cells rm'.slots RX a (U.calling g mk a) o t ∧ B.heap = t.heap ∧ B.vm = t.vm ∧ Stand p l e Rm s m args below meth c B (locs ++ Ls) (cells + rm'.cells) (slots + rm'.slots) ∧ (∀ q ∈ Ls, ax_A ad S sz q.base) ∧
      (∀ v, o = .returned v → Steps p.tables e below (doInvoke e (U.setTop g) [] mk a).1 (B.setTop { g with pc := g.pc + len, stack := v.toList ++ g.stack })) ∧
      (∀ q, o = .threw q → Steps p.tables e below (doInvoke e (U.setTop g) [] mk a).1 ((B.setTop g).pushFrame (.throwing q))) := by
  have h1 : (headSpec (Cond.code y bytes maxL ret :: ax_tb) rm').pre.before a U = true := atoms_intro fun w hw => hws w hw _ _ X.warmed
  have h2 : (Cond.code y bytes maxL ret).before a U = true := hws _ List.mem_cons_self _ _ X.warmed
  have h3 : (Cond.initialized y.cls).before a U = true := hws _ (List.mem_cons_of_mem _ hini) _ _ X.warmed
  obtain ⟨methY, cY, hmY, hcY, -, hlY, -, -, -, -⟩ := Cond.code_spec hn h2
  obtain ⟨kY, hkY, -⟩ := className_of_methodNamed hn
  have hinitY : kY.init = .initialized := Cond.initialized_spec (findClass_of_methodNamed hn) hkY h3
  have h : At U g.method c below := by rw [hg]; exact X.here
  have hlo : 8 + (maxL + 11) + rm'.locals ≤ Rm.locals := hrm.2
  have happ : (headSpec (Cond.code y bytes maxL ret :: ax_tb) rm').appliesLoose y e.platform (U.calling g mk a) = true :=
    Spec.appliesLoose_calling (g := g) h hdg hn hkY hinitY (X.room_calling (g := g) (R' := rm') hsize hmY hcY hrm.1 (by rw [hlY]; omega) hcs hss) h1
  obtain ⟨mid, hmid⟩ := h.above
  have hfr : (U.setTop g).frames = (.java g :: mid) ++ below := by rw [State.frames_setTop' g h.top, hmid]; rfl
  obtain ⟨o, t, hsteps, -, hend, hq⟩ := Steps.callFree hM p X.admits X.cas X.clock (acts := []) hfr happ hPc trivial
  have hq' : ax_PostX G ad S sz rm'.cells rm'.slots RX a (U.calling g mk a) o t := hq
  rw [State.frames_setTop' g h.top] at hend
  obtain ⟨g₀, hg0⟩ := Option.isSome_iff_exists.mp h.top
  obtain ⟨r, hr⟩ := State.topJava?_eq_some.mp hg0
  obtain ⟨-, -, Ls, hW₂, hsm, hL⟩ := id hq'
  obtain ⟨e2, q2, q3, q4, q5, q6⟩ := id hsm
  have hW' : U.WarmedH t.vm := hW₂
  have hr' : (({ U with heap := t.heap, slotsUsed := t.slotsUsed } : State).setVm t.vm).frames = .java g₀ :: r := hr
  have e3 : t = ({ (U.calling g mk a).setFrames t.frames with heap := t.heap, slotsUsed := t.slotsUsed } : State).setVm t.vm := by
    have : t = ({ t with vm := (U.calling g mk a).vm } : State).setVm t.vm := rfl
    rw [e2] at this
    exact this
  have hsame : U.sameButNew ({ U with heap := t.heap, slotsUsed := t.slotsUsed } : State) Ls rm'.cells rm'.slots := by
    refine ⟨?_, q2, q3, q4, q5, q6⟩
    obtain ⟨w, hw, -⟩ := State.frames_cons hr
    show ({ U with heap := t.heap, slotsUsed := t.slotsUsed } : State) = { U.setFrames U.frames with heap := t.heap, slotsUsed := t.slotsUsed }
    rw [State.setFrames_self hw]
  subst hg
  refine ⟨o, t, ({ U with heap := t.heap, slotsUsed := t.slotsUsed } : State).setVm t.vm, Ls, hq', rfl, rfl,
    ⟨X.admits, X.cas, X.clock, X.frames, X.room, X.hears, X.method, X.code, (X.here.setHeapUsed t.heap t.slotsUsed).setVm hW'.alike, X.tail, State.WarmedH.trans X.warmed hW', X.limits, X.bytes, X.same.trans (hsame.setVm s.vm)⟩, hL, fun v hv => ?_, fun q hv => ?_⟩
  · subst hv
    obtain ⟨c₂, i₂, len₂, hc₂, hd₂, hf₂⟩ := hend
    have hcc : c₂ = c := by
      have h9 : t.code? g.method = U.code? g.method := by
        rw [State.code?_eq, State.code?_eq, hW'.alike.method?]
      exact Option.some.inj (hc₂.symm.trans (h9.trans h.code))
    subst hcc
    have hlen : len₂ = len := by rw [hdg] at hd₂; cases hd₂; rfl
    subst hlen
    have ht : t = (({ U with heap := t.heap, slotsUsed := t.slotsUsed } : State).setVm t.vm).setTop { g with pc := g.pc + len₂, stack := v.toList ++ g.stack } := by
      refine e3.trans ?_
      rw [hf₂, State.calling_eq h.top, State.setFrames_setFrames, State.setTop_of_frames _ hr', hr]
      rfl
    rw [← ht]
    exact hsteps
  · subst hv
    have hf₂ : t.frames = .throwing q :: .java g :: U.frames.tail := hend
    have ht : t = ((({ U with heap := t.heap, slotsUsed := t.slotsUsed } : State).setVm t.vm).setTop g).pushFrame (.throwing q) := by
      refine e3.trans ?_
      rw [hf₂, State.calling_eq h.top, State.setFrames_setFrames, State.pushFrame, State.frames_setTop _ hr', State.setTop_of_frames _ hr', State.setFrames_setFrames, hr]
      rfl
    rw [← ht]
    exact hsteps
/-- contracts of methods that may throw; of methods that have handlers -/
def ax_MetX (l : Launch) (y : MethodName) (bytes : ByteArray) (maxL : Nat) (ret : Option FieldType) (rm : Room) (vs : List Value) (S : ax_S) (I : ax_I) (R : ax_R) (L : ax_L) (RX : ax_RX) : Prop :=
  ∀ (G : ax_G) (ad : Nat → Nat) (sz : Nat), MetFree l y (headSpec (Cond.code y bytes maxL ret :: ax_tb) rm) (ax_Pre G ad sz vs S I R L) (fun _ _ _ _ _ => True) (ax_PostX G ad S sz rm.cells rm.slots RX)
def ax_MetW (l : Launch) (y : MethodName) (bytes : ByteArray) (maxL : Nat) (ret : Option FieldType) (hh : List (Nat × Nat × Nat × Nat)) (rm : Room) (vs : List Value) (S : ax_S) (I : ax_I) (R : ax_R) (L : ax_L) (Rs : ax_Rs) : Prop :=
  ∀ (G : ax_G) (ad : Nat → Nat) (sz : Nat), Met l y (Cond.codeWith y bytes maxL ret hh :: ax_tb) rm (ax_Pre G ad sz vs S I R L) (ax_Post G ad S sz Rs) rm.cells rm.slots (ax_A ad S sz)
def ax_hh (X : ax_X) (hh : List (Nat × Nat × Nat × Nat)) : Prop := match X with
  | (_, _, _, _, _, _, _, _, _, c, _, _, _, _, _) => c.exceptionTable.toList.map (fun h => (h.startPc, h.endPc, h.handlerPc, h.catchType)) = hh
/-- what is thrown lies over this frame -/
def ax_T (X : ax_X) (nL : Nat) (pc : Nat) (ls : ax_Ls) (E : String) (S : ax_S) (I : ax_I) (R : ax_R) (L : ax_L) (cs ss : Nat) : Prop := match X with
  | (p, l, e, Rm, s, m, args, below, meth, c, G, A, ad0, S0, Q) => ∀ (ad : Nat → Nat) (H : Heap) (locs : List Loc) (lsC : Array Slot) (q : Addr) (ce : Cell) (rest : List Value), (∀ i, S0 i ≠ none → S i ≠ none ∧ ad i = ad0 i) → (∀ i, S i ≠ none → A (ad i)) → ax_Rep G ad S I R L H → va_S A s.heap H locs → ax_loc ad nL ls lsC → ax_live S ls [] → H[q]? = some ce → ce.vm = .none → s.vm.findClass E = some ce.cls →
      ∀ T : State, T.heap = H → Stand p l e Rm s m args below meth c T locs cs ss → ∃ t, Steps p.tables e below ((T.setTop (F0 m pc lsC rest)).pushFrame (.throwing q)) t ∧ Q t
section AXX
variable {X : ax_X} {l : Launch} {own : String} {cc : ByteArray} {nL : Nat} {rm : Room} {pc q : Nat} {ls : ax_Ls} {st : List Value} {S : ax_S} {I : ax_I} {R : ax_R} {L : ax_L} {cs ss mc ms : Nat} {ret : Option FieldType} {RX : ax_RX}
theorem ax_enterX {y : MethodName} {bytes : ByteArray} {maxL : Nat} {vs : List Value} (hy : plainName y.cls = true) (hyo : y.cls = own) (hc : ∀ v ∈ vs, v.category = 1) (hn : vs.length ≤ maxL)
    (body : ∀ X, ax_ok X l own bytes maxL rm → ax_fin X ret rm.cells rm.slots RX → ax_noh X → ax_S0 X = S → ax_W X maxL 0 (vs.map some ++ List.replicate (maxL - vs.length) none) [] S I R L 0 0) :
    ax_MetX l y bytes maxL ret rm vs S I R L RX := by
  intro G ad sz
  refine MetFree.of_bodyS (code := bytes) (maxLocals := maxL) (ret := ret) hy ?_ ?_
  · intro args s m h hn
    obtain ⟨meth, c, h1, h2, h3, h4, h5, h6, -, -⟩ := Cond.code_spec hn (atoms_spec (ws := Cond.code y bytes maxL ret :: ax_tb) h _ List.mem_cons_self)
    exact ⟨meth, c, h1, h2, h3, h4, h5, h6⟩
  · intro p e s m args below meth c s₁ B hml hv _
    have hh0 : s₁.heap = s.heap := by rw [B.state]; rfl
    obtain ⟨rfl, hsz, hR, hK, hok⟩ := hv
    subst hsz
    have hts0 := atoms_spec (ws := Cond.code y bytes maxL ret :: ax_tb) B.pre
    have hown : s.vm.findClass own = some m.cls := by rw [← hyo]; exact findClass_of_methodNamed B.named
    have hlk := B.notSynchronized
    have hnoh : c.exceptionTable.toList = [] := by
      obtain ⟨meth9, c9, h1, h2, -, -, -, -, h7, -⟩ := Cond.code_spec B.named (hts0 _ List.mem_cons_self)
      have X9 := Stand.of_body B
      cases X9.method.symm.trans h1
      cases X9.code.symm.trans h2
      simpa [Array.isEmpty_iff] using h7
    have hA : ∀ q : Nat, s.heap.size ≤ q → ax_A ad S s.heap.size q := fun q h => Or.inr h
    have hcat : ∀ v ∈ vs.map (ax_tv ad), v.category = 1 := fun v hv => by
      obtain ⟨w, hw, e⟩ := List.mem_map.mp hv
      rw [← e, ax_tv_cat]
      exact hc w hw
    have hb := body (p, l, e, rm, s, m, (vs.map (ax_tv ad)).toArray, below, meth, c, G, ax_A ad S s.heap.size, ad, S, ax_Q below s G ad S s.heap.size rm.cells rm.slots RX)
      ⟨rfl, rfl, B.exec, B.bytes, hml, hown, fun w hw => hts0 w (List.mem_cons_of_mem _ hw), hK, hA, hlk⟩ ⟨B.returns, rfl, rfl⟩ hnoh rfl
    have hw := hb ad s.heap [] (((vs.map (ax_tv ad)).map Slot.val ++ List.replicate (maxL - (vs.map (ax_tv ad)).length) Slot.unset).toArray) (fun i hi => ⟨hi, rfl⟩) (fun i hi => Or.inl ⟨i, hi, rfl⟩) hR va_S.rf (ax_entry_loc ad vs hc hn)
      ⟨fun v hv => (by cases hv), fun v hv => by
        rcases List.mem_append.mp hv with h1 | h1
        · obtain ⟨w, hw, e⟩ := List.mem_map.mp h1
          cases e
          exact hok _ hw
        · have := List.eq_of_mem_replicate h1
          cases this⟩
    obtain ⟨t, a1, o, b1, b2, b3⟩ := hw s₁ hh0 (Stand.of_body B)
    rw [entry_eq m _ hcat]
    exact ⟨t, o, a1, b1, b2, b3⟩
theorem ax_enterW {y : MethodName} {bytes : ByteArray} {maxL : Nat} {vs : List Value} {hh : List (Nat × Nat × Nat × Nat)} {Rs : ax_Rs} (hy : plainName y.cls = true) (hyo : y.cls = own) (hc : ∀ v ∈ vs, v.category = 1) (hn : vs.length ≤ maxL)
    (body : ∀ X, ax_ok X l own bytes maxL rm → ax_fin X ret rm.cells rm.slots (ax_of Rs) → ax_hh X hh → ax_S0 X = S → ax_W X maxL 0 (vs.map some ++ List.replicate (maxL - vs.length) none) [] S I R L 0 0) :
    ax_MetW l y bytes maxL ret hh rm vs S I R L Rs := by
  intro G ad sz
  refine va_MetW (cc := bytes) (maxL := maxL) (ret := ret) (hh := hh) hy rfl ?_
  intro p e s m args below meth c s₁ B hml hv
  obtain ⟨rfl, hsz, hR, hK, hok⟩ := hv
  subst hsz
  have hts0 := atoms_spec (ws := Cond.codeWith y bytes maxL ret hh :: ax_tb) B.pre
  have hown : s.vm.findClass own = some m.cls := by rw [← hyo]; exact findClass_of_methodNamed B.named
  have hlk := B.notSynchronized
  have hhh : c.exceptionTable.toList.map (fun h => (h.startPc, h.endPc, h.handlerPc, h.catchType)) = hh := by
    obtain ⟨m9, meth9, c9, hn9, h1, h2, -, -, h7, -⟩ := Cond.codeWith_spec (hts0 _ List.mem_cons_self)
    cases B.named.symm.trans hn9
    have X9 := Stand.of_body B
    cases X9.method.symm.trans h1
    cases X9.code.symm.trans h2
    exact h7
  have hA : ∀ q : Nat, s.heap.size ≤ q → ax_A ad S s.heap.size q := fun q h => Or.inr h
  have hcat : ∀ v ∈ vs.map (ax_tv ad), v.category = 1 := fun v hv => by
    obtain ⟨w, hw, e⟩ := List.mem_map.mp hv
    rw [← e, ax_tv_cat]
    exact hc w hw
  rw [entry_eq m _ hcat]
  have hb := body (p, l, e, rm, s, m, (vs.map (ax_tv ad)).toArray, below, meth, c, G, ax_A ad S s.heap.size, ad, S, ax_Q below s G ad S s.heap.size rm.cells rm.slots (ax_of Rs))
    ⟨rfl, rfl, B.exec, B.bytes, hml, hown, fun w hw => hts0 w (List.mem_cons_of_mem _ hw), hK, hA, hlk⟩ ⟨B.returns, rfl, rfl⟩ hhh rfl
  have hw := hb ad s.heap [] (((vs.map (ax_tv ad)).map Slot.val ++ List.replicate (maxL - (vs.map (ax_tv ad)).length) Slot.unset).toArray) (fun i hi => ⟨hi, rfl⟩) (fun i hi => Or.inl ⟨i, hi, rfl⟩) hR va_S.rf (ax_entry_loc ad vs hc hn)
    ⟨fun v hv => (by cases hv), fun v hv => by
      rcases List.mem_append.mp hv with h1 | h1
      · obtain ⟨w, hw, e⟩ := List.mem_map.mp h1
        cases e
        exact hok _ hw
      · have := List.eq_of_mem_replicate h1
        cases this⟩
  refine ax_mono ?_ hw
  rintro t ⟨o, h1, h2, ⟨r, S', I', R', L', ad', hr, hm, hw'⟩, h5, Ls, h6, h7, h8⟩
  cases r with
  | inr E => exact absurd hr (fun z => z)
  | inl v => exact ⟨o, h1, h2, ⟨⟨v, S', I', R', L', ad', hr, hm.1, hm.2, hw'⟩, h5⟩, Ls, ⟨⟨_, hm.1⟩, h6, h7⟩, h8⟩
end AXX
