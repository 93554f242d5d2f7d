/-! AX, contracts: what a method does, its calls, its ends -/
/-- what a method may change: the cells of the ids, and those that it makes -/
def ax_A (ad : Nat → Nat) (S : ax_S) (sz : Nat) : Nat → Prop := fun q => (∃ i, S i ≠ none ∧ q = ad i) ∨ sz ≤ q
abbrev ax_Rs : Type := Option Value → ax_S → ax_I → ax_R → ax_L → Prop
abbrev ax_RX : Type := (Option Value ⊕ String) → ax_S → ax_I → ax_R → ax_L → Prop
/-- the usual end: this answer, this memory -/
def ax_eq (r : Option Value) (S : ax_S) (I : ax_I) (R : ax_R) (L : ax_L) : ax_Rs := fun r' S' I' R' L' => r' = r ∧ S' = S ∧ I' = I ∧ R' = R ∧ L' = L
theorem ax_eq.mk {r : Option Value} {S : ax_S} {I : ax_I} {R : ax_R} {L : ax_L} : ax_eq r S I R L r S I R L := ⟨rfl, rfl, rfl, rfl, rfl⟩
def ax_of (Rs : ax_Rs) : ax_RX := fun r => match r with
  | .inl v => Rs v
  | .inr _ => fun _ _ _ _ => False
def ax_Pre (G : ax_G) (ad : Nat → Nat) (sz : Nat) (vs : List Value) (S : ax_S) (I : ax_I) (R : ax_R) (L : ax_L) : Array Value → State → Prop := va_Pc (vs.map (ax_tv ad)) (fun U => U.heap.size = sz ∧ ax_Rep G ad S I R L U.heap ∧ ax_K G U ∧ ∀ v ∈ vs, ax_okv S v)
def ax_World (G : ax_G) (ad : Nat → Nat) (S : ax_S) (sz : Nat) (ad' : Nat → Nat) (S' : ax_S) (I' : ax_I) (R' : ax_R) (L' : ax_L) (H' : Heap) : Prop :=
  (∀ i sh, S i = some sh → S' i = some sh) ∧ (∀ i, S i ≠ none → ad' i = ad i) ∧ (∀ i, S' i ≠ none → ax_A ad S sz (ad' i)) ∧ ax_Rep G ad' S' I' R' L' H'
def ax_Post (G : ax_G) (ad : Nat → Nat) (S : ax_S) (sz : Nat) (Rs : ax_Rs) : Array Value → State → Outcome → State → Prop := fun _ st o t =>
  (∃ r S' I' R' L' ad', Rs r S' I' R' L' ∧ o = .returned (r.map (ax_tv ad')) ∧ (∀ v, r = some v → ax_okv S' v) ∧ ax_World G ad S sz ad' S' I' R' L' t.heap) ∧ va_F (ax_A ad S sz) st t
def ax_Met (l : Launch) (y : MethodName) (bytes : ByteArray) (maxL : Nat) (ret : Option FieldType) (rm : Room) (vs : List Value) (S : ax_S) (I : ax_I) (R : ax_R) (L : ax_L) (Rs : ax_Rs) : Prop :=
  ∀ (G : ax_G) (ad : Nat → Nat) (sz : Nat), Met l y (Cond.code y bytes maxL ret :: ax_tb) rm (ax_Pre G ad sz vs S I R L) (ax_Post G ad S sz Rs) rm.cells rm.slots (ax_A ad S sz)
/-- a method's end, by an answer or by a throw -/
def ax_PostX (G : ax_G) (ad : Nat → Nat) (S : ax_S) (sz mc ms : Nat) (RX : ax_RX) : Array Value → State → Outcome → State → Prop := fun _ s o t =>
  (∃ r S' I' R' L' ad', RX r S' I' R' L' ∧ (match r with
    | .inl v => o = .returned (v.map (ax_tv ad')) ∧ ∀ w, v = some w → ax_okv S' w
    | .inr E => ∃ (q : Addr) (ce : Cell), o = .threw q ∧ t.heap[q]? = some ce ∧ ce.vm = .none ∧ s.vm.findClass E = some ce.cls) ∧ ax_World G ad S sz ad' S' I' R' L' t.heap) ∧ va_F (ax_A ad S sz) s t ∧
  ∃ Ls, s.WarmedH t.vm ∧ s.sameButNew ({ t with vm := s.vm } : State) Ls mc ms ∧ ∀ q ∈ Ls, ax_A ad S sz q.base
def ax_Q (below : List Frame) (s : State) (G : ax_G) (ad : Nat → Nat) (S : ax_S) (sz mc ms : Nat) (RX : ax_RX) : State → Prop := fun t => ∃ o, t.status = .running ∧ Ended t below o ∧ ax_PostX G ad S sz mc ms RX #[] s o t
def ax_fin (X : ax_X) (ret : Option FieldType) (mc ms : Nat) (RX : ax_RX) : Prop := match X with
  | (_, _, _, _, s, _, _, below, meth, _, G, A, ad0, S0, Q) => meth.sig.returnType = ret ∧ A = ax_A ad0 S0 s.heap.size ∧ Q = ax_Q below s G ad0 S0 s.heap.size mc ms RX
theorem ax_mono {p : Program} {l : Launch} {e : Env} {R : Room} {s : State} {m : MethodId} {args : Array Value} {below : List Frame} {meth : Method} {c : Code} {H : Heap} {locs : List Loc} {cells slots : Nat} {Q Q' : State → Prop} {g : JFrame} (hq : ∀ t, Q t → Q' t) (k : W p l e R s m args below meth c H locs cells slots Q g) : W p l e R s m args below meth c H locs cells slots Q' g := by
  intro T hT X
  obtain ⟨t, a, b⟩ := k T hT X
  exact ⟨t, a, hq t b⟩
/-- the first ids, as the walk's fixed part has them -/
def ax_S0 (X : ax_X) : ax_S := X.2.2.2.2.2.2.2.2.2.2.2.2.2.1
section AXE
variable {X : ax_X} {l : Launch} {own : String} {cc : ByteArray} {nL : Nat} {rm : Room} {pc q : Nat} {ls : ax_Ls} {st : List Value} {S : ax_S} {I : ax_I} {R : ax_R} {L : ax_L} {cs ss mc ms : Nat} {ret : Option FieldType} {RX : ax_RX}
theorem ax_MQ {below : List Frame} {s : State} {args : Array Value} {G : ax_G} {ad0 ad : Nat → Nat} {S0 S : ax_S} {sz mc ms : Nat} {RX : ax_RX} {H : Heap} {v : Option Value}
    (hr : RX (.inl v) S I R L) (hv : ∀ w, v = some w → ax_okv S w) (hw : ax_World G ad0 S0 sz ad S I R L H) :
    ∀ t, MQ below (fun _ st o t => (o = .returned (v.map (ax_tv ad)) ∧ t.heap = H) ∧ va_F (ax_A ad0 S0 sz) st t) args s mc ms (ax_A ad0 S0 sz) t → ax_Q below s G ad0 S0 sz mc ms RX t := by
  rintro t ⟨o, h1, h2, ⟨⟨h3, h4⟩, h5⟩, Ls, ⟨-, h6, h7⟩, h8⟩
  exact ⟨o, h1, h2, ⟨.inl v, S, I, R, L, ad, hr, ⟨h3, hv⟩, by rw [h4]; exact hw⟩, h5, Ls, h6, h7, h8⟩
theorem ax_iret (h : ax_ok X l own cc nL rm) (hf : ax_fin X ret mc ms RX) {ty : FieldType} {v : Int32} (hd : decode cc pc = .ok (.ireturn, 1)) (hret : ret = some ty) (hn : narrow ty (.int v) = .int v) (hc : cs ≤ mc) (hs : ss ≤ ms) (hr : RX (.inl (some (.int v))) S I R L) (hSS : ∀ i sh, ax_S0 X i = some sh → S i = some sh) : ax_W X nL pc ls [.int v] S I R L cs ss := by
  obtain ⟨p, l1, e, Rm, s, m, args, below, meth, c, G, A, ad0, S0, Q⟩ := X
  obtain ⟨rfl, rfl, hx, hb, hml, hown, hts, hK, hA, hlk⟩ := h
  obtain ⟨hret1, rfl, rfl⟩ := hf
  intro ad H locs lsC h0 hAd hR hS hl hlv
  refine W.widen hc hs ?_
  refine ax_mono (ax_MQ hr (fun w hw => hlv.1 w (by cases hw; exact List.mem_cons_self)) ⟨hSS, fun i hi => (h0 i hi).2, hAd, hR⟩) (W.zret hx hb (hret1.trans hret) hn (fun t ht hW => ⟨⟨rfl, ht⟩, hS.F ht⟩) hS.2.2 hd hlk)
theorem ax_vret (h : ax_ok X l own cc nL rm) (hf : ax_fin X none mc ms RX) (hd : decode cc pc = .ok (.return_, 1)) (hc : cs ≤ mc) (hs : ss ≤ ms) (hr : RX (.inl none) S I R L) (hSS : ∀ i sh, ax_S0 X i = some sh → S i = some sh) : ax_W X nL pc ls [] S I R L cs ss := by
  obtain ⟨p, l1, e, Rm, s, m, args, below, meth, c, G, A, ad0, S0, Q⟩ := X
  obtain ⟨rfl, rfl, hx, hb, hml, hown, hts, hK, hA, hlk⟩ := h
  obtain ⟨hret1, rfl, rfl⟩ := hf
  intro ad H locs lsC h0 hAd hR hS hl hlv
  refine W.widen hc hs ?_
  refine ax_mono (ax_MQ hr (fun w hw => by cases hw) ⟨hSS, fun i hi => (h0 i hi).2, hAd, hR⟩) (W.vret hx hb hret1 (fun t ht hW => ⟨⟨rfl, ht⟩, hS.F ht⟩) hS.2.2 hd hlk)
theorem ax_entry_loc (ad : Nat → Nat) (vs : List Value) {n : Nat} (hc : ∀ v ∈ vs, v.category = 1) (hn : vs.length ≤ n) : ax_loc ad n (vs.map some ++ List.replicate (n - vs.length) none) (((vs.map (ax_tv ad)).map Slot.val ++ List.replicate (n - (vs.map (ax_tv ad)).length) Slot.unset).toArray) := by
  have hsl : lg_sl (vs.map (ax_tv ad)) = (vs.map (ax_tv ad)).map Slot.val := by
    clear hn
    induction vs with
    | nil => rfl
    | cons v r ih =>
      have h1 : ¬ (ax_tv ad v).category = 2 := by rw [ax_tv_cat, hc v List.mem_cons_self]; decide
      have h2 := ih (fun w hw => hc w (List.mem_cons_of_mem _ hw))
      simp only [lg_sl, List.map_cons, List.flatMap_cons, if_neg h1] at h2 ⊢
      rw [h2]
      rfl
  have he := lv_entry (vs.map (ax_tv ad)) (n := n) (by rw [hsl]; simp; exact hn)
  rw [hsl, List.length_map] at he
  refine ⟨by simp; omega, fun v hv => ?_, he.1, he.2.1, fun q hq => ?_⟩
  · rcases List.mem_append.mp hv with h1 | h1
    · obtain ⟨w, hw, e⟩ := List.mem_map.mp h1
      cases e
      exact hc _ hw
    · have := List.eq_of_mem_replicate h1
      cases this
  · obtain ⟨v, hv, e⟩ := ax_pr_of hq
    have hl : q.1 < vs.length := by
      rcases Nat.lt_or_ge q.1 vs.length with h1 | h1
      · exact h1
      · rw [List.getElem?_append_right (by simpa using h1)] at hv
        have := List.mem_of_getElem? hv
        have := List.eq_of_mem_replicate this
        cases this
    rw [List.getElem?_append_left (by simpa using hl), List.getElem?_map] at hv
    cases hg : vs[q.1]? with
    | none => rw [hg] at hv; cases hv
    | some w =>
      rw [hg] at hv
      cases hv
      rw [e]
      simp [List.getElem?_append_left, hl]
      exact congrArg _ (List.getElem?_eq_some_iff.mp hg).2
/-- A CONTRACT out of a walk of the body -/
theorem ax_enter {y : MethodName} {bytes : ByteArray} {maxL : Nat} {vs : List Value} {Rs : ax_Rs} (hy : plainName y.cls = true) (hyo : y.cls = own) (hc : ∀ v ∈ vs, v.category = 1) (hn : vs.length ≤ maxL)
    (body : ∀ X, ax_ok X l own bytes maxL rm → ax_fin X ret rm.cells rm.slots (ax_of Rs) → (y.name = "<init>" → ax_ini X) → ax_S0 X = S → ax_W X maxL 0 (vs.map some ++ List.replicate (maxL - vs.length) none) [] S I R L 0 0) :
    ax_Met l y bytes maxL ret rm vs S I R L Rs := by
  intro G ad sz
  refine Met.ofW (cc := bytes) (maxL := maxL) (ret := ret) hy rfl ?_
  intro p e s m args below meth c s₁ B hml hv
  obtain ⟨rfl, hsz, hR, hK, hok⟩ := hv
  subst hsz
  have hts0 := atoms_spec (ws := Cond.code y bytes maxL ret :: ax_tb) B.pre
  have hown : s.vm.findClass own = some m.cls := by rw [← hyo]; exact findClass_of_methodNamed B.named
  have hlk := B.notSynchronized
  have hin : y.name = "<init>" → meth.name = "<init>" := fun z => ((name_of_methodNamed B.named B.method).1).trans z
  have hA : ∀ q : Nat, s.heap.size ≤ q → ax_A ad S s.heap.size q := fun q h => Or.inr h
  have hcat : ∀ v ∈ vs.map (ax_tv ad), v.category = 1 := fun v hv => by
    obtain ⟨w, hw, e⟩ := List.mem_map.mp hv
    rw [← e, ax_tv_cat]
    exact hc w hw
  rw [entry_eq m _ hcat]
  have hb := body (p, l, e, rm, s, m, (vs.map (ax_tv ad)).toArray, below, meth, c, G, ax_A ad S s.heap.size, ad, S, ax_Q below s G ad S s.heap.size rm.cells rm.slots (ax_of Rs))
    ⟨rfl, rfl, B.exec, B.bytes, hml, hown, fun w hw => hts0 w (List.mem_cons_of_mem _ hw), hK, hA, hlk⟩ ⟨B.returns, rfl, rfl⟩ hin rfl
  have hw := hb ad s.heap [] (((vs.map (ax_tv ad)).map Slot.val ++ List.replicate (maxL - (vs.map (ax_tv ad)).length) Slot.unset).toArray) (fun i hi => ⟨hi, rfl⟩) (fun i hi => Or.inl ⟨i, hi, rfl⟩) hR va_S.rf (ax_entry_loc ad vs hc hn)
    ⟨fun v hv => (by cases hv), fun v hv => by
      rcases List.mem_append.mp hv with h1 | h1
      · obtain ⟨w, hw, e⟩ := List.mem_map.mp h1
        cases e
        exact hok _ hw
      · have := List.eq_of_mem_replicate h1
        cases this⟩
  refine ax_mono ?_ hw
  rintro t ⟨o, h1, h2, ⟨r, S', I', R', L', ad', hr, hm, hw'⟩, h5, Ls, h6, h7, h8⟩
  cases r with
  | inr E => exact absurd hr (fun z => z)
  | inl v => exact ⟨o, h1, h2, ⟨⟨v, S', I', R', L', ad', hr, hm.1, hm.2, hw'⟩, h5⟩, Ls, ⟨⟨_, hm.1⟩, h6, h7⟩, h8⟩
/-- behind a call -/
theorem ax_back {Rm : Room} {s : State} {m : MethodId} {args : Array Value} {below : List Frame} {meth : Method} {c : Code} {G : ax_G} {A : Nat → Prop} {ad0 ad : Nat → Nat} {S0 : ax_S} {Q : State → Prop} {p : Program} {e : Env} {H : Heap} {locs : List Loc} {lsC : Array Slot} {st0 rest : List Value} {a : Array Value} {Rs : ax_Rs}
    (hA : ∀ q, s.heap.size ≤ q → A q) (h0 : ∀ i, S0 i ≠ none → S i ≠ none ∧ ad i = ad0 i) (hAd : ∀ i, S i ≠ none → A (ad i)) (hS : va_S A s.heap H locs) (hl : ax_loc ad nL ls lsC) (hlv : ax_live S ls rest)
    (hr : va_Run p l e Rm s m args below meth c H locs cs ss mc ms (F0 m pc lsC st0) (rest.map (ax_tv ad)) (ax_Post G ad S H.size Rs a) (ax_A ad S H.size))
    (kk : ∀ r S' I' R' L', Rs r S' I' R' L' → (∀ i sh, S i = some sh → S' i = some sh) → ax_W (p, l, e, Rm, s, m, args, below, meth, c, G, A, ad0, S0, Q) nL (pc + 3) ls (r.toList ++ rest) S' I' R' L' (cs + mc) (ss + ms)) :
    W p l e Rm s m args below meth c H locs cs ss Q (F0 m pc lsC st0) := by
  have hfree : ∀ z, ax_A ad S H.size z → A z := by
    rintro z (⟨i, hi, rfl⟩ | hz)
    · exact hAd i hi
    · exact hA z (Nat.le_trans hS.1 hz)
  intro T hT X
  obtain ⟨v, st₀, t, T', Ls, e0, X', hL, e1, e2, ⟨⟨r, S', I', R', L', ad', hrs, hv, hok, w1, w2, w3, w4⟩, hz, hk⟩, stp⟩ := hr T hT X
  cases hv
  rw [e0] at hz hk
  have hne : ∀ i, S i ≠ none → S' i ≠ none := fun i hi => by
    cases hs : S i with
    | none => exact absurd hs hi
    | some sh => rw [w1 i sh hs]; exact fun z => by cases z
  have hlv' : ax_live S' ls rest := hlv.grow hne
  have htv : ∀ v, ax_okv S v → ax_tv ad' v = ax_tv ad v := by
    intro v hv
    cases v with
    | ref u => simp [ax_tv, w2 u (hv u rfl)]
    | _ => rfl
  have hS' : va_S A s.heap T'.heap (locs ++ Ls) := by
    refine ⟨Nat.le_trans hS.1 (by rw [e1]; exact hz), fun q h1 h2 => ?_, fun q hq => ?_⟩
    · rw [e1, hk q (Nat.lt_of_lt_of_le h1 hS.1) (fun z => h2 (hfree q z))]; exact hS.2.1 q h1 h2
    · rcases List.mem_append.mp hq with h | h
      · exact hS.2.2 q h
      · exact hfree _ (hL q h)
  have hgo := kk r S' I' R' L' hrs w1 ad' T'.heap (locs ++ Ls) lsC (fun i hi => ⟨hne i (h0 i hi).1, by rw [w2 i (h0 i hi).1]; exact (h0 i hi).2⟩) (fun i hi => hfree _ (w3 i hi)) (by rw [e1]; exact w4) hS' (hl.moved (fun v hv => htv v (hlv.2 v hv)))
    (by
      cases r with
      | none => exact hlv'
      | some v => exact hlv'.push (hok v rfl))
  obtain ⟨t2, a1, b1⟩ := hgo T' rfl X'
  refine ⟨t2, stp t2 ?_, b1⟩
  have hrest : (r.toList ++ rest).map (ax_tv ad') = (r.map (ax_tv ad')).toList ++ rest.map (ax_tv ad) := by
    rw [List.map_append]
    congr 1
    · cases r <;> rfl
    · exact List.map_congr_left (fun v hv => htv v (hlv.1 v hv))
  rw [← hrest]
  exact a1
theorem ax_pre {G : ax_G} {ad : Nat → Nat} {s : State} {H : Heap} {vs : List Value} (hR : ax_Rep G ad S I R L H) (hK : ax_K G s) (hok : ∀ v ∈ vs, ax_okv S v) : PreS s H (ax_Pre G ad H.size vs S I R L) (vs.map (ax_tv ad)) :=
  ⟨fun a U g mk hq => by
    obtain ⟨h1, h2, h3, h4, h5⟩ := hq
    exact ⟨h1, h2, h3, ax_K.same (s := U) (U := U.calling g mk a) rfl h4, h5⟩, fun U hU hW => ⟨rfl, by rw [hU], by rw [hU]; exact hR, hK.moved hW, hok⟩⟩
theorem ax_good {y : MethodName} {bytes : ByteArray} {maxL : Nat} {ret : Option FieldType} (hw : Cond.code y bytes maxL ret ∈ ax_tb) : GoodIn ax_tb (Cond.code y bytes maxL ret :: ax_tb) := by
  intro w h
  rcases List.mem_cons.mp h with rfl | h1
  · exact ⟨hw, ax_tb_good _ hw⟩
  · exact ⟨h1, ax_tb_good _ h1⟩
/-- what the tables say of a called method: its code, that its class is ready, how many arguments -/
def ax_mt (y : MethodName) (bytes : ByteArray) (maxL : Nat) (ret : Option FieldType) (n : Nat) : Prop := Cond.code y bytes maxL ret ∈ ax_tb ∧ Cond.initialized y.cls ∈ ax_tb ∧ y.cls ≠ "java/lang/invoke/MethodHandle" ∧ y.cls ≠ "java/lang/invoke/VarHandle" ∧ (parseMethodDescriptor y.desc).map (fun d => d.parameters.length) = some n
abbrev ax_rmle (rm' rm : Room) (maxL : Nat) : Prop := rm'.frames + 1 ≤ rm.frames ∧ 8 + (maxL + 11) + rm'.locals ≤ rm.locals
theorem ax_callS (h : ax_ok X l own cc nL rm) {y : MethodName} {bytes : ByteArray} {maxL idx n : Nat} {ret : Option FieldType} {rm' : Room} {vs rest : List Value} {Rs : ax_Rs} (hd : decode cc pc = .ok (.invokestatic idx, 3)) (hq : pc + 3 = q) (hm : ax_mt y bytes maxL ret n) (hw : Cond.methodLink own idx y ∈ ax_tb) (hw2 : Cond.static y ∈ ax_tb) (hM : ax_Met l y bytes maxL ret rm' vs S I R L Rs) (hn : vs.length = n) (hrm : ax_rmle rm' rm maxL) (hst : st = vs.reverse ++ rest) (hro : (rest.map fun v => v.category).sum ≤ 8) (hcs : cs + rm'.cells ≤ rm.cells) (hss : ss + rm'.slots ≤ rm.slots)
    (kk : ∀ r S' I' R' L', Rs r S' I' R' L' → (∀ i sh, S i = some sh → S' i = some sh) → ax_W X nL q ls (r.toList ++ rest) S' I' R' L' (cs + rm'.cells) (ss + rm'.slots)) : ax_W X nL pc ls st S I R L cs ss := by
  obtain ⟨p, l1, e, Rm, s, m, args, below, meth, c, G, A, ad0, S0, Q⟩ := X
  obtain ⟨rfl, rfl, hx, hb, hml, hown, hts, hK, hA, hlk⟩ := h
  intro ad H locs lsC h0 hAd hR hS hl hlv
  subst hq; subst hst
  obtain ⟨m1, m2, m3, m4, m5⟩ := hm
  have hok : ∀ v ∈ vs, ax_okv S v := fun v hv => hlv.1 v (List.mem_append_left _ (List.mem_reverse.mpr hv))
  have hrest : ax_live S ls rest := ⟨fun v hv => hlv.1 v (List.mem_append_right _ hv), hlv.2⟩
  have hcb : CallB Rm s args own idx y bytes maxL ret (Cond.code y bytes maxL ret :: ax_tb) rm' rm'.cells rm'.slots n := callB_of n hts (ax_good m1) rfl rfl rfl (hts _ m2) (hts _ hw) ⟨m3, m4, m5⟩ hrm
  refine ax_back hA h0 hAd hS hl hrest (va_runS (As := vs.map (ax_tv ad)) (rest := rest.map (ax_tv ad)) ⟨hx, hb, hml, hown, hts⟩ (hM G ad H.size) ⟨hcb, hts _ hw2⟩ (ax_pre hR hK hok) rfl (by rw [List.length_map]; exact hn) (hl.2.2.1) ?_ ?_ hd ⟨hcs, hss⟩) kk
  · simp [List.map_append, List.map_reverse]
  · show 2 * 0 + _ ≤ 8
    rw [List.map_map, Nat.mul_zero, Nat.zero_add]
    refine Nat.le_trans (Nat.le_of_eq ?_) hro
    congr 1
    exact List.map_congr_left (fun v _ => ax_tv_cat ad v)
theorem ax_callSN (h : ax_ok X l own cc nL rm) {y : MethodName} {host : String} {bytes : ByteArray} {maxL idx n : Nat} {ret : Option FieldType} {rm' : Room} {vs rest : List Value} {Rs : ax_Rs} (hd : decode cc pc = .ok (.invokestatic idx, 3)) (hq : pc + 3 = q) (hm : ax_mt y bytes maxL ret n) (hw : Cond.methodLinkNest own idx y host ∈ ax_nw) (hw2 : Cond.static y ∈ ax_tb) (hM : ax_Met l y bytes maxL ret rm' vs S I R L Rs) (hn : vs.length = n) (hrm : ax_rmle rm' rm maxL) (hst : st = vs.reverse ++ rest) (hro : (rest.map fun v => v.category).sum ≤ 8) (hcs : cs + rm'.cells ≤ rm.cells) (hss : ss + rm'.slots ≤ rm.slots)
    (kk : ∀ r S' I' R' L', Rs r S' I' R' L' → (∀ i sh, S i = some sh → S' i = some sh) → ax_W X nL q ls (r.toList ++ rest) S' I' R' L' (cs + rm'.cells) (ss + rm'.slots)) : ax_W X nL pc ls st S I R L cs ss := by
  obtain ⟨p, l1, e, Rm, s, m, args, below, meth, c, G, A, ad0, S0, Q⟩ := X
  obtain ⟨rfl, rfl, hx, hb, hml, hown, hts, hK, hA, hlk⟩ := h
  intro ad H locs lsC h0 hAd hR hS hl hlv
  subst hq; subst hst
  obtain ⟨m1, m2, m3, m4, m5⟩ := hm
  have hok : ∀ v ∈ vs, ax_okv S v := fun v hv => hlv.1 v (List.mem_append_left _ (List.mem_reverse.mpr hv))
  have hrest : ax_live S ls rest := ⟨fun v hv => hlv.1 v (List.mem_append_right _ hv), hlv.2⟩
  have hcb : va_CN Rm s args own idx y host bytes maxL ret (Cond.code y bytes maxL ret :: ax_tb) rm' rm'.cells rm'.slots n := va_cnB n hts (ax_good m1) rfl rfl rfl (hK.2.2.1 _ hw) (hts _ m2) ⟨m3, m4, m5⟩ hrm
  refine ax_back hA h0 hAd hS hl hrest (va_runSN (As := vs.map (ax_tv ad)) (rest := rest.map (ax_tv ad)) ⟨hx, hb, hml, hown, hts⟩ (hM G ad H.size) ⟨hcb, hts _ hw2, trivial⟩ (ax_pre hR hK hok) rfl (by rw [List.length_map]; exact hn) (hl.2.2.1) ?_ ?_ hd ⟨hcs, hss⟩) kk
  · simp [List.map_append, List.map_reverse]
  · show 2 * 0 + _ ≤ 8
    rw [List.map_map, Nat.mul_zero, Nat.zero_add]
    refine Nat.le_trans (Nat.le_of_eq ?_) hro
    congr 1
    exact List.map_congr_left (fun v _ => ax_tv_cat ad v)
theorem ax_recv {G : ax_G} {ad : Nat → Nat} {s : State} {H : Heap} {b ci : Nat} {w : vw_C} (hR : ax_Rep G ad S I R L H) (hK : ax_K G s) (hb : S b = some (.inl ci)) (hc : ax_cl[ci]? = some w) : ∃ cell : Cell, H[ad b]? = some cell ∧ cell.vm.isStatics = false ∧ s.vm.findClass w.1 = some cell.cls := by
  obtain ⟨q', h1, cell, g1, g2, g3, -⟩ := hR.1 b _ hb
  exact ⟨cell, g1, by rw [g3]; rfl, by rw [g2]; exact (hK.1.1 ci w hc).2.1⟩
theorem ax_callV (h : ax_ok X l own cc nL rm) {y : MethodName} {bytes : ByteArray} {maxL idx n b ci : Nat} {w : vw_C} {ret : Option FieldType} {rm' : Room} {vs rest : List Value} {Rs : ax_Rs} (hd : decode cc pc = .ok (.invokevirtual idx, 3)) (hq : pc + 3 = q) (hm : ax_mt y bytes maxL ret n) (hw : Cond.methodLink own idx y ∈ ax_tb) (hw2 : Cond.instanceMethod y ∈ ax_tb) (hw3 : Cond.selects w.1 y y ∈ ax_tb) (hSb : S b = some (.inl ci)) (hci : ax_cl[ci]? = some w) (hM : ax_Met l y bytes maxL ret rm' (.ref b :: vs) S I R L Rs) (hn : vs.length = n) (hrm : ax_rmle rm' rm maxL) (hst : st = vs.reverse ++ .ref b :: rest) (hro : (rest.map fun v => v.category).sum ≤ 8) (hcs : cs + rm'.cells ≤ rm.cells) (hss : ss + rm'.slots ≤ rm.slots)
    (kk : ∀ r S' I' R' L', Rs r S' I' R' L' → (∀ i sh, S i = some sh → S' i = some sh) → ax_W X nL q ls (r.toList ++ rest) S' I' R' L' (cs + rm'.cells) (ss + rm'.slots)) : ax_W X nL pc ls st S I R L cs ss := by
  obtain ⟨p, l1, e, Rm, s, m, args, below, meth, c, G, A, ad0, S0, Q⟩ := X
  obtain ⟨rfl, rfl, hx, hb, hml, hown, hts, hK, hA, hlk⟩ := h
  intro ad H locs lsC h0 hAd hR hS hl hlv
  subst hq; subst hst
  obtain ⟨m1, m2, m3, m4, m5⟩ := hm
  have hnb : S b ≠ none := by rw [hSb]; exact fun z => by cases z
  have hok : ∀ v ∈ Value.ref b :: vs, ax_okv S v := fun v hv => by
    rcases List.mem_cons.mp hv with rfl | hv
    · exact ax_okv_r hnb
    · exact hlv.1 v (List.mem_append_left _ (List.mem_reverse.mpr hv))
  have hrest : ax_live S ls rest := ⟨fun v hv => hlv.1 v (List.mem_append_right _ (List.mem_cons_of_mem _ hv)), hlv.2⟩
  have hcb : CallB Rm s args own idx y bytes maxL ret (Cond.code y bytes maxL ret :: ax_tb) rm' rm'.cells rm'.slots n := callB_of n hts (ax_good m1) rfl rfl rfl (hts _ m2) (hts _ hw) ⟨m3, m4, m5⟩ hrm
  obtain ⟨pr1, pr2⟩ := ax_pre hR hK hok
  refine ax_back hA h0 hAd hS hl hrest (va_runV (C := w.1) (b := ad b) (As := vs.map (ax_tv ad)) (rest := rest.map (ax_tv ad)) ⟨hx, hb, hml, hown, hts⟩ (hM G ad H.size) ⟨hcb, hts _ hw2, hts _ hw3⟩ ⟨pr1, ax_recv hR hK hSb hci, pr2⟩ rfl (by rw [List.length_map]; exact hn) (hl.2.2.1) ?_ ?_ hd ⟨hcs, hss⟩) kk
  · simp [List.map_append, List.map_reverse, ax_tv]
  · show 2 * 0 + _ ≤ 8
    rw [List.map_map, Nat.mul_zero, Nat.zero_add]
    refine Nat.le_trans (Nat.le_of_eq ?_) hro
    congr 1
    exact List.map_congr_left (fun v _ => ax_tv_cat ad v)
theorem ax_callI (h : ax_ok X l own cc nL rm) {y : MethodName} {bytes : ByteArray} {maxL idx n b : Nat} {rm' : Room} {vs rest : List Value} {Rs : ax_Rs} (hd : decode cc pc = .ok (.invokespecial idx, 3)) (hq : pc + 3 = q) (hm : ax_mt y bytes maxL none n) (hw : Cond.methodLink own idx y ∈ ax_tb) (hw2 : Cond.instanceMethod y ∈ ax_tb) (hy1 : y.name = "<init>") (hM : ax_Met l y bytes maxL none rm' (.ref b :: vs) S I R L Rs) (hn : vs.length = n) (hrm : ax_rmle rm' rm maxL) (hst : st = vs.reverse ++ .ref b :: rest) (hro : (rest.map fun v => v.category).sum ≤ 8) (hcs : cs + rm'.cells ≤ rm.cells) (hss : ss + rm'.slots ≤ rm.slots)
    (kk : ∀ r S' I' R' L', Rs r S' I' R' L' → (∀ i sh, S i = some sh → S' i = some sh) → ax_W X nL q ls (r.toList ++ rest) S' I' R' L' (cs + rm'.cells) (ss + rm'.slots)) : ax_W X nL pc ls st S I R L cs ss := by
  obtain ⟨p, l1, e, Rm, s, m, args, below, meth, c, G, A, ad0, S0, Q⟩ := X
  obtain ⟨rfl, rfl, hx, hb, hml, hown, hts, hK, hA, hlk⟩ := h
  intro ad H locs lsC h0 hAd hR hS hl hlv
  subst hq; subst hst
  obtain ⟨m1, m2, m3, m4, m5⟩ := hm
  have hok : ∀ v ∈ Value.ref b :: vs, ax_okv S v := fun v hv => by
    rcases List.mem_cons.mp hv with rfl | hv
    · exact hlv.1 _ (List.mem_append_right _ List.mem_cons_self)
    · exact hlv.1 v (List.mem_append_left _ (List.mem_reverse.mpr hv))
  have hrest : ax_live S ls rest := ⟨fun v hv => hlv.1 v (List.mem_append_right _ (List.mem_cons_of_mem _ hv)), hlv.2⟩
  have hcb : CallB Rm s args own idx y bytes maxL none (Cond.code y bytes maxL none :: ax_tb) rm' rm'.cells rm'.slots n := callB_of n hts (ax_good m1) rfl rfl rfl (hts _ m2) (hts _ hw) ⟨m3, m4, m5⟩ hrm
  refine ax_back hA h0 hAd hS hl hrest (va_runI (b := ad b) (As := vs.map (ax_tv ad)) (rest := rest.map (ax_tv ad)) ⟨hx, hb, hml, hown, hts⟩ (hM G ad H.size) ⟨hcb, hy1, hts _ hw2⟩ (ax_pre hR hK hok) rfl (by rw [List.length_map]; exact hn) (hl.2.2.1) ?_ ?_ hd ⟨hcs, hss⟩) kk
  · simp [List.map_append, List.map_reverse, ax_tv]
  · show 2 * 0 + _ ≤ 8
    rw [List.map_map, Nat.mul_zero, Nat.zero_add]
    refine Nat.le_trans (Nat.le_of_eq ?_) hro
    congr 1
    exact List.map_congr_left (fun v _ => ax_tv_cat ad v)
/-- Object's constructor -/
theorem ax_obj (h : ax_ok X l own cc nL rm) {idx b : Nat} (hd : decode cc pc = .ok (.invokespecial idx, 3)) (hq : pc + 3 = q) (hw : Cond.methodLink own idx Lib.objectInit ∈ ax_tb) (hw2 : Cond.instanceMethod Lib.objectInit ∈ ax_tb) (hw3 : Cond.code Lib.objectInit ⟨#[0xb1]⟩ 1 none ∈ ax_tb) (hfr : 1 ≤ rm.frames) (hlo : 20 ≤ rm.locals) (hro : (st.map fun v => v.category).sum ≤ 8)
    (kk : ax_W X nL q ls st S I R L cs ss) : ax_W X nL pc ls (.ref b :: st) S I R L cs ss := by
  obtain ⟨p, l1, e, Rm, s, m, args, below, meth, c, G, A, ad0, S0, Q⟩ := X
  obtain ⟨rfl, rfl, hx, hb, hml, hown, hts, hK, hA, hlk⟩ := h
  intro ad H locs lsC h0 hAd hR hS hl hlv
  subst hq
  refine W.objInit hx hb hown (hts _ hw) (hts _ hw2) (hts _ hw3) rfl (by rw [hml]; exact hl.2.2.1) rfl hd hfr ?_ (kk ad H locs lsC h0 hAd hR hS hl hlv.pop)
  show 2 * 0 + _ + 12 ≤ _
  rw [List.map_map, Nat.mul_zero, Nat.zero_add]
  have : (st.map ((fun v => v.category) ∘ ax_tv ad)).sum ≤ 8 := by
    refine Nat.le_trans (Nat.le_of_eq ?_) hro
    congr 1
    exact List.map_congr_left (fun v _ => ax_tv_cat ad v)
  omega
theorem ax_mmax (h : ax_ok X l own cc nL rm) {idx : Nat} {x y : Int32} (hd : decode cc pc = .ok (.invokestatic idx, 3)) (hq : pc + 3 = q) (hw : Cond.methodLink own idx Lib.Math.max.name ∈ ax_tb) (hw2 : Cond.static Lib.Math.max.name ∈ ax_tb) (hw3 : Cond.initialized "java/lang/Math" ∈ ax_tb) (hw4 : Cond.code Lib.Math.max.name Lib.Math.max.code 2 (some .int) ∈ ax_tb) (hfr : 1 ≤ rm.frames) (hlo : 21 ≤ rm.locals) (hcs : cs ≤ rm.cells) (hss : ss ≤ rm.slots) (hro : (st.map fun v => v.category).sum ≤ 8)
    (kk : ax_W X nL q ls (.int (if x < y then y else x) :: st) S I R L cs ss) : ax_W X nL pc ls (.int y :: .int x :: st) S I R L cs ss := by
  obtain ⟨p, l1, e, Rm, s, m, args, below, meth, c, G, A, ad0, S0, Q⟩ := X
  obtain ⟨rfl, rfl, hx, hb, hml, hown, hts, hK, hA, hlk⟩ := h
  intro ad H locs lsC h0 hAd hR hS hl hlv
  subst hq
  have hz : ((st.map (ax_tv ad)).map fun v => v.category).sum ≤ 8 := by
    rw [List.map_map]
    refine Nat.le_trans (Nat.le_of_eq ?_) hro
    congr 1
    exact List.map_congr_left (fun v _ => ax_tv_cat ad v)
  exact va_mmax hx hb (by rw [hml]; exact hl.2.2.1.symm) hown (hts _ hw) (hts _ hw2) (hts _ hw3) (hts _ hw4) hfr (by omega) hcs hss hd (kk ad H locs lsC h0 hAd hR hS hl (hlv.pop.pop.push ax_okv_i))
theorem ax_mmin (h : ax_ok X l own cc nL rm) {idx : Nat} {x y : Int32} (hd : decode cc pc = .ok (.invokestatic idx, 3)) (hq : pc + 3 = q) (hw : Cond.methodLink own idx Lib.Math.min.name ∈ ax_tb) (hw2 : Cond.static Lib.Math.min.name ∈ ax_tb) (hw3 : Cond.initialized "java/lang/Math" ∈ ax_tb) (hw4 : Cond.code Lib.Math.min.name Lib.Math.min.code 2 (some .int) ∈ ax_tb) (hfr : 1 ≤ rm.frames) (hlo : 21 ≤ rm.locals) (hcs : cs ≤ rm.cells) (hss : ss ≤ rm.slots) (hro : (st.map fun v => v.category).sum ≤ 8)
    (kk : ax_W X nL q ls (.int (if y < x then y else x) :: st) S I R L cs ss) : ax_W X nL pc ls (.int y :: .int x :: st) S I R L cs ss := by
  obtain ⟨p, l1, e, Rm, s, m, args, below, meth, c, G, A, ad0, S0, Q⟩ := X
  obtain ⟨rfl, rfl, hx, hb, hml, hown, hts, hK, hA, hlk⟩ := h
  intro ad H locs lsC h0 hAd hR hS hl hlv
  subst hq
  have hz : ((st.map (ax_tv ad)).map fun v => v.category).sum ≤ 8 := by
    rw [List.map_map]
    refine Nat.le_trans (Nat.le_of_eq ?_) hro
    congr 1
    exact List.map_congr_left (fun v _ => ax_tv_cat ad v)
  exact va_mmin hx hb (by rw [hml]; exact hl.2.2.1.symm) hown (hts _ hw) (hts _ hw2) (hts _ hw3) (hts _ hw4) hfr (by omega) hcs hss hd (kk ad H locs lsC h0 hAd hR hS hl (hlv.pop.pop.push ax_okv_i))
end AXE
