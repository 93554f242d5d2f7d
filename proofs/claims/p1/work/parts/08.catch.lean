/-! AX: a call of a method that may throw (invokevirtual); its catching; a call of a static method with handlers -/
section AXV
variable {X : ax_X} {l : Launch} {own : String} {cc : ByteArray} {nL : Nat} {rm : Room} {pc q : Nat} {ls ls' : ax_Ls} {st : List Value} {S : ax_S} {I : ax_I} {R : ax_R} {L : ax_L} {cs ss mc ms : Nat} {ret : Option FieldType} {RX : ax_RX}
theorem ax_callVX (h : ax_ok X l own cc nL rm) {y : MethodName} {bytes : ByteArray} {maxL idx n b ci : Nat} {w : vw_C} {ret : Option FieldType} {rm' : Room} {vs rest : List Value} {RX : ax_RX} (hd : decode cc pc = .ok (.invokevirtual idx, 3)) (hq : pc + 3 = q) (hm : ax_mt y bytes maxL ret n) (hw : Cond.methodLink own idx y ∈ ax_tb) (hw2 : Cond.instanceMethod y ∈ ax_tb) (hw3 : Cond.selects w.1 y y ∈ ax_tb) (hSb : S b = some (.inl ci)) (hci : ax_cl[ci]? = some w) (hM : ax_MetX l y bytes maxL ret rm' (.ref b :: vs) S I R L RX) (hn : vs.length = n) (hrm : ax_rmle rm' rm maxL) (hst : st = vs.reverse ++ .ref b :: rest) (hro : (rest.map fun v => v.category).sum ≤ 8) (hcs : cs + rm'.cells ≤ rm.cells) (hss : ss + rm'.slots ≤ rm.slots)
    (kk : ∀ r S' I' R' L', RX (.inl r) S' I' R' L' → (∀ i sh, S i = some sh → S' i = some sh) → ax_W X nL q ls (r.toList ++ rest) S' I' R' L' (cs + rm'.cells) (ss + rm'.slots))
    (kx : ∀ E S' I' R' L', RX (.inr E) S' I' R' L' → (∀ i sh, S i = some sh → S' i = some sh) → ax_T X nL pc ls E S' I' R' L' (cs + rm'.cells) (ss + rm'.slots)) : ax_W X nL pc ls st S I R L cs ss := by
  obtain ⟨p, l1, e, Rm, s, m, args, below, meth, c, G, A, ad0, S0, Q⟩ := X
  obtain ⟨rfl, rfl, hx, hb, hml, hown, hts, hK, hA, hlk⟩ := h
  intro ad H locs lsC h0 hAd hR hS hl hlv
  subst hq; subst hst
  obtain ⟨m1, m2, m3, m4, m5⟩ := hm
  have hnb : S b ≠ none := by rw [hSb]; exact fun z => by cases z
  have hok : ∀ v ∈ Value.ref b :: vs, ax_okv S v := fun v hv => by
    rcases List.mem_cons.mp hv with rfl | hv
    · exact ax_okv_r hnb
    · exact hlv.1 v (List.mem_append_left _ (List.mem_reverse.mpr hv))
  have hrest : ax_live S ls rest := ⟨fun v hv => hlv.1 v (List.mem_append_right _ (List.mem_cons_of_mem _ hv)), hlv.2⟩
  obtain ⟨pr1, pr2⟩ := ax_pre hR hK hok
  obtain ⟨cellB, hcB, hoB, hclB⟩ := ax_recv hR hK hSb hci
  have hws : ∀ w ∈ Cond.code y bytes maxL ret :: ax_tb, ∀ (a' : Array Value) (V : State), s.WarmedH V.vm → w.before a' V = true := pay_in hts (ax_good m1)
  have hfree : ∀ z, ax_A ad S H.size z → A z := by
    rintro z (⟨i, hi, rfl⟩ | hz)
    · exact hAd i hi
    · exact hA z (Nat.le_trans hS.1 hz)
  intro T hT Xs
  obtain ⟨mk, methM, hnamed, hmethM, hstM, habM⟩ := Cond.instanceMethod_spec (hts _ hw2)
  obtain ⟨methM', cM, hmethM', -, -, -, -, -, -, hsigM⟩ := Cond.code_spec hnamed (hts _ m1)
  cases hmethM.symm.trans hmethM'
  obtain ⟨c2, r2, m2', q1, q2, q3, q4, kP, hkP, hkPi⟩ := Cond.selects_spec (hts _ hw3)
  cases hclB.symm.trans q1
  cases (State.methodFound?_of_named hnamed ⟨m3, m4⟩).symm.trans q2
  cases hnamed.symm.trans q3
  have hselP : selectMethod e.platform s.vm cellB.cls mk = .method mk := by rw [Launch.admits_selectMethod Xs.admits]; exact q4
  have hlen : (vs.map (ax_tv ad)).length = methM.sig.parameters.length := by
    rw [hsigM] at m5
    rw [List.length_map, hn]
    exact (Option.some.inj m5).symm
  obtain ⟨vm₁, X₁, hstep₁⟩ := Xs.invokevirtual hx hown (hts _ hw) hnamed hmethM hstM hkP hkPi ⟨m3, m4⟩ (a := ad b) (cell := cellB) (by rw [hT]; exact hcB)
    (fun z h => by rw [h] at hoB; cases hoB) hselP hmethM habM hkP hkPi (g := F0 m pc lsC ((vs.reverse ++ .ref b :: rest).map (ax_tv ad))) rfl (argsL := vs.map (ax_tv ad)) (rest := rest.map (ax_tv ad)) hlen (by simp [List.map_append, List.map_reverse, ax_tv]) (by rw [hb]; exact hd)
  obtain ⟨o, t, B, Ls, hpost, e1, e2, XB, hL, hret, hthr⟩ := ax_pay (g := { F0 m pc lsC ((vs.reverse ++ .ref b :: rest).map (ax_tv ad)) with stack := rest.map (ax_tv ad) }) (ig := .invokevirtual idx) (len := 3) (mk := mk) (a := (Value.ref (ad b) :: vs.map (ax_tv ad)).toArray) X₁ rfl (by rw [hml]; exact hl.2.2.1) (by rw [hb]; exact hd)
    (by
      show 2 * 0 + _ ≤ 8
      rw [List.map_map, Nat.mul_zero, Nat.zero_add]
      refine Nat.le_trans (Nat.le_of_eq ?_) hro
      congr 1
      exact List.map_congr_left (fun v _ => ax_tv_cat ad v)) (X₁.named hnamed) (hM G ad H.size) (pr1 _ _ _ _ (pr2 _ (by show T.heap = H; exact hT) X₁.warmed)) hrm hcs hss hws m2
  obtain ⟨⟨r, S', I', R', L', ad', hrx, hmt, w1, w2, w3, w4⟩, ⟨hz, hk⟩, -⟩ := hpost
  have hcall : ((T.setVm vm₁).calling { F0 m pc lsC ((vs.reverse ++ .ref b :: rest).map (ax_tv ad)) with stack := rest.map (ax_tv ad) } mk (Value.ref (ad b) :: vs.map (ax_tv ad)).toArray).heap = H := hT
  rw [hcall] at hz hk
  have hne : ∀ i, S i ≠ none → S' i ≠ none := fun i hi => by
    cases hs : S i with
    | none => exact absurd hs hi
    | some sh => rw [w1 i sh hs]; exact fun z => by cases z
  have hlv' : ax_live S' ls rest := hrest.grow hne
  have htv : ∀ v, ax_okv S v → ax_tv ad' v = ax_tv ad v := by
    intro v hv
    cases v with
    | ref u => simp [ax_tv, w2 u (hv u rfl)]
    | _ => rfl
  have hS' : va_S A s.heap B.heap (locs ++ Ls) := by
    refine ⟨Nat.le_trans hS.1 (by rw [e1]; exact hz), fun q h1 h2 => ?_, fun q hq => ?_⟩
    · rw [e1, hk q (Nat.lt_of_lt_of_le h1 hS.1) (fun z => h2 (hfree q z))]; exact hS.2.1 q h1 h2
    · rcases List.mem_append.mp hq with h | h
      · exact hS.2.2 q h
      · exact hfree _ (hL q h)
  have hloc' : ax_loc ad' nL ls lsC := hl.moved (fun v hv => htv v (hlv.2 v hv))
  have h0' : ∀ i, S0 i ≠ none → S' i ≠ none ∧ ad' i = ad0 i := fun i hi => ⟨hne i (h0 i hi).1, by rw [w2 i (h0 i hi).1]; exact (h0 i hi).2⟩
  cases r with
  | inl v =>
    obtain ⟨hv, hokv⟩ := hmt
    have hgo := kk v S' I' R' L' hrx w1 ad' B.heap (locs ++ Ls) lsC h0' (fun i hi => hfree _ (w3 i hi)) (by rw [e1]; exact w4) hS' hloc'
      (by
        cases v with
        | none => exact hlv'
        | some v => exact hlv'.push (hokv v rfl))
    obtain ⟨t2, a1, b1⟩ := hgo B rfl XB
    refine ⟨t2, hstep₁ _ fun acts => ?_, b1⟩
    rw [doInvoke_state]
    refine (hret _ hv).trans ?_
    have hr9 : (v.toList ++ rest).map (ax_tv ad') = (v.map (ax_tv ad')).toList ++ rest.map (ax_tv ad) := by
      rw [List.map_append]
      congr 1
      · cases v <;> rfl
      · exact List.map_congr_left (fun v hv => htv v (hrest.1 v hv))
    rw [← hr9]
    exact a1
  | inr E =>
    obtain ⟨qx, ce, hv, hce, hcv, hcl⟩ := hmt
    have hcl' : s.vm.findClass E = some ce.cls := by
      have h9 : (T.setVm vm₁).vm.findClass E = some ce.cls := hcl
      rw [X₁.warmed.alike.findClass] at h9
      exact h9
    obtain ⟨t2, a1, b1⟩ := kx E S' I' R' L' hrx w1 ad' B.heap (locs ++ Ls) lsC qx ce (rest.map (ax_tv ad)) h0' (fun i hi => hfree _ (w3 i hi)) (by rw [e1]; exact w4) hS' hloc' ⟨fun v hv => (by cases hv), hlv'.2⟩ (by rw [e1]; exact hce) hcv hcl' B rfl XB
    refine ⟨t2, hstep₁ _ fun acts => ?_, b1⟩
    rw [doInvoke_state]
    exact (hthr _ hv).trans a1
/-- the thrown object is caught by the row x, and laid into a local that is never read -/
theorem ax_catch (h : ax_ok X l own cc nL rm) {hh : List (Nat × Nat × Nat × Nat)} (hX : ax_hh X hh) {E : String} {a0 b0 hp ct k : Nat} {nm : String} (pre suf : List (Nat × Nat × Nat × Nat)) (hsp : hh = pre ++ (a0, b0, hp, ct) :: suf) (hcov : a0 ≤ pc ∧ pc < b0) (hct : ct ≠ 0) (hw : Cond.classLink own ct nm ∈ ax_tb) (hyes : Cond.castable E nm ∈ ax_nw)
    (hpre : ∀ z ∈ pre, z.1 ≤ pc ∧ pc < z.2.1 ∧ z.2.2.2 ≠ 0 ∧ ∃ n2 : String, Cond.classLink own z.2.2.2 n2 ∈ ax_tb ∧ (E, n2) ∈ ax_nc)
    (hk : k < nL) (hd : decode cc hp = .ok (.astore k, 2) ∧ q = hp + 2 ∨ (∃ f : Fin 4, decode cc hp = .ok (.astore_n f, 1) ∧ (f : Nat) = k) ∧ q = hp + 1) (hls : ls.set k none = ls')
    (kk : ax_W X nL q ls' [] S I R L cs ss) : ax_T X nL pc ls E S I R L cs ss := by
  obtain ⟨p, l1, e, Rm, s, m, args, below, meth, c, G, A, ad0, S0, Q⟩ := X
  obtain ⟨rfl, rfl, hx, hb, hml, hown, hts, hK, hA, hlk⟩ := h
  subst hls
  intro ad H locs lsC qx ce rest h0 hAd hR hS hl hlv hce hcv hcl T hT Xs
  have hpl : e.platform.magicAccessors = ({} : Platform).magicAccessors := by rw [Xs.admits.platform]
  have hX' : c.exceptionTable.toList.map (fun h => (h.startPc, h.endPc, h.handlerPc, h.catchType)) = hh := hX
  -- the table, row by row
  obtain ⟨tp, tr, htab, htp, htr⟩ : ∃ tp tr, c.exceptionTable.toList = tp ++ tr ∧ tp.map (fun h => (h.startPc, h.endPc, h.handlerPc, h.catchType)) = pre ∧ tr.map (fun h => (h.startPc, h.endPc, h.handlerPc, h.catchType)) = (a0, b0, hp, ct) :: suf := by
    rw [hsp] at hX'
    exact List.map_eq_append_iff.mp hX'
  obtain ⟨x, ts, rfl, hxe, -⟩ := List.map_eq_cons_iff.mp htr
  simp only [Prod.mk.injEq] at hxe
  obtain ⟨x1, x2, x3, x4⟩ := hxe
  obtain ⟨c5, hc5, hcl5⟩ := Cond.classLink_spec hown (hts _ hw) e.platform hpl
  obtain ⟨c3, c4, hc3, hc4, hasg⟩ := Cond.castable_spec (va_Nw.use (A := args) (ax_nw_ot _ hyes) (hK.2.2.1 _ hyes))
  cases Option.some.inj (hc3.symm.trans hcl)
  cases Option.some.inj (hc4.symm.trans hc5)
  have hkc : ∃ k9, s.vm.classes[ce.cls]? = some k9 := Vm.classAt_of_findClass hcl
  obtain ⟨vm', hW', hfind⟩ := ax_hgo (e := e) (s0 := s) (f := F0 m pc lsC rest) (a := qx) (cell := ce) (fun z h => by rw [hcv] at h; cases h) hkc x ts (by simp only [covers, Bool.and_eq_true, decide_eq_true_eq]; rw [x1, x2]; exact hcov) (by rw [x4]; exact hct) (by rw [x4]; exact hcl5) hasg tp ((T.setTop (F0 m pc lsC rest)).pushFrame (.throwing qx)) Xs.warmed (by show T.heap[qx]? = some ce; rw [hT]; exact hce) (fun y hy => by
      have hz := List.mem_map_of_mem (f := fun h : ExceptionTableEntry => (h.startPc, h.endPc, h.handlerPc, h.catchType)) hy
      rw [htp] at hz
      obtain ⟨z1, z2, z3, n2, hl2, hn2⟩ := hpre _ hz
      obtain ⟨c6, hc6, hcl6⟩ := Cond.classLink_spec hown (hts _ hl2) e.platform hpl
      refine ⟨by simp only [covers, Bool.and_eq_true, decide_eq_true_eq]; exact ⟨z1, z2⟩, z3, c6, hcl6, ?_⟩
      obtain ⟨a8, b8, y1, y2, y3⟩ := hK.2.2.2.2.2.2.1 _ hn2
      cases Option.some.inj (y1.symm.trans hcl)
      cases Option.some.inj (y2.symm.trans hc6)
      exact y3)
  have hF : ax_Finds e ((T.setTop (F0 m pc lsC rest)).pushFrame (.throwing qx)) (F0 m pc lsC rest) qx (.found x.handlerPc) vm' := fun Q E d acts => by
    rw [W.findHandler_eq (meth := meth) (code := c) Xs.method' Xs.code, htab]
    exact hfind Q E d acts
  have XN : Stand p l1 e Rm s m args below meth c (T.setVm vm') locs cs ss := Xs.noted hW'
  rw [x3] at hF
  have hcat : (Value.ref qx).category = 1 := rfl
  -- the handler's first instruction lays it into a local
  have hgo : ∀ lsD, lv_has lsD nL ((k, Value.ref qx) :: (ax_pr ad ls).filter (fun q => !(q.1 == k) && !(q.1 + 1 == k && q.2.category == 2))) → W p l1 e Rm s m args below meth c H locs cs ss Q (F0 m q lsD []) := by
    intro lsD hD
    refine kk ad H locs lsD h0 hAd hR hS ⟨by rw [List.length_set]; exact hl.1, fun v hv => ?_, hD.1, hD.2.1, fun z hz => ?_⟩ ⟨fun v hv => (by cases hv), fun v hv => ?_⟩
    · rcases List.mem_or_eq_of_mem_set hv with h1 | h1
      · exact hl.2.1 v h1
      · cases h1
    · obtain ⟨v, hv, e9⟩ := ax_pr_of hz
      rw [List.getElem?_set] at hv
      by_cases hi : k = z.1
      · rw [if_pos hi] at hv
        split at hv <;> cases hv
      · rw [if_neg hi] at hv
        refine hD.2.2 z (List.mem_cons_of_mem _ (List.mem_filter.mpr ⟨?_, ?_⟩))
        · have := ax_pr_mem (ad := ad) hv
          rw [← e9] at this
          exact this
        · have hw1 : v.category = 1 := hl.2.1 v (List.mem_of_getElem? hv)
          have h2 : z.2.category = 1 := by rw [e9, ax_tv_cat]; exact hw1
          simp [h2]
          exact fun y => hi y.symm
    · rcases List.mem_or_eq_of_mem_set hv with h1 | h1
      · exact hlv.2 v h1
      · cases h1
  have hend : W p l1 e Rm s m args below meth c H locs cs ss Q (F0 m hp lsC [.ref qx]) := by
    rcases hd with ⟨hd, rfl⟩ | ⟨⟨f, hd, hf⟩, rfl⟩
    · exact lv_astore hx hb hd hl.2.2 hk rfl hgo
    · exact lv_astore_n hx hb hd hf hl.2.2 hk rfl hgo
  obtain ⟨t, a1, b1⟩ := hend (T.setVm vm') hT XN
  exact ⟨t, ax_stepsCatch (g := F0 m pc lsC rest) Xs.here hF a1, b1⟩
theorem ax_callSW (h : ax_ok X l own cc nL rm) {y : MethodName} {bytes : ByteArray} {maxL idx n : Nat} {ret : Option FieldType} {hh : List (Nat × Nat × Nat × Nat)} {rm' : Room} {vs rest : List Value} {Rs : ax_Rs} (hd : decode cc pc = .ok (.invokestatic idx, 3)) (hq : pc + 3 = q) (m1 : Cond.codeWith y bytes maxL ret hh ∈ ax_tb) (m2 : Cond.initialized y.cls ∈ ax_tb) (m3 : y.cls ≠ "java/lang/invoke/MethodHandle" ∧ y.cls ≠ "java/lang/invoke/VarHandle") (m5 : (parseMethodDescriptor y.desc).map (fun d => d.parameters.length) = some n) (hw : Cond.methodLink own idx y ∈ ax_tb) (hw2 : Cond.static y ∈ ax_tb) (hM : ax_MetW l y bytes maxL ret hh rm' vs S I R L Rs) (hn : vs.length = n) (hrm : ax_rmle rm' rm maxL) (hst : st = vs.reverse ++ rest) (hro : (rest.map fun v => v.category).sum ≤ 8) (hcs : cs + rm'.cells ≤ rm.cells) (hss : ss + rm'.slots ≤ rm.slots)
    (kk : ∀ r S' I' R' L', Rs r S' I' R' L' → (∀ i sh, S i = some sh → S' i = some sh) → ax_W X nL q ls (r.toList ++ rest) S' I' R' L' (cs + rm'.cells) (ss + rm'.slots)) : ax_W X nL pc ls st S I R L cs ss := by
  obtain ⟨p, l1, e, Rm, s, m, args, below, meth, c, G, A, ad0, S0, Q⟩ := X
  obtain ⟨rfl, rfl, hx, hb, hml, hown, hts, hK, hA, hlk⟩ := h
  intro ad H locs lsC h0 hAd hR hS hl hlv
  subst hq; subst hst
  have hok : ∀ v ∈ vs, ax_okv S v := fun v hv => hlv.1 v (List.mem_append_left _ (List.mem_reverse.mpr hv))
  have hrest : ax_live S ls rest := ⟨fun v hv => hlv.1 v (List.mem_append_right _ hv), hlv.2⟩
  obtain ⟨pr1, pr2⟩ := ax_pre hR hK hok
  have hG : GoodIn ax_tb (Cond.codeWith y bytes maxL ret hh :: ax_tb) := by
    intro w h
    rcases List.mem_cons.mp h with rfl | h1
    · exact ⟨m1, ax_tb_good _ m1⟩
    · exact ⟨h1, ax_tb_good _ h1⟩
  have hBk : Back l1 Rm p e below s args y 3 8 (PreOf Rm rm'.cells rm'.slots (ax_Pre G ad H.size vs S I R L)) (PostOf (ax_Post G ad S H.size Rs) rm'.cells rm'.slots (ax_A ad S H.size)) :=
    va_backW (hh := hh) (bytes := bytes) (maxL := maxL) (ret := ret) (hM G ad H.size) pr1 rfl rfl hrm.1 hrm.2 (pay_in hts hG) List.mem_cons_self (fun a' U hW => word_at hW (ax_tb_good _ m2) (hts _ m2))
  refine ax_back (a := (vs.map (ax_tv ad)).toArray) hA h0 hAd hS hl hrest (fun T hT Xs => ?_) kk
  obtain ⟨mk, methM, cM, hnamed, hmethM, -, -, -, -, -, -, hsigM⟩ := Cond.codeWith_spec (hts _ m1)
  have hstatic : methM.isStatic = true := Cond.static_spec hnamed hmethM (hts _ hw2)
  obtain ⟨kP, hkP, -⟩ := className_of_methodNamed hnamed
  have hinitP : kP.init = .initialized := Cond.initialized_spec (findClass_of_methodNamed hnamed) hkP (hts _ m2)
  have hlen : (vs.map (ax_tv ad)).length = methM.sig.parameters.length := by
    rw [hsigM] at m5
    rw [List.length_map, hn]
    exact (Option.some.inj m5).symm
  obtain ⟨vm₁, X₁, hstep₁⟩ := Xs.invokestatic hx hown (hts _ hw) hnamed hmethM hstatic hkP hinitP m3 (g := F0 m pc lsC ((vs.reverse ++ rest).map (ax_tv ad))) rfl (argsL := vs.map (ax_tv ad)) (rest := rest.map (ax_tv ad)) hlen (by simp [List.map_append, List.map_reverse]) (by rw [hb]; exact hd)
  obtain ⟨v, ⟨U', l2, c2, s2⟩, X', ⟨g', mk', t, Ls, e1, e2, hq, h1, hL, h2, h3⟩, hsteps⟩ := hBk m meth c ⟨T.setVm vm₁, locs, cs, ss⟩ { F0 m pc lsC ((vs.reverse ++ rest).map (ax_tv ad)) with stack := rest.map (ax_tv ad) } (.invokestatic idx) mk (vs.map (ax_tv ad)).toArray X₁ rfl (by rw [hml]; exact hl.2.2.1) (by rw [hb]; exact hd)
    (by
      show 2 * 0 + _ ≤ 8
      rw [List.map_map, Nat.mul_zero, Nat.zero_add]
      refine Nat.le_trans (Nat.le_of_eq ?_) hro
      congr 1
      exact List.map_congr_left (fun v _ => ax_tv_cat ad v)) (X₁.named hnamed) ⟨hcs, hss, pr2 _ (by show T.heap = H; exact hT) X₁.warmed⟩
  dsimp only [Pt.U, Pt.locs, Pt.cells, Pt.slots] at X' e1 e2 h1 h2 h3 hsteps
  subst h1; subst h2; subst h3
  exact ⟨v, _, t, U', Ls, hT, X', hL, e1, e2, hq, fun target h => hstep₁ _ fun acts => by rw [doInvoke_state]; exact hsteps.trans h⟩
end AXV
