/-! AX, throws: 'throw new E("..")' ends a method; a caller with a table of handlers catches -/
section AXT
variable {p : Program} {l : Launch} {e : Env} {Rm : Room} {s : State} {m : MethodId} {args : Array Value} {below : List Frame} {meth : Method} {c : Code} {locs : List Loc} {cells slots : Nat}
/-- the same point of a walk, counted from here: as if the method began in this heap -/
theorem ax_anew0 {T : State} (X : Stand p l e Rm s m args below meth c T locs cells slots) {R2 : Room} (h1 : R2.frames ≤ Rm.frames) (h2 : R2.locals ≤ Rm.locals) (h3 : cells + R2.cells ≤ Rm.cells) (h4 : slots + R2.slots ≤ Rm.slots) :
    Stand p l e R2 ((T.setVm s.vm).setFrames (.invoking m args :: below)) m args below meth c T [] 0 0 := by
  obtain ⟨g0, hfr⟩ := X.frames_eq
  have hcur : (T.setVm s.vm).cur < (T.setVm s.vm).threads.size := State.cur_lt_of_frames hfr
  have hF : ((T.setVm s.vm).setFrames (.invoking m args :: below)).frames = .invoking m args :: below := State.frames_setFrames _ hcur
  have hlim : e.platform.stackLimits (T.setVm s.vm).me = e.platform.stackLimits s.me := X.limits
  have hbyt : (T.setVm s.vm).me.stackBytes = s.me.stackBytes := X.bytes
  have hroom : ((T.setVm s.vm).setFrames (.invoking m args :: below)).hasRoom e.platform R2 = true := by
    have hu : ((T.setVm s.vm).setFrames (.invoking m args :: below)).localsInUse = s.localsInUse := by
      rw [State.localsInUse_invoking hF (meth := meth) (c := c) X.method X.code, State.localsInUse_invoking X.frames X.method X.code]
    have hr := X.room
    have hz := X.heapSize
    have hy := X.used
    simp only [State.hasRoom, Bool.and_eq_true, decide_eq_true_eq] at hr ⊢
    obtain ⟨⟨⟨⟨r1, r2, r3, r4, r5, r6⟩, r7⟩, r8⟩, -⟩ := hr
    rw [X.frames, List.length_cons] at r2 r3
    simp only [hF, hu, List.length_cons, State.stackLimits_setFrames, State.stackBytes_setFrames, hlim, hbyt]
    have r7' : T.heap.size + R2.cells ≤ e.platform.maxCells := by omega
    have r8' : T.slotsUsed + R2.slots ≤ e.platform.maxSlots := by omega
    exact ⟨⟨⟨⟨by omega, by omega, by omega, by omega, by omega, r6⟩, r7'⟩, r8'⟩, X.book⟩
  have hdrop : (T.heap.toList.drop T.heap.size) = [] := List.drop_eq_nil_of_le (Nat.le_of_eq Array.length_toList)
  have hsame : ((T.setVm s.vm).setFrames (.invoking m args :: below)).sameButNew (T.setVm s.vm) [] 0 0 := by
    refine ⟨?_, Nat.le_refl _, Nat.le_refl _, ?_, ?_, fun a c9 h9 => ⟨c9, h9, rfl, rfl, fun _ _ => rfl⟩⟩
    · obtain ⟨t, ht, -⟩ := State.frames_cons (s := T.setVm s.vm) hfr
      show T.setVm s.vm = { ((T.setVm s.vm).setFrames (.invoking m args :: below)).setFrames (T.setVm s.vm).frames with heap := T.heap, slotsUsed := T.slotsUsed }
      rw [State.setFrames_setFrames, State.setFrames_self ht]
      rfl
    · show T.slotsUsed = T.slotsUsed + ((T.heap.toList.drop T.heap.size).map (·.slots.size)).sum
      rw [hdrop]
      rfl
    · show ((T.heap.toList.drop T.heap.size).map (·.slots.size)).sum ≤ 0
      rw [hdrop]
      exact Nat.le_refl _
  exact { admits := X.admits, cas := X.cas, clock := X.clock, frames := hF, room := hroom, hears := X.hears, method := X.method, code := X.code, here := X.here, tail := X.tail, warmed := X.warmed, limits := by rw [State.stackLimits_setFrames]; rfl, bytes := by rw [State.stackBytes_setFrames]; rfl, same := hsame }
/-- nothing listed: the old cells stand -/
theorem ax_old {b U : State} {k n : Nat} (h : b.sameButNew ({ U with vm := b.vm } : State) [] k n) : b.heap.size ≤ U.heap.size ∧ ∀ q : Nat, q < b.heap.size → U.heap[q]? = b.heap[q]? := by
  obtain ⟨-, h2, -, -, -, h6⟩ := h
  refine ⟨h2, fun q hq => ?_⟩
  obtain ⟨c9, e1, e2, e3, e4⟩ := h6 q _ (Array.getElem?_eq_getElem hq)
  have hs : c9.slots = (b.heap[q]).slots := Array.ext_getElem? fun i => e4 i (fun z => by cases z)
  rw [hs] at e2
  rw [Array.getElem?_eq_getElem hq]
  exact e1.trans (congrArg some e2)
end AXT
/-- a method without a table of handlers -/
def ax_noh (X : ax_X) : Prop := match X with
  | (_, _, _, _, _, _, _, _, _, c, _, _, _, _, _) => c.exceptionTable.toList = []
/-- the words of 'throw new E(text)' by own's pool: ik the class, is the text, ic the constructor -/
def ax_thr (own : String) (ik is ic : Nat) (E text : String) : Prop := Bundle.fit E = true ∧ Cond.classLink own ik E ∈ ax_tb ∧ Cond.initialized E ∈ ax_tb ∧ (own, is, text) ∈ ax_sr ∧ ∀ w ∈ Bundle.ownAtoms own ic E ["java/lang/RuntimeException", "java/lang/Exception"], w ∈ ax_tb ∨ w ∈ ax_nw ∨ w ∈ ax_t4
section AXU
variable {X : ax_X} {l : Launch} {own : String} {cc : ByteArray} {nL : Nat} {rm : Room} {pc q : Nat} {ls : ax_Ls} {st : List Value} {S : ax_S} {I : ax_I} {R : ax_R} {L : ax_L} {cs ss mc ms : Nat} {ret : Option FieldType} {RX : ax_RX}
set_option maxHeartbeats 1000000 in
theorem ax_throw (h : ax_ok X l own cc nL rm) (hf : ax_fin X ret mc ms RX) (hno : ax_noh X) (hl0 : l.stackTraces = false) {ik is ic : Nat} {E text : String} (hw : ax_thr own ik is ic E text)
    (d0 : decode cc pc = .ok (.new ik, 3)) (d3 : decode cc (pc + 3) = .ok (.dup, 1)) (d4 : decode cc (pc + 4) = .ok (.ldc is, 2)) (d6 : decode cc (pc + 6) = .ok (.invokespecial ic, 3)) (d9 : decode cc (pc + 9) = .ok (.athrow, 1))
    (hfr : 6 ≤ rm.frames) (hlo : 90 ≤ rm.locals) (hcm : cs + 1 ≤ rm.cells) (hsm : ss + 6 ≤ rm.slots) (hc : cs + 1 ≤ mc) (hs : ss + 6 ≤ ms) (hr : RX (.inr E) S I R L) (hSS : ∀ i sh, ax_S0 X i = some sh → S i = some sh) : ax_W X nL pc ls [] S I R L cs ss := by
  obtain ⟨p, l1, e, Rm, s, m, args, below, meth, c, G, A, ad0, S0, Q⟩ := X
  obtain ⟨rfl, rfl, hx, hb, hml, hown, hts, hK, hA, hlk⟩ := h
  obtain ⟨hret1, rfl, rfl⟩ := hf
  intro ad H locs lsC h0 hAd hR hS hl hlv
  intro T hT Xs
  obtain ⟨hfit, w1, w2, w3, w4⟩ := hw
  have htr : e.platform.stackTraces = false := (show e.platform.stackTraces = l1.stackTraces by rw [Xs.admits.platform]).trans hl0
  have Y := ax_anew0 Xs (R2 := { frames := Rm.frames, locals := Rm.locals, cells := 1, slots := 6 }) (Nat.le_refl _) (Nat.le_refl _) hcm hsm
  obtain ⟨b, hbb⟩ : ∃ z, z = (T.setVm s.vm).setFrames (.invoking m args :: below) := ⟨_, rfl⟩
  rw [← hbb] at Y
  have hvm : s.vm = b.vm := by rw [hbb]; rfl
  have hhp : b.heap = H := by rw [hbb]; exact hT
  have hW0 : s.WarmedH b.vm := by rw [← hvm]; exact State.WarmedH.refl s
  have htb : ∀ w ∈ ax_tb, w.before args b = true := fun w hw => word_at hW0 (ax_tb_good w hw) (hts w hw)
  have hat : ∀ w ∈ Bundle.ownAtoms own ic E ["java/lang/RuntimeException", "java/lang/Exception"], w.before args b = true := by
    intro w hw
    rcases w4 w hw with h1 | h1 | h1
    · exact htb w h1
    · exact va_Nw.use (ax_nw_ot w h1) (va_Nw.same (ax_nw_ot w h1) hvm (hK.2.2.1 w h1))
    · exact hK.2.2.2.2.1 b args hW0.alike (fun z hz => by rw [hhp]; exact (hR.2.2.2 z hz).1) w h1
  have hown' : b.vm.findClass own = some m.cls := by rw [← hvm]; exact hown
  obtain ⟨sa, hsa⟩ := hK.2.2.2.2.2.1 _ w3
  have hsa' : vk_R own is text sa b := vk_R.warm hW0 hsa
  have hins : (Cond.instantiable E 6).before args b = true := hat _ (by simp [Bundle.ownAtoms])
  obtain ⟨vm₁, cX, kX, hfX, hkX, -, -, X₁, st1⟩ := Y.newCold hx (own := own) (C := E) (index := ik) (n := 6) hown' (htb _ w1) hins (htb _ w2) (g := F0 m pc lsC []) rfl (by rw [hb]; exact d0) (Nat.le_refl _) (Nat.le_refl _)
  generalize hT1 : (T.setVm vm₁).pushCell { cls := cX, slots := kX.instanceTypes.map defaultValue, vm := .none } = T1 at X₁ st1
  have hcellA : T1.heap[T.heap.size]? = some (freshCell cX kX) := by rw [← hT1]; exact State.heap_pushCell_size _ _
  obtain ⟨U, hsteps, hrun, hend, hW, hsame, ce, hce, hO⟩ := X₁.ctorThrowS hx htr (own := own) (cls := E) (names := ["java/lang/RuntimeException", "java/lang/Exception"]) (ic := ic) hown' hfit (by decide +kernel) hat (fun x hx => nomatch hx) hfX hkX hcellA (by rw [hhp, hT]; exact Nat.le_refl _) (msg := .ref sa) rfl
    (g := { method := m, pc := pc + 6, locals := lsC, stack := .ref sa :: .ref T.heap.size :: .ref T.heap.size :: [], locked := none }) rfl (by rw [hml]; exact hl.2.2.1) rfl rfl (rest := []) rfl
    (by rw [hb]; exact d6) (by rw [hb]; exact d9) (fun x hx => by rw [show c.exceptionTable.toList = [] from hno] at hx; cases hx) (by show 2 + 3 < Rm.frames; omega) (by show 2 * 0 + (1 + 0) + (13 * (2 + 1) + 42) ≤ Rm.locals; omega) hlk
  obtain ⟨f1, f2⟩ := ax_old hsame
  rw [hhp] at f1 f2
  have hWs : s.WarmedH U.vm := State.WarmedH.trans hW0 hW
  have hcl : s.vm.findClass E = some ce.cls := by rw [hvm]; exact hO.cls
  have hall : s.sameButNew ({ U with vm := s.vm } : State) locs mc ms := by
    subst hbb
    obtain ⟨e1, e2⟩ := hsame
    rw [State.setFrames_setFrames] at e1
    have h2 : (T.setVm s.vm).sameButNew ({ U with vm := s.vm } : State) [] (0 + 1) (0 + 6) := ⟨e1, e2⟩
    have h3 := Xs.same.trans h2
    rw [List.append_nil] at h3
    exact h3.mono hc hs
  have hrep : ax_Rep G ad S I R L U.heap := by
    refine ⟨fun i sh hi => (hR.1 i sh hi).kept rfl (fun _ => rfl) (fun _ => rfl) (fun _ => rfl) (f2 _ (hR.1 i sh hi).lt), hR.2.1, hR.2.2.1, fun z hz => ⟨?_, (hR.2.2.2 z hz).2⟩⟩
    have h9 := (hR.2.2.2 z hz).1
    rw [f2 _ (Array.getElem?_eq_some_iff.mp h9).1]
    exact h9
  have hF : va_F (ax_A ad0 S0 s.heap.size) s U := ⟨Nat.le_trans hS.1 f1, fun q h1 h2 => (f2 q (Nat.lt_of_lt_of_le h1 hS.1)).trans (hS.2.1 q h1 h2)⟩
  refine ⟨U, ?_, .threw T.heap.size, hrun, hend, ⟨.inr E, S, I, R, L, ad, hr, ⟨T.heap.size, ce, rfl, hce, hO.vm, hcl⟩, ⟨hSS, fun i hi => (h0 i hi).2, hAd, hrep⟩⟩, hF, locs, hWs, hall, hS.2.2⟩
  have d3' : decode c.code (pc + 3) = .ok (.dup, 1) := by rw [hb]; exact d3
  have d4' : decode c.code (pc + 4) = .ok (.ldc is, 2) := by rw [hb]; exact d4
  refine st1 _ ?_
  show Steps p.tables e below (T1.setTop { method := m, pc := pc + 3, locals := lsC, stack := .ref T.heap.size :: [], locked := none }) _
  jvm_step X₁.here [X₁.here.top, hx, d3', Value.category]
  exact X₁.ldcString hx (own := own) (text := text) (index := is) (a := sa) hown' hsa'.1 hsa'.2
    (g := { method := m, pc := pc + 4, locals := lsC, stack := .ref T.heap.size :: .ref T.heap.size :: [], locked := none }) rfl d4' _ hsteps
end AXU
