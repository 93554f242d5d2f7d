/-! the law's start -/
theorem st_lay {s : State} {args0 : Array Value} {o nm ds : String} (h1 : (Cond.laysStatic o nm ds).before args0 s = true) (h2 : (Cond.isRef (.static o nm ds)).before args0 s = true) :
    ∃ z : Nat × Cell, s.heap[z.1]? = some z.2 ∧ ∀ (b : State) (args : Array Value), s.vm.Alike b.vm → b.heap[z.1]? = some z.2 → (Cond.laysStatic o nm ds).before args b = true ∧ (Cond.isRef (.static o nm ds)).before args b = true := by
  obtain ⟨c, k, i, f, a, cell, hc, hi, hst, ha, hcell, hs, hcls, hlt, hty⟩ := Cond.laysStatic_spec h1
  obtain ⟨v, hv, hvr⟩ := Cond.isRef_spec h2
  have hslot : cell.slots[f.slot]? = some v := by
    simpa [Term.eval, State.fieldNamed?, hi, hst, ha, hcell, hs] using hv
  refine ⟨(a, cell), hcell, fun b args hal hb => ?_⟩
  obtain ⟨k', hi', hek⟩ := State.fieldFound?_setVm hal hi
  have hi2 : b.fieldFound? o nm ds = some (c, k', i, f) := hi'
  have ha2 : k'.statics = some a := by rw [hek]; exact ha
  refine ⟨Cond.laysStatic_of (by rw [hal.findClass]; exact hc) hi2 hst ha2 hb hs hcls hlt (by rw [hek]; exact hty), ?_⟩
  have he : (Term.static o nm ds).eval args b none [] b = some v := Term.static_eval hi2 hst ha2 hb hs hslot
  simp only [Cond.before, Cond.holds, Cond.value, he]
  cases v <;> first | rfl | (simp [Value.isRef] at hvr)
theorem st_nw : ∀ w ∈ ax_nw, w ∈ lw_tbl := by decide +kernel
theorem st_sr : ∀ q ∈ ax_sr, Cond.stringRef q.1 q.2.1 q.2.2 ∈ lw_tbl ∧ q.1 = "LossFreeTools" := by decide +kernel
theorem st_nc : ∀ q ∈ ax_nc, Cond.not (.castable q.1 q.2) ∈ flatC (Jvm.Cond.and given_1 narrow_1) := by decide +kernel
theorem st_arr {s : State} {A : Array Value} {ty : FieldType} (h : (Cond.arrayClass ty).before A s = true) : ∃ c, ArrOfT s c ty ∧ s.vm.findClass ("[" ++ ty.toString) = some c := by
  obtain ⟨c, k, comp, h1, h2, h3⟩ := Cond.arrayClass_spec h
  exact ⟨c, fun n z => ⟨fun k h => (by cases h), k, h2, comp, h3⟩, h1⟩
theorem st_over {s : State} {A : Array Value} {C : String} (h : (Cond.arrayOver (.object C)).before A s = true) : ∃ c, ArrOfT s c (.object C) ∧ va_RA s c (.object C) := by
  obtain ⟨comp, c, k, h1, h2, h3, h4, h5⟩ := Cond.arrayOver_spec h
  exact ⟨c, fun n z => ⟨fun k h => (by cases h), k, h3, comp, h4⟩, k, comp, h3, h4, h1, h5⟩
def R_law : String := "LossFreeToolsLaw"
def lw_At (p : Program) (s : State) (m : MethodId) (meth : Method) (c : Code) (b L : Nat) (xs : Nat → Int32) : Prop :=
  p.tables.exec = Jvm.exec ∧ c.code = code ∧ meth.sig.returnType = ret ∧ c.maxLocals = 7 ∧ s.vm.findClass R_law = some m.cls ∧ (∀ w ∈ lw_tbl, w.before #[Value.ref b] s = true) ∧ va_X b L xs s s.heap ∧ b < s.heap.size ∧ meth.locks = false ∧ (Jvm.Cond.and given_1 narrow_1).before #[Value.ref b] s = true
theorem st_K {p : Program} {s : State} {m : MethodId} {meth : Method} {c : Code} {b L : Nat} {xs : Nat → Int32} (C0 : lw_At p s m meth c b L xs) : ∃ G : ax_G, ax_K G s ∧ ax_scrG G b L xs ∧ ∀ z ∈ G.2.2, s.heap[z.1]? = some z.2 := by
  obtain ⟨hx, hb, hr, hml, hown, hts, ⟨scr, hcb, hof, hkn, hsz, hval⟩, hbl, hlocks, hgv⟩ := C0
  have hs := flat_of_before _ hgv
  have htb : ∀ w ∈ ax_tb, w.before #[Value.ref b] s = true := fun w hw => hts w (List.mem_filter.mp hw).1
  obtain ⟨z1, hz1, hw1⟩ := st_lay (hts (.laysStatic "java/lang/Throwable" "UNASSIGNED_STACK" "[Ljava/lang/StackTraceElement;") (by decide +kernel)) (hs (.isRef (.static "java/lang/Throwable" "UNASSIGNED_STACK" "[Ljava/lang/StackTraceElement;")) (by decide +kernel))
  obtain ⟨z2, hz2, hw2⟩ := st_lay (hts (.laysStatic "java/lang/Throwable" "SUPPRESSED_SENTINEL" "Ljava/util/List;") (by decide +kernel)) (hs (.isRef (.static "java/lang/Throwable" "SUPPRESSED_SENTINEL" "Ljava/util/List;")) (by decide +kernel))
  obtain ⟨a0, ha0, hn0⟩ := st_arr (htb _ wa_int)
  obtain ⟨a1, ha1, hn1⟩ := st_arr (htb _ wa_long)
  have ho2 := hts (.arrayOver (.object "LossFreeTools$Tile")) (by decide +kernel)
  have ho3 := hts (.arrayOver (.object "LossFreeTools$Note")) (by decide +kernel)
  obtain ⟨a2, ha2, hn2⟩ := st_over ho2
  obtain ⟨a3, ha3, hn3⟩ := st_over ho3
  obtain ⟨c0, i0, k0⟩ := u_known (C := R_N) (T := F_N) (N := 3) (n := 3) htb ax_cls_N.1 (htb _ wz_N)
  obtain ⟨c1, i1, k1⟩ := u_known (C := R_P) (T := F_P) (N := 6) (n := 6) htb ax_cls_P.1 (htb _ wz_P)
  obtain ⟨c2, i2, k2⟩ := u_known (C := R_S) (T := F_S) (N := 3) (n := 3) htb ax_cls_S.1 (htb _ wz_S)
  obtain ⟨c3, i3, k3⟩ := u_known (C := R_T) (T := F_T) (N := 7) (n := 7) htb ax_cls_T.1 (htb _ wz_T)
  obtain ⟨c4, i4, k4⟩ := u_known (C := R_K) (T := F_K) (N := 8) (n := 8) htb ax_cls_K.1 (htb _ wz_K)
  obtain ⟨c5, i5, k5⟩ := u_known (C := R_M) (T := F_M) (N := 23) (n := 23) htb ax_cls_M.1 (htb _ wz_M)
  refine ⟨((fun k => if k = 0 then c0 else if k = 1 then c1 else if k = 2 then c2 else if k = 3 then c3 else if k = 4 then c4 else c5, fun k => if k = 0 then i0 else if k = 1 then i1 else if k = 2 then i2 else if k = 3 then i3 else if k = 4 then i4 else i5), [(a0, .int), (a1, .long), (a2, .object "LossFreeTools$Tile"), (a3, .object "LossFreeTools$Note")], [(b, scr), z1, z2]), ⟨⟨?_, ?_⟩, rfl, ?_, ?_, ?_, ?_, ?_, ?_⟩, ⟨scr, rfl, hkn, hsz, hval⟩, ?_⟩
  · intro k q hq
    match k, hq with
    | 0, hq => cases hq; exact k0
    | 1, hq => cases hq; exact k1
    | 2, hq => cases hq; exact k2
    | 3, hq => cases hq; exact k3
    | 4, hq => cases hq; exact k4
    | 5, hq => cases hq; exact k5
    | k + 6, hq => simp [ax_cl] at hq
  · intro k q hq
    match k, hq with
    | 0, hq => cases hq; exact ⟨ha0, hn0⟩
    | 1, hq => cases hq; exact ⟨ha1, hn1⟩
    | 2, hq => cases hq; exact ⟨ha2, hn2⟩
    | 3, hq => cases hq; exact ⟨ha3, hn3⟩
    | k + 4, hq => simp at hq
  · exact fun w hw => va_Nw.of (ax_nw_ot w hw) (hts w (st_nw w hw))
  · intro C hC
    have : C = "LossFreeTools$Tile" ∨ C = "LossFreeTools$Note" := by simpa [ax_ao] using hC
    rcases this with rfl | rfl
    · exact va_AO.of ho2
    · exact va_AO.of ho3
  · intro t args hal hz w hw
    have e1 := hw1 t args hal (hz z1 (by simp))
    have e2 := hw2 t args hal (hz z2 (by simp))
    have : w = .isRef (.static "java/lang/Throwable" "UNASSIGNED_STACK" "[Ljava/lang/StackTraceElement;") ∨ w = .isRef (.static "java/lang/Throwable" "SUPPRESSED_SENTINEL" "Ljava/util/List;") ∨ w = .laysStatic "java/lang/Throwable" "UNASSIGNED_STACK" "[Ljava/lang/StackTraceElement;" ∨ w = .laysStatic "java/lang/Throwable" "SUPPRESSED_SENTINEL" "Ljava/util/List;" := by simpa [ax_t4] using hw
    rcases this with rfl | rfl | rfl | rfl
    · exact e1.2
    · exact e2.2
    · exact e1.1
    · exact e2.1
  · intro q hq
    obtain ⟨h1, h2⟩ := st_sr q hq
    have h1 := hts _ h1
    have hcur : s.vm.findClass q.1 = some c4 := by rw [h2]; exact k4.2.1
    obtain ⟨-, -, -, a, -, -, -, -, -, hev⟩ := Cond.stringRef_spec hcur h1
    exact ⟨a, vk_R.of h1 hev⟩
  · exact fun q hq => va_Nc.of (hs _ (st_nc q hq))
  · intro z hz
    cases hz
    exact hof
  · intro z hz
    have : z = (b, scr) ∨ z = z1 ∨ z = z2 := by simpa using hz
    rcases this with rfl | rfl | rfl
    · exact hcb
    · exact hz1
    · exact hz2
