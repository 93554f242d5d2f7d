/-! the claim -/
theorem p1_step (x1 x2 : Int32) (xs : Nat → Int32) (L : ax_L) : ∃ out, d_L_step oS xs 2 (oI x1 x2) (mR 16) L = some out := by
  have hK := fI_K x1 x2
  have hM := fI_M x1 x2
  have bw := fs_bd x1
  have bh := fs_bd x2
  unfold d_L_step
  by_cases z0 : xs 2 &&& 31 = 0
  · rw [if_pos z0]
    exact p1_tile hK hM
  rw [if_neg z0]
  by_cases z1 : xs 2 &&& 31 = 1
  · rw [if_pos z1]
    exact p1_byteOf hK hM
  rw [if_neg z1]
  by_cases z2 : xs 2 &&& 31 = 2
  · rw [if_pos z2]
    exact p1_note hK hM bw.1 bh.1
  rw [if_neg z2]
  by_cases z3 : xs 2 &&& 31 = 3
  · rw [if_pos z3]
    exact p1_crop hK hM
  rw [if_neg z3]
  by_cases z4 : xs 2 &&& 31 = 4
  · rw [if_pos z4]
    exact p1_near hK hM
  rw [if_neg z4]
  by_cases z5 : xs 2 &&& 31 = 5
  · rw [if_pos z5]
    exact p1_turn hK hM
  rw [if_neg z5]
  by_cases z6 : xs 2 &&& 31 = 6
  · rw [if_pos z6]
    exact p1_swap x1 x2 L xs 2
  rw [if_neg z6]
  by_cases z7 : xs 2 &&& 31 = 7
  · rw [if_pos z7]
    exact p1_join hK hM bw bh
  rw [if_neg z7]
  by_cases z8 : xs 2 &&& 31 = 8
  · rw [if_pos z8]
    exact p1_at hK hM
  rw [if_neg z8]
  by_cases z9 : xs 2 &&& 31 = 9
  · rw [if_pos z9]
    exact p1_byteAt hK hM
  rw [if_neg z9]
  by_cases z10 : xs 2 &&& 31 = 10
  · rw [if_pos z10]
    exact p1_shown hK hM bw.1 bh.1
  rw [if_neg z10]
  by_cases z11 : xs 2 &&& 31 = 11
  · rw [if_pos z11]
    exact p1_noteAt hK hM
  rw [if_neg z11]
  by_cases z12 : xs 2 &&& 31 = 12
  · rw [if_pos z12]
    exact p1_write hK hM
  rw [if_neg z12]
  by_cases z13 : xs 2 &&& 31 = 13
  · rw [if_pos z13]
    exact p1_streamAt hK hM
  rw [if_neg z13]
  by_cases z14 : xs 2 &&& 31 = 14
  · rw [if_pos z14]
    exact p1_pointer hK hM
  rw [if_neg z14]
  by_cases z15 : xs 2 &&& 31 = 15
  · rw [if_pos z15]
    exact p1_told x1 x2 L xs 2
  rw [if_neg z15]
  by_cases z16 : xs 2 &&& 31 = 16
  · rw [if_pos z16]
    exact p1_clear x1 x2 L xs 2
  rw [if_neg z16]
  exact ⟨_, rfl⟩
def lw_P (b : Addr) (xs : List Int32) (args : Array Value) (s : State) : Prop := args = #[.ref b] ∧ s.IntsAt b xs ∧ xs.length ≤ 7 ∧ (Jvm.Cond.and given_1 narrow_1).before args s = true
theorem whole_start {p : Program} {e : Env} {s : State} {m : MethodId} {below : List Frame} {meth : Method} {c : Code} (l : Launch) (hl0 : l.stackTraces = false) {b L : Nat} {xs : Nat → Int32} (hL : L ≤ 7) (C0 : lw_At p s m meth c b L xs) : W p l e room_1 s m #[Value.ref b] below meth c s.heap [] 0 0 (lw_Z below #[Value.ref b] s) (entryFrame m ([Value.ref b] : List Value).toArray 7) := by
  refine lw_whole l hl0 (by omega) C0 (fun i I R _ => 2 ≤ i ∧ (i = 2 → I = oI (scv L xs 0) (scv L xs 1) ∧ R = mR 16)) ⟨Nat.le_refl 2, fun _ => ⟨rfl, rfl⟩⟩ ?_
  rintro i I R L0 hi ⟨h2, hp⟩
  have e : i = 2 := by omega
  obtain ⟨rfl, rfl⟩ := hp e
  subst e
  obtain ⟨out, ho⟩ := p1_step (scv L xs 0) (scv L xs 1) xs L0
  exact ⟨oS_typ, out, ho, by omega, fun z => absurd z (by omega)⟩
set_option maxHeartbeats 4000000 in
theorem lw_walk (l : Launch) (hl0 : l.stackTraces = false) (b : Addr) (xs : List Int32) : MetFree l x (headSpec (Jvm.Cond.code x code maxLocals ret :: tables_1) room_1) (lw_P b xs) (fun _ _ _ _ _ => True) lw_Q := by
  refine MetFree.of_bodyS (code := code) (maxLocals := maxLocals) (ret := ret) (by decide) ?_ ?_
  · intro args s m h hn
    obtain ⟨meth, c, h1, h2, h3, h4, h5, h6, -, -⟩ := Cond.code_spec hn (atoms_spec (ws := Jvm.Cond.code x code maxLocals ret :: tables_1) h _ List.mem_cons_self)
    exact ⟨meth, c, h1, h2, h3, h4, h5, h6⟩
  · intro p e s m args below meth c s₁ B hml0 hP _
    obtain ⟨rfl, hx, hbd, hgv⟩ := hP
    obtain ⟨scr, harrAt, hlist, hof, hsmall⟩ := hx
    obtain ⟨hcb, hkn, -, -⟩ := State.arrayAt?_spec harrAt
    have hown : s.vm.findClass R_law = some m.cls := findClass_of_methodNamed B.named
    have hts0 : ∀ c ∈ (Jvm.Cond.code x code maxLocals ret :: tables_1), c.before #[Value.ref b] s = true := atoms_spec (ws := Jvm.Cond.code x code maxLocals ret :: tables_1) B.pre
    have hts : ∀ w ∈ lw_tbl, w.before #[Value.ref b] s = true := k2_hts_sels lw_privs (fun w hw => hts0 w (List.mem_cons_of_mem _ hw)) lw_privs_ok
    have hml : c.maxLocals = 7 := B.maxLocals_eq (hts0 _ List.mem_cons_self)
    have X₀ : Stand p l e room_1 s m #[Value.ref b] below meth c s₁ [] 0 0 := Stand.of_body B
    have hh0 : s₁.heap = s.heap := by rw [B.state]; rfl
    have hsz : scr.slots.size = xs.length := by rw [← Array.length_toList, hlist, List.length_map]
    have hval : ∀ j : Nat, j < xs.length → scr.slots[j]? = some (.int (xs.getD j 0)) := fun j hj => by
      rw [← Array.getElem?_toList, hlist]
      simp [hj]
    have hbl : b < s.heap.size := (Array.getElem?_eq_some_iff.mp hcb).1
    have hX : va_X b xs.length (fun j => xs.getD j 0) s s.heap := ⟨scr, hcb, hof, hkn, hsz, hval⟩
    have K : W p l e room_1 s m #[Value.ref b] below meth c s₁.heap [] 0 0 (lw_Z below #[Value.ref b] s) (entryFrame m ([Value.ref b] : List Value).toArray 7) := by
      rw [hh0]
      exact whole_start l hl0 hbd ⟨B.exec, B.bytes, B.returns, hml, hown, hts, hX, hbl, B.notSynchronized, hgv⟩
    obtain ⟨t, a1, o, b1, b2, b3⟩ := K s₁ rfl X₀
    exact ⟨t, o, a1, b1, b2, b3⟩
theorem lw_pre_spec {args : Array Value} {s : State} (h : (Jvm.Cond.and given_1 narrow_1).before args s = true) (hr : rest_1_c.before args s = true) : ∃ (b : Addr) (xs : List Int32), lw_P b xs args s := by
  have hs := flat_of_before _ h
  have hq := flat_of_before _ hr
  have hc : (Cond.count 1).before args s = true := hs _ (by decide +kernel)
  have harr : (Cond.arrayOf (.arg 0) .int).before args s = true := hs _ (by decide +kernel)
  have hle : (Cond.le (.length (.arg 0)) (.int 7)).before args s = true := hs _ (by decide +kernel)
  have hlen : (Cond.isInt (.length (.arg 0))).before args s = true := hq _ (by decide +kernel)
  have hall : (Cond.all (.arg 0) (.isInt (.elem (.arg 0) (.index 0)))).before args s = true := hq _ (by decide +kernel)
  obtain ⟨b, xs, hb, hx⟩ := State.ints_of_pre rfl harr hlen hall
  have hsm : xs.length < 2 ^ 31 := hx.choose_spec.2.2.2
  have hev : (Term.length (.arg 0)).eval args s none [] s = some (.int xs.length.toInt32) := hx.length_eval hb
  have hv := Cond.le_ints hev (show (Term.int 7).eval args s none [] s = some (.int 7) from rfl)
  have hd : xs.length.toInt32 ≤ 7 := by
    simpa [Cond.before, Cond.holds, hv] using hle
  have hN : xs.length ≤ 7 := (Int32.ofNat_le_ofNat hsm (by decide)).mp (show Int32.ofNat xs.length ≤ Int32.ofNat 7 from hd)
  exact ⟨b, xs, Cond.one_arg hc (show args[0]? = some (.ref b) from hb), hx, hN, h⟩
theorem lw_comes (l : Launch) (hl0 : l.stackTraces = false) : Comes l x (Jvm.Cond.code x code maxLocals ret :: tables_1) room_1 (fun tb e args s => Calls_1 tb e args s ∧ rest_1 tb e args s ∧ Pre_1 tb e args s)
    (fun _ _ args s o t => lw_Q args s o t) := by
  intro p e ha hc hk s m args below hf hfit hheap happ hpre
  obtain ⟨b, xs, hP⟩ := lw_pre_spec hpre.2.2 hpre.2.1
  obtain ⟨k, o, h1, h2, h3, hQ⟩ := lw_walk l hl0 b xs p e ha hc hk s m args below hf ((Spec.applies_iff_loose hf).mp happ).1 hP trivial
  exact ⟨k, o, h1, h2, h3, hQ⟩
theorem lw_frame {s t : State} {o : Outcome} {args : Array Value} (h : Framed s o t [] 600002 7302197) :
    Framed s o t (fieldLocs frame_1_writes args s ++ arrayLocs frame_1_arrays args s ++ staticLocs frame_1_statics s) 600002 7302197 := h
theorem lw_limb (L : Cond) (hL : ∀ (args : Array Value) (s t : State), L.after args s (.returned (some (.int 1))) t = true) :
    ArmFor flags0 classFile x code maxLocals ret World_1 tables_1 room_1 Calls_1 rest_1 Pre_1
      (fun tb e a s o t => postC L tb e a s o t ∧ Framed s o t (fieldLocs frame_1_writes a s ++ arrayLocs frame_1_arrays a s ++ staticLocs frame_1_statics s) 600002 7302197) := by
  intro l hfl _ _ p e ha hc hk s m args below hf hfit hheap happ hpre
  have hl0 : l.stackTraces = false := by
    unfold Launch.stackTraces
    rw [hfl]
    decide +kernel
  obtain ⟨k, o, h1, h2, h3, rfl, hF⟩ := lw_comes l hl0 p e ha hc hk s m args below hf hfit hheap happ hpre
  exact ⟨k, _, h1, h2, h3, hL args s _, lw_frame hF⟩
theorem i_vc : Claimed_1_1 ∧ Claimed_1_2 := ⟨lw_limb limb_1_1 (fun args s t => by simp [limb_1_1, Cond.after, Cond.holds, Cond.value]), lw_limb limb_1_2 (fun args s t => Cond.after_iff.mpr (by
  first | (rw [show limb_1_2 = Cond.eq .result (.int 1) from rfl, Cond.eq_ints (x := 1) (y := 1) rfl rfl]; simp; done) | (simp [limb_1_2, Cond.value, Term.eval]; done)))⟩
