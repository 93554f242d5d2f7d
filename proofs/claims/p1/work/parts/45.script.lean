/-! the law's script: a cell that nobody writes (the first of G's kept cells); its reference is '.retAddr b' in hand -/
def ax_GX (X : ax_X) : ax_G := X.2.2.2.2.2.2.2.2.2.2.1
def ax_scrG (G : ax_G) (b n : Nat) (sc : Nat → Int32) : Prop := ∃ ce : Cell, G.2.2[0]? = some (b, ce) ∧ ce.vm ≠ .unknown ∧ ce.slots.size = n ∧ ∀ j : Nat, j < n → ce.slots[j]? = some (.int (sc j))
section SCR
variable {X : ax_X} {l : Launch} {own : String} {cc : ByteArray} {nL : Nat} {rm : Room} {pc q : Nat} {ls ls' : ax_Ls} {st : List Value} {S : ax_S} {I : ax_I} {R : ax_R} {L : ax_L} {cs ss mc ms : Nat} {ret : Option FieldType} {RX : ax_RX} {b n : Nat} {sc : Nat → Int32}
theorem ax_saload_n (h : ax_ok X l own cc nL rm) {k : Fin 4} {i : Nat} (hd : decode cc pc = .ok (.aload_n k, 1)) (hq : pc + 1 = q) (hi : (k : Nat) = i) (hl0 : ls[i]? = some (some (.retAddr b))) (kk : ax_W X nL q ls (.retAddr b :: st) S I R L cs ss) : ax_W X nL pc ls st S I R L cs ss := by
  obtain ⟨p, l1, e, Rm, s, m, args, below, meth, c, G, A, ad0, S0, Q⟩ := X
  obtain ⟨rfl, rfl, hx, hb, hml, hown, hts, hK, hA, hlk⟩ := h
  intro ad H locs lsC h0 hAd hR hS hl hlv
  subst hq
  exact lv_aload_n hx hb hd hi (hl.get hl0) (kk ad H locs lsC h0 hAd hR hS hl (hlv.push (hlv.2 _ (List.mem_of_getElem? hl0))))
theorem ax_slen (h : ax_ok X l own cc nL rm) (hs : ax_scrG (ax_GX X) b n sc) (hd : decode cc pc = .ok (.arraylength, 1)) (hq : pc + 1 = q)
    (kk : ax_W X nL q ls (.int (nI n) :: st) S I R L cs ss) : ax_W X nL pc ls (.retAddr b :: st) S I R L cs ss := by
  obtain ⟨p, l1, e, Rm, s, m, args, below, meth, c, G, A, ad0, S0, Q⟩ := X
  obtain ⟨rfl, rfl, hx, hb, hml, hown, hts, hK, hA, hlk⟩ := h
  intro ad H locs lsC h0 hAd hR hS hl hlv
  subst hq
  obtain ⟨ce, hz, h1, h2, h3⟩ := hs
  have hz : G.2.2[0]? = some (b, ce) := hz
  have hcell := (hR.2.2.2 _ (List.mem_of_getElem? hz)).1
  refine W.alen hx hb hcell (hK.2.2.2.2.2.2.2 _ hz) (n := nI n) ?_ rfl rfl hd (kk ad H locs lsC h0 hAd hR hS hl (hlv.pop.push ax_okv_i))
  rw [h2]
  rfl
theorem ax_sld (h : ax_ok X l own cc nL rm) (hs : ax_scrG (ax_GX X) b n sc) (k : Nat) {x : Int32} (hd : decode cc pc = .ok (.iaload, 1)) (hq : pc + 1 = q) (hx0 : x = nI k) (hlt : k < n) (hlen : n < 2 ^ 31)
    (kk : ax_W X nL q ls (.int (sc k) :: st) S I R L cs ss) : ax_W X nL pc ls (.int x :: .retAddr b :: st) S I R L cs ss := by
  obtain ⟨p, l1, e, Rm, s, m, args, below, meth, c, G, A, ad0, S0, Q⟩ := X
  obtain ⟨rfl, rfl, hx, hb, hml, hown, hts, hK, hA, hlk⟩ := h
  intro ad H locs lsC h0 hAd hR hS hl hlv
  subst hq
  obtain ⟨ce, hz, h1, h2, h3⟩ := hs
  have hz : G.2.2[0]? = some (b, ce) := hz
  have hcell := (hR.2.2.2 _ (List.mem_of_getElem? hz)).1
  obtain ⟨hin, hcl⟩ := ax_vin hx0 hlt hlen
  refine W.iald hx hb hcell (hK.2.2.2.2.2.2.2 _ hz) h1 (by rw [h2]; exact hin) (v := .int (sc k)) ?_ rfl rfl hd (kk ad H locs lsC h0 hAd hR hS hl (hlv.pop.pop.push ax_okv_i))
  rw [hcl]
  exact h3 k hlt
/-- a contract at one G -/
def ax_Met1 (G : ax_G) (l : Launch) (y : MethodName) (bytes : ByteArray) (maxL : Nat) (ret : Option FieldType) (rm : Room) (vs : List Value) (S : ax_S) (I : ax_I) (R : ax_R) (L : ax_L) (Rs : ax_Rs) : Prop :=
  ∀ (ad : Nat → Nat) (sz : Nat), Met l y (Cond.code y bytes maxL ret :: ax_tb) rm (ax_Pre G ad sz vs S I R L) (ax_Post G ad S sz Rs) rm.cells rm.slots (ax_A ad S sz)
theorem ax_enter1 {G : ax_G} {y : MethodName} {bytes : ByteArray} {maxL : Nat} {vs : List Value} {Rs : ax_Rs} (hy : plainName y.cls = true) (hyo : y.cls = own) (hc : ∀ v ∈ vs, v.category = 1) (hn : vs.length ≤ maxL)
    (body : ∀ X, ax_ok X l own bytes maxL rm → ax_fin X ret rm.cells rm.slots (ax_of Rs) → ax_GX X = G → ax_S0 X = S → ax_W X maxL 0 (vs.map some ++ List.replicate (maxL - vs.length) none) [] S I R L 0 0) :
    ax_Met1 G l y bytes maxL ret rm vs S I R L Rs := by
  intro ad sz
  refine Met.ofW (cc := bytes) (maxL := maxL) (ret := ret) hy rfl ?_
  intro p e s m args below meth c s₁ B hml hv
  obtain ⟨rfl, hsz, hR, hK, hok⟩ := hv
  subst hsz
  have hts0 := atoms_spec (ws := Cond.code y bytes maxL ret :: ax_tb) B.pre
  have hown : s.vm.findClass own = some m.cls := by rw [← hyo]; exact findClass_of_methodNamed B.named
  have hlk := B.notSynchronized
  have hA : ∀ q : Nat, s.heap.size ≤ q → ax_A ad S s.heap.size q := fun q h => Or.inr h
  have hcat : ∀ v ∈ vs.map (ax_tv ad), v.category = 1 := fun v hv => by
    obtain ⟨w, hw, e⟩ := List.mem_map.mp hv
    rw [← e, ax_tv_cat]
    exact hc w hw
  rw [entry_eq m _ hcat]
  have hb := body (p, l, e, rm, s, m, (vs.map (ax_tv ad)).toArray, below, meth, c, G, ax_A ad S s.heap.size, ad, S, ax_Q below s G ad S s.heap.size rm.cells rm.slots (ax_of Rs))
    ⟨rfl, rfl, B.exec, B.bytes, hml, hown, fun w hw => hts0 w (List.mem_cons_of_mem _ hw), hK, hA, hlk⟩ ⟨B.returns, rfl, rfl⟩ rfl rfl
  have hw := hb ad s.heap [] (((vs.map (ax_tv ad)).map Slot.val ++ List.replicate (maxL - (vs.map (ax_tv ad)).length) Slot.unset).toArray) (fun i hi => ⟨hi, rfl⟩) (fun i hi => Or.inl ⟨i, hi, rfl⟩) hR va_S.rf (ax_entry_loc ad vs hc hn)
    ⟨fun v hv => (by cases hv), fun v hv => by
      rcases List.mem_append.mp hv with h1 | h1
      · obtain ⟨w, hw, e⟩ := List.mem_map.mp h1
        cases e
        exact hok _ hw
      · have := List.eq_of_mem_replicate h1
        cases this⟩
  refine ax_mono ?_ hw
  rintro t ⟨o, h1, h2, ⟨r, S', I', R', L', ad', hr, hm, hw'⟩, h5, Ls, h6, h7, h8⟩
  cases r with
  | inr E => exact absurd hr (fun z => z)
  | inl v => exact ⟨o, h1, h2, ⟨⟨v, S', I', R', L', ad', hr, hm.1, hm.2, hw'⟩, h5⟩, Ls, ⟨⟨_, hm.1⟩, h6, h7⟩, h8⟩
theorem ax_callS1 (h : ax_ok X l own cc nL rm) {y : MethodName} {bytes : ByteArray} {maxL idx n : Nat} {ret : Option FieldType} {rm' : Room} {vs rest : List Value} {v : Option Value} {st' : List Value} (hd : decode cc pc = .ok (.invokestatic idx, 3)) (hq : pc + 3 = q) (hm : ax_mt y bytes maxL ret n) (hw : Cond.methodLink own idx y ∈ ax_tb) (hw2 : Cond.static y ∈ ax_tb) (hM : ax_Met1 (ax_GX X) l y bytes maxL ret rm' vs S I R L (ax_eq v S I R L)) (hn : vs.length = n) (hrm : ax_rmle rm' rm maxL) (hst : st = vs.reverse ++ rest) (hro : (rest.map fun v => v.category).sum ≤ 8) (hcs : rm'.cells = 0) (hss : rm'.slots = 0) (hc0 : cs ≤ rm.cells) (hs0 : ss ≤ rm.slots) (hst' : v.toList ++ rest = st')
    (kk : ax_W X nL q ls st' S I R L cs ss) : ax_W X nL pc ls st S I R L cs ss := by
  obtain ⟨p, l1, e, Rm, s, m, args, below, meth, c, G, A, ad0, S0, Q⟩ := X
  obtain ⟨rfl, rfl, hx, hb, hml, hown, hts, hK, hA, hlk⟩ := h
  intro ad H locs lsC h0 hAd hR hS hl hlv
  subst hq; subst hst
  obtain ⟨m1, m2, m3, m4, m5⟩ := hm
  have hok : ∀ v ∈ vs, ax_okv S v := fun v hv => hlv.1 v (List.mem_append_left _ (List.mem_reverse.mpr hv))
  have hrest : ax_live S ls rest := ⟨fun v hv => hlv.1 v (List.mem_append_right _ hv), hlv.2⟩
  have hcb : CallB Rm s args own idx y bytes maxL ret (Cond.code y bytes maxL ret :: ax_tb) rm' rm'.cells rm'.slots n := callB_of n hts (ax_good m1) rfl rfl rfl (hts _ m2) (hts _ hw) ⟨m3, m4, m5⟩ hrm
  have hM : ax_Met1 G l1 y bytes maxL ret rm' vs S I R L (ax_eq v S I R L) := hM
  refine ax_back hA h0 hAd hS hl hrest (va_runS (As := vs.map (ax_tv ad)) (rest := rest.map (ax_tv ad)) ⟨hx, hb, hml, hown, hts⟩ (hM ad H.size) ⟨hcb, hts _ hw2⟩ (ax_pre hR hK hok) rfl (by rw [List.length_map]; exact hn) (hl.2.2.1) ?_ ?_ hd ⟨by rw [hcs]; exact hc0, by rw [hss]; exact hs0⟩) (fun r S' I2 R2 L2 hr _ => ?_)
  · simp [List.map_append, List.map_reverse]
  · show 2 * 0 + _ ≤ 8
    rw [List.map_map, Nat.mul_zero, Nat.zero_add]
    refine Nat.le_trans (Nat.le_of_eq ?_) hro
    congr 1
    exact List.map_congr_left (fun v _ => ax_tv_cat ad v)
  · obtain ⟨rfl, rfl, rfl, rfl, rfl⟩ := hr
    rw [hcs, hss, hst']
    exact kk
end SCR
