/-! the law, from its entry to its loop -/
theorem ax_ix_k {S : ax_S} {a ai n j : Nat} {x : Int32} (hs : S a = some (.inr (ai, n))) (hx : x = nI j) (hj : j < n) (hn : n < 2 ^ 31) : ax_ix S a x = some j := by
  subst hx
  unfold ax_ix
  rw [ax_len_s hs, nI_clamp (by omega), if_pos ⟨nI_pos' (by omega), hj⟩]
/-- the reference's own cells -/
def mOk (S : ax_S) (R : ax_R) : Prop := S 210 = some (.inl 5) ∧ ∀ n, n < 16 → R 210 (mFld n) = some (211 + n) ∧ S (211 + n) = some (.inr (0, mLen n))
def clr (I : ax_I) : ax_I :=
  ax_up (ax_up (ax_up (ax_up (ax_up (ax_up (ax_up (ax_up (ax_up (ax_up (ax_up (ax_up (ax_up I 210 0 0) 210 3 0) 211 0 (I 210 1)) 212 0 (I 210 2)) 213 0 0) 214 0 0) 211 1 (I 210 1)) 212 1 (I 210 2)) 213 1 0) 214 1 0) 210 18 0) 210 19 0) 210 22 0
theorem m_clear {S : ax_S} {I : ax_I} {R : ax_R} (h : mOk S R) : d_M_clear S I R 210 = some (clr I) := by
  obtain ⟨-, h⟩ := h
  obtain ⟨r0, s0⟩ := h 0 (by omega)
  obtain ⟨r1, s1⟩ := h 1 (by omega)
  obtain ⟨r2, s2⟩ := h 2 (by omega)
  obtain ⟨r3, s3⟩ := h 3 (by omega)
  have r0 : R 210 4 = some 211 := r0
  have r1 : R 210 5 = some 212 := r1
  have r2 : R 210 6 = some 213 := r2
  have r3 : R 210 7 = some 214 := r3
  have e0 : ∀ a, S a = some (.inr (0, 2)) → ax_ix S a 0 = some 0 ∧ ax_ix S a 1 = some 1 := fun a ha => ⟨ax_ix_k (j := 0) ha rfl (by omega) (by omega), ax_ix_k (j := 1) ha rfl (by omega) (by omega)⟩
  obtain ⟨x0, y0⟩ := e0 211 s0
  obtain ⟨x1, y1⟩ := e0 212 s1
  obtain ⟨x2, y2⟩ := e0 213 s2
  obtain ⟨x3, y3⟩ := e0 214 s3
  unfold d_M_clear
  rw [Option.bind_some, Option.bind_some, show (5000 : Nat) = 4997 + 1 + 1 + 1 from rfl, d_M_clear_12, if_neg (by decide)]
  rw [r0, Option.bind_some, x0, Option.bind_some, Option.bind_some, r1, Option.bind_some, x1, Option.bind_some, Option.bind_some, r2, Option.bind_some, x2, Option.bind_some, Option.bind_some, r3, Option.bind_some, x3, Option.bind_some, Option.bind_some]
  rw [show (0 : Int32) + 1 = 1 from rfl, d_M_clear_12, if_neg (by decide)]
  rw [r0, Option.bind_some, y0, Option.bind_some, Option.bind_some, r1, Option.bind_some, y1, Option.bind_some, Option.bind_some, r2, Option.bind_some, y2, Option.bind_some, Option.bind_some, r3, Option.bind_some, y3, Option.bind_some, Option.bind_some]
  rw [show (1 : Int32) + 1 = 2 from rfl, d_M_clear_12, if_pos (by decide)]
  rfl
theorem mS_at : ∀ n k, k < n → mS n (211 + k) = some (.inr (0, mLen k))
  | 0, k, h => absurd h (by omega)
  | n + 1, k, h => by
    show ax_add (mS n) (211 + n) _ (211 + k) = _
    by_cases e : k = n
    · subst e
      exact ax_add_self _ _ _
    · rw [ax_add_ne (by omega)]
      exact mS_at n k (by omega)
theorem mFld_inj {a b : Nat} (h : mFld a = mFld b) (ha : a < 16) (hb : b < 16) : a = b := by
  unfold mFld at h
  split at h <;> split at h <;> omega
theorem mR_at : ∀ n k, n ≤ 16 → k < n → mR n 210 (mFld k) = some (211 + k)
  | 0, k, _, h => absurd h (by omega)
  | n + 1, k, hn, h => by
    show ax_up (mR n) 210 (mFld n) _ 210 (mFld k) = _
    by_cases e : k = n
    · subst e
      exact ax_up_self _ _ _ _
    · rw [ax_up_ne (fun z => e (mFld_inj z.2 (by omega) (by omega)))]
      exact mR_at n k (by omega) (by omega)
/-- the law's ids -/
def oS : ax_S := ax_add (mS 16) 227 (.inr (1, 1))
def oI (x1 x2 : Int32) : ax_I := clr (mI (fs x1) (fs x2) (fm x1) (fm x2))
theorem mOk_16 : mOk (mS 16) (mR 16) := ⟨mS_210 16, fun n hn => ⟨mR_at 16 n (by omega) hn, mS_at 16 n hn⟩⟩
theorem mOk_o : mOk oS (mR 16) := ⟨by unfold oS; rw [ax_add_ne (by omega)]; exact mS_210 16, fun n hn => ⟨mR_at 16 n (by omega) hn, by unfold oS; rw [ax_add_ne (by omega)]; exact mS_at 16 n hn⟩⟩
theorem oB (x1 x2 : Int32) : ax_blank (mS 16) (oI x1 x2) (mR 16) k0L 227 := by
  unfold oI clr mI
  refine ax_blank_I (ax_blank_I (ax_blank_I (ax_blank_I (ax_blank_I (ax_blank_I (ax_blank_I (ax_blank_I (ax_blank_I (ax_blank_I (ax_blank_I (ax_blank_I (ax_blank_I (ax_blank_I (ax_blank_I (mB _ _ 16) ?_) ?_) ?_) ?_) ?_) ?_) ?_) ?_) ?_) ?_) ?_) ?_) ?_) ?_) ?_ <;> decide
theorem oS_typ : ax_typ oS (mR 16) := ax_typ_add (mS_typ 16 (Nat.le_refl _)) ((oB 0 0) 227 (by omega)).1 (fun k => ((oB 0 0) 227 (by omega)).2.2.1 k) (fun ai n z => by cases z; decide)
theorem oS_0 : oS 0 = some (.inl 4) := by
  unfold oS
  rw [ax_add_ne (by omega)]
  refine mS_old 16 0 _ ?_
  show ax_add kS 210 _ 0 = _
  rw [ax_add_ne (by omega)]
  exact kS_0
theorem oS_227 : oS 227 = some (.inr (1, 1)) := ax_add_self _ _ _
def lw_Q (_ : Array Value) (s : State) (o : Outcome) (t : State) : Prop := o = .returned (some (.int 1)) ∧ Framed s o t [] 600002 7302197
def lw_Z (below : List Frame) (a : Array Value) (s : State) : State → Prop := fun t => ∃ o, t.status = .running ∧ Ended t below o ∧ lw_Q a s o t
theorem lw_ret {p : Program} {l : Launch} {e : Env} {s : State} {m : MethodId} {below : List Frame} {meth : Method} {c : Code} {b : Nat} (hx : p.tables.exec = Jvm.exec) (hb : c.code = code) (hr : meth.sig.returnType = ret) (hlocks : meth.locks = false) {pc : Nat} {H : Heap} {ls : Array Slot} (hdg : decode code pc = .ok (.ireturn, 1)) : W p l e room_1 s m #[Value.ref b] below meth c H [] 600002 7302197 (lw_Z below #[Value.ref b] s) (F0 m pc ls [.int 1]) := by
  intro T hT X
  obtain ⟨fs, hret, hrun, hended, hW, hframe⟩ := X.leave (v := some (.int 1)) (hlocks := hlocks) (fun h => by rw [hr] at h; cases h)
  have hmeth' : T.vm.method? m = some meth := X.method'
  refine ⟨T.setFrames fs, ?_, .returned (some (.int 1)), hrun, hended, rfl, ⟨_, rfl⟩, hW, hframe⟩
  jvm_step X.here [X.here.top, hx, hb, hdg, hmeth', hr, ret, narrow_b1]
  (try refine ⟨rfl, ?_⟩); (try refine ⟨rfl, ?_⟩)
  first | (intro acts; rw [hret _ acts rfl rfl rfl]) | rw [hret _ _ rfl rfl rfl]
  exact Steps.refl _
set_option maxHeartbeats 2000000 in
/-- the law's walk, by an invariant of its loop -/
theorem lw_whole {p : Program} {e : Env} {s : State} {m : MethodId} {below : List Frame} {meth : Method} {c : Code} (l : Launch) (hl0 : l.stackTraces = false) {b L : Nat} {xs : Nat → Int32} (hL : L ≤ 3000) (C0 : lw_At p s m meth c b L xs)
    (P : Nat → ax_I → ax_R → ax_L → Prop) (hP0 : P 2 (oI (scv L xs 0) (scv L xs 1)) (mR 16) k0L)
    (hP : ∀ i I R L0, i + 5 ≤ L → P i I R L0 → ax_typ oS R ∧ ∃ out, d_L_step oS xs i I R L0 = some out ∧ P (i + 5) out.1 out.2.1 out.2.2) :
    W p l e room_1 s m #[Value.ref b] below meth c s.heap [] 0 0 (lw_Z below #[Value.ref b] s) (entryFrame m ([Value.ref b] : List Value).toArray 7) := by
  obtain ⟨G, hK, hscr, hz⟩ := st_K C0
  obtain ⟨hx, hb, hr, hml, hown, hts, -, hbl, hlocks, hgv⟩ := C0
  have hn31 : L < 2 ^ 31 := by omega
  obtain ⟨X, hXe⟩ : ∃ X : ax_X, X = (p, l, e, room_1, s, m, #[Value.ref b], below, meth, c, G, (fun q => s.heap.size ≤ q), (fun _ => 0), (fun _ => none), lw_Z below #[Value.ref b] s) := ⟨_, rfl⟩
  have hX : ax_ok X l "LossFreeToolsLaw" code 7 (ax_rm 10 600002 7302197) := by
    rw [hXe]
    exact ⟨rfl, rfl, hx, hb, hml, hown, fun w hw => hts w (List.mem_filter.mp hw).1, hK, fun q h => h, hlocks⟩
  have hscr : ax_scrG (ax_GX X) b L xs := by rw [hXe]; exact hscr
  have fin : ∀ (i : Nat) (I : ax_I) (R : ax_R) (L0 : ax_L) (cs ss : Nat), cs ≤ 600002 → ss ≤ 7302197 → ax_W X 7 1092 [some (.retAddr b), some (.ref 0), some (.ref 210), some (.ref 227), some (.int (nI i)), none, none] [] oS I R L0 cs ss := by
    intro i I R L0 cs ss hc hs
    refine ax_iconst (v := 1) (q := 1093) hX dc_L_law_1092 rfl (by decide) ?_
    rw [hXe]
    intro ad H locs lsC h0 hAd hR hS hl hlv
    refine va_forget (fun q hq => hS.2.2 q hq) ?_
    refine W.widen (k := 600002) (n := 7302197) hc hs ?_
    exact lw_ret hx hb hr hlocks dc_L_law_1093
  have body : ax_W X 7 0 [some (.retAddr b), none, none, none, none, none, none] [] k0S k0I k0R k0L 0 0 := by
    refine ax_newB (q := 3) (ci := 4) (N := 8) (S' := k1S) hX 0 dc_L_law_0 rfl rfl rfl wq_L_8 wz_K wn_LossFreeTools rfl (kb0_blank 0 (by omega)).2 (by decide) (by decide) rfl rfl rfl ?_
    refine ax_dup (q := 4) hX dc_L_law_3 rfl rfl ?_
    refine ax_saload_n (q := 5) hX dc_L_law_4 rfl rfl rfl ?_
    refine ax_iconst (v := nI 0) (q := 6) hX dc_L_law_5 rfl (by decide) ?_
    refine ax_callS1 (q := 9) (vs := [.retAddr b, .int (nI 0)]) (rest := [.ref 0, .ref 0]) hX dc_L_law_6 rfl mt_L_cell wl_L_60 wt_L_cell (c_L_cell l hscr hn31 (by decide)) rfl (by decide) rfl (Nat.le_of_ble_eq_true rfl) rfl rfl (by decide) (by decide) rfl ?_
    refine ax_saload_n (q := 10) hX dc_L_law_9 rfl rfl rfl ?_
    refine ax_iconst (v := nI 1) (q := 11) hX dc_L_law_10 rfl (by decide) ?_
    refine ax_callS1 (q := 14) (vs := [.retAddr b, .int (nI 1)]) (rest := [.int (scv L xs 0), .ref 0, .ref 0]) hX dc_L_law_11 rfl mt_L_cell wl_L_60 wt_L_cell (c_L_cell l hscr hn31 (by decide)) rfl (by decide) rfl (Nat.le_of_ble_eq_true rfl) rfl rfl (by decide) (by decide) rfl ?_
    refine ax_kI (q := 17) (vs := [.int (scv L xs 0), .int (scv L xs 1)]) (rest := [.ref 0]) (c1 := 210) (s1 := 2935) hX dc_L_law_14 rfl mt_K_init wl_L_66 wi_K_init rfl (c_K_init l) rfl (by decide) rfl (Nat.le_of_ble_eq_true rfl) (by decide) (by decide) rfl rfl ?_
    refine ax_astore_n (ls' := [some (.retAddr b), some (.ref 0), none, none, none, none, none]) (q := 18) hX dc_L_law_17 rfl rfl (by decide) rfl ?_
    refine ax_newB (q := 21) (ci := 5) (N := 23) (S' := mS 0) (c1 := 211) (s1 := 2958) hX 210 dc_L_law_18 rfl rfl rfl wq_L_69 wz_M wn_LossFreeToolsModel ((kbk_blank (fs (scv L xs 0)) (fs (scv L xs 1))) 210 (by omega)).1 ((kbk_blank (fs (scv L xs 0)) (fs (scv L xs 1))) 210 (by omega)).2 (by decide) (by decide) rfl rfl rfl ?_
    refine ax_dup (q := 22) hX dc_L_law_21 rfl rfl ?_
    refine ax_saload_n (q := 23) hX dc_L_law_22 rfl rfl rfl ?_
    refine ax_iconst (v := nI 0) (q := 24) hX dc_L_law_23 rfl (by decide) ?_
    refine ax_callS1 (q := 27) (vs := [.retAddr b, .int (nI 0)]) (rest := [.ref 210, .ref 210]) hX dc_L_law_24 rfl mt_L_cell wl_L_60 wt_L_cell (c_L_cell l hscr hn31 (by decide)) rfl (by decide) rfl (Nat.le_of_ble_eq_true rfl) rfl rfl (by decide) (by decide) rfl ?_
    refine ax_saload_n (q := 28) hX dc_L_law_27 rfl rfl rfl ?_
    refine ax_iconst (v := nI 1) (q := 29) hX dc_L_law_28 rfl (by decide) ?_
    refine ax_callS1 (q := 32) (vs := [.retAddr b, .int (nI 1)]) (rest := [.int (scv L xs 0), .ref 210, .ref 210]) hX dc_L_law_29 rfl mt_L_cell wl_L_60 wt_L_cell (c_L_cell l hscr hn31 (by decide)) rfl (by decide) rfl (Nat.le_of_ble_eq_true rfl) rfl rfl (by decide) (by decide) rfl ?_
    refine ax_kI (q := 35) (vs := [.int (scv L xs 0), .int (scv L xs 1)]) (rest := [.ref 210]) (c1 := 227) (s1 := 5730) hX dc_L_law_32 rfl mt_M_init wl_L_71 wi_M_init rfl (c_M_init l (m_clear mOk_16)) rfl (by decide) rfl (Nat.le_of_ble_eq_true rfl) (by decide) (by decide) rfl rfl ?_
    refine ax_astore_n (ls' := [some (.retAddr b), some (.ref 0), some (.ref 210), none, none, none, none]) (q := 36) hX dc_L_law_35 rfl rfl (by decide) rfl ?_
    refine ax_iconst (v := 1) (q := 37) hX dc_L_law_36 rfl (by decide) ?_
    refine ax_newlB (q := 39) (len := 1) (S' := oS) (c1 := 228) (s1 := 5731) hX 227 dc_L_law_37 rfl ((oB (scv L xs 0) (scv L xs 1)) 227 (by omega)).1 ((oB (scv L xs 0) (scv L xs 1)) 227 (by omega)).2 rfl (by decide) (by decide) (by decide) rfl rfl rfl ?_
    refine ax_astore_n (ls' := [some (.retAddr b), some (.ref 0), some (.ref 210), some (.ref 227), none, none, none]) (q := 40) hX dc_L_law_39 rfl rfl (by decide) rfl ?_
    refine ax_iconst (v := nI 2) (q := 41) hX dc_L_law_40 rfl (by decide) ?_
    refine ax_istore (ls' := [some (.retAddr b), some (.ref 0), some (.ref 210), some (.ref 227), some (.int (nI 2)), none, none]) (q := 43) hX dc_L_law_41 rfl (by decide) rfl ?_
    exact lw_loop hl0 hX hscr hL oS_0 mOk_o.1 oS_227 P hP fin 1000 2 _ _ _ 228 5731 (by omega) (by omega) hP0 (by omega) (by omega)
  rw [hXe] at body
  have hcat : ∀ v ∈ ([Value.ref b] : List Value), v.category = 1 := fun v hv => by
    cases List.mem_singleton.mp hv
    rfl
  rw [entry_eq m _ hcat]
  exact body (fun _ => 0) s.heap [] _ (fun i h => absurd rfl h) (fun i h => absurd rfl h) ⟨fun i sh h => (by cases h), fun i j h => absurd rfl h, fun i k u h => absurd rfl h, fun z hz2 => ⟨hz z hz2, fun i h => absurd rfl h⟩⟩ va_S.rf (ax_entry_loc (fun _ => 0) [.retAddr b] (fun v hv => by cases List.mem_singleton.mp hv; rfl) (Nat.le_of_ble_eq_true rfl)) ⟨fun v hv => (by cases hv), fun v hv u hu => by
    subst hu
    simp at hv⟩
