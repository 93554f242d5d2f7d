/-! constructors -/
def ax_bl (I : ax_I) (R : ax_R) (L : ax_L) (i : Nat) : Prop := (∀ k, I i k = 0) ∧ (∀ k, R i k = none) ∧ ∀ k, L i k = 0
theorem ax_row_id {α : Type} {f : Nat → Nat → α} {i : Nat} {v : α} (h : ∀ k, f i k = v) : ax_row f i v = f := by
  funext a b
  unfold ax_row
  split
  · rename_i e
    rw [e, h b]
  · rfl
section AXC
variable {X : ax_X} {l : Launch} {own : String} {cc : ByteArray} {nL : Nat} {rm : Room} {pc q : Nat} {ls ls' : ax_Ls} {st : List Value} {S : ax_S} {I I' : ax_I} {R R' : ax_R} {L : ax_L} {cs ss mc ms : Nat}
theorem ax_newB (h : ax_ok X l own cc nL rm) {idx ci N c1 s1 : Nat} {w : vw_C} {S' : ax_S} (i : Nat) (hd : decode cc pc = .ok (.new idx, 3)) (hq : pc + 3 = q) (hci : ax_cl[ci]? = some w) (hN : w.2.2 = N) (hw1 : Cond.classLink own idx w.1 ∈ ax_tb) (hw2 : Cond.instantiable w.1 w.2.2 ∈ ax_tb) (hw3 : Cond.initialized w.1 ∈ ax_tb) (hi : S i = none) (hb : ax_bl I R L i) (hcs : cs + 1 ≤ rm.cells) (hss : ss + N ≤ rm.slots) (hS : ax_add S i (.inl ci) = S') (hc1 : cs + 1 = c1) (hs1 : ss + N = s1)
    (kk : ax_W X nL q ls (.ref i :: st) S' I R L c1 s1) : ax_W X nL pc ls st S I R L cs ss := by
  subst hS; subst hc1; subst hs1
  refine ax_new h i hd hq hci hN hw1 hw2 hw3 hi hcs hss ?_
  rw [ax_row_id hb.1, ax_row_id hb.2.1, ax_row_id hb.2.2]
  exact kk
theorem ax_newaB (h : ax_ok X l own cc nL rm) {len c1 s1 : Nat} {x : Int32} {S' : ax_S} (i : Nat) (hd : decode cc pc = .ok (.newarray .int, 2)) (hq : pc + 2 = q) (hi : S i = none) (hb : ax_bl I R L i) (hx0 : x = nI len) (hlen : len < 100000) (hcs : cs + 1 ≤ rm.cells) (hss : ss + len ≤ rm.slots) (hS : ax_add S i (.inr (0, len)) = S') (hc1 : cs + 1 = c1) (hs1 : ss + len = s1)
    (kk : ax_W X nL q ls (.ref i :: st) S' I R L c1 s1) : ax_W X nL pc ls (.int x :: st) S I R L cs ss := by
  subst hS; subst hc1; subst hs1
  refine ax_newa h i hd hq rfl ax_ar_0 (Or.inl rfl) wa_int hi hx0 hlen hcs hss ?_
  rw [ax_row_id hb.1, ax_row_id hb.2.1, ax_row_id hb.2.2]
  exact kk
theorem ax_newlB (h : ax_ok X l own cc nL rm) {len c1 s1 : Nat} {x : Int32} {S' : ax_S} (i : Nat) (hd : decode cc pc = .ok (.newarray .long, 2)) (hq : pc + 2 = q) (hi : S i = none) (hb : ax_bl I R L i) (hx0 : x = nI len) (hlen : len < 100000) (hcs : cs + 1 ≤ rm.cells) (hss : ss + len ≤ rm.slots) (hS : ax_add S i (.inr (1, len)) = S') (hc1 : cs + 1 = c1) (hs1 : ss + len = s1)
    (kk : ax_W X nL q ls (.ref i :: st) S' I R L c1 s1) : ax_W X nL pc ls (.int x :: st) S I R L cs ss := by
  subst hS; subst hc1; subst hs1
  refine ax_newa h i hd hq rfl ax_ar_1 (Or.inr rfl) wa_long hi hx0 hlen hcs hss ?_
  rw [ax_row_id hb.1, ax_row_id hb.2.1, ax_row_id hb.2.2]
  exact kk
theorem ax_anewB (h : ax_ok X l own cc nL rm) {C : String} {idx ai len c1 s1 : Nat} {x : Int32} {S' : ax_S} (i : Nat) (hd : decode cc pc = .ok (.anewarray idx, 3)) (hq : pc + 3 = q) (hai : ax_ar[ai]? = some (.object C)) (hw : Cond.classLink own idx C ∈ ax_tb) (hao : C ∈ ax_ao) (hi : S i = none) (hb : ax_bl I R L i) (hx0 : x = nI len) (hlen : len < 100000) (hcs : cs + 1 ≤ rm.cells) (hss : ss + len ≤ rm.slots) (hS : ax_add S i (.inr (ai, len)) = S') (hc1 : cs + 1 = c1) (hs1 : ss + len = s1)
    (kk : ax_W X nL q ls (.ref i :: st) S' I R L c1 s1) : ax_W X nL pc ls (.int x :: st) S I R L cs ss := by
  subst hS; subst hc1; subst hs1
  refine ax_anew h i hd hq hai hw hao hi hx0 hlen hcs hss ?_
  rw [ax_row_id hb.1, ax_row_id hb.2.1, ax_row_id hb.2.2]
  exact kk
/-- a constructor is called, by its answer -/
theorem ax_kI {S' : ax_S} (h : ax_ok X l own cc nL rm) {y : MethodName} {bytes : ByteArray} {maxL idx n b c1 s1 : Nat} {rm' : Room} {vs rest : List Value} (hd : decode cc pc = .ok (.invokespecial idx, 3)) (hq : pc + 3 = q) (hm : ax_mt y bytes maxL none n) (hw : Cond.methodLink own idx y ∈ ax_tb) (hw2 : Cond.instanceMethod y ∈ ax_tb) (hy1 : y.name = "<init>") (hM : ax_Met l y bytes maxL none rm' (.ref b :: vs) S I R L (ax_eq none S' I' R' L)) (hn : vs.length = n) (hrm : ax_rmle rm' rm maxL) (hst : st = vs.reverse ++ .ref b :: rest) (hro : (rest.map fun v => v.category).sum ≤ 8) (hcs : cs + rm'.cells ≤ rm.cells) (hss : ss + rm'.slots ≤ rm.slots) (hc1 : cs + rm'.cells = c1) (hs1 : ss + rm'.slots = s1)
    (kk : ax_W X nL q ls rest S' I' R' L c1 s1) : ax_W X nL pc ls st S I R L cs ss := by
  subst hc1; subst hs1
  refine ax_callI h hd hq hm hw hw2 hy1 hM hn hrm hst hro hcs hss (fun r S2 I2 R2 L2 hr _ => ?_)
  obtain ⟨rfl, rfl, rfl, rfl, rfl⟩ := hr
  exact kk
theorem ax_callIN (h : ax_ok X l own cc nL rm) {y : MethodName} {host : String} {bytes : ByteArray} {maxL idx n b : Nat} {rm' : Room} {vs rest : List Value} {Rs : ax_Rs} (hd : decode cc pc = .ok (.invokespecial idx, 3)) (hq : pc + 3 = q) (hm : ax_mt y bytes maxL none n) (hw : Cond.methodLinkNest own idx y host ∈ ax_nw) (hw2 : Cond.instanceMethod y ∈ ax_tb) (hy1 : y.name = "<init>") (hM : ax_Met l y bytes maxL none rm' (.ref b :: vs) S I R L Rs) (hn : vs.length = n) (hrm : ax_rmle rm' rm maxL) (hst : st = vs.reverse ++ .ref b :: rest) (hro : (rest.map fun v => v.category).sum ≤ 8) (hcs : cs + rm'.cells ≤ rm.cells) (hss : ss + rm'.slots ≤ rm.slots)
    (kk : ∀ r S' I' R' L', Rs r S' I' R' L' → (∀ i sh, S i = some sh → S' i = some sh) → ax_W X nL q ls (r.toList ++ rest) S' I' R' L' (cs + rm'.cells) (ss + rm'.slots)) : ax_W X nL pc ls st S I R L cs ss := by
  obtain ⟨p, l1, e, Rm, s, m, args, below, meth, c, G, A, ad0, S0, Q⟩ := X
  obtain ⟨rfl, rfl, hx, hb, hml, hown, hts, hK, hA, hlk⟩ := h
  intro ad H locs lsC h0 hAd hR hS hl hlv
  subst hq; subst hst
  obtain ⟨m1, m2, m3, m4, m5⟩ := hm
  have hok : ∀ v ∈ Value.ref b :: vs, ax_okv S v := fun v hv => by
    rcases List.mem_cons.mp hv with rfl | hv
    · exact hlv.1 _ (List.mem_append_right _ List.mem_cons_self)
    · exact hlv.1 v (List.mem_append_left _ (List.mem_reverse.mpr hv))
  have hrest : ax_live S ls rest := ⟨fun v hv => hlv.1 v (List.mem_append_right _ (List.mem_cons_of_mem _ hv)), hlv.2⟩
  have hcb : va_CN Rm s args own idx y host bytes maxL none (Cond.code y bytes maxL none :: ax_tb) rm' rm'.cells rm'.slots n := va_cnB n hts (ax_good m1) rfl rfl rfl (hK.2.2.1 _ hw) (hts _ m2) ⟨m3, m4, m5⟩ hrm
  refine ax_back hA h0 hAd hS hl hrest (va_runIN (b := ad b) (As := vs.map (ax_tv ad)) (rest := rest.map (ax_tv ad)) ⟨hx, hb, hml, hown, hts⟩ (hM G ad H.size) ⟨hcb, hy1, hts _ hw2⟩ (ax_pre hR hK hok) rfl (by rw [List.length_map]; exact hn) (hl.2.2.1) ?_ ?_ hd ⟨hcs, hss⟩) kk
  · simp [List.map_append, List.map_reverse, ax_tv]
  · show 2 * 0 + _ ≤ 8
    rw [List.map_map, Nat.mul_zero, Nat.zero_add]
    refine Nat.le_trans (Nat.le_of_eq ?_) hro
    congr 1
    exact List.map_congr_left (fun v _ => ax_tv_cat ad v)
end AXC
theorem c_N_init (l : Launch) {S : ax_S} {I : ax_I} {R : ax_R} {L : ax_L} {u0 : Nat} : ax_Met l y_N_init b_N_init 1 none (ax_rm 1 0 0) [.ref u0] S I R L (ax_eq none S I R L) := by
  refine ax_enter (own := "LossFreeTools$Note") (by decide +kernel) rfl (ax_cats rfl) (Nat.le_of_ble_eq_true rfl) (fun X hX hF hini hS0 => ?_)
  show ax_W X 1 0 [some (.ref u0)] [] S I R L 0 0
  refine ax_aload_n (q := 1) hX dc_N_init_0 rfl rfl rfl ?_
  refine ax_obj (q := 4) hX dc_N_init_1 rfl wl_N_1 wi_obj wc_obj (by decide) (by decide) (Nat.le_of_ble_eq_true rfl) ?_
  exact ax_vret hX hF dc_N_init_4 (by decide) (by decide) ax_eq.mk (by rw [hS0]; exact fun _ _ z => z)
theorem ax_add_old {S : ax_S} {i : Nat} {sh : ax_Sh} (hi : S i = none) : ∀ j s, S j = some s → ax_add S i sh j = some s := fun j s hj => by
  unfold ax_add
  rw [if_neg (fun e => by rw [e, hi] at hj; cases hj)]
  exact hj
theorem ax_add_self (S : ax_S) (i : Nat) (sh : ax_Sh) : ax_add S i sh i = some sh := by simp [ax_add]
theorem ax_add_ne {S : ax_S} {i j : Nat} {sh : ax_Sh} (h : j ≠ i) : ax_add S i sh j = S j := by simp [ax_add, h]
theorem c_T_init (l : Launch) {S : ax_S} {I : ax_I} {R : ax_R} {L : ax_L} {u0 : Nat} (b : Nat) (hs0 : S u0 = some (.inl 3)) (hb : S b = none) (hbl : ax_bl I R L b) : ax_Met l y_T_init b_T_init 1 none (ax_rm 1 1 12) [.ref u0] S I R L (ax_eq none (ax_add S b (.inr (0, 12))) I (ax_up R u0 0 (some b)) L) := by
  refine ax_enter (own := "LossFreeTools$Tile") (by decide +kernel) rfl (ax_cats rfl) (Nat.le_of_ble_eq_true rfl) (fun X hX hF hini hS0 => ?_)
  show ax_W X 1 0 [some (.ref u0)] [] S I R L 0 0
  refine ax_aload_n (q := 1) hX dc_T_init_0 rfl rfl rfl ?_
  refine ax_obj (q := 4) hX dc_T_init_1 rfl wl_T_3 wi_obj wc_obj (by decide) (by decide) (Nat.le_of_ble_eq_true rfl) ?_
  refine ax_aload_n (q := 5) hX dc_T_init_4 rfl rfl rfl ?_
  refine ax_bipush (q := 7) (v := 12) hX dc_T_init_5 rfl (by decide) ?_
  refine ax_newaB (q := 9) (len := 12) hX b dc_T_init_7 rfl hb hbl rfl (by decide) (by decide) (by decide) rfl rfl rfl ?_
  refine ax_putR (q := 12) hX dc_T_init_9 rfl fl_T_9 rfl (ax_add_old hb _ _ hs0) (fun _ => ⟨hini rfl, fun w hw => by cases hw; rfl⟩) rfl ?_
  exact ax_vret hX hF dc_T_init_12 (by decide) (by decide) ax_eq.mk (by rw [hS0]; exact ax_add_old hb)
theorem c_S_init (l : Launch) {S : ax_S} {I : ax_I} {R : ax_R} {L : ax_L} {u0 : Nat} (b : Nat) (hs0 : S u0 = some (.inl 2)) (hb : S b = none) (hbl : ax_bl I R L b) : ax_Met l y_S_init b_S_init 1 none (ax_rm 1 1 1148) [.ref u0] S I R L (ax_eq none (ax_add S b (.inr (0, 1148))) I (ax_up R u0 0 (some b)) L) := by
  refine ax_enter (own := "LossFreeTools$Stream") (by decide +kernel) rfl (ax_cats rfl) (Nat.le_of_ble_eq_true rfl) (fun X hX hF hini hS0 => ?_)
  show ax_W X 1 0 [some (.ref u0)] [] S I R L 0 0
  refine ax_aload_n (q := 1) hX dc_S_init_0 rfl rfl rfl ?_
  refine ax_obj (q := 4) hX dc_S_init_1 rfl wl_S_3 wi_obj wc_obj (by decide) (by decide) (Nat.le_of_ble_eq_true rfl) ?_
  refine ax_aload_n (q := 5) hX dc_S_init_4 rfl rfl rfl ?_
  refine ax_sipush (q := 8) (v := 1148) hX dc_S_init_5 rfl (by decide) ?_
  refine ax_newaB (q := 10) (len := 1148) hX b dc_S_init_8 rfl hb hbl rfl (by decide) (by decide) (by decide) rfl rfl rfl ?_
  refine ax_putR (q := 13) hX dc_S_init_10 rfl fl_S_9 rfl (ax_add_old hb _ _ hs0) (fun _ => ⟨hini rfl, fun w hw => by cases hw; rfl⟩) rfl ?_
  exact ax_vret hX hF dc_S_init_13 (by decide) (by decide) ax_eq.mk (by rw [hS0]; exact ax_add_old hb)
