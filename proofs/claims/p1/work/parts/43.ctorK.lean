/-! the constructor of the class: the tool has the id 0 -/
theorem ax_blank_add {S : ax_S} {I : ax_I} {R : ax_R} {L : ax_L} {n i : Nat} {sh : ax_Sh} (h : ax_blank S I R L n) (hi : i < n) : ax_blank (ax_add S i sh) I R L n := fun j hj => ⟨by rw [ax_add_ne (by omega)]; exact (h j hj).1, (h j hj).2⟩
theorem ax_blank_I {S : ax_S} {I : ax_I} {R : ax_R} {L : ax_L} {n i k : Nat} {v : Int32} (h : ax_blank S I R L n) (hi : i < n) : ax_blank S (ax_up I i k v) R L n := fun j hj => ⟨(h j hj).1, fun k' => by rw [ax_up_ne (by omega)]; exact (h j hj).2.1 k', (h j hj).2.2⟩
theorem ax_blank_R {S : ax_S} {I : ax_I} {R : ax_R} {L : ax_L} {n i k : Nat} {v : Option Nat} (h : ax_blank S I R L n) (hi : i < n) : ax_blank S I (ax_up R i k v) L n := fun j hj => ⟨(h j hj).1, (h j hj).2.1, fun k' => by rw [ax_up_ne (by omega)]; exact (h j hj).2.2.1 k', (h j hj).2.2.2⟩
theorem ax_blank_mono {S : ax_S} {I : ax_I} {R : ax_R} {L : ax_L} {n m : Nat} (h : ax_blank S I R L n) (hm : n ≤ m) : ax_blank S I R L m := fun j hj => h j (Nat.le_trans hm hj)
theorem ax_blank_p {S : ax_S} {I : ax_I} {R : ax_R} {L : ax_L} {b : Nat} (h : ax_blank S I R L (b + 1)) : ax_blank (pS S b) I (pR R b) L (b + 103) := fun j hj => by
  obtain ⟨h1, h2, h3, h4⟩ := h j (by omega)
  refine ⟨?_, h2, fun k => ?_, h4⟩
  · unfold pS
    rw [p2S_at (Or.inr (by omega)), p1S_at (Or.inr (by omega))]
    exact h1
  · unfold pR
    rw [p2R_at (Or.inr (by omega)), p1R_at (by omega)]
    exact h3 k
def fs (x : Int32) : Int32 := if 1 < (if x < 200 then x else 200) then (if x < 200 then x else 200) else 1
def k0S : ax_S := fun _ => none
def k0I : ax_I := fun _ _ => 0
def k0R : ax_R := fun _ _ => none
def k0L : ax_L := fun _ _ => 0
theorem kb0_blank : ax_blank k0S k0I k0R k0L 0 := fun _ _ => ⟨rfl, fun _ => rfl, fun _ => rfl, fun _ => rfl⟩
def k1S : ax_S := ax_add k0S 0 (.inl 4)
def k2S : ax_S := ax_add k1S 1 (.inl 2)
def k3S : ax_S := ax_add k2S 2 (.inr (0, 1148))
def k4S : ax_S := ax_add k3S 3 (.inr (0, 4))
def k5S : ax_S := ax_add k4S 4 (.inl 1)
def k6S : ax_S := ax_add (pS k5S 4) 107 (.inl 1)
def kS : ax_S := pS k6S 107
def k2R : ax_R := ax_up (ax_up k0R 1 0 (some 2)) 0 2 (some 1)
def k3R : ax_R := ax_up k2R 0 3 (some 3)
def k4R : ax_R := ax_up (pR k3R 4) 0 4 (some 4)
def kR : ax_R := ax_up (pR k4R 107) 0 5 (some 107)
def k1I (w h : Int32) : ax_I := ax_up (ax_up k0I 0 0 w) 0 1 h
def k2I (w h : Int32) : ax_I := ax_up (ax_up (k1I w h) 4 4 w) 4 5 h
def k3I (w h : Int32) : ax_I := ax_up (ax_up (k2I w h) 107 4 w) 107 5 h
def kI (w h : Int32) : ax_I := ax_up (ax_up (k3I w h) 0 6 0) 0 7 0
theorem kb1_blank : ax_blank k1S k0I k0R k0L 1 := ax_blank_add (ax_blank_mono kb0_blank (by omega)) (by omega)
theorem kb2_blank (w h : Int32) : ax_blank k2S (k1I w h) k0R k0L 2 := ax_blank_I (ax_blank_I (ax_blank_add (ax_blank_mono kb1_blank (by omega)) (by omega)) (by omega)) (by omega)
theorem kb3_blank (w h : Int32) : ax_blank k3S (k1I w h) k2R k0L 3 := ax_blank_R (ax_blank_R (ax_blank_add (ax_blank_mono (kb2_blank w h) (by omega)) (by omega)) (by omega)) (by omega)
theorem kb5_blank (w h : Int32) : ax_blank k5S (k1I w h) k3R k0L 5 := ax_blank_add (ax_blank_add (ax_blank_R (ax_blank_mono (kb3_blank w h) (by omega)) (by omega)) (by omega)) (by omega)
theorem kbp_blank (w h : Int32) : ax_blank (pS k5S 4) (k2I w h) k4R k0L 107 := ax_blank_I (ax_blank_I (ax_blank_R (ax_blank_p (kb5_blank w h)) (by omega)) (by omega)) (by omega)
theorem kb6_blank (w h : Int32) : ax_blank k6S (k2I w h) k4R k0L 108 := ax_blank_add (ax_blank_mono (kbp_blank w h) (by omega)) (by omega)
theorem kbk_blank (w h : Int32) : ax_blank kS (kI w h) kR k0L 210 := ax_blank_I (ax_blank_I (ax_blank_I (ax_blank_I (ax_blank_R (ax_blank_p (kb6_blank w h)) (by omega)) (by omega)) (by omega)) (by omega)) (by omega)
theorem k1_typ : ax_typ k1S k0R := ⟨fun a ci k u _ z => (by cases z), fun a n k u _ z => (by cases z), fun a n k u _ z => (by cases z), fun a ai n z => by
  unfold k1S ax_add at z
  split at z <;> cases z⟩
theorem pS_lo {S : ax_S} {b j : Nat} (h : j ≤ b) : pS S b j = S j := by
  unfold pS
  rw [p2S_at (Or.inl (by omega))]
  unfold p1S
  rw [if_neg (by omega), if_neg (by omega)]
theorem kS_0 : kS 0 = some (.inl 4) := by unfold kS; rw [pS_lo (by omega)]; unfold k6S; rw [ax_add_ne (by omega), pS_lo (by omega)]; decide
theorem k5S_0 : pS k5S 4 0 = some (.inl 4) := by rw [pS_lo (by omega)]; decide
theorem k6S_0 : k6S 0 = some (.inl 4) := by unfold k6S; rw [ax_add_ne (by omega)]; exact k5S_0
set_option maxHeartbeats 1000000 in
theorem c_K_init (l : Launch) {x1 x2 : Int32} : ax_Met l y_K_init b_K_init 3 none (ax_rm 3 209 2927) [.ref 0, .int x1, .int x2] k1S k0I k0R k0L (ax_eq none kS (kI (fs x1) (fs x2)) kR k0L) := by
  refine ax_enter (own := "LossFreeTools") (by decide +kernel) rfl (ax_cats rfl) (Nat.le_of_ble_eq_true rfl) (fun X hX hF hini hS0 => ?_)
  show ax_W X 3 0 [some (.ref 0), some (.int x1), some (.int x2)] [] k1S k0I k0R k0L 0 0
  have hs1 : k1S 0 = some (.inl 4) := rfl
  refine ax_aload_n (q := 1) hX dc_K_init_0 rfl rfl rfl ?_
  refine ax_obj (q := 4) hX dc_K_init_1 rfl wl_K_3 wi_obj wc_obj (by decide) (by decide) (Nat.le_of_ble_eq_true rfl) ?_
  refine ax_aload_n (q := 5) hX dc_K_init_4 rfl rfl rfl ?_
  refine ax_iload_n (q := 6) hX dc_K_init_5 rfl rfl rfl ?_
  refine ax_kS (q := 9) (vs := [.int x1]) (rest := [.ref 0]) (v := some (.int (fs x1))) hX dc_K_init_6 rfl mt_K_nearestFirstSize wl_K_9 wt_K_nearestFirstSize (c_K_nearestFirstSize l k1_typ rfl) rfl (by decide) rfl (Nat.le_of_ble_eq_true rfl) rfl rfl (by decide) (by decide) rfl ?_
  refine ax_putI (q := 12) hX dc_K_init_9 rfl fl_K_13 rfl hs1 (fun _ => ⟨hini rfl, fun w hw => by cases hw; rfl⟩) rfl rfl rfl ?_
  refine ax_aload_n (q := 13) hX dc_K_init_12 rfl rfl rfl ?_
  refine ax_iload_n (q := 14) hX dc_K_init_13 rfl rfl rfl ?_
  refine ax_kS (q := 17) (vs := [.int x2]) (rest := [.ref 0]) (v := some (.int (fs x2))) hX dc_K_init_14 rfl mt_K_nearestFirstSize wl_K_9 wt_K_nearestFirstSize (c_K_nearestFirstSize l k1_typ rfl) rfl (by decide) rfl (Nat.le_of_ble_eq_true rfl) rfl rfl (by decide) (by decide) rfl ?_
  refine ax_putI (q := 20) (I' := k1I (fs x1) (fs x2)) hX dc_K_init_17 rfl fl_K_17 rfl hs1 (fun _ => ⟨hini rfl, fun w hw => by cases hw; rfl⟩) rfl rfl rfl ?_
  refine ax_aload_n (q := 21) hX dc_K_init_20 rfl rfl rfl ?_
  have b1 : ax_blank k1S (k1I (fs x1) (fs x2)) k0R k0L 1 := ax_blank_I (ax_blank_I kb1_blank (by omega)) (by omega)
  refine ax_newB (q := 24) (ci := 2) (N := 3) (S' := k2S) hX 1 dc_K_init_21 rfl rfl rfl wq_K_20 wz_S wn_LossFreeTools_Stream rfl (b1 1 (by omega)).2 (by decide) (by decide) rfl rfl rfl ?_
  refine ax_dup (q := 25) hX dc_K_init_24 rfl rfl ?_
  refine ax_kI (q := 28) (vs := []) (rest := [.ref 1, .ref 0]) hX dc_K_init_25 rfl mt_S_init wl_K_22 wi_S_init rfl (c_S_init l 2 rfl rfl ((kb2_blank _ _) 2 (by omega)).2) rfl (by decide) rfl (Nat.le_of_ble_eq_true rfl) (by decide) (by decide) rfl rfl ?_
  refine ax_putR (q := 31) (R' := k2R) hX dc_K_init_28 rfl fl_K_23 rfl rfl (fun _ => ⟨hini rfl, fun w hw => by cases hw; rfl⟩) rfl ?_
  refine ax_aload_n (q := 32) hX dc_K_init_31 rfl rfl rfl ?_
  refine ax_iconst (q := 33) (v := 4) hX dc_K_init_32 rfl (by decide) ?_
  refine ax_newaB (q := 35) (len := 4) (S' := k4S) hX 3 dc_K_init_33 rfl rfl ((kb3_blank _ _) 3 (by omega)).2 rfl (by decide) (by decide) (by decide) rfl rfl rfl ?_
  refine ax_putR (q := 38) (R' := k3R) hX dc_K_init_35 rfl fl_K_27 rfl rfl (fun _ => ⟨hini rfl, fun w hw => by cases hw; rfl⟩) rfl ?_
  refine ax_aload_n (q := 39) hX dc_K_init_38 rfl rfl rfl ?_
  have b4 : ax_blank k4S (k1I (fs x1) (fs x2)) k3R k0L 4 := ax_blank_add (ax_blank_R (ax_blank_mono (kb3_blank _ _) (by omega)) (by omega)) (by omega)
  refine ax_newB (q := 42) (ci := 1) (N := 6) (S' := k5S) hX 4 dc_K_init_39 rfl rfl rfl wq_K_31 wz_P wn_LossFreeTools_Picture rfl (b4 4 (by omega)).2 (by decide) (by decide) rfl rfl rfl ?_
  refine ax_dup (q := 43) hX dc_K_init_42 rfl rfl ?_
  refine ax_aload_n (q := 44) hX dc_K_init_43 rfl rfl rfl ?_
  refine ax_getI (q := 47) hX dc_K_init_44 rfl fl_K_13 rfl rfl ?_
  refine ax_aload_n (q := 48) hX dc_K_init_47 rfl rfl rfl ?_
  refine ax_getI (q := 51) hX dc_K_init_48 rfl fl_K_17 rfl rfl ?_
  refine ax_kI (q := 54) (vs := [.int (fs x1), .int (fs x2)]) (rest := [.ref 4, .ref 0]) hX dc_K_init_51 rfl mt_P_init wl_K_33 wi_P_init rfl (c_P_init l rfl (kb5_blank _ _)) rfl (by decide) rfl (Nat.le_of_ble_eq_true rfl) (by decide) (by decide) rfl rfl ?_
  refine ax_putR (q := 57) (R' := k4R) hX dc_K_init_54 rfl fl_K_36 rfl k5S_0 (fun z => by cases z) rfl ?_
  refine ax_aload_n (q := 58) hX dc_K_init_57 rfl rfl rfl ?_
  refine ax_newB (q := 61) (ci := 1) (N := 6) (S' := k6S) hX 107 dc_K_init_58 rfl rfl rfl wq_K_31 wz_P wn_LossFreeTools_Picture ((kbp_blank (fs x1) (fs x2)) 107 (by omega)).1 ((kbp_blank (fs x1) (fs x2)) 107 (by omega)).2 (by decide) (by decide) rfl rfl rfl ?_
  refine ax_dup (q := 62) hX dc_K_init_61 rfl rfl ?_
  refine ax_aload_n (q := 63) hX dc_K_init_62 rfl rfl rfl ?_
  refine ax_getI (q := 66) hX dc_K_init_63 rfl fl_K_13 rfl k6S_0 ?_
  refine ax_aload_n (q := 67) hX dc_K_init_66 rfl rfl rfl ?_
  refine ax_getI (q := 70) hX dc_K_init_67 rfl fl_K_17 rfl k6S_0 ?_
  refine ax_kI (q := 73) (vs := [.int (fs x1), .int (fs x2)]) (rest := [.ref 107, .ref 0]) hX dc_K_init_70 rfl mt_P_init wl_K_33 wi_P_init rfl (c_P_init l (ax_add_self _ _ _) (kb6_blank (fs x1) (fs x2))) rfl (by decide) rfl (Nat.le_of_ble_eq_true rfl) (by decide) (by decide) rfl rfl ?_
  refine ax_putR (q := 76) (R' := kR) hX dc_K_init_73 rfl fl_K_40 rfl kS_0 (fun z => by cases z) rfl ?_
  refine ax_aload_n (q := 77) hX dc_K_init_76 rfl rfl rfl ?_
  refine ax_iconst (q := 78) (v := 0) hX dc_K_init_77 rfl (by decide) ?_
  refine ax_putI (q := 81) hX dc_K_init_78 rfl fl_K_43 rfl kS_0 (fun z => by cases z) rfl rfl rfl ?_
  refine ax_aload_n (q := 82) hX dc_K_init_81 rfl rfl rfl ?_
  refine ax_iconst (q := 83) (v := 0) hX dc_K_init_82 rfl (by decide) ?_
  refine ax_putI (q := 86) (I' := kI (fs x1) (fs x2)) hX dc_K_init_83 rfl fl_K_46 rfl kS_0 (fun z => by cases z) rfl rfl rfl ?_
  refine ax_vret hX hF dc_K_init_86 (by decide) (by decide) ax_eq.mk (by
    rw [hS0]
    intro j s hj
    unfold k1S ax_add at hj
    split at hj
    · rename_i e
      subst e
      cases hj
      exact kS_0
    · cases hj)
