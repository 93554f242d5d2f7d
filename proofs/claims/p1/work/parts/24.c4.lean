def d_K_makePlaceAt_55 (S : ax_S) (I : ax_I) (R : ax_R) (u0 : Nat) (x2 : Int32) (x4 : Int32) : Option (ax_I) :=
  (R u0 4).bind fun u24 =>
  (d_P_growAlong S I R u24 (x2) (x4)).bind fun I29 =>
  some (I29)
set_option maxHeartbeats 1000000 in
theorem e_K_makePlaceAt_55 {l : Launch} {X : ax_X} {S : ax_S} {L : ax_L} {R0 : ax_R} {out : ax_I} (hX : ax_ok X l "LossFreeTools" b_K_makePlaceAt 5 (ax_rm 4 0 0)) (hF : ax_fin X none 0 0 (ax_of (ax_eq none S out R0 L))) (hS0 : ax_S0 X = S) : ∀ (I : ax_I) (R : ax_R) (u0 : Nat) (x2 : Int32) (x4 : Int32), ax_typ S R → (S u0 = some (.inl 4)) → R = R0 → d_K_makePlaceAt_55 S  I R u0 x2 x4 = some out → ax_W X 5 55 [some (.ref u0), none, some (.int (x2)), none, some (.int (x4))] [] S I R L 0 0 := by
  rintro I R u0 x2 x4 hty hs0_ hR0 h
  subst hR0
  unfold d_K_makePlaceAt_55 at h
  refine ax_aload_n (q := 56) hX dc_K_makePlaceAt_55 rfl rfl rfl ?_
  obtain ⟨u24, hu25, h⟩ := ax_bd h
  have hs26 : S u24 = some (.inl 1) := hty.1 _ _ _ _ hs0_ hu25
  refine ax_getR (q := 59) hX dc_K_makePlaceAt_56 rfl fl_K_36 rfl hs0_ hu25 ?_
  refine ax_iload_n (q := 60) hX dc_K_makePlaceAt_59 rfl rfl rfl ?_
  refine ax_iload (q := 62) hX dc_K_makePlaceAt_60 rfl rfl ?_
  obtain ⟨I29, hr27, h⟩ := ax_bd h
  refine ax_kV (vs := [.int (x2), .int (x4)]) (rest := []) (q := 65) hX dc_K_makePlaceAt_62 rfl mt_P_growAlong wl_K_260 wi_P_growAlong ws_P_growAlong hs26 rfl (c_P_growAlong l hty hs26 hr27) rfl (by decide) rfl (Nat.le_of_ble_eq_true rfl) rfl rfl (by decide) (by decide) rfl ?_
  cases h
  exact ax_vret hX hF dc_K_makePlaceAt_65 (by decide) (by decide) ax_eq.mk (by rw [hS0]; exact fun _ _ z => z)
def d_K_makePlaceAt_33 (S : ax_S) (I : ax_I) (R : ax_R) (u0 : Nat) (x2 : Int32) (x4 : Int32) : Option (ax_I) :=
  (R u0 4).bind fun u30 =>
  (d_P_moveAlong S I R u30 (x2) (x4)).bind fun I35 =>
  d_K_makePlaceAt_55 S  I35 R u0 (x2) (x4)
set_option maxHeartbeats 1000000 in
theorem e_K_makePlaceAt_33 {l : Launch} {X : ax_X} {S : ax_S} {L : ax_L} {R0 : ax_R} {out : ax_I} (hX : ax_ok X l "LossFreeTools" b_K_makePlaceAt 5 (ax_rm 4 0 0)) (hF : ax_fin X none 0 0 (ax_of (ax_eq none S out R0 L))) (hS0 : ax_S0 X = S) : ∀ (I : ax_I) (R : ax_R) (u0 : Nat) (x2 : Int32) (x4 : Int32), ax_typ S R → (S u0 = some (.inl 4)) → R = R0 → d_K_makePlaceAt_33 S  I R u0 x2 x4 = some out → ax_W X 5 33 [some (.ref u0), none, some (.int (x2)), none, some (.int (x4))] [] S I R L 0 0 := by
  rintro I R u0 x2 x4 hty hs0_ hR0 h
  subst hR0
  unfold d_K_makePlaceAt_33 at h
  refine ax_aload_n (q := 34) hX dc_K_makePlaceAt_33 rfl rfl rfl ?_
  obtain ⟨u30, hu31, h⟩ := ax_bd h
  have hs32 : S u30 = some (.inl 1) := hty.1 _ _ _ _ hs0_ hu31
  refine ax_getR (q := 37) hX dc_K_makePlaceAt_34 rfl fl_K_36 rfl hs0_ hu31 ?_
  refine ax_iload_n (q := 38) hX dc_K_makePlaceAt_37 rfl rfl rfl ?_
  refine ax_iload (q := 40) hX dc_K_makePlaceAt_38 rfl rfl ?_
  obtain ⟨I35, hr33, h⟩ := ax_bd h
  refine ax_kV (vs := [.int (x2), .int (x4)]) (rest := []) (q := 43) hX dc_K_makePlaceAt_40 rfl mt_P_moveAlong wl_K_256 wi_P_moveAlong ws_P_moveAlong hs32 rfl (c_P_moveAlong l hty hs32 hr33) rfl (by decide) rfl (Nat.le_of_ble_eq_true rfl) rfl rfl (by decide) (by decide) rfl ?_
  refine ax_goto (tgt := 55) hX dc_K_makePlaceAt_43 (by decide) ?_
  exact (e_K_makePlaceAt_55 hX hF hS0  I35 R u0 (x2) (x4) hty hs0_ rfl h)
def d_K_makePlaceAt (S : ax_S) (I : ax_I) (R : ax_R) (u0 : Nat) (x1 : Int32) : Option (ax_I) :=
  (d_K_isUpright S I R (x1)).bind fun r3 =>
  (R u0 4).bind fun u4 =>
  (d_P_sizeAlong S I R u4 (ax_b r3)).bind fun r9 =>
  (R u0 5).bind fun u10 =>
  (d_P_sizeAlong S I R u10 (ax_b r3)).bind fun r15 =>
  if x1 = 0 then
    d_K_makePlaceAt_33 S  I R u0 (ax_b r3) (r15)
  else
    if x1 = 1 then
      d_K_makePlaceAt_33 S  I R u0 (ax_b r3) (r15)
    else
      (R u0 5).bind fun u18 =>
      (d_P_moveAlong S I R u18 (ax_b r3) (r9)).bind fun I23 =>
      d_K_makePlaceAt_55 S  I23 R u0 (ax_b r3) (r15)
set_option maxHeartbeats 1000000 in
theorem c_K_makePlaceAt (l : Launch) {S : ax_S} {I : ax_I} {R : ax_R} {L : ax_L} {u0 : Nat} {x1 : Int32} {out : ax_I} (hty : ax_typ S R) (hs0 : S u0 = some (.inl 4)) (h : d_K_makePlaceAt S I R u0 x1 = some out) : ax_Met l y_K_makePlaceAt b_K_makePlaceAt 5 none (ax_rm 4 0 0) [.ref u0, .int x1] S I R L (ax_eq none S out R L) := by
  refine ax_enter (own := "LossFreeTools") (by decide +kernel) rfl (ax_cats rfl) (Nat.le_of_ble_eq_true rfl) (fun X hX hF _ hS0 => ?_)
  show ax_W X 5 0 [some (.ref u0), some (.int (x1)), none, none, none] [] S I R L 0 0
  unfold d_K_makePlaceAt at h
  refine ax_iload_n (q := 1) hX dc_K_makePlaceAt_0 rfl rfl rfl ?_
  obtain ⟨r3, hr1, h⟩ := ax_bd h
  refine ax_kS (vs := [.int (x1)]) (rest := []) (q := 4) hX dc_K_makePlaceAt_1 rfl mt_K_isUpright wl_K_140 wt_K_isUpright (c_K_isUpright l hty  hr1) rfl (by decide) rfl (Nat.le_of_ble_eq_true rfl) rfl rfl (by decide) (by decide) rfl ?_
  refine ax_istore_n (ls' := [some (.ref u0), some (.int (x1)), some (.int (ax_b r3)), none, none]) (q := 5) hX dc_K_makePlaceAt_4 rfl rfl (by decide) rfl ?_
  refine ax_aload_n (q := 6) hX dc_K_makePlaceAt_5 rfl rfl rfl ?_
  obtain ⟨u4, hu5, h⟩ := ax_bd h
  have hs6 : S u4 = some (.inl 1) := hty.1 _ _ _ _ hs0 hu5
  refine ax_getR (q := 9) hX dc_K_makePlaceAt_6 rfl fl_K_36 rfl hs0 hu5 ?_
  refine ax_iload_n (q := 10) hX dc_K_makePlaceAt_9 rfl rfl rfl ?_
  obtain ⟨r9, hr7, h⟩ := ax_bd h
  refine ax_kV (vs := [.int (ax_b r3)]) (rest := []) (q := 13) hX dc_K_makePlaceAt_10 rfl mt_P_sizeAlong wl_K_157 wi_P_sizeAlong ws_P_sizeAlong hs6 rfl (c_P_sizeAlong l hty hs6 hr7) rfl (by decide) rfl (Nat.le_of_ble_eq_true rfl) rfl rfl (by decide) (by decide) rfl ?_
  refine ax_istore_n (ls' := [some (.ref u0), some (.int (x1)), some (.int (ax_b r3)), some (.int (r9)), none]) (q := 14) hX dc_K_makePlaceAt_13 rfl rfl (by decide) rfl ?_
  refine ax_aload_n (q := 15) hX dc_K_makePlaceAt_14 rfl rfl rfl ?_
  obtain ⟨u10, hu11, h⟩ := ax_bd h
  have hs12 : S u10 = some (.inl 1) := hty.1 _ _ _ _ hs0 hu11
  refine ax_getR (q := 18) hX dc_K_makePlaceAt_15 rfl fl_K_40 rfl hs0 hu11 ?_
  refine ax_iload_n (q := 19) hX dc_K_makePlaceAt_18 rfl rfl rfl ?_
  obtain ⟨r15, hr13, h⟩ := ax_bd h
  refine ax_kV (vs := [.int (ax_b r3)]) (rest := []) (q := 22) hX dc_K_makePlaceAt_19 rfl mt_P_sizeAlong wl_K_157 wi_P_sizeAlong ws_P_sizeAlong hs12 rfl (c_P_sizeAlong l hty hs12 hr13) rfl (by decide) rfl (Nat.le_of_ble_eq_true rfl) rfl rfl (by decide) (by decide) rfl ?_
  refine ax_istore (ls' := [some (.ref u0), some (.int (x1)), some (.int (ax_b r3)), some (.int (r9)), some (.int (r15))]) (q := 24) hX dc_K_makePlaceAt_22 rfl (by decide) rfl ?_
  refine ax_iload_n (q := 25) hX dc_K_makePlaceAt_24 rfl rfl rfl ?_
  refine ax_if_eq (tgt := 33) (q := 28) hX dc_K_makePlaceAt_25 rfl (by decide) (fun z16 => ?_) (fun z16 => ?_)
  · rw [if_pos z16] at h
    exact ax_weak (ls' := [some (.ref u0), none, some (.int (ax_b r3)), none, some (.int (r15))]) (ax_fewP_s _ _ (by repeat (first | exact trivial | (refine And.intro rfl ?_)))) (e_K_makePlaceAt_33 hX hF hS0  I R u0 (ax_b r3) (r15) hty hs0 rfl h)
  · rw [if_neg z16] at h
    refine ax_iload_n (q := 29) hX dc_K_makePlaceAt_28 rfl rfl rfl ?_
    refine ax_iconst (v := 1) (q := 30) hX dc_K_makePlaceAt_29 rfl (by decide) ?_
    refine ax_icmp_ne (tgt := 46) (q := 33) hX dc_K_makePlaceAt_30 rfl (by decide) (fun z17 => ?_) (fun z17 => ?_)
    · rw [if_neg z17] at h
      refine ax_aload_n (q := 47) hX dc_K_makePlaceAt_46 rfl rfl rfl ?_
      obtain ⟨u18, hu19, h⟩ := ax_bd h
      have hs20 : S u18 = some (.inl 1) := hty.1 _ _ _ _ hs0 hu19
      refine ax_getR (q := 50) hX dc_K_makePlaceAt_47 rfl fl_K_40 rfl hs0 hu19 ?_
      refine ax_iload_n (q := 51) hX dc_K_makePlaceAt_50 rfl rfl rfl ?_
      refine ax_iload_n (q := 52) hX dc_K_makePlaceAt_51 rfl rfl rfl ?_
      obtain ⟨I23, hr21, h⟩ := ax_bd h
      refine ax_kV (vs := [.int (ax_b r3), .int (r9)]) (rest := []) (q := 55) hX dc_K_makePlaceAt_52 rfl mt_P_moveAlong wl_K_256 wi_P_moveAlong ws_P_moveAlong hs20 rfl (c_P_moveAlong l hty hs20 hr21) rfl (by decide) rfl (Nat.le_of_ble_eq_true rfl) rfl rfl (by decide) (by decide) rfl ?_
      exact ax_weak (ls' := [some (.ref u0), none, some (.int (ax_b r3)), none, some (.int (r15))]) (ax_fewP_s _ _ (by repeat (first | exact trivial | (refine And.intro rfl ?_)))) (e_K_makePlaceAt_55 hX hF hS0  I23 R u0 (ax_b r3) (r15) hty hs0 rfl h)
    · rw [if_pos z17] at h
      exact ax_weak (ls' := [some (.ref u0), none, some (.int (ax_b r3)), none, some (.int (r15))]) (ax_fewP_s _ _ (by repeat (first | exact trivial | (refine And.intro rfl ?_)))) (e_K_makePlaceAt_33 hX hF hS0  I R u0 (ax_b r3) (r15) hty hs0 rfl h)
def d_K_write_20 (S : ax_S) : Nat → ax_I → ax_R → Nat → Int32 → Option (Int32 × ax_I)
  | 0, _, _, _, _ => none
  | n + 1, I, R, u0, x1 =>
    (R u0 4).bind fun u16 =>
    if (I u16 2) ≤ x1 then
      (R u0 2).bind fun u20 =>
      some (I u20 1, I)
    else
      (R u0 4).bind fun u23 =>
      (R u23 0).bind fun u26 =>
      (ax_ix S u26 (x1)).bind fun j30 =>
      (R u26 j30).bind fun u32 =>
      (R u0 2).bind fun u35 =>
      (R u0 4).bind fun u38 =>
      (d_P_placeOfPart S I R u38 u32).bind fun r43 =>
      (d_S_goTo S I R u35 (r43)).bind fun I46 =>
      (R u0 2).bind fun u47 =>
      (d_T_putPart S I46 R u32 u47).bind fun I52 =>
      d_K_write_20 S  n I52 R u0 (x1 + 1)
set_option maxHeartbeats 1000000 in
theorem e_K_write_20 {l : Launch} {X : ax_X} {S : ax_S} {L : ax_L} {R0 : ax_R} {out : Int32 × ax_I} (hX : ax_ok X l "LossFreeTools" b_K_write 3 (ax_rm 4 0 0)) (hF : ax_fin X (some .int) 0 0 (ax_of (ax_eq (some (.int out.1)) S out.2 R0 L))) (hS0 : ax_S0 X = S) : ∀ (n : Nat), ∀ (I : ax_I) (R : ax_R) (u0 : Nat) (x1 : Int32), ax_typ S R → (S u0 = some (.inl 4)) → R = R0 → d_K_write_20 S  n I R u0 x1 = some out → ax_W X 3 20 [some (.ref u0), some (.int (x1)), none] [] S I R L 0 0 := by
  intro n
  induction n with
  | zero =>
    rintro I R u0 x1 hty hs0_ hR0 h
    cases h
  | succ n ih =>
    rintro I R u0 x1 hty hs0_ hR0 h
    subst hR0
    unfold d_K_write_20 at h
    refine ax_iload_n (q := 21) hX dc_K_write_20 rfl rfl rfl ?_
    refine ax_aload_n (q := 22) hX dc_K_write_21 rfl rfl rfl ?_
    obtain ⟨u16, hu17, h⟩ := ax_bd h
    have hs18 : S u16 = some (.inl 1) := hty.1 _ _ _ _ hs0_ hu17
    refine ax_getR (q := 25) hX dc_K_write_22 rfl fl_K_36 rfl hs0_ hu17 ?_
    refine ax_getI (q := 28) hX dc_K_write_25 rfl fl_K_69 rfl hs18 ?_
    refine ax_icmp_ge (tgt := 70) (q := 31) hX dc_K_write_28 rfl (by decide) (fun z19 => ?_) (fun z19 => ?_)
    · rw [if_pos z19] at h
      refine ax_aload_n (q := 71) hX dc_K_write_70 rfl rfl rfl ?_
      obtain ⟨u20, hu21, h⟩ := ax_bd h
      have hs22 : S u20 = some (.inl 2) := hty.1 _ _ _ _ hs0_ hu21
      refine ax_getR (q := 74) hX dc_K_write_71 rfl fl_K_23 rfl hs0_ hu21 ?_
      refine ax_getI (q := 77) hX dc_K_write_74 rfl fl_K_239 rfl hs22 ?_
      cases h
      exact ax_iret hX hF dc_K_write_77 rfl rfl (by decide) (by decide) ax_eq.mk (by rw [hS0]; exact fun _ _ z => z)
    · rw [if_neg z19] at h
      refine ax_aload_n (q := 32) hX dc_K_write_31 rfl rfl rfl ?_
      obtain ⟨u23, hu24, h⟩ := ax_bd h
      have hs25 : S u23 = some (.inl 1) := hty.1 _ _ _ _ hs0_ hu24
      refine ax_getR (q := 35) hX dc_K_write_32 rfl fl_K_36 rfl hs0_ hu24 ?_
      obtain ⟨u26, hu27, h⟩ := ax_bd h
      obtain ⟨n29, hs28⟩ : ∃ n, S u26 = some (.inr (2, n)) := hty.1 _ _ _ _ hs25 hu27
      refine ax_getR (q := 38) hX dc_K_write_35 rfl fl_K_95 rfl hs25 hu27 ?_
      refine ax_iload_n (q := 39) hX dc_K_write_38 rfl rfl rfl ?_
      obtain ⟨j30, hj31, h⟩ := ax_bd h
      have hj31 := ax_ix_s hty hs28 hj31
      obtain ⟨u32, hu33, h⟩ := ax_bd h
      have hs34 : S u32 = some (.inl 3) := hty.2.1 _ _ _ _ hs28 hu33
      refine ax_aald (q := 40) hX j30 dc_K_write_39 rfl hs28 rfl rfl hj31.1 hj31.2.1 hj31.2.2 hu33 ?_
      refine ax_astore_n (ls' := [some (.ref u0), some (.int (x1)), some (.ref u32)]) (q := 41) hX dc_K_write_40 rfl rfl (by decide) rfl ?_
      refine ax_aload_n (q := 42) hX dc_K_write_41 rfl rfl rfl ?_
      obtain ⟨u35, hu36, h⟩ := ax_bd h
      have hs37 : S u35 = some (.inl 2) := hty.1 _ _ _ _ hs0_ hu36
      refine ax_getR (q := 45) hX dc_K_write_42 rfl fl_K_23 rfl hs0_ hu36 ?_
      refine ax_aload_n (q := 46) hX dc_K_write_45 rfl rfl rfl ?_
      obtain ⟨u38, hu39, h⟩ := ax_bd h
      have hs40 : S u38 = some (.inl 1) := hty.1 _ _ _ _ hs0_ hu39
      refine ax_getR (q := 49) hX dc_K_write_46 rfl fl_K_36 rfl hs0_ hu39 ?_
      refine ax_aload_n (q := 50) hX dc_K_write_49 rfl rfl rfl ?_
      obtain ⟨r43, hr41, h⟩ := ax_bd h
      refine ax_kV (vs := [.ref u32]) (rest := [.ref u35]) (q := 53) hX dc_K_write_50 rfl mt_P_placeOfPart wl_K_229 wi_P_placeOfPart ws_P_placeOfPart hs40 rfl (c_P_placeOfPart l hty hs40 hs34 hr41) rfl (by decide) rfl (Nat.le_of_ble_eq_true rfl) rfl rfl (by decide) (by decide) rfl ?_
      obtain ⟨I46, hr44, h⟩ := ax_bd h
      refine ax_kV (vs := [.int (r43)]) (rest := []) (q := 56) hX dc_K_write_53 rfl mt_S_goTo wl_K_233 wi_S_goTo ws_S_goTo hs37 rfl (c_S_goTo l hty hs37 hr44) rfl (by decide) rfl (Nat.le_of_ble_eq_true rfl) rfl rfl (by decide) (by decide) rfl ?_
      refine ax_aload_n (q := 57) hX dc_K_write_56 rfl rfl rfl ?_
      refine ax_aload_n (q := 58) hX dc_K_write_57 rfl rfl rfl ?_
      obtain ⟨u47, hu48, h⟩ := ax_bd h
      have hs49 : S u47 = some (.inl 2) := hty.1 _ _ _ _ hs0_ hu48
      refine ax_getR (q := 61) hX dc_K_write_58 rfl fl_K_23 rfl hs0_ hu48 ?_
      obtain ⟨I52, hr50, h⟩ := ax_bd h
      refine ax_kV (vs := [.ref u47]) (rest := []) (q := 64) hX dc_K_write_61 rfl mt_T_putPart wl_K_236 wi_T_putPart ws_T_putPart hs34 rfl (c_T_putPart l hty hs34 hs49 hr50) rfl (by decide) rfl (Nat.le_of_ble_eq_true rfl) rfl rfl (by decide) (by decide) rfl ?_
      refine ax_iinc (v := x1 + 1) (ls' := [some (.ref u0), some (.int (x1 + 1)), some (.ref u32)]) (q := 67) hX dc_K_write_64 rfl rfl rfl (by decide) rfl ?_
      refine ax_goto (tgt := 20) hX dc_K_write_67 (by decide) ?_
      exact ax_weak (ls' := [some (.ref u0), some (.int (x1 + 1)), none]) (ax_fewP_s _ _ (by repeat (first | exact trivial | (refine And.intro rfl ?_)))) (ih I52 R u0 (x1 + 1) hty hs0_ rfl h)
def d_K_write (S : ax_S) (I : ax_I) (R : ax_R) (u0 : Nat) : Option (Int32 × ax_I) :=
  (R u0 2).bind fun u1 =>
  (d_S_empty S I R u1).bind fun I6 =>
  (R u0 4).bind fun u7 =>
  (R u0 2).bind fun u10 =>
  (d_P_putHead S I6 R u7 u10).bind fun I15 =>
  d_K_write_20 S  5000 I15 R u0 (0)
set_option maxHeartbeats 1000000 in
theorem c_K_write (l : Launch) {S : ax_S} {I : ax_I} {R : ax_R} {L : ax_L} {u0 : Nat} {out : Int32 × ax_I} (hty : ax_typ S R) (hs0 : S u0 = some (.inl 4)) (h : d_K_write S I R u0 = some out) : ax_Met l y_K_write b_K_write 3 (some .int) (ax_rm 4 0 0) [.ref u0] S I R L (ax_eq (some (.int out.1)) S out.2 R L) := by
  refine ax_enter (own := "LossFreeTools") (by decide +kernel) rfl (ax_cats rfl) (Nat.le_of_ble_eq_true rfl) (fun X hX hF _ hS0 => ?_)
  show ax_W X 3 0 [some (.ref u0), none, none] [] S I R L 0 0
  unfold d_K_write at h
  refine ax_aload_n (q := 1) hX dc_K_write_0 rfl rfl rfl ?_
  obtain ⟨u1, hu2, h⟩ := ax_bd h
  have hs3 : S u1 = some (.inl 2) := hty.1 _ _ _ _ hs0 hu2
  refine ax_getR (q := 4) hX dc_K_write_1 rfl fl_K_23 rfl hs0 hu2 ?_
  obtain ⟨I6, hr4, h⟩ := ax_bd h
  refine ax_kV (vs := []) (rest := []) (q := 7) hX dc_K_write_4 rfl mt_S_empty wl_K_222 wi_S_empty ws_S_empty hs3 rfl (c_S_empty l hty hs3 hr4) rfl (by decide) rfl (Nat.le_of_ble_eq_true rfl) rfl rfl (by decide) (by decide) rfl ?_
  refine ax_aload_n (q := 8) hX dc_K_write_7 rfl rfl rfl ?_
  obtain ⟨u7, hu8, h⟩ := ax_bd h
  have hs9 : S u7 = some (.inl 1) := hty.1 _ _ _ _ hs0 hu8
  refine ax_getR (q := 11) hX dc_K_write_8 rfl fl_K_36 rfl hs0 hu8 ?_
  refine ax_aload_n (q := 12) hX dc_K_write_11 rfl rfl rfl ?_
  obtain ⟨u10, hu11, h⟩ := ax_bd h
  have hs12 : S u10 = some (.inl 2) := hty.1 _ _ _ _ hs0 hu11
  refine ax_getR (q := 15) hX dc_K_write_12 rfl fl_K_23 rfl hs0 hu11 ?_
  obtain ⟨I15, hr13, h⟩ := ax_bd h
  refine ax_kV (vs := [.ref u10]) (rest := []) (q := 18) hX dc_K_write_15 rfl mt_P_putHead wl_K_225 wi_P_putHead ws_P_putHead hs9 rfl (c_P_putHead l hty hs9 hs12 hr13) rfl (by decide) rfl (Nat.le_of_ble_eq_true rfl) rfl rfl (by decide) (by decide) rfl ?_
  refine ax_iconst (v := 0) (q := 19) hX dc_K_write_18 rfl (by decide) ?_
  refine ax_istore_n (ls' := [some (.ref u0), some (.int (0)), none]) (q := 20) hX dc_K_write_19 rfl rfl (by decide) rfl ?_
  exact (e_K_write_20 hX hF hS0  5000 I15 R u0 (0) hty hs0 rfl h)
