def d_P_overlapsTile_3 (S : ax_S) : Nat → ax_I → ax_R → Nat → Int32 → Int32 → Int32 → Int32 → Int32 → Option (Bool)
  | 0, _, _, _, _, _, _, _, _ => none
  | n + 1, I, R, u0, x1, x2, x3, x4, x5 =>
    if (I u0 2) ≤ x5 then
      some (false)
    else
      (R u0 0).bind fun u2 =>
      (ax_ix S u2 (x5)).bind fun j6 =>
      (R u2 j6).bind fun u8 =>
      (d_T_overlaps S I R u8 (x1) (x2) (x3) (x4)).bind fun r13 =>
      if (ax_b r13) = 0 then
        d_P_overlapsTile_3 S  n I R u0 (x1) (x2) (x3) (x4) (x5 + 1)
      else
        some (true)
set_option maxHeartbeats 1000000 in
theorem e_P_overlapsTile_3 {l : Launch} {X : ax_X} {S : ax_S} {L : ax_L} {I0 : ax_I} {R0 : ax_R} {out : Bool} (hX : ax_ok X l "LossFreeTools$Picture" b_P_overlapsTile 6 (ax_rm 2 0 0)) (hF : ax_fin X (some .boolean) 0 0 (ax_of (ax_eq (some (.int (ax_b out))) S I0 R0 L))) (hS0 : ax_S0 X = S) : ∀ (n : Nat), ∀ (I : ax_I) (R : ax_R) (u0 : Nat) (x1 : Int32) (x2 : Int32) (x3 : Int32) (x4 : Int32) (x5 : Int32), ax_typ S R → (S u0 = some (.inl 1)) → I = I0 → R = R0 → d_P_overlapsTile_3 S  n I R u0 x1 x2 x3 x4 x5 = some out → ax_W X 6 3 [some (.ref u0), some (.int (x1)), some (.int (x2)), some (.int (x3)), some (.int (x4)), some (.int (x5))] [] S I R L 0 0 := by
  intro n
  induction n with
  | zero =>
    rintro I R u0 x1 x2 x3 x4 x5 hty hs0_ hI0 hR0 h
    cases h
  | succ n ih =>
    rintro I R u0 x1 x2 x3 x4 x5 hty hs0_ hI0 hR0 h
    subst hI0
    subst hR0
    unfold d_P_overlapsTile_3 at h
    refine ax_iload (q := 5) hX dc_P_overlapsTile_3 rfl rfl ?_
    refine ax_aload_n (q := 6) hX dc_P_overlapsTile_5 rfl rfl rfl ?_
    refine ax_getI (q := 9) hX dc_P_overlapsTile_6 rfl fl_P_32 rfl hs0_ ?_
    refine ax_icmp_ge (tgt := 38) (q := 12) hX dc_P_overlapsTile_9 rfl (by decide) (fun z1 => ?_) (fun z1 => ?_)
    · rw [if_pos z1] at h
      refine ax_iconst (v := 0) (q := 39) hX dc_P_overlapsTile_38 rfl (by decide) ?_
      cases h
      exact ax_iret hX hF dc_P_overlapsTile_39 rfl rfl (by decide) (by decide) ax_eq.mk (by rw [hS0]; exact fun _ _ z => z)
    · rw [if_neg z1] at h
      refine ax_aload_n (q := 13) hX dc_P_overlapsTile_12 rfl rfl rfl ?_
      obtain ⟨u2, hu3, h⟩ := ax_bd h
      obtain ⟨n5, hs4⟩ : ∃ n, S u2 = some (.inr (2, n)) := hty.1 _ _ _ _ hs0_ hu3
      refine ax_getR (q := 16) hX dc_P_overlapsTile_13 rfl fl_P_11 rfl hs0_ hu3 ?_
      refine ax_iload (q := 18) hX dc_P_overlapsTile_16 rfl rfl ?_
      obtain ⟨j6, hj7, h⟩ := ax_bd h
      have hj7 := ax_ix_s hty hs4 hj7
      obtain ⟨u8, hu9, h⟩ := ax_bd h
      have hs10 : S u8 = some (.inl 3) := hty.2.1 _ _ _ _ hs4 hu9
      refine ax_aald (q := 19) hX j6 dc_P_overlapsTile_18 rfl hs4 rfl rfl hj7.1 hj7.2.1 hj7.2.2 hu9 ?_
      refine ax_iload_n (q := 20) hX dc_P_overlapsTile_19 rfl rfl rfl ?_
      refine ax_iload_n (q := 21) hX dc_P_overlapsTile_20 rfl rfl rfl ?_
      refine ax_iload_n (q := 22) hX dc_P_overlapsTile_21 rfl rfl rfl ?_
      refine ax_iload (q := 24) hX dc_P_overlapsTile_22 rfl rfl ?_
      obtain ⟨r13, hr11, h⟩ := ax_bd h
      refine ax_kV (vs := [.int (x1), .int (x2), .int (x3), .int (x4)]) (rest := []) (q := 27) hX dc_P_overlapsTile_24 rfl mt_T_overlaps wl_P_38 wi_T_overlaps ws_T_overlaps hs10 rfl (c_T_overlaps l hty hs10 hr11) rfl (by decide) rfl (Nat.le_of_ble_eq_true rfl) rfl rfl (by decide) (by decide) rfl ?_
      refine ax_if_eq (tgt := 32) (q := 30) hX dc_P_overlapsTile_27 rfl (by decide) (fun z14 => ?_) (fun z14 => ?_)
      · rw [if_pos z14] at h
        refine ax_iinc (v := x5 + 1) (ls' := [some (.ref u0), some (.int (x1)), some (.int (x2)), some (.int (x3)), some (.int (x4)), some (.int (x5 + 1))]) (q := 35) hX dc_P_overlapsTile_32 rfl rfl rfl (by decide) rfl ?_
        refine ax_goto (tgt := 3) hX dc_P_overlapsTile_35 (by decide) ?_
        exact (ih I R u0 (x1) (x2) (x3) (x4) (x5 + 1) hty hs0_ rfl rfl h)
      · rw [if_neg z14] at h
        refine ax_iconst (v := 1) (q := 31) hX dc_P_overlapsTile_30 rfl (by decide) ?_
        cases h
        exact ax_iret hX hF dc_P_overlapsTile_31 rfl rfl (by decide) (by decide) ax_eq.mk (by rw [hS0]; exact fun _ _ z => z)
def d_P_overlapsTile (S : ax_S) (I : ax_I) (R : ax_R) (u0 : Nat) (x1 : Int32) (x2 : Int32) (x3 : Int32) (x4 : Int32) : Option (Bool) :=
  d_P_overlapsTile_3 S  5000 I R u0 (x1) (x2) (x3) (x4) (0)
set_option maxHeartbeats 1000000 in
theorem c_P_overlapsTile (l : Launch) {S : ax_S} {I : ax_I} {R : ax_R} {L : ax_L} {u0 : Nat} {x1 : Int32} {x2 : Int32} {x3 : Int32} {x4 : Int32} {out : Bool} (hty : ax_typ S R) (hs0 : S u0 = some (.inl 1)) (h : d_P_overlapsTile S I R u0 x1 x2 x3 x4 = some out) : ax_Met l y_P_overlapsTile b_P_overlapsTile 6 (some .boolean) (ax_rm 2 0 0) [.ref u0, .int x1, .int x2, .int x3, .int x4] S I R L (ax_eq (some (.int (ax_b out))) S I R L) := by
  refine ax_enter (own := "LossFreeTools$Picture") (by decide +kernel) rfl (ax_cats rfl) (Nat.le_of_ble_eq_true rfl) (fun X hX hF _ hS0 => ?_)
  show ax_W X 6 0 [some (.ref u0), some (.int (x1)), some (.int (x2)), some (.int (x3)), some (.int (x4)), none] [] S I R L 0 0
  unfold d_P_overlapsTile at h
  refine ax_iconst (v := 0) (q := 1) hX dc_P_overlapsTile_0 rfl (by decide) ?_
  refine ax_istore (ls' := [some (.ref u0), some (.int (x1)), some (.int (x2)), some (.int (x3)), some (.int (x4)), some (.int (0))]) (q := 3) hX dc_P_overlapsTile_1 rfl (by decide) rfl ?_
  exact (e_P_overlapsTile_3 hX hF hS0  5000 I R u0 (x1) (x2) (x3) (x4) (0) hty hs0 rfl rfl h)
def d_P_tileOver_2 (S : ax_S) : Nat → ax_I → ax_R → Nat → Int32 → Int32 → Int32 → Option (Int32)
  | 0, _, _, _, _, _, _ => none
  | n + 1, I, R, u0, x1, x2, x3 =>
    if (I u0 2) ≤ x3 then
      some ((-1))
    else
      (R u0 0).bind fun u2 =>
      (ax_ix S u2 (x3)).bind fun j6 =>
      (R u2 j6).bind fun u8 =>
      (d_T_overlaps S I R u8 (x1) (x2) (1) (1)).bind fun r13 =>
      if (ax_b r13) = 0 then
        d_P_tileOver_2 S  n I R u0 (x1) (x2) (x3 + 1)
      else
        some (x3)
set_option maxHeartbeats 1000000 in
theorem e_P_tileOver_2 {l : Launch} {X : ax_X} {S : ax_S} {L : ax_L} {I0 : ax_I} {R0 : ax_R} {out : Int32} (hX : ax_ok X l "LossFreeTools$Picture" b_P_tileOver 4 (ax_rm 2 0 0)) (hF : ax_fin X (some .int) 0 0 (ax_of (ax_eq (some (.int out)) S I0 R0 L))) (hS0 : ax_S0 X = S) : ∀ (n : Nat), ∀ (I : ax_I) (R : ax_R) (u0 : Nat) (x1 : Int32) (x2 : Int32) (x3 : Int32), ax_typ S R → (S u0 = some (.inl 1)) → I = I0 → R = R0 → d_P_tileOver_2 S  n I R u0 x1 x2 x3 = some out → ax_W X 4 2 [some (.ref u0), some (.int (x1)), some (.int (x2)), some (.int (x3))] [] S I R L 0 0 := by
  intro n
  induction n with
  | zero =>
    rintro I R u0 x1 x2 x3 hty hs0_ hI0 hR0 h
    cases h
  | succ n ih =>
    rintro I R u0 x1 x2 x3 hty hs0_ hI0 hR0 h
    subst hI0
    subst hR0
    unfold d_P_tileOver_2 at h
    refine ax_iload_n (q := 3) hX dc_P_tileOver_2 rfl rfl rfl ?_
    refine ax_aload_n (q := 4) hX dc_P_tileOver_3 rfl rfl rfl ?_
    refine ax_getI (q := 7) hX dc_P_tileOver_4 rfl fl_P_32 rfl hs0_ ?_
    refine ax_icmp_ge (tgt := 34) (q := 10) hX dc_P_tileOver_7 rfl (by decide) (fun z1 => ?_) (fun z1 => ?_)
    · rw [if_pos z1] at h
      refine ax_iconst (v := (-1)) (q := 35) hX dc_P_tileOver_34 rfl (by decide) ?_
      cases h
      exact ax_iret hX hF dc_P_tileOver_35 rfl rfl (by decide) (by decide) ax_eq.mk (by rw [hS0]; exact fun _ _ z => z)
    · rw [if_neg z1] at h
      refine ax_aload_n (q := 11) hX dc_P_tileOver_10 rfl rfl rfl ?_
      obtain ⟨u2, hu3, h⟩ := ax_bd h
      obtain ⟨n5, hs4⟩ : ∃ n, S u2 = some (.inr (2, n)) := hty.1 _ _ _ _ hs0_ hu3
      refine ax_getR (q := 14) hX dc_P_tileOver_11 rfl fl_P_11 rfl hs0_ hu3 ?_
      refine ax_iload_n (q := 15) hX dc_P_tileOver_14 rfl rfl rfl ?_
      obtain ⟨j6, hj7, h⟩ := ax_bd h
      have hj7 := ax_ix_s hty hs4 hj7
      obtain ⟨u8, hu9, h⟩ := ax_bd h
      have hs10 : S u8 = some (.inl 3) := hty.2.1 _ _ _ _ hs4 hu9
      refine ax_aald (q := 16) hX j6 dc_P_tileOver_15 rfl hs4 rfl rfl hj7.1 hj7.2.1 hj7.2.2 hu9 ?_
      refine ax_iload_n (q := 17) hX dc_P_tileOver_16 rfl rfl rfl ?_
      refine ax_iload_n (q := 18) hX dc_P_tileOver_17 rfl rfl rfl ?_
      refine ax_iconst (v := 1) (q := 19) hX dc_P_tileOver_18 rfl (by decide) ?_
      refine ax_iconst (v := 1) (q := 20) hX dc_P_tileOver_19 rfl (by decide) ?_
      obtain ⟨r13, hr11, h⟩ := ax_bd h
      refine ax_kV (vs := [.int (x1), .int (x2), .int (1), .int (1)]) (rest := []) (q := 23) hX dc_P_tileOver_20 rfl mt_T_overlaps wl_P_38 wi_T_overlaps ws_T_overlaps hs10 rfl (c_T_overlaps l hty hs10 hr11) rfl (by decide) rfl (Nat.le_of_ble_eq_true rfl) rfl rfl (by decide) (by decide) rfl ?_
      refine ax_if_eq (tgt := 28) (q := 26) hX dc_P_tileOver_23 rfl (by decide) (fun z14 => ?_) (fun z14 => ?_)
      · rw [if_pos z14] at h
        refine ax_iinc (v := x3 + 1) (ls' := [some (.ref u0), some (.int (x1)), some (.int (x2)), some (.int (x3 + 1))]) (q := 31) hX dc_P_tileOver_28 rfl rfl rfl (by decide) rfl ?_
        refine ax_goto (tgt := 2) hX dc_P_tileOver_31 (by decide) ?_
        exact (ih I R u0 (x1) (x2) (x3 + 1) hty hs0_ rfl rfl h)
      · rw [if_neg z14] at h
        refine ax_iload_n (q := 27) hX dc_P_tileOver_26 rfl rfl rfl ?_
        cases h
        exact ax_iret hX hF dc_P_tileOver_27 rfl rfl (by decide) (by decide) ax_eq.mk (by rw [hS0]; exact fun _ _ z => z)
def d_P_tileOver (S : ax_S) (I : ax_I) (R : ax_R) (u0 : Nat) (x1 : Int32) (x2 : Int32) : Option (Int32) :=
  d_P_tileOver_2 S  5000 I R u0 (x1) (x2) (0)
set_option maxHeartbeats 1000000 in
theorem c_P_tileOver (l : Launch) {S : ax_S} {I : ax_I} {R : ax_R} {L : ax_L} {u0 : Nat} {x1 : Int32} {x2 : Int32} {out : Int32} (hty : ax_typ S R) (hs0 : S u0 = some (.inl 1)) (h : d_P_tileOver S I R u0 x1 x2 = some out) : ax_Met l y_P_tileOver b_P_tileOver 4 (some .int) (ax_rm 2 0 0) [.ref u0, .int x1, .int x2] S I R L (ax_eq (some (.int out)) S I R L) := by
  refine ax_enter (own := "LossFreeTools$Picture") (by decide +kernel) rfl (ax_cats rfl) (Nat.le_of_ble_eq_true rfl) (fun X hX hF _ hS0 => ?_)
  show ax_W X 4 0 [some (.ref u0), some (.int (x1)), some (.int (x2)), none] [] S I R L 0 0
  unfold d_P_tileOver at h
  refine ax_iconst (v := 0) (q := 1) hX dc_P_tileOver_0 rfl (by decide) ?_
  refine ax_istore_n (ls' := [some (.ref u0), some (.int (x1)), some (.int (x2)), some (.int (0))]) (q := 2) hX dc_P_tileOver_1 rfl rfl (by decide) rfl ?_
  exact (e_P_tileOver_2 hX hF hS0  5000 I R u0 (x1) (x2) (0) hty hs0 rfl rfl h)
def d_P_addTile (S : ax_S) (I : ax_I) (R : ax_R) (u0 : Nat) (x1 : Int32) (x2 : Int32) (x3 : Int32) (x4 : Int32) : Option (Int32 × ax_I) :=
  (R u0 0).bind fun u1 =>
  if (I u0 2) < (nI (ax_len S u1)) then
    (R u0 0).bind fun u6 =>
    (ax_ix S u6 (I u0 2)).bind fun j10 =>
    (R u6 j10).bind fun u12 =>
    (d_T_startAnew S I R u12 (x1) (x2) (x3) (x4)).bind fun I17 =>
    (some (ax_up I17 u0 2 ((I17 u0 2) + 1))).bind fun I18 =>
    some ((I18 u0 2) - 1, I18)
  else
    some ((-1), I)
set_option maxHeartbeats 1000000 in
theorem c_P_addTile (l : Launch) {S : ax_S} {I : ax_I} {R : ax_R} {L : ax_L} {u0 : Nat} {x1 : Int32} {x2 : Int32} {x3 : Int32} {x4 : Int32} {out : Int32 × ax_I} (hty : ax_typ S R) (hs0 : S u0 = some (.inl 1)) (h : d_P_addTile S I R u0 x1 x2 x3 x4 = some out) : ax_Met l y_P_addTile b_P_addTile 5 (some .int) (ax_rm 2 0 0) [.ref u0, .int x1, .int x2, .int x3, .int x4] S I R L (ax_eq (some (.int out.1)) S out.2 R L) := by
  refine ax_enter (own := "LossFreeTools$Picture") (by decide +kernel) rfl (ax_cats rfl) (Nat.le_of_ble_eq_true rfl) (fun X hX hF _ hS0 => ?_)
  show ax_W X 5 0 [some (.ref u0), some (.int (x1)), some (.int (x2)), some (.int (x3)), some (.int (x4))] [] S I R L 0 0
  unfold d_P_addTile at h
  refine ax_aload_n (q := 1) hX dc_P_addTile_0 rfl rfl rfl ?_
  refine ax_getI (q := 4) hX dc_P_addTile_1 rfl fl_P_32 rfl hs0 ?_
  refine ax_aload_n (q := 5) hX dc_P_addTile_4 rfl rfl rfl ?_
  obtain ⟨u1, hu2, h⟩ := ax_bd h
  obtain ⟨n4, hs3⟩ : ∃ n, S u1 = some (.inr (2, n)) := hty.1 _ _ _ _ hs0 hu2
  refine ax_getR (q := 8) hX dc_P_addTile_5 rfl fl_P_11 rfl hs0 hu2 ?_
  refine ax_alen (q := 9) hX dc_P_addTile_8 rfl hs3 ?_
  rw [← ax_len_s hs3]
  refine ax_icmp_lt (tgt := 14) (q := 12) hX dc_P_addTile_9 rfl (by decide) (fun z5 => ?_) (fun z5 => ?_)
  · rw [if_pos z5] at h
    refine ax_aload_n (q := 15) hX dc_P_addTile_14 rfl rfl rfl ?_
    obtain ⟨u6, hu7, h⟩ := ax_bd h
    obtain ⟨n9, hs8⟩ : ∃ n, S u6 = some (.inr (2, n)) := hty.1 _ _ _ _ hs0 hu7
    refine ax_getR (q := 18) hX dc_P_addTile_15 rfl fl_P_11 rfl hs0 hu7 ?_
    refine ax_aload_n (q := 19) hX dc_P_addTile_18 rfl rfl rfl ?_
    refine ax_getI (q := 22) hX dc_P_addTile_19 rfl fl_P_32 rfl hs0 ?_
    obtain ⟨j10, hj11, h⟩ := ax_bd h
    have hj11 := ax_ix_s hty hs8 hj11
    obtain ⟨u12, hu13, h⟩ := ax_bd h
    have hs14 : S u12 = some (.inl 3) := hty.2.1 _ _ _ _ hs8 hu13
    refine ax_aald (q := 23) hX j10 dc_P_addTile_22 rfl hs8 rfl rfl hj11.1 hj11.2.1 hj11.2.2 hu13 ?_
    refine ax_iload_n (q := 24) hX dc_P_addTile_23 rfl rfl rfl ?_
    refine ax_iload_n (q := 25) hX dc_P_addTile_24 rfl rfl rfl ?_
    refine ax_iload_n (q := 26) hX dc_P_addTile_25 rfl rfl rfl ?_
    refine ax_iload (q := 28) hX dc_P_addTile_26 rfl rfl ?_
    obtain ⟨I17, hr15, h⟩ := ax_bd h
    refine ax_kV (vs := [.int (x1), .int (x2), .int (x3), .int (x4)]) (rest := []) (q := 31) hX dc_P_addTile_28 rfl mt_T_startAnew wl_P_42 wi_T_startAnew ws_T_startAnew hs14 rfl (c_T_startAnew l hty hs14 hr15) rfl (by decide) rfl (Nat.le_of_ble_eq_true rfl) rfl rfl (by decide) (by decide) rfl ?_
    refine ax_aload_n (q := 32) hX dc_P_addTile_31 rfl rfl rfl ?_
    refine ax_dup (q := 33) hX dc_P_addTile_32 rfl rfl ?_
    refine ax_getI (q := 36) hX dc_P_addTile_33 rfl fl_P_32 rfl hs0 ?_
    refine ax_iconst (v := 1) (q := 37) hX dc_P_addTile_36 rfl (by decide) ?_
    refine ax_iadd (q := 38) hX dc_P_addTile_37 rfl ?_
    obtain ⟨I18, e19, h⟩ := ax_bs h
    refine ax_putI (q := 41) hX dc_P_addTile_38 rfl fl_P_32 rfl hs0 (fun z => by cases z) rfl rfl e19 ?_
    refine ax_aload_n (q := 42) hX dc_P_addTile_41 rfl rfl rfl ?_
    refine ax_getI (q := 45) hX dc_P_addTile_42 rfl fl_P_32 rfl hs0 ?_
    refine ax_iconst (v := 1) (q := 46) hX dc_P_addTile_45 rfl (by decide) ?_
    refine ax_isub (q := 47) hX dc_P_addTile_46 rfl ?_
    cases h
    exact ax_iret hX hF dc_P_addTile_47 rfl rfl (by decide) (by decide) ax_eq.mk (by rw [hS0]; exact fun _ _ z => z)
  · rw [if_neg z5] at h
    refine ax_iconst (v := (-1)) (q := 13) hX dc_P_addTile_12 rfl (by decide) ?_
    cases h
    exact ax_iret hX hF dc_P_addTile_13 rfl rfl (by decide) (by decide) ax_eq.mk (by rw [hS0]; exact fun _ _ z => z)
def d_P_addNote (S : ax_S) (I : ax_I) (R : ax_R) (u0 : Nat) (x1 : Int32) (x2 : Int32) (x3 : Int32) : Option (Int32 × ax_I) :=
  (R u0 1).bind fun u1 =>
  if (nI (ax_len S u1)) ≤ (I u0 3) then
    some (I u0 3, I)
  else
    (R u0 1).bind fun u6 =>
    (ax_ix S u6 (I u0 3)).bind fun j10 =>
    (R u6 j10).bind fun u12 =>
    (d_N_startAnew S I R u12 (x1) (x2) (x3)).bind fun I17 =>
    (some (ax_up I17 u0 3 ((I17 u0 3) + 1))).bind fun I18 =>
    some (I18 u0 3, I18)
set_option maxHeartbeats 1000000 in
theorem c_P_addNote (l : Launch) {S : ax_S} {I : ax_I} {R : ax_R} {L : ax_L} {u0 : Nat} {x1 : Int32} {x2 : Int32} {x3 : Int32} {out : Int32 × ax_I} (hty : ax_typ S R) (hs0 : S u0 = some (.inl 1)) (h : d_P_addNote S I R u0 x1 x2 x3 = some out) : ax_Met l y_P_addNote b_P_addNote 4 (some .int) (ax_rm 2 0 0) [.ref u0, .int x1, .int x2, .int x3] S I R L (ax_eq (some (.int out.1)) S out.2 R L) := by
  refine ax_enter (own := "LossFreeTools$Picture") (by decide +kernel) rfl (ax_cats rfl) (Nat.le_of_ble_eq_true rfl) (fun X hX hF _ hS0 => ?_)
  show ax_W X 4 0 [some (.ref u0), some (.int (x1)), some (.int (x2)), some (.int (x3))] [] S I R L 0 0
  unfold d_P_addNote at h
  refine ax_aload_n (q := 1) hX dc_P_addNote_0 rfl rfl rfl ?_
  refine ax_getI (q := 4) hX dc_P_addNote_1 rfl fl_P_35 rfl hs0 ?_
  refine ax_aload_n (q := 5) hX dc_P_addNote_4 rfl rfl rfl ?_
  obtain ⟨u1, hu2, h⟩ := ax_bd h
  obtain ⟨n4, hs3⟩ : ∃ n, S u1 = some (.inr (3, n)) := hty.1 _ _ _ _ hs0 hu2
  refine ax_getR (q := 8) hX dc_P_addNote_5 rfl fl_P_20 rfl hs0 hu2 ?_
  refine ax_alen (q := 9) hX dc_P_addNote_8 rfl hs3 ?_
  rw [← ax_len_s hs3]
  refine ax_icmp_ge (tgt := 37) (q := 12) hX dc_P_addNote_9 rfl (by decide) (fun z5 => ?_) (fun z5 => ?_)
  · rw [if_pos z5] at h
    refine ax_aload_n (q := 38) hX dc_P_addNote_37 rfl rfl rfl ?_
    refine ax_getI (q := 41) hX dc_P_addNote_38 rfl fl_P_35 rfl hs0 ?_
    cases h
    exact ax_iret hX hF dc_P_addNote_41 rfl rfl (by decide) (by decide) ax_eq.mk (by rw [hS0]; exact fun _ _ z => z)
  · rw [if_neg z5] at h
    refine ax_aload_n (q := 13) hX dc_P_addNote_12 rfl rfl rfl ?_
    obtain ⟨u6, hu7, h⟩ := ax_bd h
    obtain ⟨n9, hs8⟩ : ∃ n, S u6 = some (.inr (3, n)) := hty.1 _ _ _ _ hs0 hu7
    refine ax_getR (q := 16) hX dc_P_addNote_13 rfl fl_P_20 rfl hs0 hu7 ?_
    refine ax_aload_n (q := 17) hX dc_P_addNote_16 rfl rfl rfl ?_
    refine ax_getI (q := 20) hX dc_P_addNote_17 rfl fl_P_35 rfl hs0 ?_
    obtain ⟨j10, hj11, h⟩ := ax_bd h
    have hj11 := ax_ix_s hty hs8 hj11
    obtain ⟨u12, hu13, h⟩ := ax_bd h
    have hs14 : S u12 = some (.inl 0) := hty.2.2.1 _ _ _ _ hs8 hu13
    refine ax_aald (q := 21) hX j10 dc_P_addNote_20 rfl hs8 rfl rfl hj11.1 hj11.2.1 hj11.2.2 hu13 ?_
    refine ax_iload_n (q := 22) hX dc_P_addNote_21 rfl rfl rfl ?_
    refine ax_iload_n (q := 23) hX dc_P_addNote_22 rfl rfl rfl ?_
    refine ax_iload_n (q := 24) hX dc_P_addNote_23 rfl rfl rfl ?_
    obtain ⟨I17, hr15, h⟩ := ax_bd h
    refine ax_kV (vs := [.int (x1), .int (x2), .int (x3)]) (rest := []) (q := 27) hX dc_P_addNote_24 rfl mt_N_startAnew wl_P_46 wi_N_startAnew ws_N_startAnew hs14 rfl (c_N_startAnew l hty hs14 hr15) rfl (by decide) rfl (Nat.le_of_ble_eq_true rfl) rfl rfl (by decide) (by decide) rfl ?_
    refine ax_aload_n (q := 28) hX dc_P_addNote_27 rfl rfl rfl ?_
    refine ax_dup (q := 29) hX dc_P_addNote_28 rfl rfl ?_
    refine ax_getI (q := 32) hX dc_P_addNote_29 rfl fl_P_35 rfl hs0 ?_
    refine ax_iconst (v := 1) (q := 33) hX dc_P_addNote_32 rfl (by decide) ?_
    refine ax_iadd (q := 34) hX dc_P_addNote_33 rfl ?_
    obtain ⟨I18, e19, h⟩ := ax_bs h
    refine ax_putI (q := 37) hX dc_P_addNote_34 rfl fl_P_35 rfl hs0 (fun z => by cases z) rfl rfl e19 ?_
    refine ax_aload_n (q := 38) hX dc_P_addNote_37 rfl rfl rfl ?_
    refine ax_getI (q := 41) hX dc_P_addNote_38 rfl fl_P_35 rfl hs0 ?_
    cases h
    exact ax_iret hX hF dc_P_addNote_41 rfl rfl (by decide) (by decide) ax_eq.mk (by rw [hS0]; exact fun _ _ z => z)
def d_P_borderFits_2 (S : ax_S) : Nat → ax_I → ax_R → Nat → Int32 → Int32 → Int32 → Option (Bool)
  | 0, _, _, _, _, _, _ => none
  | n + 1, I, R, u0, x1, x2, x3 =>
    if (I u0 2) ≤ x3 then
      some (true)
    else
      (R u0 0).bind fun u2 =>
      (ax_ix S u2 (x3)).bind fun j6 =>
      (R u2 j6).bind fun u8 =>
      (d_T_crosses S I R u8 (x1) (x2)).bind fun r13 =>
      if (ax_b r13) = 0 then
        d_P_borderFits_2 S  n I R u0 (x1) (x2) (x3 + 1)
      else
        some (false)
set_option maxHeartbeats 1000000 in
theorem e_P_borderFits_2 {l : Launch} {X : ax_X} {S : ax_S} {L : ax_L} {I0 : ax_I} {R0 : ax_R} {out : Bool} (hX : ax_ok X l "LossFreeTools$Picture" b_P_borderFits 4 (ax_rm 2 0 0)) (hF : ax_fin X (some .boolean) 0 0 (ax_of (ax_eq (some (.int (ax_b out))) S I0 R0 L))) (hS0 : ax_S0 X = S) : ∀ (n : Nat), ∀ (I : ax_I) (R : ax_R) (u0 : Nat) (x1 : Int32) (x2 : Int32) (x3 : Int32), ax_typ S R → (S u0 = some (.inl 1)) → I = I0 → R = R0 → d_P_borderFits_2 S  n I R u0 x1 x2 x3 = some out → ax_W X 4 2 [some (.ref u0), some (.int (x1)), some (.int (x2)), some (.int (x3))] [] S I R L 0 0 := by
  intro n
  induction n with
  | zero =>
    rintro I R u0 x1 x2 x3 hty hs0_ hI0 hR0 h
    cases h
  | succ n ih =>
    rintro I R u0 x1 x2 x3 hty hs0_ hI0 hR0 h
    subst hI0
    subst hR0
    unfold d_P_borderFits_2 at h
    refine ax_iload_n (q := 3) hX dc_P_borderFits_2 rfl rfl rfl ?_
    refine ax_aload_n (q := 4) hX dc_P_borderFits_3 rfl rfl rfl ?_
    refine ax_getI (q := 7) hX dc_P_borderFits_4 rfl fl_P_32 rfl hs0_ ?_
    refine ax_icmp_ge (tgt := 32) (q := 10) hX dc_P_borderFits_7 rfl (by decide) (fun z1 => ?_) (fun z1 => ?_)
    · rw [if_pos z1] at h
      refine ax_iconst (v := 1) (q := 33) hX dc_P_borderFits_32 rfl (by decide) ?_
      cases h
      exact ax_iret hX hF dc_P_borderFits_33 rfl rfl (by decide) (by decide) ax_eq.mk (by rw [hS0]; exact fun _ _ z => z)
    · rw [if_neg z1] at h
      refine ax_aload_n (q := 11) hX dc_P_borderFits_10 rfl rfl rfl ?_
      obtain ⟨u2, hu3, h⟩ := ax_bd h
      obtain ⟨n5, hs4⟩ : ∃ n, S u2 = some (.inr (2, n)) := hty.1 _ _ _ _ hs0_ hu3
      refine ax_getR (q := 14) hX dc_P_borderFits_11 rfl fl_P_11 rfl hs0_ hu3 ?_
      refine ax_iload_n (q := 15) hX dc_P_borderFits_14 rfl rfl rfl ?_
      obtain ⟨j6, hj7, h⟩ := ax_bd h
      have hj7 := ax_ix_s hty hs4 hj7
      obtain ⟨u8, hu9, h⟩ := ax_bd h
      have hs10 : S u8 = some (.inl 3) := hty.2.1 _ _ _ _ hs4 hu9
      refine ax_aald (q := 16) hX j6 dc_P_borderFits_15 rfl hs4 rfl rfl hj7.1 hj7.2.1 hj7.2.2 hu9 ?_
      refine ax_iload_n (q := 17) hX dc_P_borderFits_16 rfl rfl rfl ?_
      refine ax_iload_n (q := 18) hX dc_P_borderFits_17 rfl rfl rfl ?_
      obtain ⟨r13, hr11, h⟩ := ax_bd h
      refine ax_kV (vs := [.int (x1), .int (x2)]) (rest := []) (q := 21) hX dc_P_borderFits_18 rfl mt_T_crosses wl_P_49 wi_T_crosses ws_T_crosses hs10 rfl (c_T_crosses l hty hs10 hr11) rfl (by decide) rfl (Nat.le_of_ble_eq_true rfl) rfl rfl (by decide) (by decide) rfl ?_
      refine ax_if_eq (tgt := 26) (q := 24) hX dc_P_borderFits_21 rfl (by decide) (fun z14 => ?_) (fun z14 => ?_)
      · rw [if_pos z14] at h
        refine ax_iinc (v := x3 + 1) (ls' := [some (.ref u0), some (.int (x1)), some (.int (x2)), some (.int (x3 + 1))]) (q := 29) hX dc_P_borderFits_26 rfl rfl rfl (by decide) rfl ?_
        refine ax_goto (tgt := 2) hX dc_P_borderFits_29 (by decide) ?_
        exact (ih I R u0 (x1) (x2) (x3 + 1) hty hs0_ rfl rfl h)
      · rw [if_neg z14] at h
        refine ax_iconst (v := 0) (q := 25) hX dc_P_borderFits_24 rfl (by decide) ?_
        cases h
        exact ax_iret hX hF dc_P_borderFits_25 rfl rfl (by decide) (by decide) ax_eq.mk (by rw [hS0]; exact fun _ _ z => z)
def d_P_borderFits (S : ax_S) (I : ax_I) (R : ax_R) (u0 : Nat) (x1 : Int32) (x2 : Int32) : Option (Bool) :=
  d_P_borderFits_2 S  5000 I R u0 (x1) (x2) (0)
set_option maxHeartbeats 1000000 in
theorem c_P_borderFits (l : Launch) {S : ax_S} {I : ax_I} {R : ax_R} {L : ax_L} {u0 : Nat} {x1 : Int32} {x2 : Int32} {out : Bool} (hty : ax_typ S R) (hs0 : S u0 = some (.inl 1)) (h : d_P_borderFits S I R u0 x1 x2 = some out) : ax_Met l y_P_borderFits b_P_borderFits 4 (some .boolean) (ax_rm 2 0 0) [.ref u0, .int x1, .int x2] S I R L (ax_eq (some (.int (ax_b out))) S I R L) := by
  refine ax_enter (own := "LossFreeTools$Picture") (by decide +kernel) rfl (ax_cats rfl) (Nat.le_of_ble_eq_true rfl) (fun X hX hF _ hS0 => ?_)
  show ax_W X 4 0 [some (.ref u0), some (.int (x1)), some (.int (x2)), none] [] S I R L 0 0
  unfold d_P_borderFits at h
  refine ax_iconst (v := 0) (q := 1) hX dc_P_borderFits_0 rfl (by decide) ?_
  refine ax_istore_n (ls' := [some (.ref u0), some (.int (x1)), some (.int (x2)), some (.int (0))]) (q := 2) hX dc_P_borderFits_1 rfl rfl (by decide) rfl ?_
  exact (e_P_borderFits_2 hX hF hS0  5000 I R u0 (x1) (x2) (0) hty hs0 rfl rfl h)
def d_P_keepTilesWithin_63 (S : ax_S) (rec6 : ax_I → ax_R → Nat → Int32 → Int32 → Int32 → Int32 → Int32 → Int32 → Option (ax_I × ax_R)) (I : ax_I) (R : ax_R) (u0 : Nat) (x1 : Int32) (x2 : Int32) (x3 : Int32) (x4 : Int32) (x5 : Int32) (x6 : Int32) : Option (ax_I × ax_R) :=
  rec6 I R u0 (x1) (x2) (x3) (x4) (x5) (x6 + 1)
set_option maxHeartbeats 1000000 in
theorem e_P_keepTilesWithin_63 {l : Launch} {X : ax_X} {S : ax_S} {L : ax_L} {out : ax_I × ax_R} (hX : ax_ok X l "LossFreeTools$Picture" b_P_keepTilesWithin 8 (ax_rm 2 0 0)) (hF : ax_fin X none 0 0 (ax_of (ax_eq none S out.1 out.2 L))) (hS0 : ax_S0 X = S) (rec6 : ax_I → ax_R → Nat → Int32 → Int32 → Int32 → Int32 → Int32 → Int32 → Option (ax_I × ax_R)) (hrec6 : ∀ (I : ax_I) (R : ax_R) (u0 : Nat) (x1 : Int32) (x2 : Int32) (x3 : Int32) (x4 : Int32) (x5 : Int32) (x6 : Int32), ax_typ S R → (S u0 = some (.inl 1)) → rec6 I R u0 x1 x2 x3 x4 x5 x6 = some out → ax_W X 8 6 [some (.ref u0), some (.int (x1)), some (.int (x2)), some (.int (x3)), some (.int (x4)), some (.int (x5)), some (.int (x6)), none] [] S I R L 0 0) : ∀ (I : ax_I) (R : ax_R) (u0 : Nat) (x1 : Int32) (x2 : Int32) (x3 : Int32) (x4 : Int32) (x5 : Int32) (x6 : Int32), ax_typ S R → (S u0 = some (.inl 1)) → d_P_keepTilesWithin_63 S rec6 I R u0 x1 x2 x3 x4 x5 x6 = some out → ax_W X 8 63 [some (.ref u0), some (.int (x1)), some (.int (x2)), some (.int (x3)), some (.int (x4)), some (.int (x5)), some (.int (x6)), none] [] S I R L 0 0 := by
  rintro I R u0 x1 x2 x3 x4 x5 x6 hty hs0_ h
  unfold d_P_keepTilesWithin_63 at h
  refine ax_iinc (v := x6 + 1) (ls' := [some (.ref u0), some (.int (x1)), some (.int (x2)), some (.int (x3)), some (.int (x4)), some (.int (x5)), some (.int (x6 + 1)), none]) (q := 66) hX dc_P_keepTilesWithin_63 rfl rfl rfl (by decide) rfl ?_
  refine ax_goto (tgt := 6) hX dc_P_keepTilesWithin_66 (by decide) ?_
  exact (hrec6 I R u0 (x1) (x2) (x3) (x4) (x5) (x6 + 1) hty hs0_ h)
def d_P_keepTilesWithin_6 (S : ax_S) : Nat → ax_I → ax_R → Nat → Int32 → Int32 → Int32 → Int32 → Int32 → Int32 → Option (ax_I × ax_R)
  | 0, _, _, _, _, _, _, _, _, _ => none
  | n + 1, I, R, u0, x1, x2, x3, x4, x5, x6 =>
    if (I u0 2) ≤ x6 then
      (some (ax_up I u0 2 (x5))).bind fun I2 =>
      some (I2, R)
    else
      (R u0 0).bind fun u4 =>
      (ax_ix S u4 (x6)).bind fun j8 =>
      (R u4 j8).bind fun u10 =>
      (d_T_isWithin S I R u10 (x1) (x2) (x3) (x4)).bind fun r15 =>
      if (ax_b r15) = 0 then
        d_P_keepTilesWithin_63 S (d_P_keepTilesWithin_6 S  n) I R u0 (x1) (x2) (x3) (x4) (x5) (x6)
      else
        (R u0 0).bind fun u17 =>
        (R u0 0).bind fun u21 =>
        (ax_ix S u21 (x5)).bind fun j25 =>
        (R u21 j25).bind fun u27 =>
        (ax_ix S u17 (x6)).bind fun j30 =>
        (some (ax_up R u17 j30 (some u27))).bind fun R32 =>
        (R32 u0 0).bind fun u34 =>
        (ax_ix S u34 (x5)).bind fun j38 =>
        (some (ax_up R32 u34 j38 (some u10))).bind fun R40 =>
        d_P_keepTilesWithin_63 S (d_P_keepTilesWithin_6 S  n) I R40 u0 (x1) (x2) (x3) (x4) (x5 + 1) (x6)
set_option maxHeartbeats 1000000 in
theorem e_P_keepTilesWithin_6 {l : Launch} {X : ax_X} {S : ax_S} {L : ax_L} {out : ax_I × ax_R} (hX : ax_ok X l "LossFreeTools$Picture" b_P_keepTilesWithin 8 (ax_rm 2 0 0)) (hF : ax_fin X none 0 0 (ax_of (ax_eq none S out.1 out.2 L))) (hS0 : ax_S0 X = S) : ∀ (n : Nat), ∀ (I : ax_I) (R : ax_R) (u0 : Nat) (x1 : Int32) (x2 : Int32) (x3 : Int32) (x4 : Int32) (x5 : Int32) (x6 : Int32), ax_typ S R → (S u0 = some (.inl 1)) → d_P_keepTilesWithin_6 S  n I R u0 x1 x2 x3 x4 x5 x6 = some out → ax_W X 8 6 [some (.ref u0), some (.int (x1)), some (.int (x2)), some (.int (x3)), some (.int (x4)), some (.int (x5)), some (.int (x6)), none] [] S I R L 0 0 := by
  intro n
  induction n with
  | zero =>
    rintro I R u0 x1 x2 x3 x4 x5 x6 hty hs0_ h
    cases h
  | succ n ih =>
    rintro I R u0 x1 x2 x3 x4 x5 x6 hty hs0_ h
    unfold d_P_keepTilesWithin_6 at h
    refine ax_iload (q := 8) hX dc_P_keepTilesWithin_6 rfl rfl ?_
    refine ax_aload_n (q := 9) hX dc_P_keepTilesWithin_8 rfl rfl rfl ?_
    refine ax_getI (q := 12) hX dc_P_keepTilesWithin_9 rfl fl_P_32 rfl hs0_ ?_
    refine ax_icmp_ge (tgt := 69) (q := 15) hX dc_P_keepTilesWithin_12 rfl (by decide) (fun z1 => ?_) (fun z1 => ?_)
    · rw [if_pos z1] at h
      refine ax_aload_n (q := 70) hX dc_P_keepTilesWithin_69 rfl rfl rfl ?_
      refine ax_iload (q := 72) hX dc_P_keepTilesWithin_70 rfl rfl ?_
      obtain ⟨I2, e3, h⟩ := ax_bs h
      refine ax_putI (q := 75) hX dc_P_keepTilesWithin_72 rfl fl_P_32 rfl hs0_ (fun z => by cases z) rfl rfl e3 ?_
      cases h
      exact ax_vret hX hF dc_P_keepTilesWithin_75 (by decide) (by decide) ax_eq.mk (by rw [hS0]; exact fun _ _ z => z)
    · rw [if_neg z1] at h
      refine ax_aload_n (q := 16) hX dc_P_keepTilesWithin_15 rfl rfl rfl ?_
      obtain ⟨u4, hu5, h⟩ := ax_bd h
      obtain ⟨n7, hs6⟩ : ∃ n, S u4 = some (.inr (2, n)) := hty.1 _ _ _ _ hs0_ hu5
      refine ax_getR (q := 19) hX dc_P_keepTilesWithin_16 rfl fl_P_11 rfl hs0_ hu5 ?_
      refine ax_iload (q := 21) hX dc_P_keepTilesWithin_19 rfl rfl ?_
      obtain ⟨j8, hj9, h⟩ := ax_bd h
      have hj9 := ax_ix_s hty hs6 hj9
      obtain ⟨u10, hu11, h⟩ := ax_bd h
      have hs12 : S u10 = some (.inl 3) := hty.2.1 _ _ _ _ hs6 hu11
      refine ax_aald (q := 22) hX j8 dc_P_keepTilesWithin_21 rfl hs6 rfl rfl hj9.1 hj9.2.1 hj9.2.2 hu11 ?_
      refine ax_astore (ls' := [some (.ref u0), some (.int (x1)), some (.int (x2)), some (.int (x3)), some (.int (x4)), some (.int (x5)), some (.int (x6)), some (.ref u10)]) (q := 24) hX dc_P_keepTilesWithin_22 rfl (by decide) rfl ?_
      refine ax_aload (q := 26) hX dc_P_keepTilesWithin_24 rfl rfl ?_
      refine ax_iload_n (q := 27) hX dc_P_keepTilesWithin_26 rfl rfl rfl ?_
      refine ax_iload_n (q := 28) hX dc_P_keepTilesWithin_27 rfl rfl rfl ?_
      refine ax_iload_n (q := 29) hX dc_P_keepTilesWithin_28 rfl rfl rfl ?_
      refine ax_iload (q := 31) hX dc_P_keepTilesWithin_29 rfl rfl ?_
      obtain ⟨r15, hr13, h⟩ := ax_bd h
      refine ax_kV (vs := [.int (x1), .int (x2), .int (x3), .int (x4)]) (rest := []) (q := 34) hX dc_P_keepTilesWithin_31 rfl mt_T_isWithin wl_P_70 wi_T_isWithin ws_T_isWithin hs12 rfl (c_T_isWithin l hty hs12 hr13) rfl (by decide) rfl (Nat.le_of_ble_eq_true rfl) rfl rfl (by decide) (by decide) rfl ?_
      refine ax_if_eq (tgt := 63) (q := 37) hX dc_P_keepTilesWithin_34 rfl (by decide) (fun z16 => ?_) (fun z16 => ?_)
      · rw [if_pos z16] at h
        exact ax_weak (ls' := [some (.ref u0), some (.int (x1)), some (.int (x2)), some (.int (x3)), some (.int (x4)), some (.int (x5)), some (.int (x6)), none]) (ax_fewP_s _ _ (by repeat (first | exact trivial | (refine And.intro rfl ?_)))) (e_P_keepTilesWithin_63 hX hF hS0 (d_P_keepTilesWithin_6 S  n) (ih) I R u0 (x1) (x2) (x3) (x4) (x5) (x6) hty hs0_ h)
      · rw [if_neg z16] at h
        refine ax_aload_n (q := 38) hX dc_P_keepTilesWithin_37 rfl rfl rfl ?_
        obtain ⟨u17, hu18, h⟩ := ax_bd h
        obtain ⟨n20, hs19⟩ : ∃ n, S u17 = some (.inr (2, n)) := hty.1 _ _ _ _ hs0_ hu18
        refine ax_getR (q := 41) hX dc_P_keepTilesWithin_38 rfl fl_P_11 rfl hs0_ hu18 ?_
        refine ax_iload (q := 43) hX dc_P_keepTilesWithin_41 rfl rfl ?_
        refine ax_aload_n (q := 44) hX dc_P_keepTilesWithin_43 rfl rfl rfl ?_
        obtain ⟨u21, hu22, h⟩ := ax_bd h
        obtain ⟨n24, hs23⟩ : ∃ n, S u21 = some (.inr (2, n)) := hty.1 _ _ _ _ hs0_ hu22
        refine ax_getR (q := 47) hX dc_P_keepTilesWithin_44 rfl fl_P_11 rfl hs0_ hu22 ?_
        refine ax_iload (q := 49) hX dc_P_keepTilesWithin_47 rfl rfl ?_
        obtain ⟨j25, hj26, h⟩ := ax_bd h
        have hj26 := ax_ix_s hty hs23 hj26
        obtain ⟨u27, hu28, h⟩ := ax_bd h
        have hs29 : S u27 = some (.inl 3) := hty.2.1 _ _ _ _ hs23 hu28
        refine ax_aald (q := 50) hX j25 dc_P_keepTilesWithin_49 rfl hs23 rfl rfl hj26.1 hj26.2.1 hj26.2.2 hu28 ?_
        obtain ⟨j30, hj31, h⟩ := ax_bd h
        have hj31 := ax_ix_s hty hs19 hj31
        obtain ⟨R32, e33, h⟩ := ax_bs h
        have hty : ax_typ S R32 := e33 ▸ ax_typ_a2 hty hs19 hs29
        refine ax_aast (q := 51) hX j30 dc_P_keepTilesWithin_50 rfl hs19 rfl hs29 rfl rfl hj31.1 hj31.2.1 hj31.2.2 e33 ?_
        refine ax_aload_n (q := 52) hX dc_P_keepTilesWithin_51 rfl rfl rfl ?_
        obtain ⟨u34, hu35, h⟩ := ax_bd h
        obtain ⟨n37, hs36⟩ : ∃ n, S u34 = some (.inr (2, n)) := hty.1 _ _ _ _ hs0_ hu35
        refine ax_getR (q := 55) hX dc_P_keepTilesWithin_52 rfl fl_P_11 rfl hs0_ hu35 ?_
        refine ax_iload (q := 57) hX dc_P_keepTilesWithin_55 rfl rfl ?_
        refine ax_aload (q := 59) hX dc_P_keepTilesWithin_57 rfl rfl ?_
        obtain ⟨j38, hj39, h⟩ := ax_bd h
        have hj39 := ax_ix_s hty hs36 hj39
        obtain ⟨R40, e41, h⟩ := ax_bs h
        have hty : ax_typ S R40 := e41 ▸ ax_typ_a2 hty hs36 hs12
        refine ax_aast (q := 60) hX j38 dc_P_keepTilesWithin_59 rfl hs36 rfl hs12 rfl rfl hj39.1 hj39.2.1 hj39.2.2 e41 ?_
        refine ax_iinc (v := x5 + 1) (ls' := [some (.ref u0), some (.int (x1)), some (.int (x2)), some (.int (x3)), some (.int (x4)), some (.int (x5 + 1)), some (.int (x6)), some (.ref u10)]) (q := 63) hX dc_P_keepTilesWithin_60 rfl rfl rfl (by decide) rfl ?_
        exact ax_weak (ls' := [some (.ref u0), some (.int (x1)), some (.int (x2)), some (.int (x3)), some (.int (x4)), some (.int (x5 + 1)), some (.int (x6)), none]) (ax_fewP_s _ _ (by repeat (first | exact trivial | (refine And.intro rfl ?_)))) (e_P_keepTilesWithin_63 hX hF hS0 (d_P_keepTilesWithin_6 S  n) (ih) I R40 u0 (x1) (x2) (x3) (x4) (x5 + 1) (x6) hty hs0_ h)
def d_P_keepTilesWithin (S : ax_S) (I : ax_I) (R : ax_R) (u0 : Nat) (x1 : Int32) (x2 : Int32) (x3 : Int32) (x4 : Int32) : Option (ax_I × ax_R) :=
  d_P_keepTilesWithin_6 S  5000 I R u0 (x1) (x2) (x3) (x4) (0) (0)
set_option maxHeartbeats 1000000 in
theorem c_P_keepTilesWithin (l : Launch) {S : ax_S} {I : ax_I} {R : ax_R} {L : ax_L} {u0 : Nat} {x1 : Int32} {x2 : Int32} {x3 : Int32} {x4 : Int32} {out : ax_I × ax_R} (hty : ax_typ S R) (hs0 : S u0 = some (.inl 1)) (h : d_P_keepTilesWithin S I R u0 x1 x2 x3 x4 = some out) : ax_Met l y_P_keepTilesWithin b_P_keepTilesWithin 8 none (ax_rm 2 0 0) [.ref u0, .int x1, .int x2, .int x3, .int x4] S I R L (ax_eq none S out.1 out.2 L) := by
  refine ax_enter (own := "LossFreeTools$Picture") (by decide +kernel) rfl (ax_cats rfl) (Nat.le_of_ble_eq_true rfl) (fun X hX hF _ hS0 => ?_)
  show ax_W X 8 0 [some (.ref u0), some (.int (x1)), some (.int (x2)), some (.int (x3)), some (.int (x4)), none, none, none] [] S I R L 0 0
  unfold d_P_keepTilesWithin at h
  refine ax_iconst (v := 0) (q := 1) hX dc_P_keepTilesWithin_0 rfl (by decide) ?_
  refine ax_istore (ls' := [some (.ref u0), some (.int (x1)), some (.int (x2)), some (.int (x3)), some (.int (x4)), some (.int (0)), none, none]) (q := 3) hX dc_P_keepTilesWithin_1 rfl (by decide) rfl ?_
  refine ax_iconst (v := 0) (q := 4) hX dc_P_keepTilesWithin_3 rfl (by decide) ?_
  refine ax_istore (ls' := [some (.ref u0), some (.int (x1)), some (.int (x2)), some (.int (x3)), some (.int (x4)), some (.int (0)), some (.int (0)), none]) (q := 6) hX dc_P_keepTilesWithin_4 rfl (by decide) rfl ?_
  exact (e_P_keepTilesWithin_6 hX hF hS0  5000 I R u0 (x1) (x2) (x3) (x4) (0) (0) hty hs0 h)
theorem te_P_keepTilesWithin_63 {S : ax_S} {out : ax_I × ax_R} (rec6 : ax_I → ax_R → Nat → Int32 → Int32 → Int32 → Int32 → Int32 → Int32 → Option (ax_I × ax_R)) (hrec6 : ∀ (I : ax_I) (R : ax_R) (u0 : Nat) (x1 : Int32) (x2 : Int32) (x3 : Int32) (x4 : Int32) (x5 : Int32) (x6 : Int32), ax_typ S R → (S u0 = some (.inl 1)) → rec6 I R u0 x1 x2 x3 x4 x5 x6 = some out → ax_typ S out.2) : ∀ (I : ax_I) (R : ax_R) (u0 : Nat) (x1 : Int32) (x2 : Int32) (x3 : Int32) (x4 : Int32) (x5 : Int32) (x6 : Int32), ax_typ S R → (S u0 = some (.inl 1)) → d_P_keepTilesWithin_63 S rec6 I R u0 x1 x2 x3 x4 x5 x6 = some out → ax_typ S out.2 := by
  rintro I R u0 x1 x2 x3 x4 x5 x6 hty hs0_ h
  unfold d_P_keepTilesWithin_63 at h
  exact hrec6 I R u0 (x1) (x2) (x3) (x4) (x5) (x6 + 1) hty hs0_ h
theorem te_P_keepTilesWithin_6 {S : ax_S} {out : ax_I × ax_R} : ∀ (n : Nat), ∀ (I : ax_I) (R : ax_R) (u0 : Nat) (x1 : Int32) (x2 : Int32) (x3 : Int32) (x4 : Int32) (x5 : Int32) (x6 : Int32), ax_typ S R → (S u0 = some (.inl 1)) → d_P_keepTilesWithin_6 S  n I R u0 x1 x2 x3 x4 x5 x6 = some out → ax_typ S out.2 := by
  intro n
  induction n with
  | zero =>
    rintro I R u0 x1 x2 x3 x4 x5 x6 hty hs0_ h
    cases h
  | succ n ih =>
    rintro I R u0 x1 x2 x3 x4 x5 x6 hty hs0_ h
    unfold d_P_keepTilesWithin_6 at h
    by_cases z1 : (I u0 2) ≤ x6
    · rw [if_pos z1] at h
      obtain ⟨I2, e3, h⟩ := ax_bs h
      cases h
      exact hty
    · rw [if_neg z1] at h
      obtain ⟨u4, hu5, h⟩ := ax_bd h
      obtain ⟨n7, hs6⟩ : ∃ n, S u4 = some (.inr (2, n)) := hty.1 _ _ _ _ hs0_ hu5
      obtain ⟨j8, hj9, h⟩ := ax_bd h
      have hj9 := ax_ix_s hty hs6 hj9
      obtain ⟨u10, hu11, h⟩ := ax_bd h
      have hs12 : S u10 = some (.inl 3) := hty.2.1 _ _ _ _ hs6 hu11
      obtain ⟨r15, hr13, h⟩ := ax_bd h
      by_cases z16 : (ax_b r15) = 0
      · rw [if_pos z16] at h
        exact te_P_keepTilesWithin_63  (d_P_keepTilesWithin_6 S  n) (ih) I R u0 (x1) (x2) (x3) (x4) (x5) (x6) hty hs0_ h
      · rw [if_neg z16] at h
        obtain ⟨u17, hu18, h⟩ := ax_bd h
        obtain ⟨n20, hs19⟩ : ∃ n, S u17 = some (.inr (2, n)) := hty.1 _ _ _ _ hs0_ hu18
        obtain ⟨u21, hu22, h⟩ := ax_bd h
        obtain ⟨n24, hs23⟩ : ∃ n, S u21 = some (.inr (2, n)) := hty.1 _ _ _ _ hs0_ hu22
        obtain ⟨j25, hj26, h⟩ := ax_bd h
        have hj26 := ax_ix_s hty hs23 hj26
        obtain ⟨u27, hu28, h⟩ := ax_bd h
        have hs29 : S u27 = some (.inl 3) := hty.2.1 _ _ _ _ hs23 hu28
        obtain ⟨j30, hj31, h⟩ := ax_bd h
        have hj31 := ax_ix_s hty hs19 hj31
        obtain ⟨R32, e33, h⟩ := ax_bs h
        have hty : ax_typ S R32 := e33 ▸ ax_typ_a2 hty hs19 hs29
        obtain ⟨u34, hu35, h⟩ := ax_bd h
        obtain ⟨n37, hs36⟩ : ∃ n, S u34 = some (.inr (2, n)) := hty.1 _ _ _ _ hs0_ hu35
        obtain ⟨j38, hj39, h⟩ := ax_bd h
        have hj39 := ax_ix_s hty hs36 hj39
        obtain ⟨R40, e41, h⟩ := ax_bs h
        have hty : ax_typ S R40 := e41 ▸ ax_typ_a2 hty hs36 hs12
        exact te_P_keepTilesWithin_63  (d_P_keepTilesWithin_6 S  n) (ih) I R40 u0 (x1) (x2) (x3) (x4) (x5 + 1) (x6) hty hs0_ h
theorem t_P_keepTilesWithin {S : ax_S} {I : ax_I} {R : ax_R} {u0 : Nat} {x1 : Int32} {x2 : Int32} {x3 : Int32} {x4 : Int32} {out : ax_I × ax_R} (hty : ax_typ S R) (hs0 : S u0 = some (.inl 1)) (h : d_P_keepTilesWithin S I R u0 x1 x2 x3 x4 = some out) : ax_typ S out.2 := by
  unfold d_P_keepTilesWithin at h
  exact te_P_keepTilesWithin_6   5000 I R u0 (x1) (x2) (x3) (x4) (0) (0) hty hs0 h
def d_P_keepNotesWithin_63 (S : ax_S) (rec6 : ax_I → ax_R → Nat → Int32 → Int32 → Int32 → Int32 → Int32 → Int32 → Option (ax_I × ax_R)) (I : ax_I) (R : ax_R) (u0 : Nat) (x1 : Int32) (x2 : Int32) (x3 : Int32) (x4 : Int32) (x5 : Int32) (x6 : Int32) : Option (ax_I × ax_R) :=
  rec6 I R u0 (x1) (x2) (x3) (x4) (x5) (x6 + 1)
set_option maxHeartbeats 1000000 in
theorem e_P_keepNotesWithin_63 {l : Launch} {X : ax_X} {S : ax_S} {L : ax_L} {out : ax_I × ax_R} (hX : ax_ok X l "LossFreeTools$Picture" b_P_keepNotesWithin 8 (ax_rm 2 0 0)) (hF : ax_fin X none 0 0 (ax_of (ax_eq none S out.1 out.2 L))) (hS0 : ax_S0 X = S) (rec6 : ax_I → ax_R → Nat → Int32 → Int32 → Int32 → Int32 → Int32 → Int32 → Option (ax_I × ax_R)) (hrec6 : ∀ (I : ax_I) (R : ax_R) (u0 : Nat) (x1 : Int32) (x2 : Int32) (x3 : Int32) (x4 : Int32) (x5 : Int32) (x6 : Int32), ax_typ S R → (S u0 = some (.inl 1)) → rec6 I R u0 x1 x2 x3 x4 x5 x6 = some out → ax_W X 8 6 [some (.ref u0), some (.int (x1)), some (.int (x2)), some (.int (x3)), some (.int (x4)), some (.int (x5)), some (.int (x6)), none] [] S I R L 0 0) : ∀ (I : ax_I) (R : ax_R) (u0 : Nat) (x1 : Int32) (x2 : Int32) (x3 : Int32) (x4 : Int32) (x5 : Int32) (x6 : Int32), ax_typ S R → (S u0 = some (.inl 1)) → d_P_keepNotesWithin_63 S rec6 I R u0 x1 x2 x3 x4 x5 x6 = some out → ax_W X 8 63 [some (.ref u0), some (.int (x1)), some (.int (x2)), some (.int (x3)), some (.int (x4)), some (.int (x5)), some (.int (x6)), none] [] S I R L 0 0 := by
  rintro I R u0 x1 x2 x3 x4 x5 x6 hty hs0_ h
  unfold d_P_keepNotesWithin_63 at h
  refine ax_iinc (v := x6 + 1) (ls' := [some (.ref u0), some (.int (x1)), some (.int (x2)), some (.int (x3)), some (.int (x4)), some (.int (x5)), some (.int (x6 + 1)), none]) (q := 66) hX dc_P_keepNotesWithin_63 rfl rfl rfl (by decide) rfl ?_
  refine ax_goto (tgt := 6) hX dc_P_keepNotesWithin_66 (by decide) ?_
  exact (hrec6 I R u0 (x1) (x2) (x3) (x4) (x5) (x6 + 1) hty hs0_ h)
def d_P_keepNotesWithin_6 (S : ax_S) : Nat → ax_I → ax_R → Nat → Int32 → Int32 → Int32 → Int32 → Int32 → Int32 → Option (ax_I × ax_R)
  | 0, _, _, _, _, _, _, _, _, _ => none
  | n + 1, I, R, u0, x1, x2, x3, x4, x5, x6 =>
    if (I u0 3) ≤ x6 then
      (some (ax_up I u0 3 (x5))).bind fun I2 =>
      some (I2, R)
    else
      (R u0 1).bind fun u4 =>
      (ax_ix S u4 (x6)).bind fun j8 =>
      (R u4 j8).bind fun u10 =>
      (d_N_isWithin S I R u10 (x1) (x2) (x3) (x4)).bind fun r15 =>
      if (ax_b r15) = 0 then
        d_P_keepNotesWithin_63 S (d_P_keepNotesWithin_6 S  n) I R u0 (x1) (x2) (x3) (x4) (x5) (x6)
      else
        (R u0 1).bind fun u17 =>
        (R u0 1).bind fun u21 =>
        (ax_ix S u21 (x5)).bind fun j25 =>
        (R u21 j25).bind fun u27 =>
        (ax_ix S u17 (x6)).bind fun j30 =>
        (some (ax_up R u17 j30 (some u27))).bind fun R32 =>
        (R32 u0 1).bind fun u34 =>
        (ax_ix S u34 (x5)).bind fun j38 =>
        (some (ax_up R32 u34 j38 (some u10))).bind fun R40 =>
        d_P_keepNotesWithin_63 S (d_P_keepNotesWithin_6 S  n) I R40 u0 (x1) (x2) (x3) (x4) (x5 + 1) (x6)
set_option maxHeartbeats 1000000 in
theorem e_P_keepNotesWithin_6 {l : Launch} {X : ax_X} {S : ax_S} {L : ax_L} {out : ax_I × ax_R} (hX : ax_ok X l "LossFreeTools$Picture" b_P_keepNotesWithin 8 (ax_rm 2 0 0)) (hF : ax_fin X none 0 0 (ax_of (ax_eq none S out.1 out.2 L))) (hS0 : ax_S0 X = S) : ∀ (n : Nat), ∀ (I : ax_I) (R : ax_R) (u0 : Nat) (x1 : Int32) (x2 : Int32) (x3 : Int32) (x4 : Int32) (x5 : Int32) (x6 : Int32), ax_typ S R → (S u0 = some (.inl 1)) → d_P_keepNotesWithin_6 S  n I R u0 x1 x2 x3 x4 x5 x6 = some out → ax_W X 8 6 [some (.ref u0), some (.int (x1)), some (.int (x2)), some (.int (x3)), some (.int (x4)), some (.int (x5)), some (.int (x6)), none] [] S I R L 0 0 := by
  intro n
  induction n with
  | zero =>
    rintro I R u0 x1 x2 x3 x4 x5 x6 hty hs0_ h
    cases h
  | succ n ih =>
    rintro I R u0 x1 x2 x3 x4 x5 x6 hty hs0_ h
    unfold d_P_keepNotesWithin_6 at h
    refine ax_iload (q := 8) hX dc_P_keepNotesWithin_6 rfl rfl ?_
    refine ax_aload_n (q := 9) hX dc_P_keepNotesWithin_8 rfl rfl rfl ?_
    refine ax_getI (q := 12) hX dc_P_keepNotesWithin_9 rfl fl_P_35 rfl hs0_ ?_
    refine ax_icmp_ge (tgt := 69) (q := 15) hX dc_P_keepNotesWithin_12 rfl (by decide) (fun z1 => ?_) (fun z1 => ?_)
    · rw [if_pos z1] at h
      refine ax_aload_n (q := 70) hX dc_P_keepNotesWithin_69 rfl rfl rfl ?_
      refine ax_iload (q := 72) hX dc_P_keepNotesWithin_70 rfl rfl ?_
      obtain ⟨I2, e3, h⟩ := ax_bs h
      refine ax_putI (q := 75) hX dc_P_keepNotesWithin_72 rfl fl_P_35 rfl hs0_ (fun z => by cases z) rfl rfl e3 ?_
      cases h
      exact ax_vret hX hF dc_P_keepNotesWithin_75 (by decide) (by decide) ax_eq.mk (by rw [hS0]; exact fun _ _ z => z)
    · rw [if_neg z1] at h
      refine ax_aload_n (q := 16) hX dc_P_keepNotesWithin_15 rfl rfl rfl ?_
      obtain ⟨u4, hu5, h⟩ := ax_bd h
      obtain ⟨n7, hs6⟩ : ∃ n, S u4 = some (.inr (3, n)) := hty.1 _ _ _ _ hs0_ hu5
      refine ax_getR (q := 19) hX dc_P_keepNotesWithin_16 rfl fl_P_20 rfl hs0_ hu5 ?_
      refine ax_iload (q := 21) hX dc_P_keepNotesWithin_19 rfl rfl ?_
      obtain ⟨j8, hj9, h⟩ := ax_bd h
      have hj9 := ax_ix_s hty hs6 hj9
      obtain ⟨u10, hu11, h⟩ := ax_bd h
      have hs12 : S u10 = some (.inl 0) := hty.2.2.1 _ _ _ _ hs6 hu11
      refine ax_aald (q := 22) hX j8 dc_P_keepNotesWithin_21 rfl hs6 rfl rfl hj9.1 hj9.2.1 hj9.2.2 hu11 ?_
      refine ax_astore (ls' := [some (.ref u0), some (.int (x1)), some (.int (x2)), some (.int (x3)), some (.int (x4)), some (.int (x5)), some (.int (x6)), some (.ref u10)]) (q := 24) hX dc_P_keepNotesWithin_22 rfl (by decide) rfl ?_
      refine ax_aload (q := 26) hX dc_P_keepNotesWithin_24 rfl rfl ?_
      refine ax_iload_n (q := 27) hX dc_P_keepNotesWithin_26 rfl rfl rfl ?_
      refine ax_iload_n (q := 28) hX dc_P_keepNotesWithin_27 rfl rfl rfl ?_
      refine ax_iload_n (q := 29) hX dc_P_keepNotesWithin_28 rfl rfl rfl ?_
      refine ax_iload (q := 31) hX dc_P_keepNotesWithin_29 rfl rfl ?_
      obtain ⟨r15, hr13, h⟩ := ax_bd h
      refine ax_kV (vs := [.int (x1), .int (x2), .int (x3), .int (x4)]) (rest := []) (q := 34) hX dc_P_keepNotesWithin_31 rfl mt_N_isWithin wl_P_73 wi_N_isWithin ws_N_isWithin hs12 rfl (c_N_isWithin l hty hs12 hr13) rfl (by decide) rfl (Nat.le_of_ble_eq_true rfl) rfl rfl (by decide) (by decide) rfl ?_
      refine ax_if_eq (tgt := 63) (q := 37) hX dc_P_keepNotesWithin_34 rfl (by decide) (fun z16 => ?_) (fun z16 => ?_)
      · rw [if_pos z16] at h
        exact ax_weak (ls' := [some (.ref u0), some (.int (x1)), some (.int (x2)), some (.int (x3)), some (.int (x4)), some (.int (x5)), some (.int (x6)), none]) (ax_fewP_s _ _ (by repeat (first | exact trivial | (refine And.intro rfl ?_)))) (e_P_keepNotesWithin_63 hX hF hS0 (d_P_keepNotesWithin_6 S  n) (ih) I R u0 (x1) (x2) (x3) (x4) (x5) (x6) hty hs0_ h)
      · rw [if_neg z16] at h
        refine ax_aload_n (q := 38) hX dc_P_keepNotesWithin_37 rfl rfl rfl ?_
        obtain ⟨u17, hu18, h⟩ := ax_bd h
        obtain ⟨n20, hs19⟩ : ∃ n, S u17 = some (.inr (3, n)) := hty.1 _ _ _ _ hs0_ hu18
        refine ax_getR (q := 41) hX dc_P_keepNotesWithin_38 rfl fl_P_20 rfl hs0_ hu18 ?_
        refine ax_iload (q := 43) hX dc_P_keepNotesWithin_41 rfl rfl ?_
        refine ax_aload_n (q := 44) hX dc_P_keepNotesWithin_43 rfl rfl rfl ?_
        obtain ⟨u21, hu22, h⟩ := ax_bd h
        obtain ⟨n24, hs23⟩ : ∃ n, S u21 = some (.inr (3, n)) := hty.1 _ _ _ _ hs0_ hu22
        refine ax_getR (q := 47) hX dc_P_keepNotesWithin_44 rfl fl_P_20 rfl hs0_ hu22 ?_
        refine ax_iload (q := 49) hX dc_P_keepNotesWithin_47 rfl rfl ?_
        obtain ⟨j25, hj26, h⟩ := ax_bd h
        have hj26 := ax_ix_s hty hs23 hj26
        obtain ⟨u27, hu28, h⟩ := ax_bd h
        have hs29 : S u27 = some (.inl 0) := hty.2.2.1 _ _ _ _ hs23 hu28
        refine ax_aald (q := 50) hX j25 dc_P_keepNotesWithin_49 rfl hs23 rfl rfl hj26.1 hj26.2.1 hj26.2.2 hu28 ?_
        obtain ⟨j30, hj31, h⟩ := ax_bd h
        have hj31 := ax_ix_s hty hs19 hj31
        obtain ⟨R32, e33, h⟩ := ax_bs h
        have hty : ax_typ S R32 := e33 ▸ ax_typ_a3 hty hs19 hs29
        refine ax_aast (q := 51) hX j30 dc_P_keepNotesWithin_50 rfl hs19 rfl hs29 rfl rfl hj31.1 hj31.2.1 hj31.2.2 e33 ?_
        refine ax_aload_n (q := 52) hX dc_P_keepNotesWithin_51 rfl rfl rfl ?_
        obtain ⟨u34, hu35, h⟩ := ax_bd h
        obtain ⟨n37, hs36⟩ : ∃ n, S u34 = some (.inr (3, n)) := hty.1 _ _ _ _ hs0_ hu35
        refine ax_getR (q := 55) hX dc_P_keepNotesWithin_52 rfl fl_P_20 rfl hs0_ hu35 ?_
        refine ax_iload (q := 57) hX dc_P_keepNotesWithin_55 rfl rfl ?_
        refine ax_aload (q := 59) hX dc_P_keepNotesWithin_57 rfl rfl ?_
        obtain ⟨j38, hj39, h⟩ := ax_bd h
        have hj39 := ax_ix_s hty hs36 hj39
        obtain ⟨R40, e41, h⟩ := ax_bs h
        have hty : ax_typ S R40 := e41 ▸ ax_typ_a3 hty hs36 hs12
        refine ax_aast (q := 60) hX j38 dc_P_keepNotesWithin_59 rfl hs36 rfl hs12 rfl rfl hj39.1 hj39.2.1 hj39.2.2 e41 ?_
        refine ax_iinc (v := x5 + 1) (ls' := [some (.ref u0), some (.int (x1)), some (.int (x2)), some (.int (x3)), some (.int (x4)), some (.int (x5 + 1)), some (.int (x6)), some (.ref u10)]) (q := 63) hX dc_P_keepNotesWithin_60 rfl rfl rfl (by decide) rfl ?_
        exact ax_weak (ls' := [some (.ref u0), some (.int (x1)), some (.int (x2)), some (.int (x3)), some (.int (x4)), some (.int (x5 + 1)), some (.int (x6)), none]) (ax_fewP_s _ _ (by repeat (first | exact trivial | (refine And.intro rfl ?_)))) (e_P_keepNotesWithin_63 hX hF hS0 (d_P_keepNotesWithin_6 S  n) (ih) I R40 u0 (x1) (x2) (x3) (x4) (x5 + 1) (x6) hty hs0_ h)
def d_P_keepNotesWithin (S : ax_S) (I : ax_I) (R : ax_R) (u0 : Nat) (x1 : Int32) (x2 : Int32) (x3 : Int32) (x4 : Int32) : Option (ax_I × ax_R) :=
  d_P_keepNotesWithin_6 S  5000 I R u0 (x1) (x2) (x3) (x4) (0) (0)
set_option maxHeartbeats 1000000 in
theorem c_P_keepNotesWithin (l : Launch) {S : ax_S} {I : ax_I} {R : ax_R} {L : ax_L} {u0 : Nat} {x1 : Int32} {x2 : Int32} {x3 : Int32} {x4 : Int32} {out : ax_I × ax_R} (hty : ax_typ S R) (hs0 : S u0 = some (.inl 1)) (h : d_P_keepNotesWithin S I R u0 x1 x2 x3 x4 = some out) : ax_Met l y_P_keepNotesWithin b_P_keepNotesWithin 8 none (ax_rm 2 0 0) [.ref u0, .int x1, .int x2, .int x3, .int x4] S I R L (ax_eq none S out.1 out.2 L) := by
  refine ax_enter (own := "LossFreeTools$Picture") (by decide +kernel) rfl (ax_cats rfl) (Nat.le_of_ble_eq_true rfl) (fun X hX hF _ hS0 => ?_)
  show ax_W X 8 0 [some (.ref u0), some (.int (x1)), some (.int (x2)), some (.int (x3)), some (.int (x4)), none, none, none] [] S I R L 0 0
  unfold d_P_keepNotesWithin at h
  refine ax_iconst (v := 0) (q := 1) hX dc_P_keepNotesWithin_0 rfl (by decide) ?_
  refine ax_istore (ls' := [some (.ref u0), some (.int (x1)), some (.int (x2)), some (.int (x3)), some (.int (x4)), some (.int (0)), none, none]) (q := 3) hX dc_P_keepNotesWithin_1 rfl (by decide) rfl ?_
  refine ax_iconst (v := 0) (q := 4) hX dc_P_keepNotesWithin_3 rfl (by decide) ?_
  refine ax_istore (ls' := [some (.ref u0), some (.int (x1)), some (.int (x2)), some (.int (x3)), some (.int (x4)), some (.int (0)), some (.int (0)), none]) (q := 6) hX dc_P_keepNotesWithin_4 rfl (by decide) rfl ?_
  exact (e_P_keepNotesWithin_6 hX hF hS0  5000 I R u0 (x1) (x2) (x3) (x4) (0) (0) hty hs0 h)
theorem te_P_keepNotesWithin_63 {S : ax_S} {out : ax_I × ax_R} (rec6 : ax_I → ax_R → Nat → Int32 → Int32 → Int32 → Int32 → Int32 → Int32 → Option (ax_I × ax_R)) (hrec6 : ∀ (I : ax_I) (R : ax_R) (u0 : Nat) (x1 : Int32) (x2 : Int32) (x3 : Int32) (x4 : Int32) (x5 : Int32) (x6 : Int32), ax_typ S R → (S u0 = some (.inl 1)) → rec6 I R u0 x1 x2 x3 x4 x5 x6 = some out → ax_typ S out.2) : ∀ (I : ax_I) (R : ax_R) (u0 : Nat) (x1 : Int32) (x2 : Int32) (x3 : Int32) (x4 : Int32) (x5 : Int32) (x6 : Int32), ax_typ S R → (S u0 = some (.inl 1)) → d_P_keepNotesWithin_63 S rec6 I R u0 x1 x2 x3 x4 x5 x6 = some out → ax_typ S out.2 := by
  rintro I R u0 x1 x2 x3 x4 x5 x6 hty hs0_ h
  unfold d_P_keepNotesWithin_63 at h
  exact hrec6 I R u0 (x1) (x2) (x3) (x4) (x5) (x6 + 1) hty hs0_ h
theorem te_P_keepNotesWithin_6 {S : ax_S} {out : ax_I × ax_R} : ∀ (n : Nat), ∀ (I : ax_I) (R : ax_R) (u0 : Nat) (x1 : Int32) (x2 : Int32) (x3 : Int32) (x4 : Int32) (x5 : Int32) (x6 : Int32), ax_typ S R → (S u0 = some (.inl 1)) → d_P_keepNotesWithin_6 S  n I R u0 x1 x2 x3 x4 x5 x6 = some out → ax_typ S out.2 := by
  intro n
  induction n with
  | zero =>
    rintro I R u0 x1 x2 x3 x4 x5 x6 hty hs0_ h
    cases h
  | succ n ih =>
    rintro I R u0 x1 x2 x3 x4 x5 x6 hty hs0_ h
    unfold d_P_keepNotesWithin_6 at h
    by_cases z1 : (I u0 3) ≤ x6
    · rw [if_pos z1] at h
      obtain ⟨I2, e3, h⟩ := ax_bs h
      cases h
      exact hty
    · rw [if_neg z1] at h
      obtain ⟨u4, hu5, h⟩ := ax_bd h
      obtain ⟨n7, hs6⟩ : ∃ n, S u4 = some (.inr (3, n)) := hty.1 _ _ _ _ hs0_ hu5
      obtain ⟨j8, hj9, h⟩ := ax_bd h
      have hj9 := ax_ix_s hty hs6 hj9
      obtain ⟨u10, hu11, h⟩ := ax_bd h
      have hs12 : S u10 = some (.inl 0) := hty.2.2.1 _ _ _ _ hs6 hu11
      obtain ⟨r15, hr13, h⟩ := ax_bd h
      by_cases z16 : (ax_b r15) = 0
      · rw [if_pos z16] at h
        exact te_P_keepNotesWithin_63  (d_P_keepNotesWithin_6 S  n) (ih) I R u0 (x1) (x2) (x3) (x4) (x5) (x6) hty hs0_ h
      · rw [if_neg z16] at h
        obtain ⟨u17, hu18, h⟩ := ax_bd h
        obtain ⟨n20, hs19⟩ : ∃ n, S u17 = some (.inr (3, n)) := hty.1 _ _ _ _ hs0_ hu18
        obtain ⟨u21, hu22, h⟩ := ax_bd h
        obtain ⟨n24, hs23⟩ : ∃ n, S u21 = some (.inr (3, n)) := hty.1 _ _ _ _ hs0_ hu22
        obtain ⟨j25, hj26, h⟩ := ax_bd h
        have hj26 := ax_ix_s hty hs23 hj26
        obtain ⟨u27, hu28, h⟩ := ax_bd h
        have hs29 : S u27 = some (.inl 0) := hty.2.2.1 _ _ _ _ hs23 hu28
        obtain ⟨j30, hj31, h⟩ := ax_bd h
        have hj31 := ax_ix_s hty hs19 hj31
        obtain ⟨R32, e33, h⟩ := ax_bs h
        have hty : ax_typ S R32 := e33 ▸ ax_typ_a3 hty hs19 hs29
        obtain ⟨u34, hu35, h⟩ := ax_bd h
        obtain ⟨n37, hs36⟩ : ∃ n, S u34 = some (.inr (3, n)) := hty.1 _ _ _ _ hs0_ hu35
        obtain ⟨j38, hj39, h⟩ := ax_bd h
        have hj39 := ax_ix_s hty hs36 hj39
        obtain ⟨R40, e41, h⟩ := ax_bs h
        have hty : ax_typ S R40 := e41 ▸ ax_typ_a3 hty hs36 hs12
        exact te_P_keepNotesWithin_63  (d_P_keepNotesWithin_6 S  n) (ih) I R40 u0 (x1) (x2) (x3) (x4) (x5 + 1) (x6) hty hs0_ h
theorem t_P_keepNotesWithin {S : ax_S} {I : ax_I} {R : ax_R} {u0 : Nat} {x1 : Int32} {x2 : Int32} {x3 : Int32} {x4 : Int32} {out : ax_I × ax_R} (hty : ax_typ S R) (hs0 : S u0 = some (.inl 1)) (h : d_P_keepNotesWithin S I R u0 x1 x2 x3 x4 = some out) : ax_typ S out.2 := by
  unfold d_P_keepNotesWithin at h
  exact te_P_keepNotesWithin_6   5000 I R u0 (x1) (x2) (x3) (x4) (0) (0) hty hs0 h
def d_P_moveBy_29 (S : ax_S) : Nat → ax_I → ax_R → Nat → Int32 → Int32 → Int32 → Option (ax_I)
  | 0, _, _, _, _, _, _ => none
  | n + 1, I, R, u0, x1, x2, x3 =>
    if (I u0 3) ≤ x3 then
      some (I)
    else
      (R u0 1).bind fun u15 =>
      (ax_ix S u15 (x3)).bind fun j19 =>
      (R u15 j19).bind fun u21 =>
      (d_N_moveBy S I R u21 (x1) (x2)).bind fun I26 =>
      d_P_moveBy_29 S  n I26 R u0 (x1) (x2) (x3 + 1)
set_option maxHeartbeats 1000000 in
theorem e_P_moveBy_29 {l : Launch} {X : ax_X} {S : ax_S} {L : ax_L} {R0 : ax_R} {out : ax_I} (hX : ax_ok X l "LossFreeTools$Picture" b_P_moveBy 4 (ax_rm 2 0 0)) (hF : ax_fin X none 0 0 (ax_of (ax_eq none S out R0 L))) (hS0 : ax_S0 X = S) : ∀ (n : Nat), ∀ (I : ax_I) (R : ax_R) (u0 : Nat) (x1 : Int32) (x2 : Int32) (x3 : Int32), ax_typ S R → (S u0 = some (.inl 1)) → R = R0 → d_P_moveBy_29 S  n I R u0 x1 x2 x3 = some out → ax_W X 4 29 [some (.ref u0), some (.int (x1)), some (.int (x2)), some (.int (x3))] [] S I R L 0 0 := by
  intro n
  induction n with
  | zero =>
    rintro I R u0 x1 x2 x3 hty hs0_ hR0 h
    cases h
  | succ n ih =>
    rintro I R u0 x1 x2 x3 hty hs0_ hR0 h
    subst hR0
    unfold d_P_moveBy_29 at h
    refine ax_iload_n (q := 30) hX dc_P_moveBy_29 rfl rfl rfl ?_
    refine ax_aload_n (q := 31) hX dc_P_moveBy_30 rfl rfl rfl ?_
    refine ax_getI (q := 34) hX dc_P_moveBy_31 rfl fl_P_35 rfl hs0_ ?_
    refine ax_icmp_ge (tgt := 54) (q := 37) hX dc_P_moveBy_34 rfl (by decide) (fun z14 => ?_) (fun z14 => ?_)
    · rw [if_pos z14] at h
      cases h
      exact ax_vret hX hF dc_P_moveBy_54 (by decide) (by decide) ax_eq.mk (by rw [hS0]; exact fun _ _ z => z)
    · rw [if_neg z14] at h
      refine ax_aload_n (q := 38) hX dc_P_moveBy_37 rfl rfl rfl ?_
      obtain ⟨u15, hu16, h⟩ := ax_bd h
      obtain ⟨n18, hs17⟩ : ∃ n, S u15 = some (.inr (3, n)) := hty.1 _ _ _ _ hs0_ hu16
      refine ax_getR (q := 41) hX dc_P_moveBy_38 rfl fl_P_20 rfl hs0_ hu16 ?_
      refine ax_iload_n (q := 42) hX dc_P_moveBy_41 rfl rfl rfl ?_
      obtain ⟨j19, hj20, h⟩ := ax_bd h
      have hj20 := ax_ix_s hty hs17 hj20
      obtain ⟨u21, hu22, h⟩ := ax_bd h
      have hs23 : S u21 = some (.inl 0) := hty.2.2.1 _ _ _ _ hs17 hu22
      refine ax_aald (q := 43) hX j19 dc_P_moveBy_42 rfl hs17 rfl rfl hj20.1 hj20.2.1 hj20.2.2 hu22 ?_
      refine ax_iload_n (q := 44) hX dc_P_moveBy_43 rfl rfl rfl ?_
      refine ax_iload_n (q := 45) hX dc_P_moveBy_44 rfl rfl rfl ?_
      obtain ⟨I26, hr24, h⟩ := ax_bd h
      refine ax_kV (vs := [.int (x1), .int (x2)]) (rest := []) (q := 48) hX dc_P_moveBy_45 rfl mt_N_moveBy wl_P_75 wi_N_moveBy ws_N_moveBy hs23 rfl (c_N_moveBy l hty hs23 hr24) rfl (by decide) rfl (Nat.le_of_ble_eq_true rfl) rfl rfl (by decide) (by decide) rfl ?_
      refine ax_iinc (v := x3 + 1) (ls' := [some (.ref u0), some (.int (x1)), some (.int (x2)), some (.int (x3 + 1))]) (q := 51) hX dc_P_moveBy_48 rfl rfl rfl (by decide) rfl ?_
      refine ax_goto (tgt := 29) hX dc_P_moveBy_51 (by decide) ?_
      exact (ih I26 R u0 (x1) (x2) (x3 + 1) hty hs0_ rfl h)
def d_P_moveBy_2 (S : ax_S) : Nat → ax_I → ax_R → Nat → Int32 → Int32 → Int32 → Option (ax_I)
  | 0, _, _, _, _, _, _ => none
  | n + 1, I, R, u0, x1, x2, x3 =>
    if (I u0 2) ≤ x3 then
      d_P_moveBy_29 S  5000 I R u0 (x1) (x2) (0)
    else
      (R u0 0).bind fun u2 =>
      (ax_ix S u2 (x3)).bind fun j6 =>
      (R u2 j6).bind fun u8 =>
      (d_T_moveBy S I R u8 (x1) (x2)).bind fun I13 =>
      d_P_moveBy_2 S  n I13 R u0 (x1) (x2) (x3 + 1)
set_option maxHeartbeats 1000000 in
theorem e_P_moveBy_2 {l : Launch} {X : ax_X} {S : ax_S} {L : ax_L} {R0 : ax_R} {out : ax_I} (hX : ax_ok X l "LossFreeTools$Picture" b_P_moveBy 4 (ax_rm 2 0 0)) (hF : ax_fin X none 0 0 (ax_of (ax_eq none S out R0 L))) (hS0 : ax_S0 X = S) : ∀ (n : Nat), ∀ (I : ax_I) (R : ax_R) (u0 : Nat) (x1 : Int32) (x2 : Int32) (x3 : Int32), ax_typ S R → (S u0 = some (.inl 1)) → R = R0 → d_P_moveBy_2 S  n I R u0 x1 x2 x3 = some out → ax_W X 4 2 [some (.ref u0), some (.int (x1)), some (.int (x2)), some (.int (x3))] [] S I R L 0 0 := by
  intro n
  induction n with
  | zero =>
    rintro I R u0 x1 x2 x3 hty hs0_ hR0 h
    cases h
  | succ n ih =>
    rintro I R u0 x1 x2 x3 hty hs0_ hR0 h
    subst hR0
    unfold d_P_moveBy_2 at h
    refine ax_iload_n (q := 3) hX dc_P_moveBy_2 rfl rfl rfl ?_
    refine ax_aload_n (q := 4) hX dc_P_moveBy_3 rfl rfl rfl ?_
    refine ax_getI (q := 7) hX dc_P_moveBy_4 rfl fl_P_32 rfl hs0_ ?_
    refine ax_icmp_ge (tgt := 27) (q := 10) hX dc_P_moveBy_7 rfl (by decide) (fun z1 => ?_) (fun z1 => ?_)
    · rw [if_pos z1] at h
      refine ax_iconst (v := 0) (q := 28) hX dc_P_moveBy_27 rfl (by decide) ?_
      refine ax_istore_n (ls' := [some (.ref u0), some (.int (x1)), some (.int (x2)), some (.int (0))]) (q := 29) hX dc_P_moveBy_28 rfl rfl (by decide) rfl ?_
      exact (e_P_moveBy_29 hX hF hS0  5000 I R u0 (x1) (x2) (0) hty hs0_ rfl h)
    · rw [if_neg z1] at h
      refine ax_aload_n (q := 11) hX dc_P_moveBy_10 rfl rfl rfl ?_
      obtain ⟨u2, hu3, h⟩ := ax_bd h
      obtain ⟨n5, hs4⟩ : ∃ n, S u2 = some (.inr (2, n)) := hty.1 _ _ _ _ hs0_ hu3
      refine ax_getR (q := 14) hX dc_P_moveBy_11 rfl fl_P_11 rfl hs0_ hu3 ?_
      refine ax_iload_n (q := 15) hX dc_P_moveBy_14 rfl rfl rfl ?_
      obtain ⟨j6, hj7, h⟩ := ax_bd h
      have hj7 := ax_ix_s hty hs4 hj7
      obtain ⟨u8, hu9, h⟩ := ax_bd h
      have hs10 : S u8 = some (.inl 3) := hty.2.1 _ _ _ _ hs4 hu9
      refine ax_aald (q := 16) hX j6 dc_P_moveBy_15 rfl hs4 rfl rfl hj7.1 hj7.2.1 hj7.2.2 hu9 ?_
      refine ax_iload_n (q := 17) hX dc_P_moveBy_16 rfl rfl rfl ?_
      refine ax_iload_n (q := 18) hX dc_P_moveBy_17 rfl rfl rfl ?_
      obtain ⟨I13, hr11, h⟩ := ax_bd h
      refine ax_kV (vs := [.int (x1), .int (x2)]) (rest := []) (q := 21) hX dc_P_moveBy_18 rfl mt_T_moveBy wl_P_74 wi_T_moveBy ws_T_moveBy hs10 rfl (c_T_moveBy l hty hs10 hr11) rfl (by decide) rfl (Nat.le_of_ble_eq_true rfl) rfl rfl (by decide) (by decide) rfl ?_
      refine ax_iinc (v := x3 + 1) (ls' := [some (.ref u0), some (.int (x1)), some (.int (x2)), some (.int (x3 + 1))]) (q := 24) hX dc_P_moveBy_21 rfl rfl rfl (by decide) rfl ?_
      refine ax_goto (tgt := 2) hX dc_P_moveBy_24 (by decide) ?_
      exact (ih I13 R u0 (x1) (x2) (x3 + 1) hty hs0_ rfl h)
def d_P_moveBy (S : ax_S) (I : ax_I) (R : ax_R) (u0 : Nat) (x1 : Int32) (x2 : Int32) : Option (ax_I) :=
  d_P_moveBy_2 S  5000 I R u0 (x1) (x2) (0)
set_option maxHeartbeats 1000000 in
theorem c_P_moveBy (l : Launch) {S : ax_S} {I : ax_I} {R : ax_R} {L : ax_L} {u0 : Nat} {x1 : Int32} {x2 : Int32} {out : ax_I} (hty : ax_typ S R) (hs0 : S u0 = some (.inl 1)) (h : d_P_moveBy S I R u0 x1 x2 = some out) : ax_Met l y_P_moveBy b_P_moveBy 4 none (ax_rm 2 0 0) [.ref u0, .int x1, .int x2] S I R L (ax_eq none S out R L) := by
  refine ax_enter (own := "LossFreeTools$Picture") (by decide +kernel) rfl (ax_cats rfl) (Nat.le_of_ble_eq_true rfl) (fun X hX hF _ hS0 => ?_)
  show ax_W X 4 0 [some (.ref u0), some (.int (x1)), some (.int (x2)), none] [] S I R L 0 0
  unfold d_P_moveBy at h
  refine ax_iconst (v := 0) (q := 1) hX dc_P_moveBy_0 rfl (by decide) ?_
  refine ax_istore_n (ls' := [some (.ref u0), some (.int (x1)), some (.int (x2)), some (.int (0))]) (q := 2) hX dc_P_moveBy_1 rfl rfl (by decide) rfl ?_
  exact (e_P_moveBy_2 hX hF hS0  5000 I R u0 (x1) (x2) (0) hty hs0 rfl h)
def d_P_mirror_31 (S : ax_S) : Nat → ax_I → ax_R → Nat → Int32 → Option (ax_I)
  | 0, _, _, _, _ => none
  | n + 1, I, R, u0, x1 =>
    if (I u0 3) ≤ x1 then
      some (I)
    else
      (R u0 1).bind fun u15 =>
      (ax_ix S u15 (x1)).bind fun j19 =>
      (R u15 j19).bind fun u21 =>
      (d_N_mirrorIn S I R u21 (I u0 4)).bind fun I26 =>
      d_P_mirror_31 S  n I26 R u0 (x1 + 1)
set_option maxHeartbeats 1000000 in
theorem e_P_mirror_31 {l : Launch} {X : ax_X} {S : ax_S} {L : ax_L} {R0 : ax_R} {out : ax_I} (hX : ax_ok X l "LossFreeTools$Picture" b_P_mirror 2 (ax_rm 2 0 0)) (hF : ax_fin X none 0 0 (ax_of (ax_eq none S out R0 L))) (hS0 : ax_S0 X = S) : ∀ (n : Nat), ∀ (I : ax_I) (R : ax_R) (u0 : Nat) (x1 : Int32), ax_typ S R → (S u0 = some (.inl 1)) → R = R0 → d_P_mirror_31 S  n I R u0 x1 = some out → ax_W X 2 31 [some (.ref u0), some (.int (x1))] [] S I R L 0 0 := by
  intro n
  induction n with
  | zero =>
    rintro I R u0 x1 hty hs0_ hR0 h
    cases h
  | succ n ih =>
    rintro I R u0 x1 hty hs0_ hR0 h
    subst hR0
    unfold d_P_mirror_31 at h
    refine ax_iload_n (q := 32) hX dc_P_mirror_31 rfl rfl rfl ?_
    refine ax_aload_n (q := 33) hX dc_P_mirror_32 rfl rfl rfl ?_
    refine ax_getI (q := 36) hX dc_P_mirror_33 rfl fl_P_35 rfl hs0_ ?_
    refine ax_icmp_ge (tgt := 58) (q := 39) hX dc_P_mirror_36 rfl (by decide) (fun z14 => ?_) (fun z14 => ?_)
    · rw [if_pos z14] at h
      cases h
      exact ax_vret hX hF dc_P_mirror_58 (by decide) (by decide) ax_eq.mk (by rw [hS0]; exact fun _ _ z => z)
    · rw [if_neg z14] at h
      refine ax_aload_n (q := 40) hX dc_P_mirror_39 rfl rfl rfl ?_
      obtain ⟨u15, hu16, h⟩ := ax_bd h
      obtain ⟨n18, hs17⟩ : ∃ n, S u15 = some (.inr (3, n)) := hty.1 _ _ _ _ hs0_ hu16
      refine ax_getR (q := 43) hX dc_P_mirror_40 rfl fl_P_20 rfl hs0_ hu16 ?_
      refine ax_iload_n (q := 44) hX dc_P_mirror_43 rfl rfl rfl ?_
      obtain ⟨j19, hj20, h⟩ := ax_bd h
      have hj20 := ax_ix_s hty hs17 hj20
      obtain ⟨u21, hu22, h⟩ := ax_bd h
      have hs23 : S u21 = some (.inl 0) := hty.2.2.1 _ _ _ _ hs17 hu22
      refine ax_aald (q := 45) hX j19 dc_P_mirror_44 rfl hs17 rfl rfl hj20.1 hj20.2.1 hj20.2.2 hu22 ?_
      refine ax_aload_n (q := 46) hX dc_P_mirror_45 rfl rfl rfl ?_
      refine ax_getI (q := 49) hX dc_P_mirror_46 rfl fl_P_25 rfl hs0_ ?_
      obtain ⟨I26, hr24, h⟩ := ax_bd h
      refine ax_kV (vs := [.int (I u0 4)]) (rest := []) (q := 52) hX dc_P_mirror_49 rfl mt_N_mirrorIn wl_P_101 wi_N_mirrorIn ws_N_mirrorIn hs23 rfl (c_N_mirrorIn l hty hs23 hr24) rfl (by decide) rfl (Nat.le_of_ble_eq_true rfl) rfl rfl (by decide) (by decide) rfl ?_
      refine ax_iinc (v := x1 + 1) (ls' := [some (.ref u0), some (.int (x1 + 1))]) (q := 55) hX dc_P_mirror_52 rfl rfl rfl (by decide) rfl ?_
      refine ax_goto (tgt := 31) hX dc_P_mirror_55 (by decide) ?_
      exact (ih I26 R u0 (x1 + 1) hty hs0_ rfl h)
def d_P_mirror_2 (S : ax_S) : Nat → ax_I → ax_R → Nat → Int32 → Option (ax_I)
  | 0, _, _, _, _ => none
  | n + 1, I, R, u0, x1 =>
    if (I u0 2) ≤ x1 then
      d_P_mirror_31 S  5000 I R u0 (0)
    else
      (R u0 0).bind fun u2 =>
      (ax_ix S u2 (x1)).bind fun j6 =>
      (R u2 j6).bind fun u8 =>
      (d_T_mirrorIn S I R u8 (I u0 4)).bind fun I13 =>
      d_P_mirror_2 S  n I13 R u0 (x1 + 1)
set_option maxHeartbeats 1000000 in
theorem e_P_mirror_2 {l : Launch} {X : ax_X} {S : ax_S} {L : ax_L} {R0 : ax_R} {out : ax_I} (hX : ax_ok X l "LossFreeTools$Picture" b_P_mirror 2 (ax_rm 2 0 0)) (hF : ax_fin X none 0 0 (ax_of (ax_eq none S out R0 L))) (hS0 : ax_S0 X = S) : ∀ (n : Nat), ∀ (I : ax_I) (R : ax_R) (u0 : Nat) (x1 : Int32), ax_typ S R → (S u0 = some (.inl 1)) → R = R0 → d_P_mirror_2 S  n I R u0 x1 = some out → ax_W X 2 2 [some (.ref u0), some (.int (x1))] [] S I R L 0 0 := by
  intro n
  induction n with
  | zero =>
    rintro I R u0 x1 hty hs0_ hR0 h
    cases h
  | succ n ih =>
    rintro I R u0 x1 hty hs0_ hR0 h
    subst hR0
    unfold d_P_mirror_2 at h
    refine ax_iload_n (q := 3) hX dc_P_mirror_2 rfl rfl rfl ?_
    refine ax_aload_n (q := 4) hX dc_P_mirror_3 rfl rfl rfl ?_
    refine ax_getI (q := 7) hX dc_P_mirror_4 rfl fl_P_32 rfl hs0_ ?_
    refine ax_icmp_ge (tgt := 29) (q := 10) hX dc_P_mirror_7 rfl (by decide) (fun z1 => ?_) (fun z1 => ?_)
    · rw [if_pos z1] at h
      refine ax_iconst (v := 0) (q := 30) hX dc_P_mirror_29 rfl (by decide) ?_
      refine ax_istore_n (ls' := [some (.ref u0), some (.int (0))]) (q := 31) hX dc_P_mirror_30 rfl rfl (by decide) rfl ?_
      exact (e_P_mirror_31 hX hF hS0  5000 I R u0 (0) hty hs0_ rfl h)
    · rw [if_neg z1] at h
      refine ax_aload_n (q := 11) hX dc_P_mirror_10 rfl rfl rfl ?_
      obtain ⟨u2, hu3, h⟩ := ax_bd h
      obtain ⟨n5, hs4⟩ : ∃ n, S u2 = some (.inr (2, n)) := hty.1 _ _ _ _ hs0_ hu3
      refine ax_getR (q := 14) hX dc_P_mirror_11 rfl fl_P_11 rfl hs0_ hu3 ?_
      refine ax_iload_n (q := 15) hX dc_P_mirror_14 rfl rfl rfl ?_
      obtain ⟨j6, hj7, h⟩ := ax_bd h
      have hj7 := ax_ix_s hty hs4 hj7
      obtain ⟨u8, hu9, h⟩ := ax_bd h
      have hs10 : S u8 = some (.inl 3) := hty.2.1 _ _ _ _ hs4 hu9
      refine ax_aald (q := 16) hX j6 dc_P_mirror_15 rfl hs4 rfl rfl hj7.1 hj7.2.1 hj7.2.2 hu9 ?_
      refine ax_aload_n (q := 17) hX dc_P_mirror_16 rfl rfl rfl ?_
      refine ax_getI (q := 20) hX dc_P_mirror_17 rfl fl_P_25 rfl hs0_ ?_
      obtain ⟨I13, hr11, h⟩ := ax_bd h
      refine ax_kV (vs := [.int (I u0 4)]) (rest := []) (q := 23) hX dc_P_mirror_20 rfl mt_T_mirrorIn wl_P_97 wi_T_mirrorIn ws_T_mirrorIn hs10 rfl (c_T_mirrorIn l hty hs10 hr11) rfl (by decide) rfl (Nat.le_of_ble_eq_true rfl) rfl rfl (by decide) (by decide) rfl ?_
      refine ax_iinc (v := x1 + 1) (ls' := [some (.ref u0), some (.int (x1 + 1))]) (q := 26) hX dc_P_mirror_23 rfl rfl rfl (by decide) rfl ?_
      refine ax_goto (tgt := 2) hX dc_P_mirror_26 (by decide) ?_
      exact (ih I13 R u0 (x1 + 1) hty hs0_ rfl h)
def d_P_mirror (S : ax_S) (I : ax_I) (R : ax_R) (u0 : Nat) : Option (ax_I) :=
  d_P_mirror_2 S  5000 I R u0 (0)
set_option maxHeartbeats 1000000 in
theorem c_P_mirror (l : Launch) {S : ax_S} {I : ax_I} {R : ax_R} {L : ax_L} {u0 : Nat} {out : ax_I} (hty : ax_typ S R) (hs0 : S u0 = some (.inl 1)) (h : d_P_mirror S I R u0 = some out) : ax_Met l y_P_mirror b_P_mirror 2 none (ax_rm 2 0 0) [.ref u0] S I R L (ax_eq none S out R L) := by
  refine ax_enter (own := "LossFreeTools$Picture") (by decide +kernel) rfl (ax_cats rfl) (Nat.le_of_ble_eq_true rfl) (fun X hX hF _ hS0 => ?_)
  show ax_W X 2 0 [some (.ref u0), none] [] S I R L 0 0
  unfold d_P_mirror at h
  refine ax_iconst (v := 0) (q := 1) hX dc_P_mirror_0 rfl (by decide) ?_
  refine ax_istore_n (ls' := [some (.ref u0), some (.int (0))]) (q := 2) hX dc_P_mirror_1 rfl rfl (by decide) rfl ?_
  exact (e_P_mirror_2 hX hF hS0  5000 I R u0 (0) hty hs0 rfl h)
def d_P_turnQuarter_31 (S : ax_S) : Nat → ax_I → ax_R → Nat → Int32 → Option (ax_I)
  | 0, _, _, _, _ => none
  | n + 1, I, R, u0, x1 =>
    if (I u0 3) ≤ x1 then
      (some (ax_up I u0 4 (I u0 5))).bind fun I15 =>
      (some (ax_up I15 u0 5 (I u0 4))).bind fun I17 =>
      some (I17)
    else
      (R u0 1).bind fun u19 =>
      (ax_ix S u19 (x1)).bind fun j23 =>
      (R u19 j23).bind fun u25 =>
      (d_N_quarterIn S I R u25 (I u0 5)).bind fun I30 =>
      d_P_turnQuarter_31 S  n I30 R u0 (x1 + 1)
set_option maxHeartbeats 1000000 in
theorem e_P_turnQuarter_31 {l : Launch} {X : ax_X} {S : ax_S} {L : ax_L} {R0 : ax_R} {out : ax_I} (hX : ax_ok X l "LossFreeTools$Picture" b_P_turnQuarter 2 (ax_rm 2 0 0)) (hF : ax_fin X none 0 0 (ax_of (ax_eq none S out R0 L))) (hS0 : ax_S0 X = S) : ∀ (n : Nat), ∀ (I : ax_I) (R : ax_R) (u0 : Nat) (x1 : Int32), ax_typ S R → (S u0 = some (.inl 1)) → R = R0 → d_P_turnQuarter_31 S  n I R u0 x1 = some out → ax_W X 2 31 [some (.ref u0), some (.int (x1))] [] S I R L 0 0 := by
  intro n
  induction n with
  | zero =>
    rintro I R u0 x1 hty hs0_ hR0 h
    cases h
  | succ n ih =>
    rintro I R u0 x1 hty hs0_ hR0 h
    subst hR0
    unfold d_P_turnQuarter_31 at h
    refine ax_iload_n (q := 32) hX dc_P_turnQuarter_31 rfl rfl rfl ?_
    refine ax_aload_n (q := 33) hX dc_P_turnQuarter_32 rfl rfl rfl ?_
    refine ax_getI (q := 36) hX dc_P_turnQuarter_33 rfl fl_P_35 rfl hs0_ ?_
    refine ax_icmp_ge (tgt := 58) (q := 39) hX dc_P_turnQuarter_36 rfl (by decide) (fun z14 => ?_) (fun z14 => ?_)
    · rw [if_pos z14] at h
      refine ax_aload_n (q := 59) hX dc_P_turnQuarter_58 rfl rfl rfl ?_
      refine ax_getI (q := 62) hX dc_P_turnQuarter_59 rfl fl_P_25 rfl hs0_ ?_
      refine ax_istore_n (ls' := [some (.ref u0), some (.int (I u0 4))]) (q := 63) hX dc_P_turnQuarter_62 rfl rfl (by decide) rfl ?_
      refine ax_aload_n (q := 64) hX dc_P_turnQuarter_63 rfl rfl rfl ?_
      refine ax_aload_n (q := 65) hX dc_P_turnQuarter_64 rfl rfl rfl ?_
      refine ax_getI (q := 68) hX dc_P_turnQuarter_65 rfl fl_P_29 rfl hs0_ ?_
      obtain ⟨I15, e16, h⟩ := ax_bs h
      refine ax_putI (q := 71) hX dc_P_turnQuarter_68 rfl fl_P_25 rfl hs0_ (fun z => by cases z) rfl rfl e16 ?_
      refine ax_aload_n (q := 72) hX dc_P_turnQuarter_71 rfl rfl rfl ?_
      refine ax_iload_n (q := 73) hX dc_P_turnQuarter_72 rfl rfl rfl ?_
      obtain ⟨I17, e18, h⟩ := ax_bs h
      refine ax_putI (q := 76) hX dc_P_turnQuarter_73 rfl fl_P_29 rfl hs0_ (fun z => by cases z) rfl rfl e18 ?_
      cases h
      exact ax_vret hX hF dc_P_turnQuarter_76 (by decide) (by decide) ax_eq.mk (by rw [hS0]; exact fun _ _ z => z)
    · rw [if_neg z14] at h
      refine ax_aload_n (q := 40) hX dc_P_turnQuarter_39 rfl rfl rfl ?_
      obtain ⟨u19, hu20, h⟩ := ax_bd h
      obtain ⟨n22, hs21⟩ : ∃ n, S u19 = some (.inr (3, n)) := hty.1 _ _ _ _ hs0_ hu20
      refine ax_getR (q := 43) hX dc_P_turnQuarter_40 rfl fl_P_20 rfl hs0_ hu20 ?_
      refine ax_iload_n (q := 44) hX dc_P_turnQuarter_43 rfl rfl rfl ?_
      obtain ⟨j23, hj24, h⟩ := ax_bd h
      have hj24 := ax_ix_s hty hs21 hj24
      obtain ⟨u25, hu26, h⟩ := ax_bd h
      have hs27 : S u25 = some (.inl 0) := hty.2.2.1 _ _ _ _ hs21 hu26
      refine ax_aald (q := 45) hX j23 dc_P_turnQuarter_44 rfl hs21 rfl rfl hj24.1 hj24.2.1 hj24.2.2 hu26 ?_
      refine ax_aload_n (q := 46) hX dc_P_turnQuarter_45 rfl rfl rfl ?_
      refine ax_getI (q := 49) hX dc_P_turnQuarter_46 rfl fl_P_29 rfl hs0_ ?_
      obtain ⟨I30, hr28, h⟩ := ax_bd h
      refine ax_kV (vs := [.int (I u0 5)]) (rest := []) (q := 52) hX dc_P_turnQuarter_49 rfl mt_N_quarterIn wl_P_105 wi_N_quarterIn ws_N_quarterIn hs27 rfl (c_N_quarterIn l hty hs27 hr28) rfl (by decide) rfl (Nat.le_of_ble_eq_true rfl) rfl rfl (by decide) (by decide) rfl ?_
      refine ax_iinc (v := x1 + 1) (ls' := [some (.ref u0), some (.int (x1 + 1))]) (q := 55) hX dc_P_turnQuarter_52 rfl rfl rfl (by decide) rfl ?_
      refine ax_goto (tgt := 31) hX dc_P_turnQuarter_55 (by decide) ?_
      exact (ih I30 R u0 (x1 + 1) hty hs0_ rfl h)
def d_P_turnQuarter_2 (S : ax_S) : Nat → ax_I → ax_R → Nat → Int32 → Option (ax_I)
  | 0, _, _, _, _ => none
  | n + 1, I, R, u0, x1 =>
    if (I u0 2) ≤ x1 then
      d_P_turnQuarter_31 S  5000 I R u0 (0)
    else
      (R u0 0).bind fun u2 =>
      (ax_ix S u2 (x1)).bind fun j6 =>
      (R u2 j6).bind fun u8 =>
      (d_T_quarterIn S I R u8 (I u0 5)).bind fun I13 =>
      d_P_turnQuarter_2 S  n I13 R u0 (x1 + 1)
set_option maxHeartbeats 1000000 in
theorem e_P_turnQuarter_2 {l : Launch} {X : ax_X} {S : ax_S} {L : ax_L} {R0 : ax_R} {out : ax_I} (hX : ax_ok X l "LossFreeTools$Picture" b_P_turnQuarter 2 (ax_rm 2 0 0)) (hF : ax_fin X none 0 0 (ax_of (ax_eq none S out R0 L))) (hS0 : ax_S0 X = S) : ∀ (n : Nat), ∀ (I : ax_I) (R : ax_R) (u0 : Nat) (x1 : Int32), ax_typ S R → (S u0 = some (.inl 1)) → R = R0 → d_P_turnQuarter_2 S  n I R u0 x1 = some out → ax_W X 2 2 [some (.ref u0), some (.int (x1))] [] S I R L 0 0 := by
  intro n
  induction n with
  | zero =>
    rintro I R u0 x1 hty hs0_ hR0 h
    cases h
  | succ n ih =>
    rintro I R u0 x1 hty hs0_ hR0 h
    subst hR0
    unfold d_P_turnQuarter_2 at h
    refine ax_iload_n (q := 3) hX dc_P_turnQuarter_2 rfl rfl rfl ?_
    refine ax_aload_n (q := 4) hX dc_P_turnQuarter_3 rfl rfl rfl ?_
    refine ax_getI (q := 7) hX dc_P_turnQuarter_4 rfl fl_P_32 rfl hs0_ ?_
    refine ax_icmp_ge (tgt := 29) (q := 10) hX dc_P_turnQuarter_7 rfl (by decide) (fun z1 => ?_) (fun z1 => ?_)
    · rw [if_pos z1] at h
      refine ax_iconst (v := 0) (q := 30) hX dc_P_turnQuarter_29 rfl (by decide) ?_
      refine ax_istore_n (ls' := [some (.ref u0), some (.int (0))]) (q := 31) hX dc_P_turnQuarter_30 rfl rfl (by decide) rfl ?_
      exact (e_P_turnQuarter_31 hX hF hS0  5000 I R u0 (0) hty hs0_ rfl h)
    · rw [if_neg z1] at h
      refine ax_aload_n (q := 11) hX dc_P_turnQuarter_10 rfl rfl rfl ?_
      obtain ⟨u2, hu3, h⟩ := ax_bd h
      obtain ⟨n5, hs4⟩ : ∃ n, S u2 = some (.inr (2, n)) := hty.1 _ _ _ _ hs0_ hu3
      refine ax_getR (q := 14) hX dc_P_turnQuarter_11 rfl fl_P_11 rfl hs0_ hu3 ?_
      refine ax_iload_n (q := 15) hX dc_P_turnQuarter_14 rfl rfl rfl ?_
      obtain ⟨j6, hj7, h⟩ := ax_bd h
      have hj7 := ax_ix_s hty hs4 hj7
      obtain ⟨u8, hu9, h⟩ := ax_bd h
      have hs10 : S u8 = some (.inl 3) := hty.2.1 _ _ _ _ hs4 hu9
      refine ax_aald (q := 16) hX j6 dc_P_turnQuarter_15 rfl hs4 rfl rfl hj7.1 hj7.2.1 hj7.2.2 hu9 ?_
      refine ax_aload_n (q := 17) hX dc_P_turnQuarter_16 rfl rfl rfl ?_
      refine ax_getI (q := 20) hX dc_P_turnQuarter_17 rfl fl_P_29 rfl hs0_ ?_
      obtain ⟨I13, hr11, h⟩ := ax_bd h
      refine ax_kV (vs := [.int (I u0 5)]) (rest := []) (q := 23) hX dc_P_turnQuarter_20 rfl mt_T_quarterIn wl_P_102 wi_T_quarterIn ws_T_quarterIn hs10 rfl (c_T_quarterIn l hty hs10 hr11) rfl (by decide) rfl (Nat.le_of_ble_eq_true rfl) rfl rfl (by decide) (by decide) rfl ?_
      refine ax_iinc (v := x1 + 1) (ls' := [some (.ref u0), some (.int (x1 + 1))]) (q := 26) hX dc_P_turnQuarter_23 rfl rfl rfl (by decide) rfl ?_
      refine ax_goto (tgt := 2) hX dc_P_turnQuarter_26 (by decide) ?_
      exact (ih I13 R u0 (x1 + 1) hty hs0_ rfl h)
def d_P_turnQuarter (S : ax_S) (I : ax_I) (R : ax_R) (u0 : Nat) : Option (ax_I) :=
  d_P_turnQuarter_2 S  5000 I R u0 (0)
set_option maxHeartbeats 1000000 in
theorem c_P_turnQuarter (l : Launch) {S : ax_S} {I : ax_I} {R : ax_R} {L : ax_L} {u0 : Nat} {out : ax_I} (hty : ax_typ S R) (hs0 : S u0 = some (.inl 1)) (h : d_P_turnQuarter S I R u0 = some out) : ax_Met l y_P_turnQuarter b_P_turnQuarter 2 none (ax_rm 2 0 0) [.ref u0] S I R L (ax_eq none S out R L) := by
  refine ax_enter (own := "LossFreeTools$Picture") (by decide +kernel) rfl (ax_cats rfl) (Nat.le_of_ble_eq_true rfl) (fun X hX hF _ hS0 => ?_)
  show ax_W X 2 0 [some (.ref u0), none] [] S I R L 0 0
  unfold d_P_turnQuarter at h
  refine ax_iconst (v := 0) (q := 1) hX dc_P_turnQuarter_0 rfl (by decide) ?_
  refine ax_istore_n (ls' := [some (.ref u0), some (.int (0))]) (q := 2) hX dc_P_turnQuarter_1 rfl rfl (by decide) rfl ?_
  exact (e_P_turnQuarter_2 hX hF hS0  5000 I R u0 (0) hty hs0 rfl h)
def d_K_together_45 (S : ax_S) (I : ax_I) (R : ax_R) (x2 : Int32) (y0 : Int32) : Option (Int32) :=
  (d_K_quarters S I R (x2)).bind fun r26 =>
  some (y0 + r26)
set_option maxHeartbeats 1000000 in
theorem e_K_together_45 {l : Launch} {X : ax_X} {S : ax_S} {L : ax_L} {I0 : ax_I} {R0 : ax_R} {out : Int32} (hX : ax_ok X l "LossFreeTools" b_K_together 4 (ax_rm 2 0 0)) (hF : ax_fin X (some .int) 0 0 (ax_of (ax_eq (some (.int out)) S I0 R0 L))) (hS0 : ax_S0 X = S) : ∀ (I : ax_I) (R : ax_R) (x2 : Int32) (y0 : Int32), ax_typ S R → I = I0 → R = R0 → d_K_together_45 S  I R x2 y0 = some out → ax_W X 4 45 [none, none, some (.int (x2)), none] [.int (y0)] S I R L 0 0 := by
  rintro I R x2 y0 hty hI0 hR0 h
  subst hI0
  subst hR0
  unfold d_K_together_45 at h
  refine ax_istore_n (ls' := [none, none, some (.int (x2)), some (.int (y0))]) (q := 46) hX dc_K_together_45 rfl rfl (by decide) rfl ?_
  refine ax_iload_n (q := 47) hX dc_K_together_46 rfl rfl rfl ?_
  refine ax_iload_n (q := 48) hX dc_K_together_47 rfl rfl rfl ?_
  obtain ⟨r26, hr24, h⟩ := ax_bd h
  refine ax_kS (vs := [.int (x2)]) (rest := [.int (y0)]) (q := 51) hX dc_K_together_48 rfl mt_K_quarters wl_K_274 wt_K_quarters (c_K_quarters l hty  hr24) rfl (by decide) rfl (Nat.le_of_ble_eq_true rfl) rfl rfl (by decide) (by decide) rfl ?_
  refine ax_iadd (q := 52) hX dc_K_together_51 rfl ?_
  cases h
  exact ax_iret hX hF dc_K_together_52 rfl rfl (by decide) (by decide) ax_eq.mk (by rw [hS0]; exact fun _ _ z => z)
def d_K_together_28 (S : ax_S) (I : ax_I) (R : ax_R) (x0 : Int32) (x1 : Int32) (y0 : Int32) : Option (Int32) :=
  (d_K_mirrors S I R (x0)).bind fun r19 =>
  (d_K_mirrors S I R (x1)).bind fun r22 =>
  if (ax_b r19) = (ax_b r22) then
    d_K_together_45 S  I R (y0) (0)
  else
    d_K_together_45 S  I R (y0) (4)
set_option maxHeartbeats 1000000 in
theorem e_K_together_28 {l : Launch} {X : ax_X} {S : ax_S} {L : ax_L} {I0 : ax_I} {R0 : ax_R} {out : Int32} (hX : ax_ok X l "LossFreeTools" b_K_together 4 (ax_rm 2 0 0)) (hF : ax_fin X (some .int) 0 0 (ax_of (ax_eq (some (.int out)) S I0 R0 L))) (hS0 : ax_S0 X = S) : ∀ (I : ax_I) (R : ax_R) (x0 : Int32) (x1 : Int32) (y0 : Int32), ax_typ S R → I = I0 → R = R0 → d_K_together_28 S  I R x0 x1 y0 = some out → ax_W X 4 28 [some (.int (x0)), some (.int (x1)), none, none] [.int (y0)] S I R L 0 0 := by
  rintro I R x0 x1 y0 hty hI0 hR0 h
  subst hI0
  subst hR0
  unfold d_K_together_28 at h
  refine ax_istore_n (ls' := [some (.int (x0)), some (.int (x1)), some (.int (y0)), none]) (q := 29) hX dc_K_together_28 rfl rfl (by decide) rfl ?_
  refine ax_iload_n (q := 30) hX dc_K_together_29 rfl rfl rfl ?_
  obtain ⟨r19, hr17, h⟩ := ax_bd h
  refine ax_kS (vs := [.int (x0)]) (rest := []) (q := 33) hX dc_K_together_30 rfl mt_K_mirrors wl_K_271 wt_K_mirrors (c_K_mirrors l hty  hr17) rfl (by decide) rfl (Nat.le_of_ble_eq_true rfl) rfl rfl (by decide) (by decide) rfl ?_
  refine ax_iload_n (q := 34) hX dc_K_together_33 rfl rfl rfl ?_
  obtain ⟨r22, hr20, h⟩ := ax_bd h
  refine ax_kS (vs := [.int (x1)]) (rest := [.int (ax_b r19)]) (q := 37) hX dc_K_together_34 rfl mt_K_mirrors wl_K_271 wt_K_mirrors (c_K_mirrors l hty  hr20) rfl (by decide) rfl (Nat.le_of_ble_eq_true rfl) rfl rfl (by decide) (by decide) rfl ?_
  refine ax_icmp_eq (tgt := 44) (q := 40) hX dc_K_together_37 rfl (by decide) (fun z23 => ?_) (fun z23 => ?_)
  · rw [if_pos z23] at h
    refine ax_iconst (v := 0) (q := 45) hX dc_K_together_44 rfl (by decide) ?_
    exact ax_weak (ls' := [none, none, some (.int (y0)), none]) (ax_fewP_s _ _ (by repeat (first | exact trivial | (refine And.intro rfl ?_)))) (e_K_together_45 hX hF hS0  I R (y0) (0) hty  rfl rfl h)
  · rw [if_neg z23] at h
    refine ax_iconst (v := 4) (q := 41) hX dc_K_together_40 rfl (by decide) ?_
    refine ax_goto (tgt := 45) hX dc_K_together_41 (by decide) ?_
    exact ax_weak (ls' := [none, none, some (.int (y0)), none]) (ax_fewP_s _ _ (by repeat (first | exact trivial | (refine And.intro rfl ?_)))) (e_K_together_45 hX hF hS0  I R (y0) (4) hty  rfl rfl h)
def d_K_together (S : ax_S) (I : ax_I) (R : ax_R) (x0 : Int32) (x1 : Int32) : Option (Int32) :=
  (d_K_mirrors S I R (x1)).bind fun r3 =>
  if (ax_b r3) = 0 then
    (d_K_quarters S I R (x1)).bind fun r7 =>
    (d_K_quarters S I R (x0)).bind fun r10 =>
    d_K_together_28 S  I R (x0) (x1) (r7 + r10)
  else
    (d_K_quarters S I R (x1)).bind fun r13 =>
    (d_K_quarters S I R (x0)).bind fun r16 =>
    d_K_together_28 S  I R (x0) (x1) (r13 - r16)
set_option maxHeartbeats 1000000 in
theorem c_K_together (l : Launch) {S : ax_S} {I : ax_I} {R : ax_R} {L : ax_L} {x0 : Int32} {x1 : Int32} {out : Int32} (hty : ax_typ S R) (h : d_K_together S I R x0 x1 = some out) : ax_Met l y_K_together b_K_together 4 (some .int) (ax_rm 2 0 0) [.int x0, .int x1] S I R L (ax_eq (some (.int out)) S I R L) := by
  refine ax_enter (own := "LossFreeTools") (by decide +kernel) rfl (ax_cats rfl) (Nat.le_of_ble_eq_true rfl) (fun X hX hF _ hS0 => ?_)
  show ax_W X 4 0 [some (.int (x0)), some (.int (x1)), none, none] [] S I R L 0 0
  unfold d_K_together at h
  refine ax_iload_n (q := 1) hX dc_K_together_0 rfl rfl rfl ?_
  obtain ⟨r3, hr1, h⟩ := ax_bd h
  refine ax_kS (vs := [.int (x1)]) (rest := []) (q := 4) hX dc_K_together_1 rfl mt_K_mirrors wl_K_271 wt_K_mirrors (c_K_mirrors l hty  hr1) rfl (by decide) rfl (Nat.le_of_ble_eq_true rfl) rfl rfl (by decide) (by decide) rfl ?_
  refine ax_if_eq (tgt := 19) (q := 7) hX dc_K_together_4 rfl (by decide) (fun z4 => ?_) (fun z4 => ?_)
  · rw [if_pos z4] at h
    refine ax_iload_n (q := 20) hX dc_K_together_19 rfl rfl rfl ?_
    obtain ⟨r7, hr5, h⟩ := ax_bd h
    refine ax_kS (vs := [.int (x1)]) (rest := []) (q := 23) hX dc_K_together_20 rfl mt_K_quarters wl_K_274 wt_K_quarters (c_K_quarters l hty  hr5) rfl (by decide) rfl (Nat.le_of_ble_eq_true rfl) rfl rfl (by decide) (by decide) rfl ?_
    refine ax_iload_n (q := 24) hX dc_K_together_23 rfl rfl rfl ?_
    obtain ⟨r10, hr8, h⟩ := ax_bd h
    refine ax_kS (vs := [.int (x0)]) (rest := [.int (r7)]) (q := 27) hX dc_K_together_24 rfl mt_K_quarters wl_K_274 wt_K_quarters (c_K_quarters l hty  hr8) rfl (by decide) rfl (Nat.le_of_ble_eq_true rfl) rfl rfl (by decide) (by decide) rfl ?_
    refine ax_iadd (q := 28) hX dc_K_together_27 rfl ?_
    exact (e_K_together_28 hX hF hS0  I R (x0) (x1) (r7 + r10) hty  rfl rfl h)
  · rw [if_neg z4] at h
    refine ax_iload_n (q := 8) hX dc_K_together_7 rfl rfl rfl ?_
    obtain ⟨r13, hr11, h⟩ := ax_bd h
    refine ax_kS (vs := [.int (x1)]) (rest := []) (q := 11) hX dc_K_together_8 rfl mt_K_quarters wl_K_274 wt_K_quarters (c_K_quarters l hty  hr11) rfl (by decide) rfl (Nat.le_of_ble_eq_true rfl) rfl rfl (by decide) (by decide) rfl ?_
    refine ax_iload_n (q := 12) hX dc_K_together_11 rfl rfl rfl ?_
    obtain ⟨r16, hr14, h⟩ := ax_bd h
    refine ax_kS (vs := [.int (x0)]) (rest := [.int (r13)]) (q := 15) hX dc_K_together_12 rfl mt_K_quarters wl_K_274 wt_K_quarters (c_K_quarters l hty  hr14) rfl (by decide) rfl (Nat.le_of_ble_eq_true rfl) rfl rfl (by decide) (by decide) rfl ?_
    refine ax_isub (q := 16) hX dc_K_together_15 rfl ?_
    refine ax_goto (tgt := 28) hX dc_K_together_16 (by decide) ?_
    exact (e_K_together_28 hX hF hS0  I R (x0) (x1) (r13 - r16) hty  rfl rfl h)
def d_P_hasRoomFor (S : ax_S) (I : ax_I) (R : ax_R) (u0 : Nat) (u1 : Nat) (x2 : Int32) : Option (Bool) :=
  (d_P_sizeAlong S I R u0 (x2)).bind fun r3 =>
  (d_P_sizeAlong S I R u1 (x2)).bind fun r6 =>
  if 400 < (r3 + r6) then
    some (false)
  else
    if 40 < ((I u0 2) + (I u1 2)) then
      some (false)
    else
      if 20 < ((I u0 3) + (I u1 3)) then
        some (false)
      else
        some (true)
set_option maxHeartbeats 1000000 in
theorem c_P_hasRoomFor (l : Launch) {S : ax_S} {I : ax_I} {R : ax_R} {L : ax_L} {u0 : Nat} {u1 : Nat} {x2 : Int32} {out : Bool} (hty : ax_typ S R) (hs0 : S u0 = some (.inl 1)) (hs1 : S u1 = some (.inl 1)) (h : d_P_hasRoomFor S I R u0 u1 x2 = some out) : ax_Met l y_P_hasRoomFor b_P_hasRoomFor 3 (some .boolean) (ax_rm 2 0 0) [.ref u0, .ref u1, .int x2] S I R L (ax_eq (some (.int (ax_b out))) S I R L) := by
  refine ax_enter (own := "LossFreeTools$Picture") (by decide +kernel) rfl (ax_cats rfl) (Nat.le_of_ble_eq_true rfl) (fun X hX hF _ hS0 => ?_)
  show ax_W X 3 0 [some (.ref u0), some (.ref u1), some (.int (x2))] [] S I R L 0 0
  unfold d_P_hasRoomFor at h
  refine ax_aload_n (q := 1) hX dc_P_hasRoomFor_0 rfl rfl rfl ?_
  refine ax_iload_n (q := 2) hX dc_P_hasRoomFor_1 rfl rfl rfl ?_
  obtain ⟨r3, hr1, h⟩ := ax_bd h
  refine ax_kV (vs := [.int (x2)]) (rest := []) (q := 5) hX dc_P_hasRoomFor_2 rfl mt_P_sizeAlong wl_P_53 wi_P_sizeAlong ws_P_sizeAlong hs0 rfl (c_P_sizeAlong l hty hs0 hr1) rfl (by decide) rfl (Nat.le_of_ble_eq_true rfl) rfl rfl (by decide) (by decide) rfl ?_
  refine ax_aload_n (q := 6) hX dc_P_hasRoomFor_5 rfl rfl rfl ?_
  refine ax_iload_n (q := 7) hX dc_P_hasRoomFor_6 rfl rfl rfl ?_
  obtain ⟨r6, hr4, h⟩ := ax_bd h
  refine ax_kV (vs := [.int (x2)]) (rest := [.int (r3)]) (q := 10) hX dc_P_hasRoomFor_7 rfl mt_P_sizeAlong wl_P_53 wi_P_sizeAlong ws_P_sizeAlong hs1 rfl (c_P_sizeAlong l hty hs1 hr4) rfl (by decide) rfl (Nat.le_of_ble_eq_true rfl) rfl rfl (by decide) (by decide) rfl ?_
  refine ax_iadd (q := 11) hX dc_P_hasRoomFor_10 rfl ?_
  refine ax_sipush (v := 400) (q := 14) hX dc_P_hasRoomFor_11 rfl (by decide) ?_
  refine ax_icmp_gt (tgt := 49) (q := 17) hX dc_P_hasRoomFor_14 rfl (by decide) (fun z7 => ?_) (fun z7 => ?_)
  · rw [if_pos z7] at h
    refine ax_iconst (v := 0) (q := 50) hX dc_P_hasRoomFor_49 rfl (by decide) ?_
    cases h
    exact ax_iret hX hF dc_P_hasRoomFor_50 rfl rfl (by decide) (by decide) ax_eq.mk (by rw [hS0]; exact fun _ _ z => z)
  · rw [if_neg z7] at h
    refine ax_aload_n (q := 18) hX dc_P_hasRoomFor_17 rfl rfl rfl ?_
    refine ax_getI (q := 21) hX dc_P_hasRoomFor_18 rfl fl_P_32 rfl hs0 ?_
    refine ax_aload_n (q := 22) hX dc_P_hasRoomFor_21 rfl rfl rfl ?_
    refine ax_getI (q := 25) hX dc_P_hasRoomFor_22 rfl fl_P_32 rfl hs1 ?_
    refine ax_iadd (q := 26) hX dc_P_hasRoomFor_25 rfl ?_
    refine ax_bipush (v := 40) (q := 28) hX dc_P_hasRoomFor_26 rfl (by decide) ?_
    refine ax_icmp_gt (tgt := 49) (q := 31) hX dc_P_hasRoomFor_28 rfl (by decide) (fun z8 => ?_) (fun z8 => ?_)
    · rw [if_pos z8] at h
      refine ax_iconst (v := 0) (q := 50) hX dc_P_hasRoomFor_49 rfl (by decide) ?_
      cases h
      exact ax_iret hX hF dc_P_hasRoomFor_50 rfl rfl (by decide) (by decide) ax_eq.mk (by rw [hS0]; exact fun _ _ z => z)
    · rw [if_neg z8] at h
      refine ax_aload_n (q := 32) hX dc_P_hasRoomFor_31 rfl rfl rfl ?_
      refine ax_getI (q := 35) hX dc_P_hasRoomFor_32 rfl fl_P_35 rfl hs0 ?_
      refine ax_aload_n (q := 36) hX dc_P_hasRoomFor_35 rfl rfl rfl ?_
      refine ax_getI (q := 39) hX dc_P_hasRoomFor_36 rfl fl_P_35 rfl hs1 ?_
      refine ax_iadd (q := 40) hX dc_P_hasRoomFor_39 rfl ?_
      refine ax_bipush (v := 20) (q := 42) hX dc_P_hasRoomFor_40 rfl (by decide) ?_
      refine ax_icmp_gt (tgt := 49) (q := 45) hX dc_P_hasRoomFor_42 rfl (by decide) (fun z9 => ?_) (fun z9 => ?_)
      · rw [if_pos z9] at h
        refine ax_iconst (v := 0) (q := 50) hX dc_P_hasRoomFor_49 rfl (by decide) ?_
        cases h
        exact ax_iret hX hF dc_P_hasRoomFor_50 rfl rfl (by decide) (by decide) ax_eq.mk (by rw [hS0]; exact fun _ _ z => z)
      · rw [if_neg z9] at h
        refine ax_iconst (v := 1) (q := 46) hX dc_P_hasRoomFor_45 rfl (by decide) ?_
        refine ax_goto (tgt := 50) hX dc_P_hasRoomFor_46 (by decide) ?_
        cases h
        exact ax_iret hX hF dc_P_hasRoomFor_50 rfl rfl (by decide) (by decide) ax_eq.mk (by rw [hS0]; exact fun _ _ z => z)
def d_P_placeOfPart_52 (S : ax_S) (rec19 : ax_I → ax_R → Nat → Nat → Int32 → Int32 → Option (Int32)) (I : ax_I) (R : ax_R) (u0 : Nat) (u1 : Nat) (x2 : Int32) (x3 : Int32) : Option (Int32) :=
  rec19 I R u0 u1 (x2) (x3 + 1)
set_option maxHeartbeats 1000000 in
theorem e_P_placeOfPart_52 {l : Launch} {X : ax_X} {S : ax_S} {L : ax_L} {I0 : ax_I} {R0 : ax_R} {out : Int32} (hX : ax_ok X l "LossFreeTools$Picture" b_P_placeOfPart 4 (ax_rm 2 0 0)) (hF : ax_fin X (some .int) 0 0 (ax_of (ax_eq (some (.int out)) S I0 R0 L))) (hS0 : ax_S0 X = S) (rec19 : ax_I → ax_R → Nat → Nat → Int32 → Int32 → Option (Int32)) (hrec19 : ∀ (I : ax_I) (R : ax_R) (u0 : Nat) (u1 : Nat) (x2 : Int32) (x3 : Int32), ax_typ S R → (S u0 = some (.inl 1)) → (S u1 = some (.inl 3)) → I = I0 → R = R0 → rec19 I R u0 u1 x2 x3 = some out → ax_W X 4 19 [some (.ref u0), some (.ref u1), some (.int (x2)), some (.int (x3))] [] S I R L 0 0) : ∀ (I : ax_I) (R : ax_R) (u0 : Nat) (u1 : Nat) (x2 : Int32) (x3 : Int32), ax_typ S R → (S u0 = some (.inl 1)) → (S u1 = some (.inl 3)) → I = I0 → R = R0 → d_P_placeOfPart_52 S rec19 I R u0 u1 x2 x3 = some out → ax_W X 4 52 [some (.ref u0), some (.ref u1), some (.int (x2)), some (.int (x3))] [] S I R L 0 0 := by
  rintro I R u0 u1 x2 x3 hty hs0_ hs1_ hI0 hR0 h
  subst hI0
  subst hR0
  unfold d_P_placeOfPart_52 at h
  refine ax_iinc (v := x3 + 1) (ls' := [some (.ref u0), some (.ref u1), some (.int (x2)), some (.int (x3 + 1))]) (q := 55) hX dc_P_placeOfPart_52 rfl rfl rfl (by decide) rfl ?_
  refine ax_goto (tgt := 19) hX dc_P_placeOfPart_55 (by decide) ?_
  exact (hrec19 I R u0 u1 (x2) (x3 + 1) hty hs0_ hs1_ rfl rfl h)
def d_P_placeOfPart_19 (S : ax_S) : Nat → ax_I → ax_R → Nat → Nat → Int32 → Int32 → Option (Int32)
  | 0, _, _, _, _, _, _ => none
  | n + 1, I, R, u0, u1, x2, x3 =>
    if (I u0 2) ≤ x3 then
      some (x2)
    else
      (R u0 0).bind fun u2 =>
      (ax_ix S u2 (x3)).bind fun j6 =>
      (R u2 j6).bind fun u8 =>
      (d_T_partComesBefore S I R u8 u1).bind fun r13 =>
      if (ax_b r13) = 0 then
        d_P_placeOfPart_52 S (d_P_placeOfPart_19 S  n) I R u0 u1 (x2) (x3)
      else
        (R u0 0).bind fun u15 =>
        (ax_ix S u15 (x3)).bind fun j19 =>
        (R u15 j19).bind fun u21 =>
        (d_T_partLength S I R u21).bind fun r26 =>
        d_P_placeOfPart_52 S (d_P_placeOfPart_19 S  n) I R u0 u1 (x2 + r26) (x3)
set_option maxHeartbeats 1000000 in
theorem e_P_placeOfPart_19 {l : Launch} {X : ax_X} {S : ax_S} {L : ax_L} {I0 : ax_I} {R0 : ax_R} {out : Int32} (hX : ax_ok X l "LossFreeTools$Picture" b_P_placeOfPart 4 (ax_rm 2 0 0)) (hF : ax_fin X (some .int) 0 0 (ax_of (ax_eq (some (.int out)) S I0 R0 L))) (hS0 : ax_S0 X = S) : ∀ (n : Nat), ∀ (I : ax_I) (R : ax_R) (u0 : Nat) (u1 : Nat) (x2 : Int32) (x3 : Int32), ax_typ S R → (S u0 = some (.inl 1)) → (S u1 = some (.inl 3)) → I = I0 → R = R0 → d_P_placeOfPart_19 S  n I R u0 u1 x2 x3 = some out → ax_W X 4 19 [some (.ref u0), some (.ref u1), some (.int (x2)), some (.int (x3))] [] S I R L 0 0 := by
  intro n
  induction n with
  | zero =>
    rintro I R u0 u1 x2 x3 hty hs0_ hs1_ hI0 hR0 h
    cases h
  | succ n ih =>
    rintro I R u0 u1 x2 x3 hty hs0_ hs1_ hI0 hR0 h
    subst hI0
    subst hR0
    unfold d_P_placeOfPart_19 at h
    refine ax_iload_n (q := 20) hX dc_P_placeOfPart_19 rfl rfl rfl ?_
    refine ax_aload_n (q := 21) hX dc_P_placeOfPart_20 rfl rfl rfl ?_
    refine ax_getI (q := 24) hX dc_P_placeOfPart_21 rfl fl_P_32 rfl hs0_ ?_
    refine ax_icmp_ge (tgt := 58) (q := 27) hX dc_P_placeOfPart_24 rfl (by decide) (fun z1 => ?_) (fun z1 => ?_)
    · rw [if_pos z1] at h
      refine ax_iload_n (q := 59) hX dc_P_placeOfPart_58 rfl rfl rfl ?_
      cases h
      exact ax_iret hX hF dc_P_placeOfPart_59 rfl rfl (by decide) (by decide) ax_eq.mk (by rw [hS0]; exact fun _ _ z => z)
    · rw [if_neg z1] at h
      refine ax_aload_n (q := 28) hX dc_P_placeOfPart_27 rfl rfl rfl ?_
      obtain ⟨u2, hu3, h⟩ := ax_bd h
      obtain ⟨n5, hs4⟩ : ∃ n, S u2 = some (.inr (2, n)) := hty.1 _ _ _ _ hs0_ hu3
      refine ax_getR (q := 31) hX dc_P_placeOfPart_28 rfl fl_P_11 rfl hs0_ hu3 ?_
      refine ax_iload_n (q := 32) hX dc_P_placeOfPart_31 rfl rfl rfl ?_
      obtain ⟨j6, hj7, h⟩ := ax_bd h
      have hj7 := ax_ix_s hty hs4 hj7
      obtain ⟨u8, hu9, h⟩ := ax_bd h
      have hs10 : S u8 = some (.inl 3) := hty.2.1 _ _ _ _ hs4 hu9
      refine ax_aald (q := 33) hX j6 dc_P_placeOfPart_32 rfl hs4 rfl rfl hj7.1 hj7.2.1 hj7.2.2 hu9 ?_
      refine ax_aload_n (q := 34) hX dc_P_placeOfPart_33 rfl rfl rfl ?_
      obtain ⟨r13, hr11, h⟩ := ax_bd h
      refine ax_kV (vs := [.ref u1]) (rest := []) (q := 37) hX dc_P_placeOfPart_34 rfl mt_T_partComesBefore wl_P_106 wi_T_partComesBefore ws_T_partComesBefore hs10 rfl (c_T_partComesBefore l hty hs10 hs1_ hr11) rfl (by decide) rfl (Nat.le_of_ble_eq_true rfl) rfl rfl (by decide) (by decide) rfl ?_
      refine ax_if_eq (tgt := 52) (q := 40) hX dc_P_placeOfPart_37 rfl (by decide) (fun z14 => ?_) (fun z14 => ?_)
      · rw [if_pos z14] at h
        exact (e_P_placeOfPart_52 hX hF hS0 (d_P_placeOfPart_19 S  n) (ih) I R u0 u1 (x2) (x3) hty hs0_ hs1_ rfl rfl h)
      · rw [if_neg z14] at h
        refine ax_iload_n (q := 41) hX dc_P_placeOfPart_40 rfl rfl rfl ?_
        refine ax_aload_n (q := 42) hX dc_P_placeOfPart_41 rfl rfl rfl ?_
        obtain ⟨u15, hu16, h⟩ := ax_bd h
        obtain ⟨n18, hs17⟩ : ∃ n, S u15 = some (.inr (2, n)) := hty.1 _ _ _ _ hs0_ hu16
        refine ax_getR (q := 45) hX dc_P_placeOfPart_42 rfl fl_P_11 rfl hs0_ hu16 ?_
        refine ax_iload_n (q := 46) hX dc_P_placeOfPart_45 rfl rfl rfl ?_
        obtain ⟨j19, hj20, h⟩ := ax_bd h
        have hj20 := ax_ix_s hty hs17 hj20
        obtain ⟨u21, hu22, h⟩ := ax_bd h
        have hs23 : S u21 = some (.inl 3) := hty.2.1 _ _ _ _ hs17 hu22
        refine ax_aald (q := 47) hX j19 dc_P_placeOfPart_46 rfl hs17 rfl rfl hj20.1 hj20.2.1 hj20.2.2 hu22 ?_
        obtain ⟨r26, hr24, h⟩ := ax_bd h
        refine ax_kV (vs := []) (rest := [.int (x2)]) (q := 50) hX dc_P_placeOfPart_47 rfl mt_T_partLength wl_P_110 wi_T_partLength ws_T_partLength hs23 rfl (c_T_partLength l hty hs23 hr24) rfl (by decide) rfl (Nat.le_of_ble_eq_true rfl) rfl rfl (by decide) (by decide) rfl ?_
        refine ax_iadd (q := 51) hX dc_P_placeOfPart_50 rfl ?_
        refine ax_istore_n (ls' := [some (.ref u0), some (.ref u1), some (.int (x2 + r26)), some (.int (x3))]) (q := 52) hX dc_P_placeOfPart_51 rfl rfl (by decide) rfl ?_
        exact (e_P_placeOfPart_52 hX hF hS0 (d_P_placeOfPart_19 S  n) (ih) I R u0 u1 (x2 + r26) (x3) hty hs0_ hs1_ rfl rfl h)
def d_P_placeOfPart (S : ax_S) (I : ax_I) (R : ax_R) (u0 : Nat) (u1 : Nat) : Option (Int32) :=
  d_P_placeOfPart_19 S  5000 I R u0 u1 ((8 + (2 * (I u0 2))) + (5 * (I u0 3))) (0)
set_option maxHeartbeats 1000000 in
theorem c_P_placeOfPart (l : Launch) {S : ax_S} {I : ax_I} {R : ax_R} {L : ax_L} {u0 : Nat} {u1 : Nat} {out : Int32} (hty : ax_typ S R) (hs0 : S u0 = some (.inl 1)) (hs1 : S u1 = some (.inl 3)) (h : d_P_placeOfPart S I R u0 u1 = some out) : ax_Met l y_P_placeOfPart b_P_placeOfPart 4 (some .int) (ax_rm 2 0 0) [.ref u0, .ref u1] S I R L (ax_eq (some (.int out)) S I R L) := by
  refine ax_enter (own := "LossFreeTools$Picture") (by decide +kernel) rfl (ax_cats rfl) (Nat.le_of_ble_eq_true rfl) (fun X hX hF _ hS0 => ?_)
  show ax_W X 4 0 [some (.ref u0), some (.ref u1), none, none] [] S I R L 0 0
  unfold d_P_placeOfPart at h
  refine ax_bipush (v := 8) (q := 2) hX dc_P_placeOfPart_0 rfl (by decide) ?_
  refine ax_iconst (v := 2) (q := 3) hX dc_P_placeOfPart_2 rfl (by decide) ?_
  refine ax_aload_n (q := 4) hX dc_P_placeOfPart_3 rfl rfl rfl ?_
  refine ax_getI (q := 7) hX dc_P_placeOfPart_4 rfl fl_P_32 rfl hs0 ?_
  refine ax_imul (q := 8) hX dc_P_placeOfPart_7 rfl ?_
  refine ax_iadd (q := 9) hX dc_P_placeOfPart_8 rfl ?_
  refine ax_iconst (v := 5) (q := 10) hX dc_P_placeOfPart_9 rfl (by decide) ?_
  refine ax_aload_n (q := 11) hX dc_P_placeOfPart_10 rfl rfl rfl ?_
  refine ax_getI (q := 14) hX dc_P_placeOfPart_11 rfl fl_P_35 rfl hs0 ?_
  refine ax_imul (q := 15) hX dc_P_placeOfPart_14 rfl ?_
  refine ax_iadd (q := 16) hX dc_P_placeOfPart_15 rfl ?_
  refine ax_istore_n (ls' := [some (.ref u0), some (.ref u1), some (.int ((8 + (2 * (I u0 2))) + (5 * (I u0 3)))), none]) (q := 17) hX dc_P_placeOfPart_16 rfl rfl (by decide) rfl ?_
  refine ax_iconst (v := 0) (q := 18) hX dc_P_placeOfPart_17 rfl (by decide) ?_
  refine ax_istore_n (ls' := [some (.ref u0), some (.ref u1), some (.int ((8 + (2 * (I u0 2))) + (5 * (I u0 3)))), some (.int (0))]) (q := 19) hX dc_P_placeOfPart_18 rfl rfl (by decide) rfl ?_
  exact (e_P_placeOfPart_19 hX hF hS0  5000 I R u0 u1 ((8 + (2 * (I u0 2))) + (5 * (I u0 3))) (0) hty hs0 hs1 rfl rfl h)
def d_S_putNumber (S : ax_S) (I : ax_I) (R : ax_R) (u0 : Nat) (x1 : Int32) : Option (ax_I) :=
  (d_S_putByte S I R u0 (x1 &&& 255)).bind fun I3 =>
  (d_S_putByte S I3 R u0 ((x1 >>> (8 &&& 31)) &&& 255)).bind fun I6 =>
  some (I6)
set_option maxHeartbeats 1000000 in
theorem c_S_putNumber (l : Launch) {S : ax_S} {I : ax_I} {R : ax_R} {L : ax_L} {u0 : Nat} {x1 : Int32} {out : ax_I} (hty : ax_typ S R) (hs0 : S u0 = some (.inl 2)) (h : d_S_putNumber S I R u0 x1 = some out) : ax_Met l y_S_putNumber b_S_putNumber 2 none (ax_rm 2 0 0) [.ref u0, .int x1] S I R L (ax_eq none S out R L) := by
  refine ax_enter (own := "LossFreeTools$Stream") (by decide +kernel) rfl (ax_cats rfl) (Nat.le_of_ble_eq_true rfl) (fun X hX hF _ hS0 => ?_)
  show ax_W X 2 0 [some (.ref u0), some (.int (x1))] [] S I R L 0 0
  unfold d_S_putNumber at h
  refine ax_aload_n (q := 1) hX dc_S_putNumber_0 rfl rfl rfl ?_
  refine ax_iload_n (q := 2) hX dc_S_putNumber_1 rfl rfl rfl ?_
  refine ax_sipush (v := 255) (q := 5) hX dc_S_putNumber_2 rfl (by decide) ?_
  refine ax_iand (q := 6) hX dc_S_putNumber_5 rfl ?_
  obtain ⟨I3, hr1, h⟩ := ax_bd h
  refine ax_kV (vs := [.int (x1 &&& 255)]) (rest := []) (q := 9) hX dc_S_putNumber_6 rfl mt_S_putByte wl_S_28 wi_S_putByte ws_S_putByte hs0 rfl (c_S_putByte l hty hs0 hr1) rfl (by decide) rfl (Nat.le_of_ble_eq_true rfl) rfl rfl (by decide) (by decide) rfl ?_
  refine ax_aload_n (q := 10) hX dc_S_putNumber_9 rfl rfl rfl ?_
  refine ax_iload_n (q := 11) hX dc_S_putNumber_10 rfl rfl rfl ?_
  refine ax_bipush (v := 8) (q := 13) hX dc_S_putNumber_11 rfl (by decide) ?_
  refine ax_ishr (q := 14) hX dc_S_putNumber_13 rfl ?_
  refine ax_sipush (v := 255) (q := 17) hX dc_S_putNumber_14 rfl (by decide) ?_
  refine ax_iand (q := 18) hX dc_S_putNumber_17 rfl ?_
  obtain ⟨I6, hr4, h⟩ := ax_bd h
  refine ax_kV (vs := [.int ((x1 >>> (8 &&& 31)) &&& 255)]) (rest := []) (q := 21) hX dc_S_putNumber_18 rfl mt_S_putByte wl_S_28 wi_S_putByte ws_S_putByte hs0 rfl (c_S_putByte l hty hs0 hr4) rfl (by decide) rfl (Nat.le_of_ble_eq_true rfl) rfl rfl (by decide) (by decide) rfl ?_
  cases h
  exact ax_vret hX hF dc_S_putNumber_21 (by decide) (by decide) ax_eq.mk (by rw [hS0]; exact fun _ _ z => z)
def d_T_liesOnItsSide (S : ax_S) (I : ax_I) (R : ax_R) (u0 : Nat) : Option (Bool) :=
  (d_K_quarters S I R (I u0 6)).bind fun r3 =>
  if (r3 &&& 1) = 1 then
    some (true)
  else
    some (false)
set_option maxHeartbeats 1000000 in
theorem c_T_liesOnItsSide (l : Launch) {S : ax_S} {I : ax_I} {R : ax_R} {L : ax_L} {u0 : Nat} {out : Bool} (hty : ax_typ S R) (hs0 : S u0 = some (.inl 3)) (h : d_T_liesOnItsSide S I R u0 = some out) : ax_Met l y_T_liesOnItsSide b_T_liesOnItsSide 1 (some .boolean) (ax_rm 2 0 0) [.ref u0] S I R L (ax_eq (some (.int (ax_b out))) S I R L) := by
  refine ax_enter (own := "LossFreeTools$Tile") (by decide +kernel) rfl (ax_cats rfl) (Nat.le_of_ble_eq_true rfl) (fun X hX hF _ hS0 => ?_)
  show ax_W X 1 0 [some (.ref u0)] [] S I R L 0 0
  unfold d_T_liesOnItsSide at h
  refine ax_aload_n (q := 1) hX dc_T_liesOnItsSide_0 rfl rfl rfl ?_
  refine ax_getI (q := 4) hX dc_T_liesOnItsSide_1 rfl fl_T_28 rfl hs0 ?_
  obtain ⟨r3, hr1, h⟩ := ax_bd h
  refine ax_kN (host := "LossFreeTools") (vs := [.int (I u0 6)]) (rest := []) (q := 7) hX dc_T_liesOnItsSide_4 rfl mt_K_quarters (by decide +kernel) wt_K_quarters (c_K_quarters l hty  hr1) rfl (by decide) rfl (Nat.le_of_ble_eq_true rfl) rfl rfl (by decide) (by decide) rfl ?_
  refine ax_iconst (v := 1) (q := 8) hX dc_T_liesOnItsSide_7 rfl (by decide) ?_
  refine ax_iand (q := 9) hX dc_T_liesOnItsSide_8 rfl ?_
  refine ax_iconst (v := 1) (q := 10) hX dc_T_liesOnItsSide_9 rfl (by decide) ?_
  refine ax_icmp_ne (tgt := 17) (q := 13) hX dc_T_liesOnItsSide_10 rfl (by decide) (fun z4 => ?_) (fun z4 => ?_)
  · rw [if_neg z4] at h
    refine ax_iconst (v := 0) (q := 18) hX dc_T_liesOnItsSide_17 rfl (by decide) ?_
    cases h
    exact ax_iret hX hF dc_T_liesOnItsSide_18 rfl rfl (by decide) (by decide) ax_eq.mk (by rw [hS0]; exact fun _ _ z => z)
  · rw [if_pos z4] at h
    refine ax_iconst (v := 1) (q := 14) hX dc_T_liesOnItsSide_13 rfl (by decide) ?_
    refine ax_goto (tgt := 18) hX dc_T_liesOnItsSide_14 (by decide) ?_
    cases h
    exact ax_iret hX hF dc_T_liesOnItsSide_18 rfl rfl (by decide) (by decide) ax_eq.mk (by rw [hS0]; exact fun _ _ z => z)
def d_T_ownSample_92 (S : ax_S) (I : ax_I) (R : ax_R) (x3 : Int32) (x4 : Int32) : Option (Int32) :=
  some ((64 * x4) + x3)
set_option maxHeartbeats 1000000 in
theorem e_T_ownSample_92 {l : Launch} {X : ax_X} {S : ax_S} {L : ax_L} {I0 : ax_I} {R0 : ax_R} {out : Int32} (hX : ax_ok X l "LossFreeTools$Tile" b_T_ownSample 10 (ax_rm 2 0 0)) (hF : ax_fin X (some .int) 0 0 (ax_of (ax_eq (some (.int out)) S I0 R0 L))) (hS0 : ax_S0 X = S) : ∀ (I : ax_I) (R : ax_R) (x3 : Int32) (x4 : Int32), ax_typ S R → I = I0 → R = R0 → d_T_ownSample_92 S  I R x3 x4 = some out → ax_W X 10 92 [none, none, none, some (.int (x3)), some (.int (x4)), none, none, none, none, none] [] S I R L 0 0 := by
  rintro I R x3 x4 hty hI0 hR0 h
  subst hI0
  subst hR0
  unfold d_T_ownSample_92 at h
  refine ax_bipush (v := 64) (q := 94) hX dc_T_ownSample_92 rfl (by decide) ?_
  refine ax_iload (q := 96) hX dc_T_ownSample_94 rfl rfl ?_
  refine ax_imul (q := 97) hX dc_T_ownSample_96 rfl ?_
  refine ax_iload_n (q := 98) hX dc_T_ownSample_97 rfl rfl rfl ?_
  refine ax_iadd (q := 99) hX dc_T_ownSample_98 rfl ?_
  cases h
  exact ax_iret hX hF dc_T_ownSample_99 rfl rfl (by decide) (by decide) ax_eq.mk (by rw [hS0]; exact fun _ _ z => z)
def d_T_ownSample_30 (S : ax_S) : Nat → ax_I → ax_R → Nat → Int32 → Int32 → Int32 → Int32 → Int32 → Option (Int32)
  | 0, _, _, _, _, _, _, _, _ => none
  | n + 1, I, R, u0, x3, x4, x5, x6, x7 =>
    (d_K_quarters S I R (I u0 6)).bind fun r3 =>
    if r3 ≤ x7 then
      (d_K_mirrors S I R (I u0 6)).bind fun r7 =>
      if (ax_b r7) = 0 then
        d_T_ownSample_92 S  I R (x3) (x4)
      else
        d_T_ownSample_92 S  I R ((x5 - 1) - x3) (x4)
    else
      d_T_ownSample_30 S  n I R u0 (x4) ((x5 - 1) - x3) (x6) (x5) (x7 + 1)
set_option maxHeartbeats 1000000 in
theorem e_T_ownSample_30 {l : Launch} {X : ax_X} {S : ax_S} {L : ax_L} {I0 : ax_I} {R0 : ax_R} {out : Int32} (hX : ax_ok X l "LossFreeTools$Tile" b_T_ownSample 10 (ax_rm 2 0 0)) (hF : ax_fin X (some .int) 0 0 (ax_of (ax_eq (some (.int out)) S I0 R0 L))) (hS0 : ax_S0 X = S) : ∀ (n : Nat), ∀ (I : ax_I) (R : ax_R) (u0 : Nat) (x3 : Int32) (x4 : Int32) (x5 : Int32) (x6 : Int32) (x7 : Int32), ax_typ S R → (S u0 = some (.inl 3)) → I = I0 → R = R0 → d_T_ownSample_30 S  n I R u0 x3 x4 x5 x6 x7 = some out → ax_W X 10 30 [some (.ref u0), none, none, some (.int (x3)), some (.int (x4)), some (.int (x5)), some (.int (x6)), some (.int (x7)), none, none] [] S I R L 0 0 := by
  intro n
  induction n with
  | zero =>
    rintro I R u0 x3 x4 x5 x6 x7 hty hs0_ hI0 hR0 h
    cases h
  | succ n ih =>
    rintro I R u0 x3 x4 x5 x6 x7 hty hs0_ hI0 hR0 h
    subst hI0
    subst hR0
    unfold d_T_ownSample_30 at h
    refine ax_iload (q := 32) hX dc_T_ownSample_30 rfl rfl ?_
    refine ax_aload_n (q := 33) hX dc_T_ownSample_32 rfl rfl rfl ?_
    refine ax_getI (q := 36) hX dc_T_ownSample_33 rfl fl_T_28 rfl hs0_ ?_
    obtain ⟨r3, hr1, h⟩ := ax_bd h
    refine ax_kN (host := "LossFreeTools") (vs := [.int (I u0 6)]) (rest := [.int (x7)]) (q := 39) hX dc_T_ownSample_36 rfl mt_K_quarters (by decide +kernel) wt_K_quarters (c_K_quarters l hty  hr1) rfl (by decide) rfl (Nat.le_of_ble_eq_true rfl) rfl rfl (by decide) (by decide) rfl ?_
    refine ax_icmp_ge (tgt := 75) (q := 42) hX dc_T_ownSample_39 rfl (by decide) (fun z4 => ?_) (fun z4 => ?_)
    · rw [if_pos z4] at h
      refine ax_aload_n (q := 76) hX dc_T_ownSample_75 rfl rfl rfl ?_
      refine ax_getI (q := 79) hX dc_T_ownSample_76 rfl fl_T_28 rfl hs0_ ?_
      obtain ⟨r7, hr5, h⟩ := ax_bd h
      refine ax_kN (host := "LossFreeTools") (vs := [.int (I u0 6)]) (rest := []) (q := 82) hX dc_T_ownSample_79 rfl mt_K_mirrors (by decide +kernel) wt_K_mirrors (c_K_mirrors l hty  hr5) rfl (by decide) rfl (Nat.le_of_ble_eq_true rfl) rfl rfl (by decide) (by decide) rfl ?_
      refine ax_if_eq (tgt := 92) (q := 85) hX dc_T_ownSample_82 rfl (by decide) (fun z8 => ?_) (fun z8 => ?_)
      · rw [if_pos z8] at h
        exact ax_weak (ls' := [none, none, none, some (.int (x3)), some (.int (x4)), none, none, none, none, none]) (ax_fewP_s _ _ (by repeat (first | exact trivial | (refine And.intro rfl ?_)))) (e_T_ownSample_92 hX hF hS0  I R (x3) (x4) hty  rfl rfl h)
      · rw [if_neg z8] at h
        refine ax_iload (q := 87) hX dc_T_ownSample_85 rfl rfl ?_
        refine ax_iconst (v := 1) (q := 88) hX dc_T_ownSample_87 rfl (by decide) ?_
        refine ax_isub (q := 89) hX dc_T_ownSample_88 rfl ?_
        refine ax_iload_n (q := 90) hX dc_T_ownSample_89 rfl rfl rfl ?_
        refine ax_isub (q := 91) hX dc_T_ownSample_90 rfl ?_
        refine ax_istore_n (ls' := [some (.ref u0), none, none, some (.int ((x5 - 1) - x3)), some (.int (x4)), some (.int (x5)), some (.int (x6)), some (.int (x7)), none, none]) (q := 92) hX dc_T_ownSample_91 rfl rfl (by decide) rfl ?_
        exact ax_weak (ls' := [none, none, none, some (.int ((x5 - 1) - x3)), some (.int (x4)), none, none, none, none, none]) (ax_fewP_s _ _ (by repeat (first | exact trivial | (refine And.intro rfl ?_)))) (e_T_ownSample_92 hX hF hS0  I R ((x5 - 1) - x3) (x4) hty  rfl rfl h)
    · rw [if_neg z4] at h
      refine ax_iload_n (q := 43) hX dc_T_ownSample_42 rfl rfl rfl ?_
      refine ax_istore (ls' := [some (.ref u0), none, none, some (.int (x3)), some (.int (x4)), some (.int (x5)), some (.int (x6)), some (.int (x7)), some (.int (x3)), none]) (q := 45) hX dc_T_ownSample_43 rfl (by decide) rfl ?_
      refine ax_iload (q := 47) hX dc_T_ownSample_45 rfl rfl ?_
      refine ax_istore_n (ls' := [some (.ref u0), none, none, some (.int (x4)), some (.int (x4)), some (.int (x5)), some (.int (x6)), some (.int (x7)), some (.int (x3)), none]) (q := 48) hX dc_T_ownSample_47 rfl rfl (by decide) rfl ?_
      refine ax_iload (q := 50) hX dc_T_ownSample_48 rfl rfl ?_
      refine ax_iconst (v := 1) (q := 51) hX dc_T_ownSample_50 rfl (by decide) ?_
      refine ax_isub (q := 52) hX dc_T_ownSample_51 rfl ?_
      refine ax_iload (q := 54) hX dc_T_ownSample_52 rfl rfl ?_
      refine ax_isub (q := 55) hX dc_T_ownSample_54 rfl ?_
      refine ax_istore (ls' := [some (.ref u0), none, none, some (.int (x4)), some (.int ((x5 - 1) - x3)), some (.int (x5)), some (.int (x6)), some (.int (x7)), some (.int (x3)), none]) (q := 57) hX dc_T_ownSample_55 rfl (by decide) rfl ?_
      refine ax_iload (q := 59) hX dc_T_ownSample_57 rfl rfl ?_
      refine ax_istore (ls' := [some (.ref u0), none, none, some (.int (x4)), some (.int ((x5 - 1) - x3)), some (.int (x5)), some (.int (x6)), some (.int (x7)), some (.int (x3)), some (.int (x5))]) (q := 61) hX dc_T_ownSample_59 rfl (by decide) rfl ?_
      refine ax_iload (q := 63) hX dc_T_ownSample_61 rfl rfl ?_
      refine ax_istore (ls' := [some (.ref u0), none, none, some (.int (x4)), some (.int ((x5 - 1) - x3)), some (.int (x6)), some (.int (x6)), some (.int (x7)), some (.int (x3)), some (.int (x5))]) (q := 65) hX dc_T_ownSample_63 rfl (by decide) rfl ?_
      refine ax_iload (q := 67) hX dc_T_ownSample_65 rfl rfl ?_
      refine ax_istore (ls' := [some (.ref u0), none, none, some (.int (x4)), some (.int ((x5 - 1) - x3)), some (.int (x6)), some (.int (x5)), some (.int (x7)), some (.int (x3)), some (.int (x5))]) (q := 69) hX dc_T_ownSample_67 rfl (by decide) rfl ?_
      refine ax_iinc (v := x7 + 1) (ls' := [some (.ref u0), none, none, some (.int (x4)), some (.int ((x5 - 1) - x3)), some (.int (x6)), some (.int (x5)), some (.int (x7 + 1)), some (.int (x3)), some (.int (x5))]) (q := 72) hX dc_T_ownSample_69 rfl rfl rfl (by decide) rfl ?_
      refine ax_goto (tgt := 30) hX dc_T_ownSample_72 (by decide) ?_
      exact ax_weak (ls' := [some (.ref u0), none, none, some (.int (x4)), some (.int ((x5 - 1) - x3)), some (.int (x6)), some (.int (x5)), some (.int (x7 + 1)), none, none]) (ax_fewP_s _ _ (by repeat (first | exact trivial | (refine And.intro rfl ?_)))) (ih I R u0 (x4) ((x5 - 1) - x3) (x6) (x5) (x7 + 1) hty hs0_ rfl rfl h)
def d_T_ownSample (S : ax_S) (I : ax_I) (R : ax_R) (u0 : Nat) (x1 : Int32) (x2 : Int32) : Option (Int32) :=
  d_T_ownSample_30 S  5000 I R u0 (x1 - (I u0 2)) (x2 - (I u0 3)) (I u0 4) (I u0 5) (0)
set_option maxHeartbeats 1000000 in
theorem c_T_ownSample (l : Launch) {S : ax_S} {I : ax_I} {R : ax_R} {L : ax_L} {u0 : Nat} {x1 : Int32} {x2 : Int32} {out : Int32} (hty : ax_typ S R) (hs0 : S u0 = some (.inl 3)) (h : d_T_ownSample S I R u0 x1 x2 = some out) : ax_Met l y_T_ownSample b_T_ownSample 10 (some .int) (ax_rm 2 0 0) [.ref u0, .int x1, .int x2] S I R L (ax_eq (some (.int out)) S I R L) := by
  refine ax_enter (own := "LossFreeTools$Tile") (by decide +kernel) rfl (ax_cats rfl) (Nat.le_of_ble_eq_true rfl) (fun X hX hF _ hS0 => ?_)
  show ax_W X 10 0 [some (.ref u0), some (.int (x1)), some (.int (x2)), none, none, none, none, none, none, none] [] S I R L 0 0
  unfold d_T_ownSample at h
  refine ax_iload_n (q := 1) hX dc_T_ownSample_0 rfl rfl rfl ?_
  refine ax_aload_n (q := 2) hX dc_T_ownSample_1 rfl rfl rfl ?_
  refine ax_getI (q := 5) hX dc_T_ownSample_2 rfl fl_T_15 rfl hs0 ?_
  refine ax_isub (q := 6) hX dc_T_ownSample_5 rfl ?_
  refine ax_istore_n (ls' := [some (.ref u0), some (.int (x1)), some (.int (x2)), some (.int (x1 - (I u0 2))), none, none, none, none, none, none]) (q := 7) hX dc_T_ownSample_6 rfl rfl (by decide) rfl ?_
  refine ax_iload_n (q := 8) hX dc_T_ownSample_7 rfl rfl rfl ?_
  refine ax_aload_n (q := 9) hX dc_T_ownSample_8 rfl rfl rfl ?_
  refine ax_getI (q := 12) hX dc_T_ownSample_9 rfl fl_T_19 rfl hs0 ?_
  refine ax_isub (q := 13) hX dc_T_ownSample_12 rfl ?_
  refine ax_istore (ls' := [some (.ref u0), some (.int (x1)), some (.int (x2)), some (.int (x1 - (I u0 2))), some (.int (x2 - (I u0 3))), none, none, none, none, none]) (q := 15) hX dc_T_ownSample_13 rfl (by decide) rfl ?_
  refine ax_aload_n (q := 16) hX dc_T_ownSample_15 rfl rfl rfl ?_
  refine ax_getI (q := 19) hX dc_T_ownSample_16 rfl fl_T_22 rfl hs0 ?_
  refine ax_istore (ls' := [some (.ref u0), some (.int (x1)), some (.int (x2)), some (.int (x1 - (I u0 2))), some (.int (x2 - (I u0 3))), some (.int (I u0 4)), none, none, none, none]) (q := 21) hX dc_T_ownSample_19 rfl (by decide) rfl ?_
  refine ax_aload_n (q := 22) hX dc_T_ownSample_21 rfl rfl rfl ?_
  refine ax_getI (q := 25) hX dc_T_ownSample_22 rfl fl_T_25 rfl hs0 ?_
  refine ax_istore (ls' := [some (.ref u0), some (.int (x1)), some (.int (x2)), some (.int (x1 - (I u0 2))), some (.int (x2 - (I u0 3))), some (.int (I u0 4)), some (.int (I u0 5)), none, none, none]) (q := 27) hX dc_T_ownSample_25 rfl (by decide) rfl ?_
  refine ax_iconst (v := 0) (q := 28) hX dc_T_ownSample_27 rfl (by decide) ?_
  refine ax_istore (ls' := [some (.ref u0), some (.int (x1)), some (.int (x2)), some (.int (x1 - (I u0 2))), some (.int (x2 - (I u0 3))), some (.int (I u0 4)), some (.int (I u0 5)), some (.int (0)), none, none]) (q := 30) hX dc_T_ownSample_28 rfl (by decide) rfl ?_
  exact ax_weak (ls' := [some (.ref u0), none, none, some (.int (x1 - (I u0 2))), some (.int (x2 - (I u0 3))), some (.int (I u0 4)), some (.int (I u0 5)), some (.int (0)), none, none]) (ax_fewP_s _ _ (by repeat (first | exact trivial | (refine And.intro rfl ?_)))) (e_T_ownSample_30 hX hF hS0  5000 I R u0 (x1 - (I u0 2)) (x2 - (I u0 3)) (I u0 4) (I u0 5) (0) hty hs0 rfl rfl h)
def d_K_clear (S : ax_S) (I : ax_I) (R : ax_R) (u0 : Nat) : Option (ax_I) :=
  (R u0 4).bind fun u1 =>
  (d_P_startAnew S I R u1 (I u0 0) (I u0 1)).bind fun I6 =>
  (R u0 5).bind fun u7 =>
  (d_P_startAnew S I6 R u7 (I6 u0 0) (I6 u0 1)).bind fun I12 =>
  (R u0 2).bind fun u13 =>
  (d_S_empty S I12 R u13).bind fun I18 =>
  (some (ax_up I18 u0 6 (0))).bind fun I19 =>
  (some (ax_up I19 u0 7 (0))).bind fun I21 =>
  some (I21)
set_option maxHeartbeats 1000000 in
theorem c_K_clear (l : Launch) {S : ax_S} {I : ax_I} {R : ax_R} {L : ax_L} {u0 : Nat} {out : ax_I} (hty : ax_typ S R) (hs0 : S u0 = some (.inl 4)) (h : d_K_clear S I R u0 = some out) : ax_Met l y_K_clear b_K_clear 1 none (ax_rm 2 0 0) [.ref u0] S I R L (ax_eq none S out R L) := by
  refine ax_enter (own := "LossFreeTools") (by decide +kernel) rfl (ax_cats rfl) (Nat.le_of_ble_eq_true rfl) (fun X hX hF _ hS0 => ?_)
  show ax_W X 1 0 [some (.ref u0)] [] S I R L 0 0
  unfold d_K_clear at h
  refine ax_aload_n (q := 1) hX dc_K_clear_0 rfl rfl rfl ?_
  obtain ⟨u1, hu2, h⟩ := ax_bd h
  have hs3 : S u1 = some (.inl 1) := hty.1 _ _ _ _ hs0 hu2
  refine ax_getR (q := 4) hX dc_K_clear_1 rfl fl_K_36 rfl hs0 hu2 ?_
  refine ax_aload_n (q := 5) hX dc_K_clear_4 rfl rfl rfl ?_
  refine ax_getI (q := 8) hX dc_K_clear_5 rfl fl_K_13 rfl hs0 ?_
  refine ax_aload_n (q := 9) hX dc_K_clear_8 rfl rfl rfl ?_
  refine ax_getI (q := 12) hX dc_K_clear_9 rfl fl_K_17 rfl hs0 ?_
  obtain ⟨I6, hr4, h⟩ := ax_bd h
  refine ax_kV (vs := [.int (I u0 0), .int (I u0 1)]) (rest := []) (q := 15) hX dc_K_clear_12 rfl mt_P_startAnew wl_K_249 wi_P_startAnew ws_P_startAnew hs3 rfl (c_P_startAnew l hty hs3 hr4) rfl (by decide) rfl (Nat.le_of_ble_eq_true rfl) rfl rfl (by decide) (by decide) rfl ?_
  refine ax_aload_n (q := 16) hX dc_K_clear_15 rfl rfl rfl ?_
  obtain ⟨u7, hu8, h⟩ := ax_bd h
  have hs9 : S u7 = some (.inl 1) := hty.1 _ _ _ _ hs0 hu8
  refine ax_getR (q := 19) hX dc_K_clear_16 rfl fl_K_40 rfl hs0 hu8 ?_
  refine ax_aload_n (q := 20) hX dc_K_clear_19 rfl rfl rfl ?_
  refine ax_getI (q := 23) hX dc_K_clear_20 rfl fl_K_13 rfl hs0 ?_
  refine ax_aload_n (q := 24) hX dc_K_clear_23 rfl rfl rfl ?_
  refine ax_getI (q := 27) hX dc_K_clear_24 rfl fl_K_17 rfl hs0 ?_
  obtain ⟨I12, hr10, h⟩ := ax_bd h
  refine ax_kV (vs := [.int (I6 u0 0), .int (I6 u0 1)]) (rest := []) (q := 30) hX dc_K_clear_27 rfl mt_P_startAnew wl_K_249 wi_P_startAnew ws_P_startAnew hs9 rfl (c_P_startAnew l hty hs9 hr10) rfl (by decide) rfl (Nat.le_of_ble_eq_true rfl) rfl rfl (by decide) (by decide) rfl ?_
  refine ax_aload_n (q := 31) hX dc_K_clear_30 rfl rfl rfl ?_
  obtain ⟨u13, hu14, h⟩ := ax_bd h
  have hs15 : S u13 = some (.inl 2) := hty.1 _ _ _ _ hs0 hu14
  refine ax_getR (q := 34) hX dc_K_clear_31 rfl fl_K_23 rfl hs0 hu14 ?_
  obtain ⟨I18, hr16, h⟩ := ax_bd h
  refine ax_kV (vs := []) (rest := []) (q := 37) hX dc_K_clear_34 rfl mt_S_empty wl_K_222 wi_S_empty ws_S_empty hs15 rfl (c_S_empty l hty hs15 hr16) rfl (by decide) rfl (Nat.le_of_ble_eq_true rfl) rfl rfl (by decide) (by decide) rfl ?_
  refine ax_aload_n (q := 38) hX dc_K_clear_37 rfl rfl rfl ?_
  refine ax_iconst (v := 0) (q := 39) hX dc_K_clear_38 rfl (by decide) ?_
  obtain ⟨I19, e20, h⟩ := ax_bs h
  refine ax_putI (q := 42) hX dc_K_clear_39 rfl fl_K_43 rfl hs0 (fun z => by cases z) rfl rfl e20 ?_
  refine ax_aload_n (q := 43) hX dc_K_clear_42 rfl rfl rfl ?_
  refine ax_iconst (v := 0) (q := 44) hX dc_K_clear_43 rfl (by decide) ?_
  obtain ⟨I21, e22, h⟩ := ax_bs h
  refine ax_putI (q := 47) hX dc_K_clear_44 rfl fl_K_46 rfl hs0 (fun z => by cases z) rfl rfl e22 ?_
  cases h
  exact ax_vret hX hF dc_K_clear_47 (by decide) (by decide) ax_eq.mk (by rw [hS0]; exact fun _ _ z => z)
