def d_N_startAnew (S : ax_S) (I : ax_I) (R : ax_R) (u0 : Nat) (x1 : Int32) (x2 : Int32) (x3 : Int32) : Option (ax_I) :=
  (some (ax_up I u0 0 (x1))).bind fun I1 =>
  (some (ax_up I1 u0 1 (x2))).bind fun I3 =>
  (some (ax_up I3 u0 2 (x3))).bind fun I5 =>
  some (I5)
set_option maxHeartbeats 1000000 in
theorem c_N_startAnew (l : Launch) {S : ax_S} {I : ax_I} {R : ax_R} {L : ax_L} {u0 : Nat} {x1 : Int32} {x2 : Int32} {x3 : Int32} {out : ax_I} (hty : ax_typ S R) (hs0 : S u0 = some (.inl 0)) (h : d_N_startAnew S I R u0 x1 x2 x3 = some out) : ax_Met l y_N_startAnew b_N_startAnew 4 none (ax_rm 1 0 0) [.ref u0, .int x1, .int x2, .int x3] S I R L (ax_eq none S out R L) := by
  refine ax_enter (own := "LossFreeTools$Note") (by decide +kernel) rfl (ax_cats rfl) (Nat.le_of_ble_eq_true rfl) (fun X hX hF _ hS0 => ?_)
  show ax_W X 4 0 [some (.ref u0), some (.int (x1)), some (.int (x2)), some (.int (x3))] [] S I R L 0 0
  unfold d_N_startAnew at h
  refine ax_aload_n (q := 1) hX dc_N_startAnew_0 rfl rfl rfl ?_
  refine ax_iload_n (q := 2) hX dc_N_startAnew_1 rfl rfl rfl ?_
  obtain ⟨I1, e2, h⟩ := ax_bs h
  refine ax_putI (q := 5) hX dc_N_startAnew_2 rfl fl_N_7 rfl hs0 (fun z => by cases z) rfl rfl e2 ?_
  refine ax_aload_n (q := 6) hX dc_N_startAnew_5 rfl rfl rfl ?_
  refine ax_iload_n (q := 7) hX dc_N_startAnew_6 rfl rfl rfl ?_
  obtain ⟨I3, e4, h⟩ := ax_bs h
  refine ax_putI (q := 10) hX dc_N_startAnew_7 rfl fl_N_13 rfl hs0 (fun z => by cases z) rfl rfl e4 ?_
  refine ax_aload_n (q := 11) hX dc_N_startAnew_10 rfl rfl rfl ?_
  refine ax_iload_n (q := 12) hX dc_N_startAnew_11 rfl rfl rfl ?_
  obtain ⟨I5, e6, h⟩ := ax_bs h
  refine ax_putI (q := 15) hX dc_N_startAnew_12 rfl fl_N_16 rfl hs0 (fun z => by cases z) rfl rfl e6 ?_
  cases h
  exact ax_vret hX hF dc_N_startAnew_15 (by decide) (by decide) ax_eq.mk (by rw [hS0]; exact fun _ _ z => z)
def d_N_isWithin (S : ax_S) (I : ax_I) (R : ax_R) (u0 : Nat) (x1 : Int32) (x2 : Int32) (x3 : Int32) (x4 : Int32) : Option (Bool) :=
  if (I u0 0) < x1 then
    some (false)
  else
    if (I u0 1) < x2 then
      some (false)
    else
      if x3 ≤ (I u0 0) then
        some (false)
      else
        if x4 ≤ (I u0 1) then
          some (false)
        else
          some (true)
set_option maxHeartbeats 1000000 in
theorem c_N_isWithin (l : Launch) {S : ax_S} {I : ax_I} {R : ax_R} {L : ax_L} {u0 : Nat} {x1 : Int32} {x2 : Int32} {x3 : Int32} {x4 : Int32} {out : Bool} (hty : ax_typ S R) (hs0 : S u0 = some (.inl 0)) (h : d_N_isWithin S I R u0 x1 x2 x3 x4 = some out) : ax_Met l y_N_isWithin b_N_isWithin 5 (some .boolean) (ax_rm 1 0 0) [.ref u0, .int x1, .int x2, .int x3, .int x4] S I R L (ax_eq (some (.int (ax_b out))) S I R L) := by
  refine ax_enter (own := "LossFreeTools$Note") (by decide +kernel) rfl (ax_cats rfl) (Nat.le_of_ble_eq_true rfl) (fun X hX hF _ hS0 => ?_)
  show ax_W X 5 0 [some (.ref u0), some (.int (x1)), some (.int (x2)), some (.int (x3)), some (.int (x4))] [] S I R L 0 0
  unfold d_N_isWithin at h
  refine ax_aload_n (q := 1) hX dc_N_isWithin_0 rfl rfl rfl ?_
  refine ax_getI (q := 4) hX dc_N_isWithin_1 rfl fl_N_7 rfl hs0 ?_
  refine ax_iload_n (q := 5) hX dc_N_isWithin_4 rfl rfl rfl ?_
  refine ax_icmp_lt (tgt := 37) (q := 8) hX dc_N_isWithin_5 rfl (by decide) (fun z1 => ?_) (fun z1 => ?_)
  · rw [if_pos z1] at h
    refine ax_iconst (v := 0) (q := 38) hX dc_N_isWithin_37 rfl (by decide) ?_
    cases h
    exact ax_iret hX hF dc_N_isWithin_38 rfl rfl (by decide) (by decide) ax_eq.mk (by rw [hS0]; exact fun _ _ z => z)
  · rw [if_neg z1] at h
    refine ax_aload_n (q := 9) hX dc_N_isWithin_8 rfl rfl rfl ?_
    refine ax_getI (q := 12) hX dc_N_isWithin_9 rfl fl_N_13 rfl hs0 ?_
    refine ax_iload_n (q := 13) hX dc_N_isWithin_12 rfl rfl rfl ?_
    refine ax_icmp_lt (tgt := 37) (q := 16) hX dc_N_isWithin_13 rfl (by decide) (fun z2 => ?_) (fun z2 => ?_)
    · rw [if_pos z2] at h
      refine ax_iconst (v := 0) (q := 38) hX dc_N_isWithin_37 rfl (by decide) ?_
      cases h
      exact ax_iret hX hF dc_N_isWithin_38 rfl rfl (by decide) (by decide) ax_eq.mk (by rw [hS0]; exact fun _ _ z => z)
    · rw [if_neg z2] at h
      refine ax_aload_n (q := 17) hX dc_N_isWithin_16 rfl rfl rfl ?_
      refine ax_getI (q := 20) hX dc_N_isWithin_17 rfl fl_N_7 rfl hs0 ?_
      refine ax_iload_n (q := 21) hX dc_N_isWithin_20 rfl rfl rfl ?_
      refine ax_icmp_ge (tgt := 37) (q := 24) hX dc_N_isWithin_21 rfl (by decide) (fun z3 => ?_) (fun z3 => ?_)
      · rw [if_pos z3] at h
        refine ax_iconst (v := 0) (q := 38) hX dc_N_isWithin_37 rfl (by decide) ?_
        cases h
        exact ax_iret hX hF dc_N_isWithin_38 rfl rfl (by decide) (by decide) ax_eq.mk (by rw [hS0]; exact fun _ _ z => z)
      · rw [if_neg z3] at h
        refine ax_aload_n (q := 25) hX dc_N_isWithin_24 rfl rfl rfl ?_
        refine ax_getI (q := 28) hX dc_N_isWithin_25 rfl fl_N_13 rfl hs0 ?_
        refine ax_iload (q := 30) hX dc_N_isWithin_28 rfl rfl ?_
        refine ax_icmp_ge (tgt := 37) (q := 33) hX dc_N_isWithin_30 rfl (by decide) (fun z4 => ?_) (fun z4 => ?_)
        · rw [if_pos z4] at h
          refine ax_iconst (v := 0) (q := 38) hX dc_N_isWithin_37 rfl (by decide) ?_
          cases h
          exact ax_iret hX hF dc_N_isWithin_38 rfl rfl (by decide) (by decide) ax_eq.mk (by rw [hS0]; exact fun _ _ z => z)
        · rw [if_neg z4] at h
          refine ax_iconst (v := 1) (q := 34) hX dc_N_isWithin_33 rfl (by decide) ?_
          refine ax_goto (tgt := 38) hX dc_N_isWithin_34 (by decide) ?_
          cases h
          exact ax_iret hX hF dc_N_isWithin_38 rfl rfl (by decide) (by decide) ax_eq.mk (by rw [hS0]; exact fun _ _ z => z)
def d_N_moveBy (S : ax_S) (I : ax_I) (R : ax_R) (u0 : Nat) (x1 : Int32) (x2 : Int32) : Option (ax_I) :=
  (some (ax_up I u0 0 ((I u0 0) + x1))).bind fun I1 =>
  (some (ax_up I1 u0 1 ((I1 u0 1) + x2))).bind fun I3 =>
  some (I3)
set_option maxHeartbeats 1000000 in
theorem c_N_moveBy (l : Launch) {S : ax_S} {I : ax_I} {R : ax_R} {L : ax_L} {u0 : Nat} {x1 : Int32} {x2 : Int32} {out : ax_I} (hty : ax_typ S R) (hs0 : S u0 = some (.inl 0)) (h : d_N_moveBy S I R u0 x1 x2 = some out) : ax_Met l y_N_moveBy b_N_moveBy 3 none (ax_rm 1 0 0) [.ref u0, .int x1, .int x2] S I R L (ax_eq none S out R L) := by
  refine ax_enter (own := "LossFreeTools$Note") (by decide +kernel) rfl (ax_cats rfl) (Nat.le_of_ble_eq_true rfl) (fun X hX hF _ hS0 => ?_)
  show ax_W X 3 0 [some (.ref u0), some (.int (x1)), some (.int (x2))] [] S I R L 0 0
  unfold d_N_moveBy at h
  refine ax_aload_n (q := 1) hX dc_N_moveBy_0 rfl rfl rfl ?_
  refine ax_dup (q := 2) hX dc_N_moveBy_1 rfl rfl ?_
  refine ax_getI (q := 5) hX dc_N_moveBy_2 rfl fl_N_7 rfl hs0 ?_
  refine ax_iload_n (q := 6) hX dc_N_moveBy_5 rfl rfl rfl ?_
  refine ax_iadd (q := 7) hX dc_N_moveBy_6 rfl ?_
  obtain ⟨I1, e2, h⟩ := ax_bs h
  refine ax_putI (q := 10) hX dc_N_moveBy_7 rfl fl_N_7 rfl hs0 (fun z => by cases z) rfl rfl e2 ?_
  refine ax_aload_n (q := 11) hX dc_N_moveBy_10 rfl rfl rfl ?_
  refine ax_dup (q := 12) hX dc_N_moveBy_11 rfl rfl ?_
  refine ax_getI (q := 15) hX dc_N_moveBy_12 rfl fl_N_13 rfl hs0 ?_
  refine ax_iload_n (q := 16) hX dc_N_moveBy_15 rfl rfl rfl ?_
  refine ax_iadd (q := 17) hX dc_N_moveBy_16 rfl ?_
  obtain ⟨I3, e4, h⟩ := ax_bs h
  refine ax_putI (q := 20) hX dc_N_moveBy_17 rfl fl_N_13 rfl hs0 (fun z => by cases z) rfl rfl e4 ?_
  cases h
  exact ax_vret hX hF dc_N_moveBy_20 (by decide) (by decide) ax_eq.mk (by rw [hS0]; exact fun _ _ z => z)
def d_N_mirrorIn (S : ax_S) (I : ax_I) (R : ax_R) (u0 : Nat) (x1 : Int32) : Option (ax_I) :=
  (some (ax_up I u0 0 ((x1 - 1) - (I u0 0)))).bind fun I1 =>
  some (I1)
set_option maxHeartbeats 1000000 in
theorem c_N_mirrorIn (l : Launch) {S : ax_S} {I : ax_I} {R : ax_R} {L : ax_L} {u0 : Nat} {x1 : Int32} {out : ax_I} (hty : ax_typ S R) (hs0 : S u0 = some (.inl 0)) (h : d_N_mirrorIn S I R u0 x1 = some out) : ax_Met l y_N_mirrorIn b_N_mirrorIn 2 none (ax_rm 1 0 0) [.ref u0, .int x1] S I R L (ax_eq none S out R L) := by
  refine ax_enter (own := "LossFreeTools$Note") (by decide +kernel) rfl (ax_cats rfl) (Nat.le_of_ble_eq_true rfl) (fun X hX hF _ hS0 => ?_)
  show ax_W X 2 0 [some (.ref u0), some (.int (x1))] [] S I R L 0 0
  unfold d_N_mirrorIn at h
  refine ax_aload_n (q := 1) hX dc_N_mirrorIn_0 rfl rfl rfl ?_
  refine ax_iload_n (q := 2) hX dc_N_mirrorIn_1 rfl rfl rfl ?_
  refine ax_iconst (v := 1) (q := 3) hX dc_N_mirrorIn_2 rfl (by decide) ?_
  refine ax_isub (q := 4) hX dc_N_mirrorIn_3 rfl ?_
  refine ax_aload_n (q := 5) hX dc_N_mirrorIn_4 rfl rfl rfl ?_
  refine ax_getI (q := 8) hX dc_N_mirrorIn_5 rfl fl_N_7 rfl hs0 ?_
  refine ax_isub (q := 9) hX dc_N_mirrorIn_8 rfl ?_
  obtain ⟨I1, e2, h⟩ := ax_bs h
  refine ax_putI (q := 12) hX dc_N_mirrorIn_9 rfl fl_N_7 rfl hs0 (fun z => by cases z) rfl rfl e2 ?_
  cases h
  exact ax_vret hX hF dc_N_mirrorIn_12 (by decide) (by decide) ax_eq.mk (by rw [hS0]; exact fun _ _ z => z)
def d_N_quarterIn (S : ax_S) (I : ax_I) (R : ax_R) (u0 : Nat) (x1 : Int32) : Option (ax_I) :=
  (some (ax_up I u0 1 (I u0 0))).bind fun I1 =>
  (some (ax_up I1 u0 0 ((x1 - 1) - (I u0 1)))).bind fun I3 =>
  some (I3)
set_option maxHeartbeats 1000000 in
theorem c_N_quarterIn (l : Launch) {S : ax_S} {I : ax_I} {R : ax_R} {L : ax_L} {u0 : Nat} {x1 : Int32} {out : ax_I} (hty : ax_typ S R) (hs0 : S u0 = some (.inl 0)) (h : d_N_quarterIn S I R u0 x1 = some out) : ax_Met l y_N_quarterIn b_N_quarterIn 3 none (ax_rm 1 0 0) [.ref u0, .int x1] S I R L (ax_eq none S out R L) := by
  refine ax_enter (own := "LossFreeTools$Note") (by decide +kernel) rfl (ax_cats rfl) (Nat.le_of_ble_eq_true rfl) (fun X hX hF _ hS0 => ?_)
  show ax_W X 3 0 [some (.ref u0), some (.int (x1)), none] [] S I R L 0 0
  unfold d_N_quarterIn at h
  refine ax_iload_n (q := 1) hX dc_N_quarterIn_0 rfl rfl rfl ?_
  refine ax_iconst (v := 1) (q := 2) hX dc_N_quarterIn_1 rfl (by decide) ?_
  refine ax_isub (q := 3) hX dc_N_quarterIn_2 rfl ?_
  refine ax_aload_n (q := 4) hX dc_N_quarterIn_3 rfl rfl rfl ?_
  refine ax_getI (q := 7) hX dc_N_quarterIn_4 rfl fl_N_13 rfl hs0 ?_
  refine ax_isub (q := 8) hX dc_N_quarterIn_7 rfl ?_
  refine ax_istore_n (ls' := [some (.ref u0), some (.int (x1)), some (.int ((x1 - 1) - (I u0 1)))]) (q := 9) hX dc_N_quarterIn_8 rfl rfl (by decide) rfl ?_
  refine ax_aload_n (q := 10) hX dc_N_quarterIn_9 rfl rfl rfl ?_
  refine ax_aload_n (q := 11) hX dc_N_quarterIn_10 rfl rfl rfl ?_
  refine ax_getI (q := 14) hX dc_N_quarterIn_11 rfl fl_N_7 rfl hs0 ?_
  obtain ⟨I1, e2, h⟩ := ax_bs h
  refine ax_putI (q := 17) hX dc_N_quarterIn_14 rfl fl_N_13 rfl hs0 (fun z => by cases z) rfl rfl e2 ?_
  refine ax_aload_n (q := 18) hX dc_N_quarterIn_17 rfl rfl rfl ?_
  refine ax_iload_n (q := 19) hX dc_N_quarterIn_18 rfl rfl rfl ?_
  obtain ⟨I3, e4, h⟩ := ax_bs h
  refine ax_putI (q := 22) hX dc_N_quarterIn_19 rfl fl_N_7 rfl hs0 (fun z => by cases z) rfl rfl e4 ?_
  cases h
  exact ax_vret hX hF dc_N_quarterIn_22 (by decide) (by decide) ax_eq.mk (by rw [hS0]; exact fun _ _ z => z)
def d_P_startAnew (S : ax_S) (I : ax_I) (R : ax_R) (u0 : Nat) (x1 : Int32) (x2 : Int32) : Option (ax_I) :=
  (some (ax_up I u0 4 (x1))).bind fun I1 =>
  (some (ax_up I1 u0 5 (x2))).bind fun I3 =>
  (some (ax_up I3 u0 2 (0))).bind fun I5 =>
  (some (ax_up I5 u0 3 (0))).bind fun I7 =>
  some (I7)
set_option maxHeartbeats 1000000 in
theorem c_P_startAnew (l : Launch) {S : ax_S} {I : ax_I} {R : ax_R} {L : ax_L} {u0 : Nat} {x1 : Int32} {x2 : Int32} {out : ax_I} (hty : ax_typ S R) (hs0 : S u0 = some (.inl 1)) (h : d_P_startAnew S I R u0 x1 x2 = some out) : ax_Met l y_P_startAnew b_P_startAnew 3 none (ax_rm 1 0 0) [.ref u0, .int x1, .int x2] S I R L (ax_eq none S out R L) := by
  refine ax_enter (own := "LossFreeTools$Picture") (by decide +kernel) rfl (ax_cats rfl) (Nat.le_of_ble_eq_true rfl) (fun X hX hF _ hS0 => ?_)
  show ax_W X 3 0 [some (.ref u0), some (.int (x1)), some (.int (x2))] [] S I R L 0 0
  unfold d_P_startAnew at h
  refine ax_aload_n (q := 1) hX dc_P_startAnew_0 rfl rfl rfl ?_
  refine ax_iload_n (q := 2) hX dc_P_startAnew_1 rfl rfl rfl ?_
  obtain ⟨I1, e2, h⟩ := ax_bs h
  refine ax_putI (q := 5) hX dc_P_startAnew_2 rfl fl_P_25 rfl hs0 (fun z => by cases z) rfl rfl e2 ?_
  refine ax_aload_n (q := 6) hX dc_P_startAnew_5 rfl rfl rfl ?_
  refine ax_iload_n (q := 7) hX dc_P_startAnew_6 rfl rfl rfl ?_
  obtain ⟨I3, e4, h⟩ := ax_bs h
  refine ax_putI (q := 10) hX dc_P_startAnew_7 rfl fl_P_29 rfl hs0 (fun z => by cases z) rfl rfl e4 ?_
  refine ax_aload_n (q := 11) hX dc_P_startAnew_10 rfl rfl rfl ?_
  refine ax_iconst (v := 0) (q := 12) hX dc_P_startAnew_11 rfl (by decide) ?_
  obtain ⟨I5, e6, h⟩ := ax_bs h
  refine ax_putI (q := 15) hX dc_P_startAnew_12 rfl fl_P_32 rfl hs0 (fun z => by cases z) rfl rfl e6 ?_
  refine ax_aload_n (q := 16) hX dc_P_startAnew_15 rfl rfl rfl ?_
  refine ax_iconst (v := 0) (q := 17) hX dc_P_startAnew_16 rfl (by decide) ?_
  obtain ⟨I7, e8, h⟩ := ax_bs h
  refine ax_putI (q := 20) hX dc_P_startAnew_17 rfl fl_P_35 rfl hs0 (fun z => by cases z) rfl rfl e8 ?_
  cases h
  exact ax_vret hX hF dc_P_startAnew_20 (by decide) (by decide) ax_eq.mk (by rw [hS0]; exact fun _ _ z => z)
def d_P_hasTile (S : ax_S) (I : ax_I) (R : ax_R) (u0 : Nat) (x1 : Int32) : Option (Bool) :=
  if x1 < 0 then
    some (false)
  else
    if (I u0 2) ≤ x1 then
      some (false)
    else
      some (true)
set_option maxHeartbeats 1000000 in
theorem c_P_hasTile (l : Launch) {S : ax_S} {I : ax_I} {R : ax_R} {L : ax_L} {u0 : Nat} {x1 : Int32} {out : Bool} (hty : ax_typ S R) (hs0 : S u0 = some (.inl 1)) (h : d_P_hasTile S I R u0 x1 = some out) : ax_Met l y_P_hasTile b_P_hasTile 2 (some .boolean) (ax_rm 1 0 0) [.ref u0, .int x1] S I R L (ax_eq (some (.int (ax_b out))) S I R L) := by
  refine ax_enter (own := "LossFreeTools$Picture") (by decide +kernel) rfl (ax_cats rfl) (Nat.le_of_ble_eq_true rfl) (fun X hX hF _ hS0 => ?_)
  show ax_W X 2 0 [some (.ref u0), some (.int (x1))] [] S I R L 0 0
  unfold d_P_hasTile at h
  refine ax_iload_n (q := 1) hX dc_P_hasTile_0 rfl rfl rfl ?_
  refine ax_if_lt (tgt := 16) (q := 4) hX dc_P_hasTile_1 rfl (by decide) (fun z1 => ?_) (fun z1 => ?_)
  · rw [if_pos z1] at h
    refine ax_iconst (v := 0) (q := 17) hX dc_P_hasTile_16 rfl (by decide) ?_
    cases h
    exact ax_iret hX hF dc_P_hasTile_17 rfl rfl (by decide) (by decide) ax_eq.mk (by rw [hS0]; exact fun _ _ z => z)
  · rw [if_neg z1] at h
    refine ax_iload_n (q := 5) hX dc_P_hasTile_4 rfl rfl rfl ?_
    refine ax_aload_n (q := 6) hX dc_P_hasTile_5 rfl rfl rfl ?_
    refine ax_getI (q := 9) hX dc_P_hasTile_6 rfl fl_P_32 rfl hs0 ?_
    refine ax_icmp_ge (tgt := 16) (q := 12) hX dc_P_hasTile_9 rfl (by decide) (fun z2 => ?_) (fun z2 => ?_)
    · rw [if_pos z2] at h
      refine ax_iconst (v := 0) (q := 17) hX dc_P_hasTile_16 rfl (by decide) ?_
      cases h
      exact ax_iret hX hF dc_P_hasTile_17 rfl rfl (by decide) (by decide) ax_eq.mk (by rw [hS0]; exact fun _ _ z => z)
    · rw [if_neg z2] at h
      refine ax_iconst (v := 1) (q := 13) hX dc_P_hasTile_12 rfl (by decide) ?_
      refine ax_goto (tgt := 17) hX dc_P_hasTile_13 (by decide) ?_
      cases h
      exact ax_iret hX hF dc_P_hasTile_17 rfl rfl (by decide) (by decide) ax_eq.mk (by rw [hS0]; exact fun _ _ z => z)
def d_P_hasSample (S : ax_S) (I : ax_I) (R : ax_R) (u0 : Nat) (x1 : Int32) (x2 : Int32) : Option (Bool) :=
  if x1 < 0 then
    some (false)
  else
    if x2 < 0 then
      some (false)
    else
      if (I u0 4) ≤ x1 then
        some (false)
      else
        if (I u0 5) ≤ x2 then
          some (false)
        else
          some (true)
set_option maxHeartbeats 1000000 in
theorem c_P_hasSample (l : Launch) {S : ax_S} {I : ax_I} {R : ax_R} {L : ax_L} {u0 : Nat} {x1 : Int32} {x2 : Int32} {out : Bool} (hty : ax_typ S R) (hs0 : S u0 = some (.inl 1)) (h : d_P_hasSample S I R u0 x1 x2 = some out) : ax_Met l y_P_hasSample b_P_hasSample 3 (some .boolean) (ax_rm 1 0 0) [.ref u0, .int x1, .int x2] S I R L (ax_eq (some (.int (ax_b out))) S I R L) := by
  refine ax_enter (own := "LossFreeTools$Picture") (by decide +kernel) rfl (ax_cats rfl) (Nat.le_of_ble_eq_true rfl) (fun X hX hF _ hS0 => ?_)
  show ax_W X 3 0 [some (.ref u0), some (.int (x1)), some (.int (x2))] [] S I R L 0 0
  unfold d_P_hasSample at h
  refine ax_iload_n (q := 1) hX dc_P_hasSample_0 rfl rfl rfl ?_
  refine ax_if_lt (tgt := 28) (q := 4) hX dc_P_hasSample_1 rfl (by decide) (fun z1 => ?_) (fun z1 => ?_)
  · rw [if_pos z1] at h
    refine ax_iconst (v := 0) (q := 29) hX dc_P_hasSample_28 rfl (by decide) ?_
    cases h
    exact ax_iret hX hF dc_P_hasSample_29 rfl rfl (by decide) (by decide) ax_eq.mk (by rw [hS0]; exact fun _ _ z => z)
  · rw [if_neg z1] at h
    refine ax_iload_n (q := 5) hX dc_P_hasSample_4 rfl rfl rfl ?_
    refine ax_if_lt (tgt := 28) (q := 8) hX dc_P_hasSample_5 rfl (by decide) (fun z2 => ?_) (fun z2 => ?_)
    · rw [if_pos z2] at h
      refine ax_iconst (v := 0) (q := 29) hX dc_P_hasSample_28 rfl (by decide) ?_
      cases h
      exact ax_iret hX hF dc_P_hasSample_29 rfl rfl (by decide) (by decide) ax_eq.mk (by rw [hS0]; exact fun _ _ z => z)
    · rw [if_neg z2] at h
      refine ax_iload_n (q := 9) hX dc_P_hasSample_8 rfl rfl rfl ?_
      refine ax_aload_n (q := 10) hX dc_P_hasSample_9 rfl rfl rfl ?_
      refine ax_getI (q := 13) hX dc_P_hasSample_10 rfl fl_P_25 rfl hs0 ?_
      refine ax_icmp_ge (tgt := 28) (q := 16) hX dc_P_hasSample_13 rfl (by decide) (fun z3 => ?_) (fun z3 => ?_)
      · rw [if_pos z3] at h
        refine ax_iconst (v := 0) (q := 29) hX dc_P_hasSample_28 rfl (by decide) ?_
        cases h
        exact ax_iret hX hF dc_P_hasSample_29 rfl rfl (by decide) (by decide) ax_eq.mk (by rw [hS0]; exact fun _ _ z => z)
      · rw [if_neg z3] at h
        refine ax_iload_n (q := 17) hX dc_P_hasSample_16 rfl rfl rfl ?_
        refine ax_aload_n (q := 18) hX dc_P_hasSample_17 rfl rfl rfl ?_
        refine ax_getI (q := 21) hX dc_P_hasSample_18 rfl fl_P_29 rfl hs0 ?_
        refine ax_icmp_ge (tgt := 28) (q := 24) hX dc_P_hasSample_21 rfl (by decide) (fun z4 => ?_) (fun z4 => ?_)
        · rw [if_pos z4] at h
          refine ax_iconst (v := 0) (q := 29) hX dc_P_hasSample_28 rfl (by decide) ?_
          cases h
          exact ax_iret hX hF dc_P_hasSample_29 rfl rfl (by decide) (by decide) ax_eq.mk (by rw [hS0]; exact fun _ _ z => z)
        · rw [if_neg z4] at h
          refine ax_iconst (v := 1) (q := 25) hX dc_P_hasSample_24 rfl (by decide) ?_
          refine ax_goto (tgt := 29) hX dc_P_hasSample_25 (by decide) ?_
          cases h
          exact ax_iret hX hF dc_P_hasSample_29 rfl rfl (by decide) (by decide) ax_eq.mk (by rw [hS0]; exact fun _ _ z => z)
def d_P_holdsRectangle (S : ax_S) (I : ax_I) (R : ax_R) (u0 : Nat) (x1 : Int32) (x2 : Int32) (x3 : Int32) (x4 : Int32) : Option (Bool) :=
  if x3 < 1 then
    some (false)
  else
    if x4 < 1 then
      some (false)
    else
      if x1 < 0 then
        some (false)
      else
        if x2 < 0 then
          some (false)
        else
          if ((I u0 4) - x3) < x1 then
            some (false)
          else
            if ((I u0 5) - x4) < x2 then
              some (false)
            else
              some (true)
set_option maxHeartbeats 1000000 in
theorem c_P_holdsRectangle (l : Launch) {S : ax_S} {I : ax_I} {R : ax_R} {L : ax_L} {u0 : Nat} {x1 : Int32} {x2 : Int32} {x3 : Int32} {x4 : Int32} {out : Bool} (hty : ax_typ S R) (hs0 : S u0 = some (.inl 1)) (h : d_P_holdsRectangle S I R u0 x1 x2 x3 x4 = some out) : ax_Met l y_P_holdsRectangle b_P_holdsRectangle 5 (some .boolean) (ax_rm 1 0 0) [.ref u0, .int x1, .int x2, .int x3, .int x4] S I R L (ax_eq (some (.int (ax_b out))) S I R L) := by
  refine ax_enter (own := "LossFreeTools$Picture") (by decide +kernel) rfl (ax_cats rfl) (Nat.le_of_ble_eq_true rfl) (fun X hX hF _ hS0 => ?_)
  show ax_W X 5 0 [some (.ref u0), some (.int (x1)), some (.int (x2)), some (.int (x3)), some (.int (x4))] [] S I R L 0 0
  unfold d_P_holdsRectangle at h
  refine ax_iload_n (q := 1) hX dc_P_holdsRectangle_0 rfl rfl rfl ?_
  refine ax_iconst (v := 1) (q := 2) hX dc_P_holdsRectangle_1 rfl (by decide) ?_
  refine ax_icmp_lt (tgt := 44) (q := 5) hX dc_P_holdsRectangle_2 rfl (by decide) (fun z1 => ?_) (fun z1 => ?_)
  · rw [if_pos z1] at h
    refine ax_iconst (v := 0) (q := 45) hX dc_P_holdsRectangle_44 rfl (by decide) ?_
    cases h
    exact ax_iret hX hF dc_P_holdsRectangle_45 rfl rfl (by decide) (by decide) ax_eq.mk (by rw [hS0]; exact fun _ _ z => z)
  · rw [if_neg z1] at h
    refine ax_iload (q := 7) hX dc_P_holdsRectangle_5 rfl rfl ?_
    refine ax_iconst (v := 1) (q := 8) hX dc_P_holdsRectangle_7 rfl (by decide) ?_
    refine ax_icmp_lt (tgt := 44) (q := 11) hX dc_P_holdsRectangle_8 rfl (by decide) (fun z2 => ?_) (fun z2 => ?_)
    · rw [if_pos z2] at h
      refine ax_iconst (v := 0) (q := 45) hX dc_P_holdsRectangle_44 rfl (by decide) ?_
      cases h
      exact ax_iret hX hF dc_P_holdsRectangle_45 rfl rfl (by decide) (by decide) ax_eq.mk (by rw [hS0]; exact fun _ _ z => z)
    · rw [if_neg z2] at h
      refine ax_iload_n (q := 12) hX dc_P_holdsRectangle_11 rfl rfl rfl ?_
      refine ax_if_lt (tgt := 44) (q := 15) hX dc_P_holdsRectangle_12 rfl (by decide) (fun z3 => ?_) (fun z3 => ?_)
      · rw [if_pos z3] at h
        refine ax_iconst (v := 0) (q := 45) hX dc_P_holdsRectangle_44 rfl (by decide) ?_
        cases h
        exact ax_iret hX hF dc_P_holdsRectangle_45 rfl rfl (by decide) (by decide) ax_eq.mk (by rw [hS0]; exact fun _ _ z => z)
      · rw [if_neg z3] at h
        refine ax_iload_n (q := 16) hX dc_P_holdsRectangle_15 rfl rfl rfl ?_
        refine ax_if_lt (tgt := 44) (q := 19) hX dc_P_holdsRectangle_16 rfl (by decide) (fun z4 => ?_) (fun z4 => ?_)
        · rw [if_pos z4] at h
          refine ax_iconst (v := 0) (q := 45) hX dc_P_holdsRectangle_44 rfl (by decide) ?_
          cases h
          exact ax_iret hX hF dc_P_holdsRectangle_45 rfl rfl (by decide) (by decide) ax_eq.mk (by rw [hS0]; exact fun _ _ z => z)
        · rw [if_neg z4] at h
          refine ax_iload_n (q := 20) hX dc_P_holdsRectangle_19 rfl rfl rfl ?_
          refine ax_aload_n (q := 21) hX dc_P_holdsRectangle_20 rfl rfl rfl ?_
          refine ax_getI (q := 24) hX dc_P_holdsRectangle_21 rfl fl_P_25 rfl hs0 ?_
          refine ax_iload_n (q := 25) hX dc_P_holdsRectangle_24 rfl rfl rfl ?_
          refine ax_isub (q := 26) hX dc_P_holdsRectangle_25 rfl ?_
          refine ax_icmp_gt (tgt := 44) (q := 29) hX dc_P_holdsRectangle_26 rfl (by decide) (fun z5 => ?_) (fun z5 => ?_)
          · rw [if_pos z5] at h
            refine ax_iconst (v := 0) (q := 45) hX dc_P_holdsRectangle_44 rfl (by decide) ?_
            cases h
            exact ax_iret hX hF dc_P_holdsRectangle_45 rfl rfl (by decide) (by decide) ax_eq.mk (by rw [hS0]; exact fun _ _ z => z)
          · rw [if_neg z5] at h
            refine ax_iload_n (q := 30) hX dc_P_holdsRectangle_29 rfl rfl rfl ?_
            refine ax_aload_n (q := 31) hX dc_P_holdsRectangle_30 rfl rfl rfl ?_
            refine ax_getI (q := 34) hX dc_P_holdsRectangle_31 rfl fl_P_29 rfl hs0 ?_
            refine ax_iload (q := 36) hX dc_P_holdsRectangle_34 rfl rfl ?_
            refine ax_isub (q := 37) hX dc_P_holdsRectangle_36 rfl ?_
            refine ax_icmp_gt (tgt := 44) (q := 40) hX dc_P_holdsRectangle_37 rfl (by decide) (fun z6 => ?_) (fun z6 => ?_)
            · rw [if_pos z6] at h
              refine ax_iconst (v := 0) (q := 45) hX dc_P_holdsRectangle_44 rfl (by decide) ?_
              cases h
              exact ax_iret hX hF dc_P_holdsRectangle_45 rfl rfl (by decide) (by decide) ax_eq.mk (by rw [hS0]; exact fun _ _ z => z)
            · rw [if_neg z6] at h
              refine ax_iconst (v := 1) (q := 41) hX dc_P_holdsRectangle_40 rfl (by decide) ?_
              refine ax_goto (tgt := 45) hX dc_P_holdsRectangle_41 (by decide) ?_
              cases h
              exact ax_iret hX hF dc_P_holdsRectangle_45 rfl rfl (by decide) (by decide) ax_eq.mk (by rw [hS0]; exact fun _ _ z => z)
def d_P_sizeAlong (S : ax_S) (I : ax_I) (R : ax_R) (u0 : Nat) (x1 : Int32) : Option (Int32) :=
  if x1 = 0 then
    some (I u0 5)
  else
    some (I u0 4)
set_option maxHeartbeats 1000000 in
theorem c_P_sizeAlong (l : Launch) {S : ax_S} {I : ax_I} {R : ax_R} {L : ax_L} {u0 : Nat} {x1 : Int32} {out : Int32} (hty : ax_typ S R) (hs0 : S u0 = some (.inl 1)) (h : d_P_sizeAlong S I R u0 x1 = some out) : ax_Met l y_P_sizeAlong b_P_sizeAlong 2 (some .int) (ax_rm 1 0 0) [.ref u0, .int x1] S I R L (ax_eq (some (.int out)) S I R L) := by
  refine ax_enter (own := "LossFreeTools$Picture") (by decide +kernel) rfl (ax_cats rfl) (Nat.le_of_ble_eq_true rfl) (fun X hX hF _ hS0 => ?_)
  show ax_W X 2 0 [some (.ref u0), some (.int (x1))] [] S I R L 0 0
  unfold d_P_sizeAlong at h
  refine ax_iload_n (q := 1) hX dc_P_sizeAlong_0 rfl rfl rfl ?_
  refine ax_if_eq (tgt := 11) (q := 4) hX dc_P_sizeAlong_1 rfl (by decide) (fun z1 => ?_) (fun z1 => ?_)
  · rw [if_pos z1] at h
    refine ax_aload_n (q := 12) hX dc_P_sizeAlong_11 rfl rfl rfl ?_
    refine ax_getI (q := 15) hX dc_P_sizeAlong_12 rfl fl_P_29 rfl hs0 ?_
    cases h
    exact ax_iret hX hF dc_P_sizeAlong_15 rfl rfl (by decide) (by decide) ax_eq.mk (by rw [hS0]; exact fun _ _ z => z)
  · rw [if_neg z1] at h
    refine ax_aload_n (q := 5) hX dc_P_sizeAlong_4 rfl rfl rfl ?_
    refine ax_getI (q := 8) hX dc_P_sizeAlong_5 rfl fl_P_25 rfl hs0 ?_
    refine ax_goto (tgt := 15) hX dc_P_sizeAlong_8 (by decide) ?_
    cases h
    exact ax_iret hX hF dc_P_sizeAlong_15 rfl rfl (by decide) (by decide) ax_eq.mk (by rw [hS0]; exact fun _ _ z => z)
def d_T_overlaps (S : ax_S) (I : ax_I) (R : ax_R) (u0 : Nat) (x1 : Int32) (x2 : Int32) (x3 : Int32) (x4 : Int32) : Option (Bool) :=
  if ((I u0 2) + (I u0 4)) ≤ x1 then
    some (false)
  else
    if (x1 + x3) ≤ (I u0 2) then
      some (false)
    else
      if ((I u0 3) + (I u0 5)) ≤ x2 then
        some (false)
      else
        if (x2 + x4) ≤ (I u0 3) then
          some (false)
        else
          some (true)
set_option maxHeartbeats 1000000 in
theorem c_T_overlaps (l : Launch) {S : ax_S} {I : ax_I} {R : ax_R} {L : ax_L} {u0 : Nat} {x1 : Int32} {x2 : Int32} {x3 : Int32} {x4 : Int32} {out : Bool} (hty : ax_typ S R) (hs0 : S u0 = some (.inl 3)) (h : d_T_overlaps S I R u0 x1 x2 x3 x4 = some out) : ax_Met l y_T_overlaps b_T_overlaps 5 (some .boolean) (ax_rm 1 0 0) [.ref u0, .int x1, .int x2, .int x3, .int x4] S I R L (ax_eq (some (.int (ax_b out))) S I R L) := by
  refine ax_enter (own := "LossFreeTools$Tile") (by decide +kernel) rfl (ax_cats rfl) (Nat.le_of_ble_eq_true rfl) (fun X hX hF _ hS0 => ?_)
  show ax_W X 5 0 [some (.ref u0), some (.int (x1)), some (.int (x2)), some (.int (x3)), some (.int (x4))] [] S I R L 0 0
  unfold d_T_overlaps at h
  refine ax_iload_n (q := 1) hX dc_T_overlaps_0 rfl rfl rfl ?_
  refine ax_aload_n (q := 2) hX dc_T_overlaps_1 rfl rfl rfl ?_
  refine ax_getI (q := 5) hX dc_T_overlaps_2 rfl fl_T_15 rfl hs0 ?_
  refine ax_aload_n (q := 6) hX dc_T_overlaps_5 rfl rfl rfl ?_
  refine ax_getI (q := 9) hX dc_T_overlaps_6 rfl fl_T_22 rfl hs0 ?_
  refine ax_iadd (q := 10) hX dc_T_overlaps_9 rfl ?_
  refine ax_icmp_ge (tgt := 51) (q := 13) hX dc_T_overlaps_10 rfl (by decide) (fun z1 => ?_) (fun z1 => ?_)
  · rw [if_pos z1] at h
    refine ax_iconst (v := 0) (q := 52) hX dc_T_overlaps_51 rfl (by decide) ?_
    cases h
    exact ax_iret hX hF dc_T_overlaps_52 rfl rfl (by decide) (by decide) ax_eq.mk (by rw [hS0]; exact fun _ _ z => z)
  · rw [if_neg z1] at h
    refine ax_aload_n (q := 14) hX dc_T_overlaps_13 rfl rfl rfl ?_
    refine ax_getI (q := 17) hX dc_T_overlaps_14 rfl fl_T_15 rfl hs0 ?_
    refine ax_iload_n (q := 18) hX dc_T_overlaps_17 rfl rfl rfl ?_
    refine ax_iload_n (q := 19) hX dc_T_overlaps_18 rfl rfl rfl ?_
    refine ax_iadd (q := 20) hX dc_T_overlaps_19 rfl ?_
    refine ax_icmp_ge (tgt := 51) (q := 23) hX dc_T_overlaps_20 rfl (by decide) (fun z2 => ?_) (fun z2 => ?_)
    · rw [if_pos z2] at h
      refine ax_iconst (v := 0) (q := 52) hX dc_T_overlaps_51 rfl (by decide) ?_
      cases h
      exact ax_iret hX hF dc_T_overlaps_52 rfl rfl (by decide) (by decide) ax_eq.mk (by rw [hS0]; exact fun _ _ z => z)
    · rw [if_neg z2] at h
      refine ax_iload_n (q := 24) hX dc_T_overlaps_23 rfl rfl rfl ?_
      refine ax_aload_n (q := 25) hX dc_T_overlaps_24 rfl rfl rfl ?_
      refine ax_getI (q := 28) hX dc_T_overlaps_25 rfl fl_T_19 rfl hs0 ?_
      refine ax_aload_n (q := 29) hX dc_T_overlaps_28 rfl rfl rfl ?_
      refine ax_getI (q := 32) hX dc_T_overlaps_29 rfl fl_T_25 rfl hs0 ?_
      refine ax_iadd (q := 33) hX dc_T_overlaps_32 rfl ?_
      refine ax_icmp_ge (tgt := 51) (q := 36) hX dc_T_overlaps_33 rfl (by decide) (fun z3 => ?_) (fun z3 => ?_)
      · rw [if_pos z3] at h
        refine ax_iconst (v := 0) (q := 52) hX dc_T_overlaps_51 rfl (by decide) ?_
        cases h
        exact ax_iret hX hF dc_T_overlaps_52 rfl rfl (by decide) (by decide) ax_eq.mk (by rw [hS0]; exact fun _ _ z => z)
      · rw [if_neg z3] at h
        refine ax_aload_n (q := 37) hX dc_T_overlaps_36 rfl rfl rfl ?_
        refine ax_getI (q := 40) hX dc_T_overlaps_37 rfl fl_T_19 rfl hs0 ?_
        refine ax_iload_n (q := 41) hX dc_T_overlaps_40 rfl rfl rfl ?_
        refine ax_iload (q := 43) hX dc_T_overlaps_41 rfl rfl ?_
        refine ax_iadd (q := 44) hX dc_T_overlaps_43 rfl ?_
        refine ax_icmp_ge (tgt := 51) (q := 47) hX dc_T_overlaps_44 rfl (by decide) (fun z4 => ?_) (fun z4 => ?_)
        · rw [if_pos z4] at h
          refine ax_iconst (v := 0) (q := 52) hX dc_T_overlaps_51 rfl (by decide) ?_
          cases h
          exact ax_iret hX hF dc_T_overlaps_52 rfl rfl (by decide) (by decide) ax_eq.mk (by rw [hS0]; exact fun _ _ z => z)
        · rw [if_neg z4] at h
          refine ax_iconst (v := 1) (q := 48) hX dc_T_overlaps_47 rfl (by decide) ?_
          refine ax_goto (tgt := 52) hX dc_T_overlaps_48 (by decide) ?_
          cases h
          exact ax_iret hX hF dc_T_overlaps_52 rfl rfl (by decide) (by decide) ax_eq.mk (by rw [hS0]; exact fun _ _ z => z)
def d_T_startAnew (S : ax_S) (I : ax_I) (R : ax_R) (u0 : Nat) (x1 : Int32) (x2 : Int32) (x3 : Int32) (x4 : Int32) : Option (ax_I) :=
  (some (ax_up I u0 2 (x1))).bind fun I1 =>
  (some (ax_up I1 u0 3 (x2))).bind fun I3 =>
  (some (ax_up I3 u0 4 (x3))).bind fun I5 =>
  (some (ax_up I5 u0 5 (x4))).bind fun I7 =>
  (some (ax_up I7 u0 6 (0))).bind fun I9 =>
  (some (ax_up I9 u0 1 (0))).bind fun I11 =>
  some (I11)
set_option maxHeartbeats 1000000 in
theorem c_T_startAnew (l : Launch) {S : ax_S} {I : ax_I} {R : ax_R} {L : ax_L} {u0 : Nat} {x1 : Int32} {x2 : Int32} {x3 : Int32} {x4 : Int32} {out : ax_I} (hty : ax_typ S R) (hs0 : S u0 = some (.inl 3)) (h : d_T_startAnew S I R u0 x1 x2 x3 x4 = some out) : ax_Met l y_T_startAnew b_T_startAnew 5 none (ax_rm 1 0 0) [.ref u0, .int x1, .int x2, .int x3, .int x4] S I R L (ax_eq none S out R L) := by
  refine ax_enter (own := "LossFreeTools$Tile") (by decide +kernel) rfl (ax_cats rfl) (Nat.le_of_ble_eq_true rfl) (fun X hX hF _ hS0 => ?_)
  show ax_W X 5 0 [some (.ref u0), some (.int (x1)), some (.int (x2)), some (.int (x3)), some (.int (x4))] [] S I R L 0 0
  unfold d_T_startAnew at h
  refine ax_aload_n (q := 1) hX dc_T_startAnew_0 rfl rfl rfl ?_
  refine ax_iload_n (q := 2) hX dc_T_startAnew_1 rfl rfl rfl ?_
  obtain ⟨I1, e2, h⟩ := ax_bs h
  refine ax_putI (q := 5) hX dc_T_startAnew_2 rfl fl_T_15 rfl hs0 (fun z => by cases z) rfl rfl e2 ?_
  refine ax_aload_n (q := 6) hX dc_T_startAnew_5 rfl rfl rfl ?_
  refine ax_iload_n (q := 7) hX dc_T_startAnew_6 rfl rfl rfl ?_
  obtain ⟨I3, e4, h⟩ := ax_bs h
  refine ax_putI (q := 10) hX dc_T_startAnew_7 rfl fl_T_19 rfl hs0 (fun z => by cases z) rfl rfl e4 ?_
  refine ax_aload_n (q := 11) hX dc_T_startAnew_10 rfl rfl rfl ?_
  refine ax_iload_n (q := 12) hX dc_T_startAnew_11 rfl rfl rfl ?_
  obtain ⟨I5, e6, h⟩ := ax_bs h
  refine ax_putI (q := 15) hX dc_T_startAnew_12 rfl fl_T_22 rfl hs0 (fun z => by cases z) rfl rfl e6 ?_
  refine ax_aload_n (q := 16) hX dc_T_startAnew_15 rfl rfl rfl ?_
  refine ax_iload (q := 18) hX dc_T_startAnew_16 rfl rfl ?_
  obtain ⟨I7, e8, h⟩ := ax_bs h
  refine ax_putI (q := 21) hX dc_T_startAnew_18 rfl fl_T_25 rfl hs0 (fun z => by cases z) rfl rfl e8 ?_
  refine ax_aload_n (q := 22) hX dc_T_startAnew_21 rfl rfl rfl ?_
  refine ax_iconst (v := 0) (q := 23) hX dc_T_startAnew_22 rfl (by decide) ?_
  obtain ⟨I9, e10, h⟩ := ax_bs h
  refine ax_putI (q := 26) hX dc_T_startAnew_23 rfl fl_T_28 rfl hs0 (fun z => by cases z) rfl rfl e10 ?_
  refine ax_aload_n (q := 27) hX dc_T_startAnew_26 rfl rfl rfl ?_
  refine ax_iconst (v := 0) (q := 28) hX dc_T_startAnew_27 rfl (by decide) ?_
  obtain ⟨I11, e12, h⟩ := ax_bs h
  refine ax_putI (q := 31) hX dc_T_startAnew_28 rfl fl_T_31 rfl hs0 (fun z => by cases z) rfl rfl e12 ?_
  cases h
  exact ax_vret hX hF dc_T_startAnew_31 (by decide) (by decide) ax_eq.mk (by rw [hS0]; exact fun _ _ z => z)
def d_T_crosses_31 (S : ax_S) (I : ax_I) (R : ax_R) (x2 : Int32) (x3 : Int32) (y0 : Int32) : Option (Bool) :=
  if x2 ≤ x3 then
    some (false)
  else
    if (x3 + y0) ≤ x2 then
      some (false)
    else
      some (true)
set_option maxHeartbeats 1000000 in
theorem e_T_crosses_31 {l : Launch} {X : ax_X} {S : ax_S} {L : ax_L} {I0 : ax_I} {R0 : ax_R} {out : Bool} (hX : ax_ok X l "LossFreeTools$Tile" b_T_crosses 5 (ax_rm 1 0 0)) (hF : ax_fin X (some .boolean) 0 0 (ax_of (ax_eq (some (.int (ax_b out))) S I0 R0 L))) (hS0 : ax_S0 X = S) : ∀ (I : ax_I) (R : ax_R) (x2 : Int32) (x3 : Int32) (y0 : Int32), ax_typ S R → I = I0 → R = R0 → d_T_crosses_31 S  I R x2 x3 y0 = some out → ax_W X 5 31 [none, none, some (.int (x2)), some (.int (x3)), none] [.int (y0)] S I R L 0 0 := by
  rintro I R x2 x3 y0 hty hI0 hR0 h
  subst hI0
  subst hR0
  unfold d_T_crosses_31 at h
  refine ax_istore (ls' := [none, none, some (.int (x2)), some (.int (x3)), some (.int (y0))]) (q := 33) hX dc_T_crosses_31 rfl (by decide) rfl ?_
  refine ax_iload_n (q := 34) hX dc_T_crosses_33 rfl rfl rfl ?_
  refine ax_iload_n (q := 35) hX dc_T_crosses_34 rfl rfl rfl ?_
  refine ax_icmp_ge (tgt := 50) (q := 38) hX dc_T_crosses_35 rfl (by decide) (fun z3 => ?_) (fun z3 => ?_)
  · rw [if_pos z3] at h
    refine ax_iconst (v := 0) (q := 51) hX dc_T_crosses_50 rfl (by decide) ?_
    cases h
    exact ax_iret hX hF dc_T_crosses_51 rfl rfl (by decide) (by decide) ax_eq.mk (by rw [hS0]; exact fun _ _ z => z)
  · rw [if_neg z3] at h
    refine ax_iload_n (q := 39) hX dc_T_crosses_38 rfl rfl rfl ?_
    refine ax_iload_n (q := 40) hX dc_T_crosses_39 rfl rfl rfl ?_
    refine ax_iload (q := 42) hX dc_T_crosses_40 rfl rfl ?_
    refine ax_iadd (q := 43) hX dc_T_crosses_42 rfl ?_
    refine ax_icmp_ge (tgt := 50) (q := 46) hX dc_T_crosses_43 rfl (by decide) (fun z4 => ?_) (fun z4 => ?_)
    · rw [if_pos z4] at h
      refine ax_iconst (v := 0) (q := 51) hX dc_T_crosses_50 rfl (by decide) ?_
      cases h
      exact ax_iret hX hF dc_T_crosses_51 rfl rfl (by decide) (by decide) ax_eq.mk (by rw [hS0]; exact fun _ _ z => z)
    · rw [if_neg z4] at h
      refine ax_iconst (v := 1) (q := 47) hX dc_T_crosses_46 rfl (by decide) ?_
      refine ax_goto (tgt := 51) hX dc_T_crosses_47 (by decide) ?_
      cases h
      exact ax_iret hX hF dc_T_crosses_51 rfl rfl (by decide) (by decide) ax_eq.mk (by rw [hS0]; exact fun _ _ z => z)
def d_T_crosses_15 (S : ax_S) (I : ax_I) (R : ax_R) (u0 : Nat) (x1 : Int32) (x2 : Int32) (y0 : Int32) : Option (Bool) :=
  if x1 = 0 then
    d_T_crosses_31 S  I R (x2) (y0) (I u0 5)
  else
    d_T_crosses_31 S  I R (x2) (y0) (I u0 4)
set_option maxHeartbeats 1000000 in
theorem e_T_crosses_15 {l : Launch} {X : ax_X} {S : ax_S} {L : ax_L} {I0 : ax_I} {R0 : ax_R} {out : Bool} (hX : ax_ok X l "LossFreeTools$Tile" b_T_crosses 5 (ax_rm 1 0 0)) (hF : ax_fin X (some .boolean) 0 0 (ax_of (ax_eq (some (.int (ax_b out))) S I0 R0 L))) (hS0 : ax_S0 X = S) : ∀ (I : ax_I) (R : ax_R) (u0 : Nat) (x1 : Int32) (x2 : Int32) (y0 : Int32), ax_typ S R → (S u0 = some (.inl 3)) → I = I0 → R = R0 → d_T_crosses_15 S  I R u0 x1 x2 y0 = some out → ax_W X 5 15 [some (.ref u0), some (.int (x1)), some (.int (x2)), none, none] [.int (y0)] S I R L 0 0 := by
  rintro I R u0 x1 x2 y0 hty hs0_ hI0 hR0 h
  subst hI0
  subst hR0
  unfold d_T_crosses_15 at h
  refine ax_istore_n (ls' := [some (.ref u0), some (.int (x1)), some (.int (x2)), some (.int (y0)), none]) (q := 16) hX dc_T_crosses_15 rfl rfl (by decide) rfl ?_
  refine ax_iload_n (q := 17) hX dc_T_crosses_16 rfl rfl rfl ?_
  refine ax_if_eq (tgt := 27) (q := 20) hX dc_T_crosses_17 rfl (by decide) (fun z2 => ?_) (fun z2 => ?_)
  · rw [if_pos z2] at h
    refine ax_aload_n (q := 28) hX dc_T_crosses_27 rfl rfl rfl ?_
    refine ax_getI (q := 31) hX dc_T_crosses_28 rfl fl_T_25 rfl hs0_ ?_
    exact ax_weak (ls' := [none, none, some (.int (x2)), some (.int (y0)), none]) (ax_fewP_s _ _ (by repeat (first | exact trivial | (refine And.intro rfl ?_)))) (e_T_crosses_31 hX hF hS0  I R (x2) (y0) (I u0 5) hty  rfl rfl h)
  · rw [if_neg z2] at h
    refine ax_aload_n (q := 21) hX dc_T_crosses_20 rfl rfl rfl ?_
    refine ax_getI (q := 24) hX dc_T_crosses_21 rfl fl_T_22 rfl hs0_ ?_
    refine ax_goto (tgt := 31) hX dc_T_crosses_24 (by decide) ?_
    exact ax_weak (ls' := [none, none, some (.int (x2)), some (.int (y0)), none]) (ax_fewP_s _ _ (by repeat (first | exact trivial | (refine And.intro rfl ?_)))) (e_T_crosses_31 hX hF hS0  I R (x2) (y0) (I u0 4) hty  rfl rfl h)
def d_T_crosses (S : ax_S) (I : ax_I) (R : ax_R) (u0 : Nat) (x1 : Int32) (x2 : Int32) : Option (Bool) :=
  if x1 = 0 then
    d_T_crosses_15 S  I R u0 (x1) (x2) (I u0 3)
  else
    d_T_crosses_15 S  I R u0 (x1) (x2) (I u0 2)
set_option maxHeartbeats 1000000 in
theorem c_T_crosses (l : Launch) {S : ax_S} {I : ax_I} {R : ax_R} {L : ax_L} {u0 : Nat} {x1 : Int32} {x2 : Int32} {out : Bool} (hty : ax_typ S R) (hs0 : S u0 = some (.inl 3)) (h : d_T_crosses S I R u0 x1 x2 = some out) : ax_Met l y_T_crosses b_T_crosses 5 (some .boolean) (ax_rm 1 0 0) [.ref u0, .int x1, .int x2] S I R L (ax_eq (some (.int (ax_b out))) S I R L) := by
  refine ax_enter (own := "LossFreeTools$Tile") (by decide +kernel) rfl (ax_cats rfl) (Nat.le_of_ble_eq_true rfl) (fun X hX hF _ hS0 => ?_)
  show ax_W X 5 0 [some (.ref u0), some (.int (x1)), some (.int (x2)), none, none] [] S I R L 0 0
  unfold d_T_crosses at h
  refine ax_iload_n (q := 1) hX dc_T_crosses_0 rfl rfl rfl ?_
  refine ax_if_eq (tgt := 11) (q := 4) hX dc_T_crosses_1 rfl (by decide) (fun z1 => ?_) (fun z1 => ?_)
  · rw [if_pos z1] at h
    refine ax_aload_n (q := 12) hX dc_T_crosses_11 rfl rfl rfl ?_
    refine ax_getI (q := 15) hX dc_T_crosses_12 rfl fl_T_19 rfl hs0 ?_
    exact (e_T_crosses_15 hX hF hS0  I R u0 (x1) (x2) (I u0 3) hty hs0 rfl rfl h)
  · rw [if_neg z1] at h
    refine ax_aload_n (q := 5) hX dc_T_crosses_4 rfl rfl rfl ?_
    refine ax_getI (q := 8) hX dc_T_crosses_5 rfl fl_T_15 rfl hs0 ?_
    refine ax_goto (tgt := 15) hX dc_T_crosses_8 (by decide) ?_
    exact (e_T_crosses_15 hX hF hS0  I R u0 (x1) (x2) (I u0 2) hty hs0 rfl rfl h)
def d_T_isWithin (S : ax_S) (I : ax_I) (R : ax_R) (u0 : Nat) (x1 : Int32) (x2 : Int32) (x3 : Int32) (x4 : Int32) : Option (Bool) :=
  if (I u0 2) < x1 then
    some (false)
  else
    if (I u0 3) < x2 then
      some (false)
    else
      if x3 < ((I u0 2) + (I u0 4)) then
        some (false)
      else
        if x4 < ((I u0 3) + (I u0 5)) then
          some (false)
        else
          some (true)
set_option maxHeartbeats 1000000 in
theorem c_T_isWithin (l : Launch) {S : ax_S} {I : ax_I} {R : ax_R} {L : ax_L} {u0 : Nat} {x1 : Int32} {x2 : Int32} {x3 : Int32} {x4 : Int32} {out : Bool} (hty : ax_typ S R) (hs0 : S u0 = some (.inl 3)) (h : d_T_isWithin S I R u0 x1 x2 x3 x4 = some out) : ax_Met l y_T_isWithin b_T_isWithin 5 (some .boolean) (ax_rm 1 0 0) [.ref u0, .int x1, .int x2, .int x3, .int x4] S I R L (ax_eq (some (.int (ax_b out))) S I R L) := by
  refine ax_enter (own := "LossFreeTools$Tile") (by decide +kernel) rfl (ax_cats rfl) (Nat.le_of_ble_eq_true rfl) (fun X hX hF _ hS0 => ?_)
  show ax_W X 5 0 [some (.ref u0), some (.int (x1)), some (.int (x2)), some (.int (x3)), some (.int (x4))] [] S I R L 0 0
  unfold d_T_isWithin at h
  refine ax_aload_n (q := 1) hX dc_T_isWithin_0 rfl rfl rfl ?_
  refine ax_getI (q := 4) hX dc_T_isWithin_1 rfl fl_T_15 rfl hs0 ?_
  refine ax_iload_n (q := 5) hX dc_T_isWithin_4 rfl rfl rfl ?_
  refine ax_icmp_lt (tgt := 47) (q := 8) hX dc_T_isWithin_5 rfl (by decide) (fun z1 => ?_) (fun z1 => ?_)
  · rw [if_pos z1] at h
    refine ax_iconst (v := 0) (q := 48) hX dc_T_isWithin_47 rfl (by decide) ?_
    cases h
    exact ax_iret hX hF dc_T_isWithin_48 rfl rfl (by decide) (by decide) ax_eq.mk (by rw [hS0]; exact fun _ _ z => z)
  · rw [if_neg z1] at h
    refine ax_aload_n (q := 9) hX dc_T_isWithin_8 rfl rfl rfl ?_
    refine ax_getI (q := 12) hX dc_T_isWithin_9 rfl fl_T_19 rfl hs0 ?_
    refine ax_iload_n (q := 13) hX dc_T_isWithin_12 rfl rfl rfl ?_
    refine ax_icmp_lt (tgt := 47) (q := 16) hX dc_T_isWithin_13 rfl (by decide) (fun z2 => ?_) (fun z2 => ?_)
    · rw [if_pos z2] at h
      refine ax_iconst (v := 0) (q := 48) hX dc_T_isWithin_47 rfl (by decide) ?_
      cases h
      exact ax_iret hX hF dc_T_isWithin_48 rfl rfl (by decide) (by decide) ax_eq.mk (by rw [hS0]; exact fun _ _ z => z)
    · rw [if_neg z2] at h
      refine ax_aload_n (q := 17) hX dc_T_isWithin_16 rfl rfl rfl ?_
      refine ax_getI (q := 20) hX dc_T_isWithin_17 rfl fl_T_15 rfl hs0 ?_
      refine ax_aload_n (q := 21) hX dc_T_isWithin_20 rfl rfl rfl ?_
      refine ax_getI (q := 24) hX dc_T_isWithin_21 rfl fl_T_22 rfl hs0 ?_
      refine ax_iadd (q := 25) hX dc_T_isWithin_24 rfl ?_
      refine ax_iload_n (q := 26) hX dc_T_isWithin_25 rfl rfl rfl ?_
      refine ax_icmp_gt (tgt := 47) (q := 29) hX dc_T_isWithin_26 rfl (by decide) (fun z3 => ?_) (fun z3 => ?_)
      · rw [if_pos z3] at h
        refine ax_iconst (v := 0) (q := 48) hX dc_T_isWithin_47 rfl (by decide) ?_
        cases h
        exact ax_iret hX hF dc_T_isWithin_48 rfl rfl (by decide) (by decide) ax_eq.mk (by rw [hS0]; exact fun _ _ z => z)
      · rw [if_neg z3] at h
        refine ax_aload_n (q := 30) hX dc_T_isWithin_29 rfl rfl rfl ?_
        refine ax_getI (q := 33) hX dc_T_isWithin_30 rfl fl_T_19 rfl hs0 ?_
        refine ax_aload_n (q := 34) hX dc_T_isWithin_33 rfl rfl rfl ?_
        refine ax_getI (q := 37) hX dc_T_isWithin_34 rfl fl_T_25 rfl hs0 ?_
        refine ax_iadd (q := 38) hX dc_T_isWithin_37 rfl ?_
        refine ax_iload (q := 40) hX dc_T_isWithin_38 rfl rfl ?_
        refine ax_icmp_gt (tgt := 47) (q := 43) hX dc_T_isWithin_40 rfl (by decide) (fun z4 => ?_) (fun z4 => ?_)
        · rw [if_pos z4] at h
          refine ax_iconst (v := 0) (q := 48) hX dc_T_isWithin_47 rfl (by decide) ?_
          cases h
          exact ax_iret hX hF dc_T_isWithin_48 rfl rfl (by decide) (by decide) ax_eq.mk (by rw [hS0]; exact fun _ _ z => z)
        · rw [if_neg z4] at h
          refine ax_iconst (v := 1) (q := 44) hX dc_T_isWithin_43 rfl (by decide) ?_
          refine ax_goto (tgt := 48) hX dc_T_isWithin_44 (by decide) ?_
          cases h
          exact ax_iret hX hF dc_T_isWithin_48 rfl rfl (by decide) (by decide) ax_eq.mk (by rw [hS0]; exact fun _ _ z => z)
def d_T_moveBy (S : ax_S) (I : ax_I) (R : ax_R) (u0 : Nat) (x1 : Int32) (x2 : Int32) : Option (ax_I) :=
  (some (ax_up I u0 2 ((I u0 2) + x1))).bind fun I1 =>
  (some (ax_up I1 u0 3 ((I1 u0 3) + x2))).bind fun I3 =>
  some (I3)
set_option maxHeartbeats 1000000 in
theorem c_T_moveBy (l : Launch) {S : ax_S} {I : ax_I} {R : ax_R} {L : ax_L} {u0 : Nat} {x1 : Int32} {x2 : Int32} {out : ax_I} (hty : ax_typ S R) (hs0 : S u0 = some (.inl 3)) (h : d_T_moveBy S I R u0 x1 x2 = some out) : ax_Met l y_T_moveBy b_T_moveBy 3 none (ax_rm 1 0 0) [.ref u0, .int x1, .int x2] S I R L (ax_eq none S out R L) := by
  refine ax_enter (own := "LossFreeTools$Tile") (by decide +kernel) rfl (ax_cats rfl) (Nat.le_of_ble_eq_true rfl) (fun X hX hF _ hS0 => ?_)
  show ax_W X 3 0 [some (.ref u0), some (.int (x1)), some (.int (x2))] [] S I R L 0 0
  unfold d_T_moveBy at h
  refine ax_aload_n (q := 1) hX dc_T_moveBy_0 rfl rfl rfl ?_
  refine ax_dup (q := 2) hX dc_T_moveBy_1 rfl rfl ?_
  refine ax_getI (q := 5) hX dc_T_moveBy_2 rfl fl_T_15 rfl hs0 ?_
  refine ax_iload_n (q := 6) hX dc_T_moveBy_5 rfl rfl rfl ?_
  refine ax_iadd (q := 7) hX dc_T_moveBy_6 rfl ?_
  obtain ⟨I1, e2, h⟩ := ax_bs h
  refine ax_putI (q := 10) hX dc_T_moveBy_7 rfl fl_T_15 rfl hs0 (fun z => by cases z) rfl rfl e2 ?_
  refine ax_aload_n (q := 11) hX dc_T_moveBy_10 rfl rfl rfl ?_
  refine ax_dup (q := 12) hX dc_T_moveBy_11 rfl rfl ?_
  refine ax_getI (q := 15) hX dc_T_moveBy_12 rfl fl_T_19 rfl hs0 ?_
  refine ax_iload_n (q := 16) hX dc_T_moveBy_15 rfl rfl rfl ?_
  refine ax_iadd (q := 17) hX dc_T_moveBy_16 rfl ?_
  obtain ⟨I3, e4, h⟩ := ax_bs h
  refine ax_putI (q := 20) hX dc_T_moveBy_17 rfl fl_T_19 rfl hs0 (fun z => by cases z) rfl rfl e4 ?_
  cases h
  exact ax_vret hX hF dc_T_moveBy_20 (by decide) (by decide) ax_eq.mk (by rw [hS0]; exact fun _ _ z => z)
def d_P_growAlong_32 (S : ax_S) (I : ax_I) (R : ax_R) (y0 : Int32) (y1 : Int32) (w2 : Nat) : Option (ax_I) :=
  (some (ax_up I w2 5 (y1 + y0))).bind fun I5 =>
  some (I5)
set_option maxHeartbeats 1000000 in
theorem e_P_growAlong_32 {l : Launch} {X : ax_X} {S : ax_S} {L : ax_L} {R0 : ax_R} {out : ax_I} (hX : ax_ok X l "LossFreeTools$Picture" b_P_growAlong 3 (ax_rm 1 0 0)) (hF : ax_fin X none 0 0 (ax_of (ax_eq none S out R0 L))) (hS0 : ax_S0 X = S) : ∀ (I : ax_I) (R : ax_R) (y0 : Int32) (y1 : Int32) (w2 : Nat), ax_typ S R → (S w2 = some (.inl 1)) → R = R0 → d_P_growAlong_32 S  I R y0 y1 w2 = some out → ax_W X 3 32 [none, none, none] [.int (y0), .int (y1), .ref w2] S I R L 0 0 := by
  rintro I R y0 y1 w2 hty hw2_ hR0 h
  subst hR0
  unfold d_P_growAlong_32 at h
  refine ax_iadd (q := 33) hX dc_P_growAlong_32 rfl ?_
  obtain ⟨I5, e6, h⟩ := ax_bs h
  refine ax_putI (q := 36) hX dc_P_growAlong_33 rfl fl_P_29 rfl hw2_ (fun z => by cases z) rfl rfl e6 ?_
  cases h
  exact ax_vret hX hF dc_P_growAlong_36 (by decide) (by decide) ax_eq.mk (by rw [hS0]; exact fun _ _ z => z)
def d_P_growAlong_14 (S : ax_S) (I : ax_I) (R : ax_R) (u0 : Nat) (x1 : Int32) (x2 : Int32) (y0 : Int32) (y1 : Int32) (w2 : Nat) : Option (ax_I) :=
  (some (ax_up I w2 4 (y1 + y0))).bind fun I2 =>
  if x1 = 0 then
    d_P_growAlong_32 S  I2 R (x2) (I2 u0 5) u0
  else
    d_P_growAlong_32 S  I2 R (0) (I2 u0 5) u0
set_option maxHeartbeats 1000000 in
theorem e_P_growAlong_14 {l : Launch} {X : ax_X} {S : ax_S} {L : ax_L} {R0 : ax_R} {out : ax_I} (hX : ax_ok X l "LossFreeTools$Picture" b_P_growAlong 3 (ax_rm 1 0 0)) (hF : ax_fin X none 0 0 (ax_of (ax_eq none S out R0 L))) (hS0 : ax_S0 X = S) : ∀ (I : ax_I) (R : ax_R) (u0 : Nat) (x1 : Int32) (x2 : Int32) (y0 : Int32) (y1 : Int32) (w2 : Nat), ax_typ S R → (S u0 = some (.inl 1)) → (S w2 = some (.inl 1)) → R = R0 → d_P_growAlong_14 S  I R u0 x1 x2 y0 y1 w2 = some out → ax_W X 3 14 [some (.ref u0), some (.int (x1)), some (.int (x2))] [.int (y0), .int (y1), .ref w2] S I R L 0 0 := by
  rintro I R u0 x1 x2 y0 y1 w2 hty hs0_ hw2_ hR0 h
  subst hR0
  unfold d_P_growAlong_14 at h
  refine ax_iadd (q := 15) hX dc_P_growAlong_14 rfl ?_
  obtain ⟨I2, e3, h⟩ := ax_bs h
  refine ax_putI (q := 18) hX dc_P_growAlong_15 rfl fl_P_25 rfl hw2_ (fun z => by cases z) rfl rfl e3 ?_
  refine ax_aload_n (q := 19) hX dc_P_growAlong_18 rfl rfl rfl ?_
  refine ax_dup (q := 20) hX dc_P_growAlong_19 rfl rfl ?_
  refine ax_getI (q := 23) hX dc_P_growAlong_20 rfl fl_P_29 rfl hs0_ ?_
  refine ax_iload_n (q := 24) hX dc_P_growAlong_23 rfl rfl rfl ?_
  refine ax_if_eq (tgt := 31) (q := 27) hX dc_P_growAlong_24 rfl (by decide) (fun z4 => ?_) (fun z4 => ?_)
  · rw [if_pos z4] at h
    refine ax_iload_n (q := 32) hX dc_P_growAlong_31 rfl rfl rfl ?_
    exact ax_weak (ls' := [none, none, none]) (ax_fewP_s _ _ (by repeat (first | exact trivial | (refine And.intro rfl ?_)))) (e_P_growAlong_32 hX hF hS0  I2 R (x2) (I2 u0 5) u0 hty hs0_ rfl h)
  · rw [if_neg z4] at h
    refine ax_iconst (v := 0) (q := 28) hX dc_P_growAlong_27 rfl (by decide) ?_
    refine ax_goto (tgt := 32) hX dc_P_growAlong_28 (by decide) ?_
    exact ax_weak (ls' := [none, none, none]) (ax_fewP_s _ _ (by repeat (first | exact trivial | (refine And.intro rfl ?_)))) (e_P_growAlong_32 hX hF hS0  I2 R (0) (I2 u0 5) u0 hty hs0_ rfl h)
def d_P_growAlong (S : ax_S) (I : ax_I) (R : ax_R) (u0 : Nat) (x1 : Int32) (x2 : Int32) : Option (ax_I) :=
  if x1 = 0 then
    d_P_growAlong_14 S  I R u0 (x1) (x2) (0) (I u0 4) u0
  else
    d_P_growAlong_14 S  I R u0 (x1) (x2) (x2) (I u0 4) u0
set_option maxHeartbeats 1000000 in
theorem c_P_growAlong (l : Launch) {S : ax_S} {I : ax_I} {R : ax_R} {L : ax_L} {u0 : Nat} {x1 : Int32} {x2 : Int32} {out : ax_I} (hty : ax_typ S R) (hs0 : S u0 = some (.inl 1)) (h : d_P_growAlong S I R u0 x1 x2 = some out) : ax_Met l y_P_growAlong b_P_growAlong 3 none (ax_rm 1 0 0) [.ref u0, .int x1, .int x2] S I R L (ax_eq none S out R L) := by
  refine ax_enter (own := "LossFreeTools$Picture") (by decide +kernel) rfl (ax_cats rfl) (Nat.le_of_ble_eq_true rfl) (fun X hX hF _ hS0 => ?_)
  show ax_W X 3 0 [some (.ref u0), some (.int (x1)), some (.int (x2))] [] S I R L 0 0
  unfold d_P_growAlong at h
  refine ax_aload_n (q := 1) hX dc_P_growAlong_0 rfl rfl rfl ?_
  refine ax_dup (q := 2) hX dc_P_growAlong_1 rfl rfl ?_
  refine ax_getI (q := 5) hX dc_P_growAlong_2 rfl fl_P_25 rfl hs0 ?_
  refine ax_iload_n (q := 6) hX dc_P_growAlong_5 rfl rfl rfl ?_
  refine ax_if_eq (tgt := 13) (q := 9) hX dc_P_growAlong_6 rfl (by decide) (fun z1 => ?_) (fun z1 => ?_)
  · rw [if_pos z1] at h
    refine ax_iconst (v := 0) (q := 14) hX dc_P_growAlong_13 rfl (by decide) ?_
    exact (e_P_growAlong_14 hX hF hS0  I R u0 (x1) (x2) (0) (I u0 4) u0 hty hs0 hs0 rfl h)
  · rw [if_neg z1] at h
    refine ax_iload_n (q := 10) hX dc_P_growAlong_9 rfl rfl rfl ?_
    refine ax_goto (tgt := 14) hX dc_P_growAlong_10 (by decide) ?_
    exact (e_P_growAlong_14 hX hF hS0  I R u0 (x1) (x2) (x2) (I u0 4) u0 hty hs0 hs0 rfl h)
def d_K_mirrors (S : ax_S) (I : ax_I) (R : ax_R) (x0 : Int32) : Option (Bool) :=
  if x0 < 4 then
    some (false)
  else
    some (true)
set_option maxHeartbeats 1000000 in
theorem c_K_mirrors (l : Launch) {S : ax_S} {I : ax_I} {R : ax_R} {L : ax_L} {x0 : Int32} {out : Bool} (hty : ax_typ S R) (h : d_K_mirrors S I R x0 = some out) : ax_Met l y_K_mirrors b_K_mirrors 1 (some .boolean) (ax_rm 1 0 0) [.int x0] S I R L (ax_eq (some (.int (ax_b out))) S I R L) := by
  refine ax_enter (own := "LossFreeTools") (by decide +kernel) rfl (ax_cats rfl) (Nat.le_of_ble_eq_true rfl) (fun X hX hF _ hS0 => ?_)
  show ax_W X 1 0 [some (.int (x0))] [] S I R L 0 0
  unfold d_K_mirrors at h
  refine ax_iload_n (q := 1) hX dc_K_mirrors_0 rfl rfl rfl ?_
  refine ax_iconst (v := 4) (q := 2) hX dc_K_mirrors_1 rfl (by decide) ?_
  refine ax_icmp_lt (tgt := 9) (q := 5) hX dc_K_mirrors_2 rfl (by decide) (fun z1 => ?_) (fun z1 => ?_)
  · rw [if_pos z1] at h
    refine ax_iconst (v := 0) (q := 10) hX dc_K_mirrors_9 rfl (by decide) ?_
    cases h
    exact ax_iret hX hF dc_K_mirrors_10 rfl rfl (by decide) (by decide) ax_eq.mk (by rw [hS0]; exact fun _ _ z => z)
  · rw [if_neg z1] at h
    refine ax_iconst (v := 1) (q := 6) hX dc_K_mirrors_5 rfl (by decide) ?_
    refine ax_goto (tgt := 10) hX dc_K_mirrors_6 (by decide) ?_
    cases h
    exact ax_iret hX hF dc_K_mirrors_10 rfl rfl (by decide) (by decide) ax_eq.mk (by rw [hS0]; exact fun _ _ z => z)
def d_T_mirrorIn (S : ax_S) (I : ax_I) (R : ax_R) (u0 : Nat) (x1 : Int32) : Option (ax_I) :=
  (some (ax_up I u0 2 ((x1 - (I u0 2)) - (I u0 4)))).bind fun I1 =>
  some (I1)
set_option maxHeartbeats 1000000 in
theorem c_T_mirrorIn (l : Launch) {S : ax_S} {I : ax_I} {R : ax_R} {L : ax_L} {u0 : Nat} {x1 : Int32} {out : ax_I} (hty : ax_typ S R) (hs0 : S u0 = some (.inl 3)) (h : d_T_mirrorIn S I R u0 x1 = some out) : ax_Met l y_T_mirrorIn b_T_mirrorIn 2 none (ax_rm 1 0 0) [.ref u0, .int x1] S I R L (ax_eq none S out R L) := by
  refine ax_enter (own := "LossFreeTools$Tile") (by decide +kernel) rfl (ax_cats rfl) (Nat.le_of_ble_eq_true rfl) (fun X hX hF _ hS0 => ?_)
  show ax_W X 2 0 [some (.ref u0), some (.int (x1))] [] S I R L 0 0
  unfold d_T_mirrorIn at h
  refine ax_aload_n (q := 1) hX dc_T_mirrorIn_0 rfl rfl rfl ?_
  refine ax_iload_n (q := 2) hX dc_T_mirrorIn_1 rfl rfl rfl ?_
  refine ax_aload_n (q := 3) hX dc_T_mirrorIn_2 rfl rfl rfl ?_
  refine ax_getI (q := 6) hX dc_T_mirrorIn_3 rfl fl_T_15 rfl hs0 ?_
  refine ax_isub (q := 7) hX dc_T_mirrorIn_6 rfl ?_
  refine ax_aload_n (q := 8) hX dc_T_mirrorIn_7 rfl rfl rfl ?_
  refine ax_getI (q := 11) hX dc_T_mirrorIn_8 rfl fl_T_22 rfl hs0 ?_
  refine ax_isub (q := 12) hX dc_T_mirrorIn_11 rfl ?_
  obtain ⟨I1, e2, h⟩ := ax_bs h
  refine ax_putI (q := 15) hX dc_T_mirrorIn_12 rfl fl_T_15 rfl hs0 (fun z => by cases z) rfl rfl e2 ?_
  cases h
  exact ax_vret hX hF dc_T_mirrorIn_15 (by decide) (by decide) ax_eq.mk (by rw [hS0]; exact fun _ _ z => z)
def d_K_quarters (S : ax_S) (I : ax_I) (R : ax_R) (x0 : Int32) : Option (Int32) :=
  some (x0 &&& 3)
set_option maxHeartbeats 1000000 in
theorem c_K_quarters (l : Launch) {S : ax_S} {I : ax_I} {R : ax_R} {L : ax_L} {x0 : Int32} {out : Int32} (hty : ax_typ S R) (h : d_K_quarters S I R x0 = some out) : ax_Met l y_K_quarters b_K_quarters 1 (some .int) (ax_rm 1 0 0) [.int x0] S I R L (ax_eq (some (.int out)) S I R L) := by
  refine ax_enter (own := "LossFreeTools") (by decide +kernel) rfl (ax_cats rfl) (Nat.le_of_ble_eq_true rfl) (fun X hX hF _ hS0 => ?_)
  show ax_W X 1 0 [some (.int (x0))] [] S I R L 0 0
  unfold d_K_quarters at h
  refine ax_iload_n (q := 1) hX dc_K_quarters_0 rfl rfl rfl ?_
  refine ax_iconst (v := 3) (q := 2) hX dc_K_quarters_1 rfl (by decide) ?_
  refine ax_iand (q := 3) hX dc_K_quarters_2 rfl ?_
  cases h
  exact ax_iret hX hF dc_K_quarters_3 rfl rfl (by decide) (by decide) ax_eq.mk (by rw [hS0]; exact fun _ _ z => z)
def d_T_quarterIn (S : ax_S) (I : ax_I) (R : ax_R) (u0 : Nat) (x1 : Int32) : Option (ax_I) :=
  (some (ax_up I u0 3 (I u0 2))).bind fun I1 =>
  (some (ax_up I1 u0 2 ((x1 - (I u0 3)) - (I u0 5)))).bind fun I3 =>
  (some (ax_up I3 u0 4 (I3 u0 5))).bind fun I5 =>
  (some (ax_up I5 u0 5 (I3 u0 4))).bind fun I7 =>
  some (I7)
set_option maxHeartbeats 1000000 in
theorem c_T_quarterIn (l : Launch) {S : ax_S} {I : ax_I} {R : ax_R} {L : ax_L} {u0 : Nat} {x1 : Int32} {out : ax_I} (hty : ax_typ S R) (hs0 : S u0 = some (.inl 3)) (h : d_T_quarterIn S I R u0 x1 = some out) : ax_Met l y_T_quarterIn b_T_quarterIn 4 none (ax_rm 1 0 0) [.ref u0, .int x1] S I R L (ax_eq none S out R L) := by
  refine ax_enter (own := "LossFreeTools$Tile") (by decide +kernel) rfl (ax_cats rfl) (Nat.le_of_ble_eq_true rfl) (fun X hX hF _ hS0 => ?_)
  show ax_W X 4 0 [some (.ref u0), some (.int (x1)), none, none] [] S I R L 0 0
  unfold d_T_quarterIn at h
  refine ax_iload_n (q := 1) hX dc_T_quarterIn_0 rfl rfl rfl ?_
  refine ax_aload_n (q := 2) hX dc_T_quarterIn_1 rfl rfl rfl ?_
  refine ax_getI (q := 5) hX dc_T_quarterIn_2 rfl fl_T_19 rfl hs0 ?_
  refine ax_isub (q := 6) hX dc_T_quarterIn_5 rfl ?_
  refine ax_aload_n (q := 7) hX dc_T_quarterIn_6 rfl rfl rfl ?_
  refine ax_getI (q := 10) hX dc_T_quarterIn_7 rfl fl_T_25 rfl hs0 ?_
  refine ax_isub (q := 11) hX dc_T_quarterIn_10 rfl ?_
  refine ax_istore_n (ls' := [some (.ref u0), some (.int (x1)), some (.int ((x1 - (I u0 3)) - (I u0 5))), none]) (q := 12) hX dc_T_quarterIn_11 rfl rfl (by decide) rfl ?_
  refine ax_aload_n (q := 13) hX dc_T_quarterIn_12 rfl rfl rfl ?_
  refine ax_aload_n (q := 14) hX dc_T_quarterIn_13 rfl rfl rfl ?_
  refine ax_getI (q := 17) hX dc_T_quarterIn_14 rfl fl_T_15 rfl hs0 ?_
  obtain ⟨I1, e2, h⟩ := ax_bs h
  refine ax_putI (q := 20) hX dc_T_quarterIn_17 rfl fl_T_19 rfl hs0 (fun z => by cases z) rfl rfl e2 ?_
  refine ax_aload_n (q := 21) hX dc_T_quarterIn_20 rfl rfl rfl ?_
  refine ax_iload_n (q := 22) hX dc_T_quarterIn_21 rfl rfl rfl ?_
  obtain ⟨I3, e4, h⟩ := ax_bs h
  refine ax_putI (q := 25) hX dc_T_quarterIn_22 rfl fl_T_15 rfl hs0 (fun z => by cases z) rfl rfl e4 ?_
  refine ax_aload_n (q := 26) hX dc_T_quarterIn_25 rfl rfl rfl ?_
  refine ax_getI (q := 29) hX dc_T_quarterIn_26 rfl fl_T_22 rfl hs0 ?_
  refine ax_istore_n (ls' := [some (.ref u0), some (.int (x1)), some (.int ((x1 - (I u0 3)) - (I u0 5))), some (.int (I3 u0 4))]) (q := 30) hX dc_T_quarterIn_29 rfl rfl (by decide) rfl ?_
  refine ax_aload_n (q := 31) hX dc_T_quarterIn_30 rfl rfl rfl ?_
  refine ax_aload_n (q := 32) hX dc_T_quarterIn_31 rfl rfl rfl ?_
  refine ax_getI (q := 35) hX dc_T_quarterIn_32 rfl fl_T_25 rfl hs0 ?_
  obtain ⟨I5, e6, h⟩ := ax_bs h
  refine ax_putI (q := 38) hX dc_T_quarterIn_35 rfl fl_T_22 rfl hs0 (fun z => by cases z) rfl rfl e6 ?_
  refine ax_aload_n (q := 39) hX dc_T_quarterIn_38 rfl rfl rfl ?_
  refine ax_iload_n (q := 40) hX dc_T_quarterIn_39 rfl rfl rfl ?_
  obtain ⟨I7, e8, h⟩ := ax_bs h
  refine ax_putI (q := 43) hX dc_T_quarterIn_40 rfl fl_T_25 rfl hs0 (fun z => by cases z) rfl rfl e8 ?_
  cases h
  exact ax_vret hX hF dc_T_quarterIn_43 (by decide) (by decide) ax_eq.mk (by rw [hS0]; exact fun _ _ z => z)
def d_P_takeOver_140 (S : ax_S) (I : ax_I) (R : ax_R) (u1 : Nat) : Option (ax_I × ax_R) :=
  (some (ax_up I u1 2 (0))).bind fun I85 =>
  (some (ax_up I85 u1 3 (0))).bind fun I87 =>
  some (I87, R)
set_option maxHeartbeats 1000000 in
theorem e_P_takeOver_140 {l : Launch} {X : ax_X} {S : ax_S} {L : ax_L} {out : ax_I × ax_R} (hX : ax_ok X l "LossFreeTools$Picture" b_P_takeOver 4 (ax_rm 1 0 0)) (hF : ax_fin X none 0 0 (ax_of (ax_eq none S out.1 out.2 L))) (hS0 : ax_S0 X = S) : ∀ (I : ax_I) (R : ax_R) (u1 : Nat), ax_typ S R → (S u1 = some (.inl 1)) → d_P_takeOver_140 S  I R u1 = some out → ax_W X 4 140 [none, some (.ref u1), none, none] [] S I R L 0 0 := by
  rintro I R u1 hty hs1_ h
  unfold d_P_takeOver_140 at h
  refine ax_aload_n (q := 141) hX dc_P_takeOver_140 rfl rfl rfl ?_
  refine ax_iconst (v := 0) (q := 142) hX dc_P_takeOver_141 rfl (by decide) ?_
  obtain ⟨I85, e86, h⟩ := ax_bs h
  refine ax_putI (q := 145) hX dc_P_takeOver_142 rfl fl_P_32 rfl hs1_ (fun z => by cases z) rfl rfl e86 ?_
  refine ax_aload_n (q := 146) hX dc_P_takeOver_145 rfl rfl rfl ?_
  refine ax_iconst (v := 0) (q := 147) hX dc_P_takeOver_146 rfl (by decide) ?_
  obtain ⟨I87, e88, h⟩ := ax_bs h
  refine ax_putI (q := 150) hX dc_P_takeOver_147 rfl fl_P_35 rfl hs1_ (fun z => by cases z) rfl rfl e88 ?_
  cases h
  exact ax_vret hX hF dc_P_takeOver_150 (by decide) (by decide) ax_eq.mk (by rw [hS0]; exact fun _ _ z => z)
def d_P_takeOver_72 (S : ax_S) : Nat → ax_I → ax_R → Nat → Nat → Int32 → Option (ax_I × ax_R)
  | 0, _, _, _, _, _ => none
  | n + 1, I, R, u0, u1, x2 =>
    if (I u1 3) ≤ x2 then
      d_P_takeOver_140 S  I R u1
    else
      (R u0 1).bind fun u44 =>
      if (nI (ax_len S u44)) ≤ (I u0 3) then
        d_P_takeOver_140 S  I R u1
      else
        (R u0 1).bind fun u49 =>
        (ax_ix S u49 (I u0 3)).bind fun j53 =>
        (R u49 j53).bind fun u55 =>
        (R u0 1).bind fun u58 =>
        (R u1 1).bind fun u62 =>
        (ax_ix S u62 (x2)).bind fun j66 =>
        (R u62 j66).bind fun u68 =>
        (ax_ix S u58 (I u0 3)).bind fun j71 =>
        (some (ax_up R u58 j71 (some u68))).bind fun R73 =>
        (R73 u1 1).bind fun u75 =>
        (ax_ix S u75 (x2)).bind fun j79 =>
        (some (ax_up R73 u75 j79 (some u55))).bind fun R81 =>
        (some (ax_up I u0 3 ((I u0 3) + 1))).bind fun I83 =>
        d_P_takeOver_72 S  n I83 R81 u0 u1 (x2 + 1)
set_option maxHeartbeats 1000000 in
theorem e_P_takeOver_72 {l : Launch} {X : ax_X} {S : ax_S} {L : ax_L} {out : ax_I × ax_R} (hX : ax_ok X l "LossFreeTools$Picture" b_P_takeOver 4 (ax_rm 1 0 0)) (hF : ax_fin X none 0 0 (ax_of (ax_eq none S out.1 out.2 L))) (hS0 : ax_S0 X = S) : ∀ (n : Nat), ∀ (I : ax_I) (R : ax_R) (u0 : Nat) (u1 : Nat) (x2 : Int32), ax_typ S R → (S u0 = some (.inl 1)) → (S u1 = some (.inl 1)) → d_P_takeOver_72 S  n I R u0 u1 x2 = some out → ax_W X 4 72 [some (.ref u0), some (.ref u1), some (.int (x2)), none] [] S I R L 0 0 := by
  intro n
  induction n with
  | zero =>
    rintro I R u0 u1 x2 hty hs0_ hs1_ h
    cases h
  | succ n ih =>
    rintro I R u0 u1 x2 hty hs0_ hs1_ h
    unfold d_P_takeOver_72 at h
    refine ax_iload_n (q := 73) hX dc_P_takeOver_72 rfl rfl rfl ?_
    refine ax_aload_n (q := 74) hX dc_P_takeOver_73 rfl rfl rfl ?_
    refine ax_getI (q := 77) hX dc_P_takeOver_74 rfl fl_P_35 rfl hs1_ ?_
    refine ax_icmp_ge (tgt := 140) (q := 80) hX dc_P_takeOver_77 rfl (by decide) (fun z43 => ?_) (fun z43 => ?_)
    · rw [if_pos z43] at h
      exact ax_weak (ls' := [none, some (.ref u1), none, none]) (ax_fewP_s _ _ (by repeat (first | exact trivial | (refine And.intro rfl ?_)))) (e_P_takeOver_140 hX hF hS0  I R u1 hty hs1_ h)
    · rw [if_neg z43] at h
      refine ax_aload_n (q := 81) hX dc_P_takeOver_80 rfl rfl rfl ?_
      refine ax_getI (q := 84) hX dc_P_takeOver_81 rfl fl_P_35 rfl hs0_ ?_
      refine ax_aload_n (q := 85) hX dc_P_takeOver_84 rfl rfl rfl ?_
      obtain ⟨u44, hu45, h⟩ := ax_bd h
      obtain ⟨n47, hs46⟩ : ∃ n, S u44 = some (.inr (3, n)) := hty.1 _ _ _ _ hs0_ hu45
      refine ax_getR (q := 88) hX dc_P_takeOver_85 rfl fl_P_20 rfl hs0_ hu45 ?_
      refine ax_alen (q := 89) hX dc_P_takeOver_88 rfl hs46 ?_
      rw [← ax_len_s hs46]
      refine ax_icmp_ge (tgt := 140) (q := 92) hX dc_P_takeOver_89 rfl (by decide) (fun z48 => ?_) (fun z48 => ?_)
      · rw [if_pos z48] at h
        exact ax_weak (ls' := [none, some (.ref u1), none, none]) (ax_fewP_s _ _ (by repeat (first | exact trivial | (refine And.intro rfl ?_)))) (e_P_takeOver_140 hX hF hS0  I R u1 hty hs1_ h)
      · rw [if_neg z48] at h
        refine ax_aload_n (q := 93) hX dc_P_takeOver_92 rfl rfl rfl ?_
        obtain ⟨u49, hu50, h⟩ := ax_bd h
        obtain ⟨n52, hs51⟩ : ∃ n, S u49 = some (.inr (3, n)) := hty.1 _ _ _ _ hs0_ hu50
        refine ax_getR (q := 96) hX dc_P_takeOver_93 rfl fl_P_20 rfl hs0_ hu50 ?_
        refine ax_aload_n (q := 97) hX dc_P_takeOver_96 rfl rfl rfl ?_
        refine ax_getI (q := 100) hX dc_P_takeOver_97 rfl fl_P_35 rfl hs0_ ?_
        obtain ⟨j53, hj54, h⟩ := ax_bd h
        have hj54 := ax_ix_s hty hs51 hj54
        obtain ⟨u55, hu56, h⟩ := ax_bd h
        have hs57 : S u55 = some (.inl 0) := hty.2.2.1 _ _ _ _ hs51 hu56
        refine ax_aald (q := 101) hX j53 dc_P_takeOver_100 rfl hs51 rfl rfl hj54.1 hj54.2.1 hj54.2.2 hu56 ?_
        refine ax_astore_n (ls' := [some (.ref u0), some (.ref u1), some (.int (x2)), some (.ref u55)]) (q := 102) hX dc_P_takeOver_101 rfl rfl (by decide) rfl ?_
        refine ax_aload_n (q := 103) hX dc_P_takeOver_102 rfl rfl rfl ?_
        obtain ⟨u58, hu59, h⟩ := ax_bd h
        obtain ⟨n61, hs60⟩ : ∃ n, S u58 = some (.inr (3, n)) := hty.1 _ _ _ _ hs0_ hu59
        refine ax_getR (q := 106) hX dc_P_takeOver_103 rfl fl_P_20 rfl hs0_ hu59 ?_
        refine ax_aload_n (q := 107) hX dc_P_takeOver_106 rfl rfl rfl ?_
        refine ax_getI (q := 110) hX dc_P_takeOver_107 rfl fl_P_35 rfl hs0_ ?_
        refine ax_aload_n (q := 111) hX dc_P_takeOver_110 rfl rfl rfl ?_
        obtain ⟨u62, hu63, h⟩ := ax_bd h
        obtain ⟨n65, hs64⟩ : ∃ n, S u62 = some (.inr (3, n)) := hty.1 _ _ _ _ hs1_ hu63
        refine ax_getR (q := 114) hX dc_P_takeOver_111 rfl fl_P_20 rfl hs1_ hu63 ?_
        refine ax_iload_n (q := 115) hX dc_P_takeOver_114 rfl rfl rfl ?_
        obtain ⟨j66, hj67, h⟩ := ax_bd h
        have hj67 := ax_ix_s hty hs64 hj67
        obtain ⟨u68, hu69, h⟩ := ax_bd h
        have hs70 : S u68 = some (.inl 0) := hty.2.2.1 _ _ _ _ hs64 hu69
        refine ax_aald (q := 116) hX j66 dc_P_takeOver_115 rfl hs64 rfl rfl hj67.1 hj67.2.1 hj67.2.2 hu69 ?_
        obtain ⟨j71, hj72, h⟩ := ax_bd h
        have hj72 := ax_ix_s hty hs60 hj72
        obtain ⟨R73, e74, h⟩ := ax_bs h
        have hty : ax_typ S R73 := e74 ▸ ax_typ_a3 hty hs60 hs70
        refine ax_aast (q := 117) hX j71 dc_P_takeOver_116 rfl hs60 rfl hs70 rfl rfl hj72.1 hj72.2.1 hj72.2.2 e74 ?_
        refine ax_aload_n (q := 118) hX dc_P_takeOver_117 rfl rfl rfl ?_
        obtain ⟨u75, hu76, h⟩ := ax_bd h
        obtain ⟨n78, hs77⟩ : ∃ n, S u75 = some (.inr (3, n)) := hty.1 _ _ _ _ hs1_ hu76
        refine ax_getR (q := 121) hX dc_P_takeOver_118 rfl fl_P_20 rfl hs1_ hu76 ?_
        refine ax_iload_n (q := 122) hX dc_P_takeOver_121 rfl rfl rfl ?_
        refine ax_aload_n (q := 123) hX dc_P_takeOver_122 rfl rfl rfl ?_
        obtain ⟨j79, hj80, h⟩ := ax_bd h
        have hj80 := ax_ix_s hty hs77 hj80
        obtain ⟨R81, e82, h⟩ := ax_bs h
        have hty : ax_typ S R81 := e82 ▸ ax_typ_a3 hty hs77 hs57
        refine ax_aast (q := 124) hX j79 dc_P_takeOver_123 rfl hs77 rfl hs57 rfl rfl hj80.1 hj80.2.1 hj80.2.2 e82 ?_
        refine ax_aload_n (q := 125) hX dc_P_takeOver_124 rfl rfl rfl ?_
        refine ax_dup (q := 126) hX dc_P_takeOver_125 rfl rfl ?_
        refine ax_getI (q := 129) hX dc_P_takeOver_126 rfl fl_P_35 rfl hs0_ ?_
        refine ax_iconst (v := 1) (q := 130) hX dc_P_takeOver_129 rfl (by decide) ?_
        refine ax_iadd (q := 131) hX dc_P_takeOver_130 rfl ?_
        obtain ⟨I83, e84, h⟩ := ax_bs h
        refine ax_putI (q := 134) hX dc_P_takeOver_131 rfl fl_P_35 rfl hs0_ (fun z => by cases z) rfl rfl e84 ?_
        refine ax_iinc (v := x2 + 1) (ls' := [some (.ref u0), some (.ref u1), some (.int (x2 + 1)), some (.ref u55)]) (q := 137) hX dc_P_takeOver_134 rfl rfl rfl (by decide) rfl ?_
        refine ax_goto (tgt := 72) hX dc_P_takeOver_137 (by decide) ?_
        exact ax_weak (ls' := [some (.ref u0), some (.ref u1), some (.int (x2 + 1)), none]) (ax_fewP_s _ _ (by repeat (first | exact trivial | (refine And.intro rfl ?_)))) (ih I83 R81 u0 u1 (x2 + 1) hty hs0_ hs1_ h)
def d_P_takeOver_70 (S : ax_S) (I : ax_I) (R : ax_R) (u0 : Nat) (u1 : Nat) : Option (ax_I × ax_R) :=
  d_P_takeOver_72 S  5000 I R u0 u1 (0)
set_option maxHeartbeats 1000000 in
theorem e_P_takeOver_70 {l : Launch} {X : ax_X} {S : ax_S} {L : ax_L} {out : ax_I × ax_R} (hX : ax_ok X l "LossFreeTools$Picture" b_P_takeOver 4 (ax_rm 1 0 0)) (hF : ax_fin X none 0 0 (ax_of (ax_eq none S out.1 out.2 L))) (hS0 : ax_S0 X = S) : ∀ (I : ax_I) (R : ax_R) (u0 : Nat) (u1 : Nat), ax_typ S R → (S u0 = some (.inl 1)) → (S u1 = some (.inl 1)) → d_P_takeOver_70 S  I R u0 u1 = some out → ax_W X 4 70 [some (.ref u0), some (.ref u1), none, none] [] S I R L 0 0 := by
  rintro I R u0 u1 hty hs0_ hs1_ h
  unfold d_P_takeOver_70 at h
  refine ax_iconst (v := 0) (q := 71) hX dc_P_takeOver_70 rfl (by decide) ?_
  refine ax_istore_n (ls' := [some (.ref u0), some (.ref u1), some (.int (0)), none]) (q := 72) hX dc_P_takeOver_71 rfl rfl (by decide) rfl ?_
  exact (e_P_takeOver_72 hX hF hS0  5000 I R u0 u1 (0) hty hs0_ hs1_ h)
def d_P_takeOver_2 (S : ax_S) : Nat → ax_I → ax_R → Nat → Nat → Int32 → Option (ax_I × ax_R)
  | 0, _, _, _, _, _ => none
  | n + 1, I, R, u0, u1, x2 =>
    if (I u1 2) ≤ x2 then
      d_P_takeOver_70 S  I R u0 u1
    else
      (R u0 0).bind fun u2 =>
      if (nI (ax_len S u2)) ≤ (I u0 2) then
        d_P_takeOver_70 S  I R u0 u1
      else
        (R u0 0).bind fun u7 =>
        (ax_ix S u7 (I u0 2)).bind fun j11 =>
        (R u7 j11).bind fun u13 =>
        (R u0 0).bind fun u16 =>
        (R u1 0).bind fun u20 =>
        (ax_ix S u20 (x2)).bind fun j24 =>
        (R u20 j24).bind fun u26 =>
        (ax_ix S u16 (I u0 2)).bind fun j29 =>
        (some (ax_up R u16 j29 (some u26))).bind fun R31 =>
        (R31 u1 0).bind fun u33 =>
        (ax_ix S u33 (x2)).bind fun j37 =>
        (some (ax_up R31 u33 j37 (some u13))).bind fun R39 =>
        (some (ax_up I u0 2 ((I u0 2) + 1))).bind fun I41 =>
        d_P_takeOver_2 S  n I41 R39 u0 u1 (x2 + 1)
set_option maxHeartbeats 1000000 in
theorem e_P_takeOver_2 {l : Launch} {X : ax_X} {S : ax_S} {L : ax_L} {out : ax_I × ax_R} (hX : ax_ok X l "LossFreeTools$Picture" b_P_takeOver 4 (ax_rm 1 0 0)) (hF : ax_fin X none 0 0 (ax_of (ax_eq none S out.1 out.2 L))) (hS0 : ax_S0 X = S) : ∀ (n : Nat), ∀ (I : ax_I) (R : ax_R) (u0 : Nat) (u1 : Nat) (x2 : Int32), ax_typ S R → (S u0 = some (.inl 1)) → (S u1 = some (.inl 1)) → d_P_takeOver_2 S  n I R u0 u1 x2 = some out → ax_W X 4 2 [some (.ref u0), some (.ref u1), some (.int (x2)), none] [] S I R L 0 0 := by
  intro n
  induction n with
  | zero =>
    rintro I R u0 u1 x2 hty hs0_ hs1_ h
    cases h
  | succ n ih =>
    rintro I R u0 u1 x2 hty hs0_ hs1_ h
    unfold d_P_takeOver_2 at h
    refine ax_iload_n (q := 3) hX dc_P_takeOver_2 rfl rfl rfl ?_
    refine ax_aload_n (q := 4) hX dc_P_takeOver_3 rfl rfl rfl ?_
    refine ax_getI (q := 7) hX dc_P_takeOver_4 rfl fl_P_32 rfl hs1_ ?_
    refine ax_icmp_ge (tgt := 70) (q := 10) hX dc_P_takeOver_7 rfl (by decide) (fun z1 => ?_) (fun z1 => ?_)
    · rw [if_pos z1] at h
      exact ax_weak (ls' := [some (.ref u0), some (.ref u1), none, none]) (ax_fewP_s _ _ (by repeat (first | exact trivial | (refine And.intro rfl ?_)))) (e_P_takeOver_70 hX hF hS0  I R u0 u1 hty hs0_ hs1_ h)
    · rw [if_neg z1] at h
      refine ax_aload_n (q := 11) hX dc_P_takeOver_10 rfl rfl rfl ?_
      refine ax_getI (q := 14) hX dc_P_takeOver_11 rfl fl_P_32 rfl hs0_ ?_
      refine ax_aload_n (q := 15) hX dc_P_takeOver_14 rfl rfl rfl ?_
      obtain ⟨u2, hu3, h⟩ := ax_bd h
      obtain ⟨n5, hs4⟩ : ∃ n, S u2 = some (.inr (2, n)) := hty.1 _ _ _ _ hs0_ hu3
      refine ax_getR (q := 18) hX dc_P_takeOver_15 rfl fl_P_11 rfl hs0_ hu3 ?_
      refine ax_alen (q := 19) hX dc_P_takeOver_18 rfl hs4 ?_
      rw [← ax_len_s hs4]
      refine ax_icmp_ge (tgt := 70) (q := 22) hX dc_P_takeOver_19 rfl (by decide) (fun z6 => ?_) (fun z6 => ?_)
      · rw [if_pos z6] at h
        exact ax_weak (ls' := [some (.ref u0), some (.ref u1), none, none]) (ax_fewP_s _ _ (by repeat (first | exact trivial | (refine And.intro rfl ?_)))) (e_P_takeOver_70 hX hF hS0  I R u0 u1 hty hs0_ hs1_ h)
      · rw [if_neg z6] at h
        refine ax_aload_n (q := 23) hX dc_P_takeOver_22 rfl rfl rfl ?_
        obtain ⟨u7, hu8, h⟩ := ax_bd h
        obtain ⟨n10, hs9⟩ : ∃ n, S u7 = some (.inr (2, n)) := hty.1 _ _ _ _ hs0_ hu8
        refine ax_getR (q := 26) hX dc_P_takeOver_23 rfl fl_P_11 rfl hs0_ hu8 ?_
        refine ax_aload_n (q := 27) hX dc_P_takeOver_26 rfl rfl rfl ?_
        refine ax_getI (q := 30) hX dc_P_takeOver_27 rfl fl_P_32 rfl hs0_ ?_
        obtain ⟨j11, hj12, h⟩ := ax_bd h
        have hj12 := ax_ix_s hty hs9 hj12
        obtain ⟨u13, hu14, h⟩ := ax_bd h
        have hs15 : S u13 = some (.inl 3) := hty.2.1 _ _ _ _ hs9 hu14
        refine ax_aald (q := 31) hX j11 dc_P_takeOver_30 rfl hs9 rfl rfl hj12.1 hj12.2.1 hj12.2.2 hu14 ?_
        refine ax_astore_n (ls' := [some (.ref u0), some (.ref u1), some (.int (x2)), some (.ref u13)]) (q := 32) hX dc_P_takeOver_31 rfl rfl (by decide) rfl ?_
        refine ax_aload_n (q := 33) hX dc_P_takeOver_32 rfl rfl rfl ?_
        obtain ⟨u16, hu17, h⟩ := ax_bd h
        obtain ⟨n19, hs18⟩ : ∃ n, S u16 = some (.inr (2, n)) := hty.1 _ _ _ _ hs0_ hu17
        refine ax_getR (q := 36) hX dc_P_takeOver_33 rfl fl_P_11 rfl hs0_ hu17 ?_
        refine ax_aload_n (q := 37) hX dc_P_takeOver_36 rfl rfl rfl ?_
        refine ax_getI (q := 40) hX dc_P_takeOver_37 rfl fl_P_32 rfl hs0_ ?_
        refine ax_aload_n (q := 41) hX dc_P_takeOver_40 rfl rfl rfl ?_
        obtain ⟨u20, hu21, h⟩ := ax_bd h
        obtain ⟨n23, hs22⟩ : ∃ n, S u20 = some (.inr (2, n)) := hty.1 _ _ _ _ hs1_ hu21
        refine ax_getR (q := 44) hX dc_P_takeOver_41 rfl fl_P_11 rfl hs1_ hu21 ?_
        refine ax_iload_n (q := 45) hX dc_P_takeOver_44 rfl rfl rfl ?_
        obtain ⟨j24, hj25, h⟩ := ax_bd h
        have hj25 := ax_ix_s hty hs22 hj25
        obtain ⟨u26, hu27, h⟩ := ax_bd h
        have hs28 : S u26 = some (.inl 3) := hty.2.1 _ _ _ _ hs22 hu27
        refine ax_aald (q := 46) hX j24 dc_P_takeOver_45 rfl hs22 rfl rfl hj25.1 hj25.2.1 hj25.2.2 hu27 ?_
        obtain ⟨j29, hj30, h⟩ := ax_bd h
        have hj30 := ax_ix_s hty hs18 hj30
        obtain ⟨R31, e32, h⟩ := ax_bs h
        have hty : ax_typ S R31 := e32 ▸ ax_typ_a2 hty hs18 hs28
        refine ax_aast (q := 47) hX j29 dc_P_takeOver_46 rfl hs18 rfl hs28 rfl rfl hj30.1 hj30.2.1 hj30.2.2 e32 ?_
        refine ax_aload_n (q := 48) hX dc_P_takeOver_47 rfl rfl rfl ?_
        obtain ⟨u33, hu34, h⟩ := ax_bd h
        obtain ⟨n36, hs35⟩ : ∃ n, S u33 = some (.inr (2, n)) := hty.1 _ _ _ _ hs1_ hu34
        refine ax_getR (q := 51) hX dc_P_takeOver_48 rfl fl_P_11 rfl hs1_ hu34 ?_
        refine ax_iload_n (q := 52) hX dc_P_takeOver_51 rfl rfl rfl ?_
        refine ax_aload_n (q := 53) hX dc_P_takeOver_52 rfl rfl rfl ?_
        obtain ⟨j37, hj38, h⟩ := ax_bd h
        have hj38 := ax_ix_s hty hs35 hj38
        obtain ⟨R39, e40, h⟩ := ax_bs h
        have hty : ax_typ S R39 := e40 ▸ ax_typ_a2 hty hs35 hs15
        refine ax_aast (q := 54) hX j37 dc_P_takeOver_53 rfl hs35 rfl hs15 rfl rfl hj38.1 hj38.2.1 hj38.2.2 e40 ?_
        refine ax_aload_n (q := 55) hX dc_P_takeOver_54 rfl rfl rfl ?_
        refine ax_dup (q := 56) hX dc_P_takeOver_55 rfl rfl ?_
        refine ax_getI (q := 59) hX dc_P_takeOver_56 rfl fl_P_32 rfl hs0_ ?_
        refine ax_iconst (v := 1) (q := 60) hX dc_P_takeOver_59 rfl (by decide) ?_
        refine ax_iadd (q := 61) hX dc_P_takeOver_60 rfl ?_
        obtain ⟨I41, e42, h⟩ := ax_bs h
        refine ax_putI (q := 64) hX dc_P_takeOver_61 rfl fl_P_32 rfl hs0_ (fun z => by cases z) rfl rfl e42 ?_
        refine ax_iinc (v := x2 + 1) (ls' := [some (.ref u0), some (.ref u1), some (.int (x2 + 1)), some (.ref u13)]) (q := 67) hX dc_P_takeOver_64 rfl rfl rfl (by decide) rfl ?_
        refine ax_goto (tgt := 2) hX dc_P_takeOver_67 (by decide) ?_
        exact ax_weak (ls' := [some (.ref u0), some (.ref u1), some (.int (x2 + 1)), none]) (ax_fewP_s _ _ (by repeat (first | exact trivial | (refine And.intro rfl ?_)))) (ih I41 R39 u0 u1 (x2 + 1) hty hs0_ hs1_ h)
def d_P_takeOver (S : ax_S) (I : ax_I) (R : ax_R) (u0 : Nat) (u1 : Nat) : Option (ax_I × ax_R) :=
  d_P_takeOver_2 S  5000 I R u0 u1 (0)
set_option maxHeartbeats 1000000 in
theorem c_P_takeOver (l : Launch) {S : ax_S} {I : ax_I} {R : ax_R} {L : ax_L} {u0 : Nat} {u1 : Nat} {out : ax_I × ax_R} (hty : ax_typ S R) (hs0 : S u0 = some (.inl 1)) (hs1 : S u1 = some (.inl 1)) (h : d_P_takeOver S I R u0 u1 = some out) : ax_Met l y_P_takeOver b_P_takeOver 4 none (ax_rm 1 0 0) [.ref u0, .ref u1] S I R L (ax_eq none S out.1 out.2 L) := by
  refine ax_enter (own := "LossFreeTools$Picture") (by decide +kernel) rfl (ax_cats rfl) (Nat.le_of_ble_eq_true rfl) (fun X hX hF _ hS0 => ?_)
  show ax_W X 4 0 [some (.ref u0), some (.ref u1), none, none] [] S I R L 0 0
  unfold d_P_takeOver at h
  refine ax_iconst (v := 0) (q := 1) hX dc_P_takeOver_0 rfl (by decide) ?_
  refine ax_istore_n (ls' := [some (.ref u0), some (.ref u1), some (.int (0)), none]) (q := 2) hX dc_P_takeOver_1 rfl rfl (by decide) rfl ?_
  exact (e_P_takeOver_2 hX hF hS0  5000 I R u0 u1 (0) hty hs0 hs1 h)
theorem te_P_takeOver_140 {S : ax_S} {out : ax_I × ax_R} : ∀ (I : ax_I) (R : ax_R) (u1 : Nat), ax_typ S R → (S u1 = some (.inl 1)) → d_P_takeOver_140 S  I R u1 = some out → ax_typ S out.2 := by
  rintro I R u1 hty hs1_ h
  unfold d_P_takeOver_140 at h
  obtain ⟨I85, e86, h⟩ := ax_bs h
  obtain ⟨I87, e88, h⟩ := ax_bs h
  cases h
  exact hty
theorem te_P_takeOver_72 {S : ax_S} {out : ax_I × ax_R} : ∀ (n : Nat), ∀ (I : ax_I) (R : ax_R) (u0 : Nat) (u1 : Nat) (x2 : Int32), ax_typ S R → (S u0 = some (.inl 1)) → (S u1 = some (.inl 1)) → d_P_takeOver_72 S  n I R u0 u1 x2 = some out → ax_typ S out.2 := by
  intro n
  induction n with
  | zero =>
    rintro I R u0 u1 x2 hty hs0_ hs1_ h
    cases h
  | succ n ih =>
    rintro I R u0 u1 x2 hty hs0_ hs1_ h
    unfold d_P_takeOver_72 at h
    by_cases z43 : (I u1 3) ≤ x2
    · rw [if_pos z43] at h
      exact te_P_takeOver_140   I R u1 hty hs1_ h
    · rw [if_neg z43] at h
      obtain ⟨u44, hu45, h⟩ := ax_bd h
      obtain ⟨n47, hs46⟩ : ∃ n, S u44 = some (.inr (3, n)) := hty.1 _ _ _ _ hs0_ hu45
      by_cases z48 : (nI (ax_len S u44)) ≤ (I u0 3)
      · rw [if_pos z48] at h
        exact te_P_takeOver_140   I R u1 hty hs1_ h
      · rw [if_neg z48] at h
        obtain ⟨u49, hu50, h⟩ := ax_bd h
        obtain ⟨n52, hs51⟩ : ∃ n, S u49 = some (.inr (3, n)) := hty.1 _ _ _ _ hs0_ hu50
        obtain ⟨j53, hj54, h⟩ := ax_bd h
        have hj54 := ax_ix_s hty hs51 hj54
        obtain ⟨u55, hu56, h⟩ := ax_bd h
        have hs57 : S u55 = some (.inl 0) := hty.2.2.1 _ _ _ _ hs51 hu56
        obtain ⟨u58, hu59, h⟩ := ax_bd h
        obtain ⟨n61, hs60⟩ : ∃ n, S u58 = some (.inr (3, n)) := hty.1 _ _ _ _ hs0_ hu59
        obtain ⟨u62, hu63, h⟩ := ax_bd h
        obtain ⟨n65, hs64⟩ : ∃ n, S u62 = some (.inr (3, n)) := hty.1 _ _ _ _ hs1_ hu63
        obtain ⟨j66, hj67, h⟩ := ax_bd h
        have hj67 := ax_ix_s hty hs64 hj67
        obtain ⟨u68, hu69, h⟩ := ax_bd h
        have hs70 : S u68 = some (.inl 0) := hty.2.2.1 _ _ _ _ hs64 hu69
        obtain ⟨j71, hj72, h⟩ := ax_bd h
        have hj72 := ax_ix_s hty hs60 hj72
        obtain ⟨R73, e74, h⟩ := ax_bs h
        have hty : ax_typ S R73 := e74 ▸ ax_typ_a3 hty hs60 hs70
        obtain ⟨u75, hu76, h⟩ := ax_bd h
        obtain ⟨n78, hs77⟩ : ∃ n, S u75 = some (.inr (3, n)) := hty.1 _ _ _ _ hs1_ hu76
        obtain ⟨j79, hj80, h⟩ := ax_bd h
        have hj80 := ax_ix_s hty hs77 hj80
        obtain ⟨R81, e82, h⟩ := ax_bs h
        have hty : ax_typ S R81 := e82 ▸ ax_typ_a3 hty hs77 hs57
        obtain ⟨I83, e84, h⟩ := ax_bs h
        exact ih I83 R81 u0 u1 (x2 + 1) hty hs0_ hs1_ h
theorem te_P_takeOver_70 {S : ax_S} {out : ax_I × ax_R} : ∀ (I : ax_I) (R : ax_R) (u0 : Nat) (u1 : Nat), ax_typ S R → (S u0 = some (.inl 1)) → (S u1 = some (.inl 1)) → d_P_takeOver_70 S  I R u0 u1 = some out → ax_typ S out.2 := by
  rintro I R u0 u1 hty hs0_ hs1_ h
  unfold d_P_takeOver_70 at h
  exact te_P_takeOver_72   5000 I R u0 u1 (0) hty hs0_ hs1_ h
theorem te_P_takeOver_2 {S : ax_S} {out : ax_I × ax_R} : ∀ (n : Nat), ∀ (I : ax_I) (R : ax_R) (u0 : Nat) (u1 : Nat) (x2 : Int32), ax_typ S R → (S u0 = some (.inl 1)) → (S u1 = some (.inl 1)) → d_P_takeOver_2 S  n I R u0 u1 x2 = some out → ax_typ S out.2 := by
  intro n
  induction n with
  | zero =>
    rintro I R u0 u1 x2 hty hs0_ hs1_ h
    cases h
  | succ n ih =>
    rintro I R u0 u1 x2 hty hs0_ hs1_ h
    unfold d_P_takeOver_2 at h
    by_cases z1 : (I u1 2) ≤ x2
    · rw [if_pos z1] at h
      exact te_P_takeOver_70   I R u0 u1 hty hs0_ hs1_ h
    · rw [if_neg z1] at h
      obtain ⟨u2, hu3, h⟩ := ax_bd h
      obtain ⟨n5, hs4⟩ : ∃ n, S u2 = some (.inr (2, n)) := hty.1 _ _ _ _ hs0_ hu3
      by_cases z6 : (nI (ax_len S u2)) ≤ (I u0 2)
      · rw [if_pos z6] at h
        exact te_P_takeOver_70   I R u0 u1 hty hs0_ hs1_ h
      · rw [if_neg z6] at h
        obtain ⟨u7, hu8, h⟩ := ax_bd h
        obtain ⟨n10, hs9⟩ : ∃ n, S u7 = some (.inr (2, n)) := hty.1 _ _ _ _ hs0_ hu8
        obtain ⟨j11, hj12, h⟩ := ax_bd h
        have hj12 := ax_ix_s hty hs9 hj12
        obtain ⟨u13, hu14, h⟩ := ax_bd h
        have hs15 : S u13 = some (.inl 3) := hty.2.1 _ _ _ _ hs9 hu14
        obtain ⟨u16, hu17, h⟩ := ax_bd h
        obtain ⟨n19, hs18⟩ : ∃ n, S u16 = some (.inr (2, n)) := hty.1 _ _ _ _ hs0_ hu17
        obtain ⟨u20, hu21, h⟩ := ax_bd h
        obtain ⟨n23, hs22⟩ : ∃ n, S u20 = some (.inr (2, n)) := hty.1 _ _ _ _ hs1_ hu21
        obtain ⟨j24, hj25, h⟩ := ax_bd h
        have hj25 := ax_ix_s hty hs22 hj25
        obtain ⟨u26, hu27, h⟩ := ax_bd h
        have hs28 : S u26 = some (.inl 3) := hty.2.1 _ _ _ _ hs22 hu27
        obtain ⟨j29, hj30, h⟩ := ax_bd h
        have hj30 := ax_ix_s hty hs18 hj30
        obtain ⟨R31, e32, h⟩ := ax_bs h
        have hty : ax_typ S R31 := e32 ▸ ax_typ_a2 hty hs18 hs28
        obtain ⟨u33, hu34, h⟩ := ax_bd h
        obtain ⟨n36, hs35⟩ : ∃ n, S u33 = some (.inr (2, n)) := hty.1 _ _ _ _ hs1_ hu34
        obtain ⟨j37, hj38, h⟩ := ax_bd h
        have hj38 := ax_ix_s hty hs35 hj38
        obtain ⟨R39, e40, h⟩ := ax_bs h
        have hty : ax_typ S R39 := e40 ▸ ax_typ_a2 hty hs35 hs15
        obtain ⟨I41, e42, h⟩ := ax_bs h
        exact ih I41 R39 u0 u1 (x2 + 1) hty hs0_ hs1_ h
theorem t_P_takeOver {S : ax_S} {I : ax_I} {R : ax_R} {u0 : Nat} {u1 : Nat} {out : ax_I × ax_R} (hty : ax_typ S R) (hs0 : S u0 = some (.inl 1)) (hs1 : S u1 = some (.inl 1)) (h : d_P_takeOver S I R u0 u1 = some out) : ax_typ S out.2 := by
  unfold d_P_takeOver at h
  exact te_P_takeOver_2   5000 I R u0 u1 (0) hty hs0 hs1 h
def d_T_partComesBefore_33 (S : ax_S) (I : ax_I) (R : ax_R) : Option (Bool) :=
  some (true)
set_option maxHeartbeats 1000000 in
theorem e_T_partComesBefore_33 {l : Launch} {X : ax_X} {S : ax_S} {L : ax_L} {I0 : ax_I} {R0 : ax_R} {out : Bool} (hX : ax_ok X l "LossFreeTools$Tile" b_T_partComesBefore 2 (ax_rm 1 0 0)) (hF : ax_fin X (some .boolean) 0 0 (ax_of (ax_eq (some (.int (ax_b out))) S I0 R0 L))) (hS0 : ax_S0 X = S) : ∀ (I : ax_I) (R : ax_R), ax_typ S R → I = I0 → R = R0 → d_T_partComesBefore_33 S  I R = some out → ax_W X 2 33 [none, none] [] S I R L 0 0 := by
  rintro I R hty hI0 hR0 h
  subst hI0
  subst hR0
  unfold d_T_partComesBefore_33 at h
  refine ax_iconst (v := 1) (q := 34) hX dc_T_partComesBefore_33 rfl (by decide) ?_
  refine ax_goto (tgt := 38) hX dc_T_partComesBefore_34 (by decide) ?_
  cases h
  exact ax_iret hX hF dc_T_partComesBefore_38 rfl rfl (by decide) (by decide) ax_eq.mk (by rw [hS0]; exact fun _ _ z => z)
def d_T_partComesBefore (S : ax_S) (I : ax_I) (R : ax_R) (u0 : Nat) (u1 : Nat) : Option (Bool) :=
  if (I u0 3) < (I u1 3) then
    d_T_partComesBefore_33 S  I R 
  else
    if (I u0 3) = (I u1 3) then
      if (I u1 2) ≤ (I u0 2) then
        some (false)
      else
        d_T_partComesBefore_33 S  I R 
    else
      some (false)
set_option maxHeartbeats 1000000 in
theorem c_T_partComesBefore (l : Launch) {S : ax_S} {I : ax_I} {R : ax_R} {L : ax_L} {u0 : Nat} {u1 : Nat} {out : Bool} (hty : ax_typ S R) (hs0 : S u0 = some (.inl 3)) (hs1 : S u1 = some (.inl 3)) (h : d_T_partComesBefore S I R u0 u1 = some out) : ax_Met l y_T_partComesBefore b_T_partComesBefore 2 (some .boolean) (ax_rm 1 0 0) [.ref u0, .ref u1] S I R L (ax_eq (some (.int (ax_b out))) S I R L) := by
  refine ax_enter (own := "LossFreeTools$Tile") (by decide +kernel) rfl (ax_cats rfl) (Nat.le_of_ble_eq_true rfl) (fun X hX hF _ hS0 => ?_)
  show ax_W X 2 0 [some (.ref u0), some (.ref u1)] [] S I R L 0 0
  unfold d_T_partComesBefore at h
  refine ax_aload_n (q := 1) hX dc_T_partComesBefore_0 rfl rfl rfl ?_
  refine ax_getI (q := 4) hX dc_T_partComesBefore_1 rfl fl_T_19 rfl hs0 ?_
  refine ax_aload_n (q := 5) hX dc_T_partComesBefore_4 rfl rfl rfl ?_
  refine ax_getI (q := 8) hX dc_T_partComesBefore_5 rfl fl_T_19 rfl hs1 ?_
  refine ax_icmp_lt (tgt := 33) (q := 11) hX dc_T_partComesBefore_8 rfl (by decide) (fun z1 => ?_) (fun z1 => ?_)
  · rw [if_pos z1] at h
    exact ax_weak (ls' := [none, none]) (ax_fewP_s _ _ (by repeat (first | exact trivial | (refine And.intro rfl ?_)))) (e_T_partComesBefore_33 hX hF hS0  I R  hty  rfl rfl h)
  · rw [if_neg z1] at h
    refine ax_aload_n (q := 12) hX dc_T_partComesBefore_11 rfl rfl rfl ?_
    refine ax_getI (q := 15) hX dc_T_partComesBefore_12 rfl fl_T_19 rfl hs0 ?_
    refine ax_aload_n (q := 16) hX dc_T_partComesBefore_15 rfl rfl rfl ?_
    refine ax_getI (q := 19) hX dc_T_partComesBefore_16 rfl fl_T_19 rfl hs1 ?_
    refine ax_icmp_ne (tgt := 37) (q := 22) hX dc_T_partComesBefore_19 rfl (by decide) (fun z2 => ?_) (fun z2 => ?_)
    · rw [if_neg z2] at h
      refine ax_iconst (v := 0) (q := 38) hX dc_T_partComesBefore_37 rfl (by decide) ?_
      cases h
      exact ax_iret hX hF dc_T_partComesBefore_38 rfl rfl (by decide) (by decide) ax_eq.mk (by rw [hS0]; exact fun _ _ z => z)
    · rw [if_pos z2] at h
      refine ax_aload_n (q := 23) hX dc_T_partComesBefore_22 rfl rfl rfl ?_
      refine ax_getI (q := 26) hX dc_T_partComesBefore_23 rfl fl_T_15 rfl hs0 ?_
      refine ax_aload_n (q := 27) hX dc_T_partComesBefore_26 rfl rfl rfl ?_
      refine ax_getI (q := 30) hX dc_T_partComesBefore_27 rfl fl_T_15 rfl hs1 ?_
      refine ax_icmp_ge (tgt := 37) (q := 33) hX dc_T_partComesBefore_30 rfl (by decide) (fun z3 => ?_) (fun z3 => ?_)
      · rw [if_pos z3] at h
        refine ax_iconst (v := 0) (q := 38) hX dc_T_partComesBefore_37 rfl (by decide) ?_
        cases h
        exact ax_iret hX hF dc_T_partComesBefore_38 rfl rfl (by decide) (by decide) ax_eq.mk (by rw [hS0]; exact fun _ _ z => z)
      · rw [if_neg z3] at h
        exact ax_weak (ls' := [none, none]) (ax_fewP_s _ _ (by repeat (first | exact trivial | (refine And.intro rfl ?_)))) (e_T_partComesBefore_33 hX hF hS0  I R  hty  rfl rfl h)
def d_T_partLength (S : ax_S) (I : ax_I) (R : ax_R) (u0 : Nat) : Option (Int32) :=
  some (12 + (I u0 1))
set_option maxHeartbeats 1000000 in
theorem c_T_partLength (l : Launch) {S : ax_S} {I : ax_I} {R : ax_R} {L : ax_L} {u0 : Nat} {out : Int32} (hty : ax_typ S R) (hs0 : S u0 = some (.inl 3)) (h : d_T_partLength S I R u0 = some out) : ax_Met l y_T_partLength b_T_partLength 1 (some .int) (ax_rm 1 0 0) [.ref u0] S I R L (ax_eq (some (.int out)) S I R L) := by
  refine ax_enter (own := "LossFreeTools$Tile") (by decide +kernel) rfl (ax_cats rfl) (Nat.le_of_ble_eq_true rfl) (fun X hX hF _ hS0 => ?_)
  show ax_W X 1 0 [some (.ref u0)] [] S I R L 0 0
  unfold d_T_partLength at h
  refine ax_bipush (v := 12) (q := 2) hX dc_T_partLength_0 rfl (by decide) ?_
  refine ax_aload_n (q := 3) hX dc_T_partLength_2 rfl rfl rfl ?_
  refine ax_getI (q := 6) hX dc_T_partLength_3 rfl fl_T_31 rfl hs0 ?_
  refine ax_iadd (q := 7) hX dc_T_partLength_6 rfl ?_
  cases h
  exact ax_iret hX hF dc_T_partLength_7 rfl rfl (by decide) (by decide) ax_eq.mk (by rw [hS0]; exact fun _ _ z => z)
def d_S_putByte (S : ax_S) (I : ax_I) (R : ax_R) (u0 : Nat) (x1 : Int32) : Option (ax_I) :=
  if (I u0 2) < 0 then
    some (I)
  else
    (R u0 0).bind fun u2 =>
    if (I u0 2) < (nI (ax_len S u2)) then
      (R u0 0).bind fun u7 =>
      (ax_ix S u7 (I u0 2)).bind fun j11 =>
      (some (ax_up I u7 j11 (x1))).bind fun I13 =>
      (some (ax_up I13 u0 2 ((I13 u0 2) + 1))).bind fun I15 =>
      (some (ax_up I15 u0 1 ((if I15 u0 1 < I15 u0 2 then I15 u0 2 else I15 u0 1)))).bind fun I17 =>
      some (I17)
    else
      some (I)
set_option maxHeartbeats 1000000 in
theorem c_S_putByte (l : Launch) {S : ax_S} {I : ax_I} {R : ax_R} {L : ax_L} {u0 : Nat} {x1 : Int32} {out : ax_I} (hty : ax_typ S R) (hs0 : S u0 = some (.inl 2)) (h : d_S_putByte S I R u0 x1 = some out) : ax_Met l y_S_putByte b_S_putByte 2 none (ax_rm 1 0 0) [.ref u0, .int x1] S I R L (ax_eq none S out R L) := by
  refine ax_enter (own := "LossFreeTools$Stream") (by decide +kernel) rfl (ax_cats rfl) (Nat.le_of_ble_eq_true rfl) (fun X hX hF _ hS0 => ?_)
  show ax_W X 2 0 [some (.ref u0), some (.int (x1))] [] S I R L 0 0
  unfold d_S_putByte at h
  refine ax_aload_n (q := 1) hX dc_S_putByte_0 rfl rfl rfl ?_
  refine ax_getI (q := 4) hX dc_S_putByte_1 rfl fl_S_19 rfl hs0 ?_
  refine ax_if_lt (tgt := 19) (q := 7) hX dc_S_putByte_4 rfl (by decide) (fun z1 => ?_) (fun z1 => ?_)
  · rw [if_pos z1] at h
    cases h
    exact ax_vret hX hF dc_S_putByte_19 (by decide) (by decide) ax_eq.mk (by rw [hS0]; exact fun _ _ z => z)
  · rw [if_neg z1] at h
    refine ax_aload_n (q := 8) hX dc_S_putByte_7 rfl rfl rfl ?_
    refine ax_getI (q := 11) hX dc_S_putByte_8 rfl fl_S_19 rfl hs0 ?_
    refine ax_aload_n (q := 12) hX dc_S_putByte_11 rfl rfl rfl ?_
    obtain ⟨u2, hu3, h⟩ := ax_bd h
    obtain ⟨n5, hs4⟩ : ∃ n, S u2 = some (.inr (0, n)) := hty.1 _ _ _ _ hs0 hu3
    refine ax_getR (q := 15) hX dc_S_putByte_12 rfl fl_S_9 rfl hs0 hu3 ?_
    refine ax_alen (q := 16) hX dc_S_putByte_15 rfl hs4 ?_
    rw [← ax_len_s hs4]
    refine ax_icmp_lt (tgt := 20) (q := 19) hX dc_S_putByte_16 rfl (by decide) (fun z6 => ?_) (fun z6 => ?_)
    · rw [if_pos z6] at h
      refine ax_aload_n (q := 21) hX dc_S_putByte_20 rfl rfl rfl ?_
      obtain ⟨u7, hu8, h⟩ := ax_bd h
      obtain ⟨n10, hs9⟩ : ∃ n, S u7 = some (.inr (0, n)) := hty.1 _ _ _ _ hs0 hu8
      refine ax_getR (q := 24) hX dc_S_putByte_21 rfl fl_S_9 rfl hs0 hu8 ?_
      refine ax_aload_n (q := 25) hX dc_S_putByte_24 rfl rfl rfl ?_
      refine ax_getI (q := 28) hX dc_S_putByte_25 rfl fl_S_19 rfl hs0 ?_
      refine ax_iload_n (q := 29) hX dc_S_putByte_28 rfl rfl rfl ?_
      obtain ⟨j11, hj12, h⟩ := ax_bd h
      have hj12 := ax_ix_s hty hs9 hj12
      obtain ⟨I13, e14, h⟩ := ax_bs h
      refine ax_iast (q := 30) hX j11 dc_S_putByte_29 rfl hs9 hj12.1 hj12.2.1 hj12.2.2 e14 ?_
      refine ax_aload_n (q := 31) hX dc_S_putByte_30 rfl rfl rfl ?_
      refine ax_dup (q := 32) hX dc_S_putByte_31 rfl rfl ?_
      refine ax_getI (q := 35) hX dc_S_putByte_32 rfl fl_S_19 rfl hs0 ?_
      refine ax_iconst (v := 1) (q := 36) hX dc_S_putByte_35 rfl (by decide) ?_
      refine ax_iadd (q := 37) hX dc_S_putByte_36 rfl ?_
      obtain ⟨I15, e16, h⟩ := ax_bs h
      refine ax_putI (q := 40) hX dc_S_putByte_37 rfl fl_S_19 rfl hs0 (fun z => by cases z) rfl rfl e16 ?_
      refine ax_aload_n (q := 41) hX dc_S_putByte_40 rfl rfl rfl ?_
      refine ax_aload_n (q := 42) hX dc_S_putByte_41 rfl rfl rfl ?_
      refine ax_getI (q := 45) hX dc_S_putByte_42 rfl fl_S_15 rfl hs0 ?_
      refine ax_aload_n (q := 46) hX dc_S_putByte_45 rfl rfl rfl ?_
      refine ax_getI (q := 49) hX dc_S_putByte_46 rfl fl_S_19 rfl hs0 ?_
      refine ax_mmax (q := 52) hX dc_S_putByte_49 rfl wl_S_22 wt_math_max wn_java_lang_Math wc_math_max (by decide) (by decide) (by decide) (by decide) (Nat.le_of_ble_eq_true rfl) ?_
      obtain ⟨I17, e18, h⟩ := ax_bs h
      refine ax_putI (q := 55) hX dc_S_putByte_52 rfl fl_S_15 rfl hs0 (fun z => by cases z) rfl rfl e18 ?_
      cases h
      exact ax_vret hX hF dc_S_putByte_55 (by decide) (by decide) ax_eq.mk (by rw [hS0]; exact fun _ _ z => z)
    · rw [if_neg z6] at h
      cases h
      exact ax_vret hX hF dc_S_putByte_19 (by decide) (by decide) ax_eq.mk (by rw [hS0]; exact fun _ _ z => z)
def d_S_empty (S : ax_S) (I : ax_I) (R : ax_R) (u0 : Nat) : Option (ax_I) :=
  (some (ax_up I u0 1 (0))).bind fun I1 =>
  (some (ax_up I1 u0 2 (0))).bind fun I3 =>
  some (I3)
set_option maxHeartbeats 1000000 in
theorem c_S_empty (l : Launch) {S : ax_S} {I : ax_I} {R : ax_R} {L : ax_L} {u0 : Nat} {out : ax_I} (hty : ax_typ S R) (hs0 : S u0 = some (.inl 2)) (h : d_S_empty S I R u0 = some out) : ax_Met l y_S_empty b_S_empty 1 none (ax_rm 1 0 0) [.ref u0] S I R L (ax_eq none S out R L) := by
  refine ax_enter (own := "LossFreeTools$Stream") (by decide +kernel) rfl (ax_cats rfl) (Nat.le_of_ble_eq_true rfl) (fun X hX hF _ hS0 => ?_)
  show ax_W X 1 0 [some (.ref u0)] [] S I R L 0 0
  unfold d_S_empty at h
  refine ax_aload_n (q := 1) hX dc_S_empty_0 rfl rfl rfl ?_
  refine ax_iconst (v := 0) (q := 2) hX dc_S_empty_1 rfl (by decide) ?_
  obtain ⟨I1, e2, h⟩ := ax_bs h
  refine ax_putI (q := 5) hX dc_S_empty_2 rfl fl_S_15 rfl hs0 (fun z => by cases z) rfl rfl e2 ?_
  refine ax_aload_n (q := 6) hX dc_S_empty_5 rfl rfl rfl ?_
  refine ax_iconst (v := 0) (q := 7) hX dc_S_empty_6 rfl (by decide) ?_
  obtain ⟨I3, e4, h⟩ := ax_bs h
  refine ax_putI (q := 10) hX dc_S_empty_7 rfl fl_S_19 rfl hs0 (fun z => by cases z) rfl rfl e4 ?_
  cases h
  exact ax_vret hX hF dc_S_empty_10 (by decide) (by decide) ax_eq.mk (by rw [hS0]; exact fun _ _ z => z)
def d_S_goTo (S : ax_S) (I : ax_I) (R : ax_R) (u0 : Nat) (x1 : Int32) : Option (ax_I) :=
  (some (ax_up I u0 2 (x1))).bind fun I1 =>
  some (I1)
set_option maxHeartbeats 1000000 in
theorem c_S_goTo (l : Launch) {S : ax_S} {I : ax_I} {R : ax_R} {L : ax_L} {u0 : Nat} {x1 : Int32} {out : ax_I} (hty : ax_typ S R) (hs0 : S u0 = some (.inl 2)) (h : d_S_goTo S I R u0 x1 = some out) : ax_Met l y_S_goTo b_S_goTo 2 none (ax_rm 1 0 0) [.ref u0, .int x1] S I R L (ax_eq none S out R L) := by
  refine ax_enter (own := "LossFreeTools$Stream") (by decide +kernel) rfl (ax_cats rfl) (Nat.le_of_ble_eq_true rfl) (fun X hX hF _ hS0 => ?_)
  show ax_W X 2 0 [some (.ref u0), some (.int (x1))] [] S I R L 0 0
  unfold d_S_goTo at h
  refine ax_aload_n (q := 1) hX dc_S_goTo_0 rfl rfl rfl ?_
  refine ax_iload_n (q := 2) hX dc_S_goTo_1 rfl rfl rfl ?_
  obtain ⟨I1, e2, h⟩ := ax_bs h
  refine ax_putI (q := 5) hX dc_S_goTo_2 rfl fl_S_19 rfl hs0 (fun z => by cases z) rfl rfl e2 ?_
  cases h
  exact ax_vret hX hF dc_S_goTo_5 (by decide) (by decide) ax_eq.mk (by rw [hS0]; exact fun _ _ z => z)
def d_S_sumFrom_8 (S : ax_S) : Nat → ax_I → ax_R → Nat → Int32 → Int32 → Option (Int32)
  | 0, _, _, _, _, _ => none
  | n + 1, I, R, u0, x2, x3 =>
    if (I u0 2) ≤ x3 then
      some (x2)
    else
      (R u0 0).bind fun u2 =>
      if (nI (ax_len S u2)) ≤ x3 then
        some (x2)
      else
        (R u0 0).bind fun u7 =>
        (ax_ix S u7 (x3)).bind fun j11 =>
        d_S_sumFrom_8 S  n I R u0 (((x2 * 31) + (I u7 j11)) - ((x2 * 31) + (I u7 j11)) / 65521 * 65521) (x3 + 1)
set_option maxHeartbeats 1000000 in
theorem e_S_sumFrom_8 {l : Launch} {X : ax_X} {S : ax_S} {L : ax_L} {I0 : ax_I} {R0 : ax_R} {out : Int32} (hX : ax_ok X l "LossFreeTools$Stream" b_S_sumFrom 4 (ax_rm 1 0 0)) (hF : ax_fin X (some .int) 0 0 (ax_of (ax_eq (some (.int out)) S I0 R0 L))) (hS0 : ax_S0 X = S) : ∀ (n : Nat), ∀ (I : ax_I) (R : ax_R) (u0 : Nat) (x2 : Int32) (x3 : Int32), ax_typ S R → (S u0 = some (.inl 2)) → I = I0 → R = R0 → d_S_sumFrom_8 S  n I R u0 x2 x3 = some out → ax_W X 4 8 [some (.ref u0), none, some (.int (x2)), some (.int (x3))] [] S I R L 0 0 := by
  intro n
  induction n with
  | zero =>
    rintro I R u0 x2 x3 hty hs0_ hI0 hR0 h
    cases h
  | succ n ih =>
    rintro I R u0 x2 x3 hty hs0_ hI0 hR0 h
    subst hI0
    subst hR0
    unfold d_S_sumFrom_8 at h
    refine ax_iload_n (q := 9) hX dc_S_sumFrom_8 rfl rfl rfl ?_
    refine ax_aload_n (q := 10) hX dc_S_sumFrom_9 rfl rfl rfl ?_
    refine ax_getI (q := 13) hX dc_S_sumFrom_10 rfl fl_S_19 rfl hs0_ ?_
    refine ax_icmp_ge (tgt := 46) (q := 16) hX dc_S_sumFrom_13 rfl (by decide) (fun z1 => ?_) (fun z1 => ?_)
    · rw [if_pos z1] at h
      refine ax_iload_n (q := 47) hX dc_S_sumFrom_46 rfl rfl rfl ?_
      cases h
      exact ax_iret hX hF dc_S_sumFrom_47 rfl rfl (by decide) (by decide) ax_eq.mk (by rw [hS0]; exact fun _ _ z => z)
    · rw [if_neg z1] at h
      refine ax_iload_n (q := 17) hX dc_S_sumFrom_16 rfl rfl rfl ?_
      refine ax_aload_n (q := 18) hX dc_S_sumFrom_17 rfl rfl rfl ?_
      obtain ⟨u2, hu3, h⟩ := ax_bd h
      obtain ⟨n5, hs4⟩ : ∃ n, S u2 = some (.inr (0, n)) := hty.1 _ _ _ _ hs0_ hu3
      refine ax_getR (q := 21) hX dc_S_sumFrom_18 rfl fl_S_9 rfl hs0_ hu3 ?_
      refine ax_alen (q := 22) hX dc_S_sumFrom_21 rfl hs4 ?_
      rw [← ax_len_s hs4]
      refine ax_icmp_ge (tgt := 46) (q := 25) hX dc_S_sumFrom_22 rfl (by decide) (fun z6 => ?_) (fun z6 => ?_)
      · rw [if_pos z6] at h
        refine ax_iload_n (q := 47) hX dc_S_sumFrom_46 rfl rfl rfl ?_
        cases h
        exact ax_iret hX hF dc_S_sumFrom_47 rfl rfl (by decide) (by decide) ax_eq.mk (by rw [hS0]; exact fun _ _ z => z)
      · rw [if_neg z6] at h
        refine ax_iload_n (q := 26) hX dc_S_sumFrom_25 rfl rfl rfl ?_
        refine ax_bipush (v := 31) (q := 28) hX dc_S_sumFrom_26 rfl (by decide) ?_
        refine ax_imul (q := 29) hX dc_S_sumFrom_28 rfl ?_
        refine ax_aload_n (q := 30) hX dc_S_sumFrom_29 rfl rfl rfl ?_
        obtain ⟨u7, hu8, h⟩ := ax_bd h
        obtain ⟨n10, hs9⟩ : ∃ n, S u7 = some (.inr (0, n)) := hty.1 _ _ _ _ hs0_ hu8
        refine ax_getR (q := 33) hX dc_S_sumFrom_30 rfl fl_S_9 rfl hs0_ hu8 ?_
        refine ax_iload_n (q := 34) hX dc_S_sumFrom_33 rfl rfl rfl ?_
        obtain ⟨j11, hj12, h⟩ := ax_bd h
        have hj12 := ax_ix_s hty hs9 hj12
        refine ax_iald (q := 35) hX j11 dc_S_sumFrom_34 rfl hs9 hj12.1 hj12.2.1 hj12.2.2 ?_
        refine ax_iadd (q := 36) hX dc_S_sumFrom_35 rfl ?_
        refine ax_ldc (v := 65521) (q := 38) hX dc_S_sumFrom_36 rfl wk_S_32 ?_
        refine ax_irem (q := 39) hX dc_S_sumFrom_38 rfl (by decide) ?_
        refine ax_istore_n (ls' := [some (.ref u0), none, some (.int (((x2 * 31) + (I u7 j11)) - ((x2 * 31) + (I u7 j11)) / 65521 * 65521)), some (.int (x3))]) (q := 40) hX dc_S_sumFrom_39 rfl rfl (by decide) rfl ?_
        refine ax_iinc (v := x3 + 1) (ls' := [some (.ref u0), none, some (.int (((x2 * 31) + (I u7 j11)) - ((x2 * 31) + (I u7 j11)) / 65521 * 65521)), some (.int (x3 + 1))]) (q := 43) hX dc_S_sumFrom_40 rfl rfl rfl (by decide) rfl ?_
        refine ax_goto (tgt := 8) hX dc_S_sumFrom_43 (by decide) ?_
        exact (ih I R u0 (((x2 * 31) + (I u7 j11)) - ((x2 * 31) + (I u7 j11)) / 65521 * 65521) (x3 + 1) hty hs0_ rfl rfl h)
def d_S_sumFrom (S : ax_S) (I : ax_I) (R : ax_R) (u0 : Nat) (x1 : Int32) : Option (Int32) :=
  d_S_sumFrom_8 S  5000 I R u0 (1) ((if 0 < x1 then x1 else 0))
set_option maxHeartbeats 1000000 in
theorem c_S_sumFrom (l : Launch) {S : ax_S} {I : ax_I} {R : ax_R} {L : ax_L} {u0 : Nat} {x1 : Int32} {out : Int32} (hty : ax_typ S R) (hs0 : S u0 = some (.inl 2)) (h : d_S_sumFrom S I R u0 x1 = some out) : ax_Met l y_S_sumFrom b_S_sumFrom 4 (some .int) (ax_rm 1 0 0) [.ref u0, .int x1] S I R L (ax_eq (some (.int out)) S I R L) := by
  refine ax_enter (own := "LossFreeTools$Stream") (by decide +kernel) rfl (ax_cats rfl) (Nat.le_of_ble_eq_true rfl) (fun X hX hF _ hS0 => ?_)
  show ax_W X 4 0 [some (.ref u0), some (.int (x1)), none, none] [] S I R L 0 0
  unfold d_S_sumFrom at h
  refine ax_iconst (v := 1) (q := 1) hX dc_S_sumFrom_0 rfl (by decide) ?_
  refine ax_istore_n (ls' := [some (.ref u0), some (.int (x1)), some (.int (1)), none]) (q := 2) hX dc_S_sumFrom_1 rfl rfl (by decide) rfl ?_
  refine ax_iconst (v := 0) (q := 3) hX dc_S_sumFrom_2 rfl (by decide) ?_
  refine ax_iload_n (q := 4) hX dc_S_sumFrom_3 rfl rfl rfl ?_
  refine ax_mmax (q := 7) hX dc_S_sumFrom_4 rfl wl_S_22 wt_math_max wn_java_lang_Math wc_math_max (by decide) (by decide) (by decide) (by decide) (Nat.le_of_ble_eq_true rfl) ?_
  refine ax_istore_n (ls' := [some (.ref u0), some (.int (x1)), some (.int (1)), some (.int ((if 0 < x1 then x1 else 0)))]) (q := 8) hX dc_S_sumFrom_7 rfl rfl (by decide) rfl ?_
  exact ax_weak (ls' := [some (.ref u0), none, some (.int (1)), some (.int ((if 0 < x1 then x1 else 0)))]) (ax_fewP_s _ _ (by repeat (first | exact trivial | (refine And.intro rfl ?_)))) (e_S_sumFrom_8 hX hF hS0  5000 I R u0 (1) ((if 0 < x1 then x1 else 0)) hty hs0 rfl rfl h)
def d_T_addByte (S : ax_S) (I : ax_I) (R : ax_R) (u0 : Nat) (x1 : Int32) : Option (Int32 × ax_I) :=
  (R u0 0).bind fun u1 =>
  if (nI (ax_len S u1)) ≤ (I u0 1) then
    some (I u0 1, I)
  else
    (R u0 0).bind fun u6 =>
    (ax_ix S u6 (I u0 1)).bind fun j10 =>
    (some (ax_up I u6 j10 (x1))).bind fun I12 =>
    (some (ax_up I12 u0 1 ((I12 u0 1) + 1))).bind fun I14 =>
    some (I14 u0 1, I14)
set_option maxHeartbeats 1000000 in
theorem c_T_addByte (l : Launch) {S : ax_S} {I : ax_I} {R : ax_R} {L : ax_L} {u0 : Nat} {x1 : Int32} {out : Int32 × ax_I} (hty : ax_typ S R) (hs0 : S u0 = some (.inl 3)) (h : d_T_addByte S I R u0 x1 = some out) : ax_Met l y_T_addByte b_T_addByte 2 (some .int) (ax_rm 1 0 0) [.ref u0, .int x1] S I R L (ax_eq (some (.int out.1)) S out.2 R L) := by
  refine ax_enter (own := "LossFreeTools$Tile") (by decide +kernel) rfl (ax_cats rfl) (Nat.le_of_ble_eq_true rfl) (fun X hX hF _ hS0 => ?_)
  show ax_W X 2 0 [some (.ref u0), some (.int (x1))] [] S I R L 0 0
  unfold d_T_addByte at h
  refine ax_aload_n (q := 1) hX dc_T_addByte_0 rfl rfl rfl ?_
  refine ax_getI (q := 4) hX dc_T_addByte_1 rfl fl_T_31 rfl hs0 ?_
  refine ax_aload_n (q := 5) hX dc_T_addByte_4 rfl rfl rfl ?_
  obtain ⟨u1, hu2, h⟩ := ax_bd h
  obtain ⟨n4, hs3⟩ : ∃ n, S u1 = some (.inr (0, n)) := hty.1 _ _ _ _ hs0 hu2
  refine ax_getR (q := 8) hX dc_T_addByte_5 rfl fl_T_9 rfl hs0 hu2 ?_
  refine ax_alen (q := 9) hX dc_T_addByte_8 rfl hs3 ?_
  rw [← ax_len_s hs3]
  refine ax_icmp_ge (tgt := 32) (q := 12) hX dc_T_addByte_9 rfl (by decide) (fun z5 => ?_) (fun z5 => ?_)
  · rw [if_pos z5] at h
    refine ax_aload_n (q := 33) hX dc_T_addByte_32 rfl rfl rfl ?_
    refine ax_getI (q := 36) hX dc_T_addByte_33 rfl fl_T_31 rfl hs0 ?_
    cases h
    exact ax_iret hX hF dc_T_addByte_36 rfl rfl (by decide) (by decide) ax_eq.mk (by rw [hS0]; exact fun _ _ z => z)
  · rw [if_neg z5] at h
    refine ax_aload_n (q := 13) hX dc_T_addByte_12 rfl rfl rfl ?_
    obtain ⟨u6, hu7, h⟩ := ax_bd h
    obtain ⟨n9, hs8⟩ : ∃ n, S u6 = some (.inr (0, n)) := hty.1 _ _ _ _ hs0 hu7
    refine ax_getR (q := 16) hX dc_T_addByte_13 rfl fl_T_9 rfl hs0 hu7 ?_
    refine ax_aload_n (q := 17) hX dc_T_addByte_16 rfl rfl rfl ?_
    refine ax_getI (q := 20) hX dc_T_addByte_17 rfl fl_T_31 rfl hs0 ?_
    refine ax_iload_n (q := 21) hX dc_T_addByte_20 rfl rfl rfl ?_
    obtain ⟨j10, hj11, h⟩ := ax_bd h
    have hj11 := ax_ix_s hty hs8 hj11
    obtain ⟨I12, e13, h⟩ := ax_bs h
    refine ax_iast (q := 22) hX j10 dc_T_addByte_21 rfl hs8 hj11.1 hj11.2.1 hj11.2.2 e13 ?_
    refine ax_aload_n (q := 23) hX dc_T_addByte_22 rfl rfl rfl ?_
    refine ax_dup (q := 24) hX dc_T_addByte_23 rfl rfl ?_
    refine ax_getI (q := 27) hX dc_T_addByte_24 rfl fl_T_31 rfl hs0 ?_
    refine ax_iconst (v := 1) (q := 28) hX dc_T_addByte_27 rfl (by decide) ?_
    refine ax_iadd (q := 29) hX dc_T_addByte_28 rfl ?_
    obtain ⟨I14, e15, h⟩ := ax_bs h
    refine ax_putI (q := 32) hX dc_T_addByte_29 rfl fl_T_31 rfl hs0 (fun z => by cases z) rfl rfl e15 ?_
    refine ax_aload_n (q := 33) hX dc_T_addByte_32 rfl rfl rfl ?_
    refine ax_getI (q := 36) hX dc_T_addByte_33 rfl fl_T_31 rfl hs0 ?_
    cases h
    exact ax_iret hX hF dc_T_addByte_36 rfl rfl (by decide) (by decide) ax_eq.mk (by rw [hS0]; exact fun _ _ z => z)
def d_K_nearestFirstSize (S : ax_S) (I : ax_I) (R : ax_R) (x0 : Int32) : Option (Int32) :=
  some ((if 1 < (if x0 < 200 then x0 else 200) then (if x0 < 200 then x0 else 200) else 1))
set_option maxHeartbeats 1000000 in
theorem c_K_nearestFirstSize (l : Launch) {S : ax_S} {I : ax_I} {R : ax_R} {L : ax_L} {x0 : Int32} {out : Int32} (hty : ax_typ S R) (h : d_K_nearestFirstSize S I R x0 = some out) : ax_Met l y_K_nearestFirstSize b_K_nearestFirstSize 1 (some .int) (ax_rm 1 0 0) [.int x0] S I R L (ax_eq (some (.int out)) S I R L) := by
  refine ax_enter (own := "LossFreeTools") (by decide +kernel) rfl (ax_cats rfl) (Nat.le_of_ble_eq_true rfl) (fun X hX hF _ hS0 => ?_)
  show ax_W X 1 0 [some (.int (x0))] [] S I R L 0 0
  unfold d_K_nearestFirstSize at h
  refine ax_iconst (v := 1) (q := 1) hX dc_K_nearestFirstSize_0 rfl (by decide) ?_
  refine ax_sipush (v := 200) (q := 4) hX dc_K_nearestFirstSize_1 rfl (by decide) ?_
  refine ax_iload_n (q := 5) hX dc_K_nearestFirstSize_4 rfl rfl rfl ?_
  refine ax_mmin (q := 8) hX dc_K_nearestFirstSize_5 rfl wl_K_263 wt_math_min wn_java_lang_Math wc_math_min (by decide) (by decide) (by decide) (by decide) (Nat.le_of_ble_eq_true rfl) ?_
  refine ax_mmax (q := 11) hX dc_K_nearestFirstSize_8 rfl wl_K_268 wt_math_max wn_java_lang_Math wc_math_max (by decide) (by decide) (by decide) (by decide) (Nat.le_of_ble_eq_true rfl) ?_
  cases h
  exact ax_iret hX hF dc_K_nearestFirstSize_11 rfl rfl (by decide) (by decide) ax_eq.mk (by rw [hS0]; exact fun _ _ z => z)
def d_K_isByte (S : ax_S) (I : ax_I) (R : ax_R) (x0 : Int32) : Option (Bool) :=
  if x0 < 0 then
    some (false)
  else
    if 255 < x0 then
      some (false)
    else
      some (true)
set_option maxHeartbeats 1000000 in
theorem c_K_isByte (l : Launch) {S : ax_S} {I : ax_I} {R : ax_R} {L : ax_L} {x0 : Int32} {out : Bool} (hty : ax_typ S R) (h : d_K_isByte S I R x0 = some out) : ax_Met l y_K_isByte b_K_isByte 1 (some .boolean) (ax_rm 1 0 0) [.int x0] S I R L (ax_eq (some (.int (ax_b out))) S I R L) := by
  refine ax_enter (own := "LossFreeTools") (by decide +kernel) rfl (ax_cats rfl) (Nat.le_of_ble_eq_true rfl) (fun X hX hF _ hS0 => ?_)
  show ax_W X 1 0 [some (.int (x0))] [] S I R L 0 0
  unfold d_K_isByte at h
  refine ax_iload_n (q := 1) hX dc_K_isByte_0 rfl rfl rfl ?_
  refine ax_if_lt (tgt := 15) (q := 4) hX dc_K_isByte_1 rfl (by decide) (fun z1 => ?_) (fun z1 => ?_)
  · rw [if_pos z1] at h
    refine ax_iconst (v := 0) (q := 16) hX dc_K_isByte_15 rfl (by decide) ?_
    cases h
    exact ax_iret hX hF dc_K_isByte_16 rfl rfl (by decide) (by decide) ax_eq.mk (by rw [hS0]; exact fun _ _ z => z)
  · rw [if_neg z1] at h
    refine ax_iload_n (q := 5) hX dc_K_isByte_4 rfl rfl rfl ?_
    refine ax_sipush (v := 255) (q := 8) hX dc_K_isByte_5 rfl (by decide) ?_
    refine ax_icmp_gt (tgt := 15) (q := 11) hX dc_K_isByte_8 rfl (by decide) (fun z2 => ?_) (fun z2 => ?_)
    · rw [if_pos z2] at h
      refine ax_iconst (v := 0) (q := 16) hX dc_K_isByte_15 rfl (by decide) ?_
      cases h
      exact ax_iret hX hF dc_K_isByte_16 rfl rfl (by decide) (by decide) ax_eq.mk (by rw [hS0]; exact fun _ _ z => z)
    · rw [if_neg z2] at h
      refine ax_iconst (v := 1) (q := 12) hX dc_K_isByte_11 rfl (by decide) ?_
      refine ax_goto (tgt := 16) hX dc_K_isByte_12 (by decide) ?_
      cases h
      exact ax_iret hX hF dc_K_isByte_16 rfl rfl (by decide) (by decide) ax_eq.mk (by rw [hS0]; exact fun _ _ z => z)
def d_K_isUpright_9 (S : ax_S) (I : ax_I) (R : ax_R) : Option (Bool) :=
  some (true)
set_option maxHeartbeats 1000000 in
theorem e_K_isUpright_9 {l : Launch} {X : ax_X} {S : ax_S} {L : ax_L} {I0 : ax_I} {R0 : ax_R} {out : Bool} (hX : ax_ok X l "LossFreeTools" b_K_isUpright 1 (ax_rm 1 0 0)) (hF : ax_fin X (some .boolean) 0 0 (ax_of (ax_eq (some (.int (ax_b out))) S I0 R0 L))) (hS0 : ax_S0 X = S) : ∀ (I : ax_I) (R : ax_R), ax_typ S R → I = I0 → R = R0 → d_K_isUpright_9 S  I R = some out → ax_W X 1 9 [none] [] S I R L 0 0 := by
  rintro I R hty hI0 hR0 h
  subst hI0
  subst hR0
  unfold d_K_isUpright_9 at h
  refine ax_iconst (v := 1) (q := 10) hX dc_K_isUpright_9 rfl (by decide) ?_
  refine ax_goto (tgt := 14) hX dc_K_isUpright_10 (by decide) ?_
  cases h
  exact ax_iret hX hF dc_K_isUpright_14 rfl rfl (by decide) (by decide) ax_eq.mk (by rw [hS0]; exact fun _ _ z => z)
def d_K_isUpright (S : ax_S) (I : ax_I) (R : ax_R) (x0 : Int32) : Option (Bool) :=
  if x0 = 0 then
    d_K_isUpright_9 S  I R 
  else
    if x0 = 2 then
      d_K_isUpright_9 S  I R 
    else
      some (false)
set_option maxHeartbeats 1000000 in
theorem c_K_isUpright (l : Launch) {S : ax_S} {I : ax_I} {R : ax_R} {L : ax_L} {x0 : Int32} {out : Bool} (hty : ax_typ S R) (h : d_K_isUpright S I R x0 = some out) : ax_Met l y_K_isUpright b_K_isUpright 1 (some .boolean) (ax_rm 1 0 0) [.int x0] S I R L (ax_eq (some (.int (ax_b out))) S I R L) := by
  refine ax_enter (own := "LossFreeTools") (by decide +kernel) rfl (ax_cats rfl) (Nat.le_of_ble_eq_true rfl) (fun X hX hF _ hS0 => ?_)
  show ax_W X 1 0 [some (.int (x0))] [] S I R L 0 0
  unfold d_K_isUpright at h
  refine ax_iload_n (q := 1) hX dc_K_isUpright_0 rfl rfl rfl ?_
  refine ax_if_eq (tgt := 9) (q := 4) hX dc_K_isUpright_1 rfl (by decide) (fun z1 => ?_) (fun z1 => ?_)
  · rw [if_pos z1] at h
    exact ax_weak (ls' := [none]) (ax_fewP_s _ _ (by repeat (first | exact trivial | (refine And.intro rfl ?_)))) (e_K_isUpright_9 hX hF hS0  I R  hty  rfl rfl h)
  · rw [if_neg z1] at h
    refine ax_iload_n (q := 5) hX dc_K_isUpright_4 rfl rfl rfl ?_
    refine ax_iconst (v := 2) (q := 6) hX dc_K_isUpright_5 rfl (by decide) ?_
    refine ax_icmp_ne (tgt := 13) (q := 9) hX dc_K_isUpright_6 rfl (by decide) (fun z2 => ?_) (fun z2 => ?_)
    · rw [if_neg z2] at h
      refine ax_iconst (v := 0) (q := 14) hX dc_K_isUpright_13 rfl (by decide) ?_
      cases h
      exact ax_iret hX hF dc_K_isUpright_14 rfl rfl (by decide) (by decide) ax_eq.mk (by rw [hS0]; exact fun _ _ z => z)
    · rw [if_pos z2] at h
      exact ax_weak (ls' := [none]) (ax_fewP_s _ _ (by repeat (first | exact trivial | (refine And.intro rfl ?_)))) (e_K_isUpright_9 hX hF hS0  I R  hty  rfl rfl h)
def d_K_isSide (S : ax_S) (I : ax_I) (R : ax_R) (x0 : Int32) : Option (Bool) :=
  if x0 < 0 then
    some (false)
  else
    if 4 ≤ x0 then
      some (false)
    else
      some (true)
set_option maxHeartbeats 1000000 in
theorem c_K_isSide (l : Launch) {S : ax_S} {I : ax_I} {R : ax_R} {L : ax_L} {x0 : Int32} {out : Bool} (hty : ax_typ S R) (h : d_K_isSide S I R x0 = some out) : ax_Met l y_K_isSide b_K_isSide 1 (some .boolean) (ax_rm 1 0 0) [.int x0] S I R L (ax_eq (some (.int (ax_b out))) S I R L) := by
  refine ax_enter (own := "LossFreeTools") (by decide +kernel) rfl (ax_cats rfl) (Nat.le_of_ble_eq_true rfl) (fun X hX hF _ hS0 => ?_)
  show ax_W X 1 0 [some (.int (x0))] [] S I R L 0 0
  unfold d_K_isSide at h
  refine ax_iload_n (q := 1) hX dc_K_isSide_0 rfl rfl rfl ?_
  refine ax_if_lt (tgt := 13) (q := 4) hX dc_K_isSide_1 rfl (by decide) (fun z1 => ?_) (fun z1 => ?_)
  · rw [if_pos z1] at h
    refine ax_iconst (v := 0) (q := 14) hX dc_K_isSide_13 rfl (by decide) ?_
    cases h
    exact ax_iret hX hF dc_K_isSide_14 rfl rfl (by decide) (by decide) ax_eq.mk (by rw [hS0]; exact fun _ _ z => z)
  · rw [if_neg z1] at h
    refine ax_iload_n (q := 5) hX dc_K_isSide_4 rfl rfl rfl ?_
    refine ax_iconst (v := 4) (q := 6) hX dc_K_isSide_5 rfl (by decide) ?_
    refine ax_icmp_ge (tgt := 13) (q := 9) hX dc_K_isSide_6 rfl (by decide) (fun z2 => ?_) (fun z2 => ?_)
    · rw [if_pos z2] at h
      refine ax_iconst (v := 0) (q := 14) hX dc_K_isSide_13 rfl (by decide) ?_
      cases h
      exact ax_iret hX hF dc_K_isSide_14 rfl rfl (by decide) (by decide) ax_eq.mk (by rw [hS0]; exact fun _ _ z => z)
    · rw [if_neg z2] at h
      refine ax_iconst (v := 1) (q := 10) hX dc_K_isSide_9 rfl (by decide) ?_
      refine ax_goto (tgt := 14) hX dc_K_isSide_10 (by decide) ?_
      cases h
      exact ax_iret hX hF dc_K_isSide_14 rfl rfl (by decide) (by decide) ax_eq.mk (by rw [hS0]; exact fun _ _ z => z)
def d_K_swap (S : ax_S) (I : ax_I) (R : ax_R) (u0 : Nat) : Option (Int32 × ax_I × ax_R) :=
  (R u0 4).bind fun u1 =>
  (R u0 5).bind fun u4 =>
  (some (ax_up R u0 4 (some u4))).bind fun R7 =>
  (some (ax_up R7 u0 5 (some u1))).bind fun R9 =>
  (some (ax_up I u0 6 (0))).bind fun I11 =>
  (some (ax_up I11 u0 7 (0))).bind fun I13 =>
  (R9 u0 4).bind fun u15 =>
  some (I13 u15 2, I13, R9)
set_option maxHeartbeats 1000000 in
theorem c_K_swap (l : Launch) {S : ax_S} {I : ax_I} {R : ax_R} {L : ax_L} {u0 : Nat} {out : Int32 × ax_I × ax_R} (hty : ax_typ S R) (hs0 : S u0 = some (.inl 4)) (h : d_K_swap S I R u0 = some out) : ax_Met l y_K_swap b_K_swap 2 (some .int) (ax_rm 1 0 0) [.ref u0] S I R L (ax_eq (some (.int out.1)) S out.2.1 out.2.2 L) := by
  refine ax_enter (own := "LossFreeTools") (by decide +kernel) rfl (ax_cats rfl) (Nat.le_of_ble_eq_true rfl) (fun X hX hF _ hS0 => ?_)
  show ax_W X 2 0 [some (.ref u0), none] [] S I R L 0 0
  unfold d_K_swap at h
  refine ax_aload_n (q := 1) hX dc_K_swap_0 rfl rfl rfl ?_
  obtain ⟨u1, hu2, h⟩ := ax_bd h
  have hs3 : S u1 = some (.inl 1) := hty.1 _ _ _ _ hs0 hu2
  refine ax_getR (q := 4) hX dc_K_swap_1 rfl fl_K_36 rfl hs0 hu2 ?_
  refine ax_astore_n (ls' := [some (.ref u0), some (.ref u1)]) (q := 5) hX dc_K_swap_4 rfl rfl (by decide) rfl ?_
  refine ax_aload_n (q := 6) hX dc_K_swap_5 rfl rfl rfl ?_
  refine ax_aload_n (q := 7) hX dc_K_swap_6 rfl rfl rfl ?_
  obtain ⟨u4, hu5, h⟩ := ax_bd h
  have hs6 : S u4 = some (.inl 1) := hty.1 _ _ _ _ hs0 hu5
  refine ax_getR (q := 10) hX dc_K_swap_7 rfl fl_K_40 rfl hs0 hu5 ?_
  obtain ⟨R7, e8, h⟩ := ax_bs h
  have hty : ax_typ S R7 := e8 ▸ ax_typ_f hty hs0 (show ax_is S u4 (ax_dt 4 4) from hs6)
  refine ax_putR (q := 13) hX dc_K_swap_10 rfl fl_K_36 rfl hs0 (fun z => by cases z) e8 ?_
  refine ax_aload_n (q := 14) hX dc_K_swap_13 rfl rfl rfl ?_
  refine ax_aload_n (q := 15) hX dc_K_swap_14 rfl rfl rfl ?_
  obtain ⟨R9, e10, h⟩ := ax_bs h
  have hty : ax_typ S R9 := e10 ▸ ax_typ_f hty hs0 (show ax_is S u1 (ax_dt 4 5) from hs3)
  refine ax_putR (q := 18) hX dc_K_swap_15 rfl fl_K_40 rfl hs0 (fun z => by cases z) e10 ?_
  refine ax_aload_n (q := 19) hX dc_K_swap_18 rfl rfl rfl ?_
  refine ax_iconst (v := 0) (q := 20) hX dc_K_swap_19 rfl (by decide) ?_
  obtain ⟨I11, e12, h⟩ := ax_bs h
  refine ax_putI (q := 23) hX dc_K_swap_20 rfl fl_K_43 rfl hs0 (fun z => by cases z) rfl rfl e12 ?_
  refine ax_aload_n (q := 24) hX dc_K_swap_23 rfl rfl rfl ?_
  refine ax_iconst (v := 0) (q := 25) hX dc_K_swap_24 rfl (by decide) ?_
  obtain ⟨I13, e14, h⟩ := ax_bs h
  refine ax_putI (q := 28) hX dc_K_swap_25 rfl fl_K_46 rfl hs0 (fun z => by cases z) rfl rfl e14 ?_
  refine ax_aload_n (q := 29) hX dc_K_swap_28 rfl rfl rfl ?_
  obtain ⟨u15, hu16, h⟩ := ax_bd h
  have hs17 : S u15 = some (.inl 1) := hty.1 _ _ _ _ hs0 hu16
  refine ax_getR (q := 32) hX dc_K_swap_29 rfl fl_K_36 rfl hs0 hu16 ?_
  refine ax_getI (q := 35) hX dc_K_swap_32 rfl fl_K_69 rfl hs17 ?_
  cases h
  exact ax_iret hX hF dc_K_swap_35 rfl rfl (by decide) (by decide) ax_eq.mk (by rw [hS0]; exact fun _ _ z => z)
theorem t_K_swap {S : ax_S} {I : ax_I} {R : ax_R} {u0 : Nat} {out : Int32 × ax_I × ax_R} (hty : ax_typ S R) (hs0 : S u0 = some (.inl 4)) (h : d_K_swap S I R u0 = some out) : ax_typ S out.2.2 := by
  unfold d_K_swap at h
  obtain ⟨u1, hu2, h⟩ := ax_bd h
  have hs3 : S u1 = some (.inl 1) := hty.1 _ _ _ _ hs0 hu2
  obtain ⟨u4, hu5, h⟩ := ax_bd h
  have hs6 : S u4 = some (.inl 1) := hty.1 _ _ _ _ hs0 hu5
  obtain ⟨R7, e8, h⟩ := ax_bs h
  have hty : ax_typ S R7 := e8 ▸ ax_typ_f hty hs0 (show ax_is S u4 (ax_dt 4 4) from hs6)
  obtain ⟨R9, e10, h⟩ := ax_bs h
  have hty : ax_typ S R9 := e10 ▸ ax_typ_f hty hs0 (show ax_is S u1 (ax_dt 4 5) from hs3)
  obtain ⟨I11, e12, h⟩ := ax_bs h
  obtain ⟨I13, e14, h⟩ := ax_bs h
  obtain ⟨u15, hu16, h⟩ := ax_bd h
  have hs17 : S u15 = some (.inl 1) := hty.1 _ _ _ _ hs0 hu16
  cases h
  exact hty
def d_K_told (S : ax_S) (I : ax_I) (R : ax_R) (u0 : Nat) (x1 : Int32) : Option (Int32) :=
  if x1 = 0 then
    (R u0 4).bind fun u2 =>
    some (I u2 4)
  else
  if x1 = 1 then
    (R u0 4).bind fun u6 =>
    some (I u6 5)
  else
  if x1 = 2 then
    (R u0 4).bind fun u10 =>
    some (I u10 2)
  else
  if x1 = 3 then
    (R u0 4).bind fun u14 =>
    some (I u14 3)
  else
  if x1 = 4 then
    (R u0 2).bind fun u18 =>
    some (I u18 1)
  else
  if x1 = 5 then
    (R u0 5).bind fun u22 =>
    some (I u22 4)
  else
  if x1 = 6 then
    (R u0 5).bind fun u26 =>
    some (I u26 5)
  else
  if x1 = 7 then
    (R u0 5).bind fun u30 =>
    some (I u30 2)
  else
  if x1 = 8 then
    (R u0 5).bind fun u34 =>
    some (I u34 3)
  else
  some ((-1))
set_option maxHeartbeats 1000000 in
theorem c_K_told (l : Launch) {S : ax_S} {I : ax_I} {R : ax_R} {L : ax_L} {u0 : Nat} {x1 : Int32} {out : Int32} (hty : ax_typ S R) (hs0 : S u0 = some (.inl 4)) (h : d_K_told S I R u0 x1 = some out) : ax_Met l y_K_told b_K_told 2 (some .int) (ax_rm 1 0 0) [.ref u0, .int x1] S I R L (ax_eq (some (.int out)) S I R L) := by
  refine ax_enter (own := "LossFreeTools") (by decide +kernel) rfl (ax_cats rfl) (Nat.le_of_ble_eq_true rfl) (fun X hX hF _ hS0 => ?_)
  show ax_W X 2 0 [some (.ref u0), some (.int (x1))] [] S I R L 0 0
  unfold d_K_told at h
  refine ax_iload_n (q := 1) hX dc_K_told_0 rfl rfl rfl ?_
  by_cases z1 : x1 = 0
  · rw [if_pos z1] at h
    refine ax_tsIn (tgt := 52) hX dc_K_told_1 (by rw [z1]; decide) (by rw [z1]; decide) (by rw [z1]; rfl) (by decide) ?_
    refine ax_aload_n (q := 53) hX dc_K_told_52 rfl rfl rfl ?_
    obtain ⟨u2, hu3, h⟩ := ax_bd h
    have hs4 : S u2 = some (.inl 1) := hty.1 _ _ _ _ hs0 hu3
    refine ax_getR (q := 56) hX dc_K_told_53 rfl fl_K_36 rfl hs0 hu3 ?_
    refine ax_getI (q := 59) hX dc_K_told_56 rfl fl_K_243 rfl hs4 ?_
    cases h
    exact ax_iret hX hF dc_K_told_59 rfl rfl (by decide) (by decide) ax_eq.mk (by rw [hS0]; exact fun _ _ z => z)
  rw [if_neg z1] at h
  by_cases z5 : x1 = 1
  · rw [if_pos z5] at h
    refine ax_tsIn (tgt := 60) hX dc_K_told_1 (by rw [z5]; decide) (by rw [z5]; decide) (by rw [z5]; rfl) (by decide) ?_
    refine ax_aload_n (q := 61) hX dc_K_told_60 rfl rfl rfl ?_
    obtain ⟨u6, hu7, h⟩ := ax_bd h
    have hs8 : S u6 = some (.inl 1) := hty.1 _ _ _ _ hs0 hu7
    refine ax_getR (q := 64) hX dc_K_told_61 rfl fl_K_36 rfl hs0 hu7 ?_
    refine ax_getI (q := 67) hX dc_K_told_64 rfl fl_K_246 rfl hs8 ?_
    cases h
    exact ax_iret hX hF dc_K_told_67 rfl rfl (by decide) (by decide) ax_eq.mk (by rw [hS0]; exact fun _ _ z => z)
  rw [if_neg z5] at h
  by_cases z9 : x1 = 2
  · rw [if_pos z9] at h
    refine ax_tsIn (tgt := 68) hX dc_K_told_1 (by rw [z9]; decide) (by rw [z9]; decide) (by rw [z9]; rfl) (by decide) ?_
    refine ax_aload_n (q := 69) hX dc_K_told_68 rfl rfl rfl ?_
    obtain ⟨u10, hu11, h⟩ := ax_bd h
    have hs12 : S u10 = some (.inl 1) := hty.1 _ _ _ _ hs0 hu11
    refine ax_getR (q := 72) hX dc_K_told_69 rfl fl_K_36 rfl hs0 hu11 ?_
    refine ax_getI (q := 75) hX dc_K_told_72 rfl fl_K_69 rfl hs12 ?_
    cases h
    exact ax_iret hX hF dc_K_told_75 rfl rfl (by decide) (by decide) ax_eq.mk (by rw [hS0]; exact fun _ _ z => z)
  rw [if_neg z9] at h
  by_cases z13 : x1 = 3
  · rw [if_pos z13] at h
    refine ax_tsIn (tgt := 76) hX dc_K_told_1 (by rw [z13]; decide) (by rw [z13]; decide) (by rw [z13]; rfl) (by decide) ?_
    refine ax_aload_n (q := 77) hX dc_K_told_76 rfl rfl rfl ?_
    obtain ⟨u14, hu15, h⟩ := ax_bd h
    have hs16 : S u14 = some (.inl 1) := hty.1 _ _ _ _ hs0 hu15
    refine ax_getR (q := 80) hX dc_K_told_77 rfl fl_K_36 rfl hs0 hu15 ?_
    refine ax_getI (q := 83) hX dc_K_told_80 rfl fl_K_115 rfl hs16 ?_
    cases h
    exact ax_iret hX hF dc_K_told_83 rfl rfl (by decide) (by decide) ax_eq.mk (by rw [hS0]; exact fun _ _ z => z)
  rw [if_neg z13] at h
  by_cases z17 : x1 = 4
  · rw [if_pos z17] at h
    refine ax_tsIn (tgt := 84) hX dc_K_told_1 (by rw [z17]; decide) (by rw [z17]; decide) (by rw [z17]; rfl) (by decide) ?_
    refine ax_aload_n (q := 85) hX dc_K_told_84 rfl rfl rfl ?_
    obtain ⟨u18, hu19, h⟩ := ax_bd h
    have hs20 : S u18 = some (.inl 2) := hty.1 _ _ _ _ hs0 hu19
    refine ax_getR (q := 88) hX dc_K_told_85 rfl fl_K_23 rfl hs0 hu19 ?_
    refine ax_getI (q := 91) hX dc_K_told_88 rfl fl_K_239 rfl hs20 ?_
    cases h
    exact ax_iret hX hF dc_K_told_91 rfl rfl (by decide) (by decide) ax_eq.mk (by rw [hS0]; exact fun _ _ z => z)
  rw [if_neg z17] at h
  by_cases z21 : x1 = 5
  · rw [if_pos z21] at h
    refine ax_tsIn (tgt := 92) hX dc_K_told_1 (by rw [z21]; decide) (by rw [z21]; decide) (by rw [z21]; rfl) (by decide) ?_
    refine ax_aload_n (q := 93) hX dc_K_told_92 rfl rfl rfl ?_
    obtain ⟨u22, hu23, h⟩ := ax_bd h
    have hs24 : S u22 = some (.inl 1) := hty.1 _ _ _ _ hs0 hu23
    refine ax_getR (q := 96) hX dc_K_told_93 rfl fl_K_40 rfl hs0 hu23 ?_
    refine ax_getI (q := 99) hX dc_K_told_96 rfl fl_K_243 rfl hs24 ?_
    cases h
    exact ax_iret hX hF dc_K_told_99 rfl rfl (by decide) (by decide) ax_eq.mk (by rw [hS0]; exact fun _ _ z => z)
  rw [if_neg z21] at h
  by_cases z25 : x1 = 6
  · rw [if_pos z25] at h
    refine ax_tsIn (tgt := 100) hX dc_K_told_1 (by rw [z25]; decide) (by rw [z25]; decide) (by rw [z25]; rfl) (by decide) ?_
    refine ax_aload_n (q := 101) hX dc_K_told_100 rfl rfl rfl ?_
    obtain ⟨u26, hu27, h⟩ := ax_bd h
    have hs28 : S u26 = some (.inl 1) := hty.1 _ _ _ _ hs0 hu27
    refine ax_getR (q := 104) hX dc_K_told_101 rfl fl_K_40 rfl hs0 hu27 ?_
    refine ax_getI (q := 107) hX dc_K_told_104 rfl fl_K_246 rfl hs28 ?_
    cases h
    exact ax_iret hX hF dc_K_told_107 rfl rfl (by decide) (by decide) ax_eq.mk (by rw [hS0]; exact fun _ _ z => z)
  rw [if_neg z25] at h
  by_cases z29 : x1 = 7
  · rw [if_pos z29] at h
    refine ax_tsIn (tgt := 108) hX dc_K_told_1 (by rw [z29]; decide) (by rw [z29]; decide) (by rw [z29]; rfl) (by decide) ?_
    refine ax_aload_n (q := 109) hX dc_K_told_108 rfl rfl rfl ?_
    obtain ⟨u30, hu31, h⟩ := ax_bd h
    have hs32 : S u30 = some (.inl 1) := hty.1 _ _ _ _ hs0 hu31
    refine ax_getR (q := 112) hX dc_K_told_109 rfl fl_K_40 rfl hs0 hu31 ?_
    refine ax_getI (q := 115) hX dc_K_told_112 rfl fl_K_69 rfl hs32 ?_
    cases h
    exact ax_iret hX hF dc_K_told_115 rfl rfl (by decide) (by decide) ax_eq.mk (by rw [hS0]; exact fun _ _ z => z)
  rw [if_neg z29] at h
  by_cases z33 : x1 = 8
  · rw [if_pos z33] at h
    refine ax_tsIn (tgt := 116) hX dc_K_told_1 (by rw [z33]; decide) (by rw [z33]; decide) (by rw [z33]; rfl) (by decide) ?_
    refine ax_aload_n (q := 117) hX dc_K_told_116 rfl rfl rfl ?_
    obtain ⟨u34, hu35, h⟩ := ax_bd h
    have hs36 : S u34 = some (.inl 1) := hty.1 _ _ _ _ hs0 hu35
    refine ax_getR (q := 120) hX dc_K_told_117 rfl fl_K_40 rfl hs0 hu35 ?_
    refine ax_getI (q := 123) hX dc_K_told_120 rfl fl_K_115 rfl hs36 ?_
    cases h
    exact ax_iret hX hF dc_K_told_123 rfl rfl (by decide) (by decide) ax_eq.mk (by rw [hS0]; exact fun _ _ z => z)
  rw [if_neg z33] at h
  refine ax_tsOut (tgt := 124) hX dc_K_told_1 (ax_out9 z1 z5 z9 z13 z17 z21 z25 z29 z33) (by decide) ?_
  refine ax_iconst (v := (-1)) (q := 125) hX dc_K_told_124 rfl (by decide) ?_
  cases h
  exact ax_iret hX hF dc_K_told_125 rfl rfl (by decide) (by decide) ax_eq.mk (by rw [hS0]; exact fun _ _ z => z)
