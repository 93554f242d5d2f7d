def d_N_startAnew (S : ax_S) (I : ax_I) (R : ax_R) (u0 : Nat) (x1 : Int32) (x2 : Int32) (x3 : Int32) : Option (ax_I) :=
  (some (ax_up I u0 0 (x1))).bind fun I1 =>
  (some (ax_up I1 u0 1 (x2))).bind fun I3 =>
  (some (ax_up I3 u0 2 (x3))).bind fun I5 =>
  some (I5)
set_option maxHeartbeats 1000000 in
theorem c_N_startAnew (l : Launch) {S : ax_S} {I : ax_I} {R : ax_R} {L : ax_L} {u0 : Nat} {x1 : Int32} {x2 : Int32} {x3 : Int32} {out : ax_I} (hty : ax_typ S R) (hs0 : S u0 = some (.inl 0)) (h : d_N_startAnew S I R u0 x1 x2 x3 = some out) : ax_Met l y_N_startAnew b_N_startAnew 4 none (ax_rm 1 0 0) [.ref u0, .int x1, .int x2, .int x3] S I R L (ax_eq none S out R L) := by
  refine ax_enter (own := "LossFreeTools$Note") (by decide +kernel) rfl (ax_cats rfl) (Nat.le_of_ble_eq_true rfl) (fun X hX hF _ hS0 => ?_)
  show ax_W X 4 0 [some (.ref u0), some (.int (x1)), some (.int (x2)), some (.int (x3))] [] S I R L 0 0
  unfold d_N_startAnew at h
  refine ax_aload_n (q := 1) hX dc_N_startAnew_0 rfl rfl rfl ?_
  refine ax_iload_n (q := 2) hX dc_N_startAnew_1 rfl rfl rfl ?_
  obtain ⟨I1, e2, h⟩ := ax_bs h
  refine ax_putI (q := 5) hX dc_N_startAnew_2 rfl fl_N_7 rfl hs0 (fun z => by cases z) rfl rfl e2 ?_
  refine ax_aload_n (q := 6) hX dc_N_startAnew_5 rfl rfl rfl ?_
  refine ax_iload_n (q := 7) hX dc_N_startAnew_6 rfl rfl rfl ?_
  obtain ⟨I3, e4, h⟩ := ax_bs h
  refine ax_putI (q := 10) hX dc_N_startAnew_7 rfl fl_N_13 rfl hs0 (fun z => by cases z) rfl rfl e4 ?_
  refine ax_aload_n (q := 11) hX dc_N_startAnew_10 rfl rfl rfl ?_
  refine ax_iload_n (q := 12) hX dc_N_startAnew_11 rfl rfl rfl ?_
  obtain ⟨I5, e6, h⟩ := ax_bs h
  refine ax_putI (q := 15) hX dc_N_startAnew_12 rfl fl_N_16 rfl hs0 (fun z => by cases z) rfl rfl e6 ?_
  cases h
  exact ax_vret hX hF dc_N_startAnew_15 (by decide) (by decide) ax_eq.mk (by rw [hS0]; exact fun _ _ z => z)
def d_N_isWithin (S : ax_S) (I : ax_I) (R : ax_R) (u0 : Nat) (x1 : Int32) (x2 : Int32) (x3 : Int32) (x4 : Int32) : Option (Bool) :=
  if (I u0 0) < x1 then
    some (false)
  else
    if (I u0 1) < x2 then
      some (false)
    else
      if x3 ≤ (I u0 0) then
        some (false)
      else
        if x4 ≤ (I u0 1) then
          some (false)
        else
          some (true)
set_option maxHeartbeats 1000000 in
theorem c_N_isWithin (l : Launch) {S : ax_S} {I : ax_I} {R : ax_R} {L : ax_L} {u0 : Nat} {x1 : Int32} {x2 : Int32} {x3 : Int32} {x4 : Int32} {out : Bool} (hty : ax_typ S R) (hs0 : S u0 = some (.inl 0)) (h : d_N_isWithin S I R u0 x1 x2 x3 x4 = some out) : ax_Met l y_N_isWithin b_N_isWithin 5 (some .boolean) (ax_rm 1 0 0) [.ref u0, .int x1, .int x2, .int x3, .int x4] S I R L (ax_eq (some (.int (ax_b out))) S I R L) := by
  refine ax_enter (own := "LossFreeTools$Note") (by decide +kernel) rfl (ax_cats rfl) (Nat.le_of_ble_eq_true rfl) (fun X hX hF _ hS0 => ?_)
  show ax_W X 5 0 [some (.ref u0), some (.int (x1)), some (.int (x2)), some (.int (x3)), some (.int (x4))] [] S I R L 0 0
  unfold d_N_isWithin at h
  refine ax_aload_n (q := 1) hX dc_N_isWithin_0 rfl rfl rfl ?_
  refine ax_getI (q := 4) hX dc_N_isWithin_1 rfl fl_N_7 rfl hs0 ?_
  refine ax_iload_n (q := 5) hX dc_N_isWithin_4 rfl rfl rfl ?_
  refine ax_icmp_lt (tgt := 37) (q := 8) hX dc_N_isWithin_5 rfl (by decide) (fun z1 => ?_) (fun z1 => ?_)
  · rw [if_pos z1] at h
    refine ax_iconst (v := 0) (q := 38) hX dc_N_isWithin_37 rfl (by decide) ?_
    cases h
    exact ax_iret hX hF dc_N_isWithin_38 rfl rfl (by decide) (by decide) ax_eq.mk (by rw [hS0]; exact fun _ _ z => z)
  · rw [if_neg z1] at h
    refine ax_aload_n (q := 9) hX dc_N_isWithin_8 rfl rfl rfl ?_
    refine ax_getI (q := 12) hX dc_N_isWithin_9 rfl fl_N_13 rfl hs0 ?_
    refine ax_iload_n (q := 13) hX dc_N_isWithin_12 rfl rfl rfl ?_
    refine ax_icmp_lt (tgt := 37) (q := 16) hX dc_N_isWithin_13 rfl (by decide) (fun z2 => ?_) (fun z2 => ?_)
    · rw [if_pos z2] at h
      refine ax_iconst (v := 0) (q := 38) hX dc_N_isWithin_37 rfl (by decide) ?_
      cases h
      exact ax_iret hX hF dc_N_isWithin_38 rfl rfl (by decide) (by decide) ax_eq.mk (by rw [hS0]; exact fun _ _ z => z)
    · rw [if_neg z2] at h
      refine ax_aload_n (q := 17) hX dc_N_isWithin_16 rfl rfl rfl ?_
      refine ax_getI (q := 20) hX dc_N_isWithin_17 rfl fl_N_7 rfl hs0 ?_
      refine ax_iload_n (q := 21) hX dc_N_isWithin_20 rfl rfl rfl ?_
      refine ax_icmp_ge (tgt := 37) (q := 24) hX dc_N_isWithin_21 rfl (by decide) (fun z3 => ?_) (fun z3 => ?_)
      · rw [if_pos z3] at h
        refine ax_iconst (v := 0) (q := 38) hX dc_N_isWithin_37 rfl (by decide) ?_
        cases h
        exact ax_iret hX hF dc_N_isWithin_38 rfl rfl (by decide) (by decide) ax_eq.mk (by rw [hS0]; exact fun _ _ z => z)
      · rw [if_neg z3] at h
        refine ax_aload_n (q := 25) hX dc_N_isWithin_24 rfl rfl rfl ?_
        refine ax_getI (q := 28) hX dc_N_isWithin_25 rfl fl_N_13 rfl hs0 ?_
        refine ax_iload (q := 30) hX dc_N_isWithin_28 rfl rfl ?_
        refine ax_icmp_ge (tgt := 37) (q := 33) hX dc_N_isWithin_30 rfl (by decide) (fun z4 => ?_) (fun z4 => ?_)
        · rw [if_pos z4] at h
          refine ax_iconst (v := 0) (q := 38) hX dc_N_isWithin_37 rfl (by decide) ?_
          cases h
          exact ax_iret hX hF dc_N_isWithin_38 rfl rfl (by decide) (by decide) ax_eq.mk (by rw [hS0]; exact fun _ _ z => z)
        · rw [if_neg z4] at h
          refine ax_iconst (v := 1) (q := 34) hX dc_N_isWithin_33 rfl (by decide) ?_
          refine ax_goto (tgt := 38) hX dc_N_isWithin_34 (by decide) ?_
          cases h
          exact ax_iret hX hF dc_N_isWithin_38 rfl rfl (by decide) (by decide) ax_eq.mk (by rw [hS0]; exact fun _ _ z => z)
def d_N_moveBy (S : ax_S) (I : ax_I) (R : ax_R) (u0 : Nat) (x1 : Int32) (x2 : Int32) : Option (ax_I) :=
  (some (ax_up I u0 0 ((I u0 0) + x1))).bind fun I1 =>
  (some (ax_up I1 u0 1 ((I1 u0 1) + x2))).bind fun I3 =>
  some (I3)
set_option maxHeartbeats 1000000 in
theorem c_N_moveBy (l : Launch) {S : ax_S} {I : ax_I} {R : ax_R} {L : ax_L} {u0 : Nat} {x1 : Int32} {x2 : Int32} {out : ax_I} (hty : ax_typ S R) (hs0 : S u0 = some (.inl 0)) (h : d_N_moveBy S I R u0 x1 x2 = some out) : ax_Met l y_N_moveBy b_N_moveBy 3 none (ax_rm 1 0 0) [.ref u0, .int x1, .int x2] S I R L (ax_eq none S out R L) := by
  refine ax_enter (own := "LossFreeTools$Note") (by decide +kernel) rfl (ax_cats rfl) (Nat.le_of_ble_eq_true rfl) (fun X hX hF _ hS0 => ?_)
  show ax_W X 3 0 [some (.ref u0), some (.int (x1)), some (.int (x2))] [] S I R L 0 0
  unfold d_N_moveBy at h
  refine ax_aload_n (q := 1) hX dc_N_moveBy_0 rfl rfl rfl ?_
  refine ax_dup (q := 2) hX dc_N_moveBy_1 rfl rfl ?_
  refine ax_getI (q := 5) hX dc_N_moveBy_2 rfl fl_N_7 rfl hs0 ?_
  refine ax_iload_n (q := 6) hX dc_N_moveBy_5 rfl rfl rfl ?_
  refine ax_iadd (q := 7) hX dc_N_moveBy_6 rfl ?_
  obtain ⟨I1, e2, h⟩ := ax_bs h
  refine ax_putI (q := 10) hX dc_N_moveBy_7 rfl fl_N_7 rfl hs0 (fun z => by cases z) rfl rfl e2 ?_
  refine ax_aload_n (q := 11) hX dc_N_moveBy_10 rfl rfl rfl ?_
  refine ax_dup (q := 12) hX dc_N_moveBy_11 rfl rfl ?_
  refine ax_getI (q := 15) hX dc_N_moveBy_12 rfl fl_N_13 rfl hs0 ?_
  refine ax_iload_n (q := 16) hX dc_N_moveBy_15 rfl rfl rfl ?_
  refine ax_iadd (q := 17) hX dc_N_moveBy_16 rfl ?_
  obtain ⟨I3, e4, h⟩ := ax_bs h
  refine ax_putI (q := 20) hX dc_N_moveBy_17 rfl fl_N_13 rfl hs0 (fun z => by cases z) rfl rfl e4 ?_
  cases h
  exact ax_vret hX hF dc_N_moveBy_20 (by decide) (by decide) ax_eq.mk (by rw [hS0]; exact fun _ _ z => z)
def d_N_mirrorIn (S : ax_S) (I : ax_I) (R : ax_R) (u0 : Nat) (x1 : Int32) : Option (ax_I) :=
  (some (ax_up I u0 0 ((x1 - 1) - (I u0 0)))).bind fun I1 =>
  some (I1)
set_option maxHeartbeats 1000000 in
theorem c_N_mirrorIn (l : Launch) {S : ax_S} {I : ax_I} {R : ax_R} {L : ax_L} {u0 : Nat} {x1 : Int32} {out : ax_I} (hty : ax_typ S R) (hs0 : S u0 = some (.inl 0)) (h : d_N_mirrorIn S I R u0 x1 = some out) : ax_Met l y_N_mirrorIn b_N_mirrorIn 2 none (ax_rm 1 0 0) [.ref u0, .int x1] S I R L (ax_eq none S out R L) := by
  refine ax_enter (own := "LossFreeTools$Note") (by decide +kernel) rfl (ax_cats rfl) (Nat.le_of_ble_eq_true rfl) (fun X hX hF _ hS0 => ?_)
  show ax_W X 2 0 [some (.ref u0), some (.int (x1))] [] S I R L 0 0
  unfold d_N_mirrorIn at h
  refine ax_aload_n (q := 1) hX dc_N_mirrorIn_0 rfl rfl rfl ?_
  refine ax_iload_n (q := 2) hX dc_N_mirrorIn_1 rfl rfl rfl ?_
  refine ax_iconst (v := 1) (q := 3) hX dc_N_mirrorIn_2 rfl (by decide) ?_
  refine ax_isub (q := 4) hX dc_N_mirrorIn_3 rfl ?_
  refine ax_aload_n (q := 5) hX dc_N_mirrorIn_4 rfl rfl rfl ?_
  refine ax_getI (q := 8) hX dc_N_mirrorIn_5 rfl fl_N_7 rfl hs0 ?_
  refine ax_isub (q := 9) hX dc_N_mirrorIn_8 rfl ?_
  obtain ⟨I1, e2, h⟩ := ax_bs h
  refine ax_putI (q := 12) hX dc_N_mirrorIn_9 rfl fl_N_7 rfl hs0 (fun z => by cases z) rfl rfl e2 ?_
  cases h
  exact ax_vret hX hF dc_N_mirrorIn_12 (by decide) (by decide) ax_eq.mk (by rw [hS0]; exact fun _ _ z => z)
def d_N_quarterIn (S : ax_S) (I : ax_I) (R : ax_R) (u0 : Nat) (x1 : Int32) : Option (ax_I) :=
  (some (ax_up I u0 1 (I u0 0))).bind fun I1 =>
  (some (ax_up I1 u0 0 ((x1 - 1) - (I u0 1)))).bind fun I3 =>
  some (I3)
set_option maxHeartbeats 1000000 in
theorem c_N_quarterIn (l : Launch) {S : ax_S} {I : ax_I} {R : ax_R} {L : ax_L} {u0 : Nat} {x1 : Int32} {out : ax_I} (hty : ax_typ S R) (hs0 : S u0 = some (.inl 0)) (h : d_N_quarterIn S I R u0 x1 = some out) : ax_Met l y_N_quarterIn b_N_quarterIn 3 none (ax_rm 1 0 0) [.ref u0, .int x1] S I R L (ax_eq none S out R L) := by
  refine ax_enter (own := "LossFreeTools$Note") (by decide +kernel) rfl (ax_cats rfl) (Nat.le_of_ble_eq_true rfl) (fun X hX hF _ hS0 => ?_)
  show ax_W X 3 0 [some (.ref u0), some (.int (x1)), none] [] S I R L 0 0
  unfold d_N_quarterIn at h
  refine ax_iload_n (q := 1) hX dc_N_quarterIn_0 rfl rfl rfl ?_
  refine ax_iconst (v := 1) (q := 2) hX dc_N_quarterIn_1 rfl (by decide) ?_
  refine ax_isub (q := 3) hX dc_N_quarterIn_2 rfl ?_
  refine ax_aload_n (q := 4) hX dc_N_quarterIn_3 rfl rfl rfl ?_
  refine ax_getI (q := 7) hX dc_N_quarterIn_4 rfl fl_N_13 rfl hs0 ?_
  refine ax_isub (q := 8) hX dc_N_quarterIn_7 rfl ?_
  refine ax_istore_n (ls' := [some (.ref u0), some (.int (x1)), some (.int ((x1 - 1) - (I u0 1)))]) (q := 9) hX dc_N_quarterIn_8 rfl rfl (by decide) rfl ?_
  refine ax_aload_n (q := 10) hX dc_N_quarterIn_9 rfl rfl rfl ?_
  refine ax_aload_n (q := 11) hX dc_N_quarterIn_10 rfl rfl rfl ?_
  refine ax_getI (q := 14) hX dc_N_quarterIn_11 rfl fl_N_7 rfl hs0 ?_
  obtain ⟨I1, e2, h⟩ := ax_bs h
  refine ax_putI (q := 17) hX dc_N_quarterIn_14 rfl fl_N_13 rfl hs0 (fun z => by cases z) rfl rfl e2 ?_
  refine ax_aload_n (q := 18) hX dc_N_quarterIn_17 rfl rfl rfl ?_
  refine ax_iload_n (q := 19) hX dc_N_quarterIn_18 rfl rfl rfl ?_
  obtain ⟨I3, e4, h⟩ := ax_bs h
  refine ax_putI (q := 22) hX dc_N_quarterIn_19 rfl fl_N_7 rfl hs0 (fun z => by cases z) rfl rfl e4 ?_
  cases h
  exact ax_vret hX hF dc_N_quarterIn_22 (by decide) (by decide) ax_eq.mk (by rw [hS0]; exact fun _ _ z => z)
def d_P_startAnew (S : ax_S) (I : ax_I) (R : ax_R) (u0 : Nat) (x1 : Int32) (x2 : Int32) : Option (ax_I) :=
  (some (ax_up I u0 4 (x1))).bind fun I1 =>
  (some (ax_up I1 u0 5 (x2))).bind fun I3 =>
  (some (ax_up I3 u0 2 (0))).bind fun I5 =>
  (some (ax_up I5 u0 3 (0))).bind fun I7 =>
  some (I7)
set_option maxHeartbeats 1000000 in
theorem c_P_startAnew (l : Launch) {S : ax_S} {I : ax_I} {R : ax_R} {L : ax_L} {u0 : Nat} {x1 : Int32} {x2 : Int32} {out : ax_I} (hty : ax_typ S R) (hs0 : S u0 = some (.inl 1)) (h : d_P_startAnew S I R u0 x1 x2 = some out) : ax_Met l y_P_startAnew b_P_startAnew 3 none (ax_rm 1 0 0) [.ref u0, .int x1, .int x2] S I R L (ax_eq none S out R L) := by
  refine ax_enter (own := "LossFreeTools$Picture") (by decide +kernel) rfl (ax_cats rfl) (Nat.le_of_ble_eq_true rfl) (fun X hX hF _ hS0 => ?_)
  show ax_W X 3 0 [some (.ref u0), some (.int (x1)), some (.int (x2))] [] S I R L 0 0
  unfold d_P_startAnew at h
  refine ax_aload_n (q := 1) hX dc_P_startAnew_0 rfl rfl rfl ?_
  refine ax_iload_n (q := 2) hX dc_P_startAnew_1 rfl rfl rfl ?_
  obtain ⟨I1, e2, h⟩ := ax_bs h
  refine ax_putI (q := 5) hX dc_P_startAnew_2 rfl fl_P_25 rfl hs0 (fun z => by cases z) rfl rfl e2 ?_
  refine ax_aload_n (q := 6) hX dc_P_startAnew_5 rfl rfl rfl ?_
  refine ax_iload_n (q := 7) hX dc_P_startAnew_6 rfl rfl rfl ?_
  obtain ⟨I3, e4, h⟩ := ax_bs h
  refine ax_putI (q := 10) hX dc_P_startAnew_7 rfl fl_P_29 rfl hs0 (fun z => by cases z) rfl rfl e4 ?_
  refine ax_aload_n (q := 11) hX dc_P_startAnew_10 rfl rfl rfl ?_
  refine ax_iconst (v := 0) (q := 12) hX dc_P_startAnew_11 rfl (by decide) ?_
  obtain ⟨I5, e6, h⟩ := ax_bs h
  refine ax_putI (q := 15) hX dc_P_startAnew_12 rfl fl_P_32 rfl hs0 (fun z => by cases z) rfl rfl e6 ?_
  refine ax_aload_n (q := 16) hX dc_P_startAnew_15 rfl rfl rfl ?_
  refine ax_iconst (v := 0) (q := 17) hX dc_P_startAnew_16 rfl (by decide) ?_
  obtain ⟨I7, e8, h⟩ := ax_bs h
  refine ax_putI (q := 20) hX dc_P_startAnew_17 rfl fl_P_35 rfl hs0 (fun z => by cases z) rfl rfl e8 ?_
  cases h
  exact ax_vret hX hF dc_P_startAnew_20 (by decide) (by decide) ax_eq.mk (by rw [hS0]; exact fun _ _ z => z)
def d_P_hasTile (S : ax_S) (I : ax_I) (R : ax_R) (u0 : Nat) (x1 : Int32) : Option (Bool) :=
  if x1 < 0 then
    some (false)
  else
    if (I u0 2) ≤ x1 then
      some (false)
    else
      some (true)
set_option maxHeartbeats 1000000 in
theorem c_P_hasTile (l : Launch) {S : ax_S} {I : ax_I} {R : ax_R} {L : ax_L} {u0 : Nat} {x1 : Int32} {out : Bool} (hty : ax_typ S R) (hs0 : S u0 = some (.inl 1)) (h : d_P_hasTile S I R u0 x1 = some out) : ax_Met l y_P_hasTile b_P_hasTile 2 (some .boolean) (ax_rm 1 0 0) [.ref u0, .int x1] S I R L (ax_eq (some (.int (ax_b out))) S I R L) := by
  refine ax_enter (own := "LossFreeTools$Picture") (by decide +kernel) rfl (ax_cats rfl) (Nat.le_of_ble_eq_true rfl) (fun X hX hF _ hS0 => ?_)
  show ax_W X 2 0 [some (.ref u0), some (.int (x1))] [] S I R L 0 0
  unfold d_P_hasTile at h
  refine ax_iload_n (q := 1) hX dc_P_hasTile_0 rfl rfl rfl ?_
  refine ax_if_lt (tgt := 16) (q := 4) hX dc_P_hasTile_1 rfl (by decide) (fun z1 => ?_) (fun z1 => ?_)
  · rw [if_pos z1] at h
    refine ax_iconst (v := 0) (q := 17) hX dc_P_hasTile_16 rfl (by decide) ?_
    cases h
    exact ax_iret hX hF dc_P_hasTile_17 rfl rfl (by decide) (by decide) ax_eq.mk (by rw [hS0]; exact fun _ _ z => z)
  · rw [if_neg z1] at h
    refine ax_iload_n (q := 5) hX dc_P_hasTile_4 rfl rfl rfl ?_
    refine ax_aload_n (q := 6) hX dc_P_hasTile_5 rfl rfl rfl ?_
    refine ax_getI (q := 9) hX dc_P_hasTile_6 rfl fl_P_32 rfl hs0 ?_
    refine ax_icmp_ge (tgt := 16) (q := 12) hX dc_P_hasTile_9 rfl (by decide) (fun z2 => ?_) (fun z2 => ?_)
    · rw [if_pos z2] at h
      refine ax_iconst (v := 0) (q := 17) hX dc_P_hasTile_16 rfl (by decide) ?_
      cases h
      exact ax_iret hX hF dc_P_hasTile_17 rfl rfl (by decide) (by decide) ax_eq.mk (by rw [hS0]; exact fun _ _ z => z)
    · rw [if_neg z2] at h
      refine ax_iconst (v := 1) (q := 13) hX dc_P_hasTile_12 rfl (by decide) ?_
      refine ax_goto (tgt := 17) hX dc_P_hasTile_13 (by decide) ?_
      cases h
      exact ax_iret hX hF dc_P_hasTile_17 rfl rfl (by decide) (by decide) ax_eq.mk (by rw [hS0]; exact fun _ _ z => z)
def d_P_hasSample (S : ax_S) (I : ax_I) (R : ax_R) (u0 : Nat) (x1 : Int32) (x2 : Int32) : Option (Bool) :=
  if x1 < 0 then
    some (false)
  else
    if x2 < 0 then
      some (false)
    else
      if (I u0 4) ≤ x1 then
        some (false)
      else
        if (I u0 5) ≤ x2 then
          some (false)
        else
          some (true)
set_option maxHeartbeats 1000000 in
theorem c_P_hasSample (l : Launch) {S : ax_S} {I : ax_I} {R : ax_R} {L : ax_L} {u0 : Nat} {x1 : Int32} {x2 : Int32} {out : Bool} (hty : ax_typ S R) (hs0 : S u0 = some (.inl 1)) (h : d_P_hasSample S I R u0 x1 x2 = some out) : ax_Met l y_P_hasSample b_P_hasSample 3 (some .boolean) (ax_rm 1 0 0) [.ref u0, .int x1, .int x2] S I R L (ax_eq (some (.int (ax_b out))) S I R L) := by
  refine ax_enter (own := "LossFreeTools$Picture") (by decide +kernel) rfl (ax_cats rfl) (Nat.le_of_ble_eq_true rfl) (fun X hX hF _ hS0 => ?_)
  show ax_W X 3 0 [some (.ref u0), some (.int (x1)), some (.int (x2))] [] S I R L 0 0
  unfold d_P_hasSample at h
  refine ax_iload_n (q := 1) hX dc_P_hasSample_0 rfl rfl rfl ?_
  refine ax_if_lt (tgt := 28) (q := 4) hX dc_P_hasSample_1 rfl (by decide) (fun z1 => ?_) (fun z1 => ?_)
  · rw [if_pos z1] at h
    refine ax_iconst (v := 0) (q := 29) hX dc_P_hasSample_28 rfl (by decide) ?_
    cases h
    exact ax_iret hX hF dc_P_hasSample_29 rfl rfl (by decide) (by decide) ax_eq.mk (by rw [hS0]; exact fun _ _ z => z)
  · rw [if_neg z1] at h
    refine ax_iload_n (q := 5) hX dc_P_hasSample_4 rfl rfl rfl ?_
    refine ax_if_lt (tgt := 28) (q := 8) hX dc_P_hasSample_5 rfl (by decide) (fun z2 => ?_) (fun z2 => ?_)
    · rw [if_pos z2] at h
      refine ax_iconst (v := 0) (q := 29) hX dc_P_hasSample_28 rfl (by decide) ?_
      cases h
      exact ax_iret hX hF dc_P_hasSample_29 rfl rfl (by decide) (by decide) ax_eq.mk (by rw [hS0]; exact fun _ _ z => z)
    · rw [if_neg z2] at h
      refine ax_iload_n (q := 9) hX dc_P_hasSample_8 rfl rfl rfl ?_
      refine ax_aload_n (q := 10) hX dc_P_hasSample_9 rfl rfl rfl ?_
      refine ax_getI (q := 13) hX dc_P_hasSample_10 rfl fl_P_25 rfl hs0 ?_
      refine ax_icmp_ge (tgt := 28) (q := 16) hX dc_P_hasSample_13 rfl (by decide) (fun z3 => ?_) (fun z3 => ?_)
      · rw [if_pos z3] at h
        refine ax_iconst (v := 0) (q := 29) hX dc_P_hasSample_28 rfl (by decide) ?_
        cases h
        exact ax_iret hX hF dc_P_hasSample_29 rfl rfl (by decide) (by decide) ax_eq.mk (by rw [hS0]; exact fun _ _ z => z)
      · rw [if_neg z3] at h
        refine ax_iload_n (q := 17) hX dc_P_hasSample_16 rfl rfl rfl ?_
        refine ax_aload_n (q := 18) hX dc_P_hasSample_17 rfl rfl rfl ?_
        refine ax_getI (q := 21) hX dc_P_hasSample_18 rfl fl_P_29 rfl hs0 ?_
        refine ax_icmp_ge (tgt := 28) (q := 24) hX dc_P_hasSample_21 rfl (by decide) (fun z4 => ?_) (fun z4 => ?_)
        · rw [if_pos z4] at h
          refine ax_iconst (v := 0) (q := 29) hX dc_P_hasSample_28 rfl (by decide) ?_
          cases h
          exact ax_iret hX hF dc_P_hasSample_29 rfl rfl (by decide) (by decide) ax_eq.mk (by rw [hS0]; exact fun _ _ z => z)
        · rw [if_neg z4] at h
          refine ax_iconst (v := 1) (q := 25) hX dc_P_hasSample_24 rfl (by decide) ?_
          refine ax_goto (tgt := 29) hX dc_P_hasSample_25 (by decide) ?_
          cases h
          exact ax_iret hX hF dc_P_hasSample_29 rfl rfl (by decide) (by decide) ax_eq.mk (by rw [hS0]; exact fun _ _ z => z)
def d_P_holdsRectangle (S : ax_S) (I : ax_I) (R : ax_R) (u0 : Nat) (x1 : Int32) (x2 : Int32) (x3 : Int32) (x4 : Int32) : Option (Bool) :=
  if x3 < 1 then
    some (false)
  else
    if x4 < 1 then
      some (false)
    else
      if x1 < 0 then
        some (false)
      else
        if x2 < 0 then
          some (false)
        else
          if ((I u0 4) - x3) < x1 then
            some (false)
          else
            if ((I u0 5) - x4) < x2 then
              some (false)
            else
              some (true)
set_option maxHeartbeats 1000000 in
theorem c_P_holdsRectangle (l : Launch) {S : ax_S} {I : ax_I} {R : ax_R} {L : ax_L} {u0 : Nat} {x1 : Int32} {x2 : Int32} {x3 : Int32} {x4 : Int32} {out : Bool} (hty : ax_typ S R) (hs0 : S u0 = some (.inl 1)) (h : d_P_holdsRectangle S I R u0 x1 x2 x3 x4 = some out) : ax_Met l y_P_holdsRectangle b_P_holdsRectangle 5 (some .boolean) (ax_rm 1 0 0) [.ref u0, .int x1, .int x2, .int x3, .int x4] S I R L (ax_eq (some (.int (ax_b out))) S I R L) := by
  refine ax_enter (own := "LossFreeTools$Picture") (by decide +kernel) rfl (ax_cats rfl) (Nat.le_of_ble_eq_true rfl) (fun X hX hF _ hS0 => ?_)
  show ax_W X 5 0 [some (.ref u0), some (.int (x1)), some (.int (x2)), some (.int (x3)), some (.int (x4))] [] S I R L 0 0
  unfold d_P_holdsRectangle at h
  refine ax_iload_n (q := 1) hX dc_P_holdsRectangle_0 rfl rfl rfl ?_
  refine ax_iconst (v := 1) (q := 2) hX dc_P_holdsRectangle_1 rfl (by decide) ?_
  refine ax_icmp_lt (tgt := 44) (q := 5) hX dc_P_holdsRectangle_2 rfl (by decide) (fun z1 => ?_) (fun z1 => ?_)
  · rw [if_pos z1] at h
    refine ax_iconst (v := 0) (q := 45) hX dc_P_holdsRectangle_44 rfl (by decide) ?_
    cases h
    exact ax_iret hX hF dc_P_holdsRectangle_45 rfl rfl (by decide) (by decide) ax_eq.mk (by rw [hS0]; exact fun _ _ z => z)
  · rw [if_neg z1] at h
    refine ax_iload (q := 7) hX dc_P_holdsRectangle_5 rfl rfl ?_
    refine ax_iconst (v := 1) (q := 8) hX dc_P_holdsRectangle_7 rfl (by decide) ?_
    refine ax_icmp_lt (tgt := 44) (q := 11) hX dc_P_holdsRectangle_8 rfl (by decide) (fun z2 => ?_) (fun z2 => ?_)
    · rw [if_pos z2] at h
      refine ax_iconst (v := 0) (q := 45) hX dc_P_holdsRectangle_44 rfl (by decide) ?_
      cases h
      exact ax_iret hX hF dc_P_holdsRectangle_45 rfl rfl (by decide) (by decide) ax_eq.mk (by rw [hS0]; exact fun _ _ z => z)
    · rw [if_neg z2] at h
      refine ax_iload_n (q := 12) hX dc_P_holdsRectangle_11 rfl rfl rfl ?_
      refine ax_if_lt (tgt := 44) (q := 15) hX dc_P_holdsRectangle_12 rfl (by decide) (fun z3 => ?_) (fun z3 => ?_)
      · rw [if_pos z3] at h
        refine ax_iconst (v := 0) (q := 45) hX dc_P_holdsRectangle_44 rfl (by decide) ?_
        cases h
        exact ax_iret hX hF dc_P_holdsRectangle_45 rfl rfl (by decide) (by decide) ax_eq.mk (by rw [hS0]; exact fun _ _ z => z)
      · rw [if_neg z3] at h
        refine ax_iload_n (q := 16) hX dc_P_holdsRectangle_15 rfl rfl rfl ?_
        refine ax_if_lt (tgt := 44) (q := 19) hX dc_P_holdsRectangle_16 rfl (by decide) (fun z4 => ?_) (fun z4 => ?_)
        · rw [if_pos z4] at h
          refine ax_iconst (v := 0) (q := 45) hX dc_P_holdsRectangle_44 rfl (by decide) ?_
          cases h
          exact ax_iret hX hF dc_P_holdsRectangle_45 rfl rfl (by decide) (by decide) ax_eq.mk (by rw [hS0]; exact fun _ _ z => z)
        · rw [if_neg z4] at h
          refine ax_iload_n (q := 20) hX dc_P_holdsRectangle_19 rfl rfl rfl ?_
          refine ax_aload_n (q := 21) hX dc_P_holdsRectangle_20 rfl rfl rfl ?_
          refine ax_getI (q := 24) hX dc_P_holdsRectangle_21 rfl fl_P_25 rfl hs0 ?_
          refine ax_iload_n (q := 25) hX dc_P_holdsRectangle_24 rfl rfl rfl ?_
          refine ax_isub (q := 26) hX dc_P_holdsRectangle_25 rfl ?_
          refine ax_icmp_gt (tgt := 44) (q := 29) hX dc_P_holdsRectangle_26 rfl (by decide) (fun z5 => ?_) (fun z5 => ?_)
          · rw [if_pos z5] at h
            refine ax_iconst (v := 0) (q := 45) hX dc_P_holdsRectangle_44 rfl (by decide) ?_
            cases h
            exact ax_iret hX hF dc_P_holdsRectangle_45 rfl rfl (by decide) (by decide) ax_eq.mk (by rw [hS0]; exact fun _ _ z => z)
          · rw [if_neg z5] at h
            refine ax_iload_n (q := 30) hX dc_P_holdsRectangle_29 rfl rfl rfl ?_
            refine ax_aload_n (q := 31) hX dc_P_holdsRectangle_30 rfl rfl rfl ?_
            refine ax_getI (q := 34) hX dc_P_holdsRectangle_31 rfl fl_P_29 rfl hs0 ?_
            refine ax_iload (q := 36) hX dc_P_holdsRectangle_34 rfl rfl ?_
            refine ax_isub (q := 37) hX dc_P_holdsRectangle_36 rfl ?_
            refine ax_icmp_gt (tgt := 44) (q := 40) hX dc_P_holdsRectangle_37 rfl (by decide) (fun z6 => ?_) (fun z6 => ?_)
            · rw [if_pos z6] at h
              refine ax_iconst (v := 0) (q := 45) hX dc_P_holdsRectangle_44 rfl (by decide) ?_
              cases h
              exact ax_iret hX hF dc_P_holdsRectangle_45 rfl rfl (by decide) (by decide) ax_eq.mk (by rw [hS0]; exact fun _ _ z => z)
            · rw [if_neg z6] at h
              refine ax_iconst (v := 1) (q := 41) hX dc_P_holdsRectangle_40 rfl (by decide) ?_
              refine ax_goto (tgt := 45) hX dc_P_holdsRectangle_41 (by decide) ?_
              cases h
              exact ax_iret hX hF dc_P_holdsRectangle_45 rfl rfl (by decide) (by decide) ax_eq.mk (by rw [hS0]; exact fun _ _ z => z)
def d_P_sizeAlong (S : ax_S) (I : ax_I) (R : ax_R) (u0 : Nat) (x1 : Int32) : Option (Int32) :=
  if x1 = 0 then
    some (I u0 5)
  else
    some (I u0 4)
set_option maxHeartbeats 1000000 in
theorem c_P_sizeAlong (l : Launch) {S : ax_S} {I : ax_I} {R : ax_R} {L : ax_L} {u0 : Nat} {x1 : Int32} {out : Int32} (hty : ax_typ S R) (hs0 : S u0 = some (.inl 1)) (h : d_P_sizeAlong S I R u0 x1 = some out) : ax_Met l y_P_sizeAlong b_P_sizeAlong 2 (some .int) (ax_rm 1 0 0) [.ref u0, .int x1] S I R L (ax_eq (some (.int out)) S I R L) := by
  refine ax_enter (own := "LossFreeTools$Picture") (by decide +kernel) rfl (ax_cats rfl) (Nat.le_of_ble_eq_true rfl) (fun X hX hF _ hS0 => ?_)
  show ax_W X 2 0 [some (.ref u0), some (.int (x1))] [] S I R L 0 0
  unfold d_P_sizeAlong at h
  refine ax_iload_n (q := 1) hX dc_P_sizeAlong_0 rfl rfl rfl ?_
  refine ax_if_eq (tgt := 11) (q := 4) hX dc_P_sizeAlong_1 rfl (by decide) (fun z1 => ?_) (fun z1 => ?_)
  · rw [if_pos z1] at h
    refine ax_aload_n (q := 12) hX dc_P_sizeAlong_11 rfl rfl rfl ?_
    refine ax_getI (q := 15) hX dc_P_sizeAlong_12 rfl fl_P_29 rfl hs0 ?_
    cases h
    exact ax_iret hX hF dc_P_sizeAlong_15 rfl rfl (by decide) (by decide) ax_eq.mk (by rw [hS0]; exact fun _ _ z => z)
  · rw [if_neg z1] at h
    refine ax_aload_n (q := 5) hX dc_P_sizeAlong_4 rfl rfl rfl ?_
    refine ax_getI (q := 8) hX dc_P_sizeAlong_5 rfl fl_P_25 rfl hs0 ?_
    refine ax_goto (tgt := 15) hX dc_P_sizeAlong_8 (by decide) ?_
    cases h
    exact ax_iret hX hF dc_P_sizeAlong_15 rfl rfl (by decide) (by decide) ax_eq.mk (by rw [hS0]; exact fun _ _ z => z)
def d_T_overlaps (S : ax_S) (I : ax_I) (R : ax_R) (u0 : Nat) (x1 : Int32) (x2 : Int32) (x3 : Int32) (x4 : Int32) : Option (Bool) :=
  if ((I u0 2) + (I u0 4)) ≤ x1 then
    some (false)
  else
    if (x1 + x3) ≤ (I u0 2) then
      some (false)
    else
      if ((I u0 3) + (I u0 5)) ≤ x2 then
        some (false)
      else
        if (x2 + x4) ≤ (I u0 3) then
          some (false)
        else
          some (true)
set_option maxHeartbeats 1000000 in
theorem c_T_overlaps (l : Launch) {S : ax_S} {I : ax_I} {R : ax_R} {L : ax_L} {u0 : Nat} {x1 : Int32} {x2 : Int32} {x3 : Int32} {x4 : Int32} {out : Bool} (hty : ax_typ S R) (hs0 : S u0 = some (.inl 3)) (h : d_T_overlaps S I R u0 x1 x2 x3 x4 = some out) : ax_Met l y_T_overlaps b_T_overlaps 5 (some .boolean) (ax_rm 1 0 0) [.ref u0, .int x1, .int x2, .int x3, .int x4] S I R L (ax_eq (some (.int (ax_b out))) S I R L) := by
  refine ax_enter (own := "LossFreeTools$Tile") (by decide +kernel) rfl (ax_cats rfl) (Nat.le_of_ble_eq_true rfl) (fun X hX hF _ hS0 => ?_)
  show ax_W X 5 0 [some (.ref u0), some (.int (x1)), some (.int (x2)), some (.int (x3)), some (.int (x4))] [] S I R L 0 0
  unfold d_T_overlaps at h
  refine ax_iload_n (q := 1) hX dc_T_overlaps_0 rfl rfl rfl ?_
  refine ax_aload_n (q := 2) hX dc_T_overlaps_1 rfl rfl rfl ?_
  refine ax_getI (q := 5) hX dc_T_overlaps_2 rfl fl_T_15 rfl hs0 ?_
  refine ax_aload_n (q := 6) hX dc_T_overlaps_5 rfl rfl rfl ?_
  refine ax_getI (q := 9) hX dc_T_overlaps_6 rfl fl_T_22 rfl hs0 ?_
  refine ax_iadd (q := 10) hX dc_T_overlaps_9 rfl ?_
  refine ax_icmp_ge (tgt := 51) (q := 13) hX dc_T_overlaps_10 rfl (by decide) (fun z1 => ?_) (fun z1 => ?_)
  · rw [if_pos z1] at h
    refine ax_iconst (v := 0) (q := 52) hX dc_T_overlaps_51 rfl (by decide) ?_
    cases h
    exact ax_iret hX hF dc_T_overlaps_52 rfl rfl (by decide) (by decide) ax_eq.mk (by rw [hS0]; exact fun _ _ z => z)
  · rw [if_neg z1] at h
    refine ax_aload_n (q := 14) hX dc_T_overlaps_13 rfl rfl rfl ?_
    refine ax_getI (q := 17) hX dc_T_overlaps_14 rfl fl_T_15 rfl hs0 ?_
    refine ax_iload_n (q := 18) hX dc_T_overlaps_17 rfl rfl rfl ?_
    refine ax_iload_n (q := 19) hX dc_T_overlaps_18 rfl rfl rfl ?_
    refine ax_iadd (q := 20) hX dc_T_overlaps_19 rfl ?_
    refine ax_icmp_ge (tgt := 51) (q := 23) hX dc_T_overlaps_20 rfl (by decide) (fun z2 => ?_) (fun z2 => ?_)
    · rw [if_pos z2] at h
      refine ax_iconst (v := 0) (q := 52) hX dc_T_overlaps_51 rfl (by decide) ?_
      cases h
      exact ax_iret hX hF dc_T_overlaps_52 rfl rfl (by decide) (by decide) ax_eq.mk (by rw [hS0]; exact fun _ _ z => z)
    · rw [if_neg z2] at h
      refine ax_iload_n (q := 24) hX dc_T_overlaps_23 rfl rfl rfl ?_
      refine ax_aload_n (q := 25) hX dc_T_overlaps_24 rfl rfl rfl ?_
      refine ax_getI (q := 28) hX dc_T_overlaps_25 rfl fl_T_19 rfl hs0 ?_
      refine ax_aload_n (q := 29) hX dc_T_overlaps_28 rfl rfl rfl ?_
      refine ax_getI (q := 32) hX dc_T_overlaps_29 rfl fl_T_25 rfl hs0 ?_
      refine ax_iadd (q := 33) hX dc_T_overlaps_32 rfl ?_
      refine ax_icmp_ge (tgt := 51) (q := 36) hX dc_T_overlaps_33 rfl (by decide) (fun z3 => ?_) (fun z3 => ?_)
      · rw [if_pos z3] at h
        refine ax_iconst (v := 0) (q := 52) hX dc_T_overlaps_51 rfl (by decide) ?_
        cases h
        exact ax_iret hX hF dc_T_overlaps_52 rfl rfl (by decide) (by decide) ax_eq.mk (by rw [hS0]; exact fun _ _ z => z)
      · rw [if_neg z3] at h
        refine ax_aload_n (q := 37) hX dc_T_overlaps_36 rfl rfl rfl ?_
        refine ax_getI (q := 40) hX dc_T_overlaps_37 rfl fl_T_19 rfl hs0 ?_
        refine ax_iload_n (q := 41) hX dc_T_overlaps_40 rfl rfl rfl ?_
        refine ax_iload (q := 43) hX dc_T_overlaps_41 rfl rfl ?_
        refine ax_iadd (q := 44) hX dc_T_overlaps_43 rfl ?_
        refine ax_icmp_ge (tgt := 51) (q := 47) hX dc_T_overlaps_44 rfl (by decide) (fun z4 => ?_) (fun z4 => ?_)
        · rw [if_pos z4] at h
          refine ax_iconst (v := 0) (q := 52) hX dc_T_overlaps_51 rfl (by decide) ?_
          cases h
          exact ax_iret hX hF dc_T_overlaps_52 rfl rfl (by decide) (by decide) ax_eq.mk (by rw [hS0]; exact fun _ _ z => z)
        · rw [if_neg z4] at h
          refine ax_iconst (v := 1) (q := 48) hX dc_T_overlaps_47 rfl (by decide) ?_
          refine ax_goto (tgt := 52) hX dc_T_overlaps_48 (by decide) ?_
          cases h
          exact ax_iret hX hF dc_T_overlaps_52 rfl rfl (by decide) (by decide) ax_eq.mk (by rw [hS0]; exact fun _ _ z => z)
def d_T_startAnew (S : ax_S) (I : ax_I) (R : ax_R) (u0 : Nat) (x1 : Int32) (x2 : Int32) (x3 : Int32) (x4 : Int32) : Option (ax_I) :=
  (some (ax_up I u0 2 (x1))).bind fun I1 =>
  (some (ax_up I1 u0 3 (x2))).bind fun I3 =>
  (some (ax_up I3 u0 4 (x3))).bind fun I5 =>
  (some (ax_up I5 u0 5 (x4))).bind fun I7 =>
  (some (ax_up I7 u0 6 (0))).bind fun I9 =>
  (some (ax_up I9 u0 1 (0))).bind fun I11 =>
  some (I11)
set_option maxHeartbeats 1000000 in
theorem c_T_startAnew (l : Launch) {S : ax_S} {I : ax_I} {R : ax_R} {L : ax_L} {u0 : Nat} {x1 : Int32} {x2 : Int32} {x3 : Int32} {x4 : Int32} {out : ax_I} (hty : ax_typ S R) (hs0 : S u0 = some (.inl 3)) (h : d_T_startAnew S I R u0 x1 x2 x3 x4 = some out) : ax_Met l y_T_startAnew b_T_startAnew 5 none (ax_rm 1 0 0) [.ref u0, .int x1, .int x2, .int x3, .int x4] S I R L (ax_eq none S out R L) := by
  refine ax_enter (own := "LossFreeTools$Tile") (by decide +kernel) rfl (ax_cats rfl) (Nat.le_of_ble_eq_true rfl) (fun X hX hF _ hS0 => ?_)
  show ax_W X 5 0 [some (.ref u0), some (.int (x1)), some (.int (x2)), some (.int (x3)), some (.int (x4))] [] S I R L 0 0
  unfold d_T_startAnew at h
  refine ax_aload_n (q := 1) hX dc_T_startAnew_0 rfl rfl rfl ?_
  refine ax_iload_n (q := 2) hX dc_T_startAnew_1 rfl rfl rfl ?_
  obtain ⟨I1, e2, h⟩ := ax_bs h
  refine ax_putI (q := 5) hX dc_T_startAnew_2 rfl fl_T_15 rfl hs0 (fun z => by cases z) rfl rfl e2 ?_
  refine ax_aload_n (q := 6) hX dc_T_startAnew_5 rfl rfl rfl ?_
  refine ax_iload_n (q := 7) hX dc_T_startAnew_6 rfl rfl rfl ?_
  obtain ⟨I3, e4, h⟩ := ax_bs h
  refine ax_putI (q := 10) hX dc_T_startAnew_7 rfl fl_T_19 rfl hs0 (fun z => by cases z) rfl rfl e4 ?_
  refine ax_aload_n (q := 11) hX dc_T_startAnew_10 rfl rfl rfl ?_
  refine ax_iload_n (q := 12) hX dc_T_startAnew_11 rfl rfl rfl ?_
  obtain ⟨I5, e6, h⟩ := ax_bs h
  refine ax_putI (q := 15) hX dc_T_startAnew_12 rfl fl_T_22 rfl hs0 (fun z => by cases z) rfl rfl e6 ?_
  refine ax_aload_n (q := 16) hX dc_T_startAnew_15 rfl rfl rfl ?_
  refine ax_iload (q := 18) hX dc_T_startAnew_16 rfl rfl ?_
  obtain ⟨I7, e8, h⟩ := ax_bs h
  refine ax_putI (q := 21) hX dc_T_startAnew_18 rfl fl_T_25 rfl hs0 (fun z => by cases z) rfl rfl e8 ?_
  refine ax_aload_n (q := 22) hX dc_T_startAnew_21 rfl rfl rfl ?_
  refine ax_iconst (v := 0) (q := 23) hX dc_T_startAnew_22 rfl (by decide) ?_
  obtain ⟨I9, e10, h⟩ := ax_bs h
  refine ax_putI (q := 26) hX dc_T_startAnew_23 rfl fl_T_28 rfl hs0 (fun z => by cases z) rfl rfl e10 ?_
  refine ax_aload_n (q := 27) hX dc_T_startAnew_26 rfl rfl rfl ?_
  refine ax_iconst (v := 0) (q := 28) hX dc_T_startAnew_27 rfl (by decide) ?_
  obtain ⟨I11, e12, h⟩ := ax_bs h
  refine ax_putI (q := 31) hX dc_T_startAnew_28 rfl fl_T_31 rfl hs0 (fun z => by cases z) rfl rfl e12 ?_
  cases h
  exact ax_vret hX hF dc_T_startAnew_31 (by decide) (by decide) ax_eq.mk (by rw [hS0]; exact fun _ _ z => z)
def d_T_crosses_31 (S : ax_S) (I : ax_I) (R : ax_R) (x2 : Int32) (x3 : Int32) (y0 : Int32) : Option (Bool) :=
  if x2 ≤ x3 then
    some (false)
  else
    if (x3 + y0) ≤ x2 then
      some (false)
    else
      some (true)
set_option maxHeartbeats 1000000 in
theorem e_T_crosses_31 {l : Launch} {X : ax_X} {S : ax_S} {L : ax_L} {I0 : ax_I} {R0 : ax_R} {out : Bool} (hX : ax_ok X l "LossFreeTools$Tile" b_T_crosses 5 (ax_rm 1 0 0)) (hF : ax_fin X (some .boolean) 0 0 (ax_of (ax_eq (some (.int (ax_b out))) S I0 R0 L))) (hS0 : ax_S0 X = S) : ∀ (I : ax_I) (R : ax_R) (x2 : Int32) (x3 : Int32) (y0 : Int32), ax_typ S R → I = I0 → R = R0 → d_T_crosses_31 S  I R x2 x3 y0 = some out → ax_W X 5 31 [none, none, some (.int (x2)), some (.int (x3)), none] [.int (y0)] S I R L 0 0 := by
  rintro I R x2 x3 y0 hty hI0 hR0 h
  subst hI0
  subst hR0
  unfold d_T_crosses_31 at h
  refine ax_istore (ls' := [none, none, some (.int (x2)), some (.int (x3)), some (.int (y0))]) (q := 33) hX dc_T_crosses_31 rfl (by decide) rfl ?_
  refine ax_iload_n (q := 34) hX dc_T_crosses_33 rfl rfl rfl ?_
  refine ax_iload_n (q := 35) hX dc_T_crosses_34 rfl rfl rfl ?_
  refine ax_icmp_ge (tgt := 50) (q := 38) hX dc_T_crosses_35 rfl (by decide) (fun z3 => ?_) (fun z3 => ?_)
  · rw [if_pos z3] at h
    refine ax_iconst (v := 0) (q := 51) hX dc_T_crosses_50 rfl (by decide) ?_
    cases h
    exact ax_iret hX hF dc_T_crosses_51 rfl rfl (by decide) (by decide) ax_eq.mk (by rw [hS0]; exact fun _ _ z => z)
  · rw [if_neg z3] at h
    refine ax_iload_n (q := 39) hX dc_T_crosses_38 rfl rfl rfl ?_
    refine ax_iload_n (q := 40) hX dc_T_crosses_39 rfl rfl rfl ?_
    refine ax_iload (q := 42) hX dc_T_crosses_40 rfl rfl ?_
    refine ax_iadd (q := 43) hX dc_T_crosses_42 rfl ?_
    refine ax_icmp_ge (tgt := 50) (q := 46) hX dc_T_crosses_43 rfl (by decide) (fun z4 => ?_) (fun z4 => ?_)
    · rw [if_pos z4] at h
      refine ax_iconst (v := 0) (q := 51) hX dc_T_crosses_50 rfl (by decide) ?_
      cases h
      exact ax_iret hX hF dc_T_crosses_51 rfl rfl (by decide) (by decide) ax_eq.mk (by rw [hS0]; exact fun _ _ z => z)
    · rw [if_neg z4] at h
      refine ax_iconst (v := 1) (q := 47) hX dc_T_crosses_46 rfl (by decide) ?_
      refine ax_goto (tgt := 51) hX dc_T_crosses_47 (by decide) ?_
      cases h
      exact ax_iret hX hF dc_T_crosses_51 rfl rfl (by decide) (by decide) ax_eq.mk (by rw [hS0]; exact fun _ _ z => z)
def d_T_crosses_15 (S : ax_S) (I : ax_I) (R : ax_R) (u0 : Nat) (x1 : Int32) (x2 : Int32) (y0 : Int32) : Option (Bool) :=
  if x1 = 0 then
    d_T_crosses_31 S  I R (x2) (y0) (I u0 5)
  else
    d_T_crosses_31 S  I R (x2) (y0) (I u0 4)
set_option maxHeartbeats 1000000 in
theorem e_T_crosses_15 {l : Launch} {X : ax_X} {S : ax_S} {L : ax_L} {I0 : ax_I} {R0 : ax_R} {out : Bool} (hX : ax_ok X l "LossFreeTools$Tile" b_T_crosses 5 (ax_rm 1 0 0)) (hF : ax_fin X (some .boolean) 0 0 (ax_of (ax_eq (some (.int (ax_b out))) S I0 R0 L))) (hS0 : ax_S0 X = S) : ∀ (I : ax_I) (R : ax_R) (u0 : Nat) (x1 : Int32) (x2 : Int32) (y0 : Int32), ax_typ S R → (S u0 = some (.inl 3)) → I = I0 → R = R0 → d_T_crosses_15 S  I R u0 x1 x2 y0 = some out → ax_W X 5 15 [some (.ref u0), some (.int (x1)), some (.int (x2)), none, none] [.int (y0)] S I R L 0 0 := by
  rintro I R u0 x1 x2 y0 hty hs0_ hI0 hR0 h
  subst hI0
  subst hR0
  unfold d_T_crosses_15 at h
  refine ax_istore_n (ls' := [some (.ref u0), some (.int (x1)), some (.int (x2)), some (.int (y0)), none]) (q := 16) hX dc_T_crosses_15 rfl rfl (by decide) rfl ?_
  refine ax_iload_n (q := 17) hX dc_T_crosses_16 rfl rfl rfl ?_
  refine ax_if_eq (tgt := 27) (q := 20) hX dc_T_crosses_17 rfl (by decide) (fun z2 => ?_) (fun z2 => ?_)
  · rw [if_pos z2] at h
    refine ax_aload_n (q := 28) hX dc_T_crosses_27 rfl rfl rfl ?_
    refine ax_getI (q := 31) hX dc_T_crosses_28 rfl fl_T_25 rfl hs0_ ?_
    exact ax_weak (ls' := [none, none, some (.int (x2)), some (.int (y0)), none]) (ax_fewP_s _ _ (by repeat (first | exact trivial | (refine And.intro rfl ?_)))) (e_T_crosses_31 hX hF hS0  I R (x2) (y0) (I u0 5) hty  rfl rfl h)
  · rw [if_neg z2] at h
    refine ax_aload_n (q := 21) hX dc_T_crosses_20 rfl rfl rfl ?_
    refine ax_getI (q := 24) hX dc_T_crosses_21 rfl fl_T_22 rfl hs0_ ?_
    refine ax_goto (tgt := 31) hX dc_T_crosses_24 (by decide) ?_
    exact ax_weak (ls' := [none, none, some (.int (x2)), some (.int (y0)), none]) (ax_fewP_s _ _ (by repeat (first | exact trivial | (refine And.intro rfl ?_)))) (e_T_crosses_31 hX hF hS0  I R (x2) (y0) (I u0 4) hty  rfl rfl h)
def d_T_crosses (S : ax_S) (I : ax_I) (R : ax_R) (u0 : Nat) (x1 : Int32) (x2 : Int32) : Option (Bool) :=
  if x1 = 0 then
    d_T_crosses_15 S  I R u0 (x1) (x2) (I u0 3)
  else
    d_T_crosses_15 S  I R u0 (x1) (x2) (I u0 2)
set_option maxHeartbeats 1000000 in
theorem c_T_crosses (l : Launch) {S : ax_S} {I : ax_I} {R : ax_R} {L : ax_L} {u0 : Nat} {x1 : Int32} {x2 : Int32} {out : Bool} (hty : ax_typ S R) (hs0 : S u0 = some (.inl 3)) (h : d_T_crosses S I R u0 x1 x2 = some out) : ax_Met l y_T_crosses b_T_crosses 5 (some .boolean) (ax_rm 1 0 0) [.ref u0, .int x1, .int x2] S I R L (ax_eq (some (.int (ax_b out))) S I R L) := by
  refine ax_enter (own := "LossFreeTools$Tile") (by decide +kernel) rfl (ax_cats rfl) (Nat.le_of_ble_eq_true rfl) (fun X hX hF _ hS0 => ?_)
  show ax_W X 5 0 [some (.ref u0), some (.int (x1)), some (.int (x2)), none, none] [] S I R L 0 0
  unfold d_T_crosses at h
  refine ax_iload_n (q := 1) hX dc_T_crosses_0 rfl rfl rfl ?_
  refine ax_if_eq (tgt := 11) (q := 4) hX dc_T_crosses_1 rfl (by decide) (fun z1 => ?_) (fun z1 => ?_)
  · rw [if_pos z1] at h
    refine ax_aload_n (q := 12) hX dc_T_crosses_11 rfl rfl rfl ?_
    refine ax_getI (q := 15) hX dc_T_crosses_12 rfl fl_T_19 rfl hs0 ?_
    exact (e_T_crosses_15 hX hF hS0  I R u0 (x1) (x2) (I u0 3) hty hs0 rfl rfl h)
  · rw [if_neg z1] at h
    refine ax_aload_n (q := 5) hX dc_T_crosses_4 rfl rfl rfl ?_
    refine ax_getI (q := 8) hX dc_T_crosses_5 rfl fl_T_15 rfl hs0 ?_
    refine ax_goto (tgt := 15) hX dc_T_crosses_8 (by decide) ?_
    exact (e_T_crosses_15 hX hF hS0  I R u0 (x1) (x2) (I u0 2) hty hs0 rfl rfl h)
def d_T_isWithin (S : ax_S) (I : ax_I) (R : ax_R) (u0 : Nat) (x1 : Int32) (x2 : Int32) (x3 : Int32) (x4 : Int32) : Option (Bool) :=
  if (I u0 2) < x1 then
    some (false)
  else
    if (I u0 3) < x2 then
      some (false)
    else
      if x3 < ((I u0 2) + (I u0 4)) then
        some (false)
      else
        if x4 < ((I u0 3) + (I u0 5)) then
          some (false)
        else
          some (true)
set_option maxHeartbeats 1000000 in
theorem c_T_isWithin (l : Launch) {S : ax_S} {I : ax_I} {R : ax_R} {L : ax_L} {u0 : Nat} {x1 : Int32} {x2 : Int32} {x3 : Int32} {x4 : Int32} {out : Bool} (hty : ax_typ S R) (hs0 : S u0 = some (.inl 3)) (h : d_T_isWithin S I R u0 x1 x2 x3 x4 = some out) : ax_Met l y_T_isWithin b_T_isWithin 5 (some .boolean) (ax_rm 1 0 0) [.ref u0, .int x1, .int x2, .int x3, .int x4] S I R L (ax_eq (some (.int (ax_b out))) S I R L) := by
  refine ax_enter (own := "LossFreeTools$Tile") (by decide +kernel) rfl (ax_cats rfl) (Nat.le_of_ble_eq_true rfl) (fun X hX hF _ hS0 => ?_)
  show ax_W X 5 0 [some (.ref u0), some (.int (x1)), some (.int (x2)), some (.int (x3)), some (.int (x4))] [] S I R L 0 0
  unfold d_T_isWithin at h
  refine ax_aload_n (q := 1) hX dc_T_isWithin_0 rfl rfl rfl ?_
  refine ax_getI (q := 4) hX dc_T_isWithin_1 rfl fl_T_15 rfl hs0 ?_
  refine ax_iload_n (q := 5) hX dc_T_isWithin_4 rfl rfl rfl ?_
  refine ax_icmp_lt (tgt := 47) (q := 8) hX dc_T_isWithin_5 rfl (by decide) (fun z1 => ?_) (fun z1 => ?_)
  · rw [if_pos z1] at h
    refine ax_iconst (v := 0) (q := 48) hX dc_T_isWithin_47 rfl (by decide) ?_
    cases h
    exact ax_iret hX hF dc_T_isWithin_48 rfl rfl (by decide) (by decide) ax_eq.mk (by rw [hS0]; exact fun _ _ z => z)
  · rw [if_neg z1] at h
    refine ax_aload_n (q := 9) hX dc_T_isWithin_8 rfl rfl rfl ?_
    refine ax_getI (q := 12) hX dc_T_isWithin_9 rfl fl_T_19 rfl hs0 ?_
    refine ax_iload_n (q := 13) hX dc_T_isWithin_12 rfl rfl rfl ?_
    refine ax_icmp_lt (tgt := 47) (q := 16) hX dc_T_isWithin_13 rfl (by decide) (fun z2 => ?_) (fun z2 => ?_)
    · rw [if_pos z2] at h
      refine ax_iconst (v := 0) (q := 48) hX dc_T_isWithin_47 rfl (by decide) ?_
      cases h
      exact ax_iret hX hF dc_T_isWithin_48 rfl rfl (by decide) (by decide) ax_eq.mk (by rw [hS0]; exact fun _ _ z => z)
    · rw [if_neg z2] at h
      refine ax_aload_n (q := 17) hX dc_T_isWithin_16 rfl rfl rfl ?_
      refine ax_getI (q := 20) hX dc_T_isWithin_17 rfl fl_T_15 rfl hs0 ?_
      refine ax_aload_n (q := 21) hX dc_T_isWithin_20 rfl rfl rfl ?_
      refine ax_getI (q := 24) hX dc_T_isWithin_21 rfl fl_T_22 rfl hs0 ?_
      refine ax_iadd (q := 25) hX dc_T_isWithin_24 rfl ?_
      refine ax_iload_n (q := 26) hX dc_T_isWithin_25 rfl rfl rfl ?_
      refine ax_icmp_gt (tgt := 47) (q := 29) hX dc_T_isWithin_26 rfl (by decide) (fun z3 => ?_) (fun z3 => ?_)
      · rw [if_pos z3] at h
        refine ax_iconst (v := 0) (q := 48) hX dc_T_isWithin_47 rfl (by decide) ?_
        cases h
        exact ax_iret hX hF dc_T_isWithin_48 rfl rfl (by decide) (by decide) ax_eq.mk (by rw [hS0]; exact fun _ _ z => z)
      · rw [if_neg z3] at h
        refine ax_aload_n (q := 30) hX dc_T_isWithin_29 rfl rfl rfl ?_
        refine ax_getI (q := 33) hX dc_T_isWithin_30 rfl fl_T_19 rfl hs0 ?_
        refine ax_aload_n (q := 34) hX dc_T_isWithin_33 rfl rfl rfl ?_
        refine ax_getI (q := 37) hX dc_T_isWithin_34 rfl fl_T_25 rfl hs0 ?_
        refine ax_iadd (q := 38) hX dc_T_isWithin_37 rfl ?_
        refine ax_iload (q := 40) hX dc_T_isWithin_38 rfl rfl ?_
        refine ax_icmp_gt (tgt := 47) (q := 43) hX dc_T_isWithin_40 rfl (by decide) (fun z4 => ?_) (fun z4 => ?_)
        · rw [if_pos z4] at h
          refine ax_iconst (v := 0) (q := 48) hX dc_T_isWithin_47 rfl (by decide) ?_
          cases h
          exact ax_iret hX hF dc_T_isWithin_48 rfl rfl (by decide) (by decide) ax_eq.mk (by rw [hS0]; exact fun _ _ z => z)
        · rw [if_neg z4] at h
          refine ax_iconst (v := 1) (q := 44) hX dc_T_isWithin_43 rfl (by decide) ?_
          refine ax_goto (tgt := 48) hX dc_T_isWithin_44 (by decide) ?_
          cases h
          exact ax_iret hX hF dc_T_isWithin_48 rfl rfl (by decide) (by decide) ax_eq.mk (by rw [hS0]; exact fun _ _ z => z)
def d_T_moveBy (S : ax_S) (I : ax_I) (R : ax_R) (u0 : Nat) (x1 : Int32) (x2 : Int32) : Option (ax_I) :=
  (some (ax_up I u0 2 ((I u0 2) + x1))).bind fun I1 =>
  (some (ax_up I1 u0 3 ((I1 u0 3) + x2))).bind fun I3 =>
  some (I3)
set_option maxHeartbeats 1000000 in
theorem c_T_moveBy (l : Launch) {S : ax_S} {I : ax_I} {R : ax_R} {L : ax_L} {u0 : Nat} {x1 : Int32} {x2 : Int32} {out : ax_I} (hty : ax_typ S R) (hs0 : S u0 = some (.inl 3)) (h : d_T_moveBy S I R u0 x1 x2 = some out) : ax_Met l y_T_moveBy b_T_moveBy 3 none (ax_rm 1 0 0) [.ref u0, .int x1, .int x2] S I R L (ax_eq none S out R L) := by
  refine ax_enter (own := "LossFreeTools$Tile") (by decide +kernel) rfl (ax_cats rfl) (Nat.le_of_ble_eq_true rfl) (fun X hX hF _ hS0 => ?_)
  show ax_W X 3 0 [some (.ref u0), some (.int (x1)), some (.int (x2))] [] S I R L 0 0
  unfold d_T_moveBy at h
  refine ax_aload_n (q := 1) hX dc_T_moveBy_0 rfl rfl rfl ?_
  refine ax_dup (q := 2) hX dc_T_moveBy_1 rfl rfl ?_
  refine ax_getI (q := 5) hX dc_T_moveBy_2 rfl fl_T_15 rfl hs0 ?_
  refine ax_iload_n (q := 6) hX dc_T_moveBy_5 rfl rfl rfl ?_
  refine ax_iadd (q := 7) hX dc_T_moveBy_6 rfl ?_
  obtain ⟨I1, e2, h⟩ := ax_bs h
  refine ax_putI (q := 10) hX dc_T_moveBy_7 rfl fl_T_15 rfl hs0 (fun z => by cases z) rfl rfl e2 ?_
  refine ax_aload_n (q := 11) hX dc_T_moveBy_10 rfl rfl rfl ?_
  refine ax_dup (q := 12) hX dc_T_moveBy_11 rfl rfl ?_
  refine ax_getI (q := 15) hX dc_T_moveBy_12 rfl fl_T_19 rfl hs0 ?_
  refine ax_iload_n (q := 16) hX dc_T_moveBy_15 rfl rfl rfl ?_
  refine ax_iadd (q := 17) hX dc_T_moveBy_16 rfl ?_
  obtain ⟨I3, e4, h⟩ := ax_bs h
  refine ax_putI (q := 20) hX dc_T_moveBy_17 rfl fl_T_19 rfl hs0 (fun z => by cases z) rfl rfl e4 ?_
  cases h
  exact ax_vret hX hF dc_T_moveBy_20 (by decide) (by decide) ax_eq.mk (by rw [hS0]; exact fun _ _ z => z)
def d_P_growAlong_32 (S : ax_S) (I : ax_I) (R : ax_R) (y0 : Int32) (y1 : Int32) (w2 : Nat) : Option (ax_I) :=
  (some (ax_up I w2 5 (y1 + y0))).bind fun I5 =>
  some (I5)
set_option maxHeartbeats 1000000 in
theorem e_P_growAlong_32 {l : Launch} {X : ax_X} {S : ax_S} {L : ax_L} {R0 : ax_R} {out : ax_I} (hX : ax_ok X l "LossFreeTools$Picture" b_P_growAlong 3 (ax_rm 1 0 0)) (hF : ax_fin X none 0 0 (ax_of (ax_eq none S out R0 L))) (hS0 : ax_S0 X = S) : ∀ (I : ax_I) (R : ax_R) (y0 : Int32) (y1 : Int32) (w2 : Nat), ax_typ S R → (S w2 = some (.inl 1)) → R = R0 → d_P_growAlong_32 S  I R y0 y1 w2 = some out → ax_W X 3 32 [none, none, none] [.int (y0), .int (y1), .ref w2] S I R L 0 0 := by
  rintro I R y0 y1 w2 hty hw2_ hR0 h
  subst hR0
  unfold d_P_growAlong_32 at h
  refine ax_iadd (q := 33) hX dc_P_growAlong_32 rfl ?_
  obtain ⟨I5, e6, h⟩ := ax_bs h
  refine ax_putI (q := 36) hX dc_P_growAlong_33 rfl fl_P_29 rfl hw2_ (fun z => by cases z) rfl rfl e6 ?_
  cases h
  exact ax_vret hX hF dc_P_growAlong_36 (by decide) (by decide) ax_eq.mk (by rw [hS0]; exact fun _ _ z => z)
def d_P_growAlong_14 (S : ax_S) (I : ax_I) (R : ax_R) (u0 : Nat) (x1 : Int32) (x2 : Int32) (y0 : Int32) (y1 : Int32) (w2 : Nat) : Option (ax_I) :=
  (some (ax_up I w2 4 (y1 + y0))).bind fun I2 =>
  if x1 = 0 then
    d_P_growAlong_32 S  I2 R (x2) (I2 u0 5) u0
  else
    d_P_growAlong_32 S  I2 R (0) (I2 u0 5) u0
set_option maxHeartbeats 1000000 in
theorem e_P_growAlong_14 {l : Launch} {X : ax_X} {S : ax_S} {L : ax_L} {R0 : ax_R} {out : ax_I} (hX : ax_ok X l "LossFreeTools$Picture" b_P_growAlong 3 (ax_rm 1 0 0)) (hF : ax_fin X none 0 0 (ax_of (ax_eq none S out R0 L))) (hS0 : ax_S0 X = S) : ∀ (I : ax_I) (R : ax_R) (u0 : Nat) (x1 : Int32) (x2 : Int32) (y0 : Int32) (y1 : Int32) (w2 : Nat), ax_typ S R → (S u0 = some (.inl 1)) → (S w2 = some (.inl 1)) → R = R0 → d_P_growAlong_14 S  I R u0 x1 x2 y0 y1 w2 = some out → ax_W X 3 14 [some (.ref u0), some (.int (x1)), some (.int (x2))] [.int (y0), .int (y1), .ref w2] S I R L 0 0 := by
  rintro I R u0 x1 x2 y0 y1 w2 hty hs0_ hw2_ hR0 h
  subst hR0
  unfold d_P_growAlong_14 at h
  refine ax_iadd (q := 15) hX dc_P_growAlong_14 rfl ?_
  obtain ⟨I2, e3, h⟩ := ax_bs h
  refine ax_putI (q := 18) hX dc_P_growAlong_15 rfl fl_P_25 rfl hw2_ (fun z => by cases z) rfl rfl e3 ?_
  refine ax_aload_n (q := 19) hX dc_P_growAlong_18 rfl rfl rfl ?_
  refine ax_dup (q := 20) hX dc_P_growAlong_19 rfl rfl ?_
  refine ax_getI (q := 23) hX dc_P_growAlong_20 rfl fl_P_29 rfl hs0_ ?_
  refine ax_iload_n (q := 24) hX dc_P_growAlong_23 rfl rfl rfl ?_
  refine ax_if_eq (tgt := 31) (q := 27) hX dc_P_growAlong_24 rfl (by decide) (fun z4 => ?_) (fun z4 => ?_)
  · rw [if_pos z4] at h
    refine ax_iload_n (q := 32) hX dc_P_growAlong_31 rfl rfl rfl ?_
    exact ax_weak (ls' := [none, none, none]) (ax_fewP_s _ _ (by repeat (first | exact trivial | (refine And.intro rfl ?_)))) (e_P_growAlong_32 hX hF hS0  I2 R (x2) (I2 u0 5) u0 hty hs0_ rfl h)
  · rw [if_neg z4] at h
    refine ax_iconst (v := 0) (q := 28) hX dc_P_growAlong_27 rfl (by decide) ?_
    refine ax_goto (tgt := 32) hX dc_P_growAlong_28 (by decide) ?_
    exact ax_weak (ls' := [none, none, none]) (ax_fewP_s _ _ (by repeat (first | exact trivial | (refine And.intro rfl ?_)))) (e_P_growAlong_32 hX hF hS0  I2 R (0) (I2 u0 5) u0 hty hs0_ rfl h)
def d_P_growAlong (S : ax_S) (I : ax_I) (R : ax_R) (u0 : Nat) (x1 : Int32) (x2 : Int32) : Option (ax_I) :=
  if x1 = 0 then
    d_P_growAlong_14 S  I R u0 (x1) (x2) (0) (I u0 4) u0
  else
    d_P_growAlong_14 S  I R u0 (x1) (x2) (x2) (I u0 4) u0
set_option maxHeartbeats 1000000 in
theorem c_P_growAlong (l : Launch) {S : ax_S} {I : ax_I} {R : ax_R} {L : ax_L} {u0 : Nat} {x1 : Int32} {x2 : Int32} {out : ax_I} (hty : ax_typ S R) (hs0 : S u0 = some (.inl 1)) (h : d_P_growAlong S I R u0 x1 x2 = some out) : ax_Met l y_P_growAlong b_P_growAlong 3 none (ax_rm 1 0 0) [.ref u0, .int x1, .int x2] S I R L (ax_eq none S out R L) := by
  refine ax_enter (own := "LossFreeTools$Picture") (by decide +kernel) rfl (ax_cats rfl) (Nat.le_of_ble_eq_true rfl) (fun X hX hF _ hS0 => ?_)
  show ax_W X 3 0 [some (.ref u0), some (.int (x1)), some (.int (x2))] [] S I R L 0 0
  unfold d_P_growAlong at h
  refine ax_aload_n (q := 1) hX dc_P_growAlong_0 rfl rfl rfl ?_
  refine ax_dup (q := 2) hX dc_P_growAlong_1 rfl rfl ?_
  refine ax_getI (q := 5) hX dc_P_growAlong_2 rfl fl_P_25 rfl hs0 ?_
  refine ax_iload_n (q := 6) hX dc_P_growAlong_5 rfl rfl rfl ?_
  refine ax_if_eq (tgt := 13) (q := 9) hX dc_P_growAlong_6 rfl (by decide) (fun z1 => ?_) (fun z1 => ?_)
  · rw [if_pos z1] at h
    refine ax_iconst (v := 0) (q := 14) hX dc_P_growAlong_13 rfl (by decide) ?_
    exact (e_P_growAlong_14 hX hF hS0  I R u0 (x1) (x2) (0) (I u0 4) u0 hty hs0 hs0 rfl h)
  · rw [if_neg z1] at h
    refine ax_iload_n (q := 10) hX dc_P_growAlong_9 rfl rfl rfl ?_
    refine ax_goto (tgt := 14) hX dc_P_growAlong_10 (by decide) ?_
    exact (e_P_growAlong_14 hX hF hS0  I R u0 (x1) (x2) (x2) (I u0 4) u0 hty hs0 hs0 rfl h)
def d_K_mirrors (S : ax_S) (I : ax_I) (R : ax_R) (x0 : Int32) : Option (Bool) :=
  if x0 < 4 then
    some (false)
  else
    some (true)
set_option maxHeartbeats 1000000 in
theorem c_K_mirrors (l : Launch) {S : ax_S} {I : ax_I} {R : ax_R} {L : ax_L} {x0 : Int32} {out : Bool} (hty : ax_typ S R) (h : d_K_mirrors S I R x0 = some out) : ax_Met l y_K_mirrors b_K_mirrors 1 (some .boolean) (ax_rm 1 0 0) [.int x0] S I R L (ax_eq (some (.int (ax_b out))) S I R L) := by
  refine ax_enter (own := "LossFreeTools") (by decide +kernel) rfl (ax_cats rfl) (Nat.le_of_ble_eq_true rfl) (fun X hX hF _ hS0 => ?_)
  show ax_W X 1 0 [some (.int (x0))] [] S I R L 0 0
  unfold d_K_mirrors at h
  refine ax_iload_n (q := 1) hX dc_K_mirrors_0 rfl rfl rfl ?_
  refine ax_iconst (v := 4) (q := 2) hX dc_K_mirrors_1 rfl (by decide) ?_
  refine ax_icmp_lt (tgt := 9) (q := 5) hX dc_K_mirrors_2 rfl (by decide) (fun z1 => ?_) (fun z1 => ?_)
  · rw [if_pos z1] at h
    refine ax_iconst (v := 0) (q := 10) hX dc_K_mirrors_9 rfl (by decide) ?_
    cases h
    exact ax_iret hX hF dc_K_mirrors_10 rfl rfl (by decide) (by decide) ax_eq.mk (by rw [hS0]; exact fun _ _ z => z)
  · rw [if_neg z1] at h
    refine ax_iconst (v := 1) (q := 6) hX dc_K_mirrors_5 rfl (by decide) ?_
    refine ax_goto (tgt := 10) hX dc_K_mirrors_6 (by decide) ?_
    cases h
    exact ax_iret hX hF dc_K_mirrors_10 rfl rfl (by decide) (by decide) ax_eq.mk (by rw [hS0]; exact fun _ _ z => z)
def d_T_mirrorIn (S : ax_S) (I : ax_I) (R : ax_R) (u0 : Nat) (x1 : Int32) : Option (ax_I) :=
  (some (ax_up I u0 2 ((x1 - (I u0 2)) - (I u0 4)))).bind fun I1 =>
  some (I1)
set_option maxHeartbeats 1000000 in
theorem c_T_mirrorIn (l : Launch) {S : ax_S} {I : ax_I} {R : ax_R} {L : ax_L} {u0 : Nat} {x1 : Int32} {out : ax_I} (hty : ax_typ S R) (hs0 : S u0 = some (.inl 3)) (h : d_T_mirrorIn S I R u0 x1 = some out) : ax_Met l y_T_mirrorIn b_T_mirrorIn 2 none (ax_rm 1 0 0) [.ref u0, .int x1] S I R L (ax_eq none S out R L) := by
  refine ax_enter (own := "LossFreeTools$Tile") (by decide +kernel) rfl (ax_cats rfl) (Nat.le_of_ble_eq_true rfl) (fun X hX hF _ hS0 => ?_)
  show ax_W X 2 0 [some (.ref u0), some (.int (x1))] [] S I R L 0 0
  unfold d_T_mirrorIn at h
  refine ax_aload_n (q := 1) hX dc_T_mirrorIn_0 rfl rfl rfl ?_
  refine ax_iload_n (q := 2) hX dc_T_mirrorIn_1 rfl rfl rfl ?_
  refine ax_aload_n (q := 3) hX dc_T_mirrorIn_2 rfl rfl rfl ?_
  refine ax_getI (q := 6) hX dc_T_mirrorIn_3 rfl fl_T_15 rfl hs0 ?_
  refine ax_isub (q := 7) hX dc_T_mirrorIn_6 rfl ?_
  refine ax_aload_n (q := 8) hX dc_T_mirrorIn_7 rfl rfl rfl ?_
  refine ax_getI (q := 11) hX dc_T_mirrorIn_8 rfl fl_T_22 rfl hs0 ?_
  refine ax_isub (q := 12) hX dc_T_mirrorIn_11 rfl ?_
  obtain ⟨I1, e2, h⟩ := ax_bs h
  refine ax_putI (q := 15) hX dc_T_mirrorIn_12 rfl fl_T_15 rfl hs0 (fun z => by cases z) rfl rfl e2 ?_
  cases h
  exact ax_vret hX hF dc_T_mirrorIn_15 (by decide) (by decide) ax_eq.mk (by rw [hS0]; exact fun _ _ z => z)
def d_K_quarters (S : ax_S) (I : ax_I) (R : ax_R) (x0 : Int32) : Option (Int32) :=
  some (x0 &&& 3)
set_option maxHeartbeats 1000000 in
theorem c_K_quarters (l : Launch) {S : ax_S} {I : ax_I} {R : ax_R} {L : ax_L} {x0 : Int32} {out : Int32} (hty : ax_typ S R) (h : d_K_quarters S I R x0 = some out) : ax_Met l y_K_quarters b_K_quarters 1 (some .int) (ax_rm 1 0 0) [.int x0] S I R L (ax_eq (some (.int out)) S I R L) := by
  refine ax_enter (own := "LossFreeTools") (by decide +kernel) rfl (ax_cats rfl) (Nat.le_of_ble_eq_true rfl) (fun X hX hF _ hS0 => ?_)
  show ax_W X 1 0 [some (.int (x0))] [] S I R L 0 0
  unfold d_K_quarters at h
  refine ax_iload_n (q := 1) hX dc_K_quarters_0 rfl rfl rfl ?_
  refine ax_iconst (v := 3) (q := 2) hX dc_K_quarters_1 rfl (by decide) ?_
  refine ax_iand (q := 3) hX dc_K_quarters_2 rfl ?_
  cases h
  exact ax_iret hX hF dc_K_quarters_3 rfl rfl (by decide) (by decide) ax_eq.mk (by rw [hS0]; exact fun _ _ z => z)
def d_T_quarterIn (S : ax_S) (I : ax_I) (R : ax_R) (u0 : Nat) (x1 : Int32) : Option (ax_I) :=
  (some (ax_up I u0 3 (I u0 2))).bind fun I1 =>
  (some (ax_up I1 u0 2 ((x1 - (I u0 3)) - (I u0 5)))).bind fun I3 =>
  (some (ax_up I3 u0 4 (I3 u0 5))).bind fun I5 =>
  (some (ax_up I5 u0 5 (I3 u0 4))).bind fun I7 =>
  some (I7)
set_option maxHeartbeats 1000000 in
theorem c_T_quarterIn (l : Launch) {S : ax_S} {I : ax_I} {R : ax_R} {L : ax_L} {u0 : Nat} {x1 : Int32} {out : ax_I} (hty : ax_typ S R) (hs0 : S u0 = some (.inl 3)) (h : d_T_quarterIn S I R u0 x1 = some out) : ax_Met l y_T_quarterIn b_T_quarterIn 4 none (ax_rm 1 0 0) [.ref u0, .int x1] S I R L (ax_eq none S out R L) := by
  refine ax_enter (own := "LossFreeTools$Tile") (by decide +kernel) rfl (ax_cats rfl) (Nat.le_of_ble_eq_true rfl) (fun X hX hF _ hS0 => ?_)
  show ax_W X 4 0 [some (.ref u0), some (.int (x1)), none, none] [] S I R L 0 0
  unfold d_T_quarterIn at h
  refine ax_iload_n (q := 1) hX dc_T_quarterIn_0 rfl rfl rfl ?_
  refine ax_aload_n (q := 2) hX dc_T_quarterIn_1 rfl rfl rfl ?_
  refine ax_getI (q := 5) hX dc_T_quarterIn_2 rfl fl_T_19 rfl hs0 ?_
  refine ax_isub (q := 6) hX dc_T_quarterIn_5 rfl ?_
  refine ax_aload_n (q := 7) hX dc_T_quarterIn_6 rfl rfl rfl ?_
  refine ax_getI (q := 10) hX dc_T_quarterIn_7 rfl fl_T_25 rfl hs0 ?_
  refine ax_isub (q := 11) hX dc_T_quarterIn_10 rfl ?_
  refine ax_istore_n (ls' := [some (.ref u0), some (.int (x1)), some (.int ((x1 - (I u0 3)) - (I u0 5))), none]) (q := 12) hX dc_T_quarterIn_11 rfl rfl (by decide) rfl ?_
  refine ax_aload_n (q := 13) hX dc_T_quarterIn_12 rfl rfl rfl ?_
  refine ax_aload_n (q := 14) hX dc_T_quarterIn_13 rfl rfl rfl ?_
  refine ax_getI (q := 17) hX dc_T_quarterIn_14 rfl fl_T_15 rfl hs0 ?_
  obtain ⟨I1, e2, h⟩ := ax_bs h
  refine ax_putI (q := 20) hX dc_T_quarterIn_17 rfl fl_T_19 rfl hs0 (fun z => by cases z) rfl rfl e2 ?_
  refine ax_aload_n (q := 21) hX dc_T_quarterIn_20 rfl rfl rfl ?_
  refine ax_iload_n (q := 22) hX dc_T_quarterIn_21 rfl rfl rfl ?_
  obtain ⟨I3, e4, h⟩ := ax_bs h
  refine ax_putI (q := 25) hX dc_T_quarterIn_22 rfl fl_T_15 rfl hs0 (fun z => by cases z) rfl rfl e4 ?_
  refine ax_aload_n (q := 26) hX dc_T_quarterIn_25 rfl rfl rfl ?_
  refine ax_getI (q := 29) hX dc_T_quarterIn_26 rfl fl_T_22 rfl hs0 ?_
  refine ax_istore_n (ls' := [some (.ref u0), some (.int (x1)), some (.int ((x1 - (I u0 3)) - (I u0 5))), some (.int (I3 u0 4))]) (q := 30) hX dc_T_quarterIn_29 rfl rfl (by decide) rfl ?_
  refine ax_aload_n (q := 31) hX dc_T_quarterIn_30 rfl rfl rfl ?_
  refine ax_aload_n (q := 32) hX dc_T_quarterIn_31 rfl rfl rfl ?_
  refine ax_getI (q := 35) hX dc_T_quarterIn_32 rfl fl_T_25 rfl hs0 ?_
  obtain ⟨I5, e6, h⟩ := ax_bs h
  refine ax_putI (q := 38) hX dc_T_quarterIn_35 rfl fl_T_22 rfl hs0 (fun z => by cases z) rfl rfl e6 ?_
  refine ax_aload_n (q := 39) hX dc_T_quarterIn_38 rfl rfl rfl ?_
  refine ax_iload_n (q := 40) hX dc_T_quarterIn_39 rfl rfl rfl ?_
  obtain ⟨I7, e8, h⟩ := ax_bs h
  refine ax_putI (q := 43) hX dc_T_quarterIn_40 rfl fl_T_25 rfl hs0 (fun z => by cases z) rfl rfl e8 ?_
  cases h
  exact ax_vret hX hF dc_T_quarterIn_43 (by decide) (by decide) ax_eq.mk (by rw [hS0]; exact fun _ _ z => z)
def d_P_takeOver_140 (S : ax_S) (I : ax_I) (R : ax_R) (u1 : Nat) : Option (ax_I × ax_R) :=
  (some (ax_up I u1 2 (0))).bind fun I85 =>
  (some (ax_up I85 u1 3 (0))).bind fun I87 =>
  some (I87, R)
set_option maxHeartbeats 1000000 in
theorem e_P_takeOver_140 {l : Launch} {X : ax_X} {S : ax_S} {L : ax_L} {out : ax_I × ax_R} (hX : ax_ok X l "LossFreeTools$Picture" b_P_takeOver 4 (ax_rm 1 0 0)) (hF : ax_fin X none 0 0 (ax_of (ax_eq none S out.1 out.2 L))) (hS0 : ax_S0 X = S) : ∀ (I : ax_I) (R : ax_R) (u1 : Nat), ax_typ S R → (S u1 = some (.inl 1)) → d_P_takeOver_140 S  I R u1 = some out → ax_W X 4 140 [none, some (.ref u1), none, none] [] S I R L 0 0 := by
  rintro I R u1 hty hs1_ h
  unfold d_P_takeOver_140 at h
  refine ax_aload_n (q := 141) hX dc_P_takeOver_140 rfl rfl rfl ?_
  refine ax_iconst (v := 0) (q := 142) hX dc_P_takeOver_141 rfl (by decide) ?_
  obtain ⟨I85, e86, h⟩ := ax_bs h
  refine ax_putI (q := 145) hX dc_P_takeOver_142 rfl fl_P_32 rfl hs1_ (fun z => by cases z) rfl rfl e86 ?_
  refine ax_aload_n (q := 146) hX dc_P_takeOver_145 rfl rfl rfl ?_
  refine ax_iconst (v := 0) (q := 147) hX dc_P_takeOver_146 rfl (by decide) ?_
  obtain ⟨I87, e88, h⟩ := ax_bs h
  refine ax_putI (q := 150) hX dc_P_takeOver_147 rfl fl_P_35 rfl hs1_ (fun z => by cases z) rfl rfl e88 ?_
  cases h
  exact ax_vret hX hF dc_P_takeOver_150 (by decide) (by decide) ax_eq.mk (by rw [hS0]; exact fun _ _ z => z)
def d_P_takeOver_72 (S : ax_S) : Nat → ax_I → ax_R → Nat → Nat → Int32 → Option (ax_I × ax_R)
  | 0, _, _, _, _, _ => none
  | n + 1, I, R, u0, u1, x2 =>
    if (I u1 3) ≤ x2 then
      d_P_takeOver_140 S  I R u1
    else
      (R u0 1).bind fun u44 =>
      if (nI (ax_len S u44)) ≤ (I u0 3) then
        d_P_takeOver_140 S  I R u1
      else
        (R u0 1).bind fun u49 =>
        (ax_ix S u49 (I u0 3)).bind fun j53 =>
        (R u49 j53).bind fun u55 =>
        (R u0 1).bind fun u58 =>
        (R u1 1).bind fun u62 =>
        (ax_ix S u62 (x2)).bind fun j66 =>
        (R u62 j66).bind fun u68 =>
        (ax_ix S u58 (I u0 3)).bind fun j71 =>
        (some (ax_up R u58 j71 (some u68))).bind fun R73 =>
        (R73 u1 1).bind fun u75 =>
        (ax_ix S u75 (x2)).bind fun j79 =>
        (some (ax_up R73 u75 j79 (some u55))).bind fun R81 =>
        (some (ax_up I u0 3 ((I u0 3) + 1))).bind fun I83 =>
        d_P_takeOver_72 S  n I83 R81 u0 u1 (x2 + 1)
set_option maxHeartbeats 1000000 in
theorem e_P_takeOver_72 {l : Launch} {X : ax_X} {S : ax_S} {L : ax_L} {out : ax_I × ax_R} (hX : ax_ok X l "LossFreeTools$Picture" b_P_takeOver 4 (ax_rm 1 0 0)) (hF : ax_fin X none 0 0 (ax_of (ax_eq none S out.1 out.2 L))) (hS0 : ax_S0 X = S) : ∀ (n : Nat), ∀ (I : ax_I) (R : ax_R) (u0 : Nat) (u1 : Nat) (x2 : Int32), ax_typ S R → (S u0 = some (.inl 1)) → (S u1 = some (.inl 1)) → d_P_takeOver_72 S  n I R u0 u1 x2 = some out → ax_W X 4 72 [some (.ref u0), some (.ref u1), some (.int (x2)), none] [] S I R L 0 0 := by
  intro n
  induction n with
  | zero =>
    rintro I R u0 u1 x2 hty hs0_ hs1_ h
    cases h
  | succ n ih =>
    rintro I R u0 u1 x2 hty hs0_ hs1_ h
    unfold d_P_takeOver_72 at h
    refine ax_iload_n (q := 73) hX dc_P_takeOver_72 rfl rfl rfl ?_
    refine ax_aload_n (q := 74) hX dc_P_takeOver_73 rfl rfl rfl ?_
    refine ax_getI (q := 77) hX dc_P_takeOver_74 rfl fl_P_35 rfl hs1_ ?_
    refine ax_icmp_ge (tgt := 140) (q := 80) hX dc_P_takeOver_77 rfl (by decide) (fun z43 => ?_) (fun z43 => ?_)
    · rw [if_pos z43] at h
      exact ax_weak (ls' := [none, some (.ref u1), none, none]) (ax_fewP_s _ _ (by repeat (first | exact trivial | (refine And.intro rfl ?_)))) (e_P_takeOver_140 hX hF hS0  I R u1 hty hs1_ h)
    · rw [if_neg z43] at h
      refine ax_aload_n (q := 81) hX dc_P_takeOver_80 rfl rfl rfl ?_
      refine ax_getI (q := 84) hX dc_P_takeOver_81 rfl fl_P_35 rfl hs0_ ?_
      refine ax_aload_n (q := 85) hX dc_P_takeOver_84 rfl rfl rfl ?_
      obtain ⟨u44, hu45, h⟩ := ax_bd h
      obtain ⟨n47, hs46⟩ : ∃ n, S u44 = some (.inr (3, n)) := hty.1 _ _ _ _ hs0_ hu45
      refine ax_getR (q := 88) hX dc_P_takeOver_85 rfl fl_P_20 rfl hs0_ hu45 ?_
      refine ax_alen (q := 89) hX dc_P_takeOver_88 rfl hs46 ?_
      rw [← ax_len_s hs46]
      refine ax_icmp_ge (tgt := 140) (q := 92) hX dc_P_takeOver_89 rfl (by decide) (fun z48 => ?_) (fun z48 => ?_)
      · rw [if_pos z48] at h
        exact ax_weak (ls' := [none, some (.ref u1), none, none]) (ax_fewP_s _ _ (by repeat (first | exact trivial | (refine And.intro rfl ?_)))) (e_P_takeOver_140 hX hF hS0  I R u1 hty hs1_ h)
      · rw [if_neg z48] at h
        refine ax_aload_n (q := 93) hX dc_P_takeOver_92 rfl rfl rfl ?_
        obtain ⟨u49, hu50, h⟩ := ax_bd h
        obtain ⟨n52, hs51⟩ : ∃ n, S u49 = some (.inr (3, n)) := hty.1 _ _ _ _ hs0_ hu50
        refine ax_getR (q := 96) hX dc_P_takeOver_93 rfl fl_P_20 rfl hs0_ hu50 ?_
        refine ax_aload_n (q := 97) hX dc_P_takeOver_96 rfl rfl rfl ?_
        refine ax_getI (q := 100) hX dc_P_takeOver_97 rfl fl_P_35 rfl hs0_ ?_
        obtain ⟨j53, hj54, h⟩ := ax_bd h
        have hj54 := ax_ix_s hty hs51 hj54
        obtain ⟨u55, hu56, h⟩ := ax_bd h
        have hs57 : S u55 = some (.inl 0) := hty.2.2.1 _ _ _ _ hs51 hu56
        refine ax_aald (q := 101) hX j53 dc_P_takeOver_100 rfl hs51 rfl rfl hj54.1 hj54.2.1 hj54.2.2 hu56 ?_
        refine ax_astore_n (ls' := [some (.ref u0), some (.ref u1), some (.int (x2)), some (.ref u55)]) (q := 102) hX dc_P_takeOver_101 rfl rfl (by decide) rfl ?_
        refine ax_aload_n (q := 103) hX dc_P_takeOver_102 rfl rfl rfl ?_
        obtain ⟨u58, hu59, h⟩ := ax_bd h
        obtain ⟨n61, hs60⟩ : ∃ n, S u58 = some (.inr (3, n)) := hty.1 _ _ _ _ hs0_ hu59
        refine ax_getR (q := 106) hX dc_P_takeOver_103 rfl fl_P_20 rfl hs0_ hu59 ?_
        refine ax_aload_n (q := 107) hX dc_P_takeOver_106 rfl rfl rfl ?_
        refine ax_getI (q := 110) hX dc_P_takeOver_107 rfl fl_P_35 rfl hs0_ ?_
        refine ax_aload_n (q := 111) hX dc_P_takeOver_110 rfl rfl rfl ?_
        obtain ⟨u62, hu63, h⟩ := ax_bd h
        obtain ⟨n65, hs64⟩ : ∃ n, S u62 = some (.inr (3, n)) := hty.1 _ _ _ _ hs1_ hu63
        refine ax_getR (q := 114) hX dc_P_takeOver_111 rfl fl_P_20 rfl hs1_ hu63 ?_
        refine ax_iload_n (q := 115) hX dc_P_takeOver_114 rfl rfl rfl ?_
        obtain ⟨j66, hj67, h⟩ := ax_bd h
        have hj67 := ax_ix_s hty hs64 hj67
        obtain ⟨u68, hu69, h⟩ := ax_bd h
        have hs70 : S u68 = some (.inl 0) := hty.2.2.1 _ _ _ _ hs64 hu69
        refine ax_aald (q := 116) hX j66 dc_P_takeOver_115 rfl hs64 rfl rfl hj67.1 hj67.2.1 hj67.2.2 hu69 ?_
        obtain ⟨j71, hj72, h⟩ := ax_bd h
        have hj72 := ax_ix_s hty hs60 hj72
        obtain ⟨R73, e74, h⟩ := ax_bs h
        have hty : ax_typ S R73 := e74 ▸ ax_typ_a3 hty hs60 hs70
        refine ax_aast (q := 117) hX j71 dc_P_takeOver_116 rfl hs60 rfl hs70 rfl rfl hj72.1 hj72.2.1 hj72.2.2 e74 ?_
        refine ax_aload_n (q := 118) hX dc_P_takeOver_117 rfl rfl rfl ?_
        obtain ⟨u75, hu76, h⟩ := ax_bd h
        obtain ⟨n78, hs77⟩ : ∃ n, S u75 = some (.inr (3, n)) := hty.1 _ _ _ _ hs1_ hu76
        refine ax_getR (q := 121) hX dc_P_takeOver_118 rfl fl_P_20 rfl hs1_ hu76 ?_
        refine ax_iload_n (q := 122) hX dc_P_takeOver_121 rfl rfl rfl ?_
        refine ax_aload_n (q := 123) hX dc_P_takeOver_122 rfl rfl rfl ?_
        obtain ⟨j79, hj80, h⟩ := ax_bd h
        have hj80 := ax_ix_s hty hs77 hj80
        obtain ⟨R81, e82, h⟩ := ax_bs h
        have hty : ax_typ S R81 := e82 ▸ ax_typ_a3 hty hs77 hs57
        refine ax_aast (q := 124) hX j79 dc_P_takeOver_123 rfl hs77 rfl hs57 rfl rfl hj80.1 hj80.2.1 hj80.2.2 e82 ?_
        refine ax_aload_n (q := 125) hX dc_P_takeOver_124 rfl rfl rfl ?_
        refine ax_dup (q := 126) hX dc_P_takeOver_125 rfl rfl ?_
        refine ax_getI (q := 129) hX dc_P_takeOver_126 rfl fl_P_35 rfl hs0_ ?_
        refine ax_iconst (v := 1) (q := 130) hX dc_P_takeOver_129 rfl (by decide) ?_
        refine ax_iadd (q := 131) hX dc_P_takeOver_130 rfl ?_
        obtain ⟨I83, e84, h⟩ := ax_bs h
        refine ax_putI (q := 134) hX dc_P_takeOver_131 rfl fl_P_35 rfl hs0_ (fun z => by cases z) rfl rfl e84 ?_
        refine ax_iinc (v := x2 + 1) (ls' := [some (.ref u0), some (.ref u1), some (.int (x2 + 1)), some (.ref u55)]) (q := 137) hX dc_P_takeOver_134 rfl rfl rfl (by decide) rfl ?_
        refine ax_goto (tgt := 72) hX dc_P_takeOver_137 (by decide) ?_
        exact ax_weak (ls' := [some (.ref u0), some (.ref u1), some (.int (x2 + 1)), none]) (ax_fewP_s _ _ (by repeat (first | exact trivial | (refine And.intro rfl ?_)))) (ih I83 R81 u0 u1 (x2 + 1) hty hs0_ hs1_ h)
def d_P_takeOver_70 (S : ax_S) (I : ax_I) (R : ax_R) (u0 : Nat) (u1 : Nat) : Option (ax_I × ax_R) :=
  d_P_takeOver_72 S  5000 I R u0 u1 (0)
set_option maxHeartbeats 1000000 in
theorem e_P_takeOver_70 {l : Launch} {X : ax_X} {S : ax_S} {L : ax_L} {out : ax_I × ax_R} (hX : ax_ok X l "LossFreeTools$Picture" b_P_takeOver 4 (ax_rm 1 0 0)) (hF : ax_fin X none 0 0 (ax_of (ax_eq none S out.1 out.2 L))) (hS0 : ax_S0 X = S) : ∀ (I : ax_I) (R : ax_R) (u0 : Nat) (u1 : Nat), ax_typ S R → (S u0 = some (.inl 1)) → (S u1 = some (.inl 1)) → d_P_takeOver_70 S  I R u0 u1 = some out → ax_W X 4 70 [some (.ref u0), some (.ref u1), none, none] [] S I R L 0 0 := by
  rintro I R u0 u1 hty hs0_ hs1_ h
  unfold d_P_takeOver_70 at h
  refine ax_iconst (v := 0) (q := 71) hX dc_P_takeOver_70 rfl (by decide) ?_
  refine ax_istore_n (ls' := [some (.ref u0), some (.ref u1), some (.int (0)), none]) (q := 72) hX dc_P_takeOver_71 rfl rfl (by decide) rfl ?_
  exact (e_P_takeOver_72 hX hF hS0  5000 I R u0 u1 (0) hty hs0_ hs1_ h)
def d_P_takeOver_2 (S : ax_S) : Nat → ax_I → ax_R → Nat → Nat → Int32 → Option (ax_I × ax_R)
  | 0, _, _, _, _, _ => none
  | n + 1, I, R, u0, u1, x2 =>
    if (I u1 2) ≤ x2 then
      d_P_takeOver_70 S  I R u0 u1
    else
      (R u0 0).bind fun u2 =>
      if (nI (ax_len S u2)) ≤ (I u0 2) then
        d_P_takeOver_70 S  I R u0 u1
      else
        (R u0 0).bind fun u7 =>
        (ax_ix S u7 (I u0 2)).bind fun j11 =>
        (R u7 j11).bind fun u13 =>
        (R u0 0).bind fun u16 =>
        (R u1 0).bind fun u20 =>
        (ax_ix S u20 (x2)).bind fun j24 =>
        (R u20 j24).bind fun u26 =>
        (ax_ix S u16 (I u0 2)).bind fun j29 =>
        (some (ax_up R u16 j29 (some u26))).bind fun R31 =>
        (R31 u1 0).bind fun u33 =>
        (ax_ix S u33 (x2)).bind fun j37 =>
        (some (ax_up R31 u33 j37 (some u13))).bind fun R39 =>
        (some (ax_up I u0 2 ((I u0 2) + 1))).bind fun I41 =>
        d_P_takeOver_2 S  n I41 R39 u0 u1 (x2 + 1)
set_option maxHeartbeats 1000000 in
theorem e_P_takeOver_2 {l : Launch} {X : ax_X} {S : ax_S} {L : ax_L} {out : ax_I × ax_R} (hX : ax_ok X l "LossFreeTools$Picture" b_P_takeOver 4 (ax_rm 1 0 0)) (hF : ax_fin X none 0 0 (ax_of (ax_eq none S out.1 out.2 L))) (hS0 : ax_S0 X = S) : ∀ (n : Nat), ∀ (I : ax_I) (R : ax_R) (u0 : Nat) (u1 : Nat) (x2 : Int32), ax_typ S R → (S u0 = some (.inl 1)) → (S u1 = some (.inl 1)) → d_P_takeOver_2 S  n I R u0 u1 x2 = some out → ax_W X 4 2 [some (.ref u0), some (.ref u1), some (.int (x2)), none] [] S I R L 0 0 := by
  intro n
  induction n with
  | zero =>
    rintro I R u0 u1 x2 hty hs0_ hs1_ h
    cases h
  | succ n ih =>
    rintro I R u0 u1 x2 hty hs0_ hs1_ h
    unfold d_P_takeOver_2 at h
    refine ax_iload_n (q := 3) hX dc_P_takeOver_2 rfl rfl rfl ?_
    refine ax_aload_n (q := 4) hX dc_P_takeOver_3 rfl rfl rfl ?_
    refine ax_getI (q := 7) hX dc_P_takeOver_4 rfl fl_P_32 rfl hs1_ ?_
    refine ax_icmp_ge (tgt := 70) (q := 10) hX dc_P_takeOver_7 rfl (by decide) (fun z1 => ?_) (fun z1 => ?_)
    · rw [if_pos z1] at h
      exact ax_weak (ls' := [some (.ref u0), some (.ref u1), none, none]) (ax_fewP_s _ _ (by repeat (first | exact trivial | (refine And.intro rfl ?_)))) (e_P_takeOver_70 hX hF hS0  I R u0 u1 hty hs0_ hs1_ h)
    · rw [if_neg z1] at h
      refine ax_aload_n (q := 11) hX dc_P_takeOver_10 rfl rfl rfl ?_
      refine ax_getI (q := 14) hX dc_P_takeOver_11 rfl fl_P_32 rfl hs0_ ?_
      refine ax_aload_n (q := 15) hX dc_P_takeOver_14 rfl rfl rfl ?_
      obtain ⟨u2, hu3, h⟩ := ax_bd h
      obtain ⟨n5, hs4⟩ : ∃ n, S u2 = some (.inr (2, n)) := hty.1 _ _ _ _ hs0_ hu3
      refine ax_getR (q := 18) hX dc_P_takeOver_15 rfl fl_P_11 rfl hs0_ hu3 ?_
      refine ax_alen (q := 19) hX dc_P_takeOver_18 rfl hs4 ?_
      rw [← ax_len_s hs4]
      refine ax_icmp_ge (tgt := 70) (q := 22) hX dc_P_takeOver_19 rfl (by decide) (fun z6 => ?_) (fun z6 => ?_)
      · rw [if_pos z6] at h
        exact ax_weak (ls' := [some (.ref u0), some (.ref u1), none, none]) (ax_fewP_s _ _ (by repeat (first | exact trivial | (refine And.intro rfl ?_)))) (e_P_takeOver_70 hX hF hS0  I R u0 u1 hty hs0_ hs1_ h)
      · rw [if_neg z6] at h
        refine ax_aload_n (q := 23) hX dc_P_takeOver_22 rfl rfl rfl ?_
        obtain ⟨u7, hu8, h⟩ := ax_bd h
        obtain ⟨n10, hs9⟩ : ∃ n, S u7 = some (.inr (2, n)) := hty.1 _ _ _ _ hs0_ hu8
        refine ax_getR (q := 26) hX dc_P_takeOver_23 rfl fl_P_11 rfl hs0_ hu8 ?_
        refine ax_aload_n (q := 27) hX dc_P_takeOver_26 rfl rfl rfl ?_
        refine ax_getI (q := 30) hX dc_P_takeOver_27 rfl fl_P_32 rfl hs0_ ?_
        obtain ⟨j11, hj12, h⟩ := ax_bd h
        have hj12 := ax_ix_s hty hs9 hj12
        obtain ⟨u13, hu14, h⟩ := ax_bd h
        have hs15 : S u13 = some (.inl 3) := hty.2.1 _ _ _ _ hs9 hu14
        refine ax_aald (q := 31) hX j11 dc_P_takeOver_30 rfl hs9 rfl rfl hj12.1 hj12.2.1 hj12.2.2 hu14 ?_
        refine ax_astore_n (ls' := [some (.ref u0), some (.ref u1), some (.int (x2)), some (.ref u13)]) (q := 32) hX dc_P_takeOver_31 rfl rfl (by decide) rfl ?_
        refine ax_aload_n (q := 33) hX dc_P_takeOver_32 rfl rfl rfl ?_
        obtain ⟨u16, hu17, h⟩ := ax_bd h
        obtain ⟨n19, hs18⟩ : ∃ n, S u16 = some (.inr (2, n)) := hty.1 _ _ _ _ hs0_ hu17
        refine ax_getR (q := 36) hX dc_P_takeOver_33 rfl fl_P_11 rfl hs0_ hu17 ?_
        refine ax_aload_n (q := 37) hX dc_P_takeOver_36 rfl rfl rfl ?_
        refine ax_getI (q := 40) hX dc_P_takeOver_37 rfl fl_P_32 rfl hs0_ ?_
        refine ax_aload_n (q := 41) hX dc_P_takeOver_40 rfl rfl rfl ?_
        obtain ⟨u20, hu21, h⟩ := ax_bd h
        obtain ⟨n23, hs22⟩ : ∃ n, S u20 = some (.inr (2, n)) := hty.1 _ _ _ _ hs1_ hu21
        refine ax_getR (q := 44) hX dc_P_takeOver_41 rfl fl_P_11 rfl hs1_ hu21 ?_
        refine ax_iload_n (q := 45) hX dc_P_takeOver_44 rfl rfl rfl ?_
        obtain ⟨j24, hj25, h⟩ := ax_bd h
        have hj25 := ax_ix_s hty hs22 hj25
        obtain ⟨u26, hu27, h⟩ := ax_bd h
        have hs28 : S u26 = some (.inl 3) := hty.2.1 _ _ _ _ hs22 hu27
        refine ax_aald (q := 46) hX j24 dc_P_takeOver_45 rfl hs22 rfl rfl hj25.1 hj25.2.1 hj25.2.2 hu27 ?_
        obtain ⟨j29, hj30, h⟩ := ax_bd h
        have hj30 := ax_ix_s hty hs18 hj30
        obtain ⟨R31, e32, h⟩ := ax_bs h
        have hty : ax_typ S R31 := e32 ▸ ax_typ_a2 hty hs18 hs28
        refine ax_aast (q := 47) hX j29 dc_P_takeOver_46 rfl hs18 rfl hs28 rfl rfl hj30.1 hj30.2.1 hj30.2.2 e32 ?_
        refine ax_aload_n (q := 48) hX dc_P_takeOver_47 rfl rfl rfl ?_
        obtain ⟨u33, hu34, h⟩ := ax_bd h
        obtain ⟨n36, hs35⟩ : ∃ n, S u33 = some (.inr (2, n)) := hty.1 _ _ _ _ hs1_ hu34
        refine ax_getR (q := 51) hX dc_P_takeOver_48 rfl fl_P_11 rfl hs1_ hu34 ?_
        refine ax_iload_n (q := 52) hX dc_P_takeOver_51 rfl rfl rfl ?_
        refine ax_aload_n (q := 53) hX dc_P_takeOver_52 rfl rfl rfl ?_
        obtain ⟨j37, hj38, h⟩ := ax_bd h
        have hj38 := ax_ix_s hty hs35 hj38
        obtain ⟨R39, e40, h⟩ := ax_bs h
        have hty : ax_typ S R39 := e40 ▸ ax_typ_a2 hty hs35 hs15
        refine ax_aast (q := 54) hX j37 dc_P_takeOver_53 rfl hs35 rfl hs15 rfl rfl hj38.1 hj38.2.1 hj38.2.2 e40 ?_
        refine ax_aload_n (q := 55) hX dc_P_takeOver_54 rfl rfl rfl ?_
        refine ax_dup (q := 56) hX dc_P_takeOver_55 rfl rfl ?_
        refine ax_getI (q := 59) hX dc_P_takeOver_56 rfl fl_P_32 rfl hs0_ ?_
        refine ax_iconst (v := 1) (q := 60) hX dc_P_takeOver_59 rfl (by decide) ?_
        refine ax_iadd (q := 61) hX dc_P_takeOver_60 rfl ?_
        obtain ⟨I41, e42, h⟩ := ax_bs h
        refine ax_putI (q := 64) hX dc_P_takeOver_61 rfl fl_P_32 rfl hs0_ (fun z => by cases z) rfl rfl e42 ?_
        refine ax_iinc (v := x2 + 1) (ls' := [some (.ref u0), some (.ref u1), some (.int (x2 + 1)), some (.ref u13)]) (q := 67) hX dc_P_takeOver_64 rfl rfl rfl (by decide) rfl ?_
        refine ax_goto (tgt := 2) hX dc_P_takeOver_67 (by decide) ?_
        exact ax_weak (ls' := [some (.ref u0), some (.ref u1), some (.int (x2 + 1)), none]) (ax_fewP_s _ _ (by repeat (first | exact trivial | (refine And.intro rfl ?_)))) (ih I41 R39 u0 u1 (x2 + 1) hty hs0_ hs1_ h)
def d_P_takeOver (S : ax_S) (I : ax_I) (R : ax_R) (u0 : Nat) (u1 : Nat) : Option (ax_I × ax_R) :=
  d_P_takeOver_2 S  5000 I R u0 u1 (0)
set_option maxHeartbeats 1000000 in
theorem c_P_takeOver (l : Launch) {S : ax_S} {I : ax_I} {R : ax_R} {L : ax_L} {u0 : Nat} {u1 : Nat} {out : ax_I × ax_R} (hty : ax_typ S R) (hs0 : S u0 = some (.inl 1)) (hs1 : S u1 = some (.inl 1)) (h : d_P_takeOver S I R u0 u1 = some out) : ax_Met l y_P_takeOver b_P_takeOver 4 none (ax_rm 1 0 0) [.ref u0, .ref u1] S I R L (ax_eq none S out.1 out.2 L) := by
  refine ax_enter (own := "LossFreeTools$Picture") (by decide +kernel) rfl (ax_cats rfl) (Nat.le_of_ble_eq_true rfl) (fun X hX hF _ hS0 => ?_)
  show ax_W X 4 0 [some (.ref u0), some (.ref u1), none, none] [] S I R L 0 0
  unfold d_P_takeOver at h
  refine ax_iconst (v := 0) (q := 1) hX dc_P_takeOver_0 rfl (by decide) ?_
  refine ax_istore_n (ls' := [some (.ref u0), some (.ref u1), some (.int (0)), none]) (q := 2) hX dc_P_takeOver_1 rfl rfl (by decide) rfl ?_
  exact (e_P_takeOver_2 hX hF hS0  5000 I R u0 u1 (0) hty hs0 hs1 h)
theorem te_P_takeOver_140 {S : ax_S} {out : ax_I × ax_R} : ∀ (I : ax_I) (R : ax_R) (u1 : Nat), ax_typ S R → (S u1 = some (.inl 1)) → d_P_takeOver_140 S  I R u1 = some out → ax_typ S out.2 := by
  rintro I R u1 hty hs1_ h
  unfold d_P_takeOver_140 at h
  obtain ⟨I85, e86, h⟩ := ax_bs h
  obtain ⟨I87, e88, h⟩ := ax_bs h
  cases h
  exact hty
theorem te_P_takeOver_72 {S : ax_S} {out : ax_I × ax_R} : ∀ (n : Nat), ∀ (I : ax_I) (R : ax_R) (u0 : Nat) (u1 : Nat) (x2 : Int32), ax_typ S R → (S u0 = some (.inl 1)) → (S u1 = some (.inl 1)) → d_P_takeOver_72 S  n I R u0 u1 x2 = some out → ax_typ S out.2 := by
  intro n
  induction n with
  | zero =>
    rintro I R u0 u1 x2 hty hs0_ hs1_ h
    cases h
  | succ n ih =>
    rintro I R u0 u1 x2 hty hs0_ hs1_ h
    unfold d_P_takeOver_72 at h
    by_cases z43 : (I u1 3) ≤ x2
    · rw [if_pos z43] at h
      exact te_P_takeOver_140   I R u1 hty hs1_ h
    · rw [if_neg z43] at h
      obtain ⟨u44, hu45, h⟩ := ax_bd h
      obtain ⟨n47, hs46⟩ : ∃ n, S u44 = some (.inr (3, n)) := hty.1 _ _ _ _ hs0_ hu45
      by_cases z48 : (nI (ax_len S u44)) ≤ (I u0 3)
      · rw [if_pos z48] at h
        exact te_P_takeOver_140   I R u1 hty hs1_ h
      · rw [if_neg z48] at h
        obtain ⟨u49, hu50, h⟩ := ax_bd h
        obtain ⟨n52, hs51⟩ : ∃ n, S u49 = some (.inr (3, n)) := hty.1 _ _ _ _ hs0_ hu50
        obtain ⟨j53, hj54, h⟩ := ax_bd h
        have hj54 := ax_ix_s hty hs51 hj54
        obtain ⟨u55, hu56, h⟩ := ax_bd h
        have hs57 : S u55 = some (.inl 0) := hty.2.2.1 _ _ _ _ hs51 hu56
        obtain ⟨u58, hu59, h⟩ := ax_bd h
        obtain ⟨n61, hs60⟩ : ∃ n, S u58 = some (.inr (3, n)) := hty.1 _ _ _ _ hs0_ hu59
        obtain ⟨u62, hu63, h⟩ := ax_bd h
        obtain ⟨n65, hs64⟩ : ∃ n, S u62 = some (.inr (3, n)) := hty.1 _ _ _ _ hs1_ hu63
        obtain ⟨j66, hj67, h⟩ := ax_bd h
        have hj67 := ax_ix_s hty hs64 hj67
        obtain ⟨u68, hu69, h⟩ := ax_bd h
        have hs70 : S u68 = some (.inl 0) := hty.2.2.1 _ _ _ _ hs64 hu69
        obtain ⟨j71, hj72, h⟩ := ax_bd h
        have hj72 := ax_ix_s hty hs60 hj72
        obtain ⟨R73, e74, h⟩ := ax_bs h
        have hty : ax_typ S R73 := e74 ▸ ax_typ_a3 hty hs60 hs70
        obtain ⟨u75, hu76, h⟩ := ax_bd h
        obtain ⟨n78, hs77⟩ : ∃ n, S u75 = some (.inr (3, n)) := hty.1 _ _ _ _ hs1_ hu76
        obtain ⟨j79, hj80, h⟩ := ax_bd h
        have hj80 := ax_ix_s hty hs77 hj80
        obtain ⟨R81, e82, h⟩ := ax_bs h
        have hty : ax_typ S R81 := e82 ▸ ax_typ_a3 hty hs77 hs57
        obtain ⟨I83, e84, h⟩ := ax_bs h
        exact ih I83 R81 u0 u1 (x2 + 1) hty hs0_ hs1_ h
theorem te_P_takeOver_70 {S : ax_S} {out : ax_I × ax_R} : ∀ (I : ax_I) (R : ax_R) (u0 : Nat) (u1 : Nat), ax_typ S R → (S u0 = some (.inl 1)) → (S u1 = some (.inl 1)) → d_P_takeOver_70 S  I R u0 u1 = some out → ax_typ S out.2 := by
  rintro I R u0 u1 hty hs0_ hs1_ h
  unfold d_P_takeOver_70 at h
  exact te_P_takeOver_72   5000 I R u0 u1 (0) hty hs0_ hs1_ h
theorem te_P_takeOver_2 {S : ax_S} {out : ax_I × ax_R} : ∀ (n : Nat), ∀ (I : ax_I) (R : ax_R) (u0 : Nat) (u1 : Nat) (x2 : Int32), ax_typ S R → (S u0 = some (.inl 1)) → (S u1 = some (.inl 1)) → d_P_takeOver_2 S  n I R u0 u1 x2 = some out → ax_typ S out.2 := by
  intro n
  induction n with
  | zero =>
    rintro I R u0 u1 x2 hty hs0_ hs1_ h
    cases h
  | succ n ih =>
    rintro I R u0 u1 x2 hty hs0_ hs1_ h
    unfold d_P_takeOver_2 at h
    by_cases z1 : (I u1 2) ≤ x2
    · rw [if_pos z1] at h
      exact te_P_takeOver_70   I R u0 u1 hty hs0_ hs1_ h
    · rw [if_neg z1] at h
      obtain ⟨u2, hu3, h⟩ := ax_bd h
      obtain ⟨n5, hs4⟩ : ∃ n, S u2 = some (.inr (2, n)) := hty.1 _ _ _ _ hs0_ hu3
      by_cases z6 : (nI (ax_len S u2)) ≤ (I u0 2)
      · rw [if_pos z6] at h
        exact te_P_takeOver_70   I R u0 u1 hty hs0_ hs1_ h
      · rw [if_neg z6] at h
        obtain ⟨u7, hu8, h⟩ := ax_bd h
        obtain ⟨n10, hs9⟩ : ∃ n, S u7 = some (.inr (2, n)) := hty.1 _ _ _ _ hs0_ hu8
        obtain ⟨j11, hj12, h⟩ := ax_bd h
        have hj12 := ax_ix_s hty hs9 hj12
        obtain ⟨u13, hu14, h⟩ := ax_bd h
        have hs15 : S u13 = some (.inl 3) := hty.2.1 _ _ _ _ hs9 hu14
        obtain ⟨u16, hu17, h⟩ := ax_bd h
        obtain ⟨n19, hs18⟩ : ∃ n, S u16 = some (.inr (2, n)) := hty.1 _ _ _ _ hs0_ hu17
        obtain ⟨u20, hu21, h⟩ := ax_bd h
        obtain ⟨n23, hs22⟩ : ∃ n, S u20 = some (.inr (2, n)) := hty.1 _ _ _ _ hs1_ hu21
        obtain ⟨j24, hj25, h⟩ := ax_bd h
        have hj25 := ax_ix_s hty hs22 hj25
        obtain ⟨u26, hu27, h⟩ := ax_bd h
        have hs28 : S u26 = some (.inl 3) := hty.2.1 _ _ _ _ hs22 hu27
        obtain ⟨j29, hj30, h⟩ := ax_bd h
        have hj30 := ax_ix_s hty hs18 hj30
        obtain ⟨R31, e32, h⟩ := ax_bs h
        have hty : ax_typ S R31 := e32 ▸ ax_typ_a2 hty hs18 hs28
        obtain ⟨u33, hu34, h⟩ := ax_bd h
        obtain ⟨n36, hs35⟩ : ∃ n, S u33 = some (.inr (2, n)) := hty.1 _ _ _ _ hs1_ hu34
        obtain ⟨j37, hj38, h⟩ := ax_bd h
        have hj38 := ax_ix_s hty hs35 hj38
        obtain ⟨R39, e40, h⟩ := ax_bs h
        have hty : ax_typ S R39 := e40 ▸ ax_typ_a2 hty hs35 hs15
        obtain ⟨I41, e42, h⟩ := ax_bs h
        exact ih I41 R39 u0 u1 (x2 + 1) hty hs0_ hs1_ h
theorem t_P_takeOver {S : ax_S} {I : ax_I} {R : ax_R} {u0 : Nat} {u1 : Nat} {out : ax_I × ax_R} (hty : ax_typ S R) (hs0 : S u0 = some (.inl 1)) (hs1 : S u1 = some (.inl 1)) (h : d_P_takeOver S I R u0 u1 = some out) : ax_typ S out.2 := by
  unfold d_P_takeOver at h
  exact te_P_takeOver_2   5000 I R u0 u1 (0) hty hs0 hs1 h
def d_T_partComesBefore_33 (S : ax_S) (I : ax_I) (R : ax_R) : Option (Bool) :=
  some (true)
set_option maxHeartbeats 1000000 in
theorem e_T_partComesBefore_33 {l : Launch} {X : ax_X} {S : ax_S} {L : ax_L} {I0 : ax_I} {R0 : ax_R} {out : Bool} (hX : ax_ok X l "LossFreeTools$Tile" b_T_partComesBefore 2 (ax_rm 1 0 0)) (hF : ax_fin X (some .boolean) 0 0 (ax_of (ax_eq (some (.int (ax_b out))) S I0 R0 L))) (hS0 : ax_S0 X = S) : ∀ (I : ax_I) (R : ax_R), ax_typ S R → I = I0 → R = R0 → d_T_partComesBefore_33 S  I R = some out → ax_W X 2 33 [none, none] [] S I R L 0 0 := by
  rintro I R hty hI0 hR0 h
  subst hI0
  subst hR0
  unfold d_T_partComesBefore_33 at h
  refine ax_iconst (v := 1) (q := 34) hX dc_T_partComesBefore_33 rfl (by decide) ?_
  refine ax_goto (tgt := 38) hX dc_T_partComesBefore_34 (by decide) ?_
  cases h
  exact ax_iret hX hF dc_T_partComesBefore_38 rfl rfl (by decide) (by decide) ax_eq.mk (by rw [hS0]; exact fun _ _ z => z)
def d_T_partComesBefore (S : ax_S) (I : ax_I) (R : ax_R) (u0 : Nat) (u1 : Nat) : Option (Bool) :=
  if (I u0 3) < (I u1 3) then
    d_T_partComesBefore_33 S  I R 
  else
    if (I u0 3) = (I u1 3) then
      if (I u1 2) ≤ (I u0 2) then
        some (false)
      else
        d_T_partComesBefore_33 S  I R 
    else
      some (false)
set_option maxHeartbeats 1000000 in
theorem c_T_partComesBefore (l : Launch) {S : ax_S} {I : ax_I} {R : ax_R} {L : ax_L} {u0 : Nat} {u1 : Nat} {out : Bool} (hty : ax_typ S R) (hs0 : S u0 = some (.inl 3)) (hs1 : S u1 = some (.inl 3)) (h : d_T_partComesBefore S I R u0 u1 = some out) : ax_Met l y_T_partComesBefore b_T_partComesBefore 2 (some .boolean) (ax_rm 1 0 0) [.ref u0, .ref u1] S I R L (ax_eq (some (.int (ax_b out))) S I R L) := by
  refine ax_enter (own := "LossFreeTools$Tile") (by decide +kernel) rfl (ax_cats rfl) (Nat.le_of_ble_eq_true rfl) (fun X hX hF _ hS0 => ?_)
  show ax_W X 2 0 [some (.ref u0), some (.ref u1)] [] S I R L 0 0
  unfold d_T_partComesBefore at h
  refine ax_aload_n (q := 1) hX dc_T_partComesBefore_0 rfl rfl rfl ?_
  refine ax_getI (q := 4) hX dc_T_partComesBefore_1 rfl fl_T_19 rfl hs0 ?_
  refine ax_aload_n (q := 5) hX dc_T_partComesBefore_4 rfl rfl rfl ?_
  refine ax_getI (q := 8) hX dc_T_partComesBefore_5 rfl fl_T_19 rfl hs1 ?_
  refine ax_icmp_lt (tgt := 33) (q := 11) hX dc_T_partComesBefore_8 rfl (by decide) (fun z1 => ?_) (fun z1 => ?_)
  · rw [if_pos z1] at h
    exact ax_weak (ls' := [none, none]) (ax_fewP_s _ _ (by repeat (first | exact trivial | (refine And.intro rfl ?_)))) (e_T_partComesBefore_33 hX hF hS0  I R  hty  rfl rfl h)
  · rw [if_neg z1] at h
    refine ax_aload_n (q := 12) hX dc_T_partComesBefore_11 rfl rfl rfl ?_
    refine ax_getI (q := 15) hX dc_T_partComesBefore_12 rfl fl_T_19 rfl hs0 ?_
    refine ax_aload_n (q := 16) hX dc_T_partComesBefore_15 rfl rfl rfl ?_
    refine ax_getI (q := 19) hX dc_T_partComesBefore_16 rfl fl_T_19 rfl hs1 ?_
    refine ax_icmp_ne (tgt := 37) (q := 22) hX dc_T_partComesBefore_19 rfl (by decide) (fun z2 => ?_) (fun z2 => ?_)
    · rw [if_neg z2] at h
      refine ax_iconst (v := 0) (q := 38) hX dc_T_partComesBefore_37 rfl (by decide) ?_
      cases h
      exact ax_iret hX hF dc_T_partComesBefore_38 rfl rfl (by decide) (by decide) ax_eq.mk (by rw [hS0]; exact fun _ _ z => z)
    · rw [if_pos z2] at h
      refine ax_aload_n (q := 23) hX dc_T_partComesBefore_22 rfl rfl rfl ?_
      refine ax_getI (q := 26) hX dc_T_partComesBefore_23 rfl fl_T_15 rfl hs0 ?_
      refine ax_aload_n (q := 27) hX dc_T_partComesBefore_26 rfl rfl rfl ?_
      refine ax_getI (q := 30) hX dc_T_partComesBefore_27 rfl fl_T_15 rfl hs1 ?_
      refine ax_icmp_ge (tgt := 37) (q := 33) hX dc_T_partComesBefore_30 rfl (by decide) (fun z3 => ?_) (fun z3 => ?_)
      · rw [if_pos z3] at h
        refine ax_iconst (v := 0) (q := 38) hX dc_T_partComesBefore_37 rfl (by decide) ?_
        cases h
        exact ax_iret hX hF dc_T_partComesBefore_38 rfl rfl (by decide) (by decide) ax_eq.mk (by rw [hS0]; exact fun _ _ z => z)
      · rw [if_neg z3] at h
        exact ax_weak (ls' := [none, none]) (ax_fewP_s _ _ (by repeat (first | exact trivial | (refine And.intro rfl ?_)))) (e_T_partComesBefore_33 hX hF hS0  I R  hty  rfl rfl h)
def d_T_partLength (S : ax_S) (I : ax_I) (R : ax_R) (u0 : Nat) : Option (Int32) :=
  some (12 + (I u0 1))
set_option maxHeartbeats 1000000 in
theorem c_T_partLength (l : Launch) {S : ax_S} {I : ax_I} {R : ax_R} {L : ax_L} {u0 : Nat} {out : Int32} (hty : ax_typ S R) (hs0 : S u0 = some (.inl 3)) (h : d_T_partLength S I R u0 = some out) : ax_Met l y_T_partLength b_T_partLength 1 (some .int) (ax_rm 1 0 0) [.ref u0] S I R L (ax_eq (some (.int out)) S I R L) := by
  refine ax_enter (own := "LossFreeTools$Tile") (by decide +kernel) rfl (ax_cats rfl) (Nat.le_of_ble_eq_true rfl) (fun X hX hF _ hS0 => ?_)
  show ax_W X 1 0 [some (.ref u0)] [] S I R L 0 0
  unfold d_T_partLength at h
  refine ax_bipush (v := 12) (q := 2) hX dc_T_partLength_0 rfl (by decide) ?_
  refine ax_aload_n (q := 3) hX dc_T_partLength_2 rfl rfl rfl ?_
  refine ax_getI (q := 6) hX dc_T_partLength_3 rfl fl_T_31 rfl hs0 ?_
  refine ax_iadd (q := 7) hX dc_T_partLength_6 rfl ?_
  cases h
  exact ax_iret hX hF dc_T_partLength_7 rfl rfl (by decide) (by decide) ax_eq.mk (by rw [hS0]; exact fun _ _ z => z)
def d_S_putByte (S : ax_S) (I : ax_I) (R : ax_R) (u0 : Nat) (x1 : Int32) : Option (ax_I) :=
  if (I u0 2) < 0 then
    some (I)
  else
    (R u0 0).bind fun u2 =>
    if (I u0 2) < (nI (ax_len S u2)) then
      (R u0 0).bind fun u7 =>
      (ax_ix S u7 (I u0 2)).bind fun j11 =>
      (some (ax_up I u7 j11 (x1))).bind fun I13 =>
      (some (ax_up I13 u0 2 ((I13 u0 2) + 1))).bind fun I15 =>
      (some (ax_up I15 u0 1 ((if I15 u0 1 < I15 u0 2 then I15 u0 2 else I15 u0 1)))).bind fun I17 =>
      some (I17)
    else
      some (I)
set_option maxHeartbeats 1000000 in
theorem c_S_putByte (l : Launch) {S : ax_S} {I : ax_I} {R : ax_R} {L : ax_L} {u0 : Nat} {x1 : Int32} {out : ax_I} (hty : ax_typ S R) (hs0 : S u0 = some (.inl 2)) (h : d_S_putByte S I R u0 x1 = some out) : ax_Met l y_S_putByte b_S_putByte 2 none (ax_rm 1 0 0) [.ref u0, .int x1] S I R L (ax_eq none S out R L) := by
  refine ax_enter (own := "LossFreeTools$Stream") (by decide +kernel) rfl (ax_cats rfl) (Nat.le_of_ble_eq_true rfl) (fun X hX hF _ hS0 => ?_)
  show ax_W X 2 0 [some (.ref u0), some (.int (x1))] [] S I R L 0 0
  unfold d_S_putByte at h
  refine ax_aload_n (q := 1) hX dc_S_putByte_0 rfl rfl rfl ?_
  refine ax_getI (q := 4) hX dc_S_putByte_1 rfl fl_S_19 rfl hs0 ?_
  refine ax_if_lt (tgt := 19) (q := 7) hX dc_S_putByte_4 rfl (by decide) (fun z1 => ?_) (fun z1 => ?_)
  · rw [if_pos z1] at h
    cases h
    exact ax_vret hX hF dc_S_putByte_19 (by decide) (by decide) ax_eq.mk (by rw [hS0]; exact fun _ _ z => z)
  · rw [if_neg z1] at h
    refine ax_aload_n (q := 8) hX dc_S_putByte_7 rfl rfl rfl ?_
    refine ax_getI (q := 11) hX dc_S_putByte_8 rfl fl_S_19 rfl hs0 ?_
    refine ax_aload_n (q := 12) hX dc_S_putByte_11 rfl rfl rfl ?_
    obtain ⟨u2, hu3, h⟩ := ax_bd h
    obtain ⟨n5, hs4⟩ : ∃ n, S u2 = some (.inr (0, n)) := hty.1 _ _ _ _ hs0 hu3
    refine ax_getR (q := 15) hX dc_S_putByte_12 rfl fl_S_9 rfl hs0 hu3 ?_
    refine ax_alen (q := 16) hX dc_S_putByte_15 rfl hs4 ?_
    rw [← ax_len_s hs4]
    refine ax_icmp_lt (tgt := 20) (q := 19) hX dc_S_putByte_16 rfl (by decide) (fun z6 => ?_) (fun z6 => ?_)
    · rw [if_pos z6] at h
      refine ax_aload_n (q := 21) hX dc_S_putByte_20 rfl rfl rfl ?_
      obtain ⟨u7, hu8, h⟩ := ax_bd h
      obtain ⟨n10, hs9⟩ : ∃ n, S u7 = some (.inr (0, n)) := hty.1 _ _ _ _ hs0 hu8
      refine ax_getR (q := 24) hX dc_S_putByte_21 rfl fl_S_9 rfl hs0 hu8 ?_
      refine ax_aload_n (q := 25) hX dc_S_putByte_24 rfl rfl rfl ?_
      refine ax_getI (q := 28) hX dc_S_putByte_25 rfl fl_S_19 rfl hs0 ?_
      refine ax_iload_n (q := 29) hX dc_S_putByte_28 rfl rfl rfl ?_
      obtain ⟨j11, hj12, h⟩ := ax_bd h
      have hj12 := ax_ix_s hty hs9 hj12
      obtain ⟨I13, e14, h⟩ := ax_bs h
      refine ax_iast (q := 30) hX j11 dc_S_putByte_29 rfl hs9 hj12.1 hj12.2.1 hj12.2.2 e14 ?_
      refine ax_aload_n (q := 31) hX dc_S_putByte_30 rfl rfl rfl ?_
      refine ax_dup (q := 32) hX dc_S_putByte_31 rfl rfl ?_
      refine ax_getI (q := 35) hX dc_S_putByte_32 rfl fl_S_19 rfl hs0 ?_
      refine ax_iconst (v := 1) (q := 36) hX dc_S_putByte_35 rfl (by decide) ?_
      refine ax_iadd (q := 37) hX dc_S_putByte_36 rfl ?_
      obtain ⟨I15, e16, h⟩ := ax_bs h
      refine ax_putI (q := 40) hX dc_S_putByte_37 rfl fl_S_19 rfl hs0 (fun z => by cases z) rfl rfl e16 ?_
      refine ax_aload_n (q := 41) hX dc_S_putByte_40 rfl rfl rfl ?_
      refine ax_aload_n (q := 42) hX dc_S_putByte_41 rfl rfl rfl ?_
      refine ax_getI (q := 45) hX dc_S_putByte_42 rfl fl_S_15 rfl hs0 ?_
      refine ax_aload_n (q := 46) hX dc_S_putByte_45 rfl rfl rfl ?_
      refine ax_getI (q := 49) hX dc_S_putByte_46 rfl fl_S_19 rfl hs0 ?_
      refine ax_mmax (q := 52) hX dc_S_putByte_49 rfl wl_S_22 wt_math_max wn_java_lang_Math wc_math_max (by decide) (by decide) (by decide) (by decide) (Nat.le_of_ble_eq_true rfl) ?_
      obtain ⟨I17, e18, h⟩ := ax_bs h
      refine ax_putI (q := 55) hX dc_S_putByte_52 rfl fl_S_15 rfl hs0 (fun z => by cases z) rfl rfl e18 ?_
      cases h
      exact ax_vret hX hF dc_S_putByte_55 (by decide) (by decide) ax_eq.mk (by rw [hS0]; exact fun _ _ z => z)
    · rw [if_neg z6] at h
      cases h
      exact ax_vret hX hF dc_S_putByte_19 (by decide) (by decide) ax_eq.mk (by rw [hS0]; exact fun _ _ z => z)
def d_S_empty (S : ax_S) (I : ax_I) (R : ax_R) (u0 : Nat) : Option (ax_I) :=
  (some (ax_up I u0 1 (0))).bind fun I1 =>
  (some (ax_up I1 u0 2 (0))).bind fun I3 =>
  some (I3)
set_option maxHeartbeats 1000000 in
theorem c_S_empty (l : Launch) {S : ax_S} {I : ax_I} {R : ax_R} {L : ax_L} {u0 : Nat} {out : ax_I} (hty : ax_typ S R) (hs0 : S u0 = some (.inl 2)) (h : d_S_empty S I R u0 = some out) : ax_Met l y_S_empty b_S_empty 1 none (ax_rm 1 0 0) [.ref u0] S I R L (ax_eq none S out R L) := by
  refine ax_enter (own := "LossFreeTools$Stream") (by decide +kernel) rfl (ax_cats rfl) (Nat.le_of_ble_eq_true rfl) (fun X hX hF _ hS0 => ?_)
  show ax_W X 1 0 [some (.ref u0)] [] S I R L 0 0
  unfold d_S_empty at h
  refine ax_aload_n (q := 1) hX dc_S_empty_0 rfl rfl rfl ?_
  refine ax_iconst (v := 0) (q := 2) hX dc_S_empty_1 rfl (by decide) ?_
  obtain ⟨I1, e2, h⟩ := ax_bs h
  refine ax_putI (q := 5) hX dc_S_empty_2 rfl fl_S_15 rfl hs0 (fun z => by cases z) rfl rfl e2 ?_
  refine ax_aload_n (q := 6) hX dc_S_empty_5 rfl rfl rfl ?_
  refine ax_iconst (v := 0) (q := 7) hX dc_S_empty_6 rfl (by decide) ?_
  obtain ⟨I3, e4, h⟩ := ax_bs h
  refine ax_putI (q := 10) hX dc_S_empty_7 rfl fl_S_19 rfl hs0 (fun z => by cases z) rfl rfl e4 ?_
  cases h
  exact ax_vret hX hF dc_S_empty_10 (by decide) (by decide) ax_eq.mk (by rw [hS0]; exact fun _ _ z => z)
def d_S_goTo (S : ax_S) (I : ax_I) (R : ax_R) (u0 : Nat) (x1 : Int32) : Option (ax_I) :=
  (some (ax_up I u0 2 (x1))).bind fun I1 =>
  some (I1)
set_option maxHeartbeats 1000000 in
theorem c_S_goTo (l : Launch) {S : ax_S} {I : ax_I} {R : ax_R} {L : ax_L} {u0 : Nat} {x1 : Int32} {out : ax_I} (hty : ax_typ S R) (hs0 : S u0 = some (.inl 2)) (h : d_S_goTo S I R u0 x1 = some out) : ax_Met l y_S_goTo b_S_goTo 2 none (ax_rm 1 0 0) [.ref u0, .int x1] S I R L (ax_eq none S out R L) := by
  refine ax_enter (own := "LossFreeTools$Stream") (by decide +kernel) rfl (ax_cats rfl) (Nat.le_of_ble_eq_true rfl) (fun X hX hF _ hS0 => ?_)
  show ax_W X 2 0 [some (.ref u0), some (.int (x1))] [] S I R L 0 0
  unfold d_S_goTo at h
  refine ax_aload_n (q := 1) hX dc_S_goTo_0 rfl rfl rfl ?_
  refine ax_iload_n (q := 2) hX dc_S_goTo_1 rfl rfl rfl ?_
  obtain ⟨I1, e2, h⟩ := ax_bs h
  refine ax_putI (q := 5) hX dc_S_goTo_2 rfl fl_S_19 rfl hs0 (fun z => by cases z) rfl rfl e2 ?_
  cases h
  exact ax_vret hX hF dc_S_goTo_5 (by decide) (by decide) ax_eq.mk (by rw [hS0]; exact fun _ _ z => z)
def d_S_sumFrom_8 (S : ax_S) : Nat → ax_I → ax_R → Nat → Int32 → Int32 → Option (Int32)
  | 0, _, _, _, _, _ => none
  | n + 1, I, R, u0, x2, x3 =>
    if (I u0 2) ≤ x3 then
      some (x2)
    else
      (R u0 0).bind fun u2 =>
      if (nI (ax_len S u2)) ≤ x3 then
        some (x2)
      else
        (R u0 0).bind fun u7 =>
        (ax_ix S u7 (x3)).bind fun j11 =>
        d_S_sumFrom_8 S  n I R u0 (((x2 * 31) + (I u7 j11)) - ((x2 * 31) + (I u7 j11)) / 65521 * 65521) (x3 + 1)
set_option maxHeartbeats 1000000 in
theorem e_S_sumFrom_8 {l : Launch} {X : ax_X} {S : ax_S} {L : ax_L} {I0 : ax_I} {R0 : ax_R} {out : Int32} (hX : ax_ok X l "LossFreeTools$Stream" b_S_sumFrom 4 (ax_rm 1 0 0)) (hF : ax_fin X (some .int) 0 0 (ax_of (ax_eq (some (.int out)) S I0 R0 L))) (hS0 : ax_S0 X = S) : ∀ (n : Nat), ∀ (I : ax_I) (R : ax_R) (u0 : Nat) (x2 : Int32) (x3 : Int32), ax_typ S R → (S u0 = some (.inl 2)) → I = I0 → R = R0 → d_S_sumFrom_8 S  n I R u0 x2 x3 = some out → ax_W X 4 8 [some (.ref u0), none, some (.int (x2)), some (.int (x3))] [] S I R L 0 0 := by
  intro n
  induction n with
  | zero =>
    rintro I R u0 x2 x3 hty hs0_ hI0 hR0 h
    cases h
  | succ n ih =>
    rintro I R u0 x2 x3 hty hs0_ hI0 hR0 h
    subst hI0
    subst hR0
    unfold d_S_sumFrom_8 at h
    refine ax_iload_n (q := 9) hX dc_S_sumFrom_8 rfl rfl rfl ?_
    refine ax_aload_n (q := 10) hX dc_S_sumFrom_9 rfl rfl rfl ?_
    refine ax_getI (q := 13) hX dc_S_sumFrom_10 rfl fl_S_19 rfl hs0_ ?_
    refine ax_icmp_ge (tgt := 46) (q := 16) hX dc_S_sumFrom_13 rfl (by decide) (fun z1 => ?_) (fun z1 => ?_)
    · rw [if_pos z1] at h
      refine ax_iload_n (q := 47) hX dc_S_sumFrom_46 rfl rfl rfl ?_
      cases h
      exact ax_iret hX hF dc_S_sumFrom_47 rfl rfl (by decide) (by decide) ax_eq.mk (by rw [hS0]; exact fun _ _ z => z)
    · rw [if_neg z1] at h
      refine ax_iload_n (q := 17) hX dc_S_sumFrom_16 rfl rfl rfl ?_
      refine ax_aload_n (q := 18) hX dc_S_sumFrom_17 rfl rfl rfl ?_
      obtain ⟨u2, hu3, h⟩ := ax_bd h
      obtain ⟨n5, hs4⟩ : ∃ n, S u2 = some (.inr (0, n)) := hty.1 _ _ _ _ hs0_ hu3
      refine ax_getR (q := 21) hX dc_S_sumFrom_18 rfl fl_S_9 rfl hs0_ hu3 ?_
      refine ax_alen (q := 22) hX dc_S_sumFrom_21 rfl hs4 ?_
      rw [← ax_len_s hs4]
      refine ax_icmp_ge (tgt := 46) (q := 25) hX dc_S_sumFrom_22 rfl (by decide) (fun z6 => ?_) (fun z6 => ?_)
      · rw [if_pos z6] at h
        refine ax_iload_n (q := 47) hX dc_S_sumFrom_46 rfl rfl rfl ?_
        cases h
        exact ax_iret hX hF dc_S_sumFrom_47 rfl rfl (by decide) (by decide) ax_eq.mk (by rw [hS0]; exact fun _ _ z => z)
      · rw [if_neg z6] at h
        refine ax_iload_n (q := 26) hX dc_S_sumFrom_25 rfl rfl rfl ?_
        refine ax_bipush (v := 31) (q := 28) hX dc_S_sumFrom_26 rfl (by decide) ?_
        refine ax_imul (q := 29) hX dc_S_sumFrom_28 rfl ?_
        refine ax_aload_n (q := 30) hX dc_S_sumFrom_29 rfl rfl rfl ?_
        obtain ⟨u7, hu8, h⟩ := ax_bd h
        obtain ⟨n10, hs9⟩ : ∃ n, S u7 = some (.inr (0, n)) := hty.1 _ _ _ _ hs0_ hu8
        refine ax_getR (q := 33) hX dc_S_sumFrom_30 rfl fl_S_9 rfl hs0_ hu8 ?_
        refine ax_iload_n (q := 34) hX dc_S_sumFrom_33 rfl rfl rfl ?_
        obtain ⟨j11, hj12, h⟩ := ax_bd h
        have hj12 := ax_ix_s hty hs9 hj12
        refine ax_iald (q := 35) hX j11 dc_S_sumFrom_34 rfl hs9 hj12.1 hj12.2.1 hj12.2.2 ?_
        refine ax_iadd (q := 36) hX dc_S_sumFrom_35 rfl ?_
        refine ax_ldc (v := 65521) (q := 38) hX dc_S_sumFrom_36 rfl wk_S_32 ?_
        refine ax_irem (q := 39) hX dc_S_sumFrom_38 rfl (by decide) ?_
        refine ax_istore_n (ls' := [some (.ref u0), none, some (.int (((x2 * 31) + (I u7 j11)) - ((x2 * 31) + (I u7 j11)) / 65521 * 65521)), some (.int (x3))]) (q := 40) hX dc_S_sumFrom_39 rfl rfl (by decide) rfl ?_
        refine ax_iinc (v := x3 + 1) (ls' := [some (.ref u0), none, some (.int (((x2 * 31) + (I u7 j11)) - ((x2 * 31) + (I u7 j11)) / 65521 * 65521)), some (.int (x3 + 1))]) (q := 43) hX dc_S_sumFrom_40 rfl rfl rfl (by decide) rfl ?_
        refine ax_goto (tgt := 8) hX dc_S_sumFrom_43 (by decide) ?_
        exact (ih I R u0 (((x2 * 31) + (I u7 j11)) - ((x2 * 31) + (I u7 j11)) / 65521 * 65521) (x3 + 1) hty hs0_ rfl rfl h)
def d_S_sumFrom (S : ax_S) (I : ax_I) (R : ax_R) (u0 : Nat) (x1 : Int32) : Option (Int32) :=
  d_S_sumFrom_8 S  5000 I R u0 (1) ((if 0 < x1 then x1 else 0))
set_option maxHeartbeats 1000000 in
theorem c_S_sumFrom (l : Launch) {S : ax_S} {I : ax_I} {R : ax_R} {L : ax_L} {u0 : Nat} {x1 : Int32} {out : Int32} (hty : ax_typ S R) (hs0 : S u0 = some (.inl 2)) (h : d_S_sumFrom S I R u0 x1 = some out) : ax_Met l y_S_sumFrom b_S_sumFrom 4 (some .int) (ax_rm 1 0 0) [.ref u0, .int x1] S I R L (ax_eq (some (.int out)) S I R L) := by
  refine ax_enter (own := "LossFreeTools$Stream") (by decide +kernel) rfl (ax_cats rfl) (Nat.le_of_ble_eq_true rfl) (fun X hX hF _ hS0 => ?_)
  show ax_W X 4 0 [some (.ref u0), some (.int (x1)), none, none] [] S I R L 0 0
  unfold d_S_sumFrom at h
  refine ax_iconst (v := 1) (q := 1) hX dc_S_sumFrom_0 rfl (by decide) ?_
  refine ax_istore_n (ls' := [some (.ref u0), some (.int (x1)), some (.int (1)), none]) (q := 2) hX dc_S_sumFrom_1 rfl rfl (by decide) rfl ?_
  refine ax_iconst (v := 0) (q := 3) hX dc_S_sumFrom_2 rfl (by decide) ?_
  refine ax_iload_n (q := 4) hX dc_S_sumFrom_3 rfl rfl rfl ?_
  refine ax_mmax (q := 7) hX dc_S_sumFrom_4 rfl wl_S_22 wt_math_max wn_java_lang_Math wc_math_max (by decide) (by decide) (by decide) (by decide) (Nat.le_of_ble_eq_true rfl) ?_
  refine ax_istore_n (ls' := [some (.ref u0), some (.int (x1)), some (.int (1)), some (.int ((if 0 < x1 then x1 else 0)))]) (q := 8) hX dc_S_sumFrom_7 rfl rfl (by decide) rfl ?_
  exact ax_weak (ls' := [some (.ref u0), none, some (.int (1)), some (.int ((if 0 < x1 then x1 else 0)))]) (ax_fewP_s _ _ (by repeat (first | exact trivial | (refine And.intro rfl ?_)))) (e_S_sumFrom_8 hX hF hS0  5000 I R u0 (1) ((if 0 < x1 then x1 else 0)) hty hs0 rfl rfl h)
def d_T_addByte (S : ax_S) (I : ax_I) (R : ax_R) (u0 : Nat) (x1 : Int32) : Option (Int32 × ax_I) :=
  (R u0 0).bind fun u1 =>
  if (nI (ax_len S u1)) ≤ (I u0 1) then
    some (I u0 1, I)
  else
    (R u0 0).bind fun u6 =>
    (ax_ix S u6 (I u0 1)).bind fun j10 =>
    (some (ax_up I u6 j10 (x1))).bind fun I12 =>
    (some (ax_up I12 u0 1 ((I12 u0 1) + 1))).bind fun I14 =>
    some (I14 u0 1, I14)
set_option maxHeartbeats 1000000 in
theorem c_T_addByte (l : Launch) {S : ax_S} {I : ax_I} {R : ax_R} {L : ax_L} {u0 : Nat} {x1 : Int32} {out : Int32 × ax_I} (hty : ax_typ S R) (hs0 : S u0 = some (.inl 3)) (h : d_T_addByte S I R u0 x1 = some out) : ax_Met l y_T_addByte b_T_addByte 2 (some .int) (ax_rm 1 0 0) [.ref u0, .int x1] S I R L (ax_eq (some (.int out.1)) S out.2 R L) := by
  refine ax_enter (own := "LossFreeTools$Tile") (by decide +kernel) rfl (ax_cats rfl) (Nat.le_of_ble_eq_true rfl) (fun X hX hF _ hS0 => ?_)
  show ax_W X 2 0 [some (.ref u0), some (.int (x1))] [] S I R L 0 0
  unfold d_T_addByte at h
  refine ax_aload_n (q := 1) hX dc_T_addByte_0 rfl rfl rfl ?_
  refine ax_getI (q := 4) hX dc_T_addByte_1 rfl fl_T_31 rfl hs0 ?_
  refine ax_aload_n (q := 5) hX dc_T_addByte_4 rfl rfl rfl ?_
  obtain ⟨u1, hu2, h⟩ := ax_bd h
  obtain ⟨n4, hs3⟩ : ∃ n, S u1 = some (.inr (0, n)) := hty.1 _ _ _ _ hs0 hu2
  refine ax_getR (q := 8) hX dc_T_addByte_5 rfl fl_T_9 rfl hs0 hu2 ?_
  refine ax_alen (q := 9) hX dc_T_addByte_8 rfl hs3 ?_
  rw [← ax_len_s hs3]
  refine ax_icmp_ge (tgt := 32) (q := 12) hX dc_T_addByte_9 rfl (by decide) (fun z5 => ?_) (fun z5 => ?_)
  · rw [if_pos z5] at h
    refine ax_aload_n (q := 33) hX dc_T_addByte_32 rfl rfl rfl ?_
    refine ax_getI (q := 36) hX dc_T_addByte_33 rfl fl_T_31 rfl hs0 ?_
    cases h
    exact ax_iret hX hF dc_T_addByte_36 rfl rfl (by decide) (by decide) ax_eq.mk (by rw [hS0]; exact fun _ _ z => z)
  · rw [if_neg z5] at h
    refine ax_aload_n (q := 13) hX dc_T_addByte_12 rfl rfl rfl ?_
    obtain ⟨u6, hu7, h⟩ := ax_bd h
    obtain ⟨n9, hs8⟩ : ∃ n, S u6 = some (.inr (0, n)) := hty.1 _ _ _ _ hs0 hu7
    refine ax_getR (q := 16) hX dc_T_addByte_13 rfl fl_T_9 rfl hs0 hu7 ?_
    refine ax_aload_n (q := 17) hX dc_T_addByte_16 rfl rfl rfl ?_
    refine ax_getI (q := 20) hX dc_T_addByte_17 rfl fl_T_31 rfl hs0 ?_
    refine ax_iload_n (q := 21) hX dc_T_addByte_20 rfl rfl rfl ?_
    obtain ⟨j10, hj11, h⟩ := ax_bd h
    have hj11 := ax_ix_s hty hs8 hj11
    obtain ⟨I12, e13, h⟩ := ax_bs h
    refine ax_iast (q := 22) hX j10 dc_T_addByte_21 rfl hs8 hj11.1 hj11.2.1 hj11.2.2 e13 ?_
    refine ax_aload_n (q := 23) hX dc_T_addByte_22 rfl rfl rfl ?_
    refine ax_dup (q := 24) hX dc_T_addByte_23 rfl rfl ?_
    refine ax_getI (q := 27) hX dc_T_addByte_24 rfl fl_T_31 rfl hs0 ?_
    refine ax_iconst (v := 1) (q := 28) hX dc_T_addByte_27 rfl (by decide) ?_
    refine ax_iadd (q := 29) hX dc_T_addByte_28 rfl ?_
    obtain ⟨I14, e15, h⟩ := ax_bs h
    refine ax_putI (q := 32) hX dc_T_addByte_29 rfl fl_T_31 rfl hs0 (fun z => by cases z) rfl rfl e15 ?_
    refine ax_aload_n (q := 33) hX dc_T_addByte_32 rfl rfl rfl ?_
    refine ax_getI (q := 36) hX dc_T_addByte_33 rfl fl_T_31 rfl hs0 ?_
    cases h
    exact ax_iret hX hF dc_T_addByte_36 rfl rfl (by decide) (by decide) ax_eq.mk (by rw [hS0]; exact fun _ _ z => z)
def d_K_nearestFirstSize (S : ax_S) (I : ax_I) (R : ax_R) (x0 : Int32) : Option (Int32) :=
  some ((if 1 < (if x0 < 200 then x0 else 200) then (if x0 < 200 then x0 else 200) else 1))
set_option maxHeartbeats 1000000 in
theorem c_K_nearestFirstSize (l : Launch) {S : ax_S} {I : ax_I} {R : ax_R} {L : ax_L} {x0 : Int32} {out : Int32} (hty : ax_typ S R) (h : d_K_nearestFirstSize S I R x0 = some out) : ax_Met l y_K_nearestFirstSize b_K_nearestFirstSize 1 (some .int) (ax_rm 1 0 0) [.int x0] S I R L (ax_eq (some (.int out)) S I R L) := by
  refine ax_enter (own := "LossFreeTools") (by decide +kernel) rfl (ax_cats rfl) (Nat.le_of_ble_eq_true rfl) (fun X hX hF _ hS0 => ?_)
  show ax_W X 1 0 [some (.int (x0))] [] S I R L 0 0
  unfold d_K_nearestFirstSize at h
  refine ax_iconst (v := 1) (q := 1) hX dc_K_nearestFirstSize_0 rfl (by decide) ?_
  refine ax_sipush (v := 200) (q := 4) hX dc_K_nearestFirstSize_1 rfl (by decide) ?_
  refine ax_iload_n (q := 5) hX dc_K_nearestFirstSize_4 rfl rfl rfl ?_
  refine ax_mmin (q := 8) hX dc_K_nearestFirstSize_5 rfl wl_K_263 wt_math_min wn_java_lang_Math wc_math_min (by decide) (by decide) (by decide) (by decide) (Nat.le_of_ble_eq_true rfl) ?_
  refine ax_mmax (q := 11) hX dc_K_nearestFirstSize_8 rfl wl_K_268 wt_math_max wn_java_lang_Math wc_math_max (by decide) (by decide) (by decide) (by decide) (Nat.le_of_ble_eq_true rfl) ?_
  cases h
  exact ax_iret hX hF dc_K_nearestFirstSize_11 rfl rfl (by decide) (by decide) ax_eq.mk (by rw [hS0]; exact fun _ _ z => z)
def d_K_isByte (S : ax_S) (I : ax_I) (R : ax_R) (x0 : Int32) : Option (Bool) :=
  if x0 < 0 then
    some (false)
  else
    if 255 < x0 then
      some (false)
    else
      some (true)
set_option maxHeartbeats 1000000 in
theorem c_K_isByte (l : Launch) {S : ax_S} {I : ax_I} {R : ax_R} {L : ax_L} {x0 : Int32} {out : Bool} (hty : ax_typ S R) (h : d_K_isByte S I R x0 = some out) : ax_Met l y_K_isByte b_K_isByte 1 (some .boolean) (ax_rm 1 0 0) [.int x0] S I R L (ax_eq (some (.int (ax_b out))) S I R L) := by
  refine ax_enter (own := "LossFreeTools") (by decide +kernel) rfl (ax_cats rfl) (Nat.le_of_ble_eq_true rfl) (fun X hX hF _ hS0 => ?_)
  show ax_W X 1 0 [some (.int (x0))] [] S I R L 0 0
  unfold d_K_isByte at h
  refine ax_iload_n (q := 1) hX dc_K_isByte_0 rfl rfl rfl ?_
  refine ax_if_lt (tgt := 15) (q := 4) hX dc_K_isByte_1 rfl (by decide) (fun z1 => ?_) (fun z1 => ?_)
  · rw [if_pos z1] at h
    refine ax_iconst (v := 0) (q := 16) hX dc_K_isByte_15 rfl (by decide) ?_
    cases h
    exact ax_iret hX hF dc_K_isByte_16 rfl rfl (by decide) (by decide) ax_eq.mk (by rw [hS0]; exact fun _ _ z => z)
  · rw [if_neg z1] at h
    refine ax_iload_n (q := 5) hX dc_K_isByte_4 rfl rfl rfl ?_
    refine ax_sipush (v := 255) (q := 8) hX dc_K_isByte_5 rfl (by decide) ?_
    refine ax_icmp_gt (tgt := 15) (q := 11) hX dc_K_isByte_8 rfl (by decide) (fun z2 => ?_) (fun z2 => ?_)
    · rw [if_pos z2] at h
      refine ax_iconst (v := 0) (q := 16) hX dc_K_isByte_15 rfl (by decide) ?_
      cases h
      exact ax_iret hX hF dc_K_isByte_16 rfl rfl (by decide) (by decide) ax_eq.mk (by rw [hS0]; exact fun _ _ z => z)
    · rw [if_neg z2] at h
      refine ax_iconst (v := 1) (q := 12) hX dc_K_isByte_11 rfl (by decide) ?_
      refine ax_goto (tgt := 16) hX dc_K_isByte_12 (by decide) ?_
      cases h
      exact ax_iret hX hF dc_K_isByte_16 rfl rfl (by decide) (by decide) ax_eq.mk (by rw [hS0]; exact fun _ _ z => z)
def d_K_isUpright_9 (S : ax_S) (I : ax_I) (R : ax_R) : Option (Bool) :=
  some (true)
set_option maxHeartbeats 1000000 in
theorem e_K_isUpright_9 {l : Launch} {X : ax_X} {S : ax_S} {L : ax_L} {I0 : ax_I} {R0 : ax_R} {out : Bool} (hX : ax_ok X l "LossFreeTools" b_K_isUpright 1 (ax_rm 1 0 0)) (hF : ax_fin X (some .boolean) 0 0 (ax_of (ax_eq (some (.int (ax_b out))) S I0 R0 L))) (hS0 : ax_S0 X = S) : ∀ (I : ax_I) (R : ax_R), ax_typ S R → I = I0 → R = R0 → d_K_isUpright_9 S  I R = some out → ax_W X 1 9 [none] [] S I R L 0 0 := by
  rintro I R hty hI0 hR0 h
  subst hI0
  subst hR0
  unfold d_K_isUpright_9 at h
  refine ax_iconst (v := 1) (q := 10) hX dc_K_isUpright_9 rfl (by decide) ?_
  refine ax_goto (tgt := 14) hX dc_K_isUpright_10 (by decide) ?_
  cases h
  exact ax_iret hX hF dc_K_isUpright_14 rfl rfl (by decide) (by decide) ax_eq.mk (by rw [hS0]; exact fun _ _ z => z)
def d_K_isUpright (S : ax_S) (I : ax_I) (R : ax_R) (x0 : Int32) : Option (Bool) :=
  if x0 = 0 then
    d_K_isUpright_9 S  I R 
  else
    if x0 = 2 then
      d_K_isUpright_9 S  I R 
    else
      some (false)
set_option maxHeartbeats 1000000 in
theorem c_K_isUpright (l : Launch) {S : ax_S} {I : ax_I} {R : ax_R} {L : ax_L} {x0 : Int32} {out : Bool} (hty : ax_typ S R) (h : d_K_isUpright S I R x0 = some out) : ax_Met l y_K_isUpright b_K_isUpright 1 (some .boolean) (ax_rm 1 0 0) [.int x0] S I R L (ax_eq (some (.int (ax_b out))) S I R L) := by
  refine ax_enter (own := "LossFreeTools") (by decide +kernel) rfl (ax_cats rfl) (Nat.le_of_ble_eq_true rfl) (fun X hX hF _ hS0 => ?_)
  show ax_W X 1 0 [some (.int (x0))] [] S I R L 0 0
  unfold d_K_isUpright at h
  refine ax_iload_n (q := 1) hX dc_K_isUpright_0 rfl rfl rfl ?_
  refine ax_if_eq (tgt := 9) (q := 4) hX dc_K_isUpright_1 rfl (by decide) (fun z1 => ?_) (fun z1 => ?_)
  · rw [if_pos z1] at h
    exact ax_weak (ls' := [none]) (ax_fewP_s _ _ (by repeat (first | exact trivial | (refine And.intro rfl ?_)))) (e_K_isUpright_9 hX hF hS0  I R  hty  rfl rfl h)
  · rw [if_neg z1] at h
    refine ax_iload_n (q := 5) hX dc_K_isUpright_4 rfl rfl rfl ?_
    refine ax_iconst (v := 2) (q := 6) hX dc_K_isUpright_5 rfl (by decide) ?_
    refine ax_icmp_ne (tgt := 13) (q := 9) hX dc_K_isUpright_6 rfl (by decide) (fun z2 => ?_) (fun z2 => ?_)
    · rw [if_neg z2] at h
      refine ax_iconst (v := 0) (q := 14) hX dc_K_isUpright_13 rfl (by decide) ?_
      cases h
      exact ax_iret hX hF dc_K_isUpright_14 rfl rfl (by decide) (by decide) ax_eq.mk (by rw [hS0]; exact fun _ _ z => z)
    · rw [if_pos z2] at h
      exact ax_weak (ls' := [none]) (ax_fewP_s _ _ (by repeat (first | exact trivial | (refine And.intro rfl ?_)))) (e_K_isUpright_9 hX hF hS0  I R  hty  rfl rfl h)
def d_K_isSide (S : ax_S) (I : ax_I) (R : ax_R) (x0 : Int32) : Option (Bool) :=
  if x0 < 0 then
    some (false)
  else
    if 4 ≤ x0 then
      some (false)
    else
      some (true)
set_option maxHeartbeats 1000000 in
theorem c_K_isSide (l : Launch) {S : ax_S} {I : ax_I} {R : ax_R} {L : ax_L} {x0 : Int32} {out : Bool} (hty : ax_typ S R) (h : d_K_isSide S I R x0 = some out) : ax_Met l y_K_isSide b_K_isSide 1 (some .boolean) (ax_rm 1 0 0) [.int x0] S I R L (ax_eq (some (.int (ax_b out))) S I R L) := by
  refine ax_enter (own := "LossFreeTools") (by decide +kernel) rfl (ax_cats rfl) (Nat.le_of_ble_eq_true rfl) (fun X hX hF _ hS0 => ?_)
  show ax_W X 1 0 [some (.int (x0))] [] S I R L 0 0
  unfold d_K_isSide at h
  refine ax_iload_n (q := 1) hX dc_K_isSide_0 rfl rfl rfl ?_
  refine ax_if_lt (tgt := 13) (q := 4) hX dc_K_isSide_1 rfl (by decide) (fun z1 => ?_) (fun z1 => ?_)
  · rw [if_pos z1] at h
    refine ax_iconst (v := 0) (q := 14) hX dc_K_isSide_13 rfl (by decide) ?_
    cases h
    exact ax_iret hX hF dc_K_isSide_14 rfl rfl (by decide) (by decide) ax_eq.mk (by rw [hS0]; exact fun _ _ z => z)
  · rw [if_neg z1] at h
    refine ax_iload_n (q := 5) hX dc_K_isSide_4 rfl rfl rfl ?_
    refine ax_iconst (v := 4) (q := 6) hX dc_K_isSide_5 rfl (by decide) ?_
    refine ax_icmp_ge (tgt := 13) (q := 9) hX dc_K_isSide_6 rfl (by decide) (fun z2 => ?_) (fun z2 => ?_)
    · rw [if_pos z2] at h
      refine ax_iconst (v := 0) (q := 14) hX dc_K_isSide_13 rfl (by decide) ?_
      cases h
      exact ax_iret hX hF dc_K_isSide_14 rfl rfl (by decide) (by decide) ax_eq.mk (by rw [hS0]; exact fun _ _ z => z)
    · rw [if_neg z2] at h
      refine ax_iconst (v := 1) (q := 10) hX dc_K_isSide_9 rfl (by decide) ?_
      refine ax_goto (tgt := 14) hX dc_K_isSide_10 (by decide) ?_
      cases h
      exact ax_iret hX hF dc_K_isSide_14 rfl rfl (by decide) (by decide) ax_eq.mk (by rw [hS0]; exact fun _ _ z => z)
def d_K_swap (S : ax_S) (I : ax_I) (R : ax_R) (u0 : Nat) : Option (Int32 × ax_I × ax_R) :=
  (R u0 4).bind fun u1 =>
  (R u0 5).bind fun u4 =>
  (some (ax_up R u0 4 (some u4))).bind fun R7 =>
  (some (ax_up R7 u0 5 (some u1))).bind fun R9 =>
  (some (ax_up I u0 6 (0))).bind fun I11 =>
  (some (ax_up I11 u0 7 (0))).bind fun I13 =>
  (R9 u0 4).bind fun u15 =>
  some (I13 u15 2, I13, R9)
set_option maxHeartbeats 1000000 in
theorem c_K_swap (l : Launch) {S : ax_S} {I : ax_I} {R : ax_R} {L : ax_L} {u0 : Nat} {out : Int32 × ax_I × ax_R} (hty : ax_typ S R) (hs0 : S u0 = some (.inl 4)) (h : d_K_swap S I R u0 = some out) : ax_Met l y_K_swap b_K_swap 2 (some .int) (ax_rm 1 0 0) [.ref u0] S I R L (ax_eq (some (.int out.1)) S out.2.1 out.2.2 L) := by
  refine ax_enter (own := "LossFreeTools") (by decide +kernel) rfl (ax_cats rfl) (Nat.le_of_ble_eq_true rfl) (fun X hX hF _ hS0 => ?_)
  show ax_W X 2 0 [some (.ref u0), none] [] S I R L 0 0
  unfold d_K_swap at h
  refine ax_aload_n (q := 1) hX dc_K_swap_0 rfl rfl rfl ?_
  obtain ⟨u1, hu2, h⟩ := ax_bd h
  have hs3 : S u1 = some (.inl 1) := hty.1 _ _ _ _ hs0 hu2
  refine ax_getR (q := 4) hX dc_K_swap_1 rfl fl_K_36 rfl hs0 hu2 ?_
  refine ax_astore_n (ls' := [some (.ref u0), some (.ref u1)]) (q := 5) hX dc_K_swap_4 rfl rfl (by decide) rfl ?_
  refine ax_aload_n (q := 6) hX dc_K_swap_5 rfl rfl rfl ?_
  refine ax_aload_n (q := 7) hX dc_K_swap_6 rfl rfl rfl ?_
  obtain ⟨u4, hu5, h⟩ := ax_bd h
  have hs6 : S u4 = some (.inl 1) := hty.1 _ _ _ _ hs0 hu5
  refine ax_getR (q := 10) hX dc_K_swap_7 rfl fl_K_40 rfl hs0 hu5 ?_
  obtain ⟨R7, e8, h⟩ := ax_bs h
  have hty : ax_typ S R7 := e8 ▸ ax_typ_f hty hs0 (show ax_is S u4 (ax_dt 4 4) from hs6)
  refine ax_putR (q := 13) hX dc_K_swap_10 rfl fl_K_36 rfl hs0 (fun z => by cases z) e8 ?_
  refine ax_aload_n (q := 14) hX dc_K_swap_13 rfl rfl rfl ?_
  refine ax_aload_n (q := 15) hX dc_K_swap_14 rfl rfl rfl ?_
  obtain ⟨R9, e10, h⟩ := ax_bs h
  have hty : ax_typ S R9 := e10 ▸ ax_typ_f hty hs0 (show ax_is S u1 (ax_dt 4 5) from hs3)
  refine ax_putR (q := 18) hX dc_K_swap_15 rfl fl_K_40 rfl hs0 (fun z => by cases z) e10 ?_
  refine ax_aload_n (q := 19) hX dc_K_swap_18 rfl rfl rfl ?_
  refine ax_iconst (v := 0) (q := 20) hX dc_K_swap_19 rfl (by decide) ?_
  obtain ⟨I11, e12, h⟩ := ax_bs h
  refine ax_putI (q := 23) hX dc_K_swap_20 rfl fl_K_43 rfl hs0 (fun z => by cases z) rfl rfl e12 ?_
  refine ax_aload_n (q := 24) hX dc_K_swap_23 rfl rfl rfl ?_
  refine ax_iconst (v := 0) (q := 25) hX dc_K_swap_24 rfl (by decide) ?_
  obtain ⟨I13, e14, h⟩ := ax_bs h
  refine ax_putI (q := 28) hX dc_K_swap_25 rfl fl_K_46 rfl hs0 (fun z => by cases z) rfl rfl e14 ?_
  refine ax_aload_n (q := 29) hX dc_K_swap_28 rfl rfl rfl ?_
  obtain ⟨u15, hu16, h⟩ := ax_bd h
  have hs17 : S u15 = some (.inl 1) := hty.1 _ _ _ _ hs0 hu16
  refine ax_getR (q := 32) hX dc_K_swap_29 rfl fl_K_36 rfl hs0 hu16 ?_
  refine ax_getI (q := 35) hX dc_K_swap_32 rfl fl_K_69 rfl hs17 ?_
  cases h
  exact ax_iret hX hF dc_K_swap_35 rfl rfl (by decide) (by decide) ax_eq.mk (by rw [hS0]; exact fun _ _ z => z)
theorem t_K_swap {S : ax_S} {I : ax_I} {R : ax_R} {u0 : Nat} {out : Int32 × ax_I × ax_R} (hty : ax_typ S R) (hs0 : S u0 = some (.inl 4)) (h : d_K_swap S I R u0 = some out) : ax_typ S out.2.2 := by
  unfold d_K_swap at h
  obtain ⟨u1, hu2, h⟩ := ax_bd h
  have hs3 : S u1 = some (.inl 1) := hty.1 _ _ _ _ hs0 hu2
  obtain ⟨u4, hu5, h⟩ := ax_bd h
  have hs6 : S u4 = some (.inl 1) := hty.1 _ _ _ _ hs0 hu5
  obtain ⟨R7, e8, h⟩ := ax_bs h
  have hty : ax_typ S R7 := e8 ▸ ax_typ_f hty hs0 (show ax_is S u4 (ax_dt 4 4) from hs6)
  obtain ⟨R9, e10, h⟩ := ax_bs h
  have hty : ax_typ S R9 := e10 ▸ ax_typ_f hty hs0 (show ax_is S u1 (ax_dt 4 5) from hs3)
  obtain ⟨I11, e12, h⟩ := ax_bs h
  obtain ⟨I13, e14, h⟩ := ax_bs h
  obtain ⟨u15, hu16, h⟩ := ax_bd h
  have hs17 : S u15 = some (.inl 1) := hty.1 _ _ _ _ hs0 hu16
  cases h
  exact hty
def d_K_told (S : ax_S) (I : ax_I) (R : ax_R) (u0 : Nat) (x1 : Int32) : Option (Int32) :=
  if x1 = 0 then
    (R u0 4).bind fun u2 =>
    some (I u2 4)
  else
  if x1 = 1 then
    (R u0 4).bind fun u6 =>
    some (I u6 5)
  else
  if x1 = 2 then
    (R u0 4).bind fun u10 =>
    some (I u10 2)
  else
  if x1 = 3 then
    (R u0 4).bind fun u14 =>
    some (I u14 3)
  else
  if x1 = 4 then
    (R u0 2).bind fun u18 =>
    some (I u18 1)
  else
  if x1 = 5 then
    (R u0 5).bind fun u22 =>
    some (I u22 4)
  else
  if x1 = 6 then
    (R u0 5).bind fun u26 =>
    some (I u26 5)
  else
  if x1 = 7 then
    (R u0 5).bind fun u30 =>
    some (I u30 2)
  else
  if x1 = 8 then
    (R u0 5).bind fun u34 =>
    some (I u34 3)
  else
  some ((-1))
set_option maxHeartbeats 1000000 in
theorem c_K_told (l : Launch) {S : ax_S} {I : ax_I} {R : ax_R} {L : ax_L} {u0 : Nat} {x1 : Int32} {out : Int32} (hty : ax_typ S R) (hs0 : S u0 = some (.inl 4)) (h : d_K_told S I R u0 x1 = some out) : ax_Met l y_K_told b_K_told 2 (some .int) (ax_rm 1 0 0) [.ref u0, .int x1] S I R L (ax_eq (some (.int out)) S I R L) := by
  refine ax_enter (own := "LossFreeTools") (by decide +kernel) rfl (ax_cats rfl) (Nat.le_of_ble_eq_true rfl) (fun X hX hF _ hS0 => ?_)
  show ax_W X 2 0 [some (.ref u0), some (.int (x1))] [] S I R L 0 0
  unfold d_K_told at h
  refine ax_iload_n (q := 1) hX dc_K_told_0 rfl rfl rfl ?_
  by_cases z1 : x1 = 0
  · rw [if_pos z1] at h
    refine ax_tsIn (tgt := 52) hX dc_K_told_1 (by rw [z1]; decide) (by rw [z1]; decide) (by rw [z1]; rfl) (by decide) ?_
    refine ax_aload_n (q := 53) hX dc_K_told_52 rfl rfl rfl ?_
    obtain ⟨u2, hu3, h⟩ := ax_bd h
    have hs4 : S u2 = some (.inl 1) := hty.1 _ _ _ _ hs0 hu3
    refine ax_getR (q := 56) hX dc_K_told_53 rfl fl_K_36 rfl hs0 hu3 ?_
    refine ax_getI (q := 59) hX dc_K_told_56 rfl fl_K_243 rfl hs4 ?_
    cases h
    exact ax_iret hX hF dc_K_told_59 rfl rfl (by decide) (by decide) ax_eq.mk (by rw [hS0]; exact fun _ _ z => z)
  rw [if_neg z1] at h
  by_cases z5 : x1 = 1
  · rw [if_pos z5] at h
    refine ax_tsIn (tgt := 60) hX dc_K_told_1 (by rw [z5]; decide) (by rw [z5]; decide) (by rw [z5]; rfl) (by decide) ?_
    refine ax_aload_n (q := 61) hX dc_K_told_60 rfl rfl rfl ?_
    obtain ⟨u6, hu7, h⟩ := ax_bd h
    have hs8 : S u6 = some (.inl 1) := hty.1 _ _ _ _ hs0 hu7
    refine ax_getR (q := 64) hX dc_K_told_61 rfl fl_K_36 rfl hs0 hu7 ?_
    refine ax_getI (q := 67) hX dc_K_told_64 rfl fl_K_246 rfl hs8 ?_
    cases h
    exact ax_iret hX hF dc_K_told_67 rfl rfl (by decide) (by decide) ax_eq.mk (by rw [hS0]; exact fun _ _ z => z)
  rw [if_neg z5] at h
  by_cases z9 : x1 = 2
  · rw [if_pos z9] at h
    refine ax_tsIn (tgt := 68) hX dc_K_told_1 (by rw [z9]; decide) (by rw [z9]; decide) (by rw [z9]; rfl) (by decide) ?_
    refine ax_aload_n (q := 69) hX dc_K_told_68 rfl rfl rfl ?_
    obtain ⟨u10, hu11, h⟩ := ax_bd h
    have hs12 : S u10 = some (.inl 1) := hty.1 _ _ _ _ hs0 hu11
    refine ax_getR (q := 72) hX dc_K_told_69 rfl fl_K_36 rfl hs0 hu11 ?_
    refine ax_getI (q := 75) hX dc_K_told_72 rfl fl_K_69 rfl hs12 ?_
    cases h
    exact ax_iret hX hF dc_K_told_75 rfl rfl (by decide) (by decide) ax_eq.mk (by rw [hS0]; exact fun _ _ z => z)
  rw [if_neg z9] at h
  by_cases z13 : x1 = 3
  · rw [if_pos z13] at h
    refine ax_tsIn (tgt := 76) hX dc_K_told_1 (by rw [z13]; decide) (by rw [z13]; decide) (by rw [z13]; rfl) (by decide) ?_
    refine ax_aload_n (q := 77) hX dc_K_told_76 rfl rfl rfl ?_
    obtain ⟨u14, hu15, h⟩ := ax_bd h
    have hs16 : S u14 = some (.inl 1) := hty.1 _ _ _ _ hs0 hu15
    refine ax_getR (q := 80) hX dc_K_told_77 rfl fl_K_36 rfl hs0 hu15 ?_
    refine ax_getI (q := 83) hX dc_K_told_80 rfl fl_K_115 rfl hs16 ?_
    cases h
    exact ax_iret hX hF dc_K_told_83 rfl rfl (by decide) (by decide) ax_eq.mk (by rw [hS0]; exact fun _ _ z => z)
  rw [if_neg z13] at h
  by_cases z17 : x1 = 4
  · rw [if_pos z17] at h
    refine ax_tsIn (tgt := 84) hX dc_K_told_1 (by rw [z17]; decide) (by rw [z17]; decide) (by rw [z17]; rfl) (by decide) ?_
    refine ax_aload_n (q := 85) hX dc_K_told_84 rfl rfl rfl ?_
    obtain ⟨u18, hu19, h⟩ := ax_bd h
    have hs20 : S u18 = some (.inl 2) := hty.1 _ _ _ _ hs0 hu19
    refine ax_getR (q := 88) hX dc_K_told_85 rfl fl_K_23 rfl hs0 hu19 ?_
    refine ax_getI (q := 91) hX dc_K_told_88 rfl fl_K_239 rfl hs20 ?_
    cases h
    exact ax_iret hX hF dc_K_told_91 rfl rfl (by decide) (by decide) ax_eq.mk (by rw [hS0]; exact fun _ _ z => z)
  rw [if_neg z17] at h
  by_cases z21 : x1 = 5
  · rw [if_pos z21] at h
    refine ax_tsIn (tgt := 92) hX dc_K_told_1 (by rw [z21]; decide) (by rw [z21]; decide) (by rw [z21]; rfl) (by decide) ?_
    refine ax_aload_n (q := 93) hX dc_K_told_92 rfl rfl rfl ?_
    obtain ⟨u22, hu23, h⟩ := ax_bd h
    have hs24 : S u22 = some (.inl 1) := hty.1 _ _ _ _ hs0 hu23
    refine ax_getR (q := 96) hX dc_K_told_93 rfl fl_K_40 rfl hs0 hu23 ?_
    refine ax_getI (q := 99) hX dc_K_told_96 rfl fl_K_243 rfl hs24 ?_
    cases h
    exact ax_iret hX hF dc_K_told_99 rfl rfl (by decide) (by decide) ax_eq.mk (by rw [hS0]; exact fun _ _ z => z)
  rw [if_neg z21] at h
  by_cases z25 : x1 = 6
  · rw [if_pos z25] at h
    refine ax_tsIn (tgt := 100) hX dc_K_told_1 (by rw [z25]; decide) (by rw [z25]; decide) (by rw [z25]; rfl) (by decide) ?_
    refine ax_aload_n (q := 101) hX dc_K_told_100 rfl rfl rfl ?_
    obtain ⟨u26, hu27, h⟩ := ax_bd h
    have hs28 : S u26 = some (.inl 1) := hty.1 _ _ _ _ hs0 hu27
    refine ax_getR (q := 104) hX dc_K_told_101 rfl fl_K_40 rfl hs0 hu27 ?_
    refine ax_getI (q := 107) hX dc_K_told_104 rfl fl_K_246 rfl hs28 ?_
    cases h
    exact ax_iret hX hF dc_K_told_107 rfl rfl (by decide) (by decide) ax_eq.mk (by rw [hS0]; exact fun _ _ z => z)
  rw [if_neg z25] at h
  by_cases z29 : x1 = 7
  · rw [if_pos z29] at h
    refine ax_tsIn (tgt := 108) hX dc_K_told_1 (by rw [z29]; decide) (by rw [z29]; decide) (by rw [z29]; rfl) (by decide) ?_
    refine ax_aload_n (q := 109) hX dc_K_told_108 rfl rfl rfl ?_
    obtain ⟨u30, hu31, h⟩ := ax_bd h
    have hs32 : S u30 = some (.inl 1) := hty.1 _ _ _ _ hs0 hu31
    refine ax_getR (q := 112) hX dc_K_told_109 rfl fl_K_40 rfl hs0 hu31 ?_
    refine ax_getI (q := 115) hX dc_K_told_112 rfl fl_K_69 rfl hs32 ?_
    cases h
    exact ax_iret hX hF dc_K_told_115 rfl rfl (by decide) (by decide) ax_eq.mk (by rw [hS0]; exact fun _ _ z => z)
  rw [if_neg z29] at h
  by_cases z33 : x1 = 8
  · rw [if_pos z33] at h
    refine ax_tsIn (tgt := 116) hX dc_K_told_1 (by rw [z33]; decide) (by rw [z33]; decide) (by rw [z33]; rfl) (by decide) ?_
    refine ax_aload_n (q := 117) hX dc_K_told_116 rfl rfl rfl ?_
    obtain ⟨u34, hu35, h⟩ := ax_bd h
    have hs36 : S u34 = some (.inl 1) := hty.1 _ _ _ _ hs0 hu35
    refine ax_getR (q := 120) hX dc_K_told_117 rfl fl_K_40 rfl hs0 hu35 ?_
    refine ax_getI (q := 123) hX dc_K_told_120 rfl fl_K_115 rfl hs36 ?_
    cases h
    exact ax_iret hX hF dc_K_told_123 rfl rfl (by decide) (by decide) ax_eq.mk (by rw [hS0]; exact fun _ _ z => z)
  rw [if_neg z33] at h
  refine ax_tsOut (tgt := 124) hX dc_K_told_1 (ax_out9 z1 z5 z9 z13 z17 z21 z25 z29 z33) (by decide) ?_
  refine ax_iconst (v := (-1)) (q := 125) hX dc_K_told_124 rfl (by decide) ?_
  cases h
  exact ax_iret hX hF dc_K_told_125 rfl rfl (by decide) (by decide) ax_eq.mk (by rw [hS0]; exact fun _ _ z => z)
def d_P_overlapsTile_3 (S : ax_S) : Nat → ax_I → ax_R → Nat → Int32 → Int32 → Int32 → Int32 → Int32 → Option (Bool)
  | 0, _, _, _, _, _, _, _, _ => none
  | n + 1, I, R, u0, x1, x2, x3, x4, x5 =>
    if (I u0 2) ≤ x5 then
      some (false)
    else
      (R u0 0).bind fun u2 =>
      (ax_ix S u2 (x5)).bind fun j6 =>
      (R u2 j6).bind fun u8 =>
      (d_T_overlaps S I R u8 (x1) (x2) (x3) (x4)).bind fun r13 =>
      if (ax_b r13) = 0 then
        d_P_overlapsTile_3 S  n I R u0 (x1) (x2) (x3) (x4) (x5 + 1)
      else
        some (true)
set_option maxHeartbeats 1000000 in
theorem e_P_overlapsTile_3 {l : Launch} {X : ax_X} {S : ax_S} {L : ax_L} {I0 : ax_I} {R0 : ax_R} {out : Bool} (hX : ax_ok X l "LossFreeTools$Picture" b_P_overlapsTile 6 (ax_rm 2 0 0)) (hF : ax_fin X (some .boolean) 0 0 (ax_of (ax_eq (some (.int (ax_b out))) S I0 R0 L))) (hS0 : ax_S0 X = S) : ∀ (n : Nat), ∀ (I : ax_I) (R : ax_R) (u0 : Nat) (x1 : Int32) (x2 : Int32) (x3 : Int32) (x4 : Int32) (x5 : Int32), ax_typ S R → (S u0 = some (.inl 1)) → I = I0 → R = R0 → d_P_overlapsTile_3 S  n I R u0 x1 x2 x3 x4 x5 = some out → ax_W X 6 3 [some (.ref u0), some (.int (x1)), some (.int (x2)), some (.int (x3)), some (.int (x4)), some (.int (x5))] [] S I R L 0 0 := by
  intro n
  induction n with
  | zero =>
    rintro I R u0 x1 x2 x3 x4 x5 hty hs0_ hI0 hR0 h
    cases h
  | succ n ih =>
    rintro I R u0 x1 x2 x3 x4 x5 hty hs0_ hI0 hR0 h
    subst hI0
    subst hR0
    unfold d_P_overlapsTile_3 at h
    refine ax_iload (q := 5) hX dc_P_overlapsTile_3 rfl rfl ?_
    refine ax_aload_n (q := 6) hX dc_P_overlapsTile_5 rfl rfl rfl ?_
    refine ax_getI (q := 9) hX dc_P_overlapsTile_6 rfl fl_P_32 rfl hs0_ ?_
    refine ax_icmp_ge (tgt := 38) (q := 12) hX dc_P_overlapsTile_9 rfl (by decide) (fun z1 => ?_) (fun z1 => ?_)
    · rw [if_pos z1] at h
      refine ax_iconst (v := 0) (q := 39) hX dc_P_overlapsTile_38 rfl (by decide) ?_
      cases h
      exact ax_iret hX hF dc_P_overlapsTile_39 rfl rfl (by decide) (by decide) ax_eq.mk (by rw [hS0]; exact fun _ _ z => z)
    · rw [if_neg z1] at h
      refine ax_aload_n (q := 13) hX dc_P_overlapsTile_12 rfl rfl rfl ?_
      obtain ⟨u2, hu3, h⟩ := ax_bd h
      obtain ⟨n5, hs4⟩ : ∃ n, S u2 = some (.inr (2, n)) := hty.1 _ _ _ _ hs0_ hu3
      refine ax_getR (q := 16) hX dc_P_overlapsTile_13 rfl fl_P_11 rfl hs0_ hu3 ?_
      refine ax_iload (q := 18) hX dc_P_overlapsTile_16 rfl rfl ?_
      obtain ⟨j6, hj7, h⟩ := ax_bd h
      have hj7 := ax_ix_s hty hs4 hj7
      obtain ⟨u8, hu9, h⟩ := ax_bd h
      have hs10 : S u8 = some (.inl 3) := hty.2.1 _ _ _ _ hs4 hu9
      refine ax_aald (q := 19) hX j6 dc_P_overlapsTile_18 rfl hs4 rfl rfl hj7.1 hj7.2.1 hj7.2.2 hu9 ?_
      refine ax_iload_n (q := 20) hX dc_P_overlapsTile_19 rfl rfl rfl ?_
      refine ax_iload_n (q := 21) hX dc_P_overlapsTile_20 rfl rfl rfl ?_
      refine ax_iload_n (q := 22) hX dc_P_overlapsTile_21 rfl rfl rfl ?_
      refine ax_iload (q := 24) hX dc_P_overlapsTile_22 rfl rfl ?_
      obtain ⟨r13, hr11, h⟩ := ax_bd h
      refine ax_kV (vs := [.int (x1), .int (x2), .int (x3), .int (x4)]) (rest := []) (q := 27) hX dc_P_overlapsTile_24 rfl mt_T_overlaps wl_P_38 wi_T_overlaps ws_T_overlaps hs10 rfl (c_T_overlaps l hty hs10 hr11) rfl (by decide) rfl (Nat.le_of_ble_eq_true rfl) rfl rfl (by decide) (by decide) rfl ?_
      refine ax_if_eq (tgt := 32) (q := 30) hX dc_P_overlapsTile_27 rfl (by decide) (fun z14 => ?_) (fun z14 => ?_)
      · rw [if_pos z14] at h
        refine ax_iinc (v := x5 + 1) (ls' := [some (.ref u0), some (.int (x1)), some (.int (x2)), some (.int (x3)), some (.int (x4)), some (.int (x5 + 1))]) (q := 35) hX dc_P_overlapsTile_32 rfl rfl rfl (by decide) rfl ?_
        refine ax_goto (tgt := 3) hX dc_P_overlapsTile_35 (by decide) ?_
        exact (ih I R u0 (x1) (x2) (x3) (x4) (x5 + 1) hty hs0_ rfl rfl h)
      · rw [if_neg z14] at h
        refine ax_iconst (v := 1) (q := 31) hX dc_P_overlapsTile_30 rfl (by decide) ?_
        cases h
        exact ax_iret hX hF dc_P_overlapsTile_31 rfl rfl (by decide) (by decide) ax_eq.mk (by rw [hS0]; exact fun _ _ z => z)
def d_P_overlapsTile (S : ax_S) (I : ax_I) (R : ax_R) (u0 : Nat) (x1 : Int32) (x2 : Int32) (x3 : Int32) (x4 : Int32) : Option (Bool) :=
  d_P_overlapsTile_3 S  5000 I R u0 (x1) (x2) (x3) (x4) (0)
set_option maxHeartbeats 1000000 in
theorem c_P_overlapsTile (l : Launch) {S : ax_S} {I : ax_I} {R : ax_R} {L : ax_L} {u0 : Nat} {x1 : Int32} {x2 : Int32} {x3 : Int32} {x4 : Int32} {out : Bool} (hty : ax_typ S R) (hs0 : S u0 = some (.inl 1)) (h : d_P_overlapsTile S I R u0 x1 x2 x3 x4 = some out) : ax_Met l y_P_overlapsTile b_P_overlapsTile 6 (some .boolean) (ax_rm 2 0 0) [.ref u0, .int x1, .int x2, .int x3, .int x4] S I R L (ax_eq (some (.int (ax_b out))) S I R L) := by
  refine ax_enter (own := "LossFreeTools$Picture") (by decide +kernel) rfl (ax_cats rfl) (Nat.le_of_ble_eq_true rfl) (fun X hX hF _ hS0 => ?_)
  show ax_W X 6 0 [some (.ref u0), some (.int (x1)), some (.int (x2)), some (.int (x3)), some (.int (x4)), none] [] S I R L 0 0
  unfold d_P_overlapsTile at h
  refine ax_iconst (v := 0) (q := 1) hX dc_P_overlapsTile_0 rfl (by decide) ?_
  refine ax_istore (ls' := [some (.ref u0), some (.int (x1)), some (.int (x2)), some (.int (x3)), some (.int (x4)), some (.int (0))]) (q := 3) hX dc_P_overlapsTile_1 rfl (by decide) rfl ?_
  exact (e_P_overlapsTile_3 hX hF hS0  5000 I R u0 (x1) (x2) (x3) (x4) (0) hty hs0 rfl rfl h)
def d_P_tileOver_2 (S : ax_S) : Nat → ax_I → ax_R → Nat → Int32 → Int32 → Int32 → Option (Int32)
  | 0, _, _, _, _, _, _ => none
  | n + 1, I, R, u0, x1, x2, x3 =>
    if (I u0 2) ≤ x3 then
      some ((-1))
    else
      (R u0 0).bind fun u2 =>
      (ax_ix S u2 (x3)).bind fun j6 =>
      (R u2 j6).bind fun u8 =>
      (d_T_overlaps S I R u8 (x1) (x2) (1) (1)).bind fun r13 =>
      if (ax_b r13) = 0 then
        d_P_tileOver_2 S  n I R u0 (x1) (x2) (x3 + 1)
      else
        some (x3)
set_option maxHeartbeats 1000000 in
theorem e_P_tileOver_2 {l : Launch} {X : ax_X} {S : ax_S} {L : ax_L} {I0 : ax_I} {R0 : ax_R} {out : Int32} (hX : ax_ok X l "LossFreeTools$Picture" b_P_tileOver 4 (ax_rm 2 0 0)) (hF : ax_fin X (some .int) 0 0 (ax_of (ax_eq (some (.int out)) S I0 R0 L))) (hS0 : ax_S0 X = S) : ∀ (n : Nat), ∀ (I : ax_I) (R : ax_R) (u0 : Nat) (x1 : Int32) (x2 : Int32) (x3 : Int32), ax_typ S R → (S u0 = some (.inl 1)) → I = I0 → R = R0 → d_P_tileOver_2 S  n I R u0 x1 x2 x3 = some out → ax_W X 4 2 [some (.ref u0), some (.int (x1)), some (.int (x2)), some (.int (x3))] [] S I R L 0 0 := by
  intro n
  induction n with
  | zero =>
    rintro I R u0 x1 x2 x3 hty hs0_ hI0 hR0 h
    cases h
  | succ n ih =>
    rintro I R u0 x1 x2 x3 hty hs0_ hI0 hR0 h
    subst hI0
    subst hR0
    unfold d_P_tileOver_2 at h
    refine ax_iload_n (q := 3) hX dc_P_tileOver_2 rfl rfl rfl ?_
    refine ax_aload_n (q := 4) hX dc_P_tileOver_3 rfl rfl rfl ?_
    refine ax_getI (q := 7) hX dc_P_tileOver_4 rfl fl_P_32 rfl hs0_ ?_
    refine ax_icmp_ge (tgt := 34) (q := 10) hX dc_P_tileOver_7 rfl (by decide) (fun z1 => ?_) (fun z1 => ?_)
    · rw [if_pos z1] at h
      refine ax_iconst (v := (-1)) (q := 35) hX dc_P_tileOver_34 rfl (by decide) ?_
      cases h
      exact ax_iret hX hF dc_P_tileOver_35 rfl rfl (by decide) (by decide) ax_eq.mk (by rw [hS0]; exact fun _ _ z => z)
    · rw [if_neg z1] at h
      refine ax_aload_n (q := 11) hX dc_P_tileOver_10 rfl rfl rfl ?_
      obtain ⟨u2, hu3, h⟩ := ax_bd h
      obtain ⟨n5, hs4⟩ : ∃ n, S u2 = some (.inr (2, n)) := hty.1 _ _ _ _ hs0_ hu3
      refine ax_getR (q := 14) hX dc_P_tileOver_11 rfl fl_P_11 rfl hs0_ hu3 ?_
      refine ax_iload_n (q := 15) hX dc_P_tileOver_14 rfl rfl rfl ?_
      obtain ⟨j6, hj7, h⟩ := ax_bd h
      have hj7 := ax_ix_s hty hs4 hj7
      obtain ⟨u8, hu9, h⟩ := ax_bd h
      have hs10 : S u8 = some (.inl 3) := hty.2.1 _ _ _ _ hs4 hu9
      refine ax_aald (q := 16) hX j6 dc_P_tileOver_15 rfl hs4 rfl rfl hj7.1 hj7.2.1 hj7.2.2 hu9 ?_
      refine ax_iload_n (q := 17) hX dc_P_tileOver_16 rfl rfl rfl ?_
      refine ax_iload_n (q := 18) hX dc_P_tileOver_17 rfl rfl rfl ?_
      refine ax_iconst (v := 1) (q := 19) hX dc_P_tileOver_18 rfl (by decide) ?_
      refine ax_iconst (v := 1) (q := 20) hX dc_P_tileOver_19 rfl (by decide) ?_
      obtain ⟨r13, hr11, h⟩ := ax_bd h
      refine ax_kV (vs := [.int (x1), .int (x2), .int (1), .int (1)]) (rest := []) (q := 23) hX dc_P_tileOver_20 rfl mt_T_overlaps wl_P_38 wi_T_overlaps ws_T_overlaps hs10 rfl (c_T_overlaps l hty hs10 hr11) rfl (by decide) rfl (Nat.le_of_ble_eq_true rfl) rfl rfl (by decide) (by decide) rfl ?_
      refine ax_if_eq (tgt := 28) (q := 26) hX dc_P_tileOver_23 rfl (by decide) (fun z14 => ?_) (fun z14 => ?_)
      · rw [if_pos z14] at h
        refine ax_iinc (v := x3 + 1) (ls' := [some (.ref u0), some (.int (x1)), some (.int (x2)), some (.int (x3 + 1))]) (q := 31) hX dc_P_tileOver_28 rfl rfl rfl (by decide) rfl ?_
        refine ax_goto (tgt := 2) hX dc_P_tileOver_31 (by decide) ?_
        exact (ih I R u0 (x1) (x2) (x3 + 1) hty hs0_ rfl rfl h)
      · rw [if_neg z14] at h
        refine ax_iload_n (q := 27) hX dc_P_tileOver_26 rfl rfl rfl ?_
        cases h
        exact ax_iret hX hF dc_P_tileOver_27 rfl rfl (by decide) (by decide) ax_eq.mk (by rw [hS0]; exact fun _ _ z => z)
def d_P_tileOver (S : ax_S) (I : ax_I) (R : ax_R) (u0 : Nat) (x1 : Int32) (x2 : Int32) : Option (Int32) :=
  d_P_tileOver_2 S  5000 I R u0 (x1) (x2) (0)
set_option maxHeartbeats 1000000 in
theorem c_P_tileOver (l : Launch) {S : ax_S} {I : ax_I} {R : ax_R} {L : ax_L} {u0 : Nat} {x1 : Int32} {x2 : Int32} {out : Int32} (hty : ax_typ S R) (hs0 : S u0 = some (.inl 1)) (h : d_P_tileOver S I R u0 x1 x2 = some out) : ax_Met l y_P_tileOver b_P_tileOver 4 (some .int) (ax_rm 2 0 0) [.ref u0, .int x1, .int x2] S I R L (ax_eq (some (.int out)) S I R L) := by
  refine ax_enter (own := "LossFreeTools$Picture") (by decide +kernel) rfl (ax_cats rfl) (Nat.le_of_ble_eq_true rfl) (fun X hX hF _ hS0 => ?_)
  show ax_W X 4 0 [some (.ref u0), some (.int (x1)), some (.int (x2)), none] [] S I R L 0 0
  unfold d_P_tileOver at h
  refine ax_iconst (v := 0) (q := 1) hX dc_P_tileOver_0 rfl (by decide) ?_
  refine ax_istore_n (ls' := [some (.ref u0), some (.int (x1)), some (.int (x2)), some (.int (0))]) (q := 2) hX dc_P_tileOver_1 rfl rfl (by decide) rfl ?_
  exact (e_P_tileOver_2 hX hF hS0  5000 I R u0 (x1) (x2) (0) hty hs0 rfl rfl h)
def d_P_addTile (S : ax_S) (I : ax_I) (R : ax_R) (u0 : Nat) (x1 : Int32) (x2 : Int32) (x3 : Int32) (x4 : Int32) : Option (Int32 × ax_I) :=
  (R u0 0).bind fun u1 =>
  if (I u0 2) < (nI (ax_len S u1)) then
    (R u0 0).bind fun u6 =>
    (ax_ix S u6 (I u0 2)).bind fun j10 =>
    (R u6 j10).bind fun u12 =>
    (d_T_startAnew S I R u12 (x1) (x2) (x3) (x4)).bind fun I17 =>
    (some (ax_up I17 u0 2 ((I17 u0 2) + 1))).bind fun I18 =>
    some ((I18 u0 2) - 1, I18)
  else
    some ((-1), I)
set_option maxHeartbeats 1000000 in
theorem c_P_addTile (l : Launch) {S : ax_S} {I : ax_I} {R : ax_R} {L : ax_L} {u0 : Nat} {x1 : Int32} {x2 : Int32} {x3 : Int32} {x4 : Int32} {out : Int32 × ax_I} (hty : ax_typ S R) (hs0 : S u0 = some (.inl 1)) (h : d_P_addTile S I R u0 x1 x2 x3 x4 = some out) : ax_Met l y_P_addTile b_P_addTile 5 (some .int) (ax_rm 2 0 0) [.ref u0, .int x1, .int x2, .int x3, .int x4] S I R L (ax_eq (some (.int out.1)) S out.2 R L) := by
  refine ax_enter (own := "LossFreeTools$Picture") (by decide +kernel) rfl (ax_cats rfl) (Nat.le_of_ble_eq_true rfl) (fun X hX hF _ hS0 => ?_)
  show ax_W X 5 0 [some (.ref u0), some (.int (x1)), some (.int (x2)), some (.int (x3)), some (.int (x4))] [] S I R L 0 0
  unfold d_P_addTile at h
  refine ax_aload_n (q := 1) hX dc_P_addTile_0 rfl rfl rfl ?_
  refine ax_getI (q := 4) hX dc_P_addTile_1 rfl fl_P_32 rfl hs0 ?_
  refine ax_aload_n (q := 5) hX dc_P_addTile_4 rfl rfl rfl ?_
  obtain ⟨u1, hu2, h⟩ := ax_bd h
  obtain ⟨n4, hs3⟩ : ∃ n, S u1 = some (.inr (2, n)) := hty.1 _ _ _ _ hs0 hu2
  refine ax_getR (q := 8) hX dc_P_addTile_5 rfl fl_P_11 rfl hs0 hu2 ?_
  refine ax_alen (q := 9) hX dc_P_addTile_8 rfl hs3 ?_
  rw [← ax_len_s hs3]
  refine ax_icmp_lt (tgt := 14) (q := 12) hX dc_P_addTile_9 rfl (by decide) (fun z5 => ?_) (fun z5 => ?_)
  · rw [if_pos z5] at h
    refine ax_aload_n (q := 15) hX dc_P_addTile_14 rfl rfl rfl ?_
    obtain ⟨u6, hu7, h⟩ := ax_bd h
    obtain ⟨n9, hs8⟩ : ∃ n, S u6 = some (.inr (2, n)) := hty.1 _ _ _ _ hs0 hu7
    refine ax_getR (q := 18) hX dc_P_addTile_15 rfl fl_P_11 rfl hs0 hu7 ?_
    refine ax_aload_n (q := 19) hX dc_P_addTile_18 rfl rfl rfl ?_
    refine ax_getI (q := 22) hX dc_P_addTile_19 rfl fl_P_32 rfl hs0 ?_
    obtain ⟨j10, hj11, h⟩ := ax_bd h
    have hj11 := ax_ix_s hty hs8 hj11
    obtain ⟨u12, hu13, h⟩ := ax_bd h
    have hs14 : S u12 = some (.inl 3) := hty.2.1 _ _ _ _ hs8 hu13
    refine ax_aald (q := 23) hX j10 dc_P_addTile_22 rfl hs8 rfl rfl hj11.1 hj11.2.1 hj11.2.2 hu13 ?_
    refine ax_iload_n (q := 24) hX dc_P_addTile_23 rfl rfl rfl ?_
    refine ax_iload_n (q := 25) hX dc_P_addTile_24 rfl rfl rfl ?_
    refine ax_iload_n (q := 26) hX dc_P_addTile_25 rfl rfl rfl ?_
    refine ax_iload (q := 28) hX dc_P_addTile_26 rfl rfl ?_
    obtain ⟨I17, hr15, h⟩ := ax_bd h
    refine ax_kV (vs := [.int (x1), .int (x2), .int (x3), .int (x4)]) (rest := []) (q := 31) hX dc_P_addTile_28 rfl mt_T_startAnew wl_P_42 wi_T_startAnew ws_T_startAnew hs14 rfl (c_T_startAnew l hty hs14 hr15) rfl (by decide) rfl (Nat.le_of_ble_eq_true rfl) rfl rfl (by decide) (by decide) rfl ?_
    refine ax_aload_n (q := 32) hX dc_P_addTile_31 rfl rfl rfl ?_
    refine ax_dup (q := 33) hX dc_P_addTile_32 rfl rfl ?_
    refine ax_getI (q := 36) hX dc_P_addTile_33 rfl fl_P_32 rfl hs0 ?_
    refine ax_iconst (v := 1) (q := 37) hX dc_P_addTile_36 rfl (by decide) ?_
    refine ax_iadd (q := 38) hX dc_P_addTile_37 rfl ?_
    obtain ⟨I18, e19, h⟩ := ax_bs h
    refine ax_putI (q := 41) hX dc_P_addTile_38 rfl fl_P_32 rfl hs0 (fun z => by cases z) rfl rfl e19 ?_
    refine ax_aload_n (q := 42) hX dc_P_addTile_41 rfl rfl rfl ?_
    refine ax_getI (q := 45) hX dc_P_addTile_42 rfl fl_P_32 rfl hs0 ?_
    refine ax_iconst (v := 1) (q := 46) hX dc_P_addTile_45 rfl (by decide) ?_
    refine ax_isub (q := 47) hX dc_P_addTile_46 rfl ?_
    cases h
    exact ax_iret hX hF dc_P_addTile_47 rfl rfl (by decide) (by decide) ax_eq.mk (by rw [hS0]; exact fun _ _ z => z)
  · rw [if_neg z5] at h
    refine ax_iconst (v := (-1)) (q := 13) hX dc_P_addTile_12 rfl (by decide) ?_
    cases h
    exact ax_iret hX hF dc_P_addTile_13 rfl rfl (by decide) (by decide) ax_eq.mk (by rw [hS0]; exact fun _ _ z => z)
def d_P_addNote (S : ax_S) (I : ax_I) (R : ax_R) (u0 : Nat) (x1 : Int32) (x2 : Int32) (x3 : Int32) : Option (Int32 × ax_I) :=
  (R u0 1).bind fun u1 =>
  if (nI (ax_len S u1)) ≤ (I u0 3) then
    some (I u0 3, I)
  else
    (R u0 1).bind fun u6 =>
    (ax_ix S u6 (I u0 3)).bind fun j10 =>
    (R u6 j10).bind fun u12 =>
    (d_N_startAnew S I R u12 (x1) (x2) (x3)).bind fun I17 =>
    (some (ax_up I17 u0 3 ((I17 u0 3) + 1))).bind fun I18 =>
    some (I18 u0 3, I18)
set_option maxHeartbeats 1000000 in
theorem c_P_addNote (l : Launch) {S : ax_S} {I : ax_I} {R : ax_R} {L : ax_L} {u0 : Nat} {x1 : Int32} {x2 : Int32} {x3 : Int32} {out : Int32 × ax_I} (hty : ax_typ S R) (hs0 : S u0 = some (.inl 1)) (h : d_P_addNote S I R u0 x1 x2 x3 = some out) : ax_Met l y_P_addNote b_P_addNote 4 (some .int) (ax_rm 2 0 0) [.ref u0, .int x1, .int x2, .int x3] S I R L (ax_eq (some (.int out.1)) S out.2 R L) := by
  refine ax_enter (own := "LossFreeTools$Picture") (by decide +kernel) rfl (ax_cats rfl) (Nat.le_of_ble_eq_true rfl) (fun X hX hF _ hS0 => ?_)
  show ax_W X 4 0 [some (.ref u0), some (.int (x1)), some (.int (x2)), some (.int (x3))] [] S I R L 0 0
  unfold d_P_addNote at h
  refine ax_aload_n (q := 1) hX dc_P_addNote_0 rfl rfl rfl ?_
  refine ax_getI (q := 4) hX dc_P_addNote_1 rfl fl_P_35 rfl hs0 ?_
  refine ax_aload_n (q := 5) hX dc_P_addNote_4 rfl rfl rfl ?_
  obtain ⟨u1, hu2, h⟩ := ax_bd h
  obtain ⟨n4, hs3⟩ : ∃ n, S u1 = some (.inr (3, n)) := hty.1 _ _ _ _ hs0 hu2
  refine ax_getR (q := 8) hX dc_P_addNote_5 rfl fl_P_20 rfl hs0 hu2 ?_
  refine ax_alen (q := 9) hX dc_P_addNote_8 rfl hs3 ?_
  rw [← ax_len_s hs3]
  refine ax_icmp_ge (tgt := 37) (q := 12) hX dc_P_addNote_9 rfl (by decide) (fun z5 => ?_) (fun z5 => ?_)
  · rw [if_pos z5] at h
    refine ax_aload_n (q := 38) hX dc_P_addNote_37 rfl rfl rfl ?_
    refine ax_getI (q := 41) hX dc_P_addNote_38 rfl fl_P_35 rfl hs0 ?_
    cases h
    exact ax_iret hX hF dc_P_addNote_41 rfl rfl (by decide) (by decide) ax_eq.mk (by rw [hS0]; exact fun _ _ z => z)
  · rw [if_neg z5] at h
    refine ax_aload_n (q := 13) hX dc_P_addNote_12 rfl rfl rfl ?_
    obtain ⟨u6, hu7, h⟩ := ax_bd h
    obtain ⟨n9, hs8⟩ : ∃ n, S u6 = some (.inr (3, n)) := hty.1 _ _ _ _ hs0 hu7
    refine ax_getR (q := 16) hX dc_P_addNote_13 rfl fl_P_20 rfl hs0 hu7 ?_
    refine ax_aload_n (q := 17) hX dc_P_addNote_16 rfl rfl rfl ?_
    refine ax_getI (q := 20) hX dc_P_addNote_17 rfl fl_P_35 rfl hs0 ?_
    obtain ⟨j10, hj11, h⟩ := ax_bd h
    have hj11 := ax_ix_s hty hs8 hj11
    obtain ⟨u12, hu13, h⟩ := ax_bd h
    have hs14 : S u12 = some (.inl 0) := hty.2.2.1 _ _ _ _ hs8 hu13
    refine ax_aald (q := 21) hX j10 dc_P_addNote_20 rfl hs8 rfl rfl hj11.1 hj11.2.1 hj11.2.2 hu13 ?_
    refine ax_iload_n (q := 22) hX dc_P_addNote_21 rfl rfl rfl ?_
    refine ax_iload_n (q := 23) hX dc_P_addNote_22 rfl rfl rfl ?_
    refine ax_iload_n (q := 24) hX dc_P_addNote_23 rfl rfl rfl ?_
    obtain ⟨I17, hr15, h⟩ := ax_bd h
    refine ax_kV (vs := [.int (x1), .int (x2), .int (x3)]) (rest := []) (q := 27) hX dc_P_addNote_24 rfl mt_N_startAnew wl_P_46 wi_N_startAnew ws_N_startAnew hs14 rfl (c_N_startAnew l hty hs14 hr15) rfl (by decide) rfl (Nat.le_of_ble_eq_true rfl) rfl rfl (by decide) (by decide) rfl ?_
    refine ax_aload_n (q := 28) hX dc_P_addNote_27 rfl rfl rfl ?_
    refine ax_dup (q := 29) hX dc_P_addNote_28 rfl rfl ?_
    refine ax_getI (q := 32) hX dc_P_addNote_29 rfl fl_P_35 rfl hs0 ?_
    refine ax_iconst (v := 1) (q := 33) hX dc_P_addNote_32 rfl (by decide) ?_
    refine ax_iadd (q := 34) hX dc_P_addNote_33 rfl ?_
    obtain ⟨I18, e19, h⟩ := ax_bs h
    refine ax_putI (q := 37) hX dc_P_addNote_34 rfl fl_P_35 rfl hs0 (fun z => by cases z) rfl rfl e19 ?_
    refine ax_aload_n (q := 38) hX dc_P_addNote_37 rfl rfl rfl ?_
    refine ax_getI (q := 41) hX dc_P_addNote_38 rfl fl_P_35 rfl hs0 ?_
    cases h
    exact ax_iret hX hF dc_P_addNote_41 rfl rfl (by decide) (by decide) ax_eq.mk (by rw [hS0]; exact fun _ _ z => z)
def d_P_borderFits_2 (S : ax_S) : Nat → ax_I → ax_R → Nat → Int32 → Int32 → Int32 → Option (Bool)
  | 0, _, _, _, _, _, _ => none
  | n + 1, I, R, u0, x1, x2, x3 =>
    if (I u0 2) ≤ x3 then
      some (true)
    else
      (R u0 0).bind fun u2 =>
      (ax_ix S u2 (x3)).bind fun j6 =>
      (R u2 j6).bind fun u8 =>
      (d_T_crosses S I R u8 (x1) (x2)).bind fun r13 =>
      if (ax_b r13) = 0 then
        d_P_borderFits_2 S  n I R u0 (x1) (x2) (x3 + 1)
      else
        some (false)
set_option maxHeartbeats 1000000 in
theorem e_P_borderFits_2 {l : Launch} {X : ax_X} {S : ax_S} {L : ax_L} {I0 : ax_I} {R0 : ax_R} {out : Bool} (hX : ax_ok X l "LossFreeTools$Picture" b_P_borderFits 4 (ax_rm 2 0 0)) (hF : ax_fin X (some .boolean) 0 0 (ax_of (ax_eq (some (.int (ax_b out))) S I0 R0 L))) (hS0 : ax_S0 X = S) : ∀ (n : Nat), ∀ (I : ax_I) (R : ax_R) (u0 : Nat) (x1 : Int32) (x2 : Int32) (x3 : Int32), ax_typ S R → (S u0 = some (.inl 1)) → I = I0 → R = R0 → d_P_borderFits_2 S  n I R u0 x1 x2 x3 = some out → ax_W X 4 2 [some (.ref u0), some (.int (x1)), some (.int (x2)), some (.int (x3))] [] S I R L 0 0 := by
  intro n
  induction n with
  | zero =>
    rintro I R u0 x1 x2 x3 hty hs0_ hI0 hR0 h
    cases h
  | succ n ih =>
    rintro I R u0 x1 x2 x3 hty hs0_ hI0 hR0 h
    subst hI0
    subst hR0
    unfold d_P_borderFits_2 at h
    refine ax_iload_n (q := 3) hX dc_P_borderFits_2 rfl rfl rfl ?_
    refine ax_aload_n (q := 4) hX dc_P_borderFits_3 rfl rfl rfl ?_
    refine ax_getI (q := 7) hX dc_P_borderFits_4 rfl fl_P_32 rfl hs0_ ?_
    refine ax_icmp_ge (tgt := 32) (q := 10) hX dc_P_borderFits_7 rfl (by decide) (fun z1 => ?_) (fun z1 => ?_)
    · rw [if_pos z1] at h
      refine ax_iconst (v := 1) (q := 33) hX dc_P_borderFits_32 rfl (by decide) ?_
      cases h
      exact ax_iret hX hF dc_P_borderFits_33 rfl rfl (by decide) (by decide) ax_eq.mk (by rw [hS0]; exact fun _ _ z => z)
    · rw [if_neg z1] at h
      refine ax_aload_n (q := 11) hX dc_P_borderFits_10 rfl rfl rfl ?_
      obtain ⟨u2, hu3, h⟩ := ax_bd h
      obtain ⟨n5, hs4⟩ : ∃ n, S u2 = some (.inr (2, n)) := hty.1 _ _ _ _ hs0_ hu3
      refine ax_getR (q := 14) hX dc_P_borderFits_11 rfl fl_P_11 rfl hs0_ hu3 ?_
      refine ax_iload_n (q := 15) hX dc_P_borderFits_14 rfl rfl rfl ?_
      obtain ⟨j6, hj7, h⟩ := ax_bd h
      have hj7 := ax_ix_s hty hs4 hj7
      obtain ⟨u8, hu9, h⟩ := ax_bd h
      have hs10 : S u8 = some (.inl 3) := hty.2.1 _ _ _ _ hs4 hu9
      refine ax_aald (q := 16) hX j6 dc_P_borderFits_15 rfl hs4 rfl rfl hj7.1 hj7.2.1 hj7.2.2 hu9 ?_
      refine ax_iload_n (q := 17) hX dc_P_borderFits_16 rfl rfl rfl ?_
      refine ax_iload_n (q := 18) hX dc_P_borderFits_17 rfl rfl rfl ?_
      obtain ⟨r13, hr11, h⟩ := ax_bd h
      refine ax_kV (vs := [.int (x1), .int (x2)]) (rest := []) (q := 21) hX dc_P_borderFits_18 rfl mt_T_crosses wl_P_49 wi_T_crosses ws_T_crosses hs10 rfl (c_T_crosses l hty hs10 hr11) rfl (by decide) rfl (Nat.le_of_ble_eq_true rfl) rfl rfl (by decide) (by decide) rfl ?_
      refine ax_if_eq (tgt := 26) (q := 24) hX dc_P_borderFits_21 rfl (by decide) (fun z14 => ?_) (fun z14 => ?_)
      · rw [if_pos z14] at h
        refine ax_iinc (v := x3 + 1) (ls' := [some (.ref u0), some (.int (x1)), some (.int (x2)), some (.int (x3 + 1))]) (q := 29) hX dc_P_borderFits_26 rfl rfl rfl (by decide) rfl ?_
        refine ax_goto (tgt := 2) hX dc_P_borderFits_29 (by decide) ?_
        exact (ih I R u0 (x1) (x2) (x3 + 1) hty hs0_ rfl rfl h)
      · rw [if_neg z14] at h
        refine ax_iconst (v := 0) (q := 25) hX dc_P_borderFits_24 rfl (by decide) ?_
        cases h
        exact ax_iret hX hF dc_P_borderFits_25 rfl rfl (by decide) (by decide) ax_eq.mk (by rw [hS0]; exact fun _ _ z => z)
def d_P_borderFits (S : ax_S) (I : ax_I) (R : ax_R) (u0 : Nat) (x1 : Int32) (x2 : Int32) : Option (Bool) :=
  d_P_borderFits_2 S  5000 I R u0 (x1) (x2) (0)
set_option maxHeartbeats 1000000 in
theorem c_P_borderFits (l : Launch) {S : ax_S} {I : ax_I} {R : ax_R} {L : ax_L} {u0 : Nat} {x1 : Int32} {x2 : Int32} {out : Bool} (hty : ax_typ S R) (hs0 : S u0 = some (.inl 1)) (h : d_P_borderFits S I R u0 x1 x2 = some out) : ax_Met l y_P_borderFits b_P_borderFits 4 (some .boolean) (ax_rm 2 0 0) [.ref u0, .int x1, .int x2] S I R L (ax_eq (some (.int (ax_b out))) S I R L) := by
  refine ax_enter (own := "LossFreeTools$Picture") (by decide +kernel) rfl (ax_cats rfl) (Nat.le_of_ble_eq_true rfl) (fun X hX hF _ hS0 => ?_)
  show ax_W X 4 0 [some (.ref u0), some (.int (x1)), some (.int (x2)), none] [] S I R L 0 0
  unfold d_P_borderFits at h
  refine ax_iconst (v := 0) (q := 1) hX dc_P_borderFits_0 rfl (by decide) ?_
  refine ax_istore_n (ls' := [some (.ref u0), some (.int (x1)), some (.int (x2)), some (.int (0))]) (q := 2) hX dc_P_borderFits_1 rfl rfl (by decide) rfl ?_
  exact (e_P_borderFits_2 hX hF hS0  5000 I R u0 (x1) (x2) (0) hty hs0 rfl rfl h)
def d_P_keepTilesWithin_63 (S : ax_S) (rec6 : ax_I → ax_R → Nat → Int32 → Int32 → Int32 → Int32 → Int32 → Int32 → Option (ax_I × ax_R)) (I : ax_I) (R : ax_R) (u0 : Nat) (x1 : Int32) (x2 : Int32) (x3 : Int32) (x4 : Int32) (x5 : Int32) (x6 : Int32) : Option (ax_I × ax_R) :=
  rec6 I R u0 (x1) (x2) (x3) (x4) (x5) (x6 + 1)
set_option maxHeartbeats 1000000 in
theorem e_P_keepTilesWithin_63 {l : Launch} {X : ax_X} {S : ax_S} {L : ax_L} {out : ax_I × ax_R} (hX : ax_ok X l "LossFreeTools$Picture" b_P_keepTilesWithin 8 (ax_rm 2 0 0)) (hF : ax_fin X none 0 0 (ax_of (ax_eq none S out.1 out.2 L))) (hS0 : ax_S0 X = S) (rec6 : ax_I → ax_R → Nat → Int32 → Int32 → Int32 → Int32 → Int32 → Int32 → Option (ax_I × ax_R)) (hrec6 : ∀ (I : ax_I) (R : ax_R) (u0 : Nat) (x1 : Int32) (x2 : Int32) (x3 : Int32) (x4 : Int32) (x5 : Int32) (x6 : Int32), ax_typ S R → (S u0 = some (.inl 1)) → rec6 I R u0 x1 x2 x3 x4 x5 x6 = some out → ax_W X 8 6 [some (.ref u0), some (.int (x1)), some (.int (x2)), some (.int (x3)), some (.int (x4)), some (.int (x5)), some (.int (x6)), none] [] S I R L 0 0) : ∀ (I : ax_I) (R : ax_R) (u0 : Nat) (x1 : Int32) (x2 : Int32) (x3 : Int32) (x4 : Int32) (x5 : Int32) (x6 : Int32), ax_typ S R → (S u0 = some (.inl 1)) → d_P_keepTilesWithin_63 S rec6 I R u0 x1 x2 x3 x4 x5 x6 = some out → ax_W X 8 63 [some (.ref u0), some (.int (x1)), some (.int (x2)), some (.int (x3)), some (.int (x4)), some (.int (x5)), some (.int (x6)), none] [] S I R L 0 0 := by
  rintro I R u0 x1 x2 x3 x4 x5 x6 hty hs0_ h
  unfold d_P_keepTilesWithin_63 at h
  refine ax_iinc (v := x6 + 1) (ls' := [some (.ref u0), some (.int (x1)), some (.int (x2)), some (.int (x3)), some (.int (x4)), some (.int (x5)), some (.int (x6 + 1)), none]) (q := 66) hX dc_P_keepTilesWithin_63 rfl rfl rfl (by decide) rfl ?_
  refine ax_goto (tgt := 6) hX dc_P_keepTilesWithin_66 (by decide) ?_
  exact (hrec6 I R u0 (x1) (x2) (x3) (x4) (x5) (x6 + 1) hty hs0_ h)
def d_P_keepTilesWithin_6 (S : ax_S) : Nat → ax_I → ax_R → Nat → Int32 → Int32 → Int32 → Int32 → Int32 → Int32 → Option (ax_I × ax_R)
  | 0, _, _, _, _, _, _, _, _, _ => none
  | n + 1, I, R, u0, x1, x2, x3, x4, x5, x6 =>
    if (I u0 2) ≤ x6 then
      (some (ax_up I u0 2 (x5))).bind fun I2 =>
      some (I2, R)
    else
      (R u0 0).bind fun u4 =>
      (ax_ix S u4 (x6)).bind fun j8 =>
      (R u4 j8).bind fun u10 =>
      (d_T_isWithin S I R u10 (x1) (x2) (x3) (x4)).bind fun r15 =>
      if (ax_b r15) = 0 then
        d_P_keepTilesWithin_63 S (d_P_keepTilesWithin_6 S  n) I R u0 (x1) (x2) (x3) (x4) (x5) (x6)
      else
        (R u0 0).bind fun u17 =>
        (R u0 0).bind fun u21 =>
        (ax_ix S u21 (x5)).bind fun j25 =>
        (R u21 j25).bind fun u27 =>
        (ax_ix S u17 (x6)).bind fun j30 =>
        (some (ax_up R u17 j30 (some u27))).bind fun R32 =>
        (R32 u0 0).bind fun u34 =>
        (ax_ix S u34 (x5)).bind fun j38 =>
        (some (ax_up R32 u34 j38 (some u10))).bind fun R40 =>
        d_P_keepTilesWithin_63 S (d_P_keepTilesWithin_6 S  n) I R40 u0 (x1) (x2) (x3) (x4) (x5 + 1) (x6)
set_option maxHeartbeats 1000000 in
theorem e_P_keepTilesWithin_6 {l : Launch} {X : ax_X} {S : ax_S} {L : ax_L} {out : ax_I × ax_R} (hX : ax_ok X l "LossFreeTools$Picture" b_P_keepTilesWithin 8 (ax_rm 2 0 0)) (hF : ax_fin X none 0 0 (ax_of (ax_eq none S out.1 out.2 L))) (hS0 : ax_S0 X = S) : ∀ (n : Nat), ∀ (I : ax_I) (R : ax_R) (u0 : Nat) (x1 : Int32) (x2 : Int32) (x3 : Int32) (x4 : Int32) (x5 : Int32) (x6 : Int32), ax_typ S R → (S u0 = some (.inl 1)) → d_P_keepTilesWithin_6 S  n I R u0 x1 x2 x3 x4 x5 x6 = some out → ax_W X 8 6 [some (.ref u0), some (.int (x1)), some (.int (x2)), some (.int (x3)), some (.int (x4)), some (.int (x5)), some (.int (x6)), none] [] S I R L 0 0 := by
  intro n
  induction n with
  | zero =>
    rintro I R u0 x1 x2 x3 x4 x5 x6 hty hs0_ h
    cases h
  | succ n ih =>
    rintro I R u0 x1 x2 x3 x4 x5 x6 hty hs0_ h
    unfold d_P_keepTilesWithin_6 at h
    refine ax_iload (q := 8) hX dc_P_keepTilesWithin_6 rfl rfl ?_
    refine ax_aload_n (q := 9) hX dc_P_keepTilesWithin_8 rfl rfl rfl ?_
    refine ax_getI (q := 12) hX dc_P_keepTilesWithin_9 rfl fl_P_32 rfl hs0_ ?_
    refine ax_icmp_ge (tgt := 69) (q := 15) hX dc_P_keepTilesWithin_12 rfl (by decide) (fun z1 => ?_) (fun z1 => ?_)
    · rw [if_pos z1] at h
      refine ax_aload_n (q := 70) hX dc_P_keepTilesWithin_69 rfl rfl rfl ?_
      refine ax_iload (q := 72) hX dc_P_keepTilesWithin_70 rfl rfl ?_
      obtain ⟨I2, e3, h⟩ := ax_bs h
      refine ax_putI (q := 75) hX dc_P_keepTilesWithin_72 rfl fl_P_32 rfl hs0_ (fun z => by cases z) rfl rfl e3 ?_
      cases h
      exact ax_vret hX hF dc_P_keepTilesWithin_75 (by decide) (by decide) ax_eq.mk (by rw [hS0]; exact fun _ _ z => z)
    · rw [if_neg z1] at h
      refine ax_aload_n (q := 16) hX dc_P_keepTilesWithin_15 rfl rfl rfl ?_
      obtain ⟨u4, hu5, h⟩ := ax_bd h
      obtain ⟨n7, hs6⟩ : ∃ n, S u4 = some (.inr (2, n)) := hty.1 _ _ _ _ hs0_ hu5
      refine ax_getR (q := 19) hX dc_P_keepTilesWithin_16 rfl fl_P_11 rfl hs0_ hu5 ?_
      refine ax_iload (q := 21) hX dc_P_keepTilesWithin_19 rfl rfl ?_
      obtain ⟨j8, hj9, h⟩ := ax_bd h
      have hj9 := ax_ix_s hty hs6 hj9
      obtain ⟨u10, hu11, h⟩ := ax_bd h
      have hs12 : S u10 = some (.inl 3) := hty.2.1 _ _ _ _ hs6 hu11
      refine ax_aald (q := 22) hX j8 dc_P_keepTilesWithin_21 rfl hs6 rfl rfl hj9.1 hj9.2.1 hj9.2.2 hu11 ?_
      refine ax_astore (ls' := [some (.ref u0), some (.int (x1)), some (.int (x2)), some (.int (x3)), some (.int (x4)), some (.int (x5)), some (.int (x6)), some (.ref u10)]) (q := 24) hX dc_P_keepTilesWithin_22 rfl (by decide) rfl ?_
      refine ax_aload (q := 26) hX dc_P_keepTilesWithin_24 rfl rfl ?_
      refine ax_iload_n (q := 27) hX dc_P_keepTilesWithin_26 rfl rfl rfl ?_
      refine ax_iload_n (q := 28) hX dc_P_keepTilesWithin_27 rfl rfl rfl ?_
      refine ax_iload_n (q := 29) hX dc_P_keepTilesWithin_28 rfl rfl rfl ?_
      refine ax_iload (q := 31) hX dc_P_keepTilesWithin_29 rfl rfl ?_
      obtain ⟨r15, hr13, h⟩ := ax_bd h
      refine ax_kV (vs := [.int (x1), .int (x2), .int (x3), .int (x4)]) (rest := []) (q := 34) hX dc_P_keepTilesWithin_31 rfl mt_T_isWithin wl_P_70 wi_T_isWithin ws_T_isWithin hs12 rfl (c_T_isWithin l hty hs12 hr13) rfl (by decide) rfl (Nat.le_of_ble_eq_true rfl) rfl rfl (by decide) (by decide) rfl ?_
      refine ax_if_eq (tgt := 63) (q := 37) hX dc_P_keepTilesWithin_34 rfl (by decide) (fun z16 => ?_) (fun z16 => ?_)
      · rw [if_pos z16] at h
        exact ax_weak (ls' := [some (.ref u0), some (.int (x1)), some (.int (x2)), some (.int (x3)), some (.int (x4)), some (.int (x5)), some (.int (x6)), none]) (ax_fewP_s _ _ (by repeat (first | exact trivial | (refine And.intro rfl ?_)))) (e_P_keepTilesWithin_63 hX hF hS0 (d_P_keepTilesWithin_6 S  n) (ih) I R u0 (x1) (x2) (x3) (x4) (x5) (x6) hty hs0_ h)
      · rw [if_neg z16] at h
        refine ax_aload_n (q := 38) hX dc_P_keepTilesWithin_37 rfl rfl rfl ?_
        obtain ⟨u17, hu18, h⟩ := ax_bd h
        obtain ⟨n20, hs19⟩ : ∃ n, S u17 = some (.inr (2, n)) := hty.1 _ _ _ _ hs0_ hu18
        refine ax_getR (q := 41) hX dc_P_keepTilesWithin_38 rfl fl_P_11 rfl hs0_ hu18 ?_
        refine ax_iload (q := 43) hX dc_P_keepTilesWithin_41 rfl rfl ?_
        refine ax_aload_n (q := 44) hX dc_P_keepTilesWithin_43 rfl rfl rfl ?_
        obtain ⟨u21, hu22, h⟩ := ax_bd h
        obtain ⟨n24, hs23⟩ : ∃ n, S u21 = some (.inr (2, n)) := hty.1 _ _ _ _ hs0_ hu22
        refine ax_getR (q := 47) hX dc_P_keepTilesWithin_44 rfl fl_P_11 rfl hs0_ hu22 ?_
        refine ax_iload (q := 49) hX dc_P_keepTilesWithin_47 rfl rfl ?_
        obtain ⟨j25, hj26, h⟩ := ax_bd h
        have hj26 := ax_ix_s hty hs23 hj26
        obtain ⟨u27, hu28, h⟩ := ax_bd h
        have hs29 : S u27 = some (.inl 3) := hty.2.1 _ _ _ _ hs23 hu28
        refine ax_aald (q := 50) hX j25 dc_P_keepTilesWithin_49 rfl hs23 rfl rfl hj26.1 hj26.2.1 hj26.2.2 hu28 ?_
        obtain ⟨j30, hj31, h⟩ := ax_bd h
        have hj31 := ax_ix_s hty hs19 hj31
        obtain ⟨R32, e33, h⟩ := ax_bs h
        have hty : ax_typ S R32 := e33 ▸ ax_typ_a2 hty hs19 hs29
        refine ax_aast (q := 51) hX j30 dc_P_keepTilesWithin_50 rfl hs19 rfl hs29 rfl rfl hj31.1 hj31.2.1 hj31.2.2 e33 ?_
        refine ax_aload_n (q := 52) hX dc_P_keepTilesWithin_51 rfl rfl rfl ?_
        obtain ⟨u34, hu35, h⟩ := ax_bd h
        obtain ⟨n37, hs36⟩ : ∃ n, S u34 = some (.inr (2, n)) := hty.1 _ _ _ _ hs0_ hu35
        refine ax_getR (q := 55) hX dc_P_keepTilesWithin_52 rfl fl_P_11 rfl hs0_ hu35 ?_
        refine ax_iload (q := 57) hX dc_P_keepTilesWithin_55 rfl rfl ?_
        refine ax_aload (q := 59) hX dc_P_keepTilesWithin_57 rfl rfl ?_
        obtain ⟨j38, hj39, h⟩ := ax_bd h
        have hj39 := ax_ix_s hty hs36 hj39
        obtain ⟨R40, e41, h⟩ := ax_bs h
        have hty : ax_typ S R40 := e41 ▸ ax_typ_a2 hty hs36 hs12
        refine ax_aast (q := 60) hX j38 dc_P_keepTilesWithin_59 rfl hs36 rfl hs12 rfl rfl hj39.1 hj39.2.1 hj39.2.2 e41 ?_
        refine ax_iinc (v := x5 + 1) (ls' := [some (.ref u0), some (.int (x1)), some (.int (x2)), some (.int (x3)), some (.int (x4)), some (.int (x5 + 1)), some (.int (x6)), some (.ref u10)]) (q := 63) hX dc_P_keepTilesWithin_60 rfl rfl rfl (by decide) rfl ?_
        exact ax_weak (ls' := [some (.ref u0), some (.int (x1)), some (.int (x2)), some (.int (x3)), some (.int (x4)), some (.int (x5 + 1)), some (.int (x6)), none]) (ax_fewP_s _ _ (by repeat (first | exact trivial | (refine And.intro rfl ?_)))) (e_P_keepTilesWithin_63 hX hF hS0 (d_P_keepTilesWithin_6 S  n) (ih) I R40 u0 (x1) (x2) (x3) (x4) (x5 + 1) (x6) hty hs0_ h)
def d_P_keepTilesWithin (S : ax_S) (I : ax_I) (R : ax_R) (u0 : Nat) (x1 : Int32) (x2 : Int32) (x3 : Int32) (x4 : Int32) : Option (ax_I × ax_R) :=
  d_P_keepTilesWithin_6 S  5000 I R u0 (x1) (x2) (x3) (x4) (0) (0)
set_option maxHeartbeats 1000000 in
theorem c_P_keepTilesWithin (l : Launch) {S : ax_S} {I : ax_I} {R : ax_R} {L : ax_L} {u0 : Nat} {x1 : Int32} {x2 : Int32} {x3 : Int32} {x4 : Int32} {out : ax_I × ax_R} (hty : ax_typ S R) (hs0 : S u0 = some (.inl 1)) (h : d_P_keepTilesWithin S I R u0 x1 x2 x3 x4 = some out) : ax_Met l y_P_keepTilesWithin b_P_keepTilesWithin 8 none (ax_rm 2 0 0) [.ref u0, .int x1, .int x2, .int x3, .int x4] S I R L (ax_eq none S out.1 out.2 L) := by
  refine ax_enter (own := "LossFreeTools$Picture") (by decide +kernel) rfl (ax_cats rfl) (Nat.le_of_ble_eq_true rfl) (fun X hX hF _ hS0 => ?_)
  show ax_W X 8 0 [some (.ref u0), some (.int (x1)), some (.int (x2)), some (.int (x3)), some (.int (x4)), none, none, none] [] S I R L 0 0
  unfold d_P_keepTilesWithin at h
  refine ax_iconst (v := 0) (q := 1) hX dc_P_keepTilesWithin_0 rfl (by decide) ?_
  refine ax_istore (ls' := [some (.ref u0), some (.int (x1)), some (.int (x2)), some (.int (x3)), some (.int (x4)), some (.int (0)), none, none]) (q := 3) hX dc_P_keepTilesWithin_1 rfl (by decide) rfl ?_
  refine ax_iconst (v := 0) (q := 4) hX dc_P_keepTilesWithin_3 rfl (by decide) ?_
  refine ax_istore (ls' := [some (.ref u0), some (.int (x1)), some (.int (x2)), some (.int (x3)), some (.int (x4)), some (.int (0)), some (.int (0)), none]) (q := 6) hX dc_P_keepTilesWithin_4 rfl (by decide) rfl ?_
  exact (e_P_keepTilesWithin_6 hX hF hS0  5000 I R u0 (x1) (x2) (x3) (x4) (0) (0) hty hs0 h)
theorem te_P_keepTilesWithin_63 {S : ax_S} {out : ax_I × ax_R} (rec6 : ax_I → ax_R → Nat → Int32 → Int32 → Int32 → Int32 → Int32 → Int32 → Option (ax_I × ax_R)) (hrec6 : ∀ (I : ax_I) (R : ax_R) (u0 : Nat) (x1 : Int32) (x2 : Int32) (x3 : Int32) (x4 : Int32) (x5 : Int32) (x6 : Int32), ax_typ S R → (S u0 = some (.inl 1)) → rec6 I R u0 x1 x2 x3 x4 x5 x6 = some out → ax_typ S out.2) : ∀ (I : ax_I) (R : ax_R) (u0 : Nat) (x1 : Int32) (x2 : Int32) (x3 : Int32) (x4 : Int32) (x5 : Int32) (x6 : Int32), ax_typ S R → (S u0 = some (.inl 1)) → d_P_keepTilesWithin_63 S rec6 I R u0 x1 x2 x3 x4 x5 x6 = some out → ax_typ S out.2 := by
  rintro I R u0 x1 x2 x3 x4 x5 x6 hty hs0_ h
  unfold d_P_keepTilesWithin_63 at h
  exact hrec6 I R u0 (x1) (x2) (x3) (x4) (x5) (x6 + 1) hty hs0_ h
theorem te_P_keepTilesWithin_6 {S : ax_S} {out : ax_I × ax_R} : ∀ (n : Nat), ∀ (I : ax_I) (R : ax_R) (u0 : Nat) (x1 : Int32) (x2 : Int32) (x3 : Int32) (x4 : Int32) (x5 : Int32) (x6 : Int32), ax_typ S R → (S u0 = some (.inl 1)) → d_P_keepTilesWithin_6 S  n I R u0 x1 x2 x3 x4 x5 x6 = some out → ax_typ S out.2 := by
  intro n
  induction n with
  | zero =>
    rintro I R u0 x1 x2 x3 x4 x5 x6 hty hs0_ h
    cases h
  | succ n ih =>
    rintro I R u0 x1 x2 x3 x4 x5 x6 hty hs0_ h
    unfold d_P_keepTilesWithin_6 at h
    by_cases z1 : (I u0 2) ≤ x6
    · rw [if_pos z1] at h
      obtain ⟨I2, e3, h⟩ := ax_bs h
      cases h
      exact hty
    · rw [if_neg z1] at h
      obtain ⟨u4, hu5, h⟩ := ax_bd h
      obtain ⟨n7, hs6⟩ : ∃ n, S u4 = some (.inr (2, n)) := hty.1 _ _ _ _ hs0_ hu5
      obtain ⟨j8, hj9, h⟩ := ax_bd h
      have hj9 := ax_ix_s hty hs6 hj9
      obtain ⟨u10, hu11, h⟩ := ax_bd h
      have hs12 : S u10 = some (.inl 3) := hty.2.1 _ _ _ _ hs6 hu11
      obtain ⟨r15, hr13, h⟩ := ax_bd h
      by_cases z16 : (ax_b r15) = 0
      · rw [if_pos z16] at h
        exact te_P_keepTilesWithin_63  (d_P_keepTilesWithin_6 S  n) (ih) I R u0 (x1) (x2) (x3) (x4) (x5) (x6) hty hs0_ h
      · rw [if_neg z16] at h
        obtain ⟨u17, hu18, h⟩ := ax_bd h
        obtain ⟨n20, hs19⟩ : ∃ n, S u17 = some (.inr (2, n)) := hty.1 _ _ _ _ hs0_ hu18
        obtain ⟨u21, hu22, h⟩ := ax_bd h
        obtain ⟨n24, hs23⟩ : ∃ n, S u21 = some (.inr (2, n)) := hty.1 _ _ _ _ hs0_ hu22
        obtain ⟨j25, hj26, h⟩ := ax_bd h
        have hj26 := ax_ix_s hty hs23 hj26
        obtain ⟨u27, hu28, h⟩ := ax_bd h
        have hs29 : S u27 = some (.inl 3) := hty.2.1 _ _ _ _ hs23 hu28
        obtain ⟨j30, hj31, h⟩ := ax_bd h
        have hj31 := ax_ix_s hty hs19 hj31
        obtain ⟨R32, e33, h⟩ := ax_bs h
        have hty : ax_typ S R32 := e33 ▸ ax_typ_a2 hty hs19 hs29
        obtain ⟨u34, hu35, h⟩ := ax_bd h
        obtain ⟨n37, hs36⟩ : ∃ n, S u34 = some (.inr (2, n)) := hty.1 _ _ _ _ hs0_ hu35
        obtain ⟨j38, hj39, h⟩ := ax_bd h
        have hj39 := ax_ix_s hty hs36 hj39
        obtain ⟨R40, e41, h⟩ := ax_bs h
        have hty : ax_typ S R40 := e41 ▸ ax_typ_a2 hty hs36 hs12
        exact te_P_keepTilesWithin_63  (d_P_keepTilesWithin_6 S  n) (ih) I R40 u0 (x1) (x2) (x3) (x4) (x5 + 1) (x6) hty hs0_ h
theorem t_P_keepTilesWithin {S : ax_S} {I : ax_I} {R : ax_R} {u0 : Nat} {x1 : Int32} {x2 : Int32} {x3 : Int32} {x4 : Int32} {out : ax_I × ax_R} (hty : ax_typ S R) (hs0 : S u0 = some (.inl 1)) (h : d_P_keepTilesWithin S I R u0 x1 x2 x3 x4 = some out) : ax_typ S out.2 := by
  unfold d_P_keepTilesWithin at h
  exact te_P_keepTilesWithin_6   5000 I R u0 (x1) (x2) (x3) (x4) (0) (0) hty hs0 h
def d_P_keepNotesWithin_63 (S : ax_S) (rec6 : ax_I → ax_R → Nat → Int32 → Int32 → Int32 → Int32 → Int32 → Int32 → Option (ax_I × ax_R)) (I : ax_I) (R : ax_R) (u0 : Nat) (x1 : Int32) (x2 : Int32) (x3 : Int32) (x4 : Int32) (x5 : Int32) (x6 : Int32) : Option (ax_I × ax_R) :=
  rec6 I R u0 (x1) (x2) (x3) (x4) (x5) (x6 + 1)
set_option maxHeartbeats 1000000 in
theorem e_P_keepNotesWithin_63 {l : Launch} {X : ax_X} {S : ax_S} {L : ax_L} {out : ax_I × ax_R} (hX : ax_ok X l "LossFreeTools$Picture" b_P_keepNotesWithin 8 (ax_rm 2 0 0)) (hF : ax_fin X none 0 0 (ax_of (ax_eq none S out.1 out.2 L))) (hS0 : ax_S0 X = S) (rec6 : ax_I → ax_R → Nat → Int32 → Int32 → Int32 → Int32 → Int32 → Int32 → Option (ax_I × ax_R)) (hrec6 : ∀ (I : ax_I) (R : ax_R) (u0 : Nat) (x1 : Int32) (x2 : Int32) (x3 : Int32) (x4 : Int32) (x5 : Int32) (x6 : Int32), ax_typ S R → (S u0 = some (.inl 1)) → rec6 I R u0 x1 x2 x3 x4 x5 x6 = some out → ax_W X 8 6 [some (.ref u0), some (.int (x1)), some (.int (x2)), some (.int (x3)), some (.int (x4)), some (.int (x5)), some (.int (x6)), none] [] S I R L 0 0) : ∀ (I : ax_I) (R : ax_R) (u0 : Nat) (x1 : Int32) (x2 : Int32) (x3 : Int32) (x4 : Int32) (x5 : Int32) (x6 : Int32), ax_typ S R → (S u0 = some (.inl 1)) → d_P_keepNotesWithin_63 S rec6 I R u0 x1 x2 x3 x4 x5 x6 = some out → ax_W X 8 63 [some (.ref u0), some (.int (x1)), some (.int (x2)), some (.int (x3)), some (.int (x4)), some (.int (x5)), some (.int (x6)), none] [] S I R L 0 0 := by
  rintro I R u0 x1 x2 x3 x4 x5 x6 hty hs0_ h
  unfold d_P_keepNotesWithin_63 at h
  refine ax_iinc (v := x6 + 1) (ls' := [some (.ref u0), some (.int (x1)), some (.int (x2)), some (.int (x3)), some (.int (x4)), some (.int (x5)), some (.int (x6 + 1)), none]) (q := 66) hX dc_P_keepNotesWithin_63 rfl rfl rfl (by decide) rfl ?_
  refine ax_goto (tgt := 6) hX dc_P_keepNotesWithin_66 (by decide) ?_
  exact (hrec6 I R u0 (x1) (x2) (x3) (x4) (x5) (x6 + 1) hty hs0_ h)
def d_P_keepNotesWithin_6 (S : ax_S) : Nat → ax_I → ax_R → Nat → Int32 → Int32 → Int32 → Int32 → Int32 → Int32 → Option (ax_I × ax_R)
  | 0, _, _, _, _, _, _, _, _, _ => none
  | n + 1, I, R, u0, x1, x2, x3, x4, x5, x6 =>
    if (I u0 3) ≤ x6 then
      (some (ax_up I u0 3 (x5))).bind fun I2 =>
      some (I2, R)
    else
      (R u0 1).bind fun u4 =>
      (ax_ix S u4 (x6)).bind fun j8 =>
      (R u4 j8).bind fun u10 =>
      (d_N_isWithin S I R u10 (x1) (x2) (x3) (x4)).bind fun r15 =>
      if (ax_b r15) = 0 then
        d_P_keepNotesWithin_63 S (d_P_keepNotesWithin_6 S  n) I R u0 (x1) (x2) (x3) (x4) (x5) (x6)
      else
        (R u0 1).bind fun u17 =>
        (R u0 1).bind fun u21 =>
        (ax_ix S u21 (x5)).bind fun j25 =>
        (R u21 j25).bind fun u27 =>
        (ax_ix S u17 (x6)).bind fun j30 =>
        (some (ax_up R u17 j30 (some u27))).bind fun R32 =>
        (R32 u0 1).bind fun u34 =>
        (ax_ix S u34 (x5)).bind fun j38 =>
        (some (ax_up R32 u34 j38 (some u10))).bind fun R40 =>
        d_P_keepNotesWithin_63 S (d_P_keepNotesWithin_6 S  n) I R40 u0 (x1) (x2) (x3) (x4) (x5 + 1) (x6)
set_option maxHeartbeats 1000000 in
theorem e_P_keepNotesWithin_6 {l : Launch} {X : ax_X} {S : ax_S} {L : ax_L} {out : ax_I × ax_R} (hX : ax_ok X l "LossFreeTools$Picture" b_P_keepNotesWithin 8 (ax_rm 2 0 0)) (hF : ax_fin X none 0 0 (ax_of (ax_eq none S out.1 out.2 L))) (hS0 : ax_S0 X = S) : ∀ (n : Nat), ∀ (I : ax_I) (R : ax_R) (u0 : Nat) (x1 : Int32) (x2 : Int32) (x3 : Int32) (x4 : Int32) (x5 : Int32) (x6 : Int32), ax_typ S R → (S u0 = some (.inl 1)) → d_P_keepNotesWithin_6 S  n I R u0 x1 x2 x3 x4 x5 x6 = some out → ax_W X 8 6 [some (.ref u0), some (.int (x1)), some (.int (x2)), some (.int (x3)), some (.int (x4)), some (.int (x5)), some (.int (x6)), none] [] S I R L 0 0 := by
  intro n
  induction n with
  | zero =>
    rintro I R u0 x1 x2 x3 x4 x5 x6 hty hs0_ h
    cases h
  | succ n ih =>
    rintro I R u0 x1 x2 x3 x4 x5 x6 hty hs0_ h
    unfold d_P_keepNotesWithin_6 at h
    refine ax_iload (q := 8) hX dc_P_keepNotesWithin_6 rfl rfl ?_
    refine ax_aload_n (q := 9) hX dc_P_keepNotesWithin_8 rfl rfl rfl ?_
    refine ax_getI (q := 12) hX dc_P_keepNotesWithin_9 rfl fl_P_35 rfl hs0_ ?_
    refine ax_icmp_ge (tgt := 69) (q := 15) hX dc_P_keepNotesWithin_12 rfl (by decide) (fun z1 => ?_) (fun z1 => ?_)
    · rw [if_pos z1] at h
      refine ax_aload_n (q := 70) hX dc_P_keepNotesWithin_69 rfl rfl rfl ?_
      refine ax_iload (q := 72) hX dc_P_keepNotesWithin_70 rfl rfl ?_
      obtain ⟨I2, e3, h⟩ := ax_bs h
      refine ax_putI (q := 75) hX dc_P_keepNotesWithin_72 rfl fl_P_35 rfl hs0_ (fun z => by cases z) rfl rfl e3 ?_
      cases h
      exact ax_vret hX hF dc_P_keepNotesWithin_75 (by decide) (by decide) ax_eq.mk (by rw [hS0]; exact fun _ _ z => z)
    · rw [if_neg z1] at h
      refine ax_aload_n (q := 16) hX dc_P_keepNotesWithin_15 rfl rfl rfl ?_
      obtain ⟨u4, hu5, h⟩ := ax_bd h
      obtain ⟨n7, hs6⟩ : ∃ n, S u4 = some (.inr (3, n)) := hty.1 _ _ _ _ hs0_ hu5
      refine ax_getR (q := 19) hX dc_P_keepNotesWithin_16 rfl fl_P_20 rfl hs0_ hu5 ?_
      refine ax_iload (q := 21) hX dc_P_keepNotesWithin_19 rfl rfl ?_
      obtain ⟨j8, hj9, h⟩ := ax_bd h
      have hj9 := ax_ix_s hty hs6 hj9
      obtain ⟨u10, hu11, h⟩ := ax_bd h
      have hs12 : S u10 = some (.inl 0) := hty.2.2.1 _ _ _ _ hs6 hu11
      refine ax_aald (q := 22) hX j8 dc_P_keepNotesWithin_21 rfl hs6 rfl rfl hj9.1 hj9.2.1 hj9.2.2 hu11 ?_
      refine ax_astore (ls' := [some (.ref u0), some (.int (x1)), some (.int (x2)), some (.int (x3)), some (.int (x4)), some (.int (x5)), some (.int (x6)), some (.ref u10)]) (q := 24) hX dc_P_keepNotesWithin_22 rfl (by decide) rfl ?_
      refine ax_aload (q := 26) hX dc_P_keepNotesWithin_24 rfl rfl ?_
      refine ax_iload_n (q := 27) hX dc_P_keepNotesWithin_26 rfl rfl rfl ?_
      refine ax_iload_n (q := 28) hX dc_P_keepNotesWithin_27 rfl rfl rfl ?_
      refine ax_iload_n (q := 29) hX dc_P_keepNotesWithin_28 rfl rfl rfl ?_
      refine ax_iload (q := 31) hX dc_P_keepNotesWithin_29 rfl rfl ?_
      obtain ⟨r15, hr13, h⟩ := ax_bd h
      refine ax_kV (vs := [.int (x1), .int (x2), .int (x3), .int (x4)]) (rest := []) (q := 34) hX dc_P_keepNotesWithin_31 rfl mt_N_isWithin wl_P_73 wi_N_isWithin ws_N_isWithin hs12 rfl (c_N_isWithin l hty hs12 hr13) rfl (by decide) rfl (Nat.le_of_ble_eq_true rfl) rfl rfl (by decide) (by decide) rfl ?_
      refine ax_if_eq (tgt := 63) (q := 37) hX dc_P_keepNotesWithin_34 rfl (by decide) (fun z16 => ?_) (fun z16 => ?_)
      · rw [if_pos z16] at h
        exact ax_weak (ls' := [some (.ref u0), some (.int (x1)), some (.int (x2)), some (.int (x3)), some (.int (x4)), some (.int (x5)), some (.int (x6)), none]) (ax_fewP_s _ _ (by repeat (first | exact trivial | (refine And.intro rfl ?_)))) (e_P_keepNotesWithin_63 hX hF hS0 (d_P_keepNotesWithin_6 S  n) (ih) I R u0 (x1) (x2) (x3) (x4) (x5) (x6) hty hs0_ h)
      · rw [if_neg z16] at h
        refine ax_aload_n (q := 38) hX dc_P_keepNotesWithin_37 rfl rfl rfl ?_
        obtain ⟨u17, hu18, h⟩ := ax_bd h
        obtain ⟨n20, hs19⟩ : ∃ n, S u17 = some (.inr (3, n)) := hty.1 _ _ _ _ hs0_ hu18
        refine ax_getR (q := 41) hX dc_P_keepNotesWithin_38 rfl fl_P_20 rfl hs0_ hu18 ?_
        refine ax_iload (q := 43) hX dc_P_keepNotesWithin_41 rfl rfl ?_
        refine ax_aload_n (q := 44) hX dc_P_keepNotesWithin_43 rfl rfl rfl ?_
        obtain ⟨u21, hu22, h⟩ := ax_bd h
        obtain ⟨n24, hs23⟩ : ∃ n, S u21 = some (.inr (3, n)) := hty.1 _ _ _ _ hs0_ hu22
        refine ax_getR (q := 47) hX dc_P_keepNotesWithin_44 rfl fl_P_20 rfl hs0_ hu22 ?_
        refine ax_iload (q := 49) hX dc_P_keepNotesWithin_47 rfl rfl ?_
        obtain ⟨j25, hj26, h⟩ := ax_bd h
        have hj26 := ax_ix_s hty hs23 hj26
        obtain ⟨u27, hu28, h⟩ := ax_bd h
        have hs29 : S u27 = some (.inl 0) := hty.2.2.1 _ _ _ _ hs23 hu28
        refine ax_aald (q := 50) hX j25 dc_P_keepNotesWithin_49 rfl hs23 rfl rfl hj26.1 hj26.2.1 hj26.2.2 hu28 ?_
        obtain ⟨j30, hj31, h⟩ := ax_bd h
        have hj31 := ax_ix_s hty hs19 hj31
        obtain ⟨R32, e33, h⟩ := ax_bs h
        have hty : ax_typ S R32 := e33 ▸ ax_typ_a3 hty hs19 hs29
        refine ax_aast (q := 51) hX j30 dc_P_keepNotesWithin_50 rfl hs19 rfl hs29 rfl rfl hj31.1 hj31.2.1 hj31.2.2 e33 ?_
        refine ax_aload_n (q := 52) hX dc_P_keepNotesWithin_51 rfl rfl rfl ?_
        obtain ⟨u34, hu35, h⟩ := ax_bd h
        obtain ⟨n37, hs36⟩ : ∃ n, S u34 = some (.inr (3, n)) := hty.1 _ _ _ _ hs0_ hu35
        refine ax_getR (q := 55) hX dc_P_keepNotesWithin_52 rfl fl_P_20 rfl hs0_ hu35 ?_
        refine ax_iload (q := 57) hX dc_P_keepNotesWithin_55 rfl rfl ?_
        refine ax_aload (q := 59) hX dc_P_keepNotesWithin_57 rfl rfl ?_
        obtain ⟨j38, hj39, h⟩ := ax_bd h
        have hj39 := ax_ix_s hty hs36 hj39
        obtain ⟨R40, e41, h⟩ := ax_bs h
        have hty : ax_typ S R40 := e41 ▸ ax_typ_a3 hty hs36 hs12
        refine ax_aast (q := 60) hX j38 dc_P_keepNotesWithin_59 rfl hs36 rfl hs12 rfl rfl hj39.1 hj39.2.1 hj39.2.2 e41 ?_
        refine ax_iinc (v := x5 + 1) (ls' := [some (.ref u0), some (.int (x1)), some (.int (x2)), some (.int (x3)), some (.int (x4)), some (.int (x5 + 1)), some (.int (x6)), some (.ref u10)]) (q := 63) hX dc_P_keepNotesWithin_60 rfl rfl rfl (by decide) rfl ?_
        exact ax_weak (ls' := [some (.ref u0), some (.int (x1)), some (.int (x2)), some (.int (x3)), some (.int (x4)), some (.int (x5 + 1)), some (.int (x6)), none]) (ax_fewP_s _ _ (by repeat (first | exact trivial | (refine And.intro rfl ?_)))) (e_P_keepNotesWithin_63 hX hF hS0 (d_P_keepNotesWithin_6 S  n) (ih) I R40 u0 (x1) (x2) (x3) (x4) (x5 + 1) (x6) hty hs0_ h)
def d_P_keepNotesWithin (S : ax_S) (I : ax_I) (R : ax_R) (u0 : Nat) (x1 : Int32) (x2 : Int32) (x3 : Int32) (x4 : Int32) : Option (ax_I × ax_R) :=
  d_P_keepNotesWithin_6 S  5000 I R u0 (x1) (x2) (x3) (x4) (0) (0)
set_option maxHeartbeats 1000000 in
theorem c_P_keepNotesWithin (l : Launch) {S : ax_S} {I : ax_I} {R : ax_R} {L : ax_L} {u0 : Nat} {x1 : Int32} {x2 : Int32} {x3 : Int32} {x4 : Int32} {out : ax_I × ax_R} (hty : ax_typ S R) (hs0 : S u0 = some (.inl 1)) (h : d_P_keepNotesWithin S I R u0 x1 x2 x3 x4 = some out) : ax_Met l y_P_keepNotesWithin b_P_keepNotesWithin 8 none (ax_rm 2 0 0) [.ref u0, .int x1, .int x2, .int x3, .int x4] S I R L (ax_eq none S out.1 out.2 L) := by
  refine ax_enter (own := "LossFreeTools$Picture") (by decide +kernel) rfl (ax_cats rfl) (Nat.le_of_ble_eq_true rfl) (fun X hX hF _ hS0 => ?_)
  show ax_W X 8 0 [some (.ref u0), some (.int (x1)), some (.int (x2)), some (.int (x3)), some (.int (x4)), none, none, none] [] S I R L 0 0
  unfold d_P_keepNotesWithin at h
  refine ax_iconst (v := 0) (q := 1) hX dc_P_keepNotesWithin_0 rfl (by decide) ?_
  refine ax_istore (ls' := [some (.ref u0), some (.int (x1)), some (.int (x2)), some (.int (x3)), some (.int (x4)), some (.int (0)), none, none]) (q := 3) hX dc_P_keepNotesWithin_1 rfl (by decide) rfl ?_
  refine ax_iconst (v := 0) (q := 4) hX dc_P_keepNotesWithin_3 rfl (by decide) ?_
  refine ax_istore (ls' := [some (.ref u0), some (.int (x1)), some (.int (x2)), some (.int (x3)), some (.int (x4)), some (.int (0)), some (.int (0)), none]) (q := 6) hX dc_P_keepNotesWithin_4 rfl (by decide) rfl ?_
  exact (e_P_keepNotesWithin_6 hX hF hS0  5000 I R u0 (x1) (x2) (x3) (x4) (0) (0) hty hs0 h)
theorem te_P_keepNotesWithin_63 {S : ax_S} {out : ax_I × ax_R} (rec6 : ax_I → ax_R → Nat → Int32 → Int32 → Int32 → Int32 → Int32 → Int32 → Option (ax_I × ax_R)) (hrec6 : ∀ (I : ax_I) (R : ax_R) (u0 : Nat) (x1 : Int32) (x2 : Int32) (x3 : Int32) (x4 : Int32) (x5 : Int32) (x6 : Int32), ax_typ S R → (S u0 = some (.inl 1)) → rec6 I R u0 x1 x2 x3 x4 x5 x6 = some out → ax_typ S out.2) : ∀ (I : ax_I) (R : ax_R) (u0 : Nat) (x1 : Int32) (x2 : Int32) (x3 : Int32) (x4 : Int32) (x5 : Int32) (x6 : Int32), ax_typ S R → (S u0 = some (.inl 1)) → d_P_keepNotesWithin_63 S rec6 I R u0 x1 x2 x3 x4 x5 x6 = some out → ax_typ S out.2 := by
  rintro I R u0 x1 x2 x3 x4 x5 x6 hty hs0_ h
  unfold d_P_keepNotesWithin_63 at h
  exact hrec6 I R u0 (x1) (x2) (x3) (x4) (x5) (x6 + 1) hty hs0_ h
theorem te_P_keepNotesWithin_6 {S : ax_S} {out : ax_I × ax_R} : ∀ (n : Nat), ∀ (I : ax_I) (R : ax_R) (u0 : Nat) (x1 : Int32) (x2 : Int32) (x3 : Int32) (x4 : Int32) (x5 : Int32) (x6 : Int32), ax_typ S R → (S u0 = some (.inl 1)) → d_P_keepNotesWithin_6 S  n I R u0 x1 x2 x3 x4 x5 x6 = some out → ax_typ S out.2 := by
  intro n
  induction n with
  | zero =>
    rintro I R u0 x1 x2 x3 x4 x5 x6 hty hs0_ h
    cases h
  | succ n ih =>
    rintro I R u0 x1 x2 x3 x4 x5 x6 hty hs0_ h
    unfold d_P_keepNotesWithin_6 at h
    by_cases z1 : (I u0 3) ≤ x6
    · rw [if_pos z1] at h
      obtain ⟨I2, e3, h⟩ := ax_bs h
      cases h
      exact hty
    · rw [if_neg z1] at h
      obtain ⟨u4, hu5, h⟩ := ax_bd h
      obtain ⟨n7, hs6⟩ : ∃ n, S u4 = some (.inr (3, n)) := hty.1 _ _ _ _ hs0_ hu5
      obtain ⟨j8, hj9, h⟩ := ax_bd h
      have hj9 := ax_ix_s hty hs6 hj9
      obtain ⟨u10, hu11, h⟩ := ax_bd h
      have hs12 : S u10 = some (.inl 0) := hty.2.2.1 _ _ _ _ hs6 hu11
      obtain ⟨r15, hr13, h⟩ := ax_bd h
      by_cases z16 : (ax_b r15) = 0
      · rw [if_pos z16] at h
        exact te_P_keepNotesWithin_63  (d_P_keepNotesWithin_6 S  n) (ih) I R u0 (x1) (x2) (x3) (x4) (x5) (x6) hty hs0_ h
      · rw [if_neg z16] at h
        obtain ⟨u17, hu18, h⟩ := ax_bd h
        obtain ⟨n20, hs19⟩ : ∃ n, S u17 = some (.inr (3, n)) := hty.1 _ _ _ _ hs0_ hu18
        obtain ⟨u21, hu22, h⟩ := ax_bd h
        obtain ⟨n24, hs23⟩ : ∃ n, S u21 = some (.inr (3, n)) := hty.1 _ _ _ _ hs0_ hu22
        obtain ⟨j25, hj26, h⟩ := ax_bd h
        have hj26 := ax_ix_s hty hs23 hj26
        obtain ⟨u27, hu28, h⟩ := ax_bd h
        have hs29 : S u27 = some (.inl 0) := hty.2.2.1 _ _ _ _ hs23 hu28
        obtain ⟨j30, hj31, h⟩ := ax_bd h
        have hj31 := ax_ix_s hty hs19 hj31
        obtain ⟨R32, e33, h⟩ := ax_bs h
        have hty : ax_typ S R32 := e33 ▸ ax_typ_a3 hty hs19 hs29
        obtain ⟨u34, hu35, h⟩ := ax_bd h
        obtain ⟨n37, hs36⟩ : ∃ n, S u34 = some (.inr (3, n)) := hty.1 _ _ _ _ hs0_ hu35
        obtain ⟨j38, hj39, h⟩ := ax_bd h
        have hj39 := ax_ix_s hty hs36 hj39
        obtain ⟨R40, e41, h⟩ := ax_bs h
        have hty : ax_typ S R40 := e41 ▸ ax_typ_a3 hty hs36 hs12
        exact te_P_keepNotesWithin_63  (d_P_keepNotesWithin_6 S  n) (ih) I R40 u0 (x1) (x2) (x3) (x4) (x5 + 1) (x6) hty hs0_ h
theorem t_P_keepNotesWithin {S : ax_S} {I : ax_I} {R : ax_R} {u0 : Nat} {x1 : Int32} {x2 : Int32} {x3 : Int32} {x4 : Int32} {out : ax_I × ax_R} (hty : ax_typ S R) (hs0 : S u0 = some (.inl 1)) (h : d_P_keepNotesWithin S I R u0 x1 x2 x3 x4 = some out) : ax_typ S out.2 := by
  unfold d_P_keepNotesWithin at h
  exact te_P_keepNotesWithin_6   5000 I R u0 (x1) (x2) (x3) (x4) (0) (0) hty hs0 h
def d_P_moveBy_29 (S : ax_S) : Nat → ax_I → ax_R → Nat → Int32 → Int32 → Int32 → Option (ax_I)
  | 0, _, _, _, _, _, _ => none
  | n + 1, I, R, u0, x1, x2, x3 =>
    if (I u0 3) ≤ x3 then
      some (I)
    else
      (R u0 1).bind fun u15 =>
      (ax_ix S u15 (x3)).bind fun j19 =>
      (R u15 j19).bind fun u21 =>
      (d_N_moveBy S I R u21 (x1) (x2)).bind fun I26 =>
      d_P_moveBy_29 S  n I26 R u0 (x1) (x2) (x3 + 1)
set_option maxHeartbeats 1000000 in
theorem e_P_moveBy_29 {l : Launch} {X : ax_X} {S : ax_S} {L : ax_L} {R0 : ax_R} {out : ax_I} (hX : ax_ok X l "LossFreeTools$Picture" b_P_moveBy 4 (ax_rm 2 0 0)) (hF : ax_fin X none 0 0 (ax_of (ax_eq none S out R0 L))) (hS0 : ax_S0 X = S) : ∀ (n : Nat), ∀ (I : ax_I) (R : ax_R) (u0 : Nat) (x1 : Int32) (x2 : Int32) (x3 : Int32), ax_typ S R → (S u0 = some (.inl 1)) → R = R0 → d_P_moveBy_29 S  n I R u0 x1 x2 x3 = some out → ax_W X 4 29 [some (.ref u0), some (.int (x1)), some (.int (x2)), some (.int (x3))] [] S I R L 0 0 := by
  intro n
  induction n with
  | zero =>
    rintro I R u0 x1 x2 x3 hty hs0_ hR0 h
    cases h
  | succ n ih =>
    rintro I R u0 x1 x2 x3 hty hs0_ hR0 h
    subst hR0
    unfold d_P_moveBy_29 at h
    refine ax_iload_n (q := 30) hX dc_P_moveBy_29 rfl rfl rfl ?_
    refine ax_aload_n (q := 31) hX dc_P_moveBy_30 rfl rfl rfl ?_
    refine ax_getI (q := 34) hX dc_P_moveBy_31 rfl fl_P_35 rfl hs0_ ?_
    refine ax_icmp_ge (tgt := 54) (q := 37) hX dc_P_moveBy_34 rfl (by decide) (fun z14 => ?_) (fun z14 => ?_)
    · rw [if_pos z14] at h
      cases h
      exact ax_vret hX hF dc_P_moveBy_54 (by decide) (by decide) ax_eq.mk (by rw [hS0]; exact fun _ _ z => z)
    · rw [if_neg z14] at h
      refine ax_aload_n (q := 38) hX dc_P_moveBy_37 rfl rfl rfl ?_
      obtain ⟨u15, hu16, h⟩ := ax_bd h
      obtain ⟨n18, hs17⟩ : ∃ n, S u15 = some (.inr (3, n)) := hty.1 _ _ _ _ hs0_ hu16
      refine ax_getR (q := 41) hX dc_P_moveBy_38 rfl fl_P_20 rfl hs0_ hu16 ?_
      refine ax_iload_n (q := 42) hX dc_P_moveBy_41 rfl rfl rfl ?_
      obtain ⟨j19, hj20, h⟩ := ax_bd h
      have hj20 := ax_ix_s hty hs17 hj20
      obtain ⟨u21, hu22, h⟩ := ax_bd h
      have hs23 : S u21 = some (.inl 0) := hty.2.2.1 _ _ _ _ hs17 hu22
      refine ax_aald (q := 43) hX j19 dc_P_moveBy_42 rfl hs17 rfl rfl hj20.1 hj20.2.1 hj20.2.2 hu22 ?_
      refine ax_iload_n (q := 44) hX dc_P_moveBy_43 rfl rfl rfl ?_
      refine ax_iload_n (q := 45) hX dc_P_moveBy_44 rfl rfl rfl ?_
      obtain ⟨I26, hr24, h⟩ := ax_bd h
      refine ax_kV (vs := [.int (x1), .int (x2)]) (rest := []) (q := 48) hX dc_P_moveBy_45 rfl mt_N_moveBy wl_P_75 wi_N_moveBy ws_N_moveBy hs23 rfl (c_N_moveBy l hty hs23 hr24) rfl (by decide) rfl (Nat.le_of_ble_eq_true rfl) rfl rfl (by decide) (by decide) rfl ?_
      refine ax_iinc (v := x3 + 1) (ls' := [some (.ref u0), some (.int (x1)), some (.int (x2)), some (.int (x3 + 1))]) (q := 51) hX dc_P_moveBy_48 rfl rfl rfl (by decide) rfl ?_
      refine ax_goto (tgt := 29) hX dc_P_moveBy_51 (by decide) ?_
      exact (ih I26 R u0 (x1) (x2) (x3 + 1) hty hs0_ rfl h)
def d_P_moveBy_2 (S : ax_S) : Nat → ax_I → ax_R → Nat → Int32 → Int32 → Int32 → Option (ax_I)
  | 0, _, _, _, _, _, _ => none
  | n + 1, I, R, u0, x1, x2, x3 =>
    if (I u0 2) ≤ x3 then
      d_P_moveBy_29 S  5000 I R u0 (x1) (x2) (0)
    else
      (R u0 0).bind fun u2 =>
      (ax_ix S u2 (x3)).bind fun j6 =>
      (R u2 j6).bind fun u8 =>
      (d_T_moveBy S I R u8 (x1) (x2)).bind fun I13 =>
      d_P_moveBy_2 S  n I13 R u0 (x1) (x2) (x3 + 1)
set_option maxHeartbeats 1000000 in
theorem e_P_moveBy_2 {l : Launch} {X : ax_X} {S : ax_S} {L : ax_L} {R0 : ax_R} {out : ax_I} (hX : ax_ok X l "LossFreeTools$Picture" b_P_moveBy 4 (ax_rm 2 0 0)) (hF : ax_fin X none 0 0 (ax_of (ax_eq none S out R0 L))) (hS0 : ax_S0 X = S) : ∀ (n : Nat), ∀ (I : ax_I) (R : ax_R) (u0 : Nat) (x1 : Int32) (x2 : Int32) (x3 : Int32), ax_typ S R → (S u0 = some (.inl 1)) → R = R0 → d_P_moveBy_2 S  n I R u0 x1 x2 x3 = some out → ax_W X 4 2 [some (.ref u0), some (.int (x1)), some (.int (x2)), some (.int (x3))] [] S I R L 0 0 := by
  intro n
  induction n with
  | zero =>
    rintro I R u0 x1 x2 x3 hty hs0_ hR0 h
    cases h
  | succ n ih =>
    rintro I R u0 x1 x2 x3 hty hs0_ hR0 h
    subst hR0
    unfold d_P_moveBy_2 at h
    refine ax_iload_n (q := 3) hX dc_P_moveBy_2 rfl rfl rfl ?_
    refine ax_aload_n (q := 4) hX dc_P_moveBy_3 rfl rfl rfl ?_
    refine ax_getI (q := 7) hX dc_P_moveBy_4 rfl fl_P_32 rfl hs0_ ?_
    refine ax_icmp_ge (tgt := 27) (q := 10) hX dc_P_moveBy_7 rfl (by decide) (fun z1 => ?_) (fun z1 => ?_)
    · rw [if_pos z1] at h
      refine ax_iconst (v := 0) (q := 28) hX dc_P_moveBy_27 rfl (by decide) ?_
      refine ax_istore_n (ls' := [some (.ref u0), some (.int (x1)), some (.int (x2)), some (.int (0))]) (q := 29) hX dc_P_moveBy_28 rfl rfl (by decide) rfl ?_
      exact (e_P_moveBy_29 hX hF hS0  5000 I R u0 (x1) (x2) (0) hty hs0_ rfl h)
    · rw [if_neg z1] at h
      refine ax_aload_n (q := 11) hX dc_P_moveBy_10 rfl rfl rfl ?_
      obtain ⟨u2, hu3, h⟩ := ax_bd h
      obtain ⟨n5, hs4⟩ : ∃ n, S u2 = some (.inr (2, n)) := hty.1 _ _ _ _ hs0_ hu3
      refine ax_getR (q := 14) hX dc_P_moveBy_11 rfl fl_P_11 rfl hs0_ hu3 ?_
      refine ax_iload_n (q := 15) hX dc_P_moveBy_14 rfl rfl rfl ?_
      obtain ⟨j6, hj7, h⟩ := ax_bd h
      have hj7 := ax_ix_s hty hs4 hj7
      obtain ⟨u8, hu9, h⟩ := ax_bd h
      have hs10 : S u8 = some (.inl 3) := hty.2.1 _ _ _ _ hs4 hu9
      refine ax_aald (q := 16) hX j6 dc_P_moveBy_15 rfl hs4 rfl rfl hj7.1 hj7.2.1 hj7.2.2 hu9 ?_
      refine ax_iload_n (q := 17) hX dc_P_moveBy_16 rfl rfl rfl ?_
      refine ax_iload_n (q := 18) hX dc_P_moveBy_17 rfl rfl rfl ?_
      obtain ⟨I13, hr11, h⟩ := ax_bd h
      refine ax_kV (vs := [.int (x1), .int (x2)]) (rest := []) (q := 21) hX dc_P_moveBy_18 rfl mt_T_moveBy wl_P_74 wi_T_moveBy ws_T_moveBy hs10 rfl (c_T_moveBy l hty hs10 hr11) rfl (by decide) rfl (Nat.le_of_ble_eq_true rfl) rfl rfl (by decide) (by decide) rfl ?_
      refine ax_iinc (v := x3 + 1) (ls' := [some (.ref u0), some (.int (x1)), some (.int (x2)), some (.int (x3 + 1))]) (q := 24) hX dc_P_moveBy_21 rfl rfl rfl (by decide) rfl ?_
      refine ax_goto (tgt := 2) hX dc_P_moveBy_24 (by decide) ?_
      exact (ih I13 R u0 (x1) (x2) (x3 + 1) hty hs0_ rfl h)
def d_P_moveBy (S : ax_S) (I : ax_I) (R : ax_R) (u0 : Nat) (x1 : Int32) (x2 : Int32) : Option (ax_I) :=
  d_P_moveBy_2 S  5000 I R u0 (x1) (x2) (0)
set_option maxHeartbeats 1000000 in
theorem c_P_moveBy (l : Launch) {S : ax_S} {I : ax_I} {R : ax_R} {L : ax_L} {u0 : Nat} {x1 : Int32} {x2 : Int32} {out : ax_I} (hty : ax_typ S R) (hs0 : S u0 = some (.inl 1)) (h : d_P_moveBy S I R u0 x1 x2 = some out) : ax_Met l y_P_moveBy b_P_moveBy 4 none (ax_rm 2 0 0) [.ref u0, .int x1, .int x2] S I R L (ax_eq none S out R L) := by
  refine ax_enter (own := "LossFreeTools$Picture") (by decide +kernel) rfl (ax_cats rfl) (Nat.le_of_ble_eq_true rfl) (fun X hX hF _ hS0 => ?_)
  show ax_W X 4 0 [some (.ref u0), some (.int (x1)), some (.int (x2)), none] [] S I R L 0 0
  unfold d_P_moveBy at h
  refine ax_iconst (v := 0) (q := 1) hX dc_P_moveBy_0 rfl (by decide) ?_
  refine ax_istore_n (ls' := [some (.ref u0), some (.int (x1)), some (.int (x2)), some (.int (0))]) (q := 2) hX dc_P_moveBy_1 rfl rfl (by decide) rfl ?_
  exact (e_P_moveBy_2 hX hF hS0  5000 I R u0 (x1) (x2) (0) hty hs0 rfl h)
def d_P_mirror_31 (S : ax_S) : Nat → ax_I → ax_R → Nat → Int32 → Option (ax_I)
  | 0, _, _, _, _ => none
  | n + 1, I, R, u0, x1 =>
    if (I u0 3) ≤ x1 then
      some (I)
    else
      (R u0 1).bind fun u15 =>
      (ax_ix S u15 (x1)).bind fun j19 =>
      (R u15 j19).bind fun u21 =>
      (d_N_mirrorIn S I R u21 (I u0 4)).bind fun I26 =>
      d_P_mirror_31 S  n I26 R u0 (x1 + 1)
set_option maxHeartbeats 1000000 in
theorem e_P_mirror_31 {l : Launch} {X : ax_X} {S : ax_S} {L : ax_L} {R0 : ax_R} {out : ax_I} (hX : ax_ok X l "LossFreeTools$Picture" b_P_mirror 2 (ax_rm 2 0 0)) (hF : ax_fin X none 0 0 (ax_of (ax_eq none S out R0 L))) (hS0 : ax_S0 X = S) : ∀ (n : Nat), ∀ (I : ax_I) (R : ax_R) (u0 : Nat) (x1 : Int32), ax_typ S R → (S u0 = some (.inl 1)) → R = R0 → d_P_mirror_31 S  n I R u0 x1 = some out → ax_W X 2 31 [some (.ref u0), some (.int (x1))] [] S I R L 0 0 := by
  intro n
  induction n with
  | zero =>
    rintro I R u0 x1 hty hs0_ hR0 h
    cases h
  | succ n ih =>
    rintro I R u0 x1 hty hs0_ hR0 h
    subst hR0
    unfold d_P_mirror_31 at h
    refine ax_iload_n (q := 32) hX dc_P_mirror_31 rfl rfl rfl ?_
    refine ax_aload_n (q := 33) hX dc_P_mirror_32 rfl rfl rfl ?_
    refine ax_getI (q := 36) hX dc_P_mirror_33 rfl fl_P_35 rfl hs0_ ?_
    refine ax_icmp_ge (tgt := 58) (q := 39) hX dc_P_mirror_36 rfl (by decide) (fun z14 => ?_) (fun z14 => ?_)
    · rw [if_pos z14] at h
      cases h
      exact ax_vret hX hF dc_P_mirror_58 (by decide) (by decide) ax_eq.mk (by rw [hS0]; exact fun _ _ z => z)
    · rw [if_neg z14] at h
      refine ax_aload_n (q := 40) hX dc_P_mirror_39 rfl rfl rfl ?_
      obtain ⟨u15, hu16, h⟩ := ax_bd h
      obtain ⟨n18, hs17⟩ : ∃ n, S u15 = some (.inr (3, n)) := hty.1 _ _ _ _ hs0_ hu16
      refine ax_getR (q := 43) hX dc_P_mirror_40 rfl fl_P_20 rfl hs0_ hu16 ?_
      refine ax_iload_n (q := 44) hX dc_P_mirror_43 rfl rfl rfl ?_
      obtain ⟨j19, hj20, h⟩ := ax_bd h
      have hj20 := ax_ix_s hty hs17 hj20
      obtain ⟨u21, hu22, h⟩ := ax_bd h
      have hs23 : S u21 = some (.inl 0) := hty.2.2.1 _ _ _ _ hs17 hu22
      refine ax_aald (q := 45) hX j19 dc_P_mirror_44 rfl hs17 rfl rfl hj20.1 hj20.2.1 hj20.2.2 hu22 ?_
      refine ax_aload_n (q := 46) hX dc_P_mirror_45 rfl rfl rfl ?_
      refine ax_getI (q := 49) hX dc_P_mirror_46 rfl fl_P_25 rfl hs0_ ?_
      obtain ⟨I26, hr24, h⟩ := ax_bd h
      refine ax_kV (vs := [.int (I u0 4)]) (rest := []) (q := 52) hX dc_P_mirror_49 rfl mt_N_mirrorIn wl_P_101 wi_N_mirrorIn ws_N_mirrorIn hs23 rfl (c_N_mirrorIn l hty hs23 hr24) rfl (by decide) rfl (Nat.le_of_ble_eq_true rfl) rfl rfl (by decide) (by decide) rfl ?_
      refine ax_iinc (v := x1 + 1) (ls' := [some (.ref u0), some (.int (x1 + 1))]) (q := 55) hX dc_P_mirror_52 rfl rfl rfl (by decide) rfl ?_
      refine ax_goto (tgt := 31) hX dc_P_mirror_55 (by decide) ?_
      exact (ih I26 R u0 (x1 + 1) hty hs0_ rfl h)
def d_P_mirror_2 (S : ax_S) : Nat → ax_I → ax_R → Nat → Int32 → Option (ax_I)
  | 0, _, _, _, _ => none
  | n + 1, I, R, u0, x1 =>
    if (I u0 2) ≤ x1 then
      d_P_mirror_31 S  5000 I R u0 (0)
    else
      (R u0 0).bind fun u2 =>
      (ax_ix S u2 (x1)).bind fun j6 =>
      (R u2 j6).bind fun u8 =>
      (d_T_mirrorIn S I R u8 (I u0 4)).bind fun I13 =>
      d_P_mirror_2 S  n I13 R u0 (x1 + 1)
set_option maxHeartbeats 1000000 in
theorem e_P_mirror_2 {l : Launch} {X : ax_X} {S : ax_S} {L : ax_L} {R0 : ax_R} {out : ax_I} (hX : ax_ok X l "LossFreeTools$Picture" b_P_mirror 2 (ax_rm 2 0 0)) (hF : ax_fin X none 0 0 (ax_of (ax_eq none S out R0 L))) (hS0 : ax_S0 X = S) : ∀ (n : Nat), ∀ (I : ax_I) (R : ax_R) (u0 : Nat) (x1 : Int32), ax_typ S R → (S u0 = some (.inl 1)) → R = R0 → d_P_mirror_2 S  n I R u0 x1 = some out → ax_W X 2 2 [some (.ref u0), some (.int (x1))] [] S I R L 0 0 := by
  intro n
  induction n with
  | zero =>
    rintro I R u0 x1 hty hs0_ hR0 h
    cases h
  | succ n ih =>
    rintro I R u0 x1 hty hs0_ hR0 h
    subst hR0
    unfold d_P_mirror_2 at h
    refine ax_iload_n (q := 3) hX dc_P_mirror_2 rfl rfl rfl ?_
    refine ax_aload_n (q := 4) hX dc_P_mirror_3 rfl rfl rfl ?_
    refine ax_getI (q := 7) hX dc_P_mirror_4 rfl fl_P_32 rfl hs0_ ?_
    refine ax_icmp_ge (tgt := 29) (q := 10) hX dc_P_mirror_7 rfl (by decide) (fun z1 => ?_) (fun z1 => ?_)
    · rw [if_pos z1] at h
      refine ax_iconst (v := 0) (q := 30) hX dc_P_mirror_29 rfl (by decide) ?_
      refine ax_istore_n (ls' := [some (.ref u0), some (.int (0))]) (q := 31) hX dc_P_mirror_30 rfl rfl (by decide) rfl ?_
      exact (e_P_mirror_31 hX hF hS0  5000 I R u0 (0) hty hs0_ rfl h)
    · rw [if_neg z1] at h
      refine ax_aload_n (q := 11) hX dc_P_mirror_10 rfl rfl rfl ?_
      obtain ⟨u2, hu3, h⟩ := ax_bd h
      obtain ⟨n5, hs4⟩ : ∃ n, S u2 = some (.inr (2, n)) := hty.1 _ _ _ _ hs0_ hu3
      refine ax_getR (q := 14) hX dc_P_mirror_11 rfl fl_P_11 rfl hs0_ hu3 ?_
      refine ax_iload_n (q := 15) hX dc_P_mirror_14 rfl rfl rfl ?_
      obtain ⟨j6, hj7, h⟩ := ax_bd h
      have hj7 := ax_ix_s hty hs4 hj7
      obtain ⟨u8, hu9, h⟩ := ax_bd h
      have hs10 : S u8 = some (.inl 3) := hty.2.1 _ _ _ _ hs4 hu9
      refine ax_aald (q := 16) hX j6 dc_P_mirror_15 rfl hs4 rfl rfl hj7.1 hj7.2.1 hj7.2.2 hu9 ?_
      refine ax_aload_n (q := 17) hX dc_P_mirror_16 rfl rfl rfl ?_
      refine ax_getI (q := 20) hX dc_P_mirror_17 rfl fl_P_25 rfl hs0_ ?_
      obtain ⟨I13, hr11, h⟩ := ax_bd h
      refine ax_kV (vs := [.int (I u0 4)]) (rest := []) (q := 23) hX dc_P_mirror_20 rfl mt_T_mirrorIn wl_P_97 wi_T_mirrorIn ws_T_mirrorIn hs10 rfl (c_T_mirrorIn l hty hs10 hr11) rfl (by decide) rfl (Nat.le_of_ble_eq_true rfl) rfl rfl (by decide) (by decide) rfl ?_
      refine ax_iinc (v := x1 + 1) (ls' := [some (.ref u0), some (.int (x1 + 1))]) (q := 26) hX dc_P_mirror_23 rfl rfl rfl (by decide) rfl ?_
      refine ax_goto (tgt := 2) hX dc_P_mirror_26 (by decide) ?_
      exact (ih I13 R u0 (x1 + 1) hty hs0_ rfl h)
def d_P_mirror (S : ax_S) (I : ax_I) (R : ax_R) (u0 : Nat) : Option (ax_I) :=
  d_P_mirror_2 S  5000 I R u0 (0)
set_option maxHeartbeats 1000000 in
theorem c_P_mirror (l : Launch) {S : ax_S} {I : ax_I} {R : ax_R} {L : ax_L} {u0 : Nat} {out : ax_I} (hty : ax_typ S R) (hs0 : S u0 = some (.inl 1)) (h : d_P_mirror S I R u0 = some out) : ax_Met l y_P_mirror b_P_mirror 2 none (ax_rm 2 0 0) [.ref u0] S I R L (ax_eq none S out R L) := by
  refine ax_enter (own := "LossFreeTools$Picture") (by decide +kernel) rfl (ax_cats rfl) (Nat.le_of_ble_eq_true rfl) (fun X hX hF _ hS0 => ?_)
  show ax_W X 2 0 [some (.ref u0), none] [] S I R L 0 0
  unfold d_P_mirror at h
  refine ax_iconst (v := 0) (q := 1) hX dc_P_mirror_0 rfl (by decide) ?_
  refine ax_istore_n (ls' := [some (.ref u0), some (.int (0))]) (q := 2) hX dc_P_mirror_1 rfl rfl (by decide) rfl ?_
  exact (e_P_mirror_2 hX hF hS0  5000 I R u0 (0) hty hs0 rfl h)
def d_P_turnQuarter_31 (S : ax_S) : Nat → ax_I → ax_R → Nat → Int32 → Option (ax_I)
  | 0, _, _, _, _ => none
  | n + 1, I, R, u0, x1 =>
    if (I u0 3) ≤ x1 then
      (some (ax_up I u0 4 (I u0 5))).bind fun I15 =>
      (some (ax_up I15 u0 5 (I u0 4))).bind fun I17 =>
      some (I17)
    else
      (R u0 1).bind fun u19 =>
      (ax_ix S u19 (x1)).bind fun j23 =>
      (R u19 j23).bind fun u25 =>
      (d_N_quarterIn S I R u25 (I u0 5)).bind fun I30 =>
      d_P_turnQuarter_31 S  n I30 R u0 (x1 + 1)
set_option maxHeartbeats 1000000 in
theorem e_P_turnQuarter_31 {l : Launch} {X : ax_X} {S : ax_S} {L : ax_L} {R0 : ax_R} {out : ax_I} (hX : ax_ok X l "LossFreeTools$Picture" b_P_turnQuarter 2 (ax_rm 2 0 0)) (hF : ax_fin X none 0 0 (ax_of (ax_eq none S out R0 L))) (hS0 : ax_S0 X = S) : ∀ (n : Nat), ∀ (I : ax_I) (R : ax_R) (u0 : Nat) (x1 : Int32), ax_typ S R → (S u0 = some (.inl 1)) → R = R0 → d_P_turnQuarter_31 S  n I R u0 x1 = some out → ax_W X 2 31 [some (.ref u0), some (.int (x1))] [] S I R L 0 0 := by
  intro n
  induction n with
  | zero =>
    rintro I R u0 x1 hty hs0_ hR0 h
    cases h
  | succ n ih =>
    rintro I R u0 x1 hty hs0_ hR0 h
    subst hR0
    unfold d_P_turnQuarter_31 at h
    refine ax_iload_n (q := 32) hX dc_P_turnQuarter_31 rfl rfl rfl ?_
    refine ax_aload_n (q := 33) hX dc_P_turnQuarter_32 rfl rfl rfl ?_
    refine ax_getI (q := 36) hX dc_P_turnQuarter_33 rfl fl_P_35 rfl hs0_ ?_
    refine ax_icmp_ge (tgt := 58) (q := 39) hX dc_P_turnQuarter_36 rfl (by decide) (fun z14 => ?_) (fun z14 => ?_)
    · rw [if_pos z14] at h
      refine ax_aload_n (q := 59) hX dc_P_turnQuarter_58 rfl rfl rfl ?_
      refine ax_getI (q := 62) hX dc_P_turnQuarter_59 rfl fl_P_25 rfl hs0_ ?_
      refine ax_istore_n (ls' := [some (.ref u0), some (.int (I u0 4))]) (q := 63) hX dc_P_turnQuarter_62 rfl rfl (by decide) rfl ?_
      refine ax_aload_n (q := 64) hX dc_P_turnQuarter_63 rfl rfl rfl ?_
      refine ax_aload_n (q := 65) hX dc_P_turnQuarter_64 rfl rfl rfl ?_
      refine ax_getI (q := 68) hX dc_P_turnQuarter_65 rfl fl_P_29 rfl hs0_ ?_
      obtain ⟨I15, e16, h⟩ := ax_bs h
      refine ax_putI (q := 71) hX dc_P_turnQuarter_68 rfl fl_P_25 rfl hs0_ (fun z => by cases z) rfl rfl e16 ?_
      refine ax_aload_n (q := 72) hX dc_P_turnQuarter_71 rfl rfl rfl ?_
      refine ax_iload_n (q := 73) hX dc_P_turnQuarter_72 rfl rfl rfl ?_
      obtain ⟨I17, e18, h⟩ := ax_bs h
      refine ax_putI (q := 76) hX dc_P_turnQuarter_73 rfl fl_P_29 rfl hs0_ (fun z => by cases z) rfl rfl e18 ?_
      cases h
      exact ax_vret hX hF dc_P_turnQuarter_76 (by decide) (by decide) ax_eq.mk (by rw [hS0]; exact fun _ _ z => z)
    · rw [if_neg z14] at h
      refine ax_aload_n (q := 40) hX dc_P_turnQuarter_39 rfl rfl rfl ?_
      obtain ⟨u19, hu20, h⟩ := ax_bd h
      obtain ⟨n22, hs21⟩ : ∃ n, S u19 = some (.inr (3, n)) := hty.1 _ _ _ _ hs0_ hu20
      refine ax_getR (q := 43) hX dc_P_turnQuarter_40 rfl fl_P_20 rfl hs0_ hu20 ?_
      refine ax_iload_n (q := 44) hX dc_P_turnQuarter_43 rfl rfl rfl ?_
      obtain ⟨j23, hj24, h⟩ := ax_bd h
      have hj24 := ax_ix_s hty hs21 hj24
      obtain ⟨u25, hu26, h⟩ := ax_bd h
      have hs27 : S u25 = some (.inl 0) := hty.2.2.1 _ _ _ _ hs21 hu26
      refine ax_aald (q := 45) hX j23 dc_P_turnQuarter_44 rfl hs21 rfl rfl hj24.1 hj24.2.1 hj24.2.2 hu26 ?_
      refine ax_aload_n (q := 46) hX dc_P_turnQuarter_45 rfl rfl rfl ?_
      refine ax_getI (q := 49) hX dc_P_turnQuarter_46 rfl fl_P_29 rfl hs0_ ?_
      obtain ⟨I30, hr28, h⟩ := ax_bd h
      refine ax_kV (vs := [.int (I u0 5)]) (rest := []) (q := 52) hX dc_P_turnQuarter_49 rfl mt_N_quarterIn wl_P_105 wi_N_quarterIn ws_N_quarterIn hs27 rfl (c_N_quarterIn l hty hs27 hr28) rfl (by decide) rfl (Nat.le_of_ble_eq_true rfl) rfl rfl (by decide) (by decide) rfl ?_
      refine ax_iinc (v := x1 + 1) (ls' := [some (.ref u0), some (.int (x1 + 1))]) (q := 55) hX dc_P_turnQuarter_52 rfl rfl rfl (by decide) rfl ?_
      refine ax_goto (tgt := 31) hX dc_P_turnQuarter_55 (by decide) ?_
      exact (ih I30 R u0 (x1 + 1) hty hs0_ rfl h)
def d_P_turnQuarter_2 (S : ax_S) : Nat → ax_I → ax_R → Nat → Int32 → Option (ax_I)
  | 0, _, _, _, _ => none
  | n + 1, I, R, u0, x1 =>
    if (I u0 2) ≤ x1 then
      d_P_turnQuarter_31 S  5000 I R u0 (0)
    else
      (R u0 0).bind fun u2 =>
      (ax_ix S u2 (x1)).bind fun j6 =>
      (R u2 j6).bind fun u8 =>
      (d_T_quarterIn S I R u8 (I u0 5)).bind fun I13 =>
      d_P_turnQuarter_2 S  n I13 R u0 (x1 + 1)
set_option maxHeartbeats 1000000 in
theorem e_P_turnQuarter_2 {l : Launch} {X : ax_X} {S : ax_S} {L : ax_L} {R0 : ax_R} {out : ax_I} (hX : ax_ok X l "LossFreeTools$Picture" b_P_turnQuarter 2 (ax_rm 2 0 0)) (hF : ax_fin X none 0 0 (ax_of (ax_eq none S out R0 L))) (hS0 : ax_S0 X = S) : ∀ (n : Nat), ∀ (I : ax_I) (R : ax_R) (u0 : Nat) (x1 : Int32), ax_typ S R → (S u0 = some (.inl 1)) → R = R0 → d_P_turnQuarter_2 S  n I R u0 x1 = some out → ax_W X 2 2 [some (.ref u0), some (.int (x1))] [] S I R L 0 0 := by
  intro n
  induction n with
  | zero =>
    rintro I R u0 x1 hty hs0_ hR0 h
    cases h
  | succ n ih =>
    rintro I R u0 x1 hty hs0_ hR0 h
    subst hR0
    unfold d_P_turnQuarter_2 at h
    refine ax_iload_n (q := 3) hX dc_P_turnQuarter_2 rfl rfl rfl ?_
    refine ax_aload_n (q := 4) hX dc_P_turnQuarter_3 rfl rfl rfl ?_
    refine ax_getI (q := 7) hX dc_P_turnQuarter_4 rfl fl_P_32 rfl hs0_ ?_
    refine ax_icmp_ge (tgt := 29) (q := 10) hX dc_P_turnQuarter_7 rfl (by decide) (fun z1 => ?_) (fun z1 => ?_)
    · rw [if_pos z1] at h
      refine ax_iconst (v := 0) (q := 30) hX dc_P_turnQuarter_29 rfl (by decide) ?_
      refine ax_istore_n (ls' := [some (.ref u0), some (.int (0))]) (q := 31) hX dc_P_turnQuarter_30 rfl rfl (by decide) rfl ?_
      exact (e_P_turnQuarter_31 hX hF hS0  5000 I R u0 (0) hty hs0_ rfl h)
    · rw [if_neg z1] at h
      refine ax_aload_n (q := 11) hX dc_P_turnQuarter_10 rfl rfl rfl ?_
      obtain ⟨u2, hu3, h⟩ := ax_bd h
      obtain ⟨n5, hs4⟩ : ∃ n, S u2 = some (.inr (2, n)) := hty.1 _ _ _ _ hs0_ hu3
      refine ax_getR (q := 14) hX dc_P_turnQuarter_11 rfl fl_P_11 rfl hs0_ hu3 ?_
      refine ax_iload_n (q := 15) hX dc_P_turnQuarter_14 rfl rfl rfl ?_
      obtain ⟨j6, hj7, h⟩ := ax_bd h
      have hj7 := ax_ix_s hty hs4 hj7
      obtain ⟨u8, hu9, h⟩ := ax_bd h
      have hs10 : S u8 = some (.inl 3) := hty.2.1 _ _ _ _ hs4 hu9
      refine ax_aald (q := 16) hX j6 dc_P_turnQuarter_15 rfl hs4 rfl rfl hj7.1 hj7.2.1 hj7.2.2 hu9 ?_
      refine ax_aload_n (q := 17) hX dc_P_turnQuarter_16 rfl rfl rfl ?_
      refine ax_getI (q := 20) hX dc_P_turnQuarter_17 rfl fl_P_29 rfl hs0_ ?_
      obtain ⟨I13, hr11, h⟩ := ax_bd h
      refine ax_kV (vs := [.int (I u0 5)]) (rest := []) (q := 23) hX dc_P_turnQuarter_20 rfl mt_T_quarterIn wl_P_102 wi_T_quarterIn ws_T_quarterIn hs10 rfl (c_T_quarterIn l hty hs10 hr11) rfl (by decide) rfl (Nat.le_of_ble_eq_true rfl) rfl rfl (by decide) (by decide) rfl ?_
      refine ax_iinc (v := x1 + 1) (ls' := [some (.ref u0), some (.int (x1 + 1))]) (q := 26) hX dc_P_turnQuarter_23 rfl rfl rfl (by decide) rfl ?_
      refine ax_goto (tgt := 2) hX dc_P_turnQuarter_26 (by decide) ?_
      exact (ih I13 R u0 (x1 + 1) hty hs0_ rfl h)
def d_P_turnQuarter (S : ax_S) (I : ax_I) (R : ax_R) (u0 : Nat) : Option (ax_I) :=
  d_P_turnQuarter_2 S  5000 I R u0 (0)
set_option maxHeartbeats 1000000 in
theorem c_P_turnQuarter (l : Launch) {S : ax_S} {I : ax_I} {R : ax_R} {L : ax_L} {u0 : Nat} {out : ax_I} (hty : ax_typ S R) (hs0 : S u0 = some (.inl 1)) (h : d_P_turnQuarter S I R u0 = some out) : ax_Met l y_P_turnQuarter b_P_turnQuarter 2 none (ax_rm 2 0 0) [.ref u0] S I R L (ax_eq none S out R L) := by
  refine ax_enter (own := "LossFreeTools$Picture") (by decide +kernel) rfl (ax_cats rfl) (Nat.le_of_ble_eq_true rfl) (fun X hX hF _ hS0 => ?_)
  show ax_W X 2 0 [some (.ref u0), none] [] S I R L 0 0
  unfold d_P_turnQuarter at h
  refine ax_iconst (v := 0) (q := 1) hX dc_P_turnQuarter_0 rfl (by decide) ?_
  refine ax_istore_n (ls' := [some (.ref u0), some (.int (0))]) (q := 2) hX dc_P_turnQuarter_1 rfl rfl (by decide) rfl ?_
  exact (e_P_turnQuarter_2 hX hF hS0  5000 I R u0 (0) hty hs0 rfl h)
def d_K_together_45 (S : ax_S) (I : ax_I) (R : ax_R) (x2 : Int32) (y0 : Int32) : Option (Int32) :=
  (d_K_quarters S I R (x2)).bind fun r26 =>
  some (y0 + r26)
set_option maxHeartbeats 1000000 in
theorem e_K_together_45 {l : Launch} {X : ax_X} {S : ax_S} {L : ax_L} {I0 : ax_I} {R0 : ax_R} {out : Int32} (hX : ax_ok X l "LossFreeTools" b_K_together 4 (ax_rm 2 0 0)) (hF : ax_fin X (some .int) 0 0 (ax_of (ax_eq (some (.int out)) S I0 R0 L))) (hS0 : ax_S0 X = S) : ∀ (I : ax_I) (R : ax_R) (x2 : Int32) (y0 : Int32), ax_typ S R → I = I0 → R = R0 → d_K_together_45 S  I R x2 y0 = some out → ax_W X 4 45 [none, none, some (.int (x2)), none] [.int (y0)] S I R L 0 0 := by
  rintro I R x2 y0 hty hI0 hR0 h
  subst hI0
  subst hR0
  unfold d_K_together_45 at h
  refine ax_istore_n (ls' := [none, none, some (.int (x2)), some (.int (y0))]) (q := 46) hX dc_K_together_45 rfl rfl (by decide) rfl ?_
  refine ax_iload_n (q := 47) hX dc_K_together_46 rfl rfl rfl ?_
  refine ax_iload_n (q := 48) hX dc_K_together_47 rfl rfl rfl ?_
  obtain ⟨r26, hr24, h⟩ := ax_bd h
  refine ax_kS (vs := [.int (x2)]) (rest := [.int (y0)]) (q := 51) hX dc_K_together_48 rfl mt_K_quarters wl_K_274 wt_K_quarters (c_K_quarters l hty  hr24) rfl (by decide) rfl (Nat.le_of_ble_eq_true rfl) rfl rfl (by decide) (by decide) rfl ?_
  refine ax_iadd (q := 52) hX dc_K_together_51 rfl ?_
  cases h
  exact ax_iret hX hF dc_K_together_52 rfl rfl (by decide) (by decide) ax_eq.mk (by rw [hS0]; exact fun _ _ z => z)
def d_K_together_28 (S : ax_S) (I : ax_I) (R : ax_R) (x0 : Int32) (x1 : Int32) (y0 : Int32) : Option (Int32) :=
  (d_K_mirrors S I R (x0)).bind fun r19 =>
  (d_K_mirrors S I R (x1)).bind fun r22 =>
  if (ax_b r19) = (ax_b r22) then
    d_K_together_45 S  I R (y0) (0)
  else
    d_K_together_45 S  I R (y0) (4)
set_option maxHeartbeats 1000000 in
theorem e_K_together_28 {l : Launch} {X : ax_X} {S : ax_S} {L : ax_L} {I0 : ax_I} {R0 : ax_R} {out : Int32} (hX : ax_ok X l "LossFreeTools" b_K_together 4 (ax_rm 2 0 0)) (hF : ax_fin X (some .int) 0 0 (ax_of (ax_eq (some (.int out)) S I0 R0 L))) (hS0 : ax_S0 X = S) : ∀ (I : ax_I) (R : ax_R) (x0 : Int32) (x1 : Int32) (y0 : Int32), ax_typ S R → I = I0 → R = R0 → d_K_together_28 S  I R x0 x1 y0 = some out → ax_W X 4 28 [some (.int (x0)), some (.int (x1)), none, none] [.int (y0)] S I R L 0 0 := by
  rintro I R x0 x1 y0 hty hI0 hR0 h
  subst hI0
  subst hR0
  unfold d_K_together_28 at h
  refine ax_istore_n (ls' := [some (.int (x0)), some (.int (x1)), some (.int (y0)), none]) (q := 29) hX dc_K_together_28 rfl rfl (by decide) rfl ?_
  refine ax_iload_n (q := 30) hX dc_K_together_29 rfl rfl rfl ?_
  obtain ⟨r19, hr17, h⟩ := ax_bd h
  refine ax_kS (vs := [.int (x0)]) (rest := []) (q := 33) hX dc_K_together_30 rfl mt_K_mirrors wl_K_271 wt_K_mirrors (c_K_mirrors l hty  hr17) rfl (by decide) rfl (Nat.le_of_ble_eq_true rfl) rfl rfl (by decide) (by decide) rfl ?_
  refine ax_iload_n (q := 34) hX dc_K_together_33 rfl rfl rfl ?_
  obtain ⟨r22, hr20, h⟩ := ax_bd h
  refine ax_kS (vs := [.int (x1)]) (rest := [.int (ax_b r19)]) (q := 37) hX dc_K_together_34 rfl mt_K_mirrors wl_K_271 wt_K_mirrors (c_K_mirrors l hty  hr20) rfl (by decide) rfl (Nat.le_of_ble_eq_true rfl) rfl rfl (by decide) (by decide) rfl ?_
  refine ax_icmp_eq (tgt := 44) (q := 40) hX dc_K_together_37 rfl (by decide) (fun z23 => ?_) (fun z23 => ?_)
  · rw [if_pos z23] at h
    refine ax_iconst (v := 0) (q := 45) hX dc_K_together_44 rfl (by decide) ?_
    exact ax_weak (ls' := [none, none, some (.int (y0)), none]) (ax_fewP_s _ _ (by repeat (first | exact trivial | (refine And.intro rfl ?_)))) (e_K_together_45 hX hF hS0  I R (y0) (0) hty  rfl rfl h)
  · rw [if_neg z23] at h
    refine ax_iconst (v := 4) (q := 41) hX dc_K_together_40 rfl (by decide) ?_
    refine ax_goto (tgt := 45) hX dc_K_together_41 (by decide) ?_
    exact ax_weak (ls' := [none, none, some (.int (y0)), none]) (ax_fewP_s _ _ (by repeat (first | exact trivial | (refine And.intro rfl ?_)))) (e_K_together_45 hX hF hS0  I R (y0) (4) hty  rfl rfl h)
def d_K_together (S : ax_S) (I : ax_I) (R : ax_R) (x0 : Int32) (x1 : Int32) : Option (Int32) :=
  (d_K_mirrors S I R (x1)).bind fun r3 =>
  if (ax_b r3) = 0 then
    (d_K_quarters S I R (x1)).bind fun r7 =>
    (d_K_quarters S I R (x0)).bind fun r10 =>
    d_K_together_28 S  I R (x0) (x1) (r7 + r10)
  else
    (d_K_quarters S I R (x1)).bind fun r13 =>
    (d_K_quarters S I R (x0)).bind fun r16 =>
    d_K_together_28 S  I R (x0) (x1) (r13 - r16)
set_option maxHeartbeats 1000000 in
theorem c_K_together (l : Launch) {S : ax_S} {I : ax_I} {R : ax_R} {L : ax_L} {x0 : Int32} {x1 : Int32} {out : Int32} (hty : ax_typ S R) (h : d_K_together S I R x0 x1 = some out) : ax_Met l y_K_together b_K_together 4 (some .int) (ax_rm 2 0 0) [.int x0, .int x1] S I R L (ax_eq (some (.int out)) S I R L) := by
  refine ax_enter (own := "LossFreeTools") (by decide +kernel) rfl (ax_cats rfl) (Nat.le_of_ble_eq_true rfl) (fun X hX hF _ hS0 => ?_)
  show ax_W X 4 0 [some (.int (x0)), some (.int (x1)), none, none] [] S I R L 0 0
  unfold d_K_together at h
  refine ax_iload_n (q := 1) hX dc_K_together_0 rfl rfl rfl ?_
  obtain ⟨r3, hr1, h⟩ := ax_bd h
  refine ax_kS (vs := [.int (x1)]) (rest := []) (q := 4) hX dc_K_together_1 rfl mt_K_mirrors wl_K_271 wt_K_mirrors (c_K_mirrors l hty  hr1) rfl (by decide) rfl (Nat.le_of_ble_eq_true rfl) rfl rfl (by decide) (by decide) rfl ?_
  refine ax_if_eq (tgt := 19) (q := 7) hX dc_K_together_4 rfl (by decide) (fun z4 => ?_) (fun z4 => ?_)
  · rw [if_pos z4] at h
    refine ax_iload_n (q := 20) hX dc_K_together_19 rfl rfl rfl ?_
    obtain ⟨r7, hr5, h⟩ := ax_bd h
    refine ax_kS (vs := [.int (x1)]) (rest := []) (q := 23) hX dc_K_together_20 rfl mt_K_quarters wl_K_274 wt_K_quarters (c_K_quarters l hty  hr5) rfl (by decide) rfl (Nat.le_of_ble_eq_true rfl) rfl rfl (by decide) (by decide) rfl ?_
    refine ax_iload_n (q := 24) hX dc_K_together_23 rfl rfl rfl ?_
    obtain ⟨r10, hr8, h⟩ := ax_bd h
    refine ax_kS (vs := [.int (x0)]) (rest := [.int (r7)]) (q := 27) hX dc_K_together_24 rfl mt_K_quarters wl_K_274 wt_K_quarters (c_K_quarters l hty  hr8) rfl (by decide) rfl (Nat.le_of_ble_eq_true rfl) rfl rfl (by decide) (by decide) rfl ?_
    refine ax_iadd (q := 28) hX dc_K_together_27 rfl ?_
    exact (e_K_together_28 hX hF hS0  I R (x0) (x1) (r7 + r10) hty  rfl rfl h)
  · rw [if_neg z4] at h
    refine ax_iload_n (q := 8) hX dc_K_together_7 rfl rfl rfl ?_
    obtain ⟨r13, hr11, h⟩ := ax_bd h
    refine ax_kS (vs := [.int (x1)]) (rest := []) (q := 11) hX dc_K_together_8 rfl mt_K_quarters wl_K_274 wt_K_quarters (c_K_quarters l hty  hr11) rfl (by decide) rfl (Nat.le_of_ble_eq_true rfl) rfl rfl (by decide) (by decide) rfl ?_
    refine ax_iload_n (q := 12) hX dc_K_together_11 rfl rfl rfl ?_
    obtain ⟨r16, hr14, h⟩ := ax_bd h
    refine ax_kS (vs := [.int (x0)]) (rest := [.int (r13)]) (q := 15) hX dc_K_together_12 rfl mt_K_quarters wl_K_274 wt_K_quarters (c_K_quarters l hty  hr14) rfl (by decide) rfl (Nat.le_of_ble_eq_true rfl) rfl rfl (by decide) (by decide) rfl ?_
    refine ax_isub (q := 16) hX dc_K_together_15 rfl ?_
    refine ax_goto (tgt := 28) hX dc_K_together_16 (by decide) ?_
    exact (e_K_together_28 hX hF hS0  I R (x0) (x1) (r13 - r16) hty  rfl rfl h)
def d_P_hasRoomFor (S : ax_S) (I : ax_I) (R : ax_R) (u0 : Nat) (u1 : Nat) (x2 : Int32) : Option (Bool) :=
  (d_P_sizeAlong S I R u0 (x2)).bind fun r3 =>
  (d_P_sizeAlong S I R u1 (x2)).bind fun r6 =>
  if 400 < (r3 + r6) then
    some (false)
  else
    if 40 < ((I u0 2) + (I u1 2)) then
      some (false)
    else
      if 20 < ((I u0 3) + (I u1 3)) then
        some (false)
      else
        some (true)
set_option maxHeartbeats 1000000 in
theorem c_P_hasRoomFor (l : Launch) {S : ax_S} {I : ax_I} {R : ax_R} {L : ax_L} {u0 : Nat} {u1 : Nat} {x2 : Int32} {out : Bool} (hty : ax_typ S R) (hs0 : S u0 = some (.inl 1)) (hs1 : S u1 = some (.inl 1)) (h : d_P_hasRoomFor S I R u0 u1 x2 = some out) : ax_Met l y_P_hasRoomFor b_P_hasRoomFor 3 (some .boolean) (ax_rm 2 0 0) [.ref u0, .ref u1, .int x2] S I R L (ax_eq (some (.int (ax_b out))) S I R L) := by
  refine ax_enter (own := "LossFreeTools$Picture") (by decide +kernel) rfl (ax_cats rfl) (Nat.le_of_ble_eq_true rfl) (fun X hX hF _ hS0 => ?_)
  show ax_W X 3 0 [some (.ref u0), some (.ref u1), some (.int (x2))] [] S I R L 0 0
  unfold d_P_hasRoomFor at h
  refine ax_aload_n (q := 1) hX dc_P_hasRoomFor_0 rfl rfl rfl ?_
  refine ax_iload_n (q := 2) hX dc_P_hasRoomFor_1 rfl rfl rfl ?_
  obtain ⟨r3, hr1, h⟩ := ax_bd h
  refine ax_kV (vs := [.int (x2)]) (rest := []) (q := 5) hX dc_P_hasRoomFor_2 rfl mt_P_sizeAlong wl_P_53 wi_P_sizeAlong ws_P_sizeAlong hs0 rfl (c_P_sizeAlong l hty hs0 hr1) rfl (by decide) rfl (Nat.le_of_ble_eq_true rfl) rfl rfl (by decide) (by decide) rfl ?_
  refine ax_aload_n (q := 6) hX dc_P_hasRoomFor_5 rfl rfl rfl ?_
  refine ax_iload_n (q := 7) hX dc_P_hasRoomFor_6 rfl rfl rfl ?_
  obtain ⟨r6, hr4, h⟩ := ax_bd h
  refine ax_kV (vs := [.int (x2)]) (rest := [.int (r3)]) (q := 10) hX dc_P_hasRoomFor_7 rfl mt_P_sizeAlong wl_P_53 wi_P_sizeAlong ws_P_sizeAlong hs1 rfl (c_P_sizeAlong l hty hs1 hr4) rfl (by decide) rfl (Nat.le_of_ble_eq_true rfl) rfl rfl (by decide) (by decide) rfl ?_
  refine ax_iadd (q := 11) hX dc_P_hasRoomFor_10 rfl ?_
  refine ax_sipush (v := 400) (q := 14) hX dc_P_hasRoomFor_11 rfl (by decide) ?_
  refine ax_icmp_gt (tgt := 49) (q := 17) hX dc_P_hasRoomFor_14 rfl (by decide) (fun z7 => ?_) (fun z7 => ?_)
  · rw [if_pos z7] at h
    refine ax_iconst (v := 0) (q := 50) hX dc_P_hasRoomFor_49 rfl (by decide) ?_
    cases h
    exact ax_iret hX hF dc_P_hasRoomFor_50 rfl rfl (by decide) (by decide) ax_eq.mk (by rw [hS0]; exact fun _ _ z => z)
  · rw [if_neg z7] at h
    refine ax_aload_n (q := 18) hX dc_P_hasRoomFor_17 rfl rfl rfl ?_
    refine ax_getI (q := 21) hX dc_P_hasRoomFor_18 rfl fl_P_32 rfl hs0 ?_
    refine ax_aload_n (q := 22) hX dc_P_hasRoomFor_21 rfl rfl rfl ?_
    refine ax_getI (q := 25) hX dc_P_hasRoomFor_22 rfl fl_P_32 rfl hs1 ?_
    refine ax_iadd (q := 26) hX dc_P_hasRoomFor_25 rfl ?_
    refine ax_bipush (v := 40) (q := 28) hX dc_P_hasRoomFor_26 rfl (by decide) ?_
    refine ax_icmp_gt (tgt := 49) (q := 31) hX dc_P_hasRoomFor_28 rfl (by decide) (fun z8 => ?_) (fun z8 => ?_)
    · rw [if_pos z8] at h
      refine ax_iconst (v := 0) (q := 50) hX dc_P_hasRoomFor_49 rfl (by decide) ?_
      cases h
      exact ax_iret hX hF dc_P_hasRoomFor_50 rfl rfl (by decide) (by decide) ax_eq.mk (by rw [hS0]; exact fun _ _ z => z)
    · rw [if_neg z8] at h
      refine ax_aload_n (q := 32) hX dc_P_hasRoomFor_31 rfl rfl rfl ?_
      refine ax_getI (q := 35) hX dc_P_hasRoomFor_32 rfl fl_P_35 rfl hs0 ?_
      refine ax_aload_n (q := 36) hX dc_P_hasRoomFor_35 rfl rfl rfl ?_
      refine ax_getI (q := 39) hX dc_P_hasRoomFor_36 rfl fl_P_35 rfl hs1 ?_
      refine ax_iadd (q := 40) hX dc_P_hasRoomFor_39 rfl ?_
      refine ax_bipush (v := 20) (q := 42) hX dc_P_hasRoomFor_40 rfl (by decide) ?_
      refine ax_icmp_gt (tgt := 49) (q := 45) hX dc_P_hasRoomFor_42 rfl (by decide) (fun z9 => ?_) (fun z9 => ?_)
      · rw [if_pos z9] at h
        refine ax_iconst (v := 0) (q := 50) hX dc_P_hasRoomFor_49 rfl (by decide) ?_
        cases h
        exact ax_iret hX hF dc_P_hasRoomFor_50 rfl rfl (by decide) (by decide) ax_eq.mk (by rw [hS0]; exact fun _ _ z => z)
      · rw [if_neg z9] at h
        refine ax_iconst (v := 1) (q := 46) hX dc_P_hasRoomFor_45 rfl (by decide) ?_
        refine ax_goto (tgt := 50) hX dc_P_hasRoomFor_46 (by decide) ?_
        cases h
        exact ax_iret hX hF dc_P_hasRoomFor_50 rfl rfl (by decide) (by decide) ax_eq.mk (by rw [hS0]; exact fun _ _ z => z)
def d_P_placeOfPart_52 (S : ax_S) (rec19 : ax_I → ax_R → Nat → Nat → Int32 → Int32 → Option (Int32)) (I : ax_I) (R : ax_R) (u0 : Nat) (u1 : Nat) (x2 : Int32) (x3 : Int32) : Option (Int32) :=
  rec19 I R u0 u1 (x2) (x3 + 1)
set_option maxHeartbeats 1000000 in
theorem e_P_placeOfPart_52 {l : Launch} {X : ax_X} {S : ax_S} {L : ax_L} {I0 : ax_I} {R0 : ax_R} {out : Int32} (hX : ax_ok X l "LossFreeTools$Picture" b_P_placeOfPart 4 (ax_rm 2 0 0)) (hF : ax_fin X (some .int) 0 0 (ax_of (ax_eq (some (.int out)) S I0 R0 L))) (hS0 : ax_S0 X = S) (rec19 : ax_I → ax_R → Nat → Nat → Int32 → Int32 → Option (Int32)) (hrec19 : ∀ (I : ax_I) (R : ax_R) (u0 : Nat) (u1 : Nat) (x2 : Int32) (x3 : Int32), ax_typ S R → (S u0 = some (.inl 1)) → (S u1 = some (.inl 3)) → I = I0 → R = R0 → rec19 I R u0 u1 x2 x3 = some out → ax_W X 4 19 [some (.ref u0), some (.ref u1), some (.int (x2)), some (.int (x3))] [] S I R L 0 0) : ∀ (I : ax_I) (R : ax_R) (u0 : Nat) (u1 : Nat) (x2 : Int32) (x3 : Int32), ax_typ S R → (S u0 = some (.inl 1)) → (S u1 = some (.inl 3)) → I = I0 → R = R0 → d_P_placeOfPart_52 S rec19 I R u0 u1 x2 x3 = some out → ax_W X 4 52 [some (.ref u0), some (.ref u1), some (.int (x2)), some (.int (x3))] [] S I R L 0 0 := by
  rintro I R u0 u1 x2 x3 hty hs0_ hs1_ hI0 hR0 h
  subst hI0
  subst hR0
  unfold d_P_placeOfPart_52 at h
  refine ax_iinc (v := x3 + 1) (ls' := [some (.ref u0), some (.ref u1), some (.int (x2)), some (.int (x3 + 1))]) (q := 55) hX dc_P_placeOfPart_52 rfl rfl rfl (by decide) rfl ?_
  refine ax_goto (tgt := 19) hX dc_P_placeOfPart_55 (by decide) ?_
  exact (hrec19 I R u0 u1 (x2) (x3 + 1) hty hs0_ hs1_ rfl rfl h)
def d_P_placeOfPart_19 (S : ax_S) : Nat → ax_I → ax_R → Nat → Nat → Int32 → Int32 → Option (Int32)
  | 0, _, _, _, _, _, _ => none
  | n + 1, I, R, u0, u1, x2, x3 =>
    if (I u0 2) ≤ x3 then
      some (x2)
    else
      (R u0 0).bind fun u2 =>
      (ax_ix S u2 (x3)).bind fun j6 =>
      (R u2 j6).bind fun u8 =>
      (d_T_partComesBefore S I R u8 u1).bind fun r13 =>
      if (ax_b r13) = 0 then
        d_P_placeOfPart_52 S (d_P_placeOfPart_19 S  n) I R u0 u1 (x2) (x3)
      else
        (R u0 0).bind fun u15 =>
        (ax_ix S u15 (x3)).bind fun j19 =>
        (R u15 j19).bind fun u21 =>
        (d_T_partLength S I R u21).bind fun r26 =>
        d_P_placeOfPart_52 S (d_P_placeOfPart_19 S  n) I R u0 u1 (x2 + r26) (x3)
set_option maxHeartbeats 1000000 in
theorem e_P_placeOfPart_19 {l : Launch} {X : ax_X} {S : ax_S} {L : ax_L} {I0 : ax_I} {R0 : ax_R} {out : Int32} (hX : ax_ok X l "LossFreeTools$Picture" b_P_placeOfPart 4 (ax_rm 2 0 0)) (hF : ax_fin X (some .int) 0 0 (ax_of (ax_eq (some (.int out)) S I0 R0 L))) (hS0 : ax_S0 X = S) : ∀ (n : Nat), ∀ (I : ax_I) (R : ax_R) (u0 : Nat) (u1 : Nat) (x2 : Int32) (x3 : Int32), ax_typ S R → (S u0 = some (.inl 1)) → (S u1 = some (.inl 3)) → I = I0 → R = R0 → d_P_placeOfPart_19 S  n I R u0 u1 x2 x3 = some out → ax_W X 4 19 [some (.ref u0), some (.ref u1), some (.int (x2)), some (.int (x3))] [] S I R L 0 0 := by
  intro n
  induction n with
  | zero =>
    rintro I R u0 u1 x2 x3 hty hs0_ hs1_ hI0 hR0 h
    cases h
  | succ n ih =>
    rintro I R u0 u1 x2 x3 hty hs0_ hs1_ hI0 hR0 h
    subst hI0
    subst hR0
    unfold d_P_placeOfPart_19 at h
    refine ax_iload_n (q := 20) hX dc_P_placeOfPart_19 rfl rfl rfl ?_
    refine ax_aload_n (q := 21) hX dc_P_placeOfPart_20 rfl rfl rfl ?_
    refine ax_getI (q := 24) hX dc_P_placeOfPart_21 rfl fl_P_32 rfl hs0_ ?_
    refine ax_icmp_ge (tgt := 58) (q := 27) hX dc_P_placeOfPart_24 rfl (by decide) (fun z1 => ?_) (fun z1 => ?_)
    · rw [if_pos z1] at h
      refine ax_iload_n (q := 59) hX dc_P_placeOfPart_58 rfl rfl rfl ?_
      cases h
      exact ax_iret hX hF dc_P_placeOfPart_59 rfl rfl (by decide) (by decide) ax_eq.mk (by rw [hS0]; exact fun _ _ z => z)
    · rw [if_neg z1] at h
      refine ax_aload_n (q := 28) hX dc_P_placeOfPart_27 rfl rfl rfl ?_
      obtain ⟨u2, hu3, h⟩ := ax_bd h
      obtain ⟨n5, hs4⟩ : ∃ n, S u2 = some (.inr (2, n)) := hty.1 _ _ _ _ hs0_ hu3
      refine ax_getR (q := 31) hX dc_P_placeOfPart_28 rfl fl_P_11 rfl hs0_ hu3 ?_
      refine ax_iload_n (q := 32) hX dc_P_placeOfPart_31 rfl rfl rfl ?_
      obtain ⟨j6, hj7, h⟩ := ax_bd h
      have hj7 := ax_ix_s hty hs4 hj7
      obtain ⟨u8, hu9, h⟩ := ax_bd h
      have hs10 : S u8 = some (.inl 3) := hty.2.1 _ _ _ _ hs4 hu9
      refine ax_aald (q := 33) hX j6 dc_P_placeOfPart_32 rfl hs4 rfl rfl hj7.1 hj7.2.1 hj7.2.2 hu9 ?_
      refine ax_aload_n (q := 34) hX dc_P_placeOfPart_33 rfl rfl rfl ?_
      obtain ⟨r13, hr11, h⟩ := ax_bd h
      refine ax_kV (vs := [.ref u1]) (rest := []) (q := 37) hX dc_P_placeOfPart_34 rfl mt_T_partComesBefore wl_P_106 wi_T_partComesBefore ws_T_partComesBefore hs10 rfl (c_T_partComesBefore l hty hs10 hs1_ hr11) rfl (by decide) rfl (Nat.le_of_ble_eq_true rfl) rfl rfl (by decide) (by decide) rfl ?_
      refine ax_if_eq (tgt := 52) (q := 40) hX dc_P_placeOfPart_37 rfl (by decide) (fun z14 => ?_) (fun z14 => ?_)
      · rw [if_pos z14] at h
        exact (e_P_placeOfPart_52 hX hF hS0 (d_P_placeOfPart_19 S  n) (ih) I R u0 u1 (x2) (x3) hty hs0_ hs1_ rfl rfl h)
      · rw [if_neg z14] at h
        refine ax_iload_n (q := 41) hX dc_P_placeOfPart_40 rfl rfl rfl ?_
        refine ax_aload_n (q := 42) hX dc_P_placeOfPart_41 rfl rfl rfl ?_
        obtain ⟨u15, hu16, h⟩ := ax_bd h
        obtain ⟨n18, hs17⟩ : ∃ n, S u15 = some (.inr (2, n)) := hty.1 _ _ _ _ hs0_ hu16
        refine ax_getR (q := 45) hX dc_P_placeOfPart_42 rfl fl_P_11 rfl hs0_ hu16 ?_
        refine ax_iload_n (q := 46) hX dc_P_placeOfPart_45 rfl rfl rfl ?_
        obtain ⟨j19, hj20, h⟩ := ax_bd h
        have hj20 := ax_ix_s hty hs17 hj20
        obtain ⟨u21, hu22, h⟩ := ax_bd h
        have hs23 : S u21 = some (.inl 3) := hty.2.1 _ _ _ _ hs17 hu22
        refine ax_aald (q := 47) hX j19 dc_P_placeOfPart_46 rfl hs17 rfl rfl hj20.1 hj20.2.1 hj20.2.2 hu22 ?_
        obtain ⟨r26, hr24, h⟩ := ax_bd h
        refine ax_kV (vs := []) (rest := [.int (x2)]) (q := 50) hX dc_P_placeOfPart_47 rfl mt_T_partLength wl_P_110 wi_T_partLength ws_T_partLength hs23 rfl (c_T_partLength l hty hs23 hr24) rfl (by decide) rfl (Nat.le_of_ble_eq_true rfl) rfl rfl (by decide) (by decide) rfl ?_
        refine ax_iadd (q := 51) hX dc_P_placeOfPart_50 rfl ?_
        refine ax_istore_n (ls' := [some (.ref u0), some (.ref u1), some (.int (x2 + r26)), some (.int (x3))]) (q := 52) hX dc_P_placeOfPart_51 rfl rfl (by decide) rfl ?_
        exact (e_P_placeOfPart_52 hX hF hS0 (d_P_placeOfPart_19 S  n) (ih) I R u0 u1 (x2 + r26) (x3) hty hs0_ hs1_ rfl rfl h)
def d_P_placeOfPart (S : ax_S) (I : ax_I) (R : ax_R) (u0 : Nat) (u1 : Nat) : Option (Int32) :=
  d_P_placeOfPart_19 S  5000 I R u0 u1 ((8 + (2 * (I u0 2))) + (5 * (I u0 3))) (0)
set_option maxHeartbeats 1000000 in
theorem c_P_placeOfPart (l : Launch) {S : ax_S} {I : ax_I} {R : ax_R} {L : ax_L} {u0 : Nat} {u1 : Nat} {out : Int32} (hty : ax_typ S R) (hs0 : S u0 = some (.inl 1)) (hs1 : S u1 = some (.inl 3)) (h : d_P_placeOfPart S I R u0 u1 = some out) : ax_Met l y_P_placeOfPart b_P_placeOfPart 4 (some .int) (ax_rm 2 0 0) [.ref u0, .ref u1] S I R L (ax_eq (some (.int out)) S I R L) := by
  refine ax_enter (own := "LossFreeTools$Picture") (by decide +kernel) rfl (ax_cats rfl) (Nat.le_of_ble_eq_true rfl) (fun X hX hF _ hS0 => ?_)
  show ax_W X 4 0 [some (.ref u0), some (.ref u1), none, none] [] S I R L 0 0
  unfold d_P_placeOfPart at h
  refine ax_bipush (v := 8) (q := 2) hX dc_P_placeOfPart_0 rfl (by decide) ?_
  refine ax_iconst (v := 2) (q := 3) hX dc_P_placeOfPart_2 rfl (by decide) ?_
  refine ax_aload_n (q := 4) hX dc_P_placeOfPart_3 rfl rfl rfl ?_
  refine ax_getI (q := 7) hX dc_P_placeOfPart_4 rfl fl_P_32 rfl hs0 ?_
  refine ax_imul (q := 8) hX dc_P_placeOfPart_7 rfl ?_
  refine ax_iadd (q := 9) hX dc_P_placeOfPart_8 rfl ?_
  refine ax_iconst (v := 5) (q := 10) hX dc_P_placeOfPart_9 rfl (by decide) ?_
  refine ax_aload_n (q := 11) hX dc_P_placeOfPart_10 rfl rfl rfl ?_
  refine ax_getI (q := 14) hX dc_P_placeOfPart_11 rfl fl_P_35 rfl hs0 ?_
  refine ax_imul (q := 15) hX dc_P_placeOfPart_14 rfl ?_
  refine ax_iadd (q := 16) hX dc_P_placeOfPart_15 rfl ?_
  refine ax_istore_n (ls' := [some (.ref u0), some (.ref u1), some (.int ((8 + (2 * (I u0 2))) + (5 * (I u0 3)))), none]) (q := 17) hX dc_P_placeOfPart_16 rfl rfl (by decide) rfl ?_
  refine ax_iconst (v := 0) (q := 18) hX dc_P_placeOfPart_17 rfl (by decide) ?_
  refine ax_istore_n (ls' := [some (.ref u0), some (.ref u1), some (.int ((8 + (2 * (I u0 2))) + (5 * (I u0 3)))), some (.int (0))]) (q := 19) hX dc_P_placeOfPart_18 rfl rfl (by decide) rfl ?_
  exact (e_P_placeOfPart_19 hX hF hS0  5000 I R u0 u1 ((8 + (2 * (I u0 2))) + (5 * (I u0 3))) (0) hty hs0 hs1 rfl rfl h)
def d_S_putNumber (S : ax_S) (I : ax_I) (R : ax_R) (u0 : Nat) (x1 : Int32) : Option (ax_I) :=
  (d_S_putByte S I R u0 (x1 &&& 255)).bind fun I3 =>
  (d_S_putByte S I3 R u0 ((x1 >>> (8 &&& 31)) &&& 255)).bind fun I6 =>
  some (I6)
set_option maxHeartbeats 1000000 in
theorem c_S_putNumber (l : Launch) {S : ax_S} {I : ax_I} {R : ax_R} {L : ax_L} {u0 : Nat} {x1 : Int32} {out : ax_I} (hty : ax_typ S R) (hs0 : S u0 = some (.inl 2)) (h : d_S_putNumber S I R u0 x1 = some out) : ax_Met l y_S_putNumber b_S_putNumber 2 none (ax_rm 2 0 0) [.ref u0, .int x1] S I R L (ax_eq none S out R L) := by
  refine ax_enter (own := "LossFreeTools$Stream") (by decide +kernel) rfl (ax_cats rfl) (Nat.le_of_ble_eq_true rfl) (fun X hX hF _ hS0 => ?_)
  show ax_W X 2 0 [some (.ref u0), some (.int (x1))] [] S I R L 0 0
  unfold d_S_putNumber at h
  refine ax_aload_n (q := 1) hX dc_S_putNumber_0 rfl rfl rfl ?_
  refine ax_iload_n (q := 2) hX dc_S_putNumber_1 rfl rfl rfl ?_
  refine ax_sipush (v := 255) (q := 5) hX dc_S_putNumber_2 rfl (by decide) ?_
  refine ax_iand (q := 6) hX dc_S_putNumber_5 rfl ?_
  obtain ⟨I3, hr1, h⟩ := ax_bd h
  refine ax_kV (vs := [.int (x1 &&& 255)]) (rest := []) (q := 9) hX dc_S_putNumber_6 rfl mt_S_putByte wl_S_28 wi_S_putByte ws_S_putByte hs0 rfl (c_S_putByte l hty hs0 hr1) rfl (by decide) rfl (Nat.le_of_ble_eq_true rfl) rfl rfl (by decide) (by decide) rfl ?_
  refine ax_aload_n (q := 10) hX dc_S_putNumber_9 rfl rfl rfl ?_
  refine ax_iload_n (q := 11) hX dc_S_putNumber_10 rfl rfl rfl ?_
  refine ax_bipush (v := 8) (q := 13) hX dc_S_putNumber_11 rfl (by decide) ?_
  refine ax_ishr (q := 14) hX dc_S_putNumber_13 rfl ?_
  refine ax_sipush (v := 255) (q := 17) hX dc_S_putNumber_14 rfl (by decide) ?_
  refine ax_iand (q := 18) hX dc_S_putNumber_17 rfl ?_
  obtain ⟨I6, hr4, h⟩ := ax_bd h
  refine ax_kV (vs := [.int ((x1 >>> (8 &&& 31)) &&& 255)]) (rest := []) (q := 21) hX dc_S_putNumber_18 rfl mt_S_putByte wl_S_28 wi_S_putByte ws_S_putByte hs0 rfl (c_S_putByte l hty hs0 hr4) rfl (by decide) rfl (Nat.le_of_ble_eq_true rfl) rfl rfl (by decide) (by decide) rfl ?_
  cases h
  exact ax_vret hX hF dc_S_putNumber_21 (by decide) (by decide) ax_eq.mk (by rw [hS0]; exact fun _ _ z => z)
def d_T_liesOnItsSide (S : ax_S) (I : ax_I) (R : ax_R) (u0 : Nat) : Option (Bool) :=
  (d_K_quarters S I R (I u0 6)).bind fun r3 =>
  if (r3 &&& 1) = 1 then
    some (true)
  else
    some (false)
set_option maxHeartbeats 1000000 in
theorem c_T_liesOnItsSide (l : Launch) {S : ax_S} {I : ax_I} {R : ax_R} {L : ax_L} {u0 : Nat} {out : Bool} (hty : ax_typ S R) (hs0 : S u0 = some (.inl 3)) (h : d_T_liesOnItsSide S I R u0 = some out) : ax_Met l y_T_liesOnItsSide b_T_liesOnItsSide 1 (some .boolean) (ax_rm 2 0 0) [.ref u0] S I R L (ax_eq (some (.int (ax_b out))) S I R L) := by
  refine ax_enter (own := "LossFreeTools$Tile") (by decide +kernel) rfl (ax_cats rfl) (Nat.le_of_ble_eq_true rfl) (fun X hX hF _ hS0 => ?_)
  show ax_W X 1 0 [some (.ref u0)] [] S I R L 0 0
  unfold d_T_liesOnItsSide at h
  refine ax_aload_n (q := 1) hX dc_T_liesOnItsSide_0 rfl rfl rfl ?_
  refine ax_getI (q := 4) hX dc_T_liesOnItsSide_1 rfl fl_T_28 rfl hs0 ?_
  obtain ⟨r3, hr1, h⟩ := ax_bd h
  refine ax_kN (host := "LossFreeTools") (vs := [.int (I u0 6)]) (rest := []) (q := 7) hX dc_T_liesOnItsSide_4 rfl mt_K_quarters (by decide +kernel) wt_K_quarters (c_K_quarters l hty  hr1) rfl (by decide) rfl (Nat.le_of_ble_eq_true rfl) rfl rfl (by decide) (by decide) rfl ?_
  refine ax_iconst (v := 1) (q := 8) hX dc_T_liesOnItsSide_7 rfl (by decide) ?_
  refine ax_iand (q := 9) hX dc_T_liesOnItsSide_8 rfl ?_
  refine ax_iconst (v := 1) (q := 10) hX dc_T_liesOnItsSide_9 rfl (by decide) ?_
  refine ax_icmp_ne (tgt := 17) (q := 13) hX dc_T_liesOnItsSide_10 rfl (by decide) (fun z4 => ?_) (fun z4 => ?_)
  · rw [if_neg z4] at h
    refine ax_iconst (v := 0) (q := 18) hX dc_T_liesOnItsSide_17 rfl (by decide) ?_
    cases h
    exact ax_iret hX hF dc_T_liesOnItsSide_18 rfl rfl (by decide) (by decide) ax_eq.mk (by rw [hS0]; exact fun _ _ z => z)
  · rw [if_pos z4] at h
    refine ax_iconst (v := 1) (q := 14) hX dc_T_liesOnItsSide_13 rfl (by decide) ?_
    refine ax_goto (tgt := 18) hX dc_T_liesOnItsSide_14 (by decide) ?_
    cases h
    exact ax_iret hX hF dc_T_liesOnItsSide_18 rfl rfl (by decide) (by decide) ax_eq.mk (by rw [hS0]; exact fun _ _ z => z)
def d_T_ownSample_92 (S : ax_S) (I : ax_I) (R : ax_R) (x3 : Int32) (x4 : Int32) : Option (Int32) :=
  some ((64 * x4) + x3)
set_option maxHeartbeats 1000000 in
theorem e_T_ownSample_92 {l : Launch} {X : ax_X} {S : ax_S} {L : ax_L} {I0 : ax_I} {R0 : ax_R} {out : Int32} (hX : ax_ok X l "LossFreeTools$Tile" b_T_ownSample 10 (ax_rm 2 0 0)) (hF : ax_fin X (some .int) 0 0 (ax_of (ax_eq (some (.int out)) S I0 R0 L))) (hS0 : ax_S0 X = S) : ∀ (I : ax_I) (R : ax_R) (x3 : Int32) (x4 : Int32), ax_typ S R → I = I0 → R = R0 → d_T_ownSample_92 S  I R x3 x4 = some out → ax_W X 10 92 [none, none, none, some (.int (x3)), some (.int (x4)), none, none, none, none, none] [] S I R L 0 0 := by
  rintro I R x3 x4 hty hI0 hR0 h
  subst hI0
  subst hR0
  unfold d_T_ownSample_92 at h
  refine ax_bipush (v := 64) (q := 94) hX dc_T_ownSample_92 rfl (by decide) ?_
  refine ax_iload (q := 96) hX dc_T_ownSample_94 rfl rfl ?_
  refine ax_imul (q := 97) hX dc_T_ownSample_96 rfl ?_
  refine ax_iload_n (q := 98) hX dc_T_ownSample_97 rfl rfl rfl ?_
  refine ax_iadd (q := 99) hX dc_T_ownSample_98 rfl ?_
  cases h
  exact ax_iret hX hF dc_T_ownSample_99 rfl rfl (by decide) (by decide) ax_eq.mk (by rw [hS0]; exact fun _ _ z => z)
def d_T_ownSample_30 (S : ax_S) : Nat → ax_I → ax_R → Nat → Int32 → Int32 → Int32 → Int32 → Int32 → Option (Int32)
  | 0, _, _, _, _, _, _, _, _ => none
  | n + 1, I, R, u0, x3, x4, x5, x6, x7 =>
    (d_K_quarters S I R (I u0 6)).bind fun r3 =>
    if r3 ≤ x7 then
      (d_K_mirrors S I R (I u0 6)).bind fun r7 =>
      if (ax_b r7) = 0 then
        d_T_ownSample_92 S  I R (x3) (x4)
      else
        d_T_ownSample_92 S  I R ((x5 - 1) - x3) (x4)
    else
      d_T_ownSample_30 S  n I R u0 (x4) ((x5 - 1) - x3) (x6) (x5) (x7 + 1)
set_option maxHeartbeats 1000000 in
theorem e_T_ownSample_30 {l : Launch} {X : ax_X} {S : ax_S} {L : ax_L} {I0 : ax_I} {R0 : ax_R} {out : Int32} (hX : ax_ok X l "LossFreeTools$Tile" b_T_ownSample 10 (ax_rm 2 0 0)) (hF : ax_fin X (some .int) 0 0 (ax_of (ax_eq (some (.int out)) S I0 R0 L))) (hS0 : ax_S0 X = S) : ∀ (n : Nat), ∀ (I : ax_I) (R : ax_R) (u0 : Nat) (x3 : Int32) (x4 : Int32) (x5 : Int32) (x6 : Int32) (x7 : Int32), ax_typ S R → (S u0 = some (.inl 3)) → I = I0 → R = R0 → d_T_ownSample_30 S  n I R u0 x3 x4 x5 x6 x7 = some out → ax_W X 10 30 [some (.ref u0), none, none, some (.int (x3)), some (.int (x4)), some (.int (x5)), some (.int (x6)), some (.int (x7)), none, none] [] S I R L 0 0 := by
  intro n
  induction n with
  | zero =>
    rintro I R u0 x3 x4 x5 x6 x7 hty hs0_ hI0 hR0 h
    cases h
  | succ n ih =>
    rintro I R u0 x3 x4 x5 x6 x7 hty hs0_ hI0 hR0 h
    subst hI0
    subst hR0
    unfold d_T_ownSample_30 at h
    refine ax_iload (q := 32) hX dc_T_ownSample_30 rfl rfl ?_
    refine ax_aload_n (q := 33) hX dc_T_ownSample_32 rfl rfl rfl ?_
    refine ax_getI (q := 36) hX dc_T_ownSample_33 rfl fl_T_28 rfl hs0_ ?_
    obtain ⟨r3, hr1, h⟩ := ax_bd h
    refine ax_kN (host := "LossFreeTools") (vs := [.int (I u0 6)]) (rest := [.int (x7)]) (q := 39) hX dc_T_ownSample_36 rfl mt_K_quarters (by decide +kernel) wt_K_quarters (c_K_quarters l hty  hr1) rfl (by decide) rfl (Nat.le_of_ble_eq_true rfl) rfl rfl (by decide) (by decide) rfl ?_
    refine ax_icmp_ge (tgt := 75) (q := 42) hX dc_T_ownSample_39 rfl (by decide) (fun z4 => ?_) (fun z4 => ?_)
    · rw [if_pos z4] at h
      refine ax_aload_n (q := 76) hX dc_T_ownSample_75 rfl rfl rfl ?_
      refine ax_getI (q := 79) hX dc_T_ownSample_76 rfl fl_T_28 rfl hs0_ ?_
      obtain ⟨r7, hr5, h⟩ := ax_bd h
      refine ax_kN (host := "LossFreeTools") (vs := [.int (I u0 6)]) (rest := []) (q := 82) hX dc_T_ownSample_79 rfl mt_K_mirrors (by decide +kernel) wt_K_mirrors (c_K_mirrors l hty  hr5) rfl (by decide) rfl (Nat.le_of_ble_eq_true rfl) rfl rfl (by decide) (by decide) rfl ?_
      refine ax_if_eq (tgt := 92) (q := 85) hX dc_T_ownSample_82 rfl (by decide) (fun z8 => ?_) (fun z8 => ?_)
      · rw [if_pos z8] at h
        exact ax_weak (ls' := [none, none, none, some (.int (x3)), some (.int (x4)), none, none, none, none, none]) (ax_fewP_s _ _ (by repeat (first | exact trivial | (refine And.intro rfl ?_)))) (e_T_ownSample_92 hX hF hS0  I R (x3) (x4) hty  rfl rfl h)
      · rw [if_neg z8] at h
        refine ax_iload (q := 87) hX dc_T_ownSample_85 rfl rfl ?_
        refine ax_iconst (v := 1) (q := 88) hX dc_T_ownSample_87 rfl (by decide) ?_
        refine ax_isub (q := 89) hX dc_T_ownSample_88 rfl ?_
        refine ax_iload_n (q := 90) hX dc_T_ownSample_89 rfl rfl rfl ?_
        refine ax_isub (q := 91) hX dc_T_ownSample_90 rfl ?_
        refine ax_istore_n (ls' := [some (.ref u0), none, none, some (.int ((x5 - 1) - x3)), some (.int (x4)), some (.int (x5)), some (.int (x6)), some (.int (x7)), none, none]) (q := 92) hX dc_T_ownSample_91 rfl rfl (by decide) rfl ?_
        exact ax_weak (ls' := [none, none, none, some (.int ((x5 - 1) - x3)), some (.int (x4)), none, none, none, none, none]) (ax_fewP_s _ _ (by repeat (first | exact trivial | (refine And.intro rfl ?_)))) (e_T_ownSample_92 hX hF hS0  I R ((x5 - 1) - x3) (x4) hty  rfl rfl h)
    · rw [if_neg z4] at h
      refine ax_iload_n (q := 43) hX dc_T_ownSample_42 rfl rfl rfl ?_
      refine ax_istore (ls' := [some (.ref u0), none, none, some (.int (x3)), some (.int (x4)), some (.int (x5)), some (.int (x6)), some (.int (x7)), some (.int (x3)), none]) (q := 45) hX dc_T_ownSample_43 rfl (by decide) rfl ?_
      refine ax_iload (q := 47) hX dc_T_ownSample_45 rfl rfl ?_
      refine ax_istore_n (ls' := [some (.ref u0), none, none, some (.int (x4)), some (.int (x4)), some (.int (x5)), some (.int (x6)), some (.int (x7)), some (.int (x3)), none]) (q := 48) hX dc_T_ownSample_47 rfl rfl (by decide) rfl ?_
      refine ax_iload (q := 50) hX dc_T_ownSample_48 rfl rfl ?_
      refine ax_iconst (v := 1) (q := 51) hX dc_T_ownSample_50 rfl (by decide) ?_
      refine ax_isub (q := 52) hX dc_T_ownSample_51 rfl ?_
      refine ax_iload (q := 54) hX dc_T_ownSample_52 rfl rfl ?_
      refine ax_isub (q := 55) hX dc_T_ownSample_54 rfl ?_
      refine ax_istore (ls' := [some (.ref u0), none, none, some (.int (x4)), some (.int ((x5 - 1) - x3)), some (.int (x5)), some (.int (x6)), some (.int (x7)), some (.int (x3)), none]) (q := 57) hX dc_T_ownSample_55 rfl (by decide) rfl ?_
      refine ax_iload (q := 59) hX dc_T_ownSample_57 rfl rfl ?_
      refine ax_istore (ls' := [some (.ref u0), none, none, some (.int (x4)), some (.int ((x5 - 1) - x3)), some (.int (x5)), some (.int (x6)), some (.int (x7)), some (.int (x3)), some (.int (x5))]) (q := 61) hX dc_T_ownSample_59 rfl (by decide) rfl ?_
      refine ax_iload (q := 63) hX dc_T_ownSample_61 rfl rfl ?_
      refine ax_istore (ls' := [some (.ref u0), none, none, some (.int (x4)), some (.int ((x5 - 1) - x3)), some (.int (x6)), some (.int (x6)), some (.int (x7)), some (.int (x3)), some (.int (x5))]) (q := 65) hX dc_T_ownSample_63 rfl (by decide) rfl ?_
      refine ax_iload (q := 67) hX dc_T_ownSample_65 rfl rfl ?_
      refine ax_istore (ls' := [some (.ref u0), none, none, some (.int (x4)), some (.int ((x5 - 1) - x3)), some (.int (x6)), some (.int (x5)), some (.int (x7)), some (.int (x3)), some (.int (x5))]) (q := 69) hX dc_T_ownSample_67 rfl (by decide) rfl ?_
      refine ax_iinc (v := x7 + 1) (ls' := [some (.ref u0), none, none, some (.int (x4)), some (.int ((x5 - 1) - x3)), some (.int (x6)), some (.int (x5)), some (.int (x7 + 1)), some (.int (x3)), some (.int (x5))]) (q := 72) hX dc_T_ownSample_69 rfl rfl rfl (by decide) rfl ?_
      refine ax_goto (tgt := 30) hX dc_T_ownSample_72 (by decide) ?_
      exact ax_weak (ls' := [some (.ref u0), none, none, some (.int (x4)), some (.int ((x5 - 1) - x3)), some (.int (x6)), some (.int (x5)), some (.int (x7 + 1)), none, none]) (ax_fewP_s _ _ (by repeat (first | exact trivial | (refine And.intro rfl ?_)))) (ih I R u0 (x4) ((x5 - 1) - x3) (x6) (x5) (x7 + 1) hty hs0_ rfl rfl h)
def d_T_ownSample (S : ax_S) (I : ax_I) (R : ax_R) (u0 : Nat) (x1 : Int32) (x2 : Int32) : Option (Int32) :=
  d_T_ownSample_30 S  5000 I R u0 (x1 - (I u0 2)) (x2 - (I u0 3)) (I u0 4) (I u0 5) (0)
set_option maxHeartbeats 1000000 in
theorem c_T_ownSample (l : Launch) {S : ax_S} {I : ax_I} {R : ax_R} {L : ax_L} {u0 : Nat} {x1 : Int32} {x2 : Int32} {out : Int32} (hty : ax_typ S R) (hs0 : S u0 = some (.inl 3)) (h : d_T_ownSample S I R u0 x1 x2 = some out) : ax_Met l y_T_ownSample b_T_ownSample 10 (some .int) (ax_rm 2 0 0) [.ref u0, .int x1, .int x2] S I R L (ax_eq (some (.int out)) S I R L) := by
  refine ax_enter (own := "LossFreeTools$Tile") (by decide +kernel) rfl (ax_cats rfl) (Nat.le_of_ble_eq_true rfl) (fun X hX hF _ hS0 => ?_)
  show ax_W X 10 0 [some (.ref u0), some (.int (x1)), some (.int (x2)), none, none, none, none, none, none, none] [] S I R L 0 0
  unfold d_T_ownSample at h
  refine ax_iload_n (q := 1) hX dc_T_ownSample_0 rfl rfl rfl ?_
  refine ax_aload_n (q := 2) hX dc_T_ownSample_1 rfl rfl rfl ?_
  refine ax_getI (q := 5) hX dc_T_ownSample_2 rfl fl_T_15 rfl hs0 ?_
  refine ax_isub (q := 6) hX dc_T_ownSample_5 rfl ?_
  refine ax_istore_n (ls' := [some (.ref u0), some (.int (x1)), some (.int (x2)), some (.int (x1 - (I u0 2))), none, none, none, none, none, none]) (q := 7) hX dc_T_ownSample_6 rfl rfl (by decide) rfl ?_
  refine ax_iload_n (q := 8) hX dc_T_ownSample_7 rfl rfl rfl ?_
  refine ax_aload_n (q := 9) hX dc_T_ownSample_8 rfl rfl rfl ?_
  refine ax_getI (q := 12) hX dc_T_ownSample_9 rfl fl_T_19 rfl hs0 ?_
  refine ax_isub (q := 13) hX dc_T_ownSample_12 rfl ?_
  refine ax_istore (ls' := [some (.ref u0), some (.int (x1)), some (.int (x2)), some (.int (x1 - (I u0 2))), some (.int (x2 - (I u0 3))), none, none, none, none, none]) (q := 15) hX dc_T_ownSample_13 rfl (by decide) rfl ?_
  refine ax_aload_n (q := 16) hX dc_T_ownSample_15 rfl rfl rfl ?_
  refine ax_getI (q := 19) hX dc_T_ownSample_16 rfl fl_T_22 rfl hs0 ?_
  refine ax_istore (ls' := [some (.ref u0), some (.int (x1)), some (.int (x2)), some (.int (x1 - (I u0 2))), some (.int (x2 - (I u0 3))), some (.int (I u0 4)), none, none, none, none]) (q := 21) hX dc_T_ownSample_19 rfl (by decide) rfl ?_
  refine ax_aload_n (q := 22) hX dc_T_ownSample_21 rfl rfl rfl ?_
  refine ax_getI (q := 25) hX dc_T_ownSample_22 rfl fl_T_25 rfl hs0 ?_
  refine ax_istore (ls' := [some (.ref u0), some (.int (x1)), some (.int (x2)), some (.int (x1 - (I u0 2))), some (.int (x2 - (I u0 3))), some (.int (I u0 4)), some (.int (I u0 5)), none, none, none]) (q := 27) hX dc_T_ownSample_25 rfl (by decide) rfl ?_
  refine ax_iconst (v := 0) (q := 28) hX dc_T_ownSample_27 rfl (by decide) ?_
  refine ax_istore (ls' := [some (.ref u0), some (.int (x1)), some (.int (x2)), some (.int (x1 - (I u0 2))), some (.int (x2 - (I u0 3))), some (.int (I u0 4)), some (.int (I u0 5)), some (.int (0)), none, none]) (q := 30) hX dc_T_ownSample_28 rfl (by decide) rfl ?_
  exact ax_weak (ls' := [some (.ref u0), none, none, some (.int (x1 - (I u0 2))), some (.int (x2 - (I u0 3))), some (.int (I u0 4)), some (.int (I u0 5)), some (.int (0)), none, none]) (ax_fewP_s _ _ (by repeat (first | exact trivial | (refine And.intro rfl ?_)))) (e_T_ownSample_30 hX hF hS0  5000 I R u0 (x1 - (I u0 2)) (x2 - (I u0 3)) (I u0 4) (I u0 5) (0) hty hs0 rfl rfl h)
def d_K_clear (S : ax_S) (I : ax_I) (R : ax_R) (u0 : Nat) : Option (ax_I) :=
  (R u0 4).bind fun u1 =>
  (d_P_startAnew S I R u1 (I u0 0) (I u0 1)).bind fun I6 =>
  (R u0 5).bind fun u7 =>
  (d_P_startAnew S I6 R u7 (I6 u0 0) (I6 u0 1)).bind fun I12 =>
  (R u0 2).bind fun u13 =>
  (d_S_empty S I12 R u13).bind fun I18 =>
  (some (ax_up I18 u0 6 (0))).bind fun I19 =>
  (some (ax_up I19 u0 7 (0))).bind fun I21 =>
  some (I21)
set_option maxHeartbeats 1000000 in
theorem c_K_clear (l : Launch) {S : ax_S} {I : ax_I} {R : ax_R} {L : ax_L} {u0 : Nat} {out : ax_I} (hty : ax_typ S R) (hs0 : S u0 = some (.inl 4)) (h : d_K_clear S I R u0 = some out) : ax_Met l y_K_clear b_K_clear 1 none (ax_rm 2 0 0) [.ref u0] S I R L (ax_eq none S out R L) := by
  refine ax_enter (own := "LossFreeTools") (by decide +kernel) rfl (ax_cats rfl) (Nat.le_of_ble_eq_true rfl) (fun X hX hF _ hS0 => ?_)
  show ax_W X 1 0 [some (.ref u0)] [] S I R L 0 0
  unfold d_K_clear at h
  refine ax_aload_n (q := 1) hX dc_K_clear_0 rfl rfl rfl ?_
  obtain ⟨u1, hu2, h⟩ := ax_bd h
  have hs3 : S u1 = some (.inl 1) := hty.1 _ _ _ _ hs0 hu2
  refine ax_getR (q := 4) hX dc_K_clear_1 rfl fl_K_36 rfl hs0 hu2 ?_
  refine ax_aload_n (q := 5) hX dc_K_clear_4 rfl rfl rfl ?_
  refine ax_getI (q := 8) hX dc_K_clear_5 rfl fl_K_13 rfl hs0 ?_
  refine ax_aload_n (q := 9) hX dc_K_clear_8 rfl rfl rfl ?_
  refine ax_getI (q := 12) hX dc_K_clear_9 rfl fl_K_17 rfl hs0 ?_
  obtain ⟨I6, hr4, h⟩ := ax_bd h
  refine ax_kV (vs := [.int (I u0 0), .int (I u0 1)]) (rest := []) (q := 15) hX dc_K_clear_12 rfl mt_P_startAnew wl_K_249 wi_P_startAnew ws_P_startAnew hs3 rfl (c_P_startAnew l hty hs3 hr4) rfl (by decide) rfl (Nat.le_of_ble_eq_true rfl) rfl rfl (by decide) (by decide) rfl ?_
  refine ax_aload_n (q := 16) hX dc_K_clear_15 rfl rfl rfl ?_
  obtain ⟨u7, hu8, h⟩ := ax_bd h
  have hs9 : S u7 = some (.inl 1) := hty.1 _ _ _ _ hs0 hu8
  refine ax_getR (q := 19) hX dc_K_clear_16 rfl fl_K_40 rfl hs0 hu8 ?_
  refine ax_aload_n (q := 20) hX dc_K_clear_19 rfl rfl rfl ?_
  refine ax_getI (q := 23) hX dc_K_clear_20 rfl fl_K_13 rfl hs0 ?_
  refine ax_aload_n (q := 24) hX dc_K_clear_23 rfl rfl rfl ?_
  refine ax_getI (q := 27) hX dc_K_clear_24 rfl fl_K_17 rfl hs0 ?_
  obtain ⟨I12, hr10, h⟩ := ax_bd h
  refine ax_kV (vs := [.int (I6 u0 0), .int (I6 u0 1)]) (rest := []) (q := 30) hX dc_K_clear_27 rfl mt_P_startAnew wl_K_249 wi_P_startAnew ws_P_startAnew hs9 rfl (c_P_startAnew l hty hs9 hr10) rfl (by decide) rfl (Nat.le_of_ble_eq_true rfl) rfl rfl (by decide) (by decide) rfl ?_
  refine ax_aload_n (q := 31) hX dc_K_clear_30 rfl rfl rfl ?_
  obtain ⟨u13, hu14, h⟩ := ax_bd h
  have hs15 : S u13 = some (.inl 2) := hty.1 _ _ _ _ hs0 hu14
  refine ax_getR (q := 34) hX dc_K_clear_31 rfl fl_K_23 rfl hs0 hu14 ?_
  obtain ⟨I18, hr16, h⟩ := ax_bd h
  refine ax_kV (vs := []) (rest := []) (q := 37) hX dc_K_clear_34 rfl mt_S_empty wl_K_222 wi_S_empty ws_S_empty hs15 rfl (c_S_empty l hty hs15 hr16) rfl (by decide) rfl (Nat.le_of_ble_eq_true rfl) rfl rfl (by decide) (by decide) rfl ?_
  refine ax_aload_n (q := 38) hX dc_K_clear_37 rfl rfl rfl ?_
  refine ax_iconst (v := 0) (q := 39) hX dc_K_clear_38 rfl (by decide) ?_
  obtain ⟨I19, e20, h⟩ := ax_bs h
  refine ax_putI (q := 42) hX dc_K_clear_39 rfl fl_K_43 rfl hs0 (fun z => by cases z) rfl rfl e20 ?_
  refine ax_aload_n (q := 43) hX dc_K_clear_42 rfl rfl rfl ?_
  refine ax_iconst (v := 0) (q := 44) hX dc_K_clear_43 rfl (by decide) ?_
  obtain ⟨I21, e22, h⟩ := ax_bs h
  refine ax_putI (q := 47) hX dc_K_clear_44 rfl fl_K_46 rfl hs0 (fun z => by cases z) rfl rfl e22 ?_
  cases h
  exact ax_vret hX hF dc_K_clear_47 (by decide) (by decide) ax_eq.mk (by rw [hS0]; exact fun _ _ z => z)
def d_P_nearestFit_64 (S : ax_S) (rec9 : ax_I → ax_R → Nat → Int32 → Int32 → Int32 → Int32 → Option (Int32)) (I : ax_I) (R : ax_R) (u0 : Nat) (x1 : Int32) (x2 : Int32) (x3 : Int32) (x4 : Int32) : Option (Int32) :=
  rec9 I R u0 (x1) (x2) (x3) (x4 + 1)
set_option maxHeartbeats 1000000 in
theorem e_P_nearestFit_64 {l : Launch} {X : ax_X} {S : ax_S} {L : ax_L} {I0 : ax_I} {R0 : ax_R} {out : Int32} (hX : ax_ok X l "LossFreeTools$Picture" b_P_nearestFit 7 (ax_rm 3 0 0)) (hF : ax_fin X (some .int) 0 0 (ax_of (ax_eq (some (.int out)) S I0 R0 L))) (hS0 : ax_S0 X = S) (rec9 : ax_I → ax_R → Nat → Int32 → Int32 → Int32 → Int32 → Option (Int32)) (hrec9 : ∀ (I : ax_I) (R : ax_R) (u0 : Nat) (x1 : Int32) (x2 : Int32) (x3 : Int32) (x4 : Int32), ax_typ S R → (S u0 = some (.inl 1)) → I = I0 → R = R0 → rec9 I R u0 x1 x2 x3 x4 = some out → ax_W X 7 9 [some (.ref u0), some (.int (x1)), some (.int (x2)), some (.int (x3)), some (.int (x4)), none, none] [] S I R L 0 0) : ∀ (I : ax_I) (R : ax_R) (u0 : Nat) (x1 : Int32) (x2 : Int32) (x3 : Int32) (x4 : Int32), ax_typ S R → (S u0 = some (.inl 1)) → I = I0 → R = R0 → d_P_nearestFit_64 S rec9 I R u0 x1 x2 x3 x4 = some out → ax_W X 7 64 [some (.ref u0), some (.int (x1)), some (.int (x2)), some (.int (x3)), some (.int (x4)), none, none] [] S I R L 0 0 := by
  rintro I R u0 x1 x2 x3 x4 hty hs0_ hI0 hR0 h
  subst hI0
  subst hR0
  unfold d_P_nearestFit_64 at h
  refine ax_iinc (v := x4 + 1) (ls' := [some (.ref u0), some (.int (x1)), some (.int (x2)), some (.int (x3)), some (.int (x4 + 1)), none, none]) (q := 67) hX dc_P_nearestFit_64 rfl rfl rfl (by decide) rfl ?_
  refine ax_goto (tgt := 9) hX dc_P_nearestFit_67 (by decide) ?_
  exact (hrec9 I R u0 (x1) (x2) (x3) (x4 + 1) hty hs0_ rfl rfl h)
def d_P_nearestFit_39 (S : ax_S) (rec9 : ax_I → ax_R → Nat → Int32 → Int32 → Int32 → Int32 → Option (Int32)) (I : ax_I) (R : ax_R) (u0 : Nat) (x1 : Int32) (x2 : Int32) (x3 : Int32) (x4 : Int32) : Option (Int32) :=
  if x3 < (x2 + x4) then
    d_P_nearestFit_64 S (rec9) I R u0 (x1) (x2) (x3) (x4)
  else
    (d_P_borderFits S I R u0 (x1) (x2 + x4)).bind fun r13 =>
    if (ax_b r13) = 0 then
      d_P_nearestFit_64 S (rec9) I R u0 (x1) (x2) (x3) (x4)
    else
      some (x2 + x4)
set_option maxHeartbeats 1000000 in
theorem e_P_nearestFit_39 {l : Launch} {X : ax_X} {S : ax_S} {L : ax_L} {I0 : ax_I} {R0 : ax_R} {out : Int32} (hX : ax_ok X l "LossFreeTools$Picture" b_P_nearestFit 7 (ax_rm 3 0 0)) (hF : ax_fin X (some .int) 0 0 (ax_of (ax_eq (some (.int out)) S I0 R0 L))) (hS0 : ax_S0 X = S) (rec9 : ax_I → ax_R → Nat → Int32 → Int32 → Int32 → Int32 → Option (Int32)) (hrec9 : ∀ (I : ax_I) (R : ax_R) (u0 : Nat) (x1 : Int32) (x2 : Int32) (x3 : Int32) (x4 : Int32), ax_typ S R → (S u0 = some (.inl 1)) → I = I0 → R = R0 → rec9 I R u0 x1 x2 x3 x4 = some out → ax_W X 7 9 [some (.ref u0), some (.int (x1)), some (.int (x2)), some (.int (x3)), some (.int (x4)), none, none] [] S I R L 0 0) : ∀ (I : ax_I) (R : ax_R) (u0 : Nat) (x1 : Int32) (x2 : Int32) (x3 : Int32) (x4 : Int32), ax_typ S R → (S u0 = some (.inl 1)) → I = I0 → R = R0 → d_P_nearestFit_39 S rec9 I R u0 x1 x2 x3 x4 = some out → ax_W X 7 39 [some (.ref u0), some (.int (x1)), some (.int (x2)), some (.int (x3)), some (.int (x4)), none, none] [] S I R L 0 0 := by
  rintro I R u0 x1 x2 x3 x4 hty hs0_ hI0 hR0 h
  subst hI0
  subst hR0
  unfold d_P_nearestFit_39 at h
  refine ax_iload_n (q := 40) hX dc_P_nearestFit_39 rfl rfl rfl ?_
  refine ax_iload (q := 42) hX dc_P_nearestFit_40 rfl rfl ?_
  refine ax_iadd (q := 43) hX dc_P_nearestFit_42 rfl ?_
  refine ax_istore (ls' := [some (.ref u0), some (.int (x1)), some (.int (x2)), some (.int (x3)), some (.int (x4)), none, some (.int (x2 + x4))]) (q := 45) hX dc_P_nearestFit_43 rfl (by decide) rfl ?_
  refine ax_iload (q := 47) hX dc_P_nearestFit_45 rfl rfl ?_
  refine ax_iload_n (q := 48) hX dc_P_nearestFit_47 rfl rfl rfl ?_
  refine ax_icmp_gt (tgt := 64) (q := 51) hX dc_P_nearestFit_48 rfl (by decide) (fun z10 => ?_) (fun z10 => ?_)
  · rw [if_pos z10] at h
    exact ax_weak (ls' := [some (.ref u0), some (.int (x1)), some (.int (x2)), some (.int (x3)), some (.int (x4)), none, none]) (ax_fewP_s _ _ (by repeat (first | exact trivial | (refine And.intro rfl ?_)))) (e_P_nearestFit_64 hX hF hS0 (rec9) (hrec9) I R u0 (x1) (x2) (x3) (x4) hty hs0_ rfl rfl h)
  · rw [if_neg z10] at h
    refine ax_aload_n (q := 52) hX dc_P_nearestFit_51 rfl rfl rfl ?_
    refine ax_iload_n (q := 53) hX dc_P_nearestFit_52 rfl rfl rfl ?_
    refine ax_iload (q := 55) hX dc_P_nearestFit_53 rfl rfl ?_
    obtain ⟨r13, hr11, h⟩ := ax_bd h
    refine ax_kV (vs := [.int (x1), .int (x2 + x4)]) (rest := []) (q := 58) hX dc_P_nearestFit_55 rfl mt_P_borderFits wl_P_57 wi_P_borderFits ws_P_borderFits hs0_ rfl (c_P_borderFits l hty hs0_ hr11) rfl (by decide) rfl (Nat.le_of_ble_eq_true rfl) rfl rfl (by decide) (by decide) rfl ?_
    refine ax_if_eq (tgt := 64) (q := 61) hX dc_P_nearestFit_58 rfl (by decide) (fun z14 => ?_) (fun z14 => ?_)
    · rw [if_pos z14] at h
      exact ax_weak (ls' := [some (.ref u0), some (.int (x1)), some (.int (x2)), some (.int (x3)), some (.int (x4)), none, none]) (ax_fewP_s _ _ (by repeat (first | exact trivial | (refine And.intro rfl ?_)))) (e_P_nearestFit_64 hX hF hS0 (rec9) (hrec9) I R u0 (x1) (x2) (x3) (x4) hty hs0_ rfl rfl h)
    · rw [if_neg z14] at h
      refine ax_iload (q := 63) hX dc_P_nearestFit_61 rfl rfl ?_
      cases h
      exact ax_iret hX hF dc_P_nearestFit_63 rfl rfl (by decide) (by decide) ax_eq.mk (by rw [hS0]; exact fun _ _ z => z)
def d_P_nearestFit_9 (S : ax_S) : Nat → ax_I → ax_R → Nat → Int32 → Int32 → Int32 → Int32 → Option (Int32)
  | 0, _, _, _, _, _, _, _ => none
  | n + 1, I, R, u0, x1, x2, x3, x4 =>
    if x3 < x4 then
      some (0)
    else
      if (x2 - x4) < 0 then
        d_P_nearestFit_39 S (d_P_nearestFit_9 S  n) I R u0 (x1) (x2) (x3) (x4)
      else
        (d_P_borderFits S I R u0 (x1) (x2 - x4)).bind fun r8 =>
        if (ax_b r8) = 0 then
          d_P_nearestFit_39 S (d_P_nearestFit_9 S  n) I R u0 (x1) (x2) (x3) (x4)
        else
          some (x2 - x4)
set_option maxHeartbeats 1000000 in
theorem e_P_nearestFit_9 {l : Launch} {X : ax_X} {S : ax_S} {L : ax_L} {I0 : ax_I} {R0 : ax_R} {out : Int32} (hX : ax_ok X l "LossFreeTools$Picture" b_P_nearestFit 7 (ax_rm 3 0 0)) (hF : ax_fin X (some .int) 0 0 (ax_of (ax_eq (some (.int out)) S I0 R0 L))) (hS0 : ax_S0 X = S) : ∀ (n : Nat), ∀ (I : ax_I) (R : ax_R) (u0 : Nat) (x1 : Int32) (x2 : Int32) (x3 : Int32) (x4 : Int32), ax_typ S R → (S u0 = some (.inl 1)) → I = I0 → R = R0 → d_P_nearestFit_9 S  n I R u0 x1 x2 x3 x4 = some out → ax_W X 7 9 [some (.ref u0), some (.int (x1)), some (.int (x2)), some (.int (x3)), some (.int (x4)), none, none] [] S I R L 0 0 := by
  intro n
  induction n with
  | zero =>
    rintro I R u0 x1 x2 x3 x4 hty hs0_ hI0 hR0 h
    cases h
  | succ n ih =>
    rintro I R u0 x1 x2 x3 x4 hty hs0_ hI0 hR0 h
    subst hI0
    subst hR0
    unfold d_P_nearestFit_9 at h
    refine ax_iload (q := 11) hX dc_P_nearestFit_9 rfl rfl ?_
    refine ax_iload_n (q := 12) hX dc_P_nearestFit_11 rfl rfl rfl ?_
    refine ax_icmp_gt (tgt := 70) (q := 15) hX dc_P_nearestFit_12 rfl (by decide) (fun z4 => ?_) (fun z4 => ?_)
    · rw [if_pos z4] at h
      refine ax_iconst (v := 0) (q := 71) hX dc_P_nearestFit_70 rfl (by decide) ?_
      cases h
      exact ax_iret hX hF dc_P_nearestFit_71 rfl rfl (by decide) (by decide) ax_eq.mk (by rw [hS0]; exact fun _ _ z => z)
    · rw [if_neg z4] at h
      refine ax_iload_n (q := 16) hX dc_P_nearestFit_15 rfl rfl rfl ?_
      refine ax_iload (q := 18) hX dc_P_nearestFit_16 rfl rfl ?_
      refine ax_isub (q := 19) hX dc_P_nearestFit_18 rfl ?_
      refine ax_istore (ls' := [some (.ref u0), some (.int (x1)), some (.int (x2)), some (.int (x3)), some (.int (x4)), some (.int (x2 - x4)), none]) (q := 21) hX dc_P_nearestFit_19 rfl (by decide) rfl ?_
      refine ax_iload (q := 23) hX dc_P_nearestFit_21 rfl rfl ?_
      refine ax_if_lt (tgt := 39) (q := 26) hX dc_P_nearestFit_23 rfl (by decide) (fun z5 => ?_) (fun z5 => ?_)
      · rw [if_pos z5] at h
        exact ax_weak (ls' := [some (.ref u0), some (.int (x1)), some (.int (x2)), some (.int (x3)), some (.int (x4)), none, none]) (ax_fewP_s _ _ (by repeat (first | exact trivial | (refine And.intro rfl ?_)))) (e_P_nearestFit_39 hX hF hS0 (d_P_nearestFit_9 S  n) (ih) I R u0 (x1) (x2) (x3) (x4) hty hs0_ rfl rfl h)
      · rw [if_neg z5] at h
        refine ax_aload_n (q := 27) hX dc_P_nearestFit_26 rfl rfl rfl ?_
        refine ax_iload_n (q := 28) hX dc_P_nearestFit_27 rfl rfl rfl ?_
        refine ax_iload (q := 30) hX dc_P_nearestFit_28 rfl rfl ?_
        obtain ⟨r8, hr6, h⟩ := ax_bd h
        refine ax_kV (vs := [.int (x1), .int (x2 - x4)]) (rest := []) (q := 33) hX dc_P_nearestFit_30 rfl mt_P_borderFits wl_P_57 wi_P_borderFits ws_P_borderFits hs0_ rfl (c_P_borderFits l hty hs0_ hr6) rfl (by decide) rfl (Nat.le_of_ble_eq_true rfl) rfl rfl (by decide) (by decide) rfl ?_
        refine ax_if_eq (tgt := 39) (q := 36) hX dc_P_nearestFit_33 rfl (by decide) (fun z9 => ?_) (fun z9 => ?_)
        · rw [if_pos z9] at h
          exact ax_weak (ls' := [some (.ref u0), some (.int (x1)), some (.int (x2)), some (.int (x3)), some (.int (x4)), none, none]) (ax_fewP_s _ _ (by repeat (first | exact trivial | (refine And.intro rfl ?_)))) (e_P_nearestFit_39 hX hF hS0 (d_P_nearestFit_9 S  n) (ih) I R u0 (x1) (x2) (x3) (x4) hty hs0_ rfl rfl h)
        · rw [if_neg z9] at h
          refine ax_iload (q := 38) hX dc_P_nearestFit_36 rfl rfl ?_
          cases h
          exact ax_iret hX hF dc_P_nearestFit_38 rfl rfl (by decide) (by decide) ax_eq.mk (by rw [hS0]; exact fun _ _ z => z)
def d_P_nearestFit (S : ax_S) (I : ax_I) (R : ax_R) (u0 : Nat) (x1 : Int32) (x2 : Int32) : Option (Int32) :=
  (d_P_sizeAlong S I R u0 (x1)).bind fun r3 =>
  d_P_nearestFit_9 S  5000 I R u0 (x1) (x2) (r3) (0)
set_option maxHeartbeats 1000000 in
theorem c_P_nearestFit (l : Launch) {S : ax_S} {I : ax_I} {R : ax_R} {L : ax_L} {u0 : Nat} {x1 : Int32} {x2 : Int32} {out : Int32} (hty : ax_typ S R) (hs0 : S u0 = some (.inl 1)) (h : d_P_nearestFit S I R u0 x1 x2 = some out) : ax_Met l y_P_nearestFit b_P_nearestFit 7 (some .int) (ax_rm 3 0 0) [.ref u0, .int x1, .int x2] S I R L (ax_eq (some (.int out)) S I R L) := by
  refine ax_enter (own := "LossFreeTools$Picture") (by decide +kernel) rfl (ax_cats rfl) (Nat.le_of_ble_eq_true rfl) (fun X hX hF _ hS0 => ?_)
  show ax_W X 7 0 [some (.ref u0), some (.int (x1)), some (.int (x2)), none, none, none, none] [] S I R L 0 0
  unfold d_P_nearestFit at h
  refine ax_aload_n (q := 1) hX dc_P_nearestFit_0 rfl rfl rfl ?_
  refine ax_iload_n (q := 2) hX dc_P_nearestFit_1 rfl rfl rfl ?_
  obtain ⟨r3, hr1, h⟩ := ax_bd h
  refine ax_kV (vs := [.int (x1)]) (rest := []) (q := 5) hX dc_P_nearestFit_2 rfl mt_P_sizeAlong wl_P_53 wi_P_sizeAlong ws_P_sizeAlong hs0 rfl (c_P_sizeAlong l hty hs0 hr1) rfl (by decide) rfl (Nat.le_of_ble_eq_true rfl) rfl rfl (by decide) (by decide) rfl ?_
  refine ax_istore_n (ls' := [some (.ref u0), some (.int (x1)), some (.int (x2)), some (.int (r3)), none, none, none]) (q := 6) hX dc_P_nearestFit_5 rfl rfl (by decide) rfl ?_
  refine ax_iconst (v := 0) (q := 7) hX dc_P_nearestFit_6 rfl (by decide) ?_
  refine ax_istore (ls' := [some (.ref u0), some (.int (x1)), some (.int (x2)), some (.int (r3)), some (.int (0)), none, none]) (q := 9) hX dc_P_nearestFit_7 rfl (by decide) rfl ?_
  exact (e_P_nearestFit_9 hX hF hS0  5000 I R u0 (x1) (x2) (r3) (0) hty hs0 rfl rfl h)
def d_P_cutTo (S : ax_S) (I : ax_I) (R : ax_R) (u0 : Nat) (x1 : Int32) (x2 : Int32) (x3 : Int32) (x4 : Int32) : Option (Int32 × ax_I × ax_R) :=
  (d_P_keepTilesWithin S I R u0 (x1) (x2) (x1 + x3) (x2 + x4)).bind fun o5 =>
  (d_P_keepNotesWithin S o5.1 o5.2 u0 (x1) (x2) (x1 + x3) (x2 + x4)).bind fun o10 =>
  (d_P_moveBy S o10.1 o10.2 u0 (-x1) (-x2)).bind fun I13 =>
  (some (ax_up I13 u0 4 (x3))).bind fun I14 =>
  (some (ax_up I14 u0 5 (x4))).bind fun I16 =>
  some (I16 u0 2, I16, o10.2)
set_option maxHeartbeats 1000000 in
theorem c_P_cutTo (l : Launch) {S : ax_S} {I : ax_I} {R : ax_R} {L : ax_L} {u0 : Nat} {x1 : Int32} {x2 : Int32} {x3 : Int32} {x4 : Int32} {out : Int32 × ax_I × ax_R} (hty : ax_typ S R) (hs0 : S u0 = some (.inl 1)) (h : d_P_cutTo S I R u0 x1 x2 x3 x4 = some out) : ax_Met l y_P_cutTo b_P_cutTo 5 (some .int) (ax_rm 3 0 0) [.ref u0, .int x1, .int x2, .int x3, .int x4] S I R L (ax_eq (some (.int out.1)) S out.2.1 out.2.2 L) := by
  refine ax_enter (own := "LossFreeTools$Picture") (by decide +kernel) rfl (ax_cats rfl) (Nat.le_of_ble_eq_true rfl) (fun X hX hF _ hS0 => ?_)
  show ax_W X 5 0 [some (.ref u0), some (.int (x1)), some (.int (x2)), some (.int (x3)), some (.int (x4))] [] S I R L 0 0
  unfold d_P_cutTo at h
  refine ax_aload_n (q := 1) hX dc_P_cutTo_0 rfl rfl rfl ?_
  refine ax_iload_n (q := 2) hX dc_P_cutTo_1 rfl rfl rfl ?_
  refine ax_iload_n (q := 3) hX dc_P_cutTo_2 rfl rfl rfl ?_
  refine ax_iload_n (q := 4) hX dc_P_cutTo_3 rfl rfl rfl ?_
  refine ax_iload_n (q := 5) hX dc_P_cutTo_4 rfl rfl rfl ?_
  refine ax_iadd (q := 6) hX dc_P_cutTo_5 rfl ?_
  refine ax_iload_n (q := 7) hX dc_P_cutTo_6 rfl rfl rfl ?_
  refine ax_iload (q := 9) hX dc_P_cutTo_7 rfl rfl ?_
  refine ax_iadd (q := 10) hX dc_P_cutTo_9 rfl ?_
  obtain ⟨o5, hr1, h⟩ := ax_bd h
  refine ax_kV (vs := [.int (x1), .int (x2), .int (x1 + x3), .int (x2 + x4)]) (rest := []) (q := 13) hX dc_P_cutTo_10 rfl mt_P_keepTilesWithin wl_P_60 wi_P_keepTilesWithin ws_P_keepTilesWithin hs0 rfl (c_P_keepTilesWithin l hty hs0 hr1) rfl (by decide) rfl (Nat.le_of_ble_eq_true rfl) rfl rfl (by decide) (by decide) rfl ?_
  have hty : ax_typ S o5.2 := t_P_keepTilesWithin hty hs0 hr1
  refine ax_aload_n (q := 14) hX dc_P_cutTo_13 rfl rfl rfl ?_
  refine ax_iload_n (q := 15) hX dc_P_cutTo_14 rfl rfl rfl ?_
  refine ax_iload_n (q := 16) hX dc_P_cutTo_15 rfl rfl rfl ?_
  refine ax_iload_n (q := 17) hX dc_P_cutTo_16 rfl rfl rfl ?_
  refine ax_iload_n (q := 18) hX dc_P_cutTo_17 rfl rfl rfl ?_
  refine ax_iadd (q := 19) hX dc_P_cutTo_18 rfl ?_
  refine ax_iload_n (q := 20) hX dc_P_cutTo_19 rfl rfl rfl ?_
  refine ax_iload (q := 22) hX dc_P_cutTo_20 rfl rfl ?_
  refine ax_iadd (q := 23) hX dc_P_cutTo_22 rfl ?_
  obtain ⟨o10, hr6, h⟩ := ax_bd h
  refine ax_kV (vs := [.int (x1), .int (x2), .int (x1 + x3), .int (x2 + x4)]) (rest := []) (q := 26) hX dc_P_cutTo_23 rfl mt_P_keepNotesWithin wl_P_63 wi_P_keepNotesWithin ws_P_keepNotesWithin hs0 rfl (c_P_keepNotesWithin l hty hs0 hr6) rfl (by decide) rfl (Nat.le_of_ble_eq_true rfl) rfl rfl (by decide) (by decide) rfl ?_
  have hty : ax_typ S o10.2 := t_P_keepNotesWithin hty hs0 hr6
  refine ax_aload_n (q := 27) hX dc_P_cutTo_26 rfl rfl rfl ?_
  refine ax_iload_n (q := 28) hX dc_P_cutTo_27 rfl rfl rfl ?_
  refine ax_ineg (q := 29) hX dc_P_cutTo_28 rfl ?_
  refine ax_iload_n (q := 30) hX dc_P_cutTo_29 rfl rfl rfl ?_
  refine ax_ineg (q := 31) hX dc_P_cutTo_30 rfl ?_
  obtain ⟨I13, hr11, h⟩ := ax_bd h
  refine ax_kV (vs := [.int (-x1), .int (-x2)]) (rest := []) (q := 34) hX dc_P_cutTo_31 rfl mt_P_moveBy wl_P_66 wi_P_moveBy ws_P_moveBy hs0 rfl (c_P_moveBy l hty hs0 hr11) rfl (by decide) rfl (Nat.le_of_ble_eq_true rfl) rfl rfl (by decide) (by decide) rfl ?_
  refine ax_aload_n (q := 35) hX dc_P_cutTo_34 rfl rfl rfl ?_
  refine ax_iload_n (q := 36) hX dc_P_cutTo_35 rfl rfl rfl ?_
  obtain ⟨I14, e15, h⟩ := ax_bs h
  refine ax_putI (q := 39) hX dc_P_cutTo_36 rfl fl_P_25 rfl hs0 (fun z => by cases z) rfl rfl e15 ?_
  refine ax_aload_n (q := 40) hX dc_P_cutTo_39 rfl rfl rfl ?_
  refine ax_iload (q := 42) hX dc_P_cutTo_40 rfl rfl ?_
  obtain ⟨I16, e17, h⟩ := ax_bs h
  refine ax_putI (q := 45) hX dc_P_cutTo_42 rfl fl_P_29 rfl hs0 (fun z => by cases z) rfl rfl e17 ?_
  refine ax_aload_n (q := 46) hX dc_P_cutTo_45 rfl rfl rfl ?_
  refine ax_getI (q := 49) hX dc_P_cutTo_46 rfl fl_P_32 rfl hs0 ?_
  cases h
  exact ax_iret hX hF dc_P_cutTo_49 rfl rfl (by decide) (by decide) ax_eq.mk (by rw [hS0]; exact fun _ _ z => z)
theorem t_P_cutTo {S : ax_S} {I : ax_I} {R : ax_R} {u0 : Nat} {x1 : Int32} {x2 : Int32} {x3 : Int32} {x4 : Int32} {out : Int32 × ax_I × ax_R} (hty : ax_typ S R) (hs0 : S u0 = some (.inl 1)) (h : d_P_cutTo S I R u0 x1 x2 x3 x4 = some out) : ax_typ S out.2.2 := by
  unfold d_P_cutTo at h
  obtain ⟨o5, hr1, h⟩ := ax_bd h
  have hty : ax_typ S o5.2 := t_P_keepTilesWithin hty hs0 hr1
  obtain ⟨o10, hr6, h⟩ := ax_bd h
  have hty : ax_typ S o10.2 := t_P_keepNotesWithin hty hs0 hr6
  obtain ⟨I13, hr11, h⟩ := ax_bd h
  obtain ⟨I14, e15, h⟩ := ax_bs h
  obtain ⟨I16, e17, h⟩ := ax_bs h
  cases h
  exact hty
def d_P_moveAlong_19 (S : ax_S) (I : ax_I) (R : ax_R) (y0 : Int32) (y1 : Int32) (w2 : Nat) : Option (ax_I) :=
  (d_P_moveBy S I R w2 (y1) (y0)).bind fun I5 =>
  some (I5)
set_option maxHeartbeats 1000000 in
theorem e_P_moveAlong_19 {l : Launch} {X : ax_X} {S : ax_S} {L : ax_L} {R0 : ax_R} {out : ax_I} (hX : ax_ok X l "LossFreeTools$Picture" b_P_moveAlong 3 (ax_rm 3 0 0)) (hF : ax_fin X none 0 0 (ax_of (ax_eq none S out R0 L))) (hS0 : ax_S0 X = S) : ∀ (I : ax_I) (R : ax_R) (y0 : Int32) (y1 : Int32) (w2 : Nat), ax_typ S R → (S w2 = some (.inl 1)) → R = R0 → d_P_moveAlong_19 S  I R y0 y1 w2 = some out → ax_W X 3 19 [none, none, none] [.int (y0), .int (y1), .ref w2] S I R L 0 0 := by
  rintro I R y0 y1 w2 hty hw2_ hR0 h
  subst hR0
  unfold d_P_moveAlong_19 at h
  obtain ⟨I5, hr3, h⟩ := ax_bd h
  refine ax_kV (vs := [.int (y1), .int (y0)]) (rest := []) (q := 22) hX dc_P_moveAlong_19 rfl mt_P_moveBy wl_P_66 wi_P_moveBy ws_P_moveBy hw2_ rfl (c_P_moveBy l hty hw2_ hr3) rfl (by decide) rfl (Nat.le_of_ble_eq_true rfl) rfl rfl (by decide) (by decide) rfl ?_
  cases h
  exact ax_vret hX hF dc_P_moveAlong_22 (by decide) (by decide) ax_eq.mk (by rw [hS0]; exact fun _ _ z => z)
def d_P_moveAlong_10 (S : ax_S) (I : ax_I) (R : ax_R) (x1 : Int32) (x2 : Int32) (y0 : Int32) (w1 : Nat) : Option (ax_I) :=
  if x1 = 0 then
    d_P_moveAlong_19 S  I R (x2) (y0) w1
  else
    d_P_moveAlong_19 S  I R (0) (y0) w1
set_option maxHeartbeats 1000000 in
theorem e_P_moveAlong_10 {l : Launch} {X : ax_X} {S : ax_S} {L : ax_L} {R0 : ax_R} {out : ax_I} (hX : ax_ok X l "LossFreeTools$Picture" b_P_moveAlong 3 (ax_rm 3 0 0)) (hF : ax_fin X none 0 0 (ax_of (ax_eq none S out R0 L))) (hS0 : ax_S0 X = S) : ∀ (I : ax_I) (R : ax_R) (x1 : Int32) (x2 : Int32) (y0 : Int32) (w1 : Nat), ax_typ S R → (S w1 = some (.inl 1)) → R = R0 → d_P_moveAlong_10 S  I R x1 x2 y0 w1 = some out → ax_W X 3 10 [none, some (.int (x1)), some (.int (x2))] [.int (y0), .ref w1] S I R L 0 0 := by
  rintro I R x1 x2 y0 w1 hty hw1_ hR0 h
  subst hR0
  unfold d_P_moveAlong_10 at h
  refine ax_iload_n (q := 11) hX dc_P_moveAlong_10 rfl rfl rfl ?_
  refine ax_if_eq (tgt := 18) (q := 14) hX dc_P_moveAlong_11 rfl (by decide) (fun z2 => ?_) (fun z2 => ?_)
  · rw [if_pos z2] at h
    refine ax_iload_n (q := 19) hX dc_P_moveAlong_18 rfl rfl rfl ?_
    exact ax_weak (ls' := [none, none, none]) (ax_fewP_s _ _ (by repeat (first | exact trivial | (refine And.intro rfl ?_)))) (e_P_moveAlong_19 hX hF hS0  I R (x2) (y0) w1 hty hw1_ rfl h)
  · rw [if_neg z2] at h
    refine ax_iconst (v := 0) (q := 15) hX dc_P_moveAlong_14 rfl (by decide) ?_
    refine ax_goto (tgt := 19) hX dc_P_moveAlong_15 (by decide) ?_
    exact ax_weak (ls' := [none, none, none]) (ax_fewP_s _ _ (by repeat (first | exact trivial | (refine And.intro rfl ?_)))) (e_P_moveAlong_19 hX hF hS0  I R (0) (y0) w1 hty hw1_ rfl h)
def d_P_moveAlong (S : ax_S) (I : ax_I) (R : ax_R) (u0 : Nat) (x1 : Int32) (x2 : Int32) : Option (ax_I) :=
  if x1 = 0 then
    d_P_moveAlong_10 S  I R (x1) (x2) (0) u0
  else
    d_P_moveAlong_10 S  I R (x1) (x2) (x2) u0
set_option maxHeartbeats 1000000 in
theorem c_P_moveAlong (l : Launch) {S : ax_S} {I : ax_I} {R : ax_R} {L : ax_L} {u0 : Nat} {x1 : Int32} {x2 : Int32} {out : ax_I} (hty : ax_typ S R) (hs0 : S u0 = some (.inl 1)) (h : d_P_moveAlong S I R u0 x1 x2 = some out) : ax_Met l y_P_moveAlong b_P_moveAlong 3 none (ax_rm 3 0 0) [.ref u0, .int x1, .int x2] S I R L (ax_eq none S out R L) := by
  refine ax_enter (own := "LossFreeTools$Picture") (by decide +kernel) rfl (ax_cats rfl) (Nat.le_of_ble_eq_true rfl) (fun X hX hF _ hS0 => ?_)
  show ax_W X 3 0 [some (.ref u0), some (.int (x1)), some (.int (x2))] [] S I R L 0 0
  unfold d_P_moveAlong at h
  refine ax_aload_n (q := 1) hX dc_P_moveAlong_0 rfl rfl rfl ?_
  refine ax_iload_n (q := 2) hX dc_P_moveAlong_1 rfl rfl rfl ?_
  refine ax_if_eq (tgt := 9) (q := 5) hX dc_P_moveAlong_2 rfl (by decide) (fun z1 => ?_) (fun z1 => ?_)
  · rw [if_pos z1] at h
    refine ax_iconst (v := 0) (q := 10) hX dc_P_moveAlong_9 rfl (by decide) ?_
    exact ax_weak (ls' := [none, some (.int (x1)), some (.int (x2))]) (ax_fewP_s _ _ (by repeat (first | exact trivial | (refine And.intro rfl ?_)))) (e_P_moveAlong_10 hX hF hS0  I R (x1) (x2) (0) u0 hty hs0 rfl h)
  · rw [if_neg z1] at h
    refine ax_iload_n (q := 6) hX dc_P_moveAlong_5 rfl rfl rfl ?_
    refine ax_goto (tgt := 10) hX dc_P_moveAlong_6 (by decide) ?_
    exact ax_weak (ls' := [none, some (.int (x1)), some (.int (x2))]) (ax_fewP_s _ _ (by repeat (first | exact trivial | (refine And.intro rfl ?_)))) (e_P_moveAlong_10 hX hF hS0  I R (x1) (x2) (x2) u0 hty hs0 rfl h)
def d_P_showBy_33 (S : ax_S) : Nat → ax_I → ax_R → Nat → Int32 → Int32 → Option (ax_I)
  | 0, _, _, _, _, _ => none
  | n + 1, I, R, u0, x1, x2 =>
    if (I u0 2) ≤ x2 then
      some (I)
    else
      (R u0 0).bind fun u16 =>
      (ax_ix S u16 (x2)).bind fun j20 =>
      (R u16 j20).bind fun u22 =>
      (R u0 0).bind fun u25 =>
      (ax_ix S u25 (x2)).bind fun j29 =>
      (R u25 j29).bind fun u31 =>
      (d_K_together S I R (I u31 6) (x1)).bind fun r36 =>
      (some (ax_up I u22 6 (r36))).bind fun I37 =>
      d_P_showBy_33 S  n I37 R u0 (x1) (x2 + 1)
set_option maxHeartbeats 1000000 in
theorem e_P_showBy_33 {l : Launch} {X : ax_X} {S : ax_S} {L : ax_L} {R0 : ax_R} {out : ax_I} (hX : ax_ok X l "LossFreeTools$Picture" b_P_showBy 3 (ax_rm 3 0 0)) (hF : ax_fin X none 0 0 (ax_of (ax_eq none S out R0 L))) (hS0 : ax_S0 X = S) : ∀ (n : Nat), ∀ (I : ax_I) (R : ax_R) (u0 : Nat) (x1 : Int32) (x2 : Int32), ax_typ S R → (S u0 = some (.inl 1)) → R = R0 → d_P_showBy_33 S  n I R u0 x1 x2 = some out → ax_W X 3 33 [some (.ref u0), some (.int (x1)), some (.int (x2))] [] S I R L 0 0 := by
  intro n
  induction n with
  | zero =>
    rintro I R u0 x1 x2 hty hs0_ hR0 h
    cases h
  | succ n ih =>
    rintro I R u0 x1 x2 hty hs0_ hR0 h
    subst hR0
    unfold d_P_showBy_33 at h
    refine ax_iload_n (q := 34) hX dc_P_showBy_33 rfl rfl rfl ?_
    refine ax_aload_n (q := 35) hX dc_P_showBy_34 rfl rfl rfl ?_
    refine ax_getI (q := 38) hX dc_P_showBy_35 rfl fl_P_32 rfl hs0_ ?_
    refine ax_icmp_ge (tgt := 69) (q := 41) hX dc_P_showBy_38 rfl (by decide) (fun z15 => ?_) (fun z15 => ?_)
    · rw [if_pos z15] at h
      cases h
      exact ax_vret hX hF dc_P_showBy_69 (by decide) (by decide) ax_eq.mk (by rw [hS0]; exact fun _ _ z => z)
    · rw [if_neg z15] at h
      refine ax_aload_n (q := 42) hX dc_P_showBy_41 rfl rfl rfl ?_
      obtain ⟨u16, hu17, h⟩ := ax_bd h
      obtain ⟨n19, hs18⟩ : ∃ n, S u16 = some (.inr (2, n)) := hty.1 _ _ _ _ hs0_ hu17
      refine ax_getR (q := 45) hX dc_P_showBy_42 rfl fl_P_11 rfl hs0_ hu17 ?_
      refine ax_iload_n (q := 46) hX dc_P_showBy_45 rfl rfl rfl ?_
      obtain ⟨j20, hj21, h⟩ := ax_bd h
      have hj21 := ax_ix_s hty hs18 hj21
      obtain ⟨u22, hu23, h⟩ := ax_bd h
      have hs24 : S u22 = some (.inl 3) := hty.2.1 _ _ _ _ hs18 hu23
      refine ax_aald (q := 47) hX j20 dc_P_showBy_46 rfl hs18 rfl rfl hj21.1 hj21.2.1 hj21.2.2 hu23 ?_
      refine ax_aload_n (q := 48) hX dc_P_showBy_47 rfl rfl rfl ?_
      obtain ⟨u25, hu26, h⟩ := ax_bd h
      obtain ⟨n28, hs27⟩ : ∃ n, S u25 = some (.inr (2, n)) := hty.1 _ _ _ _ hs0_ hu26
      refine ax_getR (q := 51) hX dc_P_showBy_48 rfl fl_P_11 rfl hs0_ hu26 ?_
      refine ax_iload_n (q := 52) hX dc_P_showBy_51 rfl rfl rfl ?_
      obtain ⟨j29, hj30, h⟩ := ax_bd h
      have hj30 := ax_ix_s hty hs27 hj30
      obtain ⟨u31, hu32, h⟩ := ax_bd h
      have hs33 : S u31 = some (.inl 3) := hty.2.1 _ _ _ _ hs27 hu32
      refine ax_aald (q := 53) hX j29 dc_P_showBy_52 rfl hs27 rfl rfl hj30.1 hj30.2.1 hj30.2.2 hu32 ?_
      refine ax_getI (q := 56) hX dc_P_showBy_53 rfl fl_P_90 rfl hs33 ?_
      refine ax_iload_n (q := 57) hX dc_P_showBy_56 rfl rfl rfl ?_
      obtain ⟨r36, hr34, h⟩ := ax_bd h
      refine ax_kN (host := "LossFreeTools") (vs := [.int (I u31 6), .int (x1)]) (rest := [.ref u22]) (q := 60) hX dc_P_showBy_57 rfl mt_K_together (by decide +kernel) wt_K_together (c_K_together l hty  hr34) rfl (by decide) rfl (Nat.le_of_ble_eq_true rfl) rfl rfl (by decide) (by decide) rfl ?_
      obtain ⟨I37, e38, h⟩ := ax_bs h
      refine ax_putI (q := 63) hX dc_P_showBy_60 rfl fl_P_90 rfl hs24 (fun z => by cases z) rfl rfl e38 ?_
      refine ax_iinc (v := x2 + 1) (ls' := [some (.ref u0), some (.int (x1)), some (.int (x2 + 1))]) (q := 66) hX dc_P_showBy_63 rfl rfl rfl (by decide) rfl ?_
      refine ax_goto (tgt := 33) hX dc_P_showBy_66 (by decide) ?_
      exact (ih I37 R u0 (x1) (x2 + 1) hty hs0_ rfl h)
def d_P_showBy_13 (S : ax_S) : Nat → ax_I → ax_R → Nat → Int32 → Int32 → Option (ax_I)
  | 0, _, _, _, _, _ => none
  | n + 1, I, R, u0, x1, x2 =>
    (d_K_quarters S I R (x1)).bind fun r10 =>
    if r10 ≤ x2 then
      d_P_showBy_33 S  5000 I R u0 (x1) (0)
    else
      (d_P_turnQuarter S I R u0).bind fun I14 =>
      d_P_showBy_13 S  n I14 R u0 (x1) (x2 + 1)
set_option maxHeartbeats 1000000 in
theorem e_P_showBy_13 {l : Launch} {X : ax_X} {S : ax_S} {L : ax_L} {R0 : ax_R} {out : ax_I} (hX : ax_ok X l "LossFreeTools$Picture" b_P_showBy 3 (ax_rm 3 0 0)) (hF : ax_fin X none 0 0 (ax_of (ax_eq none S out R0 L))) (hS0 : ax_S0 X = S) : ∀ (n : Nat), ∀ (I : ax_I) (R : ax_R) (u0 : Nat) (x1 : Int32) (x2 : Int32), ax_typ S R → (S u0 = some (.inl 1)) → R = R0 → d_P_showBy_13 S  n I R u0 x1 x2 = some out → ax_W X 3 13 [some (.ref u0), some (.int (x1)), some (.int (x2))] [] S I R L 0 0 := by
  intro n
  induction n with
  | zero =>
    rintro I R u0 x1 x2 hty hs0_ hR0 h
    cases h
  | succ n ih =>
    rintro I R u0 x1 x2 hty hs0_ hR0 h
    subst hR0
    unfold d_P_showBy_13 at h
    refine ax_iload_n (q := 14) hX dc_P_showBy_13 rfl rfl rfl ?_
    refine ax_iload_n (q := 15) hX dc_P_showBy_14 rfl rfl rfl ?_
    obtain ⟨r10, hr8, h⟩ := ax_bd h
    refine ax_kN (host := "LossFreeTools") (vs := [.int (x1)]) (rest := [.int (x2)]) (q := 18) hX dc_P_showBy_15 rfl mt_K_quarters (by decide +kernel) wt_K_quarters (c_K_quarters l hty  hr8) rfl (by decide) rfl (Nat.le_of_ble_eq_true rfl) rfl rfl (by decide) (by decide) rfl ?_
    refine ax_icmp_ge (tgt := 31) (q := 21) hX dc_P_showBy_18 rfl (by decide) (fun z11 => ?_) (fun z11 => ?_)
    · rw [if_pos z11] at h
      refine ax_iconst (v := 0) (q := 32) hX dc_P_showBy_31 rfl (by decide) ?_
      refine ax_istore_n (ls' := [some (.ref u0), some (.int (x1)), some (.int (0))]) (q := 33) hX dc_P_showBy_32 rfl rfl (by decide) rfl ?_
      exact (e_P_showBy_33 hX hF hS0  5000 I R u0 (x1) (0) hty hs0_ rfl h)
    · rw [if_neg z11] at h
      refine ax_aload_n (q := 22) hX dc_P_showBy_21 rfl rfl rfl ?_
      obtain ⟨I14, hr12, h⟩ := ax_bd h
      refine ax_kV (vs := []) (rest := []) (q := 25) hX dc_P_showBy_22 rfl mt_P_turnQuarter wl_P_87 wi_P_turnQuarter ws_P_turnQuarter hs0_ rfl (c_P_turnQuarter l hty hs0_ hr12) rfl (by decide) rfl (Nat.le_of_ble_eq_true rfl) rfl rfl (by decide) (by decide) rfl ?_
      refine ax_iinc (v := x2 + 1) (ls' := [some (.ref u0), some (.int (x1)), some (.int (x2 + 1))]) (q := 28) hX dc_P_showBy_25 rfl rfl rfl (by decide) rfl ?_
      refine ax_goto (tgt := 13) hX dc_P_showBy_28 (by decide) ?_
      exact (ih I14 R u0 (x1) (x2 + 1) hty hs0_ rfl h)
def d_P_showBy_11 (S : ax_S) (I : ax_I) (R : ax_R) (u0 : Nat) (x1 : Int32) : Option (ax_I) :=
  d_P_showBy_13 S  5000 I R u0 (x1) (0)
set_option maxHeartbeats 1000000 in
theorem e_P_showBy_11 {l : Launch} {X : ax_X} {S : ax_S} {L : ax_L} {R0 : ax_R} {out : ax_I} (hX : ax_ok X l "LossFreeTools$Picture" b_P_showBy 3 (ax_rm 3 0 0)) (hF : ax_fin X none 0 0 (ax_of (ax_eq none S out R0 L))) (hS0 : ax_S0 X = S) : ∀ (I : ax_I) (R : ax_R) (u0 : Nat) (x1 : Int32), ax_typ S R → (S u0 = some (.inl 1)) → R = R0 → d_P_showBy_11 S  I R u0 x1 = some out → ax_W X 3 11 [some (.ref u0), some (.int (x1)), none] [] S I R L 0 0 := by
  rintro I R u0 x1 hty hs0_ hR0 h
  subst hR0
  unfold d_P_showBy_11 at h
  refine ax_iconst (v := 0) (q := 12) hX dc_P_showBy_11 rfl (by decide) ?_
  refine ax_istore_n (ls' := [some (.ref u0), some (.int (x1)), some (.int (0))]) (q := 13) hX dc_P_showBy_12 rfl rfl (by decide) rfl ?_
  exact (e_P_showBy_13 hX hF hS0  5000 I R u0 (x1) (0) hty hs0_ rfl h)
def d_P_showBy (S : ax_S) (I : ax_I) (R : ax_R) (u0 : Nat) (x1 : Int32) : Option (ax_I) :=
  (d_K_mirrors S I R (x1)).bind fun r3 =>
  if (ax_b r3) = 0 then
    d_P_showBy_11 S  I R u0 (x1)
  else
    (d_P_mirror S I R u0).bind fun I7 =>
    d_P_showBy_11 S  I7 R u0 (x1)
set_option maxHeartbeats 1000000 in
theorem c_P_showBy (l : Launch) {S : ax_S} {I : ax_I} {R : ax_R} {L : ax_L} {u0 : Nat} {x1 : Int32} {out : ax_I} (hty : ax_typ S R) (hs0 : S u0 = some (.inl 1)) (h : d_P_showBy S I R u0 x1 = some out) : ax_Met l y_P_showBy b_P_showBy 3 none (ax_rm 3 0 0) [.ref u0, .int x1] S I R L (ax_eq none S out R L) := by
  refine ax_enter (own := "LossFreeTools$Picture") (by decide +kernel) rfl (ax_cats rfl) (Nat.le_of_ble_eq_true rfl) (fun X hX hF _ hS0 => ?_)
  show ax_W X 3 0 [some (.ref u0), some (.int (x1)), none] [] S I R L 0 0
  unfold d_P_showBy at h
  refine ax_iload_n (q := 1) hX dc_P_showBy_0 rfl rfl rfl ?_
  obtain ⟨r3, hr1, h⟩ := ax_bd h
  refine ax_kN (host := "LossFreeTools") (vs := [.int (x1)]) (rest := []) (q := 4) hX dc_P_showBy_1 rfl mt_K_mirrors (by decide +kernel) wt_K_mirrors (c_K_mirrors l hty  hr1) rfl (by decide) rfl (Nat.le_of_ble_eq_true rfl) rfl rfl (by decide) (by decide) rfl ?_
  refine ax_if_eq (tgt := 11) (q := 7) hX dc_P_showBy_4 rfl (by decide) (fun z4 => ?_) (fun z4 => ?_)
  · rw [if_pos z4] at h
    exact (e_P_showBy_11 hX hF hS0  I R u0 (x1) hty hs0 rfl h)
  · rw [if_neg z4] at h
    refine ax_aload_n (q := 8) hX dc_P_showBy_7 rfl rfl rfl ?_
    obtain ⟨I7, hr5, h⟩ := ax_bd h
    refine ax_kV (vs := []) (rest := []) (q := 11) hX dc_P_showBy_8 rfl mt_P_mirror wl_P_80 wi_P_mirror ws_P_mirror hs0 rfl (c_P_mirror l hty hs0 hr5) rfl (by decide) rfl (Nat.le_of_ble_eq_true rfl) rfl rfl (by decide) (by decide) rfl ?_
    exact (e_P_showBy_11 hX hF hS0  I7 R u0 (x1) hty hs0 rfl h)
def d_P_putHead_76 (S : ax_S) : Nat → ax_I → ax_R → Nat → Nat → Int32 → Option (ax_I)
  | 0, _, _, _, _, _ => none
  | n + 1, I, R, u0, u1, x2 =>
    if (I u0 3) ≤ x2 then
      some (I)
    else
      (R u0 1).bind fun u36 =>
      (ax_ix S u36 (x2)).bind fun j40 =>
      (R u36 j40).bind fun u42 =>
      (d_S_putNumber S I R u1 (I u42 0)).bind fun I47 =>
      (R u0 1).bind fun u48 =>
      (ax_ix S u48 (x2)).bind fun j52 =>
      (R u48 j52).bind fun u54 =>
      (d_S_putNumber S I47 R u1 (I47 u54 1)).bind fun I59 =>
      (R u0 1).bind fun u60 =>
      (ax_ix S u60 (x2)).bind fun j64 =>
      (R u60 j64).bind fun u66 =>
      (d_S_putByte S I59 R u1 (I59 u66 2)).bind fun I71 =>
      d_P_putHead_76 S  n I71 R u0 u1 (x2 + 1)
set_option maxHeartbeats 1000000 in
theorem e_P_putHead_76 {l : Launch} {X : ax_X} {S : ax_S} {L : ax_L} {R0 : ax_R} {out : ax_I} (hX : ax_ok X l "LossFreeTools$Picture" b_P_putHead 3 (ax_rm 3 0 0)) (hF : ax_fin X none 0 0 (ax_of (ax_eq none S out R0 L))) (hS0 : ax_S0 X = S) : ∀ (n : Nat), ∀ (I : ax_I) (R : ax_R) (u0 : Nat) (u1 : Nat) (x2 : Int32), ax_typ S R → (S u0 = some (.inl 1)) → (S u1 = some (.inl 2)) → R = R0 → d_P_putHead_76 S  n I R u0 u1 x2 = some out → ax_W X 3 76 [some (.ref u0), some (.ref u1), some (.int (x2))] [] S I R L 0 0 := by
  intro n
  induction n with
  | zero =>
    rintro I R u0 u1 x2 hty hs0_ hs1_ hR0 h
    cases h
  | succ n ih =>
    rintro I R u0 u1 x2 hty hs0_ hs1_ hR0 h
    subst hR0
    unfold d_P_putHead_76 at h
    refine ax_iload_n (q := 77) hX dc_P_putHead_76 rfl rfl rfl ?_
    refine ax_aload_n (q := 78) hX dc_P_putHead_77 rfl rfl rfl ?_
    refine ax_getI (q := 81) hX dc_P_putHead_78 rfl fl_P_35 rfl hs0_ ?_
    refine ax_icmp_ge (tgt := 129) (q := 84) hX dc_P_putHead_81 rfl (by decide) (fun z35 => ?_) (fun z35 => ?_)
    · rw [if_pos z35] at h
      cases h
      exact ax_vret hX hF dc_P_putHead_129 (by decide) (by decide) ax_eq.mk (by rw [hS0]; exact fun _ _ z => z)
    · rw [if_neg z35] at h
      refine ax_aload_n (q := 85) hX dc_P_putHead_84 rfl rfl rfl ?_
      refine ax_aload_n (q := 86) hX dc_P_putHead_85 rfl rfl rfl ?_
      obtain ⟨u36, hu37, h⟩ := ax_bd h
      obtain ⟨n39, hs38⟩ : ∃ n, S u36 = some (.inr (3, n)) := hty.1 _ _ _ _ hs0_ hu37
      refine ax_getR (q := 89) hX dc_P_putHead_86 rfl fl_P_20 rfl hs0_ hu37 ?_
      refine ax_iload_n (q := 90) hX dc_P_putHead_89 rfl rfl rfl ?_
      obtain ⟨j40, hj41, h⟩ := ax_bd h
      have hj41 := ax_ix_s hty hs38 hj41
      obtain ⟨u42, hu43, h⟩ := ax_bd h
      have hs44 : S u42 = some (.inl 0) := hty.2.2.1 _ _ _ _ hs38 hu43
      refine ax_aald (q := 91) hX j40 dc_P_putHead_90 rfl hs38 rfl rfl hj41.1 hj41.2.1 hj41.2.2 hu43 ?_
      refine ax_getI (q := 94) hX dc_P_putHead_91 rfl fl_P_126 rfl hs44 ?_
      obtain ⟨I47, hr45, h⟩ := ax_bd h
      refine ax_kV (vs := [.int (I u42 0)]) (rest := []) (q := 97) hX dc_P_putHead_94 rfl mt_S_putNumber wl_P_119 wi_S_putNumber ws_S_putNumber hs1_ rfl (c_S_putNumber l hty hs1_ hr45) rfl (by decide) rfl (Nat.le_of_ble_eq_true rfl) rfl rfl (by decide) (by decide) rfl ?_
      refine ax_aload_n (q := 98) hX dc_P_putHead_97 rfl rfl rfl ?_
      refine ax_aload_n (q := 99) hX dc_P_putHead_98 rfl rfl rfl ?_
      obtain ⟨u48, hu49, h⟩ := ax_bd h
      obtain ⟨n51, hs50⟩ : ∃ n, S u48 = some (.inr (3, n)) := hty.1 _ _ _ _ hs0_ hu49
      refine ax_getR (q := 102) hX dc_P_putHead_99 rfl fl_P_20 rfl hs0_ hu49 ?_
      refine ax_iload_n (q := 103) hX dc_P_putHead_102 rfl rfl rfl ?_
      obtain ⟨j52, hj53, h⟩ := ax_bd h
      have hj53 := ax_ix_s hty hs50 hj53
      obtain ⟨u54, hu55, h⟩ := ax_bd h
      have hs56 : S u54 = some (.inl 0) := hty.2.2.1 _ _ _ _ hs50 hu55
      refine ax_aald (q := 104) hX j52 dc_P_putHead_103 rfl hs50 rfl rfl hj53.1 hj53.2.1 hj53.2.2 hu55 ?_
      refine ax_getI (q := 107) hX dc_P_putHead_104 rfl fl_P_129 rfl hs56 ?_
      obtain ⟨I59, hr57, h⟩ := ax_bd h
      refine ax_kV (vs := [.int (I47 u54 1)]) (rest := []) (q := 110) hX dc_P_putHead_107 rfl mt_S_putNumber wl_P_119 wi_S_putNumber ws_S_putNumber hs1_ rfl (c_S_putNumber l hty hs1_ hr57) rfl (by decide) rfl (Nat.le_of_ble_eq_true rfl) rfl rfl (by decide) (by decide) rfl ?_
      refine ax_aload_n (q := 111) hX dc_P_putHead_110 rfl rfl rfl ?_
      refine ax_aload_n (q := 112) hX dc_P_putHead_111 rfl rfl rfl ?_
      obtain ⟨u60, hu61, h⟩ := ax_bd h
      obtain ⟨n63, hs62⟩ : ∃ n, S u60 = some (.inr (3, n)) := hty.1 _ _ _ _ hs0_ hu61
      refine ax_getR (q := 115) hX dc_P_putHead_112 rfl fl_P_20 rfl hs0_ hu61 ?_
      refine ax_iload_n (q := 116) hX dc_P_putHead_115 rfl rfl rfl ?_
      obtain ⟨j64, hj65, h⟩ := ax_bd h
      have hj65 := ax_ix_s hty hs62 hj65
      obtain ⟨u66, hu67, h⟩ := ax_bd h
      have hs68 : S u66 = some (.inl 0) := hty.2.2.1 _ _ _ _ hs62 hu67
      refine ax_aald (q := 117) hX j64 dc_P_putHead_116 rfl hs62 rfl rfl hj65.1 hj65.2.1 hj65.2.2 hu67 ?_
      refine ax_getI (q := 120) hX dc_P_putHead_117 rfl fl_P_132 rfl hs68 ?_
      obtain ⟨I71, hr69, h⟩ := ax_bd h
      refine ax_kV (vs := [.int (I59 u66 2)]) (rest := []) (q := 123) hX dc_P_putHead_120 rfl mt_S_putByte wl_P_114 wi_S_putByte ws_S_putByte hs1_ rfl (c_S_putByte l hty hs1_ hr69) rfl (by decide) rfl (Nat.le_of_ble_eq_true rfl) rfl rfl (by decide) (by decide) rfl ?_
      refine ax_iinc (v := x2 + 1) (ls' := [some (.ref u0), some (.ref u1), some (.int (x2 + 1))]) (q := 126) hX dc_P_putHead_123 rfl rfl rfl (by decide) rfl ?_
      refine ax_goto (tgt := 76) hX dc_P_putHead_126 (by decide) ?_
      exact (ih I71 R u0 u1 (x2 + 1) hty hs0_ hs1_ rfl h)
def d_P_putHead_38 (S : ax_S) : Nat → ax_I → ax_R → Nat → Nat → Int32 → Option (ax_I)
  | 0, _, _, _, _, _ => none
  | n + 1, I, R, u0, u1, x2 =>
    if (I u0 2) ≤ x2 then
      (d_S_putByte S I R u1 (I u0 3)).bind fun I19 =>
      d_P_putHead_76 S  5000 I19 R u0 u1 (0)
    else
      (R u0 0).bind fun u20 =>
      (ax_ix S u20 (x2)).bind fun j24 =>
      (R u20 j24).bind fun u26 =>
      (d_P_placeOfPart S I R u0 u26).bind fun r31 =>
      (d_S_putNumber S I R u1 (r31)).bind fun I34 =>
      d_P_putHead_38 S  n I34 R u0 u1 (x2 + 1)
set_option maxHeartbeats 1000000 in
theorem e_P_putHead_38 {l : Launch} {X : ax_X} {S : ax_S} {L : ax_L} {R0 : ax_R} {out : ax_I} (hX : ax_ok X l "LossFreeTools$Picture" b_P_putHead 3 (ax_rm 3 0 0)) (hF : ax_fin X none 0 0 (ax_of (ax_eq none S out R0 L))) (hS0 : ax_S0 X = S) : ∀ (n : Nat), ∀ (I : ax_I) (R : ax_R) (u0 : Nat) (u1 : Nat) (x2 : Int32), ax_typ S R → (S u0 = some (.inl 1)) → (S u1 = some (.inl 2)) → R = R0 → d_P_putHead_38 S  n I R u0 u1 x2 = some out → ax_W X 3 38 [some (.ref u0), some (.ref u1), some (.int (x2))] [] S I R L 0 0 := by
  intro n
  induction n with
  | zero =>
    rintro I R u0 u1 x2 hty hs0_ hs1_ hR0 h
    cases h
  | succ n ih =>
    rintro I R u0 u1 x2 hty hs0_ hs1_ hR0 h
    subst hR0
    unfold d_P_putHead_38 at h
    refine ax_iload_n (q := 39) hX dc_P_putHead_38 rfl rfl rfl ?_
    refine ax_aload_n (q := 40) hX dc_P_putHead_39 rfl rfl rfl ?_
    refine ax_getI (q := 43) hX dc_P_putHead_40 rfl fl_P_32 rfl hs0_ ?_
    refine ax_icmp_ge (tgt := 66) (q := 46) hX dc_P_putHead_43 rfl (by decide) (fun z16 => ?_) (fun z16 => ?_)
    · rw [if_pos z16] at h
      refine ax_aload_n (q := 67) hX dc_P_putHead_66 rfl rfl rfl ?_
      refine ax_aload_n (q := 68) hX dc_P_putHead_67 rfl rfl rfl ?_
      refine ax_getI (q := 71) hX dc_P_putHead_68 rfl fl_P_35 rfl hs0_ ?_
      obtain ⟨I19, hr17, h⟩ := ax_bd h
      refine ax_kV (vs := [.int (I u0 3)]) (rest := []) (q := 74) hX dc_P_putHead_71 rfl mt_S_putByte wl_P_114 wi_S_putByte ws_S_putByte hs1_ rfl (c_S_putByte l hty hs1_ hr17) rfl (by decide) rfl (Nat.le_of_ble_eq_true rfl) rfl rfl (by decide) (by decide) rfl ?_
      refine ax_iconst (v := 0) (q := 75) hX dc_P_putHead_74 rfl (by decide) ?_
      refine ax_istore_n (ls' := [some (.ref u0), some (.ref u1), some (.int (0))]) (q := 76) hX dc_P_putHead_75 rfl rfl (by decide) rfl ?_
      exact (e_P_putHead_76 hX hF hS0  5000 I19 R u0 u1 (0) hty hs0_ hs1_ rfl h)
    · rw [if_neg z16] at h
      refine ax_aload_n (q := 47) hX dc_P_putHead_46 rfl rfl rfl ?_
      refine ax_aload_n (q := 48) hX dc_P_putHead_47 rfl rfl rfl ?_
      refine ax_aload_n (q := 49) hX dc_P_putHead_48 rfl rfl rfl ?_
      obtain ⟨u20, hu21, h⟩ := ax_bd h
      obtain ⟨n23, hs22⟩ : ∃ n, S u20 = some (.inr (2, n)) := hty.1 _ _ _ _ hs0_ hu21
      refine ax_getR (q := 52) hX dc_P_putHead_49 rfl fl_P_11 rfl hs0_ hu21 ?_
      refine ax_iload_n (q := 53) hX dc_P_putHead_52 rfl rfl rfl ?_
      obtain ⟨j24, hj25, h⟩ := ax_bd h
      have hj25 := ax_ix_s hty hs22 hj25
      obtain ⟨u26, hu27, h⟩ := ax_bd h
      have hs28 : S u26 = some (.inl 3) := hty.2.1 _ _ _ _ hs22 hu27
      refine ax_aald (q := 54) hX j24 dc_P_putHead_53 rfl hs22 rfl rfl hj25.1 hj25.2.1 hj25.2.2 hu27 ?_
      obtain ⟨r31, hr29, h⟩ := ax_bd h
      refine ax_kV (vs := [.ref u26]) (rest := [.ref u1]) (q := 57) hX dc_P_putHead_54 rfl mt_P_placeOfPart wl_P_122 wi_P_placeOfPart ws_P_placeOfPart hs0_ rfl (c_P_placeOfPart l hty hs0_ hs28 hr29) rfl (by decide) rfl (Nat.le_of_ble_eq_true rfl) rfl rfl (by decide) (by decide) rfl ?_
      obtain ⟨I34, hr32, h⟩ := ax_bd h
      refine ax_kV (vs := [.int (r31)]) (rest := []) (q := 60) hX dc_P_putHead_57 rfl mt_S_putNumber wl_P_119 wi_S_putNumber ws_S_putNumber hs1_ rfl (c_S_putNumber l hty hs1_ hr32) rfl (by decide) rfl (Nat.le_of_ble_eq_true rfl) rfl rfl (by decide) (by decide) rfl ?_
      refine ax_iinc (v := x2 + 1) (ls' := [some (.ref u0), some (.ref u1), some (.int (x2 + 1))]) (q := 63) hX dc_P_putHead_60 rfl rfl rfl (by decide) rfl ?_
      refine ax_goto (tgt := 38) hX dc_P_putHead_63 (by decide) ?_
      exact (ih I34 R u0 u1 (x2 + 1) hty hs0_ hs1_ rfl h)
def d_P_putHead (S : ax_S) (I : ax_I) (R : ax_R) (u0 : Nat) (u1 : Nat) : Option (ax_I) :=
  (d_S_putByte S I R u1 (76)).bind fun I3 =>
  (d_S_putByte S I3 R u1 (70)).bind fun I6 =>
  (d_S_putNumber S I6 R u1 (I6 u0 4)).bind fun I9 =>
  (d_S_putNumber S I9 R u1 (I9 u0 5)).bind fun I12 =>
  (d_S_putByte S I12 R u1 (I12 u0 2)).bind fun I15 =>
  d_P_putHead_38 S  5000 I15 R u0 u1 (0)
set_option maxHeartbeats 1000000 in
theorem c_P_putHead (l : Launch) {S : ax_S} {I : ax_I} {R : ax_R} {L : ax_L} {u0 : Nat} {u1 : Nat} {out : ax_I} (hty : ax_typ S R) (hs0 : S u0 = some (.inl 1)) (hs1 : S u1 = some (.inl 2)) (h : d_P_putHead S I R u0 u1 = some out) : ax_Met l y_P_putHead b_P_putHead 3 none (ax_rm 3 0 0) [.ref u0, .ref u1] S I R L (ax_eq none S out R L) := by
  refine ax_enter (own := "LossFreeTools$Picture") (by decide +kernel) rfl (ax_cats rfl) (Nat.le_of_ble_eq_true rfl) (fun X hX hF _ hS0 => ?_)
  show ax_W X 3 0 [some (.ref u0), some (.ref u1), none] [] S I R L 0 0
  unfold d_P_putHead at h
  refine ax_aload_n (q := 1) hX dc_P_putHead_0 rfl rfl rfl ?_
  refine ax_bipush (v := 76) (q := 3) hX dc_P_putHead_1 rfl (by decide) ?_
  obtain ⟨I3, hr1, h⟩ := ax_bd h
  refine ax_kV (vs := [.int (76)]) (rest := []) (q := 6) hX dc_P_putHead_3 rfl mt_S_putByte wl_P_114 wi_S_putByte ws_S_putByte hs1 rfl (c_S_putByte l hty hs1 hr1) rfl (by decide) rfl (Nat.le_of_ble_eq_true rfl) rfl rfl (by decide) (by decide) rfl ?_
  refine ax_aload_n (q := 7) hX dc_P_putHead_6 rfl rfl rfl ?_
  refine ax_bipush (v := 70) (q := 9) hX dc_P_putHead_7 rfl (by decide) ?_
  obtain ⟨I6, hr4, h⟩ := ax_bd h
  refine ax_kV (vs := [.int (70)]) (rest := []) (q := 12) hX dc_P_putHead_9 rfl mt_S_putByte wl_P_114 wi_S_putByte ws_S_putByte hs1 rfl (c_S_putByte l hty hs1 hr4) rfl (by decide) rfl (Nat.le_of_ble_eq_true rfl) rfl rfl (by decide) (by decide) rfl ?_
  refine ax_aload_n (q := 13) hX dc_P_putHead_12 rfl rfl rfl ?_
  refine ax_aload_n (q := 14) hX dc_P_putHead_13 rfl rfl rfl ?_
  refine ax_getI (q := 17) hX dc_P_putHead_14 rfl fl_P_25 rfl hs0 ?_
  obtain ⟨I9, hr7, h⟩ := ax_bd h
  refine ax_kV (vs := [.int (I6 u0 4)]) (rest := []) (q := 20) hX dc_P_putHead_17 rfl mt_S_putNumber wl_P_119 wi_S_putNumber ws_S_putNumber hs1 rfl (c_S_putNumber l hty hs1 hr7) rfl (by decide) rfl (Nat.le_of_ble_eq_true rfl) rfl rfl (by decide) (by decide) rfl ?_
  refine ax_aload_n (q := 21) hX dc_P_putHead_20 rfl rfl rfl ?_
  refine ax_aload_n (q := 22) hX dc_P_putHead_21 rfl rfl rfl ?_
  refine ax_getI (q := 25) hX dc_P_putHead_22 rfl fl_P_29 rfl hs0 ?_
  obtain ⟨I12, hr10, h⟩ := ax_bd h
  refine ax_kV (vs := [.int (I9 u0 5)]) (rest := []) (q := 28) hX dc_P_putHead_25 rfl mt_S_putNumber wl_P_119 wi_S_putNumber ws_S_putNumber hs1 rfl (c_S_putNumber l hty hs1 hr10) rfl (by decide) rfl (Nat.le_of_ble_eq_true rfl) rfl rfl (by decide) (by decide) rfl ?_
  refine ax_aload_n (q := 29) hX dc_P_putHead_28 rfl rfl rfl ?_
  refine ax_aload_n (q := 30) hX dc_P_putHead_29 rfl rfl rfl ?_
  refine ax_getI (q := 33) hX dc_P_putHead_30 rfl fl_P_32 rfl hs0 ?_
  obtain ⟨I15, hr13, h⟩ := ax_bd h
  refine ax_kV (vs := [.int (I12 u0 2)]) (rest := []) (q := 36) hX dc_P_putHead_33 rfl mt_S_putByte wl_P_114 wi_S_putByte ws_S_putByte hs1 rfl (c_S_putByte l hty hs1 hr13) rfl (by decide) rfl (Nat.le_of_ble_eq_true rfl) rfl rfl (by decide) (by decide) rfl ?_
  refine ax_iconst (v := 0) (q := 37) hX dc_P_putHead_36 rfl (by decide) ?_
  refine ax_istore_n (ls' := [some (.ref u0), some (.ref u1), some (.int (0))]) (q := 38) hX dc_P_putHead_37 rfl rfl (by decide) rfl ?_
  exact (e_P_putHead_38 hX hF hS0  5000 I15 R u0 u1 (0) hty hs0 hs1 rfl h)
def d_T_ownWidth (S : ax_S) (I : ax_I) (R : ax_R) (u0 : Nat) : Option (Int32) :=
  (d_T_liesOnItsSide S I R u0).bind fun r3 =>
  if (ax_b r3) = 0 then
    some (I u0 4)
  else
    some (I u0 5)
set_option maxHeartbeats 1000000 in
theorem c_T_ownWidth (l : Launch) {S : ax_S} {I : ax_I} {R : ax_R} {L : ax_L} {u0 : Nat} {out : Int32} (hty : ax_typ S R) (hs0 : S u0 = some (.inl 3)) (h : d_T_ownWidth S I R u0 = some out) : ax_Met l y_T_ownWidth b_T_ownWidth 1 (some .int) (ax_rm 3 0 0) [.ref u0] S I R L (ax_eq (some (.int out)) S I R L) := by
  refine ax_enter (own := "LossFreeTools$Tile") (by decide +kernel) rfl (ax_cats rfl) (Nat.le_of_ble_eq_true rfl) (fun X hX hF _ hS0 => ?_)
  show ax_W X 1 0 [some (.ref u0)] [] S I R L 0 0
  unfold d_T_ownWidth at h
  refine ax_aload_n (q := 1) hX dc_T_ownWidth_0 rfl rfl rfl ?_
  obtain ⟨r3, hr1, h⟩ := ax_bd h
  refine ax_kV (vs := []) (rest := []) (q := 4) hX dc_T_ownWidth_1 rfl mt_T_liesOnItsSide wl_T_38 wi_T_liesOnItsSide ws_T_liesOnItsSide hs0 rfl (c_T_liesOnItsSide l hty hs0 hr1) rfl (by decide) rfl (Nat.le_of_ble_eq_true rfl) rfl rfl (by decide) (by decide) rfl ?_
  refine ax_if_eq (tgt := 14) (q := 7) hX dc_T_ownWidth_4 rfl (by decide) (fun z4 => ?_) (fun z4 => ?_)
  · rw [if_pos z4] at h
    refine ax_aload_n (q := 15) hX dc_T_ownWidth_14 rfl rfl rfl ?_
    refine ax_getI (q := 18) hX dc_T_ownWidth_15 rfl fl_T_22 rfl hs0 ?_
    cases h
    exact ax_iret hX hF dc_T_ownWidth_18 rfl rfl (by decide) (by decide) ax_eq.mk (by rw [hS0]; exact fun _ _ z => z)
  · rw [if_neg z4] at h
    refine ax_aload_n (q := 8) hX dc_T_ownWidth_7 rfl rfl rfl ?_
    refine ax_getI (q := 11) hX dc_T_ownWidth_8 rfl fl_T_25 rfl hs0 ?_
    refine ax_goto (tgt := 18) hX dc_T_ownWidth_11 (by decide) ?_
    cases h
    exact ax_iret hX hF dc_T_ownWidth_18 rfl rfl (by decide) (by decide) ax_eq.mk (by rw [hS0]; exact fun _ _ z => z)
def d_T_ownHeight (S : ax_S) (I : ax_I) (R : ax_R) (u0 : Nat) : Option (Int32) :=
  (d_T_liesOnItsSide S I R u0).bind fun r3 =>
  if (ax_b r3) = 0 then
    some (I u0 5)
  else
    some (I u0 4)
set_option maxHeartbeats 1000000 in
theorem c_T_ownHeight (l : Launch) {S : ax_S} {I : ax_I} {R : ax_R} {L : ax_L} {u0 : Nat} {out : Int32} (hty : ax_typ S R) (hs0 : S u0 = some (.inl 3)) (h : d_T_ownHeight S I R u0 = some out) : ax_Met l y_T_ownHeight b_T_ownHeight 1 (some .int) (ax_rm 3 0 0) [.ref u0] S I R L (ax_eq (some (.int out)) S I R L) := by
  refine ax_enter (own := "LossFreeTools$Tile") (by decide +kernel) rfl (ax_cats rfl) (Nat.le_of_ble_eq_true rfl) (fun X hX hF _ hS0 => ?_)
  show ax_W X 1 0 [some (.ref u0)] [] S I R L 0 0
  unfold d_T_ownHeight at h
  refine ax_aload_n (q := 1) hX dc_T_ownHeight_0 rfl rfl rfl ?_
  obtain ⟨r3, hr1, h⟩ := ax_bd h
  refine ax_kV (vs := []) (rest := []) (q := 4) hX dc_T_ownHeight_1 rfl mt_T_liesOnItsSide wl_T_38 wi_T_liesOnItsSide ws_T_liesOnItsSide hs0 rfl (c_T_liesOnItsSide l hty hs0 hr1) rfl (by decide) rfl (Nat.le_of_ble_eq_true rfl) rfl rfl (by decide) (by decide) rfl ?_
  refine ax_if_eq (tgt := 14) (q := 7) hX dc_T_ownHeight_4 rfl (by decide) (fun z4 => ?_) (fun z4 => ?_)
  · rw [if_pos z4] at h
    refine ax_aload_n (q := 15) hX dc_T_ownHeight_14 rfl rfl rfl ?_
    refine ax_getI (q := 18) hX dc_T_ownHeight_15 rfl fl_T_25 rfl hs0 ?_
    cases h
    exact ax_iret hX hF dc_T_ownHeight_18 rfl rfl (by decide) (by decide) ax_eq.mk (by rw [hS0]; exact fun _ _ z => z)
  · rw [if_neg z4] at h
    refine ax_aload_n (q := 8) hX dc_T_ownHeight_7 rfl rfl rfl ?_
    refine ax_getI (q := 11) hX dc_T_ownHeight_8 rfl fl_T_22 rfl hs0 ?_
    refine ax_goto (tgt := 18) hX dc_T_ownHeight_11 (by decide) ?_
    cases h
    exact ax_iret hX hF dc_T_ownHeight_18 rfl rfl (by decide) (by decide) ax_eq.mk (by rw [hS0]; exact fun _ _ z => z)
def d_T_putPart_55 (S : ax_S) : Nat → ax_I → ax_R → Nat → Nat → Int32 → Int32 → Option (ax_I)
  | 0, _, _, _, _, _, _ => none
  | n + 1, I, R, u0, u1, x2, x3 =>
    if (I u0 1) ≤ x3 then
      (d_S_sumFrom S I R u1 (x2)).bind fun r22 =>
      (d_S_putNumber S I R u1 (r22)).bind fun I25 =>
      some (I25)
    else
      (R u0 0).bind fun u26 =>
      (ax_ix S u26 (x3)).bind fun j30 =>
      (d_S_putByte S I R u1 (I u26 j30)).bind fun I34 =>
      d_T_putPart_55 S  n I34 R u0 u1 (x2) (x3 + 1)
set_option maxHeartbeats 1000000 in
theorem e_T_putPart_55 {l : Launch} {X : ax_X} {S : ax_S} {L : ax_L} {R0 : ax_R} {out : ax_I} (hX : ax_ok X l "LossFreeTools$Tile" b_T_putPart 4 (ax_rm 3 0 0)) (hF : ax_fin X none 0 0 (ax_of (ax_eq none S out R0 L))) (hS0 : ax_S0 X = S) : ∀ (n : Nat), ∀ (I : ax_I) (R : ax_R) (u0 : Nat) (u1 : Nat) (x2 : Int32) (x3 : Int32), ax_typ S R → (S u0 = some (.inl 3)) → (S u1 = some (.inl 2)) → R = R0 → d_T_putPart_55 S  n I R u0 u1 x2 x3 = some out → ax_W X 4 55 [some (.ref u0), some (.ref u1), some (.int (x2)), some (.int (x3))] [] S I R L 0 0 := by
  intro n
  induction n with
  | zero =>
    rintro I R u0 u1 x2 x3 hty hs0_ hs1_ hR0 h
    cases h
  | succ n ih =>
    rintro I R u0 u1 x2 x3 hty hs0_ hs1_ hR0 h
    subst hR0
    unfold d_T_putPart_55 at h
    refine ax_iload_n (q := 56) hX dc_T_putPart_55 rfl rfl rfl ?_
    refine ax_aload_n (q := 57) hX dc_T_putPart_56 rfl rfl rfl ?_
    refine ax_getI (q := 60) hX dc_T_putPart_57 rfl fl_T_31 rfl hs0_ ?_
    refine ax_icmp_ge (tgt := 79) (q := 63) hX dc_T_putPart_60 rfl (by decide) (fun z19 => ?_) (fun z19 => ?_)
    · rw [if_pos z19] at h
      refine ax_aload_n (q := 80) hX dc_T_putPart_79 rfl rfl rfl ?_
      refine ax_aload_n (q := 81) hX dc_T_putPart_80 rfl rfl rfl ?_
      refine ax_iload_n (q := 82) hX dc_T_putPart_81 rfl rfl rfl ?_
      obtain ⟨r22, hr20, h⟩ := ax_bd h
      refine ax_kV (vs := [.int (x2)]) (rest := [.ref u1]) (q := 85) hX dc_T_putPart_82 rfl mt_S_sumFrom wl_T_58 wi_S_sumFrom ws_S_sumFrom hs1_ rfl (c_S_sumFrom l hty hs1_ hr20) rfl (by decide) rfl (Nat.le_of_ble_eq_true rfl) rfl rfl (by decide) (by decide) rfl ?_
      obtain ⟨I25, hr23, h⟩ := ax_bd h
      refine ax_kV (vs := [.int (r22)]) (rest := []) (q := 88) hX dc_T_putPart_85 rfl mt_S_putNumber wl_T_51 wi_S_putNumber ws_S_putNumber hs1_ rfl (c_S_putNumber l hty hs1_ hr23) rfl (by decide) rfl (Nat.le_of_ble_eq_true rfl) rfl rfl (by decide) (by decide) rfl ?_
      cases h
      exact ax_vret hX hF dc_T_putPart_88 (by decide) (by decide) ax_eq.mk (by rw [hS0]; exact fun _ _ z => z)
    · rw [if_neg z19] at h
      refine ax_aload_n (q := 64) hX dc_T_putPart_63 rfl rfl rfl ?_
      refine ax_aload_n (q := 65) hX dc_T_putPart_64 rfl rfl rfl ?_
      obtain ⟨u26, hu27, h⟩ := ax_bd h
      obtain ⟨n29, hs28⟩ : ∃ n, S u26 = some (.inr (0, n)) := hty.1 _ _ _ _ hs0_ hu27
      refine ax_getR (q := 68) hX dc_T_putPart_65 rfl fl_T_9 rfl hs0_ hu27 ?_
      refine ax_iload_n (q := 69) hX dc_T_putPart_68 rfl rfl rfl ?_
      obtain ⟨j30, hj31, h⟩ := ax_bd h
      have hj31 := ax_ix_s hty hs28 hj31
      refine ax_iald (q := 70) hX j30 dc_T_putPart_69 rfl hs28 hj31.1 hj31.2.1 hj31.2.2 ?_
      obtain ⟨I34, hr32, h⟩ := ax_bd h
      refine ax_kV (vs := [.int (I u26 j30)]) (rest := []) (q := 73) hX dc_T_putPart_70 rfl mt_S_putByte wl_T_55 wi_S_putByte ws_S_putByte hs1_ rfl (c_S_putByte l hty hs1_ hr32) rfl (by decide) rfl (Nat.le_of_ble_eq_true rfl) rfl rfl (by decide) (by decide) rfl ?_
      refine ax_iinc (v := x3 + 1) (ls' := [some (.ref u0), some (.ref u1), some (.int (x2)), some (.int (x3 + 1))]) (q := 76) hX dc_T_putPart_73 rfl rfl rfl (by decide) rfl ?_
      refine ax_goto (tgt := 55) hX dc_T_putPart_76 (by decide) ?_
      exact (ih I34 R u0 u1 (x2) (x3 + 1) hty hs0_ hs1_ rfl h)
def d_T_putPart (S : ax_S) (I : ax_I) (R : ax_R) (u0 : Nat) (u1 : Nat) : Option (ax_I) :=
  (d_S_putNumber S I R u1 (I u0 2)).bind fun I3 =>
  (d_S_putNumber S I3 R u1 (I3 u0 3)).bind fun I6 =>
  (d_S_putNumber S I6 R u1 (I6 u0 4)).bind fun I9 =>
  (d_S_putNumber S I9 R u1 (I9 u0 5)).bind fun I12 =>
  (d_S_putByte S I12 R u1 (I12 u0 6)).bind fun I15 =>
  (d_S_putByte S I15 R u1 (I15 u0 1)).bind fun I18 =>
  d_T_putPart_55 S  5000 I18 R u0 u1 (I u1 2) (0)
set_option maxHeartbeats 1000000 in
theorem c_T_putPart (l : Launch) {S : ax_S} {I : ax_I} {R : ax_R} {L : ax_L} {u0 : Nat} {u1 : Nat} {out : ax_I} (hty : ax_typ S R) (hs0 : S u0 = some (.inl 3)) (hs1 : S u1 = some (.inl 2)) (h : d_T_putPart S I R u0 u1 = some out) : ax_Met l y_T_putPart b_T_putPart 4 none (ax_rm 3 0 0) [.ref u0, .ref u1] S I R L (ax_eq none S out R L) := by
  refine ax_enter (own := "LossFreeTools$Tile") (by decide +kernel) rfl (ax_cats rfl) (Nat.le_of_ble_eq_true rfl) (fun X hX hF _ hS0 => ?_)
  show ax_W X 4 0 [some (.ref u0), some (.ref u1), none, none] [] S I R L 0 0
  unfold d_T_putPart at h
  refine ax_aload_n (q := 1) hX dc_T_putPart_0 rfl rfl rfl ?_
  refine ax_getI (q := 4) hX dc_T_putPart_1 rfl fl_T_46 rfl hs1 ?_
  refine ax_istore_n (ls' := [some (.ref u0), some (.ref u1), some (.int (I u1 2)), none]) (q := 5) hX dc_T_putPart_4 rfl rfl (by decide) rfl ?_
  refine ax_aload_n (q := 6) hX dc_T_putPart_5 rfl rfl rfl ?_
  refine ax_aload_n (q := 7) hX dc_T_putPart_6 rfl rfl rfl ?_
  refine ax_getI (q := 10) hX dc_T_putPart_7 rfl fl_T_15 rfl hs0 ?_
  obtain ⟨I3, hr1, h⟩ := ax_bd h
  refine ax_kV (vs := [.int (I u0 2)]) (rest := []) (q := 13) hX dc_T_putPart_10 rfl mt_S_putNumber wl_T_51 wi_S_putNumber ws_S_putNumber hs1 rfl (c_S_putNumber l hty hs1 hr1) rfl (by decide) rfl (Nat.le_of_ble_eq_true rfl) rfl rfl (by decide) (by decide) rfl ?_
  refine ax_aload_n (q := 14) hX dc_T_putPart_13 rfl rfl rfl ?_
  refine ax_aload_n (q := 15) hX dc_T_putPart_14 rfl rfl rfl ?_
  refine ax_getI (q := 18) hX dc_T_putPart_15 rfl fl_T_19 rfl hs0 ?_
  obtain ⟨I6, hr4, h⟩ := ax_bd h
  refine ax_kV (vs := [.int (I3 u0 3)]) (rest := []) (q := 21) hX dc_T_putPart_18 rfl mt_S_putNumber wl_T_51 wi_S_putNumber ws_S_putNumber hs1 rfl (c_S_putNumber l hty hs1 hr4) rfl (by decide) rfl (Nat.le_of_ble_eq_true rfl) rfl rfl (by decide) (by decide) rfl ?_
  refine ax_aload_n (q := 22) hX dc_T_putPart_21 rfl rfl rfl ?_
  refine ax_aload_n (q := 23) hX dc_T_putPart_22 rfl rfl rfl ?_
  refine ax_getI (q := 26) hX dc_T_putPart_23 rfl fl_T_22 rfl hs0 ?_
  obtain ⟨I9, hr7, h⟩ := ax_bd h
  refine ax_kV (vs := [.int (I6 u0 4)]) (rest := []) (q := 29) hX dc_T_putPart_26 rfl mt_S_putNumber wl_T_51 wi_S_putNumber ws_S_putNumber hs1 rfl (c_S_putNumber l hty hs1 hr7) rfl (by decide) rfl (Nat.le_of_ble_eq_true rfl) rfl rfl (by decide) (by decide) rfl ?_
  refine ax_aload_n (q := 30) hX dc_T_putPart_29 rfl rfl rfl ?_
  refine ax_aload_n (q := 31) hX dc_T_putPart_30 rfl rfl rfl ?_
  refine ax_getI (q := 34) hX dc_T_putPart_31 rfl fl_T_25 rfl hs0 ?_
  obtain ⟨I12, hr10, h⟩ := ax_bd h
  refine ax_kV (vs := [.int (I9 u0 5)]) (rest := []) (q := 37) hX dc_T_putPart_34 rfl mt_S_putNumber wl_T_51 wi_S_putNumber ws_S_putNumber hs1 rfl (c_S_putNumber l hty hs1 hr10) rfl (by decide) rfl (Nat.le_of_ble_eq_true rfl) rfl rfl (by decide) (by decide) rfl ?_
  refine ax_aload_n (q := 38) hX dc_T_putPart_37 rfl rfl rfl ?_
  refine ax_aload_n (q := 39) hX dc_T_putPart_38 rfl rfl rfl ?_
  refine ax_getI (q := 42) hX dc_T_putPart_39 rfl fl_T_28 rfl hs0 ?_
  obtain ⟨I15, hr13, h⟩ := ax_bd h
  refine ax_kV (vs := [.int (I12 u0 6)]) (rest := []) (q := 45) hX dc_T_putPart_42 rfl mt_S_putByte wl_T_55 wi_S_putByte ws_S_putByte hs1 rfl (c_S_putByte l hty hs1 hr13) rfl (by decide) rfl (Nat.le_of_ble_eq_true rfl) rfl rfl (by decide) (by decide) rfl ?_
  refine ax_aload_n (q := 46) hX dc_T_putPart_45 rfl rfl rfl ?_
  refine ax_aload_n (q := 47) hX dc_T_putPart_46 rfl rfl rfl ?_
  refine ax_getI (q := 50) hX dc_T_putPart_47 rfl fl_T_31 rfl hs0 ?_
  obtain ⟨I18, hr16, h⟩ := ax_bd h
  refine ax_kV (vs := [.int (I15 u0 1)]) (rest := []) (q := 53) hX dc_T_putPart_50 rfl mt_S_putByte wl_T_55 wi_S_putByte ws_S_putByte hs1 rfl (c_S_putByte l hty hs1 hr16) rfl (by decide) rfl (Nat.le_of_ble_eq_true rfl) rfl rfl (by decide) (by decide) rfl ?_
  refine ax_iconst (v := 0) (q := 54) hX dc_T_putPart_53 rfl (by decide) ?_
  refine ax_istore_n (ls' := [some (.ref u0), some (.ref u1), some (.int (I u1 2)), some (.int (0))]) (q := 55) hX dc_T_putPart_54 rfl rfl (by decide) rfl ?_
  exact (e_T_putPart_55 hX hF hS0  5000 I18 R u0 u1 (I u1 2) (0) hty hs0 hs1 rfl h)
def d_K_allAskedFit_2 (S : ax_S) : Nat → ax_I → ax_R → Nat → Int32 → Option (Bool)
  | 0, _, _, _, _ => none
  | n + 1, I, R, u0, x1 =>
    if 4 ≤ x1 then
      some (true)
    else
      (R u0 4).bind fun u2 =>
      (d_K_isUpright S I R (x1)).bind fun r7 =>
      (R u0 3).bind fun u8 =>
      (ax_ix S u8 (x1)).bind fun j12 =>
      (d_P_borderFits S I R u2 (ax_b r7) (I u8 j12)).bind fun r16 =>
      if (ax_b r16) = 0 then
        some (false)
      else
        d_K_allAskedFit_2 S  n I R u0 (x1 + 1)
set_option maxHeartbeats 1000000 in
theorem e_K_allAskedFit_2 {l : Launch} {X : ax_X} {S : ax_S} {L : ax_L} {I0 : ax_I} {R0 : ax_R} {out : Bool} (hX : ax_ok X l "LossFreeTools" b_K_allAskedFit 2 (ax_rm 3 0 0)) (hF : ax_fin X (some .boolean) 0 0 (ax_of (ax_eq (some (.int (ax_b out))) S I0 R0 L))) (hS0 : ax_S0 X = S) : ∀ (n : Nat), ∀ (I : ax_I) (R : ax_R) (u0 : Nat) (x1 : Int32), ax_typ S R → (S u0 = some (.inl 4)) → I = I0 → R = R0 → d_K_allAskedFit_2 S  n I R u0 x1 = some out → ax_W X 2 2 [some (.ref u0), some (.int (x1))] [] S I R L 0 0 := by
  intro n
  induction n with
  | zero =>
    rintro I R u0 x1 hty hs0_ hI0 hR0 h
    cases h
  | succ n ih =>
    rintro I R u0 x1 hty hs0_ hI0 hR0 h
    subst hI0
    subst hR0
    unfold d_K_allAskedFit_2 at h
    refine ax_iload_n (q := 3) hX dc_K_allAskedFit_2 rfl rfl rfl ?_
    refine ax_iconst (v := 4) (q := 4) hX dc_K_allAskedFit_3 rfl (by decide) ?_
    refine ax_icmp_ge (tgt := 35) (q := 7) hX dc_K_allAskedFit_4 rfl (by decide) (fun z1 => ?_) (fun z1 => ?_)
    · rw [if_pos z1] at h
      refine ax_iconst (v := 1) (q := 36) hX dc_K_allAskedFit_35 rfl (by decide) ?_
      cases h
      exact ax_iret hX hF dc_K_allAskedFit_36 rfl rfl (by decide) (by decide) ax_eq.mk (by rw [hS0]; exact fun _ _ z => z)
    · rw [if_neg z1] at h
      refine ax_aload_n (q := 8) hX dc_K_allAskedFit_7 rfl rfl rfl ?_
      obtain ⟨u2, hu3, h⟩ := ax_bd h
      have hs4 : S u2 = some (.inl 1) := hty.1 _ _ _ _ hs0_ hu3
      refine ax_getR (q := 11) hX dc_K_allAskedFit_8 rfl fl_K_36 rfl hs0_ hu3 ?_
      refine ax_iload_n (q := 12) hX dc_K_allAskedFit_11 rfl rfl rfl ?_
      obtain ⟨r7, hr5, h⟩ := ax_bd h
      refine ax_kS (vs := [.int (x1)]) (rest := [.ref u2]) (q := 15) hX dc_K_allAskedFit_12 rfl mt_K_isUpright wl_K_140 wt_K_isUpright (c_K_isUpright l hty  hr5) rfl (by decide) rfl (Nat.le_of_ble_eq_true rfl) rfl rfl (by decide) (by decide) rfl ?_
      refine ax_aload_n (q := 16) hX dc_K_allAskedFit_15 rfl rfl rfl ?_
      obtain ⟨u8, hu9, h⟩ := ax_bd h
      obtain ⟨n11, hs10⟩ : ∃ n, S u8 = some (.inr (0, n)) := hty.1 _ _ _ _ hs0_ hu9
      refine ax_getR (q := 19) hX dc_K_allAskedFit_16 rfl fl_K_27 rfl hs0_ hu9 ?_
      refine ax_iload_n (q := 20) hX dc_K_allAskedFit_19 rfl rfl rfl ?_
      obtain ⟨j12, hj13, h⟩ := ax_bd h
      have hj13 := ax_ix_s hty hs10 hj13
      refine ax_iald (q := 21) hX j12 dc_K_allAskedFit_20 rfl hs10 hj13.1 hj13.2.1 hj13.2.2 ?_
      obtain ⟨r16, hr14, h⟩ := ax_bd h
      refine ax_kV (vs := [.int (ax_b r7), .int (I u8 j12)]) (rest := []) (q := 24) hX dc_K_allAskedFit_21 rfl mt_P_borderFits wl_K_252 wi_P_borderFits ws_P_borderFits hs4 rfl (c_P_borderFits l hty hs4 hr14) rfl (by decide) rfl (Nat.le_of_ble_eq_true rfl) rfl rfl (by decide) (by decide) rfl ?_
      refine ax_if_ne (tgt := 29) (q := 27) hX dc_K_allAskedFit_24 rfl (by decide) (fun z17 => ?_) (fun z17 => ?_)
      · rw [if_neg z17] at h
        refine ax_iinc (v := x1 + 1) (ls' := [some (.ref u0), some (.int (x1 + 1))]) (q := 32) hX dc_K_allAskedFit_29 rfl rfl rfl (by decide) rfl ?_
        refine ax_goto (tgt := 2) hX dc_K_allAskedFit_32 (by decide) ?_
        exact (ih I R u0 (x1 + 1) hty hs0_ rfl rfl h)
      · rw [if_pos z17] at h
        refine ax_iconst (v := 0) (q := 28) hX dc_K_allAskedFit_27 rfl (by decide) ?_
        cases h
        exact ax_iret hX hF dc_K_allAskedFit_28 rfl rfl (by decide) (by decide) ax_eq.mk (by rw [hS0]; exact fun _ _ z => z)
def d_K_allAskedFit (S : ax_S) (I : ax_I) (R : ax_R) (u0 : Nat) : Option (Bool) :=
  d_K_allAskedFit_2 S  5000 I R u0 (0)
set_option maxHeartbeats 1000000 in
theorem c_K_allAskedFit (l : Launch) {S : ax_S} {I : ax_I} {R : ax_R} {L : ax_L} {u0 : Nat} {out : Bool} (hty : ax_typ S R) (hs0 : S u0 = some (.inl 4)) (h : d_K_allAskedFit S I R u0 = some out) : ax_Met l y_K_allAskedFit b_K_allAskedFit 2 (some .boolean) (ax_rm 3 0 0) [.ref u0] S I R L (ax_eq (some (.int (ax_b out))) S I R L) := by
  refine ax_enter (own := "LossFreeTools") (by decide +kernel) rfl (ax_cats rfl) (Nat.le_of_ble_eq_true rfl) (fun X hX hF _ hS0 => ?_)
  show ax_W X 2 0 [some (.ref u0), none] [] S I R L 0 0
  unfold d_K_allAskedFit at h
  refine ax_iconst (v := 0) (q := 1) hX dc_K_allAskedFit_0 rfl (by decide) ?_
  refine ax_istore_n (ls' := [some (.ref u0), some (.int (0))]) (q := 2) hX dc_K_allAskedFit_1 rfl rfl (by decide) rfl ?_
  exact (e_K_allAskedFit_2 hX hF hS0  5000 I R u0 (0) hty hs0 rfl rfl h)
def d_K_makePlaceAt_55 (S : ax_S) (I : ax_I) (R : ax_R) (u0 : Nat) (x2 : Int32) (x4 : Int32) : Option (ax_I) :=
  (R u0 4).bind fun u24 =>
  (d_P_growAlong S I R u24 (x2) (x4)).bind fun I29 =>
  some (I29)
set_option maxHeartbeats 1000000 in
theorem e_K_makePlaceAt_55 {l : Launch} {X : ax_X} {S : ax_S} {L : ax_L} {R0 : ax_R} {out : ax_I} (hX : ax_ok X l "LossFreeTools" b_K_makePlaceAt 5 (ax_rm 4 0 0)) (hF : ax_fin X none 0 0 (ax_of (ax_eq none S out R0 L))) (hS0 : ax_S0 X = S) : ∀ (I : ax_I) (R : ax_R) (u0 : Nat) (x2 : Int32) (x4 : Int32), ax_typ S R → (S u0 = some (.inl 4)) → R = R0 → d_K_makePlaceAt_55 S  I R u0 x2 x4 = some out → ax_W X 5 55 [some (.ref u0), none, some (.int (x2)), none, some (.int (x4))] [] S I R L 0 0 := by
  rintro I R u0 x2 x4 hty hs0_ hR0 h
  subst hR0
  unfold d_K_makePlaceAt_55 at h
  refine ax_aload_n (q := 56) hX dc_K_makePlaceAt_55 rfl rfl rfl ?_
  obtain ⟨u24, hu25, h⟩ := ax_bd h
  have hs26 : S u24 = some (.inl 1) := hty.1 _ _ _ _ hs0_ hu25
  refine ax_getR (q := 59) hX dc_K_makePlaceAt_56 rfl fl_K_36 rfl hs0_ hu25 ?_
  refine ax_iload_n (q := 60) hX dc_K_makePlaceAt_59 rfl rfl rfl ?_
  refine ax_iload (q := 62) hX dc_K_makePlaceAt_60 rfl rfl ?_
  obtain ⟨I29, hr27, h⟩ := ax_bd h
  refine ax_kV (vs := [.int (x2), .int (x4)]) (rest := []) (q := 65) hX dc_K_makePlaceAt_62 rfl mt_P_growAlong wl_K_260 wi_P_growAlong ws_P_growAlong hs26 rfl (c_P_growAlong l hty hs26 hr27) rfl (by decide) rfl (Nat.le_of_ble_eq_true rfl) rfl rfl (by decide) (by decide) rfl ?_
  cases h
  exact ax_vret hX hF dc_K_makePlaceAt_65 (by decide) (by decide) ax_eq.mk (by rw [hS0]; exact fun _ _ z => z)
def d_K_makePlaceAt_33 (S : ax_S) (I : ax_I) (R : ax_R) (u0 : Nat) (x2 : Int32) (x4 : Int32) : Option (ax_I) :=
  (R u0 4).bind fun u30 =>
  (d_P_moveAlong S I R u30 (x2) (x4)).bind fun I35 =>
  d_K_makePlaceAt_55 S  I35 R u0 (x2) (x4)
set_option maxHeartbeats 1000000 in
theorem e_K_makePlaceAt_33 {l : Launch} {X : ax_X} {S : ax_S} {L : ax_L} {R0 : ax_R} {out : ax_I} (hX : ax_ok X l "LossFreeTools" b_K_makePlaceAt 5 (ax_rm 4 0 0)) (hF : ax_fin X none 0 0 (ax_of (ax_eq none S out R0 L))) (hS0 : ax_S0 X = S) : ∀ (I : ax_I) (R : ax_R) (u0 : Nat) (x2 : Int32) (x4 : Int32), ax_typ S R → (S u0 = some (.inl 4)) → R = R0 → d_K_makePlaceAt_33 S  I R u0 x2 x4 = some out → ax_W X 5 33 [some (.ref u0), none, some (.int (x2)), none, some (.int (x4))] [] S I R L 0 0 := by
  rintro I R u0 x2 x4 hty hs0_ hR0 h
  subst hR0
  unfold d_K_makePlaceAt_33 at h
  refine ax_aload_n (q := 34) hX dc_K_makePlaceAt_33 rfl rfl rfl ?_
  obtain ⟨u30, hu31, h⟩ := ax_bd h
  have hs32 : S u30 = some (.inl 1) := hty.1 _ _ _ _ hs0_ hu31
  refine ax_getR (q := 37) hX dc_K_makePlaceAt_34 rfl fl_K_36 rfl hs0_ hu31 ?_
  refine ax_iload_n (q := 38) hX dc_K_makePlaceAt_37 rfl rfl rfl ?_
  refine ax_iload (q := 40) hX dc_K_makePlaceAt_38 rfl rfl ?_
  obtain ⟨I35, hr33, h⟩ := ax_bd h
  refine ax_kV (vs := [.int (x2), .int (x4)]) (rest := []) (q := 43) hX dc_K_makePlaceAt_40 rfl mt_P_moveAlong wl_K_256 wi_P_moveAlong ws_P_moveAlong hs32 rfl (c_P_moveAlong l hty hs32 hr33) rfl (by decide) rfl (Nat.le_of_ble_eq_true rfl) rfl rfl (by decide) (by decide) rfl ?_
  refine ax_goto (tgt := 55) hX dc_K_makePlaceAt_43 (by decide) ?_
  exact (e_K_makePlaceAt_55 hX hF hS0  I35 R u0 (x2) (x4) hty hs0_ rfl h)
def d_K_makePlaceAt (S : ax_S) (I : ax_I) (R : ax_R) (u0 : Nat) (x1 : Int32) : Option (ax_I) :=
  (d_K_isUpright S I R (x1)).bind fun r3 =>
  (R u0 4).bind fun u4 =>
  (d_P_sizeAlong S I R u4 (ax_b r3)).bind fun r9 =>
  (R u0 5).bind fun u10 =>
  (d_P_sizeAlong S I R u10 (ax_b r3)).bind fun r15 =>
  if x1 = 0 then
    d_K_makePlaceAt_33 S  I R u0 (ax_b r3) (r15)
  else
    if x1 = 1 then
      d_K_makePlaceAt_33 S  I R u0 (ax_b r3) (r15)
    else
      (R u0 5).bind fun u18 =>
      (d_P_moveAlong S I R u18 (ax_b r3) (r9)).bind fun I23 =>
      d_K_makePlaceAt_55 S  I23 R u0 (ax_b r3) (r15)
set_option maxHeartbeats 1000000 in
theorem c_K_makePlaceAt (l : Launch) {S : ax_S} {I : ax_I} {R : ax_R} {L : ax_L} {u0 : Nat} {x1 : Int32} {out : ax_I} (hty : ax_typ S R) (hs0 : S u0 = some (.inl 4)) (h : d_K_makePlaceAt S I R u0 x1 = some out) : ax_Met l y_K_makePlaceAt b_K_makePlaceAt 5 none (ax_rm 4 0 0) [.ref u0, .int x1] S I R L (ax_eq none S out R L) := by
  refine ax_enter (own := "LossFreeTools") (by decide +kernel) rfl (ax_cats rfl) (Nat.le_of_ble_eq_true rfl) (fun X hX hF _ hS0 => ?_)
  show ax_W X 5 0 [some (.ref u0), some (.int (x1)), none, none, none] [] S I R L 0 0
  unfold d_K_makePlaceAt at h
  refine ax_iload_n (q := 1) hX dc_K_makePlaceAt_0 rfl rfl rfl ?_
  obtain ⟨r3, hr1, h⟩ := ax_bd h
  refine ax_kS (vs := [.int (x1)]) (rest := []) (q := 4) hX dc_K_makePlaceAt_1 rfl mt_K_isUpright wl_K_140 wt_K_isUpright (c_K_isUpright l hty  hr1) rfl (by decide) rfl (Nat.le_of_ble_eq_true rfl) rfl rfl (by decide) (by decide) rfl ?_
  refine ax_istore_n (ls' := [some (.ref u0), some (.int (x1)), some (.int (ax_b r3)), none, none]) (q := 5) hX dc_K_makePlaceAt_4 rfl rfl (by decide) rfl ?_
  refine ax_aload_n (q := 6) hX dc_K_makePlaceAt_5 rfl rfl rfl ?_
  obtain ⟨u4, hu5, h⟩ := ax_bd h
  have hs6 : S u4 = some (.inl 1) := hty.1 _ _ _ _ hs0 hu5
  refine ax_getR (q := 9) hX dc_K_makePlaceAt_6 rfl fl_K_36 rfl hs0 hu5 ?_
  refine ax_iload_n (q := 10) hX dc_K_makePlaceAt_9 rfl rfl rfl ?_
  obtain ⟨r9, hr7, h⟩ := ax_bd h
  refine ax_kV (vs := [.int (ax_b r3)]) (rest := []) (q := 13) hX dc_K_makePlaceAt_10 rfl mt_P_sizeAlong wl_K_157 wi_P_sizeAlong ws_P_sizeAlong hs6 rfl (c_P_sizeAlong l hty hs6 hr7) rfl (by decide) rfl (Nat.le_of_ble_eq_true rfl) rfl rfl (by decide) (by decide) rfl ?_
  refine ax_istore_n (ls' := [some (.ref u0), some (.int (x1)), some (.int (ax_b r3)), some (.int (r9)), none]) (q := 14) hX dc_K_makePlaceAt_13 rfl rfl (by decide) rfl ?_
  refine ax_aload_n (q := 15) hX dc_K_makePlaceAt_14 rfl rfl rfl ?_
  obtain ⟨u10, hu11, h⟩ := ax_bd h
  have hs12 : S u10 = some (.inl 1) := hty.1 _ _ _ _ hs0 hu11
  refine ax_getR (q := 18) hX dc_K_makePlaceAt_15 rfl fl_K_40 rfl hs0 hu11 ?_
  refine ax_iload_n (q := 19) hX dc_K_makePlaceAt_18 rfl rfl rfl ?_
  obtain ⟨r15, hr13, h⟩ := ax_bd h
  refine ax_kV (vs := [.int (ax_b r3)]) (rest := []) (q := 22) hX dc_K_makePlaceAt_19 rfl mt_P_sizeAlong wl_K_157 wi_P_sizeAlong ws_P_sizeAlong hs12 rfl (c_P_sizeAlong l hty hs12 hr13) rfl (by decide) rfl (Nat.le_of_ble_eq_true rfl) rfl rfl (by decide) (by decide) rfl ?_
  refine ax_istore (ls' := [some (.ref u0), some (.int (x1)), some (.int (ax_b r3)), some (.int (r9)), some (.int (r15))]) (q := 24) hX dc_K_makePlaceAt_22 rfl (by decide) rfl ?_
  refine ax_iload_n (q := 25) hX dc_K_makePlaceAt_24 rfl rfl rfl ?_
  refine ax_if_eq (tgt := 33) (q := 28) hX dc_K_makePlaceAt_25 rfl (by decide) (fun z16 => ?_) (fun z16 => ?_)
  · rw [if_pos z16] at h
    exact ax_weak (ls' := [some (.ref u0), none, some (.int (ax_b r3)), none, some (.int (r15))]) (ax_fewP_s _ _ (by repeat (first | exact trivial | (refine And.intro rfl ?_)))) (e_K_makePlaceAt_33 hX hF hS0  I R u0 (ax_b r3) (r15) hty hs0 rfl h)
  · rw [if_neg z16] at h
    refine ax_iload_n (q := 29) hX dc_K_makePlaceAt_28 rfl rfl rfl ?_
    refine ax_iconst (v := 1) (q := 30) hX dc_K_makePlaceAt_29 rfl (by decide) ?_
    refine ax_icmp_ne (tgt := 46) (q := 33) hX dc_K_makePlaceAt_30 rfl (by decide) (fun z17 => ?_) (fun z17 => ?_)
    · rw [if_neg z17] at h
      refine ax_aload_n (q := 47) hX dc_K_makePlaceAt_46 rfl rfl rfl ?_
      obtain ⟨u18, hu19, h⟩ := ax_bd h
      have hs20 : S u18 = some (.inl 1) := hty.1 _ _ _ _ hs0 hu19
      refine ax_getR (q := 50) hX dc_K_makePlaceAt_47 rfl fl_K_40 rfl hs0 hu19 ?_
      refine ax_iload_n (q := 51) hX dc_K_makePlaceAt_50 rfl rfl rfl ?_
      refine ax_iload_n (q := 52) hX dc_K_makePlaceAt_51 rfl rfl rfl ?_
      obtain ⟨I23, hr21, h⟩ := ax_bd h
      refine ax_kV (vs := [.int (ax_b r3), .int (r9)]) (rest := []) (q := 55) hX dc_K_makePlaceAt_52 rfl mt_P_moveAlong wl_K_256 wi_P_moveAlong ws_P_moveAlong hs20 rfl (c_P_moveAlong l hty hs20 hr21) rfl (by decide) rfl (Nat.le_of_ble_eq_true rfl) rfl rfl (by decide) (by decide) rfl ?_
      exact ax_weak (ls' := [some (.ref u0), none, some (.int (ax_b r3)), none, some (.int (r15))]) (ax_fewP_s _ _ (by repeat (first | exact trivial | (refine And.intro rfl ?_)))) (e_K_makePlaceAt_55 hX hF hS0  I23 R u0 (ax_b r3) (r15) hty hs0 rfl h)
    · rw [if_pos z17] at h
      exact ax_weak (ls' := [some (.ref u0), none, some (.int (ax_b r3)), none, some (.int (r15))]) (ax_fewP_s _ _ (by repeat (first | exact trivial | (refine And.intro rfl ?_)))) (e_K_makePlaceAt_33 hX hF hS0  I R u0 (ax_b r3) (r15) hty hs0 rfl h)
def d_K_write_20 (S : ax_S) : Nat → ax_I → ax_R → Nat → Int32 → Option (Int32 × ax_I)
  | 0, _, _, _, _ => none
  | n + 1, I, R, u0, x1 =>
    (R u0 4).bind fun u16 =>
    if (I u16 2) ≤ x1 then
      (R u0 2).bind fun u20 =>
      some (I u20 1, I)
    else
      (R u0 4).bind fun u23 =>
      (R u23 0).bind fun u26 =>
      (ax_ix S u26 (x1)).bind fun j30 =>
      (R u26 j30).bind fun u32 =>
      (R u0 2).bind fun u35 =>
      (R u0 4).bind fun u38 =>
      (d_P_placeOfPart S I R u38 u32).bind fun r43 =>
      (d_S_goTo S I R u35 (r43)).bind fun I46 =>
      (R u0 2).bind fun u47 =>
      (d_T_putPart S I46 R u32 u47).bind fun I52 =>
      d_K_write_20 S  n I52 R u0 (x1 + 1)
set_option maxHeartbeats 1000000 in
theorem e_K_write_20 {l : Launch} {X : ax_X} {S : ax_S} {L : ax_L} {R0 : ax_R} {out : Int32 × ax_I} (hX : ax_ok X l "LossFreeTools" b_K_write 3 (ax_rm 4 0 0)) (hF : ax_fin X (some .int) 0 0 (ax_of (ax_eq (some (.int out.1)) S out.2 R0 L))) (hS0 : ax_S0 X = S) : ∀ (n : Nat), ∀ (I : ax_I) (R : ax_R) (u0 : Nat) (x1 : Int32), ax_typ S R → (S u0 = some (.inl 4)) → R = R0 → d_K_write_20 S  n I R u0 x1 = some out → ax_W X 3 20 [some (.ref u0), some (.int (x1)), none] [] S I R L 0 0 := by
  intro n
  induction n with
  | zero =>
    rintro I R u0 x1 hty hs0_ hR0 h
    cases h
  | succ n ih =>
    rintro I R u0 x1 hty hs0_ hR0 h
    subst hR0
    unfold d_K_write_20 at h
    refine ax_iload_n (q := 21) hX dc_K_write_20 rfl rfl rfl ?_
    refine ax_aload_n (q := 22) hX dc_K_write_21 rfl rfl rfl ?_
    obtain ⟨u16, hu17, h⟩ := ax_bd h
    have hs18 : S u16 = some (.inl 1) := hty.1 _ _ _ _ hs0_ hu17
    refine ax_getR (q := 25) hX dc_K_write_22 rfl fl_K_36 rfl hs0_ hu17 ?_
    refine ax_getI (q := 28) hX dc_K_write_25 rfl fl_K_69 rfl hs18 ?_
    refine ax_icmp_ge (tgt := 70) (q := 31) hX dc_K_write_28 rfl (by decide) (fun z19 => ?_) (fun z19 => ?_)
    · rw [if_pos z19] at h
      refine ax_aload_n (q := 71) hX dc_K_write_70 rfl rfl rfl ?_
      obtain ⟨u20, hu21, h⟩ := ax_bd h
      have hs22 : S u20 = some (.inl 2) := hty.1 _ _ _ _ hs0_ hu21
      refine ax_getR (q := 74) hX dc_K_write_71 rfl fl_K_23 rfl hs0_ hu21 ?_
      refine ax_getI (q := 77) hX dc_K_write_74 rfl fl_K_239 rfl hs22 ?_
      cases h
      exact ax_iret hX hF dc_K_write_77 rfl rfl (by decide) (by decide) ax_eq.mk (by rw [hS0]; exact fun _ _ z => z)
    · rw [if_neg z19] at h
      refine ax_aload_n (q := 32) hX dc_K_write_31 rfl rfl rfl ?_
      obtain ⟨u23, hu24, h⟩ := ax_bd h
      have hs25 : S u23 = some (.inl 1) := hty.1 _ _ _ _ hs0_ hu24
      refine ax_getR (q := 35) hX dc_K_write_32 rfl fl_K_36 rfl hs0_ hu24 ?_
      obtain ⟨u26, hu27, h⟩ := ax_bd h
      obtain ⟨n29, hs28⟩ : ∃ n, S u26 = some (.inr (2, n)) := hty.1 _ _ _ _ hs25 hu27
      refine ax_getR (q := 38) hX dc_K_write_35 rfl fl_K_95 rfl hs25 hu27 ?_
      refine ax_iload_n (q := 39) hX dc_K_write_38 rfl rfl rfl ?_
      obtain ⟨j30, hj31, h⟩ := ax_bd h
      have hj31 := ax_ix_s hty hs28 hj31
      obtain ⟨u32, hu33, h⟩ := ax_bd h
      have hs34 : S u32 = some (.inl 3) := hty.2.1 _ _ _ _ hs28 hu33
      refine ax_aald (q := 40) hX j30 dc_K_write_39 rfl hs28 rfl rfl hj31.1 hj31.2.1 hj31.2.2 hu33 ?_
      refine ax_astore_n (ls' := [some (.ref u0), some (.int (x1)), some (.ref u32)]) (q := 41) hX dc_K_write_40 rfl rfl (by decide) rfl ?_
      refine ax_aload_n (q := 42) hX dc_K_write_41 rfl rfl rfl ?_
      obtain ⟨u35, hu36, h⟩ := ax_bd h
      have hs37 : S u35 = some (.inl 2) := hty.1 _ _ _ _ hs0_ hu36
      refine ax_getR (q := 45) hX dc_K_write_42 rfl fl_K_23 rfl hs0_ hu36 ?_
      refine ax_aload_n (q := 46) hX dc_K_write_45 rfl rfl rfl ?_
      obtain ⟨u38, hu39, h⟩ := ax_bd h
      have hs40 : S u38 = some (.inl 1) := hty.1 _ _ _ _ hs0_ hu39
      refine ax_getR (q := 49) hX dc_K_write_46 rfl fl_K_36 rfl hs0_ hu39 ?_
      refine ax_aload_n (q := 50) hX dc_K_write_49 rfl rfl rfl ?_
      obtain ⟨r43, hr41, h⟩ := ax_bd h
      refine ax_kV (vs := [.ref u32]) (rest := [.ref u35]) (q := 53) hX dc_K_write_50 rfl mt_P_placeOfPart wl_K_229 wi_P_placeOfPart ws_P_placeOfPart hs40 rfl (c_P_placeOfPart l hty hs40 hs34 hr41) rfl (by decide) rfl (Nat.le_of_ble_eq_true rfl) rfl rfl (by decide) (by decide) rfl ?_
      obtain ⟨I46, hr44, h⟩ := ax_bd h
      refine ax_kV (vs := [.int (r43)]) (rest := []) (q := 56) hX dc_K_write_53 rfl mt_S_goTo wl_K_233 wi_S_goTo ws_S_goTo hs37 rfl (c_S_goTo l hty hs37 hr44) rfl (by decide) rfl (Nat.le_of_ble_eq_true rfl) rfl rfl (by decide) (by decide) rfl ?_
      refine ax_aload_n (q := 57) hX dc_K_write_56 rfl rfl rfl ?_
      refine ax_aload_n (q := 58) hX dc_K_write_57 rfl rfl rfl ?_
      obtain ⟨u47, hu48, h⟩ := ax_bd h
      have hs49 : S u47 = some (.inl 2) := hty.1 _ _ _ _ hs0_ hu48
      refine ax_getR (q := 61) hX dc_K_write_58 rfl fl_K_23 rfl hs0_ hu48 ?_
      obtain ⟨I52, hr50, h⟩ := ax_bd h
      refine ax_kV (vs := [.ref u47]) (rest := []) (q := 64) hX dc_K_write_61 rfl mt_T_putPart wl_K_236 wi_T_putPart ws_T_putPart hs34 rfl (c_T_putPart l hty hs34 hs49 hr50) rfl (by decide) rfl (Nat.le_of_ble_eq_true rfl) rfl rfl (by decide) (by decide) rfl ?_
      refine ax_iinc (v := x1 + 1) (ls' := [some (.ref u0), some (.int (x1 + 1)), some (.ref u32)]) (q := 67) hX dc_K_write_64 rfl rfl rfl (by decide) rfl ?_
      refine ax_goto (tgt := 20) hX dc_K_write_67 (by decide) ?_
      exact ax_weak (ls' := [some (.ref u0), some (.int (x1 + 1)), none]) (ax_fewP_s _ _ (by repeat (first | exact trivial | (refine And.intro rfl ?_)))) (ih I52 R u0 (x1 + 1) hty hs0_ rfl h)
def d_K_write (S : ax_S) (I : ax_I) (R : ax_R) (u0 : Nat) : Option (Int32 × ax_I) :=
  (R u0 2).bind fun u1 =>
  (d_S_empty S I R u1).bind fun I6 =>
  (R u0 4).bind fun u7 =>
  (R u0 2).bind fun u10 =>
  (d_P_putHead S I6 R u7 u10).bind fun I15 =>
  d_K_write_20 S  5000 I15 R u0 (0)
set_option maxHeartbeats 1000000 in
theorem c_K_write (l : Launch) {S : ax_S} {I : ax_I} {R : ax_R} {L : ax_L} {u0 : Nat} {out : Int32 × ax_I} (hty : ax_typ S R) (hs0 : S u0 = some (.inl 4)) (h : d_K_write S I R u0 = some out) : ax_Met l y_K_write b_K_write 3 (some .int) (ax_rm 4 0 0) [.ref u0] S I R L (ax_eq (some (.int out.1)) S out.2 R L) := by
  refine ax_enter (own := "LossFreeTools") (by decide +kernel) rfl (ax_cats rfl) (Nat.le_of_ble_eq_true rfl) (fun X hX hF _ hS0 => ?_)
  show ax_W X 3 0 [some (.ref u0), none, none] [] S I R L 0 0
  unfold d_K_write at h
  refine ax_aload_n (q := 1) hX dc_K_write_0 rfl rfl rfl ?_
  obtain ⟨u1, hu2, h⟩ := ax_bd h
  have hs3 : S u1 = some (.inl 2) := hty.1 _ _ _ _ hs0 hu2
  refine ax_getR (q := 4) hX dc_K_write_1 rfl fl_K_23 rfl hs0 hu2 ?_
  obtain ⟨I6, hr4, h⟩ := ax_bd h
  refine ax_kV (vs := []) (rest := []) (q := 7) hX dc_K_write_4 rfl mt_S_empty wl_K_222 wi_S_empty ws_S_empty hs3 rfl (c_S_empty l hty hs3 hr4) rfl (by decide) rfl (Nat.le_of_ble_eq_true rfl) rfl rfl (by decide) (by decide) rfl ?_
  refine ax_aload_n (q := 8) hX dc_K_write_7 rfl rfl rfl ?_
  obtain ⟨u7, hu8, h⟩ := ax_bd h
  have hs9 : S u7 = some (.inl 1) := hty.1 _ _ _ _ hs0 hu8
  refine ax_getR (q := 11) hX dc_K_write_8 rfl fl_K_36 rfl hs0 hu8 ?_
  refine ax_aload_n (q := 12) hX dc_K_write_11 rfl rfl rfl ?_
  obtain ⟨u10, hu11, h⟩ := ax_bd h
  have hs12 : S u10 = some (.inl 2) := hty.1 _ _ _ _ hs0 hu11
  refine ax_getR (q := 15) hX dc_K_write_12 rfl fl_K_23 rfl hs0 hu11 ?_
  obtain ⟨I15, hr13, h⟩ := ax_bd h
  refine ax_kV (vs := [.ref u10]) (rest := []) (q := 18) hX dc_K_write_15 rfl mt_P_putHead wl_K_225 wi_P_putHead ws_P_putHead hs9 rfl (c_P_putHead l hty hs9 hs12 hr13) rfl (by decide) rfl (Nat.le_of_ble_eq_true rfl) rfl rfl (by decide) (by decide) rfl ?_
  refine ax_iconst (v := 0) (q := 19) hX dc_K_write_18 rfl (by decide) ?_
  refine ax_istore_n (ls' := [some (.ref u0), some (.int (0)), none]) (q := 20) hX dc_K_write_19 rfl rfl (by decide) rfl ?_
  exact (e_K_write_20 hX hF hS0  5000 I15 R u0 (0) hty hs0 rfl h)
def d_K_tile_28 (S : ax_S) (I : ax_I) (R : ax_R) : Option ((Int32 ⊕ String) × ax_I) :=
  some (.inr "java/lang/IllegalArgumentException", I)
set_option maxHeartbeats 1000000 in
theorem e_K_tile_28 {l : Launch} {X : ax_X} {S : ax_S} {L : ax_L} {R0 : ax_R} {out : (Int32 ⊕ String) × ax_I} (hX : ax_ok X l "LossFreeTools" b_K_tile 5 (ax_rm 6 1 6)) (hF : ax_fin X (some .int) 1 6 (ax_eqX out.1 S out.2 R0 L)) (hS0 : ax_S0 X = S) (hno : ax_noh X) (hl0 : l.stackTraces = false) : ∀ (I : ax_I) (R : ax_R), ax_typ S R → R = R0 → d_K_tile_28 S  I R = some out → ax_W X 5 28 [none, none, none, none, none] [] S I R L 0 0 := by
  rintro I R hty hR0 h
  subst hR0
  unfold d_K_tile_28 at h
  cases h
  exact ax_throw hX hF hno hl0 th_K_56_58 dc_K_tile_28 dc_K_tile_31 dc_K_tile_32 dc_K_tile_34 dc_K_tile_37 (by decide) (by decide) (by decide) (by decide) (by decide) (by decide) ⟨rfl, rfl, rfl, rfl, rfl⟩ (by rw [hS0]; exact fun _ _ z => z)
def d_K_tile (S : ax_S) (I : ax_I) (R : ax_R) (u0 : Nat) (x1 : Int32) (x2 : Int32) (x3 : Int32) (x4 : Int32) : Option ((Int32 ⊕ String) × ax_I) :=
  if 64 < x3 then
    d_K_tile_28 S  I R 
  else
    if 64 < x4 then
      d_K_tile_28 S  I R 
    else
      (R u0 4).bind fun u3 =>
      (d_P_holdsRectangle S I R u3 (x1) (x2) (x3) (x4)).bind fun r8 =>
      if (ax_b r8) = 0 then
        d_K_tile_28 S  I R 
      else
        (R u0 4).bind fun u10 =>
        (d_P_overlapsTile S I R u10 (x1) (x2) (x3) (x4)).bind fun r15 =>
        if (ax_b r15) = 0 then
          (R u0 4).bind fun u17 =>
          if (I u17 2) < 40 then
            (some (ax_up I u0 7 (0))).bind fun I21 =>
            (R u0 4).bind fun u23 =>
            (d_P_addTile S I21 R u23 (x1) (x2) (x3) (x4)).bind fun o30 =>
            some (.inl (o30.1), o30.2)
          else
            some (.inr "java/lang/UnsupportedOperationException", I)
        else
          some (.inr "java/lang/IllegalStateException", I)
set_option maxHeartbeats 1000000 in
theorem c_K_tile (l : Launch) (hl0 : l.stackTraces = false) {S : ax_S} {I : ax_I} {R : ax_R} {L : ax_L} {u0 : Nat} {x1 : Int32} {x2 : Int32} {x3 : Int32} {x4 : Int32} {out : (Int32 ⊕ String) × ax_I} (hty : ax_typ S R) (hs0 : S u0 = some (.inl 4)) (h : d_K_tile S I R u0 x1 x2 x3 x4 = some out) : ax_MetX l y_K_tile b_K_tile 5 (some .int) (ax_rm 6 1 6) [.ref u0, .int x1, .int x2, .int x3, .int x4] S I R L (ax_eqX out.1 S out.2 R L) := by
  refine ax_enterX (own := "LossFreeTools") (by decide +kernel) rfl (ax_cats rfl) (Nat.le_of_ble_eq_true rfl) (fun X hX hF hno hS0 => ?_)
  show ax_W X 5 0 [some (.ref u0), some (.int (x1)), some (.int (x2)), some (.int (x3)), some (.int (x4))] [] S I R L 0 0
  unfold d_K_tile at h
  refine ax_iload_n (q := 1) hX dc_K_tile_0 rfl rfl rfl ?_
  refine ax_bipush (v := 64) (q := 3) hX dc_K_tile_1 rfl (by decide) ?_
  refine ax_icmp_gt (tgt := 28) (q := 6) hX dc_K_tile_3 rfl (by decide) (fun z1 => ?_) (fun z1 => ?_)
  · rw [if_pos z1] at h
    exact ax_weak (ls' := [none, none, none, none, none]) (ax_fewP_s _ _ (by repeat (first | exact trivial | (refine And.intro rfl ?_)))) (e_K_tile_28 hX hF hS0 hno hl0  I R  hty  rfl h)
  · rw [if_neg z1] at h
    refine ax_iload (q := 8) hX dc_K_tile_6 rfl rfl ?_
    refine ax_bipush (v := 64) (q := 10) hX dc_K_tile_8 rfl (by decide) ?_
    refine ax_icmp_gt (tgt := 28) (q := 13) hX dc_K_tile_10 rfl (by decide) (fun z2 => ?_) (fun z2 => ?_)
    · rw [if_pos z2] at h
      exact ax_weak (ls' := [none, none, none, none, none]) (ax_fewP_s _ _ (by repeat (first | exact trivial | (refine And.intro rfl ?_)))) (e_K_tile_28 hX hF hS0 hno hl0  I R  hty  rfl h)
    · rw [if_neg z2] at h
      refine ax_aload_n (q := 14) hX dc_K_tile_13 rfl rfl rfl ?_
      obtain ⟨u3, hu4, h⟩ := ax_bd h
      have hs5 : S u3 = some (.inl 1) := hty.1 _ _ _ _ hs0 hu4
      refine ax_getR (q := 17) hX dc_K_tile_14 rfl fl_K_36 rfl hs0 hu4 ?_
      refine ax_iload_n (q := 18) hX dc_K_tile_17 rfl rfl rfl ?_
      refine ax_iload_n (q := 19) hX dc_K_tile_18 rfl rfl rfl ?_
      refine ax_iload_n (q := 20) hX dc_K_tile_19 rfl rfl rfl ?_
      refine ax_iload (q := 22) hX dc_K_tile_20 rfl rfl ?_
      obtain ⟨r8, hr6, h⟩ := ax_bd h
      refine ax_kV (vs := [.int (x1), .int (x2), .int (x3), .int (x4)]) (rest := []) (q := 25) hX dc_K_tile_22 rfl mt_P_holdsRectangle wl_K_50 wi_P_holdsRectangle ws_P_holdsRectangle hs5 rfl (c_P_holdsRectangle l hty hs5 hr6) rfl (by decide) rfl (Nat.le_of_ble_eq_true rfl) rfl rfl (by decide) (by decide) rfl ?_
      refine ax_if_ne (tgt := 38) (q := 28) hX dc_K_tile_25 rfl (by decide) (fun z9 => ?_) (fun z9 => ?_)
      · rw [if_neg z9] at h
        refine ax_aload_n (q := 39) hX dc_K_tile_38 rfl rfl rfl ?_
        obtain ⟨u10, hu11, h⟩ := ax_bd h
        have hs12 : S u10 = some (.inl 1) := hty.1 _ _ _ _ hs0 hu11
        refine ax_getR (q := 42) hX dc_K_tile_39 rfl fl_K_36 rfl hs0 hu11 ?_
        refine ax_iload_n (q := 43) hX dc_K_tile_42 rfl rfl rfl ?_
        refine ax_iload_n (q := 44) hX dc_K_tile_43 rfl rfl rfl ?_
        refine ax_iload_n (q := 45) hX dc_K_tile_44 rfl rfl rfl ?_
        refine ax_iload (q := 47) hX dc_K_tile_45 rfl rfl ?_
        obtain ⟨r15, hr13, h⟩ := ax_bd h
        refine ax_kV (vs := [.int (x1), .int (x2), .int (x3), .int (x4)]) (rest := []) (q := 50) hX dc_K_tile_47 rfl mt_P_overlapsTile wl_K_61 wi_P_overlapsTile ws_P_overlapsTile hs12 rfl (c_P_overlapsTile l hty hs12 hr13) rfl (by decide) rfl (Nat.le_of_ble_eq_true rfl) rfl rfl (by decide) (by decide) rfl ?_
        refine ax_if_eq (tgt := 63) (q := 53) hX dc_K_tile_50 rfl (by decide) (fun z16 => ?_) (fun z16 => ?_)
        · rw [if_pos z16] at h
          refine ax_aload_n (q := 64) hX dc_K_tile_63 rfl rfl rfl ?_
          obtain ⟨u17, hu18, h⟩ := ax_bd h
          have hs19 : S u17 = some (.inl 1) := hty.1 _ _ _ _ hs0 hu18
          refine ax_getR (q := 67) hX dc_K_tile_64 rfl fl_K_36 rfl hs0 hu18 ?_
          refine ax_getI (q := 70) hX dc_K_tile_67 rfl fl_K_69 rfl hs19 ?_
          refine ax_bipush (v := 40) (q := 72) hX dc_K_tile_70 rfl (by decide) ?_
          refine ax_icmp_lt (tgt := 85) (q := 75) hX dc_K_tile_72 rfl (by decide) (fun z20 => ?_) (fun z20 => ?_)
          · rw [if_pos z20] at h
            refine ax_aload_n (q := 86) hX dc_K_tile_85 rfl rfl rfl ?_
            refine ax_iconst (v := 0) (q := 87) hX dc_K_tile_86 rfl (by decide) ?_
            obtain ⟨I21, e22, h⟩ := ax_bs h
            refine ax_putI (q := 90) hX dc_K_tile_87 rfl fl_K_46 rfl hs0 (fun z => by cases z) rfl rfl e22 ?_
            refine ax_aload_n (q := 91) hX dc_K_tile_90 rfl rfl rfl ?_
            obtain ⟨u23, hu24, h⟩ := ax_bd h
            have hs25 : S u23 = some (.inl 1) := hty.1 _ _ _ _ hs0 hu24
            refine ax_getR (q := 94) hX dc_K_tile_91 rfl fl_K_36 rfl hs0 hu24 ?_
            refine ax_iload_n (q := 95) hX dc_K_tile_94 rfl rfl rfl ?_
            refine ax_iload_n (q := 96) hX dc_K_tile_95 rfl rfl rfl ?_
            refine ax_iload_n (q := 97) hX dc_K_tile_96 rfl rfl rfl ?_
            refine ax_iload (q := 99) hX dc_K_tile_97 rfl rfl ?_
            obtain ⟨o30, hr26, h⟩ := ax_bd h
            refine ax_kV (vs := [.int (x1), .int (x2), .int (x3), .int (x4)]) (rest := []) (q := 102) hX dc_K_tile_99 rfl mt_P_addTile wl_K_77 wi_P_addTile ws_P_addTile hs25 rfl (c_P_addTile l hty hs25 hr26) rfl (by decide) rfl (Nat.le_of_ble_eq_true rfl) rfl rfl (by decide) (by decide) rfl ?_
            cases h
            exact ax_iret hX hF dc_K_tile_102 rfl rfl (by decide) (by decide) ⟨rfl, rfl, rfl, rfl, rfl⟩ (by rw [hS0]; exact fun _ _ z => z)
          · rw [if_neg z20] at h
            cases h
            exact ax_throw hX hF hno hl0 th_K_74_76 dc_K_tile_75 dc_K_tile_78 dc_K_tile_79 dc_K_tile_81 dc_K_tile_84 (by decide) (by decide) (by decide) (by decide) (by decide) (by decide) ⟨rfl, rfl, rfl, rfl, rfl⟩ (by rw [hS0]; exact fun _ _ z => z)
        · rw [if_neg z16] at h
          cases h
          exact ax_throw hX hF hno hl0 th_K_66_68 dc_K_tile_53 dc_K_tile_56 dc_K_tile_57 dc_K_tile_59 dc_K_tile_62 (by decide) (by decide) (by decide) (by decide) (by decide) (by decide) ⟨rfl, rfl, rfl, rfl, rfl⟩ (by rw [hS0]; exact fun _ _ z => z)
      · rw [if_pos z9] at h
        exact ax_weak (ls' := [none, none, none, none, none]) (ax_fewP_s _ _ (by repeat (first | exact trivial | (refine And.intro rfl ?_)))) (e_K_tile_28 hX hF hS0 hno hl0  I R  hty  rfl h)
def d_K_byteOf (S : ax_S) (I : ax_I) (R : ax_R) (u0 : Nat) (x1 : Int32) (x2 : Int32) : Option ((Int32 ⊕ String) × ax_I) :=
  (R u0 4).bind fun u1 =>
  (d_P_hasTile S I R u1 (x1)).bind fun r6 =>
  if (ax_b r6) = 0 then
    some (.inr "java/lang/IndexOutOfBoundsException", I)
  else
    (d_K_isByte S I R (x2)).bind fun r10 =>
    if (ax_b r10) = 0 then
      some (.inr "java/lang/IllegalArgumentException", I)
    else
      (R u0 4).bind fun u12 =>
      (R u12 0).bind fun u15 =>
      (ax_ix S u15 (x1)).bind fun j19 =>
      (R u15 j19).bind fun u21 =>
      if (I u21 1) < 12 then
        (d_T_addByte S I R u21 (x2)).bind fun o29 =>
        some (.inl (o29.1), o29.2)
      else
        some (.inr "java/lang/UnsupportedOperationException", I)
set_option maxHeartbeats 1000000 in
theorem c_K_byteOf (l : Launch) (hl0 : l.stackTraces = false) {S : ax_S} {I : ax_I} {R : ax_R} {L : ax_L} {u0 : Nat} {x1 : Int32} {x2 : Int32} {out : (Int32 ⊕ String) × ax_I} (hty : ax_typ S R) (hs0 : S u0 = some (.inl 4)) (h : d_K_byteOf S I R u0 x1 x2 = some out) : ax_MetX l y_K_byteOf b_K_byteOf 4 (some .int) (ax_rm 6 1 6) [.ref u0, .int x1, .int x2] S I R L (ax_eqX out.1 S out.2 R L) := by
  refine ax_enterX (own := "LossFreeTools") (by decide +kernel) rfl (ax_cats rfl) (Nat.le_of_ble_eq_true rfl) (fun X hX hF hno hS0 => ?_)
  show ax_W X 4 0 [some (.ref u0), some (.int (x1)), some (.int (x2)), none] [] S I R L 0 0
  unfold d_K_byteOf at h
  refine ax_aload_n (q := 1) hX dc_K_byteOf_0 rfl rfl rfl ?_
  obtain ⟨u1, hu2, h⟩ := ax_bd h
  have hs3 : S u1 = some (.inl 1) := hty.1 _ _ _ _ hs0 hu2
  refine ax_getR (q := 4) hX dc_K_byteOf_1 rfl fl_K_36 rfl hs0 hu2 ?_
  refine ax_iload_n (q := 5) hX dc_K_byteOf_4 rfl rfl rfl ?_
  obtain ⟨r6, hr4, h⟩ := ax_bd h
  refine ax_kV (vs := [.int (x1)]) (rest := []) (q := 8) hX dc_K_byteOf_5 rfl mt_P_hasTile wl_K_81 wi_P_hasTile ws_P_hasTile hs3 rfl (c_P_hasTile l hty hs3 hr4) rfl (by decide) rfl (Nat.le_of_ble_eq_true rfl) rfl rfl (by decide) (by decide) rfl ?_
  refine ax_if_ne (tgt := 21) (q := 11) hX dc_K_byteOf_8 rfl (by decide) (fun z7 => ?_) (fun z7 => ?_)
  · rw [if_neg z7] at h
    refine ax_iload_n (q := 22) hX dc_K_byteOf_21 rfl rfl rfl ?_
    obtain ⟨r10, hr8, h⟩ := ax_bd h
    refine ax_kS (vs := [.int (x2)]) (rest := []) (q := 25) hX dc_K_byteOf_22 rfl mt_K_isByte wl_K_90 wt_K_isByte (c_K_isByte l hty  hr8) rfl (by decide) rfl (Nat.le_of_ble_eq_true rfl) rfl rfl (by decide) (by decide) rfl ?_
    refine ax_if_ne (tgt := 38) (q := 28) hX dc_K_byteOf_25 rfl (by decide) (fun z11 => ?_) (fun z11 => ?_)
    · rw [if_neg z11] at h
      refine ax_aload_n (q := 39) hX dc_K_byteOf_38 rfl rfl rfl ?_
      obtain ⟨u12, hu13, h⟩ := ax_bd h
      have hs14 : S u12 = some (.inl 1) := hty.1 _ _ _ _ hs0 hu13
      refine ax_getR (q := 42) hX dc_K_byteOf_39 rfl fl_K_36 rfl hs0 hu13 ?_
      obtain ⟨u15, hu16, h⟩ := ax_bd h
      obtain ⟨n18, hs17⟩ : ∃ n, S u15 = some (.inr (2, n)) := hty.1 _ _ _ _ hs14 hu16
      refine ax_getR (q := 45) hX dc_K_byteOf_42 rfl fl_K_95 rfl hs14 hu16 ?_
      refine ax_iload_n (q := 46) hX dc_K_byteOf_45 rfl rfl rfl ?_
      obtain ⟨j19, hj20, h⟩ := ax_bd h
      have hj20 := ax_ix_s hty hs17 hj20
      obtain ⟨u21, hu22, h⟩ := ax_bd h
      have hs23 : S u21 = some (.inl 3) := hty.2.1 _ _ _ _ hs17 hu22
      refine ax_aald (q := 47) hX j19 dc_K_byteOf_46 rfl hs17 rfl rfl hj20.1 hj20.2.1 hj20.2.2 hu22 ?_
      refine ax_astore_n (ls' := [some (.ref u0), some (.int (x1)), some (.int (x2)), some (.ref u21)]) (q := 48) hX dc_K_byteOf_47 rfl rfl (by decide) rfl ?_
      refine ax_aload_n (q := 49) hX dc_K_byteOf_48 rfl rfl rfl ?_
      refine ax_getI (q := 52) hX dc_K_byteOf_49 rfl fl_K_99 rfl hs23 ?_
      refine ax_bipush (v := 12) (q := 54) hX dc_K_byteOf_52 rfl (by decide) ?_
      refine ax_icmp_lt (tgt := 67) (q := 57) hX dc_K_byteOf_54 rfl (by decide) (fun z24 => ?_) (fun z24 => ?_)
      · rw [if_pos z24] at h
        refine ax_aload_n (q := 68) hX dc_K_byteOf_67 rfl rfl rfl ?_
        refine ax_iload_n (q := 69) hX dc_K_byteOf_68 rfl rfl rfl ?_
        obtain ⟨o29, hr25, h⟩ := ax_bd h
        refine ax_kV (vs := [.int (x2)]) (rest := []) (q := 72) hX dc_K_byteOf_69 rfl mt_T_addByte wl_K_106 wi_T_addByte ws_T_addByte hs23 rfl (c_T_addByte l hty hs23 hr25) rfl (by decide) rfl (Nat.le_of_ble_eq_true rfl) rfl rfl (by decide) (by decide) rfl ?_
        cases h
        exact ax_iret hX hF dc_K_byteOf_72 rfl rfl (by decide) (by decide) ⟨rfl, rfl, rfl, rfl, rfl⟩ (by rw [hS0]; exact fun _ _ z => z)
      · rw [if_neg z24] at h
        cases h
        exact ax_throw hX hF hno hl0 th_K_104_76 dc_K_byteOf_57 dc_K_byteOf_60 dc_K_byteOf_61 dc_K_byteOf_63 dc_K_byteOf_66 (by decide) (by decide) (by decide) (by decide) (by decide) (by decide) ⟨rfl, rfl, rfl, rfl, rfl⟩ (by rw [hS0]; exact fun _ _ z => z)
    · rw [if_pos z11] at h
      cases h
      exact ax_throw hX hF hno hl0 th_K_93_58 dc_K_byteOf_28 dc_K_byteOf_31 dc_K_byteOf_32 dc_K_byteOf_34 dc_K_byteOf_37 (by decide) (by decide) (by decide) (by decide) (by decide) (by decide) ⟨rfl, rfl, rfl, rfl, rfl⟩ (by rw [hS0]; exact fun _ _ z => z)
  · rw [if_pos z7] at h
    cases h
    exact ax_throw hX hF hno hl0 th_K_87_89 dc_K_byteOf_11 dc_K_byteOf_14 dc_K_byteOf_15 dc_K_byteOf_17 dc_K_byteOf_20 (by decide) (by decide) (by decide) (by decide) (by decide) (by decide) ⟨rfl, rfl, rfl, rfl, rfl⟩ (by rw [hS0]; exact fun _ _ z => z)
def d_K_note (S : ax_S) (I : ax_I) (R : ax_R) (u0 : Nat) (x1 : Int32) (x2 : Int32) (x3 : Int32) : Option ((Int32 ⊕ String) × ax_I) :=
  (R u0 4).bind fun u1 =>
  (d_P_hasSample S I R u1 (x1) (x2)).bind fun r6 =>
  if (ax_b r6) = 0 then
    some (.inr "java/lang/IndexOutOfBoundsException", I)
  else
    (d_K_isByte S I R (x3)).bind fun r10 =>
    if (ax_b r10) = 0 then
      some (.inr "java/lang/IllegalArgumentException", I)
    else
      (R u0 4).bind fun u12 =>
      if (I u12 3) < 20 then
        (R u0 4).bind fun u16 =>
        (d_P_addNote S I R u16 (x1) (x2) (x3)).bind fun o23 =>
        some (.inl (o23.1), o23.2)
      else
        some (.inr "java/lang/UnsupportedOperationException", I)
set_option maxHeartbeats 1000000 in
theorem c_K_note (l : Launch) (hl0 : l.stackTraces = false) {S : ax_S} {I : ax_I} {R : ax_R} {L : ax_L} {u0 : Nat} {x1 : Int32} {x2 : Int32} {x3 : Int32} {out : (Int32 ⊕ String) × ax_I} (hty : ax_typ S R) (hs0 : S u0 = some (.inl 4)) (h : d_K_note S I R u0 x1 x2 x3 = some out) : ax_MetX l y_K_note b_K_note 4 (some .int) (ax_rm 6 1 6) [.ref u0, .int x1, .int x2, .int x3] S I R L (ax_eqX out.1 S out.2 R L) := by
  refine ax_enterX (own := "LossFreeTools") (by decide +kernel) rfl (ax_cats rfl) (Nat.le_of_ble_eq_true rfl) (fun X hX hF hno hS0 => ?_)
  show ax_W X 4 0 [some (.ref u0), some (.int (x1)), some (.int (x2)), some (.int (x3))] [] S I R L 0 0
  unfold d_K_note at h
  refine ax_aload_n (q := 1) hX dc_K_note_0 rfl rfl rfl ?_
  obtain ⟨u1, hu2, h⟩ := ax_bd h
  have hs3 : S u1 = some (.inl 1) := hty.1 _ _ _ _ hs0 hu2
  refine ax_getR (q := 4) hX dc_K_note_1 rfl fl_K_36 rfl hs0 hu2 ?_
  refine ax_iload_n (q := 5) hX dc_K_note_4 rfl rfl rfl ?_
  refine ax_iload_n (q := 6) hX dc_K_note_5 rfl rfl rfl ?_
  obtain ⟨r6, hr4, h⟩ := ax_bd h
  refine ax_kV (vs := [.int (x1), .int (x2)]) (rest := []) (q := 9) hX dc_K_note_6 rfl mt_P_hasSample wl_K_109 wi_P_hasSample ws_P_hasSample hs3 rfl (c_P_hasSample l hty hs3 hr4) rfl (by decide) rfl (Nat.le_of_ble_eq_true rfl) rfl rfl (by decide) (by decide) rfl ?_
  refine ax_if_ne (tgt := 22) (q := 12) hX dc_K_note_9 rfl (by decide) (fun z7 => ?_) (fun z7 => ?_)
  · rw [if_neg z7] at h
    refine ax_iload_n (q := 23) hX dc_K_note_22 rfl rfl rfl ?_
    obtain ⟨r10, hr8, h⟩ := ax_bd h
    refine ax_kS (vs := [.int (x3)]) (rest := []) (q := 26) hX dc_K_note_23 rfl mt_K_isByte wl_K_90 wt_K_isByte (c_K_isByte l hty  hr8) rfl (by decide) rfl (Nat.le_of_ble_eq_true rfl) rfl rfl (by decide) (by decide) rfl ?_
    refine ax_if_ne (tgt := 39) (q := 29) hX dc_K_note_26 rfl (by decide) (fun z11 => ?_) (fun z11 => ?_)
    · rw [if_neg z11] at h
      refine ax_aload_n (q := 40) hX dc_K_note_39 rfl rfl rfl ?_
      obtain ⟨u12, hu13, h⟩ := ax_bd h
      have hs14 : S u12 = some (.inl 1) := hty.1 _ _ _ _ hs0 hu13
      refine ax_getR (q := 43) hX dc_K_note_40 rfl fl_K_36 rfl hs0 hu13 ?_
      refine ax_getI (q := 46) hX dc_K_note_43 rfl fl_K_115 rfl hs14 ?_
      refine ax_bipush (v := 20) (q := 48) hX dc_K_note_46 rfl (by decide) ?_
      refine ax_icmp_lt (tgt := 61) (q := 51) hX dc_K_note_48 rfl (by decide) (fun z15 => ?_) (fun z15 => ?_)
      · rw [if_pos z15] at h
        refine ax_aload_n (q := 62) hX dc_K_note_61 rfl rfl rfl ?_
        obtain ⟨u16, hu17, h⟩ := ax_bd h
        have hs18 : S u16 = some (.inl 1) := hty.1 _ _ _ _ hs0 hu17
        refine ax_getR (q := 65) hX dc_K_note_62 rfl fl_K_36 rfl hs0 hu17 ?_
        refine ax_iload_n (q := 66) hX dc_K_note_65 rfl rfl rfl ?_
        refine ax_iload_n (q := 67) hX dc_K_note_66 rfl rfl rfl ?_
        refine ax_iload_n (q := 68) hX dc_K_note_67 rfl rfl rfl ?_
        obtain ⟨o23, hr19, h⟩ := ax_bd h
        refine ax_kV (vs := [.int (x1), .int (x2), .int (x3)]) (rest := []) (q := 71) hX dc_K_note_68 rfl mt_P_addNote wl_K_120 wi_P_addNote ws_P_addNote hs18 rfl (c_P_addNote l hty hs18 hr19) rfl (by decide) rfl (Nat.le_of_ble_eq_true rfl) rfl rfl (by decide) (by decide) rfl ?_
        cases h
        exact ax_iret hX hF dc_K_note_71 rfl rfl (by decide) (by decide) ⟨rfl, rfl, rfl, rfl, rfl⟩ (by rw [hS0]; exact fun _ _ z => z)
      · rw [if_neg z15] at h
        cases h
        exact ax_throw hX hF hno hl0 th_K_118_76 dc_K_note_51 dc_K_note_54 dc_K_note_55 dc_K_note_57 dc_K_note_60 (by decide) (by decide) (by decide) (by decide) (by decide) (by decide) ⟨rfl, rfl, rfl, rfl, rfl⟩ (by rw [hS0]; exact fun _ _ z => z)
    · rw [if_pos z11] at h
      cases h
      exact ax_throw hX hF hno hl0 th_K_93_58 dc_K_note_29 dc_K_note_32 dc_K_note_33 dc_K_note_35 dc_K_note_38 (by decide) (by decide) (by decide) (by decide) (by decide) (by decide) ⟨rfl, rfl, rfl, rfl, rfl⟩ (by rw [hS0]; exact fun _ _ z => z)
  · rw [if_pos z7] at h
    cases h
    exact ax_throw hX hF hno hl0 th_K_113_89 dc_K_note_12 dc_K_note_15 dc_K_note_16 dc_K_note_18 dc_K_note_21 (by decide) (by decide) (by decide) (by decide) (by decide) (by decide) ⟨rfl, rfl, rfl, rfl, rfl⟩ (by rw [hS0]; exact fun _ _ z => z)
def d_K_crop_76 (S : ax_S) (I : ax_I) (R : ax_R) (u0 : Nat) (x1 : Int32) (x2 : Int32) (x3 : Int32) (x4 : Int32) (y0 : Int32) (w1 : Nat) : Option ((Int32 ⊕ String) × ax_I × ax_R) :=
  (ax_bo (y0)).bind fun b46 =>
  (some (ax_up I w1 7 (ax_b b46))).bind fun I48 =>
  if (I48 u0 7) = 0 then
    (R u0 4).bind fun u51 =>
    (d_P_cutTo S I48 R u51 (x1) (x2) (x3) (x4)).bind fun o59 =>
    some (.inl (o59.1), o59.2.1, o59.2.2)
  else
    some (.inl ((-1)), I48, R)
set_option maxHeartbeats 1000000 in
theorem e_K_crop_76 {l : Launch} {X : ax_X} {S : ax_S} {L : ax_L} {out : (Int32 ⊕ String) × ax_I × ax_R} (hX : ax_ok X l "LossFreeTools" b_K_crop 5 (ax_rm 6 1 6)) (hF : ax_fin X (some .int) 1 6 (ax_eqX out.1 S out.2.1 out.2.2 L)) (hS0 : ax_S0 X = S) (hno : ax_noh X) (hl0 : l.stackTraces = false) : ∀ (I : ax_I) (R : ax_R) (u0 : Nat) (x1 : Int32) (x2 : Int32) (x3 : Int32) (x4 : Int32) (y0 : Int32) (w1 : Nat), ax_typ S R → (S u0 = some (.inl 4)) → (S w1 = some (.inl 4)) → d_K_crop_76 S  I R u0 x1 x2 x3 x4 y0 w1 = some out → ax_W X 5 76 [some (.ref u0), some (.int (x1)), some (.int (x2)), some (.int (x3)), some (.int (x4))] [.int (y0), .ref w1] S I R L 0 0 := by
  rintro I R u0 x1 x2 x3 x4 y0 w1 hty hs0_ hw1_ h
  unfold d_K_crop_76 at h
  obtain ⟨b46, hb47, h⟩ := ax_bd h
  rw [ax_bo_s hb47]
  obtain ⟨I48, e49, h⟩ := ax_bs h
  refine ax_putI (q := 79) hX dc_K_crop_76 rfl fl_K_46 rfl hw1_ (fun z => by cases z) (ax_b_n _) (ax_b_f _) e49 ?_
  refine ax_aload_n (q := 80) hX dc_K_crop_79 rfl rfl rfl ?_
  refine ax_getI (q := 83) hX dc_K_crop_80 rfl fl_K_46 rfl hs0_ ?_
  refine ax_if_eq (tgt := 88) (q := 86) hX dc_K_crop_83 rfl (by decide) (fun z50 => ?_) (fun z50 => ?_)
  · rw [if_pos z50] at h
    refine ax_aload_n (q := 89) hX dc_K_crop_88 rfl rfl rfl ?_
    obtain ⟨u51, hu52, h⟩ := ax_bd h
    have hs53 : S u51 = some (.inl 1) := hty.1 _ _ _ _ hs0_ hu52
    refine ax_getR (q := 92) hX dc_K_crop_89 rfl fl_K_36 rfl hs0_ hu52 ?_
    refine ax_iload_n (q := 93) hX dc_K_crop_92 rfl rfl rfl ?_
    refine ax_iload_n (q := 94) hX dc_K_crop_93 rfl rfl rfl ?_
    refine ax_iload_n (q := 95) hX dc_K_crop_94 rfl rfl rfl ?_
    refine ax_iload (q := 97) hX dc_K_crop_95 rfl rfl ?_
    obtain ⟨o59, hr54, h⟩ := ax_bd h
    refine ax_kV (vs := [.int (x1), .int (x2), .int (x3), .int (x4)]) (rest := []) (q := 100) hX dc_K_crop_97 rfl mt_P_cutTo wl_K_130 wi_P_cutTo ws_P_cutTo hs53 rfl (c_P_cutTo l hty hs53 hr54) rfl (by decide) rfl (Nat.le_of_ble_eq_true rfl) rfl rfl (by decide) (by decide) rfl ?_
    have hty : ax_typ S o59.2.2 := t_P_cutTo hty hs53 hr54
    cases h
    exact ax_iret hX hF dc_K_crop_100 rfl rfl (by decide) (by decide) ⟨rfl, rfl, rfl, rfl, rfl⟩ (by rw [hS0]; exact fun _ _ z => z)
  · rw [if_neg z50] at h
    refine ax_iconst (v := (-1)) (q := 87) hX dc_K_crop_86 rfl (by decide) ?_
    cases h
    exact ax_iret hX hF dc_K_crop_87 rfl rfl (by decide) (by decide) ⟨rfl, rfl, rfl, rfl, rfl⟩ (by rw [hS0]; exact fun _ _ z => z)
def d_K_crop (S : ax_S) (I : ax_I) (R : ax_R) (u0 : Nat) (x1 : Int32) (x2 : Int32) (x3 : Int32) (x4 : Int32) : Option ((Int32 ⊕ String) × ax_I × ax_R) :=
  (some (ax_up I u0 7 (0))).bind fun I1 =>
  (R u0 4).bind fun u3 =>
  (d_P_holdsRectangle S I1 R u3 (x1) (x2) (x3) (x4)).bind fun r8 =>
  if (ax_b r8) = 0 then
    some (.inr "java/lang/IllegalArgumentException", I1, R)
  else
    (R u0 3).bind fun u10 =>
    (ax_ix S u10 (0)).bind fun j14 =>
    (some (ax_up I1 u10 j14 (x1))).bind fun I16 =>
    (R u0 3).bind fun u18 =>
    (ax_ix S u18 (1)).bind fun j22 =>
    (some (ax_up I16 u18 j22 (x2))).bind fun I24 =>
    (R u0 3).bind fun u26 =>
    (ax_ix S u26 (2)).bind fun j30 =>
    (some (ax_up I24 u26 j30 (x1 + x3))).bind fun I32 =>
    (R u0 3).bind fun u34 =>
    (ax_ix S u34 (3)).bind fun j38 =>
    (some (ax_up I32 u34 j38 (x2 + x4))).bind fun I40 =>
    (d_K_allAskedFit S I40 R u0).bind fun r44 =>
    if (ax_b r44) = 0 then
      d_K_crop_76 S  I40 R u0 (x1) (x2) (x3) (x4) (1) u0
    else
      d_K_crop_76 S  I40 R u0 (x1) (x2) (x3) (x4) (0) u0
set_option maxHeartbeats 1000000 in
theorem c_K_crop (l : Launch) (hl0 : l.stackTraces = false) {S : ax_S} {I : ax_I} {R : ax_R} {L : ax_L} {u0 : Nat} {x1 : Int32} {x2 : Int32} {x3 : Int32} {x4 : Int32} {out : (Int32 ⊕ String) × ax_I × ax_R} (hty : ax_typ S R) (hs0 : S u0 = some (.inl 4)) (h : d_K_crop S I R u0 x1 x2 x3 x4 = some out) : ax_MetX l y_K_crop b_K_crop 5 (some .int) (ax_rm 6 1 6) [.ref u0, .int x1, .int x2, .int x3, .int x4] S I R L (ax_eqX out.1 S out.2.1 out.2.2 L) := by
  refine ax_enterX (own := "LossFreeTools") (by decide +kernel) rfl (ax_cats rfl) (Nat.le_of_ble_eq_true rfl) (fun X hX hF hno hS0 => ?_)
  show ax_W X 5 0 [some (.ref u0), some (.int (x1)), some (.int (x2)), some (.int (x3)), some (.int (x4))] [] S I R L 0 0
  unfold d_K_crop at h
  refine ax_aload_n (q := 1) hX dc_K_crop_0 rfl rfl rfl ?_
  refine ax_iconst (v := 0) (q := 2) hX dc_K_crop_1 rfl (by decide) ?_
  obtain ⟨I1, e2, h⟩ := ax_bs h
  refine ax_putI (q := 5) hX dc_K_crop_2 rfl fl_K_46 rfl hs0 (fun z => by cases z) rfl rfl e2 ?_
  refine ax_aload_n (q := 6) hX dc_K_crop_5 rfl rfl rfl ?_
  obtain ⟨u3, hu4, h⟩ := ax_bd h
  have hs5 : S u3 = some (.inl 1) := hty.1 _ _ _ _ hs0 hu4
  refine ax_getR (q := 9) hX dc_K_crop_6 rfl fl_K_36 rfl hs0 hu4 ?_
  refine ax_iload_n (q := 10) hX dc_K_crop_9 rfl rfl rfl ?_
  refine ax_iload_n (q := 11) hX dc_K_crop_10 rfl rfl rfl ?_
  refine ax_iload_n (q := 12) hX dc_K_crop_11 rfl rfl rfl ?_
  refine ax_iload (q := 14) hX dc_K_crop_12 rfl rfl ?_
  obtain ⟨r8, hr6, h⟩ := ax_bd h
  refine ax_kV (vs := [.int (x1), .int (x2), .int (x3), .int (x4)]) (rest := []) (q := 17) hX dc_K_crop_14 rfl mt_P_holdsRectangle wl_K_50 wi_P_holdsRectangle ws_P_holdsRectangle hs5 rfl (c_P_holdsRectangle l hty hs5 hr6) rfl (by decide) rfl (Nat.le_of_ble_eq_true rfl) rfl rfl (by decide) (by decide) rfl ?_
  refine ax_if_ne (tgt := 30) (q := 20) hX dc_K_crop_17 rfl (by decide) (fun z9 => ?_) (fun z9 => ?_)
  · rw [if_neg z9] at h
    refine ax_aload_n (q := 31) hX dc_K_crop_30 rfl rfl rfl ?_
    obtain ⟨u10, hu11, h⟩ := ax_bd h
    obtain ⟨n13, hs12⟩ : ∃ n, S u10 = some (.inr (0, n)) := hty.1 _ _ _ _ hs0 hu11
    refine ax_getR (q := 34) hX dc_K_crop_31 rfl fl_K_27 rfl hs0 hu11 ?_
    refine ax_iconst (v := 0) (q := 35) hX dc_K_crop_34 rfl (by decide) ?_
    refine ax_iload_n (q := 36) hX dc_K_crop_35 rfl rfl rfl ?_
    obtain ⟨j14, hj15, h⟩ := ax_bd h
    have hj15 := ax_ix_s hty hs12 hj15
    obtain ⟨I16, e17, h⟩ := ax_bs h
    refine ax_iast (q := 37) hX j14 dc_K_crop_36 rfl hs12 hj15.1 hj15.2.1 hj15.2.2 e17 ?_
    refine ax_aload_n (q := 38) hX dc_K_crop_37 rfl rfl rfl ?_
    obtain ⟨u18, hu19, h⟩ := ax_bd h
    obtain ⟨n21, hs20⟩ : ∃ n, S u18 = some (.inr (0, n)) := hty.1 _ _ _ _ hs0 hu19
    refine ax_getR (q := 41) hX dc_K_crop_38 rfl fl_K_27 rfl hs0 hu19 ?_
    refine ax_iconst (v := 1) (q := 42) hX dc_K_crop_41 rfl (by decide) ?_
    refine ax_iload_n (q := 43) hX dc_K_crop_42 rfl rfl rfl ?_
    obtain ⟨j22, hj23, h⟩ := ax_bd h
    have hj23 := ax_ix_s hty hs20 hj23
    obtain ⟨I24, e25, h⟩ := ax_bs h
    refine ax_iast (q := 44) hX j22 dc_K_crop_43 rfl hs20 hj23.1 hj23.2.1 hj23.2.2 e25 ?_
    refine ax_aload_n (q := 45) hX dc_K_crop_44 rfl rfl rfl ?_
    obtain ⟨u26, hu27, h⟩ := ax_bd h
    obtain ⟨n29, hs28⟩ : ∃ n, S u26 = some (.inr (0, n)) := hty.1 _ _ _ _ hs0 hu27
    refine ax_getR (q := 48) hX dc_K_crop_45 rfl fl_K_27 rfl hs0 hu27 ?_
    refine ax_iconst (v := 2) (q := 49) hX dc_K_crop_48 rfl (by decide) ?_
    refine ax_iload_n (q := 50) hX dc_K_crop_49 rfl rfl rfl ?_
    refine ax_iload_n (q := 51) hX dc_K_crop_50 rfl rfl rfl ?_
    refine ax_iadd (q := 52) hX dc_K_crop_51 rfl ?_
    obtain ⟨j30, hj31, h⟩ := ax_bd h
    have hj31 := ax_ix_s hty hs28 hj31
    obtain ⟨I32, e33, h⟩ := ax_bs h
    refine ax_iast (q := 53) hX j30 dc_K_crop_52 rfl hs28 hj31.1 hj31.2.1 hj31.2.2 e33 ?_
    refine ax_aload_n (q := 54) hX dc_K_crop_53 rfl rfl rfl ?_
    obtain ⟨u34, hu35, h⟩ := ax_bd h
    obtain ⟨n37, hs36⟩ : ∃ n, S u34 = some (.inr (0, n)) := hty.1 _ _ _ _ hs0 hu35
    refine ax_getR (q := 57) hX dc_K_crop_54 rfl fl_K_27 rfl hs0 hu35 ?_
    refine ax_iconst (v := 3) (q := 58) hX dc_K_crop_57 rfl (by decide) ?_
    refine ax_iload_n (q := 59) hX dc_K_crop_58 rfl rfl rfl ?_
    refine ax_iload (q := 61) hX dc_K_crop_59 rfl rfl ?_
    refine ax_iadd (q := 62) hX dc_K_crop_61 rfl ?_
    obtain ⟨j38, hj39, h⟩ := ax_bd h
    have hj39 := ax_ix_s hty hs36 hj39
    obtain ⟨I40, e41, h⟩ := ax_bs h
    refine ax_iast (q := 63) hX j38 dc_K_crop_62 rfl hs36 hj39.1 hj39.2.1 hj39.2.2 e41 ?_
    refine ax_aload_n (q := 64) hX dc_K_crop_63 rfl rfl rfl ?_
    refine ax_aload_n (q := 65) hX dc_K_crop_64 rfl rfl rfl ?_
    obtain ⟨r44, hr42, h⟩ := ax_bd h
    refine ax_kV (vs := []) (rest := [.ref u0]) (q := 68) hX dc_K_crop_65 rfl mt_K_allAskedFit wl_K_126 wi_K_allAskedFit ws_K_allAskedFit hs0 rfl (c_K_allAskedFit l hty hs0 hr42) rfl (by decide) rfl (Nat.le_of_ble_eq_true rfl) rfl rfl (by decide) (by decide) rfl ?_
    refine ax_if_ne (tgt := 75) (q := 71) hX dc_K_crop_68 rfl (by decide) (fun z45 => ?_) (fun z45 => ?_)
    · rw [if_neg z45] at h
      refine ax_iconst (v := 0) (q := 76) hX dc_K_crop_75 rfl (by decide) ?_
      exact (e_K_crop_76 hX hF hS0 hno hl0  I40 R u0 (x1) (x2) (x3) (x4) (0) u0 hty hs0 hs0 h)
    · rw [if_pos z45] at h
      refine ax_iconst (v := 1) (q := 72) hX dc_K_crop_71 rfl (by decide) ?_
      refine ax_goto (tgt := 76) hX dc_K_crop_72 (by decide) ?_
      exact (e_K_crop_76 hX hF hS0 hno hl0  I40 R u0 (x1) (x2) (x3) (x4) (1) u0 hty hs0 hs0 h)
  · rw [if_pos z9] at h
    cases h
    exact ax_throw hX hF hno hl0 th_K_124_58 dc_K_crop_20 dc_K_crop_23 dc_K_crop_24 dc_K_crop_26 dc_K_crop_29 (by decide) (by decide) (by decide) (by decide) (by decide) (by decide) ⟨rfl, rfl, rfl, rfl, rfl⟩ (by rw [hS0]; exact fun _ _ z => z)
theorem te_K_crop_76 {S : ax_S} {out : (Int32 ⊕ String) × ax_I × ax_R} : ∀ (I : ax_I) (R : ax_R) (u0 : Nat) (x1 : Int32) (x2 : Int32) (x3 : Int32) (x4 : Int32) (y0 : Int32) (w1 : Nat), ax_typ S R → (S u0 = some (.inl 4)) → (S w1 = some (.inl 4)) → d_K_crop_76 S  I R u0 x1 x2 x3 x4 y0 w1 = some out → ax_typ S out.2.2 := by
  rintro I R u0 x1 x2 x3 x4 y0 w1 hty hs0_ hw1_ h
  unfold d_K_crop_76 at h
  obtain ⟨b46, hb47, h⟩ := ax_bd h
  obtain ⟨I48, e49, h⟩ := ax_bs h
  by_cases z50 : (I48 u0 7) = 0
  · rw [if_pos z50] at h
    obtain ⟨u51, hu52, h⟩ := ax_bd h
    have hs53 : S u51 = some (.inl 1) := hty.1 _ _ _ _ hs0_ hu52
    obtain ⟨o59, hr54, h⟩ := ax_bd h
    have hty : ax_typ S o59.2.2 := t_P_cutTo hty hs53 hr54
    cases h
    exact hty
  · rw [if_neg z50] at h
    cases h
    exact hty
theorem t_K_crop {S : ax_S} {I : ax_I} {R : ax_R} {u0 : Nat} {x1 : Int32} {x2 : Int32} {x3 : Int32} {x4 : Int32} {out : (Int32 ⊕ String) × ax_I × ax_R} (hty : ax_typ S R) (hs0 : S u0 = some (.inl 4)) (h : d_K_crop S I R u0 x1 x2 x3 x4 = some out) : ax_typ S out.2.2 := by
  unfold d_K_crop at h
  obtain ⟨I1, e2, h⟩ := ax_bs h
  obtain ⟨u3, hu4, h⟩ := ax_bd h
  have hs5 : S u3 = some (.inl 1) := hty.1 _ _ _ _ hs0 hu4
  obtain ⟨r8, hr6, h⟩ := ax_bd h
  by_cases z9 : (ax_b r8) = 0
  · rw [if_pos z9] at h
    cases h
    exact hty
  · rw [if_neg z9] at h
    obtain ⟨u10, hu11, h⟩ := ax_bd h
    obtain ⟨n13, hs12⟩ : ∃ n, S u10 = some (.inr (0, n)) := hty.1 _ _ _ _ hs0 hu11
    obtain ⟨j14, hj15, h⟩ := ax_bd h
    have hj15 := ax_ix_s hty hs12 hj15
    obtain ⟨I16, e17, h⟩ := ax_bs h
    obtain ⟨u18, hu19, h⟩ := ax_bd h
    obtain ⟨n21, hs20⟩ : ∃ n, S u18 = some (.inr (0, n)) := hty.1 _ _ _ _ hs0 hu19
    obtain ⟨j22, hj23, h⟩ := ax_bd h
    have hj23 := ax_ix_s hty hs20 hj23
    obtain ⟨I24, e25, h⟩ := ax_bs h
    obtain ⟨u26, hu27, h⟩ := ax_bd h
    obtain ⟨n29, hs28⟩ : ∃ n, S u26 = some (.inr (0, n)) := hty.1 _ _ _ _ hs0 hu27
    obtain ⟨j30, hj31, h⟩ := ax_bd h
    have hj31 := ax_ix_s hty hs28 hj31
    obtain ⟨I32, e33, h⟩ := ax_bs h
    obtain ⟨u34, hu35, h⟩ := ax_bd h
    obtain ⟨n37, hs36⟩ : ∃ n, S u34 = some (.inr (0, n)) := hty.1 _ _ _ _ hs0 hu35
    obtain ⟨j38, hj39, h⟩ := ax_bd h
    have hj39 := ax_ix_s hty hs36 hj39
    obtain ⟨I40, e41, h⟩ := ax_bs h
    obtain ⟨r44, hr42, h⟩ := ax_bd h
    by_cases z45 : (ax_b r44) = 0
    · rw [if_pos z45] at h
      exact te_K_crop_76   I40 R u0 (x1) (x2) (x3) (x4) (1) u0 hty hs0 hs0 h
    · rw [if_neg z45] at h
      exact te_K_crop_76   I40 R u0 (x1) (x2) (x3) (x4) (0) u0 hty hs0 hs0 h
def d_K_near (S : ax_S) (I : ax_I) (R : ax_R) (u0 : Nat) (x1 : Int32) : Option ((Int32 ⊕ String)) :=
  (d_K_isSide S I R (x1)).bind fun r3 =>
  if (ax_b r3) = 0 then
    some (.inr "java/lang/IndexOutOfBoundsException")
  else
    if (I u0 7) = 0 then
      some (.inr "java/lang/IllegalStateException")
    else
      (R u0 4).bind fun u6 =>
      (d_K_isUpright S I R (x1)).bind fun r11 =>
      (R u0 3).bind fun u12 =>
      (ax_ix S u12 (x1)).bind fun j16 =>
      (d_P_nearestFit S I R u6 (ax_b r11) (I u12 j16)).bind fun r20 =>
      some (.inl (r20))
set_option maxHeartbeats 1000000 in
theorem c_K_near (l : Launch) (hl0 : l.stackTraces = false) {S : ax_S} {I : ax_I} {R : ax_R} {L : ax_L} {u0 : Nat} {x1 : Int32} {out : (Int32 ⊕ String)} (hty : ax_typ S R) (hs0 : S u0 = some (.inl 4)) (h : d_K_near S I R u0 x1 = some out) : ax_MetX l y_K_near b_K_near 2 (some .int) (ax_rm 6 1 6) [.ref u0, .int x1] S I R L (ax_eqX out S I R L) := by
  refine ax_enterX (own := "LossFreeTools") (by decide +kernel) rfl (ax_cats rfl) (Nat.le_of_ble_eq_true rfl) (fun X hX hF hno hS0 => ?_)
  show ax_W X 2 0 [some (.ref u0), some (.int (x1))] [] S I R L 0 0
  unfold d_K_near at h
  refine ax_iload_n (q := 1) hX dc_K_near_0 rfl rfl rfl ?_
  obtain ⟨r3, hr1, h⟩ := ax_bd h
  refine ax_kS (vs := [.int (x1)]) (rest := []) (q := 4) hX dc_K_near_1 rfl mt_K_isSide wl_K_133 wt_K_isSide (c_K_isSide l hty  hr1) rfl (by decide) rfl (Nat.le_of_ble_eq_true rfl) rfl rfl (by decide) (by decide) rfl ?_
  refine ax_if_ne (tgt := 17) (q := 7) hX dc_K_near_4 rfl (by decide) (fun z4 => ?_) (fun z4 => ?_)
  · rw [if_neg z4] at h
    refine ax_aload_n (q := 18) hX dc_K_near_17 rfl rfl rfl ?_
    refine ax_getI (q := 21) hX dc_K_near_18 rfl fl_K_46 rfl hs0 ?_
    refine ax_if_ne (tgt := 34) (q := 24) hX dc_K_near_21 rfl (by decide) (fun z5 => ?_) (fun z5 => ?_)
    · rw [if_neg z5] at h
      refine ax_aload_n (q := 35) hX dc_K_near_34 rfl rfl rfl ?_
      obtain ⟨u6, hu7, h⟩ := ax_bd h
      have hs8 : S u6 = some (.inl 1) := hty.1 _ _ _ _ hs0 hu7
      refine ax_getR (q := 38) hX dc_K_near_35 rfl fl_K_36 rfl hs0 hu7 ?_
      refine ax_iload_n (q := 39) hX dc_K_near_38 rfl rfl rfl ?_
      obtain ⟨r11, hr9, h⟩ := ax_bd h
      refine ax_kS (vs := [.int (x1)]) (rest := [.ref u6]) (q := 42) hX dc_K_near_39 rfl mt_K_isUpright wl_K_140 wt_K_isUpright (c_K_isUpright l hty  hr9) rfl (by decide) rfl (Nat.le_of_ble_eq_true rfl) rfl rfl (by decide) (by decide) rfl ?_
      refine ax_aload_n (q := 43) hX dc_K_near_42 rfl rfl rfl ?_
      obtain ⟨u12, hu13, h⟩ := ax_bd h
      obtain ⟨n15, hs14⟩ : ∃ n, S u12 = some (.inr (0, n)) := hty.1 _ _ _ _ hs0 hu13
      refine ax_getR (q := 46) hX dc_K_near_43 rfl fl_K_27 rfl hs0 hu13 ?_
      refine ax_iload_n (q := 47) hX dc_K_near_46 rfl rfl rfl ?_
      obtain ⟨j16, hj17, h⟩ := ax_bd h
      have hj17 := ax_ix_s hty hs14 hj17
      refine ax_iald (q := 48) hX j16 dc_K_near_47 rfl hs14 hj17.1 hj17.2.1 hj17.2.2 ?_
      obtain ⟨r20, hr18, h⟩ := ax_bd h
      refine ax_kV (vs := [.int (ax_b r11), .int (I u12 j16)]) (rest := []) (q := 51) hX dc_K_near_48 rfl mt_P_nearestFit wl_K_143 wi_P_nearestFit ws_P_nearestFit hs8 rfl (c_P_nearestFit l hty hs8 hr18) rfl (by decide) rfl (Nat.le_of_ble_eq_true rfl) rfl rfl (by decide) (by decide) rfl ?_
      cases h
      exact ax_iret hX hF dc_K_near_51 rfl rfl (by decide) (by decide) ⟨rfl, rfl, rfl, rfl, rfl⟩ (by rw [hS0]; exact fun _ _ z => z)
    · rw [if_pos z5] at h
      cases h
      exact ax_throw hX hF hno hl0 th_K_138_68 dc_K_near_24 dc_K_near_27 dc_K_near_28 dc_K_near_30 dc_K_near_33 (by decide) (by decide) (by decide) (by decide) (by decide) (by decide) ⟨rfl, rfl, rfl, rfl, rfl⟩ (by rw [hS0]; exact fun _ _ z => z)
  · rw [if_pos z4] at h
    cases h
    exact ax_throw hX hF hno hl0 th_K_136_89 dc_K_near_7 dc_K_near_10 dc_K_near_11 dc_K_near_13 dc_K_near_16 (by decide) (by decide) (by decide) (by decide) (by decide) (by decide) ⟨rfl, rfl, rfl, rfl, rfl⟩ (by rw [hS0]; exact fun _ _ z => z)
def d_K_turn_10 (S : ax_S) (I : ax_I) (R : ax_R) : Option ((Int32 ⊕ String) × ax_I) :=
  some (.inr "java/lang/IllegalArgumentException", I)
set_option maxHeartbeats 1000000 in
theorem e_K_turn_10 {l : Launch} {X : ax_X} {S : ax_S} {L : ax_L} {R0 : ax_R} {out : (Int32 ⊕ String) × ax_I} (hX : ax_ok X l "LossFreeTools" b_K_turn 2 (ax_rm 6 1 6)) (hF : ax_fin X (some .int) 1 6 (ax_eqX out.1 S out.2 R0 L)) (hS0 : ax_S0 X = S) (hno : ax_noh X) (hl0 : l.stackTraces = false) : ∀ (I : ax_I) (R : ax_R), ax_typ S R → R = R0 → d_K_turn_10 S  I R = some out → ax_W X 2 10 [none, none] [] S I R L 0 0 := by
  rintro I R hty hR0 h
  subst hR0
  unfold d_K_turn_10 at h
  cases h
  exact ax_throw hX hF hno hl0 th_K_147_58 dc_K_turn_10 dc_K_turn_13 dc_K_turn_14 dc_K_turn_16 dc_K_turn_19 (by decide) (by decide) (by decide) (by decide) (by decide) (by decide) ⟨rfl, rfl, rfl, rfl, rfl⟩ (by rw [hS0]; exact fun _ _ z => z)
def d_K_turn (S : ax_S) (I : ax_I) (R : ax_R) (u0 : Nat) (x1 : Int32) : Option ((Int32 ⊕ String) × ax_I) :=
  if x1 < 0 then
    d_K_turn_10 S  I R 
  else
    if x1 < 8 then
      (R u0 4).bind fun u3 =>
      (d_P_showBy S I R u3 (x1)).bind fun I8 =>
      (d_K_together S I8 R (I8 u0 6) (x1)).bind fun r11 =>
      (some (ax_up I8 u0 6 (r11))).bind fun I12 =>
      (some (ax_up I12 u0 7 (0))).bind fun I14 =>
      some (.inl (I14 u0 6), I14)
    else
      d_K_turn_10 S  I R 
set_option maxHeartbeats 1000000 in
theorem c_K_turn (l : Launch) (hl0 : l.stackTraces = false) {S : ax_S} {I : ax_I} {R : ax_R} {L : ax_L} {u0 : Nat} {x1 : Int32} {out : (Int32 ⊕ String) × ax_I} (hty : ax_typ S R) (hs0 : S u0 = some (.inl 4)) (h : d_K_turn S I R u0 x1 = some out) : ax_MetX l y_K_turn b_K_turn 2 (some .int) (ax_rm 6 1 6) [.ref u0, .int x1] S I R L (ax_eqX out.1 S out.2 R L) := by
  refine ax_enterX (own := "LossFreeTools") (by decide +kernel) rfl (ax_cats rfl) (Nat.le_of_ble_eq_true rfl) (fun X hX hF hno hS0 => ?_)
  show ax_W X 2 0 [some (.ref u0), some (.int (x1))] [] S I R L 0 0
  unfold d_K_turn at h
  refine ax_iload_n (q := 1) hX dc_K_turn_0 rfl rfl rfl ?_
  refine ax_if_lt (tgt := 10) (q := 4) hX dc_K_turn_1 rfl (by decide) (fun z1 => ?_) (fun z1 => ?_)
  · rw [if_pos z1] at h
    exact ax_weak (ls' := [none, none]) (ax_fewP_s _ _ (by repeat (first | exact trivial | (refine And.intro rfl ?_)))) (e_K_turn_10 hX hF hS0 hno hl0  I R  hty  rfl h)
  · rw [if_neg z1] at h
    refine ax_iload_n (q := 5) hX dc_K_turn_4 rfl rfl rfl ?_
    refine ax_bipush (v := 8) (q := 7) hX dc_K_turn_5 rfl (by decide) ?_
    refine ax_icmp_lt (tgt := 20) (q := 10) hX dc_K_turn_7 rfl (by decide) (fun z2 => ?_) (fun z2 => ?_)
    · rw [if_pos z2] at h
      refine ax_aload_n (q := 21) hX dc_K_turn_20 rfl rfl rfl ?_
      obtain ⟨u3, hu4, h⟩ := ax_bd h
      have hs5 : S u3 = some (.inl 1) := hty.1 _ _ _ _ hs0 hu4
      refine ax_getR (q := 24) hX dc_K_turn_21 rfl fl_K_36 rfl hs0 hu4 ?_
      refine ax_iload_n (q := 25) hX dc_K_turn_24 rfl rfl rfl ?_
      obtain ⟨I8, hr6, h⟩ := ax_bd h
      refine ax_kV (vs := [.int (x1)]) (rest := []) (q := 28) hX dc_K_turn_25 rfl mt_P_showBy wl_K_149 wi_P_showBy ws_P_showBy hs5 rfl (c_P_showBy l hty hs5 hr6) rfl (by decide) rfl (Nat.le_of_ble_eq_true rfl) rfl rfl (by decide) (by decide) rfl ?_
      refine ax_aload_n (q := 29) hX dc_K_turn_28 rfl rfl rfl ?_
      refine ax_aload_n (q := 30) hX dc_K_turn_29 rfl rfl rfl ?_
      refine ax_getI (q := 33) hX dc_K_turn_30 rfl fl_K_43 rfl hs0 ?_
      refine ax_iload_n (q := 34) hX dc_K_turn_33 rfl rfl rfl ?_
      obtain ⟨r11, hr9, h⟩ := ax_bd h
      refine ax_kS (vs := [.int (I8 u0 6), .int (x1)]) (rest := [.ref u0]) (q := 37) hX dc_K_turn_34 rfl mt_K_together wl_K_153 wt_K_together (c_K_together l hty  hr9) rfl (by decide) rfl (Nat.le_of_ble_eq_true rfl) rfl rfl (by decide) (by decide) rfl ?_
      obtain ⟨I12, e13, h⟩ := ax_bs h
      refine ax_putI (q := 40) hX dc_K_turn_37 rfl fl_K_43 rfl hs0 (fun z => by cases z) rfl rfl e13 ?_
      refine ax_aload_n (q := 41) hX dc_K_turn_40 rfl rfl rfl ?_
      refine ax_iconst (v := 0) (q := 42) hX dc_K_turn_41 rfl (by decide) ?_
      obtain ⟨I14, e15, h⟩ := ax_bs h
      refine ax_putI (q := 45) hX dc_K_turn_42 rfl fl_K_46 rfl hs0 (fun z => by cases z) rfl rfl e15 ?_
      refine ax_aload_n (q := 46) hX dc_K_turn_45 rfl rfl rfl ?_
      refine ax_getI (q := 49) hX dc_K_turn_46 rfl fl_K_43 rfl hs0 ?_
      cases h
      exact ax_iret hX hF dc_K_turn_49 rfl rfl (by decide) (by decide) ⟨rfl, rfl, rfl, rfl, rfl⟩ (by rw [hS0]; exact fun _ _ z => z)
    · rw [if_neg z2] at h
      exact ax_weak (ls' := [none, none]) (ax_fewP_s _ _ (by repeat (first | exact trivial | (refine And.intro rfl ?_)))) (e_K_turn_10 hX hF hS0 hno hl0  I R  hty  rfl h)
def d_K_join_51 (S : ax_S) (I : ax_I) (R : ax_R) (u0 : Nat) (x1 : Int32) (x2 : Int32) (y0 : Int32) (w1 : Nat) (y2 : Int32) : Option ((Int32 ⊕ String) × ax_I × ax_R) :=
  (d_P_sizeAlong S I R w1 (y0)).bind fun r21 =>
  if y2 = r21 then
    (R u0 4).bind fun u23 =>
    (R u0 5).bind fun u26 =>
    (d_P_hasRoomFor S I R u23 u26 (x2)).bind fun r31 =>
    if (ax_b r31) = 0 then
      some (.inr "java/lang/UnsupportedOperationException", I, R)
    else
      (d_K_makePlaceAt S I R u0 (x1)).bind fun I35 =>
      (R u0 4).bind fun u36 =>
      (R u0 5).bind fun u39 =>
      (d_P_takeOver S I35 R u36 u39).bind fun o46 =>
      (some (ax_up o46.1 u0 6 (0))).bind fun I47 =>
      (some (ax_up I47 u0 7 (0))).bind fun I49 =>
      (o46.2 u0 4).bind fun u51 =>
      some (.inl (I49 u51 2), I49, o46.2)
  else
    some (.inr "java/lang/IllegalStateException", I, R)
set_option maxHeartbeats 1000000 in
theorem e_K_join_51 {l : Launch} {X : ax_X} {S : ax_S} {L : ax_L} {out : (Int32 ⊕ String) × ax_I × ax_R} (hX : ax_ok X l "LossFreeTools" b_K_join 3 (ax_rm 6 1 6)) (hF : ax_fin X (some .int) 1 6 (ax_eqX out.1 S out.2.1 out.2.2 L)) (hS0 : ax_S0 X = S) (hno : ax_noh X) (hl0 : l.stackTraces = false) : ∀ (I : ax_I) (R : ax_R) (u0 : Nat) (x1 : Int32) (x2 : Int32) (y0 : Int32) (w1 : Nat) (y2 : Int32), ax_typ S R → (S u0 = some (.inl 4)) → (S w1 = some (.inl 1)) → d_K_join_51 S  I R u0 x1 x2 y0 w1 y2 = some out → ax_W X 3 51 [some (.ref u0), some (.int (x1)), some (.int (x2))] [.int (y0), .ref w1, .int (y2)] S I R L 0 0 := by
  rintro I R u0 x1 x2 y0 w1 y2 hty hs0_ hw1_ h
  unfold d_K_join_51 at h
  obtain ⟨r21, hr19, h⟩ := ax_bd h
  refine ax_kV (vs := [.int (y0)]) (rest := [.int (y2)]) (q := 54) hX dc_K_join_51 rfl mt_P_sizeAlong wl_K_157 wi_P_sizeAlong ws_P_sizeAlong hw1_ rfl (c_P_sizeAlong l hty hw1_ hr19) rfl (by decide) rfl (Nat.le_of_ble_eq_true rfl) rfl rfl (by decide) (by decide) rfl ?_
  refine ax_icmp_eq (tgt := 67) (q := 57) hX dc_K_join_54 rfl (by decide) (fun z22 => ?_) (fun z22 => ?_)
  · rw [if_pos z22] at h
    refine ax_aload_n (q := 68) hX dc_K_join_67 rfl rfl rfl ?_
    obtain ⟨u23, hu24, h⟩ := ax_bd h
    have hs25 : S u23 = some (.inl 1) := hty.1 _ _ _ _ hs0_ hu24
    refine ax_getR (q := 71) hX dc_K_join_68 rfl fl_K_36 rfl hs0_ hu24 ?_
    refine ax_aload_n (q := 72) hX dc_K_join_71 rfl rfl rfl ?_
    obtain ⟨u26, hu27, h⟩ := ax_bd h
    have hs28 : S u26 = some (.inl 1) := hty.1 _ _ _ _ hs0_ hu27
    refine ax_getR (q := 75) hX dc_K_join_72 rfl fl_K_40 rfl hs0_ hu27 ?_
    refine ax_iload_n (q := 76) hX dc_K_join_75 rfl rfl rfl ?_
    obtain ⟨r31, hr29, h⟩ := ax_bd h
    refine ax_kV (vs := [.ref u26, .int (x2)]) (rest := []) (q := 79) hX dc_K_join_76 rfl mt_P_hasRoomFor wl_K_163 wi_P_hasRoomFor ws_P_hasRoomFor hs25 rfl (c_P_hasRoomFor l hty hs25 hs28 hr29) rfl (by decide) rfl (Nat.le_of_ble_eq_true rfl) rfl rfl (by decide) (by decide) rfl ?_
    refine ax_if_ne (tgt := 92) (q := 82) hX dc_K_join_79 rfl (by decide) (fun z32 => ?_) (fun z32 => ?_)
    · rw [if_neg z32] at h
      refine ax_aload_n (q := 93) hX dc_K_join_92 rfl rfl rfl ?_
      refine ax_iload_n (q := 94) hX dc_K_join_93 rfl rfl rfl ?_
      obtain ⟨I35, hr33, h⟩ := ax_bd h
      refine ax_kV (vs := [.int (x1)]) (rest := []) (q := 97) hX dc_K_join_94 rfl mt_K_makePlaceAt wl_K_169 wi_K_makePlaceAt ws_K_makePlaceAt hs0_ rfl (c_K_makePlaceAt l hty hs0_ hr33) rfl (by decide) rfl (Nat.le_of_ble_eq_true rfl) rfl rfl (by decide) (by decide) rfl ?_
      refine ax_aload_n (q := 98) hX dc_K_join_97 rfl rfl rfl ?_
      obtain ⟨u36, hu37, h⟩ := ax_bd h
      have hs38 : S u36 = some (.inl 1) := hty.1 _ _ _ _ hs0_ hu37
      refine ax_getR (q := 101) hX dc_K_join_98 rfl fl_K_36 rfl hs0_ hu37 ?_
      refine ax_aload_n (q := 102) hX dc_K_join_101 rfl rfl rfl ?_
      obtain ⟨u39, hu40, h⟩ := ax_bd h
      have hs41 : S u39 = some (.inl 1) := hty.1 _ _ _ _ hs0_ hu40
      refine ax_getR (q := 105) hX dc_K_join_102 rfl fl_K_40 rfl hs0_ hu40 ?_
      obtain ⟨o46, hr42, h⟩ := ax_bd h
      refine ax_kV (vs := [.ref u39]) (rest := []) (q := 108) hX dc_K_join_105 rfl mt_P_takeOver wl_K_172 wi_P_takeOver ws_P_takeOver hs38 rfl (c_P_takeOver l hty hs38 hs41 hr42) rfl (by decide) rfl (Nat.le_of_ble_eq_true rfl) rfl rfl (by decide) (by decide) rfl ?_
      have hty : ax_typ S o46.2 := t_P_takeOver hty hs38 hs41 hr42
      refine ax_aload_n (q := 109) hX dc_K_join_108 rfl rfl rfl ?_
      refine ax_iconst (v := 0) (q := 110) hX dc_K_join_109 rfl (by decide) ?_
      obtain ⟨I47, e48, h⟩ := ax_bs h
      refine ax_putI (q := 113) hX dc_K_join_110 rfl fl_K_43 rfl hs0_ (fun z => by cases z) rfl rfl e48 ?_
      refine ax_aload_n (q := 114) hX dc_K_join_113 rfl rfl rfl ?_
      refine ax_iconst (v := 0) (q := 115) hX dc_K_join_114 rfl (by decide) ?_
      obtain ⟨I49, e50, h⟩ := ax_bs h
      refine ax_putI (q := 118) hX dc_K_join_115 rfl fl_K_46 rfl hs0_ (fun z => by cases z) rfl rfl e50 ?_
      refine ax_aload_n (q := 119) hX dc_K_join_118 rfl rfl rfl ?_
      obtain ⟨u51, hu52, h⟩ := ax_bd h
      have hs53 : S u51 = some (.inl 1) := hty.1 _ _ _ _ hs0_ hu52
      refine ax_getR (q := 122) hX dc_K_join_119 rfl fl_K_36 rfl hs0_ hu52 ?_
      refine ax_getI (q := 125) hX dc_K_join_122 rfl fl_K_69 rfl hs53 ?_
      cases h
      exact ax_iret hX hF dc_K_join_125 rfl rfl (by decide) (by decide) ⟨rfl, rfl, rfl, rfl, rfl⟩ (by rw [hS0]; exact fun _ _ z => z)
    · rw [if_pos z32] at h
      cases h
      exact ax_throw hX hF hno hl0 th_K_167_76 dc_K_join_82 dc_K_join_85 dc_K_join_86 dc_K_join_88 dc_K_join_91 (by decide) (by decide) (by decide) (by decide) (by decide) (by decide) ⟨rfl, rfl, rfl, rfl, rfl⟩ (by rw [hS0]; exact fun _ _ z => z)
  · rw [if_neg z22] at h
    cases h
    exact ax_throw hX hF hno hl0 th_K_161_68 dc_K_join_57 dc_K_join_60 dc_K_join_61 dc_K_join_63 dc_K_join_66 (by decide) (by decide) (by decide) (by decide) (by decide) (by decide) ⟨rfl, rfl, rfl, rfl, rfl⟩ (by rw [hS0]; exact fun _ _ z => z)
def d_K_join_35 (S : ax_S) (I : ax_I) (R : ax_R) (u0 : Nat) (x1 : Int32) (x2 : Int32) (y0 : Int32) (w1 : Nat) : Option ((Int32 ⊕ String) × ax_I × ax_R) :=
  (d_P_sizeAlong S I R w1 (y0)).bind fun r14 =>
  (R u0 5).bind fun u15 =>
  if x2 = 0 then
    d_K_join_51 S  I R u0 (x1) (x2) (1) u15 (r14)
  else
    d_K_join_51 S  I R u0 (x1) (x2) (0) u15 (r14)
set_option maxHeartbeats 1000000 in
theorem e_K_join_35 {l : Launch} {X : ax_X} {S : ax_S} {L : ax_L} {out : (Int32 ⊕ String) × ax_I × ax_R} (hX : ax_ok X l "LossFreeTools" b_K_join 3 (ax_rm 6 1 6)) (hF : ax_fin X (some .int) 1 6 (ax_eqX out.1 S out.2.1 out.2.2 L)) (hS0 : ax_S0 X = S) (hno : ax_noh X) (hl0 : l.stackTraces = false) : ∀ (I : ax_I) (R : ax_R) (u0 : Nat) (x1 : Int32) (x2 : Int32) (y0 : Int32) (w1 : Nat), ax_typ S R → (S u0 = some (.inl 4)) → (S w1 = some (.inl 1)) → d_K_join_35 S  I R u0 x1 x2 y0 w1 = some out → ax_W X 3 35 [some (.ref u0), some (.int (x1)), some (.int (x2))] [.int (y0), .ref w1] S I R L 0 0 := by
  rintro I R u0 x1 x2 y0 w1 hty hs0_ hw1_ h
  unfold d_K_join_35 at h
  obtain ⟨r14, hr12, h⟩ := ax_bd h
  refine ax_kV (vs := [.int (y0)]) (rest := []) (q := 38) hX dc_K_join_35 rfl mt_P_sizeAlong wl_K_157 wi_P_sizeAlong ws_P_sizeAlong hw1_ rfl (c_P_sizeAlong l hty hw1_ hr12) rfl (by decide) rfl (Nat.le_of_ble_eq_true rfl) rfl rfl (by decide) (by decide) rfl ?_
  refine ax_aload_n (q := 39) hX dc_K_join_38 rfl rfl rfl ?_
  obtain ⟨u15, hu16, h⟩ := ax_bd h
  have hs17 : S u15 = some (.inl 1) := hty.1 _ _ _ _ hs0_ hu16
  refine ax_getR (q := 42) hX dc_K_join_39 rfl fl_K_40 rfl hs0_ hu16 ?_
  refine ax_iload_n (q := 43) hX dc_K_join_42 rfl rfl rfl ?_
  refine ax_if_ne (tgt := 50) (q := 46) hX dc_K_join_43 rfl (by decide) (fun z18 => ?_) (fun z18 => ?_)
  · rw [if_neg z18] at h
    refine ax_iconst (v := 0) (q := 51) hX dc_K_join_50 rfl (by decide) ?_
    exact (e_K_join_51 hX hF hS0 hno hl0  I R u0 (x1) (x2) (0) u15 (r14) hty hs0_ hs17 h)
  · rw [if_pos z18] at h
    refine ax_iconst (v := 1) (q := 47) hX dc_K_join_46 rfl (by decide) ?_
    refine ax_goto (tgt := 51) hX dc_K_join_47 (by decide) ?_
    exact (e_K_join_51 hX hF hS0 hno hl0  I R u0 (x1) (x2) (1) u15 (r14) hty hs0_ hs17 h)
def d_K_join (S : ax_S) (I : ax_I) (R : ax_R) (u0 : Nat) (x1 : Int32) : Option ((Int32 ⊕ String) × ax_I × ax_R) :=
  (d_K_isSide S I R (x1)).bind fun r3 =>
  if (ax_b r3) = 0 then
    some (.inr "java/lang/IndexOutOfBoundsException", I, R)
  else
    (d_K_isUpright S I R (x1)).bind fun r7 =>
    (R u0 4).bind fun u8 =>
    if (ax_b r7) = 0 then
      d_K_join_35 S  I R u0 (x1) (ax_b r7) (1) u8
    else
      d_K_join_35 S  I R u0 (x1) (ax_b r7) (0) u8
set_option maxHeartbeats 1000000 in
theorem c_K_join (l : Launch) (hl0 : l.stackTraces = false) {S : ax_S} {I : ax_I} {R : ax_R} {L : ax_L} {u0 : Nat} {x1 : Int32} {out : (Int32 ⊕ String) × ax_I × ax_R} (hty : ax_typ S R) (hs0 : S u0 = some (.inl 4)) (h : d_K_join S I R u0 x1 = some out) : ax_MetX l y_K_join b_K_join 3 (some .int) (ax_rm 6 1 6) [.ref u0, .int x1] S I R L (ax_eqX out.1 S out.2.1 out.2.2 L) := by
  refine ax_enterX (own := "LossFreeTools") (by decide +kernel) rfl (ax_cats rfl) (Nat.le_of_ble_eq_true rfl) (fun X hX hF hno hS0 => ?_)
  show ax_W X 3 0 [some (.ref u0), some (.int (x1)), none] [] S I R L 0 0
  unfold d_K_join at h
  refine ax_iload_n (q := 1) hX dc_K_join_0 rfl rfl rfl ?_
  obtain ⟨r3, hr1, h⟩ := ax_bd h
  refine ax_kS (vs := [.int (x1)]) (rest := []) (q := 4) hX dc_K_join_1 rfl mt_K_isSide wl_K_133 wt_K_isSide (c_K_isSide l hty  hr1) rfl (by decide) rfl (Nat.le_of_ble_eq_true rfl) rfl rfl (by decide) (by decide) rfl ?_
  refine ax_if_ne (tgt := 17) (q := 7) hX dc_K_join_4 rfl (by decide) (fun z4 => ?_) (fun z4 => ?_)
  · rw [if_neg z4] at h
    refine ax_iload_n (q := 18) hX dc_K_join_17 rfl rfl rfl ?_
    obtain ⟨r7, hr5, h⟩ := ax_bd h
    refine ax_kS (vs := [.int (x1)]) (rest := []) (q := 21) hX dc_K_join_18 rfl mt_K_isUpright wl_K_140 wt_K_isUpright (c_K_isUpright l hty  hr5) rfl (by decide) rfl (Nat.le_of_ble_eq_true rfl) rfl rfl (by decide) (by decide) rfl ?_
    refine ax_istore_n (ls' := [some (.ref u0), some (.int (x1)), some (.int (ax_b r7))]) (q := 22) hX dc_K_join_21 rfl rfl (by decide) rfl ?_
    refine ax_aload_n (q := 23) hX dc_K_join_22 rfl rfl rfl ?_
    obtain ⟨u8, hu9, h⟩ := ax_bd h
    have hs10 : S u8 = some (.inl 1) := hty.1 _ _ _ _ hs0 hu9
    refine ax_getR (q := 26) hX dc_K_join_23 rfl fl_K_36 rfl hs0 hu9 ?_
    refine ax_iload_n (q := 27) hX dc_K_join_26 rfl rfl rfl ?_
    refine ax_if_ne (tgt := 34) (q := 30) hX dc_K_join_27 rfl (by decide) (fun z11 => ?_) (fun z11 => ?_)
    · rw [if_neg z11] at h
      refine ax_iconst (v := 0) (q := 35) hX dc_K_join_34 rfl (by decide) ?_
      exact (e_K_join_35 hX hF hS0 hno hl0  I R u0 (x1) (ax_b r7) (0) u8 hty hs0 hs10 h)
    · rw [if_pos z11] at h
      refine ax_iconst (v := 1) (q := 31) hX dc_K_join_30 rfl (by decide) ?_
      refine ax_goto (tgt := 35) hX dc_K_join_31 (by decide) ?_
      exact (e_K_join_35 hX hF hS0 hno hl0  I R u0 (x1) (ax_b r7) (1) u8 hty hs0 hs10 h)
  · rw [if_pos z4] at h
    cases h
    exact ax_throw hX hF hno hl0 th_K_136_89 dc_K_join_7 dc_K_join_10 dc_K_join_11 dc_K_join_13 dc_K_join_16 (by decide) (by decide) (by decide) (by decide) (by decide) (by decide) ⟨rfl, rfl, rfl, rfl, rfl⟩ (by rw [hS0]; exact fun _ _ z => z)
theorem te_K_join_51 {S : ax_S} {out : (Int32 ⊕ String) × ax_I × ax_R} : ∀ (I : ax_I) (R : ax_R) (u0 : Nat) (x1 : Int32) (x2 : Int32) (y0 : Int32) (w1 : Nat) (y2 : Int32), ax_typ S R → (S u0 = some (.inl 4)) → (S w1 = some (.inl 1)) → d_K_join_51 S  I R u0 x1 x2 y0 w1 y2 = some out → ax_typ S out.2.2 := by
  rintro I R u0 x1 x2 y0 w1 y2 hty hs0_ hw1_ h
  unfold d_K_join_51 at h
  obtain ⟨r21, hr19, h⟩ := ax_bd h
  by_cases z22 : y2 = r21
  · rw [if_pos z22] at h
    obtain ⟨u23, hu24, h⟩ := ax_bd h
    have hs25 : S u23 = some (.inl 1) := hty.1 _ _ _ _ hs0_ hu24
    obtain ⟨u26, hu27, h⟩ := ax_bd h
    have hs28 : S u26 = some (.inl 1) := hty.1 _ _ _ _ hs0_ hu27
    obtain ⟨r31, hr29, h⟩ := ax_bd h
    by_cases z32 : (ax_b r31) = 0
    · rw [if_pos z32] at h
      cases h
      exact hty
    · rw [if_neg z32] at h
      obtain ⟨I35, hr33, h⟩ := ax_bd h
      obtain ⟨u36, hu37, h⟩ := ax_bd h
      have hs38 : S u36 = some (.inl 1) := hty.1 _ _ _ _ hs0_ hu37
      obtain ⟨u39, hu40, h⟩ := ax_bd h
      have hs41 : S u39 = some (.inl 1) := hty.1 _ _ _ _ hs0_ hu40
      obtain ⟨o46, hr42, h⟩ := ax_bd h
      have hty : ax_typ S o46.2 := t_P_takeOver hty hs38 hs41 hr42
      obtain ⟨I47, e48, h⟩ := ax_bs h
      obtain ⟨I49, e50, h⟩ := ax_bs h
      obtain ⟨u51, hu52, h⟩ := ax_bd h
      have hs53 : S u51 = some (.inl 1) := hty.1 _ _ _ _ hs0_ hu52
      cases h
      exact hty
  · rw [if_neg z22] at h
    cases h
    exact hty
theorem te_K_join_35 {S : ax_S} {out : (Int32 ⊕ String) × ax_I × ax_R} : ∀ (I : ax_I) (R : ax_R) (u0 : Nat) (x1 : Int32) (x2 : Int32) (y0 : Int32) (w1 : Nat), ax_typ S R → (S u0 = some (.inl 4)) → (S w1 = some (.inl 1)) → d_K_join_35 S  I R u0 x1 x2 y0 w1 = some out → ax_typ S out.2.2 := by
  rintro I R u0 x1 x2 y0 w1 hty hs0_ hw1_ h
  unfold d_K_join_35 at h
  obtain ⟨r14, hr12, h⟩ := ax_bd h
  obtain ⟨u15, hu16, h⟩ := ax_bd h
  have hs17 : S u15 = some (.inl 1) := hty.1 _ _ _ _ hs0_ hu16
  by_cases z18 : x2 = 0
  · rw [if_pos z18] at h
    exact te_K_join_51   I R u0 (x1) (x2) (1) u15 (r14) hty hs0_ hs17 h
  · rw [if_neg z18] at h
    exact te_K_join_51   I R u0 (x1) (x2) (0) u15 (r14) hty hs0_ hs17 h
theorem t_K_join {S : ax_S} {I : ax_I} {R : ax_R} {u0 : Nat} {x1 : Int32} {out : (Int32 ⊕ String) × ax_I × ax_R} (hty : ax_typ S R) (hs0 : S u0 = some (.inl 4)) (h : d_K_join S I R u0 x1 = some out) : ax_typ S out.2.2 := by
  unfold d_K_join at h
  obtain ⟨r3, hr1, h⟩ := ax_bd h
  by_cases z4 : (ax_b r3) = 0
  · rw [if_pos z4] at h
    cases h
    exact hty
  · rw [if_neg z4] at h
    obtain ⟨r7, hr5, h⟩ := ax_bd h
    obtain ⟨u8, hu9, h⟩ := ax_bd h
    have hs10 : S u8 = some (.inl 1) := hty.1 _ _ _ _ hs0 hu9
    by_cases z11 : (ax_b r7) = 0
    · rw [if_pos z11] at h
      exact te_K_join_35   I R u0 (x1) (ax_b r7) (1) u8 hty hs0 hs10 h
    · rw [if_neg z11] at h
      exact te_K_join_35   I R u0 (x1) (ax_b r7) (0) u8 hty hs0 hs10 h
def d_K_at (S : ax_S) (I : ax_I) (R : ax_R) (u0 : Nat) (x1 : Int32) (x2 : Int32) : Option ((Int32 ⊕ String)) :=
  (R u0 4).bind fun u1 =>
  (d_P_hasTile S I R u1 (x1)).bind fun r6 =>
  if (ax_b r6) = 0 then
    some (.inr "java/lang/IndexOutOfBoundsException")
  else
    (R u0 4).bind fun u8 =>
    (R u8 0).bind fun u11 =>
    (ax_ix S u11 (x1)).bind fun j15 =>
    (R u11 j15).bind fun u17 =>
    if x2 = 0 then
      some (.inl (I u17 2))
    else
    if x2 = 1 then
      some (.inl (I u17 3))
    else
    if x2 = 2 then
      some (.inl (I u17 4))
    else
    if x2 = 3 then
      some (.inl (I u17 5))
    else
    if x2 = 4 then
      some (.inl (I u17 6))
    else
    if x2 = 5 then
      some (.inl (I u17 1))
    else
    if x2 = 6 then
      (d_T_ownWidth S I R u17).bind fun r29 =>
      some (.inl (r29))
    else
    if x2 = 7 then
      (d_T_ownHeight S I R u17).bind fun r33 =>
      some (.inl (r33))
    else
    some (.inl ((-1)))
set_option maxHeartbeats 1000000 in
theorem c_K_at (l : Launch) (hl0 : l.stackTraces = false) {S : ax_S} {I : ax_I} {R : ax_R} {L : ax_L} {u0 : Nat} {x1 : Int32} {x2 : Int32} {out : (Int32 ⊕ String)} (hty : ax_typ S R) (hs0 : S u0 = some (.inl 4)) (h : d_K_at S I R u0 x1 x2 = some out) : ax_MetX l y_K_at b_K_at 4 (some .int) (ax_rm 6 1 6) [.ref u0, .int x1, .int x2] S I R L (ax_eqX out S I R L) := by
  refine ax_enterX (own := "LossFreeTools") (by decide +kernel) rfl (ax_cats rfl) (Nat.le_of_ble_eq_true rfl) (fun X hX hF hno hS0 => ?_)
  show ax_W X 4 0 [some (.ref u0), some (.int (x1)), some (.int (x2)), none] [] S I R L 0 0
  unfold d_K_at at h
  refine ax_aload_n (q := 1) hX dc_K_at_0 rfl rfl rfl ?_
  obtain ⟨u1, hu2, h⟩ := ax_bd h
  have hs3 : S u1 = some (.inl 1) := hty.1 _ _ _ _ hs0 hu2
  refine ax_getR (q := 4) hX dc_K_at_1 rfl fl_K_36 rfl hs0 hu2 ?_
  refine ax_iload_n (q := 5) hX dc_K_at_4 rfl rfl rfl ?_
  obtain ⟨r6, hr4, h⟩ := ax_bd h
  refine ax_kV (vs := [.int (x1)]) (rest := []) (q := 8) hX dc_K_at_5 rfl mt_P_hasTile wl_K_81 wi_P_hasTile ws_P_hasTile hs3 rfl (c_P_hasTile l hty hs3 hr4) rfl (by decide) rfl (Nat.le_of_ble_eq_true rfl) rfl rfl (by decide) (by decide) rfl ?_
  refine ax_if_ne (tgt := 21) (q := 11) hX dc_K_at_8 rfl (by decide) (fun z7 => ?_) (fun z7 => ?_)
  · rw [if_neg z7] at h
    refine ax_aload_n (q := 22) hX dc_K_at_21 rfl rfl rfl ?_
    obtain ⟨u8, hu9, h⟩ := ax_bd h
    have hs10 : S u8 = some (.inl 1) := hty.1 _ _ _ _ hs0 hu9
    refine ax_getR (q := 25) hX dc_K_at_22 rfl fl_K_36 rfl hs0 hu9 ?_
    obtain ⟨u11, hu12, h⟩ := ax_bd h
    obtain ⟨n14, hs13⟩ : ∃ n, S u11 = some (.inr (2, n)) := hty.1 _ _ _ _ hs10 hu12
    refine ax_getR (q := 28) hX dc_K_at_25 rfl fl_K_95 rfl hs10 hu12 ?_
    refine ax_iload_n (q := 29) hX dc_K_at_28 rfl rfl rfl ?_
    obtain ⟨j15, hj16, h⟩ := ax_bd h
    have hj16 := ax_ix_s hty hs13 hj16
    obtain ⟨u17, hu18, h⟩ := ax_bd h
    have hs19 : S u17 = some (.inl 3) := hty.2.1 _ _ _ _ hs13 hu18
    refine ax_aald (q := 30) hX j15 dc_K_at_29 rfl hs13 rfl rfl hj16.1 hj16.2.1 hj16.2.2 hu18 ?_
    refine ax_astore_n (ls' := [some (.ref u0), some (.int (x1)), some (.int (x2)), some (.ref u17)]) (q := 31) hX dc_K_at_30 rfl rfl (by decide) rfl ?_
    refine ax_iload_n (q := 32) hX dc_K_at_31 rfl rfl rfl ?_
    by_cases z20 : x2 = 0
    · rw [if_pos z20] at h
      refine ax_tsIn (tgt := 80) hX dc_K_at_32 (by rw [z20]; decide) (by rw [z20]; decide) (by rw [z20]; rfl) (by decide) ?_
      refine ax_aload_n (q := 81) hX dc_K_at_80 rfl rfl rfl ?_
      refine ax_getI (q := 84) hX dc_K_at_81 rfl fl_K_176 rfl hs19 ?_
      cases h
      exact ax_iret hX hF dc_K_at_84 rfl rfl (by decide) (by decide) ⟨rfl, rfl, rfl, rfl, rfl⟩ (by rw [hS0]; exact fun _ _ z => z)
    rw [if_neg z20] at h
    by_cases z21 : x2 = 1
    · rw [if_pos z21] at h
      refine ax_tsIn (tgt := 85) hX dc_K_at_32 (by rw [z21]; decide) (by rw [z21]; decide) (by rw [z21]; rfl) (by decide) ?_
      refine ax_aload_n (q := 86) hX dc_K_at_85 rfl rfl rfl ?_
      refine ax_getI (q := 89) hX dc_K_at_86 rfl fl_K_179 rfl hs19 ?_
      cases h
      exact ax_iret hX hF dc_K_at_89 rfl rfl (by decide) (by decide) ⟨rfl, rfl, rfl, rfl, rfl⟩ (by rw [hS0]; exact fun _ _ z => z)
    rw [if_neg z21] at h
    by_cases z22 : x2 = 2
    · rw [if_pos z22] at h
      refine ax_tsIn (tgt := 90) hX dc_K_at_32 (by rw [z22]; decide) (by rw [z22]; decide) (by rw [z22]; rfl) (by decide) ?_
      refine ax_aload_n (q := 91) hX dc_K_at_90 rfl rfl rfl ?_
      refine ax_getI (q := 94) hX dc_K_at_91 rfl fl_K_182 rfl hs19 ?_
      cases h
      exact ax_iret hX hF dc_K_at_94 rfl rfl (by decide) (by decide) ⟨rfl, rfl, rfl, rfl, rfl⟩ (by rw [hS0]; exact fun _ _ z => z)
    rw [if_neg z22] at h
    by_cases z23 : x2 = 3
    · rw [if_pos z23] at h
      refine ax_tsIn (tgt := 95) hX dc_K_at_32 (by rw [z23]; decide) (by rw [z23]; decide) (by rw [z23]; rfl) (by decide) ?_
      refine ax_aload_n (q := 96) hX dc_K_at_95 rfl rfl rfl ?_
      refine ax_getI (q := 99) hX dc_K_at_96 rfl fl_K_185 rfl hs19 ?_
      cases h
      exact ax_iret hX hF dc_K_at_99 rfl rfl (by decide) (by decide) ⟨rfl, rfl, rfl, rfl, rfl⟩ (by rw [hS0]; exact fun _ _ z => z)
    rw [if_neg z23] at h
    by_cases z24 : x2 = 4
    · rw [if_pos z24] at h
      refine ax_tsIn (tgt := 100) hX dc_K_at_32 (by rw [z24]; decide) (by rw [z24]; decide) (by rw [z24]; rfl) (by decide) ?_
      refine ax_aload_n (q := 101) hX dc_K_at_100 rfl rfl rfl ?_
      refine ax_getI (q := 104) hX dc_K_at_101 rfl fl_K_188 rfl hs19 ?_
      cases h
      exact ax_iret hX hF dc_K_at_104 rfl rfl (by decide) (by decide) ⟨rfl, rfl, rfl, rfl, rfl⟩ (by rw [hS0]; exact fun _ _ z => z)
    rw [if_neg z24] at h
    by_cases z25 : x2 = 5
    · rw [if_pos z25] at h
      refine ax_tsIn (tgt := 105) hX dc_K_at_32 (by rw [z25]; decide) (by rw [z25]; decide) (by rw [z25]; rfl) (by decide) ?_
      refine ax_aload_n (q := 106) hX dc_K_at_105 rfl rfl rfl ?_
      refine ax_getI (q := 109) hX dc_K_at_106 rfl fl_K_99 rfl hs19 ?_
      cases h
      exact ax_iret hX hF dc_K_at_109 rfl rfl (by decide) (by decide) ⟨rfl, rfl, rfl, rfl, rfl⟩ (by rw [hS0]; exact fun _ _ z => z)
    rw [if_neg z25] at h
    by_cases z26 : x2 = 6
    · rw [if_pos z26] at h
      refine ax_tsIn (tgt := 110) hX dc_K_at_32 (by rw [z26]; decide) (by rw [z26]; decide) (by rw [z26]; rfl) (by decide) ?_
      refine ax_aload_n (q := 111) hX dc_K_at_110 rfl rfl rfl ?_
      obtain ⟨r29, hr27, h⟩ := ax_bd h
      refine ax_kV (vs := []) (rest := []) (q := 114) hX dc_K_at_111 rfl mt_T_ownWidth wl_K_191 wi_T_ownWidth ws_T_ownWidth hs19 rfl (c_T_ownWidth l hty hs19 hr27) rfl (by decide) rfl (Nat.le_of_ble_eq_true rfl) rfl rfl (by decide) (by decide) rfl ?_
      cases h
      exact ax_iret hX hF dc_K_at_114 rfl rfl (by decide) (by decide) ⟨rfl, rfl, rfl, rfl, rfl⟩ (by rw [hS0]; exact fun _ _ z => z)
    rw [if_neg z26] at h
    by_cases z30 : x2 = 7
    · rw [if_pos z30] at h
      refine ax_tsIn (tgt := 115) hX dc_K_at_32 (by rw [z30]; decide) (by rw [z30]; decide) (by rw [z30]; rfl) (by decide) ?_
      refine ax_aload_n (q := 116) hX dc_K_at_115 rfl rfl rfl ?_
      obtain ⟨r33, hr31, h⟩ := ax_bd h
      refine ax_kV (vs := []) (rest := []) (q := 119) hX dc_K_at_116 rfl mt_T_ownHeight wl_K_195 wi_T_ownHeight ws_T_ownHeight hs19 rfl (c_T_ownHeight l hty hs19 hr31) rfl (by decide) rfl (Nat.le_of_ble_eq_true rfl) rfl rfl (by decide) (by decide) rfl ?_
      cases h
      exact ax_iret hX hF dc_K_at_119 rfl rfl (by decide) (by decide) ⟨rfl, rfl, rfl, rfl, rfl⟩ (by rw [hS0]; exact fun _ _ z => z)
    rw [if_neg z30] at h
    refine ax_tsOut (tgt := 120) hX dc_K_at_32 (ax_out8 z20 z21 z22 z23 z24 z25 z26 z30) (by decide) ?_
    refine ax_iconst (v := (-1)) (q := 121) hX dc_K_at_120 rfl (by decide) ?_
    cases h
    exact ax_iret hX hF dc_K_at_121 rfl rfl (by decide) (by decide) ⟨rfl, rfl, rfl, rfl, rfl⟩ (by rw [hS0]; exact fun _ _ z => z)
  · rw [if_pos z7] at h
    cases h
    exact ax_throw hX hF hno hl0 th_K_87_89 dc_K_at_11 dc_K_at_14 dc_K_at_15 dc_K_at_17 dc_K_at_20 (by decide) (by decide) (by decide) (by decide) (by decide) (by decide) ⟨rfl, rfl, rfl, rfl, rfl⟩ (by rw [hS0]; exact fun _ _ z => z)
def d_K_byteAt_43 (S : ax_S) (I : ax_I) (R : ax_R) : Option ((Int32 ⊕ String)) :=
  some (.inr "java/lang/IndexOutOfBoundsException")
set_option maxHeartbeats 1000000 in
theorem e_K_byteAt_43 {l : Launch} {X : ax_X} {S : ax_S} {L : ax_L} {I0 : ax_I} {R0 : ax_R} {out : (Int32 ⊕ String)} (hX : ax_ok X l "LossFreeTools" b_K_byteAt 4 (ax_rm 6 1 6)) (hF : ax_fin X (some .int) 1 6 (ax_eqX out S I0 R0 L)) (hS0 : ax_S0 X = S) (hno : ax_noh X) (hl0 : l.stackTraces = false) : ∀ (I : ax_I) (R : ax_R), ax_typ S R → I = I0 → R = R0 → d_K_byteAt_43 S  I R = some out → ax_W X 4 43 [none, none, none, none] [] S I R L 0 0 := by
  rintro I R hty hI0 hR0 h
  subst hI0
  subst hR0
  unfold d_K_byteAt_43 at h
  cases h
  exact ax_throw hX hF hno hl0 th_K_198_89 dc_K_byteAt_43 dc_K_byteAt_46 dc_K_byteAt_47 dc_K_byteAt_49 dc_K_byteAt_52 (by decide) (by decide) (by decide) (by decide) (by decide) (by decide) ⟨rfl, rfl, rfl, rfl, rfl⟩ (by rw [hS0]; exact fun _ _ z => z)
def d_K_byteAt (S : ax_S) (I : ax_I) (R : ax_R) (u0 : Nat) (x1 : Int32) (x2 : Int32) : Option ((Int32 ⊕ String)) :=
  (R u0 4).bind fun u1 =>
  (d_P_hasTile S I R u1 (x1)).bind fun r6 =>
  if (ax_b r6) = 0 then
    some (.inr "java/lang/IndexOutOfBoundsException")
  else
    (R u0 4).bind fun u8 =>
    (R u8 0).bind fun u11 =>
    (ax_ix S u11 (x1)).bind fun j15 =>
    (R u11 j15).bind fun u17 =>
    if x2 < 0 then
      d_K_byteAt_43 S  I R 
    else
      if x2 < (I u17 1) then
        (R u17 0).bind fun u22 =>
        (ax_ix S u22 (x2)).bind fun j26 =>
        some (.inl (I u22 j26))
      else
        d_K_byteAt_43 S  I R 
set_option maxHeartbeats 1000000 in
theorem c_K_byteAt (l : Launch) (hl0 : l.stackTraces = false) {S : ax_S} {I : ax_I} {R : ax_R} {L : ax_L} {u0 : Nat} {x1 : Int32} {x2 : Int32} {out : (Int32 ⊕ String)} (hty : ax_typ S R) (hs0 : S u0 = some (.inl 4)) (h : d_K_byteAt S I R u0 x1 x2 = some out) : ax_MetX l y_K_byteAt b_K_byteAt 4 (some .int) (ax_rm 6 1 6) [.ref u0, .int x1, .int x2] S I R L (ax_eqX out S I R L) := by
  refine ax_enterX (own := "LossFreeTools") (by decide +kernel) rfl (ax_cats rfl) (Nat.le_of_ble_eq_true rfl) (fun X hX hF hno hS0 => ?_)
  show ax_W X 4 0 [some (.ref u0), some (.int (x1)), some (.int (x2)), none] [] S I R L 0 0
  unfold d_K_byteAt at h
  refine ax_aload_n (q := 1) hX dc_K_byteAt_0 rfl rfl rfl ?_
  obtain ⟨u1, hu2, h⟩ := ax_bd h
  have hs3 : S u1 = some (.inl 1) := hty.1 _ _ _ _ hs0 hu2
  refine ax_getR (q := 4) hX dc_K_byteAt_1 rfl fl_K_36 rfl hs0 hu2 ?_
  refine ax_iload_n (q := 5) hX dc_K_byteAt_4 rfl rfl rfl ?_
  obtain ⟨r6, hr4, h⟩ := ax_bd h
  refine ax_kV (vs := [.int (x1)]) (rest := []) (q := 8) hX dc_K_byteAt_5 rfl mt_P_hasTile wl_K_81 wi_P_hasTile ws_P_hasTile hs3 rfl (c_P_hasTile l hty hs3 hr4) rfl (by decide) rfl (Nat.le_of_ble_eq_true rfl) rfl rfl (by decide) (by decide) rfl ?_
  refine ax_if_ne (tgt := 21) (q := 11) hX dc_K_byteAt_8 rfl (by decide) (fun z7 => ?_) (fun z7 => ?_)
  · rw [if_neg z7] at h
    refine ax_aload_n (q := 22) hX dc_K_byteAt_21 rfl rfl rfl ?_
    obtain ⟨u8, hu9, h⟩ := ax_bd h
    have hs10 : S u8 = some (.inl 1) := hty.1 _ _ _ _ hs0 hu9
    refine ax_getR (q := 25) hX dc_K_byteAt_22 rfl fl_K_36 rfl hs0 hu9 ?_
    obtain ⟨u11, hu12, h⟩ := ax_bd h
    obtain ⟨n14, hs13⟩ : ∃ n, S u11 = some (.inr (2, n)) := hty.1 _ _ _ _ hs10 hu12
    refine ax_getR (q := 28) hX dc_K_byteAt_25 rfl fl_K_95 rfl hs10 hu12 ?_
    refine ax_iload_n (q := 29) hX dc_K_byteAt_28 rfl rfl rfl ?_
    obtain ⟨j15, hj16, h⟩ := ax_bd h
    have hj16 := ax_ix_s hty hs13 hj16
    obtain ⟨u17, hu18, h⟩ := ax_bd h
    have hs19 : S u17 = some (.inl 3) := hty.2.1 _ _ _ _ hs13 hu18
    refine ax_aald (q := 30) hX j15 dc_K_byteAt_29 rfl hs13 rfl rfl hj16.1 hj16.2.1 hj16.2.2 hu18 ?_
    refine ax_astore_n (ls' := [some (.ref u0), some (.int (x1)), some (.int (x2)), some (.ref u17)]) (q := 31) hX dc_K_byteAt_30 rfl rfl (by decide) rfl ?_
    refine ax_iload_n (q := 32) hX dc_K_byteAt_31 rfl rfl rfl ?_
    refine ax_if_lt (tgt := 43) (q := 35) hX dc_K_byteAt_32 rfl (by decide) (fun z20 => ?_) (fun z20 => ?_)
    · rw [if_pos z20] at h
      exact ax_weak (ls' := [none, none, none, none]) (ax_fewP_s _ _ (by repeat (first | exact trivial | (refine And.intro rfl ?_)))) (e_K_byteAt_43 hX hF hS0 hno hl0  I R  hty  rfl rfl h)
    · rw [if_neg z20] at h
      refine ax_iload_n (q := 36) hX dc_K_byteAt_35 rfl rfl rfl ?_
      refine ax_aload_n (q := 37) hX dc_K_byteAt_36 rfl rfl rfl ?_
      refine ax_getI (q := 40) hX dc_K_byteAt_37 rfl fl_K_99 rfl hs19 ?_
      refine ax_icmp_lt (tgt := 53) (q := 43) hX dc_K_byteAt_40 rfl (by decide) (fun z21 => ?_) (fun z21 => ?_)
      · rw [if_pos z21] at h
        refine ax_aload_n (q := 54) hX dc_K_byteAt_53 rfl rfl rfl ?_
        obtain ⟨u22, hu23, h⟩ := ax_bd h
        obtain ⟨n25, hs24⟩ : ∃ n, S u22 = some (.inr (0, n)) := hty.1 _ _ _ _ hs19 hu23
        refine ax_getR (q := 57) hX dc_K_byteAt_54 rfl fl_K_200 rfl hs19 hu23 ?_
        refine ax_iload_n (q := 58) hX dc_K_byteAt_57 rfl rfl rfl ?_
        obtain ⟨j26, hj27, h⟩ := ax_bd h
        have hj27 := ax_ix_s hty hs24 hj27
        refine ax_iald (q := 59) hX j26 dc_K_byteAt_58 rfl hs24 hj27.1 hj27.2.1 hj27.2.2 ?_
        cases h
        exact ax_iret hX hF dc_K_byteAt_59 rfl rfl (by decide) (by decide) ⟨rfl, rfl, rfl, rfl, rfl⟩ (by rw [hS0]; exact fun _ _ z => z)
      · rw [if_neg z21] at h
        exact ax_weak (ls' := [none, none, none, none]) (ax_fewP_s _ _ (by repeat (first | exact trivial | (refine And.intro rfl ?_)))) (e_K_byteAt_43 hX hF hS0 hno hl0  I R  hty  rfl rfl h)
  · rw [if_pos z7] at h
    cases h
    exact ax_throw hX hF hno hl0 th_K_87_89 dc_K_byteAt_11 dc_K_byteAt_14 dc_K_byteAt_15 dc_K_byteAt_17 dc_K_byteAt_20 (by decide) (by decide) (by decide) (by decide) (by decide) (by decide) ⟨rfl, rfl, rfl, rfl, rfl⟩ (by rw [hS0]; exact fun _ _ z => z)
def d_K_shown (S : ax_S) (I : ax_I) (R : ax_R) (u0 : Nat) (x1 : Int32) (x2 : Int32) : Option ((Int32 ⊕ String)) :=
  (R u0 4).bind fun u1 =>
  (d_P_hasSample S I R u1 (x1) (x2)).bind fun r6 =>
  if (ax_b r6) = 0 then
    some (.inr "java/lang/IndexOutOfBoundsException")
  else
    (R u0 4).bind fun u8 =>
    (d_P_tileOver S I R u8 (x1) (x2)).bind fun r13 =>
    if r13 = (-1) then
      some (.inl ((-1)))
    else
      (R u0 4).bind fun u15 =>
      (R u15 0).bind fun u18 =>
      (ax_ix S u18 (r13)).bind fun j22 =>
      (R u18 j22).bind fun u24 =>
      (d_T_ownSample S I R u24 (x1) (x2)).bind fun r29 =>
      some (.inl ((4096 * r13) + r29))
set_option maxHeartbeats 1000000 in
theorem c_K_shown (l : Launch) (hl0 : l.stackTraces = false) {S : ax_S} {I : ax_I} {R : ax_R} {L : ax_L} {u0 : Nat} {x1 : Int32} {x2 : Int32} {out : (Int32 ⊕ String)} (hty : ax_typ S R) (hs0 : S u0 = some (.inl 4)) (h : d_K_shown S I R u0 x1 x2 = some out) : ax_MetX l y_K_shown b_K_shown 4 (some .int) (ax_rm 6 1 6) [.ref u0, .int x1, .int x2] S I R L (ax_eqX out S I R L) := by
  refine ax_enterX (own := "LossFreeTools") (by decide +kernel) rfl (ax_cats rfl) (Nat.le_of_ble_eq_true rfl) (fun X hX hF hno hS0 => ?_)
  show ax_W X 4 0 [some (.ref u0), some (.int (x1)), some (.int (x2)), none] [] S I R L 0 0
  unfold d_K_shown at h
  refine ax_aload_n (q := 1) hX dc_K_shown_0 rfl rfl rfl ?_
  obtain ⟨u1, hu2, h⟩ := ax_bd h
  have hs3 : S u1 = some (.inl 1) := hty.1 _ _ _ _ hs0 hu2
  refine ax_getR (q := 4) hX dc_K_shown_1 rfl fl_K_36 rfl hs0 hu2 ?_
  refine ax_iload_n (q := 5) hX dc_K_shown_4 rfl rfl rfl ?_
  refine ax_iload_n (q := 6) hX dc_K_shown_5 rfl rfl rfl ?_
  obtain ⟨r6, hr4, h⟩ := ax_bd h
  refine ax_kV (vs := [.int (x1), .int (x2)]) (rest := []) (q := 9) hX dc_K_shown_6 rfl mt_P_hasSample wl_K_109 wi_P_hasSample ws_P_hasSample hs3 rfl (c_P_hasSample l hty hs3 hr4) rfl (by decide) rfl (Nat.le_of_ble_eq_true rfl) rfl rfl (by decide) (by decide) rfl ?_
  refine ax_if_ne (tgt := 22) (q := 12) hX dc_K_shown_9 rfl (by decide) (fun z7 => ?_) (fun z7 => ?_)
  · rw [if_neg z7] at h
    refine ax_aload_n (q := 23) hX dc_K_shown_22 rfl rfl rfl ?_
    obtain ⟨u8, hu9, h⟩ := ax_bd h
    have hs10 : S u8 = some (.inl 1) := hty.1 _ _ _ _ hs0 hu9
    refine ax_getR (q := 26) hX dc_K_shown_23 rfl fl_K_36 rfl hs0 hu9 ?_
    refine ax_iload_n (q := 27) hX dc_K_shown_26 rfl rfl rfl ?_
    refine ax_iload_n (q := 28) hX dc_K_shown_27 rfl rfl rfl ?_
    obtain ⟨r13, hr11, h⟩ := ax_bd h
    refine ax_kV (vs := [.int (x1), .int (x2)]) (rest := []) (q := 31) hX dc_K_shown_28 rfl mt_P_tileOver wl_K_203 wi_P_tileOver ws_P_tileOver hs10 rfl (c_P_tileOver l hty hs10 hr11) rfl (by decide) rfl (Nat.le_of_ble_eq_true rfl) rfl rfl (by decide) (by decide) rfl ?_
    refine ax_istore_n (ls' := [some (.ref u0), some (.int (x1)), some (.int (x2)), some (.int (r13))]) (q := 32) hX dc_K_shown_31 rfl rfl (by decide) rfl ?_
    refine ax_iload_n (q := 33) hX dc_K_shown_32 rfl rfl rfl ?_
    refine ax_iconst (v := (-1)) (q := 34) hX dc_K_shown_33 rfl (by decide) ?_
    refine ax_icmp_ne (tgt := 39) (q := 37) hX dc_K_shown_34 rfl (by decide) (fun z14 => ?_) (fun z14 => ?_)
    · rw [if_neg z14] at h
      refine ax_sipush (v := 4096) (q := 42) hX dc_K_shown_39 rfl (by decide) ?_
      refine ax_iload_n (q := 43) hX dc_K_shown_42 rfl rfl rfl ?_
      refine ax_imul (q := 44) hX dc_K_shown_43 rfl ?_
      refine ax_aload_n (q := 45) hX dc_K_shown_44 rfl rfl rfl ?_
      obtain ⟨u15, hu16, h⟩ := ax_bd h
      have hs17 : S u15 = some (.inl 1) := hty.1 _ _ _ _ hs0 hu16
      refine ax_getR (q := 48) hX dc_K_shown_45 rfl fl_K_36 rfl hs0 hu16 ?_
      obtain ⟨u18, hu19, h⟩ := ax_bd h
      obtain ⟨n21, hs20⟩ : ∃ n, S u18 = some (.inr (2, n)) := hty.1 _ _ _ _ hs17 hu19
      refine ax_getR (q := 51) hX dc_K_shown_48 rfl fl_K_95 rfl hs17 hu19 ?_
      refine ax_iload_n (q := 52) hX dc_K_shown_51 rfl rfl rfl ?_
      obtain ⟨j22, hj23, h⟩ := ax_bd h
      have hj23 := ax_ix_s hty hs20 hj23
      obtain ⟨u24, hu25, h⟩ := ax_bd h
      have hs26 : S u24 = some (.inl 3) := hty.2.1 _ _ _ _ hs20 hu25
      refine ax_aald (q := 53) hX j22 dc_K_shown_52 rfl hs20 rfl rfl hj23.1 hj23.2.1 hj23.2.2 hu25 ?_
      refine ax_iload_n (q := 54) hX dc_K_shown_53 rfl rfl rfl ?_
      refine ax_iload_n (q := 55) hX dc_K_shown_54 rfl rfl rfl ?_
      obtain ⟨r29, hr27, h⟩ := ax_bd h
      refine ax_kV (vs := [.int (x1), .int (x2)]) (rest := [.int (4096 * r13)]) (q := 58) hX dc_K_shown_55 rfl mt_T_ownSample wl_K_206 wi_T_ownSample ws_T_ownSample hs26 rfl (c_T_ownSample l hty hs26 hr27) rfl (by decide) rfl (Nat.le_of_ble_eq_true rfl) rfl rfl (by decide) (by decide) rfl ?_
      refine ax_iadd (q := 59) hX dc_K_shown_58 rfl ?_
      cases h
      exact ax_iret hX hF dc_K_shown_59 rfl rfl (by decide) (by decide) ⟨rfl, rfl, rfl, rfl, rfl⟩ (by rw [hS0]; exact fun _ _ z => z)
    · rw [if_pos z14] at h
      refine ax_iconst (v := (-1)) (q := 38) hX dc_K_shown_37 rfl (by decide) ?_
      cases h
      exact ax_iret hX hF dc_K_shown_38 rfl rfl (by decide) (by decide) ⟨rfl, rfl, rfl, rfl, rfl⟩ (by rw [hS0]; exact fun _ _ z => z)
  · rw [if_pos z7] at h
    cases h
    exact ax_throw hX hF hno hl0 th_K_113_89 dc_K_shown_12 dc_K_shown_15 dc_K_shown_16 dc_K_shown_18 dc_K_shown_21 (by decide) (by decide) (by decide) (by decide) (by decide) (by decide) ⟨rfl, rfl, rfl, rfl, rfl⟩ (by rw [hS0]; exact fun _ _ z => z)
def d_K_noteAt_15 (S : ax_S) (I : ax_I) (R : ax_R) : Option ((Int32 ⊕ String)) :=
  some (.inr "java/lang/IndexOutOfBoundsException")
set_option maxHeartbeats 1000000 in
theorem e_K_noteAt_15 {l : Launch} {X : ax_X} {S : ax_S} {L : ax_L} {I0 : ax_I} {R0 : ax_R} {out : (Int32 ⊕ String)} (hX : ax_ok X l "LossFreeTools" b_K_noteAt 4 (ax_rm 6 1 6)) (hF : ax_fin X (some .int) 1 6 (ax_eqX out S I0 R0 L)) (hS0 : ax_S0 X = S) (hno : ax_noh X) (hl0 : l.stackTraces = false) : ∀ (I : ax_I) (R : ax_R), ax_typ S R → I = I0 → R = R0 → d_K_noteAt_15 S  I R = some out → ax_W X 4 15 [none, none, none, none] [] S I R L 0 0 := by
  rintro I R hty hI0 hR0 h
  subst hI0
  subst hR0
  unfold d_K_noteAt_15 at h
  cases h
  exact ax_throw hX hF hno hl0 th_K_209_89 dc_K_noteAt_15 dc_K_noteAt_18 dc_K_noteAt_19 dc_K_noteAt_21 dc_K_noteAt_24 (by decide) (by decide) (by decide) (by decide) (by decide) (by decide) ⟨rfl, rfl, rfl, rfl, rfl⟩ (by rw [hS0]; exact fun _ _ z => z)
def d_K_noteAt (S : ax_S) (I : ax_I) (R : ax_R) (u0 : Nat) (x1 : Int32) (x2 : Int32) : Option ((Int32 ⊕ String)) :=
  if x1 < 0 then
    d_K_noteAt_15 S  I R 
  else
    (R u0 4).bind fun u2 =>
    if x1 < (I u2 3) then
      (R u0 4).bind fun u6 =>
      (R u6 1).bind fun u9 =>
      (ax_ix S u9 (x1)).bind fun j13 =>
      (R u9 j13).bind fun u15 =>
      if x2 = 0 then
        some (.inl (I u15 0))
      else
      if x2 = 1 then
        some (.inl (I u15 1))
      else
      if x2 = 2 then
        some (.inl (I u15 2))
      else
      some (.inl ((-1)))
    else
      d_K_noteAt_15 S  I R 
set_option maxHeartbeats 1000000 in
theorem c_K_noteAt (l : Launch) (hl0 : l.stackTraces = false) {S : ax_S} {I : ax_I} {R : ax_R} {L : ax_L} {u0 : Nat} {x1 : Int32} {x2 : Int32} {out : (Int32 ⊕ String)} (hty : ax_typ S R) (hs0 : S u0 = some (.inl 4)) (h : d_K_noteAt S I R u0 x1 x2 = some out) : ax_MetX l y_K_noteAt b_K_noteAt 4 (some .int) (ax_rm 6 1 6) [.ref u0, .int x1, .int x2] S I R L (ax_eqX out S I R L) := by
  refine ax_enterX (own := "LossFreeTools") (by decide +kernel) rfl (ax_cats rfl) (Nat.le_of_ble_eq_true rfl) (fun X hX hF hno hS0 => ?_)
  show ax_W X 4 0 [some (.ref u0), some (.int (x1)), some (.int (x2)), none] [] S I R L 0 0
  unfold d_K_noteAt at h
  refine ax_iload_n (q := 1) hX dc_K_noteAt_0 rfl rfl rfl ?_
  refine ax_if_lt (tgt := 15) (q := 4) hX dc_K_noteAt_1 rfl (by decide) (fun z1 => ?_) (fun z1 => ?_)
  · rw [if_pos z1] at h
    exact ax_weak (ls' := [none, none, none, none]) (ax_fewP_s _ _ (by repeat (first | exact trivial | (refine And.intro rfl ?_)))) (e_K_noteAt_15 hX hF hS0 hno hl0  I R  hty  rfl rfl h)
  · rw [if_neg z1] at h
    refine ax_iload_n (q := 5) hX dc_K_noteAt_4 rfl rfl rfl ?_
    refine ax_aload_n (q := 6) hX dc_K_noteAt_5 rfl rfl rfl ?_
    obtain ⟨u2, hu3, h⟩ := ax_bd h
    have hs4 : S u2 = some (.inl 1) := hty.1 _ _ _ _ hs0 hu3
    refine ax_getR (q := 9) hX dc_K_noteAt_6 rfl fl_K_36 rfl hs0 hu3 ?_
    refine ax_getI (q := 12) hX dc_K_noteAt_9 rfl fl_K_115 rfl hs4 ?_
    refine ax_icmp_lt (tgt := 25) (q := 15) hX dc_K_noteAt_12 rfl (by decide) (fun z5 => ?_) (fun z5 => ?_)
    · rw [if_pos z5] at h
      refine ax_aload_n (q := 26) hX dc_K_noteAt_25 rfl rfl rfl ?_
      obtain ⟨u6, hu7, h⟩ := ax_bd h
      have hs8 : S u6 = some (.inl 1) := hty.1 _ _ _ _ hs0 hu7
      refine ax_getR (q := 29) hX dc_K_noteAt_26 rfl fl_K_36 rfl hs0 hu7 ?_
      obtain ⟨u9, hu10, h⟩ := ax_bd h
      obtain ⟨n12, hs11⟩ : ∃ n, S u9 = some (.inr (3, n)) := hty.1 _ _ _ _ hs8 hu10
      refine ax_getR (q := 32) hX dc_K_noteAt_29 rfl fl_K_211 rfl hs8 hu10 ?_
      refine ax_iload_n (q := 33) hX dc_K_noteAt_32 rfl rfl rfl ?_
      obtain ⟨j13, hj14, h⟩ := ax_bd h
      have hj14 := ax_ix_s hty hs11 hj14
      obtain ⟨u15, hu16, h⟩ := ax_bd h
      have hs17 : S u15 = some (.inl 0) := hty.2.2.1 _ _ _ _ hs11 hu16
      refine ax_aald (q := 34) hX j13 dc_K_noteAt_33 rfl hs11 rfl rfl hj14.1 hj14.2.1 hj14.2.2 hu16 ?_
      refine ax_astore_n (ls' := [some (.ref u0), some (.int (x1)), some (.int (x2)), some (.ref u15)]) (q := 35) hX dc_K_noteAt_34 rfl rfl (by decide) rfl ?_
      refine ax_iload_n (q := 36) hX dc_K_noteAt_35 rfl rfl rfl ?_
      by_cases z18 : x2 = 0
      · rw [if_pos z18] at h
        refine ax_tsIn (tgt := 64) hX dc_K_noteAt_36 (by rw [z18]; decide) (by rw [z18]; decide) (by rw [z18]; rfl) (by decide) ?_
        refine ax_aload_n (q := 65) hX dc_K_noteAt_64 rfl rfl rfl ?_
        refine ax_getI (q := 68) hX dc_K_noteAt_65 rfl fl_K_215 rfl hs17 ?_
        cases h
        exact ax_iret hX hF dc_K_noteAt_68 rfl rfl (by decide) (by decide) ⟨rfl, rfl, rfl, rfl, rfl⟩ (by rw [hS0]; exact fun _ _ z => z)
      rw [if_neg z18] at h
      by_cases z19 : x2 = 1
      · rw [if_pos z19] at h
        refine ax_tsIn (tgt := 69) hX dc_K_noteAt_36 (by rw [z19]; decide) (by rw [z19]; decide) (by rw [z19]; rfl) (by decide) ?_
        refine ax_aload_n (q := 70) hX dc_K_noteAt_69 rfl rfl rfl ?_
        refine ax_getI (q := 73) hX dc_K_noteAt_70 rfl fl_K_218 rfl hs17 ?_
        cases h
        exact ax_iret hX hF dc_K_noteAt_73 rfl rfl (by decide) (by decide) ⟨rfl, rfl, rfl, rfl, rfl⟩ (by rw [hS0]; exact fun _ _ z => z)
      rw [if_neg z19] at h
      by_cases z20 : x2 = 2
      · rw [if_pos z20] at h
        refine ax_tsIn (tgt := 74) hX dc_K_noteAt_36 (by rw [z20]; decide) (by rw [z20]; decide) (by rw [z20]; rfl) (by decide) ?_
        refine ax_aload_n (q := 75) hX dc_K_noteAt_74 rfl rfl rfl ?_
        refine ax_getI (q := 78) hX dc_K_noteAt_75 rfl fl_K_219 rfl hs17 ?_
        cases h
        exact ax_iret hX hF dc_K_noteAt_78 rfl rfl (by decide) (by decide) ⟨rfl, rfl, rfl, rfl, rfl⟩ (by rw [hS0]; exact fun _ _ z => z)
      rw [if_neg z20] at h
      refine ax_tsOut (tgt := 79) hX dc_K_noteAt_36 (ax_out3 z18 z19 z20) (by decide) ?_
      refine ax_iconst (v := (-1)) (q := 80) hX dc_K_noteAt_79 rfl (by decide) ?_
      cases h
      exact ax_iret hX hF dc_K_noteAt_80 rfl rfl (by decide) (by decide) ⟨rfl, rfl, rfl, rfl, rfl⟩ (by rw [hS0]; exact fun _ _ z => z)
    · rw [if_neg z5] at h
      exact ax_weak (ls' := [none, none, none, none]) (ax_fewP_s _ _ (by repeat (first | exact trivial | (refine And.intro rfl ?_)))) (e_K_noteAt_15 hX hF hS0 hno hl0  I R  hty  rfl rfl h)
def d_K_streamAt_15 (S : ax_S) (I : ax_I) (R : ax_R) : Option ((Int32 ⊕ String)) :=
  some (.inr "java/lang/IndexOutOfBoundsException")
set_option maxHeartbeats 1000000 in
theorem e_K_streamAt_15 {l : Launch} {X : ax_X} {S : ax_S} {L : ax_L} {I0 : ax_I} {R0 : ax_R} {out : (Int32 ⊕ String)} (hX : ax_ok X l "LossFreeTools" b_K_streamAt 2 (ax_rm 6 1 6)) (hF : ax_fin X (some .int) 1 6 (ax_eqX out S I0 R0 L)) (hS0 : ax_S0 X = S) (hno : ax_noh X) (hl0 : l.stackTraces = false) : ∀ (I : ax_I) (R : ax_R), ax_typ S R → I = I0 → R = R0 → d_K_streamAt_15 S  I R = some out → ax_W X 2 15 [none, none] [] S I R L 0 0 := by
  rintro I R hty hI0 hR0 h
  subst hI0
  subst hR0
  unfold d_K_streamAt_15 at h
  cases h
  exact ax_throw hX hF hno hl0 th_K_198_89 dc_K_streamAt_15 dc_K_streamAt_18 dc_K_streamAt_19 dc_K_streamAt_21 dc_K_streamAt_24 (by decide) (by decide) (by decide) (by decide) (by decide) (by decide) ⟨rfl, rfl, rfl, rfl, rfl⟩ (by rw [hS0]; exact fun _ _ z => z)
def d_K_streamAt (S : ax_S) (I : ax_I) (R : ax_R) (u0 : Nat) (x1 : Int32) : Option ((Int32 ⊕ String)) :=
  if x1 < 0 then
    d_K_streamAt_15 S  I R 
  else
    (R u0 2).bind fun u2 =>
    if x1 < (I u2 1) then
      (R u0 2).bind fun u6 =>
      (R u6 0).bind fun u9 =>
      (ax_ix S u9 (x1)).bind fun j13 =>
      some (.inl (I u9 j13))
    else
      d_K_streamAt_15 S  I R 
set_option maxHeartbeats 1000000 in
theorem c_K_streamAt (l : Launch) (hl0 : l.stackTraces = false) {S : ax_S} {I : ax_I} {R : ax_R} {L : ax_L} {u0 : Nat} {x1 : Int32} {out : (Int32 ⊕ String)} (hty : ax_typ S R) (hs0 : S u0 = some (.inl 4)) (h : d_K_streamAt S I R u0 x1 = some out) : ax_MetX l y_K_streamAt b_K_streamAt 2 (some .int) (ax_rm 6 1 6) [.ref u0, .int x1] S I R L (ax_eqX out S I R L) := by
  refine ax_enterX (own := "LossFreeTools") (by decide +kernel) rfl (ax_cats rfl) (Nat.le_of_ble_eq_true rfl) (fun X hX hF hno hS0 => ?_)
  show ax_W X 2 0 [some (.ref u0), some (.int (x1))] [] S I R L 0 0
  unfold d_K_streamAt at h
  refine ax_iload_n (q := 1) hX dc_K_streamAt_0 rfl rfl rfl ?_
  refine ax_if_lt (tgt := 15) (q := 4) hX dc_K_streamAt_1 rfl (by decide) (fun z1 => ?_) (fun z1 => ?_)
  · rw [if_pos z1] at h
    exact ax_weak (ls' := [none, none]) (ax_fewP_s _ _ (by repeat (first | exact trivial | (refine And.intro rfl ?_)))) (e_K_streamAt_15 hX hF hS0 hno hl0  I R  hty  rfl rfl h)
  · rw [if_neg z1] at h
    refine ax_iload_n (q := 5) hX dc_K_streamAt_4 rfl rfl rfl ?_
    refine ax_aload_n (q := 6) hX dc_K_streamAt_5 rfl rfl rfl ?_
    obtain ⟨u2, hu3, h⟩ := ax_bd h
    have hs4 : S u2 = some (.inl 2) := hty.1 _ _ _ _ hs0 hu3
    refine ax_getR (q := 9) hX dc_K_streamAt_6 rfl fl_K_23 rfl hs0 hu3 ?_
    refine ax_getI (q := 12) hX dc_K_streamAt_9 rfl fl_K_239 rfl hs4 ?_
    refine ax_icmp_lt (tgt := 25) (q := 15) hX dc_K_streamAt_12 rfl (by decide) (fun z5 => ?_) (fun z5 => ?_)
    · rw [if_pos z5] at h
      refine ax_aload_n (q := 26) hX dc_K_streamAt_25 rfl rfl rfl ?_
      obtain ⟨u6, hu7, h⟩ := ax_bd h
      have hs8 : S u6 = some (.inl 2) := hty.1 _ _ _ _ hs0 hu7
      refine ax_getR (q := 29) hX dc_K_streamAt_26 rfl fl_K_23 rfl hs0 hu7 ?_
      obtain ⟨u9, hu10, h⟩ := ax_bd h
      obtain ⟨n12, hs11⟩ : ∃ n, S u9 = some (.inr (0, n)) := hty.1 _ _ _ _ hs8 hu10
      refine ax_getR (q := 32) hX dc_K_streamAt_29 rfl fl_K_242 rfl hs8 hu10 ?_
      refine ax_iload_n (q := 33) hX dc_K_streamAt_32 rfl rfl rfl ?_
      obtain ⟨j13, hj14, h⟩ := ax_bd h
      have hj14 := ax_ix_s hty hs11 hj14
      refine ax_iald (q := 34) hX j13 dc_K_streamAt_33 rfl hs11 hj14.1 hj14.2.1 hj14.2.2 ?_
      cases h
      exact ax_iret hX hF dc_K_streamAt_34 rfl rfl (by decide) (by decide) ⟨rfl, rfl, rfl, rfl, rfl⟩ (by rw [hS0]; exact fun _ _ z => z)
    · rw [if_neg z5] at h
      exact ax_weak (ls' := [none, none]) (ax_fewP_s _ _ (by repeat (first | exact trivial | (refine And.intro rfl ?_)))) (e_K_streamAt_15 hX hF hS0 hno hl0  I R  hty  rfl rfl h)
def d_K_pointer (S : ax_S) (I : ax_I) (R : ax_R) (u0 : Nat) (x1 : Int32) : Option ((Int32 ⊕ String)) :=
  (R u0 4).bind fun u1 =>
  (d_P_hasTile S I R u1 (x1)).bind fun r6 =>
  if (ax_b r6) = 0 then
    some (.inr "java/lang/IndexOutOfBoundsException")
  else
    (R u0 4).bind fun u8 =>
    (R u0 4).bind fun u11 =>
    (R u11 0).bind fun u14 =>
    (ax_ix S u14 (x1)).bind fun j18 =>
    (R u14 j18).bind fun u20 =>
    (d_P_placeOfPart S I R u8 u20).bind fun r25 =>
    some (.inl (r25))
set_option maxHeartbeats 1000000 in
theorem c_K_pointer (l : Launch) (hl0 : l.stackTraces = false) {S : ax_S} {I : ax_I} {R : ax_R} {L : ax_L} {u0 : Nat} {x1 : Int32} {out : (Int32 ⊕ String)} (hty : ax_typ S R) (hs0 : S u0 = some (.inl 4)) (h : d_K_pointer S I R u0 x1 = some out) : ax_MetX l y_K_pointer b_K_pointer 2 (some .int) (ax_rm 6 1 6) [.ref u0, .int x1] S I R L (ax_eqX out S I R L) := by
  refine ax_enterX (own := "LossFreeTools") (by decide +kernel) rfl (ax_cats rfl) (Nat.le_of_ble_eq_true rfl) (fun X hX hF hno hS0 => ?_)
  show ax_W X 2 0 [some (.ref u0), some (.int (x1))] [] S I R L 0 0
  unfold d_K_pointer at h
  refine ax_aload_n (q := 1) hX dc_K_pointer_0 rfl rfl rfl ?_
  obtain ⟨u1, hu2, h⟩ := ax_bd h
  have hs3 : S u1 = some (.inl 1) := hty.1 _ _ _ _ hs0 hu2
  refine ax_getR (q := 4) hX dc_K_pointer_1 rfl fl_K_36 rfl hs0 hu2 ?_
  refine ax_iload_n (q := 5) hX dc_K_pointer_4 rfl rfl rfl ?_
  obtain ⟨r6, hr4, h⟩ := ax_bd h
  refine ax_kV (vs := [.int (x1)]) (rest := []) (q := 8) hX dc_K_pointer_5 rfl mt_P_hasTile wl_K_81 wi_P_hasTile ws_P_hasTile hs3 rfl (c_P_hasTile l hty hs3 hr4) rfl (by decide) rfl (Nat.le_of_ble_eq_true rfl) rfl rfl (by decide) (by decide) rfl ?_
  refine ax_if_ne (tgt := 21) (q := 11) hX dc_K_pointer_8 rfl (by decide) (fun z7 => ?_) (fun z7 => ?_)
  · rw [if_neg z7] at h
    refine ax_aload_n (q := 22) hX dc_K_pointer_21 rfl rfl rfl ?_
    obtain ⟨u8, hu9, h⟩ := ax_bd h
    have hs10 : S u8 = some (.inl 1) := hty.1 _ _ _ _ hs0 hu9
    refine ax_getR (q := 25) hX dc_K_pointer_22 rfl fl_K_36 rfl hs0 hu9 ?_
    refine ax_aload_n (q := 26) hX dc_K_pointer_25 rfl rfl rfl ?_
    obtain ⟨u11, hu12, h⟩ := ax_bd h
    have hs13 : S u11 = some (.inl 1) := hty.1 _ _ _ _ hs0 hu12
    refine ax_getR (q := 29) hX dc_K_pointer_26 rfl fl_K_36 rfl hs0 hu12 ?_
    obtain ⟨u14, hu15, h⟩ := ax_bd h
    obtain ⟨n17, hs16⟩ : ∃ n, S u14 = some (.inr (2, n)) := hty.1 _ _ _ _ hs13 hu15
    refine ax_getR (q := 32) hX dc_K_pointer_29 rfl fl_K_95 rfl hs13 hu15 ?_
    refine ax_iload_n (q := 33) hX dc_K_pointer_32 rfl rfl rfl ?_
    obtain ⟨j18, hj19, h⟩ := ax_bd h
    have hj19 := ax_ix_s hty hs16 hj19
    obtain ⟨u20, hu21, h⟩ := ax_bd h
    have hs22 : S u20 = some (.inl 3) := hty.2.1 _ _ _ _ hs16 hu21
    refine ax_aald (q := 34) hX j18 dc_K_pointer_33 rfl hs16 rfl rfl hj19.1 hj19.2.1 hj19.2.2 hu21 ?_
    obtain ⟨r25, hr23, h⟩ := ax_bd h
    refine ax_kV (vs := [.ref u20]) (rest := []) (q := 37) hX dc_K_pointer_34 rfl mt_P_placeOfPart wl_K_229 wi_P_placeOfPart ws_P_placeOfPart hs10 rfl (c_P_placeOfPart l hty hs10 hs22 hr23) rfl (by decide) rfl (Nat.le_of_ble_eq_true rfl) rfl rfl (by decide) (by decide) rfl ?_
    cases h
    exact ax_iret hX hF dc_K_pointer_37 rfl rfl (by decide) (by decide) ⟨rfl, rfl, rfl, rfl, rfl⟩ (by rw [hS0]; exact fun _ _ z => z)
  · rw [if_pos z7] at h
    cases h
    exact ax_throw hX hF hno hl0 th_K_87_89 dc_K_pointer_11 dc_K_pointer_14 dc_K_pointer_15 dc_K_pointer_17 dc_K_pointer_20 (by decide) (by decide) (by decide) (by decide) (by decide) (by decide) ⟨rfl, rfl, rfl, rfl, rfl⟩ (by rw [hS0]; exact fun _ _ z => z)
