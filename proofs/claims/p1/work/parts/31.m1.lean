def d_M_clear_12 (S : ax_S) : Nat → ax_I → ax_R → Nat → Int32 → Option (ax_I)
  | 0, _, _, _, _ => none
  | n + 1, I, R, u0, x1 =>
    if 2 ≤ x1 then
      (some (ax_up I u0 18 (0))).bind fun I6 =>
      (some (ax_up I6 u0 19 (0))).bind fun I8 =>
      (some (ax_up I8 u0 22 (0))).bind fun I10 =>
      some (I10)
    else
      (R u0 4).bind fun u12 =>
      (ax_ix S u12 (x1)).bind fun j16 =>
      (some (ax_up I u12 j16 (I u0 1))).bind fun I18 =>
      (R u0 5).bind fun u20 =>
      (ax_ix S u20 (x1)).bind fun j24 =>
      (some (ax_up I18 u20 j24 (I18 u0 2))).bind fun I26 =>
      (R u0 6).bind fun u28 =>
      (ax_ix S u28 (x1)).bind fun j32 =>
      (some (ax_up I26 u28 j32 (0))).bind fun I34 =>
      (R u0 7).bind fun u36 =>
      (ax_ix S u36 (x1)).bind fun j40 =>
      (some (ax_up I34 u36 j40 (0))).bind fun I42 =>
      d_M_clear_12 S  n I42 R u0 (x1 + 1)
set_option maxHeartbeats 1000000 in
theorem e_M_clear_12 {l : Launch} {X : ax_X} {S : ax_S} {L : ax_L} {R0 : ax_R} {out : ax_I} (hX : ax_ok X l "LossFreeToolsModel" b_M_clear 2 (ax_rm 1 0 0)) (hF : ax_fin X none 0 0 (ax_of (ax_eq none S out R0 L))) (hS0 : ax_S0 X = S) : ∀ (n : Nat), ∀ (I : ax_I) (R : ax_R) (u0 : Nat) (x1 : Int32), ax_typ S R → (S u0 = some (.inl 5)) → R = R0 → d_M_clear_12 S  n I R u0 x1 = some out → ax_W X 2 12 [some (.ref u0), some (.int (x1))] [] S I R L 0 0 := by
  intro n
  induction n with
  | zero =>
    rintro I R u0 x1 hty hs0_ hR0 h
    cases h
  | succ n ih =>
    rintro I R u0 x1 hty hs0_ hR0 h
    subst hR0
    unfold d_M_clear_12 at h
    refine ax_iload_n (q := 13) hX dc_M_clear_12 rfl rfl rfl ?_
    refine ax_iconst (v := 2) (q := 14) hX dc_M_clear_13 rfl (by decide) ?_
    refine ax_icmp_ge (tgt := 57) (q := 17) hX dc_M_clear_14 rfl (by decide) (fun z5 => ?_) (fun z5 => ?_)
    · rw [if_pos z5] at h
      refine ax_aload_n (q := 58) hX dc_M_clear_57 rfl rfl rfl ?_
      refine ax_iconst (v := 0) (q := 59) hX dc_M_clear_58 rfl (by decide) ?_
      obtain ⟨I6, e7, h⟩ := ax_bs h
      refine ax_putI (q := 62) hX dc_M_clear_59 rfl fl_M_74 rfl hs0_ (fun z => by cases z) rfl rfl e7 ?_
      refine ax_aload_n (q := 63) hX dc_M_clear_62 rfl rfl rfl ?_
      refine ax_iconst (v := 0) (q := 64) hX dc_M_clear_63 rfl (by decide) ?_
      obtain ⟨I8, e9, h⟩ := ax_bs h
      refine ax_putI (q := 67) hX dc_M_clear_64 rfl fl_M_77 rfl hs0_ (fun z => by cases z) rfl rfl e9 ?_
      refine ax_aload_n (q := 68) hX dc_M_clear_67 rfl rfl rfl ?_
      refine ax_iconst (v := 0) (q := 69) hX dc_M_clear_68 rfl (by decide) ?_
      obtain ⟨I10, e11, h⟩ := ax_bs h
      refine ax_putI (q := 72) hX dc_M_clear_69 rfl fl_M_81 rfl hs0_ (fun z => by cases z) rfl rfl e11 ?_
      cases h
      exact ax_vret hX hF dc_M_clear_72 (by decide) (by decide) ax_eq.mk (by rw [hS0]; exact fun _ _ z => z)
    · rw [if_neg z5] at h
      refine ax_aload_n (q := 18) hX dc_M_clear_17 rfl rfl rfl ?_
      obtain ⟨u12, hu13, h⟩ := ax_bd h
      obtain ⟨n15, hs14⟩ : ∃ n, S u12 = some (.inr (0, n)) := hty.1 _ _ _ _ hs0_ hu13
      refine ax_getR (q := 21) hX dc_M_clear_18 rfl fl_M_7 rfl hs0_ hu13 ?_
      refine ax_iload_n (q := 22) hX dc_M_clear_21 rfl rfl rfl ?_
      refine ax_aload_n (q := 23) hX dc_M_clear_22 rfl rfl rfl ?_
      refine ax_getI (q := 26) hX dc_M_clear_23 rfl fl_M_58 rfl hs0_ ?_
      obtain ⟨j16, hj17, h⟩ := ax_bd h
      have hj17 := ax_ix_s hty hs14 hj17
      obtain ⟨I18, e19, h⟩ := ax_bs h
      refine ax_iast (q := 27) hX j16 dc_M_clear_26 rfl hs14 hj17.1 hj17.2.1 hj17.2.2 e19 ?_
      refine ax_aload_n (q := 28) hX dc_M_clear_27 rfl rfl rfl ?_
      obtain ⟨u20, hu21, h⟩ := ax_bd h
      obtain ⟨n23, hs22⟩ : ∃ n, S u20 = some (.inr (0, n)) := hty.1 _ _ _ _ hs0_ hu21
      refine ax_getR (q := 31) hX dc_M_clear_28 rfl fl_M_13 rfl hs0_ hu21 ?_
      refine ax_iload_n (q := 32) hX dc_M_clear_31 rfl rfl rfl ?_
      refine ax_aload_n (q := 33) hX dc_M_clear_32 rfl rfl rfl ?_
      refine ax_getI (q := 36) hX dc_M_clear_33 rfl fl_M_62 rfl hs0_ ?_
      obtain ⟨j24, hj25, h⟩ := ax_bd h
      have hj25 := ax_ix_s hty hs22 hj25
      obtain ⟨I26, e27, h⟩ := ax_bs h
      refine ax_iast (q := 37) hX j24 dc_M_clear_36 rfl hs22 hj25.1 hj25.2.1 hj25.2.2 e27 ?_
      refine ax_aload_n (q := 38) hX dc_M_clear_37 rfl rfl rfl ?_
      obtain ⟨u28, hu29, h⟩ := ax_bd h
      obtain ⟨n31, hs30⟩ : ∃ n, S u28 = some (.inr (0, n)) := hty.1 _ _ _ _ hs0_ hu29
      refine ax_getR (q := 41) hX dc_M_clear_38 rfl fl_M_16 rfl hs0_ hu29 ?_
      refine ax_iload_n (q := 42) hX dc_M_clear_41 rfl rfl rfl ?_
      refine ax_iconst (v := 0) (q := 43) hX dc_M_clear_42 rfl (by decide) ?_
      obtain ⟨j32, hj33, h⟩ := ax_bd h
      have hj33 := ax_ix_s hty hs30 hj33
      obtain ⟨I34, e35, h⟩ := ax_bs h
      refine ax_iast (q := 44) hX j32 dc_M_clear_43 rfl hs30 hj33.1 hj33.2.1 hj33.2.2 e35 ?_
      refine ax_aload_n (q := 45) hX dc_M_clear_44 rfl rfl rfl ?_
      obtain ⟨u36, hu37, h⟩ := ax_bd h
      obtain ⟨n39, hs38⟩ : ∃ n, S u36 = some (.inr (0, n)) := hty.1 _ _ _ _ hs0_ hu37
      refine ax_getR (q := 48) hX dc_M_clear_45 rfl fl_M_19 rfl hs0_ hu37 ?_
      refine ax_iload_n (q := 49) hX dc_M_clear_48 rfl rfl rfl ?_
      refine ax_iconst (v := 0) (q := 50) hX dc_M_clear_49 rfl (by decide) ?_
      obtain ⟨j40, hj41, h⟩ := ax_bd h
      have hj41 := ax_ix_s hty hs38 hj41
      obtain ⟨I42, e43, h⟩ := ax_bs h
      refine ax_iast (q := 51) hX j40 dc_M_clear_50 rfl hs38 hj41.1 hj41.2.1 hj41.2.2 e43 ?_
      refine ax_iinc (v := x1 + 1) (ls' := [some (.ref u0), some (.int (x1 + 1))]) (q := 54) hX dc_M_clear_51 rfl rfl rfl (by decide) rfl ?_
      refine ax_goto (tgt := 12) hX dc_M_clear_54 (by decide) ?_
      exact (ih I42 R u0 (x1 + 1) hty hs0_ rfl h)
def d_M_clear (S : ax_S) (I : ax_I) (R : ax_R) (u0 : Nat) : Option (ax_I) :=
  (some (ax_up I u0 0 (0))).bind fun I1 =>
  (some (ax_up I1 u0 3 (0))).bind fun I3 =>
  d_M_clear_12 S  5000 I3 R u0 (0)
set_option maxHeartbeats 1000000 in
theorem c_M_clear (l : Launch) {S : ax_S} {I : ax_I} {R : ax_R} {L : ax_L} {u0 : Nat} {out : ax_I} (hty : ax_typ S R) (hs0 : S u0 = some (.inl 5)) (h : d_M_clear S I R u0 = some out) : ax_Met l y_M_clear b_M_clear 2 none (ax_rm 1 0 0) [.ref u0] S I R L (ax_eq none S out R L) := by
  refine ax_enter (own := "LossFreeToolsModel") (by decide +kernel) rfl (ax_cats rfl) (Nat.le_of_ble_eq_true rfl) (fun X hX hF _ hS0 => ?_)
  show ax_W X 2 0 [some (.ref u0), none] [] S I R L 0 0
  unfold d_M_clear at h
  refine ax_aload_n (q := 1) hX dc_M_clear_0 rfl rfl rfl ?_
  refine ax_iconst (v := 0) (q := 2) hX dc_M_clear_1 rfl (by decide) ?_
  obtain ⟨I1, e2, h⟩ := ax_bs h
  refine ax_putI (q := 5) hX dc_M_clear_2 rfl fl_M_68 rfl hs0 (fun z => by cases z) rfl rfl e2 ?_
  refine ax_aload_n (q := 6) hX dc_M_clear_5 rfl rfl rfl ?_
  refine ax_iconst (v := 0) (q := 7) hX dc_M_clear_6 rfl (by decide) ?_
  obtain ⟨I3, e4, h⟩ := ax_bs h
  refine ax_putI (q := 10) hX dc_M_clear_7 rfl fl_M_71 rfl hs0 (fun z => by cases z) rfl rfl e4 ?_
  refine ax_iconst (v := 0) (q := 11) hX dc_M_clear_10 rfl (by decide) ?_
  refine ax_istore_n (ls' := [some (.ref u0), some (.int (0))]) (q := 12) hX dc_M_clear_11 rfl rfl (by decide) rfl ?_
  exact (e_M_clear_12 hX hF hS0  5000 I3 R u0 (0) hty hs0 rfl h)
def d_M_thrown (S : ax_S) (I : ax_I) (R : ax_R) (u0 : Nat) : Option (Int32) :=
  some (I u0 0)
set_option maxHeartbeats 1000000 in
theorem c_M_thrown (l : Launch) {S : ax_S} {I : ax_I} {R : ax_R} {L : ax_L} {u0 : Nat} {out : Int32} (hty : ax_typ S R) (hs0 : S u0 = some (.inl 5)) (h : d_M_thrown S I R u0 = some out) : ax_Met l y_M_thrown b_M_thrown 1 (some .int) (ax_rm 1 0 0) [.ref u0] S I R L (ax_eq (some (.int out)) S I R L) := by
  refine ax_enter (own := "LossFreeToolsModel") (by decide +kernel) rfl (ax_cats rfl) (Nat.le_of_ble_eq_true rfl) (fun X hX hF _ hS0 => ?_)
  show ax_W X 1 0 [some (.ref u0)] [] S I R L 0 0
  unfold d_M_thrown at h
  refine ax_aload_n (q := 1) hX dc_M_thrown_0 rfl rfl rfl ?_
  refine ax_getI (q := 4) hX dc_M_thrown_1 rfl fl_M_68 rfl hs0 ?_
  cases h
  exact ax_iret hX hF dc_M_thrown_4 rfl rfl (by decide) (by decide) ax_eq.mk (by rw [hS0]; exact fun _ _ z => z)
def d_M_in (S : ax_S) (I : ax_I) (R : ax_R) (x0 : Int32) (x1 : Int32) (x2 : Int32) : Option (Bool) :=
  if x0 < x1 then
    some (false)
  else
    if x2 < x0 then
      some (false)
    else
      some (true)
set_option maxHeartbeats 1000000 in
theorem c_M_in (l : Launch) {S : ax_S} {I : ax_I} {R : ax_R} {L : ax_L} {x0 : Int32} {x1 : Int32} {x2 : Int32} {out : Bool} (hty : ax_typ S R) (h : d_M_in S I R x0 x1 x2 = some out) : ax_Met l y_M_in b_M_in 3 (some .boolean) (ax_rm 1 0 0) [.int x0, .int x1, .int x2] S I R L (ax_eq (some (.int (ax_b out))) S I R L) := by
  refine ax_enter (own := "LossFreeToolsModel") (by decide +kernel) rfl (ax_cats rfl) (Nat.le_of_ble_eq_true rfl) (fun X hX hF _ hS0 => ?_)
  show ax_W X 3 0 [some (.int (x0)), some (.int (x1)), some (.int (x2))] [] S I R L 0 0
  unfold d_M_in at h
  refine ax_iload_n (q := 1) hX dc_M_in_0 rfl rfl rfl ?_
  refine ax_iload_n (q := 2) hX dc_M_in_1 rfl rfl rfl ?_
  refine ax_icmp_lt (tgt := 14) (q := 5) hX dc_M_in_2 rfl (by decide) (fun z1 => ?_) (fun z1 => ?_)
  · rw [if_pos z1] at h
    refine ax_iconst (v := 0) (q := 15) hX dc_M_in_14 rfl (by decide) ?_
    cases h
    exact ax_iret hX hF dc_M_in_15 rfl rfl (by decide) (by decide) ax_eq.mk (by rw [hS0]; exact fun _ _ z => z)
  · rw [if_neg z1] at h
    refine ax_iload_n (q := 6) hX dc_M_in_5 rfl rfl rfl ?_
    refine ax_iload_n (q := 7) hX dc_M_in_6 rfl rfl rfl ?_
    refine ax_icmp_gt (tgt := 14) (q := 10) hX dc_M_in_7 rfl (by decide) (fun z2 => ?_) (fun z2 => ?_)
    · rw [if_pos z2] at h
      refine ax_iconst (v := 0) (q := 15) hX dc_M_in_14 rfl (by decide) ?_
      cases h
      exact ax_iret hX hF dc_M_in_15 rfl rfl (by decide) (by decide) ax_eq.mk (by rw [hS0]; exact fun _ _ z => z)
    · rw [if_neg z2] at h
      refine ax_iconst (v := 1) (q := 11) hX dc_M_in_10 rfl (by decide) ?_
      refine ax_goto (tgt := 15) hX dc_M_in_11 (by decide) ?_
      cases h
      exact ax_iret hX hF dc_M_in_15 rfl rfl (by decide) (by decide) ax_eq.mk (by rw [hS0]; exact fun _ _ z => z)
def d_M_tileAt (S : ax_S) (I : ax_I) (R : ax_R) (u0 : Nat) (x1 : Int32) : Option (Int32) :=
  some ((40 * (I u0 3)) + x1)
set_option maxHeartbeats 1000000 in
theorem c_M_tileAt (l : Launch) {S : ax_S} {I : ax_I} {R : ax_R} {L : ax_L} {u0 : Nat} {x1 : Int32} {out : Int32} (hty : ax_typ S R) (hs0 : S u0 = some (.inl 5)) (h : d_M_tileAt S I R u0 x1 = some out) : ax_Met l y_M_tileAt b_M_tileAt 2 (some .int) (ax_rm 1 0 0) [.ref u0, .int x1] S I R L (ax_eq (some (.int out)) S I R L) := by
  refine ax_enter (own := "LossFreeToolsModel") (by decide +kernel) rfl (ax_cats rfl) (Nat.le_of_ble_eq_true rfl) (fun X hX hF _ hS0 => ?_)
  show ax_W X 2 0 [some (.ref u0), some (.int (x1))] [] S I R L 0 0
  unfold d_M_tileAt at h
  refine ax_bipush (v := 40) (q := 2) hX dc_M_tileAt_0 rfl (by decide) ?_
  refine ax_aload_n (q := 3) hX dc_M_tileAt_2 rfl rfl rfl ?_
  refine ax_getI (q := 6) hX dc_M_tileAt_3 rfl fl_M_71 rfl hs0 ?_
  refine ax_imul (q := 7) hX dc_M_tileAt_6 rfl ?_
  refine ax_iload_n (q := 8) hX dc_M_tileAt_7 rfl rfl rfl ?_
  refine ax_iadd (q := 9) hX dc_M_tileAt_8 rfl ?_
  cases h
  exact ax_iret hX hF dc_M_tileAt_9 rfl rfl (by decide) (by decide) ax_eq.mk (by rw [hS0]; exact fun _ _ z => z)
def d_M_lies (S : ax_S) (I : ax_I) (R : ax_R) (u0 : Nat) (x1 : Int32) (x2 : Int32) (x3 : Int32) (x4 : Int32) : Option (Bool) :=
  if x1 < 0 then
    some (false)
  else
    if x2 < 0 then
      some (false)
    else
      (R u0 4).bind fun u3 =>
      (ax_ix S u3 (I u0 3)).bind fun j7 =>
      if ((I u3 j7) - x3) < x1 then
        some (false)
      else
        (R u0 5).bind fun u10 =>
        (ax_ix S u10 (I u0 3)).bind fun j14 =>
        if ((I u10 j14) - x4) < x2 then
          some (false)
        else
          some (true)
set_option maxHeartbeats 1000000 in
theorem c_M_lies (l : Launch) {S : ax_S} {I : ax_I} {R : ax_R} {L : ax_L} {u0 : Nat} {x1 : Int32} {x2 : Int32} {x3 : Int32} {x4 : Int32} {out : Bool} (hty : ax_typ S R) (hs0 : S u0 = some (.inl 5)) (h : d_M_lies S I R u0 x1 x2 x3 x4 = some out) : ax_Met l y_M_lies b_M_lies 5 (some .boolean) (ax_rm 1 0 0) [.ref u0, .int x1, .int x2, .int x3, .int x4] S I R L (ax_eq (some (.int (ax_b out))) S I R L) := by
  refine ax_enter (own := "LossFreeToolsModel") (by decide +kernel) rfl (ax_cats rfl) (Nat.le_of_ble_eq_true rfl) (fun X hX hF _ hS0 => ?_)
  show ax_W X 5 0 [some (.ref u0), some (.int (x1)), some (.int (x2)), some (.int (x3)), some (.int (x4))] [] S I R L 0 0
  unfold d_M_lies at h
  refine ax_iload_n (q := 1) hX dc_M_lies_0 rfl rfl rfl ?_
  refine ax_if_lt (tgt := 43) (q := 4) hX dc_M_lies_1 rfl (by decide) (fun z1 => ?_) (fun z1 => ?_)
  · rw [if_pos z1] at h
    refine ax_iconst (v := 0) (q := 44) hX dc_M_lies_43 rfl (by decide) ?_
    cases h
    exact ax_iret hX hF dc_M_lies_44 rfl rfl (by decide) (by decide) ax_eq.mk (by rw [hS0]; exact fun _ _ z => z)
  · rw [if_neg z1] at h
    refine ax_iload_n (q := 5) hX dc_M_lies_4 rfl rfl rfl ?_
    refine ax_if_lt (tgt := 43) (q := 8) hX dc_M_lies_5 rfl (by decide) (fun z2 => ?_) (fun z2 => ?_)
    · rw [if_pos z2] at h
      refine ax_iconst (v := 0) (q := 44) hX dc_M_lies_43 rfl (by decide) ?_
      cases h
      exact ax_iret hX hF dc_M_lies_44 rfl rfl (by decide) (by decide) ax_eq.mk (by rw [hS0]; exact fun _ _ z => z)
    · rw [if_neg z2] at h
      refine ax_iload_n (q := 9) hX dc_M_lies_8 rfl rfl rfl ?_
      refine ax_aload_n (q := 10) hX dc_M_lies_9 rfl rfl rfl ?_
      obtain ⟨u3, hu4, h⟩ := ax_bd h
      obtain ⟨n6, hs5⟩ : ∃ n, S u3 = some (.inr (0, n)) := hty.1 _ _ _ _ hs0 hu4
      refine ax_getR (q := 13) hX dc_M_lies_10 rfl fl_M_7 rfl hs0 hu4 ?_
      refine ax_aload_n (q := 14) hX dc_M_lies_13 rfl rfl rfl ?_
      refine ax_getI (q := 17) hX dc_M_lies_14 rfl fl_M_71 rfl hs0 ?_
      obtain ⟨j7, hj8, h⟩ := ax_bd h
      have hj8 := ax_ix_s hty hs5 hj8
      refine ax_iald (q := 18) hX j7 dc_M_lies_17 rfl hs5 hj8.1 hj8.2.1 hj8.2.2 ?_
      refine ax_iload_n (q := 19) hX dc_M_lies_18 rfl rfl rfl ?_
      refine ax_isub (q := 20) hX dc_M_lies_19 rfl ?_
      refine ax_icmp_gt (tgt := 43) (q := 23) hX dc_M_lies_20 rfl (by decide) (fun z9 => ?_) (fun z9 => ?_)
      · rw [if_pos z9] at h
        refine ax_iconst (v := 0) (q := 44) hX dc_M_lies_43 rfl (by decide) ?_
        cases h
        exact ax_iret hX hF dc_M_lies_44 rfl rfl (by decide) (by decide) ax_eq.mk (by rw [hS0]; exact fun _ _ z => z)
      · rw [if_neg z9] at h
        refine ax_iload_n (q := 24) hX dc_M_lies_23 rfl rfl rfl ?_
        refine ax_aload_n (q := 25) hX dc_M_lies_24 rfl rfl rfl ?_
        obtain ⟨u10, hu11, h⟩ := ax_bd h
        obtain ⟨n13, hs12⟩ : ∃ n, S u10 = some (.inr (0, n)) := hty.1 _ _ _ _ hs0 hu11
        refine ax_getR (q := 28) hX dc_M_lies_25 rfl fl_M_13 rfl hs0 hu11 ?_
        refine ax_aload_n (q := 29) hX dc_M_lies_28 rfl rfl rfl ?_
        refine ax_getI (q := 32) hX dc_M_lies_29 rfl fl_M_71 rfl hs0 ?_
        obtain ⟨j14, hj15, h⟩ := ax_bd h
        have hj15 := ax_ix_s hty hs12 hj15
        refine ax_iald (q := 33) hX j14 dc_M_lies_32 rfl hs12 hj15.1 hj15.2.1 hj15.2.2 ?_
        refine ax_iload (q := 35) hX dc_M_lies_33 rfl rfl ?_
        refine ax_isub (q := 36) hX dc_M_lies_35 rfl ?_
        refine ax_icmp_gt (tgt := 43) (q := 39) hX dc_M_lies_36 rfl (by decide) (fun z16 => ?_) (fun z16 => ?_)
        · rw [if_pos z16] at h
          refine ax_iconst (v := 0) (q := 44) hX dc_M_lies_43 rfl (by decide) ?_
          cases h
          exact ax_iret hX hF dc_M_lies_44 rfl rfl (by decide) (by decide) ax_eq.mk (by rw [hS0]; exact fun _ _ z => z)
        · rw [if_neg z16] at h
          refine ax_iconst (v := 1) (q := 40) hX dc_M_lies_39 rfl (by decide) ?_
          refine ax_goto (tgt := 44) hX dc_M_lies_40 (by decide) ?_
          cases h
          exact ax_iret hX hF dc_M_lies_44 rfl rfl (by decide) (by decide) ax_eq.mk (by rw [hS0]; exact fun _ _ z => z)
def d_M_move_74 (S : ax_S) : Nat → ax_I → ax_R → Nat → Int32 → Int32 → Int32 → Option (ax_I)
  | 0, _, _, _, _, _, _ => none
  | n + 1, I, R, u0, x1, x2, x3 =>
    if 12 ≤ x3 then
      some (I)
    else
      (R u0 14).bind fun u86 =>
      (R u0 14).bind fun u90 =>
      (ax_ix S u90 ((12 * x1) + x3)).bind fun j94 =>
      (ax_ix S u86 ((12 * x2) + x3)).bind fun j96 =>
      (some (ax_up I u86 j96 (I u90 j94))).bind fun I98 =>
      d_M_move_74 S  n I98 R u0 (x1) (x2) (x3 + 1)
set_option maxHeartbeats 1000000 in
theorem e_M_move_74 {l : Launch} {X : ax_X} {S : ax_S} {L : ax_L} {R0 : ax_R} {out : ax_I} (hX : ax_ok X l "LossFreeToolsModel" b_M_move 4 (ax_rm 1 0 0)) (hF : ax_fin X none 0 0 (ax_of (ax_eq none S out R0 L))) (hS0 : ax_S0 X = S) : ∀ (n : Nat), ∀ (I : ax_I) (R : ax_R) (u0 : Nat) (x1 : Int32) (x2 : Int32) (x3 : Int32), ax_typ S R → (S u0 = some (.inl 5)) → R = R0 → d_M_move_74 S  n I R u0 x1 x2 x3 = some out → ax_W X 4 74 [some (.ref u0), some (.int (x1)), some (.int (x2)), some (.int (x3))] [] S I R L 0 0 := by
  intro n
  induction n with
  | zero =>
    rintro I R u0 x1 x2 x3 hty hs0_ hR0 h
    cases h
  | succ n ih =>
    rintro I R u0 x1 x2 x3 hty hs0_ hR0 h
    subst hR0
    unfold d_M_move_74 at h
    refine ax_iload_n (q := 75) hX dc_M_move_74 rfl rfl rfl ?_
    refine ax_bipush (v := 12) (q := 77) hX dc_M_move_75 rfl (by decide) ?_
    refine ax_icmp_ge (tgt := 108) (q := 80) hX dc_M_move_77 rfl (by decide) (fun z85 => ?_) (fun z85 => ?_)
    · rw [if_pos z85] at h
      cases h
      exact ax_vret hX hF dc_M_move_108 (by decide) (by decide) ax_eq.mk (by rw [hS0]; exact fun _ _ z => z)
    · rw [if_neg z85] at h
      refine ax_aload_n (q := 81) hX dc_M_move_80 rfl rfl rfl ?_
      obtain ⟨u86, hu87, h⟩ := ax_bd h
      obtain ⟨n89, hs88⟩ : ∃ n, S u86 = some (.inr (0, n)) := hty.1 _ _ _ _ hs0_ hu87
      refine ax_getR (q := 84) hX dc_M_move_81 rfl fl_M_40 rfl hs0_ hu87 ?_
      refine ax_bipush (v := 12) (q := 86) hX dc_M_move_84 rfl (by decide) ?_
      refine ax_iload_n (q := 87) hX dc_M_move_86 rfl rfl rfl ?_
      refine ax_imul (q := 88) hX dc_M_move_87 rfl ?_
      refine ax_iload_n (q := 89) hX dc_M_move_88 rfl rfl rfl ?_
      refine ax_iadd (q := 90) hX dc_M_move_89 rfl ?_
      refine ax_aload_n (q := 91) hX dc_M_move_90 rfl rfl rfl ?_
      obtain ⟨u90, hu91, h⟩ := ax_bd h
      obtain ⟨n93, hs92⟩ : ∃ n, S u90 = some (.inr (0, n)) := hty.1 _ _ _ _ hs0_ hu91
      refine ax_getR (q := 94) hX dc_M_move_91 rfl fl_M_40 rfl hs0_ hu91 ?_
      refine ax_bipush (v := 12) (q := 96) hX dc_M_move_94 rfl (by decide) ?_
      refine ax_iload_n (q := 97) hX dc_M_move_96 rfl rfl rfl ?_
      refine ax_imul (q := 98) hX dc_M_move_97 rfl ?_
      refine ax_iload_n (q := 99) hX dc_M_move_98 rfl rfl rfl ?_
      refine ax_iadd (q := 100) hX dc_M_move_99 rfl ?_
      obtain ⟨j94, hj95, h⟩ := ax_bd h
      have hj95 := ax_ix_s hty hs92 hj95
      refine ax_iald (q := 101) hX j94 dc_M_move_100 rfl hs92 hj95.1 hj95.2.1 hj95.2.2 ?_
      obtain ⟨j96, hj97, h⟩ := ax_bd h
      have hj97 := ax_ix_s hty hs88 hj97
      obtain ⟨I98, e99, h⟩ := ax_bs h
      refine ax_iast (q := 102) hX j96 dc_M_move_101 rfl hs88 hj97.1 hj97.2.1 hj97.2.2 e99 ?_
      refine ax_iinc (v := x3 + 1) (ls' := [some (.ref u0), some (.int (x1)), some (.int (x2)), some (.int (x3 + 1))]) (q := 105) hX dc_M_move_102 rfl rfl rfl (by decide) rfl ?_
      refine ax_goto (tgt := 74) hX dc_M_move_105 (by decide) ?_
      exact (ih I98 R u0 (x1) (x2) (x3 + 1) hty hs0_ rfl h)
def d_M_move (S : ax_S) (I : ax_I) (R : ax_R) (u0 : Nat) (x1 : Int32) (x2 : Int32) : Option (ax_I) :=
  (R u0 8).bind fun u1 =>
  (R u0 8).bind fun u5 =>
  (ax_ix S u5 (x1)).bind fun j9 =>
  (ax_ix S u1 (x2)).bind fun j11 =>
  (some (ax_up I u1 j11 (I u5 j9))).bind fun I13 =>
  (R u0 9).bind fun u15 =>
  (R u0 9).bind fun u19 =>
  (ax_ix S u19 (x1)).bind fun j23 =>
  (ax_ix S u15 (x2)).bind fun j25 =>
  (some (ax_up I13 u15 j25 (I13 u19 j23))).bind fun I27 =>
  (R u0 10).bind fun u29 =>
  (R u0 10).bind fun u33 =>
  (ax_ix S u33 (x1)).bind fun j37 =>
  (ax_ix S u29 (x2)).bind fun j39 =>
  (some (ax_up I27 u29 j39 (I27 u33 j37))).bind fun I41 =>
  (R u0 11).bind fun u43 =>
  (R u0 11).bind fun u47 =>
  (ax_ix S u47 (x1)).bind fun j51 =>
  (ax_ix S u43 (x2)).bind fun j53 =>
  (some (ax_up I41 u43 j53 (I41 u47 j51))).bind fun I55 =>
  (R u0 12).bind fun u57 =>
  (R u0 12).bind fun u61 =>
  (ax_ix S u61 (x1)).bind fun j65 =>
  (ax_ix S u57 (x2)).bind fun j67 =>
  (some (ax_up I55 u57 j67 (I55 u61 j65))).bind fun I69 =>
  (R u0 13).bind fun u71 =>
  (R u0 13).bind fun u75 =>
  (ax_ix S u75 (x1)).bind fun j79 =>
  (ax_ix S u71 (x2)).bind fun j81 =>
  (some (ax_up I69 u71 j81 (I69 u75 j79))).bind fun I83 =>
  d_M_move_74 S  5000 I83 R u0 (x1) (x2) (0)
set_option maxHeartbeats 1000000 in
theorem c_M_move (l : Launch) {S : ax_S} {I : ax_I} {R : ax_R} {L : ax_L} {u0 : Nat} {x1 : Int32} {x2 : Int32} {out : ax_I} (hty : ax_typ S R) (hs0 : S u0 = some (.inl 5)) (h : d_M_move S I R u0 x1 x2 = some out) : ax_Met l y_M_move b_M_move 4 none (ax_rm 1 0 0) [.ref u0, .int x1, .int x2] S I R L (ax_eq none S out R L) := by
  refine ax_enter (own := "LossFreeToolsModel") (by decide +kernel) rfl (ax_cats rfl) (Nat.le_of_ble_eq_true rfl) (fun X hX hF _ hS0 => ?_)
  show ax_W X 4 0 [some (.ref u0), some (.int (x1)), some (.int (x2)), none] [] S I R L 0 0
  unfold d_M_move at h
  refine ax_aload_n (q := 1) hX dc_M_move_0 rfl rfl rfl ?_
  obtain ⟨u1, hu2, h⟩ := ax_bd h
  obtain ⟨n4, hs3⟩ : ∃ n, S u1 = some (.inr (0, n)) := hty.1 _ _ _ _ hs0 hu2
  refine ax_getR (q := 4) hX dc_M_move_1 rfl fl_M_22 rfl hs0 hu2 ?_
  refine ax_iload_n (q := 5) hX dc_M_move_4 rfl rfl rfl ?_
  refine ax_aload_n (q := 6) hX dc_M_move_5 rfl rfl rfl ?_
  obtain ⟨u5, hu6, h⟩ := ax_bd h
  obtain ⟨n8, hs7⟩ : ∃ n, S u5 = some (.inr (0, n)) := hty.1 _ _ _ _ hs0 hu6
  refine ax_getR (q := 9) hX dc_M_move_6 rfl fl_M_22 rfl hs0 hu6 ?_
  refine ax_iload_n (q := 10) hX dc_M_move_9 rfl rfl rfl ?_
  obtain ⟨j9, hj10, h⟩ := ax_bd h
  have hj10 := ax_ix_s hty hs7 hj10
  refine ax_iald (q := 11) hX j9 dc_M_move_10 rfl hs7 hj10.1 hj10.2.1 hj10.2.2 ?_
  obtain ⟨j11, hj12, h⟩ := ax_bd h
  have hj12 := ax_ix_s hty hs3 hj12
  obtain ⟨I13, e14, h⟩ := ax_bs h
  refine ax_iast (q := 12) hX j11 dc_M_move_11 rfl hs3 hj12.1 hj12.2.1 hj12.2.2 e14 ?_
  refine ax_aload_n (q := 13) hX dc_M_move_12 rfl rfl rfl ?_
  obtain ⟨u15, hu16, h⟩ := ax_bd h
  obtain ⟨n18, hs17⟩ : ∃ n, S u15 = some (.inr (0, n)) := hty.1 _ _ _ _ hs0 hu16
  refine ax_getR (q := 16) hX dc_M_move_13 rfl fl_M_25 rfl hs0 hu16 ?_
  refine ax_iload_n (q := 17) hX dc_M_move_16 rfl rfl rfl ?_
  refine ax_aload_n (q := 18) hX dc_M_move_17 rfl rfl rfl ?_
  obtain ⟨u19, hu20, h⟩ := ax_bd h
  obtain ⟨n22, hs21⟩ : ∃ n, S u19 = some (.inr (0, n)) := hty.1 _ _ _ _ hs0 hu20
  refine ax_getR (q := 21) hX dc_M_move_18 rfl fl_M_25 rfl hs0 hu20 ?_
  refine ax_iload_n (q := 22) hX dc_M_move_21 rfl rfl rfl ?_
  obtain ⟨j23, hj24, h⟩ := ax_bd h
  have hj24 := ax_ix_s hty hs21 hj24
  refine ax_iald (q := 23) hX j23 dc_M_move_22 rfl hs21 hj24.1 hj24.2.1 hj24.2.2 ?_
  obtain ⟨j25, hj26, h⟩ := ax_bd h
  have hj26 := ax_ix_s hty hs17 hj26
  obtain ⟨I27, e28, h⟩ := ax_bs h
  refine ax_iast (q := 24) hX j25 dc_M_move_23 rfl hs17 hj26.1 hj26.2.1 hj26.2.2 e28 ?_
  refine ax_aload_n (q := 25) hX dc_M_move_24 rfl rfl rfl ?_
  obtain ⟨u29, hu30, h⟩ := ax_bd h
  obtain ⟨n32, hs31⟩ : ∃ n, S u29 = some (.inr (0, n)) := hty.1 _ _ _ _ hs0 hu30
  refine ax_getR (q := 28) hX dc_M_move_25 rfl fl_M_28 rfl hs0 hu30 ?_
  refine ax_iload_n (q := 29) hX dc_M_move_28 rfl rfl rfl ?_
  refine ax_aload_n (q := 30) hX dc_M_move_29 rfl rfl rfl ?_
  obtain ⟨u33, hu34, h⟩ := ax_bd h
  obtain ⟨n36, hs35⟩ : ∃ n, S u33 = some (.inr (0, n)) := hty.1 _ _ _ _ hs0 hu34
  refine ax_getR (q := 33) hX dc_M_move_30 rfl fl_M_28 rfl hs0 hu34 ?_
  refine ax_iload_n (q := 34) hX dc_M_move_33 rfl rfl rfl ?_
  obtain ⟨j37, hj38, h⟩ := ax_bd h
  have hj38 := ax_ix_s hty hs35 hj38
  refine ax_iald (q := 35) hX j37 dc_M_move_34 rfl hs35 hj38.1 hj38.2.1 hj38.2.2 ?_
  obtain ⟨j39, hj40, h⟩ := ax_bd h
  have hj40 := ax_ix_s hty hs31 hj40
  obtain ⟨I41, e42, h⟩ := ax_bs h
  refine ax_iast (q := 36) hX j39 dc_M_move_35 rfl hs31 hj40.1 hj40.2.1 hj40.2.2 e42 ?_
  refine ax_aload_n (q := 37) hX dc_M_move_36 rfl rfl rfl ?_
  obtain ⟨u43, hu44, h⟩ := ax_bd h
  obtain ⟨n46, hs45⟩ : ∃ n, S u43 = some (.inr (0, n)) := hty.1 _ _ _ _ hs0 hu44
  refine ax_getR (q := 40) hX dc_M_move_37 rfl fl_M_31 rfl hs0 hu44 ?_
  refine ax_iload_n (q := 41) hX dc_M_move_40 rfl rfl rfl ?_
  refine ax_aload_n (q := 42) hX dc_M_move_41 rfl rfl rfl ?_
  obtain ⟨u47, hu48, h⟩ := ax_bd h
  obtain ⟨n50, hs49⟩ : ∃ n, S u47 = some (.inr (0, n)) := hty.1 _ _ _ _ hs0 hu48
  refine ax_getR (q := 45) hX dc_M_move_42 rfl fl_M_31 rfl hs0 hu48 ?_
  refine ax_iload_n (q := 46) hX dc_M_move_45 rfl rfl rfl ?_
  obtain ⟨j51, hj52, h⟩ := ax_bd h
  have hj52 := ax_ix_s hty hs49 hj52
  refine ax_iald (q := 47) hX j51 dc_M_move_46 rfl hs49 hj52.1 hj52.2.1 hj52.2.2 ?_
  obtain ⟨j53, hj54, h⟩ := ax_bd h
  have hj54 := ax_ix_s hty hs45 hj54
  obtain ⟨I55, e56, h⟩ := ax_bs h
  refine ax_iast (q := 48) hX j53 dc_M_move_47 rfl hs45 hj54.1 hj54.2.1 hj54.2.2 e56 ?_
  refine ax_aload_n (q := 49) hX dc_M_move_48 rfl rfl rfl ?_
  obtain ⟨u57, hu58, h⟩ := ax_bd h
  obtain ⟨n60, hs59⟩ : ∃ n, S u57 = some (.inr (0, n)) := hty.1 _ _ _ _ hs0 hu58
  refine ax_getR (q := 52) hX dc_M_move_49 rfl fl_M_34 rfl hs0 hu58 ?_
  refine ax_iload_n (q := 53) hX dc_M_move_52 rfl rfl rfl ?_
  refine ax_aload_n (q := 54) hX dc_M_move_53 rfl rfl rfl ?_
  obtain ⟨u61, hu62, h⟩ := ax_bd h
  obtain ⟨n64, hs63⟩ : ∃ n, S u61 = some (.inr (0, n)) := hty.1 _ _ _ _ hs0 hu62
  refine ax_getR (q := 57) hX dc_M_move_54 rfl fl_M_34 rfl hs0 hu62 ?_
  refine ax_iload_n (q := 58) hX dc_M_move_57 rfl rfl rfl ?_
  obtain ⟨j65, hj66, h⟩ := ax_bd h
  have hj66 := ax_ix_s hty hs63 hj66
  refine ax_iald (q := 59) hX j65 dc_M_move_58 rfl hs63 hj66.1 hj66.2.1 hj66.2.2 ?_
  obtain ⟨j67, hj68, h⟩ := ax_bd h
  have hj68 := ax_ix_s hty hs59 hj68
  obtain ⟨I69, e70, h⟩ := ax_bs h
  refine ax_iast (q := 60) hX j67 dc_M_move_59 rfl hs59 hj68.1 hj68.2.1 hj68.2.2 e70 ?_
  refine ax_aload_n (q := 61) hX dc_M_move_60 rfl rfl rfl ?_
  obtain ⟨u71, hu72, h⟩ := ax_bd h
  obtain ⟨n74, hs73⟩ : ∃ n, S u71 = some (.inr (0, n)) := hty.1 _ _ _ _ hs0 hu72
  refine ax_getR (q := 64) hX dc_M_move_61 rfl fl_M_37 rfl hs0 hu72 ?_
  refine ax_iload_n (q := 65) hX dc_M_move_64 rfl rfl rfl ?_
  refine ax_aload_n (q := 66) hX dc_M_move_65 rfl rfl rfl ?_
  obtain ⟨u75, hu76, h⟩ := ax_bd h
  obtain ⟨n78, hs77⟩ : ∃ n, S u75 = some (.inr (0, n)) := hty.1 _ _ _ _ hs0 hu76
  refine ax_getR (q := 69) hX dc_M_move_66 rfl fl_M_37 rfl hs0 hu76 ?_
  refine ax_iload_n (q := 70) hX dc_M_move_69 rfl rfl rfl ?_
  obtain ⟨j79, hj80, h⟩ := ax_bd h
  have hj80 := ax_ix_s hty hs77 hj80
  refine ax_iald (q := 71) hX j79 dc_M_move_70 rfl hs77 hj80.1 hj80.2.1 hj80.2.2 ?_
  obtain ⟨j81, hj82, h⟩ := ax_bd h
  have hj82 := ax_ix_s hty hs73 hj82
  obtain ⟨I83, e84, h⟩ := ax_bs h
  refine ax_iast (q := 72) hX j81 dc_M_move_71 rfl hs73 hj82.1 hj82.2.1 hj82.2.2 e84 ?_
  refine ax_iconst (v := 0) (q := 73) hX dc_M_move_72 rfl (by decide) ?_
  refine ax_istore_n (ls' := [some (.ref u0), some (.int (x1)), some (.int (x2)), some (.int (0))]) (q := 74) hX dc_M_move_73 rfl rfl (by decide) rfl ?_
  exact (e_M_move_74 hX hF hS0  5000 I83 R u0 (x1) (x2) (0) hty hs0 rfl h)
def d_M_moveNote (S : ax_S) (I : ax_I) (R : ax_R) (u0 : Nat) (x1 : Int32) (x2 : Int32) : Option (ax_I) :=
  (R u0 15).bind fun u1 =>
  (R u0 15).bind fun u5 =>
  (ax_ix S u5 (x1)).bind fun j9 =>
  (ax_ix S u1 (x2)).bind fun j11 =>
  (some (ax_up I u1 j11 (I u5 j9))).bind fun I13 =>
  (R u0 16).bind fun u15 =>
  (R u0 16).bind fun u19 =>
  (ax_ix S u19 (x1)).bind fun j23 =>
  (ax_ix S u15 (x2)).bind fun j25 =>
  (some (ax_up I13 u15 j25 (I13 u19 j23))).bind fun I27 =>
  (R u0 17).bind fun u29 =>
  (R u0 17).bind fun u33 =>
  (ax_ix S u33 (x1)).bind fun j37 =>
  (ax_ix S u29 (x2)).bind fun j39 =>
  (some (ax_up I27 u29 j39 (I27 u33 j37))).bind fun I41 =>
  some (I41)
set_option maxHeartbeats 1000000 in
theorem c_M_moveNote (l : Launch) {S : ax_S} {I : ax_I} {R : ax_R} {L : ax_L} {u0 : Nat} {x1 : Int32} {x2 : Int32} {out : ax_I} (hty : ax_typ S R) (hs0 : S u0 = some (.inl 5)) (h : d_M_moveNote S I R u0 x1 x2 = some out) : ax_Met l y_M_moveNote b_M_moveNote 3 none (ax_rm 1 0 0) [.ref u0, .int x1, .int x2] S I R L (ax_eq none S out R L) := by
  refine ax_enter (own := "LossFreeToolsModel") (by decide +kernel) rfl (ax_cats rfl) (Nat.le_of_ble_eq_true rfl) (fun X hX hF _ hS0 => ?_)
  show ax_W X 3 0 [some (.ref u0), some (.int (x1)), some (.int (x2))] [] S I R L 0 0
  unfold d_M_moveNote at h
  refine ax_aload_n (q := 1) hX dc_M_moveNote_0 rfl rfl rfl ?_
  obtain ⟨u1, hu2, h⟩ := ax_bd h
  obtain ⟨n4, hs3⟩ : ∃ n, S u1 = some (.inr (0, n)) := hty.1 _ _ _ _ hs0 hu2
  refine ax_getR (q := 4) hX dc_M_moveNote_1 rfl fl_M_43 rfl hs0 hu2 ?_
  refine ax_iload_n (q := 5) hX dc_M_moveNote_4 rfl rfl rfl ?_
  refine ax_aload_n (q := 6) hX dc_M_moveNote_5 rfl rfl rfl ?_
  obtain ⟨u5, hu6, h⟩ := ax_bd h
  obtain ⟨n8, hs7⟩ : ∃ n, S u5 = some (.inr (0, n)) := hty.1 _ _ _ _ hs0 hu6
  refine ax_getR (q := 9) hX dc_M_moveNote_6 rfl fl_M_43 rfl hs0 hu6 ?_
  refine ax_iload_n (q := 10) hX dc_M_moveNote_9 rfl rfl rfl ?_
  obtain ⟨j9, hj10, h⟩ := ax_bd h
  have hj10 := ax_ix_s hty hs7 hj10
  refine ax_iald (q := 11) hX j9 dc_M_moveNote_10 rfl hs7 hj10.1 hj10.2.1 hj10.2.2 ?_
  obtain ⟨j11, hj12, h⟩ := ax_bd h
  have hj12 := ax_ix_s hty hs3 hj12
  obtain ⟨I13, e14, h⟩ := ax_bs h
  refine ax_iast (q := 12) hX j11 dc_M_moveNote_11 rfl hs3 hj12.1 hj12.2.1 hj12.2.2 e14 ?_
  refine ax_aload_n (q := 13) hX dc_M_moveNote_12 rfl rfl rfl ?_
  obtain ⟨u15, hu16, h⟩ := ax_bd h
  obtain ⟨n18, hs17⟩ : ∃ n, S u15 = some (.inr (0, n)) := hty.1 _ _ _ _ hs0 hu16
  refine ax_getR (q := 16) hX dc_M_moveNote_13 rfl fl_M_46 rfl hs0 hu16 ?_
  refine ax_iload_n (q := 17) hX dc_M_moveNote_16 rfl rfl rfl ?_
  refine ax_aload_n (q := 18) hX dc_M_moveNote_17 rfl rfl rfl ?_
  obtain ⟨u19, hu20, h⟩ := ax_bd h
  obtain ⟨n22, hs21⟩ : ∃ n, S u19 = some (.inr (0, n)) := hty.1 _ _ _ _ hs0 hu20
  refine ax_getR (q := 21) hX dc_M_moveNote_18 rfl fl_M_46 rfl hs0 hu20 ?_
  refine ax_iload_n (q := 22) hX dc_M_moveNote_21 rfl rfl rfl ?_
  obtain ⟨j23, hj24, h⟩ := ax_bd h
  have hj24 := ax_ix_s hty hs21 hj24
  refine ax_iald (q := 23) hX j23 dc_M_moveNote_22 rfl hs21 hj24.1 hj24.2.1 hj24.2.2 ?_
  obtain ⟨j25, hj26, h⟩ := ax_bd h
  have hj26 := ax_ix_s hty hs17 hj26
  obtain ⟨I27, e28, h⟩ := ax_bs h
  refine ax_iast (q := 24) hX j25 dc_M_moveNote_23 rfl hs17 hj26.1 hj26.2.1 hj26.2.2 e28 ?_
  refine ax_aload_n (q := 25) hX dc_M_moveNote_24 rfl rfl rfl ?_
  obtain ⟨u29, hu30, h⟩ := ax_bd h
  obtain ⟨n32, hs31⟩ : ∃ n, S u29 = some (.inr (0, n)) := hty.1 _ _ _ _ hs0 hu30
  refine ax_getR (q := 28) hX dc_M_moveNote_25 rfl fl_M_49 rfl hs0 hu30 ?_
  refine ax_iload_n (q := 29) hX dc_M_moveNote_28 rfl rfl rfl ?_
  refine ax_aload_n (q := 30) hX dc_M_moveNote_29 rfl rfl rfl ?_
  obtain ⟨u33, hu34, h⟩ := ax_bd h
  obtain ⟨n36, hs35⟩ : ∃ n, S u33 = some (.inr (0, n)) := hty.1 _ _ _ _ hs0 hu34
  refine ax_getR (q := 33) hX dc_M_moveNote_30 rfl fl_M_49 rfl hs0 hu34 ?_
  refine ax_iload_n (q := 34) hX dc_M_moveNote_33 rfl rfl rfl ?_
  obtain ⟨j37, hj38, h⟩ := ax_bd h
  have hj38 := ax_ix_s hty hs35 hj38
  refine ax_iald (q := 35) hX j37 dc_M_moveNote_34 rfl hs35 hj38.1 hj38.2.1 hj38.2.2 ?_
  obtain ⟨j39, hj40, h⟩ := ax_bd h
  have hj40 := ax_ix_s hty hs31 hj40
  obtain ⟨I41, e42, h⟩ := ax_bs h
  refine ax_iast (q := 36) hX j39 dc_M_moveNote_35 rfl hs31 hj40.1 hj40.2.1 hj40.2.2 e42 ?_
  cases h
  exact ax_vret hX hF dc_M_moveNote_36 (by decide) (by decide) ax_eq.mk (by rw [hS0]; exact fun _ _ z => z)
def d_M_comes_29 (S : ax_S) : Nat → ax_I → ax_R → Int32 → Int32 → Int32 → Int32 → Int32 → Int32 → Option (Int32)
  | 0, _, _, _, _, _, _, _, _ => none
  | n + 1, I, R, x0, x5, x6, x7, x8, x9 =>
    if (x0 - x0 / 4 * 4) ≤ x9 then
      some ((1000 * x6) + x5)
    else
      d_M_comes_29 S  n I R (x0) ((x8 - 1) - x6) (x5) (x8) (x7) (x9 + 1)
set_option maxHeartbeats 1000000 in
theorem e_M_comes_29 {l : Launch} {X : ax_X} {S : ax_S} {L : ax_L} {I0 : ax_I} {R0 : ax_R} {out : Int32} (hX : ax_ok X l "LossFreeToolsModel" b_M_comes 12 (ax_rm 1 0 0)) (hF : ax_fin X (some .int) 0 0 (ax_of (ax_eq (some (.int out)) S I0 R0 L))) (hS0 : ax_S0 X = S) : ∀ (n : Nat), ∀ (I : ax_I) (R : ax_R) (x0 : Int32) (x5 : Int32) (x6 : Int32) (x7 : Int32) (x8 : Int32) (x9 : Int32), ax_typ S R → I = I0 → R = R0 → d_M_comes_29 S  n I R x0 x5 x6 x7 x8 x9 = some out → ax_W X 12 29 [some (.int (x0)), none, none, none, none, some (.int (x5)), some (.int (x6)), some (.int (x7)), some (.int (x8)), some (.int (x9)), none, none] [] S I R L 0 0 := by
  intro n
  induction n with
  | zero =>
    rintro I R x0 x5 x6 x7 x8 x9 hty hI0 hR0 h
    cases h
  | succ n ih =>
    rintro I R x0 x5 x6 x7 x8 x9 hty hI0 hR0 h
    subst hI0
    subst hR0
    unfold d_M_comes_29 at h
    refine ax_iload (q := 31) hX dc_M_comes_29 rfl rfl ?_
    refine ax_iload_n (q := 32) hX dc_M_comes_31 rfl rfl rfl ?_
    refine ax_iconst (v := 4) (q := 33) hX dc_M_comes_32 rfl (by decide) ?_
    refine ax_irem (q := 34) hX dc_M_comes_33 rfl (by decide) ?_
    refine ax_icmp_ge (tgt := 72) (q := 37) hX dc_M_comes_34 rfl (by decide) (fun z2 => ?_) (fun z2 => ?_)
    · rw [if_pos z2] at h
      refine ax_sipush (v := 1000) (q := 75) hX dc_M_comes_72 rfl (by decide) ?_
      refine ax_iload (q := 77) hX dc_M_comes_75 rfl rfl ?_
      refine ax_imul (q := 78) hX dc_M_comes_77 rfl ?_
      refine ax_iload (q := 80) hX dc_M_comes_78 rfl rfl ?_
      refine ax_iadd (q := 81) hX dc_M_comes_80 rfl ?_
      cases h
      exact ax_iret hX hF dc_M_comes_81 rfl rfl (by decide) (by decide) ax_eq.mk (by rw [hS0]; exact fun _ _ z => z)
    · rw [if_neg z2] at h
      refine ax_iload (q := 39) hX dc_M_comes_37 rfl rfl ?_
      refine ax_istore (ls' := [some (.int (x0)), none, none, none, none, some (.int (x5)), some (.int (x6)), some (.int (x7)), some (.int (x8)), some (.int (x9)), some (.int (x5)), none]) (q := 41) hX dc_M_comes_39 rfl (by decide) rfl ?_
      refine ax_iload (q := 43) hX dc_M_comes_41 rfl rfl ?_
      refine ax_iconst (v := 1) (q := 44) hX dc_M_comes_43 rfl (by decide) ?_
      refine ax_isub (q := 45) hX dc_M_comes_44 rfl ?_
      refine ax_iload (q := 47) hX dc_M_comes_45 rfl rfl ?_
      refine ax_isub (q := 48) hX dc_M_comes_47 rfl ?_
      refine ax_istore (ls' := [some (.int (x0)), none, none, none, none, some (.int ((x8 - 1) - x6)), some (.int (x6)), some (.int (x7)), some (.int (x8)), some (.int (x9)), some (.int (x5)), none]) (q := 50) hX dc_M_comes_48 rfl (by decide) rfl ?_
      refine ax_iload (q := 52) hX dc_M_comes_50 rfl rfl ?_
      refine ax_istore (ls' := [some (.int (x0)), none, none, none, none, some (.int ((x8 - 1) - x6)), some (.int (x5)), some (.int (x7)), some (.int (x8)), some (.int (x9)), some (.int (x5)), none]) (q := 54) hX dc_M_comes_52 rfl (by decide) rfl ?_
      refine ax_iload (q := 56) hX dc_M_comes_54 rfl rfl ?_
      refine ax_istore (ls' := [some (.int (x0)), none, none, none, none, some (.int ((x8 - 1) - x6)), some (.int (x5)), some (.int (x7)), some (.int (x8)), some (.int (x9)), some (.int (x5)), some (.int (x7))]) (q := 58) hX dc_M_comes_56 rfl (by decide) rfl ?_
      refine ax_iload (q := 60) hX dc_M_comes_58 rfl rfl ?_
      refine ax_istore (ls' := [some (.int (x0)), none, none, none, none, some (.int ((x8 - 1) - x6)), some (.int (x5)), some (.int (x8)), some (.int (x8)), some (.int (x9)), some (.int (x5)), some (.int (x7))]) (q := 62) hX dc_M_comes_60 rfl (by decide) rfl ?_
      refine ax_iload (q := 64) hX dc_M_comes_62 rfl rfl ?_
      refine ax_istore (ls' := [some (.int (x0)), none, none, none, none, some (.int ((x8 - 1) - x6)), some (.int (x5)), some (.int (x8)), some (.int (x7)), some (.int (x9)), some (.int (x5)), some (.int (x7))]) (q := 66) hX dc_M_comes_64 rfl (by decide) rfl ?_
      refine ax_iinc (v := x9 + 1) (ls' := [some (.int (x0)), none, none, none, none, some (.int ((x8 - 1) - x6)), some (.int (x5)), some (.int (x8)), some (.int (x7)), some (.int (x9 + 1)), some (.int (x5)), some (.int (x7))]) (q := 69) hX dc_M_comes_66 rfl rfl rfl (by decide) rfl ?_
      refine ax_goto (tgt := 29) hX dc_M_comes_69 (by decide) ?_
      exact ax_weak (ls' := [some (.int (x0)), none, none, none, none, some (.int ((x8 - 1) - x6)), some (.int (x5)), some (.int (x8)), some (.int (x7)), some (.int (x9 + 1)), none, none]) (ax_fewP_s _ _ (by repeat (first | exact trivial | (refine And.intro rfl ?_)))) (ih I R (x0) ((x8 - 1) - x6) (x5) (x8) (x7) (x9 + 1) hty  rfl rfl h)
def d_M_comes_14 (S : ax_S) (I : ax_I) (R : ax_R) (x0 : Int32) (x2 : Int32) (x3 : Int32) (x4 : Int32) (y0 : Int32) : Option (Int32) :=
  d_M_comes_29 S  5000 I R (x0) (y0) (x2) (x3) (x4) (0)
set_option maxHeartbeats 1000000 in
theorem e_M_comes_14 {l : Launch} {X : ax_X} {S : ax_S} {L : ax_L} {I0 : ax_I} {R0 : ax_R} {out : Int32} (hX : ax_ok X l "LossFreeToolsModel" b_M_comes 12 (ax_rm 1 0 0)) (hF : ax_fin X (some .int) 0 0 (ax_of (ax_eq (some (.int out)) S I0 R0 L))) (hS0 : ax_S0 X = S) : ∀ (I : ax_I) (R : ax_R) (x0 : Int32) (x2 : Int32) (x3 : Int32) (x4 : Int32) (y0 : Int32), ax_typ S R → I = I0 → R = R0 → d_M_comes_14 S  I R x0 x2 x3 x4 y0 = some out → ax_W X 12 14 [some (.int (x0)), none, some (.int (x2)), some (.int (x3)), some (.int (x4)), none, none, none, none, none, none, none] [.int (y0)] S I R L 0 0 := by
  rintro I R x0 x2 x3 x4 y0 hty hI0 hR0 h
  subst hI0
  subst hR0
  unfold d_M_comes_14 at h
  refine ax_istore (ls' := [some (.int (x0)), none, some (.int (x2)), some (.int (x3)), some (.int (x4)), some (.int (y0)), none, none, none, none, none, none]) (q := 16) hX dc_M_comes_14 rfl (by decide) rfl ?_
  refine ax_iload_n (q := 17) hX dc_M_comes_16 rfl rfl rfl ?_
  refine ax_istore (ls' := [some (.int (x0)), none, some (.int (x2)), some (.int (x3)), some (.int (x4)), some (.int (y0)), some (.int (x2)), none, none, none, none, none]) (q := 19) hX dc_M_comes_17 rfl (by decide) rfl ?_
  refine ax_iload_n (q := 20) hX dc_M_comes_19 rfl rfl rfl ?_
  refine ax_istore (ls' := [some (.int (x0)), none, some (.int (x2)), some (.int (x3)), some (.int (x4)), some (.int (y0)), some (.int (x2)), some (.int (x3)), none, none, none, none]) (q := 22) hX dc_M_comes_20 rfl (by decide) rfl ?_
  refine ax_iload (q := 24) hX dc_M_comes_22 rfl rfl ?_
  refine ax_istore (ls' := [some (.int (x0)), none, some (.int (x2)), some (.int (x3)), some (.int (x4)), some (.int (y0)), some (.int (x2)), some (.int (x3)), some (.int (x4)), none, none, none]) (q := 26) hX dc_M_comes_24 rfl (by decide) rfl ?_
  refine ax_iconst (v := 0) (q := 27) hX dc_M_comes_26 rfl (by decide) ?_
  refine ax_istore (ls' := [some (.int (x0)), none, some (.int (x2)), some (.int (x3)), some (.int (x4)), some (.int (y0)), some (.int (x2)), some (.int (x3)), some (.int (x4)), some (.int (0)), none, none]) (q := 29) hX dc_M_comes_27 rfl (by decide) rfl ?_
  exact ax_weak (ls' := [some (.int (x0)), none, none, none, none, some (.int (y0)), some (.int (x2)), some (.int (x3)), some (.int (x4)), some (.int (0)), none, none]) (ax_fewP_s _ _ (by repeat (first | exact trivial | (refine And.intro rfl ?_)))) (e_M_comes_29 hX hF hS0  5000 I R (x0) (y0) (x2) (x3) (x4) (0) hty  rfl rfl h)
def d_M_comes (S : ax_S) (I : ax_I) (R : ax_R) (x0 : Int32) (x1 : Int32) (x2 : Int32) (x3 : Int32) (x4 : Int32) : Option (Int32) :=
  if x0 < 4 then
    d_M_comes_14 S  I R (x0) (x2) (x3) (x4) (x1)
  else
    d_M_comes_14 S  I R (x0) (x2) (x3) (x4) ((x3 - 1) - x1)
set_option maxHeartbeats 1000000 in
theorem c_M_comes (l : Launch) {S : ax_S} {I : ax_I} {R : ax_R} {L : ax_L} {x0 : Int32} {x1 : Int32} {x2 : Int32} {x3 : Int32} {x4 : Int32} {out : Int32} (hty : ax_typ S R) (h : d_M_comes S I R x0 x1 x2 x3 x4 = some out) : ax_Met l y_M_comes b_M_comes 12 (some .int) (ax_rm 1 0 0) [.int x0, .int x1, .int x2, .int x3, .int x4] S I R L (ax_eq (some (.int out)) S I R L) := by
  refine ax_enter (own := "LossFreeToolsModel") (by decide +kernel) rfl (ax_cats rfl) (Nat.le_of_ble_eq_true rfl) (fun X hX hF _ hS0 => ?_)
  show ax_W X 12 0 [some (.int (x0)), some (.int (x1)), some (.int (x2)), some (.int (x3)), some (.int (x4)), none, none, none, none, none, none, none] [] S I R L 0 0
  unfold d_M_comes at h
  refine ax_iload_n (q := 1) hX dc_M_comes_0 rfl rfl rfl ?_
  refine ax_iconst (v := 4) (q := 2) hX dc_M_comes_1 rfl (by decide) ?_
  refine ax_icmp_lt (tgt := 13) (q := 5) hX dc_M_comes_2 rfl (by decide) (fun z1 => ?_) (fun z1 => ?_)
  · rw [if_pos z1] at h
    refine ax_iload_n (q := 14) hX dc_M_comes_13 rfl rfl rfl ?_
    exact ax_weak (ls' := [some (.int (x0)), none, some (.int (x2)), some (.int (x3)), some (.int (x4)), none, none, none, none, none, none, none]) (ax_fewP_s _ _ (by repeat (first | exact trivial | (refine And.intro rfl ?_)))) (e_M_comes_14 hX hF hS0  I R (x0) (x2) (x3) (x4) (x1) hty  rfl rfl h)
  · rw [if_neg z1] at h
    refine ax_iload_n (q := 6) hX dc_M_comes_5 rfl rfl rfl ?_
    refine ax_iconst (v := 1) (q := 7) hX dc_M_comes_6 rfl (by decide) ?_
    refine ax_isub (q := 8) hX dc_M_comes_7 rfl ?_
    refine ax_iload_n (q := 9) hX dc_M_comes_8 rfl rfl rfl ?_
    refine ax_isub (q := 10) hX dc_M_comes_9 rfl ?_
    refine ax_goto (tgt := 14) hX dc_M_comes_10 (by decide) ?_
    exact ax_weak (ls' := [some (.int (x0)), none, some (.int (x2)), some (.int (x3)), some (.int (x4)), none, none, none, none, none, none, none]) (ax_fewP_s _ _ (by repeat (first | exact trivial | (refine And.intro rfl ?_)))) (e_M_comes_14 hX hF hS0  I R (x0) (x2) (x3) (x4) ((x3 - 1) - x1) hty  rfl rfl h)
def d_M_isTurned (S : ax_S) (I : ax_I) (R : ax_R) (x0 : Int32) : Option (Bool) :=
  if (x0 - x0 / 2 * 2) = 1 then
    some (true)
  else
    some (false)
set_option maxHeartbeats 1000000 in
theorem c_M_isTurned (l : Launch) {S : ax_S} {I : ax_I} {R : ax_R} {L : ax_L} {x0 : Int32} {out : Bool} (hty : ax_typ S R) (h : d_M_isTurned S I R x0 = some out) : ax_Met l y_M_isTurned b_M_isTurned 1 (some .boolean) (ax_rm 1 0 0) [.int x0] S I R L (ax_eq (some (.int (ax_b out))) S I R L) := by
  refine ax_enter (own := "LossFreeToolsModel") (by decide +kernel) rfl (ax_cats rfl) (Nat.le_of_ble_eq_true rfl) (fun X hX hF _ hS0 => ?_)
  show ax_W X 1 0 [some (.int (x0))] [] S I R L 0 0
  unfold d_M_isTurned at h
  refine ax_iload_n (q := 1) hX dc_M_isTurned_0 rfl rfl rfl ?_
  refine ax_iconst (v := 2) (q := 2) hX dc_M_isTurned_1 rfl (by decide) ?_
  refine ax_irem (q := 3) hX dc_M_isTurned_2 rfl (by decide) ?_
  refine ax_iconst (v := 1) (q := 4) hX dc_M_isTurned_3 rfl (by decide) ?_
  refine ax_icmp_ne (tgt := 11) (q := 7) hX dc_M_isTurned_4 rfl (by decide) (fun z1 => ?_) (fun z1 => ?_)
  · rw [if_neg z1] at h
    refine ax_iconst (v := 0) (q := 12) hX dc_M_isTurned_11 rfl (by decide) ?_
    cases h
    exact ax_iret hX hF dc_M_isTurned_12 rfl rfl (by decide) (by decide) ax_eq.mk (by rw [hS0]; exact fun _ _ z => z)
  · rw [if_pos z1] at h
    refine ax_iconst (v := 1) (q := 8) hX dc_M_isTurned_7 rfl (by decide) ?_
    refine ax_goto (tgt := 12) hX dc_M_isTurned_8 (by decide) ?_
    cases h
    exact ax_iret hX hF dc_M_isTurned_12 rfl rfl (by decide) (by decide) ax_eq.mk (by rw [hS0]; exact fun _ _ z => z)
def d_M_swap (S : ax_S) (I : ax_I) (R : ax_R) (u0 : Nat) : Option (Int32 × ax_I) :=
  (some (ax_up I u0 0 (0))).bind fun I1 =>
  (some (ax_up I1 u0 3 (1 - (I1 u0 3)))).bind fun I3 =>
  (some (ax_up I3 u0 18 (0))).bind fun I5 =>
  (some (ax_up I5 u0 19 (0))).bind fun I7 =>
  (R u0 6).bind fun u9 =>
  (ax_ix S u9 (I7 u0 3)).bind fun j13 =>
  some (I7 u9 j13, I7)
set_option maxHeartbeats 1000000 in
theorem c_M_swap (l : Launch) {S : ax_S} {I : ax_I} {R : ax_R} {L : ax_L} {u0 : Nat} {out : Int32 × ax_I} (hty : ax_typ S R) (hs0 : S u0 = some (.inl 5)) (h : d_M_swap S I R u0 = some out) : ax_Met l y_M_swap b_M_swap 1 (some .int) (ax_rm 1 0 0) [.ref u0] S I R L (ax_eq (some (.int out.1)) S out.2 R L) := by
  refine ax_enter (own := "LossFreeToolsModel") (by decide +kernel) rfl (ax_cats rfl) (Nat.le_of_ble_eq_true rfl) (fun X hX hF _ hS0 => ?_)
  show ax_W X 1 0 [some (.ref u0)] [] S I R L 0 0
  unfold d_M_swap at h
  refine ax_aload_n (q := 1) hX dc_M_swap_0 rfl rfl rfl ?_
  refine ax_iconst (v := 0) (q := 2) hX dc_M_swap_1 rfl (by decide) ?_
  obtain ⟨I1, e2, h⟩ := ax_bs h
  refine ax_putI (q := 5) hX dc_M_swap_2 rfl fl_M_68 rfl hs0 (fun z => by cases z) rfl rfl e2 ?_
  refine ax_aload_n (q := 6) hX dc_M_swap_5 rfl rfl rfl ?_
  refine ax_iconst (v := 1) (q := 7) hX dc_M_swap_6 rfl (by decide) ?_
  refine ax_aload_n (q := 8) hX dc_M_swap_7 rfl rfl rfl ?_
  refine ax_getI (q := 11) hX dc_M_swap_8 rfl fl_M_71 rfl hs0 ?_
  refine ax_isub (q := 12) hX dc_M_swap_11 rfl ?_
  obtain ⟨I3, e4, h⟩ := ax_bs h
  refine ax_putI (q := 15) hX dc_M_swap_12 rfl fl_M_71 rfl hs0 (fun z => by cases z) rfl rfl e4 ?_
  refine ax_aload_n (q := 16) hX dc_M_swap_15 rfl rfl rfl ?_
  refine ax_iconst (v := 0) (q := 17) hX dc_M_swap_16 rfl (by decide) ?_
  obtain ⟨I5, e6, h⟩ := ax_bs h
  refine ax_putI (q := 20) hX dc_M_swap_17 rfl fl_M_74 rfl hs0 (fun z => by cases z) rfl rfl e6 ?_
  refine ax_aload_n (q := 21) hX dc_M_swap_20 rfl rfl rfl ?_
  refine ax_iconst (v := 0) (q := 22) hX dc_M_swap_21 rfl (by decide) ?_
  obtain ⟨I7, e8, h⟩ := ax_bs h
  refine ax_putI (q := 25) hX dc_M_swap_22 rfl fl_M_77 rfl hs0 (fun z => by cases z) rfl rfl e8 ?_
  refine ax_aload_n (q := 26) hX dc_M_swap_25 rfl rfl rfl ?_
  obtain ⟨u9, hu10, h⟩ := ax_bd h
  obtain ⟨n12, hs11⟩ : ∃ n, S u9 = some (.inr (0, n)) := hty.1 _ _ _ _ hs0 hu10
  refine ax_getR (q := 29) hX dc_M_swap_26 rfl fl_M_16 rfl hs0 hu10 ?_
  refine ax_aload_n (q := 30) hX dc_M_swap_29 rfl rfl rfl ?_
  refine ax_getI (q := 33) hX dc_M_swap_30 rfl fl_M_71 rfl hs0 ?_
  obtain ⟨j13, hj14, h⟩ := ax_bd h
  have hj14 := ax_ix_s hty hs11 hj14
  refine ax_iald (q := 34) hX j13 dc_M_swap_33 rfl hs11 hj14.1 hj14.2.1 hj14.2.2 ?_
  cases h
  exact ax_iret hX hF dc_M_swap_34 rfl rfl (by decide) (by decide) ax_eq.mk (by rw [hS0]; exact fun _ _ z => z)
def d_M_tell (S : ax_S) (I : ax_I) (R : ax_R) (u0 : Nat) (x1 : Int32) : Option (ax_I) :=
  (R u0 21).bind fun u1 =>
  (ax_ix S u1 (I u0 22)).bind fun j5 =>
  (some (ax_up I u1 j5 (x1))).bind fun I7 =>
  (some (ax_up I7 u0 22 ((I7 u0 22) + 1))).bind fun I9 =>
  some (I9)
set_option maxHeartbeats 1000000 in
theorem c_M_tell (l : Launch) {S : ax_S} {I : ax_I} {R : ax_R} {L : ax_L} {u0 : Nat} {x1 : Int32} {out : ax_I} (hty : ax_typ S R) (hs0 : S u0 = some (.inl 5)) (h : d_M_tell S I R u0 x1 = some out) : ax_Met l y_M_tell b_M_tell 2 none (ax_rm 1 0 0) [.ref u0, .int x1] S I R L (ax_eq none S out R L) := by
  refine ax_enter (own := "LossFreeToolsModel") (by decide +kernel) rfl (ax_cats rfl) (Nat.le_of_ble_eq_true rfl) (fun X hX hF _ hS0 => ?_)
  show ax_W X 2 0 [some (.ref u0), some (.int (x1))] [] S I R L 0 0
  unfold d_M_tell at h
  refine ax_aload_n (q := 1) hX dc_M_tell_0 rfl rfl rfl ?_
  obtain ⟨u1, hu2, h⟩ := ax_bd h
  obtain ⟨n4, hs3⟩ : ∃ n, S u1 = some (.inr (0, n)) := hty.1 _ _ _ _ hs0 hu2
  refine ax_getR (q := 4) hX dc_M_tell_1 rfl fl_M_55 rfl hs0 hu2 ?_
  refine ax_aload_n (q := 5) hX dc_M_tell_4 rfl rfl rfl ?_
  refine ax_getI (q := 8) hX dc_M_tell_5 rfl fl_M_81 rfl hs0 ?_
  refine ax_iload_n (q := 9) hX dc_M_tell_8 rfl rfl rfl ?_
  obtain ⟨j5, hj6, h⟩ := ax_bd h
  have hj6 := ax_ix_s hty hs3 hj6
  obtain ⟨I7, e8, h⟩ := ax_bs h
  refine ax_iast (q := 10) hX j5 dc_M_tell_9 rfl hs3 hj6.1 hj6.2.1 hj6.2.2 e8 ?_
  refine ax_aload_n (q := 11) hX dc_M_tell_10 rfl rfl rfl ?_
  refine ax_dup (q := 12) hX dc_M_tell_11 rfl rfl ?_
  refine ax_getI (q := 15) hX dc_M_tell_12 rfl fl_M_81 rfl hs0 ?_
  refine ax_iconst (v := 1) (q := 16) hX dc_M_tell_15 rfl (by decide) ?_
  refine ax_iadd (q := 17) hX dc_M_tell_16 rfl ?_
  obtain ⟨I9, e10, h⟩ := ax_bs h
  refine ax_putI (q := 20) hX dc_M_tell_17 rfl fl_M_81 rfl hs0 (fun z => by cases z) rfl rfl e10 ?_
  cases h
  exact ax_vret hX hF dc_M_tell_20 (by decide) (by decide) ax_eq.mk (by rw [hS0]; exact fun _ _ z => z)
def d_M_partSize (S : ax_S) (I : ax_I) (R : ax_R) (x0 : Int32) : Option (Int32) :=
  some (12 + x0)
set_option maxHeartbeats 1000000 in
theorem c_M_partSize (l : Launch) {S : ax_S} {I : ax_I} {R : ax_R} {L : ax_L} {x0 : Int32} {out : Int32} (hty : ax_typ S R) (h : d_M_partSize S I R x0 = some out) : ax_Met l y_M_partSize b_M_partSize 1 (some .int) (ax_rm 1 0 0) [.int x0] S I R L (ax_eq (some (.int out)) S I R L) := by
  refine ax_enter (own := "LossFreeToolsModel") (by decide +kernel) rfl (ax_cats rfl) (Nat.le_of_ble_eq_true rfl) (fun X hX hF _ hS0 => ?_)
  show ax_W X 1 0 [some (.int (x0))] [] S I R L 0 0
  unfold d_M_partSize at h
  refine ax_bipush (v := 12) (q := 2) hX dc_M_partSize_0 rfl (by decide) ?_
  refine ax_iload_n (q := 3) hX dc_M_partSize_2 rfl rfl rfl ?_
  refine ax_iadd (q := 4) hX dc_M_partSize_3 rfl ?_
  cases h
  exact ax_iret hX hF dc_M_partSize_4 rfl rfl (by decide) (by decide) ax_eq.mk (by rw [hS0]; exact fun _ _ z => z)
def d_M_isBefore_45 (S : ax_S) (I : ax_I) (R : ax_R) : Option (Bool) :=
  some (true)
set_option maxHeartbeats 1000000 in
theorem e_M_isBefore_45 {l : Launch} {X : ax_X} {S : ax_S} {L : ax_L} {I0 : ax_I} {R0 : ax_R} {out : Bool} (hX : ax_ok X l "LossFreeToolsModel" b_M_isBefore 3 (ax_rm 1 0 0)) (hF : ax_fin X (some .boolean) 0 0 (ax_of (ax_eq (some (.int (ax_b out))) S I0 R0 L))) (hS0 : ax_S0 X = S) : ∀ (I : ax_I) (R : ax_R), ax_typ S R → I = I0 → R = R0 → d_M_isBefore_45 S  I R = some out → ax_W X 3 45 [none, none, none] [] S I R L 0 0 := by
  rintro I R hty hI0 hR0 h
  subst hI0
  subst hR0
  unfold d_M_isBefore_45 at h
  refine ax_iconst (v := 1) (q := 46) hX dc_M_isBefore_45 rfl (by decide) ?_
  refine ax_goto (tgt := 50) hX dc_M_isBefore_46 (by decide) ?_
  cases h
  exact ax_iret hX hF dc_M_isBefore_50 rfl rfl (by decide) (by decide) ax_eq.mk (by rw [hS0]; exact fun _ _ z => z)
def d_M_isBefore (S : ax_S) (I : ax_I) (R : ax_R) (u0 : Nat) (x1 : Int32) (x2 : Int32) : Option (Bool) :=
  (R u0 9).bind fun u1 =>
  (ax_ix S u1 (x1)).bind fun j5 =>
  (R u0 9).bind fun u7 =>
  (ax_ix S u7 (x2)).bind fun j11 =>
  if (I u1 j5) < (I u7 j11) then
    d_M_isBefore_45 S  I R 
  else
    (R u0 9).bind fun u14 =>
    (ax_ix S u14 (x1)).bind fun j18 =>
    (R u0 9).bind fun u20 =>
    (ax_ix S u20 (x2)).bind fun j24 =>
    if (I u14 j18) = (I u20 j24) then
      (R u0 8).bind fun u27 =>
      (ax_ix S u27 (x1)).bind fun j31 =>
      (R u0 8).bind fun u33 =>
      (ax_ix S u33 (x2)).bind fun j37 =>
      if (I u33 j37) ≤ (I u27 j31) then
        some (false)
      else
        d_M_isBefore_45 S  I R 
    else
      some (false)
set_option maxHeartbeats 1000000 in
theorem c_M_isBefore (l : Launch) {S : ax_S} {I : ax_I} {R : ax_R} {L : ax_L} {u0 : Nat} {x1 : Int32} {x2 : Int32} {out : Bool} (hty : ax_typ S R) (hs0 : S u0 = some (.inl 5)) (h : d_M_isBefore S I R u0 x1 x2 = some out) : ax_Met l y_M_isBefore b_M_isBefore 3 (some .boolean) (ax_rm 1 0 0) [.ref u0, .int x1, .int x2] S I R L (ax_eq (some (.int (ax_b out))) S I R L) := by
  refine ax_enter (own := "LossFreeToolsModel") (by decide +kernel) rfl (ax_cats rfl) (Nat.le_of_ble_eq_true rfl) (fun X hX hF _ hS0 => ?_)
  show ax_W X 3 0 [some (.ref u0), some (.int (x1)), some (.int (x2))] [] S I R L 0 0
  unfold d_M_isBefore at h
  refine ax_aload_n (q := 1) hX dc_M_isBefore_0 rfl rfl rfl ?_
  obtain ⟨u1, hu2, h⟩ := ax_bd h
  obtain ⟨n4, hs3⟩ : ∃ n, S u1 = some (.inr (0, n)) := hty.1 _ _ _ _ hs0 hu2
  refine ax_getR (q := 4) hX dc_M_isBefore_1 rfl fl_M_25 rfl hs0 hu2 ?_
  refine ax_iload_n (q := 5) hX dc_M_isBefore_4 rfl rfl rfl ?_
  obtain ⟨j5, hj6, h⟩ := ax_bd h
  have hj6 := ax_ix_s hty hs3 hj6
  refine ax_iald (q := 6) hX j5 dc_M_isBefore_5 rfl hs3 hj6.1 hj6.2.1 hj6.2.2 ?_
  refine ax_aload_n (q := 7) hX dc_M_isBefore_6 rfl rfl rfl ?_
  obtain ⟨u7, hu8, h⟩ := ax_bd h
  obtain ⟨n10, hs9⟩ : ∃ n, S u7 = some (.inr (0, n)) := hty.1 _ _ _ _ hs0 hu8
  refine ax_getR (q := 10) hX dc_M_isBefore_7 rfl fl_M_25 rfl hs0 hu8 ?_
  refine ax_iload_n (q := 11) hX dc_M_isBefore_10 rfl rfl rfl ?_
  obtain ⟨j11, hj12, h⟩ := ax_bd h
  have hj12 := ax_ix_s hty hs9 hj12
  refine ax_iald (q := 12) hX j11 dc_M_isBefore_11 rfl hs9 hj12.1 hj12.2.1 hj12.2.2 ?_
  refine ax_icmp_lt (tgt := 45) (q := 15) hX dc_M_isBefore_12 rfl (by decide) (fun z13 => ?_) (fun z13 => ?_)
  · rw [if_pos z13] at h
    exact ax_weak (ls' := [none, none, none]) (ax_fewP_s _ _ (by repeat (first | exact trivial | (refine And.intro rfl ?_)))) (e_M_isBefore_45 hX hF hS0  I R  hty  rfl rfl h)
  · rw [if_neg z13] at h
    refine ax_aload_n (q := 16) hX dc_M_isBefore_15 rfl rfl rfl ?_
    obtain ⟨u14, hu15, h⟩ := ax_bd h
    obtain ⟨n17, hs16⟩ : ∃ n, S u14 = some (.inr (0, n)) := hty.1 _ _ _ _ hs0 hu15
    refine ax_getR (q := 19) hX dc_M_isBefore_16 rfl fl_M_25 rfl hs0 hu15 ?_
    refine ax_iload_n (q := 20) hX dc_M_isBefore_19 rfl rfl rfl ?_
    obtain ⟨j18, hj19, h⟩ := ax_bd h
    have hj19 := ax_ix_s hty hs16 hj19
    refine ax_iald (q := 21) hX j18 dc_M_isBefore_20 rfl hs16 hj19.1 hj19.2.1 hj19.2.2 ?_
    refine ax_aload_n (q := 22) hX dc_M_isBefore_21 rfl rfl rfl ?_
    obtain ⟨u20, hu21, h⟩ := ax_bd h
    obtain ⟨n23, hs22⟩ : ∃ n, S u20 = some (.inr (0, n)) := hty.1 _ _ _ _ hs0 hu21
    refine ax_getR (q := 25) hX dc_M_isBefore_22 rfl fl_M_25 rfl hs0 hu21 ?_
    refine ax_iload_n (q := 26) hX dc_M_isBefore_25 rfl rfl rfl ?_
    obtain ⟨j24, hj25, h⟩ := ax_bd h
    have hj25 := ax_ix_s hty hs22 hj25
    refine ax_iald (q := 27) hX j24 dc_M_isBefore_26 rfl hs22 hj25.1 hj25.2.1 hj25.2.2 ?_
    refine ax_icmp_ne (tgt := 49) (q := 30) hX dc_M_isBefore_27 rfl (by decide) (fun z26 => ?_) (fun z26 => ?_)
    · rw [if_neg z26] at h
      refine ax_iconst (v := 0) (q := 50) hX dc_M_isBefore_49 rfl (by decide) ?_
      cases h
      exact ax_iret hX hF dc_M_isBefore_50 rfl rfl (by decide) (by decide) ax_eq.mk (by rw [hS0]; exact fun _ _ z => z)
    · rw [if_pos z26] at h
      refine ax_aload_n (q := 31) hX dc_M_isBefore_30 rfl rfl rfl ?_
      obtain ⟨u27, hu28, h⟩ := ax_bd h
      obtain ⟨n30, hs29⟩ : ∃ n, S u27 = some (.inr (0, n)) := hty.1 _ _ _ _ hs0 hu28
      refine ax_getR (q := 34) hX dc_M_isBefore_31 rfl fl_M_22 rfl hs0 hu28 ?_
      refine ax_iload_n (q := 35) hX dc_M_isBefore_34 rfl rfl rfl ?_
      obtain ⟨j31, hj32, h⟩ := ax_bd h
      have hj32 := ax_ix_s hty hs29 hj32
      refine ax_iald (q := 36) hX j31 dc_M_isBefore_35 rfl hs29 hj32.1 hj32.2.1 hj32.2.2 ?_
      refine ax_aload_n (q := 37) hX dc_M_isBefore_36 rfl rfl rfl ?_
      obtain ⟨u33, hu34, h⟩ := ax_bd h
      obtain ⟨n36, hs35⟩ : ∃ n, S u33 = some (.inr (0, n)) := hty.1 _ _ _ _ hs0 hu34
      refine ax_getR (q := 40) hX dc_M_isBefore_37 rfl fl_M_22 rfl hs0 hu34 ?_
      refine ax_iload_n (q := 41) hX dc_M_isBefore_40 rfl rfl rfl ?_
      obtain ⟨j37, hj38, h⟩ := ax_bd h
      have hj38 := ax_ix_s hty hs35 hj38
      refine ax_iald (q := 42) hX j37 dc_M_isBefore_41 rfl hs35 hj38.1 hj38.2.1 hj38.2.2 ?_
      refine ax_icmp_ge (tgt := 49) (q := 45) hX dc_M_isBefore_42 rfl (by decide) (fun z39 => ?_) (fun z39 => ?_)
      · rw [if_pos z39] at h
        refine ax_iconst (v := 0) (q := 50) hX dc_M_isBefore_49 rfl (by decide) ?_
        cases h
        exact ax_iret hX hF dc_M_isBefore_50 rfl rfl (by decide) (by decide) ax_eq.mk (by rw [hS0]; exact fun _ _ z => z)
      · rw [if_neg z39] at h
        exact ax_weak (ls' := [none, none, none]) (ax_fewP_s _ _ (by repeat (first | exact trivial | (refine And.intro rfl ?_)))) (e_M_isBefore_45 hX hF hS0  I R  hty  rfl rfl h)
def d_M_told (S : ax_S) (I : ax_I) (R : ax_R) (u0 : Nat) (x1 : Int32) : Option (Int32 × ax_I) :=
  (some (ax_up I u0 0 (0))).bind fun I1 =>
  if x1 = 0 then
    (R u0 4).bind fun u4 =>
    (ax_ix S u4 (I1 u0 3)).bind fun j8 =>
    some (I1 u4 j8, I1)
  else
  if x1 = 1 then
    (R u0 5).bind fun u11 =>
    (ax_ix S u11 (I1 u0 3)).bind fun j15 =>
    some (I1 u11 j15, I1)
  else
  if x1 = 2 then
    (R u0 6).bind fun u18 =>
    (ax_ix S u18 (I1 u0 3)).bind fun j22 =>
    some (I1 u18 j22, I1)
  else
  if x1 = 3 then
    (R u0 7).bind fun u25 =>
    (ax_ix S u25 (I1 u0 3)).bind fun j29 =>
    some (I1 u25 j29, I1)
  else
  if x1 = 4 then
    some (I1 u0 22, I1)
  else
  if x1 = 5 then
    (R u0 4).bind fun u33 =>
    (ax_ix S u33 (1 - (I1 u0 3))).bind fun j37 =>
    some (I1 u33 j37, I1)
  else
  if x1 = 6 then
    (R u0 5).bind fun u40 =>
    (ax_ix S u40 (1 - (I1 u0 3))).bind fun j44 =>
    some (I1 u40 j44, I1)
  else
  if x1 = 7 then
    (R u0 6).bind fun u47 =>
    (ax_ix S u47 (1 - (I1 u0 3))).bind fun j51 =>
    some (I1 u47 j51, I1)
  else
  if x1 = 8 then
    (R u0 7).bind fun u54 =>
    (ax_ix S u54 (1 - (I1 u0 3))).bind fun j58 =>
    some (I1 u54 j58, I1)
  else
  some ((-1), I1)
set_option maxHeartbeats 1000000 in
theorem c_M_told (l : Launch) {S : ax_S} {I : ax_I} {R : ax_R} {L : ax_L} {u0 : Nat} {x1 : Int32} {out : Int32 × ax_I} (hty : ax_typ S R) (hs0 : S u0 = some (.inl 5)) (h : d_M_told S I R u0 x1 = some out) : ax_Met l y_M_told b_M_told 3 (some .int) (ax_rm 1 0 0) [.ref u0, .int x1] S I R L (ax_eq (some (.int out.1)) S out.2 R L) := by
  refine ax_enter (own := "LossFreeToolsModel") (by decide +kernel) rfl (ax_cats rfl) (Nat.le_of_ble_eq_true rfl) (fun X hX hF _ hS0 => ?_)
  show ax_W X 3 0 [some (.ref u0), some (.int (x1)), none] [] S I R L 0 0
  unfold d_M_told at h
  refine ax_aload_n (q := 1) hX dc_M_told_0 rfl rfl rfl ?_
  refine ax_iconst (v := 0) (q := 2) hX dc_M_told_1 rfl (by decide) ?_
  obtain ⟨I1, e2, h⟩ := ax_bs h
  refine ax_putI (q := 5) hX dc_M_told_2 rfl fl_M_68 rfl hs0 (fun z => by cases z) rfl rfl e2 ?_
  refine ax_iconst (v := 1) (q := 6) hX dc_M_told_5 rfl (by decide) ?_
  refine ax_aload_n (q := 7) hX dc_M_told_6 rfl rfl rfl ?_
  refine ax_getI (q := 10) hX dc_M_told_7 rfl fl_M_71 rfl hs0 ?_
  refine ax_isub (q := 11) hX dc_M_told_10 rfl ?_
  refine ax_istore_n (ls' := [some (.ref u0), some (.int (x1)), some (.int (1 - (I1 u0 3)))]) (q := 12) hX dc_M_told_11 rfl rfl (by decide) rfl ?_
  refine ax_iload_n (q := 13) hX dc_M_told_12 rfl rfl rfl ?_
  by_cases z3 : x1 = 0
  · rw [if_pos z3] at h
    refine ax_tsIn (tgt := 64) hX dc_M_told_13 (by rw [z3]; decide) (by rw [z3]; decide) (by rw [z3]; rfl) (by decide) ?_
    refine ax_aload_n (q := 65) hX dc_M_told_64 rfl rfl rfl ?_
    obtain ⟨u4, hu5, h⟩ := ax_bd h
    obtain ⟨n7, hs6⟩ : ∃ n, S u4 = some (.inr (0, n)) := hty.1 _ _ _ _ hs0 hu5
    refine ax_getR (q := 68) hX dc_M_told_65 rfl fl_M_7 rfl hs0 hu5 ?_
    refine ax_aload_n (q := 69) hX dc_M_told_68 rfl rfl rfl ?_
    refine ax_getI (q := 72) hX dc_M_told_69 rfl fl_M_71 rfl hs0 ?_
    obtain ⟨j8, hj9, h⟩ := ax_bd h
    have hj9 := ax_ix_s hty hs6 hj9
    refine ax_iald (q := 73) hX j8 dc_M_told_72 rfl hs6 hj9.1 hj9.2.1 hj9.2.2 ?_
    cases h
    exact ax_iret hX hF dc_M_told_73 rfl rfl (by decide) (by decide) ax_eq.mk (by rw [hS0]; exact fun _ _ z => z)
  rw [if_neg z3] at h
  by_cases z10 : x1 = 1
  · rw [if_pos z10] at h
    refine ax_tsIn (tgt := 74) hX dc_M_told_13 (by rw [z10]; decide) (by rw [z10]; decide) (by rw [z10]; rfl) (by decide) ?_
    refine ax_aload_n (q := 75) hX dc_M_told_74 rfl rfl rfl ?_
    obtain ⟨u11, hu12, h⟩ := ax_bd h
    obtain ⟨n14, hs13⟩ : ∃ n, S u11 = some (.inr (0, n)) := hty.1 _ _ _ _ hs0 hu12
    refine ax_getR (q := 78) hX dc_M_told_75 rfl fl_M_13 rfl hs0 hu12 ?_
    refine ax_aload_n (q := 79) hX dc_M_told_78 rfl rfl rfl ?_
    refine ax_getI (q := 82) hX dc_M_told_79 rfl fl_M_71 rfl hs0 ?_
    obtain ⟨j15, hj16, h⟩ := ax_bd h
    have hj16 := ax_ix_s hty hs13 hj16
    refine ax_iald (q := 83) hX j15 dc_M_told_82 rfl hs13 hj16.1 hj16.2.1 hj16.2.2 ?_
    cases h
    exact ax_iret hX hF dc_M_told_83 rfl rfl (by decide) (by decide) ax_eq.mk (by rw [hS0]; exact fun _ _ z => z)
  rw [if_neg z10] at h
  by_cases z17 : x1 = 2
  · rw [if_pos z17] at h
    refine ax_tsIn (tgt := 84) hX dc_M_told_13 (by rw [z17]; decide) (by rw [z17]; decide) (by rw [z17]; rfl) (by decide) ?_
    refine ax_aload_n (q := 85) hX dc_M_told_84 rfl rfl rfl ?_
    obtain ⟨u18, hu19, h⟩ := ax_bd h
    obtain ⟨n21, hs20⟩ : ∃ n, S u18 = some (.inr (0, n)) := hty.1 _ _ _ _ hs0 hu19
    refine ax_getR (q := 88) hX dc_M_told_85 rfl fl_M_16 rfl hs0 hu19 ?_
    refine ax_aload_n (q := 89) hX dc_M_told_88 rfl rfl rfl ?_
    refine ax_getI (q := 92) hX dc_M_told_89 rfl fl_M_71 rfl hs0 ?_
    obtain ⟨j22, hj23, h⟩ := ax_bd h
    have hj23 := ax_ix_s hty hs20 hj23
    refine ax_iald (q := 93) hX j22 dc_M_told_92 rfl hs20 hj23.1 hj23.2.1 hj23.2.2 ?_
    cases h
    exact ax_iret hX hF dc_M_told_93 rfl rfl (by decide) (by decide) ax_eq.mk (by rw [hS0]; exact fun _ _ z => z)
  rw [if_neg z17] at h
  by_cases z24 : x1 = 3
  · rw [if_pos z24] at h
    refine ax_tsIn (tgt := 94) hX dc_M_told_13 (by rw [z24]; decide) (by rw [z24]; decide) (by rw [z24]; rfl) (by decide) ?_
    refine ax_aload_n (q := 95) hX dc_M_told_94 rfl rfl rfl ?_
    obtain ⟨u25, hu26, h⟩ := ax_bd h
    obtain ⟨n28, hs27⟩ : ∃ n, S u25 = some (.inr (0, n)) := hty.1 _ _ _ _ hs0 hu26
    refine ax_getR (q := 98) hX dc_M_told_95 rfl fl_M_19 rfl hs0 hu26 ?_
    refine ax_aload_n (q := 99) hX dc_M_told_98 rfl rfl rfl ?_
    refine ax_getI (q := 102) hX dc_M_told_99 rfl fl_M_71 rfl hs0 ?_
    obtain ⟨j29, hj30, h⟩ := ax_bd h
    have hj30 := ax_ix_s hty hs27 hj30
    refine ax_iald (q := 103) hX j29 dc_M_told_102 rfl hs27 hj30.1 hj30.2.1 hj30.2.2 ?_
    cases h
    exact ax_iret hX hF dc_M_told_103 rfl rfl (by decide) (by decide) ax_eq.mk (by rw [hS0]; exact fun _ _ z => z)
  rw [if_neg z24] at h
  by_cases z31 : x1 = 4
  · rw [if_pos z31] at h
    refine ax_tsIn (tgt := 104) hX dc_M_told_13 (by rw [z31]; decide) (by rw [z31]; decide) (by rw [z31]; rfl) (by decide) ?_
    refine ax_aload_n (q := 105) hX dc_M_told_104 rfl rfl rfl ?_
    refine ax_getI (q := 108) hX dc_M_told_105 rfl fl_M_81 rfl hs0 ?_
    cases h
    exact ax_iret hX hF dc_M_told_108 rfl rfl (by decide) (by decide) ax_eq.mk (by rw [hS0]; exact fun _ _ z => z)
  rw [if_neg z31] at h
  by_cases z32 : x1 = 5
  · rw [if_pos z32] at h
    refine ax_tsIn (tgt := 109) hX dc_M_told_13 (by rw [z32]; decide) (by rw [z32]; decide) (by rw [z32]; rfl) (by decide) ?_
    refine ax_aload_n (q := 110) hX dc_M_told_109 rfl rfl rfl ?_
    obtain ⟨u33, hu34, h⟩ := ax_bd h
    obtain ⟨n36, hs35⟩ : ∃ n, S u33 = some (.inr (0, n)) := hty.1 _ _ _ _ hs0 hu34
    refine ax_getR (q := 113) hX dc_M_told_110 rfl fl_M_7 rfl hs0 hu34 ?_
    refine ax_iload_n (q := 114) hX dc_M_told_113 rfl rfl rfl ?_
    obtain ⟨j37, hj38, h⟩ := ax_bd h
    have hj38 := ax_ix_s hty hs35 hj38
    refine ax_iald (q := 115) hX j37 dc_M_told_114 rfl hs35 hj38.1 hj38.2.1 hj38.2.2 ?_
    cases h
    exact ax_iret hX hF dc_M_told_115 rfl rfl (by decide) (by decide) ax_eq.mk (by rw [hS0]; exact fun _ _ z => z)
  rw [if_neg z32] at h
  by_cases z39 : x1 = 6
  · rw [if_pos z39] at h
    refine ax_tsIn (tgt := 116) hX dc_M_told_13 (by rw [z39]; decide) (by rw [z39]; decide) (by rw [z39]; rfl) (by decide) ?_
    refine ax_aload_n (q := 117) hX dc_M_told_116 rfl rfl rfl ?_
    obtain ⟨u40, hu41, h⟩ := ax_bd h
    obtain ⟨n43, hs42⟩ : ∃ n, S u40 = some (.inr (0, n)) := hty.1 _ _ _ _ hs0 hu41
    refine ax_getR (q := 120) hX dc_M_told_117 rfl fl_M_13 rfl hs0 hu41 ?_
    refine ax_iload_n (q := 121) hX dc_M_told_120 rfl rfl rfl ?_
    obtain ⟨j44, hj45, h⟩ := ax_bd h
    have hj45 := ax_ix_s hty hs42 hj45
    refine ax_iald (q := 122) hX j44 dc_M_told_121 rfl hs42 hj45.1 hj45.2.1 hj45.2.2 ?_
    cases h
    exact ax_iret hX hF dc_M_told_122 rfl rfl (by decide) (by decide) ax_eq.mk (by rw [hS0]; exact fun _ _ z => z)
  rw [if_neg z39] at h
  by_cases z46 : x1 = 7
  · rw [if_pos z46] at h
    refine ax_tsIn (tgt := 123) hX dc_M_told_13 (by rw [z46]; decide) (by rw [z46]; decide) (by rw [z46]; rfl) (by decide) ?_
    refine ax_aload_n (q := 124) hX dc_M_told_123 rfl rfl rfl ?_
    obtain ⟨u47, hu48, h⟩ := ax_bd h
    obtain ⟨n50, hs49⟩ : ∃ n, S u47 = some (.inr (0, n)) := hty.1 _ _ _ _ hs0 hu48
    refine ax_getR (q := 127) hX dc_M_told_124 rfl fl_M_16 rfl hs0 hu48 ?_
    refine ax_iload_n (q := 128) hX dc_M_told_127 rfl rfl rfl ?_
    obtain ⟨j51, hj52, h⟩ := ax_bd h
    have hj52 := ax_ix_s hty hs49 hj52
    refine ax_iald (q := 129) hX j51 dc_M_told_128 rfl hs49 hj52.1 hj52.2.1 hj52.2.2 ?_
    cases h
    exact ax_iret hX hF dc_M_told_129 rfl rfl (by decide) (by decide) ax_eq.mk (by rw [hS0]; exact fun _ _ z => z)
  rw [if_neg z46] at h
  by_cases z53 : x1 = 8
  · rw [if_pos z53] at h
    refine ax_tsIn (tgt := 130) hX dc_M_told_13 (by rw [z53]; decide) (by rw [z53]; decide) (by rw [z53]; rfl) (by decide) ?_
    refine ax_aload_n (q := 131) hX dc_M_told_130 rfl rfl rfl ?_
    obtain ⟨u54, hu55, h⟩ := ax_bd h
    obtain ⟨n57, hs56⟩ : ∃ n, S u54 = some (.inr (0, n)) := hty.1 _ _ _ _ hs0 hu55
    refine ax_getR (q := 134) hX dc_M_told_131 rfl fl_M_19 rfl hs0 hu55 ?_
    refine ax_iload_n (q := 135) hX dc_M_told_134 rfl rfl rfl ?_
    obtain ⟨j58, hj59, h⟩ := ax_bd h
    have hj59 := ax_ix_s hty hs56 hj59
    refine ax_iald (q := 136) hX j58 dc_M_told_135 rfl hs56 hj59.1 hj59.2.1 hj59.2.2 ?_
    cases h
    exact ax_iret hX hF dc_M_told_136 rfl rfl (by decide) (by decide) ax_eq.mk (by rw [hS0]; exact fun _ _ z => z)
  rw [if_neg z53] at h
  refine ax_tsOut (tgt := 137) hX dc_M_told_13 (ax_out9 z3 z10 z17 z24 z31 z32 z39 z46 z53) (by decide) ?_
  refine ax_iconst (v := (-1)) (q := 138) hX dc_M_told_137 rfl (by decide) ?_
  cases h
  exact ax_iret hX hF dc_M_told_138 rfl rfl (by decide) (by decide) ax_eq.mk (by rw [hS0]; exact fun _ _ z => z)
