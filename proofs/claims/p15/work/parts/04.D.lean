def d_M_clear_12 (S : ax_S) : Nat → ax_I → ax_R → Nat → Int32 → Option (ax_I)
  | 0, _, _, _, _ => none
  | n + 1, I, R, u0, x1 =>
    if 2 ≤ x1 then
      (some (ax_up I u0 18 (0))).bind fun I6 =>
      (some (ax_up I6 u0 19 (0))).bind fun I8 =>
      (some (ax_up I8 u0 22 (0))).bind fun I10 =>
      some (I10)
    else
      (R u0 4).bind fun u12 =>
      (ax_ix S u12 (x1)).bind fun j16 =>
      (some (ax_up I u12 j16 (I u0 1))).bind fun I18 =>
      (R u0 5).bind fun u20 =>
      (ax_ix S u20 (x1)).bind fun j24 =>
      (some (ax_up I18 u20 j24 (I18 u0 2))).bind fun I26 =>
      (R u0 6).bind fun u28 =>
      (ax_ix S u28 (x1)).bind fun j32 =>
      (some (ax_up I26 u28 j32 (0))).bind fun I34 =>
      (R u0 7).bind fun u36 =>
      (ax_ix S u36 (x1)).bind fun j40 =>
      (some (ax_up I34 u36 j40 (0))).bind fun I42 =>
      d_M_clear_12 S  n I42 R u0 (x1 + 1)
set_option maxHeartbeats 1000000 in
theorem e_M_clear_12 {l : Launch} {X : ax_X} {S : ax_S} {L : ax_L} {R0 : ax_R} {out : ax_I} (hX : ax_ok X l "LossFreeToolsModel" b_M_clear 2 (ax_rm 1 0 0)) (hF : ax_fin X none 0 0 (ax_of (ax_eq none S out R0 L))) (hS0 : ax_S0 X = S) : ∀ (n : Nat), ∀ (I : ax_I) (R : ax_R) (u0 : Nat) (x1 : Int32), ax_typ S R → (S u0 = some (.inl 5)) → R = R0 → d_M_clear_12 S  n I R u0 x1 = some out → ax_W X 2 12 [some (.ref u0), some (.int (x1))] [] S I R L 0 0 := by
  intro n
  induction n with
  | zero =>
    rintro I R u0 x1 hty hs0_ hR0 h
    cases h
  | succ n ih =>
    rintro I R u0 x1 hty hs0_ hR0 h
    subst hR0
    unfold d_M_clear_12 at h
    refine ax_iload_n (q := 13) hX dc_M_clear_12 rfl rfl rfl ?_
    refine ax_iconst (v := 2) (q := 14) hX dc_M_clear_13 rfl (by decide) ?_
    refine ax_icmp_ge (tgt := 57) (q := 17) hX dc_M_clear_14 rfl (by decide) (fun z5 => ?_) (fun z5 => ?_)
    · rw [if_pos z5] at h
      refine ax_aload_n (q := 58) hX dc_M_clear_57 rfl rfl rfl ?_
      refine ax_iconst (v := 0) (q := 59) hX dc_M_clear_58 rfl (by decide) ?_
      obtain ⟨I6, e7, h⟩ := ax_bs h
      refine ax_putI (q := 62) hX dc_M_clear_59 rfl fl_M_74 rfl hs0_ (fun z => by cases z) rfl rfl e7 ?_
      refine ax_aload_n (q := 63) hX dc_M_clear_62 rfl rfl rfl ?_
      refine ax_iconst (v := 0) (q := 64) hX dc_M_clear_63 rfl (by decide) ?_
      obtain ⟨I8, e9, h⟩ := ax_bs h
      refine ax_putI (q := 67) hX dc_M_clear_64 rfl fl_M_77 rfl hs0_ (fun z => by cases z) rfl rfl e9 ?_
      refine ax_aload_n (q := 68) hX dc_M_clear_67 rfl rfl rfl ?_
      refine ax_iconst (v := 0) (q := 69) hX dc_M_clear_68 rfl (by decide) ?_
      obtain ⟨I10, e11, h⟩ := ax_bs h
      refine ax_putI (q := 72) hX dc_M_clear_69 rfl fl_M_81 rfl hs0_ (fun z => by cases z) rfl rfl e11 ?_
      cases h
      exact ax_vret hX hF dc_M_clear_72 (by decide) (by decide) ax_eq.mk (by rw [hS0]; exact fun _ _ z => z)
    · rw [if_neg z5] at h
      refine ax_aload_n (q := 18) hX dc_M_clear_17 rfl rfl rfl ?_
      obtain ⟨u12, hu13, h⟩ := ax_bd h
      obtain ⟨n15, hs14⟩ : ∃ n, S u12 = some (.inr (0, n)) := hty.1 _ _ _ _ hs0_ hu13
      refine ax_getR (q := 21) hX dc_M_clear_18 rfl fl_M_7 rfl hs0_ hu13 ?_
      refine ax_iload_n (q := 22) hX dc_M_clear_21 rfl rfl rfl ?_
      refine ax_aload_n (q := 23) hX dc_M_clear_22 rfl rfl rfl ?_
      refine ax_getI (q := 26) hX dc_M_clear_23 rfl fl_M_58 rfl hs0_ ?_
      obtain ⟨j16, hj17, h⟩ := ax_bd h
      have hj17 := ax_ix_s hty hs14 hj17
      obtain ⟨I18, e19, h⟩ := ax_bs h
      refine ax_iast (q := 27) hX j16 dc_M_clear_26 rfl hs14 hj17.1 hj17.2.1 hj17.2.2 e19 ?_
      refine ax_aload_n (q := 28) hX dc_M_clear_27 rfl rfl rfl ?_
      obtain ⟨u20, hu21, h⟩ := ax_bd h
      obtain ⟨n23, hs22⟩ : ∃ n, S u20 = some (.inr (0, n)) := hty.1 _ _ _ _ hs0_ hu21
      refine ax_getR (q := 31) hX dc_M_clear_28 rfl fl_M_13 rfl hs0_ hu21 ?_
      refine ax_iload_n (q := 32) hX dc_M_clear_31 rfl rfl rfl ?_
      refine ax_aload_n (q := 33) hX dc_M_clear_32 rfl rfl rfl ?_
      refine ax_getI (q := 36) hX dc_M_clear_33 rfl fl_M_62 rfl hs0_ ?_
      obtain ⟨j24, hj25, h⟩ := ax_bd h
      have hj25 := ax_ix_s hty hs22 hj25
      obtain ⟨I26, e27, h⟩ := ax_bs h
      refine ax_iast (q := 37) hX j24 dc_M_clear_36 rfl hs22 hj25.1 hj25.2.1 hj25.2.2 e27 ?_
      refine ax_aload_n (q := 38) hX dc_M_clear_37 rfl rfl rfl ?_
      obtain ⟨u28, hu29, h⟩ := ax_bd h
      obtain ⟨n31, hs30⟩ : ∃ n, S u28 = some (.inr (0, n)) := hty.1 _ _ _ _ hs0_ hu29
      refine ax_getR (q := 41) hX dc_M_clear_38 rfl fl_M_16 rfl hs0_ hu29 ?_
      refine ax_iload_n (q := 42) hX dc_M_clear_41 rfl rfl rfl ?_
      refine ax_iconst (v := 0) (q := 43) hX dc_M_clear_42 rfl (by decide) ?_
      obtain ⟨j32, hj33, h⟩ := ax_bd h
      have hj33 := ax_ix_s hty hs30 hj33
      obtain ⟨I34, e35, h⟩ := ax_bs h
      refine ax_iast (q := 44) hX j32 dc_M_clear_43 rfl hs30 hj33.1 hj33.2.1 hj33.2.2 e35 ?_
      refine ax_aload_n (q := 45) hX dc_M_clear_44 rfl rfl rfl ?_
      obtain ⟨u36, hu37, h⟩ := ax_bd h
      obtain ⟨n39, hs38⟩ : ∃ n, S u36 = some (.inr (0, n)) := hty.1 _ _ _ _ hs0_ hu37
      refine ax_getR (q := 48) hX dc_M_clear_45 rfl fl_M_19 rfl hs0_ hu37 ?_
      refine ax_iload_n (q := 49) hX dc_M_clear_48 rfl rfl rfl ?_
      refine ax_iconst (v := 0) (q := 50) hX dc_M_clear_49 rfl (by decide) ?_
      obtain ⟨j40, hj41, h⟩ := ax_bd h
      have hj41 := ax_ix_s hty hs38 hj41
      obtain ⟨I42, e43, h⟩ := ax_bs h
      refine ax_iast (q := 51) hX j40 dc_M_clear_50 rfl hs38 hj41.1 hj41.2.1 hj41.2.2 e43 ?_
      refine ax_iinc (v := x1 + 1) (ls' := [some (.ref u0), some (.int (x1 + 1))]) (q := 54) hX dc_M_clear_51 rfl rfl rfl (by decide) rfl ?_
      refine ax_goto (tgt := 12) hX dc_M_clear_54 (by decide) ?_
      exact (ih I42 R u0 (x1 + 1) hty hs0_ rfl h)
def d_M_clear (S : ax_S) (I : ax_I) (R : ax_R) (u0 : Nat) : Option (ax_I) :=
  (some (ax_up I u0 0 (0))).bind fun I1 =>
  (some (ax_up I1 u0 3 (0))).bind fun I3 =>
  d_M_clear_12 S  5000 I3 R u0 (0)
set_option maxHeartbeats 1000000 in
theorem c_M_clear (l : Launch) {S : ax_S} {I : ax_I} {R : ax_R} {L : ax_L} {u0 : Nat} {out : ax_I} (hty : ax_typ S R) (hs0 : S u0 = some (.inl 5)) (h : d_M_clear S I R u0 = some out) : ax_Met l y_M_clear b_M_clear 2 none (ax_rm 1 0 0) [.ref u0] S I R L (ax_eq none S out R L) := by
  refine ax_enter (own := "LossFreeToolsModel") (by decide +kernel) rfl (ax_cats rfl) (Nat.le_of_ble_eq_true rfl) (fun X hX hF _ hS0 => ?_)
  show ax_W X 2 0 [some (.ref u0), none] [] S I R L 0 0
  unfold d_M_clear at h
  refine ax_aload_n (q := 1) hX dc_M_clear_0 rfl rfl rfl ?_
  refine ax_iconst (v := 0) (q := 2) hX dc_M_clear_1 rfl (by decide) ?_
  obtain ⟨I1, e2, h⟩ := ax_bs h
  refine ax_putI (q := 5) hX dc_M_clear_2 rfl fl_M_68 rfl hs0 (fun z => by cases z) rfl rfl e2 ?_
  refine ax_aload_n (q := 6) hX dc_M_clear_5 rfl rfl rfl ?_
  refine ax_iconst (v := 0) (q := 7) hX dc_M_clear_6 rfl (by decide) ?_
  obtain ⟨I3, e4, h⟩ := ax_bs h
  refine ax_putI (q := 10) hX dc_M_clear_7 rfl fl_M_71 rfl hs0 (fun z => by cases z) rfl rfl e4 ?_
  refine ax_iconst (v := 0) (q := 11) hX dc_M_clear_10 rfl (by decide) ?_
  refine ax_istore_n (ls' := [some (.ref u0), some (.int (0))]) (q := 12) hX dc_M_clear_11 rfl rfl (by decide) rfl ?_
  exact (e_M_clear_12 hX hF hS0  5000 I3 R u0 (0) hty hs0 rfl h)
def d_M_thrown (S : ax_S) (I : ax_I) (R : ax_R) (u0 : Nat) : Option (Int32) :=
  some (I u0 0)
set_option maxHeartbeats 1000000 in
theorem c_M_thrown (l : Launch) {S : ax_S} {I : ax_I} {R : ax_R} {L : ax_L} {u0 : Nat} {out : Int32} (hty : ax_typ S R) (hs0 : S u0 = some (.inl 5)) (h : d_M_thrown S I R u0 = some out) : ax_Met l y_M_thrown b_M_thrown 1 (some .int) (ax_rm 1 0 0) [.ref u0] S I R L (ax_eq (some (.int out)) S I R L) := by
  refine ax_enter (own := "LossFreeToolsModel") (by decide +kernel) rfl (ax_cats rfl) (Nat.le_of_ble_eq_true rfl) (fun X hX hF _ hS0 => ?_)
  show ax_W X 1 0 [some (.ref u0)] [] S I R L 0 0
  unfold d_M_thrown at h
  refine ax_aload_n (q := 1) hX dc_M_thrown_0 rfl rfl rfl ?_
  refine ax_getI (q := 4) hX dc_M_thrown_1 rfl fl_M_68 rfl hs0 ?_
  cases h
  exact ax_iret hX hF dc_M_thrown_4 rfl rfl (by decide) (by decide) ax_eq.mk (by rw [hS0]; exact fun _ _ z => z)
def d_M_in (S : ax_S) (I : ax_I) (R : ax_R) (x0 : Int32) (x1 : Int32) (x2 : Int32) : Option (Bool) :=
  if x0 < x1 then
    some (false)
  else
    if x2 < x0 then
      some (false)
    else
      some (true)
set_option maxHeartbeats 1000000 in
theorem c_M_in (l : Launch) {S : ax_S} {I : ax_I} {R : ax_R} {L : ax_L} {x0 : Int32} {x1 : Int32} {x2 : Int32} {out : Bool} (hty : ax_typ S R) (h : d_M_in S I R x0 x1 x2 = some out) : ax_Met l y_M_in b_M_in 3 (some .boolean) (ax_rm 1 0 0) [.int x0, .int x1, .int x2] S I R L (ax_eq (some (.int (ax_b out))) S I R L) := by
  refine ax_enter (own := "LossFreeToolsModel") (by decide +kernel) rfl (ax_cats rfl) (Nat.le_of_ble_eq_true rfl) (fun X hX hF _ hS0 => ?_)
  show ax_W X 3 0 [some (.int (x0)), some (.int (x1)), some (.int (x2))] [] S I R L 0 0
  unfold d_M_in at h
  refine ax_iload_n (q := 1) hX dc_M_in_0 rfl rfl rfl ?_
  refine ax_iload_n (q := 2) hX dc_M_in_1 rfl rfl rfl ?_
  refine ax_icmp_lt (tgt := 14) (q := 5) hX dc_M_in_2 rfl (by decide) (fun z1 => ?_) (fun z1 => ?_)
  · rw [if_pos z1] at h
    refine ax_iconst (v := 0) (q := 15) hX dc_M_in_14 rfl (by decide) ?_
    cases h
    exact ax_iret hX hF dc_M_in_15 rfl rfl (by decide) (by decide) ax_eq.mk (by rw [hS0]; exact fun _ _ z => z)
  · rw [if_neg z1] at h
    refine ax_iload_n (q := 6) hX dc_M_in_5 rfl rfl rfl ?_
    refine ax_iload_n (q := 7) hX dc_M_in_6 rfl rfl rfl ?_
    refine ax_icmp_gt (tgt := 14) (q := 10) hX dc_M_in_7 rfl (by decide) (fun z2 => ?_) (fun z2 => ?_)
    · rw [if_pos z2] at h
      refine ax_iconst (v := 0) (q := 15) hX dc_M_in_14 rfl (by decide) ?_
      cases h
      exact ax_iret hX hF dc_M_in_15 rfl rfl (by decide) (by decide) ax_eq.mk (by rw [hS0]; exact fun _ _ z => z)
    · rw [if_neg z2] at h
      refine ax_iconst (v := 1) (q := 11) hX dc_M_in_10 rfl (by decide) ?_
      refine ax_goto (tgt := 15) hX dc_M_in_11 (by decide) ?_
      cases h
      exact ax_iret hX hF dc_M_in_15 rfl rfl (by decide) (by decide) ax_eq.mk (by rw [hS0]; exact fun _ _ z => z)
def d_M_tileAt (S : ax_S) (I : ax_I) (R : ax_R) (u0 : Nat) (x1 : Int32) : Option (Int32) :=
  some ((40 * (I u0 3)) + x1)
set_option maxHeartbeats 1000000 in
theorem c_M_tileAt (l : Launch) {S : ax_S} {I : ax_I} {R : ax_R} {L : ax_L} {u0 : Nat} {x1 : Int32} {out : Int32} (hty : ax_typ S R) (hs0 : S u0 = some (.inl 5)) (h : d_M_tileAt S I R u0 x1 = some out) : ax_Met l y_M_tileAt b_M_tileAt 2 (some .int) (ax_rm 1 0 0) [.ref u0, .int x1] S I R L (ax_eq (some (.int out)) S I R L) := by
  refine ax_enter (own := "LossFreeToolsModel") (by decide +kernel) rfl (ax_cats rfl) (Nat.le_of_ble_eq_true rfl) (fun X hX hF _ hS0 => ?_)
  show ax_W X 2 0 [some (.ref u0), some (.int (x1))] [] S I R L 0 0
  unfold d_M_tileAt at h
  refine ax_bipush (v := 40) (q := 2) hX dc_M_tileAt_0 rfl (by decide) ?_
  refine ax_aload_n (q := 3) hX dc_M_tileAt_2 rfl rfl rfl ?_
  refine ax_getI (q := 6) hX dc_M_tileAt_3 rfl fl_M_71 rfl hs0 ?_
  refine ax_imul (q := 7) hX dc_M_tileAt_6 rfl ?_
  refine ax_iload_n (q := 8) hX dc_M_tileAt_7 rfl rfl rfl ?_
  refine ax_iadd (q := 9) hX dc_M_tileAt_8 rfl ?_
  cases h
  exact ax_iret hX hF dc_M_tileAt_9 rfl rfl (by decide) (by decide) ax_eq.mk (by rw [hS0]; exact fun _ _ z => z)
def d_M_lies (S : ax_S) (I : ax_I) (R : ax_R) (u0 : Nat) (x1 : Int32) (x2 : Int32) (x3 : Int32) (x4 : Int32) : Option (Bool) :=
  if x1 < 0 then
    some (false)
  else
    if x2 < 0 then
      some (false)
    else
      (R u0 4).bind fun u3 =>
      (ax_ix S u3 (I u0 3)).bind fun j7 =>
      if ((I u3 j7) - x3) < x1 then
        some (false)
      else
        (R u0 5).bind fun u10 =>
        (ax_ix S u10 (I u0 3)).bind fun j14 =>
        if ((I u10 j14) - x4) < x2 then
          some (false)
        else
          some (true)
set_option maxHeartbeats 1000000 in
theorem c_M_lies (l : Launch) {S : ax_S} {I : ax_I} {R : ax_R} {L : ax_L} {u0 : Nat} {x1 : Int32} {x2 : Int32} {x3 : Int32} {x4 : Int32} {out : Bool} (hty : ax_typ S R) (hs0 : S u0 = some (.inl 5)) (h : d_M_lies S I R u0 x1 x2 x3 x4 = some out) : ax_Met l y_M_lies b_M_lies 5 (some .boolean) (ax_rm 1 0 0) [.ref u0, .int x1, .int x2, .int x3, .int x4] S I R L (ax_eq (some (.int (ax_b out))) S I R L) := by
  refine ax_enter (own := "LossFreeToolsModel") (by decide +kernel) rfl (ax_cats rfl) (Nat.le_of_ble_eq_true rfl) (fun X hX hF _ hS0 => ?_)
  show ax_W X 5 0 [some (.ref u0), some (.int (x1)), some (.int (x2)), some (.int (x3)), some (.int (x4))] [] S I R L 0 0
  unfold d_M_lies at h
  refine ax_iload_n (q := 1) hX dc_M_lies_0 rfl rfl rfl ?_
  refine ax_if_lt (tgt := 43) (q := 4) hX dc_M_lies_1 rfl (by decide) (fun z1 => ?_) (fun z1 => ?_)
  · rw [if_pos z1] at h
    refine ax_iconst (v := 0) (q := 44) hX dc_M_lies_43 rfl (by decide) ?_
    cases h
    exact ax_iret hX hF dc_M_lies_44 rfl rfl (by decide) (by decide) ax_eq.mk (by rw [hS0]; exact fun _ _ z => z)
  · rw [if_neg z1] at h
    refine ax_iload_n (q := 5) hX dc_M_lies_4 rfl rfl rfl ?_
    refine ax_if_lt (tgt := 43) (q := 8) hX dc_M_lies_5 rfl (by decide) (fun z2 => ?_) (fun z2 => ?_)
    · rw [if_pos z2] at h
      refine ax_iconst (v := 0) (q := 44) hX dc_M_lies_43 rfl (by decide) ?_
      cases h
      exact ax_iret hX hF dc_M_lies_44 rfl rfl (by decide) (by decide) ax_eq.mk (by rw [hS0]; exact fun _ _ z => z)
    · rw [if_neg z2] at h
      refine ax_iload_n (q := 9) hX dc_M_lies_8 rfl rfl rfl ?_
      refine ax_aload_n (q := 10) hX dc_M_lies_9 rfl rfl rfl ?_
      obtain ⟨u3, hu4, h⟩ := ax_bd h
      obtain ⟨n6, hs5⟩ : ∃ n, S u3 = some (.inr (0, n)) := hty.1 _ _ _ _ hs0 hu4
      refine ax_getR (q := 13) hX dc_M_lies_10 rfl fl_M_7 rfl hs0 hu4 ?_
      refine ax_aload_n (q := 14) hX dc_M_lies_13 rfl rfl rfl ?_
      refine ax_getI (q := 17) hX dc_M_lies_14 rfl fl_M_71 rfl hs0 ?_
      obtain ⟨j7, hj8, h⟩ := ax_bd h
      have hj8 := ax_ix_s hty hs5 hj8
      refine ax_iald (q := 18) hX j7 dc_M_lies_17 rfl hs5 hj8.1 hj8.2.1 hj8.2.2 ?_
      refine ax_iload_n (q := 19) hX dc_M_lies_18 rfl rfl rfl ?_
      refine ax_isub (q := 20) hX dc_M_lies_19 rfl ?_
      refine ax_icmp_gt (tgt := 43) (q := 23) hX dc_M_lies_20 rfl (by decide) (fun z9 => ?_) (fun z9 => ?_)
      · rw [if_pos z9] at h
        refine ax_iconst (v := 0) (q := 44) hX dc_M_lies_43 rfl (by decide) ?_
        cases h
        exact ax_iret hX hF dc_M_lies_44 rfl rfl (by decide) (by decide) ax_eq.mk (by rw [hS0]; exact fun _ _ z => z)
      · rw [if_neg z9] at h
        refine ax_iload_n (q := 24) hX dc_M_lies_23 rfl rfl rfl ?_
        refine ax_aload_n (q := 25) hX dc_M_lies_24 rfl rfl rfl ?_
        obtain ⟨u10, hu11, h⟩ := ax_bd h
        obtain ⟨n13, hs12⟩ : ∃ n, S u10 = some (.inr (0, n)) := hty.1 _ _ _ _ hs0 hu11
        refine ax_getR (q := 28) hX dc_M_lies_25 rfl fl_M_13 rfl hs0 hu11 ?_
        refine ax_aload_n (q := 29) hX dc_M_lies_28 rfl rfl rfl ?_
        refine ax_getI (q := 32) hX dc_M_lies_29 rfl fl_M_71 rfl hs0 ?_
        obtain ⟨j14, hj15, h⟩ := ax_bd h
        have hj15 := ax_ix_s hty hs12 hj15
        refine ax_iald (q := 33) hX j14 dc_M_lies_32 rfl hs12 hj15.1 hj15.2.1 hj15.2.2 ?_
        refine ax_iload (q := 35) hX dc_M_lies_33 rfl rfl ?_
        refine ax_isub (q := 36) hX dc_M_lies_35 rfl ?_
        refine ax_icmp_gt (tgt := 43) (q := 39) hX dc_M_lies_36 rfl (by decide) (fun z16 => ?_) (fun z16 => ?_)
        · rw [if_pos z16] at h
          refine ax_iconst (v := 0) (q := 44) hX dc_M_lies_43 rfl (by decide) ?_
          cases h
          exact ax_iret hX hF dc_M_lies_44 rfl rfl (by decide) (by decide) ax_eq.mk (by rw [hS0]; exact fun _ _ z => z)
        · rw [if_neg z16] at h
          refine ax_iconst (v := 1) (q := 40) hX dc_M_lies_39 rfl (by decide) ?_
          refine ax_goto (tgt := 44) hX dc_M_lies_40 (by decide) ?_
          cases h
          exact ax_iret hX hF dc_M_lies_44 rfl rfl (by decide) (by decide) ax_eq.mk (by rw [hS0]; exact fun _ _ z => z)
def d_M_move_74 (S : ax_S) : Nat → ax_I → ax_R → Nat → Int32 → Int32 → Int32 → Option (ax_I)
  | 0, _, _, _, _, _, _ => none
  | n + 1, I, R, u0, x1, x2, x3 =>
    if 12 ≤ x3 then
      some (I)
    else
      (R u0 14).bind fun u86 =>
      (R u0 14).bind fun u90 =>
      (ax_ix S u90 ((12 * x1) + x3)).bind fun j94 =>
      (ax_ix S u86 ((12 * x2) + x3)).bind fun j96 =>
      (some (ax_up I u86 j96 (I u90 j94))).bind fun I98 =>
      d_M_move_74 S  n I98 R u0 (x1) (x2) (x3 + 1)
set_option maxHeartbeats 1000000 in
theorem e_M_move_74 {l : Launch} {X : ax_X} {S : ax_S} {L : ax_L} {R0 : ax_R} {out : ax_I} (hX : ax_ok X l "LossFreeToolsModel" b_M_move 4 (ax_rm 1 0 0)) (hF : ax_fin X none 0 0 (ax_of (ax_eq none S out R0 L))) (hS0 : ax_S0 X = S) : ∀ (n : Nat), ∀ (I : ax_I) (R : ax_R) (u0 : Nat) (x1 : Int32) (x2 : Int32) (x3 : Int32), ax_typ S R → (S u0 = some (.inl 5)) → R = R0 → d_M_move_74 S  n I R u0 x1 x2 x3 = some out → ax_W X 4 74 [some (.ref u0), some (.int (x1)), some (.int (x2)), some (.int (x3))] [] S I R L 0 0 := by
  intro n
  induction n with
  | zero =>
    rintro I R u0 x1 x2 x3 hty hs0_ hR0 h
    cases h
  | succ n ih =>
    rintro I R u0 x1 x2 x3 hty hs0_ hR0 h
    subst hR0
    unfold d_M_move_74 at h
    refine ax_iload_n (q := 75) hX dc_M_move_74 rfl rfl rfl ?_
    refine ax_bipush (v := 12) (q := 77) hX dc_M_move_75 rfl (by decide) ?_
    refine ax_icmp_ge (tgt := 108) (q := 80) hX dc_M_move_77 rfl (by decide) (fun z85 => ?_) (fun z85 => ?_)
    · rw [if_pos z85] at h
      cases h
      exact ax_vret hX hF dc_M_move_108 (by decide) (by decide) ax_eq.mk (by rw [hS0]; exact fun _ _ z => z)
    · rw [if_neg z85] at h
      refine ax_aload_n (q := 81) hX dc_M_move_80 rfl rfl rfl ?_
      obtain ⟨u86, hu87, h⟩ := ax_bd h
      obtain ⟨n89, hs88⟩ : ∃ n, S u86 = some (.inr (0, n)) := hty.1 _ _ _ _ hs0_ hu87
      refine ax_getR (q := 84) hX dc_M_move_81 rfl fl_M_40 rfl hs0_ hu87 ?_
      refine ax_bipush (v := 12) (q := 86) hX dc_M_move_84 rfl (by decide) ?_
      refine ax_iload_n (q := 87) hX dc_M_move_86 rfl rfl rfl ?_
      refine ax_imul (q := 88) hX dc_M_move_87 rfl ?_
      refine ax_iload_n (q := 89) hX dc_M_move_88 rfl rfl rfl ?_
      refine ax_iadd (q := 90) hX dc_M_move_89 rfl ?_
      refine ax_aload_n (q := 91) hX dc_M_move_90 rfl rfl rfl ?_
      obtain ⟨u90, hu91, h⟩ := ax_bd h
      obtain ⟨n93, hs92⟩ : ∃ n, S u90 = some (.inr (0, n)) := hty.1 _ _ _ _ hs0_ hu91
      refine ax_getR (q := 94) hX dc_M_move_91 rfl fl_M_40 rfl hs0_ hu91 ?_
      refine ax_bipush (v := 12) (q := 96) hX dc_M_move_94 rfl (by decide) ?_
      refine ax_iload_n (q := 97) hX dc_M_move_96 rfl rfl rfl ?_
      refine ax_imul (q := 98) hX dc_M_move_97 rfl ?_
      refine ax_iload_n (q := 99) hX dc_M_move_98 rfl rfl rfl ?_
      refine ax_iadd (q := 100) hX dc_M_move_99 rfl ?_
      obtain ⟨j94, hj95, h⟩ := ax_bd h
      have hj95 := ax_ix_s hty hs92 hj95
      refine ax_iald (q := 101) hX j94 dc_M_move_100 rfl hs92 hj95.1 hj95.2.1 hj95.2.2 ?_
      obtain ⟨j96, hj97, h⟩ := ax_bd h
      have hj97 := ax_ix_s hty hs88 hj97
      obtain ⟨I98, e99, h⟩ := ax_bs h
      refine ax_iast (q := 102) hX j96 dc_M_move_101 rfl hs88 hj97.1 hj97.2.1 hj97.2.2 e99 ?_
      refine ax_iinc (v := x3 + 1) (ls' := [some (.ref u0), some (.int (x1)), some (.int (x2)), some (.int (x3 + 1))]) (q := 105) hX dc_M_move_102 rfl rfl rfl (by decide) rfl ?_
      refine ax_goto (tgt := 74) hX dc_M_move_105 (by decide) ?_
      exact (ih I98 R u0 (x1) (x2) (x3 + 1) hty hs0_ rfl h)
def d_M_move (S : ax_S) (I : ax_I) (R : ax_R) (u0 : Nat) (x1 : Int32) (x2 : Int32) : Option (ax_I) :=
  (R u0 8).bind fun u1 =>
  (R u0 8).bind fun u5 =>
  (ax_ix S u5 (x1)).bind fun j9 =>
  (ax_ix S u1 (x2)).bind fun j11 =>
  (some (ax_up I u1 j11 (I u5 j9))).bind fun I13 =>
  (R u0 9).bind fun u15 =>
  (R u0 9).bind fun u19 =>
  (ax_ix S u19 (x1)).bind fun j23 =>
  (ax_ix S u15 (x2)).bind fun j25 =>
  (some (ax_up I13 u15 j25 (I13 u19 j23))).bind fun I27 =>
  (R u0 10).bind fun u29 =>
  (R u0 10).bind fun u33 =>
  (ax_ix S u33 (x1)).bind fun j37 =>
  (ax_ix S u29 (x2)).bind fun j39 =>
  (some (ax_up I27 u29 j39 (I27 u33 j37))).bind fun I41 =>
  (R u0 11).bind fun u43 =>
  (R u0 11).bind fun u47 =>
  (ax_ix S u47 (x1)).bind fun j51 =>
  (ax_ix S u43 (x2)).bind fun j53 =>
  (some (ax_up I41 u43 j53 (I41 u47 j51))).bind fun I55 =>
  (R u0 12).bind fun u57 =>
  (R u0 12).bind fun u61 =>
  (ax_ix S u61 (x1)).bind fun j65 =>
  (ax_ix S u57 (x2)).bind fun j67 =>
  (some (ax_up I55 u57 j67 (I55 u61 j65))).bind fun I69 =>
  (R u0 13).bind fun u71 =>
  (R u0 13).bind fun u75 =>
  (ax_ix S u75 (x1)).bind fun j79 =>
  (ax_ix S u71 (x2)).bind fun j81 =>
  (some (ax_up I69 u71 j81 (I69 u75 j79))).bind fun I83 =>
  d_M_move_74 S  5000 I83 R u0 (x1) (x2) (0)
set_option maxHeartbeats 1000000 in
theorem c_M_move (l : Launch) {S : ax_S} {I : ax_I} {R : ax_R} {L : ax_L} {u0 : Nat} {x1 : Int32} {x2 : Int32} {out : ax_I} (hty : ax_typ S R) (hs0 : S u0 = some (.inl 5)) (h : d_M_move S I R u0 x1 x2 = some out) : ax_Met l y_M_move b_M_move 4 none (ax_rm 1 0 0) [.ref u0, .int x1, .int x2] S I R L (ax_eq none S out R L) := by
  refine ax_enter (own := "LossFreeToolsModel") (by decide +kernel) rfl (ax_cats rfl) (Nat.le_of_ble_eq_true rfl) (fun X hX hF _ hS0 => ?_)
  show ax_W X 4 0 [some (.ref u0), some (.int (x1)), some (.int (x2)), none] [] S I R L 0 0
  unfold d_M_move at h
  refine ax_aload_n (q := 1) hX dc_M_move_0 rfl rfl rfl ?_
  obtain ⟨u1, hu2, h⟩ := ax_bd h
  obtain ⟨n4, hs3⟩ : ∃ n, S u1 = some (.inr (0, n)) := hty.1 _ _ _ _ hs0 hu2
  refine ax_getR (q := 4) hX dc_M_move_1 rfl fl_M_22 rfl hs0 hu2 ?_
  refine ax_iload_n (q := 5) hX dc_M_move_4 rfl rfl rfl ?_
  refine ax_aload_n (q := 6) hX dc_M_move_5 rfl rfl rfl ?_
  obtain ⟨u5, hu6, h⟩ := ax_bd h
  obtain ⟨n8, hs7⟩ : ∃ n, S u5 = some (.inr (0, n)) := hty.1 _ _ _ _ hs0 hu6
  refine ax_getR (q := 9) hX dc_M_move_6 rfl fl_M_22 rfl hs0 hu6 ?_
  refine ax_iload_n (q := 10) hX dc_M_move_9 rfl rfl rfl ?_
  obtain ⟨j9, hj10, h⟩ := ax_bd h
  have hj10 := ax_ix_s hty hs7 hj10
  refine ax_iald (q := 11) hX j9 dc_M_move_10 rfl hs7 hj10.1 hj10.2.1 hj10.2.2 ?_
  obtain ⟨j11, hj12, h⟩ := ax_bd h
  have hj12 := ax_ix_s hty hs3 hj12
  obtain ⟨I13, e14, h⟩ := ax_bs h
  refine ax_iast (q := 12) hX j11 dc_M_move_11 rfl hs3 hj12.1 hj12.2.1 hj12.2.2 e14 ?_
  refine ax_aload_n (q := 13) hX dc_M_move_12 rfl rfl rfl ?_
  obtain ⟨u15, hu16, h⟩ := ax_bd h
  obtain ⟨n18, hs17⟩ : ∃ n, S u15 = some (.inr (0, n)) := hty.1 _ _ _ _ hs0 hu16
  refine ax_getR (q := 16) hX dc_M_move_13 rfl fl_M_25 rfl hs0 hu16 ?_
  refine ax_iload_n (q := 17) hX dc_M_move_16 rfl rfl rfl ?_
  refine ax_aload_n (q := 18) hX dc_M_move_17 rfl rfl rfl ?_
  obtain ⟨u19, hu20, h⟩ := ax_bd h
  obtain ⟨n22, hs21⟩ : ∃ n, S u19 = some (.inr (0, n)) := hty.1 _ _ _ _ hs0 hu20
  refine ax_getR (q := 21) hX dc_M_move_18 rfl fl_M_25 rfl hs0 hu20 ?_
  refine ax_iload_n (q := 22) hX dc_M_move_21 rfl rfl rfl ?_
  obtain ⟨j23, hj24, h⟩ := ax_bd h
  have hj24 := ax_ix_s hty hs21 hj24
  refine ax_iald (q := 23) hX j23 dc_M_move_22 rfl hs21 hj24.1 hj24.2.1 hj24.2.2 ?_
  obtain ⟨j25, hj26, h⟩ := ax_bd h
  have hj26 := ax_ix_s hty hs17 hj26
  obtain ⟨I27, e28, h⟩ := ax_bs h
  refine ax_iast (q := 24) hX j25 dc_M_move_23 rfl hs17 hj26.1 hj26.2.1 hj26.2.2 e28 ?_
  refine ax_aload_n (q := 25) hX dc_M_move_24 rfl rfl rfl ?_
  obtain ⟨u29, hu30, h⟩ := ax_bd h
  obtain ⟨n32, hs31⟩ : ∃ n, S u29 = some (.inr (0, n)) := hty.1 _ _ _ _ hs0 hu30
  refine ax_getR (q := 28) hX dc_M_move_25 rfl fl_M_28 rfl hs0 hu30 ?_
  refine ax_iload_n (q := 29) hX dc_M_move_28 rfl rfl rfl ?_
  refine ax_aload_n (q := 30) hX dc_M_move_29 rfl rfl rfl ?_
  obtain ⟨u33, hu34, h⟩ := ax_bd h
  obtain ⟨n36, hs35⟩ : ∃ n, S u33 = some (.inr (0, n)) := hty.1 _ _ _ _ hs0 hu34
  refine ax_getR (q := 33) hX dc_M_move_30 rfl fl_M_28 rfl hs0 hu34 ?_
  refine ax_iload_n (q := 34) hX dc_M_move_33 rfl rfl rfl ?_
  obtain ⟨j37, hj38, h⟩ := ax_bd h
  have hj38 := ax_ix_s hty hs35 hj38
  refine ax_iald (q := 35) hX j37 dc_M_move_34 rfl hs35 hj38.1 hj38.2.1 hj38.2.2 ?_
  obtain ⟨j39, hj40, h⟩ := ax_bd h
  have hj40 := ax_ix_s hty hs31 hj40
  obtain ⟨I41, e42, h⟩ := ax_bs h
  refine ax_iast (q := 36) hX j39 dc_M_move_35 rfl hs31 hj40.1 hj40.2.1 hj40.2.2 e42 ?_
  refine ax_aload_n (q := 37) hX dc_M_move_36 rfl rfl rfl ?_
  obtain ⟨u43, hu44, h⟩ := ax_bd h
  obtain ⟨n46, hs45⟩ : ∃ n, S u43 = some (.inr (0, n)) := hty.1 _ _ _ _ hs0 hu44
  refine ax_getR (q := 40) hX dc_M_move_37 rfl fl_M_31 rfl hs0 hu44 ?_
  refine ax_iload_n (q := 41) hX dc_M_move_40 rfl rfl rfl ?_
  refine ax_aload_n (q := 42) hX dc_M_move_41 rfl rfl rfl ?_
  obtain ⟨u47, hu48, h⟩ := ax_bd h
  obtain ⟨n50, hs49⟩ : ∃ n, S u47 = some (.inr (0, n)) := hty.1 _ _ _ _ hs0 hu48
  refine ax_getR (q := 45) hX dc_M_move_42 rfl fl_M_31 rfl hs0 hu48 ?_
  refine ax_iload_n (q := 46) hX dc_M_move_45 rfl rfl rfl ?_
  obtain ⟨j51, hj52, h⟩ := ax_bd h
  have hj52 := ax_ix_s hty hs49 hj52
  refine ax_iald (q := 47) hX j51 dc_M_move_46 rfl hs49 hj52.1 hj52.2.1 hj52.2.2 ?_
  obtain ⟨j53, hj54, h⟩ := ax_bd h
  have hj54 := ax_ix_s hty hs45 hj54
  obtain ⟨I55, e56, h⟩ := ax_bs h
  refine ax_iast (q := 48) hX j53 dc_M_move_47 rfl hs45 hj54.1 hj54.2.1 hj54.2.2 e56 ?_
  refine ax_aload_n (q := 49) hX dc_M_move_48 rfl rfl rfl ?_
  obtain ⟨u57, hu58, h⟩ := ax_bd h
  obtain ⟨n60, hs59⟩ : ∃ n, S u57 = some (.inr (0, n)) := hty.1 _ _ _ _ hs0 hu58
  refine ax_getR (q := 52) hX dc_M_move_49 rfl fl_M_34 rfl hs0 hu58 ?_
  refine ax_iload_n (q := 53) hX dc_M_move_52 rfl rfl rfl ?_
  refine ax_aload_n (q := 54) hX dc_M_move_53 rfl rfl rfl ?_
  obtain ⟨u61, hu62, h⟩ := ax_bd h
  obtain ⟨n64, hs63⟩ : ∃ n, S u61 = some (.inr (0, n)) := hty.1 _ _ _ _ hs0 hu62
  refine ax_getR (q := 57) hX dc_M_move_54 rfl fl_M_34 rfl hs0 hu62 ?_
  refine ax_iload_n (q := 58) hX dc_M_move_57 rfl rfl rfl ?_
  obtain ⟨j65, hj66, h⟩ := ax_bd h
  have hj66 := ax_ix_s hty hs63 hj66
  refine ax_iald (q := 59) hX j65 dc_M_move_58 rfl hs63 hj66.1 hj66.2.1 hj66.2.2 ?_
  obtain ⟨j67, hj68, h⟩ := ax_bd h
  have hj68 := ax_ix_s hty hs59 hj68
  obtain ⟨I69, e70, h⟩ := ax_bs h
  refine ax_iast (q := 60) hX j67 dc_M_move_59 rfl hs59 hj68.1 hj68.2.1 hj68.2.2 e70 ?_
  refine ax_aload_n (q := 61) hX dc_M_move_60 rfl rfl rfl ?_
  obtain ⟨u71, hu72, h⟩ := ax_bd h
  obtain ⟨n74, hs73⟩ : ∃ n, S u71 = some (.inr (0, n)) := hty.1 _ _ _ _ hs0 hu72
  refine ax_getR (q := 64) hX dc_M_move_61 rfl fl_M_37 rfl hs0 hu72 ?_
  refine ax_iload_n (q := 65) hX dc_M_move_64 rfl rfl rfl ?_
  refine ax_aload_n (q := 66) hX dc_M_move_65 rfl rfl rfl ?_
  obtain ⟨u75, hu76, h⟩ := ax_bd h
  obtain ⟨n78, hs77⟩ : ∃ n, S u75 = some (.inr (0, n)) := hty.1 _ _ _ _ hs0 hu76
  refine ax_getR (q := 69) hX dc_M_move_66 rfl fl_M_37 rfl hs0 hu76 ?_
  refine ax_iload_n (q := 70) hX dc_M_move_69 rfl rfl rfl ?_
  obtain ⟨j79, hj80, h⟩ := ax_bd h
  have hj80 := ax_ix_s hty hs77 hj80
  refine ax_iald (q := 71) hX j79 dc_M_move_70 rfl hs77 hj80.1 hj80.2.1 hj80.2.2 ?_
  obtain ⟨j81, hj82, h⟩ := ax_bd h
  have hj82 := ax_ix_s hty hs73 hj82
  obtain ⟨I83, e84, h⟩ := ax_bs h
  refine ax_iast (q := 72) hX j81 dc_M_move_71 rfl hs73 hj82.1 hj82.2.1 hj82.2.2 e84 ?_
  refine ax_iconst (v := 0) (q := 73) hX dc_M_move_72 rfl (by decide) ?_
  refine ax_istore_n (ls' := [some (.ref u0), some (.int (x1)), some (.int (x2)), some (.int (0))]) (q := 74) hX dc_M_move_73 rfl rfl (by decide) rfl ?_
  exact (e_M_move_74 hX hF hS0  5000 I83 R u0 (x1) (x2) (0) hty hs0 rfl h)
def d_M_moveNote (S : ax_S) (I : ax_I) (R : ax_R) (u0 : Nat) (x1 : Int32) (x2 : Int32) : Option (ax_I) :=
  (R u0 15).bind fun u1 =>
  (R u0 15).bind fun u5 =>
  (ax_ix S u5 (x1)).bind fun j9 =>
  (ax_ix S u1 (x2)).bind fun j11 =>
  (some (ax_up I u1 j11 (I u5 j9))).bind fun I13 =>
  (R u0 16).bind fun u15 =>
  (R u0 16).bind fun u19 =>
  (ax_ix S u19 (x1)).bind fun j23 =>
  (ax_ix S u15 (x2)).bind fun j25 =>
  (some (ax_up I13 u15 j25 (I13 u19 j23))).bind fun I27 =>
  (R u0 17).bind fun u29 =>
  (R u0 17).bind fun u33 =>
  (ax_ix S u33 (x1)).bind fun j37 =>
  (ax_ix S u29 (x2)).bind fun j39 =>
  (some (ax_up I27 u29 j39 (I27 u33 j37))).bind fun I41 =>
  some (I41)
set_option maxHeartbeats 1000000 in
theorem c_M_moveNote (l : Launch) {S : ax_S} {I : ax_I} {R : ax_R} {L : ax_L} {u0 : Nat} {x1 : Int32} {x2 : Int32} {out : ax_I} (hty : ax_typ S R) (hs0 : S u0 = some (.inl 5)) (h : d_M_moveNote S I R u0 x1 x2 = some out) : ax_Met l y_M_moveNote b_M_moveNote 3 none (ax_rm 1 0 0) [.ref u0, .int x1, .int x2] S I R L (ax_eq none S out R L) := by
  refine ax_enter (own := "LossFreeToolsModel") (by decide +kernel) rfl (ax_cats rfl) (Nat.le_of_ble_eq_true rfl) (fun X hX hF _ hS0 => ?_)
  show ax_W X 3 0 [some (.ref u0), some (.int (x1)), some (.int (x2))] [] S I R L 0 0
  unfold d_M_moveNote at h
  refine ax_aload_n (q := 1) hX dc_M_moveNote_0 rfl rfl rfl ?_
  obtain ⟨u1, hu2, h⟩ := ax_bd h
  obtain ⟨n4, hs3⟩ : ∃ n, S u1 = some (.inr (0, n)) := hty.1 _ _ _ _ hs0 hu2
  refine ax_getR (q := 4) hX dc_M_moveNote_1 rfl fl_M_43 rfl hs0 hu2 ?_
  refine ax_iload_n (q := 5) hX dc_M_moveNote_4 rfl rfl rfl ?_
  refine ax_aload_n (q := 6) hX dc_M_moveNote_5 rfl rfl rfl ?_
  obtain ⟨u5, hu6, h⟩ := ax_bd h
  obtain ⟨n8, hs7⟩ : ∃ n, S u5 = some (.inr (0, n)) := hty.1 _ _ _ _ hs0 hu6
  refine ax_getR (q := 9) hX dc_M_moveNote_6 rfl fl_M_43 rfl hs0 hu6 ?_
  refine ax_iload_n (q := 10) hX dc_M_moveNote_9 rfl rfl rfl ?_
  obtain ⟨j9, hj10, h⟩ := ax_bd h
  have hj10 := ax_ix_s hty hs7 hj10
  refine ax_iald (q := 11) hX j9 dc_M_moveNote_10 rfl hs7 hj10.1 hj10.2.1 hj10.2.2 ?_
  obtain ⟨j11, hj12, h⟩ := ax_bd h
  have hj12 := ax_ix_s hty hs3 hj12
  obtain ⟨I13, e14, h⟩ := ax_bs h
  refine ax_iast (q := 12) hX j11 dc_M_moveNote_11 rfl hs3 hj12.1 hj12.2.1 hj12.2.2 e14 ?_
  refine ax_aload_n (q := 13) hX dc_M_moveNote_12 rfl rfl rfl ?_
  obtain ⟨u15, hu16, h⟩ := ax_bd h
  obtain ⟨n18, hs17⟩ : ∃ n, S u15 = some (.inr (0, n)) := hty.1 _ _ _ _ hs0 hu16
  refine ax_getR (q := 16) hX dc_M_moveNote_13 rfl fl_M_46 rfl hs0 hu16 ?_
  refine ax_iload_n (q := 17) hX dc_M_moveNote_16 rfl rfl rfl ?_
  refine ax_aload_n (q := 18) hX dc_M_moveNote_17 rfl rfl rfl ?_
  obtain ⟨u19, hu20, h⟩ := ax_bd h
  obtain ⟨n22, hs21⟩ : ∃ n, S u19 = some (.inr (0, n)) := hty.1 _ _ _ _ hs0 hu20
  refine ax_getR (q := 21) hX dc_M_moveNote_18 rfl fl_M_46 rfl hs0 hu20 ?_
  refine ax_iload_n (q := 22) hX dc_M_moveNote_21 rfl rfl rfl ?_
  obtain ⟨j23, hj24, h⟩ := ax_bd h
  have hj24 := ax_ix_s hty hs21 hj24
  refine ax_iald (q := 23) hX j23 dc_M_moveNote_22 rfl hs21 hj24.1 hj24.2.1 hj24.2.2 ?_
  obtain ⟨j25, hj26, h⟩ := ax_bd h
  have hj26 := ax_ix_s hty hs17 hj26
  obtain ⟨I27, e28, h⟩ := ax_bs h
  refine ax_iast (q := 24) hX j25 dc_M_moveNote_23 rfl hs17 hj26.1 hj26.2.1 hj26.2.2 e28 ?_
  refine ax_aload_n (q := 25) hX dc_M_moveNote_24 rfl rfl rfl ?_
  obtain ⟨u29, hu30, h⟩ := ax_bd h
  obtain ⟨n32, hs31⟩ : ∃ n, S u29 = some (.inr (0, n)) := hty.1 _ _ _ _ hs0 hu30
  refine ax_getR (q := 28) hX dc_M_moveNote_25 rfl fl_M_49 rfl hs0 hu30 ?_
  refine ax_iload_n (q := 29) hX dc_M_moveNote_28 rfl rfl rfl ?_
  refine ax_aload_n (q := 30) hX dc_M_moveNote_29 rfl rfl rfl ?_
  obtain ⟨u33, hu34, h⟩ := ax_bd h
  obtain ⟨n36, hs35⟩ : ∃ n, S u33 = some (.inr (0, n)) := hty.1 _ _ _ _ hs0 hu34
  refine ax_getR (q := 33) hX dc_M_moveNote_30 rfl fl_M_49 rfl hs0 hu34 ?_
  refine ax_iload_n (q := 34) hX dc_M_moveNote_33 rfl rfl rfl ?_
  obtain ⟨j37, hj38, h⟩ := ax_bd h
  have hj38 := ax_ix_s hty hs35 hj38
  refine ax_iald (q := 35) hX j37 dc_M_moveNote_34 rfl hs35 hj38.1 hj38.2.1 hj38.2.2 ?_
  obtain ⟨j39, hj40, h⟩ := ax_bd h
  have hj40 := ax_ix_s hty hs31 hj40
  obtain ⟨I41, e42, h⟩ := ax_bs h
  refine ax_iast (q := 36) hX j39 dc_M_moveNote_35 rfl hs31 hj40.1 hj40.2.1 hj40.2.2 e42 ?_
  cases h
  exact ax_vret hX hF dc_M_moveNote_36 (by decide) (by decide) ax_eq.mk (by rw [hS0]; exact fun _ _ z => z)
def d_M_comes_29 (S : ax_S) : Nat → ax_I → ax_R → Int32 → Int32 → Int32 → Int32 → Int32 → Int32 → Option (Int32)
  | 0, _, _, _, _, _, _, _, _ => none
  | n + 1, I, R, x0, x5, x6, x7, x8, x9 =>
    if (x0 - x0 / 4 * 4) ≤ x9 then
      some ((1000 * x6) + x5)
    else
      d_M_comes_29 S  n I R (x0) ((x8 - 1) - x6) (x5) (x8) (x7) (x9 + 1)
set_option maxHeartbeats 1000000 in
theorem e_M_comes_29 {l : Launch} {X : ax_X} {S : ax_S} {L : ax_L} {I0 : ax_I} {R0 : ax_R} {out : Int32} (hX : ax_ok X l "LossFreeToolsModel" b_M_comes 12 (ax_rm 1 0 0)) (hF : ax_fin X (some .int) 0 0 (ax_of (ax_eq (some (.int out)) S I0 R0 L))) (hS0 : ax_S0 X = S) : ∀ (n : Nat), ∀ (I : ax_I) (R : ax_R) (x0 : Int32) (x5 : Int32) (x6 : Int32) (x7 : Int32) (x8 : Int32) (x9 : Int32), ax_typ S R → I = I0 → R = R0 → d_M_comes_29 S  n I R x0 x5 x6 x7 x8 x9 = some out → ax_W X 12 29 [some (.int (x0)), none, none, none, none, some (.int (x5)), some (.int (x6)), some (.int (x7)), some (.int (x8)), some (.int (x9)), none, none] [] S I R L 0 0 := by
  intro n
  induction n with
  | zero =>
    rintro I R x0 x5 x6 x7 x8 x9 hty hI0 hR0 h
    cases h
  | succ n ih =>
    rintro I R x0 x5 x6 x7 x8 x9 hty hI0 hR0 h
    subst hI0
    subst hR0
    unfold d_M_comes_29 at h
    refine ax_iload (q := 31) hX dc_M_comes_29 rfl rfl ?_
    refine ax_iload_n (q := 32) hX dc_M_comes_31 rfl rfl rfl ?_
    refine ax_iconst (v := 4) (q := 33) hX dc_M_comes_32 rfl (by decide) ?_
    refine ax_irem (q := 34) hX dc_M_comes_33 rfl (by decide) ?_
    refine ax_icmp_ge (tgt := 72) (q := 37) hX dc_M_comes_34 rfl (by decide) (fun z2 => ?_) (fun z2 => ?_)
    · rw [if_pos z2] at h
      refine ax_sipush (v := 1000) (q := 75) hX dc_M_comes_72 rfl (by decide) ?_
      refine ax_iload (q := 77) hX dc_M_comes_75 rfl rfl ?_
      refine ax_imul (q := 78) hX dc_M_comes_77 rfl ?_
      refine ax_iload (q := 80) hX dc_M_comes_78 rfl rfl ?_
      refine ax_iadd (q := 81) hX dc_M_comes_80 rfl ?_
      cases h
      exact ax_iret hX hF dc_M_comes_81 rfl rfl (by decide) (by decide) ax_eq.mk (by rw [hS0]; exact fun _ _ z => z)
    · rw [if_neg z2] at h
      refine ax_iload (q := 39) hX dc_M_comes_37 rfl rfl ?_
      refine ax_istore (ls' := [some (.int (x0)), none, none, none, none, some (.int (x5)), some (.int (x6)), some (.int (x7)), some (.int (x8)), some (.int (x9)), some (.int (x5)), none]) (q := 41) hX dc_M_comes_39 rfl (by decide) rfl ?_
      refine ax_iload (q := 43) hX dc_M_comes_41 rfl rfl ?_
      refine ax_iconst (v := 1) (q := 44) hX dc_M_comes_43 rfl (by decide) ?_
      refine ax_isub (q := 45) hX dc_M_comes_44 rfl ?_
      refine ax_iload (q := 47) hX dc_M_comes_45 rfl rfl ?_
      refine ax_isub (q := 48) hX dc_M_comes_47 rfl ?_
      refine ax_istore (ls' := [some (.int (x0)), none, none, none, none, some (.int ((x8 - 1) - x6)), some (.int (x6)), some (.int (x7)), some (.int (x8)), some (.int (x9)), some (.int (x5)), none]) (q := 50) hX dc_M_comes_48 rfl (by decide) rfl ?_
      refine ax_iload (q := 52) hX dc_M_comes_50 rfl rfl ?_
      refine ax_istore (ls' := [some (.int (x0)), none, none, none, none, some (.int ((x8 - 1) - x6)), some (.int (x5)), some (.int (x7)), some (.int (x8)), some (.int (x9)), some (.int (x5)), none]) (q := 54) hX dc_M_comes_52 rfl (by decide) rfl ?_
      refine ax_iload (q := 56) hX dc_M_comes_54 rfl rfl ?_
      refine ax_istore (ls' := [some (.int (x0)), none, none, none, none, some (.int ((x8 - 1) - x6)), some (.int (x5)), some (.int (x7)), some (.int (x8)), some (.int (x9)), some (.int (x5)), some (.int (x7))]) (q := 58) hX dc_M_comes_56 rfl (by decide) rfl ?_
      refine ax_iload (q := 60) hX dc_M_comes_58 rfl rfl ?_
      refine ax_istore (ls' := [some (.int (x0)), none, none, none, none, some (.int ((x8 - 1) - x6)), some (.int (x5)), some (.int (x8)), some (.int (x8)), some (.int (x9)), some (.int (x5)), some (.int (x7))]) (q := 62) hX dc_M_comes_60 rfl (by decide) rfl ?_
      refine ax_iload (q := 64) hX dc_M_comes_62 rfl rfl ?_
      refine ax_istore (ls' := [some (.int (x0)), none, none, none, none, some (.int ((x8 - 1) - x6)), some (.int (x5)), some (.int (x8)), some (.int (x7)), some (.int (x9)), some (.int (x5)), some (.int (x7))]) (q := 66) hX dc_M_comes_64 rfl (by decide) rfl ?_
      refine ax_iinc (v := x9 + 1) (ls' := [some (.int (x0)), none, none, none, none, some (.int ((x8 - 1) - x6)), some (.int (x5)), some (.int (x8)), some (.int (x7)), some (.int (x9 + 1)), some (.int (x5)), some (.int (x7))]) (q := 69) hX dc_M_comes_66 rfl rfl rfl (by decide) rfl ?_
      refine ax_goto (tgt := 29) hX dc_M_comes_69 (by decide) ?_
      exact ax_weak (ls' := [some (.int (x0)), none, none, none, none, some (.int ((x8 - 1) - x6)), some (.int (x5)), some (.int (x8)), some (.int (x7)), some (.int (x9 + 1)), none, none]) (ax_fewP_s _ _ (by repeat (first | exact trivial | (refine And.intro rfl ?_)))) (ih I R (x0) ((x8 - 1) - x6) (x5) (x8) (x7) (x9 + 1) hty  rfl rfl h)
def d_M_comes_14 (S : ax_S) (I : ax_I) (R : ax_R) (x0 : Int32) (x2 : Int32) (x3 : Int32) (x4 : Int32) (y0 : Int32) : Option (Int32) :=
  d_M_comes_29 S  5000 I R (x0) (y0) (x2) (x3) (x4) (0)
set_option maxHeartbeats 1000000 in
theorem e_M_comes_14 {l : Launch} {X : ax_X} {S : ax_S} {L : ax_L} {I0 : ax_I} {R0 : ax_R} {out : Int32} (hX : ax_ok X l "LossFreeToolsModel" b_M_comes 12 (ax_rm 1 0 0)) (hF : ax_fin X (some .int) 0 0 (ax_of (ax_eq (some (.int out)) S I0 R0 L))) (hS0 : ax_S0 X = S) : ∀ (I : ax_I) (R : ax_R) (x0 : Int32) (x2 : Int32) (x3 : Int32) (x4 : Int32) (y0 : Int32), ax_typ S R → I = I0 → R = R0 → d_M_comes_14 S  I R x0 x2 x3 x4 y0 = some out → ax_W X 12 14 [some (.int (x0)), none, some (.int (x2)), some (.int (x3)), some (.int (x4)), none, none, none, none, none, none, none] [.int (y0)] S I R L 0 0 := by
  rintro I R x0 x2 x3 x4 y0 hty hI0 hR0 h
  subst hI0
  subst hR0
  unfold d_M_comes_14 at h
  refine ax_istore (ls' := [some (.int (x0)), none, some (.int (x2)), some (.int (x3)), some (.int (x4)), some (.int (y0)), none, none, none, none, none, none]) (q := 16) hX dc_M_comes_14 rfl (by decide) rfl ?_
  refine ax_iload_n (q := 17) hX dc_M_comes_16 rfl rfl rfl ?_
  refine ax_istore (ls' := [some (.int (x0)), none, some (.int (x2)), some (.int (x3)), some (.int (x4)), some (.int (y0)), some (.int (x2)), none, none, none, none, none]) (q := 19) hX dc_M_comes_17 rfl (by decide) rfl ?_
  refine ax_iload_n (q := 20) hX dc_M_comes_19 rfl rfl rfl ?_
  refine ax_istore (ls' := [some (.int (x0)), none, some (.int (x2)), some (.int (x3)), some (.int (x4)), some (.int (y0)), some (.int (x2)), some (.int (x3)), none, none, none, none]) (q := 22) hX dc_M_comes_20 rfl (by decide) rfl ?_
  refine ax_iload (q := 24) hX dc_M_comes_22 rfl rfl ?_
  refine ax_istore (ls' := [some (.int (x0)), none, some (.int (x2)), some (.int (x3)), some (.int (x4)), some (.int (y0)), some (.int (x2)), some (.int (x3)), some (.int (x4)), none, none, none]) (q := 26) hX dc_M_comes_24 rfl (by decide) rfl ?_
  refine ax_iconst (v := 0) (q := 27) hX dc_M_comes_26 rfl (by decide) ?_
  refine ax_istore (ls' := [some (.int (x0)), none, some (.int (x2)), some (.int (x3)), some (.int (x4)), some (.int (y0)), some (.int (x2)), some (.int (x3)), some (.int (x4)), some (.int (0)), none, none]) (q := 29) hX dc_M_comes_27 rfl (by decide) rfl ?_
  exact ax_weak (ls' := [some (.int (x0)), none, none, none, none, some (.int (y0)), some (.int (x2)), some (.int (x3)), some (.int (x4)), some (.int (0)), none, none]) (ax_fewP_s _ _ (by repeat (first | exact trivial | (refine And.intro rfl ?_)))) (e_M_comes_29 hX hF hS0  5000 I R (x0) (y0) (x2) (x3) (x4) (0) hty  rfl rfl h)
def d_M_comes (S : ax_S) (I : ax_I) (R : ax_R) (x0 : Int32) (x1 : Int32) (x2 : Int32) (x3 : Int32) (x4 : Int32) : Option (Int32) :=
  if x0 < 4 then
    d_M_comes_14 S  I R (x0) (x2) (x3) (x4) (x1)
  else
    d_M_comes_14 S  I R (x0) (x2) (x3) (x4) ((x3 - 1) - x1)
set_option maxHeartbeats 1000000 in
theorem c_M_comes (l : Launch) {S : ax_S} {I : ax_I} {R : ax_R} {L : ax_L} {x0 : Int32} {x1 : Int32} {x2 : Int32} {x3 : Int32} {x4 : Int32} {out : Int32} (hty : ax_typ S R) (h : d_M_comes S I R x0 x1 x2 x3 x4 = some out) : ax_Met l y_M_comes b_M_comes 12 (some .int) (ax_rm 1 0 0) [.int x0, .int x1, .int x2, .int x3, .int x4] S I R L (ax_eq (some (.int out)) S I R L) := by
  refine ax_enter (own := "LossFreeToolsModel") (by decide +kernel) rfl (ax_cats rfl) (Nat.le_of_ble_eq_true rfl) (fun X hX hF _ hS0 => ?_)
  show ax_W X 12 0 [some (.int (x0)), some (.int (x1)), some (.int (x2)), some (.int (x3)), some (.int (x4)), none, none, none, none, none, none, none] [] S I R L 0 0
  unfold d_M_comes at h
  refine ax_iload_n (q := 1) hX dc_M_comes_0 rfl rfl rfl ?_
  refine ax_iconst (v := 4) (q := 2) hX dc_M_comes_1 rfl (by decide) ?_
  refine ax_icmp_lt (tgt := 13) (q := 5) hX dc_M_comes_2 rfl (by decide) (fun z1 => ?_) (fun z1 => ?_)
  · rw [if_pos z1] at h
    refine ax_iload_n (q := 14) hX dc_M_comes_13 rfl rfl rfl ?_
    exact ax_weak (ls' := [some (.int (x0)), none, some (.int (x2)), some (.int (x3)), some (.int (x4)), none, none, none, none, none, none, none]) (ax_fewP_s _ _ (by repeat (first | exact trivial | (refine And.intro rfl ?_)))) (e_M_comes_14 hX hF hS0  I R (x0) (x2) (x3) (x4) (x1) hty  rfl rfl h)
  · rw [if_neg z1] at h
    refine ax_iload_n (q := 6) hX dc_M_comes_5 rfl rfl rfl ?_
    refine ax_iconst (v := 1) (q := 7) hX dc_M_comes_6 rfl (by decide) ?_
    refine ax_isub (q := 8) hX dc_M_comes_7 rfl ?_
    refine ax_iload_n (q := 9) hX dc_M_comes_8 rfl rfl rfl ?_
    refine ax_isub (q := 10) hX dc_M_comes_9 rfl ?_
    refine ax_goto (tgt := 14) hX dc_M_comes_10 (by decide) ?_
    exact ax_weak (ls' := [some (.int (x0)), none, some (.int (x2)), some (.int (x3)), some (.int (x4)), none, none, none, none, none, none, none]) (ax_fewP_s _ _ (by repeat (first | exact trivial | (refine And.intro rfl ?_)))) (e_M_comes_14 hX hF hS0  I R (x0) (x2) (x3) (x4) ((x3 - 1) - x1) hty  rfl rfl h)
def d_M_isTurned (S : ax_S) (I : ax_I) (R : ax_R) (x0 : Int32) : Option (Bool) :=
  if (x0 - x0 / 2 * 2) = 1 then
    some (true)
  else
    some (false)
set_option maxHeartbeats 1000000 in
theorem c_M_isTurned (l : Launch) {S : ax_S} {I : ax_I} {R : ax_R} {L : ax_L} {x0 : Int32} {out : Bool} (hty : ax_typ S R) (h : d_M_isTurned S I R x0 = some out) : ax_Met l y_M_isTurned b_M_isTurned 1 (some .boolean) (ax_rm 1 0 0) [.int x0] S I R L (ax_eq (some (.int (ax_b out))) S I R L) := by
  refine ax_enter (own := "LossFreeToolsModel") (by decide +kernel) rfl (ax_cats rfl) (Nat.le_of_ble_eq_true rfl) (fun X hX hF _ hS0 => ?_)
  show ax_W X 1 0 [some (.int (x0))] [] S I R L 0 0
  unfold d_M_isTurned at h
  refine ax_iload_n (q := 1) hX dc_M_isTurned_0 rfl rfl rfl ?_
  refine ax_iconst (v := 2) (q := 2) hX dc_M_isTurned_1 rfl (by decide) ?_
  refine ax_irem (q := 3) hX dc_M_isTurned_2 rfl (by decide) ?_
  refine ax_iconst (v := 1) (q := 4) hX dc_M_isTurned_3 rfl (by decide) ?_
  refine ax_icmp_ne (tgt := 11) (q := 7) hX dc_M_isTurned_4 rfl (by decide) (fun z1 => ?_) (fun z1 => ?_)
  · rw [if_neg z1] at h
    refine ax_iconst (v := 0) (q := 12) hX dc_M_isTurned_11 rfl (by decide) ?_
    cases h
    exact ax_iret hX hF dc_M_isTurned_12 rfl rfl (by decide) (by decide) ax_eq.mk (by rw [hS0]; exact fun _ _ z => z)
  · rw [if_pos z1] at h
    refine ax_iconst (v := 1) (q := 8) hX dc_M_isTurned_7 rfl (by decide) ?_
    refine ax_goto (tgt := 12) hX dc_M_isTurned_8 (by decide) ?_
    cases h
    exact ax_iret hX hF dc_M_isTurned_12 rfl rfl (by decide) (by decide) ax_eq.mk (by rw [hS0]; exact fun _ _ z => z)
def d_M_swap (S : ax_S) (I : ax_I) (R : ax_R) (u0 : Nat) : Option (Int32 × ax_I) :=
  (some (ax_up I u0 0 (0))).bind fun I1 =>
  (some (ax_up I1 u0 3 (1 - (I1 u0 3)))).bind fun I3 =>
  (some (ax_up I3 u0 18 (0))).bind fun I5 =>
  (some (ax_up I5 u0 19 (0))).bind fun I7 =>
  (R u0 6).bind fun u9 =>
  (ax_ix S u9 (I7 u0 3)).bind fun j13 =>
  some (I7 u9 j13, I7)
set_option maxHeartbeats 1000000 in
theorem c_M_swap (l : Launch) {S : ax_S} {I : ax_I} {R : ax_R} {L : ax_L} {u0 : Nat} {out : Int32 × ax_I} (hty : ax_typ S R) (hs0 : S u0 = some (.inl 5)) (h : d_M_swap S I R u0 = some out) : ax_Met l y_M_swap b_M_swap 1 (some .int) (ax_rm 1 0 0) [.ref u0] S I R L (ax_eq (some (.int out.1)) S out.2 R L) := by
  refine ax_enter (own := "LossFreeToolsModel") (by decide +kernel) rfl (ax_cats rfl) (Nat.le_of_ble_eq_true rfl) (fun X hX hF _ hS0 => ?_)
  show ax_W X 1 0 [some (.ref u0)] [] S I R L 0 0
  unfold d_M_swap at h
  refine ax_aload_n (q := 1) hX dc_M_swap_0 rfl rfl rfl ?_
  refine ax_iconst (v := 0) (q := 2) hX dc_M_swap_1 rfl (by decide) ?_
  obtain ⟨I1, e2, h⟩ := ax_bs h
  refine ax_putI (q := 5) hX dc_M_swap_2 rfl fl_M_68 rfl hs0 (fun z => by cases z) rfl rfl e2 ?_
  refine ax_aload_n (q := 6) hX dc_M_swap_5 rfl rfl rfl ?_
  refine ax_iconst (v := 1) (q := 7) hX dc_M_swap_6 rfl (by decide) ?_
  refine ax_aload_n (q := 8) hX dc_M_swap_7 rfl rfl rfl ?_
  refine ax_getI (q := 11) hX dc_M_swap_8 rfl fl_M_71 rfl hs0 ?_
  refine ax_isub (q := 12) hX dc_M_swap_11 rfl ?_
  obtain ⟨I3, e4, h⟩ := ax_bs h
  refine ax_putI (q := 15) hX dc_M_swap_12 rfl fl_M_71 rfl hs0 (fun z => by cases z) rfl rfl e4 ?_
  refine ax_aload_n (q := 16) hX dc_M_swap_15 rfl rfl rfl ?_
  refine ax_iconst (v := 0) (q := 17) hX dc_M_swap_16 rfl (by decide) ?_
  obtain ⟨I5, e6, h⟩ := ax_bs h
  refine ax_putI (q := 20) hX dc_M_swap_17 rfl fl_M_74 rfl hs0 (fun z => by cases z) rfl rfl e6 ?_
  refine ax_aload_n (q := 21) hX dc_M_swap_20 rfl rfl rfl ?_
  refine ax_iconst (v := 0) (q := 22) hX dc_M_swap_21 rfl (by decide) ?_
  obtain ⟨I7, e8, h⟩ := ax_bs h
  refine ax_putI (q := 25) hX dc_M_swap_22 rfl fl_M_77 rfl hs0 (fun z => by cases z) rfl rfl e8 ?_
  refine ax_aload_n (q := 26) hX dc_M_swap_25 rfl rfl rfl ?_
  obtain ⟨u9, hu10, h⟩ := ax_bd h
  obtain ⟨n12, hs11⟩ : ∃ n, S u9 = some (.inr (0, n)) := hty.1 _ _ _ _ hs0 hu10
  refine ax_getR (q := 29) hX dc_M_swap_26 rfl fl_M_16 rfl hs0 hu10 ?_
  refine ax_aload_n (q := 30) hX dc_M_swap_29 rfl rfl rfl ?_
  refine ax_getI (q := 33) hX dc_M_swap_30 rfl fl_M_71 rfl hs0 ?_
  obtain ⟨j13, hj14, h⟩ := ax_bd h
  have hj14 := ax_ix_s hty hs11 hj14
  refine ax_iald (q := 34) hX j13 dc_M_swap_33 rfl hs11 hj14.1 hj14.2.1 hj14.2.2 ?_
  cases h
  exact ax_iret hX hF dc_M_swap_34 rfl rfl (by decide) (by decide) ax_eq.mk (by rw [hS0]; exact fun _ _ z => z)
def d_M_tell (S : ax_S) (I : ax_I) (R : ax_R) (u0 : Nat) (x1 : Int32) : Option (ax_I) :=
  (R u0 21).bind fun u1 =>
  (ax_ix S u1 (I u0 22)).bind fun j5 =>
  (some (ax_up I u1 j5 (x1))).bind fun I7 =>
  (some (ax_up I7 u0 22 ((I7 u0 22) + 1))).bind fun I9 =>
  some (I9)
set_option maxHeartbeats 1000000 in
theorem c_M_tell (l : Launch) {S : ax_S} {I : ax_I} {R : ax_R} {L : ax_L} {u0 : Nat} {x1 : Int32} {out : ax_I} (hty : ax_typ S R) (hs0 : S u0 = some (.inl 5)) (h : d_M_tell S I R u0 x1 = some out) : ax_Met l y_M_tell b_M_tell 2 none (ax_rm 1 0 0) [.ref u0, .int x1] S I R L (ax_eq none S out R L) := by
  refine ax_enter (own := "LossFreeToolsModel") (by decide +kernel) rfl (ax_cats rfl) (Nat.le_of_ble_eq_true rfl) (fun X hX hF _ hS0 => ?_)
  show ax_W X 2 0 [some (.ref u0), some (.int (x1))] [] S I R L 0 0
  unfold d_M_tell at h
  refine ax_aload_n (q := 1) hX dc_M_tell_0 rfl rfl rfl ?_
  obtain ⟨u1, hu2, h⟩ := ax_bd h
  obtain ⟨n4, hs3⟩ : ∃ n, S u1 = some (.inr (0, n)) := hty.1 _ _ _ _ hs0 hu2
  refine ax_getR (q := 4) hX dc_M_tell_1 rfl fl_M_55 rfl hs0 hu2 ?_
  refine ax_aload_n (q := 5) hX dc_M_tell_4 rfl rfl rfl ?_
  refine ax_getI (q := 8) hX dc_M_tell_5 rfl fl_M_81 rfl hs0 ?_
  refine ax_iload_n (q := 9) hX dc_M_tell_8 rfl rfl rfl ?_
  obtain ⟨j5, hj6, h⟩ := ax_bd h
  have hj6 := ax_ix_s hty hs3 hj6
  obtain ⟨I7, e8, h⟩ := ax_bs h
  refine ax_iast (q := 10) hX j5 dc_M_tell_9 rfl hs3 hj6.1 hj6.2.1 hj6.2.2 e8 ?_
  refine ax_aload_n (q := 11) hX dc_M_tell_10 rfl rfl rfl ?_
  refine ax_dup (q := 12) hX dc_M_tell_11 rfl rfl ?_
  refine ax_getI (q := 15) hX dc_M_tell_12 rfl fl_M_81 rfl hs0 ?_
  refine ax_iconst (v := 1) (q := 16) hX dc_M_tell_15 rfl (by decide) ?_
  refine ax_iadd (q := 17) hX dc_M_tell_16 rfl ?_
  obtain ⟨I9, e10, h⟩ := ax_bs h
  refine ax_putI (q := 20) hX dc_M_tell_17 rfl fl_M_81 rfl hs0 (fun z => by cases z) rfl rfl e10 ?_
  cases h
  exact ax_vret hX hF dc_M_tell_20 (by decide) (by decide) ax_eq.mk (by rw [hS0]; exact fun _ _ z => z)
def d_M_partSize (S : ax_S) (I : ax_I) (R : ax_R) (x0 : Int32) : Option (Int32) :=
  some (12 + x0)
set_option maxHeartbeats 1000000 in
theorem c_M_partSize (l : Launch) {S : ax_S} {I : ax_I} {R : ax_R} {L : ax_L} {x0 : Int32} {out : Int32} (hty : ax_typ S R) (h : d_M_partSize S I R x0 = some out) : ax_Met l y_M_partSize b_M_partSize 1 (some .int) (ax_rm 1 0 0) [.int x0] S I R L (ax_eq (some (.int out)) S I R L) := by
  refine ax_enter (own := "LossFreeToolsModel") (by decide +kernel) rfl (ax_cats rfl) (Nat.le_of_ble_eq_true rfl) (fun X hX hF _ hS0 => ?_)
  show ax_W X 1 0 [some (.int (x0))] [] S I R L 0 0
  unfold d_M_partSize at h
  refine ax_bipush (v := 12) (q := 2) hX dc_M_partSize_0 rfl (by decide) ?_
  refine ax_iload_n (q := 3) hX dc_M_partSize_2 rfl rfl rfl ?_
  refine ax_iadd (q := 4) hX dc_M_partSize_3 rfl ?_
  cases h
  exact ax_iret hX hF dc_M_partSize_4 rfl rfl (by decide) (by decide) ax_eq.mk (by rw [hS0]; exact fun _ _ z => z)
def d_M_isBefore_45 (S : ax_S) (I : ax_I) (R : ax_R) : Option (Bool) :=
  some (true)
set_option maxHeartbeats 1000000 in
theorem e_M_isBefore_45 {l : Launch} {X : ax_X} {S : ax_S} {L : ax_L} {I0 : ax_I} {R0 : ax_R} {out : Bool} (hX : ax_ok X l "LossFreeToolsModel" b_M_isBefore 3 (ax_rm 1 0 0)) (hF : ax_fin X (some .boolean) 0 0 (ax_of (ax_eq (some (.int (ax_b out))) S I0 R0 L))) (hS0 : ax_S0 X = S) : ∀ (I : ax_I) (R : ax_R), ax_typ S R → I = I0 → R = R0 → d_M_isBefore_45 S  I R = some out → ax_W X 3 45 [none, none, none] [] S I R L 0 0 := by
  rintro I R hty hI0 hR0 h
  subst hI0
  subst hR0
  unfold d_M_isBefore_45 at h
  refine ax_iconst (v := 1) (q := 46) hX dc_M_isBefore_45 rfl (by decide) ?_
  refine ax_goto (tgt := 50) hX dc_M_isBefore_46 (by decide) ?_
  cases h
  exact ax_iret hX hF dc_M_isBefore_50 rfl rfl (by decide) (by decide) ax_eq.mk (by rw [hS0]; exact fun _ _ z => z)
def d_M_isBefore (S : ax_S) (I : ax_I) (R : ax_R) (u0 : Nat) (x1 : Int32) (x2 : Int32) : Option (Bool) :=
  (R u0 9).bind fun u1 =>
  (ax_ix S u1 (x1)).bind fun j5 =>
  (R u0 9).bind fun u7 =>
  (ax_ix S u7 (x2)).bind fun j11 =>
  if (I u1 j5) < (I u7 j11) then
    d_M_isBefore_45 S  I R 
  else
    (R u0 9).bind fun u14 =>
    (ax_ix S u14 (x1)).bind fun j18 =>
    (R u0 9).bind fun u20 =>
    (ax_ix S u20 (x2)).bind fun j24 =>
    if (I u14 j18) = (I u20 j24) then
      (R u0 8).bind fun u27 =>
      (ax_ix S u27 (x1)).bind fun j31 =>
      (R u0 8).bind fun u33 =>
      (ax_ix S u33 (x2)).bind fun j37 =>
      if (I u33 j37) ≤ (I u27 j31) then
        some (false)
      else
        d_M_isBefore_45 S  I R 
    else
      some (false)
set_option maxHeartbeats 1000000 in
theorem c_M_isBefore (l : Launch) {S : ax_S} {I : ax_I} {R : ax_R} {L : ax_L} {u0 : Nat} {x1 : Int32} {x2 : Int32} {out : Bool} (hty : ax_typ S R) (hs0 : S u0 = some (.inl 5)) (h : d_M_isBefore S I R u0 x1 x2 = some out) : ax_Met l y_M_isBefore b_M_isBefore 3 (some .boolean) (ax_rm 1 0 0) [.ref u0, .int x1, .int x2] S I R L (ax_eq (some (.int (ax_b out))) S I R L) := by
  refine ax_enter (own := "LossFreeToolsModel") (by decide +kernel) rfl (ax_cats rfl) (Nat.le_of_ble_eq_true rfl) (fun X hX hF _ hS0 => ?_)
  show ax_W X 3 0 [some (.ref u0), some (.int (x1)), some (.int (x2))] [] S I R L 0 0
  unfold d_M_isBefore at h
  refine ax_aload_n (q := 1) hX dc_M_isBefore_0 rfl rfl rfl ?_
  obtain ⟨u1, hu2, h⟩ := ax_bd h
  obtain ⟨n4, hs3⟩ : ∃ n, S u1 = some (.inr (0, n)) := hty.1 _ _ _ _ hs0 hu2
  refine ax_getR (q := 4) hX dc_M_isBefore_1 rfl fl_M_25 rfl hs0 hu2 ?_
  refine ax_iload_n (q := 5) hX dc_M_isBefore_4 rfl rfl rfl ?_
  obtain ⟨j5, hj6, h⟩ := ax_bd h
  have hj6 := ax_ix_s hty hs3 hj6
  refine ax_iald (q := 6) hX j5 dc_M_isBefore_5 rfl hs3 hj6.1 hj6.2.1 hj6.2.2 ?_
  refine ax_aload_n (q := 7) hX dc_M_isBefore_6 rfl rfl rfl ?_
  obtain ⟨u7, hu8, h⟩ := ax_bd h
  obtain ⟨n10, hs9⟩ : ∃ n, S u7 = some (.inr (0, n)) := hty.1 _ _ _ _ hs0 hu8
  refine ax_getR (q := 10) hX dc_M_isBefore_7 rfl fl_M_25 rfl hs0 hu8 ?_
  refine ax_iload_n (q := 11) hX dc_M_isBefore_10 rfl rfl rfl ?_
  obtain ⟨j11, hj12, h⟩ := ax_bd h
  have hj12 := ax_ix_s hty hs9 hj12
  refine ax_iald (q := 12) hX j11 dc_M_isBefore_11 rfl hs9 hj12.1 hj12.2.1 hj12.2.2 ?_
  refine ax_icmp_lt (tgt := 45) (q := 15) hX dc_M_isBefore_12 rfl (by decide) (fun z13 => ?_) (fun z13 => ?_)
  · rw [if_pos z13] at h
    exact ax_weak (ls' := [none, none, none]) (ax_fewP_s _ _ (by repeat (first | exact trivial | (refine And.intro rfl ?_)))) (e_M_isBefore_45 hX hF hS0  I R  hty  rfl rfl h)
  · rw [if_neg z13] at h
    refine ax_aload_n (q := 16) hX dc_M_isBefore_15 rfl rfl rfl ?_
    obtain ⟨u14, hu15, h⟩ := ax_bd h
    obtain ⟨n17, hs16⟩ : ∃ n, S u14 = some (.inr (0, n)) := hty.1 _ _ _ _ hs0 hu15
    refine ax_getR (q := 19) hX dc_M_isBefore_16 rfl fl_M_25 rfl hs0 hu15 ?_
    refine ax_iload_n (q := 20) hX dc_M_isBefore_19 rfl rfl rfl ?_
    obtain ⟨j18, hj19, h⟩ := ax_bd h
    have hj19 := ax_ix_s hty hs16 hj19
    refine ax_iald (q := 21) hX j18 dc_M_isBefore_20 rfl hs16 hj19.1 hj19.2.1 hj19.2.2 ?_
    refine ax_aload_n (q := 22) hX dc_M_isBefore_21 rfl rfl rfl ?_
    obtain ⟨u20, hu21, h⟩ := ax_bd h
    obtain ⟨n23, hs22⟩ : ∃ n, S u20 = some (.inr (0, n)) := hty.1 _ _ _ _ hs0 hu21
    refine ax_getR (q := 25) hX dc_M_isBefore_22 rfl fl_M_25 rfl hs0 hu21 ?_
    refine ax_iload_n (q := 26) hX dc_M_isBefore_25 rfl rfl rfl ?_
    obtain ⟨j24, hj25, h⟩ := ax_bd h
    have hj25 := ax_ix_s hty hs22 hj25
    refine ax_iald (q := 27) hX j24 dc_M_isBefore_26 rfl hs22 hj25.1 hj25.2.1 hj25.2.2 ?_
    refine ax_icmp_ne (tgt := 49) (q := 30) hX dc_M_isBefore_27 rfl (by decide) (fun z26 => ?_) (fun z26 => ?_)
    · rw [if_neg z26] at h
      refine ax_iconst (v := 0) (q := 50) hX dc_M_isBefore_49 rfl (by decide) ?_
      cases h
      exact ax_iret hX hF dc_M_isBefore_50 rfl rfl (by decide) (by decide) ax_eq.mk (by rw [hS0]; exact fun _ _ z => z)
    · rw [if_pos z26] at h
      refine ax_aload_n (q := 31) hX dc_M_isBefore_30 rfl rfl rfl ?_
      obtain ⟨u27, hu28, h⟩ := ax_bd h
      obtain ⟨n30, hs29⟩ : ∃ n, S u27 = some (.inr (0, n)) := hty.1 _ _ _ _ hs0 hu28
      refine ax_getR (q := 34) hX dc_M_isBefore_31 rfl fl_M_22 rfl hs0 hu28 ?_
      refine ax_iload_n (q := 35) hX dc_M_isBefore_34 rfl rfl rfl ?_
      obtain ⟨j31, hj32, h⟩ := ax_bd h
      have hj32 := ax_ix_s hty hs29 hj32
      refine ax_iald (q := 36) hX j31 dc_M_isBefore_35 rfl hs29 hj32.1 hj32.2.1 hj32.2.2 ?_
      refine ax_aload_n (q := 37) hX dc_M_isBefore_36 rfl rfl rfl ?_
      obtain ⟨u33, hu34, h⟩ := ax_bd h
      obtain ⟨n36, hs35⟩ : ∃ n, S u33 = some (.inr (0, n)) := hty.1 _ _ _ _ hs0 hu34
      refine ax_getR (q := 40) hX dc_M_isBefore_37 rfl fl_M_22 rfl hs0 hu34 ?_
      refine ax_iload_n (q := 41) hX dc_M_isBefore_40 rfl rfl rfl ?_
      obtain ⟨j37, hj38, h⟩ := ax_bd h
      have hj38 := ax_ix_s hty hs35 hj38
      refine ax_iald (q := 42) hX j37 dc_M_isBefore_41 rfl hs35 hj38.1 hj38.2.1 hj38.2.2 ?_
      refine ax_icmp_ge (tgt := 49) (q := 45) hX dc_M_isBefore_42 rfl (by decide) (fun z39 => ?_) (fun z39 => ?_)
      · rw [if_pos z39] at h
        refine ax_iconst (v := 0) (q := 50) hX dc_M_isBefore_49 rfl (by decide) ?_
        cases h
        exact ax_iret hX hF dc_M_isBefore_50 rfl rfl (by decide) (by decide) ax_eq.mk (by rw [hS0]; exact fun _ _ z => z)
      · rw [if_neg z39] at h
        exact ax_weak (ls' := [none, none, none]) (ax_fewP_s _ _ (by repeat (first | exact trivial | (refine And.intro rfl ?_)))) (e_M_isBefore_45 hX hF hS0  I R  hty  rfl rfl h)
def d_M_told (S : ax_S) (I : ax_I) (R : ax_R) (u0 : Nat) (x1 : Int32) : Option (Int32 × ax_I) :=
  (some (ax_up I u0 0 (0))).bind fun I1 =>
  if x1 = 0 then
    (R u0 4).bind fun u4 =>
    (ax_ix S u4 (I1 u0 3)).bind fun j8 =>
    some (I1 u4 j8, I1)
  else
  if x1 = 1 then
    (R u0 5).bind fun u11 =>
    (ax_ix S u11 (I1 u0 3)).bind fun j15 =>
    some (I1 u11 j15, I1)
  else
  if x1 = 2 then
    (R u0 6).bind fun u18 =>
    (ax_ix S u18 (I1 u0 3)).bind fun j22 =>
    some (I1 u18 j22, I1)
  else
  if x1 = 3 then
    (R u0 7).bind fun u25 =>
    (ax_ix S u25 (I1 u0 3)).bind fun j29 =>
    some (I1 u25 j29, I1)
  else
  if x1 = 4 then
    some (I1 u0 22, I1)
  else
  if x1 = 5 then
    (R u0 4).bind fun u33 =>
    (ax_ix S u33 (1 - (I1 u0 3))).bind fun j37 =>
    some (I1 u33 j37, I1)
  else
  if x1 = 6 then
    (R u0 5).bind fun u40 =>
    (ax_ix S u40 (1 - (I1 u0 3))).bind fun j44 =>
    some (I1 u40 j44, I1)
  else
  if x1 = 7 then
    (R u0 6).bind fun u47 =>
    (ax_ix S u47 (1 - (I1 u0 3))).bind fun j51 =>
    some (I1 u47 j51, I1)
  else
  if x1 = 8 then
    (R u0 7).bind fun u54 =>
    (ax_ix S u54 (1 - (I1 u0 3))).bind fun j58 =>
    some (I1 u54 j58, I1)
  else
  some ((-1), I1)
set_option maxHeartbeats 1000000 in
theorem c_M_told (l : Launch) {S : ax_S} {I : ax_I} {R : ax_R} {L : ax_L} {u0 : Nat} {x1 : Int32} {out : Int32 × ax_I} (hty : ax_typ S R) (hs0 : S u0 = some (.inl 5)) (h : d_M_told S I R u0 x1 = some out) : ax_Met l y_M_told b_M_told 3 (some .int) (ax_rm 1 0 0) [.ref u0, .int x1] S I R L (ax_eq (some (.int out.1)) S out.2 R L) := by
  refine ax_enter (own := "LossFreeToolsModel") (by decide +kernel) rfl (ax_cats rfl) (Nat.le_of_ble_eq_true rfl) (fun X hX hF _ hS0 => ?_)
  show ax_W X 3 0 [some (.ref u0), some (.int (x1)), none] [] S I R L 0 0
  unfold d_M_told at h
  refine ax_aload_n (q := 1) hX dc_M_told_0 rfl rfl rfl ?_
  refine ax_iconst (v := 0) (q := 2) hX dc_M_told_1 rfl (by decide) ?_
  obtain ⟨I1, e2, h⟩ := ax_bs h
  refine ax_putI (q := 5) hX dc_M_told_2 rfl fl_M_68 rfl hs0 (fun z => by cases z) rfl rfl e2 ?_
  refine ax_iconst (v := 1) (q := 6) hX dc_M_told_5 rfl (by decide) ?_
  refine ax_aload_n (q := 7) hX dc_M_told_6 rfl rfl rfl ?_
  refine ax_getI (q := 10) hX dc_M_told_7 rfl fl_M_71 rfl hs0 ?_
  refine ax_isub (q := 11) hX dc_M_told_10 rfl ?_
  refine ax_istore_n (ls' := [some (.ref u0), some (.int (x1)), some (.int (1 - (I1 u0 3)))]) (q := 12) hX dc_M_told_11 rfl rfl (by decide) rfl ?_
  refine ax_iload_n (q := 13) hX dc_M_told_12 rfl rfl rfl ?_
  by_cases z3 : x1 = 0
  · rw [if_pos z3] at h
    refine ax_tsIn (tgt := 64) hX dc_M_told_13 (by rw [z3]; decide) (by rw [z3]; decide) (by rw [z3]; rfl) (by decide) ?_
    refine ax_aload_n (q := 65) hX dc_M_told_64 rfl rfl rfl ?_
    obtain ⟨u4, hu5, h⟩ := ax_bd h
    obtain ⟨n7, hs6⟩ : ∃ n, S u4 = some (.inr (0, n)) := hty.1 _ _ _ _ hs0 hu5
    refine ax_getR (q := 68) hX dc_M_told_65 rfl fl_M_7 rfl hs0 hu5 ?_
    refine ax_aload_n (q := 69) hX dc_M_told_68 rfl rfl rfl ?_
    refine ax_getI (q := 72) hX dc_M_told_69 rfl fl_M_71 rfl hs0 ?_
    obtain ⟨j8, hj9, h⟩ := ax_bd h
    have hj9 := ax_ix_s hty hs6 hj9
    refine ax_iald (q := 73) hX j8 dc_M_told_72 rfl hs6 hj9.1 hj9.2.1 hj9.2.2 ?_
    cases h
    exact ax_iret hX hF dc_M_told_73 rfl rfl (by decide) (by decide) ax_eq.mk (by rw [hS0]; exact fun _ _ z => z)
  rw [if_neg z3] at h
  by_cases z10 : x1 = 1
  · rw [if_pos z10] at h
    refine ax_tsIn (tgt := 74) hX dc_M_told_13 (by rw [z10]; decide) (by rw [z10]; decide) (by rw [z10]; rfl) (by decide) ?_
    refine ax_aload_n (q := 75) hX dc_M_told_74 rfl rfl rfl ?_
    obtain ⟨u11, hu12, h⟩ := ax_bd h
    obtain ⟨n14, hs13⟩ : ∃ n, S u11 = some (.inr (0, n)) := hty.1 _ _ _ _ hs0 hu12
    refine ax_getR (q := 78) hX dc_M_told_75 rfl fl_M_13 rfl hs0 hu12 ?_
    refine ax_aload_n (q := 79) hX dc_M_told_78 rfl rfl rfl ?_
    refine ax_getI (q := 82) hX dc_M_told_79 rfl fl_M_71 rfl hs0 ?_
    obtain ⟨j15, hj16, h⟩ := ax_bd h
    have hj16 := ax_ix_s hty hs13 hj16
    refine ax_iald (q := 83) hX j15 dc_M_told_82 rfl hs13 hj16.1 hj16.2.1 hj16.2.2 ?_
    cases h
    exact ax_iret hX hF dc_M_told_83 rfl rfl (by decide) (by decide) ax_eq.mk (by rw [hS0]; exact fun _ _ z => z)
  rw [if_neg z10] at h
  by_cases z17 : x1 = 2
  · rw [if_pos z17] at h
    refine ax_tsIn (tgt := 84) hX dc_M_told_13 (by rw [z17]; decide) (by rw [z17]; decide) (by rw [z17]; rfl) (by decide) ?_
    refine ax_aload_n (q := 85) hX dc_M_told_84 rfl rfl rfl ?_
    obtain ⟨u18, hu19, h⟩ := ax_bd h
    obtain ⟨n21, hs20⟩ : ∃ n, S u18 = some (.inr (0, n)) := hty.1 _ _ _ _ hs0 hu19
    refine ax_getR (q := 88) hX dc_M_told_85 rfl fl_M_16 rfl hs0 hu19 ?_
    refine ax_aload_n (q := 89) hX dc_M_told_88 rfl rfl rfl ?_
    refine ax_getI (q := 92) hX dc_M_told_89 rfl fl_M_71 rfl hs0 ?_
    obtain ⟨j22, hj23, h⟩ := ax_bd h
    have hj23 := ax_ix_s hty hs20 hj23
    refine ax_iald (q := 93) hX j22 dc_M_told_92 rfl hs20 hj23.1 hj23.2.1 hj23.2.2 ?_
    cases h
    exact ax_iret hX hF dc_M_told_93 rfl rfl (by decide) (by decide) ax_eq.mk (by rw [hS0]; exact fun _ _ z => z)
  rw [if_neg z17] at h
  by_cases z24 : x1 = 3
  · rw [if_pos z24] at h
    refine ax_tsIn (tgt := 94) hX dc_M_told_13 (by rw [z24]; decide) (by rw [z24]; decide) (by rw [z24]; rfl) (by decide) ?_
    refine ax_aload_n (q := 95) hX dc_M_told_94 rfl rfl rfl ?_
    obtain ⟨u25, hu26, h⟩ := ax_bd h
    obtain ⟨n28, hs27⟩ : ∃ n, S u25 = some (.inr (0, n)) := hty.1 _ _ _ _ hs0 hu26
    refine ax_getR (q := 98) hX dc_M_told_95 rfl fl_M_19 rfl hs0 hu26 ?_
    refine ax_aload_n (q := 99) hX dc_M_told_98 rfl rfl rfl ?_
    refine ax_getI (q := 102) hX dc_M_told_99 rfl fl_M_71 rfl hs0 ?_
    obtain ⟨j29, hj30, h⟩ := ax_bd h
    have hj30 := ax_ix_s hty hs27 hj30
    refine ax_iald (q := 103) hX j29 dc_M_told_102 rfl hs27 hj30.1 hj30.2.1 hj30.2.2 ?_
    cases h
    exact ax_iret hX hF dc_M_told_103 rfl rfl (by decide) (by decide) ax_eq.mk (by rw [hS0]; exact fun _ _ z => z)
  rw [if_neg z24] at h
  by_cases z31 : x1 = 4
  · rw [if_pos z31] at h
    refine ax_tsIn (tgt := 104) hX dc_M_told_13 (by rw [z31]; decide) (by rw [z31]; decide) (by rw [z31]; rfl) (by decide) ?_
    refine ax_aload_n (q := 105) hX dc_M_told_104 rfl rfl rfl ?_
    refine ax_getI (q := 108) hX dc_M_told_105 rfl fl_M_81 rfl hs0 ?_
    cases h
    exact ax_iret hX hF dc_M_told_108 rfl rfl (by decide) (by decide) ax_eq.mk (by rw [hS0]; exact fun _ _ z => z)
  rw [if_neg z31] at h
  by_cases z32 : x1 = 5
  · rw [if_pos z32] at h
    refine ax_tsIn (tgt := 109) hX dc_M_told_13 (by rw [z32]; decide) (by rw [z32]; decide) (by rw [z32]; rfl) (by decide) ?_
    refine ax_aload_n (q := 110) hX dc_M_told_109 rfl rfl rfl ?_
    obtain ⟨u33, hu34, h⟩ := ax_bd h
    obtain ⟨n36, hs35⟩ : ∃ n, S u33 = some (.inr (0, n)) := hty.1 _ _ _ _ hs0 hu34
    refine ax_getR (q := 113) hX dc_M_told_110 rfl fl_M_7 rfl hs0 hu34 ?_
    refine ax_iload_n (q := 114) hX dc_M_told_113 rfl rfl rfl ?_
    obtain ⟨j37, hj38, h⟩ := ax_bd h
    have hj38 := ax_ix_s hty hs35 hj38
    refine ax_iald (q := 115) hX j37 dc_M_told_114 rfl hs35 hj38.1 hj38.2.1 hj38.2.2 ?_
    cases h
    exact ax_iret hX hF dc_M_told_115 rfl rfl (by decide) (by decide) ax_eq.mk (by rw [hS0]; exact fun _ _ z => z)
  rw [if_neg z32] at h
  by_cases z39 : x1 = 6
  · rw [if_pos z39] at h
    refine ax_tsIn (tgt := 116) hX dc_M_told_13 (by rw [z39]; decide) (by rw [z39]; decide) (by rw [z39]; rfl) (by decide) ?_
    refine ax_aload_n (q := 117) hX dc_M_told_116 rfl rfl rfl ?_
    obtain ⟨u40, hu41, h⟩ := ax_bd h
    obtain ⟨n43, hs42⟩ : ∃ n, S u40 = some (.inr (0, n)) := hty.1 _ _ _ _ hs0 hu41
    refine ax_getR (q := 120) hX dc_M_told_117 rfl fl_M_13 rfl hs0 hu41 ?_
    refine ax_iload_n (q := 121) hX dc_M_told_120 rfl rfl rfl ?_
    obtain ⟨j44, hj45, h⟩ := ax_bd h
    have hj45 := ax_ix_s hty hs42 hj45
    refine ax_iald (q := 122) hX j44 dc_M_told_121 rfl hs42 hj45.1 hj45.2.1 hj45.2.2 ?_
    cases h
    exact ax_iret hX hF dc_M_told_122 rfl rfl (by decide) (by decide) ax_eq.mk (by rw [hS0]; exact fun _ _ z => z)
  rw [if_neg z39] at h
  by_cases z46 : x1 = 7
  · rw [if_pos z46] at h
    refine ax_tsIn (tgt := 123) hX dc_M_told_13 (by rw [z46]; decide) (by rw [z46]; decide) (by rw [z46]; rfl) (by decide) ?_
    refine ax_aload_n (q := 124) hX dc_M_told_123 rfl rfl rfl ?_
    obtain ⟨u47, hu48, h⟩ := ax_bd h
    obtain ⟨n50, hs49⟩ : ∃ n, S u47 = some (.inr (0, n)) := hty.1 _ _ _ _ hs0 hu48
    refine ax_getR (q := 127) hX dc_M_told_124 rfl fl_M_16 rfl hs0 hu48 ?_
    refine ax_iload_n (q := 128) hX dc_M_told_127 rfl rfl rfl ?_
    obtain ⟨j51, hj52, h⟩ := ax_bd h
    have hj52 := ax_ix_s hty hs49 hj52
    refine ax_iald (q := 129) hX j51 dc_M_told_128 rfl hs49 hj52.1 hj52.2.1 hj52.2.2 ?_
    cases h
    exact ax_iret hX hF dc_M_told_129 rfl rfl (by decide) (by decide) ax_eq.mk (by rw [hS0]; exact fun _ _ z => z)
  rw [if_neg z46] at h
  by_cases z53 : x1 = 8
  · rw [if_pos z53] at h
    refine ax_tsIn (tgt := 130) hX dc_M_told_13 (by rw [z53]; decide) (by rw [z53]; decide) (by rw [z53]; rfl) (by decide) ?_
    refine ax_aload_n (q := 131) hX dc_M_told_130 rfl rfl rfl ?_
    obtain ⟨u54, hu55, h⟩ := ax_bd h
    obtain ⟨n57, hs56⟩ : ∃ n, S u54 = some (.inr (0, n)) := hty.1 _ _ _ _ hs0 hu55
    refine ax_getR (q := 134) hX dc_M_told_131 rfl fl_M_19 rfl hs0 hu55 ?_
    refine ax_iload_n (q := 135) hX dc_M_told_134 rfl rfl rfl ?_
    obtain ⟨j58, hj59, h⟩ := ax_bd h
    have hj59 := ax_ix_s hty hs56 hj59
    refine ax_iald (q := 136) hX j58 dc_M_told_135 rfl hs56 hj59.1 hj59.2.1 hj59.2.2 ?_
    cases h
    exact ax_iret hX hF dc_M_told_136 rfl rfl (by decide) (by decide) ax_eq.mk (by rw [hS0]; exact fun _ _ z => z)
  rw [if_neg z53] at h
  refine ax_tsOut (tgt := 137) hX dc_M_told_13 (ax_out9 z3 z10 z17 z24 z31 z32 z39 z46 z53) (by decide) ?_
  refine ax_iconst (v := (-1)) (q := 138) hX dc_M_told_137 rfl (by decide) ?_
  cases h
  exact ax_iret hX hF dc_M_told_138 rfl rfl (by decide) (by decide) ax_eq.mk (by rw [hS0]; exact fun _ _ z => z)
def d_M_isTile (S : ax_S) (I : ax_I) (R : ax_R) (u0 : Nat) (x1 : Int32) : Option (Bool) :=
  (R u0 6).bind fun u1 =>
  (ax_ix S u1 (I u0 3)).bind fun j5 =>
  (d_M_in S I R (x1) (0) ((I u1 j5) - 1)).bind fun r9 =>
  some (r9)
set_option maxHeartbeats 1000000 in
theorem c_M_isTile (l : Launch) {S : ax_S} {I : ax_I} {R : ax_R} {L : ax_L} {u0 : Nat} {x1 : Int32} {out : Bool} (hty : ax_typ S R) (hs0 : S u0 = some (.inl 5)) (h : d_M_isTile S I R u0 x1 = some out) : ax_Met l y_M_isTile b_M_isTile 2 (some .boolean) (ax_rm 2 0 0) [.ref u0, .int x1] S I R L (ax_eq (some (.int (ax_b out))) S I R L) := by
  refine ax_enter (own := "LossFreeToolsModel") (by decide +kernel) rfl (ax_cats rfl) (Nat.le_of_ble_eq_true rfl) (fun X hX hF _ hS0 => ?_)
  show ax_W X 2 0 [some (.ref u0), some (.int (x1))] [] S I R L 0 0
  unfold d_M_isTile at h
  refine ax_iload_n (q := 1) hX dc_M_isTile_0 rfl rfl rfl ?_
  refine ax_iconst (v := 0) (q := 2) hX dc_M_isTile_1 rfl (by decide) ?_
  refine ax_aload_n (q := 3) hX dc_M_isTile_2 rfl rfl rfl ?_
  obtain ⟨u1, hu2, h⟩ := ax_bd h
  obtain ⟨n4, hs3⟩ : ∃ n, S u1 = some (.inr (0, n)) := hty.1 _ _ _ _ hs0 hu2
  refine ax_getR (q := 6) hX dc_M_isTile_3 rfl fl_M_16 rfl hs0 hu2 ?_
  refine ax_aload_n (q := 7) hX dc_M_isTile_6 rfl rfl rfl ?_
  refine ax_getI (q := 10) hX dc_M_isTile_7 rfl fl_M_71 rfl hs0 ?_
  obtain ⟨j5, hj6, h⟩ := ax_bd h
  have hj6 := ax_ix_s hty hs3 hj6
  refine ax_iald (q := 11) hX j5 dc_M_isTile_10 rfl hs3 hj6.1 hj6.2.1 hj6.2.2 ?_
  refine ax_iconst (v := 1) (q := 12) hX dc_M_isTile_11 rfl (by decide) ?_
  refine ax_isub (q := 13) hX dc_M_isTile_12 rfl ?_
  obtain ⟨r9, hr7, h⟩ := ax_bd h
  refine ax_kS (vs := [.int (x1), .int (0), .int ((I u1 j5) - 1)]) (rest := []) (q := 16) hX dc_M_isTile_13 rfl mt_M_in wl_M_84 wt_M_in (c_M_in l hty  hr7) rfl (by decide) rfl (Nat.le_of_ble_eq_true rfl) rfl rfl (by decide) (by decide) rfl ?_
  cases h
  exact ax_iret hX hF dc_M_isTile_16 rfl (ax_b_n _) (by decide) (by decide) ax_eq.mk (by rw [hS0]; exact fun _ _ z => z)
def d_M_isSample (S : ax_S) (I : ax_I) (R : ax_R) (u0 : Nat) (x1 : Int32) (x2 : Int32) : Option (Bool) :=
  (R u0 4).bind fun u1 =>
  (ax_ix S u1 (I u0 3)).bind fun j5 =>
  (d_M_in S I R (x1) (0) ((I u1 j5) - 1)).bind fun r9 =>
  if (ax_b r9) = 0 then
    some (false)
  else
    (R u0 5).bind fun u11 =>
    (ax_ix S u11 (I u0 3)).bind fun j15 =>
    (d_M_in S I R (x2) (0) ((I u11 j15) - 1)).bind fun r19 =>
    if (ax_b r19) = 0 then
      some (false)
    else
      some (true)
set_option maxHeartbeats 1000000 in
theorem c_M_isSample (l : Launch) {S : ax_S} {I : ax_I} {R : ax_R} {L : ax_L} {u0 : Nat} {x1 : Int32} {x2 : Int32} {out : Bool} (hty : ax_typ S R) (hs0 : S u0 = some (.inl 5)) (h : d_M_isSample S I R u0 x1 x2 = some out) : ax_Met l y_M_isSample b_M_isSample 3 (some .boolean) (ax_rm 2 0 0) [.ref u0, .int x1, .int x2] S I R L (ax_eq (some (.int (ax_b out))) S I R L) := by
  refine ax_enter (own := "LossFreeToolsModel") (by decide +kernel) rfl (ax_cats rfl) (Nat.le_of_ble_eq_true rfl) (fun X hX hF _ hS0 => ?_)
  show ax_W X 3 0 [some (.ref u0), some (.int (x1)), some (.int (x2))] [] S I R L 0 0
  unfold d_M_isSample at h
  refine ax_iload_n (q := 1) hX dc_M_isSample_0 rfl rfl rfl ?_
  refine ax_iconst (v := 0) (q := 2) hX dc_M_isSample_1 rfl (by decide) ?_
  refine ax_aload_n (q := 3) hX dc_M_isSample_2 rfl rfl rfl ?_
  obtain ⟨u1, hu2, h⟩ := ax_bd h
  obtain ⟨n4, hs3⟩ : ∃ n, S u1 = some (.inr (0, n)) := hty.1 _ _ _ _ hs0 hu2
  refine ax_getR (q := 6) hX dc_M_isSample_3 rfl fl_M_7 rfl hs0 hu2 ?_
  refine ax_aload_n (q := 7) hX dc_M_isSample_6 rfl rfl rfl ?_
  refine ax_getI (q := 10) hX dc_M_isSample_7 rfl fl_M_71 rfl hs0 ?_
  obtain ⟨j5, hj6, h⟩ := ax_bd h
  have hj6 := ax_ix_s hty hs3 hj6
  refine ax_iald (q := 11) hX j5 dc_M_isSample_10 rfl hs3 hj6.1 hj6.2.1 hj6.2.2 ?_
  refine ax_iconst (v := 1) (q := 12) hX dc_M_isSample_11 rfl (by decide) ?_
  refine ax_isub (q := 13) hX dc_M_isSample_12 rfl ?_
  obtain ⟨r9, hr7, h⟩ := ax_bd h
  refine ax_kS (vs := [.int (x1), .int (0), .int ((I u1 j5) - 1)]) (rest := []) (q := 16) hX dc_M_isSample_13 rfl mt_M_in wl_M_84 wt_M_in (c_M_in l hty  hr7) rfl (by decide) rfl (Nat.le_of_ble_eq_true rfl) rfl rfl (by decide) (by decide) rfl ?_
  refine ax_if_eq (tgt := 42) (q := 19) hX dc_M_isSample_16 rfl (by decide) (fun z10 => ?_) (fun z10 => ?_)
  · rw [if_pos z10] at h
    refine ax_iconst (v := 0) (q := 43) hX dc_M_isSample_42 rfl (by decide) ?_
    cases h
    exact ax_iret hX hF dc_M_isSample_43 rfl rfl (by decide) (by decide) ax_eq.mk (by rw [hS0]; exact fun _ _ z => z)
  · rw [if_neg z10] at h
    refine ax_iload_n (q := 20) hX dc_M_isSample_19 rfl rfl rfl ?_
    refine ax_iconst (v := 0) (q := 21) hX dc_M_isSample_20 rfl (by decide) ?_
    refine ax_aload_n (q := 22) hX dc_M_isSample_21 rfl rfl rfl ?_
    obtain ⟨u11, hu12, h⟩ := ax_bd h
    obtain ⟨n14, hs13⟩ : ∃ n, S u11 = some (.inr (0, n)) := hty.1 _ _ _ _ hs0 hu12
    refine ax_getR (q := 25) hX dc_M_isSample_22 rfl fl_M_13 rfl hs0 hu12 ?_
    refine ax_aload_n (q := 26) hX dc_M_isSample_25 rfl rfl rfl ?_
    refine ax_getI (q := 29) hX dc_M_isSample_26 rfl fl_M_71 rfl hs0 ?_
    obtain ⟨j15, hj16, h⟩ := ax_bd h
    have hj16 := ax_ix_s hty hs13 hj16
    refine ax_iald (q := 30) hX j15 dc_M_isSample_29 rfl hs13 hj16.1 hj16.2.1 hj16.2.2 ?_
    refine ax_iconst (v := 1) (q := 31) hX dc_M_isSample_30 rfl (by decide) ?_
    refine ax_isub (q := 32) hX dc_M_isSample_31 rfl ?_
    obtain ⟨r19, hr17, h⟩ := ax_bd h
    refine ax_kS (vs := [.int (x2), .int (0), .int ((I u11 j15) - 1)]) (rest := []) (q := 35) hX dc_M_isSample_32 rfl mt_M_in wl_M_84 wt_M_in (c_M_in l hty  hr17) rfl (by decide) rfl (Nat.le_of_ble_eq_true rfl) rfl rfl (by decide) (by decide) rfl ?_
    refine ax_if_eq (tgt := 42) (q := 38) hX dc_M_isSample_35 rfl (by decide) (fun z20 => ?_) (fun z20 => ?_)
    · rw [if_pos z20] at h
      refine ax_iconst (v := 0) (q := 43) hX dc_M_isSample_42 rfl (by decide) ?_
      cases h
      exact ax_iret hX hF dc_M_isSample_43 rfl rfl (by decide) (by decide) ax_eq.mk (by rw [hS0]; exact fun _ _ z => z)
    · rw [if_neg z20] at h
      refine ax_iconst (v := 1) (q := 39) hX dc_M_isSample_38 rfl (by decide) ?_
      refine ax_goto (tgt := 43) hX dc_M_isSample_39 (by decide) ?_
      cases h
      exact ax_iret hX hF dc_M_isSample_43 rfl rfl (by decide) (by decide) ax_eq.mk (by rw [hS0]; exact fun _ _ z => z)
def d_M_tile_196 (S : ax_S) (I : ax_I) (R : ax_R) (u0 : Nat) (x1 : Int32) (x2 : Int32) (x3 : Int32) (x4 : Int32) (y0 : Int32) (w1 : Nat) : Option (Int32 × ax_I) :=
  (some (ax_up I w1 0 (y0))).bind fun I77 =>
  if (I77 u0 0) ≤ 0 then
    (R u0 6).bind fun u80 =>
    (ax_ix S u80 (I77 u0 3)).bind fun j84 =>
    (d_M_tileAt S I77 R u0 (I77 u80 j84)).bind fun r88 =>
    (R u0 8).bind fun u89 =>
    (ax_ix S u89 (r88)).bind fun j93 =>
    (some (ax_up I77 u89 j93 (x1))).bind fun I95 =>
    (R u0 9).bind fun u97 =>
    (ax_ix S u97 (r88)).bind fun j101 =>
    (some (ax_up I95 u97 j101 (x2))).bind fun I103 =>
    (R u0 10).bind fun u105 =>
    (ax_ix S u105 (r88)).bind fun j109 =>
    (some (ax_up I103 u105 j109 (x3))).bind fun I111 =>
    (R u0 11).bind fun u113 =>
    (ax_ix S u113 (r88)).bind fun j117 =>
    (some (ax_up I111 u113 j117 (x4))).bind fun I119 =>
    (R u0 12).bind fun u121 =>
    (ax_ix S u121 (r88)).bind fun j125 =>
    (some (ax_up I119 u121 j125 (0))).bind fun I127 =>
    (R u0 13).bind fun u129 =>
    (ax_ix S u129 (r88)).bind fun j133 =>
    (some (ax_up I127 u129 j133 (0))).bind fun I135 =>
    (R u0 6).bind fun u137 =>
    (ax_ix S u137 (I135 u0 3)).bind fun j141 =>
    (ax_ix S u137 (I135 u0 3)).bind fun j143 =>
    (some (ax_up I135 u137 j143 ((I135 u137 j141) + 1))).bind fun I145 =>
    (some (ax_up I145 u0 19 (0))).bind fun I147 =>
    (R u0 6).bind fun u149 =>
    (ax_ix S u149 (I147 u0 3)).bind fun j153 =>
    some ((I147 u149 j153) - 1, I147)
  else
    some (0, I77)
set_option maxHeartbeats 1000000 in
theorem e_M_tile_196 {l : Launch} {X : ax_X} {S : ax_S} {L : ax_L} {R0 : ax_R} {out : Int32 × ax_I} (hX : ax_ok X l "LossFreeToolsModel" b_M_tile 8 (ax_rm 2 0 0)) (hF : ax_fin X (some .int) 0 0 (ax_of (ax_eq (some (.int out.1)) S out.2 R0 L))) (hS0 : ax_S0 X = S) : ∀ (I : ax_I) (R : ax_R) (u0 : Nat) (x1 : Int32) (x2 : Int32) (x3 : Int32) (x4 : Int32) (y0 : Int32) (w1 : Nat), ax_typ S R → (S u0 = some (.inl 5)) → (S w1 = some (.inl 5)) → R = R0 → d_M_tile_196 S  I R u0 x1 x2 x3 x4 y0 w1 = some out → ax_W X 8 196 [some (.ref u0), some (.int (x1)), some (.int (x2)), some (.int (x3)), some (.int (x4)), none, none, none] [.int (y0), .ref w1] S I R L 0 0 := by
  rintro I R u0 x1 x2 x3 x4 y0 w1 hty hs0_ hw1_ hR0 h
  subst hR0
  unfold d_M_tile_196 at h
  obtain ⟨I77, e78, h⟩ := ax_bs h
  refine ax_putI (q := 199) hX dc_M_tile_196 rfl fl_M_68 rfl hw1_ (fun z => by cases z) rfl rfl e78 ?_
  refine ax_aload_n (q := 200) hX dc_M_tile_199 rfl rfl rfl ?_
  refine ax_getI (q := 203) hX dc_M_tile_200 rfl fl_M_68 rfl hs0_ ?_
  refine ax_if_le (tgt := 208) (q := 206) hX dc_M_tile_203 rfl (by decide) (fun z79 => ?_) (fun z79 => ?_)
  · rw [if_pos z79] at h
    refine ax_aload_n (q := 209) hX dc_M_tile_208 rfl rfl rfl ?_
    refine ax_aload_n (q := 210) hX dc_M_tile_209 rfl rfl rfl ?_
    obtain ⟨u80, hu81, h⟩ := ax_bd h
    obtain ⟨n83, hs82⟩ : ∃ n, S u80 = some (.inr (0, n)) := hty.1 _ _ _ _ hs0_ hu81
    refine ax_getR (q := 213) hX dc_M_tile_210 rfl fl_M_16 rfl hs0_ hu81 ?_
    refine ax_aload_n (q := 214) hX dc_M_tile_213 rfl rfl rfl ?_
    refine ax_getI (q := 217) hX dc_M_tile_214 rfl fl_M_71 rfl hs0_ ?_
    obtain ⟨j84, hj85, h⟩ := ax_bd h
    have hj85 := ax_ix_s hty hs82 hj85
    refine ax_iald (q := 218) hX j84 dc_M_tile_217 rfl hs82 hj85.1 hj85.2.1 hj85.2.2 ?_
    obtain ⟨r88, hr86, h⟩ := ax_bd h
    refine ax_kV (vs := [.int (I77 u80 j84)]) (rest := []) (q := 221) hX dc_M_tile_218 rfl mt_M_tileAt wl_M_92 wi_M_tileAt ws_M_tileAt hs0_ rfl (c_M_tileAt l hty hs0_ hr86) rfl (by decide) rfl (Nat.le_of_ble_eq_true rfl) rfl rfl (by decide) (by decide) rfl ?_
    refine ax_istore (ls' := [some (.ref u0), some (.int (x1)), some (.int (x2)), some (.int (x3)), some (.int (x4)), some (.int (r88)), none, none]) (q := 223) hX dc_M_tile_221 rfl (by decide) rfl ?_
    refine ax_aload_n (q := 224) hX dc_M_tile_223 rfl rfl rfl ?_
    obtain ⟨u89, hu90, h⟩ := ax_bd h
    obtain ⟨n92, hs91⟩ : ∃ n, S u89 = some (.inr (0, n)) := hty.1 _ _ _ _ hs0_ hu90
    refine ax_getR (q := 227) hX dc_M_tile_224 rfl fl_M_22 rfl hs0_ hu90 ?_
    refine ax_iload (q := 229) hX dc_M_tile_227 rfl rfl ?_
    refine ax_iload_n (q := 230) hX dc_M_tile_229 rfl rfl rfl ?_
    obtain ⟨j93, hj94, h⟩ := ax_bd h
    have hj94 := ax_ix_s hty hs91 hj94
    obtain ⟨I95, e96, h⟩ := ax_bs h
    refine ax_iast (q := 231) hX j93 dc_M_tile_230 rfl hs91 hj94.1 hj94.2.1 hj94.2.2 e96 ?_
    refine ax_aload_n (q := 232) hX dc_M_tile_231 rfl rfl rfl ?_
    obtain ⟨u97, hu98, h⟩ := ax_bd h
    obtain ⟨n100, hs99⟩ : ∃ n, S u97 = some (.inr (0, n)) := hty.1 _ _ _ _ hs0_ hu98
    refine ax_getR (q := 235) hX dc_M_tile_232 rfl fl_M_25 rfl hs0_ hu98 ?_
    refine ax_iload (q := 237) hX dc_M_tile_235 rfl rfl ?_
    refine ax_iload_n (q := 238) hX dc_M_tile_237 rfl rfl rfl ?_
    obtain ⟨j101, hj102, h⟩ := ax_bd h
    have hj102 := ax_ix_s hty hs99 hj102
    obtain ⟨I103, e104, h⟩ := ax_bs h
    refine ax_iast (q := 239) hX j101 dc_M_tile_238 rfl hs99 hj102.1 hj102.2.1 hj102.2.2 e104 ?_
    refine ax_aload_n (q := 240) hX dc_M_tile_239 rfl rfl rfl ?_
    obtain ⟨u105, hu106, h⟩ := ax_bd h
    obtain ⟨n108, hs107⟩ : ∃ n, S u105 = some (.inr (0, n)) := hty.1 _ _ _ _ hs0_ hu106
    refine ax_getR (q := 243) hX dc_M_tile_240 rfl fl_M_28 rfl hs0_ hu106 ?_
    refine ax_iload (q := 245) hX dc_M_tile_243 rfl rfl ?_
    refine ax_iload_n (q := 246) hX dc_M_tile_245 rfl rfl rfl ?_
    obtain ⟨j109, hj110, h⟩ := ax_bd h
    have hj110 := ax_ix_s hty hs107 hj110
    obtain ⟨I111, e112, h⟩ := ax_bs h
    refine ax_iast (q := 247) hX j109 dc_M_tile_246 rfl hs107 hj110.1 hj110.2.1 hj110.2.2 e112 ?_
    refine ax_aload_n (q := 248) hX dc_M_tile_247 rfl rfl rfl ?_
    obtain ⟨u113, hu114, h⟩ := ax_bd h
    obtain ⟨n116, hs115⟩ : ∃ n, S u113 = some (.inr (0, n)) := hty.1 _ _ _ _ hs0_ hu114
    refine ax_getR (q := 251) hX dc_M_tile_248 rfl fl_M_31 rfl hs0_ hu114 ?_
    refine ax_iload (q := 253) hX dc_M_tile_251 rfl rfl ?_
    refine ax_iload (q := 255) hX dc_M_tile_253 rfl rfl ?_
    obtain ⟨j117, hj118, h⟩ := ax_bd h
    have hj118 := ax_ix_s hty hs115 hj118
    obtain ⟨I119, e120, h⟩ := ax_bs h
    refine ax_iast (q := 256) hX j117 dc_M_tile_255 rfl hs115 hj118.1 hj118.2.1 hj118.2.2 e120 ?_
    refine ax_aload_n (q := 257) hX dc_M_tile_256 rfl rfl rfl ?_
    obtain ⟨u121, hu122, h⟩ := ax_bd h
    obtain ⟨n124, hs123⟩ : ∃ n, S u121 = some (.inr (0, n)) := hty.1 _ _ _ _ hs0_ hu122
    refine ax_getR (q := 260) hX dc_M_tile_257 rfl fl_M_34 rfl hs0_ hu122 ?_
    refine ax_iload (q := 262) hX dc_M_tile_260 rfl rfl ?_
    refine ax_iconst (v := 0) (q := 263) hX dc_M_tile_262 rfl (by decide) ?_
    obtain ⟨j125, hj126, h⟩ := ax_bd h
    have hj126 := ax_ix_s hty hs123 hj126
    obtain ⟨I127, e128, h⟩ := ax_bs h
    refine ax_iast (q := 264) hX j125 dc_M_tile_263 rfl hs123 hj126.1 hj126.2.1 hj126.2.2 e128 ?_
    refine ax_aload_n (q := 265) hX dc_M_tile_264 rfl rfl rfl ?_
    obtain ⟨u129, hu130, h⟩ := ax_bd h
    obtain ⟨n132, hs131⟩ : ∃ n, S u129 = some (.inr (0, n)) := hty.1 _ _ _ _ hs0_ hu130
    refine ax_getR (q := 268) hX dc_M_tile_265 rfl fl_M_37 rfl hs0_ hu130 ?_
    refine ax_iload (q := 270) hX dc_M_tile_268 rfl rfl ?_
    refine ax_iconst (v := 0) (q := 271) hX dc_M_tile_270 rfl (by decide) ?_
    obtain ⟨j133, hj134, h⟩ := ax_bd h
    have hj134 := ax_ix_s hty hs131 hj134
    obtain ⟨I135, e136, h⟩ := ax_bs h
    refine ax_iast (q := 272) hX j133 dc_M_tile_271 rfl hs131 hj134.1 hj134.2.1 hj134.2.2 e136 ?_
    refine ax_aload_n (q := 273) hX dc_M_tile_272 rfl rfl rfl ?_
    obtain ⟨u137, hu138, h⟩ := ax_bd h
    obtain ⟨n140, hs139⟩ : ∃ n, S u137 = some (.inr (0, n)) := hty.1 _ _ _ _ hs0_ hu138
    refine ax_getR (q := 276) hX dc_M_tile_273 rfl fl_M_16 rfl hs0_ hu138 ?_
    refine ax_aload_n (q := 277) hX dc_M_tile_276 rfl rfl rfl ?_
    refine ax_getI (q := 280) hX dc_M_tile_277 rfl fl_M_71 rfl hs0_ ?_
    refine ax_dup2 (q := 281) hX dc_M_tile_280 rfl rfl rfl ?_
    obtain ⟨j141, hj142, h⟩ := ax_bd h
    have hj142 := ax_ix_s hty hs139 hj142
    refine ax_iald (q := 282) hX j141 dc_M_tile_281 rfl hs139 hj142.1 hj142.2.1 hj142.2.2 ?_
    refine ax_iconst (v := 1) (q := 283) hX dc_M_tile_282 rfl (by decide) ?_
    refine ax_iadd (q := 284) hX dc_M_tile_283 rfl ?_
    obtain ⟨j143, hj144, h⟩ := ax_bd h
    have hj144 := ax_ix_s hty hs139 hj144
    obtain ⟨I145, e146, h⟩ := ax_bs h
    refine ax_iast (q := 285) hX j143 dc_M_tile_284 rfl hs139 hj144.1 hj144.2.1 hj144.2.2 e146 ?_
    refine ax_aload_n (q := 286) hX dc_M_tile_285 rfl rfl rfl ?_
    refine ax_iconst (v := 0) (q := 287) hX dc_M_tile_286 rfl (by decide) ?_
    obtain ⟨I147, e148, h⟩ := ax_bs h
    refine ax_putI (q := 290) hX dc_M_tile_287 rfl fl_M_77 rfl hs0_ (fun z => by cases z) rfl rfl e148 ?_
    refine ax_aload_n (q := 291) hX dc_M_tile_290 rfl rfl rfl ?_
    obtain ⟨u149, hu150, h⟩ := ax_bd h
    obtain ⟨n152, hs151⟩ : ∃ n, S u149 = some (.inr (0, n)) := hty.1 _ _ _ _ hs0_ hu150
    refine ax_getR (q := 294) hX dc_M_tile_291 rfl fl_M_16 rfl hs0_ hu150 ?_
    refine ax_aload_n (q := 295) hX dc_M_tile_294 rfl rfl rfl ?_
    refine ax_getI (q := 298) hX dc_M_tile_295 rfl fl_M_71 rfl hs0_ ?_
    obtain ⟨j153, hj154, h⟩ := ax_bd h
    have hj154 := ax_ix_s hty hs151 hj154
    refine ax_iald (q := 299) hX j153 dc_M_tile_298 rfl hs151 hj154.1 hj154.2.1 hj154.2.2 ?_
    refine ax_iconst (v := 1) (q := 300) hX dc_M_tile_299 rfl (by decide) ?_
    refine ax_isub (q := 301) hX dc_M_tile_300 rfl ?_
    cases h
    exact ax_iret hX hF dc_M_tile_301 rfl rfl (by decide) (by decide) ax_eq.mk (by rw [hS0]; exact fun _ _ z => z)
  · rw [if_neg z79] at h
    refine ax_iconst (v := 0) (q := 207) hX dc_M_tile_206 rfl (by decide) ?_
    cases h
    exact ax_iret hX hF dc_M_tile_207 rfl rfl (by decide) (by decide) ax_eq.mk (by rw [hS0]; exact fun _ _ z => z)
def d_M_tile_192 (S : ax_S) (I : ax_I) (R : ax_R) (u0 : Nat) (x1 : Int32) (x2 : Int32) (x3 : Int32) (x4 : Int32) (w0 : Nat) : Option (Int32 × ax_I) :=
  d_M_tile_196 S  I R u0 (x1) (x2) (x3) (x4) (I u0 0) w0
set_option maxHeartbeats 1000000 in
theorem e_M_tile_192 {l : Launch} {X : ax_X} {S : ax_S} {L : ax_L} {R0 : ax_R} {out : Int32 × ax_I} (hX : ax_ok X l "LossFreeToolsModel" b_M_tile 8 (ax_rm 2 0 0)) (hF : ax_fin X (some .int) 0 0 (ax_of (ax_eq (some (.int out.1)) S out.2 R0 L))) (hS0 : ax_S0 X = S) : ∀ (I : ax_I) (R : ax_R) (u0 : Nat) (x1 : Int32) (x2 : Int32) (x3 : Int32) (x4 : Int32) (w0 : Nat), ax_typ S R → (S u0 = some (.inl 5)) → (S w0 = some (.inl 5)) → R = R0 → d_M_tile_192 S  I R u0 x1 x2 x3 x4 w0 = some out → ax_W X 8 192 [some (.ref u0), some (.int (x1)), some (.int (x2)), some (.int (x3)), some (.int (x4)), none, none, none] [.ref w0] S I R L 0 0 := by
  rintro I R u0 x1 x2 x3 x4 w0 hty hs0_ hw0_ hR0 h
  subst hR0
  unfold d_M_tile_192 at h
  refine ax_aload_n (q := 193) hX dc_M_tile_192 rfl rfl rfl ?_
  refine ax_getI (q := 196) hX dc_M_tile_193 rfl fl_M_68 rfl hs0_ ?_
  exact (e_M_tile_196 hX hF hS0  I R u0 (x1) (x2) (x3) (x4) (I u0 0) w0 hty hs0_ hw0_ rfl h)
def d_M_tile_166 (S : ax_S) (I : ax_I) (R : ax_R) (u0 : Nat) (x1 : Int32) (x2 : Int32) (x3 : Int32) (x4 : Int32) : Option (Int32 × ax_I) :=
  if (I u0 0) = 0 then
    (R u0 6).bind fun u70 =>
    (ax_ix S u70 (I u0 3)).bind fun j74 =>
    if (I u70 j74) = 40 then
      d_M_tile_196 S  I R u0 (x1) (x2) (x3) (x4) (3) u0
    else
      d_M_tile_192 S  I R u0 (x1) (x2) (x3) (x4) u0
  else
    d_M_tile_192 S  I R u0 (x1) (x2) (x3) (x4) u0
set_option maxHeartbeats 1000000 in
theorem e_M_tile_166 {l : Launch} {X : ax_X} {S : ax_S} {L : ax_L} {R0 : ax_R} {out : Int32 × ax_I} (hX : ax_ok X l "LossFreeToolsModel" b_M_tile 8 (ax_rm 2 0 0)) (hF : ax_fin X (some .int) 0 0 (ax_of (ax_eq (some (.int out.1)) S out.2 R0 L))) (hS0 : ax_S0 X = S) : ∀ (I : ax_I) (R : ax_R) (u0 : Nat) (x1 : Int32) (x2 : Int32) (x3 : Int32) (x4 : Int32), ax_typ S R → (S u0 = some (.inl 5)) → R = R0 → d_M_tile_166 S  I R u0 x1 x2 x3 x4 = some out → ax_W X 8 166 [some (.ref u0), some (.int (x1)), some (.int (x2)), some (.int (x3)), some (.int (x4)), none, none, none] [] S I R L 0 0 := by
  rintro I R u0 x1 x2 x3 x4 hty hs0_ hR0 h
  subst hR0
  unfold d_M_tile_166 at h
  refine ax_aload_n (q := 167) hX dc_M_tile_166 rfl rfl rfl ?_
  refine ax_aload_n (q := 168) hX dc_M_tile_167 rfl rfl rfl ?_
  refine ax_getI (q := 171) hX dc_M_tile_168 rfl fl_M_68 rfl hs0_ ?_
  refine ax_if_ne (tgt := 192) (q := 174) hX dc_M_tile_171 rfl (by decide) (fun z69 => ?_) (fun z69 => ?_)
  · rw [if_neg z69] at h
    exact (e_M_tile_192 hX hF hS0  I R u0 (x1) (x2) (x3) (x4) u0 hty hs0_ hs0_ rfl h)
  · rw [if_pos z69] at h
    refine ax_aload_n (q := 175) hX dc_M_tile_174 rfl rfl rfl ?_
    obtain ⟨u70, hu71, h⟩ := ax_bd h
    obtain ⟨n73, hs72⟩ : ∃ n, S u70 = some (.inr (0, n)) := hty.1 _ _ _ _ hs0_ hu71
    refine ax_getR (q := 178) hX dc_M_tile_175 rfl fl_M_16 rfl hs0_ hu71 ?_
    refine ax_aload_n (q := 179) hX dc_M_tile_178 rfl rfl rfl ?_
    refine ax_getI (q := 182) hX dc_M_tile_179 rfl fl_M_71 rfl hs0_ ?_
    obtain ⟨j74, hj75, h⟩ := ax_bd h
    have hj75 := ax_ix_s hty hs72 hj75
    refine ax_iald (q := 183) hX j74 dc_M_tile_182 rfl hs72 hj75.1 hj75.2.1 hj75.2.2 ?_
    refine ax_bipush (v := 40) (q := 185) hX dc_M_tile_183 rfl (by decide) ?_
    refine ax_icmp_ne (tgt := 192) (q := 188) hX dc_M_tile_185 rfl (by decide) (fun z76 => ?_) (fun z76 => ?_)
    · rw [if_neg z76] at h
      exact (e_M_tile_192 hX hF hS0  I R u0 (x1) (x2) (x3) (x4) u0 hty hs0_ hs0_ rfl h)
    · rw [if_pos z76] at h
      refine ax_iconst (v := 3) (q := 189) hX dc_M_tile_188 rfl (by decide) ?_
      refine ax_goto (tgt := 196) hX dc_M_tile_189 (by decide) ?_
      exact (e_M_tile_196 hX hF hS0  I R u0 (x1) (x2) (x3) (x4) (3) u0 hty hs0_ hs0_ rfl h)
def d_M_tile_157 (S : ax_S) (rec45 : ax_I → ax_R → Nat → Int32 → Int32 → Int32 → Int32 → Int32 → Option (Int32 × ax_I)) (I : ax_I) (R : ax_R) (u0 : Nat) (x1 : Int32) (x2 : Int32) (x3 : Int32) (x4 : Int32) (x5 : Int32) (y0 : Int32) (w1 : Nat) : Option (Int32 × ax_I) :=
  (some (ax_up I w1 0 (y0))).bind fun I67 =>
  rec45 I67 R u0 (x1) (x2) (x3) (x4) (x5 + 1)
set_option maxHeartbeats 1000000 in
theorem e_M_tile_157 {l : Launch} {X : ax_X} {S : ax_S} {L : ax_L} {R0 : ax_R} {out : Int32 × ax_I} (hX : ax_ok X l "LossFreeToolsModel" b_M_tile 8 (ax_rm 2 0 0)) (hF : ax_fin X (some .int) 0 0 (ax_of (ax_eq (some (.int out.1)) S out.2 R0 L))) (hS0 : ax_S0 X = S) (rec45 : ax_I → ax_R → Nat → Int32 → Int32 → Int32 → Int32 → Int32 → Option (Int32 × ax_I)) (hrec45 : ∀ (I : ax_I) (R : ax_R) (u0 : Nat) (x1 : Int32) (x2 : Int32) (x3 : Int32) (x4 : Int32) (x5 : Int32), ax_typ S R → (S u0 = some (.inl 5)) → R = R0 → rec45 I R u0 x1 x2 x3 x4 x5 = some out → ax_W X 8 45 [some (.ref u0), some (.int (x1)), some (.int (x2)), some (.int (x3)), some (.int (x4)), some (.int (x5)), none, none] [] S I R L 0 0) : ∀ (I : ax_I) (R : ax_R) (u0 : Nat) (x1 : Int32) (x2 : Int32) (x3 : Int32) (x4 : Int32) (x5 : Int32) (y0 : Int32) (w1 : Nat), ax_typ S R → (S u0 = some (.inl 5)) → (S w1 = some (.inl 5)) → R = R0 → d_M_tile_157 S rec45 I R u0 x1 x2 x3 x4 x5 y0 w1 = some out → ax_W X 8 157 [some (.ref u0), some (.int (x1)), some (.int (x2)), some (.int (x3)), some (.int (x4)), some (.int (x5)), none, none] [.int (y0), .ref w1] S I R L 0 0 := by
  rintro I R u0 x1 x2 x3 x4 x5 y0 w1 hty hs0_ hw1_ hR0 h
  subst hR0
  unfold d_M_tile_157 at h
  obtain ⟨I67, e68, h⟩ := ax_bs h
  refine ax_putI (q := 160) hX dc_M_tile_157 rfl fl_M_68 rfl hw1_ (fun z => by cases z) rfl rfl e68 ?_
  refine ax_iinc (v := x5 + 1) (ls' := [some (.ref u0), some (.int (x1)), some (.int (x2)), some (.int (x3)), some (.int (x4)), some (.int (x5 + 1)), none, none]) (q := 163) hX dc_M_tile_160 rfl rfl rfl (by decide) rfl ?_
  refine ax_goto (tgt := 45) hX dc_M_tile_163 (by decide) ?_
  exact (hrec45 I67 R u0 (x1) (x2) (x3) (x4) (x5 + 1) hty hs0_ rfl h)
def d_M_tile_144 (S : ax_S) (rec45 : ax_I → ax_R → Nat → Int32 → Int32 → Int32 → Int32 → Int32 → Option (Int32 × ax_I)) (I : ax_I) (R : ax_R) (u0 : Nat) (x1 : Int32) (x2 : Int32) (x3 : Int32) (x4 : Int32) (x5 : Int32) (y0 : Int32) : Option (Int32 × ax_I) :=
  if y0 = 0 then
    d_M_tile_157 S (rec45) I R u0 (x1) (x2) (x3) (x4) (x5) (2) u0
  else
    d_M_tile_157 S (rec45) I R u0 (x1) (x2) (x3) (x4) (x5) (0) u0
set_option maxHeartbeats 1000000 in
theorem e_M_tile_144 {l : Launch} {X : ax_X} {S : ax_S} {L : ax_L} {R0 : ax_R} {out : Int32 × ax_I} (hX : ax_ok X l "LossFreeToolsModel" b_M_tile 8 (ax_rm 2 0 0)) (hF : ax_fin X (some .int) 0 0 (ax_of (ax_eq (some (.int out.1)) S out.2 R0 L))) (hS0 : ax_S0 X = S) (rec45 : ax_I → ax_R → Nat → Int32 → Int32 → Int32 → Int32 → Int32 → Option (Int32 × ax_I)) (hrec45 : ∀ (I : ax_I) (R : ax_R) (u0 : Nat) (x1 : Int32) (x2 : Int32) (x3 : Int32) (x4 : Int32) (x5 : Int32), ax_typ S R → (S u0 = some (.inl 5)) → R = R0 → rec45 I R u0 x1 x2 x3 x4 x5 = some out → ax_W X 8 45 [some (.ref u0), some (.int (x1)), some (.int (x2)), some (.int (x3)), some (.int (x4)), some (.int (x5)), none, none] [] S I R L 0 0) : ∀ (I : ax_I) (R : ax_R) (u0 : Nat) (x1 : Int32) (x2 : Int32) (x3 : Int32) (x4 : Int32) (x5 : Int32) (y0 : Int32), ax_typ S R → (S u0 = some (.inl 5)) → R = R0 → d_M_tile_144 S rec45 I R u0 x1 x2 x3 x4 x5 y0 = some out → ax_W X 8 144 [some (.ref u0), some (.int (x1)), some (.int (x2)), some (.int (x3)), some (.int (x4)), some (.int (x5)), none, none] [.int (y0)] S I R L 0 0 := by
  rintro I R u0 x1 x2 x3 x4 x5 y0 hty hs0_ hR0 h
  subst hR0
  unfold d_M_tile_144 at h
  refine ax_istore (ls' := [some (.ref u0), some (.int (x1)), some (.int (x2)), some (.int (x3)), some (.int (x4)), some (.int (x5)), none, some (.int (y0))]) (q := 146) hX dc_M_tile_144 rfl (by decide) rfl ?_
  refine ax_aload_n (q := 147) hX dc_M_tile_146 rfl rfl rfl ?_
  refine ax_iload (q := 149) hX dc_M_tile_147 rfl rfl ?_
  refine ax_if_eq (tgt := 156) (q := 152) hX dc_M_tile_149 rfl (by decide) (fun z66 => ?_) (fun z66 => ?_)
  · rw [if_pos z66] at h
    refine ax_iconst (v := 2) (q := 157) hX dc_M_tile_156 rfl (by decide) ?_
    exact ax_weak (ls' := [some (.ref u0), some (.int (x1)), some (.int (x2)), some (.int (x3)), some (.int (x4)), some (.int (x5)), none, none]) (ax_fewP_s _ _ (by repeat (first | exact trivial | (refine And.intro rfl ?_)))) (e_M_tile_157 hX hF hS0 (rec45) (hrec45) I R u0 (x1) (x2) (x3) (x4) (x5) (2) u0 hty hs0_ hs0_ rfl h)
  · rw [if_neg z66] at h
    refine ax_iconst (v := 0) (q := 153) hX dc_M_tile_152 rfl (by decide) ?_
    refine ax_goto (tgt := 157) hX dc_M_tile_153 (by decide) ?_
    exact ax_weak (ls' := [some (.ref u0), some (.int (x1)), some (.int (x2)), some (.int (x3)), some (.int (x4)), some (.int (x5)), none, none]) (ax_fewP_s _ _ (by repeat (first | exact trivial | (refine And.intro rfl ?_)))) (e_M_tile_157 hX hF hS0 (rec45) (hrec45) I R u0 (x1) (x2) (x3) (x4) (x5) (0) u0 hty hs0_ hs0_ rfl h)
def d_M_tile_139 (S : ax_S) (rec45 : ax_I → ax_R → Nat → Int32 → Int32 → Int32 → Int32 → Int32 → Option (Int32 × ax_I)) (I : ax_I) (R : ax_R) (u0 : Nat) (x1 : Int32) (x2 : Int32) (x3 : Int32) (x4 : Int32) (x5 : Int32) : Option (Int32 × ax_I) :=
  d_M_tile_144 S (rec45) I R u0 (x1) (x2) (x3) (x4) (x5) (1)
set_option maxHeartbeats 1000000 in
theorem e_M_tile_139 {l : Launch} {X : ax_X} {S : ax_S} {L : ax_L} {R0 : ax_R} {out : Int32 × ax_I} (hX : ax_ok X l "LossFreeToolsModel" b_M_tile 8 (ax_rm 2 0 0)) (hF : ax_fin X (some .int) 0 0 (ax_of (ax_eq (some (.int out.1)) S out.2 R0 L))) (hS0 : ax_S0 X = S) (rec45 : ax_I → ax_R → Nat → Int32 → Int32 → Int32 → Int32 → Int32 → Option (Int32 × ax_I)) (hrec45 : ∀ (I : ax_I) (R : ax_R) (u0 : Nat) (x1 : Int32) (x2 : Int32) (x3 : Int32) (x4 : Int32) (x5 : Int32), ax_typ S R → (S u0 = some (.inl 5)) → R = R0 → rec45 I R u0 x1 x2 x3 x4 x5 = some out → ax_W X 8 45 [some (.ref u0), some (.int (x1)), some (.int (x2)), some (.int (x3)), some (.int (x4)), some (.int (x5)), none, none] [] S I R L 0 0) : ∀ (I : ax_I) (R : ax_R) (u0 : Nat) (x1 : Int32) (x2 : Int32) (x3 : Int32) (x4 : Int32) (x5 : Int32), ax_typ S R → (S u0 = some (.inl 5)) → R = R0 → d_M_tile_139 S rec45 I R u0 x1 x2 x3 x4 x5 = some out → ax_W X 8 139 [some (.ref u0), some (.int (x1)), some (.int (x2)), some (.int (x3)), some (.int (x4)), some (.int (x5)), none, none] [] S I R L 0 0 := by
  rintro I R u0 x1 x2 x3 x4 x5 hty hs0_ hR0 h
  subst hR0
  unfold d_M_tile_139 at h
  refine ax_iconst (v := 1) (q := 140) hX dc_M_tile_139 rfl (by decide) ?_
  refine ax_goto (tgt := 144) hX dc_M_tile_140 (by decide) ?_
  exact (e_M_tile_144 hX hF hS0 (rec45) (hrec45) I R u0 (x1) (x2) (x3) (x4) (x5) (1) hty hs0_ rfl h)
def d_M_tile_45 (S : ax_S) : Nat → ax_I → ax_R → Nat → Int32 → Int32 → Int32 → Int32 → Int32 → Option (Int32 × ax_I)
  | 0, _, _, _, _, _, _, _, _ => none
  | n + 1, I, R, u0, x1, x2, x3, x4, x5 =>
    (R u0 6).bind fun u15 =>
    (ax_ix S u15 (I u0 3)).bind fun j19 =>
    if (I u15 j19) ≤ x5 then
      d_M_tile_166 S  I R u0 (x1) (x2) (x3) (x4)
    else
      if (I u0 0) = 0 then
        (d_M_tileAt S I R u0 (x5)).bind fun r25 =>
        (R u0 8).bind fun u26 =>
        (ax_ix S u26 (r25)).bind fun j30 =>
        if (x1 + x3) ≤ (I u26 j30) then
          d_M_tile_139 S (d_M_tile_45 S  n) I R u0 (x1) (x2) (x3) (x4) (x5)
        else
          (R u0 8).bind fun u33 =>
          (ax_ix S u33 (r25)).bind fun j37 =>
          (R u0 10).bind fun u39 =>
          (ax_ix S u39 (r25)).bind fun j43 =>
          if ((I u33 j37) + (I u39 j43)) ≤ x1 then
            d_M_tile_139 S (d_M_tile_45 S  n) I R u0 (x1) (x2) (x3) (x4) (x5)
          else
            (R u0 9).bind fun u46 =>
            (ax_ix S u46 (r25)).bind fun j50 =>
            if (x2 + x4) ≤ (I u46 j50) then
              d_M_tile_139 S (d_M_tile_45 S  n) I R u0 (x1) (x2) (x3) (x4) (x5)
            else
              (R u0 9).bind fun u53 =>
              (ax_ix S u53 (r25)).bind fun j57 =>
              (R u0 11).bind fun u59 =>
              (ax_ix S u59 (r25)).bind fun j63 =>
              if x2 < ((I u53 j57) + (I u59 j63)) then
                d_M_tile_144 S (d_M_tile_45 S  n) I R u0 (x1) (x2) (x3) (x4) (x5) (0)
              else
                d_M_tile_139 S (d_M_tile_45 S  n) I R u0 (x1) (x2) (x3) (x4) (x5)
      else
        d_M_tile_166 S  I R u0 (x1) (x2) (x3) (x4)
set_option maxHeartbeats 1000000 in
theorem e_M_tile_45 {l : Launch} {X : ax_X} {S : ax_S} {L : ax_L} {R0 : ax_R} {out : Int32 × ax_I} (hX : ax_ok X l "LossFreeToolsModel" b_M_tile 8 (ax_rm 2 0 0)) (hF : ax_fin X (some .int) 0 0 (ax_of (ax_eq (some (.int out.1)) S out.2 R0 L))) (hS0 : ax_S0 X = S) : ∀ (n : Nat), ∀ (I : ax_I) (R : ax_R) (u0 : Nat) (x1 : Int32) (x2 : Int32) (x3 : Int32) (x4 : Int32) (x5 : Int32), ax_typ S R → (S u0 = some (.inl 5)) → R = R0 → d_M_tile_45 S  n I R u0 x1 x2 x3 x4 x5 = some out → ax_W X 8 45 [some (.ref u0), some (.int (x1)), some (.int (x2)), some (.int (x3)), some (.int (x4)), some (.int (x5)), none, none] [] S I R L 0 0 := by
  intro n
  induction n with
  | zero =>
    rintro I R u0 x1 x2 x3 x4 x5 hty hs0_ hR0 h
    cases h
  | succ n ih =>
    rintro I R u0 x1 x2 x3 x4 x5 hty hs0_ hR0 h
    subst hR0
    unfold d_M_tile_45 at h
    refine ax_iload (q := 47) hX dc_M_tile_45 rfl rfl ?_
    refine ax_aload_n (q := 48) hX dc_M_tile_47 rfl rfl rfl ?_
    obtain ⟨u15, hu16, h⟩ := ax_bd h
    obtain ⟨n18, hs17⟩ : ∃ n, S u15 = some (.inr (0, n)) := hty.1 _ _ _ _ hs0_ hu16
    refine ax_getR (q := 51) hX dc_M_tile_48 rfl fl_M_16 rfl hs0_ hu16 ?_
    refine ax_aload_n (q := 52) hX dc_M_tile_51 rfl rfl rfl ?_
    refine ax_getI (q := 55) hX dc_M_tile_52 rfl fl_M_71 rfl hs0_ ?_
    obtain ⟨j19, hj20, h⟩ := ax_bd h
    have hj20 := ax_ix_s hty hs17 hj20
    refine ax_iald (q := 56) hX j19 dc_M_tile_55 rfl hs17 hj20.1 hj20.2.1 hj20.2.2 ?_
    refine ax_icmp_ge (tgt := 166) (q := 59) hX dc_M_tile_56 rfl (by decide) (fun z21 => ?_) (fun z21 => ?_)
    · rw [if_pos z21] at h
      exact ax_weak (ls' := [some (.ref u0), some (.int (x1)), some (.int (x2)), some (.int (x3)), some (.int (x4)), none, none, none]) (ax_fewP_s _ _ (by repeat (first | exact trivial | (refine And.intro rfl ?_)))) (e_M_tile_166 hX hF hS0  I R u0 (x1) (x2) (x3) (x4) hty hs0_ rfl h)
    · rw [if_neg z21] at h
      refine ax_aload_n (q := 60) hX dc_M_tile_59 rfl rfl rfl ?_
      refine ax_getI (q := 63) hX dc_M_tile_60 rfl fl_M_68 rfl hs0_ ?_
      refine ax_if_ne (tgt := 166) (q := 66) hX dc_M_tile_63 rfl (by decide) (fun z22 => ?_) (fun z22 => ?_)
      · rw [if_neg z22] at h
        exact ax_weak (ls' := [some (.ref u0), some (.int (x1)), some (.int (x2)), some (.int (x3)), some (.int (x4)), none, none, none]) (ax_fewP_s _ _ (by repeat (first | exact trivial | (refine And.intro rfl ?_)))) (e_M_tile_166 hX hF hS0  I R u0 (x1) (x2) (x3) (x4) hty hs0_ rfl h)
      · rw [if_pos z22] at h
        refine ax_aload_n (q := 67) hX dc_M_tile_66 rfl rfl rfl ?_
        refine ax_iload (q := 69) hX dc_M_tile_67 rfl rfl ?_
        obtain ⟨r25, hr23, h⟩ := ax_bd h
        refine ax_kV (vs := [.int (x5)]) (rest := []) (q := 72) hX dc_M_tile_69 rfl mt_M_tileAt wl_M_92 wi_M_tileAt ws_M_tileAt hs0_ rfl (c_M_tileAt l hty hs0_ hr23) rfl (by decide) rfl (Nat.le_of_ble_eq_true rfl) rfl rfl (by decide) (by decide) rfl ?_
        refine ax_istore (ls' := [some (.ref u0), some (.int (x1)), some (.int (x2)), some (.int (x3)), some (.int (x4)), some (.int (x5)), some (.int (r25)), none]) (q := 74) hX dc_M_tile_72 rfl (by decide) rfl ?_
        refine ax_iload_n (q := 75) hX dc_M_tile_74 rfl rfl rfl ?_
        refine ax_iload_n (q := 76) hX dc_M_tile_75 rfl rfl rfl ?_
        refine ax_iadd (q := 77) hX dc_M_tile_76 rfl ?_
        refine ax_aload_n (q := 78) hX dc_M_tile_77 rfl rfl rfl ?_
        obtain ⟨u26, hu27, h⟩ := ax_bd h
        obtain ⟨n29, hs28⟩ : ∃ n, S u26 = some (.inr (0, n)) := hty.1 _ _ _ _ hs0_ hu27
        refine ax_getR (q := 81) hX dc_M_tile_78 rfl fl_M_22 rfl hs0_ hu27 ?_
        refine ax_iload (q := 83) hX dc_M_tile_81 rfl rfl ?_
        obtain ⟨j30, hj31, h⟩ := ax_bd h
        have hj31 := ax_ix_s hty hs28 hj31
        refine ax_iald (q := 84) hX j30 dc_M_tile_83 rfl hs28 hj31.1 hj31.2.1 hj31.2.2 ?_
        refine ax_icmp_le (tgt := 139) (q := 87) hX dc_M_tile_84 rfl (by decide) (fun z32 => ?_) (fun z32 => ?_)
        · rw [if_pos z32] at h
          exact ax_weak (ls' := [some (.ref u0), some (.int (x1)), some (.int (x2)), some (.int (x3)), some (.int (x4)), some (.int (x5)), none, none]) (ax_fewP_s _ _ (by repeat (first | exact trivial | (refine And.intro rfl ?_)))) (e_M_tile_139 hX hF hS0 (d_M_tile_45 S  n) (ih) I R u0 (x1) (x2) (x3) (x4) (x5) hty hs0_ rfl h)
        · rw [if_neg z32] at h
          refine ax_aload_n (q := 88) hX dc_M_tile_87 rfl rfl rfl ?_
          obtain ⟨u33, hu34, h⟩ := ax_bd h
          obtain ⟨n36, hs35⟩ : ∃ n, S u33 = some (.inr (0, n)) := hty.1 _ _ _ _ hs0_ hu34
          refine ax_getR (q := 91) hX dc_M_tile_88 rfl fl_M_22 rfl hs0_ hu34 ?_
          refine ax_iload (q := 93) hX dc_M_tile_91 rfl rfl ?_
          obtain ⟨j37, hj38, h⟩ := ax_bd h
          have hj38 := ax_ix_s hty hs35 hj38
          refine ax_iald (q := 94) hX j37 dc_M_tile_93 rfl hs35 hj38.1 hj38.2.1 hj38.2.2 ?_
          refine ax_aload_n (q := 95) hX dc_M_tile_94 rfl rfl rfl ?_
          obtain ⟨u39, hu40, h⟩ := ax_bd h
          obtain ⟨n42, hs41⟩ : ∃ n, S u39 = some (.inr (0, n)) := hty.1 _ _ _ _ hs0_ hu40
          refine ax_getR (q := 98) hX dc_M_tile_95 rfl fl_M_28 rfl hs0_ hu40 ?_
          refine ax_iload (q := 100) hX dc_M_tile_98 rfl rfl ?_
          obtain ⟨j43, hj44, h⟩ := ax_bd h
          have hj44 := ax_ix_s hty hs41 hj44
          refine ax_iald (q := 101) hX j43 dc_M_tile_100 rfl hs41 hj44.1 hj44.2.1 hj44.2.2 ?_
          refine ax_iadd (q := 102) hX dc_M_tile_101 rfl ?_
          refine ax_iload_n (q := 103) hX dc_M_tile_102 rfl rfl rfl ?_
          refine ax_icmp_le (tgt := 139) (q := 106) hX dc_M_tile_103 rfl (by decide) (fun z45 => ?_) (fun z45 => ?_)
          · rw [if_pos z45] at h
            exact ax_weak (ls' := [some (.ref u0), some (.int (x1)), some (.int (x2)), some (.int (x3)), some (.int (x4)), some (.int (x5)), none, none]) (ax_fewP_s _ _ (by repeat (first | exact trivial | (refine And.intro rfl ?_)))) (e_M_tile_139 hX hF hS0 (d_M_tile_45 S  n) (ih) I R u0 (x1) (x2) (x3) (x4) (x5) hty hs0_ rfl h)
          · rw [if_neg z45] at h
            refine ax_iload_n (q := 107) hX dc_M_tile_106 rfl rfl rfl ?_
            refine ax_iload (q := 109) hX dc_M_tile_107 rfl rfl ?_
            refine ax_iadd (q := 110) hX dc_M_tile_109 rfl ?_
            refine ax_aload_n (q := 111) hX dc_M_tile_110 rfl rfl rfl ?_
            obtain ⟨u46, hu47, h⟩ := ax_bd h
            obtain ⟨n49, hs48⟩ : ∃ n, S u46 = some (.inr (0, n)) := hty.1 _ _ _ _ hs0_ hu47
            refine ax_getR (q := 114) hX dc_M_tile_111 rfl fl_M_25 rfl hs0_ hu47 ?_
            refine ax_iload (q := 116) hX dc_M_tile_114 rfl rfl ?_
            obtain ⟨j50, hj51, h⟩ := ax_bd h
            have hj51 := ax_ix_s hty hs48 hj51
            refine ax_iald (q := 117) hX j50 dc_M_tile_116 rfl hs48 hj51.1 hj51.2.1 hj51.2.2 ?_
            refine ax_icmp_le (tgt := 139) (q := 120) hX dc_M_tile_117 rfl (by decide) (fun z52 => ?_) (fun z52 => ?_)
            · rw [if_pos z52] at h
              exact ax_weak (ls' := [some (.ref u0), some (.int (x1)), some (.int (x2)), some (.int (x3)), some (.int (x4)), some (.int (x5)), none, none]) (ax_fewP_s _ _ (by repeat (first | exact trivial | (refine And.intro rfl ?_)))) (e_M_tile_139 hX hF hS0 (d_M_tile_45 S  n) (ih) I R u0 (x1) (x2) (x3) (x4) (x5) hty hs0_ rfl h)
            · rw [if_neg z52] at h
              refine ax_aload_n (q := 121) hX dc_M_tile_120 rfl rfl rfl ?_
              obtain ⟨u53, hu54, h⟩ := ax_bd h
              obtain ⟨n56, hs55⟩ : ∃ n, S u53 = some (.inr (0, n)) := hty.1 _ _ _ _ hs0_ hu54
              refine ax_getR (q := 124) hX dc_M_tile_121 rfl fl_M_25 rfl hs0_ hu54 ?_
              refine ax_iload (q := 126) hX dc_M_tile_124 rfl rfl ?_
              obtain ⟨j57, hj58, h⟩ := ax_bd h
              have hj58 := ax_ix_s hty hs55 hj58
              refine ax_iald (q := 127) hX j57 dc_M_tile_126 rfl hs55 hj58.1 hj58.2.1 hj58.2.2 ?_
              refine ax_aload_n (q := 128) hX dc_M_tile_127 rfl rfl rfl ?_
              obtain ⟨u59, hu60, h⟩ := ax_bd h
              obtain ⟨n62, hs61⟩ : ∃ n, S u59 = some (.inr (0, n)) := hty.1 _ _ _ _ hs0_ hu60
              refine ax_getR (q := 131) hX dc_M_tile_128 rfl fl_M_31 rfl hs0_ hu60 ?_
              refine ax_iload (q := 133) hX dc_M_tile_131 rfl rfl ?_
              obtain ⟨j63, hj64, h⟩ := ax_bd h
              have hj64 := ax_ix_s hty hs61 hj64
              refine ax_iald (q := 134) hX j63 dc_M_tile_133 rfl hs61 hj64.1 hj64.2.1 hj64.2.2 ?_
              refine ax_iadd (q := 135) hX dc_M_tile_134 rfl ?_
              refine ax_iload_n (q := 136) hX dc_M_tile_135 rfl rfl rfl ?_
              refine ax_icmp_gt (tgt := 143) (q := 139) hX dc_M_tile_136 rfl (by decide) (fun z65 => ?_) (fun z65 => ?_)
              · rw [if_pos z65] at h
                refine ax_iconst (v := 0) (q := 144) hX dc_M_tile_143 rfl (by decide) ?_
                exact ax_weak (ls' := [some (.ref u0), some (.int (x1)), some (.int (x2)), some (.int (x3)), some (.int (x4)), some (.int (x5)), none, none]) (ax_fewP_s _ _ (by repeat (first | exact trivial | (refine And.intro rfl ?_)))) (e_M_tile_144 hX hF hS0 (d_M_tile_45 S  n) (ih) I R u0 (x1) (x2) (x3) (x4) (x5) (0) hty hs0_ rfl h)
              · rw [if_neg z65] at h
                exact ax_weak (ls' := [some (.ref u0), some (.int (x1)), some (.int (x2)), some (.int (x3)), some (.int (x4)), some (.int (x5)), none, none]) (ax_fewP_s _ _ (by repeat (first | exact trivial | (refine And.intro rfl ?_)))) (e_M_tile_139 hX hF hS0 (d_M_tile_45 S  n) (ih) I R u0 (x1) (x2) (x3) (x4) (x5) hty hs0_ rfl h)
def d_M_tile_39 (S : ax_S) (I : ax_I) (R : ax_R) (u0 : Nat) (x1 : Int32) (x2 : Int32) (x3 : Int32) (x4 : Int32) (y0 : Int32) (w1 : Nat) : Option (Int32 × ax_I) :=
  (some (ax_up I w1 0 (y0))).bind fun I13 =>
  d_M_tile_45 S  5000 I13 R u0 (x1) (x2) (x3) (x4) (0)
set_option maxHeartbeats 1000000 in
theorem e_M_tile_39 {l : Launch} {X : ax_X} {S : ax_S} {L : ax_L} {R0 : ax_R} {out : Int32 × ax_I} (hX : ax_ok X l "LossFreeToolsModel" b_M_tile 8 (ax_rm 2 0 0)) (hF : ax_fin X (some .int) 0 0 (ax_of (ax_eq (some (.int out.1)) S out.2 R0 L))) (hS0 : ax_S0 X = S) : ∀ (I : ax_I) (R : ax_R) (u0 : Nat) (x1 : Int32) (x2 : Int32) (x3 : Int32) (x4 : Int32) (y0 : Int32) (w1 : Nat), ax_typ S R → (S u0 = some (.inl 5)) → (S w1 = some (.inl 5)) → R = R0 → d_M_tile_39 S  I R u0 x1 x2 x3 x4 y0 w1 = some out → ax_W X 8 39 [some (.ref u0), some (.int (x1)), some (.int (x2)), some (.int (x3)), some (.int (x4)), none, none, none] [.int (y0), .ref w1] S I R L 0 0 := by
  rintro I R u0 x1 x2 x3 x4 y0 w1 hty hs0_ hw1_ hR0 h
  subst hR0
  unfold d_M_tile_39 at h
  obtain ⟨I13, e14, h⟩ := ax_bs h
  refine ax_putI (q := 42) hX dc_M_tile_39 rfl fl_M_68 rfl hw1_ (fun z => by cases z) rfl rfl e14 ?_
  refine ax_iconst (v := 0) (q := 43) hX dc_M_tile_42 rfl (by decide) ?_
  refine ax_istore (ls' := [some (.ref u0), some (.int (x1)), some (.int (x2)), some (.int (x3)), some (.int (x4)), some (.int (0)), none, none]) (q := 45) hX dc_M_tile_43 rfl (by decide) rfl ?_
  exact (e_M_tile_45 hX hF hS0  5000 I13 R u0 (x1) (x2) (x3) (x4) (0) hty hs0_ rfl h)
def d_M_tile_34 (S : ax_S) (I : ax_I) (R : ax_R) (u0 : Nat) (x1 : Int32) (x2 : Int32) (x3 : Int32) (x4 : Int32) (w0 : Nat) : Option (Int32 × ax_I) :=
  d_M_tile_39 S  I R u0 (x1) (x2) (x3) (x4) (1) w0
set_option maxHeartbeats 1000000 in
theorem e_M_tile_34 {l : Launch} {X : ax_X} {S : ax_S} {L : ax_L} {R0 : ax_R} {out : Int32 × ax_I} (hX : ax_ok X l "LossFreeToolsModel" b_M_tile 8 (ax_rm 2 0 0)) (hF : ax_fin X (some .int) 0 0 (ax_of (ax_eq (some (.int out.1)) S out.2 R0 L))) (hS0 : ax_S0 X = S) : ∀ (I : ax_I) (R : ax_R) (u0 : Nat) (x1 : Int32) (x2 : Int32) (x3 : Int32) (x4 : Int32) (w0 : Nat), ax_typ S R → (S u0 = some (.inl 5)) → (S w0 = some (.inl 5)) → R = R0 → d_M_tile_34 S  I R u0 x1 x2 x3 x4 w0 = some out → ax_W X 8 34 [some (.ref u0), some (.int (x1)), some (.int (x2)), some (.int (x3)), some (.int (x4)), none, none, none] [.ref w0] S I R L 0 0 := by
  rintro I R u0 x1 x2 x3 x4 w0 hty hs0_ hw0_ hR0 h
  subst hR0
  unfold d_M_tile_34 at h
  refine ax_iconst (v := 1) (q := 35) hX dc_M_tile_34 rfl (by decide) ?_
  refine ax_goto (tgt := 39) hX dc_M_tile_35 (by decide) ?_
  exact (e_M_tile_39 hX hF hS0  I R u0 (x1) (x2) (x3) (x4) (1) w0 hty hs0_ hw0_ rfl h)
def d_M_tile (S : ax_S) (I : ax_I) (R : ax_R) (u0 : Nat) (x1 : Int32) (x2 : Int32) (x3 : Int32) (x4 : Int32) : Option (Int32 × ax_I) :=
  (d_M_in S I R (x3) (1) (64)).bind fun r3 =>
  if (ax_b r3) = 0 then
    d_M_tile_34 S  I R u0 (x1) (x2) (x3) (x4) u0
  else
    (d_M_in S I R (x4) (1) (64)).bind fun r7 =>
    if (ax_b r7) = 0 then
      d_M_tile_34 S  I R u0 (x1) (x2) (x3) (x4) u0
    else
      (d_M_lies S I R u0 (x1) (x2) (x3) (x4)).bind fun r11 =>
      if (ax_b r11) = 0 then
        d_M_tile_34 S  I R u0 (x1) (x2) (x3) (x4) u0
      else
        d_M_tile_39 S  I R u0 (x1) (x2) (x3) (x4) (0) u0
set_option maxHeartbeats 1000000 in
theorem c_M_tile (l : Launch) {S : ax_S} {I : ax_I} {R : ax_R} {L : ax_L} {u0 : Nat} {x1 : Int32} {x2 : Int32} {x3 : Int32} {x4 : Int32} {out : Int32 × ax_I} (hty : ax_typ S R) (hs0 : S u0 = some (.inl 5)) (h : d_M_tile S I R u0 x1 x2 x3 x4 = some out) : ax_Met l y_M_tile b_M_tile 8 (some .int) (ax_rm 2 0 0) [.ref u0, .int x1, .int x2, .int x3, .int x4] S I R L (ax_eq (some (.int out.1)) S out.2 R L) := by
  refine ax_enter (own := "LossFreeToolsModel") (by decide +kernel) rfl (ax_cats rfl) (Nat.le_of_ble_eq_true rfl) (fun X hX hF _ hS0 => ?_)
  show ax_W X 8 0 [some (.ref u0), some (.int (x1)), some (.int (x2)), some (.int (x3)), some (.int (x4)), none, none, none] [] S I R L 0 0
  unfold d_M_tile at h
  refine ax_aload_n (q := 1) hX dc_M_tile_0 rfl rfl rfl ?_
  refine ax_iload_n (q := 2) hX dc_M_tile_1 rfl rfl rfl ?_
  refine ax_iconst (v := 1) (q := 3) hX dc_M_tile_2 rfl (by decide) ?_
  refine ax_bipush (v := 64) (q := 5) hX dc_M_tile_3 rfl (by decide) ?_
  obtain ⟨r3, hr1, h⟩ := ax_bd h
  refine ax_kS (vs := [.int (x3), .int (1), .int (64)]) (rest := [.ref u0]) (q := 8) hX dc_M_tile_5 rfl mt_M_in wl_M_84 wt_M_in (c_M_in l hty  hr1) rfl (by decide) rfl (Nat.le_of_ble_eq_true rfl) rfl rfl (by decide) (by decide) rfl ?_
  refine ax_if_eq (tgt := 34) (q := 11) hX dc_M_tile_8 rfl (by decide) (fun z4 => ?_) (fun z4 => ?_)
  · rw [if_pos z4] at h
    exact (e_M_tile_34 hX hF hS0  I R u0 (x1) (x2) (x3) (x4) u0 hty hs0 hs0 rfl h)
  · rw [if_neg z4] at h
    refine ax_iload (q := 13) hX dc_M_tile_11 rfl rfl ?_
    refine ax_iconst (v := 1) (q := 14) hX dc_M_tile_13 rfl (by decide) ?_
    refine ax_bipush (v := 64) (q := 16) hX dc_M_tile_14 rfl (by decide) ?_
    obtain ⟨r7, hr5, h⟩ := ax_bd h
    refine ax_kS (vs := [.int (x4), .int (1), .int (64)]) (rest := [.ref u0]) (q := 19) hX dc_M_tile_16 rfl mt_M_in wl_M_84 wt_M_in (c_M_in l hty  hr5) rfl (by decide) rfl (Nat.le_of_ble_eq_true rfl) rfl rfl (by decide) (by decide) rfl ?_
    refine ax_if_eq (tgt := 34) (q := 22) hX dc_M_tile_19 rfl (by decide) (fun z8 => ?_) (fun z8 => ?_)
    · rw [if_pos z8] at h
      exact (e_M_tile_34 hX hF hS0  I R u0 (x1) (x2) (x3) (x4) u0 hty hs0 hs0 rfl h)
    · rw [if_neg z8] at h
      refine ax_aload_n (q := 23) hX dc_M_tile_22 rfl rfl rfl ?_
      refine ax_iload_n (q := 24) hX dc_M_tile_23 rfl rfl rfl ?_
      refine ax_iload_n (q := 25) hX dc_M_tile_24 rfl rfl rfl ?_
      refine ax_iload_n (q := 26) hX dc_M_tile_25 rfl rfl rfl ?_
      refine ax_iload (q := 28) hX dc_M_tile_26 rfl rfl ?_
      obtain ⟨r11, hr9, h⟩ := ax_bd h
      refine ax_kV (vs := [.int (x1), .int (x2), .int (x3), .int (x4)]) (rest := [.ref u0]) (q := 31) hX dc_M_tile_28 rfl mt_M_lies wl_M_88 wi_M_lies ws_M_lies hs0 rfl (c_M_lies l hty hs0 hr9) rfl (by decide) rfl (Nat.le_of_ble_eq_true rfl) rfl rfl (by decide) (by decide) rfl ?_
      refine ax_if_ne (tgt := 38) (q := 34) hX dc_M_tile_31 rfl (by decide) (fun z12 => ?_) (fun z12 => ?_)
      · rw [if_neg z12] at h
        refine ax_iconst (v := 0) (q := 39) hX dc_M_tile_38 rfl (by decide) ?_
        exact (e_M_tile_39 hX hF hS0  I R u0 (x1) (x2) (x3) (x4) (0) u0 hty hs0 hs0 rfl h)
      · rw [if_pos z12] at h
        exact (e_M_tile_34 hX hF hS0  I R u0 (x1) (x2) (x3) (x4) u0 hty hs0 hs0 rfl h)
def d_M_fits_97 (S : ax_S) (rec5 : ax_I → ax_R → Nat → Int32 → Int32 → Int32 → Int32 → Option (Bool)) (I : ax_I) (R : ax_R) (u0 : Nat) (x1 : Int32) (x2 : Int32) (x4 : Int32) (y0 : Int32) : Option (Bool) :=
  rec5 I R u0 (x1) (x2) (y0) (x4 + 1)
set_option maxHeartbeats 1000000 in
theorem e_M_fits_97 {l : Launch} {X : ax_X} {S : ax_S} {L : ax_L} {I0 : ax_I} {R0 : ax_R} {out : Bool} (hX : ax_ok X l "LossFreeToolsModel" b_M_fits 8 (ax_rm 2 0 0)) (hF : ax_fin X (some .boolean) 0 0 (ax_of (ax_eq (some (.int (ax_b out))) S I0 R0 L))) (hS0 : ax_S0 X = S) (rec5 : ax_I → ax_R → Nat → Int32 → Int32 → Int32 → Int32 → Option (Bool)) (hrec5 : ∀ (I : ax_I) (R : ax_R) (u0 : Nat) (x1 : Int32) (x2 : Int32) (x3 : Int32) (x4 : Int32), ax_typ S R → (S u0 = some (.inl 5)) → I = I0 → R = R0 → rec5 I R u0 x1 x2 x3 x4 = some out → ax_W X 8 5 [some (.ref u0), some (.int (x1)), some (.int (x2)), some (.int (x3)), some (.int (x4)), none, none, none] [] S I R L 0 0) : ∀ (I : ax_I) (R : ax_R) (u0 : Nat) (x1 : Int32) (x2 : Int32) (x4 : Int32) (y0 : Int32), ax_typ S R → (S u0 = some (.inl 5)) → I = I0 → R = R0 → d_M_fits_97 S rec5 I R u0 x1 x2 x4 y0 = some out → ax_W X 8 97 [some (.ref u0), some (.int (x1)), some (.int (x2)), none, some (.int (x4)), none, none, none] [.int (y0)] S I R L 0 0 := by
  rintro I R u0 x1 x2 x4 y0 hty hs0_ hI0 hR0 h
  subst hI0
  subst hR0
  unfold d_M_fits_97 at h
  refine ax_istore_n (ls' := [some (.ref u0), some (.int (x1)), some (.int (x2)), some (.int (y0)), some (.int (x4)), none, none, none]) (q := 98) hX dc_M_fits_97 rfl rfl (by decide) rfl ?_
  refine ax_iinc (v := x4 + 1) (ls' := [some (.ref u0), some (.int (x1)), some (.int (x2)), some (.int (y0)), some (.int (x4 + 1)), none, none, none]) (q := 101) hX dc_M_fits_98 rfl rfl rfl (by decide) rfl ?_
  refine ax_goto (tgt := 5) hX dc_M_fits_101 (by decide) ?_
  exact (hrec5 I R u0 (x1) (x2) (y0) (x4 + 1) hty hs0_ rfl rfl h)
def d_M_fits_96 (S : ax_S) (rec5 : ax_I → ax_R → Nat → Int32 → Int32 → Int32 → Int32 → Option (Bool)) (I : ax_I) (R : ax_R) (u0 : Nat) (x1 : Int32) (x2 : Int32) (x4 : Int32) : Option (Bool) :=
  d_M_fits_97 S (rec5) I R u0 (x1) (x2) (x4) (0)
set_option maxHeartbeats 1000000 in
theorem e_M_fits_96 {l : Launch} {X : ax_X} {S : ax_S} {L : ax_L} {I0 : ax_I} {R0 : ax_R} {out : Bool} (hX : ax_ok X l "LossFreeToolsModel" b_M_fits 8 (ax_rm 2 0 0)) (hF : ax_fin X (some .boolean) 0 0 (ax_of (ax_eq (some (.int (ax_b out))) S I0 R0 L))) (hS0 : ax_S0 X = S) (rec5 : ax_I → ax_R → Nat → Int32 → Int32 → Int32 → Int32 → Option (Bool)) (hrec5 : ∀ (I : ax_I) (R : ax_R) (u0 : Nat) (x1 : Int32) (x2 : Int32) (x3 : Int32) (x4 : Int32), ax_typ S R → (S u0 = some (.inl 5)) → I = I0 → R = R0 → rec5 I R u0 x1 x2 x3 x4 = some out → ax_W X 8 5 [some (.ref u0), some (.int (x1)), some (.int (x2)), some (.int (x3)), some (.int (x4)), none, none, none] [] S I R L 0 0) : ∀ (I : ax_I) (R : ax_R) (u0 : Nat) (x1 : Int32) (x2 : Int32) (x4 : Int32), ax_typ S R → (S u0 = some (.inl 5)) → I = I0 → R = R0 → d_M_fits_96 S rec5 I R u0 x1 x2 x4 = some out → ax_W X 8 96 [some (.ref u0), some (.int (x1)), some (.int (x2)), none, some (.int (x4)), none, none, none] [] S I R L 0 0 := by
  rintro I R u0 x1 x2 x4 hty hs0_ hI0 hR0 h
  subst hI0
  subst hR0
  unfold d_M_fits_96 at h
  refine ax_iconst (v := 0) (q := 97) hX dc_M_fits_96 rfl (by decide) ?_
  exact (e_M_fits_97 hX hF hS0 (rec5) (hrec5) I R u0 (x1) (x2) (x4) (0) hty hs0_ rfl rfl h)
def d_M_fits_92 (S : ax_S) (rec5 : ax_I → ax_R → Nat → Int32 → Int32 → Int32 → Int32 → Option (Bool)) (I : ax_I) (R : ax_R) (u0 : Nat) (x1 : Int32) (x2 : Int32) (x4 : Int32) : Option (Bool) :=
  d_M_fits_97 S (rec5) I R u0 (x1) (x2) (x4) (1)
set_option maxHeartbeats 1000000 in
theorem e_M_fits_92 {l : Launch} {X : ax_X} {S : ax_S} {L : ax_L} {I0 : ax_I} {R0 : ax_R} {out : Bool} (hX : ax_ok X l "LossFreeToolsModel" b_M_fits 8 (ax_rm 2 0 0)) (hF : ax_fin X (some .boolean) 0 0 (ax_of (ax_eq (some (.int (ax_b out))) S I0 R0 L))) (hS0 : ax_S0 X = S) (rec5 : ax_I → ax_R → Nat → Int32 → Int32 → Int32 → Int32 → Option (Bool)) (hrec5 : ∀ (I : ax_I) (R : ax_R) (u0 : Nat) (x1 : Int32) (x2 : Int32) (x3 : Int32) (x4 : Int32), ax_typ S R → (S u0 = some (.inl 5)) → I = I0 → R = R0 → rec5 I R u0 x1 x2 x3 x4 = some out → ax_W X 8 5 [some (.ref u0), some (.int (x1)), some (.int (x2)), some (.int (x3)), some (.int (x4)), none, none, none] [] S I R L 0 0) : ∀ (I : ax_I) (R : ax_R) (u0 : Nat) (x1 : Int32) (x2 : Int32) (x4 : Int32), ax_typ S R → (S u0 = some (.inl 5)) → I = I0 → R = R0 → d_M_fits_92 S rec5 I R u0 x1 x2 x4 = some out → ax_W X 8 92 [some (.ref u0), some (.int (x1)), some (.int (x2)), none, some (.int (x4)), none, none, none] [] S I R L 0 0 := by
  rintro I R u0 x1 x2 x4 hty hs0_ hI0 hR0 h
  subst hI0
  subst hR0
  unfold d_M_fits_92 at h
  refine ax_iconst (v := 1) (q := 93) hX dc_M_fits_92 rfl (by decide) ?_
  refine ax_goto (tgt := 97) hX dc_M_fits_93 (by decide) ?_
  exact (e_M_fits_97 hX hF hS0 (rec5) (hrec5) I R u0 (x1) (x2) (x4) (1) hty hs0_ rfl rfl h)
def d_M_fits_73 (S : ax_S) (rec5 : ax_I → ax_R → Nat → Int32 → Int32 → Int32 → Int32 → Option (Bool)) (I : ax_I) (R : ax_R) (u0 : Nat) (x1 : Int32) (x2 : Int32) (x3 : Int32) (x4 : Int32) (x6 : Int32) (y0 : Int32) (y1 : Int32) : Option (Bool) :=
  if x3 = 0 then
    d_M_fits_96 S (rec5) I R u0 (x1) (x2) (x4)
  else
    if (y1 + y0) ≤ x2 then
      d_M_fits_92 S (rec5) I R u0 (x1) (x2) (x4)
    else
      if x6 < x2 then
        d_M_fits_96 S (rec5) I R u0 (x1) (x2) (x4)
      else
        d_M_fits_92 S (rec5) I R u0 (x1) (x2) (x4)
set_option maxHeartbeats 1000000 in
theorem e_M_fits_73 {l : Launch} {X : ax_X} {S : ax_S} {L : ax_L} {I0 : ax_I} {R0 : ax_R} {out : Bool} (hX : ax_ok X l "LossFreeToolsModel" b_M_fits 8 (ax_rm 2 0 0)) (hF : ax_fin X (some .boolean) 0 0 (ax_of (ax_eq (some (.int (ax_b out))) S I0 R0 L))) (hS0 : ax_S0 X = S) (rec5 : ax_I → ax_R → Nat → Int32 → Int32 → Int32 → Int32 → Option (Bool)) (hrec5 : ∀ (I : ax_I) (R : ax_R) (u0 : Nat) (x1 : Int32) (x2 : Int32) (x3 : Int32) (x4 : Int32), ax_typ S R → (S u0 = some (.inl 5)) → I = I0 → R = R0 → rec5 I R u0 x1 x2 x3 x4 = some out → ax_W X 8 5 [some (.ref u0), some (.int (x1)), some (.int (x2)), some (.int (x3)), some (.int (x4)), none, none, none] [] S I R L 0 0) : ∀ (I : ax_I) (R : ax_R) (u0 : Nat) (x1 : Int32) (x2 : Int32) (x3 : Int32) (x4 : Int32) (x6 : Int32) (y0 : Int32) (y1 : Int32), ax_typ S R → (S u0 = some (.inl 5)) → I = I0 → R = R0 → d_M_fits_73 S rec5 I R u0 x1 x2 x3 x4 x6 y0 y1 = some out → ax_W X 8 73 [some (.ref u0), some (.int (x1)), some (.int (x2)), some (.int (x3)), some (.int (x4)), none, some (.int (x6)), none] [.int (y0), .int (y1)] S I R L 0 0 := by
  rintro I R u0 x1 x2 x3 x4 x6 y0 y1 hty hs0_ hI0 hR0 h
  subst hI0
  subst hR0
  unfold d_M_fits_73 at h
  refine ax_iadd (q := 74) hX dc_M_fits_73 rfl ?_
  refine ax_istore (ls' := [some (.ref u0), some (.int (x1)), some (.int (x2)), some (.int (x3)), some (.int (x4)), none, some (.int (x6)), some (.int (y1 + y0))]) (q := 76) hX dc_M_fits_74 rfl (by decide) rfl ?_
  refine ax_iload_n (q := 77) hX dc_M_fits_76 rfl rfl rfl ?_
  refine ax_if_eq (tgt := 96) (q := 80) hX dc_M_fits_77 rfl (by decide) (fun z39 => ?_) (fun z39 => ?_)
  · rw [if_pos z39] at h
    exact ax_weak (ls' := [some (.ref u0), some (.int (x1)), some (.int (x2)), none, some (.int (x4)), none, none, none]) (ax_fewP_s _ _ (by repeat (first | exact trivial | (refine And.intro rfl ?_)))) (e_M_fits_96 hX hF hS0 (rec5) (hrec5) I R u0 (x1) (x2) (x4) hty hs0_ rfl rfl h)
  · rw [if_neg z39] at h
    refine ax_iload (q := 82) hX dc_M_fits_80 rfl rfl ?_
    refine ax_iload_n (q := 83) hX dc_M_fits_82 rfl rfl rfl ?_
    refine ax_icmp_le (tgt := 92) (q := 86) hX dc_M_fits_83 rfl (by decide) (fun z40 => ?_) (fun z40 => ?_)
    · rw [if_pos z40] at h
      exact ax_weak (ls' := [some (.ref u0), some (.int (x1)), some (.int (x2)), none, some (.int (x4)), none, none, none]) (ax_fewP_s _ _ (by repeat (first | exact trivial | (refine And.intro rfl ?_)))) (e_M_fits_92 hX hF hS0 (rec5) (hrec5) I R u0 (x1) (x2) (x4) hty hs0_ rfl rfl h)
    · rw [if_neg z40] at h
      refine ax_iload (q := 88) hX dc_M_fits_86 rfl rfl ?_
      refine ax_iload_n (q := 89) hX dc_M_fits_88 rfl rfl rfl ?_
      refine ax_icmp_lt (tgt := 96) (q := 92) hX dc_M_fits_89 rfl (by decide) (fun z41 => ?_) (fun z41 => ?_)
      · rw [if_pos z41] at h
        exact ax_weak (ls' := [some (.ref u0), some (.int (x1)), some (.int (x2)), none, some (.int (x4)), none, none, none]) (ax_fewP_s _ _ (by repeat (first | exact trivial | (refine And.intro rfl ?_)))) (e_M_fits_96 hX hF hS0 (rec5) (hrec5) I R u0 (x1) (x2) (x4) hty hs0_ rfl rfl h)
      · rw [if_neg z41] at h
        exact ax_weak (ls' := [some (.ref u0), some (.int (x1)), some (.int (x2)), none, some (.int (x4)), none, none, none]) (ax_fewP_s _ _ (by repeat (first | exact trivial | (refine And.intro rfl ?_)))) (e_M_fits_92 hX hF hS0 (rec5) (hrec5) I R u0 (x1) (x2) (x4) hty hs0_ rfl rfl h)
def d_M_fits_48 (S : ax_S) (rec5 : ax_I → ax_R → Nat → Int32 → Int32 → Int32 → Int32 → Option (Bool)) (I : ax_I) (R : ax_R) (u0 : Nat) (x1 : Int32) (x2 : Int32) (x3 : Int32) (x4 : Int32) (x5 : Int32) (y0 : Int32) : Option (Bool) :=
  if x1 = 0 then
    (R u0 11).bind fun u27 =>
    (ax_ix S u27 (x5)).bind fun j31 =>
    d_M_fits_73 S (rec5) I R u0 (x1) (x2) (x3) (x4) (y0) (I u27 j31) (y0)
  else
    (R u0 10).bind fun u33 =>
    (ax_ix S u33 (x5)).bind fun j37 =>
    d_M_fits_73 S (rec5) I R u0 (x1) (x2) (x3) (x4) (y0) (I u33 j37) (y0)
set_option maxHeartbeats 1000000 in
theorem e_M_fits_48 {l : Launch} {X : ax_X} {S : ax_S} {L : ax_L} {I0 : ax_I} {R0 : ax_R} {out : Bool} (hX : ax_ok X l "LossFreeToolsModel" b_M_fits 8 (ax_rm 2 0 0)) (hF : ax_fin X (some .boolean) 0 0 (ax_of (ax_eq (some (.int (ax_b out))) S I0 R0 L))) (hS0 : ax_S0 X = S) (rec5 : ax_I → ax_R → Nat → Int32 → Int32 → Int32 → Int32 → Option (Bool)) (hrec5 : ∀ (I : ax_I) (R : ax_R) (u0 : Nat) (x1 : Int32) (x2 : Int32) (x3 : Int32) (x4 : Int32), ax_typ S R → (S u0 = some (.inl 5)) → I = I0 → R = R0 → rec5 I R u0 x1 x2 x3 x4 = some out → ax_W X 8 5 [some (.ref u0), some (.int (x1)), some (.int (x2)), some (.int (x3)), some (.int (x4)), none, none, none] [] S I R L 0 0) : ∀ (I : ax_I) (R : ax_R) (u0 : Nat) (x1 : Int32) (x2 : Int32) (x3 : Int32) (x4 : Int32) (x5 : Int32) (y0 : Int32), ax_typ S R → (S u0 = some (.inl 5)) → I = I0 → R = R0 → d_M_fits_48 S rec5 I R u0 x1 x2 x3 x4 x5 y0 = some out → ax_W X 8 48 [some (.ref u0), some (.int (x1)), some (.int (x2)), some (.int (x3)), some (.int (x4)), some (.int (x5)), none, none] [.int (y0)] S I R L 0 0 := by
  rintro I R u0 x1 x2 x3 x4 x5 y0 hty hs0_ hI0 hR0 h
  subst hI0
  subst hR0
  unfold d_M_fits_48 at h
  refine ax_istore (ls' := [some (.ref u0), some (.int (x1)), some (.int (x2)), some (.int (x3)), some (.int (x4)), some (.int (x5)), some (.int (y0)), none]) (q := 50) hX dc_M_fits_48 rfl (by decide) rfl ?_
  refine ax_iload (q := 52) hX dc_M_fits_50 rfl rfl ?_
  refine ax_iload_n (q := 53) hX dc_M_fits_52 rfl rfl rfl ?_
  refine ax_if_eq (tgt := 66) (q := 56) hX dc_M_fits_53 rfl (by decide) (fun z26 => ?_) (fun z26 => ?_)
  · rw [if_pos z26] at h
    refine ax_aload_n (q := 67) hX dc_M_fits_66 rfl rfl rfl ?_
    obtain ⟨u27, hu28, h⟩ := ax_bd h
    obtain ⟨n30, hs29⟩ : ∃ n, S u27 = some (.inr (0, n)) := hty.1 _ _ _ _ hs0_ hu28
    refine ax_getR (q := 70) hX dc_M_fits_67 rfl fl_M_31 rfl hs0_ hu28 ?_
    refine ax_iload (q := 72) hX dc_M_fits_70 rfl rfl ?_
    obtain ⟨j31, hj32, h⟩ := ax_bd h
    have hj32 := ax_ix_s hty hs29 hj32
    refine ax_iald (q := 73) hX j31 dc_M_fits_72 rfl hs29 hj32.1 hj32.2.1 hj32.2.2 ?_
    exact ax_weak (ls' := [some (.ref u0), some (.int (x1)), some (.int (x2)), some (.int (x3)), some (.int (x4)), none, some (.int (y0)), none]) (ax_fewP_s _ _ (by repeat (first | exact trivial | (refine And.intro rfl ?_)))) (e_M_fits_73 hX hF hS0 (rec5) (hrec5) I R u0 (x1) (x2) (x3) (x4) (y0) (I u27 j31) (y0) hty hs0_ rfl rfl h)
  · rw [if_neg z26] at h
    refine ax_aload_n (q := 57) hX dc_M_fits_56 rfl rfl rfl ?_
    obtain ⟨u33, hu34, h⟩ := ax_bd h
    obtain ⟨n36, hs35⟩ : ∃ n, S u33 = some (.inr (0, n)) := hty.1 _ _ _ _ hs0_ hu34
    refine ax_getR (q := 60) hX dc_M_fits_57 rfl fl_M_28 rfl hs0_ hu34 ?_
    refine ax_iload (q := 62) hX dc_M_fits_60 rfl rfl ?_
    obtain ⟨j37, hj38, h⟩ := ax_bd h
    have hj38 := ax_ix_s hty hs35 hj38
    refine ax_iald (q := 63) hX j37 dc_M_fits_62 rfl hs35 hj38.1 hj38.2.1 hj38.2.2 ?_
    refine ax_goto (tgt := 73) hX dc_M_fits_63 (by decide) ?_
    exact ax_weak (ls' := [some (.ref u0), some (.int (x1)), some (.int (x2)), some (.int (x3)), some (.int (x4)), none, some (.int (y0)), none]) (ax_fewP_s _ _ (by repeat (first | exact trivial | (refine And.intro rfl ?_)))) (e_M_fits_73 hX hF hS0 (rec5) (hrec5) I R u0 (x1) (x2) (x3) (x4) (y0) (I u33 j37) (y0) hty hs0_ rfl rfl h)
def d_M_fits_5 (S : ax_S) : Nat → ax_I → ax_R → Nat → Int32 → Int32 → Int32 → Int32 → Option (Bool)
  | 0, _, _, _, _, _, _, _ => none
  | n + 1, I, R, u0, x1, x2, x3, x4 =>
    (R u0 6).bind fun u1 =>
    (ax_ix S u1 (I u0 3)).bind fun j5 =>
    if (I u1 j5) ≤ x4 then
      (ax_bo (x3)).bind fun b8 =>
      some (b8)
    else
      (d_M_tileAt S I R u0 (x4)).bind fun r12 =>
      if x1 = 0 then
        (R u0 9).bind fun u14 =>
        (ax_ix S u14 (r12)).bind fun j18 =>
        d_M_fits_48 S (d_M_fits_5 S  n) I R u0 (x1) (x2) (x3) (x4) (r12) (I u14 j18)
      else
        (R u0 8).bind fun u20 =>
        (ax_ix S u20 (r12)).bind fun j24 =>
        d_M_fits_48 S (d_M_fits_5 S  n) I R u0 (x1) (x2) (x3) (x4) (r12) (I u20 j24)
set_option maxHeartbeats 1000000 in
theorem e_M_fits_5 {l : Launch} {X : ax_X} {S : ax_S} {L : ax_L} {I0 : ax_I} {R0 : ax_R} {out : Bool} (hX : ax_ok X l "LossFreeToolsModel" b_M_fits 8 (ax_rm 2 0 0)) (hF : ax_fin X (some .boolean) 0 0 (ax_of (ax_eq (some (.int (ax_b out))) S I0 R0 L))) (hS0 : ax_S0 X = S) : ∀ (n : Nat), ∀ (I : ax_I) (R : ax_R) (u0 : Nat) (x1 : Int32) (x2 : Int32) (x3 : Int32) (x4 : Int32), ax_typ S R → (S u0 = some (.inl 5)) → I = I0 → R = R0 → d_M_fits_5 S  n I R u0 x1 x2 x3 x4 = some out → ax_W X 8 5 [some (.ref u0), some (.int (x1)), some (.int (x2)), some (.int (x3)), some (.int (x4)), none, none, none] [] S I R L 0 0 := by
  intro n
  induction n with
  | zero =>
    rintro I R u0 x1 x2 x3 x4 hty hs0_ hI0 hR0 h
    cases h
  | succ n ih =>
    rintro I R u0 x1 x2 x3 x4 hty hs0_ hI0 hR0 h
    subst hI0
    subst hR0
    unfold d_M_fits_5 at h
    refine ax_iload (q := 7) hX dc_M_fits_5 rfl rfl ?_
    refine ax_aload_n (q := 8) hX dc_M_fits_7 rfl rfl rfl ?_
    obtain ⟨u1, hu2, h⟩ := ax_bd h
    obtain ⟨n4, hs3⟩ : ∃ n, S u1 = some (.inr (0, n)) := hty.1 _ _ _ _ hs0_ hu2
    refine ax_getR (q := 11) hX dc_M_fits_8 rfl fl_M_16 rfl hs0_ hu2 ?_
    refine ax_aload_n (q := 12) hX dc_M_fits_11 rfl rfl rfl ?_
    refine ax_getI (q := 15) hX dc_M_fits_12 rfl fl_M_71 rfl hs0_ ?_
    obtain ⟨j5, hj6, h⟩ := ax_bd h
    have hj6 := ax_ix_s hty hs3 hj6
    refine ax_iald (q := 16) hX j5 dc_M_fits_15 rfl hs3 hj6.1 hj6.2.1 hj6.2.2 ?_
    refine ax_icmp_ge (tgt := 104) (q := 19) hX dc_M_fits_16 rfl (by decide) (fun z7 => ?_) (fun z7 => ?_)
    · rw [if_pos z7] at h
      refine ax_iload_n (q := 105) hX dc_M_fits_104 rfl rfl rfl ?_
      obtain ⟨b8, hb9, h⟩ := ax_bd h
      rw [ax_bo_s hb9]
      cases h
      exact ax_iret hX hF dc_M_fits_105 rfl (ax_b_n _) (by decide) (by decide) ax_eq.mk (by rw [hS0]; exact fun _ _ z => z)
    · rw [if_neg z7] at h
      refine ax_aload_n (q := 20) hX dc_M_fits_19 rfl rfl rfl ?_
      refine ax_iload (q := 22) hX dc_M_fits_20 rfl rfl ?_
      obtain ⟨r12, hr10, h⟩ := ax_bd h
      refine ax_kV (vs := [.int (x4)]) (rest := []) (q := 25) hX dc_M_fits_22 rfl mt_M_tileAt wl_M_92 wi_M_tileAt ws_M_tileAt hs0_ rfl (c_M_tileAt l hty hs0_ hr10) rfl (by decide) rfl (Nat.le_of_ble_eq_true rfl) rfl rfl (by decide) (by decide) rfl ?_
      refine ax_istore (ls' := [some (.ref u0), some (.int (x1)), some (.int (x2)), some (.int (x3)), some (.int (x4)), some (.int (r12)), none, none]) (q := 27) hX dc_M_fits_25 rfl (by decide) rfl ?_
      refine ax_iload_n (q := 28) hX dc_M_fits_27 rfl rfl rfl ?_
      refine ax_if_eq (tgt := 41) (q := 31) hX dc_M_fits_28 rfl (by decide) (fun z13 => ?_) (fun z13 => ?_)
      · rw [if_pos z13] at h
        refine ax_aload_n (q := 42) hX dc_M_fits_41 rfl rfl rfl ?_
        obtain ⟨u14, hu15, h⟩ := ax_bd h
        obtain ⟨n17, hs16⟩ : ∃ n, S u14 = some (.inr (0, n)) := hty.1 _ _ _ _ hs0_ hu15
        refine ax_getR (q := 45) hX dc_M_fits_42 rfl fl_M_25 rfl hs0_ hu15 ?_
        refine ax_iload (q := 47) hX dc_M_fits_45 rfl rfl ?_
        obtain ⟨j18, hj19, h⟩ := ax_bd h
        have hj19 := ax_ix_s hty hs16 hj19
        refine ax_iald (q := 48) hX j18 dc_M_fits_47 rfl hs16 hj19.1 hj19.2.1 hj19.2.2 ?_
        exact (e_M_fits_48 hX hF hS0 (d_M_fits_5 S  n) (ih) I R u0 (x1) (x2) (x3) (x4) (r12) (I u14 j18) hty hs0_ rfl rfl h)
      · rw [if_neg z13] at h
        refine ax_aload_n (q := 32) hX dc_M_fits_31 rfl rfl rfl ?_
        obtain ⟨u20, hu21, h⟩ := ax_bd h
        obtain ⟨n23, hs22⟩ : ∃ n, S u20 = some (.inr (0, n)) := hty.1 _ _ _ _ hs0_ hu21
        refine ax_getR (q := 35) hX dc_M_fits_32 rfl fl_M_22 rfl hs0_ hu21 ?_
        refine ax_iload (q := 37) hX dc_M_fits_35 rfl rfl ?_
        obtain ⟨j24, hj25, h⟩ := ax_bd h
        have hj25 := ax_ix_s hty hs22 hj25
        refine ax_iald (q := 38) hX j24 dc_M_fits_37 rfl hs22 hj25.1 hj25.2.1 hj25.2.2 ?_
        refine ax_goto (tgt := 48) hX dc_M_fits_38 (by decide) ?_
        exact (e_M_fits_48 hX hF hS0 (d_M_fits_5 S  n) (ih) I R u0 (x1) (x2) (x3) (x4) (r12) (I u20 j24) hty hs0_ rfl rfl h)
def d_M_fits (S : ax_S) (I : ax_I) (R : ax_R) (u0 : Nat) (x1 : Int32) (x2 : Int32) : Option (Bool) :=
  d_M_fits_5 S  5000 I R u0 (x1) (x2) (1) (0)
set_option maxHeartbeats 1000000 in
theorem c_M_fits (l : Launch) {S : ax_S} {I : ax_I} {R : ax_R} {L : ax_L} {u0 : Nat} {x1 : Int32} {x2 : Int32} {out : Bool} (hty : ax_typ S R) (hs0 : S u0 = some (.inl 5)) (h : d_M_fits S I R u0 x1 x2 = some out) : ax_Met l y_M_fits b_M_fits 8 (some .boolean) (ax_rm 2 0 0) [.ref u0, .int x1, .int x2] S I R L (ax_eq (some (.int (ax_b out))) S I R L) := by
  refine ax_enter (own := "LossFreeToolsModel") (by decide +kernel) rfl (ax_cats rfl) (Nat.le_of_ble_eq_true rfl) (fun X hX hF _ hS0 => ?_)
  show ax_W X 8 0 [some (.ref u0), some (.int (x1)), some (.int (x2)), none, none, none, none, none] [] S I R L 0 0
  unfold d_M_fits at h
  refine ax_iconst (v := 1) (q := 1) hX dc_M_fits_0 rfl (by decide) ?_
  refine ax_istore_n (ls' := [some (.ref u0), some (.int (x1)), some (.int (x2)), some (.int (1)), none, none, none, none]) (q := 2) hX dc_M_fits_1 rfl rfl (by decide) rfl ?_
  refine ax_iconst (v := 0) (q := 3) hX dc_M_fits_2 rfl (by decide) ?_
  refine ax_istore (ls' := [some (.ref u0), some (.int (x1)), some (.int (x2)), some (.int (1)), some (.int (0)), none, none, none]) (q := 5) hX dc_M_fits_3 rfl (by decide) rfl ?_
  exact (e_M_fits_5 hX hF hS0  5000 I R u0 (x1) (x2) (1) (0) hty hs0 rfl rfl h)
def d_M_near_26 (S : ax_S) (I : ax_I) (R : ax_R) (u0 : Nat) (x1 : Int32) (y0 : Int32) (w1 : Nat) : Option (Int32 × ax_I) :=
  (some (ax_up I w1 0 (y0))).bind fun I6 =>
  if (I6 u0 0) ≤ 0 then
    (R u0 20).bind fun u9 =>
    (ax_ix S u9 (x1)).bind fun j13 =>
    some (I6 u9 j13, I6)
  else
    some (0, I6)
set_option maxHeartbeats 1000000 in
theorem e_M_near_26 {l : Launch} {X : ax_X} {S : ax_S} {L : ax_L} {R0 : ax_R} {out : Int32 × ax_I} (hX : ax_ok X l "LossFreeToolsModel" b_M_near 2 (ax_rm 2 0 0)) (hF : ax_fin X (some .int) 0 0 (ax_of (ax_eq (some (.int out.1)) S out.2 R0 L))) (hS0 : ax_S0 X = S) : ∀ (I : ax_I) (R : ax_R) (u0 : Nat) (x1 : Int32) (y0 : Int32) (w1 : Nat), ax_typ S R → (S u0 = some (.inl 5)) → (S w1 = some (.inl 5)) → R = R0 → d_M_near_26 S  I R u0 x1 y0 w1 = some out → ax_W X 2 26 [some (.ref u0), some (.int (x1))] [.int (y0), .ref w1] S I R L 0 0 := by
  rintro I R u0 x1 y0 w1 hty hs0_ hw1_ hR0 h
  subst hR0
  unfold d_M_near_26 at h
  obtain ⟨I6, e7, h⟩ := ax_bs h
  refine ax_putI (q := 29) hX dc_M_near_26 rfl fl_M_68 rfl hw1_ (fun z => by cases z) rfl rfl e7 ?_
  refine ax_aload_n (q := 30) hX dc_M_near_29 rfl rfl rfl ?_
  refine ax_getI (q := 33) hX dc_M_near_30 rfl fl_M_68 rfl hs0_ ?_
  refine ax_if_le (tgt := 40) (q := 36) hX dc_M_near_33 rfl (by decide) (fun z8 => ?_) (fun z8 => ?_)
  · rw [if_pos z8] at h
    refine ax_aload_n (q := 41) hX dc_M_near_40 rfl rfl rfl ?_
    obtain ⟨u9, hu10, h⟩ := ax_bd h
    obtain ⟨n12, hs11⟩ : ∃ n, S u9 = some (.inr (0, n)) := hty.1 _ _ _ _ hs0_ hu10
    refine ax_getR (q := 44) hX dc_M_near_41 rfl fl_M_52 rfl hs0_ hu10 ?_
    refine ax_iload_n (q := 45) hX dc_M_near_44 rfl rfl rfl ?_
    obtain ⟨j13, hj14, h⟩ := ax_bd h
    have hj14 := ax_ix_s hty hs11 hj14
    refine ax_iald (q := 46) hX j13 dc_M_near_45 rfl hs11 hj14.1 hj14.2.1 hj14.2.2 ?_
    cases h
    exact ax_iret hX hF dc_M_near_46 rfl rfl (by decide) (by decide) ax_eq.mk (by rw [hS0]; exact fun _ _ z => z)
  · rw [if_neg z8] at h
    refine ax_iconst (v := 0) (q := 37) hX dc_M_near_36 rfl (by decide) ?_
    refine ax_goto (tgt := 46) hX dc_M_near_37 (by decide) ?_
    cases h
    exact ax_iret hX hF dc_M_near_46 rfl rfl (by decide) (by decide) ax_eq.mk (by rw [hS0]; exact fun _ _ z => z)
def d_M_near (S : ax_S) (I : ax_I) (R : ax_R) (u0 : Nat) (x1 : Int32) : Option (Int32 × ax_I) :=
  (d_M_in S I R (x1) (0) (3)).bind fun r3 =>
  if (ax_b r3) = 0 then
    d_M_near_26 S  I R u0 (x1) (1) u0
  else
    if (I u0 19) = 0 then
      d_M_near_26 S  I R u0 (x1) (2) u0
    else
      d_M_near_26 S  I R u0 (x1) (0) u0
set_option maxHeartbeats 1000000 in
theorem c_M_near (l : Launch) {S : ax_S} {I : ax_I} {R : ax_R} {L : ax_L} {u0 : Nat} {x1 : Int32} {out : Int32 × ax_I} (hty : ax_typ S R) (hs0 : S u0 = some (.inl 5)) (h : d_M_near S I R u0 x1 = some out) : ax_Met l y_M_near b_M_near 2 (some .int) (ax_rm 2 0 0) [.ref u0, .int x1] S I R L (ax_eq (some (.int out.1)) S out.2 R L) := by
  refine ax_enter (own := "LossFreeToolsModel") (by decide +kernel) rfl (ax_cats rfl) (Nat.le_of_ble_eq_true rfl) (fun X hX hF _ hS0 => ?_)
  show ax_W X 2 0 [some (.ref u0), some (.int (x1))] [] S I R L 0 0
  unfold d_M_near at h
  refine ax_aload_n (q := 1) hX dc_M_near_0 rfl rfl rfl ?_
  refine ax_iload_n (q := 2) hX dc_M_near_1 rfl rfl rfl ?_
  refine ax_iconst (v := 0) (q := 3) hX dc_M_near_2 rfl (by decide) ?_
  refine ax_iconst (v := 3) (q := 4) hX dc_M_near_3 rfl (by decide) ?_
  obtain ⟨r3, hr1, h⟩ := ax_bd h
  refine ax_kS (vs := [.int (x1), .int (0), .int (3)]) (rest := [.ref u0]) (q := 7) hX dc_M_near_4 rfl mt_M_in wl_M_84 wt_M_in (c_M_in l hty  hr1) rfl (by decide) rfl (Nat.le_of_ble_eq_true rfl) rfl rfl (by decide) (by decide) rfl ?_
  refine ax_if_ne (tgt := 14) (q := 10) hX dc_M_near_7 rfl (by decide) (fun z4 => ?_) (fun z4 => ?_)
  · rw [if_neg z4] at h
    refine ax_aload_n (q := 15) hX dc_M_near_14 rfl rfl rfl ?_
    refine ax_getI (q := 18) hX dc_M_near_15 rfl fl_M_77 rfl hs0 ?_
    refine ax_if_ne (tgt := 25) (q := 21) hX dc_M_near_18 rfl (by decide) (fun z5 => ?_) (fun z5 => ?_)
    · rw [if_neg z5] at h
      refine ax_iconst (v := 0) (q := 26) hX dc_M_near_25 rfl (by decide) ?_
      exact (e_M_near_26 hX hF hS0  I R u0 (x1) (0) u0 hty hs0 hs0 rfl h)
    · rw [if_pos z5] at h
      refine ax_iconst (v := 2) (q := 22) hX dc_M_near_21 rfl (by decide) ?_
      refine ax_goto (tgt := 26) hX dc_M_near_22 (by decide) ?_
      exact (e_M_near_26 hX hF hS0  I R u0 (x1) (2) u0 hty hs0 hs0 rfl h)
  · rw [if_pos z4] at h
    refine ax_iconst (v := 1) (q := 11) hX dc_M_near_10 rfl (by decide) ?_
    refine ax_goto (tgt := 26) hX dc_M_near_11 (by decide) ?_
    exact (e_M_near_26 hX hF hS0  I R u0 (x1) (1) u0 hty hs0 hs0 rfl h)
def d_M_both_151 (S : ax_S) (rec4 : ax_I → ax_R → Int32 → Int32 → Int32 → Int32 → Option (Int32)) (I : ax_I) (R : ax_R) (x0 : Int32) (x1 : Int32) (x3 : Int32) (y0 : Int32) : Option (Int32) :=
  rec4 I R (x0) (x1) (y0) (x3 + 1)
set_option maxHeartbeats 1000000 in
theorem e_M_both_151 {l : Launch} {X : ax_X} {S : ax_S} {L : ax_L} {I0 : ax_I} {R0 : ax_R} {out : Int32} (hX : ax_ok X l "LossFreeToolsModel" b_M_both 8 (ax_rm 2 0 0)) (hF : ax_fin X (some .int) 0 0 (ax_of (ax_eq (some (.int out)) S I0 R0 L))) (hS0 : ax_S0 X = S) (rec4 : ax_I → ax_R → Int32 → Int32 → Int32 → Int32 → Option (Int32)) (hrec4 : ∀ (I : ax_I) (R : ax_R) (x0 : Int32) (x1 : Int32) (x2 : Int32) (x3 : Int32), ax_typ S R → I = I0 → R = R0 → rec4 I R x0 x1 x2 x3 = some out → ax_W X 8 4 [some (.int (x0)), some (.int (x1)), some (.int (x2)), some (.int (x3)), none, none, none, none] [] S I R L 0 0) : ∀ (I : ax_I) (R : ax_R) (x0 : Int32) (x1 : Int32) (x3 : Int32) (y0 : Int32), ax_typ S R → I = I0 → R = R0 → d_M_both_151 S rec4 I R x0 x1 x3 y0 = some out → ax_W X 8 151 [some (.int (x0)), some (.int (x1)), none, some (.int (x3)), none, none, none, none] [.int (y0)] S I R L 0 0 := by
  rintro I R x0 x1 x3 y0 hty hI0 hR0 h
  subst hI0
  subst hR0
  unfold d_M_both_151 at h
  refine ax_istore_n (ls' := [some (.int (x0)), some (.int (x1)), some (.int (y0)), some (.int (x3)), none, none, none, none]) (q := 152) hX dc_M_both_151 rfl rfl (by decide) rfl ?_
  refine ax_iinc (v := x3 + 1) (ls' := [some (.int (x0)), some (.int (x1)), some (.int (y0)), some (.int (x3 + 1)), none, none, none, none]) (q := 155) hX dc_M_both_152 rfl rfl rfl (by decide) rfl ?_
  refine ax_goto (tgt := 4) hX dc_M_both_155 (by decide) ?_
  exact (hrec4 I R (x0) (x1) (y0) (x3 + 1) hty  rfl rfl h)
def d_M_both_150 (S : ax_S) (rec4 : ax_I → ax_R → Int32 → Int32 → Int32 → Int32 → Option (Int32)) (I : ax_I) (R : ax_R) (x0 : Int32) (x1 : Int32) (x2 : Int32) (x3 : Int32) : Option (Int32) :=
  d_M_both_151 S (rec4) I R (x0) (x1) (x3) (x2)
set_option maxHeartbeats 1000000 in
theorem e_M_both_150 {l : Launch} {X : ax_X} {S : ax_S} {L : ax_L} {I0 : ax_I} {R0 : ax_R} {out : Int32} (hX : ax_ok X l "LossFreeToolsModel" b_M_both 8 (ax_rm 2 0 0)) (hF : ax_fin X (some .int) 0 0 (ax_of (ax_eq (some (.int out)) S I0 R0 L))) (hS0 : ax_S0 X = S) (rec4 : ax_I → ax_R → Int32 → Int32 → Int32 → Int32 → Option (Int32)) (hrec4 : ∀ (I : ax_I) (R : ax_R) (x0 : Int32) (x1 : Int32) (x2 : Int32) (x3 : Int32), ax_typ S R → I = I0 → R = R0 → rec4 I R x0 x1 x2 x3 = some out → ax_W X 8 4 [some (.int (x0)), some (.int (x1)), some (.int (x2)), some (.int (x3)), none, none, none, none] [] S I R L 0 0) : ∀ (I : ax_I) (R : ax_R) (x0 : Int32) (x1 : Int32) (x2 : Int32) (x3 : Int32), ax_typ S R → I = I0 → R = R0 → d_M_both_150 S rec4 I R x0 x1 x2 x3 = some out → ax_W X 8 150 [some (.int (x0)), some (.int (x1)), some (.int (x2)), some (.int (x3)), none, none, none, none] [] S I R L 0 0 := by
  rintro I R x0 x1 x2 x3 hty hI0 hR0 h
  subst hI0
  subst hR0
  unfold d_M_both_150 at h
  refine ax_iload_n (q := 151) hX dc_M_both_150 rfl rfl rfl ?_
  exact ax_weak (ls' := [some (.int (x0)), some (.int (x1)), none, some (.int (x3)), none, none, none, none]) (ax_fewP_s _ _ (by repeat (first | exact trivial | (refine And.intro rfl ?_)))) (e_M_both_151 hX hF hS0 (rec4) (hrec4) I R (x0) (x1) (x3) (x2) hty  rfl rfl h)
def d_M_both_139 (S : ax_S) (rec4 : ax_I → ax_R → Int32 → Int32 → Int32 → Int32 → Option (Int32)) (I : ax_I) (R : ax_R) (x0 : Int32) (x1 : Int32) (x2 : Int32) (x3 : Int32) (y0 : Int32) : Option (Int32) :=
  (d_M_isTurned S I R (x3)).bind fun r32 =>
  if y0 = (ax_b r32) then
    d_M_both_151 S (rec4) I R (x0) (x1) (x3) (x3)
  else
    d_M_both_150 S (rec4) I R (x0) (x1) (x2) (x3)
set_option maxHeartbeats 1000000 in
theorem e_M_both_139 {l : Launch} {X : ax_X} {S : ax_S} {L : ax_L} {I0 : ax_I} {R0 : ax_R} {out : Int32} (hX : ax_ok X l "LossFreeToolsModel" b_M_both 8 (ax_rm 2 0 0)) (hF : ax_fin X (some .int) 0 0 (ax_of (ax_eq (some (.int out)) S I0 R0 L))) (hS0 : ax_S0 X = S) (rec4 : ax_I → ax_R → Int32 → Int32 → Int32 → Int32 → Option (Int32)) (hrec4 : ∀ (I : ax_I) (R : ax_R) (x0 : Int32) (x1 : Int32) (x2 : Int32) (x3 : Int32), ax_typ S R → I = I0 → R = R0 → rec4 I R x0 x1 x2 x3 = some out → ax_W X 8 4 [some (.int (x0)), some (.int (x1)), some (.int (x2)), some (.int (x3)), none, none, none, none] [] S I R L 0 0) : ∀ (I : ax_I) (R : ax_R) (x0 : Int32) (x1 : Int32) (x2 : Int32) (x3 : Int32) (y0 : Int32), ax_typ S R → I = I0 → R = R0 → d_M_both_139 S rec4 I R x0 x1 x2 x3 y0 = some out → ax_W X 8 139 [some (.int (x0)), some (.int (x1)), some (.int (x2)), some (.int (x3)), none, none, none, none] [.int (y0)] S I R L 0 0 := by
  rintro I R x0 x1 x2 x3 y0 hty hI0 hR0 h
  subst hI0
  subst hR0
  unfold d_M_both_139 at h
  refine ax_iload_n (q := 140) hX dc_M_both_139 rfl rfl rfl ?_
  obtain ⟨r32, hr30, h⟩ := ax_bd h
  refine ax_kS (vs := [.int (x3)]) (rest := [.int (y0)]) (q := 143) hX dc_M_both_140 rfl mt_M_isTurned wl_M_123 wt_M_isTurned (c_M_isTurned l hty  hr30) rfl (by decide) rfl (Nat.le_of_ble_eq_true rfl) rfl rfl (by decide) (by decide) rfl ?_
  refine ax_icmp_ne (tgt := 150) (q := 146) hX dc_M_both_143 rfl (by decide) (fun z33 => ?_) (fun z33 => ?_)
  · rw [if_neg z33] at h
    exact (e_M_both_150 hX hF hS0 (rec4) (hrec4) I R (x0) (x1) (x2) (x3) hty  rfl rfl h)
  · rw [if_pos z33] at h
    refine ax_iload_n (q := 147) hX dc_M_both_146 rfl rfl rfl ?_
    refine ax_goto (tgt := 151) hX dc_M_both_147 (by decide) ?_
    exact ax_weak (ls' := [some (.int (x0)), some (.int (x1)), none, some (.int (x3)), none, none, none, none]) (ax_fewP_s _ _ (by repeat (first | exact trivial | (refine And.intro rfl ?_)))) (e_M_both_151 hX hF hS0 (rec4) (hrec4) I R (x0) (x1) (x3) (x3) hty  rfl rfl h)
def d_M_both_110 (S : ax_S) (rec4 : ax_I → ax_R → Int32 → Int32 → Int32 → Int32 → Option (Int32)) (rec16 : ax_I → ax_R → Int32 → Int32 → Int32 → Int32 → Int32 → Int32 → Option (Int32)) (I : ax_I) (R : ax_R) (x0 : Int32) (x1 : Int32) (x2 : Int32) (x3 : Int32) (x5 : Int32) (y0 : Int32) : Option (Int32) :=
  rec16 I R (x0) (x1) (x2) (x3) (y0) (x5 + 1)
set_option maxHeartbeats 1000000 in
theorem e_M_both_110 {l : Launch} {X : ax_X} {S : ax_S} {L : ax_L} {I0 : ax_I} {R0 : ax_R} {out : Int32} (hX : ax_ok X l "LossFreeToolsModel" b_M_both 8 (ax_rm 2 0 0)) (hF : ax_fin X (some .int) 0 0 (ax_of (ax_eq (some (.int out)) S I0 R0 L))) (hS0 : ax_S0 X = S) (rec4 : ax_I → ax_R → Int32 → Int32 → Int32 → Int32 → Option (Int32)) (rec16 : ax_I → ax_R → Int32 → Int32 → Int32 → Int32 → Int32 → Int32 → Option (Int32)) (hrec4 : ∀ (I : ax_I) (R : ax_R) (x0 : Int32) (x1 : Int32) (x2 : Int32) (x3 : Int32), ax_typ S R → I = I0 → R = R0 → rec4 I R x0 x1 x2 x3 = some out → ax_W X 8 4 [some (.int (x0)), some (.int (x1)), some (.int (x2)), some (.int (x3)), none, none, none, none] [] S I R L 0 0) (hrec16 : ∀ (I : ax_I) (R : ax_R) (x0 : Int32) (x1 : Int32) (x2 : Int32) (x3 : Int32) (x4 : Int32) (x5 : Int32), ax_typ S R → I = I0 → R = R0 → rec16 I R x0 x1 x2 x3 x4 x5 = some out → ax_W X 8 16 [some (.int (x0)), some (.int (x1)), some (.int (x2)), some (.int (x3)), some (.int (x4)), some (.int (x5)), none, none] [] S I R L 0 0) : ∀ (I : ax_I) (R : ax_R) (x0 : Int32) (x1 : Int32) (x2 : Int32) (x3 : Int32) (x5 : Int32) (y0 : Int32), ax_typ S R → I = I0 → R = R0 → d_M_both_110 S rec4 rec16 I R x0 x1 x2 x3 x5 y0 = some out → ax_W X 8 110 [some (.int (x0)), some (.int (x1)), some (.int (x2)), some (.int (x3)), none, some (.int (x5)), none, none] [.int (y0)] S I R L 0 0 := by
  rintro I R x0 x1 x2 x3 x5 y0 hty hI0 hR0 h
  subst hI0
  subst hR0
  unfold d_M_both_110 at h
  refine ax_istore (ls' := [some (.int (x0)), some (.int (x1)), some (.int (x2)), some (.int (x3)), some (.int (y0)), some (.int (x5)), none, none]) (q := 112) hX dc_M_both_110 rfl (by decide) rfl ?_
  refine ax_iinc (v := x5 + 1) (ls' := [some (.int (x0)), some (.int (x1)), some (.int (x2)), some (.int (x3)), some (.int (y0)), some (.int (x5 + 1)), none, none]) (q := 115) hX dc_M_both_112 rfl rfl rfl (by decide) rfl ?_
  refine ax_goto (tgt := 16) hX dc_M_both_115 (by decide) ?_
  exact (hrec16 I R (x0) (x1) (x2) (x3) (y0) (x5 + 1) hty  rfl rfl h)
def d_M_both_109 (S : ax_S) (rec4 : ax_I → ax_R → Int32 → Int32 → Int32 → Int32 → Option (Int32)) (rec16 : ax_I → ax_R → Int32 → Int32 → Int32 → Int32 → Int32 → Int32 → Option (Int32)) (I : ax_I) (R : ax_R) (x0 : Int32) (x1 : Int32) (x2 : Int32) (x3 : Int32) (x5 : Int32) : Option (Int32) :=
  d_M_both_110 S (rec4) (rec16) I R (x0) (x1) (x2) (x3) (x5) (0)
set_option maxHeartbeats 1000000 in
theorem e_M_both_109 {l : Launch} {X : ax_X} {S : ax_S} {L : ax_L} {I0 : ax_I} {R0 : ax_R} {out : Int32} (hX : ax_ok X l "LossFreeToolsModel" b_M_both 8 (ax_rm 2 0 0)) (hF : ax_fin X (some .int) 0 0 (ax_of (ax_eq (some (.int out)) S I0 R0 L))) (hS0 : ax_S0 X = S) (rec4 : ax_I → ax_R → Int32 → Int32 → Int32 → Int32 → Option (Int32)) (rec16 : ax_I → ax_R → Int32 → Int32 → Int32 → Int32 → Int32 → Int32 → Option (Int32)) (hrec4 : ∀ (I : ax_I) (R : ax_R) (x0 : Int32) (x1 : Int32) (x2 : Int32) (x3 : Int32), ax_typ S R → I = I0 → R = R0 → rec4 I R x0 x1 x2 x3 = some out → ax_W X 8 4 [some (.int (x0)), some (.int (x1)), some (.int (x2)), some (.int (x3)), none, none, none, none] [] S I R L 0 0) (hrec16 : ∀ (I : ax_I) (R : ax_R) (x0 : Int32) (x1 : Int32) (x2 : Int32) (x3 : Int32) (x4 : Int32) (x5 : Int32), ax_typ S R → I = I0 → R = R0 → rec16 I R x0 x1 x2 x3 x4 x5 = some out → ax_W X 8 16 [some (.int (x0)), some (.int (x1)), some (.int (x2)), some (.int (x3)), some (.int (x4)), some (.int (x5)), none, none] [] S I R L 0 0) : ∀ (I : ax_I) (R : ax_R) (x0 : Int32) (x1 : Int32) (x2 : Int32) (x3 : Int32) (x5 : Int32), ax_typ S R → I = I0 → R = R0 → d_M_both_109 S rec4 rec16 I R x0 x1 x2 x3 x5 = some out → ax_W X 8 109 [some (.int (x0)), some (.int (x1)), some (.int (x2)), some (.int (x3)), none, some (.int (x5)), none, none] [] S I R L 0 0 := by
  rintro I R x0 x1 x2 x3 x5 hty hI0 hR0 h
  subst hI0
  subst hR0
  unfold d_M_both_109 at h
  refine ax_iconst (v := 0) (q := 110) hX dc_M_both_109 rfl (by decide) ?_
  exact (e_M_both_110 hX hF hS0 (rec4) (rec16) (hrec4) (hrec16) I R (x0) (x1) (x2) (x3) (x5) (0) hty  rfl rfl h)
def d_M_both_76 (S : ax_S) (rec4 : ax_I → ax_R → Int32 → Int32 → Int32 → Int32 → Option (Int32)) (rec16 : ax_I → ax_R → Int32 → Int32 → Int32 → Int32 → Int32 → Int32 → Option (Int32)) (I : ax_I) (R : ax_R) (x0 : Int32) (x1 : Int32) (x2 : Int32) (x3 : Int32) (x4 : Int32) (x5 : Int32) (y0 : Int32) (y1 : Int32) (y2 : Int32) (y3 : Int32) (y4 : Int32) : Option (Int32) :=
  (d_M_comes S I R (y4) (y3) (y2) (y1) (y0)).bind fun r24 =>
  if x4 = 0 then
    d_M_both_109 S (rec4) (rec16) I R (x0) (x1) (x2) (x3) (x5)
  else
    (d_M_comes S I R (x3) (x5 - x5 / 2 * 2) (x5 / 2) (2) (3)).bind fun r28 =>
    if r24 = r28 then
      d_M_both_110 S (rec4) (rec16) I R (x0) (x1) (x2) (x3) (x5) (1)
    else
      d_M_both_109 S (rec4) (rec16) I R (x0) (x1) (x2) (x3) (x5)
set_option maxHeartbeats 1000000 in
theorem e_M_both_76 {l : Launch} {X : ax_X} {S : ax_S} {L : ax_L} {I0 : ax_I} {R0 : ax_R} {out : Int32} (hX : ax_ok X l "LossFreeToolsModel" b_M_both 8 (ax_rm 2 0 0)) (hF : ax_fin X (some .int) 0 0 (ax_of (ax_eq (some (.int out)) S I0 R0 L))) (hS0 : ax_S0 X = S) (rec4 : ax_I → ax_R → Int32 → Int32 → Int32 → Int32 → Option (Int32)) (rec16 : ax_I → ax_R → Int32 → Int32 → Int32 → Int32 → Int32 → Int32 → Option (Int32)) (hrec4 : ∀ (I : ax_I) (R : ax_R) (x0 : Int32) (x1 : Int32) (x2 : Int32) (x3 : Int32), ax_typ S R → I = I0 → R = R0 → rec4 I R x0 x1 x2 x3 = some out → ax_W X 8 4 [some (.int (x0)), some (.int (x1)), some (.int (x2)), some (.int (x3)), none, none, none, none] [] S I R L 0 0) (hrec16 : ∀ (I : ax_I) (R : ax_R) (x0 : Int32) (x1 : Int32) (x2 : Int32) (x3 : Int32) (x4 : Int32) (x5 : Int32), ax_typ S R → I = I0 → R = R0 → rec16 I R x0 x1 x2 x3 x4 x5 = some out → ax_W X 8 16 [some (.int (x0)), some (.int (x1)), some (.int (x2)), some (.int (x3)), some (.int (x4)), some (.int (x5)), none, none] [] S I R L 0 0) : ∀ (I : ax_I) (R : ax_R) (x0 : Int32) (x1 : Int32) (x2 : Int32) (x3 : Int32) (x4 : Int32) (x5 : Int32) (y0 : Int32) (y1 : Int32) (y2 : Int32) (y3 : Int32) (y4 : Int32), ax_typ S R → I = I0 → R = R0 → d_M_both_76 S rec4 rec16 I R x0 x1 x2 x3 x4 x5 y0 y1 y2 y3 y4 = some out → ax_W X 8 76 [some (.int (x0)), some (.int (x1)), some (.int (x2)), some (.int (x3)), some (.int (x4)), some (.int (x5)), none, none] [.int (y0), .int (y1), .int (y2), .int (y3), .int (y4)] S I R L 0 0 := by
  rintro I R x0 x1 x2 x3 x4 x5 y0 y1 y2 y3 y4 hty hI0 hR0 h
  subst hI0
  subst hR0
  unfold d_M_both_76 at h
  obtain ⟨r24, hr22, h⟩ := ax_bd h
  refine ax_kS (vs := [.int (y4), .int (y3), .int (y2), .int (y1), .int (y0)]) (rest := []) (q := 79) hX dc_M_both_76 rfl mt_M_comes wl_M_119 wt_M_comes (c_M_comes l hty  hr22) rfl (by decide) rfl (Nat.le_of_ble_eq_true rfl) rfl rfl (by decide) (by decide) rfl ?_
  refine ax_istore (ls' := [some (.int (x0)), some (.int (x1)), some (.int (x2)), some (.int (x3)), some (.int (x4)), some (.int (x5)), none, some (.int (r24))]) (q := 81) hX dc_M_both_79 rfl (by decide) rfl ?_
  refine ax_iload (q := 83) hX dc_M_both_81 rfl rfl ?_
  refine ax_if_eq (tgt := 109) (q := 86) hX dc_M_both_83 rfl (by decide) (fun z25 => ?_) (fun z25 => ?_)
  · rw [if_pos z25] at h
    exact ax_weak (ls' := [some (.int (x0)), some (.int (x1)), some (.int (x2)), some (.int (x3)), none, some (.int (x5)), none, none]) (ax_fewP_s _ _ (by repeat (first | exact trivial | (refine And.intro rfl ?_)))) (e_M_both_109 hX hF hS0 (rec4) (rec16) (hrec4) (hrec16) I R (x0) (x1) (x2) (x3) (x5) hty  rfl rfl h)
  · rw [if_neg z25] at h
    refine ax_iload (q := 88) hX dc_M_both_86 rfl rfl ?_
    refine ax_iload_n (q := 89) hX dc_M_both_88 rfl rfl rfl ?_
    refine ax_iload (q := 91) hX dc_M_both_89 rfl rfl ?_
    refine ax_iconst (v := 2) (q := 92) hX dc_M_both_91 rfl (by decide) ?_
    refine ax_irem (q := 93) hX dc_M_both_92 rfl (by decide) ?_
    refine ax_iload (q := 95) hX dc_M_both_93 rfl rfl ?_
    refine ax_iconst (v := 2) (q := 96) hX dc_M_both_95 rfl (by decide) ?_
    refine ax_idiv (q := 97) hX dc_M_both_96 rfl (by decide) ?_
    refine ax_iconst (v := 2) (q := 98) hX dc_M_both_97 rfl (by decide) ?_
    refine ax_iconst (v := 3) (q := 99) hX dc_M_both_98 rfl (by decide) ?_
    obtain ⟨r28, hr26, h⟩ := ax_bd h
    refine ax_kS (vs := [.int (x3), .int (x5 - x5 / 2 * 2), .int (x5 / 2), .int (2), .int (3)]) (rest := [.int (r24)]) (q := 102) hX dc_M_both_99 rfl mt_M_comes wl_M_119 wt_M_comes (c_M_comes l hty  hr26) rfl (by decide) rfl (Nat.le_of_ble_eq_true rfl) rfl rfl (by decide) (by decide) rfl ?_
    refine ax_icmp_ne (tgt := 109) (q := 105) hX dc_M_both_102 rfl (by decide) (fun z29 => ?_) (fun z29 => ?_)
    · rw [if_neg z29] at h
      exact ax_weak (ls' := [some (.int (x0)), some (.int (x1)), some (.int (x2)), some (.int (x3)), none, some (.int (x5)), none, none]) (ax_fewP_s _ _ (by repeat (first | exact trivial | (refine And.intro rfl ?_)))) (e_M_both_109 hX hF hS0 (rec4) (rec16) (hrec4) (hrec16) I R (x0) (x1) (x2) (x3) (x5) hty  rfl rfl h)
    · rw [if_pos z29] at h
      refine ax_iconst (v := 1) (q := 106) hX dc_M_both_105 rfl (by decide) ?_
      refine ax_goto (tgt := 110) hX dc_M_both_106 (by decide) ?_
      exact ax_weak (ls' := [some (.int (x0)), some (.int (x1)), some (.int (x2)), some (.int (x3)), none, some (.int (x5)), none, none]) (ax_fewP_s _ _ (by repeat (first | exact trivial | (refine And.intro rfl ?_)))) (e_M_both_110 hX hF hS0 (rec4) (rec16) (hrec4) (hrec16) I R (x0) (x1) (x2) (x3) (x5) (1) hty  rfl rfl h)
def d_M_both_64 (S : ax_S) (rec4 : ax_I → ax_R → Int32 → Int32 → Int32 → Int32 → Option (Int32)) (rec16 : ax_I → ax_R → Int32 → Int32 → Int32 → Int32 → Int32 → Int32 → Option (Int32)) (I : ax_I) (R : ax_R) (x0 : Int32) (x1 : Int32) (x2 : Int32) (x3 : Int32) (x4 : Int32) (x5 : Int32) (y0 : Int32) (y1 : Int32) (y2 : Int32) (y3 : Int32) : Option (Int32) :=
  (d_M_isTurned S I R (x0)).bind fun r20 =>
  if (ax_b r20) = 0 then
    d_M_both_76 S (rec4) (rec16) I R (x0) (x1) (x2) (x3) (x4) (x5) (3) (y0) (y1) (y2) (y3)
  else
    d_M_both_76 S (rec4) (rec16) I R (x0) (x1) (x2) (x3) (x4) (x5) (2) (y0) (y1) (y2) (y3)
set_option maxHeartbeats 1000000 in
theorem e_M_both_64 {l : Launch} {X : ax_X} {S : ax_S} {L : ax_L} {I0 : ax_I} {R0 : ax_R} {out : Int32} (hX : ax_ok X l "LossFreeToolsModel" b_M_both 8 (ax_rm 2 0 0)) (hF : ax_fin X (some .int) 0 0 (ax_of (ax_eq (some (.int out)) S I0 R0 L))) (hS0 : ax_S0 X = S) (rec4 : ax_I → ax_R → Int32 → Int32 → Int32 → Int32 → Option (Int32)) (rec16 : ax_I → ax_R → Int32 → Int32 → Int32 → Int32 → Int32 → Int32 → Option (Int32)) (hrec4 : ∀ (I : ax_I) (R : ax_R) (x0 : Int32) (x1 : Int32) (x2 : Int32) (x3 : Int32), ax_typ S R → I = I0 → R = R0 → rec4 I R x0 x1 x2 x3 = some out → ax_W X 8 4 [some (.int (x0)), some (.int (x1)), some (.int (x2)), some (.int (x3)), none, none, none, none] [] S I R L 0 0) (hrec16 : ∀ (I : ax_I) (R : ax_R) (x0 : Int32) (x1 : Int32) (x2 : Int32) (x3 : Int32) (x4 : Int32) (x5 : Int32), ax_typ S R → I = I0 → R = R0 → rec16 I R x0 x1 x2 x3 x4 x5 = some out → ax_W X 8 16 [some (.int (x0)), some (.int (x1)), some (.int (x2)), some (.int (x3)), some (.int (x4)), some (.int (x5)), none, none] [] S I R L 0 0) : ∀ (I : ax_I) (R : ax_R) (x0 : Int32) (x1 : Int32) (x2 : Int32) (x3 : Int32) (x4 : Int32) (x5 : Int32) (y0 : Int32) (y1 : Int32) (y2 : Int32) (y3 : Int32), ax_typ S R → I = I0 → R = R0 → d_M_both_64 S rec4 rec16 I R x0 x1 x2 x3 x4 x5 y0 y1 y2 y3 = some out → ax_W X 8 64 [some (.int (x0)), some (.int (x1)), some (.int (x2)), some (.int (x3)), some (.int (x4)), some (.int (x5)), none, none] [.int (y0), .int (y1), .int (y2), .int (y3)] S I R L 0 0 := by
  rintro I R x0 x1 x2 x3 x4 x5 y0 y1 y2 y3 hty hI0 hR0 h
  subst hI0
  subst hR0
  unfold d_M_both_64 at h
  refine ax_iload_n (q := 65) hX dc_M_both_64 rfl rfl rfl ?_
  obtain ⟨r20, hr18, h⟩ := ax_bd h
  refine ax_kS (vs := [.int (x0)]) (rest := [.int (y0), .int (y1), .int (y2), .int (y3)]) (q := 68) hX dc_M_both_65 rfl mt_M_isTurned wl_M_123 wt_M_isTurned (c_M_isTurned l hty  hr18) rfl (by decide) rfl (Nat.le_of_ble_eq_true rfl) rfl rfl (by decide) (by decide) rfl ?_
  refine ax_if_eq (tgt := 75) (q := 71) hX dc_M_both_68 rfl (by decide) (fun z21 => ?_) (fun z21 => ?_)
  · rw [if_pos z21] at h
    refine ax_iconst (v := 3) (q := 76) hX dc_M_both_75 rfl (by decide) ?_
    exact (e_M_both_76 hX hF hS0 (rec4) (rec16) (hrec4) (hrec16) I R (x0) (x1) (x2) (x3) (x4) (x5) (3) (y0) (y1) (y2) (y3) hty  rfl rfl h)
  · rw [if_neg z21] at h
    refine ax_iconst (v := 2) (q := 72) hX dc_M_both_71 rfl (by decide) ?_
    refine ax_goto (tgt := 76) hX dc_M_both_72 (by decide) ?_
    exact (e_M_both_76 hX hF hS0 (rec4) (rec16) (hrec4) (hrec16) I R (x0) (x1) (x2) (x3) (x4) (x5) (2) (y0) (y1) (y2) (y3) hty  rfl rfl h)
def d_M_both_16 (S : ax_S) (rec4 : ax_I → ax_R → Int32 → Int32 → Int32 → Int32 → Option (Int32)) : Nat → ax_I → ax_R → Int32 → Int32 → Int32 → Int32 → Int32 → Int32 → Option (Int32)
  | 0, _, _, _, _, _, _, _, _ => none
  | n + 1, I, R, x0, x1, x2, x3, x4, x5 =>
    if 6 ≤ x5 then
      if x4 = 0 then
        d_M_both_150 S (rec4) I R (x0) (x1) (x2) (x3)
      else
        (d_M_isTurned S I R (x0)).bind fun r6 =>
        (d_M_isTurned S I R (x1)).bind fun r9 =>
        if (ax_b r6) = (ax_b r9) then
          d_M_both_139 S (rec4) I R (x0) (x1) (x2) (x3) (0)
        else
          d_M_both_139 S (rec4) I R (x0) (x1) (x2) (x3) (1)
    else
      (d_M_comes S I R (x0) (x5 - x5 / 2 * 2) (x5 / 2) (2) (3)).bind fun r13 =>
      (d_M_isTurned S I R (x0)).bind fun r16 =>
      if (ax_b r16) = 0 then
        d_M_both_64 S (rec4) (d_M_both_16 S rec4 n) I R (x0) (x1) (x2) (x3) (x4) (x5) (2) (r13 / 1000) (r13 - r13 / 1000 * 1000) (x1)
      else
        d_M_both_64 S (rec4) (d_M_both_16 S rec4 n) I R (x0) (x1) (x2) (x3) (x4) (x5) (3) (r13 / 1000) (r13 - r13 / 1000 * 1000) (x1)
set_option maxHeartbeats 1000000 in
theorem e_M_both_16 {l : Launch} {X : ax_X} {S : ax_S} {L : ax_L} {I0 : ax_I} {R0 : ax_R} {out : Int32} (hX : ax_ok X l "LossFreeToolsModel" b_M_both 8 (ax_rm 2 0 0)) (hF : ax_fin X (some .int) 0 0 (ax_of (ax_eq (some (.int out)) S I0 R0 L))) (hS0 : ax_S0 X = S) (rec4 : ax_I → ax_R → Int32 → Int32 → Int32 → Int32 → Option (Int32)) (hrec4 : ∀ (I : ax_I) (R : ax_R) (x0 : Int32) (x1 : Int32) (x2 : Int32) (x3 : Int32), ax_typ S R → I = I0 → R = R0 → rec4 I R x0 x1 x2 x3 = some out → ax_W X 8 4 [some (.int (x0)), some (.int (x1)), some (.int (x2)), some (.int (x3)), none, none, none, none] [] S I R L 0 0) : ∀ (n : Nat), ∀ (I : ax_I) (R : ax_R) (x0 : Int32) (x1 : Int32) (x2 : Int32) (x3 : Int32) (x4 : Int32) (x5 : Int32), ax_typ S R → I = I0 → R = R0 → d_M_both_16 S rec4 n I R x0 x1 x2 x3 x4 x5 = some out → ax_W X 8 16 [some (.int (x0)), some (.int (x1)), some (.int (x2)), some (.int (x3)), some (.int (x4)), some (.int (x5)), none, none] [] S I R L 0 0 := by
  intro n
  induction n with
  | zero =>
    rintro I R x0 x1 x2 x3 x4 x5 hty hI0 hR0 h
    cases h
  | succ n ih =>
    rintro I R x0 x1 x2 x3 x4 x5 hty hI0 hR0 h
    subst hI0
    subst hR0
    unfold d_M_both_16 at h
    refine ax_iload (q := 18) hX dc_M_both_16 rfl rfl ?_
    refine ax_bipush (v := 6) (q := 20) hX dc_M_both_18 rfl (by decide) ?_
    refine ax_icmp_ge (tgt := 118) (q := 23) hX dc_M_both_20 rfl (by decide) (fun z2 => ?_) (fun z2 => ?_)
    · rw [if_pos z2] at h
      refine ax_iload (q := 120) hX dc_M_both_118 rfl rfl ?_
      refine ax_if_eq (tgt := 150) (q := 123) hX dc_M_both_120 rfl (by decide) (fun z3 => ?_) (fun z3 => ?_)
      · rw [if_pos z3] at h
        exact ax_weak (ls' := [some (.int (x0)), some (.int (x1)), some (.int (x2)), some (.int (x3)), none, none, none, none]) (ax_fewP_s _ _ (by repeat (first | exact trivial | (refine And.intro rfl ?_)))) (e_M_both_150 hX hF hS0 (rec4) (hrec4) I R (x0) (x1) (x2) (x3) hty  rfl rfl h)
      · rw [if_neg z3] at h
        refine ax_iload_n (q := 124) hX dc_M_both_123 rfl rfl rfl ?_
        obtain ⟨r6, hr4, h⟩ := ax_bd h
        refine ax_kS (vs := [.int (x0)]) (rest := []) (q := 127) hX dc_M_both_124 rfl mt_M_isTurned wl_M_123 wt_M_isTurned (c_M_isTurned l hty  hr4) rfl (by decide) rfl (Nat.le_of_ble_eq_true rfl) rfl rfl (by decide) (by decide) rfl ?_
        refine ax_iload_n (q := 128) hX dc_M_both_127 rfl rfl rfl ?_
        obtain ⟨r9, hr7, h⟩ := ax_bd h
        refine ax_kS (vs := [.int (x1)]) (rest := [.int (ax_b r6)]) (q := 131) hX dc_M_both_128 rfl mt_M_isTurned wl_M_123 wt_M_isTurned (c_M_isTurned l hty  hr7) rfl (by decide) rfl (Nat.le_of_ble_eq_true rfl) rfl rfl (by decide) (by decide) rfl ?_
        refine ax_icmp_eq (tgt := 138) (q := 134) hX dc_M_both_131 rfl (by decide) (fun z10 => ?_) (fun z10 => ?_)
        · rw [if_pos z10] at h
          refine ax_iconst (v := 0) (q := 139) hX dc_M_both_138 rfl (by decide) ?_
          exact ax_weak (ls' := [some (.int (x0)), some (.int (x1)), some (.int (x2)), some (.int (x3)), none, none, none, none]) (ax_fewP_s _ _ (by repeat (first | exact trivial | (refine And.intro rfl ?_)))) (e_M_both_139 hX hF hS0 (rec4) (hrec4) I R (x0) (x1) (x2) (x3) (0) hty  rfl rfl h)
        · rw [if_neg z10] at h
          refine ax_iconst (v := 1) (q := 135) hX dc_M_both_134 rfl (by decide) ?_
          refine ax_goto (tgt := 139) hX dc_M_both_135 (by decide) ?_
          exact ax_weak (ls' := [some (.int (x0)), some (.int (x1)), some (.int (x2)), some (.int (x3)), none, none, none, none]) (ax_fewP_s _ _ (by repeat (first | exact trivial | (refine And.intro rfl ?_)))) (e_M_both_139 hX hF hS0 (rec4) (hrec4) I R (x0) (x1) (x2) (x3) (1) hty  rfl rfl h)
    · rw [if_neg z2] at h
      refine ax_iload_n (q := 24) hX dc_M_both_23 rfl rfl rfl ?_
      refine ax_iload (q := 26) hX dc_M_both_24 rfl rfl ?_
      refine ax_iconst (v := 2) (q := 27) hX dc_M_both_26 rfl (by decide) ?_
      refine ax_irem (q := 28) hX dc_M_both_27 rfl (by decide) ?_
      refine ax_iload (q := 30) hX dc_M_both_28 rfl rfl ?_
      refine ax_iconst (v := 2) (q := 31) hX dc_M_both_30 rfl (by decide) ?_
      refine ax_idiv (q := 32) hX dc_M_both_31 rfl (by decide) ?_
      refine ax_iconst (v := 2) (q := 33) hX dc_M_both_32 rfl (by decide) ?_
      refine ax_iconst (v := 3) (q := 34) hX dc_M_both_33 rfl (by decide) ?_
      obtain ⟨r13, hr11, h⟩ := ax_bd h
      refine ax_kS (vs := [.int (x0), .int (x5 - x5 / 2 * 2), .int (x5 / 2), .int (2), .int (3)]) (rest := []) (q := 37) hX dc_M_both_34 rfl mt_M_comes wl_M_119 wt_M_comes (c_M_comes l hty  hr11) rfl (by decide) rfl (Nat.le_of_ble_eq_true rfl) rfl rfl (by decide) (by decide) rfl ?_
      refine ax_istore (ls' := [some (.int (x0)), some (.int (x1)), some (.int (x2)), some (.int (x3)), some (.int (x4)), some (.int (x5)), some (.int (r13)), none]) (q := 39) hX dc_M_both_37 rfl (by decide) rfl ?_
      refine ax_iload_n (q := 40) hX dc_M_both_39 rfl rfl rfl ?_
      refine ax_iload (q := 42) hX dc_M_both_40 rfl rfl ?_
      refine ax_sipush (v := 1000) (q := 45) hX dc_M_both_42 rfl (by decide) ?_
      refine ax_irem (q := 46) hX dc_M_both_45 rfl (by decide) ?_
      refine ax_iload (q := 48) hX dc_M_both_46 rfl rfl ?_
      refine ax_sipush (v := 1000) (q := 51) hX dc_M_both_48 rfl (by decide) ?_
      refine ax_idiv (q := 52) hX dc_M_both_51 rfl (by decide) ?_
      refine ax_iload_n (q := 53) hX dc_M_both_52 rfl rfl rfl ?_
      obtain ⟨r16, hr14, h⟩ := ax_bd h
      refine ax_kS (vs := [.int (x0)]) (rest := [.int (r13 / 1000), .int (r13 - r13 / 1000 * 1000), .int (x1)]) (q := 56) hX dc_M_both_53 rfl mt_M_isTurned wl_M_123 wt_M_isTurned (c_M_isTurned l hty  hr14) rfl (by decide) rfl (Nat.le_of_ble_eq_true rfl) rfl rfl (by decide) (by decide) rfl ?_
      refine ax_if_eq (tgt := 63) (q := 59) hX dc_M_both_56 rfl (by decide) (fun z17 => ?_) (fun z17 => ?_)
      · rw [if_pos z17] at h
        refine ax_iconst (v := 2) (q := 64) hX dc_M_both_63 rfl (by decide) ?_
        exact ax_weak (ls' := [some (.int (x0)), some (.int (x1)), some (.int (x2)), some (.int (x3)), some (.int (x4)), some (.int (x5)), none, none]) (ax_fewP_s _ _ (by repeat (first | exact trivial | (refine And.intro rfl ?_)))) (e_M_both_64 hX hF hS0 (rec4) (d_M_both_16 S rec4 n) (hrec4) (ih) I R (x0) (x1) (x2) (x3) (x4) (x5) (2) (r13 / 1000) (r13 - r13 / 1000 * 1000) (x1) hty  rfl rfl h)
      · rw [if_neg z17] at h
        refine ax_iconst (v := 3) (q := 60) hX dc_M_both_59 rfl (by decide) ?_
        refine ax_goto (tgt := 64) hX dc_M_both_60 (by decide) ?_
        exact ax_weak (ls' := [some (.int (x0)), some (.int (x1)), some (.int (x2)), some (.int (x3)), some (.int (x4)), some (.int (x5)), none, none]) (ax_fewP_s _ _ (by repeat (first | exact trivial | (refine And.intro rfl ?_)))) (e_M_both_64 hX hF hS0 (rec4) (d_M_both_16 S rec4 n) (hrec4) (ih) I R (x0) (x1) (x2) (x3) (x4) (x5) (3) (r13 / 1000) (r13 - r13 / 1000 * 1000) (x1) hty  rfl rfl h)
def d_M_both_4 (S : ax_S) : Nat → ax_I → ax_R → Int32 → Int32 → Int32 → Int32 → Option (Int32)
  | 0, _, _, _, _, _, _ => none
  | n + 1, I, R, x0, x1, x2, x3 =>
    if 8 ≤ x3 then
      some (x2)
    else
      d_M_both_16 S (d_M_both_4 S  n) 5000 I R (x0) (x1) (x2) (x3) (1) (0)
set_option maxHeartbeats 1000000 in
theorem e_M_both_4 {l : Launch} {X : ax_X} {S : ax_S} {L : ax_L} {I0 : ax_I} {R0 : ax_R} {out : Int32} (hX : ax_ok X l "LossFreeToolsModel" b_M_both 8 (ax_rm 2 0 0)) (hF : ax_fin X (some .int) 0 0 (ax_of (ax_eq (some (.int out)) S I0 R0 L))) (hS0 : ax_S0 X = S) : ∀ (n : Nat), ∀ (I : ax_I) (R : ax_R) (x0 : Int32) (x1 : Int32) (x2 : Int32) (x3 : Int32), ax_typ S R → I = I0 → R = R0 → d_M_both_4 S  n I R x0 x1 x2 x3 = some out → ax_W X 8 4 [some (.int (x0)), some (.int (x1)), some (.int (x2)), some (.int (x3)), none, none, none, none] [] S I R L 0 0 := by
  intro n
  induction n with
  | zero =>
    rintro I R x0 x1 x2 x3 hty hI0 hR0 h
    cases h
  | succ n ih =>
    rintro I R x0 x1 x2 x3 hty hI0 hR0 h
    subst hI0
    subst hR0
    unfold d_M_both_4 at h
    refine ax_iload_n (q := 5) hX dc_M_both_4 rfl rfl rfl ?_
    refine ax_bipush (v := 8) (q := 7) hX dc_M_both_5 rfl (by decide) ?_
    refine ax_icmp_ge (tgt := 158) (q := 10) hX dc_M_both_7 rfl (by decide) (fun z1 => ?_) (fun z1 => ?_)
    · rw [if_pos z1] at h
      refine ax_iload_n (q := 159) hX dc_M_both_158 rfl rfl rfl ?_
      cases h
      exact ax_iret hX hF dc_M_both_159 rfl rfl (by decide) (by decide) ax_eq.mk (by rw [hS0]; exact fun _ _ z => z)
    · rw [if_neg z1] at h
      refine ax_iconst (v := 1) (q := 11) hX dc_M_both_10 rfl (by decide) ?_
      refine ax_istore (ls' := [some (.int (x0)), some (.int (x1)), some (.int (x2)), some (.int (x3)), some (.int (1)), none, none, none]) (q := 13) hX dc_M_both_11 rfl (by decide) rfl ?_
      refine ax_iconst (v := 0) (q := 14) hX dc_M_both_13 rfl (by decide) ?_
      refine ax_istore (ls' := [some (.int (x0)), some (.int (x1)), some (.int (x2)), some (.int (x3)), some (.int (1)), some (.int (0)), none, none]) (q := 16) hX dc_M_both_14 rfl (by decide) rfl ?_
      exact (e_M_both_16 hX hF hS0 (d_M_both_4 S  n) (ih) 5000 I R (x0) (x1) (x2) (x3) (1) (0) hty  rfl rfl h)
def d_M_both (S : ax_S) (I : ax_I) (R : ax_R) (x0 : Int32) (x1 : Int32) : Option (Int32) :=
  d_M_both_4 S  5000 I R (x0) (x1) ((-1)) (0)
set_option maxHeartbeats 1000000 in
theorem c_M_both (l : Launch) {S : ax_S} {I : ax_I} {R : ax_R} {L : ax_L} {x0 : Int32} {x1 : Int32} {out : Int32} (hty : ax_typ S R) (h : d_M_both S I R x0 x1 = some out) : ax_Met l y_M_both b_M_both 8 (some .int) (ax_rm 2 0 0) [.int x0, .int x1] S I R L (ax_eq (some (.int out)) S I R L) := by
  refine ax_enter (own := "LossFreeToolsModel") (by decide +kernel) rfl (ax_cats rfl) (Nat.le_of_ble_eq_true rfl) (fun X hX hF _ hS0 => ?_)
  show ax_W X 8 0 [some (.int (x0)), some (.int (x1)), none, none, none, none, none, none] [] S I R L 0 0
  unfold d_M_both at h
  refine ax_iconst (v := (-1)) (q := 1) hX dc_M_both_0 rfl (by decide) ?_
  refine ax_istore_n (ls' := [some (.int (x0)), some (.int (x1)), some (.int ((-1))), none, none, none, none, none]) (q := 2) hX dc_M_both_1 rfl rfl (by decide) rfl ?_
  refine ax_iconst (v := 0) (q := 3) hX dc_M_both_2 rfl (by decide) ?_
  refine ax_istore_n (ls' := [some (.int (x0)), some (.int (x1)), some (.int ((-1))), some (.int (0)), none, none, none, none]) (q := 4) hX dc_M_both_3 rfl rfl (by decide) rfl ?_
  exact (e_M_both_4 hX hF hS0  5000 I R (x0) (x1) ((-1)) (0) hty  rfl rfl h)
def d_M_join_638 (S : ax_S) (I : ax_I) (R : ax_R) (u0 : Nat) (y0 : Int32) (y1 : Int32) (w2 : Nat) : Option (Int32 × ax_I) :=
  (ax_ix S w2 (y1)).bind fun j315 =>
  (some (ax_up I w2 j315 (y0))).bind fun I317 =>
  (some (ax_up I317 u0 18 (0))).bind fun I319 =>
  (some (ax_up I319 u0 19 (0))).bind fun I321 =>
  (R u0 6).bind fun u323 =>
  (ax_ix S u323 (I321 u0 3)).bind fun j327 =>
  some (I321 u323 j327, I321)
set_option maxHeartbeats 1000000 in
theorem e_M_join_638 {l : Launch} {X : ax_X} {S : ax_S} {L : ax_L} {R0 : ax_R} {out : Int32 × ax_I} (hX : ax_ok X l "LossFreeToolsModel" b_M_join 12 (ax_rm 2 0 0)) (hF : ax_fin X (some .int) 0 0 (ax_of (ax_eq (some (.int out.1)) S out.2 R0 L))) (hS0 : ax_S0 X = S) : ∀ (I : ax_I) (R : ax_R) (u0 : Nat) (y0 : Int32) (y1 : Int32) (w2 : Nat), ax_typ S R → (S u0 = some (.inl 5)) → (∃ n, S w2 = some (.inr (0, n))) → R = R0 → d_M_join_638 S  I R u0 y0 y1 w2 = some out → ax_W X 12 638 [some (.ref u0), none, none, none, none, none, none, none, none, none, none, none] [.int (y0), .int (y1), .ref w2] S I R L 0 0 := by
  rintro I R u0 y0 y1 w2 hty hs0_ ⟨nw2_, hw2_⟩ hR0 h
  subst hR0
  unfold d_M_join_638 at h
  obtain ⟨j315, hj316, h⟩ := ax_bd h
  have hj316 := ax_ix_s hty hw2_ hj316
  obtain ⟨I317, e318, h⟩ := ax_bs h
  refine ax_iast (q := 639) hX j315 dc_M_join_638 rfl hw2_ hj316.1 hj316.2.1 hj316.2.2 e318 ?_
  refine ax_aload_n (q := 640) hX dc_M_join_639 rfl rfl rfl ?_
  refine ax_iconst (v := 0) (q := 641) hX dc_M_join_640 rfl (by decide) ?_
  obtain ⟨I319, e320, h⟩ := ax_bs h
  refine ax_putI (q := 644) hX dc_M_join_641 rfl fl_M_74 rfl hs0_ (fun z => by cases z) rfl rfl e320 ?_
  refine ax_aload_n (q := 645) hX dc_M_join_644 rfl rfl rfl ?_
  refine ax_iconst (v := 0) (q := 646) hX dc_M_join_645 rfl (by decide) ?_
  obtain ⟨I321, e322, h⟩ := ax_bs h
  refine ax_putI (q := 649) hX dc_M_join_646 rfl fl_M_77 rfl hs0_ (fun z => by cases z) rfl rfl e322 ?_
  refine ax_aload_n (q := 650) hX dc_M_join_649 rfl rfl rfl ?_
  obtain ⟨u323, hu324, h⟩ := ax_bd h
  obtain ⟨n326, hs325⟩ : ∃ n, S u323 = some (.inr (0, n)) := hty.1 _ _ _ _ hs0_ hu324
  refine ax_getR (q := 653) hX dc_M_join_650 rfl fl_M_16 rfl hs0_ hu324 ?_
  refine ax_aload_n (q := 654) hX dc_M_join_653 rfl rfl rfl ?_
  refine ax_getI (q := 657) hX dc_M_join_654 rfl fl_M_71 rfl hs0_ ?_
  obtain ⟨j327, hj328, h⟩ := ax_bd h
  have hj328 := ax_ix_s hty hs325 hj328
  refine ax_iald (q := 658) hX j327 dc_M_join_657 rfl hs325 hj328.1 hj328.2.1 hj328.2.2 ?_
  cases h
  exact ax_iret hX hF dc_M_join_658 rfl rfl (by decide) (by decide) ax_eq.mk (by rw [hS0]; exact fun _ _ z => z)
def d_M_join_611 (S : ax_S) (I : ax_I) (R : ax_R) (u0 : Nat) (x3 : Int32) (x4 : Int32) (y0 : Int32) (y1 : Int32) (w2 : Nat) : Option (Int32 × ax_I) :=
  (ax_ix S w2 (y1)).bind fun j300 =>
  (some (ax_up I w2 j300 (y0))).bind fun I302 =>
  (R u0 5).bind fun u304 =>
  if x3 = 0 then
    d_M_join_638 S  I302 R u0 (x4) (I302 u0 3) u304
  else
    (R u0 5).bind fun u309 =>
    (ax_ix S u309 (I302 u0 3)).bind fun j313 =>
    d_M_join_638 S  I302 R u0 (I302 u309 j313) (I302 u0 3) u304
set_option maxHeartbeats 1000000 in
theorem e_M_join_611 {l : Launch} {X : ax_X} {S : ax_S} {L : ax_L} {R0 : ax_R} {out : Int32 × ax_I} (hX : ax_ok X l "LossFreeToolsModel" b_M_join 12 (ax_rm 2 0 0)) (hF : ax_fin X (some .int) 0 0 (ax_of (ax_eq (some (.int out.1)) S out.2 R0 L))) (hS0 : ax_S0 X = S) : ∀ (I : ax_I) (R : ax_R) (u0 : Nat) (x3 : Int32) (x4 : Int32) (y0 : Int32) (y1 : Int32) (w2 : Nat), ax_typ S R → (S u0 = some (.inl 5)) → (∃ n, S w2 = some (.inr (0, n))) → R = R0 → d_M_join_611 S  I R u0 x3 x4 y0 y1 w2 = some out → ax_W X 12 611 [some (.ref u0), none, none, some (.int (x3)), some (.int (x4)), none, none, none, none, none, none, none] [.int (y0), .int (y1), .ref w2] S I R L 0 0 := by
  rintro I R u0 x3 x4 y0 y1 w2 hty hs0_ ⟨nw2_, hw2_⟩ hR0 h
  subst hR0
  unfold d_M_join_611 at h
  obtain ⟨j300, hj301, h⟩ := ax_bd h
  have hj301 := ax_ix_s hty hw2_ hj301
  obtain ⟨I302, e303, h⟩ := ax_bs h
  refine ax_iast (q := 612) hX j300 dc_M_join_611 rfl hw2_ hj301.1 hj301.2.1 hj301.2.2 e303 ?_
  refine ax_aload_n (q := 613) hX dc_M_join_612 rfl rfl rfl ?_
  obtain ⟨u304, hu305, h⟩ := ax_bd h
  obtain ⟨n307, hs306⟩ : ∃ n, S u304 = some (.inr (0, n)) := hty.1 _ _ _ _ hs0_ hu305
  refine ax_getR (q := 616) hX dc_M_join_613 rfl fl_M_13 rfl hs0_ hu305 ?_
  refine ax_aload_n (q := 617) hX dc_M_join_616 rfl rfl rfl ?_
  refine ax_getI (q := 620) hX dc_M_join_617 rfl fl_M_71 rfl hs0_ ?_
  refine ax_iload_n (q := 621) hX dc_M_join_620 rfl rfl rfl ?_
  refine ax_if_eq (tgt := 636) (q := 624) hX dc_M_join_621 rfl (by decide) (fun z308 => ?_) (fun z308 => ?_)
  · rw [if_pos z308] at h
    refine ax_iload (q := 638) hX dc_M_join_636 rfl rfl ?_
    exact ax_weak (ls' := [some (.ref u0), none, none, none, none, none, none, none, none, none, none, none]) (ax_fewP_s _ _ (by repeat (first | exact trivial | (refine And.intro rfl ?_)))) (e_M_join_638 hX hF hS0  I302 R u0 (x4) (I302 u0 3) u304 hty hs0_ ⟨n307, hs306⟩ rfl h)
  · rw [if_neg z308] at h
    refine ax_aload_n (q := 625) hX dc_M_join_624 rfl rfl rfl ?_
    obtain ⟨u309, hu310, h⟩ := ax_bd h
    obtain ⟨n312, hs311⟩ : ∃ n, S u309 = some (.inr (0, n)) := hty.1 _ _ _ _ hs0_ hu310
    refine ax_getR (q := 628) hX dc_M_join_625 rfl fl_M_13 rfl hs0_ hu310 ?_
    refine ax_aload_n (q := 629) hX dc_M_join_628 rfl rfl rfl ?_
    refine ax_getI (q := 632) hX dc_M_join_629 rfl fl_M_71 rfl hs0_ ?_
    obtain ⟨j313, hj314, h⟩ := ax_bd h
    have hj314 := ax_ix_s hty hs311 hj314
    refine ax_iald (q := 633) hX j313 dc_M_join_632 rfl hs311 hj314.1 hj314.2.1 hj314.2.2 ?_
    refine ax_goto (tgt := 638) hX dc_M_join_633 (by decide) ?_
    exact ax_weak (ls' := [some (.ref u0), none, none, none, none, none, none, none, none, none, none, none]) (ax_fewP_s _ _ (by repeat (first | exact trivial | (refine And.intro rfl ?_)))) (e_M_join_638 hX hF hS0  I302 R u0 (I302 u309 j313) (I302 u0 3) u304 hty hs0_ ⟨n307, hs306⟩ rfl h)
def d_M_join_485 (S : ax_S) : Nat → ax_I → ax_R → Nat → Int32 → Int32 → Int32 → Int32 → Int32 → Int32 → Option (Int32 × ax_I)
  | 0, _, _, _, _, _, _, _, _, _ => none
  | n + 1, I, R, u0, x2, x3, x4, x8, x9, x10 =>
    (R u0 7).bind fun u227 =>
    (ax_ix S u227 (x2)).bind fun j231 =>
    if (I u227 j231) ≤ x10 then
      (R u0 6).bind fun u234 =>
      (ax_ix S u234 (x2)).bind fun j238 =>
      (some (ax_up I u234 j238 (0))).bind fun I240 =>
      (R u0 7).bind fun u242 =>
      (ax_ix S u242 (x2)).bind fun j246 =>
      (some (ax_up I240 u242 j246 (0))).bind fun I248 =>
      (R u0 4).bind fun u250 =>
      if x3 = 0 then
        (R u0 4).bind fun u255 =>
        (ax_ix S u255 (I248 u0 3)).bind fun j259 =>
        d_M_join_611 S  I248 R u0 (x3) (x4) (I248 u255 j259) (I248 u0 3) u250
      else
        d_M_join_611 S  I248 R u0 (x3) (x4) (x4) (I248 u0 3) u250
    else
      (R u0 7).bind fun u261 =>
      (ax_ix S u261 (I u0 3)).bind fun j265 =>
      (d_M_moveNote S I R u0 ((20 * x2) + x10) ((20 * (I u0 3)) + (I u261 j265))).bind fun I269 =>
      (R u0 15).bind fun u270 =>
      (ax_ix S u270 ((20 * (I u0 3)) + (I u261 j265))).bind fun j274 =>
      (ax_ix S u270 ((20 * (I u0 3)) + (I u261 j265))).bind fun j276 =>
      (some (ax_up I269 u270 j276 ((I269 u270 j274) + x8))).bind fun I278 =>
      (R u0 16).bind fun u280 =>
      (ax_ix S u280 ((20 * (I u0 3)) + (I u261 j265))).bind fun j284 =>
      (ax_ix S u280 ((20 * (I u0 3)) + (I u261 j265))).bind fun j286 =>
      (some (ax_up I278 u280 j286 ((I278 u280 j284) + x9))).bind fun I288 =>
      (R u0 7).bind fun u290 =>
      (ax_ix S u290 (I288 u0 3)).bind fun j294 =>
      (ax_ix S u290 (I288 u0 3)).bind fun j296 =>
      (some (ax_up I288 u290 j296 ((I288 u290 j294) + 1))).bind fun I298 =>
      d_M_join_485 S  n I298 R u0 (x2) (x3) (x4) (x8) (x9) (x10 + 1)
set_option maxHeartbeats 1000000 in
theorem e_M_join_485 {l : Launch} {X : ax_X} {S : ax_S} {L : ax_L} {R0 : ax_R} {out : Int32 × ax_I} (hX : ax_ok X l "LossFreeToolsModel" b_M_join 12 (ax_rm 2 0 0)) (hF : ax_fin X (some .int) 0 0 (ax_of (ax_eq (some (.int out.1)) S out.2 R0 L))) (hS0 : ax_S0 X = S) : ∀ (n : Nat), ∀ (I : ax_I) (R : ax_R) (u0 : Nat) (x2 : Int32) (x3 : Int32) (x4 : Int32) (x8 : Int32) (x9 : Int32) (x10 : Int32), ax_typ S R → (S u0 = some (.inl 5)) → R = R0 → d_M_join_485 S  n I R u0 x2 x3 x4 x8 x9 x10 = some out → ax_W X 12 485 [some (.ref u0), none, some (.int (x2)), some (.int (x3)), some (.int (x4)), none, none, none, some (.int (x8)), some (.int (x9)), some (.int (x10)), none] [] S I R L 0 0 := by
  intro n
  induction n with
  | zero =>
    rintro I R u0 x2 x3 x4 x8 x9 x10 hty hs0_ hR0 h
    cases h
  | succ n ih =>
    rintro I R u0 x2 x3 x4 x8 x9 x10 hty hs0_ hR0 h
    subst hR0
    unfold d_M_join_485 at h
    refine ax_iload (q := 487) hX dc_M_join_485 rfl rfl ?_
    refine ax_aload_n (q := 488) hX dc_M_join_487 rfl rfl rfl ?_
    obtain ⟨u227, hu228, h⟩ := ax_bd h
    obtain ⟨n230, hs229⟩ : ∃ n, S u227 = some (.inr (0, n)) := hty.1 _ _ _ _ hs0_ hu228
    refine ax_getR (q := 491) hX dc_M_join_488 rfl fl_M_19 rfl hs0_ hu228 ?_
    refine ax_iload_n (q := 492) hX dc_M_join_491 rfl rfl rfl ?_
    obtain ⟨j231, hj232, h⟩ := ax_bd h
    have hj232 := ax_ix_s hty hs229 hj232
    refine ax_iald (q := 493) hX j231 dc_M_join_492 rfl hs229 hj232.1 hj232.2.1 hj232.2.2 ?_
    refine ax_icmp_ge (tgt := 571) (q := 496) hX dc_M_join_493 rfl (by decide) (fun z233 => ?_) (fun z233 => ?_)
    · rw [if_pos z233] at h
      refine ax_aload_n (q := 572) hX dc_M_join_571 rfl rfl rfl ?_
      obtain ⟨u234, hu235, h⟩ := ax_bd h
      obtain ⟨n237, hs236⟩ : ∃ n, S u234 = some (.inr (0, n)) := hty.1 _ _ _ _ hs0_ hu235
      refine ax_getR (q := 575) hX dc_M_join_572 rfl fl_M_16 rfl hs0_ hu235 ?_
      refine ax_iload_n (q := 576) hX dc_M_join_575 rfl rfl rfl ?_
      refine ax_iconst (v := 0) (q := 577) hX dc_M_join_576 rfl (by decide) ?_
      obtain ⟨j238, hj239, h⟩ := ax_bd h
      have hj239 := ax_ix_s hty hs236 hj239
      obtain ⟨I240, e241, h⟩ := ax_bs h
      refine ax_iast (q := 578) hX j238 dc_M_join_577 rfl hs236 hj239.1 hj239.2.1 hj239.2.2 e241 ?_
      refine ax_aload_n (q := 579) hX dc_M_join_578 rfl rfl rfl ?_
      obtain ⟨u242, hu243, h⟩ := ax_bd h
      obtain ⟨n245, hs244⟩ : ∃ n, S u242 = some (.inr (0, n)) := hty.1 _ _ _ _ hs0_ hu243
      refine ax_getR (q := 582) hX dc_M_join_579 rfl fl_M_19 rfl hs0_ hu243 ?_
      refine ax_iload_n (q := 583) hX dc_M_join_582 rfl rfl rfl ?_
      refine ax_iconst (v := 0) (q := 584) hX dc_M_join_583 rfl (by decide) ?_
      obtain ⟨j246, hj247, h⟩ := ax_bd h
      have hj247 := ax_ix_s hty hs244 hj247
      obtain ⟨I248, e249, h⟩ := ax_bs h
      refine ax_iast (q := 585) hX j246 dc_M_join_584 rfl hs244 hj247.1 hj247.2.1 hj247.2.2 e249 ?_
      refine ax_aload_n (q := 586) hX dc_M_join_585 rfl rfl rfl ?_
      obtain ⟨u250, hu251, h⟩ := ax_bd h
      obtain ⟨n253, hs252⟩ : ∃ n, S u250 = some (.inr (0, n)) := hty.1 _ _ _ _ hs0_ hu251
      refine ax_getR (q := 589) hX dc_M_join_586 rfl fl_M_7 rfl hs0_ hu251 ?_
      refine ax_aload_n (q := 590) hX dc_M_join_589 rfl rfl rfl ?_
      refine ax_getI (q := 593) hX dc_M_join_590 rfl fl_M_71 rfl hs0_ ?_
      refine ax_iload_n (q := 594) hX dc_M_join_593 rfl rfl rfl ?_
      refine ax_if_eq (tgt := 602) (q := 597) hX dc_M_join_594 rfl (by decide) (fun z254 => ?_) (fun z254 => ?_)
      · rw [if_pos z254] at h
        refine ax_aload_n (q := 603) hX dc_M_join_602 rfl rfl rfl ?_
        obtain ⟨u255, hu256, h⟩ := ax_bd h
        obtain ⟨n258, hs257⟩ : ∃ n, S u255 = some (.inr (0, n)) := hty.1 _ _ _ _ hs0_ hu256
        refine ax_getR (q := 606) hX dc_M_join_603 rfl fl_M_7 rfl hs0_ hu256 ?_
        refine ax_aload_n (q := 607) hX dc_M_join_606 rfl rfl rfl ?_
        refine ax_getI (q := 610) hX dc_M_join_607 rfl fl_M_71 rfl hs0_ ?_
        obtain ⟨j259, hj260, h⟩ := ax_bd h
        have hj260 := ax_ix_s hty hs257 hj260
        refine ax_iald (q := 611) hX j259 dc_M_join_610 rfl hs257 hj260.1 hj260.2.1 hj260.2.2 ?_
        exact ax_weak (ls' := [some (.ref u0), none, none, some (.int (x3)), some (.int (x4)), none, none, none, none, none, none, none]) (ax_fewP_s _ _ (by repeat (first | exact trivial | (refine And.intro rfl ?_)))) (e_M_join_611 hX hF hS0  I248 R u0 (x3) (x4) (I248 u255 j259) (I248 u0 3) u250 hty hs0_ ⟨n253, hs252⟩ rfl h)
      · rw [if_neg z254] at h
        refine ax_iload (q := 599) hX dc_M_join_597 rfl rfl ?_
        refine ax_goto (tgt := 611) hX dc_M_join_599 (by decide) ?_
        exact ax_weak (ls' := [some (.ref u0), none, none, some (.int (x3)), some (.int (x4)), none, none, none, none, none, none, none]) (ax_fewP_s _ _ (by repeat (first | exact trivial | (refine And.intro rfl ?_)))) (e_M_join_611 hX hF hS0  I248 R u0 (x3) (x4) (x4) (I248 u0 3) u250 hty hs0_ ⟨n253, hs252⟩ rfl h)
    · rw [if_neg z233] at h
      refine ax_bipush (v := 20) (q := 498) hX dc_M_join_496 rfl (by decide) ?_
      refine ax_aload_n (q := 499) hX dc_M_join_498 rfl rfl rfl ?_
      refine ax_getI (q := 502) hX dc_M_join_499 rfl fl_M_71 rfl hs0_ ?_
      refine ax_imul (q := 503) hX dc_M_join_502 rfl ?_
      refine ax_aload_n (q := 504) hX dc_M_join_503 rfl rfl rfl ?_
      obtain ⟨u261, hu262, h⟩ := ax_bd h
      obtain ⟨n264, hs263⟩ : ∃ n, S u261 = some (.inr (0, n)) := hty.1 _ _ _ _ hs0_ hu262
      refine ax_getR (q := 507) hX dc_M_join_504 rfl fl_M_19 rfl hs0_ hu262 ?_
      refine ax_aload_n (q := 508) hX dc_M_join_507 rfl rfl rfl ?_
      refine ax_getI (q := 511) hX dc_M_join_508 rfl fl_M_71 rfl hs0_ ?_
      obtain ⟨j265, hj266, h⟩ := ax_bd h
      have hj266 := ax_ix_s hty hs263 hj266
      refine ax_iald (q := 512) hX j265 dc_M_join_511 rfl hs263 hj266.1 hj266.2.1 hj266.2.2 ?_
      refine ax_iadd (q := 513) hX dc_M_join_512 rfl ?_
      refine ax_istore (ls' := [some (.ref u0), none, some (.int (x2)), some (.int (x3)), some (.int (x4)), none, none, none, some (.int (x8)), some (.int (x9)), some (.int (x10)), some (.int ((20 * (I u0 3)) + (I u261 j265)))]) (q := 515) hX dc_M_join_513 rfl (by decide) rfl ?_
      refine ax_aload_n (q := 516) hX dc_M_join_515 rfl rfl rfl ?_
      refine ax_bipush (v := 20) (q := 518) hX dc_M_join_516 rfl (by decide) ?_
      refine ax_iload_n (q := 519) hX dc_M_join_518 rfl rfl rfl ?_
      refine ax_imul (q := 520) hX dc_M_join_519 rfl ?_
      refine ax_iload (q := 522) hX dc_M_join_520 rfl rfl ?_
      refine ax_iadd (q := 523) hX dc_M_join_522 rfl ?_
      refine ax_iload (q := 525) hX dc_M_join_523 rfl rfl ?_
      obtain ⟨I269, hr267, h⟩ := ax_bd h
      refine ax_kV (vs := [.int ((20 * x2) + x10), .int ((20 * (I u0 3)) + (I u261 j265))]) (rest := []) (q := 528) hX dc_M_join_525 rfl mt_M_moveNote wl_M_116 wi_M_moveNote ws_M_moveNote hs0_ rfl (c_M_moveNote l hty hs0_ hr267) rfl (by decide) rfl (Nat.le_of_ble_eq_true rfl) rfl rfl (by decide) (by decide) rfl ?_
      refine ax_aload_n (q := 529) hX dc_M_join_528 rfl rfl rfl ?_
      obtain ⟨u270, hu271, h⟩ := ax_bd h
      obtain ⟨n273, hs272⟩ : ∃ n, S u270 = some (.inr (0, n)) := hty.1 _ _ _ _ hs0_ hu271
      refine ax_getR (q := 532) hX dc_M_join_529 rfl fl_M_43 rfl hs0_ hu271 ?_
      refine ax_iload (q := 534) hX dc_M_join_532 rfl rfl ?_
      refine ax_dup2 (q := 535) hX dc_M_join_534 rfl rfl rfl ?_
      obtain ⟨j274, hj275, h⟩ := ax_bd h
      have hj275 := ax_ix_s hty hs272 hj275
      refine ax_iald (q := 536) hX j274 dc_M_join_535 rfl hs272 hj275.1 hj275.2.1 hj275.2.2 ?_
      refine ax_iload (q := 538) hX dc_M_join_536 rfl rfl ?_
      refine ax_iadd (q := 539) hX dc_M_join_538 rfl ?_
      obtain ⟨j276, hj277, h⟩ := ax_bd h
      have hj277 := ax_ix_s hty hs272 hj277
      obtain ⟨I278, e279, h⟩ := ax_bs h
      refine ax_iast (q := 540) hX j276 dc_M_join_539 rfl hs272 hj277.1 hj277.2.1 hj277.2.2 e279 ?_
      refine ax_aload_n (q := 541) hX dc_M_join_540 rfl rfl rfl ?_
      obtain ⟨u280, hu281, h⟩ := ax_bd h
      obtain ⟨n283, hs282⟩ : ∃ n, S u280 = some (.inr (0, n)) := hty.1 _ _ _ _ hs0_ hu281
      refine ax_getR (q := 544) hX dc_M_join_541 rfl fl_M_46 rfl hs0_ hu281 ?_
      refine ax_iload (q := 546) hX dc_M_join_544 rfl rfl ?_
      refine ax_dup2 (q := 547) hX dc_M_join_546 rfl rfl rfl ?_
      obtain ⟨j284, hj285, h⟩ := ax_bd h
      have hj285 := ax_ix_s hty hs282 hj285
      refine ax_iald (q := 548) hX j284 dc_M_join_547 rfl hs282 hj285.1 hj285.2.1 hj285.2.2 ?_
      refine ax_iload (q := 550) hX dc_M_join_548 rfl rfl ?_
      refine ax_iadd (q := 551) hX dc_M_join_550 rfl ?_
      obtain ⟨j286, hj287, h⟩ := ax_bd h
      have hj287 := ax_ix_s hty hs282 hj287
      obtain ⟨I288, e289, h⟩ := ax_bs h
      refine ax_iast (q := 552) hX j286 dc_M_join_551 rfl hs282 hj287.1 hj287.2.1 hj287.2.2 e289 ?_
      refine ax_aload_n (q := 553) hX dc_M_join_552 rfl rfl rfl ?_
      obtain ⟨u290, hu291, h⟩ := ax_bd h
      obtain ⟨n293, hs292⟩ : ∃ n, S u290 = some (.inr (0, n)) := hty.1 _ _ _ _ hs0_ hu291
      refine ax_getR (q := 556) hX dc_M_join_553 rfl fl_M_19 rfl hs0_ hu291 ?_
      refine ax_aload_n (q := 557) hX dc_M_join_556 rfl rfl rfl ?_
      refine ax_getI (q := 560) hX dc_M_join_557 rfl fl_M_71 rfl hs0_ ?_
      refine ax_dup2 (q := 561) hX dc_M_join_560 rfl rfl rfl ?_
      obtain ⟨j294, hj295, h⟩ := ax_bd h
      have hj295 := ax_ix_s hty hs292 hj295
      refine ax_iald (q := 562) hX j294 dc_M_join_561 rfl hs292 hj295.1 hj295.2.1 hj295.2.2 ?_
      refine ax_iconst (v := 1) (q := 563) hX dc_M_join_562 rfl (by decide) ?_
      refine ax_iadd (q := 564) hX dc_M_join_563 rfl ?_
      obtain ⟨j296, hj297, h⟩ := ax_bd h
      have hj297 := ax_ix_s hty hs292 hj297
      obtain ⟨I298, e299, h⟩ := ax_bs h
      refine ax_iast (q := 565) hX j296 dc_M_join_564 rfl hs292 hj297.1 hj297.2.1 hj297.2.2 e299 ?_
      refine ax_iinc (v := x10 + 1) (ls' := [some (.ref u0), none, some (.int (x2)), some (.int (x3)), some (.int (x4)), none, none, none, some (.int (x8)), some (.int (x9)), some (.int (x10 + 1)), some (.int ((20 * (I u0 3)) + (I u261 j265)))]) (q := 568) hX dc_M_join_565 rfl rfl rfl (by decide) rfl ?_
      refine ax_goto (tgt := 485) hX dc_M_join_568 (by decide) ?_
      exact ax_weak (ls' := [some (.ref u0), none, some (.int (x2)), some (.int (x3)), some (.int (x4)), none, none, none, some (.int (x8)), some (.int (x9)), some (.int (x10 + 1)), none]) (ax_fewP_s _ _ (by repeat (first | exact trivial | (refine And.intro rfl ?_)))) (ih I298 R u0 (x2) (x3) (x4) (x8) (x9) (x10 + 1) hty hs0_ rfl h)
def d_M_join_400 (S : ax_S) : Nat → ax_I → ax_R → Nat → Int32 → Int32 → Int32 → Int32 → Int32 → Int32 → Option (Int32 × ax_I)
  | 0, _, _, _, _, _, _, _, _, _ => none
  | n + 1, I, R, u0, x2, x3, x4, x8, x9, x10 =>
    (R u0 6).bind fun u178 =>
    (ax_ix S u178 (x2)).bind fun j182 =>
    if (I u178 j182) ≤ x10 then
      d_M_join_485 S  5000 I R u0 (x2) (x3) (x4) (x8) (x9) (0)
    else
      (R u0 6).bind fun u185 =>
      (ax_ix S u185 (I u0 3)).bind fun j189 =>
      (d_M_tileAt S I R u0 (I u185 j189)).bind fun r193 =>
      (d_M_move S I R u0 ((40 * x2) + x10) (r193)).bind fun I196 =>
      (R u0 8).bind fun u197 =>
      (ax_ix S u197 (r193)).bind fun j201 =>
      (ax_ix S u197 (r193)).bind fun j203 =>
      (some (ax_up I196 u197 j203 ((I196 u197 j201) + x8))).bind fun I205 =>
      (R u0 9).bind fun u207 =>
      (ax_ix S u207 (r193)).bind fun j211 =>
      (ax_ix S u207 (r193)).bind fun j213 =>
      (some (ax_up I205 u207 j213 ((I205 u207 j211) + x9))).bind fun I215 =>
      (R u0 6).bind fun u217 =>
      (ax_ix S u217 (I215 u0 3)).bind fun j221 =>
      (ax_ix S u217 (I215 u0 3)).bind fun j223 =>
      (some (ax_up I215 u217 j223 ((I215 u217 j221) + 1))).bind fun I225 =>
      d_M_join_400 S  n I225 R u0 (x2) (x3) (x4) (x8) (x9) (x10 + 1)
set_option maxHeartbeats 1000000 in
theorem e_M_join_400 {l : Launch} {X : ax_X} {S : ax_S} {L : ax_L} {R0 : ax_R} {out : Int32 × ax_I} (hX : ax_ok X l "LossFreeToolsModel" b_M_join 12 (ax_rm 2 0 0)) (hF : ax_fin X (some .int) 0 0 (ax_of (ax_eq (some (.int out.1)) S out.2 R0 L))) (hS0 : ax_S0 X = S) : ∀ (n : Nat), ∀ (I : ax_I) (R : ax_R) (u0 : Nat) (x2 : Int32) (x3 : Int32) (x4 : Int32) (x8 : Int32) (x9 : Int32) (x10 : Int32), ax_typ S R → (S u0 = some (.inl 5)) → R = R0 → d_M_join_400 S  n I R u0 x2 x3 x4 x8 x9 x10 = some out → ax_W X 12 400 [some (.ref u0), none, some (.int (x2)), some (.int (x3)), some (.int (x4)), none, none, none, some (.int (x8)), some (.int (x9)), some (.int (x10)), none] [] S I R L 0 0 := by
  intro n
  induction n with
  | zero =>
    rintro I R u0 x2 x3 x4 x8 x9 x10 hty hs0_ hR0 h
    cases h
  | succ n ih =>
    rintro I R u0 x2 x3 x4 x8 x9 x10 hty hs0_ hR0 h
    subst hR0
    unfold d_M_join_400 at h
    refine ax_iload (q := 402) hX dc_M_join_400 rfl rfl ?_
    refine ax_aload_n (q := 403) hX dc_M_join_402 rfl rfl rfl ?_
    obtain ⟨u178, hu179, h⟩ := ax_bd h
    obtain ⟨n181, hs180⟩ : ∃ n, S u178 = some (.inr (0, n)) := hty.1 _ _ _ _ hs0_ hu179
    refine ax_getR (q := 406) hX dc_M_join_403 rfl fl_M_16 rfl hs0_ hu179 ?_
    refine ax_iload_n (q := 407) hX dc_M_join_406 rfl rfl rfl ?_
    obtain ⟨j182, hj183, h⟩ := ax_bd h
    have hj183 := ax_ix_s hty hs180 hj183
    refine ax_iald (q := 408) hX j182 dc_M_join_407 rfl hs180 hj183.1 hj183.2.1 hj183.2.2 ?_
    refine ax_icmp_ge (tgt := 482) (q := 411) hX dc_M_join_408 rfl (by decide) (fun z184 => ?_) (fun z184 => ?_)
    · rw [if_pos z184] at h
      refine ax_iconst (v := 0) (q := 483) hX dc_M_join_482 rfl (by decide) ?_
      refine ax_istore (ls' := [some (.ref u0), none, some (.int (x2)), some (.int (x3)), some (.int (x4)), none, none, none, some (.int (x8)), some (.int (x9)), some (.int (0)), none]) (q := 485) hX dc_M_join_483 rfl (by decide) rfl ?_
      exact (e_M_join_485 hX hF hS0  5000 I R u0 (x2) (x3) (x4) (x8) (x9) (0) hty hs0_ rfl h)
    · rw [if_neg z184] at h
      refine ax_aload_n (q := 412) hX dc_M_join_411 rfl rfl rfl ?_
      refine ax_aload_n (q := 413) hX dc_M_join_412 rfl rfl rfl ?_
      obtain ⟨u185, hu186, h⟩ := ax_bd h
      obtain ⟨n188, hs187⟩ : ∃ n, S u185 = some (.inr (0, n)) := hty.1 _ _ _ _ hs0_ hu186
      refine ax_getR (q := 416) hX dc_M_join_413 rfl fl_M_16 rfl hs0_ hu186 ?_
      refine ax_aload_n (q := 417) hX dc_M_join_416 rfl rfl rfl ?_
      refine ax_getI (q := 420) hX dc_M_join_417 rfl fl_M_71 rfl hs0_ ?_
      obtain ⟨j189, hj190, h⟩ := ax_bd h
      have hj190 := ax_ix_s hty hs187 hj190
      refine ax_iald (q := 421) hX j189 dc_M_join_420 rfl hs187 hj190.1 hj190.2.1 hj190.2.2 ?_
      obtain ⟨r193, hr191, h⟩ := ax_bd h
      refine ax_kV (vs := [.int (I u185 j189)]) (rest := []) (q := 424) hX dc_M_join_421 rfl mt_M_tileAt wl_M_92 wi_M_tileAt ws_M_tileAt hs0_ rfl (c_M_tileAt l hty hs0_ hr191) rfl (by decide) rfl (Nat.le_of_ble_eq_true rfl) rfl rfl (by decide) (by decide) rfl ?_
      refine ax_istore (ls' := [some (.ref u0), none, some (.int (x2)), some (.int (x3)), some (.int (x4)), none, none, none, some (.int (x8)), some (.int (x9)), some (.int (x10)), some (.int (r193))]) (q := 426) hX dc_M_join_424 rfl (by decide) rfl ?_
      refine ax_aload_n (q := 427) hX dc_M_join_426 rfl rfl rfl ?_
      refine ax_bipush (v := 40) (q := 429) hX dc_M_join_427 rfl (by decide) ?_
      refine ax_iload_n (q := 430) hX dc_M_join_429 rfl rfl rfl ?_
      refine ax_imul (q := 431) hX dc_M_join_430 rfl ?_
      refine ax_iload (q := 433) hX dc_M_join_431 rfl rfl ?_
      refine ax_iadd (q := 434) hX dc_M_join_433 rfl ?_
      refine ax_iload (q := 436) hX dc_M_join_434 rfl rfl ?_
      obtain ⟨I196, hr194, h⟩ := ax_bd h
      refine ax_kV (vs := [.int ((40 * x2) + x10), .int (r193)]) (rest := []) (q := 439) hX dc_M_join_436 rfl mt_M_move wl_M_112 wi_M_move ws_M_move hs0_ rfl (c_M_move l hty hs0_ hr194) rfl (by decide) rfl (Nat.le_of_ble_eq_true rfl) rfl rfl (by decide) (by decide) rfl ?_
      refine ax_aload_n (q := 440) hX dc_M_join_439 rfl rfl rfl ?_
      obtain ⟨u197, hu198, h⟩ := ax_bd h
      obtain ⟨n200, hs199⟩ : ∃ n, S u197 = some (.inr (0, n)) := hty.1 _ _ _ _ hs0_ hu198
      refine ax_getR (q := 443) hX dc_M_join_440 rfl fl_M_22 rfl hs0_ hu198 ?_
      refine ax_iload (q := 445) hX dc_M_join_443 rfl rfl ?_
      refine ax_dup2 (q := 446) hX dc_M_join_445 rfl rfl rfl ?_
      obtain ⟨j201, hj202, h⟩ := ax_bd h
      have hj202 := ax_ix_s hty hs199 hj202
      refine ax_iald (q := 447) hX j201 dc_M_join_446 rfl hs199 hj202.1 hj202.2.1 hj202.2.2 ?_
      refine ax_iload (q := 449) hX dc_M_join_447 rfl rfl ?_
      refine ax_iadd (q := 450) hX dc_M_join_449 rfl ?_
      obtain ⟨j203, hj204, h⟩ := ax_bd h
      have hj204 := ax_ix_s hty hs199 hj204
      obtain ⟨I205, e206, h⟩ := ax_bs h
      refine ax_iast (q := 451) hX j203 dc_M_join_450 rfl hs199 hj204.1 hj204.2.1 hj204.2.2 e206 ?_
      refine ax_aload_n (q := 452) hX dc_M_join_451 rfl rfl rfl ?_
      obtain ⟨u207, hu208, h⟩ := ax_bd h
      obtain ⟨n210, hs209⟩ : ∃ n, S u207 = some (.inr (0, n)) := hty.1 _ _ _ _ hs0_ hu208
      refine ax_getR (q := 455) hX dc_M_join_452 rfl fl_M_25 rfl hs0_ hu208 ?_
      refine ax_iload (q := 457) hX dc_M_join_455 rfl rfl ?_
      refine ax_dup2 (q := 458) hX dc_M_join_457 rfl rfl rfl ?_
      obtain ⟨j211, hj212, h⟩ := ax_bd h
      have hj212 := ax_ix_s hty hs209 hj212
      refine ax_iald (q := 459) hX j211 dc_M_join_458 rfl hs209 hj212.1 hj212.2.1 hj212.2.2 ?_
      refine ax_iload (q := 461) hX dc_M_join_459 rfl rfl ?_
      refine ax_iadd (q := 462) hX dc_M_join_461 rfl ?_
      obtain ⟨j213, hj214, h⟩ := ax_bd h
      have hj214 := ax_ix_s hty hs209 hj214
      obtain ⟨I215, e216, h⟩ := ax_bs h
      refine ax_iast (q := 463) hX j213 dc_M_join_462 rfl hs209 hj214.1 hj214.2.1 hj214.2.2 e216 ?_
      refine ax_aload_n (q := 464) hX dc_M_join_463 rfl rfl rfl ?_
      obtain ⟨u217, hu218, h⟩ := ax_bd h
      obtain ⟨n220, hs219⟩ : ∃ n, S u217 = some (.inr (0, n)) := hty.1 _ _ _ _ hs0_ hu218
      refine ax_getR (q := 467) hX dc_M_join_464 rfl fl_M_16 rfl hs0_ hu218 ?_
      refine ax_aload_n (q := 468) hX dc_M_join_467 rfl rfl rfl ?_
      refine ax_getI (q := 471) hX dc_M_join_468 rfl fl_M_71 rfl hs0_ ?_
      refine ax_dup2 (q := 472) hX dc_M_join_471 rfl rfl rfl ?_
      obtain ⟨j221, hj222, h⟩ := ax_bd h
      have hj222 := ax_ix_s hty hs219 hj222
      refine ax_iald (q := 473) hX j221 dc_M_join_472 rfl hs219 hj222.1 hj222.2.1 hj222.2.2 ?_
      refine ax_iconst (v := 1) (q := 474) hX dc_M_join_473 rfl (by decide) ?_
      refine ax_iadd (q := 475) hX dc_M_join_474 rfl ?_
      obtain ⟨j223, hj224, h⟩ := ax_bd h
      have hj224 := ax_ix_s hty hs219 hj224
      obtain ⟨I225, e226, h⟩ := ax_bs h
      refine ax_iast (q := 476) hX j223 dc_M_join_475 rfl hs219 hj224.1 hj224.2.1 hj224.2.2 e226 ?_
      refine ax_iinc (v := x10 + 1) (ls' := [some (.ref u0), none, some (.int (x2)), some (.int (x3)), some (.int (x4)), none, none, none, some (.int (x8)), some (.int (x9)), some (.int (x10 + 1)), some (.int (r193))]) (q := 479) hX dc_M_join_476 rfl rfl rfl (by decide) rfl ?_
      refine ax_goto (tgt := 400) hX dc_M_join_479 (by decide) ?_
      exact ax_weak (ls' := [some (.ref u0), none, some (.int (x2)), some (.int (x3)), some (.int (x4)), none, none, none, some (.int (x8)), some (.int (x9)), some (.int (x10 + 1)), none]) (ax_fewP_s _ _ (by repeat (first | exact trivial | (refine And.intro rfl ?_)))) (ih I225 R u0 (x2) (x3) (x4) (x8) (x9) (x10 + 1) hty hs0_ rfl h)
def d_M_join_345 (S : ax_S) : Nat → ax_I → ax_R → Nat → Int32 → Int32 → Int32 → Int32 → Int32 → Int32 → Int32 → Int32 → Option (Int32 × ax_I)
  | 0, _, _, _, _, _, _, _, _, _, _, _ => none
  | n + 1, I, R, u0, x2, x3, x4, x6, x7, x8, x9, x10 =>
    (R u0 7).bind fun u151 =>
    (ax_ix S u151 (I u0 3)).bind fun j155 =>
    if ((20 * (I u0 3)) + (I u151 j155)) ≤ x10 then
      d_M_join_400 S  5000 I R u0 (x2) (x3) (x4) (x8) (x9) (0)
    else
      (R u0 15).bind fun u158 =>
      (ax_ix S u158 (x10)).bind fun j162 =>
      (ax_ix S u158 (x10)).bind fun j164 =>
      (some (ax_up I u158 j164 ((I u158 j162) + x6))).bind fun I166 =>
      (R u0 16).bind fun u168 =>
      (ax_ix S u168 (x10)).bind fun j172 =>
      (ax_ix S u168 (x10)).bind fun j174 =>
      (some (ax_up I166 u168 j174 ((I166 u168 j172) + x7))).bind fun I176 =>
      d_M_join_345 S  n I176 R u0 (x2) (x3) (x4) (x6) (x7) (x8) (x9) (x10 + 1)
set_option maxHeartbeats 1000000 in
theorem e_M_join_345 {l : Launch} {X : ax_X} {S : ax_S} {L : ax_L} {R0 : ax_R} {out : Int32 × ax_I} (hX : ax_ok X l "LossFreeToolsModel" b_M_join 12 (ax_rm 2 0 0)) (hF : ax_fin X (some .int) 0 0 (ax_of (ax_eq (some (.int out.1)) S out.2 R0 L))) (hS0 : ax_S0 X = S) : ∀ (n : Nat), ∀ (I : ax_I) (R : ax_R) (u0 : Nat) (x2 : Int32) (x3 : Int32) (x4 : Int32) (x6 : Int32) (x7 : Int32) (x8 : Int32) (x9 : Int32) (x10 : Int32), ax_typ S R → (S u0 = some (.inl 5)) → R = R0 → d_M_join_345 S  n I R u0 x2 x3 x4 x6 x7 x8 x9 x10 = some out → ax_W X 12 345 [some (.ref u0), none, some (.int (x2)), some (.int (x3)), some (.int (x4)), none, some (.int (x6)), some (.int (x7)), some (.int (x8)), some (.int (x9)), some (.int (x10)), none] [] S I R L 0 0 := by
  intro n
  induction n with
  | zero =>
    rintro I R u0 x2 x3 x4 x6 x7 x8 x9 x10 hty hs0_ hR0 h
    cases h
  | succ n ih =>
    rintro I R u0 x2 x3 x4 x6 x7 x8 x9 x10 hty hs0_ hR0 h
    subst hR0
    unfold d_M_join_345 at h
    refine ax_iload (q := 347) hX dc_M_join_345 rfl rfl ?_
    refine ax_bipush (v := 20) (q := 349) hX dc_M_join_347 rfl (by decide) ?_
    refine ax_aload_n (q := 350) hX dc_M_join_349 rfl rfl rfl ?_
    refine ax_getI (q := 353) hX dc_M_join_350 rfl fl_M_71 rfl hs0_ ?_
    refine ax_imul (q := 354) hX dc_M_join_353 rfl ?_
    refine ax_aload_n (q := 355) hX dc_M_join_354 rfl rfl rfl ?_
    obtain ⟨u151, hu152, h⟩ := ax_bd h
    obtain ⟨n154, hs153⟩ : ∃ n, S u151 = some (.inr (0, n)) := hty.1 _ _ _ _ hs0_ hu152
    refine ax_getR (q := 358) hX dc_M_join_355 rfl fl_M_19 rfl hs0_ hu152 ?_
    refine ax_aload_n (q := 359) hX dc_M_join_358 rfl rfl rfl ?_
    refine ax_getI (q := 362) hX dc_M_join_359 rfl fl_M_71 rfl hs0_ ?_
    obtain ⟨j155, hj156, h⟩ := ax_bd h
    have hj156 := ax_ix_s hty hs153 hj156
    refine ax_iald (q := 363) hX j155 dc_M_join_362 rfl hs153 hj156.1 hj156.2.1 hj156.2.2 ?_
    refine ax_iadd (q := 364) hX dc_M_join_363 rfl ?_
    refine ax_icmp_ge (tgt := 397) (q := 367) hX dc_M_join_364 rfl (by decide) (fun z157 => ?_) (fun z157 => ?_)
    · rw [if_pos z157] at h
      refine ax_iconst (v := 0) (q := 398) hX dc_M_join_397 rfl (by decide) ?_
      refine ax_istore (ls' := [some (.ref u0), none, some (.int (x2)), some (.int (x3)), some (.int (x4)), none, some (.int (x6)), some (.int (x7)), some (.int (x8)), some (.int (x9)), some (.int (0)), none]) (q := 400) hX dc_M_join_398 rfl (by decide) rfl ?_
      exact ax_weak (ls' := [some (.ref u0), none, some (.int (x2)), some (.int (x3)), some (.int (x4)), none, none, none, some (.int (x8)), some (.int (x9)), some (.int (0)), none]) (ax_fewP_s _ _ (by repeat (first | exact trivial | (refine And.intro rfl ?_)))) (e_M_join_400 hX hF hS0  5000 I R u0 (x2) (x3) (x4) (x8) (x9) (0) hty hs0_ rfl h)
    · rw [if_neg z157] at h
      refine ax_aload_n (q := 368) hX dc_M_join_367 rfl rfl rfl ?_
      obtain ⟨u158, hu159, h⟩ := ax_bd h
      obtain ⟨n161, hs160⟩ : ∃ n, S u158 = some (.inr (0, n)) := hty.1 _ _ _ _ hs0_ hu159
      refine ax_getR (q := 371) hX dc_M_join_368 rfl fl_M_43 rfl hs0_ hu159 ?_
      refine ax_iload (q := 373) hX dc_M_join_371 rfl rfl ?_
      refine ax_dup2 (q := 374) hX dc_M_join_373 rfl rfl rfl ?_
      obtain ⟨j162, hj163, h⟩ := ax_bd h
      have hj163 := ax_ix_s hty hs160 hj163
      refine ax_iald (q := 375) hX j162 dc_M_join_374 rfl hs160 hj163.1 hj163.2.1 hj163.2.2 ?_
      refine ax_iload (q := 377) hX dc_M_join_375 rfl rfl ?_
      refine ax_iadd (q := 378) hX dc_M_join_377 rfl ?_
      obtain ⟨j164, hj165, h⟩ := ax_bd h
      have hj165 := ax_ix_s hty hs160 hj165
      obtain ⟨I166, e167, h⟩ := ax_bs h
      refine ax_iast (q := 379) hX j164 dc_M_join_378 rfl hs160 hj165.1 hj165.2.1 hj165.2.2 e167 ?_
      refine ax_aload_n (q := 380) hX dc_M_join_379 rfl rfl rfl ?_
      obtain ⟨u168, hu169, h⟩ := ax_bd h
      obtain ⟨n171, hs170⟩ : ∃ n, S u168 = some (.inr (0, n)) := hty.1 _ _ _ _ hs0_ hu169
      refine ax_getR (q := 383) hX dc_M_join_380 rfl fl_M_46 rfl hs0_ hu169 ?_
      refine ax_iload (q := 385) hX dc_M_join_383 rfl rfl ?_
      refine ax_dup2 (q := 386) hX dc_M_join_385 rfl rfl rfl ?_
      obtain ⟨j172, hj173, h⟩ := ax_bd h
      have hj173 := ax_ix_s hty hs170 hj173
      refine ax_iald (q := 387) hX j172 dc_M_join_386 rfl hs170 hj173.1 hj173.2.1 hj173.2.2 ?_
      refine ax_iload (q := 389) hX dc_M_join_387 rfl rfl ?_
      refine ax_iadd (q := 390) hX dc_M_join_389 rfl ?_
      obtain ⟨j174, hj175, h⟩ := ax_bd h
      have hj175 := ax_ix_s hty hs170 hj175
      obtain ⟨I176, e177, h⟩ := ax_bs h
      refine ax_iast (q := 391) hX j174 dc_M_join_390 rfl hs170 hj175.1 hj175.2.1 hj175.2.2 e177 ?_
      refine ax_iinc (v := x10 + 1) (ls' := [some (.ref u0), none, some (.int (x2)), some (.int (x3)), some (.int (x4)), none, some (.int (x6)), some (.int (x7)), some (.int (x8)), some (.int (x9)), some (.int (x10 + 1)), none]) (q := 394) hX dc_M_join_391 rfl rfl rfl (by decide) rfl ?_
      refine ax_goto (tgt := 345) hX dc_M_join_394 (by decide) ?_
      exact (ih I176 R u0 (x2) (x3) (x4) (x6) (x7) (x8) (x9) (x10 + 1) hty hs0_ rfl h)
def d_M_join_284 (S : ax_S) : Nat → ax_I → ax_R → Nat → Int32 → Int32 → Int32 → Int32 → Int32 → Int32 → Int32 → Int32 → Option (Int32 × ax_I)
  | 0, _, _, _, _, _, _, _, _, _, _, _ => none
  | n + 1, I, R, u0, x2, x3, x4, x6, x7, x8, x9, x10 =>
    (R u0 6).bind fun u118 =>
    (ax_ix S u118 (I u0 3)).bind fun j122 =>
    if (I u118 j122) ≤ x10 then
      d_M_join_345 S  5000 I R u0 (x2) (x3) (x4) (x6) (x7) (x8) (x9) (20 * (I u0 3))
    else
      (R u0 8).bind fun u125 =>
      (d_M_tileAt S I R u0 (x10)).bind fun r131 =>
      (ax_ix S u125 (r131)).bind fun j132 =>
      (ax_ix S u125 (r131)).bind fun j134 =>
      (some (ax_up I u125 j134 ((I u125 j132) + x6))).bind fun I136 =>
      (R u0 9).bind fun u138 =>
      (d_M_tileAt S I136 R u0 (x10)).bind fun r144 =>
      (ax_ix S u138 (r144)).bind fun j145 =>
      (ax_ix S u138 (r144)).bind fun j147 =>
      (some (ax_up I136 u138 j147 ((I136 u138 j145) + x7))).bind fun I149 =>
      d_M_join_284 S  n I149 R u0 (x2) (x3) (x4) (x6) (x7) (x8) (x9) (x10 + 1)
set_option maxHeartbeats 1000000 in
theorem e_M_join_284 {l : Launch} {X : ax_X} {S : ax_S} {L : ax_L} {R0 : ax_R} {out : Int32 × ax_I} (hX : ax_ok X l "LossFreeToolsModel" b_M_join 12 (ax_rm 2 0 0)) (hF : ax_fin X (some .int) 0 0 (ax_of (ax_eq (some (.int out.1)) S out.2 R0 L))) (hS0 : ax_S0 X = S) : ∀ (n : Nat), ∀ (I : ax_I) (R : ax_R) (u0 : Nat) (x2 : Int32) (x3 : Int32) (x4 : Int32) (x6 : Int32) (x7 : Int32) (x8 : Int32) (x9 : Int32) (x10 : Int32), ax_typ S R → (S u0 = some (.inl 5)) → R = R0 → d_M_join_284 S  n I R u0 x2 x3 x4 x6 x7 x8 x9 x10 = some out → ax_W X 12 284 [some (.ref u0), none, some (.int (x2)), some (.int (x3)), some (.int (x4)), none, some (.int (x6)), some (.int (x7)), some (.int (x8)), some (.int (x9)), some (.int (x10)), none] [] S I R L 0 0 := by
  intro n
  induction n with
  | zero =>
    rintro I R u0 x2 x3 x4 x6 x7 x8 x9 x10 hty hs0_ hR0 h
    cases h
  | succ n ih =>
    rintro I R u0 x2 x3 x4 x6 x7 x8 x9 x10 hty hs0_ hR0 h
    subst hR0
    unfold d_M_join_284 at h
    refine ax_iload (q := 286) hX dc_M_join_284 rfl rfl ?_
    refine ax_aload_n (q := 287) hX dc_M_join_286 rfl rfl rfl ?_
    obtain ⟨u118, hu119, h⟩ := ax_bd h
    obtain ⟨n121, hs120⟩ : ∃ n, S u118 = some (.inr (0, n)) := hty.1 _ _ _ _ hs0_ hu119
    refine ax_getR (q := 290) hX dc_M_join_287 rfl fl_M_16 rfl hs0_ hu119 ?_
    refine ax_aload_n (q := 291) hX dc_M_join_290 rfl rfl rfl ?_
    refine ax_getI (q := 294) hX dc_M_join_291 rfl fl_M_71 rfl hs0_ ?_
    obtain ⟨j122, hj123, h⟩ := ax_bd h
    have hj123 := ax_ix_s hty hs120 hj123
    refine ax_iald (q := 295) hX j122 dc_M_join_294 rfl hs120 hj123.1 hj123.2.1 hj123.2.2 ?_
    refine ax_icmp_ge (tgt := 336) (q := 298) hX dc_M_join_295 rfl (by decide) (fun z124 => ?_) (fun z124 => ?_)
    · rw [if_pos z124] at h
      refine ax_bipush (v := 20) (q := 338) hX dc_M_join_336 rfl (by decide) ?_
      refine ax_aload_n (q := 339) hX dc_M_join_338 rfl rfl rfl ?_
      refine ax_getI (q := 342) hX dc_M_join_339 rfl fl_M_71 rfl hs0_ ?_
      refine ax_imul (q := 343) hX dc_M_join_342 rfl ?_
      refine ax_istore (ls' := [some (.ref u0), none, some (.int (x2)), some (.int (x3)), some (.int (x4)), none, some (.int (x6)), some (.int (x7)), some (.int (x8)), some (.int (x9)), some (.int (20 * (I u0 3))), none]) (q := 345) hX dc_M_join_343 rfl (by decide) rfl ?_
      exact (e_M_join_345 hX hF hS0  5000 I R u0 (x2) (x3) (x4) (x6) (x7) (x8) (x9) (20 * (I u0 3)) hty hs0_ rfl h)
    · rw [if_neg z124] at h
      refine ax_aload_n (q := 299) hX dc_M_join_298 rfl rfl rfl ?_
      obtain ⟨u125, hu126, h⟩ := ax_bd h
      obtain ⟨n128, hs127⟩ : ∃ n, S u125 = some (.inr (0, n)) := hty.1 _ _ _ _ hs0_ hu126
      refine ax_getR (q := 302) hX dc_M_join_299 rfl fl_M_22 rfl hs0_ hu126 ?_
      refine ax_aload_n (q := 303) hX dc_M_join_302 rfl rfl rfl ?_
      refine ax_iload (q := 305) hX dc_M_join_303 rfl rfl ?_
      obtain ⟨r131, hr129, h⟩ := ax_bd h
      refine ax_kV (vs := [.int (x10)]) (rest := [.ref u125]) (q := 308) hX dc_M_join_305 rfl mt_M_tileAt wl_M_92 wi_M_tileAt ws_M_tileAt hs0_ rfl (c_M_tileAt l hty hs0_ hr129) rfl (by decide) rfl (Nat.le_of_ble_eq_true rfl) rfl rfl (by decide) (by decide) rfl ?_
      refine ax_dup2 (q := 309) hX dc_M_join_308 rfl rfl rfl ?_
      obtain ⟨j132, hj133, h⟩ := ax_bd h
      have hj133 := ax_ix_s hty hs127 hj133
      refine ax_iald (q := 310) hX j132 dc_M_join_309 rfl hs127 hj133.1 hj133.2.1 hj133.2.2 ?_
      refine ax_iload (q := 312) hX dc_M_join_310 rfl rfl ?_
      refine ax_iadd (q := 313) hX dc_M_join_312 rfl ?_
      obtain ⟨j134, hj135, h⟩ := ax_bd h
      have hj135 := ax_ix_s hty hs127 hj135
      obtain ⟨I136, e137, h⟩ := ax_bs h
      refine ax_iast (q := 314) hX j134 dc_M_join_313 rfl hs127 hj135.1 hj135.2.1 hj135.2.2 e137 ?_
      refine ax_aload_n (q := 315) hX dc_M_join_314 rfl rfl rfl ?_
      obtain ⟨u138, hu139, h⟩ := ax_bd h
      obtain ⟨n141, hs140⟩ : ∃ n, S u138 = some (.inr (0, n)) := hty.1 _ _ _ _ hs0_ hu139
      refine ax_getR (q := 318) hX dc_M_join_315 rfl fl_M_25 rfl hs0_ hu139 ?_
      refine ax_aload_n (q := 319) hX dc_M_join_318 rfl rfl rfl ?_
      refine ax_iload (q := 321) hX dc_M_join_319 rfl rfl ?_
      obtain ⟨r144, hr142, h⟩ := ax_bd h
      refine ax_kV (vs := [.int (x10)]) (rest := [.ref u138]) (q := 324) hX dc_M_join_321 rfl mt_M_tileAt wl_M_92 wi_M_tileAt ws_M_tileAt hs0_ rfl (c_M_tileAt l hty hs0_ hr142) rfl (by decide) rfl (Nat.le_of_ble_eq_true rfl) rfl rfl (by decide) (by decide) rfl ?_
      refine ax_dup2 (q := 325) hX dc_M_join_324 rfl rfl rfl ?_
      obtain ⟨j145, hj146, h⟩ := ax_bd h
      have hj146 := ax_ix_s hty hs140 hj146
      refine ax_iald (q := 326) hX j145 dc_M_join_325 rfl hs140 hj146.1 hj146.2.1 hj146.2.2 ?_
      refine ax_iload (q := 328) hX dc_M_join_326 rfl rfl ?_
      refine ax_iadd (q := 329) hX dc_M_join_328 rfl ?_
      obtain ⟨j147, hj148, h⟩ := ax_bd h
      have hj148 := ax_ix_s hty hs140 hj148
      obtain ⟨I149, e150, h⟩ := ax_bs h
      refine ax_iast (q := 330) hX j147 dc_M_join_329 rfl hs140 hj148.1 hj148.2.1 hj148.2.2 e150 ?_
      refine ax_iinc (v := x10 + 1) (ls' := [some (.ref u0), none, some (.int (x2)), some (.int (x3)), some (.int (x4)), none, some (.int (x6)), some (.int (x7)), some (.int (x8)), some (.int (x9)), some (.int (x10 + 1)), none]) (q := 333) hX dc_M_join_330 rfl rfl rfl (by decide) rfl ?_
      refine ax_goto (tgt := 284) hX dc_M_join_333 (by decide) ?_
      exact (ih I149 R u0 (x2) (x3) (x4) (x6) (x7) (x8) (x9) (x10 + 1) hty hs0_ rfl h)
def d_M_join_279 (S : ax_S) (I : ax_I) (R : ax_R) (u0 : Nat) (x2 : Int32) (x3 : Int32) (x4 : Int32) (x6 : Int32) (x7 : Int32) (x8 : Int32) (y0 : Int32) : Option (Int32 × ax_I) :=
  d_M_join_284 S  5000 I R u0 (x2) (x3) (x4) (x6) (x7) (x8) (y0) (0)
set_option maxHeartbeats 1000000 in
theorem e_M_join_279 {l : Launch} {X : ax_X} {S : ax_S} {L : ax_L} {R0 : ax_R} {out : Int32 × ax_I} (hX : ax_ok X l "LossFreeToolsModel" b_M_join 12 (ax_rm 2 0 0)) (hF : ax_fin X (some .int) 0 0 (ax_of (ax_eq (some (.int out.1)) S out.2 R0 L))) (hS0 : ax_S0 X = S) : ∀ (I : ax_I) (R : ax_R) (u0 : Nat) (x2 : Int32) (x3 : Int32) (x4 : Int32) (x6 : Int32) (x7 : Int32) (x8 : Int32) (y0 : Int32), ax_typ S R → (S u0 = some (.inl 5)) → R = R0 → d_M_join_279 S  I R u0 x2 x3 x4 x6 x7 x8 y0 = some out → ax_W X 12 279 [some (.ref u0), none, some (.int (x2)), some (.int (x3)), some (.int (x4)), none, some (.int (x6)), some (.int (x7)), some (.int (x8)), none, none, none] [.int (y0)] S I R L 0 0 := by
  rintro I R u0 x2 x3 x4 x6 x7 x8 y0 hty hs0_ hR0 h
  subst hR0
  unfold d_M_join_279 at h
  refine ax_istore (ls' := [some (.ref u0), none, some (.int (x2)), some (.int (x3)), some (.int (x4)), none, some (.int (x6)), some (.int (x7)), some (.int (x8)), some (.int (y0)), none, none]) (q := 281) hX dc_M_join_279 rfl (by decide) rfl ?_
  refine ax_iconst (v := 0) (q := 282) hX dc_M_join_281 rfl (by decide) ?_
  refine ax_istore (ls' := [some (.ref u0), none, some (.int (x2)), some (.int (x3)), some (.int (x4)), none, some (.int (x6)), some (.int (x7)), some (.int (x8)), some (.int (y0)), some (.int (0)), none]) (q := 284) hX dc_M_join_282 rfl (by decide) rfl ?_
  exact (e_M_join_284 hX hF hS0  5000 I R u0 (x2) (x3) (x4) (x6) (x7) (x8) (y0) (0) hty hs0_ rfl h)
def d_M_join_259 (S : ax_S) (I : ax_I) (R : ax_R) (u0 : Nat) (x1 : Int32) (x2 : Int32) (x3 : Int32) (x4 : Int32) (x6 : Int32) (x7 : Int32) (y0 : Int32) : Option (Int32 × ax_I) :=
  if x1 = 3 then
    (R u0 5).bind fun u112 =>
    (ax_ix S u112 (I u0 3)).bind fun j116 =>
    d_M_join_279 S  I R u0 (x2) (x3) (x4) (x6) (x7) (y0) (I u112 j116)
  else
    d_M_join_279 S  I R u0 (x2) (x3) (x4) (x6) (x7) (y0) (0)
set_option maxHeartbeats 1000000 in
theorem e_M_join_259 {l : Launch} {X : ax_X} {S : ax_S} {L : ax_L} {R0 : ax_R} {out : Int32 × ax_I} (hX : ax_ok X l "LossFreeToolsModel" b_M_join 12 (ax_rm 2 0 0)) (hF : ax_fin X (some .int) 0 0 (ax_of (ax_eq (some (.int out.1)) S out.2 R0 L))) (hS0 : ax_S0 X = S) : ∀ (I : ax_I) (R : ax_R) (u0 : Nat) (x1 : Int32) (x2 : Int32) (x3 : Int32) (x4 : Int32) (x6 : Int32) (x7 : Int32) (y0 : Int32), ax_typ S R → (S u0 = some (.inl 5)) → R = R0 → d_M_join_259 S  I R u0 x1 x2 x3 x4 x6 x7 y0 = some out → ax_W X 12 259 [some (.ref u0), some (.int (x1)), some (.int (x2)), some (.int (x3)), some (.int (x4)), none, some (.int (x6)), some (.int (x7)), none, none, none, none] [.int (y0)] S I R L 0 0 := by
  rintro I R u0 x1 x2 x3 x4 x6 x7 y0 hty hs0_ hR0 h
  subst hR0
  unfold d_M_join_259 at h
  refine ax_istore (ls' := [some (.ref u0), some (.int (x1)), some (.int (x2)), some (.int (x3)), some (.int (x4)), none, some (.int (x6)), some (.int (x7)), some (.int (y0)), none, none, none]) (q := 261) hX dc_M_join_259 rfl (by decide) rfl ?_
  refine ax_iload_n (q := 262) hX dc_M_join_261 rfl rfl rfl ?_
  refine ax_iconst (v := 3) (q := 263) hX dc_M_join_262 rfl (by decide) ?_
  refine ax_icmp_ne (tgt := 278) (q := 266) hX dc_M_join_263 rfl (by decide) (fun z111 => ?_) (fun z111 => ?_)
  · rw [if_neg z111] at h
    refine ax_iconst (v := 0) (q := 279) hX dc_M_join_278 rfl (by decide) ?_
    exact ax_weak (ls' := [some (.ref u0), none, some (.int (x2)), some (.int (x3)), some (.int (x4)), none, some (.int (x6)), some (.int (x7)), some (.int (y0)), none, none, none]) (ax_fewP_s _ _ (by repeat (first | exact trivial | (refine And.intro rfl ?_)))) (e_M_join_279 hX hF hS0  I R u0 (x2) (x3) (x4) (x6) (x7) (y0) (0) hty hs0_ rfl h)
  · rw [if_pos z111] at h
    refine ax_aload_n (q := 267) hX dc_M_join_266 rfl rfl rfl ?_
    obtain ⟨u112, hu113, h⟩ := ax_bd h
    obtain ⟨n115, hs114⟩ : ∃ n, S u112 = some (.inr (0, n)) := hty.1 _ _ _ _ hs0_ hu113
    refine ax_getR (q := 270) hX dc_M_join_267 rfl fl_M_13 rfl hs0_ hu113 ?_
    refine ax_aload_n (q := 271) hX dc_M_join_270 rfl rfl rfl ?_
    refine ax_getI (q := 274) hX dc_M_join_271 rfl fl_M_71 rfl hs0_ ?_
    obtain ⟨j116, hj117, h⟩ := ax_bd h
    have hj117 := ax_ix_s hty hs114 hj117
    refine ax_iald (q := 275) hX j116 dc_M_join_274 rfl hs114 hj117.1 hj117.2.1 hj117.2.2 ?_
    refine ax_goto (tgt := 279) hX dc_M_join_275 (by decide) ?_
    exact ax_weak (ls' := [some (.ref u0), none, some (.int (x2)), some (.int (x3)), some (.int (x4)), none, some (.int (x6)), some (.int (x7)), some (.int (y0)), none, none, none]) (ax_fewP_s _ _ (by repeat (first | exact trivial | (refine And.intro rfl ?_)))) (e_M_join_279 hX hF hS0  I R u0 (x2) (x3) (x4) (x6) (x7) (y0) (I u112 j116) hty hs0_ rfl h)
def d_M_join_239 (S : ax_S) (I : ax_I) (R : ax_R) (u0 : Nat) (x1 : Int32) (x2 : Int32) (x3 : Int32) (x4 : Int32) (x6 : Int32) (y0 : Int32) : Option (Int32 × ax_I) :=
  if x1 = 2 then
    (R u0 4).bind fun u105 =>
    (ax_ix S u105 (I u0 3)).bind fun j109 =>
    d_M_join_259 S  I R u0 (x1) (x2) (x3) (x4) (x6) (y0) (I u105 j109)
  else
    d_M_join_259 S  I R u0 (x1) (x2) (x3) (x4) (x6) (y0) (0)
set_option maxHeartbeats 1000000 in
theorem e_M_join_239 {l : Launch} {X : ax_X} {S : ax_S} {L : ax_L} {R0 : ax_R} {out : Int32 × ax_I} (hX : ax_ok X l "LossFreeToolsModel" b_M_join 12 (ax_rm 2 0 0)) (hF : ax_fin X (some .int) 0 0 (ax_of (ax_eq (some (.int out.1)) S out.2 R0 L))) (hS0 : ax_S0 X = S) : ∀ (I : ax_I) (R : ax_R) (u0 : Nat) (x1 : Int32) (x2 : Int32) (x3 : Int32) (x4 : Int32) (x6 : Int32) (y0 : Int32), ax_typ S R → (S u0 = some (.inl 5)) → R = R0 → d_M_join_239 S  I R u0 x1 x2 x3 x4 x6 y0 = some out → ax_W X 12 239 [some (.ref u0), some (.int (x1)), some (.int (x2)), some (.int (x3)), some (.int (x4)), none, some (.int (x6)), none, none, none, none, none] [.int (y0)] S I R L 0 0 := by
  rintro I R u0 x1 x2 x3 x4 x6 y0 hty hs0_ hR0 h
  subst hR0
  unfold d_M_join_239 at h
  refine ax_istore (ls' := [some (.ref u0), some (.int (x1)), some (.int (x2)), some (.int (x3)), some (.int (x4)), none, some (.int (x6)), some (.int (y0)), none, none, none, none]) (q := 241) hX dc_M_join_239 rfl (by decide) rfl ?_
  refine ax_iload_n (q := 242) hX dc_M_join_241 rfl rfl rfl ?_
  refine ax_iconst (v := 2) (q := 243) hX dc_M_join_242 rfl (by decide) ?_
  refine ax_icmp_ne (tgt := 258) (q := 246) hX dc_M_join_243 rfl (by decide) (fun z104 => ?_) (fun z104 => ?_)
  · rw [if_neg z104] at h
    refine ax_iconst (v := 0) (q := 259) hX dc_M_join_258 rfl (by decide) ?_
    exact (e_M_join_259 hX hF hS0  I R u0 (x1) (x2) (x3) (x4) (x6) (y0) (0) hty hs0_ rfl h)
  · rw [if_pos z104] at h
    refine ax_aload_n (q := 247) hX dc_M_join_246 rfl rfl rfl ?_
    obtain ⟨u105, hu106, h⟩ := ax_bd h
    obtain ⟨n108, hs107⟩ : ∃ n, S u105 = some (.inr (0, n)) := hty.1 _ _ _ _ hs0_ hu106
    refine ax_getR (q := 250) hX dc_M_join_247 rfl fl_M_7 rfl hs0_ hu106 ?_
    refine ax_aload_n (q := 251) hX dc_M_join_250 rfl rfl rfl ?_
    refine ax_getI (q := 254) hX dc_M_join_251 rfl fl_M_71 rfl hs0_ ?_
    obtain ⟨j109, hj110, h⟩ := ax_bd h
    have hj110 := ax_ix_s hty hs107 hj110
    refine ax_iald (q := 255) hX j109 dc_M_join_254 rfl hs107 hj110.1 hj110.2.1 hj110.2.2 ?_
    refine ax_goto (tgt := 259) hX dc_M_join_255 (by decide) ?_
    exact (e_M_join_259 hX hF hS0  I R u0 (x1) (x2) (x3) (x4) (x6) (y0) (I u105 j109) hty hs0_ rfl h)
def d_M_join_222 (S : ax_S) (I : ax_I) (R : ax_R) (u0 : Nat) (x1 : Int32) (x2 : Int32) (x3 : Int32) (x4 : Int32) (y0 : Int32) : Option (Int32 × ax_I) :=
  if x1 = 1 then
    (R u0 5).bind fun u98 =>
    (ax_ix S u98 (x2)).bind fun j102 =>
    d_M_join_239 S  I R u0 (x1) (x2) (x3) (x4) (y0) (I u98 j102)
  else
    d_M_join_239 S  I R u0 (x1) (x2) (x3) (x4) (y0) (0)
set_option maxHeartbeats 1000000 in
theorem e_M_join_222 {l : Launch} {X : ax_X} {S : ax_S} {L : ax_L} {R0 : ax_R} {out : Int32 × ax_I} (hX : ax_ok X l "LossFreeToolsModel" b_M_join 12 (ax_rm 2 0 0)) (hF : ax_fin X (some .int) 0 0 (ax_of (ax_eq (some (.int out.1)) S out.2 R0 L))) (hS0 : ax_S0 X = S) : ∀ (I : ax_I) (R : ax_R) (u0 : Nat) (x1 : Int32) (x2 : Int32) (x3 : Int32) (x4 : Int32) (y0 : Int32), ax_typ S R → (S u0 = some (.inl 5)) → R = R0 → d_M_join_222 S  I R u0 x1 x2 x3 x4 y0 = some out → ax_W X 12 222 [some (.ref u0), some (.int (x1)), some (.int (x2)), some (.int (x3)), some (.int (x4)), none, none, none, none, none, none, none] [.int (y0)] S I R L 0 0 := by
  rintro I R u0 x1 x2 x3 x4 y0 hty hs0_ hR0 h
  subst hR0
  unfold d_M_join_222 at h
  refine ax_istore (ls' := [some (.ref u0), some (.int (x1)), some (.int (x2)), some (.int (x3)), some (.int (x4)), none, some (.int (y0)), none, none, none, none, none]) (q := 224) hX dc_M_join_222 rfl (by decide) rfl ?_
  refine ax_iload_n (q := 225) hX dc_M_join_224 rfl rfl rfl ?_
  refine ax_iconst (v := 1) (q := 226) hX dc_M_join_225 rfl (by decide) ?_
  refine ax_icmp_ne (tgt := 238) (q := 229) hX dc_M_join_226 rfl (by decide) (fun z97 => ?_) (fun z97 => ?_)
  · rw [if_neg z97] at h
    refine ax_iconst (v := 0) (q := 239) hX dc_M_join_238 rfl (by decide) ?_
    exact (e_M_join_239 hX hF hS0  I R u0 (x1) (x2) (x3) (x4) (y0) (0) hty hs0_ rfl h)
  · rw [if_pos z97] at h
    refine ax_aload_n (q := 230) hX dc_M_join_229 rfl rfl rfl ?_
    obtain ⟨u98, hu99, h⟩ := ax_bd h
    obtain ⟨n101, hs100⟩ : ∃ n, S u98 = some (.inr (0, n)) := hty.1 _ _ _ _ hs0_ hu99
    refine ax_getR (q := 233) hX dc_M_join_230 rfl fl_M_13 rfl hs0_ hu99 ?_
    refine ax_iload_n (q := 234) hX dc_M_join_233 rfl rfl rfl ?_
    obtain ⟨j102, hj103, h⟩ := ax_bd h
    have hj103 := ax_ix_s hty hs100 hj103
    refine ax_iald (q := 235) hX j102 dc_M_join_234 rfl hs100 hj103.1 hj103.2.1 hj103.2.2 ?_
    refine ax_goto (tgt := 239) hX dc_M_join_235 (by decide) ?_
    exact (e_M_join_239 hX hF hS0  I R u0 (x1) (x2) (x3) (x4) (y0) (I u98 j102) hty hs0_ rfl h)
def d_M_join_196 (S : ax_S) (I : ax_I) (R : ax_R) (u0 : Nat) (x1 : Int32) (x2 : Int32) (x3 : Int32) (x4 : Int32) (y0 : Int32) (w1 : Nat) : Option (Int32 × ax_I) :=
  (some (ax_up I w1 0 (y0))).bind fun I87 =>
  if (I87 u0 0) ≤ 0 then
    if x1 = 0 then
      (R u0 4).bind fun u91 =>
      (ax_ix S u91 (x2)).bind fun j95 =>
      d_M_join_222 S  I87 R u0 (x1) (x2) (x3) (x4) (I87 u91 j95)
    else
      d_M_join_222 S  I87 R u0 (x1) (x2) (x3) (x4) (0)
  else
    some (0, I87)
set_option maxHeartbeats 1000000 in
theorem e_M_join_196 {l : Launch} {X : ax_X} {S : ax_S} {L : ax_L} {R0 : ax_R} {out : Int32 × ax_I} (hX : ax_ok X l "LossFreeToolsModel" b_M_join 12 (ax_rm 2 0 0)) (hF : ax_fin X (some .int) 0 0 (ax_of (ax_eq (some (.int out.1)) S out.2 R0 L))) (hS0 : ax_S0 X = S) : ∀ (I : ax_I) (R : ax_R) (u0 : Nat) (x1 : Int32) (x2 : Int32) (x3 : Int32) (x4 : Int32) (y0 : Int32) (w1 : Nat), ax_typ S R → (S u0 = some (.inl 5)) → (S w1 = some (.inl 5)) → R = R0 → d_M_join_196 S  I R u0 x1 x2 x3 x4 y0 w1 = some out → ax_W X 12 196 [some (.ref u0), some (.int (x1)), some (.int (x2)), some (.int (x3)), some (.int (x4)), none, none, none, none, none, none, none] [.int (y0), .ref w1] S I R L 0 0 := by
  rintro I R u0 x1 x2 x3 x4 y0 w1 hty hs0_ hw1_ hR0 h
  subst hR0
  unfold d_M_join_196 at h
  obtain ⟨I87, e88, h⟩ := ax_bs h
  refine ax_putI (q := 199) hX dc_M_join_196 rfl fl_M_68 rfl hw1_ (fun z => by cases z) rfl rfl e88 ?_
  refine ax_aload_n (q := 200) hX dc_M_join_199 rfl rfl rfl ?_
  refine ax_getI (q := 203) hX dc_M_join_200 rfl fl_M_68 rfl hs0_ ?_
  refine ax_if_le (tgt := 208) (q := 206) hX dc_M_join_203 rfl (by decide) (fun z89 => ?_) (fun z89 => ?_)
  · rw [if_pos z89] at h
    refine ax_iload_n (q := 209) hX dc_M_join_208 rfl rfl rfl ?_
    refine ax_if_ne (tgt := 221) (q := 212) hX dc_M_join_209 rfl (by decide) (fun z90 => ?_) (fun z90 => ?_)
    · rw [if_neg z90] at h
      refine ax_iconst (v := 0) (q := 222) hX dc_M_join_221 rfl (by decide) ?_
      exact (e_M_join_222 hX hF hS0  I87 R u0 (x1) (x2) (x3) (x4) (0) hty hs0_ rfl h)
    · rw [if_pos z90] at h
      refine ax_aload_n (q := 213) hX dc_M_join_212 rfl rfl rfl ?_
      obtain ⟨u91, hu92, h⟩ := ax_bd h
      obtain ⟨n94, hs93⟩ : ∃ n, S u91 = some (.inr (0, n)) := hty.1 _ _ _ _ hs0_ hu92
      refine ax_getR (q := 216) hX dc_M_join_213 rfl fl_M_7 rfl hs0_ hu92 ?_
      refine ax_iload_n (q := 217) hX dc_M_join_216 rfl rfl rfl ?_
      obtain ⟨j95, hj96, h⟩ := ax_bd h
      have hj96 := ax_ix_s hty hs93 hj96
      refine ax_iald (q := 218) hX j95 dc_M_join_217 rfl hs93 hj96.1 hj96.2.1 hj96.2.2 ?_
      refine ax_goto (tgt := 222) hX dc_M_join_218 (by decide) ?_
      exact (e_M_join_222 hX hF hS0  I87 R u0 (x1) (x2) (x3) (x4) (I87 u91 j95) hty hs0_ rfl h)
  · rw [if_neg z89] at h
    refine ax_iconst (v := 0) (q := 207) hX dc_M_join_206 rfl (by decide) ?_
    cases h
    exact ax_iret hX hF dc_M_join_207 rfl rfl (by decide) (by decide) ax_eq.mk (by rw [hS0]; exact fun _ _ z => z)
def d_M_join_191 (S : ax_S) (I : ax_I) (R : ax_R) (u0 : Nat) (x1 : Int32) (x2 : Int32) (x3 : Int32) (x4 : Int32) (w0 : Nat) : Option (Int32 × ax_I) :=
  d_M_join_196 S  I R u0 (x1) (x2) (x3) (x4) (3) w0
set_option maxHeartbeats 1000000 in
theorem e_M_join_191 {l : Launch} {X : ax_X} {S : ax_S} {L : ax_L} {R0 : ax_R} {out : Int32 × ax_I} (hX : ax_ok X l "LossFreeToolsModel" b_M_join 12 (ax_rm 2 0 0)) (hF : ax_fin X (some .int) 0 0 (ax_of (ax_eq (some (.int out.1)) S out.2 R0 L))) (hS0 : ax_S0 X = S) : ∀ (I : ax_I) (R : ax_R) (u0 : Nat) (x1 : Int32) (x2 : Int32) (x3 : Int32) (x4 : Int32) (w0 : Nat), ax_typ S R → (S u0 = some (.inl 5)) → (S w0 = some (.inl 5)) → R = R0 → d_M_join_191 S  I R u0 x1 x2 x3 x4 w0 = some out → ax_W X 12 191 [some (.ref u0), some (.int (x1)), some (.int (x2)), some (.int (x3)), some (.int (x4)), none, none, none, none, none, none, none] [.ref w0] S I R L 0 0 := by
  rintro I R u0 x1 x2 x3 x4 w0 hty hs0_ hw0_ hR0 h
  subst hR0
  unfold d_M_join_191 at h
  refine ax_iconst (v := 3) (q := 192) hX dc_M_join_191 rfl (by decide) ?_
  refine ax_goto (tgt := 196) hX dc_M_join_192 (by decide) ?_
  exact (e_M_join_196 hX hF hS0  I R u0 (x1) (x2) (x3) (x4) (3) w0 hty hs0_ hw0_ rfl h)
def d_M_join_116 (S : ax_S) (I : ax_I) (R : ax_R) (u0 : Nat) (x1 : Int32) (x2 : Int32) (x3 : Int32) (x4 : Int32) (y0 : Int32) : Option (Int32 × ax_I) :=
  (d_M_in S I R (x1) (0) (3)).bind fun r57 =>
  if (ax_b r57) = 0 then
    d_M_join_196 S  I R u0 (x1) (x2) (x3) (x4) (1) u0
  else
    if y0 = 0 then
      d_M_join_196 S  I R u0 (x1) (x2) (x3) (x4) (2) u0
    else
      if 400 < x4 then
        d_M_join_191 S  I R u0 (x1) (x2) (x3) (x4) u0
      else
        (R u0 6).bind fun u61 =>
        (ax_ix S u61 (I u0 3)).bind fun j65 =>
        (R u0 6).bind fun u67 =>
        (ax_ix S u67 (x2)).bind fun j71 =>
        if 40 < ((I u61 j65) + (I u67 j71)) then
          d_M_join_191 S  I R u0 (x1) (x2) (x3) (x4) u0
        else
          (R u0 7).bind fun u74 =>
          (ax_ix S u74 (I u0 3)).bind fun j78 =>
          (R u0 7).bind fun u80 =>
          (ax_ix S u80 (x2)).bind fun j84 =>
          if ((I u74 j78) + (I u80 j84)) ≤ 20 then
            d_M_join_196 S  I R u0 (x1) (x2) (x3) (x4) (0) u0
          else
            d_M_join_191 S  I R u0 (x1) (x2) (x3) (x4) u0
set_option maxHeartbeats 1000000 in
theorem e_M_join_116 {l : Launch} {X : ax_X} {S : ax_S} {L : ax_L} {R0 : ax_R} {out : Int32 × ax_I} (hX : ax_ok X l "LossFreeToolsModel" b_M_join 12 (ax_rm 2 0 0)) (hF : ax_fin X (some .int) 0 0 (ax_of (ax_eq (some (.int out.1)) S out.2 R0 L))) (hS0 : ax_S0 X = S) : ∀ (I : ax_I) (R : ax_R) (u0 : Nat) (x1 : Int32) (x2 : Int32) (x3 : Int32) (x4 : Int32) (y0 : Int32), ax_typ S R → (S u0 = some (.inl 5)) → R = R0 → d_M_join_116 S  I R u0 x1 x2 x3 x4 y0 = some out → ax_W X 12 116 [some (.ref u0), some (.int (x1)), some (.int (x2)), some (.int (x3)), some (.int (x4)), none, none, none, none, none, none, none] [.int (y0)] S I R L 0 0 := by
  rintro I R u0 x1 x2 x3 x4 y0 hty hs0_ hR0 h
  subst hR0
  unfold d_M_join_116 at h
  refine ax_istore (ls' := [some (.ref u0), some (.int (x1)), some (.int (x2)), some (.int (x3)), some (.int (x4)), some (.int (y0)), none, none, none, none, none, none]) (q := 118) hX dc_M_join_116 rfl (by decide) rfl ?_
  refine ax_aload_n (q := 119) hX dc_M_join_118 rfl rfl rfl ?_
  refine ax_iload_n (q := 120) hX dc_M_join_119 rfl rfl rfl ?_
  refine ax_iconst (v := 0) (q := 121) hX dc_M_join_120 rfl (by decide) ?_
  refine ax_iconst (v := 3) (q := 122) hX dc_M_join_121 rfl (by decide) ?_
  obtain ⟨r57, hr55, h⟩ := ax_bd h
  refine ax_kS (vs := [.int (x1), .int (0), .int (3)]) (rest := [.ref u0]) (q := 125) hX dc_M_join_122 rfl mt_M_in wl_M_84 wt_M_in (c_M_in l hty  hr55) rfl (by decide) rfl (Nat.le_of_ble_eq_true rfl) rfl rfl (by decide) (by decide) rfl ?_
  refine ax_if_ne (tgt := 132) (q := 128) hX dc_M_join_125 rfl (by decide) (fun z58 => ?_) (fun z58 => ?_)
  · rw [if_neg z58] at h
    refine ax_iload (q := 134) hX dc_M_join_132 rfl rfl ?_
    refine ax_if_ne (tgt := 141) (q := 137) hX dc_M_join_134 rfl (by decide) (fun z59 => ?_) (fun z59 => ?_)
    · rw [if_neg z59] at h
      refine ax_iload (q := 143) hX dc_M_join_141 rfl rfl ?_
      refine ax_sipush (v := 400) (q := 146) hX dc_M_join_143 rfl (by decide) ?_
      refine ax_icmp_gt (tgt := 191) (q := 149) hX dc_M_join_146 rfl (by decide) (fun z60 => ?_) (fun z60 => ?_)
      · rw [if_pos z60] at h
        exact ax_weak (ls' := [some (.ref u0), some (.int (x1)), some (.int (x2)), some (.int (x3)), some (.int (x4)), none, none, none, none, none, none, none]) (ax_fewP_s _ _ (by repeat (first | exact trivial | (refine And.intro rfl ?_)))) (e_M_join_191 hX hF hS0  I R u0 (x1) (x2) (x3) (x4) u0 hty hs0_ hs0_ rfl h)
      · rw [if_neg z60] at h
        refine ax_aload_n (q := 150) hX dc_M_join_149 rfl rfl rfl ?_
        obtain ⟨u61, hu62, h⟩ := ax_bd h
        obtain ⟨n64, hs63⟩ : ∃ n, S u61 = some (.inr (0, n)) := hty.1 _ _ _ _ hs0_ hu62
        refine ax_getR (q := 153) hX dc_M_join_150 rfl fl_M_16 rfl hs0_ hu62 ?_
        refine ax_aload_n (q := 154) hX dc_M_join_153 rfl rfl rfl ?_
        refine ax_getI (q := 157) hX dc_M_join_154 rfl fl_M_71 rfl hs0_ ?_
        obtain ⟨j65, hj66, h⟩ := ax_bd h
        have hj66 := ax_ix_s hty hs63 hj66
        refine ax_iald (q := 158) hX j65 dc_M_join_157 rfl hs63 hj66.1 hj66.2.1 hj66.2.2 ?_
        refine ax_aload_n (q := 159) hX dc_M_join_158 rfl rfl rfl ?_
        obtain ⟨u67, hu68, h⟩ := ax_bd h
        obtain ⟨n70, hs69⟩ : ∃ n, S u67 = some (.inr (0, n)) := hty.1 _ _ _ _ hs0_ hu68
        refine ax_getR (q := 162) hX dc_M_join_159 rfl fl_M_16 rfl hs0_ hu68 ?_
        refine ax_iload_n (q := 163) hX dc_M_join_162 rfl rfl rfl ?_
        obtain ⟨j71, hj72, h⟩ := ax_bd h
        have hj72 := ax_ix_s hty hs69 hj72
        refine ax_iald (q := 164) hX j71 dc_M_join_163 rfl hs69 hj72.1 hj72.2.1 hj72.2.2 ?_
        refine ax_iadd (q := 165) hX dc_M_join_164 rfl ?_
        refine ax_bipush (v := 40) (q := 167) hX dc_M_join_165 rfl (by decide) ?_
        refine ax_icmp_gt (tgt := 191) (q := 170) hX dc_M_join_167 rfl (by decide) (fun z73 => ?_) (fun z73 => ?_)
        · rw [if_pos z73] at h
          exact ax_weak (ls' := [some (.ref u0), some (.int (x1)), some (.int (x2)), some (.int (x3)), some (.int (x4)), none, none, none, none, none, none, none]) (ax_fewP_s _ _ (by repeat (first | exact trivial | (refine And.intro rfl ?_)))) (e_M_join_191 hX hF hS0  I R u0 (x1) (x2) (x3) (x4) u0 hty hs0_ hs0_ rfl h)
        · rw [if_neg z73] at h
          refine ax_aload_n (q := 171) hX dc_M_join_170 rfl rfl rfl ?_
          obtain ⟨u74, hu75, h⟩ := ax_bd h
          obtain ⟨n77, hs76⟩ : ∃ n, S u74 = some (.inr (0, n)) := hty.1 _ _ _ _ hs0_ hu75
          refine ax_getR (q := 174) hX dc_M_join_171 rfl fl_M_19 rfl hs0_ hu75 ?_
          refine ax_aload_n (q := 175) hX dc_M_join_174 rfl rfl rfl ?_
          refine ax_getI (q := 178) hX dc_M_join_175 rfl fl_M_71 rfl hs0_ ?_
          obtain ⟨j78, hj79, h⟩ := ax_bd h
          have hj79 := ax_ix_s hty hs76 hj79
          refine ax_iald (q := 179) hX j78 dc_M_join_178 rfl hs76 hj79.1 hj79.2.1 hj79.2.2 ?_
          refine ax_aload_n (q := 180) hX dc_M_join_179 rfl rfl rfl ?_
          obtain ⟨u80, hu81, h⟩ := ax_bd h
          obtain ⟨n83, hs82⟩ : ∃ n, S u80 = some (.inr (0, n)) := hty.1 _ _ _ _ hs0_ hu81
          refine ax_getR (q := 183) hX dc_M_join_180 rfl fl_M_19 rfl hs0_ hu81 ?_
          refine ax_iload_n (q := 184) hX dc_M_join_183 rfl rfl rfl ?_
          obtain ⟨j84, hj85, h⟩ := ax_bd h
          have hj85 := ax_ix_s hty hs82 hj85
          refine ax_iald (q := 185) hX j84 dc_M_join_184 rfl hs82 hj85.1 hj85.2.1 hj85.2.2 ?_
          refine ax_iadd (q := 186) hX dc_M_join_185 rfl ?_
          refine ax_bipush (v := 20) (q := 188) hX dc_M_join_186 rfl (by decide) ?_
          refine ax_icmp_le (tgt := 195) (q := 191) hX dc_M_join_188 rfl (by decide) (fun z86 => ?_) (fun z86 => ?_)
          · rw [if_pos z86] at h
            refine ax_iconst (v := 0) (q := 196) hX dc_M_join_195 rfl (by decide) ?_
            exact ax_weak (ls' := [some (.ref u0), some (.int (x1)), some (.int (x2)), some (.int (x3)), some (.int (x4)), none, none, none, none, none, none, none]) (ax_fewP_s _ _ (by repeat (first | exact trivial | (refine And.intro rfl ?_)))) (e_M_join_196 hX hF hS0  I R u0 (x1) (x2) (x3) (x4) (0) u0 hty hs0_ hs0_ rfl h)
          · rw [if_neg z86] at h
            exact ax_weak (ls' := [some (.ref u0), some (.int (x1)), some (.int (x2)), some (.int (x3)), some (.int (x4)), none, none, none, none, none, none, none]) (ax_fewP_s _ _ (by repeat (first | exact trivial | (refine And.intro rfl ?_)))) (e_M_join_191 hX hF hS0  I R u0 (x1) (x2) (x3) (x4) u0 hty hs0_ hs0_ rfl h)
    · rw [if_pos z59] at h
      refine ax_iconst (v := 2) (q := 138) hX dc_M_join_137 rfl (by decide) ?_
      refine ax_goto (tgt := 196) hX dc_M_join_138 (by decide) ?_
      exact ax_weak (ls' := [some (.ref u0), some (.int (x1)), some (.int (x2)), some (.int (x3)), some (.int (x4)), none, none, none, none, none, none, none]) (ax_fewP_s _ _ (by repeat (first | exact trivial | (refine And.intro rfl ?_)))) (e_M_join_196 hX hF hS0  I R u0 (x1) (x2) (x3) (x4) (2) u0 hty hs0_ hs0_ rfl h)
  · rw [if_pos z58] at h
    refine ax_iconst (v := 1) (q := 129) hX dc_M_join_128 rfl (by decide) ?_
    refine ax_goto (tgt := 196) hX dc_M_join_129 (by decide) ?_
    exact ax_weak (ls' := [some (.ref u0), some (.int (x1)), some (.int (x2)), some (.int (x3)), some (.int (x4)), none, none, none, none, none, none, none]) (ax_fewP_s _ _ (by repeat (first | exact trivial | (refine And.intro rfl ?_)))) (e_M_join_196 hX hF hS0  I R u0 (x1) (x2) (x3) (x4) (1) u0 hty hs0_ hs0_ rfl h)
def d_M_join_61 (S : ax_S) (I : ax_I) (R : ax_R) (u0 : Nat) (x1 : Int32) (x2 : Int32) (x3 : Int32) (y0 : Int32) : Option (Int32 × ax_I) :=
  if x3 = 0 then
    (R u0 4).bind fun u29 =>
    (ax_ix S u29 (I u0 3)).bind fun j33 =>
    (R u0 4).bind fun u35 =>
    (ax_ix S u35 (x2)).bind fun j39 =>
    if (I u29 j33) = (I u35 j39) then
      d_M_join_116 S  I R u0 (x1) (x2) (x3) (y0) (1)
    else
      d_M_join_116 S  I R u0 (x1) (x2) (x3) (y0) (0)
  else
    (R u0 5).bind fun u42 =>
    (ax_ix S u42 (I u0 3)).bind fun j46 =>
    (R u0 5).bind fun u48 =>
    (ax_ix S u48 (x2)).bind fun j52 =>
    if (I u42 j46) = (I u48 j52) then
      d_M_join_116 S  I R u0 (x1) (x2) (x3) (y0) (1)
    else
      d_M_join_116 S  I R u0 (x1) (x2) (x3) (y0) (0)
set_option maxHeartbeats 1000000 in
theorem e_M_join_61 {l : Launch} {X : ax_X} {S : ax_S} {L : ax_L} {R0 : ax_R} {out : Int32 × ax_I} (hX : ax_ok X l "LossFreeToolsModel" b_M_join 12 (ax_rm 2 0 0)) (hF : ax_fin X (some .int) 0 0 (ax_of (ax_eq (some (.int out.1)) S out.2 R0 L))) (hS0 : ax_S0 X = S) : ∀ (I : ax_I) (R : ax_R) (u0 : Nat) (x1 : Int32) (x2 : Int32) (x3 : Int32) (y0 : Int32), ax_typ S R → (S u0 = some (.inl 5)) → R = R0 → d_M_join_61 S  I R u0 x1 x2 x3 y0 = some out → ax_W X 12 61 [some (.ref u0), some (.int (x1)), some (.int (x2)), some (.int (x3)), none, none, none, none, none, none, none, none] [.int (y0)] S I R L 0 0 := by
  rintro I R u0 x1 x2 x3 y0 hty hs0_ hR0 h
  subst hR0
  unfold d_M_join_61 at h
  refine ax_istore (ls' := [some (.ref u0), some (.int (x1)), some (.int (x2)), some (.int (x3)), some (.int (y0)), none, none, none, none, none, none, none]) (q := 63) hX dc_M_join_61 rfl (by decide) rfl ?_
  refine ax_iload_n (q := 64) hX dc_M_join_63 rfl rfl rfl ?_
  refine ax_if_eq (tgt := 93) (q := 67) hX dc_M_join_64 rfl (by decide) (fun z28 => ?_) (fun z28 => ?_)
  · rw [if_pos z28] at h
    refine ax_aload_n (q := 94) hX dc_M_join_93 rfl rfl rfl ?_
    obtain ⟨u29, hu30, h⟩ := ax_bd h
    obtain ⟨n32, hs31⟩ : ∃ n, S u29 = some (.inr (0, n)) := hty.1 _ _ _ _ hs0_ hu30
    refine ax_getR (q := 97) hX dc_M_join_94 rfl fl_M_7 rfl hs0_ hu30 ?_
    refine ax_aload_n (q := 98) hX dc_M_join_97 rfl rfl rfl ?_
    refine ax_getI (q := 101) hX dc_M_join_98 rfl fl_M_71 rfl hs0_ ?_
    obtain ⟨j33, hj34, h⟩ := ax_bd h
    have hj34 := ax_ix_s hty hs31 hj34
    refine ax_iald (q := 102) hX j33 dc_M_join_101 rfl hs31 hj34.1 hj34.2.1 hj34.2.2 ?_
    refine ax_aload_n (q := 103) hX dc_M_join_102 rfl rfl rfl ?_
    obtain ⟨u35, hu36, h⟩ := ax_bd h
    obtain ⟨n38, hs37⟩ : ∃ n, S u35 = some (.inr (0, n)) := hty.1 _ _ _ _ hs0_ hu36
    refine ax_getR (q := 106) hX dc_M_join_103 rfl fl_M_7 rfl hs0_ hu36 ?_
    refine ax_iload_n (q := 107) hX dc_M_join_106 rfl rfl rfl ?_
    obtain ⟨j39, hj40, h⟩ := ax_bd h
    have hj40 := ax_ix_s hty hs37 hj40
    refine ax_iald (q := 108) hX j39 dc_M_join_107 rfl hs37 hj40.1 hj40.2.1 hj40.2.2 ?_
    refine ax_icmp_ne (tgt := 115) (q := 111) hX dc_M_join_108 rfl (by decide) (fun z41 => ?_) (fun z41 => ?_)
    · rw [if_neg z41] at h
      refine ax_iconst (v := 0) (q := 116) hX dc_M_join_115 rfl (by decide) ?_
      exact (e_M_join_116 hX hF hS0  I R u0 (x1) (x2) (x3) (y0) (0) hty hs0_ rfl h)
    · rw [if_pos z41] at h
      refine ax_iconst (v := 1) (q := 112) hX dc_M_join_111 rfl (by decide) ?_
      refine ax_goto (tgt := 116) hX dc_M_join_112 (by decide) ?_
      exact (e_M_join_116 hX hF hS0  I R u0 (x1) (x2) (x3) (y0) (1) hty hs0_ rfl h)
  · rw [if_neg z28] at h
    refine ax_aload_n (q := 68) hX dc_M_join_67 rfl rfl rfl ?_
    obtain ⟨u42, hu43, h⟩ := ax_bd h
    obtain ⟨n45, hs44⟩ : ∃ n, S u42 = some (.inr (0, n)) := hty.1 _ _ _ _ hs0_ hu43
    refine ax_getR (q := 71) hX dc_M_join_68 rfl fl_M_13 rfl hs0_ hu43 ?_
    refine ax_aload_n (q := 72) hX dc_M_join_71 rfl rfl rfl ?_
    refine ax_getI (q := 75) hX dc_M_join_72 rfl fl_M_71 rfl hs0_ ?_
    obtain ⟨j46, hj47, h⟩ := ax_bd h
    have hj47 := ax_ix_s hty hs44 hj47
    refine ax_iald (q := 76) hX j46 dc_M_join_75 rfl hs44 hj47.1 hj47.2.1 hj47.2.2 ?_
    refine ax_aload_n (q := 77) hX dc_M_join_76 rfl rfl rfl ?_
    obtain ⟨u48, hu49, h⟩ := ax_bd h
    obtain ⟨n51, hs50⟩ : ∃ n, S u48 = some (.inr (0, n)) := hty.1 _ _ _ _ hs0_ hu49
    refine ax_getR (q := 80) hX dc_M_join_77 rfl fl_M_13 rfl hs0_ hu49 ?_
    refine ax_iload_n (q := 81) hX dc_M_join_80 rfl rfl rfl ?_
    obtain ⟨j52, hj53, h⟩ := ax_bd h
    have hj53 := ax_ix_s hty hs50 hj53
    refine ax_iald (q := 82) hX j52 dc_M_join_81 rfl hs50 hj53.1 hj53.2.1 hj53.2.2 ?_
    refine ax_icmp_ne (tgt := 89) (q := 85) hX dc_M_join_82 rfl (by decide) (fun z54 => ?_) (fun z54 => ?_)
    · rw [if_neg z54] at h
      refine ax_iconst (v := 0) (q := 90) hX dc_M_join_89 rfl (by decide) ?_
      refine ax_goto (tgt := 116) hX dc_M_join_90 (by decide) ?_
      exact (e_M_join_116 hX hF hS0  I R u0 (x1) (x2) (x3) (y0) (0) hty hs0_ rfl h)
    · rw [if_pos z54] at h
      refine ax_iconst (v := 1) (q := 86) hX dc_M_join_85 rfl (by decide) ?_
      refine ax_goto (tgt := 116) hX dc_M_join_86 (by decide) ?_
      exact (e_M_join_116 hX hF hS0  I R u0 (x1) (x2) (x3) (y0) (1) hty hs0_ rfl h)
def d_M_join_21 (S : ax_S) (I : ax_I) (R : ax_R) (u0 : Nat) (x1 : Int32) (x2 : Int32) (y0 : Int32) : Option (Int32 × ax_I) :=
  if y0 = 0 then
    (R u0 5).bind fun u4 =>
    (ax_ix S u4 (I u0 3)).bind fun j8 =>
    (R u0 5).bind fun u10 =>
    (ax_ix S u10 (x2)).bind fun j14 =>
    d_M_join_61 S  I R u0 (x1) (x2) (y0) ((I u4 j8) + (I u10 j14))
  else
    (R u0 4).bind fun u16 =>
    (ax_ix S u16 (I u0 3)).bind fun j20 =>
    (R u0 4).bind fun u22 =>
    (ax_ix S u22 (x2)).bind fun j26 =>
    d_M_join_61 S  I R u0 (x1) (x2) (y0) ((I u16 j20) + (I u22 j26))
set_option maxHeartbeats 1000000 in
theorem e_M_join_21 {l : Launch} {X : ax_X} {S : ax_S} {L : ax_L} {R0 : ax_R} {out : Int32 × ax_I} (hX : ax_ok X l "LossFreeToolsModel" b_M_join 12 (ax_rm 2 0 0)) (hF : ax_fin X (some .int) 0 0 (ax_of (ax_eq (some (.int out.1)) S out.2 R0 L))) (hS0 : ax_S0 X = S) : ∀ (I : ax_I) (R : ax_R) (u0 : Nat) (x1 : Int32) (x2 : Int32) (y0 : Int32), ax_typ S R → (S u0 = some (.inl 5)) → R = R0 → d_M_join_21 S  I R u0 x1 x2 y0 = some out → ax_W X 12 21 [some (.ref u0), some (.int (x1)), some (.int (x2)), none, none, none, none, none, none, none, none, none] [.int (y0)] S I R L 0 0 := by
  rintro I R u0 x1 x2 y0 hty hs0_ hR0 h
  subst hR0
  unfold d_M_join_21 at h
  refine ax_istore_n (ls' := [some (.ref u0), some (.int (x1)), some (.int (x2)), some (.int (y0)), none, none, none, none, none, none, none, none]) (q := 22) hX dc_M_join_21 rfl rfl (by decide) rfl ?_
  refine ax_iload_n (q := 23) hX dc_M_join_22 rfl rfl rfl ?_
  refine ax_if_eq (tgt := 45) (q := 26) hX dc_M_join_23 rfl (by decide) (fun z3 => ?_) (fun z3 => ?_)
  · rw [if_pos z3] at h
    refine ax_aload_n (q := 46) hX dc_M_join_45 rfl rfl rfl ?_
    obtain ⟨u4, hu5, h⟩ := ax_bd h
    obtain ⟨n7, hs6⟩ : ∃ n, S u4 = some (.inr (0, n)) := hty.1 _ _ _ _ hs0_ hu5
    refine ax_getR (q := 49) hX dc_M_join_46 rfl fl_M_13 rfl hs0_ hu5 ?_
    refine ax_aload_n (q := 50) hX dc_M_join_49 rfl rfl rfl ?_
    refine ax_getI (q := 53) hX dc_M_join_50 rfl fl_M_71 rfl hs0_ ?_
    obtain ⟨j8, hj9, h⟩ := ax_bd h
    have hj9 := ax_ix_s hty hs6 hj9
    refine ax_iald (q := 54) hX j8 dc_M_join_53 rfl hs6 hj9.1 hj9.2.1 hj9.2.2 ?_
    refine ax_aload_n (q := 55) hX dc_M_join_54 rfl rfl rfl ?_
    obtain ⟨u10, hu11, h⟩ := ax_bd h
    obtain ⟨n13, hs12⟩ : ∃ n, S u10 = some (.inr (0, n)) := hty.1 _ _ _ _ hs0_ hu11
    refine ax_getR (q := 58) hX dc_M_join_55 rfl fl_M_13 rfl hs0_ hu11 ?_
    refine ax_iload_n (q := 59) hX dc_M_join_58 rfl rfl rfl ?_
    obtain ⟨j14, hj15, h⟩ := ax_bd h
    have hj15 := ax_ix_s hty hs12 hj15
    refine ax_iald (q := 60) hX j14 dc_M_join_59 rfl hs12 hj15.1 hj15.2.1 hj15.2.2 ?_
    refine ax_iadd (q := 61) hX dc_M_join_60 rfl ?_
    exact (e_M_join_61 hX hF hS0  I R u0 (x1) (x2) (y0) ((I u4 j8) + (I u10 j14)) hty hs0_ rfl h)
  · rw [if_neg z3] at h
    refine ax_aload_n (q := 27) hX dc_M_join_26 rfl rfl rfl ?_
    obtain ⟨u16, hu17, h⟩ := ax_bd h
    obtain ⟨n19, hs18⟩ : ∃ n, S u16 = some (.inr (0, n)) := hty.1 _ _ _ _ hs0_ hu17
    refine ax_getR (q := 30) hX dc_M_join_27 rfl fl_M_7 rfl hs0_ hu17 ?_
    refine ax_aload_n (q := 31) hX dc_M_join_30 rfl rfl rfl ?_
    refine ax_getI (q := 34) hX dc_M_join_31 rfl fl_M_71 rfl hs0_ ?_
    obtain ⟨j20, hj21, h⟩ := ax_bd h
    have hj21 := ax_ix_s hty hs18 hj21
    refine ax_iald (q := 35) hX j20 dc_M_join_34 rfl hs18 hj21.1 hj21.2.1 hj21.2.2 ?_
    refine ax_aload_n (q := 36) hX dc_M_join_35 rfl rfl rfl ?_
    obtain ⟨u22, hu23, h⟩ := ax_bd h
    obtain ⟨n25, hs24⟩ : ∃ n, S u22 = some (.inr (0, n)) := hty.1 _ _ _ _ hs0_ hu23
    refine ax_getR (q := 39) hX dc_M_join_36 rfl fl_M_7 rfl hs0_ hu23 ?_
    refine ax_iload_n (q := 40) hX dc_M_join_39 rfl rfl rfl ?_
    obtain ⟨j26, hj27, h⟩ := ax_bd h
    have hj27 := ax_ix_s hty hs24 hj27
    refine ax_iald (q := 41) hX j26 dc_M_join_40 rfl hs24 hj27.1 hj27.2.1 hj27.2.2 ?_
    refine ax_iadd (q := 42) hX dc_M_join_41 rfl ?_
    refine ax_goto (tgt := 61) hX dc_M_join_42 (by decide) ?_
    exact (e_M_join_61 hX hF hS0  I R u0 (x1) (x2) (y0) ((I u16 j20) + (I u22 j26)) hty hs0_ rfl h)
def d_M_join_16 (S : ax_S) (I : ax_I) (R : ax_R) (u0 : Nat) (x1 : Int32) (x2 : Int32) : Option (Int32 × ax_I) :=
  d_M_join_21 S  I R u0 (x1) (x2) (1)
set_option maxHeartbeats 1000000 in
theorem e_M_join_16 {l : Launch} {X : ax_X} {S : ax_S} {L : ax_L} {R0 : ax_R} {out : Int32 × ax_I} (hX : ax_ok X l "LossFreeToolsModel" b_M_join 12 (ax_rm 2 0 0)) (hF : ax_fin X (some .int) 0 0 (ax_of (ax_eq (some (.int out.1)) S out.2 R0 L))) (hS0 : ax_S0 X = S) : ∀ (I : ax_I) (R : ax_R) (u0 : Nat) (x1 : Int32) (x2 : Int32), ax_typ S R → (S u0 = some (.inl 5)) → R = R0 → d_M_join_16 S  I R u0 x1 x2 = some out → ax_W X 12 16 [some (.ref u0), some (.int (x1)), some (.int (x2)), none, none, none, none, none, none, none, none, none] [] S I R L 0 0 := by
  rintro I R u0 x1 x2 hty hs0_ hR0 h
  subst hR0
  unfold d_M_join_16 at h
  refine ax_iconst (v := 1) (q := 17) hX dc_M_join_16 rfl (by decide) ?_
  refine ax_goto (tgt := 21) hX dc_M_join_17 (by decide) ?_
  exact (e_M_join_21 hX hF hS0  I R u0 (x1) (x2) (1) hty hs0_ rfl h)
def d_M_join (S : ax_S) (I : ax_I) (R : ax_R) (u0 : Nat) (x1 : Int32) : Option (Int32 × ax_I) :=
  if x1 = 0 then
    d_M_join_16 S  I R u0 (x1) (1 - (I u0 3))
  else
    if x1 = 2 then
      d_M_join_16 S  I R u0 (x1) (1 - (I u0 3))
    else
      d_M_join_21 S  I R u0 (x1) (1 - (I u0 3)) (0)
set_option maxHeartbeats 1000000 in
theorem c_M_join (l : Launch) {S : ax_S} {I : ax_I} {R : ax_R} {L : ax_L} {u0 : Nat} {x1 : Int32} {out : Int32 × ax_I} (hty : ax_typ S R) (hs0 : S u0 = some (.inl 5)) (h : d_M_join S I R u0 x1 = some out) : ax_Met l y_M_join b_M_join 12 (some .int) (ax_rm 2 0 0) [.ref u0, .int x1] S I R L (ax_eq (some (.int out.1)) S out.2 R L) := by
  refine ax_enter (own := "LossFreeToolsModel") (by decide +kernel) rfl (ax_cats rfl) (Nat.le_of_ble_eq_true rfl) (fun X hX hF _ hS0 => ?_)
  show ax_W X 12 0 [some (.ref u0), some (.int (x1)), none, none, none, none, none, none, none, none, none, none] [] S I R L 0 0
  unfold d_M_join at h
  refine ax_iconst (v := 1) (q := 1) hX dc_M_join_0 rfl (by decide) ?_
  refine ax_aload_n (q := 2) hX dc_M_join_1 rfl rfl rfl ?_
  refine ax_getI (q := 5) hX dc_M_join_2 rfl fl_M_71 rfl hs0 ?_
  refine ax_isub (q := 6) hX dc_M_join_5 rfl ?_
  refine ax_istore_n (ls' := [some (.ref u0), some (.int (x1)), some (.int (1 - (I u0 3))), none, none, none, none, none, none, none, none, none]) (q := 7) hX dc_M_join_6 rfl rfl (by decide) rfl ?_
  refine ax_iload_n (q := 8) hX dc_M_join_7 rfl rfl rfl ?_
  refine ax_if_eq (tgt := 16) (q := 11) hX dc_M_join_8 rfl (by decide) (fun z1 => ?_) (fun z1 => ?_)
  · rw [if_pos z1] at h
    exact (e_M_join_16 hX hF hS0  I R u0 (x1) (1 - (I u0 3)) hty hs0 rfl h)
  · rw [if_neg z1] at h
    refine ax_iload_n (q := 12) hX dc_M_join_11 rfl rfl rfl ?_
    refine ax_iconst (v := 2) (q := 13) hX dc_M_join_12 rfl (by decide) ?_
    refine ax_icmp_ne (tgt := 20) (q := 16) hX dc_M_join_13 rfl (by decide) (fun z2 => ?_) (fun z2 => ?_)
    · rw [if_neg z2] at h
      refine ax_iconst (v := 0) (q := 21) hX dc_M_join_20 rfl (by decide) ?_
      exact (e_M_join_21 hX hF hS0  I R u0 (x1) (1 - (I u0 3)) (0) hty hs0 rfl h)
    · rw [if_pos z2] at h
      exact (e_M_join_16 hX hF hS0  I R u0 (x1) (1 - (I u0 3)) hty hs0 rfl h)
def d_M_ownOf_57 (S : ax_S) (rec6 : ax_I → ax_R → Int32 → Int32 → Int32 → Int32 → Int32 → Int32 → Int32 → Option (Int32)) (I : ax_I) (R : ax_R) (x0 : Int32) (x1 : Int32) (x2 : Int32) (x3 : Int32) (x4 : Int32) (x6 : Int32) (y0 : Int32) : Option (Int32) :=
  rec6 I R (x0) (x1) (x2) (x3) (x4) (y0) (x6 + 1)
set_option maxHeartbeats 1000000 in
theorem e_M_ownOf_57 {l : Launch} {X : ax_X} {S : ax_S} {L : ax_L} {I0 : ax_I} {R0 : ax_R} {out : Int32} (hX : ax_ok X l "LossFreeToolsModel" b_M_ownOf 7 (ax_rm 2 0 0)) (hF : ax_fin X (some .int) 0 0 (ax_of (ax_eq (some (.int out)) S I0 R0 L))) (hS0 : ax_S0 X = S) (rec6 : ax_I → ax_R → Int32 → Int32 → Int32 → Int32 → Int32 → Int32 → Int32 → Option (Int32)) (hrec6 : ∀ (I : ax_I) (R : ax_R) (x0 : Int32) (x1 : Int32) (x2 : Int32) (x3 : Int32) (x4 : Int32) (x5 : Int32) (x6 : Int32), ax_typ S R → I = I0 → R = R0 → rec6 I R x0 x1 x2 x3 x4 x5 x6 = some out → ax_W X 7 6 [some (.int (x0)), some (.int (x1)), some (.int (x2)), some (.int (x3)), some (.int (x4)), some (.int (x5)), some (.int (x6))] [] S I R L 0 0) : ∀ (I : ax_I) (R : ax_R) (x0 : Int32) (x1 : Int32) (x2 : Int32) (x3 : Int32) (x4 : Int32) (x6 : Int32) (y0 : Int32), ax_typ S R → I = I0 → R = R0 → d_M_ownOf_57 S rec6 I R x0 x1 x2 x3 x4 x6 y0 = some out → ax_W X 7 57 [some (.int (x0)), some (.int (x1)), some (.int (x2)), some (.int (x3)), some (.int (x4)), none, some (.int (x6))] [.int (y0)] S I R L 0 0 := by
  rintro I R x0 x1 x2 x3 x4 x6 y0 hty hI0 hR0 h
  subst hI0
  subst hR0
  unfold d_M_ownOf_57 at h
  refine ax_istore (ls' := [some (.int (x0)), some (.int (x1)), some (.int (x2)), some (.int (x3)), some (.int (x4)), some (.int (y0)), some (.int (x6))]) (q := 59) hX dc_M_ownOf_57 rfl (by decide) rfl ?_
  refine ax_iinc (v := x6 + 1) (ls' := [some (.int (x0)), some (.int (x1)), some (.int (x2)), some (.int (x3)), some (.int (x4)), some (.int (y0)), some (.int (x6 + 1))]) (q := 62) hX dc_M_ownOf_59 rfl rfl rfl (by decide) rfl ?_
  refine ax_goto (tgt := 6) hX dc_M_ownOf_62 (by decide) ?_
  exact (hrec6 I R (x0) (x1) (x2) (x3) (x4) (y0) (x6 + 1) hty  rfl rfl h)
def d_M_ownOf_6 (S : ax_S) : Nat → ax_I → ax_R → Int32 → Int32 → Int32 → Int32 → Int32 → Int32 → Int32 → Option (Int32)
  | 0, _, _, _, _, _, _, _, _, _ => none
  | n + 1, I, R, x0, x1, x2, x3, x4, x5, x6 =>
    if (x3 * x4) ≤ x6 then
      some (x5)
    else
      if x3 = 0 then none else
      if x3 = 0 then none else
      (d_M_comes S I R (x0) (x6 - x6 / x3 * x3) (x6 / x3) (x3) (x4)).bind fun r6 =>
      if r6 = ((1000 * x2) + x1) then
        if x3 = 0 then none else
        if x3 = 0 then none else
        d_M_ownOf_57 S (d_M_ownOf_6 S  n) I R (x0) (x1) (x2) (x3) (x4) (x6) ((64 * (x6 / x3)) + (x6 - x6 / x3 * x3))
      else
        d_M_ownOf_57 S (d_M_ownOf_6 S  n) I R (x0) (x1) (x2) (x3) (x4) (x6) (x5)
set_option maxHeartbeats 1000000 in
theorem e_M_ownOf_6 {l : Launch} {X : ax_X} {S : ax_S} {L : ax_L} {I0 : ax_I} {R0 : ax_R} {out : Int32} (hX : ax_ok X l "LossFreeToolsModel" b_M_ownOf 7 (ax_rm 2 0 0)) (hF : ax_fin X (some .int) 0 0 (ax_of (ax_eq (some (.int out)) S I0 R0 L))) (hS0 : ax_S0 X = S) : ∀ (n : Nat), ∀ (I : ax_I) (R : ax_R) (x0 : Int32) (x1 : Int32) (x2 : Int32) (x3 : Int32) (x4 : Int32) (x5 : Int32) (x6 : Int32), ax_typ S R → I = I0 → R = R0 → d_M_ownOf_6 S  n I R x0 x1 x2 x3 x4 x5 x6 = some out → ax_W X 7 6 [some (.int (x0)), some (.int (x1)), some (.int (x2)), some (.int (x3)), some (.int (x4)), some (.int (x5)), some (.int (x6))] [] S I R L 0 0 := by
  intro n
  induction n with
  | zero =>
    rintro I R x0 x1 x2 x3 x4 x5 x6 hty hI0 hR0 h
    cases h
  | succ n ih =>
    rintro I R x0 x1 x2 x3 x4 x5 x6 hty hI0 hR0 h
    subst hI0
    subst hR0
    unfold d_M_ownOf_6 at h
    refine ax_iload (q := 8) hX dc_M_ownOf_6 rfl rfl ?_
    refine ax_iload_n (q := 9) hX dc_M_ownOf_8 rfl rfl rfl ?_
    refine ax_iload (q := 11) hX dc_M_ownOf_9 rfl rfl ?_
    refine ax_imul (q := 12) hX dc_M_ownOf_11 rfl ?_
    refine ax_icmp_ge (tgt := 65) (q := 15) hX dc_M_ownOf_12 rfl (by decide) (fun z1 => ?_) (fun z1 => ?_)
    · rw [if_pos z1] at h
      refine ax_iload (q := 67) hX dc_M_ownOf_65 rfl rfl ?_
      cases h
      exact ax_iret hX hF dc_M_ownOf_67 rfl rfl (by decide) (by decide) ax_eq.mk (by rw [hS0]; exact fun _ _ z => z)
    · rw [if_neg z1] at h
      refine ax_iload_n (q := 16) hX dc_M_ownOf_15 rfl rfl rfl ?_
      refine ax_iload (q := 18) hX dc_M_ownOf_16 rfl rfl ?_
      refine ax_iload_n (q := 19) hX dc_M_ownOf_18 rfl rfl rfl ?_
      have z2 : ¬ x3 = 0 := fun hz => by rw [if_pos hz] at h; cases h
      rw [if_neg z2] at h
      refine ax_irem (q := 20) hX dc_M_ownOf_19 rfl z2 ?_
      refine ax_iload (q := 22) hX dc_M_ownOf_20 rfl rfl ?_
      refine ax_iload_n (q := 23) hX dc_M_ownOf_22 rfl rfl rfl ?_
      have z3 : ¬ x3 = 0 := fun hz => by rw [if_pos hz] at h; cases h
      rw [if_neg z3] at h
      refine ax_idiv (q := 24) hX dc_M_ownOf_23 rfl z3 ?_
      refine ax_iload_n (q := 25) hX dc_M_ownOf_24 rfl rfl rfl ?_
      refine ax_iload (q := 27) hX dc_M_ownOf_25 rfl rfl ?_
      obtain ⟨r6, hr4, h⟩ := ax_bd h
      refine ax_kS (vs := [.int (x0), .int (x6 - x6 / x3 * x3), .int (x6 / x3), .int (x3), .int (x4)]) (rest := []) (q := 30) hX dc_M_ownOf_27 rfl mt_M_comes wl_M_119 wt_M_comes (c_M_comes l hty  hr4) rfl (by decide) rfl (Nat.le_of_ble_eq_true rfl) rfl rfl (by decide) (by decide) rfl ?_
      refine ax_sipush (v := 1000) (q := 33) hX dc_M_ownOf_30 rfl (by decide) ?_
      refine ax_iload_n (q := 34) hX dc_M_ownOf_33 rfl rfl rfl ?_
      refine ax_imul (q := 35) hX dc_M_ownOf_34 rfl ?_
      refine ax_iload_n (q := 36) hX dc_M_ownOf_35 rfl rfl rfl ?_
      refine ax_iadd (q := 37) hX dc_M_ownOf_36 rfl ?_
      refine ax_icmp_ne (tgt := 55) (q := 40) hX dc_M_ownOf_37 rfl (by decide) (fun z7 => ?_) (fun z7 => ?_)
      · rw [if_neg z7] at h
        refine ax_iload (q := 57) hX dc_M_ownOf_55 rfl rfl ?_
        exact ax_weak (ls' := [some (.int (x0)), some (.int (x1)), some (.int (x2)), some (.int (x3)), some (.int (x4)), none, some (.int (x6))]) (ax_fewP_s _ _ (by repeat (first | exact trivial | (refine And.intro rfl ?_)))) (e_M_ownOf_57 hX hF hS0 (d_M_ownOf_6 S  n) (ih) I R (x0) (x1) (x2) (x3) (x4) (x6) (x5) hty  rfl rfl h)
      · rw [if_pos z7] at h
        refine ax_bipush (v := 64) (q := 42) hX dc_M_ownOf_40 rfl (by decide) ?_
        refine ax_iload (q := 44) hX dc_M_ownOf_42 rfl rfl ?_
        refine ax_iload_n (q := 45) hX dc_M_ownOf_44 rfl rfl rfl ?_
        have z8 : ¬ x3 = 0 := fun hz => by rw [if_pos hz] at h; cases h
        rw [if_neg z8] at h
        refine ax_idiv (q := 46) hX dc_M_ownOf_45 rfl z8 ?_
        refine ax_imul (q := 47) hX dc_M_ownOf_46 rfl ?_
        refine ax_iload (q := 49) hX dc_M_ownOf_47 rfl rfl ?_
        refine ax_iload_n (q := 50) hX dc_M_ownOf_49 rfl rfl rfl ?_
        have z9 : ¬ x3 = 0 := fun hz => by rw [if_pos hz] at h; cases h
        rw [if_neg z9] at h
        refine ax_irem (q := 51) hX dc_M_ownOf_50 rfl z9 ?_
        refine ax_iadd (q := 52) hX dc_M_ownOf_51 rfl ?_
        refine ax_goto (tgt := 57) hX dc_M_ownOf_52 (by decide) ?_
        exact ax_weak (ls' := [some (.int (x0)), some (.int (x1)), some (.int (x2)), some (.int (x3)), some (.int (x4)), none, some (.int (x6))]) (ax_fewP_s _ _ (by repeat (first | exact trivial | (refine And.intro rfl ?_)))) (e_M_ownOf_57 hX hF hS0 (d_M_ownOf_6 S  n) (ih) I R (x0) (x1) (x2) (x3) (x4) (x6) ((64 * (x6 / x3)) + (x6 - x6 / x3 * x3)) hty  rfl rfl h)
def d_M_ownOf (S : ax_S) (I : ax_I) (R : ax_R) (x0 : Int32) (x1 : Int32) (x2 : Int32) (x3 : Int32) (x4 : Int32) : Option (Int32) :=
  d_M_ownOf_6 S  5000 I R (x0) (x1) (x2) (x3) (x4) ((-1)) (0)
set_option maxHeartbeats 1000000 in
theorem c_M_ownOf (l : Launch) {S : ax_S} {I : ax_I} {R : ax_R} {L : ax_L} {x0 : Int32} {x1 : Int32} {x2 : Int32} {x3 : Int32} {x4 : Int32} {out : Int32} (hty : ax_typ S R) (h : d_M_ownOf S I R x0 x1 x2 x3 x4 = some out) : ax_Met l y_M_ownOf b_M_ownOf 7 (some .int) (ax_rm 2 0 0) [.int x0, .int x1, .int x2, .int x3, .int x4] S I R L (ax_eq (some (.int out)) S I R L) := by
  refine ax_enter (own := "LossFreeToolsModel") (by decide +kernel) rfl (ax_cats rfl) (Nat.le_of_ble_eq_true rfl) (fun X hX hF _ hS0 => ?_)
  show ax_W X 7 0 [some (.int (x0)), some (.int (x1)), some (.int (x2)), some (.int (x3)), some (.int (x4)), none, none] [] S I R L 0 0
  unfold d_M_ownOf at h
  refine ax_iconst (v := (-1)) (q := 1) hX dc_M_ownOf_0 rfl (by decide) ?_
  refine ax_istore (ls' := [some (.int (x0)), some (.int (x1)), some (.int (x2)), some (.int (x3)), some (.int (x4)), some (.int ((-1))), none]) (q := 3) hX dc_M_ownOf_1 rfl (by decide) rfl ?_
  refine ax_iconst (v := 0) (q := 4) hX dc_M_ownOf_3 rfl (by decide) ?_
  refine ax_istore (ls' := [some (.int (x0)), some (.int (x1)), some (.int (x2)), some (.int (x3)), some (.int (x4)), some (.int ((-1))), some (.int (0))]) (q := 6) hX dc_M_ownOf_4 rfl (by decide) rfl ?_
  exact (e_M_ownOf_6 hX hF hS0  5000 I R (x0) (x1) (x2) (x3) (x4) ((-1)) (0) hty  rfl rfl h)
def d_M_noteAt_25 (S : ax_S) (I : ax_I) (R : ax_R) (u0 : Nat) (x1 : Int32) (x2 : Int32) (y0 : Int32) (w1 : Nat) : Option (Int32 × ax_I) :=
  (some (ax_up I w1 0 (y0))).bind fun I11 =>
  if (I11 u0 0) ≤ 0 then
    if x2 = 0 then
      (R u0 15).bind fun u29 =>
      (ax_ix S u29 ((20 * (I11 u0 3)) + x1)).bind fun j33 =>
      some (I11 u29 j33, I11)
    else
      if x2 = 1 then
        (R u0 16).bind fun u23 =>
        (ax_ix S u23 ((20 * (I11 u0 3)) + x1)).bind fun j27 =>
        some (I11 u23 j27, I11)
      else
        if x2 = 2 then
          (R u0 17).bind fun u17 =>
          (ax_ix S u17 ((20 * (I11 u0 3)) + x1)).bind fun j21 =>
          some (I11 u17 j21, I11)
        else
          some ((-1), I11)
  else
    some (0, I11)
set_option maxHeartbeats 1000000 in
theorem e_M_noteAt_25 {l : Launch} {X : ax_X} {S : ax_S} {L : ax_L} {R0 : ax_R} {out : Int32 × ax_I} (hX : ax_ok X l "LossFreeToolsModel" b_M_noteAt 4 (ax_rm 2 0 0)) (hF : ax_fin X (some .int) 0 0 (ax_of (ax_eq (some (.int out.1)) S out.2 R0 L))) (hS0 : ax_S0 X = S) : ∀ (I : ax_I) (R : ax_R) (u0 : Nat) (x1 : Int32) (x2 : Int32) (y0 : Int32) (w1 : Nat), ax_typ S R → (S u0 = some (.inl 5)) → (S w1 = some (.inl 5)) → R = R0 → d_M_noteAt_25 S  I R u0 x1 x2 y0 w1 = some out → ax_W X 4 25 [some (.ref u0), some (.int (x1)), some (.int (x2)), none] [.int (y0), .ref w1] S I R L 0 0 := by
  rintro I R u0 x1 x2 y0 w1 hty hs0_ hw1_ hR0 h
  subst hR0
  unfold d_M_noteAt_25 at h
  obtain ⟨I11, e12, h⟩ := ax_bs h
  refine ax_putI (q := 28) hX dc_M_noteAt_25 rfl fl_M_68 rfl hw1_ (fun z => by cases z) rfl rfl e12 ?_
  refine ax_bipush (v := 20) (q := 30) hX dc_M_noteAt_28 rfl (by decide) ?_
  refine ax_aload_n (q := 31) hX dc_M_noteAt_30 rfl rfl rfl ?_
  refine ax_getI (q := 34) hX dc_M_noteAt_31 rfl fl_M_71 rfl hs0_ ?_
  refine ax_imul (q := 35) hX dc_M_noteAt_34 rfl ?_
  refine ax_iload_n (q := 36) hX dc_M_noteAt_35 rfl rfl rfl ?_
  refine ax_iadd (q := 37) hX dc_M_noteAt_36 rfl ?_
  refine ax_istore_n (ls' := [some (.ref u0), some (.int (x1)), some (.int (x2)), some (.int ((20 * (I11 u0 3)) + x1))]) (q := 38) hX dc_M_noteAt_37 rfl rfl (by decide) rfl ?_
  refine ax_aload_n (q := 39) hX dc_M_noteAt_38 rfl rfl rfl ?_
  refine ax_getI (q := 42) hX dc_M_noteAt_39 rfl fl_M_68 rfl hs0_ ?_
  refine ax_if_le (tgt := 49) (q := 45) hX dc_M_noteAt_42 rfl (by decide) (fun z13 => ?_) (fun z13 => ?_)
  · rw [if_pos z13] at h
    refine ax_iload_n (q := 50) hX dc_M_noteAt_49 rfl rfl rfl ?_
    refine ax_if_ne (tgt := 62) (q := 53) hX dc_M_noteAt_50 rfl (by decide) (fun z14 => ?_) (fun z14 => ?_)
    · rw [if_neg z14] at h
      refine ax_iload_n (q := 63) hX dc_M_noteAt_62 rfl rfl rfl ?_
      refine ax_iconst (v := 1) (q := 64) hX dc_M_noteAt_63 rfl (by decide) ?_
      refine ax_icmp_ne (tgt := 76) (q := 67) hX dc_M_noteAt_64 rfl (by decide) (fun z15 => ?_) (fun z15 => ?_)
      · rw [if_neg z15] at h
        refine ax_iload_n (q := 77) hX dc_M_noteAt_76 rfl rfl rfl ?_
        refine ax_iconst (v := 2) (q := 78) hX dc_M_noteAt_77 rfl (by decide) ?_
        refine ax_icmp_ne (tgt := 90) (q := 81) hX dc_M_noteAt_78 rfl (by decide) (fun z16 => ?_) (fun z16 => ?_)
        · rw [if_neg z16] at h
          refine ax_iconst (v := (-1)) (q := 91) hX dc_M_noteAt_90 rfl (by decide) ?_
          cases h
          exact ax_iret hX hF dc_M_noteAt_91 rfl rfl (by decide) (by decide) ax_eq.mk (by rw [hS0]; exact fun _ _ z => z)
        · rw [if_pos z16] at h
          refine ax_aload_n (q := 82) hX dc_M_noteAt_81 rfl rfl rfl ?_
          obtain ⟨u17, hu18, h⟩ := ax_bd h
          obtain ⟨n20, hs19⟩ : ∃ n, S u17 = some (.inr (0, n)) := hty.1 _ _ _ _ hs0_ hu18
          refine ax_getR (q := 85) hX dc_M_noteAt_82 rfl fl_M_49 rfl hs0_ hu18 ?_
          refine ax_iload_n (q := 86) hX dc_M_noteAt_85 rfl rfl rfl ?_
          obtain ⟨j21, hj22, h⟩ := ax_bd h
          have hj22 := ax_ix_s hty hs19 hj22
          refine ax_iald (q := 87) hX j21 dc_M_noteAt_86 rfl hs19 hj22.1 hj22.2.1 hj22.2.2 ?_
          refine ax_goto (tgt := 91) hX dc_M_noteAt_87 (by decide) ?_
          cases h
          exact ax_iret hX hF dc_M_noteAt_91 rfl rfl (by decide) (by decide) ax_eq.mk (by rw [hS0]; exact fun _ _ z => z)
      · rw [if_pos z15] at h
        refine ax_aload_n (q := 68) hX dc_M_noteAt_67 rfl rfl rfl ?_
        obtain ⟨u23, hu24, h⟩ := ax_bd h
        obtain ⟨n26, hs25⟩ : ∃ n, S u23 = some (.inr (0, n)) := hty.1 _ _ _ _ hs0_ hu24
        refine ax_getR (q := 71) hX dc_M_noteAt_68 rfl fl_M_46 rfl hs0_ hu24 ?_
        refine ax_iload_n (q := 72) hX dc_M_noteAt_71 rfl rfl rfl ?_
        obtain ⟨j27, hj28, h⟩ := ax_bd h
        have hj28 := ax_ix_s hty hs25 hj28
        refine ax_iald (q := 73) hX j27 dc_M_noteAt_72 rfl hs25 hj28.1 hj28.2.1 hj28.2.2 ?_
        refine ax_goto (tgt := 91) hX dc_M_noteAt_73 (by decide) ?_
        cases h
        exact ax_iret hX hF dc_M_noteAt_91 rfl rfl (by decide) (by decide) ax_eq.mk (by rw [hS0]; exact fun _ _ z => z)
    · rw [if_pos z14] at h
      refine ax_aload_n (q := 54) hX dc_M_noteAt_53 rfl rfl rfl ?_
      obtain ⟨u29, hu30, h⟩ := ax_bd h
      obtain ⟨n32, hs31⟩ : ∃ n, S u29 = some (.inr (0, n)) := hty.1 _ _ _ _ hs0_ hu30
      refine ax_getR (q := 57) hX dc_M_noteAt_54 rfl fl_M_43 rfl hs0_ hu30 ?_
      refine ax_iload_n (q := 58) hX dc_M_noteAt_57 rfl rfl rfl ?_
      obtain ⟨j33, hj34, h⟩ := ax_bd h
      have hj34 := ax_ix_s hty hs31 hj34
      refine ax_iald (q := 59) hX j33 dc_M_noteAt_58 rfl hs31 hj34.1 hj34.2.1 hj34.2.2 ?_
      refine ax_goto (tgt := 91) hX dc_M_noteAt_59 (by decide) ?_
      cases h
      exact ax_iret hX hF dc_M_noteAt_91 rfl rfl (by decide) (by decide) ax_eq.mk (by rw [hS0]; exact fun _ _ z => z)
  · rw [if_neg z13] at h
    refine ax_iconst (v := 0) (q := 46) hX dc_M_noteAt_45 rfl (by decide) ?_
    refine ax_goto (tgt := 91) hX dc_M_noteAt_46 (by decide) ?_
    cases h
    exact ax_iret hX hF dc_M_noteAt_91 rfl rfl (by decide) (by decide) ax_eq.mk (by rw [hS0]; exact fun _ _ z => z)
def d_M_noteAt (S : ax_S) (I : ax_I) (R : ax_R) (u0 : Nat) (x1 : Int32) (x2 : Int32) : Option (Int32 × ax_I) :=
  (R u0 7).bind fun u1 =>
  (ax_ix S u1 (I u0 3)).bind fun j5 =>
  (d_M_in S I R (x1) (0) ((I u1 j5) - 1)).bind fun r9 =>
  if (ax_b r9) = 0 then
    d_M_noteAt_25 S  I R u0 (x1) (x2) (1) u0
  else
    d_M_noteAt_25 S  I R u0 (x1) (x2) (0) u0
set_option maxHeartbeats 1000000 in
theorem c_M_noteAt (l : Launch) {S : ax_S} {I : ax_I} {R : ax_R} {L : ax_L} {u0 : Nat} {x1 : Int32} {x2 : Int32} {out : Int32 × ax_I} (hty : ax_typ S R) (hs0 : S u0 = some (.inl 5)) (h : d_M_noteAt S I R u0 x1 x2 = some out) : ax_Met l y_M_noteAt b_M_noteAt 4 (some .int) (ax_rm 2 0 0) [.ref u0, .int x1, .int x2] S I R L (ax_eq (some (.int out.1)) S out.2 R L) := by
  refine ax_enter (own := "LossFreeToolsModel") (by decide +kernel) rfl (ax_cats rfl) (Nat.le_of_ble_eq_true rfl) (fun X hX hF _ hS0 => ?_)
  show ax_W X 4 0 [some (.ref u0), some (.int (x1)), some (.int (x2)), none] [] S I R L 0 0
  unfold d_M_noteAt at h
  refine ax_aload_n (q := 1) hX dc_M_noteAt_0 rfl rfl rfl ?_
  refine ax_iload_n (q := 2) hX dc_M_noteAt_1 rfl rfl rfl ?_
  refine ax_iconst (v := 0) (q := 3) hX dc_M_noteAt_2 rfl (by decide) ?_
  refine ax_aload_n (q := 4) hX dc_M_noteAt_3 rfl rfl rfl ?_
  obtain ⟨u1, hu2, h⟩ := ax_bd h
  obtain ⟨n4, hs3⟩ : ∃ n, S u1 = some (.inr (0, n)) := hty.1 _ _ _ _ hs0 hu2
  refine ax_getR (q := 7) hX dc_M_noteAt_4 rfl fl_M_19 rfl hs0 hu2 ?_
  refine ax_aload_n (q := 8) hX dc_M_noteAt_7 rfl rfl rfl ?_
  refine ax_getI (q := 11) hX dc_M_noteAt_8 rfl fl_M_71 rfl hs0 ?_
  obtain ⟨j5, hj6, h⟩ := ax_bd h
  have hj6 := ax_ix_s hty hs3 hj6
  refine ax_iald (q := 12) hX j5 dc_M_noteAt_11 rfl hs3 hj6.1 hj6.2.1 hj6.2.2 ?_
  refine ax_iconst (v := 1) (q := 13) hX dc_M_noteAt_12 rfl (by decide) ?_
  refine ax_isub (q := 14) hX dc_M_noteAt_13 rfl ?_
  obtain ⟨r9, hr7, h⟩ := ax_bd h
  refine ax_kS (vs := [.int (x1), .int (0), .int ((I u1 j5) - 1)]) (rest := [.ref u0]) (q := 17) hX dc_M_noteAt_14 rfl mt_M_in wl_M_84 wt_M_in (c_M_in l hty  hr7) rfl (by decide) rfl (Nat.le_of_ble_eq_true rfl) rfl rfl (by decide) (by decide) rfl ?_
  refine ax_if_eq (tgt := 24) (q := 20) hX dc_M_noteAt_17 rfl (by decide) (fun z10 => ?_) (fun z10 => ?_)
  · rw [if_pos z10] at h
    refine ax_iconst (v := 1) (q := 25) hX dc_M_noteAt_24 rfl (by decide) ?_
    exact (e_M_noteAt_25 hX hF hS0  I R u0 (x1) (x2) (1) u0 hty hs0 hs0 rfl h)
  · rw [if_neg z10] at h
    refine ax_iconst (v := 0) (q := 21) hX dc_M_noteAt_20 rfl (by decide) ?_
    refine ax_goto (tgt := 25) hX dc_M_noteAt_21 (by decide) ?_
    exact (e_M_noteAt_25 hX hF hS0  I R u0 (x1) (x2) (0) u0 hty hs0 hs0 rfl h)
def d_M_tellTwo (S : ax_S) (I : ax_I) (R : ax_R) (u0 : Nat) (x1 : Int32) : Option (ax_I) :=
  (d_M_tell S I R u0 (x1 - x1 / 256 * 256)).bind fun I3 =>
  (d_M_tell S I3 R u0 (x1 / 256)).bind fun I6 =>
  some (I6)
set_option maxHeartbeats 1000000 in
theorem c_M_tellTwo (l : Launch) {S : ax_S} {I : ax_I} {R : ax_R} {L : ax_L} {u0 : Nat} {x1 : Int32} {out : ax_I} (hty : ax_typ S R) (hs0 : S u0 = some (.inl 5)) (h : d_M_tellTwo S I R u0 x1 = some out) : ax_Met l y_M_tellTwo b_M_tellTwo 2 none (ax_rm 2 0 0) [.ref u0, .int x1] S I R L (ax_eq none S out R L) := by
  refine ax_enter (own := "LossFreeToolsModel") (by decide +kernel) rfl (ax_cats rfl) (Nat.le_of_ble_eq_true rfl) (fun X hX hF _ hS0 => ?_)
  show ax_W X 2 0 [some (.ref u0), some (.int (x1))] [] S I R L 0 0
  unfold d_M_tellTwo at h
  refine ax_aload_n (q := 1) hX dc_M_tellTwo_0 rfl rfl rfl ?_
  refine ax_iload_n (q := 2) hX dc_M_tellTwo_1 rfl rfl rfl ?_
  refine ax_sipush (v := 256) (q := 5) hX dc_M_tellTwo_2 rfl (by decide) ?_
  refine ax_irem (q := 6) hX dc_M_tellTwo_5 rfl (by decide) ?_
  obtain ⟨I3, hr1, h⟩ := ax_bd h
  refine ax_kV (vs := [.int (x1 - x1 / 256 * 256)]) (rest := []) (q := 9) hX dc_M_tellTwo_6 rfl mt_M_tell wl_M_133 wi_M_tell ws_M_tell hs0 rfl (c_M_tell l hty hs0 hr1) rfl (by decide) rfl (Nat.le_of_ble_eq_true rfl) rfl rfl (by decide) (by decide) rfl ?_
  refine ax_aload_n (q := 10) hX dc_M_tellTwo_9 rfl rfl rfl ?_
  refine ax_iload_n (q := 11) hX dc_M_tellTwo_10 rfl rfl rfl ?_
  refine ax_sipush (v := 256) (q := 14) hX dc_M_tellTwo_11 rfl (by decide) ?_
  refine ax_idiv (q := 15) hX dc_M_tellTwo_14 rfl (by decide) ?_
  obtain ⟨I6, hr4, h⟩ := ax_bd h
  refine ax_kV (vs := [.int (x1 / 256)]) (rest := []) (q := 18) hX dc_M_tellTwo_15 rfl mt_M_tell wl_M_133 wi_M_tell ws_M_tell hs0 rfl (c_M_tell l hty hs0 hr4) rfl (by decide) rfl (Nat.le_of_ble_eq_true rfl) rfl rfl (by decide) (by decide) rfl ?_
  cases h
  exact ax_vret hX hF dc_M_tellTwo_18 (by decide) (by decide) ax_eq.mk (by rw [hS0]; exact fun _ _ z => z)
def d_M_pointerOf_77 (S : ax_S) (rec29 : ax_I → ax_R → Nat → Int32 → Int32 → Int32 → Option (Int32)) (I : ax_I) (R : ax_R) (u0 : Nat) (x1 : Int32) (x3 : Int32) (y0 : Int32) (y1 : Int32) : Option (Int32) :=
  rec29 I R u0 (x1) (y1 + y0) (x3 + 1)
set_option maxHeartbeats 1000000 in
theorem e_M_pointerOf_77 {l : Launch} {X : ax_X} {S : ax_S} {L : ax_L} {I0 : ax_I} {R0 : ax_R} {out : Int32} (hX : ax_ok X l "LossFreeToolsModel" b_M_pointerOf 4 (ax_rm 2 0 0)) (hF : ax_fin X (some .int) 0 0 (ax_of (ax_eq (some (.int out)) S I0 R0 L))) (hS0 : ax_S0 X = S) (rec29 : ax_I → ax_R → Nat → Int32 → Int32 → Int32 → Option (Int32)) (hrec29 : ∀ (I : ax_I) (R : ax_R) (u0 : Nat) (x1 : Int32) (x2 : Int32) (x3 : Int32), ax_typ S R → (S u0 = some (.inl 5)) → I = I0 → R = R0 → rec29 I R u0 x1 x2 x3 = some out → ax_W X 4 29 [some (.ref u0), some (.int (x1)), some (.int (x2)), some (.int (x3))] [] S I R L 0 0) : ∀ (I : ax_I) (R : ax_R) (u0 : Nat) (x1 : Int32) (x3 : Int32) (y0 : Int32) (y1 : Int32), ax_typ S R → (S u0 = some (.inl 5)) → I = I0 → R = R0 → d_M_pointerOf_77 S rec29 I R u0 x1 x3 y0 y1 = some out → ax_W X 4 77 [some (.ref u0), some (.int (x1)), none, some (.int (x3))] [.int (y0), .int (y1)] S I R L 0 0 := by
  rintro I R u0 x1 x3 y0 y1 hty hs0_ hI0 hR0 h
  subst hI0
  subst hR0
  unfold d_M_pointerOf_77 at h
  refine ax_iadd (q := 78) hX dc_M_pointerOf_77 rfl ?_
  refine ax_istore_n (ls' := [some (.ref u0), some (.int (x1)), some (.int (y1 + y0)), some (.int (x3))]) (q := 79) hX dc_M_pointerOf_78 rfl rfl (by decide) rfl ?_
  refine ax_iinc (v := x3 + 1) (ls' := [some (.ref u0), some (.int (x1)), some (.int (y1 + y0)), some (.int (x3 + 1))]) (q := 82) hX dc_M_pointerOf_79 rfl rfl rfl (by decide) rfl ?_
  refine ax_goto (tgt := 29) hX dc_M_pointerOf_82 (by decide) ?_
  exact (hrec29 I R u0 (x1) (y1 + y0) (x3 + 1) hty hs0_ rfl rfl h)
def d_M_pointerOf_29 (S : ax_S) : Nat → ax_I → ax_R → Nat → Int32 → Int32 → Int32 → Option (Int32)
  | 0, _, _, _, _, _, _ => none
  | n + 1, I, R, u0, x1, x2, x3 =>
    (R u0 6).bind fun u13 =>
    (ax_ix S u13 (I u0 3)).bind fun j17 =>
    if (I u13 j17) ≤ x3 then
      some (x2)
    else
      (d_M_tileAt S I R u0 (x3)).bind fun r22 =>
      (d_M_tileAt S I R u0 (x1)).bind fun r25 =>
      (d_M_isBefore S I R u0 (r22) (r25)).bind fun r28 =>
      if (ax_b r28) = 0 then
        d_M_pointerOf_77 S (d_M_pointerOf_29 S  n) I R u0 (x1) (x3) (0) (x2)
      else
        (R u0 13).bind fun u30 =>
        (d_M_tileAt S I R u0 (x3)).bind fun r36 =>
        (ax_ix S u30 (r36)).bind fun j37 =>
        (d_M_partSize S I R (I u30 j37)).bind fun r41 =>
        d_M_pointerOf_77 S (d_M_pointerOf_29 S  n) I R u0 (x1) (x3) (r41) (x2)
set_option maxHeartbeats 1000000 in
theorem e_M_pointerOf_29 {l : Launch} {X : ax_X} {S : ax_S} {L : ax_L} {I0 : ax_I} {R0 : ax_R} {out : Int32} (hX : ax_ok X l "LossFreeToolsModel" b_M_pointerOf 4 (ax_rm 2 0 0)) (hF : ax_fin X (some .int) 0 0 (ax_of (ax_eq (some (.int out)) S I0 R0 L))) (hS0 : ax_S0 X = S) : ∀ (n : Nat), ∀ (I : ax_I) (R : ax_R) (u0 : Nat) (x1 : Int32) (x2 : Int32) (x3 : Int32), ax_typ S R → (S u0 = some (.inl 5)) → I = I0 → R = R0 → d_M_pointerOf_29 S  n I R u0 x1 x2 x3 = some out → ax_W X 4 29 [some (.ref u0), some (.int (x1)), some (.int (x2)), some (.int (x3))] [] S I R L 0 0 := by
  intro n
  induction n with
  | zero =>
    rintro I R u0 x1 x2 x3 hty hs0_ hI0 hR0 h
    cases h
  | succ n ih =>
    rintro I R u0 x1 x2 x3 hty hs0_ hI0 hR0 h
    subst hI0
    subst hR0
    unfold d_M_pointerOf_29 at h
    refine ax_iload_n (q := 30) hX dc_M_pointerOf_29 rfl rfl rfl ?_
    refine ax_aload_n (q := 31) hX dc_M_pointerOf_30 rfl rfl rfl ?_
    obtain ⟨u13, hu14, h⟩ := ax_bd h
    obtain ⟨n16, hs15⟩ : ∃ n, S u13 = some (.inr (0, n)) := hty.1 _ _ _ _ hs0_ hu14
    refine ax_getR (q := 34) hX dc_M_pointerOf_31 rfl fl_M_16 rfl hs0_ hu14 ?_
    refine ax_aload_n (q := 35) hX dc_M_pointerOf_34 rfl rfl rfl ?_
    refine ax_getI (q := 38) hX dc_M_pointerOf_35 rfl fl_M_71 rfl hs0_ ?_
    obtain ⟨j17, hj18, h⟩ := ax_bd h
    have hj18 := ax_ix_s hty hs15 hj18
    refine ax_iald (q := 39) hX j17 dc_M_pointerOf_38 rfl hs15 hj18.1 hj18.2.1 hj18.2.2 ?_
    refine ax_icmp_ge (tgt := 85) (q := 42) hX dc_M_pointerOf_39 rfl (by decide) (fun z19 => ?_) (fun z19 => ?_)
    · rw [if_pos z19] at h
      refine ax_iload_n (q := 86) hX dc_M_pointerOf_85 rfl rfl rfl ?_
      cases h
      exact ax_iret hX hF dc_M_pointerOf_86 rfl rfl (by decide) (by decide) ax_eq.mk (by rw [hS0]; exact fun _ _ z => z)
    · rw [if_neg z19] at h
      refine ax_iload_n (q := 43) hX dc_M_pointerOf_42 rfl rfl rfl ?_
      refine ax_aload_n (q := 44) hX dc_M_pointerOf_43 rfl rfl rfl ?_
      refine ax_aload_n (q := 45) hX dc_M_pointerOf_44 rfl rfl rfl ?_
      refine ax_iload_n (q := 46) hX dc_M_pointerOf_45 rfl rfl rfl ?_
      obtain ⟨r22, hr20, h⟩ := ax_bd h
      refine ax_kV (vs := [.int (x3)]) (rest := [.ref u0, .int (x2)]) (q := 49) hX dc_M_pointerOf_46 rfl mt_M_tileAt wl_M_92 wi_M_tileAt ws_M_tileAt hs0_ rfl (c_M_tileAt l hty hs0_ hr20) rfl (by decide) rfl (Nat.le_of_ble_eq_true rfl) rfl rfl (by decide) (by decide) rfl ?_
      refine ax_aload_n (q := 50) hX dc_M_pointerOf_49 rfl rfl rfl ?_
      refine ax_iload_n (q := 51) hX dc_M_pointerOf_50 rfl rfl rfl ?_
      obtain ⟨r25, hr23, h⟩ := ax_bd h
      refine ax_kV (vs := [.int (x1)]) (rest := [.int (r22), .ref u0, .int (x2)]) (q := 54) hX dc_M_pointerOf_51 rfl mt_M_tileAt wl_M_92 wi_M_tileAt ws_M_tileAt hs0_ rfl (c_M_tileAt l hty hs0_ hr23) rfl (by decide) rfl (Nat.le_of_ble_eq_true rfl) rfl rfl (by decide) (by decide) rfl ?_
      obtain ⟨r28, hr26, h⟩ := ax_bd h
      refine ax_kV (vs := [.int (r22), .int (r25)]) (rest := [.int (x2)]) (q := 57) hX dc_M_pointerOf_54 rfl mt_M_isBefore wl_M_137 wi_M_isBefore ws_M_isBefore hs0_ rfl (c_M_isBefore l hty hs0_ hr26) rfl (by decide) rfl (Nat.le_of_ble_eq_true rfl) rfl rfl (by decide) (by decide) rfl ?_
      refine ax_if_eq (tgt := 76) (q := 60) hX dc_M_pointerOf_57 rfl (by decide) (fun z29 => ?_) (fun z29 => ?_)
      · rw [if_pos z29] at h
        refine ax_iconst (v := 0) (q := 77) hX dc_M_pointerOf_76 rfl (by decide) ?_
        exact ax_weak (ls' := [some (.ref u0), some (.int (x1)), none, some (.int (x3))]) (ax_fewP_s _ _ (by repeat (first | exact trivial | (refine And.intro rfl ?_)))) (e_M_pointerOf_77 hX hF hS0 (d_M_pointerOf_29 S  n) (ih) I R u0 (x1) (x3) (0) (x2) hty hs0_ rfl rfl h)
      · rw [if_neg z29] at h
        refine ax_aload_n (q := 61) hX dc_M_pointerOf_60 rfl rfl rfl ?_
        obtain ⟨u30, hu31, h⟩ := ax_bd h
        obtain ⟨n33, hs32⟩ : ∃ n, S u30 = some (.inr (0, n)) := hty.1 _ _ _ _ hs0_ hu31
        refine ax_getR (q := 64) hX dc_M_pointerOf_61 rfl fl_M_37 rfl hs0_ hu31 ?_
        refine ax_aload_n (q := 65) hX dc_M_pointerOf_64 rfl rfl rfl ?_
        refine ax_iload_n (q := 66) hX dc_M_pointerOf_65 rfl rfl rfl ?_
        obtain ⟨r36, hr34, h⟩ := ax_bd h
        refine ax_kV (vs := [.int (x3)]) (rest := [.ref u30, .int (x2)]) (q := 69) hX dc_M_pointerOf_66 rfl mt_M_tileAt wl_M_92 wi_M_tileAt ws_M_tileAt hs0_ rfl (c_M_tileAt l hty hs0_ hr34) rfl (by decide) rfl (Nat.le_of_ble_eq_true rfl) rfl rfl (by decide) (by decide) rfl ?_
        obtain ⟨j37, hj38, h⟩ := ax_bd h
        have hj38 := ax_ix_s hty hs32 hj38
        refine ax_iald (q := 70) hX j37 dc_M_pointerOf_69 rfl hs32 hj38.1 hj38.2.1 hj38.2.2 ?_
        obtain ⟨r41, hr39, h⟩ := ax_bd h
        refine ax_kS (vs := [.int (I u30 j37)]) (rest := [.int (x2)]) (q := 73) hX dc_M_pointerOf_70 rfl mt_M_partSize wl_M_140 wt_M_partSize (c_M_partSize l hty  hr39) rfl (by decide) rfl (Nat.le_of_ble_eq_true rfl) rfl rfl (by decide) (by decide) rfl ?_
        refine ax_goto (tgt := 77) hX dc_M_pointerOf_73 (by decide) ?_
        exact ax_weak (ls' := [some (.ref u0), some (.int (x1)), none, some (.int (x3))]) (ax_fewP_s _ _ (by repeat (first | exact trivial | (refine And.intro rfl ?_)))) (e_M_pointerOf_77 hX hF hS0 (d_M_pointerOf_29 S  n) (ih) I R u0 (x1) (x3) (r41) (x2) hty hs0_ rfl rfl h)
def d_M_pointerOf (S : ax_S) (I : ax_I) (R : ax_R) (u0 : Nat) (x1 : Int32) : Option (Int32) :=
  (R u0 6).bind fun u1 =>
  (ax_ix S u1 (I u0 3)).bind fun j5 =>
  (R u0 7).bind fun u7 =>
  (ax_ix S u7 (I u0 3)).bind fun j11 =>
  d_M_pointerOf_29 S  5000 I R u0 (x1) ((8 + (2 * (I u1 j5))) + (5 * (I u7 j11))) (0)
set_option maxHeartbeats 1000000 in
theorem c_M_pointerOf (l : Launch) {S : ax_S} {I : ax_I} {R : ax_R} {L : ax_L} {u0 : Nat} {x1 : Int32} {out : Int32} (hty : ax_typ S R) (hs0 : S u0 = some (.inl 5)) (h : d_M_pointerOf S I R u0 x1 = some out) : ax_Met l y_M_pointerOf b_M_pointerOf 4 (some .int) (ax_rm 2 0 0) [.ref u0, .int x1] S I R L (ax_eq (some (.int out)) S I R L) := by
  refine ax_enter (own := "LossFreeToolsModel") (by decide +kernel) rfl (ax_cats rfl) (Nat.le_of_ble_eq_true rfl) (fun X hX hF _ hS0 => ?_)
  show ax_W X 4 0 [some (.ref u0), some (.int (x1)), none, none] [] S I R L 0 0
  unfold d_M_pointerOf at h
  refine ax_bipush (v := 8) (q := 2) hX dc_M_pointerOf_0 rfl (by decide) ?_
  refine ax_iconst (v := 2) (q := 3) hX dc_M_pointerOf_2 rfl (by decide) ?_
  refine ax_aload_n (q := 4) hX dc_M_pointerOf_3 rfl rfl rfl ?_
  obtain ⟨u1, hu2, h⟩ := ax_bd h
  obtain ⟨n4, hs3⟩ : ∃ n, S u1 = some (.inr (0, n)) := hty.1 _ _ _ _ hs0 hu2
  refine ax_getR (q := 7) hX dc_M_pointerOf_4 rfl fl_M_16 rfl hs0 hu2 ?_
  refine ax_aload_n (q := 8) hX dc_M_pointerOf_7 rfl rfl rfl ?_
  refine ax_getI (q := 11) hX dc_M_pointerOf_8 rfl fl_M_71 rfl hs0 ?_
  obtain ⟨j5, hj6, h⟩ := ax_bd h
  have hj6 := ax_ix_s hty hs3 hj6
  refine ax_iald (q := 12) hX j5 dc_M_pointerOf_11 rfl hs3 hj6.1 hj6.2.1 hj6.2.2 ?_
  refine ax_imul (q := 13) hX dc_M_pointerOf_12 rfl ?_
  refine ax_iadd (q := 14) hX dc_M_pointerOf_13 rfl ?_
  refine ax_iconst (v := 5) (q := 15) hX dc_M_pointerOf_14 rfl (by decide) ?_
  refine ax_aload_n (q := 16) hX dc_M_pointerOf_15 rfl rfl rfl ?_
  obtain ⟨u7, hu8, h⟩ := ax_bd h
  obtain ⟨n10, hs9⟩ : ∃ n, S u7 = some (.inr (0, n)) := hty.1 _ _ _ _ hs0 hu8
  refine ax_getR (q := 19) hX dc_M_pointerOf_16 rfl fl_M_19 rfl hs0 hu8 ?_
  refine ax_aload_n (q := 20) hX dc_M_pointerOf_19 rfl rfl rfl ?_
  refine ax_getI (q := 23) hX dc_M_pointerOf_20 rfl fl_M_71 rfl hs0 ?_
  obtain ⟨j11, hj12, h⟩ := ax_bd h
  have hj12 := ax_ix_s hty hs9 hj12
  refine ax_iald (q := 24) hX j11 dc_M_pointerOf_23 rfl hs9 hj12.1 hj12.2.1 hj12.2.2 ?_
  refine ax_imul (q := 25) hX dc_M_pointerOf_24 rfl ?_
  refine ax_iadd (q := 26) hX dc_M_pointerOf_25 rfl ?_
  refine ax_istore_n (ls' := [some (.ref u0), some (.int (x1)), some (.int ((8 + (2 * (I u1 j5))) + (5 * (I u7 j11)))), none]) (q := 27) hX dc_M_pointerOf_26 rfl rfl (by decide) rfl ?_
  refine ax_iconst (v := 0) (q := 28) hX dc_M_pointerOf_27 rfl (by decide) ?_
  refine ax_istore_n (ls' := [some (.ref u0), some (.int (x1)), some (.int ((8 + (2 * (I u1 j5))) + (5 * (I u7 j11)))), some (.int (0))]) (q := 29) hX dc_M_pointerOf_28 rfl rfl (by decide) rfl ?_
  exact (e_M_pointerOf_29 hX hF hS0  5000 I R u0 (x1) ((8 + (2 * (I u1 j5))) + (5 * (I u7 j11))) (0) hty hs0 rfl rfl h)
def d_M_streamAt_20 (S : ax_S) (I : ax_I) (R : ax_R) (u0 : Nat) (x1 : Int32) (y0 : Int32) (w1 : Nat) : Option (Int32 × ax_I) :=
  (some (ax_up I w1 0 (y0))).bind fun I5 =>
  if (I5 u0 0) ≤ 0 then
    (R u0 21).bind fun u8 =>
    (ax_ix S u8 (x1)).bind fun j12 =>
    some (I5 u8 j12, I5)
  else
    some (0, I5)
set_option maxHeartbeats 1000000 in
theorem e_M_streamAt_20 {l : Launch} {X : ax_X} {S : ax_S} {L : ax_L} {R0 : ax_R} {out : Int32 × ax_I} (hX : ax_ok X l "LossFreeToolsModel" b_M_streamAt 2 (ax_rm 2 0 0)) (hF : ax_fin X (some .int) 0 0 (ax_of (ax_eq (some (.int out.1)) S out.2 R0 L))) (hS0 : ax_S0 X = S) : ∀ (I : ax_I) (R : ax_R) (u0 : Nat) (x1 : Int32) (y0 : Int32) (w1 : Nat), ax_typ S R → (S u0 = some (.inl 5)) → (S w1 = some (.inl 5)) → R = R0 → d_M_streamAt_20 S  I R u0 x1 y0 w1 = some out → ax_W X 2 20 [some (.ref u0), some (.int (x1))] [.int (y0), .ref w1] S I R L 0 0 := by
  rintro I R u0 x1 y0 w1 hty hs0_ hw1_ hR0 h
  subst hR0
  unfold d_M_streamAt_20 at h
  obtain ⟨I5, e6, h⟩ := ax_bs h
  refine ax_putI (q := 23) hX dc_M_streamAt_20 rfl fl_M_68 rfl hw1_ (fun z => by cases z) rfl rfl e6 ?_
  refine ax_aload_n (q := 24) hX dc_M_streamAt_23 rfl rfl rfl ?_
  refine ax_getI (q := 27) hX dc_M_streamAt_24 rfl fl_M_68 rfl hs0_ ?_
  refine ax_if_le (tgt := 34) (q := 30) hX dc_M_streamAt_27 rfl (by decide) (fun z7 => ?_) (fun z7 => ?_)
  · rw [if_pos z7] at h
    refine ax_aload_n (q := 35) hX dc_M_streamAt_34 rfl rfl rfl ?_
    obtain ⟨u8, hu9, h⟩ := ax_bd h
    obtain ⟨n11, hs10⟩ : ∃ n, S u8 = some (.inr (0, n)) := hty.1 _ _ _ _ hs0_ hu9
    refine ax_getR (q := 38) hX dc_M_streamAt_35 rfl fl_M_55 rfl hs0_ hu9 ?_
    refine ax_iload_n (q := 39) hX dc_M_streamAt_38 rfl rfl rfl ?_
    obtain ⟨j12, hj13, h⟩ := ax_bd h
    have hj13 := ax_ix_s hty hs10 hj13
    refine ax_iald (q := 40) hX j12 dc_M_streamAt_39 rfl hs10 hj13.1 hj13.2.1 hj13.2.2 ?_
    cases h
    exact ax_iret hX hF dc_M_streamAt_40 rfl rfl (by decide) (by decide) ax_eq.mk (by rw [hS0]; exact fun _ _ z => z)
  · rw [if_neg z7] at h
    refine ax_iconst (v := 0) (q := 31) hX dc_M_streamAt_30 rfl (by decide) ?_
    refine ax_goto (tgt := 40) hX dc_M_streamAt_31 (by decide) ?_
    cases h
    exact ax_iret hX hF dc_M_streamAt_40 rfl rfl (by decide) (by decide) ax_eq.mk (by rw [hS0]; exact fun _ _ z => z)
def d_M_streamAt (S : ax_S) (I : ax_I) (R : ax_R) (u0 : Nat) (x1 : Int32) : Option (Int32 × ax_I) :=
  (d_M_in S I R (x1) (0) ((I u0 22) - 1)).bind fun r3 =>
  if (ax_b r3) = 0 then
    d_M_streamAt_20 S  I R u0 (x1) (1) u0
  else
    d_M_streamAt_20 S  I R u0 (x1) (0) u0
set_option maxHeartbeats 1000000 in
theorem c_M_streamAt (l : Launch) {S : ax_S} {I : ax_I} {R : ax_R} {L : ax_L} {u0 : Nat} {x1 : Int32} {out : Int32 × ax_I} (hty : ax_typ S R) (hs0 : S u0 = some (.inl 5)) (h : d_M_streamAt S I R u0 x1 = some out) : ax_Met l y_M_streamAt b_M_streamAt 2 (some .int) (ax_rm 2 0 0) [.ref u0, .int x1] S I R L (ax_eq (some (.int out.1)) S out.2 R L) := by
  refine ax_enter (own := "LossFreeToolsModel") (by decide +kernel) rfl (ax_cats rfl) (Nat.le_of_ble_eq_true rfl) (fun X hX hF _ hS0 => ?_)
  show ax_W X 2 0 [some (.ref u0), some (.int (x1))] [] S I R L 0 0
  unfold d_M_streamAt at h
  refine ax_aload_n (q := 1) hX dc_M_streamAt_0 rfl rfl rfl ?_
  refine ax_iload_n (q := 2) hX dc_M_streamAt_1 rfl rfl rfl ?_
  refine ax_iconst (v := 0) (q := 3) hX dc_M_streamAt_2 rfl (by decide) ?_
  refine ax_aload_n (q := 4) hX dc_M_streamAt_3 rfl rfl rfl ?_
  refine ax_getI (q := 7) hX dc_M_streamAt_4 rfl fl_M_81 rfl hs0 ?_
  refine ax_iconst (v := 1) (q := 8) hX dc_M_streamAt_7 rfl (by decide) ?_
  refine ax_isub (q := 9) hX dc_M_streamAt_8 rfl ?_
  obtain ⟨r3, hr1, h⟩ := ax_bd h
  refine ax_kS (vs := [.int (x1), .int (0), .int ((I u0 22) - 1)]) (rest := [.ref u0]) (q := 12) hX dc_M_streamAt_9 rfl mt_M_in wl_M_84 wt_M_in (c_M_in l hty  hr1) rfl (by decide) rfl (Nat.le_of_ble_eq_true rfl) rfl rfl (by decide) (by decide) rfl ?_
  refine ax_if_eq (tgt := 19) (q := 15) hX dc_M_streamAt_12 rfl (by decide) (fun z4 => ?_) (fun z4 => ?_)
  · rw [if_pos z4] at h
    refine ax_iconst (v := 1) (q := 20) hX dc_M_streamAt_19 rfl (by decide) ?_
    exact (e_M_streamAt_20 hX hF hS0  I R u0 (x1) (1) u0 hty hs0 hs0 rfl h)
  · rw [if_neg z4] at h
    refine ax_iconst (v := 0) (q := 16) hX dc_M_streamAt_15 rfl (by decide) ?_
    refine ax_goto (tgt := 20) hX dc_M_streamAt_16 (by decide) ?_
    exact (e_M_streamAt_20 hX hF hS0  I R u0 (x1) (0) u0 hty hs0 hs0 rfl h)
def d_M_byteOf_48 (S : ax_S) (I : ax_I) (R : ax_R) (u0 : Nat) (x1 : Int32) (x2 : Int32) (y0 : Int32) (w1 : Nat) : Option (Int32 × ax_I) :=
  (some (ax_up I w1 0 (y0))).bind fun I19 =>
  if (I19 u0 0) ≤ 0 then
    (d_M_tileAt S I19 R u0 (x1)).bind fun r24 =>
    (R u0 14).bind fun u25 =>
    (R u0 13).bind fun u29 =>
    (ax_ix S u29 (r24)).bind fun j33 =>
    (ax_ix S u25 ((12 * r24) + (I19 u29 j33))).bind fun j35 =>
    (some (ax_up I19 u25 j35 (x2))).bind fun I37 =>
    (R u0 13).bind fun u39 =>
    (ax_ix S u39 (r24)).bind fun j43 =>
    (ax_ix S u39 (r24)).bind fun j45 =>
    (some (ax_up I37 u39 j45 ((I37 u39 j43) + 1))).bind fun I47 =>
    (R u0 13).bind fun u49 =>
    (ax_ix S u49 (r24)).bind fun j53 =>
    some (I47 u49 j53, I47)
  else
    some (0, I19)
set_option maxHeartbeats 1000000 in
theorem e_M_byteOf_48 {l : Launch} {X : ax_X} {S : ax_S} {L : ax_L} {R0 : ax_R} {out : Int32 × ax_I} (hX : ax_ok X l "LossFreeToolsModel" b_M_byteOf 4 (ax_rm 3 0 0)) (hF : ax_fin X (some .int) 0 0 (ax_of (ax_eq (some (.int out.1)) S out.2 R0 L))) (hS0 : ax_S0 X = S) : ∀ (I : ax_I) (R : ax_R) (u0 : Nat) (x1 : Int32) (x2 : Int32) (y0 : Int32) (w1 : Nat), ax_typ S R → (S u0 = some (.inl 5)) → (S w1 = some (.inl 5)) → R = R0 → d_M_byteOf_48 S  I R u0 x1 x2 y0 w1 = some out → ax_W X 4 48 [some (.ref u0), some (.int (x1)), some (.int (x2)), none] [.int (y0), .ref w1] S I R L 0 0 := by
  rintro I R u0 x1 x2 y0 w1 hty hs0_ hw1_ hR0 h
  subst hR0
  unfold d_M_byteOf_48 at h
  obtain ⟨I19, e20, h⟩ := ax_bs h
  refine ax_putI (q := 51) hX dc_M_byteOf_48 rfl fl_M_68 rfl hw1_ (fun z => by cases z) rfl rfl e20 ?_
  refine ax_aload_n (q := 52) hX dc_M_byteOf_51 rfl rfl rfl ?_
  refine ax_getI (q := 55) hX dc_M_byteOf_52 rfl fl_M_68 rfl hs0_ ?_
  refine ax_if_le (tgt := 60) (q := 58) hX dc_M_byteOf_55 rfl (by decide) (fun z21 => ?_) (fun z21 => ?_)
  · rw [if_pos z21] at h
    refine ax_aload_n (q := 61) hX dc_M_byteOf_60 rfl rfl rfl ?_
    refine ax_iload_n (q := 62) hX dc_M_byteOf_61 rfl rfl rfl ?_
    obtain ⟨r24, hr22, h⟩ := ax_bd h
    refine ax_kV (vs := [.int (x1)]) (rest := []) (q := 65) hX dc_M_byteOf_62 rfl mt_M_tileAt wl_M_92 wi_M_tileAt ws_M_tileAt hs0_ rfl (c_M_tileAt l hty hs0_ hr22) rfl (by decide) rfl (Nat.le_of_ble_eq_true rfl) rfl rfl (by decide) (by decide) rfl ?_
    refine ax_istore_n (ls' := [some (.ref u0), some (.int (x1)), some (.int (x2)), some (.int (r24))]) (q := 66) hX dc_M_byteOf_65 rfl rfl (by decide) rfl ?_
    refine ax_aload_n (q := 67) hX dc_M_byteOf_66 rfl rfl rfl ?_
    obtain ⟨u25, hu26, h⟩ := ax_bd h
    obtain ⟨n28, hs27⟩ : ∃ n, S u25 = some (.inr (0, n)) := hty.1 _ _ _ _ hs0_ hu26
    refine ax_getR (q := 70) hX dc_M_byteOf_67 rfl fl_M_40 rfl hs0_ hu26 ?_
    refine ax_bipush (v := 12) (q := 72) hX dc_M_byteOf_70 rfl (by decide) ?_
    refine ax_iload_n (q := 73) hX dc_M_byteOf_72 rfl rfl rfl ?_
    refine ax_imul (q := 74) hX dc_M_byteOf_73 rfl ?_
    refine ax_aload_n (q := 75) hX dc_M_byteOf_74 rfl rfl rfl ?_
    obtain ⟨u29, hu30, h⟩ := ax_bd h
    obtain ⟨n32, hs31⟩ : ∃ n, S u29 = some (.inr (0, n)) := hty.1 _ _ _ _ hs0_ hu30
    refine ax_getR (q := 78) hX dc_M_byteOf_75 rfl fl_M_37 rfl hs0_ hu30 ?_
    refine ax_iload_n (q := 79) hX dc_M_byteOf_78 rfl rfl rfl ?_
    obtain ⟨j33, hj34, h⟩ := ax_bd h
    have hj34 := ax_ix_s hty hs31 hj34
    refine ax_iald (q := 80) hX j33 dc_M_byteOf_79 rfl hs31 hj34.1 hj34.2.1 hj34.2.2 ?_
    refine ax_iadd (q := 81) hX dc_M_byteOf_80 rfl ?_
    refine ax_iload_n (q := 82) hX dc_M_byteOf_81 rfl rfl rfl ?_
    obtain ⟨j35, hj36, h⟩ := ax_bd h
    have hj36 := ax_ix_s hty hs27 hj36
    obtain ⟨I37, e38, h⟩ := ax_bs h
    refine ax_iast (q := 83) hX j35 dc_M_byteOf_82 rfl hs27 hj36.1 hj36.2.1 hj36.2.2 e38 ?_
    refine ax_aload_n (q := 84) hX dc_M_byteOf_83 rfl rfl rfl ?_
    obtain ⟨u39, hu40, h⟩ := ax_bd h
    obtain ⟨n42, hs41⟩ : ∃ n, S u39 = some (.inr (0, n)) := hty.1 _ _ _ _ hs0_ hu40
    refine ax_getR (q := 87) hX dc_M_byteOf_84 rfl fl_M_37 rfl hs0_ hu40 ?_
    refine ax_iload_n (q := 88) hX dc_M_byteOf_87 rfl rfl rfl ?_
    refine ax_dup2 (q := 89) hX dc_M_byteOf_88 rfl rfl rfl ?_
    obtain ⟨j43, hj44, h⟩ := ax_bd h
    have hj44 := ax_ix_s hty hs41 hj44
    refine ax_iald (q := 90) hX j43 dc_M_byteOf_89 rfl hs41 hj44.1 hj44.2.1 hj44.2.2 ?_
    refine ax_iconst (v := 1) (q := 91) hX dc_M_byteOf_90 rfl (by decide) ?_
    refine ax_iadd (q := 92) hX dc_M_byteOf_91 rfl ?_
    obtain ⟨j45, hj46, h⟩ := ax_bd h
    have hj46 := ax_ix_s hty hs41 hj46
    obtain ⟨I47, e48, h⟩ := ax_bs h
    refine ax_iast (q := 93) hX j45 dc_M_byteOf_92 rfl hs41 hj46.1 hj46.2.1 hj46.2.2 e48 ?_
    refine ax_aload_n (q := 94) hX dc_M_byteOf_93 rfl rfl rfl ?_
    obtain ⟨u49, hu50, h⟩ := ax_bd h
    obtain ⟨n52, hs51⟩ : ∃ n, S u49 = some (.inr (0, n)) := hty.1 _ _ _ _ hs0_ hu50
    refine ax_getR (q := 97) hX dc_M_byteOf_94 rfl fl_M_37 rfl hs0_ hu50 ?_
    refine ax_iload_n (q := 98) hX dc_M_byteOf_97 rfl rfl rfl ?_
    obtain ⟨j53, hj54, h⟩ := ax_bd h
    have hj54 := ax_ix_s hty hs51 hj54
    refine ax_iald (q := 99) hX j53 dc_M_byteOf_98 rfl hs51 hj54.1 hj54.2.1 hj54.2.2 ?_
    cases h
    exact ax_iret hX hF dc_M_byteOf_99 rfl rfl (by decide) (by decide) ax_eq.mk (by rw [hS0]; exact fun _ _ z => z)
  · rw [if_neg z21] at h
    refine ax_iconst (v := 0) (q := 59) hX dc_M_byteOf_58 rfl (by decide) ?_
    cases h
    exact ax_iret hX hF dc_M_byteOf_59 rfl rfl (by decide) (by decide) ax_eq.mk (by rw [hS0]; exact fun _ _ z => z)
def d_M_byteOf (S : ax_S) (I : ax_I) (R : ax_R) (u0 : Nat) (x1 : Int32) (x2 : Int32) : Option (Int32 × ax_I) :=
  (d_M_isTile S I R u0 (x1)).bind fun r3 =>
  if (ax_b r3) = 0 then
    d_M_byteOf_48 S  I R u0 (x1) (x2) (1) u0
  else
    (d_M_in S I R (x2) (0) (255)).bind fun r7 =>
    if (ax_b r7) = 0 then
      d_M_byteOf_48 S  I R u0 (x1) (x2) (2) u0
    else
      (R u0 13).bind fun u9 =>
      (d_M_tileAt S I R u0 (x1)).bind fun r15 =>
      (ax_ix S u9 (r15)).bind fun j16 =>
      if (I u9 j16) = 12 then
        d_M_byteOf_48 S  I R u0 (x1) (x2) (3) u0
      else
        d_M_byteOf_48 S  I R u0 (x1) (x2) (0) u0
set_option maxHeartbeats 1000000 in
theorem c_M_byteOf (l : Launch) {S : ax_S} {I : ax_I} {R : ax_R} {L : ax_L} {u0 : Nat} {x1 : Int32} {x2 : Int32} {out : Int32 × ax_I} (hty : ax_typ S R) (hs0 : S u0 = some (.inl 5)) (h : d_M_byteOf S I R u0 x1 x2 = some out) : ax_Met l y_M_byteOf b_M_byteOf 4 (some .int) (ax_rm 3 0 0) [.ref u0, .int x1, .int x2] S I R L (ax_eq (some (.int out.1)) S out.2 R L) := by
  refine ax_enter (own := "LossFreeToolsModel") (by decide +kernel) rfl (ax_cats rfl) (Nat.le_of_ble_eq_true rfl) (fun X hX hF _ hS0 => ?_)
  show ax_W X 4 0 [some (.ref u0), some (.int (x1)), some (.int (x2)), none] [] S I R L 0 0
  unfold d_M_byteOf at h
  refine ax_aload_n (q := 1) hX dc_M_byteOf_0 rfl rfl rfl ?_
  refine ax_aload_n (q := 2) hX dc_M_byteOf_1 rfl rfl rfl ?_
  refine ax_iload_n (q := 3) hX dc_M_byteOf_2 rfl rfl rfl ?_
  obtain ⟨r3, hr1, h⟩ := ax_bd h
  refine ax_kV (vs := [.int (x1)]) (rest := [.ref u0]) (q := 6) hX dc_M_byteOf_3 rfl mt_M_isTile wl_M_96 wi_M_isTile ws_M_isTile hs0 rfl (c_M_isTile l hty hs0 hr1) rfl (by decide) rfl (Nat.le_of_ble_eq_true rfl) rfl rfl (by decide) (by decide) rfl ?_
  refine ax_if_ne (tgt := 13) (q := 9) hX dc_M_byteOf_6 rfl (by decide) (fun z4 => ?_) (fun z4 => ?_)
  · rw [if_neg z4] at h
    refine ax_iload_n (q := 14) hX dc_M_byteOf_13 rfl rfl rfl ?_
    refine ax_iconst (v := 0) (q := 15) hX dc_M_byteOf_14 rfl (by decide) ?_
    refine ax_sipush (v := 255) (q := 18) hX dc_M_byteOf_15 rfl (by decide) ?_
    obtain ⟨r7, hr5, h⟩ := ax_bd h
    refine ax_kS (vs := [.int (x2), .int (0), .int (255)]) (rest := [.ref u0]) (q := 21) hX dc_M_byteOf_18 rfl mt_M_in wl_M_84 wt_M_in (c_M_in l hty  hr5) rfl (by decide) rfl (Nat.le_of_ble_eq_true rfl) rfl rfl (by decide) (by decide) rfl ?_
    refine ax_if_ne (tgt := 28) (q := 24) hX dc_M_byteOf_21 rfl (by decide) (fun z8 => ?_) (fun z8 => ?_)
    · rw [if_neg z8] at h
      refine ax_aload_n (q := 29) hX dc_M_byteOf_28 rfl rfl rfl ?_
      obtain ⟨u9, hu10, h⟩ := ax_bd h
      obtain ⟨n12, hs11⟩ : ∃ n, S u9 = some (.inr (0, n)) := hty.1 _ _ _ _ hs0 hu10
      refine ax_getR (q := 32) hX dc_M_byteOf_29 rfl fl_M_37 rfl hs0 hu10 ?_
      refine ax_aload_n (q := 33) hX dc_M_byteOf_32 rfl rfl rfl ?_
      refine ax_iload_n (q := 34) hX dc_M_byteOf_33 rfl rfl rfl ?_
      obtain ⟨r15, hr13, h⟩ := ax_bd h
      refine ax_kV (vs := [.int (x1)]) (rest := [.ref u9, .ref u0]) (q := 37) hX dc_M_byteOf_34 rfl mt_M_tileAt wl_M_92 wi_M_tileAt ws_M_tileAt hs0 rfl (c_M_tileAt l hty hs0 hr13) rfl (by decide) rfl (Nat.le_of_ble_eq_true rfl) rfl rfl (by decide) (by decide) rfl ?_
      obtain ⟨j16, hj17, h⟩ := ax_bd h
      have hj17 := ax_ix_s hty hs11 hj17
      refine ax_iald (q := 38) hX j16 dc_M_byteOf_37 rfl hs11 hj17.1 hj17.2.1 hj17.2.2 ?_
      refine ax_bipush (v := 12) (q := 40) hX dc_M_byteOf_38 rfl (by decide) ?_
      refine ax_icmp_ne (tgt := 47) (q := 43) hX dc_M_byteOf_40 rfl (by decide) (fun z18 => ?_) (fun z18 => ?_)
      · rw [if_neg z18] at h
        refine ax_iconst (v := 0) (q := 48) hX dc_M_byteOf_47 rfl (by decide) ?_
        exact (e_M_byteOf_48 hX hF hS0  I R u0 (x1) (x2) (0) u0 hty hs0 hs0 rfl h)
      · rw [if_pos z18] at h
        refine ax_iconst (v := 3) (q := 44) hX dc_M_byteOf_43 rfl (by decide) ?_
        refine ax_goto (tgt := 48) hX dc_M_byteOf_44 (by decide) ?_
        exact (e_M_byteOf_48 hX hF hS0  I R u0 (x1) (x2) (3) u0 hty hs0 hs0 rfl h)
    · rw [if_pos z8] at h
      refine ax_iconst (v := 2) (q := 25) hX dc_M_byteOf_24 rfl (by decide) ?_
      refine ax_goto (tgt := 48) hX dc_M_byteOf_25 (by decide) ?_
      exact (e_M_byteOf_48 hX hF hS0  I R u0 (x1) (x2) (2) u0 hty hs0 hs0 rfl h)
  · rw [if_pos z4] at h
    refine ax_iconst (v := 1) (q := 10) hX dc_M_byteOf_9 rfl (by decide) ?_
    refine ax_goto (tgt := 48) hX dc_M_byteOf_10 (by decide) ?_
    exact (e_M_byteOf_48 hX hF hS0  I R u0 (x1) (x2) (1) u0 hty hs0 hs0 rfl h)
def d_M_note_48 (S : ax_S) (I : ax_I) (R : ax_R) (u0 : Nat) (x1 : Int32) (x2 : Int32) (x3 : Int32) (y0 : Int32) (w1 : Nat) : Option (Int32 × ax_I) :=
  (some (ax_up I w1 0 (y0))).bind fun I16 =>
  if (I16 u0 0) ≤ 0 then
    (R u0 7).bind fun u19 =>
    (ax_ix S u19 (I16 u0 3)).bind fun j23 =>
    (R u0 15).bind fun u25 =>
    (ax_ix S u25 ((20 * (I16 u0 3)) + (I16 u19 j23))).bind fun j29 =>
    (some (ax_up I16 u25 j29 (x1))).bind fun I31 =>
    (R u0 16).bind fun u33 =>
    (ax_ix S u33 ((20 * (I16 u0 3)) + (I16 u19 j23))).bind fun j37 =>
    (some (ax_up I31 u33 j37 (x2))).bind fun I39 =>
    (R u0 17).bind fun u41 =>
    (ax_ix S u41 ((20 * (I16 u0 3)) + (I16 u19 j23))).bind fun j45 =>
    (some (ax_up I39 u41 j45 (x3))).bind fun I47 =>
    (R u0 7).bind fun u49 =>
    (ax_ix S u49 (I47 u0 3)).bind fun j53 =>
    (ax_ix S u49 (I47 u0 3)).bind fun j55 =>
    (some (ax_up I47 u49 j55 ((I47 u49 j53) + 1))).bind fun I57 =>
    (R u0 7).bind fun u59 =>
    (ax_ix S u59 (I57 u0 3)).bind fun j63 =>
    some (I57 u59 j63, I57)
  else
    some (0, I16)
set_option maxHeartbeats 1000000 in
theorem e_M_note_48 {l : Launch} {X : ax_X} {S : ax_S} {L : ax_L} {R0 : ax_R} {out : Int32 × ax_I} (hX : ax_ok X l "LossFreeToolsModel" b_M_note 5 (ax_rm 3 0 0)) (hF : ax_fin X (some .int) 0 0 (ax_of (ax_eq (some (.int out.1)) S out.2 R0 L))) (hS0 : ax_S0 X = S) : ∀ (I : ax_I) (R : ax_R) (u0 : Nat) (x1 : Int32) (x2 : Int32) (x3 : Int32) (y0 : Int32) (w1 : Nat), ax_typ S R → (S u0 = some (.inl 5)) → (S w1 = some (.inl 5)) → R = R0 → d_M_note_48 S  I R u0 x1 x2 x3 y0 w1 = some out → ax_W X 5 48 [some (.ref u0), some (.int (x1)), some (.int (x2)), some (.int (x3)), none] [.int (y0), .ref w1] S I R L 0 0 := by
  rintro I R u0 x1 x2 x3 y0 w1 hty hs0_ hw1_ hR0 h
  subst hR0
  unfold d_M_note_48 at h
  obtain ⟨I16, e17, h⟩ := ax_bs h
  refine ax_putI (q := 51) hX dc_M_note_48 rfl fl_M_68 rfl hw1_ (fun z => by cases z) rfl rfl e17 ?_
  refine ax_aload_n (q := 52) hX dc_M_note_51 rfl rfl rfl ?_
  refine ax_getI (q := 55) hX dc_M_note_52 rfl fl_M_68 rfl hs0_ ?_
  refine ax_if_le (tgt := 60) (q := 58) hX dc_M_note_55 rfl (by decide) (fun z18 => ?_) (fun z18 => ?_)
  · rw [if_pos z18] at h
    refine ax_bipush (v := 20) (q := 62) hX dc_M_note_60 rfl (by decide) ?_
    refine ax_aload_n (q := 63) hX dc_M_note_62 rfl rfl rfl ?_
    refine ax_getI (q := 66) hX dc_M_note_63 rfl fl_M_71 rfl hs0_ ?_
    refine ax_imul (q := 67) hX dc_M_note_66 rfl ?_
    refine ax_aload_n (q := 68) hX dc_M_note_67 rfl rfl rfl ?_
    obtain ⟨u19, hu20, h⟩ := ax_bd h
    obtain ⟨n22, hs21⟩ : ∃ n, S u19 = some (.inr (0, n)) := hty.1 _ _ _ _ hs0_ hu20
    refine ax_getR (q := 71) hX dc_M_note_68 rfl fl_M_19 rfl hs0_ hu20 ?_
    refine ax_aload_n (q := 72) hX dc_M_note_71 rfl rfl rfl ?_
    refine ax_getI (q := 75) hX dc_M_note_72 rfl fl_M_71 rfl hs0_ ?_
    obtain ⟨j23, hj24, h⟩ := ax_bd h
    have hj24 := ax_ix_s hty hs21 hj24
    refine ax_iald (q := 76) hX j23 dc_M_note_75 rfl hs21 hj24.1 hj24.2.1 hj24.2.2 ?_
    refine ax_iadd (q := 77) hX dc_M_note_76 rfl ?_
    refine ax_istore (ls' := [some (.ref u0), some (.int (x1)), some (.int (x2)), some (.int (x3)), some (.int ((20 * (I16 u0 3)) + (I16 u19 j23)))]) (q := 79) hX dc_M_note_77 rfl (by decide) rfl ?_
    refine ax_aload_n (q := 80) hX dc_M_note_79 rfl rfl rfl ?_
    obtain ⟨u25, hu26, h⟩ := ax_bd h
    obtain ⟨n28, hs27⟩ : ∃ n, S u25 = some (.inr (0, n)) := hty.1 _ _ _ _ hs0_ hu26
    refine ax_getR (q := 83) hX dc_M_note_80 rfl fl_M_43 rfl hs0_ hu26 ?_
    refine ax_iload (q := 85) hX dc_M_note_83 rfl rfl ?_
    refine ax_iload_n (q := 86) hX dc_M_note_85 rfl rfl rfl ?_
    obtain ⟨j29, hj30, h⟩ := ax_bd h
    have hj30 := ax_ix_s hty hs27 hj30
    obtain ⟨I31, e32, h⟩ := ax_bs h
    refine ax_iast (q := 87) hX j29 dc_M_note_86 rfl hs27 hj30.1 hj30.2.1 hj30.2.2 e32 ?_
    refine ax_aload_n (q := 88) hX dc_M_note_87 rfl rfl rfl ?_
    obtain ⟨u33, hu34, h⟩ := ax_bd h
    obtain ⟨n36, hs35⟩ : ∃ n, S u33 = some (.inr (0, n)) := hty.1 _ _ _ _ hs0_ hu34
    refine ax_getR (q := 91) hX dc_M_note_88 rfl fl_M_46 rfl hs0_ hu34 ?_
    refine ax_iload (q := 93) hX dc_M_note_91 rfl rfl ?_
    refine ax_iload_n (q := 94) hX dc_M_note_93 rfl rfl rfl ?_
    obtain ⟨j37, hj38, h⟩ := ax_bd h
    have hj38 := ax_ix_s hty hs35 hj38
    obtain ⟨I39, e40, h⟩ := ax_bs h
    refine ax_iast (q := 95) hX j37 dc_M_note_94 rfl hs35 hj38.1 hj38.2.1 hj38.2.2 e40 ?_
    refine ax_aload_n (q := 96) hX dc_M_note_95 rfl rfl rfl ?_
    obtain ⟨u41, hu42, h⟩ := ax_bd h
    obtain ⟨n44, hs43⟩ : ∃ n, S u41 = some (.inr (0, n)) := hty.1 _ _ _ _ hs0_ hu42
    refine ax_getR (q := 99) hX dc_M_note_96 rfl fl_M_49 rfl hs0_ hu42 ?_
    refine ax_iload (q := 101) hX dc_M_note_99 rfl rfl ?_
    refine ax_iload_n (q := 102) hX dc_M_note_101 rfl rfl rfl ?_
    obtain ⟨j45, hj46, h⟩ := ax_bd h
    have hj46 := ax_ix_s hty hs43 hj46
    obtain ⟨I47, e48, h⟩ := ax_bs h
    refine ax_iast (q := 103) hX j45 dc_M_note_102 rfl hs43 hj46.1 hj46.2.1 hj46.2.2 e48 ?_
    refine ax_aload_n (q := 104) hX dc_M_note_103 rfl rfl rfl ?_
    obtain ⟨u49, hu50, h⟩ := ax_bd h
    obtain ⟨n52, hs51⟩ : ∃ n, S u49 = some (.inr (0, n)) := hty.1 _ _ _ _ hs0_ hu50
    refine ax_getR (q := 107) hX dc_M_note_104 rfl fl_M_19 rfl hs0_ hu50 ?_
    refine ax_aload_n (q := 108) hX dc_M_note_107 rfl rfl rfl ?_
    refine ax_getI (q := 111) hX dc_M_note_108 rfl fl_M_71 rfl hs0_ ?_
    refine ax_dup2 (q := 112) hX dc_M_note_111 rfl rfl rfl ?_
    obtain ⟨j53, hj54, h⟩ := ax_bd h
    have hj54 := ax_ix_s hty hs51 hj54
    refine ax_iald (q := 113) hX j53 dc_M_note_112 rfl hs51 hj54.1 hj54.2.1 hj54.2.2 ?_
    refine ax_iconst (v := 1) (q := 114) hX dc_M_note_113 rfl (by decide) ?_
    refine ax_iadd (q := 115) hX dc_M_note_114 rfl ?_
    obtain ⟨j55, hj56, h⟩ := ax_bd h
    have hj56 := ax_ix_s hty hs51 hj56
    obtain ⟨I57, e58, h⟩ := ax_bs h
    refine ax_iast (q := 116) hX j55 dc_M_note_115 rfl hs51 hj56.1 hj56.2.1 hj56.2.2 e58 ?_
    refine ax_aload_n (q := 117) hX dc_M_note_116 rfl rfl rfl ?_
    obtain ⟨u59, hu60, h⟩ := ax_bd h
    obtain ⟨n62, hs61⟩ : ∃ n, S u59 = some (.inr (0, n)) := hty.1 _ _ _ _ hs0_ hu60
    refine ax_getR (q := 120) hX dc_M_note_117 rfl fl_M_19 rfl hs0_ hu60 ?_
    refine ax_aload_n (q := 121) hX dc_M_note_120 rfl rfl rfl ?_
    refine ax_getI (q := 124) hX dc_M_note_121 rfl fl_M_71 rfl hs0_ ?_
    obtain ⟨j63, hj64, h⟩ := ax_bd h
    have hj64 := ax_ix_s hty hs61 hj64
    refine ax_iald (q := 125) hX j63 dc_M_note_124 rfl hs61 hj64.1 hj64.2.1 hj64.2.2 ?_
    cases h
    exact ax_iret hX hF dc_M_note_125 rfl rfl (by decide) (by decide) ax_eq.mk (by rw [hS0]; exact fun _ _ z => z)
  · rw [if_neg z18] at h
    refine ax_iconst (v := 0) (q := 59) hX dc_M_note_58 rfl (by decide) ?_
    cases h
    exact ax_iret hX hF dc_M_note_59 rfl rfl (by decide) (by decide) ax_eq.mk (by rw [hS0]; exact fun _ _ z => z)
def d_M_note (S : ax_S) (I : ax_I) (R : ax_R) (u0 : Nat) (x1 : Int32) (x2 : Int32) (x3 : Int32) : Option (Int32 × ax_I) :=
  (d_M_isSample S I R u0 (x1) (x2)).bind fun r3 =>
  if (ax_b r3) = 0 then
    d_M_note_48 S  I R u0 (x1) (x2) (x3) (1) u0
  else
    (d_M_in S I R (x3) (0) (255)).bind fun r7 =>
    if (ax_b r7) = 0 then
      d_M_note_48 S  I R u0 (x1) (x2) (x3) (2) u0
    else
      (R u0 7).bind fun u9 =>
      (ax_ix S u9 (I u0 3)).bind fun j13 =>
      if (I u9 j13) = 20 then
        d_M_note_48 S  I R u0 (x1) (x2) (x3) (3) u0
      else
        d_M_note_48 S  I R u0 (x1) (x2) (x3) (0) u0
set_option maxHeartbeats 1000000 in
theorem c_M_note (l : Launch) {S : ax_S} {I : ax_I} {R : ax_R} {L : ax_L} {u0 : Nat} {x1 : Int32} {x2 : Int32} {x3 : Int32} {out : Int32 × ax_I} (hty : ax_typ S R) (hs0 : S u0 = some (.inl 5)) (h : d_M_note S I R u0 x1 x2 x3 = some out) : ax_Met l y_M_note b_M_note 5 (some .int) (ax_rm 3 0 0) [.ref u0, .int x1, .int x2, .int x3] S I R L (ax_eq (some (.int out.1)) S out.2 R L) := by
  refine ax_enter (own := "LossFreeToolsModel") (by decide +kernel) rfl (ax_cats rfl) (Nat.le_of_ble_eq_true rfl) (fun X hX hF _ hS0 => ?_)
  show ax_W X 5 0 [some (.ref u0), some (.int (x1)), some (.int (x2)), some (.int (x3)), none] [] S I R L 0 0
  unfold d_M_note at h
  refine ax_aload_n (q := 1) hX dc_M_note_0 rfl rfl rfl ?_
  refine ax_aload_n (q := 2) hX dc_M_note_1 rfl rfl rfl ?_
  refine ax_iload_n (q := 3) hX dc_M_note_2 rfl rfl rfl ?_
  refine ax_iload_n (q := 4) hX dc_M_note_3 rfl rfl rfl ?_
  obtain ⟨r3, hr1, h⟩ := ax_bd h
  refine ax_kV (vs := [.int (x1), .int (x2)]) (rest := [.ref u0]) (q := 7) hX dc_M_note_4 rfl mt_M_isSample wl_M_100 wi_M_isSample ws_M_isSample hs0 rfl (c_M_isSample l hty hs0 hr1) rfl (by decide) rfl (Nat.le_of_ble_eq_true rfl) rfl rfl (by decide) (by decide) rfl ?_
  refine ax_if_ne (tgt := 14) (q := 10) hX dc_M_note_7 rfl (by decide) (fun z4 => ?_) (fun z4 => ?_)
  · rw [if_neg z4] at h
    refine ax_iload_n (q := 15) hX dc_M_note_14 rfl rfl rfl ?_
    refine ax_iconst (v := 0) (q := 16) hX dc_M_note_15 rfl (by decide) ?_
    refine ax_sipush (v := 255) (q := 19) hX dc_M_note_16 rfl (by decide) ?_
    obtain ⟨r7, hr5, h⟩ := ax_bd h
    refine ax_kS (vs := [.int (x3), .int (0), .int (255)]) (rest := [.ref u0]) (q := 22) hX dc_M_note_19 rfl mt_M_in wl_M_84 wt_M_in (c_M_in l hty  hr5) rfl (by decide) rfl (Nat.le_of_ble_eq_true rfl) rfl rfl (by decide) (by decide) rfl ?_
    refine ax_if_ne (tgt := 29) (q := 25) hX dc_M_note_22 rfl (by decide) (fun z8 => ?_) (fun z8 => ?_)
    · rw [if_neg z8] at h
      refine ax_aload_n (q := 30) hX dc_M_note_29 rfl rfl rfl ?_
      obtain ⟨u9, hu10, h⟩ := ax_bd h
      obtain ⟨n12, hs11⟩ : ∃ n, S u9 = some (.inr (0, n)) := hty.1 _ _ _ _ hs0 hu10
      refine ax_getR (q := 33) hX dc_M_note_30 rfl fl_M_19 rfl hs0 hu10 ?_
      refine ax_aload_n (q := 34) hX dc_M_note_33 rfl rfl rfl ?_
      refine ax_getI (q := 37) hX dc_M_note_34 rfl fl_M_71 rfl hs0 ?_
      obtain ⟨j13, hj14, h⟩ := ax_bd h
      have hj14 := ax_ix_s hty hs11 hj14
      refine ax_iald (q := 38) hX j13 dc_M_note_37 rfl hs11 hj14.1 hj14.2.1 hj14.2.2 ?_
      refine ax_bipush (v := 20) (q := 40) hX dc_M_note_38 rfl (by decide) ?_
      refine ax_icmp_ne (tgt := 47) (q := 43) hX dc_M_note_40 rfl (by decide) (fun z15 => ?_) (fun z15 => ?_)
      · rw [if_neg z15] at h
        refine ax_iconst (v := 0) (q := 48) hX dc_M_note_47 rfl (by decide) ?_
        exact (e_M_note_48 hX hF hS0  I R u0 (x1) (x2) (x3) (0) u0 hty hs0 hs0 rfl h)
      · rw [if_pos z15] at h
        refine ax_iconst (v := 3) (q := 44) hX dc_M_note_43 rfl (by decide) ?_
        refine ax_goto (tgt := 48) hX dc_M_note_44 (by decide) ?_
        exact (e_M_note_48 hX hF hS0  I R u0 (x1) (x2) (x3) (3) u0 hty hs0 hs0 rfl h)
    · rw [if_pos z8] at h
      refine ax_iconst (v := 2) (q := 26) hX dc_M_note_25 rfl (by decide) ?_
      refine ax_goto (tgt := 48) hX dc_M_note_26 (by decide) ?_
      exact (e_M_note_48 hX hF hS0  I R u0 (x1) (x2) (x3) (2) u0 hty hs0 hs0 rfl h)
  · rw [if_pos z4] at h
    refine ax_iconst (v := 1) (q := 11) hX dc_M_note_10 rfl (by decide) ?_
    refine ax_goto (tgt := 48) hX dc_M_note_11 (by decide) ?_
    exact (e_M_note_48 hX hF hS0  I R u0 (x1) (x2) (x3) (1) u0 hty hs0 hs0 rfl h)
def d_M_nearest_100 (S : ax_S) (rec32 : ax_I → ax_R → Nat → Int32 → Int32 → Int32 → Int32 → Int32 → Option (Int32)) (I : ax_I) (R : ax_R) (u0 : Nat) (x1 : Int32) (x2 : Int32) (x3 : Int32) (x5 : Int32) (y0 : Int32) : Option (Int32) :=
  rec32 I R u0 (x1) (x2) (x3) (y0) (x5 + 1)
set_option maxHeartbeats 1000000 in
theorem e_M_nearest_100 {l : Launch} {X : ax_X} {S : ax_S} {L : ax_L} {I0 : ax_I} {R0 : ax_R} {out : Int32} (hX : ax_ok X l "LossFreeToolsModel" b_M_nearest 8 (ax_rm 3 0 0)) (hF : ax_fin X (some .int) 0 0 (ax_of (ax_eq (some (.int out)) S I0 R0 L))) (hS0 : ax_S0 X = S) (rec32 : ax_I → ax_R → Nat → Int32 → Int32 → Int32 → Int32 → Int32 → Option (Int32)) (hrec32 : ∀ (I : ax_I) (R : ax_R) (u0 : Nat) (x1 : Int32) (x2 : Int32) (x3 : Int32) (x4 : Int32) (x5 : Int32), ax_typ S R → (S u0 = some (.inl 5)) → I = I0 → R = R0 → rec32 I R u0 x1 x2 x3 x4 x5 = some out → ax_W X 8 32 [some (.ref u0), some (.int (x1)), some (.int (x2)), some (.int (x3)), some (.int (x4)), some (.int (x5)), none, none] [] S I R L 0 0) : ∀ (I : ax_I) (R : ax_R) (u0 : Nat) (x1 : Int32) (x2 : Int32) (x3 : Int32) (x5 : Int32) (y0 : Int32), ax_typ S R → (S u0 = some (.inl 5)) → I = I0 → R = R0 → d_M_nearest_100 S rec32 I R u0 x1 x2 x3 x5 y0 = some out → ax_W X 8 100 [some (.ref u0), some (.int (x1)), some (.int (x2)), some (.int (x3)), none, some (.int (x5)), none, none] [.int (y0)] S I R L 0 0 := by
  rintro I R u0 x1 x2 x3 x5 y0 hty hs0_ hI0 hR0 h
  subst hI0
  subst hR0
  unfold d_M_nearest_100 at h
  refine ax_istore (ls' := [some (.ref u0), some (.int (x1)), some (.int (x2)), some (.int (x3)), some (.int (y0)), some (.int (x5)), none, none]) (q := 102) hX dc_M_nearest_100 rfl (by decide) rfl ?_
  refine ax_iinc (v := x5 + 1) (ls' := [some (.ref u0), some (.int (x1)), some (.int (x2)), some (.int (x3)), some (.int (y0)), some (.int (x5 + 1)), none, none]) (q := 105) hX dc_M_nearest_102 rfl rfl rfl (by decide) rfl ?_
  refine ax_goto (tgt := 32) hX dc_M_nearest_105 (by decide) ?_
  exact (hrec32 I R u0 (x1) (x2) (x3) (y0) (x5 + 1) hty hs0_ rfl rfl h)
def d_M_nearest_98 (S : ax_S) (rec32 : ax_I → ax_R → Nat → Int32 → Int32 → Int32 → Int32 → Int32 → Option (Int32)) (I : ax_I) (R : ax_R) (u0 : Nat) (x1 : Int32) (x2 : Int32) (x3 : Int32) (x4 : Int32) (x5 : Int32) : Option (Int32) :=
  d_M_nearest_100 S (rec32) I R u0 (x1) (x2) (x3) (x5) (x4)
set_option maxHeartbeats 1000000 in
theorem e_M_nearest_98 {l : Launch} {X : ax_X} {S : ax_S} {L : ax_L} {I0 : ax_I} {R0 : ax_R} {out : Int32} (hX : ax_ok X l "LossFreeToolsModel" b_M_nearest 8 (ax_rm 3 0 0)) (hF : ax_fin X (some .int) 0 0 (ax_of (ax_eq (some (.int out)) S I0 R0 L))) (hS0 : ax_S0 X = S) (rec32 : ax_I → ax_R → Nat → Int32 → Int32 → Int32 → Int32 → Int32 → Option (Int32)) (hrec32 : ∀ (I : ax_I) (R : ax_R) (u0 : Nat) (x1 : Int32) (x2 : Int32) (x3 : Int32) (x4 : Int32) (x5 : Int32), ax_typ S R → (S u0 = some (.inl 5)) → I = I0 → R = R0 → rec32 I R u0 x1 x2 x3 x4 x5 = some out → ax_W X 8 32 [some (.ref u0), some (.int (x1)), some (.int (x2)), some (.int (x3)), some (.int (x4)), some (.int (x5)), none, none] [] S I R L 0 0) : ∀ (I : ax_I) (R : ax_R) (u0 : Nat) (x1 : Int32) (x2 : Int32) (x3 : Int32) (x4 : Int32) (x5 : Int32), ax_typ S R → (S u0 = some (.inl 5)) → I = I0 → R = R0 → d_M_nearest_98 S rec32 I R u0 x1 x2 x3 x4 x5 = some out → ax_W X 8 98 [some (.ref u0), some (.int (x1)), some (.int (x2)), some (.int (x3)), some (.int (x4)), some (.int (x5)), none, none] [] S I R L 0 0 := by
  rintro I R u0 x1 x2 x3 x4 x5 hty hs0_ hI0 hR0 h
  subst hI0
  subst hR0
  unfold d_M_nearest_98 at h
  refine ax_iload (q := 100) hX dc_M_nearest_98 rfl rfl ?_
  exact ax_weak (ls' := [some (.ref u0), some (.int (x1)), some (.int (x2)), some (.int (x3)), none, some (.int (x5)), none, none]) (ax_fewP_s _ _ (by repeat (first | exact trivial | (refine And.intro rfl ?_)))) (e_M_nearest_100 hX hF hS0 (rec32) (hrec32) I R u0 (x1) (x2) (x3) (x5) (x4) hty hs0_ rfl rfl h)
def d_M_nearest_74 (S : ax_S) (rec32 : ax_I → ax_R → Nat → Int32 → Int32 → Int32 → Int32 → Int32 → Option (Int32)) (I : ax_I) (R : ax_R) (u0 : Nat) (x1 : Int32) (x2 : Int32) (x3 : Int32) (x4 : Int32) (x5 : Int32) (x6 : Int32) (y0 : Int32) : Option (Int32) :=
  (d_M_fits S I R u0 (x1) (x5)).bind fun r19 =>
  if (ax_b r19) = 0 then
    d_M_nearest_98 S (rec32) I R u0 (x1) (x2) (x3) (x4) (x5)
  else
    if y0 ≤ x6 then
      d_M_nearest_98 S (rec32) I R u0 (x1) (x2) (x3) (x4) (x5)
    else
      d_M_nearest_100 S (rec32) I R u0 (x1) (x2) (x3) (x5) (x5)
set_option maxHeartbeats 1000000 in
theorem e_M_nearest_74 {l : Launch} {X : ax_X} {S : ax_S} {L : ax_L} {I0 : ax_I} {R0 : ax_R} {out : Int32} (hX : ax_ok X l "LossFreeToolsModel" b_M_nearest 8 (ax_rm 3 0 0)) (hF : ax_fin X (some .int) 0 0 (ax_of (ax_eq (some (.int out)) S I0 R0 L))) (hS0 : ax_S0 X = S) (rec32 : ax_I → ax_R → Nat → Int32 → Int32 → Int32 → Int32 → Int32 → Option (Int32)) (hrec32 : ∀ (I : ax_I) (R : ax_R) (u0 : Nat) (x1 : Int32) (x2 : Int32) (x3 : Int32) (x4 : Int32) (x5 : Int32), ax_typ S R → (S u0 = some (.inl 5)) → I = I0 → R = R0 → rec32 I R u0 x1 x2 x3 x4 x5 = some out → ax_W X 8 32 [some (.ref u0), some (.int (x1)), some (.int (x2)), some (.int (x3)), some (.int (x4)), some (.int (x5)), none, none] [] S I R L 0 0) : ∀ (I : ax_I) (R : ax_R) (u0 : Nat) (x1 : Int32) (x2 : Int32) (x3 : Int32) (x4 : Int32) (x5 : Int32) (x6 : Int32) (y0 : Int32), ax_typ S R → (S u0 = some (.inl 5)) → I = I0 → R = R0 → d_M_nearest_74 S rec32 I R u0 x1 x2 x3 x4 x5 x6 y0 = some out → ax_W X 8 74 [some (.ref u0), some (.int (x1)), some (.int (x2)), some (.int (x3)), some (.int (x4)), some (.int (x5)), some (.int (x6)), none] [.int (y0)] S I R L 0 0 := by
  rintro I R u0 x1 x2 x3 x4 x5 x6 y0 hty hs0_ hI0 hR0 h
  subst hI0
  subst hR0
  unfold d_M_nearest_74 at h
  refine ax_istore (ls' := [some (.ref u0), some (.int (x1)), some (.int (x2)), some (.int (x3)), some (.int (x4)), some (.int (x5)), some (.int (x6)), some (.int (y0))]) (q := 76) hX dc_M_nearest_74 rfl (by decide) rfl ?_
  refine ax_aload_n (q := 77) hX dc_M_nearest_76 rfl rfl rfl ?_
  refine ax_iload_n (q := 78) hX dc_M_nearest_77 rfl rfl rfl ?_
  refine ax_iload (q := 80) hX dc_M_nearest_78 rfl rfl ?_
  obtain ⟨r19, hr17, h⟩ := ax_bd h
  refine ax_kV (vs := [.int (x1), .int (x5)]) (rest := []) (q := 83) hX dc_M_nearest_80 rfl mt_M_fits wl_M_104 wi_M_fits ws_M_fits hs0_ rfl (c_M_fits l hty hs0_ hr17) rfl (by decide) rfl (Nat.le_of_ble_eq_true rfl) rfl rfl (by decide) (by decide) rfl ?_
  refine ax_if_eq (tgt := 98) (q := 86) hX dc_M_nearest_83 rfl (by decide) (fun z20 => ?_) (fun z20 => ?_)
  · rw [if_pos z20] at h
    exact ax_weak (ls' := [some (.ref u0), some (.int (x1)), some (.int (x2)), some (.int (x3)), some (.int (x4)), some (.int (x5)), none, none]) (ax_fewP_s _ _ (by repeat (first | exact trivial | (refine And.intro rfl ?_)))) (e_M_nearest_98 hX hF hS0 (rec32) (hrec32) I R u0 (x1) (x2) (x3) (x4) (x5) hty hs0_ rfl rfl h)
  · rw [if_neg z20] at h
    refine ax_iload (q := 88) hX dc_M_nearest_86 rfl rfl ?_
    refine ax_iload (q := 90) hX dc_M_nearest_88 rfl rfl ?_
    refine ax_icmp_ge (tgt := 98) (q := 93) hX dc_M_nearest_90 rfl (by decide) (fun z21 => ?_) (fun z21 => ?_)
    · rw [if_pos z21] at h
      exact ax_weak (ls' := [some (.ref u0), some (.int (x1)), some (.int (x2)), some (.int (x3)), some (.int (x4)), some (.int (x5)), none, none]) (ax_fewP_s _ _ (by repeat (first | exact trivial | (refine And.intro rfl ?_)))) (e_M_nearest_98 hX hF hS0 (rec32) (hrec32) I R u0 (x1) (x2) (x3) (x4) (x5) hty hs0_ rfl rfl h)
    · rw [if_neg z21] at h
      refine ax_iload (q := 95) hX dc_M_nearest_93 rfl rfl ?_
      refine ax_goto (tgt := 100) hX dc_M_nearest_95 (by decide) ?_
      exact ax_weak (ls' := [some (.ref u0), some (.int (x1)), some (.int (x2)), some (.int (x3)), none, some (.int (x5)), none, none]) (ax_fewP_s _ _ (by repeat (first | exact trivial | (refine And.intro rfl ?_)))) (e_M_nearest_100 hX hF hS0 (rec32) (hrec32) I R u0 (x1) (x2) (x3) (x5) (x5) hty hs0_ rfl rfl h)
def d_M_nearest_55 (S : ax_S) (rec32 : ax_I → ax_R → Nat → Int32 → Int32 → Int32 → Int32 → Int32 → Option (Int32)) (I : ax_I) (R : ax_R) (u0 : Nat) (x1 : Int32) (x2 : Int32) (x3 : Int32) (x4 : Int32) (x5 : Int32) (y0 : Int32) : Option (Int32) :=
  if x2 ≤ x4 then
    d_M_nearest_74 S (rec32) I R u0 (x1) (x2) (x3) (x4) (x5) (y0) (x4 - x2)
  else
    d_M_nearest_74 S (rec32) I R u0 (x1) (x2) (x3) (x4) (x5) (y0) (x2 - x4)
set_option maxHeartbeats 1000000 in
theorem e_M_nearest_55 {l : Launch} {X : ax_X} {S : ax_S} {L : ax_L} {I0 : ax_I} {R0 : ax_R} {out : Int32} (hX : ax_ok X l "LossFreeToolsModel" b_M_nearest 8 (ax_rm 3 0 0)) (hF : ax_fin X (some .int) 0 0 (ax_of (ax_eq (some (.int out)) S I0 R0 L))) (hS0 : ax_S0 X = S) (rec32 : ax_I → ax_R → Nat → Int32 → Int32 → Int32 → Int32 → Int32 → Option (Int32)) (hrec32 : ∀ (I : ax_I) (R : ax_R) (u0 : Nat) (x1 : Int32) (x2 : Int32) (x3 : Int32) (x4 : Int32) (x5 : Int32), ax_typ S R → (S u0 = some (.inl 5)) → I = I0 → R = R0 → rec32 I R u0 x1 x2 x3 x4 x5 = some out → ax_W X 8 32 [some (.ref u0), some (.int (x1)), some (.int (x2)), some (.int (x3)), some (.int (x4)), some (.int (x5)), none, none] [] S I R L 0 0) : ∀ (I : ax_I) (R : ax_R) (u0 : Nat) (x1 : Int32) (x2 : Int32) (x3 : Int32) (x4 : Int32) (x5 : Int32) (y0 : Int32), ax_typ S R → (S u0 = some (.inl 5)) → I = I0 → R = R0 → d_M_nearest_55 S rec32 I R u0 x1 x2 x3 x4 x5 y0 = some out → ax_W X 8 55 [some (.ref u0), some (.int (x1)), some (.int (x2)), some (.int (x3)), some (.int (x4)), some (.int (x5)), none, none] [.int (y0)] S I R L 0 0 := by
  rintro I R u0 x1 x2 x3 x4 x5 y0 hty hs0_ hI0 hR0 h
  subst hI0
  subst hR0
  unfold d_M_nearest_55 at h
  refine ax_istore (ls' := [some (.ref u0), some (.int (x1)), some (.int (x2)), some (.int (x3)), some (.int (x4)), some (.int (x5)), some (.int (y0)), none]) (q := 57) hX dc_M_nearest_55 rfl (by decide) rfl ?_
  refine ax_iload (q := 59) hX dc_M_nearest_57 rfl rfl ?_
  refine ax_iload_n (q := 60) hX dc_M_nearest_59 rfl rfl rfl ?_
  refine ax_icmp_ge (tgt := 70) (q := 63) hX dc_M_nearest_60 rfl (by decide) (fun z16 => ?_) (fun z16 => ?_)
  · rw [if_pos z16] at h
    refine ax_iload (q := 72) hX dc_M_nearest_70 rfl rfl ?_
    refine ax_iload_n (q := 73) hX dc_M_nearest_72 rfl rfl rfl ?_
    refine ax_isub (q := 74) hX dc_M_nearest_73 rfl ?_
    exact (e_M_nearest_74 hX hF hS0 (rec32) (hrec32) I R u0 (x1) (x2) (x3) (x4) (x5) (y0) (x4 - x2) hty hs0_ rfl rfl h)
  · rw [if_neg z16] at h
    refine ax_iload_n (q := 64) hX dc_M_nearest_63 rfl rfl rfl ?_
    refine ax_iload (q := 66) hX dc_M_nearest_64 rfl rfl ?_
    refine ax_isub (q := 67) hX dc_M_nearest_66 rfl ?_
    refine ax_goto (tgt := 74) hX dc_M_nearest_67 (by decide) ?_
    exact (e_M_nearest_74 hX hF hS0 (rec32) (hrec32) I R u0 (x1) (x2) (x3) (x4) (x5) (y0) (x2 - x4) hty hs0_ rfl rfl h)
def d_M_nearest_32 (S : ax_S) : Nat → ax_I → ax_R → Nat → Int32 → Int32 → Int32 → Int32 → Int32 → Option (Int32)
  | 0, _, _, _, _, _, _, _, _ => none
  | n + 1, I, R, u0, x1, x2, x3, x4, x5 =>
    if x3 < x5 then
      some (x4)
    else
      if x2 ≤ x5 then
        d_M_nearest_55 S (d_M_nearest_32 S  n) I R u0 (x1) (x2) (x3) (x4) (x5) (x5 - x2)
      else
        d_M_nearest_55 S (d_M_nearest_32 S  n) I R u0 (x1) (x2) (x3) (x4) (x5) (x2 - x5)
set_option maxHeartbeats 1000000 in
theorem e_M_nearest_32 {l : Launch} {X : ax_X} {S : ax_S} {L : ax_L} {I0 : ax_I} {R0 : ax_R} {out : Int32} (hX : ax_ok X l "LossFreeToolsModel" b_M_nearest 8 (ax_rm 3 0 0)) (hF : ax_fin X (some .int) 0 0 (ax_of (ax_eq (some (.int out)) S I0 R0 L))) (hS0 : ax_S0 X = S) : ∀ (n : Nat), ∀ (I : ax_I) (R : ax_R) (u0 : Nat) (x1 : Int32) (x2 : Int32) (x3 : Int32) (x4 : Int32) (x5 : Int32), ax_typ S R → (S u0 = some (.inl 5)) → I = I0 → R = R0 → d_M_nearest_32 S  n I R u0 x1 x2 x3 x4 x5 = some out → ax_W X 8 32 [some (.ref u0), some (.int (x1)), some (.int (x2)), some (.int (x3)), some (.int (x4)), some (.int (x5)), none, none] [] S I R L 0 0 := by
  intro n
  induction n with
  | zero =>
    rintro I R u0 x1 x2 x3 x4 x5 hty hs0_ hI0 hR0 h
    cases h
  | succ n ih =>
    rintro I R u0 x1 x2 x3 x4 x5 hty hs0_ hI0 hR0 h
    subst hI0
    subst hR0
    unfold d_M_nearest_32 at h
    refine ax_iload (q := 34) hX dc_M_nearest_32 rfl rfl ?_
    refine ax_iload_n (q := 35) hX dc_M_nearest_34 rfl rfl rfl ?_
    refine ax_icmp_gt (tgt := 108) (q := 38) hX dc_M_nearest_35 rfl (by decide) (fun z14 => ?_) (fun z14 => ?_)
    · rw [if_pos z14] at h
      refine ax_iload (q := 110) hX dc_M_nearest_108 rfl rfl ?_
      cases h
      exact ax_iret hX hF dc_M_nearest_110 rfl rfl (by decide) (by decide) ax_eq.mk (by rw [hS0]; exact fun _ _ z => z)
    · rw [if_neg z14] at h
      refine ax_iload (q := 40) hX dc_M_nearest_38 rfl rfl ?_
      refine ax_iload_n (q := 41) hX dc_M_nearest_40 rfl rfl rfl ?_
      refine ax_icmp_ge (tgt := 51) (q := 44) hX dc_M_nearest_41 rfl (by decide) (fun z15 => ?_) (fun z15 => ?_)
      · rw [if_pos z15] at h
        refine ax_iload (q := 53) hX dc_M_nearest_51 rfl rfl ?_
        refine ax_iload_n (q := 54) hX dc_M_nearest_53 rfl rfl rfl ?_
        refine ax_isub (q := 55) hX dc_M_nearest_54 rfl ?_
        exact (e_M_nearest_55 hX hF hS0 (d_M_nearest_32 S  n) (ih) I R u0 (x1) (x2) (x3) (x4) (x5) (x5 - x2) hty hs0_ rfl rfl h)
      · rw [if_neg z15] at h
        refine ax_iload_n (q := 45) hX dc_M_nearest_44 rfl rfl rfl ?_
        refine ax_iload (q := 47) hX dc_M_nearest_45 rfl rfl ?_
        refine ax_isub (q := 48) hX dc_M_nearest_47 rfl ?_
        refine ax_goto (tgt := 55) hX dc_M_nearest_48 (by decide) ?_
        exact (e_M_nearest_55 hX hF hS0 (d_M_nearest_32 S  n) (ih) I R u0 (x1) (x2) (x3) (x4) (x5) (x2 - x5) hty hs0_ rfl rfl h)
def d_M_nearest_25 (S : ax_S) (I : ax_I) (R : ax_R) (u0 : Nat) (x1 : Int32) (x2 : Int32) (y0 : Int32) : Option (Int32) :=
  d_M_nearest_32 S  5000 I R u0 (x1) (x2) (y0) (0) (0)
set_option maxHeartbeats 1000000 in
theorem e_M_nearest_25 {l : Launch} {X : ax_X} {S : ax_S} {L : ax_L} {I0 : ax_I} {R0 : ax_R} {out : Int32} (hX : ax_ok X l "LossFreeToolsModel" b_M_nearest 8 (ax_rm 3 0 0)) (hF : ax_fin X (some .int) 0 0 (ax_of (ax_eq (some (.int out)) S I0 R0 L))) (hS0 : ax_S0 X = S) : ∀ (I : ax_I) (R : ax_R) (u0 : Nat) (x1 : Int32) (x2 : Int32) (y0 : Int32), ax_typ S R → (S u0 = some (.inl 5)) → I = I0 → R = R0 → d_M_nearest_25 S  I R u0 x1 x2 y0 = some out → ax_W X 8 25 [some (.ref u0), some (.int (x1)), some (.int (x2)), none, none, none, none, none] [.int (y0)] S I R L 0 0 := by
  rintro I R u0 x1 x2 y0 hty hs0_ hI0 hR0 h
  subst hI0
  subst hR0
  unfold d_M_nearest_25 at h
  refine ax_istore_n (ls' := [some (.ref u0), some (.int (x1)), some (.int (x2)), some (.int (y0)), none, none, none, none]) (q := 26) hX dc_M_nearest_25 rfl rfl (by decide) rfl ?_
  refine ax_iconst (v := 0) (q := 27) hX dc_M_nearest_26 rfl (by decide) ?_
  refine ax_istore (ls' := [some (.ref u0), some (.int (x1)), some (.int (x2)), some (.int (y0)), some (.int (0)), none, none, none]) (q := 29) hX dc_M_nearest_27 rfl (by decide) rfl ?_
  refine ax_iconst (v := 0) (q := 30) hX dc_M_nearest_29 rfl (by decide) ?_
  refine ax_istore (ls' := [some (.ref u0), some (.int (x1)), some (.int (x2)), some (.int (y0)), some (.int (0)), some (.int (0)), none, none]) (q := 32) hX dc_M_nearest_30 rfl (by decide) rfl ?_
  exact (e_M_nearest_32 hX hF hS0  5000 I R u0 (x1) (x2) (y0) (0) (0) hty hs0_ rfl rfl h)
def d_M_nearest (S : ax_S) (I : ax_I) (R : ax_R) (u0 : Nat) (x1 : Int32) (x2 : Int32) : Option (Int32) :=
  if x1 = 0 then
    (R u0 5).bind fun u2 =>
    (ax_ix S u2 (I u0 3)).bind fun j6 =>
    d_M_nearest_25 S  I R u0 (x1) (x2) (I u2 j6)
  else
    (R u0 4).bind fun u8 =>
    (ax_ix S u8 (I u0 3)).bind fun j12 =>
    d_M_nearest_25 S  I R u0 (x1) (x2) (I u8 j12)
set_option maxHeartbeats 1000000 in
theorem c_M_nearest (l : Launch) {S : ax_S} {I : ax_I} {R : ax_R} {L : ax_L} {u0 : Nat} {x1 : Int32} {x2 : Int32} {out : Int32} (hty : ax_typ S R) (hs0 : S u0 = some (.inl 5)) (h : d_M_nearest S I R u0 x1 x2 = some out) : ax_Met l y_M_nearest b_M_nearest 8 (some .int) (ax_rm 3 0 0) [.ref u0, .int x1, .int x2] S I R L (ax_eq (some (.int out)) S I R L) := by
  refine ax_enter (own := "LossFreeToolsModel") (by decide +kernel) rfl (ax_cats rfl) (Nat.le_of_ble_eq_true rfl) (fun X hX hF _ hS0 => ?_)
  show ax_W X 8 0 [some (.ref u0), some (.int (x1)), some (.int (x2)), none, none, none, none, none] [] S I R L 0 0
  unfold d_M_nearest at h
  refine ax_iload_n (q := 1) hX dc_M_nearest_0 rfl rfl rfl ?_
  refine ax_if_eq (tgt := 16) (q := 4) hX dc_M_nearest_1 rfl (by decide) (fun z1 => ?_) (fun z1 => ?_)
  · rw [if_pos z1] at h
    refine ax_aload_n (q := 17) hX dc_M_nearest_16 rfl rfl rfl ?_
    obtain ⟨u2, hu3, h⟩ := ax_bd h
    obtain ⟨n5, hs4⟩ : ∃ n, S u2 = some (.inr (0, n)) := hty.1 _ _ _ _ hs0 hu3
    refine ax_getR (q := 20) hX dc_M_nearest_17 rfl fl_M_13 rfl hs0 hu3 ?_
    refine ax_aload_n (q := 21) hX dc_M_nearest_20 rfl rfl rfl ?_
    refine ax_getI (q := 24) hX dc_M_nearest_21 rfl fl_M_71 rfl hs0 ?_
    obtain ⟨j6, hj7, h⟩ := ax_bd h
    have hj7 := ax_ix_s hty hs4 hj7
    refine ax_iald (q := 25) hX j6 dc_M_nearest_24 rfl hs4 hj7.1 hj7.2.1 hj7.2.2 ?_
    exact (e_M_nearest_25 hX hF hS0  I R u0 (x1) (x2) (I u2 j6) hty hs0 rfl rfl h)
  · rw [if_neg z1] at h
    refine ax_aload_n (q := 5) hX dc_M_nearest_4 rfl rfl rfl ?_
    obtain ⟨u8, hu9, h⟩ := ax_bd h
    obtain ⟨n11, hs10⟩ : ∃ n, S u8 = some (.inr (0, n)) := hty.1 _ _ _ _ hs0 hu9
    refine ax_getR (q := 8) hX dc_M_nearest_5 rfl fl_M_7 rfl hs0 hu9 ?_
    refine ax_aload_n (q := 9) hX dc_M_nearest_8 rfl rfl rfl ?_
    refine ax_getI (q := 12) hX dc_M_nearest_9 rfl fl_M_71 rfl hs0 ?_
    obtain ⟨j12, hj13, h⟩ := ax_bd h
    have hj13 := ax_ix_s hty hs10 hj13
    refine ax_iald (q := 13) hX j12 dc_M_nearest_12 rfl hs10 hj13.1 hj13.2.1 hj13.2.2 ?_
    refine ax_goto (tgt := 25) hX dc_M_nearest_13 (by decide) ?_
    exact (e_M_nearest_25 hX hF hS0  I R u0 (x1) (x2) (I u8 j12) hty hs0 rfl rfl h)
def d_M_turn_422 (S : ax_S) (I : ax_I) (R : ax_R) (u0 : Nat) (x1 : Int32) (y0 : Int32) (y1 : Int32) (w2 : Nat) : Option (Int32 × ax_I) :=
  (ax_ix S w2 (y1)).bind fun j207 =>
  (some (ax_up I w2 j207 (y0))).bind fun I209 =>
  (d_M_both S I209 R (I209 u0 18) (x1)).bind fun r213 =>
  (some (ax_up I209 u0 18 (r213))).bind fun I214 =>
  (some (ax_up I214 u0 19 (0))).bind fun I216 =>
  some (I216 u0 18, I216)
set_option maxHeartbeats 1000000 in
theorem e_M_turn_422 {l : Launch} {X : ax_X} {S : ax_S} {L : ax_L} {R0 : ax_R} {out : Int32 × ax_I} (hX : ax_ok X l "LossFreeToolsModel" b_M_turn 9 (ax_rm 3 0 0)) (hF : ax_fin X (some .int) 0 0 (ax_of (ax_eq (some (.int out.1)) S out.2 R0 L))) (hS0 : ax_S0 X = S) : ∀ (I : ax_I) (R : ax_R) (u0 : Nat) (x1 : Int32) (y0 : Int32) (y1 : Int32) (w2 : Nat), ax_typ S R → (S u0 = some (.inl 5)) → (∃ n, S w2 = some (.inr (0, n))) → R = R0 → d_M_turn_422 S  I R u0 x1 y0 y1 w2 = some out → ax_W X 9 422 [some (.ref u0), some (.int (x1)), none, none, none, none, none, none, none] [.int (y0), .int (y1), .ref w2] S I R L 0 0 := by
  rintro I R u0 x1 y0 y1 w2 hty hs0_ ⟨nw2_, hw2_⟩ hR0 h
  subst hR0
  unfold d_M_turn_422 at h
  obtain ⟨j207, hj208, h⟩ := ax_bd h
  have hj208 := ax_ix_s hty hw2_ hj208
  obtain ⟨I209, e210, h⟩ := ax_bs h
  refine ax_iast (q := 423) hX j207 dc_M_turn_422 rfl hw2_ hj208.1 hj208.2.1 hj208.2.2 e210 ?_
  refine ax_aload_n (q := 424) hX dc_M_turn_423 rfl rfl rfl ?_
  refine ax_aload_n (q := 425) hX dc_M_turn_424 rfl rfl rfl ?_
  refine ax_getI (q := 428) hX dc_M_turn_425 rfl fl_M_74 rfl hs0_ ?_
  refine ax_iload_n (q := 429) hX dc_M_turn_428 rfl rfl rfl ?_
  obtain ⟨r213, hr211, h⟩ := ax_bd h
  refine ax_kS (vs := [.int (I209 u0 18), .int (x1)]) (rest := [.ref u0]) (q := 432) hX dc_M_turn_429 rfl mt_M_both wl_M_126 wt_M_both (c_M_both l hty  hr211) rfl (by decide) rfl (Nat.le_of_ble_eq_true rfl) rfl rfl (by decide) (by decide) rfl ?_
  obtain ⟨I214, e215, h⟩ := ax_bs h
  refine ax_putI (q := 435) hX dc_M_turn_432 rfl fl_M_74 rfl hs0_ (fun z => by cases z) rfl rfl e215 ?_
  refine ax_aload_n (q := 436) hX dc_M_turn_435 rfl rfl rfl ?_
  refine ax_iconst (v := 0) (q := 437) hX dc_M_turn_436 rfl (by decide) ?_
  obtain ⟨I216, e217, h⟩ := ax_bs h
  refine ax_putI (q := 440) hX dc_M_turn_437 rfl fl_M_77 rfl hs0_ (fun z => by cases z) rfl rfl e217 ?_
  refine ax_aload_n (q := 441) hX dc_M_turn_440 rfl rfl rfl ?_
  refine ax_getI (q := 444) hX dc_M_turn_441 rfl fl_M_74 rfl hs0_ ?_
  cases h
  exact ax_iret hX hF dc_M_turn_444 rfl rfl (by decide) (by decide) ax_eq.mk (by rw [hS0]; exact fun _ _ z => z)
def d_M_turn_401 (S : ax_S) (I : ax_I) (R : ax_R) (u0 : Nat) (x1 : Int32) (x2 : Int32) (x3 : Int32) (y0 : Int32) (y1 : Int32) (w2 : Nat) : Option (Int32 × ax_I) :=
  (ax_ix S w2 (y1)).bind fun j195 =>
  (some (ax_up I w2 j195 (y0))).bind fun I197 =>
  (R u0 5).bind fun u199 =>
  (d_M_isTurned S I197 R (x1)).bind fun r205 =>
  if (ax_b r205) = 0 then
    d_M_turn_422 S  I197 R u0 (x1) (x3) (I197 u0 3) u199
  else
    d_M_turn_422 S  I197 R u0 (x1) (x2) (I197 u0 3) u199
set_option maxHeartbeats 1000000 in
theorem e_M_turn_401 {l : Launch} {X : ax_X} {S : ax_S} {L : ax_L} {R0 : ax_R} {out : Int32 × ax_I} (hX : ax_ok X l "LossFreeToolsModel" b_M_turn 9 (ax_rm 3 0 0)) (hF : ax_fin X (some .int) 0 0 (ax_of (ax_eq (some (.int out.1)) S out.2 R0 L))) (hS0 : ax_S0 X = S) : ∀ (I : ax_I) (R : ax_R) (u0 : Nat) (x1 : Int32) (x2 : Int32) (x3 : Int32) (y0 : Int32) (y1 : Int32) (w2 : Nat), ax_typ S R → (S u0 = some (.inl 5)) → (∃ n, S w2 = some (.inr (0, n))) → R = R0 → d_M_turn_401 S  I R u0 x1 x2 x3 y0 y1 w2 = some out → ax_W X 9 401 [some (.ref u0), some (.int (x1)), some (.int (x2)), some (.int (x3)), none, none, none, none, none] [.int (y0), .int (y1), .ref w2] S I R L 0 0 := by
  rintro I R u0 x1 x2 x3 y0 y1 w2 hty hs0_ ⟨nw2_, hw2_⟩ hR0 h
  subst hR0
  unfold d_M_turn_401 at h
  obtain ⟨j195, hj196, h⟩ := ax_bd h
  have hj196 := ax_ix_s hty hw2_ hj196
  obtain ⟨I197, e198, h⟩ := ax_bs h
  refine ax_iast (q := 402) hX j195 dc_M_turn_401 rfl hw2_ hj196.1 hj196.2.1 hj196.2.2 e198 ?_
  refine ax_aload_n (q := 403) hX dc_M_turn_402 rfl rfl rfl ?_
  obtain ⟨u199, hu200, h⟩ := ax_bd h
  obtain ⟨n202, hs201⟩ : ∃ n, S u199 = some (.inr (0, n)) := hty.1 _ _ _ _ hs0_ hu200
  refine ax_getR (q := 406) hX dc_M_turn_403 rfl fl_M_13 rfl hs0_ hu200 ?_
  refine ax_aload_n (q := 407) hX dc_M_turn_406 rfl rfl rfl ?_
  refine ax_getI (q := 410) hX dc_M_turn_407 rfl fl_M_71 rfl hs0_ ?_
  refine ax_iload_n (q := 411) hX dc_M_turn_410 rfl rfl rfl ?_
  obtain ⟨r205, hr203, h⟩ := ax_bd h
  refine ax_kS (vs := [.int (x1)]) (rest := [.int (I197 u0 3), .ref u199]) (q := 414) hX dc_M_turn_411 rfl mt_M_isTurned wl_M_123 wt_M_isTurned (c_M_isTurned l hty  hr203) rfl (by decide) rfl (Nat.le_of_ble_eq_true rfl) rfl rfl (by decide) (by decide) rfl ?_
  refine ax_if_eq (tgt := 421) (q := 417) hX dc_M_turn_414 rfl (by decide) (fun z206 => ?_) (fun z206 => ?_)
  · rw [if_pos z206] at h
    refine ax_iload_n (q := 422) hX dc_M_turn_421 rfl rfl rfl ?_
    exact ax_weak (ls' := [some (.ref u0), some (.int (x1)), none, none, none, none, none, none, none]) (ax_fewP_s _ _ (by repeat (first | exact trivial | (refine And.intro rfl ?_)))) (e_M_turn_422 hX hF hS0  I197 R u0 (x1) (x3) (I197 u0 3) u199 hty hs0_ ⟨n202, hs201⟩ rfl h)
  · rw [if_neg z206] at h
    refine ax_iload_n (q := 418) hX dc_M_turn_417 rfl rfl rfl ?_
    refine ax_goto (tgt := 422) hX dc_M_turn_418 (by decide) ?_
    exact ax_weak (ls' := [some (.ref u0), some (.int (x1)), none, none, none, none, none, none, none]) (ax_fewP_s _ _ (by repeat (first | exact trivial | (refine And.intro rfl ?_)))) (e_M_turn_422 hX hF hS0  I197 R u0 (x1) (x2) (I197 u0 3) u199 hty hs0_ ⟨n202, hs201⟩ rfl h)
def d_M_turn_305 (S : ax_S) : Nat → ax_I → ax_R → Nat → Int32 → Int32 → Int32 → Int32 → Option (Int32 × ax_I)
  | 0, _, _, _, _, _, _, _ => none
  | n + 1, I, R, u0, x1, x2, x3, x4 =>
    (R u0 7).bind fun u149 =>
    (ax_ix S u149 (I u0 3)).bind fun j153 =>
    if ((20 * (I u0 3)) + (I u149 j153)) ≤ x4 then
      (R u0 4).bind fun u156 =>
      (d_M_isTurned S I R (x1)).bind fun r162 =>
      if (ax_b r162) = 0 then
        d_M_turn_401 S  I R u0 (x1) (x2) (x3) (x2) (I u0 3) u156
      else
        d_M_turn_401 S  I R u0 (x1) (x2) (x3) (x3) (I u0 3) u156
    else
      (R u0 15).bind fun u164 =>
      (ax_ix S u164 (x4)).bind fun j168 =>
      (R u0 16).bind fun u170 =>
      (ax_ix S u170 (x4)).bind fun j174 =>
      (d_M_comes S I R (x1) (I u164 j168) (I u170 j174) (x2) (x3)).bind fun r178 =>
      (R u0 15).bind fun u179 =>
      (ax_ix S u179 (x4)).bind fun j183 =>
      (some (ax_up I u179 j183 (r178 - r178 / 1000 * 1000))).bind fun I185 =>
      (R u0 16).bind fun u187 =>
      (ax_ix S u187 (x4)).bind fun j191 =>
      (some (ax_up I185 u187 j191 (r178 / 1000))).bind fun I193 =>
      d_M_turn_305 S  n I193 R u0 (x1) (x2) (x3) (x4 + 1)
set_option maxHeartbeats 1000000 in
theorem e_M_turn_305 {l : Launch} {X : ax_X} {S : ax_S} {L : ax_L} {R0 : ax_R} {out : Int32 × ax_I} (hX : ax_ok X l "LossFreeToolsModel" b_M_turn 9 (ax_rm 3 0 0)) (hF : ax_fin X (some .int) 0 0 (ax_of (ax_eq (some (.int out.1)) S out.2 R0 L))) (hS0 : ax_S0 X = S) : ∀ (n : Nat), ∀ (I : ax_I) (R : ax_R) (u0 : Nat) (x1 : Int32) (x2 : Int32) (x3 : Int32) (x4 : Int32), ax_typ S R → (S u0 = some (.inl 5)) → R = R0 → d_M_turn_305 S  n I R u0 x1 x2 x3 x4 = some out → ax_W X 9 305 [some (.ref u0), some (.int (x1)), some (.int (x2)), some (.int (x3)), some (.int (x4)), none, none, none, none] [] S I R L 0 0 := by
  intro n
  induction n with
  | zero =>
    rintro I R u0 x1 x2 x3 x4 hty hs0_ hR0 h
    cases h
  | succ n ih =>
    rintro I R u0 x1 x2 x3 x4 hty hs0_ hR0 h
    subst hR0
    unfold d_M_turn_305 at h
    refine ax_iload (q := 307) hX dc_M_turn_305 rfl rfl ?_
    refine ax_bipush (v := 20) (q := 309) hX dc_M_turn_307 rfl (by decide) ?_
    refine ax_aload_n (q := 310) hX dc_M_turn_309 rfl rfl rfl ?_
    refine ax_getI (q := 313) hX dc_M_turn_310 rfl fl_M_71 rfl hs0_ ?_
    refine ax_imul (q := 314) hX dc_M_turn_313 rfl ?_
    refine ax_aload_n (q := 315) hX dc_M_turn_314 rfl rfl rfl ?_
    obtain ⟨u149, hu150, h⟩ := ax_bd h
    obtain ⟨n152, hs151⟩ : ∃ n, S u149 = some (.inr (0, n)) := hty.1 _ _ _ _ hs0_ hu150
    refine ax_getR (q := 318) hX dc_M_turn_315 rfl fl_M_19 rfl hs0_ hu150 ?_
    refine ax_aload_n (q := 319) hX dc_M_turn_318 rfl rfl rfl ?_
    refine ax_getI (q := 322) hX dc_M_turn_319 rfl fl_M_71 rfl hs0_ ?_
    obtain ⟨j153, hj154, h⟩ := ax_bd h
    have hj154 := ax_ix_s hty hs151 hj154
    refine ax_iald (q := 323) hX j153 dc_M_turn_322 rfl hs151 hj154.1 hj154.2.1 hj154.2.2 ?_
    refine ax_iadd (q := 324) hX dc_M_turn_323 rfl ?_
    refine ax_icmp_ge (tgt := 381) (q := 327) hX dc_M_turn_324 rfl (by decide) (fun z155 => ?_) (fun z155 => ?_)
    · rw [if_pos z155] at h
      refine ax_aload_n (q := 382) hX dc_M_turn_381 rfl rfl rfl ?_
      obtain ⟨u156, hu157, h⟩ := ax_bd h
      obtain ⟨n159, hs158⟩ : ∃ n, S u156 = some (.inr (0, n)) := hty.1 _ _ _ _ hs0_ hu157
      refine ax_getR (q := 385) hX dc_M_turn_382 rfl fl_M_7 rfl hs0_ hu157 ?_
      refine ax_aload_n (q := 386) hX dc_M_turn_385 rfl rfl rfl ?_
      refine ax_getI (q := 389) hX dc_M_turn_386 rfl fl_M_71 rfl hs0_ ?_
      refine ax_iload_n (q := 390) hX dc_M_turn_389 rfl rfl rfl ?_
      obtain ⟨r162, hr160, h⟩ := ax_bd h
      refine ax_kS (vs := [.int (x1)]) (rest := [.int (I u0 3), .ref u156]) (q := 393) hX dc_M_turn_390 rfl mt_M_isTurned wl_M_123 wt_M_isTurned (c_M_isTurned l hty  hr160) rfl (by decide) rfl (Nat.le_of_ble_eq_true rfl) rfl rfl (by decide) (by decide) rfl ?_
      refine ax_if_eq (tgt := 400) (q := 396) hX dc_M_turn_393 rfl (by decide) (fun z163 => ?_) (fun z163 => ?_)
      · rw [if_pos z163] at h
        refine ax_iload_n (q := 401) hX dc_M_turn_400 rfl rfl rfl ?_
        exact ax_weak (ls' := [some (.ref u0), some (.int (x1)), some (.int (x2)), some (.int (x3)), none, none, none, none, none]) (ax_fewP_s _ _ (by repeat (first | exact trivial | (refine And.intro rfl ?_)))) (e_M_turn_401 hX hF hS0  I R u0 (x1) (x2) (x3) (x2) (I u0 3) u156 hty hs0_ ⟨n159, hs158⟩ rfl h)
      · rw [if_neg z163] at h
        refine ax_iload_n (q := 397) hX dc_M_turn_396 rfl rfl rfl ?_
        refine ax_goto (tgt := 401) hX dc_M_turn_397 (by decide) ?_
        exact ax_weak (ls' := [some (.ref u0), some (.int (x1)), some (.int (x2)), some (.int (x3)), none, none, none, none, none]) (ax_fewP_s _ _ (by repeat (first | exact trivial | (refine And.intro rfl ?_)))) (e_M_turn_401 hX hF hS0  I R u0 (x1) (x2) (x3) (x3) (I u0 3) u156 hty hs0_ ⟨n159, hs158⟩ rfl h)
    · rw [if_neg z155] at h
      refine ax_iload_n (q := 328) hX dc_M_turn_327 rfl rfl rfl ?_
      refine ax_aload_n (q := 329) hX dc_M_turn_328 rfl rfl rfl ?_
      obtain ⟨u164, hu165, h⟩ := ax_bd h
      obtain ⟨n167, hs166⟩ : ∃ n, S u164 = some (.inr (0, n)) := hty.1 _ _ _ _ hs0_ hu165
      refine ax_getR (q := 332) hX dc_M_turn_329 rfl fl_M_43 rfl hs0_ hu165 ?_
      refine ax_iload (q := 334) hX dc_M_turn_332 rfl rfl ?_
      obtain ⟨j168, hj169, h⟩ := ax_bd h
      have hj169 := ax_ix_s hty hs166 hj169
      refine ax_iald (q := 335) hX j168 dc_M_turn_334 rfl hs166 hj169.1 hj169.2.1 hj169.2.2 ?_
      refine ax_aload_n (q := 336) hX dc_M_turn_335 rfl rfl rfl ?_
      obtain ⟨u170, hu171, h⟩ := ax_bd h
      obtain ⟨n173, hs172⟩ : ∃ n, S u170 = some (.inr (0, n)) := hty.1 _ _ _ _ hs0_ hu171
      refine ax_getR (q := 339) hX dc_M_turn_336 rfl fl_M_46 rfl hs0_ hu171 ?_
      refine ax_iload (q := 341) hX dc_M_turn_339 rfl rfl ?_
      obtain ⟨j174, hj175, h⟩ := ax_bd h
      have hj175 := ax_ix_s hty hs172 hj175
      refine ax_iald (q := 342) hX j174 dc_M_turn_341 rfl hs172 hj175.1 hj175.2.1 hj175.2.2 ?_
      refine ax_iload_n (q := 343) hX dc_M_turn_342 rfl rfl rfl ?_
      refine ax_iload_n (q := 344) hX dc_M_turn_343 rfl rfl rfl ?_
      obtain ⟨r178, hr176, h⟩ := ax_bd h
      refine ax_kS (vs := [.int (x1), .int (I u164 j168), .int (I u170 j174), .int (x2), .int (x3)]) (rest := []) (q := 347) hX dc_M_turn_344 rfl mt_M_comes wl_M_119 wt_M_comes (c_M_comes l hty  hr176) rfl (by decide) rfl (Nat.le_of_ble_eq_true rfl) rfl rfl (by decide) (by decide) rfl ?_
      refine ax_istore (ls' := [some (.ref u0), some (.int (x1)), some (.int (x2)), some (.int (x3)), some (.int (x4)), some (.int (r178)), none, none, none]) (q := 349) hX dc_M_turn_347 rfl (by decide) rfl ?_
      refine ax_aload_n (q := 350) hX dc_M_turn_349 rfl rfl rfl ?_
      obtain ⟨u179, hu180, h⟩ := ax_bd h
      obtain ⟨n182, hs181⟩ : ∃ n, S u179 = some (.inr (0, n)) := hty.1 _ _ _ _ hs0_ hu180
      refine ax_getR (q := 353) hX dc_M_turn_350 rfl fl_M_43 rfl hs0_ hu180 ?_
      refine ax_iload (q := 355) hX dc_M_turn_353 rfl rfl ?_
      refine ax_iload (q := 357) hX dc_M_turn_355 rfl rfl ?_
      refine ax_sipush (v := 1000) (q := 360) hX dc_M_turn_357 rfl (by decide) ?_
      refine ax_irem (q := 361) hX dc_M_turn_360 rfl (by decide) ?_
      obtain ⟨j183, hj184, h⟩ := ax_bd h
      have hj184 := ax_ix_s hty hs181 hj184
      obtain ⟨I185, e186, h⟩ := ax_bs h
      refine ax_iast (q := 362) hX j183 dc_M_turn_361 rfl hs181 hj184.1 hj184.2.1 hj184.2.2 e186 ?_
      refine ax_aload_n (q := 363) hX dc_M_turn_362 rfl rfl rfl ?_
      obtain ⟨u187, hu188, h⟩ := ax_bd h
      obtain ⟨n190, hs189⟩ : ∃ n, S u187 = some (.inr (0, n)) := hty.1 _ _ _ _ hs0_ hu188
      refine ax_getR (q := 366) hX dc_M_turn_363 rfl fl_M_46 rfl hs0_ hu188 ?_
      refine ax_iload (q := 368) hX dc_M_turn_366 rfl rfl ?_
      refine ax_iload (q := 370) hX dc_M_turn_368 rfl rfl ?_
      refine ax_sipush (v := 1000) (q := 373) hX dc_M_turn_370 rfl (by decide) ?_
      refine ax_idiv (q := 374) hX dc_M_turn_373 rfl (by decide) ?_
      obtain ⟨j191, hj192, h⟩ := ax_bd h
      have hj192 := ax_ix_s hty hs189 hj192
      obtain ⟨I193, e194, h⟩ := ax_bs h
      refine ax_iast (q := 375) hX j191 dc_M_turn_374 rfl hs189 hj192.1 hj192.2.1 hj192.2.2 e194 ?_
      refine ax_iinc (v := x4 + 1) (ls' := [some (.ref u0), some (.int (x1)), some (.int (x2)), some (.int (x3)), some (.int (x4 + 1)), some (.int (r178)), none, none, none]) (q := 378) hX dc_M_turn_375 rfl rfl rfl (by decide) rfl ?_
      refine ax_goto (tgt := 305) hX dc_M_turn_378 (by decide) ?_
      exact ax_weak (ls' := [some (.ref u0), some (.int (x1)), some (.int (x2)), some (.int (x3)), some (.int (x4 + 1)), none, none, none, none]) (ax_fewP_s _ _ (by repeat (first | exact trivial | (refine And.intro rfl ?_)))) (ih I193 R u0 (x1) (x2) (x3) (x4 + 1) hty hs0_ rfl h)
def d_M_turn_271 (S : ax_S) (rec51 : ax_I → ax_R → Nat → Int32 → Int32 → Int32 → Int32 → Option (Int32 × ax_I)) (I : ax_I) (R : ax_R) (u0 : Nat) (x1 : Int32) (x2 : Int32) (x3 : Int32) (x4 : Int32) (x5 : Int32) (y0 : Int32) (y1 : Int32) (w2 : Nat) : Option (Int32 × ax_I) :=
  (ax_ix S w2 (y1)).bind fun j128 =>
  (some (ax_up I w2 j128 (y0))).bind fun I130 =>
  (R u0 12).bind fun u132 =>
  (R u0 12).bind fun u136 =>
  (ax_ix S u136 (x5)).bind fun j140 =>
  (d_M_both S I130 R (I130 u136 j140) (x1)).bind fun r144 =>
  (ax_ix S u132 (x5)).bind fun j145 =>
  (some (ax_up I130 u132 j145 (r144))).bind fun I147 =>
  rec51 I147 R u0 (x1) (x2) (x3) (x4 + 1)
set_option maxHeartbeats 1000000 in
theorem e_M_turn_271 {l : Launch} {X : ax_X} {S : ax_S} {L : ax_L} {R0 : ax_R} {out : Int32 × ax_I} (hX : ax_ok X l "LossFreeToolsModel" b_M_turn 9 (ax_rm 3 0 0)) (hF : ax_fin X (some .int) 0 0 (ax_of (ax_eq (some (.int out.1)) S out.2 R0 L))) (hS0 : ax_S0 X = S) (rec51 : ax_I → ax_R → Nat → Int32 → Int32 → Int32 → Int32 → Option (Int32 × ax_I)) (hrec51 : ∀ (I : ax_I) (R : ax_R) (u0 : Nat) (x1 : Int32) (x2 : Int32) (x3 : Int32) (x4 : Int32), ax_typ S R → (S u0 = some (.inl 5)) → R = R0 → rec51 I R u0 x1 x2 x3 x4 = some out → ax_W X 9 51 [some (.ref u0), some (.int (x1)), some (.int (x2)), some (.int (x3)), some (.int (x4)), none, none, none, none] [] S I R L 0 0) : ∀ (I : ax_I) (R : ax_R) (u0 : Nat) (x1 : Int32) (x2 : Int32) (x3 : Int32) (x4 : Int32) (x5 : Int32) (y0 : Int32) (y1 : Int32) (w2 : Nat), ax_typ S R → (S u0 = some (.inl 5)) → (∃ n, S w2 = some (.inr (0, n))) → R = R0 → d_M_turn_271 S rec51 I R u0 x1 x2 x3 x4 x5 y0 y1 w2 = some out → ax_W X 9 271 [some (.ref u0), some (.int (x1)), some (.int (x2)), some (.int (x3)), some (.int (x4)), some (.int (x5)), none, none, none] [.int (y0), .int (y1), .ref w2] S I R L 0 0 := by
  rintro I R u0 x1 x2 x3 x4 x5 y0 y1 w2 hty hs0_ ⟨nw2_, hw2_⟩ hR0 h
  subst hR0
  unfold d_M_turn_271 at h
  obtain ⟨j128, hj129, h⟩ := ax_bd h
  have hj129 := ax_ix_s hty hw2_ hj129
  obtain ⟨I130, e131, h⟩ := ax_bs h
  refine ax_iast (q := 272) hX j128 dc_M_turn_271 rfl hw2_ hj129.1 hj129.2.1 hj129.2.2 e131 ?_
  refine ax_aload_n (q := 273) hX dc_M_turn_272 rfl rfl rfl ?_
  obtain ⟨u132, hu133, h⟩ := ax_bd h
  obtain ⟨n135, hs134⟩ : ∃ n, S u132 = some (.inr (0, n)) := hty.1 _ _ _ _ hs0_ hu133
  refine ax_getR (q := 276) hX dc_M_turn_273 rfl fl_M_34 rfl hs0_ hu133 ?_
  refine ax_iload (q := 278) hX dc_M_turn_276 rfl rfl ?_
  refine ax_aload_n (q := 279) hX dc_M_turn_278 rfl rfl rfl ?_
  obtain ⟨u136, hu137, h⟩ := ax_bd h
  obtain ⟨n139, hs138⟩ : ∃ n, S u136 = some (.inr (0, n)) := hty.1 _ _ _ _ hs0_ hu137
  refine ax_getR (q := 282) hX dc_M_turn_279 rfl fl_M_34 rfl hs0_ hu137 ?_
  refine ax_iload (q := 284) hX dc_M_turn_282 rfl rfl ?_
  obtain ⟨j140, hj141, h⟩ := ax_bd h
  have hj141 := ax_ix_s hty hs138 hj141
  refine ax_iald (q := 285) hX j140 dc_M_turn_284 rfl hs138 hj141.1 hj141.2.1 hj141.2.2 ?_
  refine ax_iload_n (q := 286) hX dc_M_turn_285 rfl rfl rfl ?_
  obtain ⟨r144, hr142, h⟩ := ax_bd h
  refine ax_kS (vs := [.int (I130 u136 j140), .int (x1)]) (rest := [.int (x5), .ref u132]) (q := 289) hX dc_M_turn_286 rfl mt_M_both wl_M_126 wt_M_both (c_M_both l hty  hr142) rfl (by decide) rfl (Nat.le_of_ble_eq_true rfl) rfl rfl (by decide) (by decide) rfl ?_
  obtain ⟨j145, hj146, h⟩ := ax_bd h
  have hj146 := ax_ix_s hty hs134 hj146
  obtain ⟨I147, e148, h⟩ := ax_bs h
  refine ax_iast (q := 290) hX j145 dc_M_turn_289 rfl hs134 hj146.1 hj146.2.1 hj146.2.2 e148 ?_
  refine ax_iinc (v := x4 + 1) (ls' := [some (.ref u0), some (.int (x1)), some (.int (x2)), some (.int (x3)), some (.int (x4 + 1)), some (.int (x5)), none, none, none]) (q := 293) hX dc_M_turn_290 rfl rfl rfl (by decide) rfl ?_
  refine ax_goto (tgt := 51) hX dc_M_turn_293 (by decide) ?_
  exact ax_weak (ls' := [some (.ref u0), some (.int (x1)), some (.int (x2)), some (.int (x3)), some (.int (x4 + 1)), none, none, none, none]) (ax_fewP_s _ _ (by repeat (first | exact trivial | (refine And.intro rfl ?_)))) (hrec51 I147 R u0 (x1) (x2) (x3) (x4 + 1) hty hs0_ rfl h)
def d_M_turn_245 (S : ax_S) (rec51 : ax_I → ax_R → Nat → Int32 → Int32 → Int32 → Int32 → Option (Int32 × ax_I)) (I : ax_I) (R : ax_R) (u0 : Nat) (x1 : Int32) (x2 : Int32) (x3 : Int32) (x4 : Int32) (x5 : Int32) (x8 : Int32) (y0 : Int32) (y1 : Int32) (w2 : Nat) : Option (Int32 × ax_I) :=
  (ax_ix S w2 (y1)).bind fun j110 =>
  (some (ax_up I w2 j110 (y0))).bind fun I112 =>
  (R u0 11).bind fun u114 =>
  (d_M_isTurned S I112 R (x1)).bind fun r120 =>
  if (ax_b r120) = 0 then
    (R u0 11).bind fun u122 =>
    (ax_ix S u122 (x5)).bind fun j126 =>
    d_M_turn_271 S (rec51) I112 R u0 (x1) (x2) (x3) (x4) (x5) (I112 u122 j126) (x5) u114
  else
    d_M_turn_271 S (rec51) I112 R u0 (x1) (x2) (x3) (x4) (x5) (x8) (x5) u114
set_option maxHeartbeats 1000000 in
theorem e_M_turn_245 {l : Launch} {X : ax_X} {S : ax_S} {L : ax_L} {R0 : ax_R} {out : Int32 × ax_I} (hX : ax_ok X l "LossFreeToolsModel" b_M_turn 9 (ax_rm 3 0 0)) (hF : ax_fin X (some .int) 0 0 (ax_of (ax_eq (some (.int out.1)) S out.2 R0 L))) (hS0 : ax_S0 X = S) (rec51 : ax_I → ax_R → Nat → Int32 → Int32 → Int32 → Int32 → Option (Int32 × ax_I)) (hrec51 : ∀ (I : ax_I) (R : ax_R) (u0 : Nat) (x1 : Int32) (x2 : Int32) (x3 : Int32) (x4 : Int32), ax_typ S R → (S u0 = some (.inl 5)) → R = R0 → rec51 I R u0 x1 x2 x3 x4 = some out → ax_W X 9 51 [some (.ref u0), some (.int (x1)), some (.int (x2)), some (.int (x3)), some (.int (x4)), none, none, none, none] [] S I R L 0 0) : ∀ (I : ax_I) (R : ax_R) (u0 : Nat) (x1 : Int32) (x2 : Int32) (x3 : Int32) (x4 : Int32) (x5 : Int32) (x8 : Int32) (y0 : Int32) (y1 : Int32) (w2 : Nat), ax_typ S R → (S u0 = some (.inl 5)) → (∃ n, S w2 = some (.inr (0, n))) → R = R0 → d_M_turn_245 S rec51 I R u0 x1 x2 x3 x4 x5 x8 y0 y1 w2 = some out → ax_W X 9 245 [some (.ref u0), some (.int (x1)), some (.int (x2)), some (.int (x3)), some (.int (x4)), some (.int (x5)), none, none, some (.int (x8))] [.int (y0), .int (y1), .ref w2] S I R L 0 0 := by
  rintro I R u0 x1 x2 x3 x4 x5 x8 y0 y1 w2 hty hs0_ ⟨nw2_, hw2_⟩ hR0 h
  subst hR0
  unfold d_M_turn_245 at h
  obtain ⟨j110, hj111, h⟩ := ax_bd h
  have hj111 := ax_ix_s hty hw2_ hj111
  obtain ⟨I112, e113, h⟩ := ax_bs h
  refine ax_iast (q := 246) hX j110 dc_M_turn_245 rfl hw2_ hj111.1 hj111.2.1 hj111.2.2 e113 ?_
  refine ax_aload_n (q := 247) hX dc_M_turn_246 rfl rfl rfl ?_
  obtain ⟨u114, hu115, h⟩ := ax_bd h
  obtain ⟨n117, hs116⟩ : ∃ n, S u114 = some (.inr (0, n)) := hty.1 _ _ _ _ hs0_ hu115
  refine ax_getR (q := 250) hX dc_M_turn_247 rfl fl_M_31 rfl hs0_ hu115 ?_
  refine ax_iload (q := 252) hX dc_M_turn_250 rfl rfl ?_
  refine ax_iload_n (q := 253) hX dc_M_turn_252 rfl rfl rfl ?_
  obtain ⟨r120, hr118, h⟩ := ax_bd h
  refine ax_kS (vs := [.int (x1)]) (rest := [.int (x5), .ref u114]) (q := 256) hX dc_M_turn_253 rfl mt_M_isTurned wl_M_123 wt_M_isTurned (c_M_isTurned l hty  hr118) rfl (by decide) rfl (Nat.le_of_ble_eq_true rfl) rfl rfl (by decide) (by decide) rfl ?_
  refine ax_if_eq (tgt := 264) (q := 259) hX dc_M_turn_256 rfl (by decide) (fun z121 => ?_) (fun z121 => ?_)
  · rw [if_pos z121] at h
    refine ax_aload_n (q := 265) hX dc_M_turn_264 rfl rfl rfl ?_
    obtain ⟨u122, hu123, h⟩ := ax_bd h
    obtain ⟨n125, hs124⟩ : ∃ n, S u122 = some (.inr (0, n)) := hty.1 _ _ _ _ hs0_ hu123
    refine ax_getR (q := 268) hX dc_M_turn_265 rfl fl_M_31 rfl hs0_ hu123 ?_
    refine ax_iload (q := 270) hX dc_M_turn_268 rfl rfl ?_
    obtain ⟨j126, hj127, h⟩ := ax_bd h
    have hj127 := ax_ix_s hty hs124 hj127
    refine ax_iald (q := 271) hX j126 dc_M_turn_270 rfl hs124 hj127.1 hj127.2.1 hj127.2.2 ?_
    exact ax_weak (ls' := [some (.ref u0), some (.int (x1)), some (.int (x2)), some (.int (x3)), some (.int (x4)), some (.int (x5)), none, none, none]) (ax_fewP_s _ _ (by repeat (first | exact trivial | (refine And.intro rfl ?_)))) (e_M_turn_271 hX hF hS0 (rec51) (hrec51) I112 R u0 (x1) (x2) (x3) (x4) (x5) (I112 u122 j126) (x5) u114 hty hs0_ ⟨n117, hs116⟩ rfl h)
  · rw [if_neg z121] at h
    refine ax_iload (q := 261) hX dc_M_turn_259 rfl rfl ?_
    refine ax_goto (tgt := 271) hX dc_M_turn_261 (by decide) ?_
    exact ax_weak (ls' := [some (.ref u0), some (.int (x1)), some (.int (x2)), some (.int (x3)), some (.int (x4)), some (.int (x5)), none, none, none]) (ax_fewP_s _ _ (by repeat (first | exact trivial | (refine And.intro rfl ?_)))) (e_M_turn_271 hX hF hS0 (rec51) (hrec51) I112 R u0 (x1) (x2) (x3) (x4) (x5) (x8) (x5) u114 hty hs0_ ⟨n117, hs116⟩ rfl h)
def d_M_turn_210 (S : ax_S) (rec51 : ax_I → ax_R → Nat → Int32 → Int32 → Int32 → Int32 → Option (Int32 × ax_I)) (I : ax_I) (R : ax_R) (u0 : Nat) (x1 : Int32) (x2 : Int32) (x3 : Int32) (x4 : Int32) (x5 : Int32) (y0 : Int32) (y1 : Int32) (w2 : Nat) : Option (Int32 × ax_I) :=
  (ax_ix S w2 (y1)).bind fun j86 =>
  (some (ax_up I w2 j86 (y0))).bind fun I88 =>
  (R u0 10).bind fun u90 =>
  (ax_ix S u90 (x5)).bind fun j94 =>
  (R u0 10).bind fun u96 =>
  (d_M_isTurned S I88 R (x1)).bind fun r102 =>
  if (ax_b r102) = 0 then
    d_M_turn_245 S (rec51) I88 R u0 (x1) (x2) (x3) (x4) (x5) (I88 u90 j94) (I88 u90 j94) (x5) u96
  else
    (R u0 11).bind fun u104 =>
    (ax_ix S u104 (x5)).bind fun j108 =>
    d_M_turn_245 S (rec51) I88 R u0 (x1) (x2) (x3) (x4) (x5) (I88 u90 j94) (I88 u104 j108) (x5) u96
set_option maxHeartbeats 1000000 in
theorem e_M_turn_210 {l : Launch} {X : ax_X} {S : ax_S} {L : ax_L} {R0 : ax_R} {out : Int32 × ax_I} (hX : ax_ok X l "LossFreeToolsModel" b_M_turn 9 (ax_rm 3 0 0)) (hF : ax_fin X (some .int) 0 0 (ax_of (ax_eq (some (.int out.1)) S out.2 R0 L))) (hS0 : ax_S0 X = S) (rec51 : ax_I → ax_R → Nat → Int32 → Int32 → Int32 → Int32 → Option (Int32 × ax_I)) (hrec51 : ∀ (I : ax_I) (R : ax_R) (u0 : Nat) (x1 : Int32) (x2 : Int32) (x3 : Int32) (x4 : Int32), ax_typ S R → (S u0 = some (.inl 5)) → R = R0 → rec51 I R u0 x1 x2 x3 x4 = some out → ax_W X 9 51 [some (.ref u0), some (.int (x1)), some (.int (x2)), some (.int (x3)), some (.int (x4)), none, none, none, none] [] S I R L 0 0) : ∀ (I : ax_I) (R : ax_R) (u0 : Nat) (x1 : Int32) (x2 : Int32) (x3 : Int32) (x4 : Int32) (x5 : Int32) (y0 : Int32) (y1 : Int32) (w2 : Nat), ax_typ S R → (S u0 = some (.inl 5)) → (∃ n, S w2 = some (.inr (0, n))) → R = R0 → d_M_turn_210 S rec51 I R u0 x1 x2 x3 x4 x5 y0 y1 w2 = some out → ax_W X 9 210 [some (.ref u0), some (.int (x1)), some (.int (x2)), some (.int (x3)), some (.int (x4)), some (.int (x5)), none, none, none] [.int (y0), .int (y1), .ref w2] S I R L 0 0 := by
  rintro I R u0 x1 x2 x3 x4 x5 y0 y1 w2 hty hs0_ ⟨nw2_, hw2_⟩ hR0 h
  subst hR0
  unfold d_M_turn_210 at h
  obtain ⟨j86, hj87, h⟩ := ax_bd h
  have hj87 := ax_ix_s hty hw2_ hj87
  obtain ⟨I88, e89, h⟩ := ax_bs h
  refine ax_iast (q := 211) hX j86 dc_M_turn_210 rfl hw2_ hj87.1 hj87.2.1 hj87.2.2 e89 ?_
  refine ax_aload_n (q := 212) hX dc_M_turn_211 rfl rfl rfl ?_
  obtain ⟨u90, hu91, h⟩ := ax_bd h
  obtain ⟨n93, hs92⟩ : ∃ n, S u90 = some (.inr (0, n)) := hty.1 _ _ _ _ hs0_ hu91
  refine ax_getR (q := 215) hX dc_M_turn_212 rfl fl_M_28 rfl hs0_ hu91 ?_
  refine ax_iload (q := 217) hX dc_M_turn_215 rfl rfl ?_
  obtain ⟨j94, hj95, h⟩ := ax_bd h
  have hj95 := ax_ix_s hty hs92 hj95
  refine ax_iald (q := 218) hX j94 dc_M_turn_217 rfl hs92 hj95.1 hj95.2.1 hj95.2.2 ?_
  refine ax_istore (ls' := [some (.ref u0), some (.int (x1)), some (.int (x2)), some (.int (x3)), some (.int (x4)), some (.int (x5)), none, none, some (.int (I88 u90 j94))]) (q := 220) hX dc_M_turn_218 rfl (by decide) rfl ?_
  refine ax_aload_n (q := 221) hX dc_M_turn_220 rfl rfl rfl ?_
  obtain ⟨u96, hu97, h⟩ := ax_bd h
  obtain ⟨n99, hs98⟩ : ∃ n, S u96 = some (.inr (0, n)) := hty.1 _ _ _ _ hs0_ hu97
  refine ax_getR (q := 224) hX dc_M_turn_221 rfl fl_M_28 rfl hs0_ hu97 ?_
  refine ax_iload (q := 226) hX dc_M_turn_224 rfl rfl ?_
  refine ax_iload_n (q := 227) hX dc_M_turn_226 rfl rfl rfl ?_
  obtain ⟨r102, hr100, h⟩ := ax_bd h
  refine ax_kS (vs := [.int (x1)]) (rest := [.int (x5), .ref u96]) (q := 230) hX dc_M_turn_227 rfl mt_M_isTurned wl_M_123 wt_M_isTurned (c_M_isTurned l hty  hr100) rfl (by decide) rfl (Nat.le_of_ble_eq_true rfl) rfl rfl (by decide) (by decide) rfl ?_
  refine ax_if_eq (tgt := 243) (q := 233) hX dc_M_turn_230 rfl (by decide) (fun z103 => ?_) (fun z103 => ?_)
  · rw [if_pos z103] at h
    refine ax_iload (q := 245) hX dc_M_turn_243 rfl rfl ?_
    exact (e_M_turn_245 hX hF hS0 (rec51) (hrec51) I88 R u0 (x1) (x2) (x3) (x4) (x5) (I88 u90 j94) (I88 u90 j94) (x5) u96 hty hs0_ ⟨n99, hs98⟩ rfl h)
  · rw [if_neg z103] at h
    refine ax_aload_n (q := 234) hX dc_M_turn_233 rfl rfl rfl ?_
    obtain ⟨u104, hu105, h⟩ := ax_bd h
    obtain ⟨n107, hs106⟩ : ∃ n, S u104 = some (.inr (0, n)) := hty.1 _ _ _ _ hs0_ hu105
    refine ax_getR (q := 237) hX dc_M_turn_234 rfl fl_M_31 rfl hs0_ hu105 ?_
    refine ax_iload (q := 239) hX dc_M_turn_237 rfl rfl ?_
    obtain ⟨j108, hj109, h⟩ := ax_bd h
    have hj109 := ax_ix_s hty hs106 hj109
    refine ax_iald (q := 240) hX j108 dc_M_turn_239 rfl hs106 hj109.1 hj109.2.1 hj109.2.2 ?_
    refine ax_goto (tgt := 245) hX dc_M_turn_240 (by decide) ?_
    exact (e_M_turn_245 hX hF hS0 (rec51) (hrec51) I88 R u0 (x1) (x2) (x3) (x4) (x5) (I88 u90 j94) (I88 u104 j108) (x5) u96 hty hs0_ ⟨n99, hs98⟩ rfl h)
def d_M_turn_173 (S : ax_S) (rec51 : ax_I → ax_R → Nat → Int32 → Int32 → Int32 → Int32 → Option (Int32 × ax_I)) (I : ax_I) (R : ax_R) (u0 : Nat) (x1 : Int32) (x2 : Int32) (x3 : Int32) (x4 : Int32) (x5 : Int32) (x6 : Int32) (x7 : Int32) (y0 : Int32) (y1 : Int32) (w2 : Nat) : Option (Int32 × ax_I) :=
  (ax_ix S w2 (y1)).bind fun j77 =>
  (some (ax_up I w2 j77 (y0))).bind fun I79 =>
  (R u0 9).bind fun u81 =>
  if (x7 / 1000) ≤ (x6 / 1000) then
    d_M_turn_210 S (rec51) I79 R u0 (x1) (x2) (x3) (x4) (x5) (x7 / 1000) (x5) u81
  else
    d_M_turn_210 S (rec51) I79 R u0 (x1) (x2) (x3) (x4) (x5) (x6 / 1000) (x5) u81
set_option maxHeartbeats 1000000 in
theorem e_M_turn_173 {l : Launch} {X : ax_X} {S : ax_S} {L : ax_L} {R0 : ax_R} {out : Int32 × ax_I} (hX : ax_ok X l "LossFreeToolsModel" b_M_turn 9 (ax_rm 3 0 0)) (hF : ax_fin X (some .int) 0 0 (ax_of (ax_eq (some (.int out.1)) S out.2 R0 L))) (hS0 : ax_S0 X = S) (rec51 : ax_I → ax_R → Nat → Int32 → Int32 → Int32 → Int32 → Option (Int32 × ax_I)) (hrec51 : ∀ (I : ax_I) (R : ax_R) (u0 : Nat) (x1 : Int32) (x2 : Int32) (x3 : Int32) (x4 : Int32), ax_typ S R → (S u0 = some (.inl 5)) → R = R0 → rec51 I R u0 x1 x2 x3 x4 = some out → ax_W X 9 51 [some (.ref u0), some (.int (x1)), some (.int (x2)), some (.int (x3)), some (.int (x4)), none, none, none, none] [] S I R L 0 0) : ∀ (I : ax_I) (R : ax_R) (u0 : Nat) (x1 : Int32) (x2 : Int32) (x3 : Int32) (x4 : Int32) (x5 : Int32) (x6 : Int32) (x7 : Int32) (y0 : Int32) (y1 : Int32) (w2 : Nat), ax_typ S R → (S u0 = some (.inl 5)) → (∃ n, S w2 = some (.inr (0, n))) → R = R0 → d_M_turn_173 S rec51 I R u0 x1 x2 x3 x4 x5 x6 x7 y0 y1 w2 = some out → ax_W X 9 173 [some (.ref u0), some (.int (x1)), some (.int (x2)), some (.int (x3)), some (.int (x4)), some (.int (x5)), some (.int (x6)), some (.int (x7)), none] [.int (y0), .int (y1), .ref w2] S I R L 0 0 := by
  rintro I R u0 x1 x2 x3 x4 x5 x6 x7 y0 y1 w2 hty hs0_ ⟨nw2_, hw2_⟩ hR0 h
  subst hR0
  unfold d_M_turn_173 at h
  obtain ⟨j77, hj78, h⟩ := ax_bd h
  have hj78 := ax_ix_s hty hw2_ hj78
  obtain ⟨I79, e80, h⟩ := ax_bs h
  refine ax_iast (q := 174) hX j77 dc_M_turn_173 rfl hw2_ hj78.1 hj78.2.1 hj78.2.2 e80 ?_
  refine ax_aload_n (q := 175) hX dc_M_turn_174 rfl rfl rfl ?_
  obtain ⟨u81, hu82, h⟩ := ax_bd h
  obtain ⟨n84, hs83⟩ : ∃ n, S u81 = some (.inr (0, n)) := hty.1 _ _ _ _ hs0_ hu82
  refine ax_getR (q := 178) hX dc_M_turn_175 rfl fl_M_25 rfl hs0_ hu82 ?_
  refine ax_iload (q := 180) hX dc_M_turn_178 rfl rfl ?_
  refine ax_iload (q := 182) hX dc_M_turn_180 rfl rfl ?_
  refine ax_sipush (v := 1000) (q := 185) hX dc_M_turn_182 rfl (by decide) ?_
  refine ax_idiv (q := 186) hX dc_M_turn_185 rfl (by decide) ?_
  refine ax_iload (q := 188) hX dc_M_turn_186 rfl rfl ?_
  refine ax_sipush (v := 1000) (q := 191) hX dc_M_turn_188 rfl (by decide) ?_
  refine ax_idiv (q := 192) hX dc_M_turn_191 rfl (by decide) ?_
  refine ax_icmp_ge (tgt := 204) (q := 195) hX dc_M_turn_192 rfl (by decide) (fun z85 => ?_) (fun z85 => ?_)
  · rw [if_pos z85] at h
    refine ax_iload (q := 206) hX dc_M_turn_204 rfl rfl ?_
    refine ax_sipush (v := 1000) (q := 209) hX dc_M_turn_206 rfl (by decide) ?_
    refine ax_idiv (q := 210) hX dc_M_turn_209 rfl (by decide) ?_
    exact ax_weak (ls' := [some (.ref u0), some (.int (x1)), some (.int (x2)), some (.int (x3)), some (.int (x4)), some (.int (x5)), none, none, none]) (ax_fewP_s _ _ (by repeat (first | exact trivial | (refine And.intro rfl ?_)))) (e_M_turn_210 hX hF hS0 (rec51) (hrec51) I79 R u0 (x1) (x2) (x3) (x4) (x5) (x7 / 1000) (x5) u81 hty hs0_ ⟨n84, hs83⟩ rfl h)
  · rw [if_neg z85] at h
    refine ax_iload (q := 197) hX dc_M_turn_195 rfl rfl ?_
    refine ax_sipush (v := 1000) (q := 200) hX dc_M_turn_197 rfl (by decide) ?_
    refine ax_idiv (q := 201) hX dc_M_turn_200 rfl (by decide) ?_
    refine ax_goto (tgt := 210) hX dc_M_turn_201 (by decide) ?_
    exact ax_weak (ls' := [some (.ref u0), some (.int (x1)), some (.int (x2)), some (.int (x3)), some (.int (x4)), some (.int (x5)), none, none, none]) (ax_fewP_s _ _ (by repeat (first | exact trivial | (refine And.intro rfl ?_)))) (e_M_turn_210 hX hF hS0 (rec51) (hrec51) I79 R u0 (x1) (x2) (x3) (x4) (x5) (x6 / 1000) (x5) u81 hty hs0_ ⟨n84, hs83⟩ rfl h)
def d_M_turn_51 (S : ax_S) : Nat → ax_I → ax_R → Nat → Int32 → Int32 → Int32 → Int32 → Option (Int32 × ax_I)
  | 0, _, _, _, _, _, _, _ => none
  | n + 1, I, R, u0, x1, x2, x3, x4 =>
    (R u0 6).bind fun u20 =>
    (ax_ix S u20 (I u0 3)).bind fun j24 =>
    if (I u20 j24) ≤ x4 then
      d_M_turn_305 S  5000 I R u0 (x1) (x2) (x3) (20 * (I u0 3))
    else
      (d_M_tileAt S I R u0 (x4)).bind fun r29 =>
      (R u0 8).bind fun u30 =>
      (ax_ix S u30 (r29)).bind fun j34 =>
      (R u0 9).bind fun u36 =>
      (ax_ix S u36 (r29)).bind fun j40 =>
      (d_M_comes S I R (x1) (I u30 j34) (I u36 j40) (x2) (x3)).bind fun r44 =>
      (R u0 8).bind fun u45 =>
      (ax_ix S u45 (r29)).bind fun j49 =>
      (R u0 10).bind fun u51 =>
      (ax_ix S u51 (r29)).bind fun j55 =>
      (R u0 9).bind fun u57 =>
      (ax_ix S u57 (r29)).bind fun j61 =>
      (R u0 11).bind fun u63 =>
      (ax_ix S u63 (r29)).bind fun j67 =>
      (d_M_comes S I R (x1) (((I u45 j49) + (I u51 j55)) - 1) (((I u57 j61) + (I u63 j67)) - 1) (x2) (x3)).bind fun r71 =>
      (R u0 8).bind fun u72 =>
      if (r71 - r71 / 1000 * 1000) ≤ (r44 - r44 / 1000 * 1000) then
        d_M_turn_173 S (d_M_turn_51 S  n) I R u0 (x1) (x2) (x3) (x4) (r29) (r44) (r71) (r71 - r71 / 1000 * 1000) (r29) u72
      else
        d_M_turn_173 S (d_M_turn_51 S  n) I R u0 (x1) (x2) (x3) (x4) (r29) (r44) (r71) (r44 - r44 / 1000 * 1000) (r29) u72
set_option maxHeartbeats 1000000 in
theorem e_M_turn_51 {l : Launch} {X : ax_X} {S : ax_S} {L : ax_L} {R0 : ax_R} {out : Int32 × ax_I} (hX : ax_ok X l "LossFreeToolsModel" b_M_turn 9 (ax_rm 3 0 0)) (hF : ax_fin X (some .int) 0 0 (ax_of (ax_eq (some (.int out.1)) S out.2 R0 L))) (hS0 : ax_S0 X = S) : ∀ (n : Nat), ∀ (I : ax_I) (R : ax_R) (u0 : Nat) (x1 : Int32) (x2 : Int32) (x3 : Int32) (x4 : Int32), ax_typ S R → (S u0 = some (.inl 5)) → R = R0 → d_M_turn_51 S  n I R u0 x1 x2 x3 x4 = some out → ax_W X 9 51 [some (.ref u0), some (.int (x1)), some (.int (x2)), some (.int (x3)), some (.int (x4)), none, none, none, none] [] S I R L 0 0 := by
  intro n
  induction n with
  | zero =>
    rintro I R u0 x1 x2 x3 x4 hty hs0_ hR0 h
    cases h
  | succ n ih =>
    rintro I R u0 x1 x2 x3 x4 hty hs0_ hR0 h
    subst hR0
    unfold d_M_turn_51 at h
    refine ax_iload (q := 53) hX dc_M_turn_51 rfl rfl ?_
    refine ax_aload_n (q := 54) hX dc_M_turn_53 rfl rfl rfl ?_
    obtain ⟨u20, hu21, h⟩ := ax_bd h
    obtain ⟨n23, hs22⟩ : ∃ n, S u20 = some (.inr (0, n)) := hty.1 _ _ _ _ hs0_ hu21
    refine ax_getR (q := 57) hX dc_M_turn_54 rfl fl_M_16 rfl hs0_ hu21 ?_
    refine ax_aload_n (q := 58) hX dc_M_turn_57 rfl rfl rfl ?_
    refine ax_getI (q := 61) hX dc_M_turn_58 rfl fl_M_71 rfl hs0_ ?_
    obtain ⟨j24, hj25, h⟩ := ax_bd h
    have hj25 := ax_ix_s hty hs22 hj25
    refine ax_iald (q := 62) hX j24 dc_M_turn_61 rfl hs22 hj25.1 hj25.2.1 hj25.2.2 ?_
    refine ax_icmp_ge (tgt := 296) (q := 65) hX dc_M_turn_62 rfl (by decide) (fun z26 => ?_) (fun z26 => ?_)
    · rw [if_pos z26] at h
      refine ax_bipush (v := 20) (q := 298) hX dc_M_turn_296 rfl (by decide) ?_
      refine ax_aload_n (q := 299) hX dc_M_turn_298 rfl rfl rfl ?_
      refine ax_getI (q := 302) hX dc_M_turn_299 rfl fl_M_71 rfl hs0_ ?_
      refine ax_imul (q := 303) hX dc_M_turn_302 rfl ?_
      refine ax_istore (ls' := [some (.ref u0), some (.int (x1)), some (.int (x2)), some (.int (x3)), some (.int (20 * (I u0 3))), none, none, none, none]) (q := 305) hX dc_M_turn_303 rfl (by decide) rfl ?_
      exact (e_M_turn_305 hX hF hS0  5000 I R u0 (x1) (x2) (x3) (20 * (I u0 3)) hty hs0_ rfl h)
    · rw [if_neg z26] at h
      refine ax_aload_n (q := 66) hX dc_M_turn_65 rfl rfl rfl ?_
      refine ax_iload (q := 68) hX dc_M_turn_66 rfl rfl ?_
      obtain ⟨r29, hr27, h⟩ := ax_bd h
      refine ax_kV (vs := [.int (x4)]) (rest := []) (q := 71) hX dc_M_turn_68 rfl mt_M_tileAt wl_M_92 wi_M_tileAt ws_M_tileAt hs0_ rfl (c_M_tileAt l hty hs0_ hr27) rfl (by decide) rfl (Nat.le_of_ble_eq_true rfl) rfl rfl (by decide) (by decide) rfl ?_
      refine ax_istore (ls' := [some (.ref u0), some (.int (x1)), some (.int (x2)), some (.int (x3)), some (.int (x4)), some (.int (r29)), none, none, none]) (q := 73) hX dc_M_turn_71 rfl (by decide) rfl ?_
      refine ax_iload_n (q := 74) hX dc_M_turn_73 rfl rfl rfl ?_
      refine ax_aload_n (q := 75) hX dc_M_turn_74 rfl rfl rfl ?_
      obtain ⟨u30, hu31, h⟩ := ax_bd h
      obtain ⟨n33, hs32⟩ : ∃ n, S u30 = some (.inr (0, n)) := hty.1 _ _ _ _ hs0_ hu31
      refine ax_getR (q := 78) hX dc_M_turn_75 rfl fl_M_22 rfl hs0_ hu31 ?_
      refine ax_iload (q := 80) hX dc_M_turn_78 rfl rfl ?_
      obtain ⟨j34, hj35, h⟩ := ax_bd h
      have hj35 := ax_ix_s hty hs32 hj35
      refine ax_iald (q := 81) hX j34 dc_M_turn_80 rfl hs32 hj35.1 hj35.2.1 hj35.2.2 ?_
      refine ax_aload_n (q := 82) hX dc_M_turn_81 rfl rfl rfl ?_
      obtain ⟨u36, hu37, h⟩ := ax_bd h
      obtain ⟨n39, hs38⟩ : ∃ n, S u36 = some (.inr (0, n)) := hty.1 _ _ _ _ hs0_ hu37
      refine ax_getR (q := 85) hX dc_M_turn_82 rfl fl_M_25 rfl hs0_ hu37 ?_
      refine ax_iload (q := 87) hX dc_M_turn_85 rfl rfl ?_
      obtain ⟨j40, hj41, h⟩ := ax_bd h
      have hj41 := ax_ix_s hty hs38 hj41
      refine ax_iald (q := 88) hX j40 dc_M_turn_87 rfl hs38 hj41.1 hj41.2.1 hj41.2.2 ?_
      refine ax_iload_n (q := 89) hX dc_M_turn_88 rfl rfl rfl ?_
      refine ax_iload_n (q := 90) hX dc_M_turn_89 rfl rfl rfl ?_
      obtain ⟨r44, hr42, h⟩ := ax_bd h
      refine ax_kS (vs := [.int (x1), .int (I u30 j34), .int (I u36 j40), .int (x2), .int (x3)]) (rest := []) (q := 93) hX dc_M_turn_90 rfl mt_M_comes wl_M_119 wt_M_comes (c_M_comes l hty  hr42) rfl (by decide) rfl (Nat.le_of_ble_eq_true rfl) rfl rfl (by decide) (by decide) rfl ?_
      refine ax_istore (ls' := [some (.ref u0), some (.int (x1)), some (.int (x2)), some (.int (x3)), some (.int (x4)), some (.int (r29)), some (.int (r44)), none, none]) (q := 95) hX dc_M_turn_93 rfl (by decide) rfl ?_
      refine ax_iload_n (q := 96) hX dc_M_turn_95 rfl rfl rfl ?_
      refine ax_aload_n (q := 97) hX dc_M_turn_96 rfl rfl rfl ?_
      obtain ⟨u45, hu46, h⟩ := ax_bd h
      obtain ⟨n48, hs47⟩ : ∃ n, S u45 = some (.inr (0, n)) := hty.1 _ _ _ _ hs0_ hu46
      refine ax_getR (q := 100) hX dc_M_turn_97 rfl fl_M_22 rfl hs0_ hu46 ?_
      refine ax_iload (q := 102) hX dc_M_turn_100 rfl rfl ?_
      obtain ⟨j49, hj50, h⟩ := ax_bd h
      have hj50 := ax_ix_s hty hs47 hj50
      refine ax_iald (q := 103) hX j49 dc_M_turn_102 rfl hs47 hj50.1 hj50.2.1 hj50.2.2 ?_
      refine ax_aload_n (q := 104) hX dc_M_turn_103 rfl rfl rfl ?_
      obtain ⟨u51, hu52, h⟩ := ax_bd h
      obtain ⟨n54, hs53⟩ : ∃ n, S u51 = some (.inr (0, n)) := hty.1 _ _ _ _ hs0_ hu52
      refine ax_getR (q := 107) hX dc_M_turn_104 rfl fl_M_28 rfl hs0_ hu52 ?_
      refine ax_iload (q := 109) hX dc_M_turn_107 rfl rfl ?_
      obtain ⟨j55, hj56, h⟩ := ax_bd h
      have hj56 := ax_ix_s hty hs53 hj56
      refine ax_iald (q := 110) hX j55 dc_M_turn_109 rfl hs53 hj56.1 hj56.2.1 hj56.2.2 ?_
      refine ax_iadd (q := 111) hX dc_M_turn_110 rfl ?_
      refine ax_iconst (v := 1) (q := 112) hX dc_M_turn_111 rfl (by decide) ?_
      refine ax_isub (q := 113) hX dc_M_turn_112 rfl ?_
      refine ax_aload_n (q := 114) hX dc_M_turn_113 rfl rfl rfl ?_
      obtain ⟨u57, hu58, h⟩ := ax_bd h
      obtain ⟨n60, hs59⟩ : ∃ n, S u57 = some (.inr (0, n)) := hty.1 _ _ _ _ hs0_ hu58
      refine ax_getR (q := 117) hX dc_M_turn_114 rfl fl_M_25 rfl hs0_ hu58 ?_
      refine ax_iload (q := 119) hX dc_M_turn_117 rfl rfl ?_
      obtain ⟨j61, hj62, h⟩ := ax_bd h
      have hj62 := ax_ix_s hty hs59 hj62
      refine ax_iald (q := 120) hX j61 dc_M_turn_119 rfl hs59 hj62.1 hj62.2.1 hj62.2.2 ?_
      refine ax_aload_n (q := 121) hX dc_M_turn_120 rfl rfl rfl ?_
      obtain ⟨u63, hu64, h⟩ := ax_bd h
      obtain ⟨n66, hs65⟩ : ∃ n, S u63 = some (.inr (0, n)) := hty.1 _ _ _ _ hs0_ hu64
      refine ax_getR (q := 124) hX dc_M_turn_121 rfl fl_M_31 rfl hs0_ hu64 ?_
      refine ax_iload (q := 126) hX dc_M_turn_124 rfl rfl ?_
      obtain ⟨j67, hj68, h⟩ := ax_bd h
      have hj68 := ax_ix_s hty hs65 hj68
      refine ax_iald (q := 127) hX j67 dc_M_turn_126 rfl hs65 hj68.1 hj68.2.1 hj68.2.2 ?_
      refine ax_iadd (q := 128) hX dc_M_turn_127 rfl ?_
      refine ax_iconst (v := 1) (q := 129) hX dc_M_turn_128 rfl (by decide) ?_
      refine ax_isub (q := 130) hX dc_M_turn_129 rfl ?_
      refine ax_iload_n (q := 131) hX dc_M_turn_130 rfl rfl rfl ?_
      refine ax_iload_n (q := 132) hX dc_M_turn_131 rfl rfl rfl ?_
      obtain ⟨r71, hr69, h⟩ := ax_bd h
      refine ax_kS (vs := [.int (x1), .int (((I u45 j49) + (I u51 j55)) - 1), .int (((I u57 j61) + (I u63 j67)) - 1), .int (x2), .int (x3)]) (rest := []) (q := 135) hX dc_M_turn_132 rfl mt_M_comes wl_M_119 wt_M_comes (c_M_comes l hty  hr69) rfl (by decide) rfl (Nat.le_of_ble_eq_true rfl) rfl rfl (by decide) (by decide) rfl ?_
      refine ax_istore (ls' := [some (.ref u0), some (.int (x1)), some (.int (x2)), some (.int (x3)), some (.int (x4)), some (.int (r29)), some (.int (r44)), some (.int (r71)), none]) (q := 137) hX dc_M_turn_135 rfl (by decide) rfl ?_
      refine ax_aload_n (q := 138) hX dc_M_turn_137 rfl rfl rfl ?_
      obtain ⟨u72, hu73, h⟩ := ax_bd h
      obtain ⟨n75, hs74⟩ : ∃ n, S u72 = some (.inr (0, n)) := hty.1 _ _ _ _ hs0_ hu73
      refine ax_getR (q := 141) hX dc_M_turn_138 rfl fl_M_22 rfl hs0_ hu73 ?_
      refine ax_iload (q := 143) hX dc_M_turn_141 rfl rfl ?_
      refine ax_iload (q := 145) hX dc_M_turn_143 rfl rfl ?_
      refine ax_sipush (v := 1000) (q := 148) hX dc_M_turn_145 rfl (by decide) ?_
      refine ax_irem (q := 149) hX dc_M_turn_148 rfl (by decide) ?_
      refine ax_iload (q := 151) hX dc_M_turn_149 rfl rfl ?_
      refine ax_sipush (v := 1000) (q := 154) hX dc_M_turn_151 rfl (by decide) ?_
      refine ax_irem (q := 155) hX dc_M_turn_154 rfl (by decide) ?_
      refine ax_icmp_ge (tgt := 167) (q := 158) hX dc_M_turn_155 rfl (by decide) (fun z76 => ?_) (fun z76 => ?_)
      · rw [if_pos z76] at h
        refine ax_iload (q := 169) hX dc_M_turn_167 rfl rfl ?_
        refine ax_sipush (v := 1000) (q := 172) hX dc_M_turn_169 rfl (by decide) ?_
        refine ax_irem (q := 173) hX dc_M_turn_172 rfl (by decide) ?_
        exact (e_M_turn_173 hX hF hS0 (d_M_turn_51 S  n) (ih) I R u0 (x1) (x2) (x3) (x4) (r29) (r44) (r71) (r71 - r71 / 1000 * 1000) (r29) u72 hty hs0_ ⟨n75, hs74⟩ rfl h)
      · rw [if_neg z76] at h
        refine ax_iload (q := 160) hX dc_M_turn_158 rfl rfl ?_
        refine ax_sipush (v := 1000) (q := 163) hX dc_M_turn_160 rfl (by decide) ?_
        refine ax_irem (q := 164) hX dc_M_turn_163 rfl (by decide) ?_
        refine ax_goto (tgt := 173) hX dc_M_turn_164 (by decide) ?_
        exact (e_M_turn_173 hX hF hS0 (d_M_turn_51 S  n) (ih) I R u0 (x1) (x2) (x3) (x4) (r29) (r44) (r71) (r44 - r44 / 1000 * 1000) (r29) u72 hty hs0_ ⟨n75, hs74⟩ rfl h)
def d_M_turn_16 (S : ax_S) (I : ax_I) (R : ax_R) (u0 : Nat) (x1 : Int32) (y0 : Int32) (w1 : Nat) : Option (Int32 × ax_I) :=
  (some (ax_up I w1 0 (y0))).bind fun I5 =>
  if (I5 u0 0) ≤ 0 then
    (R u0 4).bind fun u8 =>
    (ax_ix S u8 (I5 u0 3)).bind fun j12 =>
    (R u0 5).bind fun u14 =>
    (ax_ix S u14 (I5 u0 3)).bind fun j18 =>
    d_M_turn_51 S  5000 I5 R u0 (x1) (I5 u8 j12) (I5 u14 j18) (0)
  else
    some (0, I5)
set_option maxHeartbeats 1000000 in
theorem e_M_turn_16 {l : Launch} {X : ax_X} {S : ax_S} {L : ax_L} {R0 : ax_R} {out : Int32 × ax_I} (hX : ax_ok X l "LossFreeToolsModel" b_M_turn 9 (ax_rm 3 0 0)) (hF : ax_fin X (some .int) 0 0 (ax_of (ax_eq (some (.int out.1)) S out.2 R0 L))) (hS0 : ax_S0 X = S) : ∀ (I : ax_I) (R : ax_R) (u0 : Nat) (x1 : Int32) (y0 : Int32) (w1 : Nat), ax_typ S R → (S u0 = some (.inl 5)) → (S w1 = some (.inl 5)) → R = R0 → d_M_turn_16 S  I R u0 x1 y0 w1 = some out → ax_W X 9 16 [some (.ref u0), some (.int (x1)), none, none, none, none, none, none, none] [.int (y0), .ref w1] S I R L 0 0 := by
  rintro I R u0 x1 y0 w1 hty hs0_ hw1_ hR0 h
  subst hR0
  unfold d_M_turn_16 at h
  obtain ⟨I5, e6, h⟩ := ax_bs h
  refine ax_putI (q := 19) hX dc_M_turn_16 rfl fl_M_68 rfl hw1_ (fun z => by cases z) rfl rfl e6 ?_
  refine ax_aload_n (q := 20) hX dc_M_turn_19 rfl rfl rfl ?_
  refine ax_getI (q := 23) hX dc_M_turn_20 rfl fl_M_68 rfl hs0_ ?_
  refine ax_if_le (tgt := 28) (q := 26) hX dc_M_turn_23 rfl (by decide) (fun z7 => ?_) (fun z7 => ?_)
  · rw [if_pos z7] at h
    refine ax_aload_n (q := 29) hX dc_M_turn_28 rfl rfl rfl ?_
    obtain ⟨u8, hu9, h⟩ := ax_bd h
    obtain ⟨n11, hs10⟩ : ∃ n, S u8 = some (.inr (0, n)) := hty.1 _ _ _ _ hs0_ hu9
    refine ax_getR (q := 32) hX dc_M_turn_29 rfl fl_M_7 rfl hs0_ hu9 ?_
    refine ax_aload_n (q := 33) hX dc_M_turn_32 rfl rfl rfl ?_
    refine ax_getI (q := 36) hX dc_M_turn_33 rfl fl_M_71 rfl hs0_ ?_
    obtain ⟨j12, hj13, h⟩ := ax_bd h
    have hj13 := ax_ix_s hty hs10 hj13
    refine ax_iald (q := 37) hX j12 dc_M_turn_36 rfl hs10 hj13.1 hj13.2.1 hj13.2.2 ?_
    refine ax_istore_n (ls' := [some (.ref u0), some (.int (x1)), some (.int (I5 u8 j12)), none, none, none, none, none, none]) (q := 38) hX dc_M_turn_37 rfl rfl (by decide) rfl ?_
    refine ax_aload_n (q := 39) hX dc_M_turn_38 rfl rfl rfl ?_
    obtain ⟨u14, hu15, h⟩ := ax_bd h
    obtain ⟨n17, hs16⟩ : ∃ n, S u14 = some (.inr (0, n)) := hty.1 _ _ _ _ hs0_ hu15
    refine ax_getR (q := 42) hX dc_M_turn_39 rfl fl_M_13 rfl hs0_ hu15 ?_
    refine ax_aload_n (q := 43) hX dc_M_turn_42 rfl rfl rfl ?_
    refine ax_getI (q := 46) hX dc_M_turn_43 rfl fl_M_71 rfl hs0_ ?_
    obtain ⟨j18, hj19, h⟩ := ax_bd h
    have hj19 := ax_ix_s hty hs16 hj19
    refine ax_iald (q := 47) hX j18 dc_M_turn_46 rfl hs16 hj19.1 hj19.2.1 hj19.2.2 ?_
    refine ax_istore_n (ls' := [some (.ref u0), some (.int (x1)), some (.int (I5 u8 j12)), some (.int (I5 u14 j18)), none, none, none, none, none]) (q := 48) hX dc_M_turn_47 rfl rfl (by decide) rfl ?_
    refine ax_iconst (v := 0) (q := 49) hX dc_M_turn_48 rfl (by decide) ?_
    refine ax_istore (ls' := [some (.ref u0), some (.int (x1)), some (.int (I5 u8 j12)), some (.int (I5 u14 j18)), some (.int (0)), none, none, none, none]) (q := 51) hX dc_M_turn_49 rfl (by decide) rfl ?_
    exact (e_M_turn_51 hX hF hS0  5000 I5 R u0 (x1) (I5 u8 j12) (I5 u14 j18) (0) hty hs0_ rfl h)
  · rw [if_neg z7] at h
    refine ax_iconst (v := 0) (q := 27) hX dc_M_turn_26 rfl (by decide) ?_
    cases h
    exact ax_iret hX hF dc_M_turn_27 rfl rfl (by decide) (by decide) ax_eq.mk (by rw [hS0]; exact fun _ _ z => z)
def d_M_turn (S : ax_S) (I : ax_I) (R : ax_R) (u0 : Nat) (x1 : Int32) : Option (Int32 × ax_I) :=
  (d_M_in S I R (x1) (0) (7)).bind fun r3 =>
  if (ax_b r3) = 0 then
    d_M_turn_16 S  I R u0 (x1) (1) u0
  else
    d_M_turn_16 S  I R u0 (x1) (0) u0
set_option maxHeartbeats 1000000 in
theorem c_M_turn (l : Launch) {S : ax_S} {I : ax_I} {R : ax_R} {L : ax_L} {u0 : Nat} {x1 : Int32} {out : Int32 × ax_I} (hty : ax_typ S R) (hs0 : S u0 = some (.inl 5)) (h : d_M_turn S I R u0 x1 = some out) : ax_Met l y_M_turn b_M_turn 9 (some .int) (ax_rm 3 0 0) [.ref u0, .int x1] S I R L (ax_eq (some (.int out.1)) S out.2 R L) := by
  refine ax_enter (own := "LossFreeToolsModel") (by decide +kernel) rfl (ax_cats rfl) (Nat.le_of_ble_eq_true rfl) (fun X hX hF _ hS0 => ?_)
  show ax_W X 9 0 [some (.ref u0), some (.int (x1)), none, none, none, none, none, none, none] [] S I R L 0 0
  unfold d_M_turn at h
  refine ax_aload_n (q := 1) hX dc_M_turn_0 rfl rfl rfl ?_
  refine ax_iload_n (q := 2) hX dc_M_turn_1 rfl rfl rfl ?_
  refine ax_iconst (v := 0) (q := 3) hX dc_M_turn_2 rfl (by decide) ?_
  refine ax_bipush (v := 7) (q := 5) hX dc_M_turn_3 rfl (by decide) ?_
  obtain ⟨r3, hr1, h⟩ := ax_bd h
  refine ax_kS (vs := [.int (x1), .int (0), .int (7)]) (rest := [.ref u0]) (q := 8) hX dc_M_turn_5 rfl mt_M_in wl_M_84 wt_M_in (c_M_in l hty  hr1) rfl (by decide) rfl (Nat.le_of_ble_eq_true rfl) rfl rfl (by decide) (by decide) rfl ?_
  refine ax_if_eq (tgt := 15) (q := 11) hX dc_M_turn_8 rfl (by decide) (fun z4 => ?_) (fun z4 => ?_)
  · rw [if_pos z4] at h
    refine ax_iconst (v := 1) (q := 16) hX dc_M_turn_15 rfl (by decide) ?_
    exact (e_M_turn_16 hX hF hS0  I R u0 (x1) (1) u0 hty hs0 hs0 rfl h)
  · rw [if_neg z4] at h
    refine ax_iconst (v := 0) (q := 12) hX dc_M_turn_11 rfl (by decide) ?_
    refine ax_goto (tgt := 16) hX dc_M_turn_12 (by decide) ?_
    exact (e_M_turn_16 hX hF hS0  I R u0 (x1) (0) u0 hty hs0 hs0 rfl h)
def d_M_at_14 (S : ax_S) (I : ax_I) (R : ax_R) (u0 : Nat) (x1 : Int32) (x2 : Int32) (y0 : Int32) (w1 : Nat) : Option (Int32 × ax_I) :=
  (some (ax_up I w1 0 (y0))).bind fun I5 =>
  if (I5 u0 0) ≤ 0 then
    (d_M_tileAt S I5 R u0 (x1)).bind fun r10 =>
    (R u0 12).bind fun u11 =>
    (ax_ix S u11 (r10)).bind fun j15 =>
    (d_M_isTurned S I5 R (I5 u11 j15)).bind fun r19 =>
    if x2 = 0 then
      (R u0 8).bind fun u21 =>
      (ax_ix S u21 (r10)).bind fun j25 =>
      some (I5 u21 j25, I5)
    else
    if x2 = 1 then
      (R u0 9).bind fun u28 =>
      (ax_ix S u28 (r10)).bind fun j32 =>
      some (I5 u28 j32, I5)
    else
    if x2 = 2 then
      (R u0 10).bind fun u35 =>
      (ax_ix S u35 (r10)).bind fun j39 =>
      some (I5 u35 j39, I5)
    else
    if x2 = 3 then
      (R u0 11).bind fun u42 =>
      (ax_ix S u42 (r10)).bind fun j46 =>
      some (I5 u42 j46, I5)
    else
    if x2 = 4 then
      (R u0 12).bind fun u49 =>
      (ax_ix S u49 (r10)).bind fun j53 =>
      some (I5 u49 j53, I5)
    else
    if x2 = 5 then
      (R u0 13).bind fun u56 =>
      (ax_ix S u56 (r10)).bind fun j60 =>
      some (I5 u56 j60, I5)
    else
    if x2 = 6 then
      if (ax_b r19) = 0 then
        (R u0 10).bind fun u64 =>
        (ax_ix S u64 (r10)).bind fun j68 =>
        some (I5 u64 j68, I5)
      else
        (R u0 11).bind fun u70 =>
        (ax_ix S u70 (r10)).bind fun j74 =>
        some (I5 u70 j74, I5)
    else
    if x2 = 7 then
      if (ax_b r19) = 0 then
        (R u0 11).bind fun u78 =>
        (ax_ix S u78 (r10)).bind fun j82 =>
        some (I5 u78 j82, I5)
      else
        (R u0 10).bind fun u84 =>
        (ax_ix S u84 (r10)).bind fun j88 =>
        some (I5 u84 j88, I5)
    else
    some ((-1), I5)
  else
    some (0, I5)
set_option maxHeartbeats 1000000 in
theorem e_M_at_14 {l : Launch} {X : ax_X} {S : ax_S} {L : ax_L} {R0 : ax_R} {out : Int32 × ax_I} (hX : ax_ok X l "LossFreeToolsModel" b_M_at 5 (ax_rm 3 0 0)) (hF : ax_fin X (some .int) 0 0 (ax_of (ax_eq (some (.int out.1)) S out.2 R0 L))) (hS0 : ax_S0 X = S) : ∀ (I : ax_I) (R : ax_R) (u0 : Nat) (x1 : Int32) (x2 : Int32) (y0 : Int32) (w1 : Nat), ax_typ S R → (S u0 = some (.inl 5)) → (S w1 = some (.inl 5)) → R = R0 → d_M_at_14 S  I R u0 x1 x2 y0 w1 = some out → ax_W X 5 14 [some (.ref u0), some (.int (x1)), some (.int (x2)), none, none] [.int (y0), .ref w1] S I R L 0 0 := by
  rintro I R u0 x1 x2 y0 w1 hty hs0_ hw1_ hR0 h
  subst hR0
  unfold d_M_at_14 at h
  obtain ⟨I5, e6, h⟩ := ax_bs h
  refine ax_putI (q := 17) hX dc_M_at_14 rfl fl_M_68 rfl hw1_ (fun z => by cases z) rfl rfl e6 ?_
  refine ax_aload_n (q := 18) hX dc_M_at_17 rfl rfl rfl ?_
  refine ax_getI (q := 21) hX dc_M_at_18 rfl fl_M_68 rfl hs0_ ?_
  refine ax_if_le (tgt := 26) (q := 24) hX dc_M_at_21 rfl (by decide) (fun z7 => ?_) (fun z7 => ?_)
  · rw [if_pos z7] at h
    refine ax_aload_n (q := 27) hX dc_M_at_26 rfl rfl rfl ?_
    refine ax_iload_n (q := 28) hX dc_M_at_27 rfl rfl rfl ?_
    obtain ⟨r10, hr8, h⟩ := ax_bd h
    refine ax_kV (vs := [.int (x1)]) (rest := []) (q := 31) hX dc_M_at_28 rfl mt_M_tileAt wl_M_92 wi_M_tileAt ws_M_tileAt hs0_ rfl (c_M_tileAt l hty hs0_ hr8) rfl (by decide) rfl (Nat.le_of_ble_eq_true rfl) rfl rfl (by decide) (by decide) rfl ?_
    refine ax_istore_n (ls' := [some (.ref u0), some (.int (x1)), some (.int (x2)), some (.int (r10)), none]) (q := 32) hX dc_M_at_31 rfl rfl (by decide) rfl ?_
    refine ax_aload_n (q := 33) hX dc_M_at_32 rfl rfl rfl ?_
    obtain ⟨u11, hu12, h⟩ := ax_bd h
    obtain ⟨n14, hs13⟩ : ∃ n, S u11 = some (.inr (0, n)) := hty.1 _ _ _ _ hs0_ hu12
    refine ax_getR (q := 36) hX dc_M_at_33 rfl fl_M_34 rfl hs0_ hu12 ?_
    refine ax_iload_n (q := 37) hX dc_M_at_36 rfl rfl rfl ?_
    obtain ⟨j15, hj16, h⟩ := ax_bd h
    have hj16 := ax_ix_s hty hs13 hj16
    refine ax_iald (q := 38) hX j15 dc_M_at_37 rfl hs13 hj16.1 hj16.2.1 hj16.2.2 ?_
    obtain ⟨r19, hr17, h⟩ := ax_bd h
    refine ax_kS (vs := [.int (I5 u11 j15)]) (rest := []) (q := 41) hX dc_M_at_38 rfl mt_M_isTurned wl_M_123 wt_M_isTurned (c_M_isTurned l hty  hr17) rfl (by decide) rfl (Nat.le_of_ble_eq_true rfl) rfl rfl (by decide) (by decide) rfl ?_
    refine ax_istore (ls' := [some (.ref u0), some (.int (x1)), some (.int (x2)), some (.int (r10)), some (.int (ax_b r19))]) (q := 43) hX dc_M_at_41 rfl (by decide) rfl ?_
    refine ax_iload_n (q := 44) hX dc_M_at_43 rfl rfl rfl ?_
    by_cases z20 : x2 = 0
    · rw [if_pos z20] at h
      refine ax_tsIn (tgt := 92) hX dc_M_at_44 (by rw [z20]; decide) (by rw [z20]; decide) (by rw [z20]; rfl) (by decide) ?_
      refine ax_aload_n (q := 93) hX dc_M_at_92 rfl rfl rfl ?_
      obtain ⟨u21, hu22, h⟩ := ax_bd h
      obtain ⟨n24, hs23⟩ : ∃ n, S u21 = some (.inr (0, n)) := hty.1 _ _ _ _ hs0_ hu22
      refine ax_getR (q := 96) hX dc_M_at_93 rfl fl_M_22 rfl hs0_ hu22 ?_
      refine ax_iload_n (q := 97) hX dc_M_at_96 rfl rfl rfl ?_
      obtain ⟨j25, hj26, h⟩ := ax_bd h
      have hj26 := ax_ix_s hty hs23 hj26
      refine ax_iald (q := 98) hX j25 dc_M_at_97 rfl hs23 hj26.1 hj26.2.1 hj26.2.2 ?_
      cases h
      exact ax_iret hX hF dc_M_at_98 rfl rfl (by decide) (by decide) ax_eq.mk (by rw [hS0]; exact fun _ _ z => z)
    rw [if_neg z20] at h
    by_cases z27 : x2 = 1
    · rw [if_pos z27] at h
      refine ax_tsIn (tgt := 99) hX dc_M_at_44 (by rw [z27]; decide) (by rw [z27]; decide) (by rw [z27]; rfl) (by decide) ?_
      refine ax_aload_n (q := 100) hX dc_M_at_99 rfl rfl rfl ?_
      obtain ⟨u28, hu29, h⟩ := ax_bd h
      obtain ⟨n31, hs30⟩ : ∃ n, S u28 = some (.inr (0, n)) := hty.1 _ _ _ _ hs0_ hu29
      refine ax_getR (q := 103) hX dc_M_at_100 rfl fl_M_25 rfl hs0_ hu29 ?_
      refine ax_iload_n (q := 104) hX dc_M_at_103 rfl rfl rfl ?_
      obtain ⟨j32, hj33, h⟩ := ax_bd h
      have hj33 := ax_ix_s hty hs30 hj33
      refine ax_iald (q := 105) hX j32 dc_M_at_104 rfl hs30 hj33.1 hj33.2.1 hj33.2.2 ?_
      cases h
      exact ax_iret hX hF dc_M_at_105 rfl rfl (by decide) (by decide) ax_eq.mk (by rw [hS0]; exact fun _ _ z => z)
    rw [if_neg z27] at h
    by_cases z34 : x2 = 2
    · rw [if_pos z34] at h
      refine ax_tsIn (tgt := 106) hX dc_M_at_44 (by rw [z34]; decide) (by rw [z34]; decide) (by rw [z34]; rfl) (by decide) ?_
      refine ax_aload_n (q := 107) hX dc_M_at_106 rfl rfl rfl ?_
      obtain ⟨u35, hu36, h⟩ := ax_bd h
      obtain ⟨n38, hs37⟩ : ∃ n, S u35 = some (.inr (0, n)) := hty.1 _ _ _ _ hs0_ hu36
      refine ax_getR (q := 110) hX dc_M_at_107 rfl fl_M_28 rfl hs0_ hu36 ?_
      refine ax_iload_n (q := 111) hX dc_M_at_110 rfl rfl rfl ?_
      obtain ⟨j39, hj40, h⟩ := ax_bd h
      have hj40 := ax_ix_s hty hs37 hj40
      refine ax_iald (q := 112) hX j39 dc_M_at_111 rfl hs37 hj40.1 hj40.2.1 hj40.2.2 ?_
      cases h
      exact ax_iret hX hF dc_M_at_112 rfl rfl (by decide) (by decide) ax_eq.mk (by rw [hS0]; exact fun _ _ z => z)
    rw [if_neg z34] at h
    by_cases z41 : x2 = 3
    · rw [if_pos z41] at h
      refine ax_tsIn (tgt := 113) hX dc_M_at_44 (by rw [z41]; decide) (by rw [z41]; decide) (by rw [z41]; rfl) (by decide) ?_
      refine ax_aload_n (q := 114) hX dc_M_at_113 rfl rfl rfl ?_
      obtain ⟨u42, hu43, h⟩ := ax_bd h
      obtain ⟨n45, hs44⟩ : ∃ n, S u42 = some (.inr (0, n)) := hty.1 _ _ _ _ hs0_ hu43
      refine ax_getR (q := 117) hX dc_M_at_114 rfl fl_M_31 rfl hs0_ hu43 ?_
      refine ax_iload_n (q := 118) hX dc_M_at_117 rfl rfl rfl ?_
      obtain ⟨j46, hj47, h⟩ := ax_bd h
      have hj47 := ax_ix_s hty hs44 hj47
      refine ax_iald (q := 119) hX j46 dc_M_at_118 rfl hs44 hj47.1 hj47.2.1 hj47.2.2 ?_
      cases h
      exact ax_iret hX hF dc_M_at_119 rfl rfl (by decide) (by decide) ax_eq.mk (by rw [hS0]; exact fun _ _ z => z)
    rw [if_neg z41] at h
    by_cases z48 : x2 = 4
    · rw [if_pos z48] at h
      refine ax_tsIn (tgt := 120) hX dc_M_at_44 (by rw [z48]; decide) (by rw [z48]; decide) (by rw [z48]; rfl) (by decide) ?_
      refine ax_aload_n (q := 121) hX dc_M_at_120 rfl rfl rfl ?_
      obtain ⟨u49, hu50, h⟩ := ax_bd h
      obtain ⟨n52, hs51⟩ : ∃ n, S u49 = some (.inr (0, n)) := hty.1 _ _ _ _ hs0_ hu50
      refine ax_getR (q := 124) hX dc_M_at_121 rfl fl_M_34 rfl hs0_ hu50 ?_
      refine ax_iload_n (q := 125) hX dc_M_at_124 rfl rfl rfl ?_
      obtain ⟨j53, hj54, h⟩ := ax_bd h
      have hj54 := ax_ix_s hty hs51 hj54
      refine ax_iald (q := 126) hX j53 dc_M_at_125 rfl hs51 hj54.1 hj54.2.1 hj54.2.2 ?_
      cases h
      exact ax_iret hX hF dc_M_at_126 rfl rfl (by decide) (by decide) ax_eq.mk (by rw [hS0]; exact fun _ _ z => z)
    rw [if_neg z48] at h
    by_cases z55 : x2 = 5
    · rw [if_pos z55] at h
      refine ax_tsIn (tgt := 127) hX dc_M_at_44 (by rw [z55]; decide) (by rw [z55]; decide) (by rw [z55]; rfl) (by decide) ?_
      refine ax_aload_n (q := 128) hX dc_M_at_127 rfl rfl rfl ?_
      obtain ⟨u56, hu57, h⟩ := ax_bd h
      obtain ⟨n59, hs58⟩ : ∃ n, S u56 = some (.inr (0, n)) := hty.1 _ _ _ _ hs0_ hu57
      refine ax_getR (q := 131) hX dc_M_at_128 rfl fl_M_37 rfl hs0_ hu57 ?_
      refine ax_iload_n (q := 132) hX dc_M_at_131 rfl rfl rfl ?_
      obtain ⟨j60, hj61, h⟩ := ax_bd h
      have hj61 := ax_ix_s hty hs58 hj61
      refine ax_iald (q := 133) hX j60 dc_M_at_132 rfl hs58 hj61.1 hj61.2.1 hj61.2.2 ?_
      cases h
      exact ax_iret hX hF dc_M_at_133 rfl rfl (by decide) (by decide) ax_eq.mk (by rw [hS0]; exact fun _ _ z => z)
    rw [if_neg z55] at h
    by_cases z62 : x2 = 6
    · rw [if_pos z62] at h
      refine ax_tsIn (tgt := 134) hX dc_M_at_44 (by rw [z62]; decide) (by rw [z62]; decide) (by rw [z62]; rfl) (by decide) ?_
      refine ax_iload (q := 136) hX dc_M_at_134 rfl rfl ?_
      refine ax_if_eq (tgt := 148) (q := 139) hX dc_M_at_136 rfl (by decide) (fun z63 => ?_) (fun z63 => ?_)
      · rw [if_pos z63] at h
        refine ax_aload_n (q := 149) hX dc_M_at_148 rfl rfl rfl ?_
        obtain ⟨u64, hu65, h⟩ := ax_bd h
        obtain ⟨n67, hs66⟩ : ∃ n, S u64 = some (.inr (0, n)) := hty.1 _ _ _ _ hs0_ hu65
        refine ax_getR (q := 152) hX dc_M_at_149 rfl fl_M_28 rfl hs0_ hu65 ?_
        refine ax_iload_n (q := 153) hX dc_M_at_152 rfl rfl rfl ?_
        obtain ⟨j68, hj69, h⟩ := ax_bd h
        have hj69 := ax_ix_s hty hs66 hj69
        refine ax_iald (q := 154) hX j68 dc_M_at_153 rfl hs66 hj69.1 hj69.2.1 hj69.2.2 ?_
        cases h
        exact ax_iret hX hF dc_M_at_154 rfl rfl (by decide) (by decide) ax_eq.mk (by rw [hS0]; exact fun _ _ z => z)
      · rw [if_neg z63] at h
        refine ax_aload_n (q := 140) hX dc_M_at_139 rfl rfl rfl ?_
        obtain ⟨u70, hu71, h⟩ := ax_bd h
        obtain ⟨n73, hs72⟩ : ∃ n, S u70 = some (.inr (0, n)) := hty.1 _ _ _ _ hs0_ hu71
        refine ax_getR (q := 143) hX dc_M_at_140 rfl fl_M_31 rfl hs0_ hu71 ?_
        refine ax_iload_n (q := 144) hX dc_M_at_143 rfl rfl rfl ?_
        obtain ⟨j74, hj75, h⟩ := ax_bd h
        have hj75 := ax_ix_s hty hs72 hj75
        refine ax_iald (q := 145) hX j74 dc_M_at_144 rfl hs72 hj75.1 hj75.2.1 hj75.2.2 ?_
        refine ax_goto (tgt := 154) hX dc_M_at_145 (by decide) ?_
        cases h
        exact ax_iret hX hF dc_M_at_154 rfl rfl (by decide) (by decide) ax_eq.mk (by rw [hS0]; exact fun _ _ z => z)
    rw [if_neg z62] at h
    by_cases z76 : x2 = 7
    · rw [if_pos z76] at h
      refine ax_tsIn (tgt := 155) hX dc_M_at_44 (by rw [z76]; decide) (by rw [z76]; decide) (by rw [z76]; rfl) (by decide) ?_
      refine ax_iload (q := 157) hX dc_M_at_155 rfl rfl ?_
      refine ax_if_eq (tgt := 169) (q := 160) hX dc_M_at_157 rfl (by decide) (fun z77 => ?_) (fun z77 => ?_)
      · rw [if_pos z77] at h
        refine ax_aload_n (q := 170) hX dc_M_at_169 rfl rfl rfl ?_
        obtain ⟨u78, hu79, h⟩ := ax_bd h
        obtain ⟨n81, hs80⟩ : ∃ n, S u78 = some (.inr (0, n)) := hty.1 _ _ _ _ hs0_ hu79
        refine ax_getR (q := 173) hX dc_M_at_170 rfl fl_M_31 rfl hs0_ hu79 ?_
        refine ax_iload_n (q := 174) hX dc_M_at_173 rfl rfl rfl ?_
        obtain ⟨j82, hj83, h⟩ := ax_bd h
        have hj83 := ax_ix_s hty hs80 hj83
        refine ax_iald (q := 175) hX j82 dc_M_at_174 rfl hs80 hj83.1 hj83.2.1 hj83.2.2 ?_
        cases h
        exact ax_iret hX hF dc_M_at_175 rfl rfl (by decide) (by decide) ax_eq.mk (by rw [hS0]; exact fun _ _ z => z)
      · rw [if_neg z77] at h
        refine ax_aload_n (q := 161) hX dc_M_at_160 rfl rfl rfl ?_
        obtain ⟨u84, hu85, h⟩ := ax_bd h
        obtain ⟨n87, hs86⟩ : ∃ n, S u84 = some (.inr (0, n)) := hty.1 _ _ _ _ hs0_ hu85
        refine ax_getR (q := 164) hX dc_M_at_161 rfl fl_M_28 rfl hs0_ hu85 ?_
        refine ax_iload_n (q := 165) hX dc_M_at_164 rfl rfl rfl ?_
        obtain ⟨j88, hj89, h⟩ := ax_bd h
        have hj89 := ax_ix_s hty hs86 hj89
        refine ax_iald (q := 166) hX j88 dc_M_at_165 rfl hs86 hj89.1 hj89.2.1 hj89.2.2 ?_
        refine ax_goto (tgt := 175) hX dc_M_at_166 (by decide) ?_
        cases h
        exact ax_iret hX hF dc_M_at_175 rfl rfl (by decide) (by decide) ax_eq.mk (by rw [hS0]; exact fun _ _ z => z)
    rw [if_neg z76] at h
    refine ax_tsOut (tgt := 176) hX dc_M_at_44 (ax_out8 z20 z27 z34 z41 z48 z55 z62 z76) (by decide) ?_
    refine ax_iconst (v := (-1)) (q := 177) hX dc_M_at_176 rfl (by decide) ?_
    cases h
    exact ax_iret hX hF dc_M_at_177 rfl rfl (by decide) (by decide) ax_eq.mk (by rw [hS0]; exact fun _ _ z => z)
  · rw [if_neg z7] at h
    refine ax_iconst (v := 0) (q := 25) hX dc_M_at_24 rfl (by decide) ?_
    cases h
    exact ax_iret hX hF dc_M_at_25 rfl rfl (by decide) (by decide) ax_eq.mk (by rw [hS0]; exact fun _ _ z => z)
def d_M_at (S : ax_S) (I : ax_I) (R : ax_R) (u0 : Nat) (x1 : Int32) (x2 : Int32) : Option (Int32 × ax_I) :=
  (d_M_isTile S I R u0 (x1)).bind fun r3 =>
  if (ax_b r3) = 0 then
    d_M_at_14 S  I R u0 (x1) (x2) (1) u0
  else
    d_M_at_14 S  I R u0 (x1) (x2) (0) u0
set_option maxHeartbeats 1000000 in
theorem c_M_at (l : Launch) {S : ax_S} {I : ax_I} {R : ax_R} {L : ax_L} {u0 : Nat} {x1 : Int32} {x2 : Int32} {out : Int32 × ax_I} (hty : ax_typ S R) (hs0 : S u0 = some (.inl 5)) (h : d_M_at S I R u0 x1 x2 = some out) : ax_Met l y_M_at b_M_at 5 (some .int) (ax_rm 3 0 0) [.ref u0, .int x1, .int x2] S I R L (ax_eq (some (.int out.1)) S out.2 R L) := by
  refine ax_enter (own := "LossFreeToolsModel") (by decide +kernel) rfl (ax_cats rfl) (Nat.le_of_ble_eq_true rfl) (fun X hX hF _ hS0 => ?_)
  show ax_W X 5 0 [some (.ref u0), some (.int (x1)), some (.int (x2)), none, none] [] S I R L 0 0
  unfold d_M_at at h
  refine ax_aload_n (q := 1) hX dc_M_at_0 rfl rfl rfl ?_
  refine ax_aload_n (q := 2) hX dc_M_at_1 rfl rfl rfl ?_
  refine ax_iload_n (q := 3) hX dc_M_at_2 rfl rfl rfl ?_
  obtain ⟨r3, hr1, h⟩ := ax_bd h
  refine ax_kV (vs := [.int (x1)]) (rest := [.ref u0]) (q := 6) hX dc_M_at_3 rfl mt_M_isTile wl_M_96 wi_M_isTile ws_M_isTile hs0 rfl (c_M_isTile l hty hs0 hr1) rfl (by decide) rfl (Nat.le_of_ble_eq_true rfl) rfl rfl (by decide) (by decide) rfl ?_
  refine ax_if_eq (tgt := 13) (q := 9) hX dc_M_at_6 rfl (by decide) (fun z4 => ?_) (fun z4 => ?_)
  · rw [if_pos z4] at h
    refine ax_iconst (v := 1) (q := 14) hX dc_M_at_13 rfl (by decide) ?_
    exact (e_M_at_14 hX hF hS0  I R u0 (x1) (x2) (1) u0 hty hs0 hs0 rfl h)
  · rw [if_neg z4] at h
    refine ax_iconst (v := 0) (q := 10) hX dc_M_at_9 rfl (by decide) ?_
    refine ax_goto (tgt := 14) hX dc_M_at_10 (by decide) ?_
    exact (e_M_at_14 hX hF hS0  I R u0 (x1) (x2) (0) u0 hty hs0 hs0 rfl h)
def d_M_byteAt_34 (S : ax_S) (I : ax_I) (R : ax_R) (u0 : Nat) (x1 : Int32) (x2 : Int32) (y0 : Int32) (w1 : Nat) : Option (Int32 × ax_I) :=
  (some (ax_up I w1 0 (y0))).bind fun I18 =>
  if (I18 u0 0) ≤ 0 then
    (R u0 14).bind fun u21 =>
    (d_M_tileAt S I18 R u0 (x1)).bind fun r27 =>
    (ax_ix S u21 ((12 * r27) + x2)).bind fun j28 =>
    some (I18 u21 j28, I18)
  else
    some (0, I18)
set_option maxHeartbeats 1000000 in
theorem e_M_byteAt_34 {l : Launch} {X : ax_X} {S : ax_S} {L : ax_L} {R0 : ax_R} {out : Int32 × ax_I} (hX : ax_ok X l "LossFreeToolsModel" b_M_byteAt 3 (ax_rm 3 0 0)) (hF : ax_fin X (some .int) 0 0 (ax_of (ax_eq (some (.int out.1)) S out.2 R0 L))) (hS0 : ax_S0 X = S) : ∀ (I : ax_I) (R : ax_R) (u0 : Nat) (x1 : Int32) (x2 : Int32) (y0 : Int32) (w1 : Nat), ax_typ S R → (S u0 = some (.inl 5)) → (S w1 = some (.inl 5)) → R = R0 → d_M_byteAt_34 S  I R u0 x1 x2 y0 w1 = some out → ax_W X 3 34 [some (.ref u0), some (.int (x1)), some (.int (x2))] [.int (y0), .ref w1] S I R L 0 0 := by
  rintro I R u0 x1 x2 y0 w1 hty hs0_ hw1_ hR0 h
  subst hR0
  unfold d_M_byteAt_34 at h
  obtain ⟨I18, e19, h⟩ := ax_bs h
  refine ax_putI (q := 37) hX dc_M_byteAt_34 rfl fl_M_68 rfl hw1_ (fun z => by cases z) rfl rfl e19 ?_
  refine ax_aload_n (q := 38) hX dc_M_byteAt_37 rfl rfl rfl ?_
  refine ax_getI (q := 41) hX dc_M_byteAt_38 rfl fl_M_68 rfl hs0_ ?_
  refine ax_if_le (tgt := 48) (q := 44) hX dc_M_byteAt_41 rfl (by decide) (fun z20 => ?_) (fun z20 => ?_)
  · rw [if_pos z20] at h
    refine ax_aload_n (q := 49) hX dc_M_byteAt_48 rfl rfl rfl ?_
    obtain ⟨u21, hu22, h⟩ := ax_bd h
    obtain ⟨n24, hs23⟩ : ∃ n, S u21 = some (.inr (0, n)) := hty.1 _ _ _ _ hs0_ hu22
    refine ax_getR (q := 52) hX dc_M_byteAt_49 rfl fl_M_40 rfl hs0_ hu22 ?_
    refine ax_bipush (v := 12) (q := 54) hX dc_M_byteAt_52 rfl (by decide) ?_
    refine ax_aload_n (q := 55) hX dc_M_byteAt_54 rfl rfl rfl ?_
    refine ax_iload_n (q := 56) hX dc_M_byteAt_55 rfl rfl rfl ?_
    obtain ⟨r27, hr25, h⟩ := ax_bd h
    refine ax_kV (vs := [.int (x1)]) (rest := [.int (12), .ref u21]) (q := 59) hX dc_M_byteAt_56 rfl mt_M_tileAt wl_M_92 wi_M_tileAt ws_M_tileAt hs0_ rfl (c_M_tileAt l hty hs0_ hr25) rfl (by decide) rfl (Nat.le_of_ble_eq_true rfl) rfl rfl (by decide) (by decide) rfl ?_
    refine ax_imul (q := 60) hX dc_M_byteAt_59 rfl ?_
    refine ax_iload_n (q := 61) hX dc_M_byteAt_60 rfl rfl rfl ?_
    refine ax_iadd (q := 62) hX dc_M_byteAt_61 rfl ?_
    obtain ⟨j28, hj29, h⟩ := ax_bd h
    have hj29 := ax_ix_s hty hs23 hj29
    refine ax_iald (q := 63) hX j28 dc_M_byteAt_62 rfl hs23 hj29.1 hj29.2.1 hj29.2.2 ?_
    cases h
    exact ax_iret hX hF dc_M_byteAt_63 rfl rfl (by decide) (by decide) ax_eq.mk (by rw [hS0]; exact fun _ _ z => z)
  · rw [if_neg z20] at h
    refine ax_iconst (v := 0) (q := 45) hX dc_M_byteAt_44 rfl (by decide) ?_
    refine ax_goto (tgt := 63) hX dc_M_byteAt_45 (by decide) ?_
    cases h
    exact ax_iret hX hF dc_M_byteAt_63 rfl rfl (by decide) (by decide) ax_eq.mk (by rw [hS0]; exact fun _ _ z => z)
def d_M_byteAt_29 (S : ax_S) (I : ax_I) (R : ax_R) (u0 : Nat) (x1 : Int32) (x2 : Int32) (w0 : Nat) : Option (Int32 × ax_I) :=
  d_M_byteAt_34 S  I R u0 (x1) (x2) (1) w0
set_option maxHeartbeats 1000000 in
theorem e_M_byteAt_29 {l : Launch} {X : ax_X} {S : ax_S} {L : ax_L} {R0 : ax_R} {out : Int32 × ax_I} (hX : ax_ok X l "LossFreeToolsModel" b_M_byteAt 3 (ax_rm 3 0 0)) (hF : ax_fin X (some .int) 0 0 (ax_of (ax_eq (some (.int out.1)) S out.2 R0 L))) (hS0 : ax_S0 X = S) : ∀ (I : ax_I) (R : ax_R) (u0 : Nat) (x1 : Int32) (x2 : Int32) (w0 : Nat), ax_typ S R → (S u0 = some (.inl 5)) → (S w0 = some (.inl 5)) → R = R0 → d_M_byteAt_29 S  I R u0 x1 x2 w0 = some out → ax_W X 3 29 [some (.ref u0), some (.int (x1)), some (.int (x2))] [.ref w0] S I R L 0 0 := by
  rintro I R u0 x1 x2 w0 hty hs0_ hw0_ hR0 h
  subst hR0
  unfold d_M_byteAt_29 at h
  refine ax_iconst (v := 1) (q := 30) hX dc_M_byteAt_29 rfl (by decide) ?_
  refine ax_goto (tgt := 34) hX dc_M_byteAt_30 (by decide) ?_
  exact (e_M_byteAt_34 hX hF hS0  I R u0 (x1) (x2) (1) w0 hty hs0_ hw0_ rfl h)
def d_M_byteAt (S : ax_S) (I : ax_I) (R : ax_R) (u0 : Nat) (x1 : Int32) (x2 : Int32) : Option (Int32 × ax_I) :=
  (d_M_isTile S I R u0 (x1)).bind fun r3 =>
  if (ax_b r3) = 0 then
    d_M_byteAt_29 S  I R u0 (x1) (x2) u0
  else
    (R u0 13).bind fun u5 =>
    (d_M_tileAt S I R u0 (x1)).bind fun r11 =>
    (ax_ix S u5 (r11)).bind fun j12 =>
    (d_M_in S I R (x2) (0) ((I u5 j12) - 1)).bind fun r16 =>
    if (ax_b r16) = 0 then
      d_M_byteAt_29 S  I R u0 (x1) (x2) u0
    else
      d_M_byteAt_34 S  I R u0 (x1) (x2) (0) u0
set_option maxHeartbeats 1000000 in
theorem c_M_byteAt (l : Launch) {S : ax_S} {I : ax_I} {R : ax_R} {L : ax_L} {u0 : Nat} {x1 : Int32} {x2 : Int32} {out : Int32 × ax_I} (hty : ax_typ S R) (hs0 : S u0 = some (.inl 5)) (h : d_M_byteAt S I R u0 x1 x2 = some out) : ax_Met l y_M_byteAt b_M_byteAt 3 (some .int) (ax_rm 3 0 0) [.ref u0, .int x1, .int x2] S I R L (ax_eq (some (.int out.1)) S out.2 R L) := by
  refine ax_enter (own := "LossFreeToolsModel") (by decide +kernel) rfl (ax_cats rfl) (Nat.le_of_ble_eq_true rfl) (fun X hX hF _ hS0 => ?_)
  show ax_W X 3 0 [some (.ref u0), some (.int (x1)), some (.int (x2))] [] S I R L 0 0
  unfold d_M_byteAt at h
  refine ax_aload_n (q := 1) hX dc_M_byteAt_0 rfl rfl rfl ?_
  refine ax_aload_n (q := 2) hX dc_M_byteAt_1 rfl rfl rfl ?_
  refine ax_iload_n (q := 3) hX dc_M_byteAt_2 rfl rfl rfl ?_
  obtain ⟨r3, hr1, h⟩ := ax_bd h
  refine ax_kV (vs := [.int (x1)]) (rest := [.ref u0]) (q := 6) hX dc_M_byteAt_3 rfl mt_M_isTile wl_M_96 wi_M_isTile ws_M_isTile hs0 rfl (c_M_isTile l hty hs0 hr1) rfl (by decide) rfl (Nat.le_of_ble_eq_true rfl) rfl rfl (by decide) (by decide) rfl ?_
  refine ax_if_eq (tgt := 29) (q := 9) hX dc_M_byteAt_6 rfl (by decide) (fun z4 => ?_) (fun z4 => ?_)
  · rw [if_pos z4] at h
    exact (e_M_byteAt_29 hX hF hS0  I R u0 (x1) (x2) u0 hty hs0 hs0 rfl h)
  · rw [if_neg z4] at h
    refine ax_iload_n (q := 10) hX dc_M_byteAt_9 rfl rfl rfl ?_
    refine ax_iconst (v := 0) (q := 11) hX dc_M_byteAt_10 rfl (by decide) ?_
    refine ax_aload_n (q := 12) hX dc_M_byteAt_11 rfl rfl rfl ?_
    obtain ⟨u5, hu6, h⟩ := ax_bd h
    obtain ⟨n8, hs7⟩ : ∃ n, S u5 = some (.inr (0, n)) := hty.1 _ _ _ _ hs0 hu6
    refine ax_getR (q := 15) hX dc_M_byteAt_12 rfl fl_M_37 rfl hs0 hu6 ?_
    refine ax_aload_n (q := 16) hX dc_M_byteAt_15 rfl rfl rfl ?_
    refine ax_iload_n (q := 17) hX dc_M_byteAt_16 rfl rfl rfl ?_
    obtain ⟨r11, hr9, h⟩ := ax_bd h
    refine ax_kV (vs := [.int (x1)]) (rest := [.ref u5, .int (0), .int (x2), .ref u0]) (q := 20) hX dc_M_byteAt_17 rfl mt_M_tileAt wl_M_92 wi_M_tileAt ws_M_tileAt hs0 rfl (c_M_tileAt l hty hs0 hr9) rfl (by decide) rfl (Nat.le_of_ble_eq_true rfl) rfl rfl (by decide) (by decide) rfl ?_
    obtain ⟨j12, hj13, h⟩ := ax_bd h
    have hj13 := ax_ix_s hty hs7 hj13
    refine ax_iald (q := 21) hX j12 dc_M_byteAt_20 rfl hs7 hj13.1 hj13.2.1 hj13.2.2 ?_
    refine ax_iconst (v := 1) (q := 22) hX dc_M_byteAt_21 rfl (by decide) ?_
    refine ax_isub (q := 23) hX dc_M_byteAt_22 rfl ?_
    obtain ⟨r16, hr14, h⟩ := ax_bd h
    refine ax_kS (vs := [.int (x2), .int (0), .int ((I u5 j12) - 1)]) (rest := [.ref u0]) (q := 26) hX dc_M_byteAt_23 rfl mt_M_in wl_M_84 wt_M_in (c_M_in l hty  hr14) rfl (by decide) rfl (Nat.le_of_ble_eq_true rfl) rfl rfl (by decide) (by decide) rfl ?_
    refine ax_if_ne (tgt := 33) (q := 29) hX dc_M_byteAt_26 rfl (by decide) (fun z17 => ?_) (fun z17 => ?_)
    · rw [if_neg z17] at h
      refine ax_iconst (v := 0) (q := 34) hX dc_M_byteAt_33 rfl (by decide) ?_
      exact (e_M_byteAt_34 hX hF hS0  I R u0 (x1) (x2) (0) u0 hty hs0 hs0 rfl h)
    · rw [if_pos z17] at h
      exact (e_M_byteAt_29 hX hF hS0  I R u0 (x1) (x2) u0 hty hs0 hs0 rfl h)
def d_M_shown_218 (S : ax_S) (I : ax_I) (R : ax_R) (u0 : Nat) : Option (Int32 × ax_I) :=
  if (I u0 0) ≤ 0 then
    some ((-1), I)
  else
    some (0, I)
set_option maxHeartbeats 1000000 in
theorem e_M_shown_218 {l : Launch} {X : ax_X} {S : ax_S} {L : ax_L} {R0 : ax_R} {out : Int32 × ax_I} (hX : ax_ok X l "LossFreeToolsModel" b_M_shown 7 (ax_rm 3 0 0)) (hF : ax_fin X (some .int) 0 0 (ax_of (ax_eq (some (.int out.1)) S out.2 R0 L))) (hS0 : ax_S0 X = S) : ∀ (I : ax_I) (R : ax_R) (u0 : Nat), ax_typ S R → (S u0 = some (.inl 5)) → R = R0 → d_M_shown_218 S  I R u0 = some out → ax_W X 7 218 [some (.ref u0), none, none, none, none, none, none] [] S I R L 0 0 := by
  rintro I R u0 hty hs0_ hR0 h
  subst hR0
  unfold d_M_shown_218 at h
  refine ax_aload_n (q := 219) hX dc_M_shown_218 rfl rfl rfl ?_
  refine ax_getI (q := 222) hX dc_M_shown_219 rfl fl_M_68 rfl hs0_ ?_
  refine ax_if_le (tgt := 229) (q := 225) hX dc_M_shown_222 rfl (by decide) (fun z127 => ?_) (fun z127 => ?_)
  · rw [if_pos z127] at h
    refine ax_iconst (v := (-1)) (q := 230) hX dc_M_shown_229 rfl (by decide) ?_
    cases h
    exact ax_iret hX hF dc_M_shown_230 rfl rfl (by decide) (by decide) ax_eq.mk (by rw [hS0]; exact fun _ _ z => z)
  · rw [if_neg z127] at h
    refine ax_iconst (v := 0) (q := 226) hX dc_M_shown_225 rfl (by decide) ?_
    refine ax_goto (tgt := 230) hX dc_M_shown_226 (by decide) ?_
    cases h
    exact ax_iret hX hF dc_M_shown_230 rfl rfl (by decide) (by decide) ax_eq.mk (by rw [hS0]; exact fun _ _ z => z)
def d_M_shown_212 (S : ax_S) (rec20 : ax_I → ax_R → Nat → Int32 → Int32 → Int32 → Option (Int32 × ax_I)) (I : ax_I) (R : ax_R) (u0 : Nat) (x1 : Int32) (x2 : Int32) (x3 : Int32) : Option (Int32 × ax_I) :=
  rec20 I R u0 (x1) (x2) (x3 + 1)
set_option maxHeartbeats 1000000 in
theorem e_M_shown_212 {l : Launch} {X : ax_X} {S : ax_S} {L : ax_L} {R0 : ax_R} {out : Int32 × ax_I} (hX : ax_ok X l "LossFreeToolsModel" b_M_shown 7 (ax_rm 3 0 0)) (hF : ax_fin X (some .int) 0 0 (ax_of (ax_eq (some (.int out.1)) S out.2 R0 L))) (hS0 : ax_S0 X = S) (rec20 : ax_I → ax_R → Nat → Int32 → Int32 → Int32 → Option (Int32 × ax_I)) (hrec20 : ∀ (I : ax_I) (R : ax_R) (u0 : Nat) (x1 : Int32) (x2 : Int32) (x3 : Int32), ax_typ S R → (S u0 = some (.inl 5)) → R = R0 → rec20 I R u0 x1 x2 x3 = some out → ax_W X 7 20 [some (.ref u0), some (.int (x1)), some (.int (x2)), some (.int (x3)), none, none, none] [] S I R L 0 0) : ∀ (I : ax_I) (R : ax_R) (u0 : Nat) (x1 : Int32) (x2 : Int32) (x3 : Int32), ax_typ S R → (S u0 = some (.inl 5)) → R = R0 → d_M_shown_212 S rec20 I R u0 x1 x2 x3 = some out → ax_W X 7 212 [some (.ref u0), some (.int (x1)), some (.int (x2)), some (.int (x3)), none, none, none] [] S I R L 0 0 := by
  rintro I R u0 x1 x2 x3 hty hs0_ hR0 h
  subst hR0
  unfold d_M_shown_212 at h
  refine ax_iinc (v := x3 + 1) (ls' := [some (.ref u0), some (.int (x1)), some (.int (x2)), some (.int (x3 + 1)), none, none, none]) (q := 215) hX dc_M_shown_212 rfl rfl rfl (by decide) rfl ?_
  refine ax_goto (tgt := 20) hX dc_M_shown_215 (by decide) ?_
  exact (hrec20 I R u0 (x1) (x2) (x3 + 1) hty hs0_ rfl h)
def d_M_shown_171 (S : ax_S) (I : ax_I) (R : ax_R) (u0 : Nat) (x1 : Int32) (x2 : Int32) (x3 : Int32) (x4 : Int32) (x5 : Int32) (y0 : Int32) : Option (Int32 × ax_I) :=
  (R u0 12).bind fun u106 =>
  (ax_ix S u106 (x4)).bind fun j110 =>
  (R u0 8).bind fun u112 =>
  (ax_ix S u112 (x4)).bind fun j116 =>
  (R u0 9).bind fun u118 =>
  (ax_ix S u118 (x4)).bind fun j122 =>
  (d_M_ownOf S I R (I u106 j110) (x1 - (I u112 j116)) (x2 - (I u118 j122)) (x5) (y0)).bind fun r126 =>
  some ((4096 * x3) + r126, I)
set_option maxHeartbeats 1000000 in
theorem e_M_shown_171 {l : Launch} {X : ax_X} {S : ax_S} {L : ax_L} {R0 : ax_R} {out : Int32 × ax_I} (hX : ax_ok X l "LossFreeToolsModel" b_M_shown 7 (ax_rm 3 0 0)) (hF : ax_fin X (some .int) 0 0 (ax_of (ax_eq (some (.int out.1)) S out.2 R0 L))) (hS0 : ax_S0 X = S) : ∀ (I : ax_I) (R : ax_R) (u0 : Nat) (x1 : Int32) (x2 : Int32) (x3 : Int32) (x4 : Int32) (x5 : Int32) (y0 : Int32), ax_typ S R → (S u0 = some (.inl 5)) → R = R0 → d_M_shown_171 S  I R u0 x1 x2 x3 x4 x5 y0 = some out → ax_W X 7 171 [some (.ref u0), some (.int (x1)), some (.int (x2)), some (.int (x3)), some (.int (x4)), some (.int (x5)), none] [.int (y0)] S I R L 0 0 := by
  rintro I R u0 x1 x2 x3 x4 x5 y0 hty hs0_ hR0 h
  subst hR0
  unfold d_M_shown_171 at h
  refine ax_istore (ls' := [some (.ref u0), some (.int (x1)), some (.int (x2)), some (.int (x3)), some (.int (x4)), some (.int (x5)), some (.int (y0))]) (q := 173) hX dc_M_shown_171 rfl (by decide) rfl ?_
  refine ax_sipush (v := 4096) (q := 176) hX dc_M_shown_173 rfl (by decide) ?_
  refine ax_iload_n (q := 177) hX dc_M_shown_176 rfl rfl rfl ?_
  refine ax_imul (q := 178) hX dc_M_shown_177 rfl ?_
  refine ax_aload_n (q := 179) hX dc_M_shown_178 rfl rfl rfl ?_
  obtain ⟨u106, hu107, h⟩ := ax_bd h
  obtain ⟨n109, hs108⟩ : ∃ n, S u106 = some (.inr (0, n)) := hty.1 _ _ _ _ hs0_ hu107
  refine ax_getR (q := 182) hX dc_M_shown_179 rfl fl_M_34 rfl hs0_ hu107 ?_
  refine ax_iload (q := 184) hX dc_M_shown_182 rfl rfl ?_
  obtain ⟨j110, hj111, h⟩ := ax_bd h
  have hj111 := ax_ix_s hty hs108 hj111
  refine ax_iald (q := 185) hX j110 dc_M_shown_184 rfl hs108 hj111.1 hj111.2.1 hj111.2.2 ?_
  refine ax_iload_n (q := 186) hX dc_M_shown_185 rfl rfl rfl ?_
  refine ax_aload_n (q := 187) hX dc_M_shown_186 rfl rfl rfl ?_
  obtain ⟨u112, hu113, h⟩ := ax_bd h
  obtain ⟨n115, hs114⟩ : ∃ n, S u112 = some (.inr (0, n)) := hty.1 _ _ _ _ hs0_ hu113
  refine ax_getR (q := 190) hX dc_M_shown_187 rfl fl_M_22 rfl hs0_ hu113 ?_
  refine ax_iload (q := 192) hX dc_M_shown_190 rfl rfl ?_
  obtain ⟨j116, hj117, h⟩ := ax_bd h
  have hj117 := ax_ix_s hty hs114 hj117
  refine ax_iald (q := 193) hX j116 dc_M_shown_192 rfl hs114 hj117.1 hj117.2.1 hj117.2.2 ?_
  refine ax_isub (q := 194) hX dc_M_shown_193 rfl ?_
  refine ax_iload_n (q := 195) hX dc_M_shown_194 rfl rfl rfl ?_
  refine ax_aload_n (q := 196) hX dc_M_shown_195 rfl rfl rfl ?_
  obtain ⟨u118, hu119, h⟩ := ax_bd h
  obtain ⟨n121, hs120⟩ : ∃ n, S u118 = some (.inr (0, n)) := hty.1 _ _ _ _ hs0_ hu119
  refine ax_getR (q := 199) hX dc_M_shown_196 rfl fl_M_25 rfl hs0_ hu119 ?_
  refine ax_iload (q := 201) hX dc_M_shown_199 rfl rfl ?_
  obtain ⟨j122, hj123, h⟩ := ax_bd h
  have hj123 := ax_ix_s hty hs120 hj123
  refine ax_iald (q := 202) hX j122 dc_M_shown_201 rfl hs120 hj123.1 hj123.2.1 hj123.2.2 ?_
  refine ax_isub (q := 203) hX dc_M_shown_202 rfl ?_
  refine ax_iload (q := 205) hX dc_M_shown_203 rfl rfl ?_
  refine ax_iload (q := 207) hX dc_M_shown_205 rfl rfl ?_
  obtain ⟨r126, hr124, h⟩ := ax_bd h
  refine ax_kS (vs := [.int (I u106 j110), .int (x1 - (I u112 j116)), .int (x2 - (I u118 j122)), .int (x5), .int (y0)]) (rest := [.int (4096 * x3)]) (q := 210) hX dc_M_shown_207 rfl mt_M_ownOf wl_M_130 wt_M_ownOf (c_M_ownOf l hty  hr124) rfl (by decide) rfl (Nat.le_of_ble_eq_true rfl) rfl rfl (by decide) (by decide) rfl ?_
  refine ax_iadd (q := 211) hX dc_M_shown_210 rfl ?_
  cases h
  exact ax_iret hX hF dc_M_shown_211 rfl rfl (by decide) (by decide) ax_eq.mk (by rw [hS0]; exact fun _ _ z => z)
def d_M_shown_139 (S : ax_S) (I : ax_I) (R : ax_R) (u0 : Nat) (x1 : Int32) (x2 : Int32) (x3 : Int32) (x4 : Int32) (y0 : Int32) : Option (Int32 × ax_I) :=
  (R u0 12).bind fun u84 =>
  (ax_ix S u84 (x4)).bind fun j88 =>
  (d_M_isTurned S I R (I u84 j88)).bind fun r92 =>
  if (ax_b r92) = 0 then
    (R u0 11).bind fun u94 =>
    (ax_ix S u94 (x4)).bind fun j98 =>
    d_M_shown_171 S  I R u0 (x1) (x2) (x3) (x4) (y0) (I u94 j98)
  else
    (R u0 10).bind fun u100 =>
    (ax_ix S u100 (x4)).bind fun j104 =>
    d_M_shown_171 S  I R u0 (x1) (x2) (x3) (x4) (y0) (I u100 j104)
set_option maxHeartbeats 1000000 in
theorem e_M_shown_139 {l : Launch} {X : ax_X} {S : ax_S} {L : ax_L} {R0 : ax_R} {out : Int32 × ax_I} (hX : ax_ok X l "LossFreeToolsModel" b_M_shown 7 (ax_rm 3 0 0)) (hF : ax_fin X (some .int) 0 0 (ax_of (ax_eq (some (.int out.1)) S out.2 R0 L))) (hS0 : ax_S0 X = S) : ∀ (I : ax_I) (R : ax_R) (u0 : Nat) (x1 : Int32) (x2 : Int32) (x3 : Int32) (x4 : Int32) (y0 : Int32), ax_typ S R → (S u0 = some (.inl 5)) → R = R0 → d_M_shown_139 S  I R u0 x1 x2 x3 x4 y0 = some out → ax_W X 7 139 [some (.ref u0), some (.int (x1)), some (.int (x2)), some (.int (x3)), some (.int (x4)), none, none] [.int (y0)] S I R L 0 0 := by
  rintro I R u0 x1 x2 x3 x4 y0 hty hs0_ hR0 h
  subst hR0
  unfold d_M_shown_139 at h
  refine ax_istore (ls' := [some (.ref u0), some (.int (x1)), some (.int (x2)), some (.int (x3)), some (.int (x4)), some (.int (y0)), none]) (q := 141) hX dc_M_shown_139 rfl (by decide) rfl ?_
  refine ax_aload_n (q := 142) hX dc_M_shown_141 rfl rfl rfl ?_
  obtain ⟨u84, hu85, h⟩ := ax_bd h
  obtain ⟨n87, hs86⟩ : ∃ n, S u84 = some (.inr (0, n)) := hty.1 _ _ _ _ hs0_ hu85
  refine ax_getR (q := 145) hX dc_M_shown_142 rfl fl_M_34 rfl hs0_ hu85 ?_
  refine ax_iload (q := 147) hX dc_M_shown_145 rfl rfl ?_
  obtain ⟨j88, hj89, h⟩ := ax_bd h
  have hj89 := ax_ix_s hty hs86 hj89
  refine ax_iald (q := 148) hX j88 dc_M_shown_147 rfl hs86 hj89.1 hj89.2.1 hj89.2.2 ?_
  obtain ⟨r92, hr90, h⟩ := ax_bd h
  refine ax_kS (vs := [.int (I u84 j88)]) (rest := []) (q := 151) hX dc_M_shown_148 rfl mt_M_isTurned wl_M_123 wt_M_isTurned (c_M_isTurned l hty  hr90) rfl (by decide) rfl (Nat.le_of_ble_eq_true rfl) rfl rfl (by decide) (by decide) rfl ?_
  refine ax_if_eq (tgt := 164) (q := 154) hX dc_M_shown_151 rfl (by decide) (fun z93 => ?_) (fun z93 => ?_)
  · rw [if_pos z93] at h
    refine ax_aload_n (q := 165) hX dc_M_shown_164 rfl rfl rfl ?_
    obtain ⟨u94, hu95, h⟩ := ax_bd h
    obtain ⟨n97, hs96⟩ : ∃ n, S u94 = some (.inr (0, n)) := hty.1 _ _ _ _ hs0_ hu95
    refine ax_getR (q := 168) hX dc_M_shown_165 rfl fl_M_31 rfl hs0_ hu95 ?_
    refine ax_iload (q := 170) hX dc_M_shown_168 rfl rfl ?_
    obtain ⟨j98, hj99, h⟩ := ax_bd h
    have hj99 := ax_ix_s hty hs96 hj99
    refine ax_iald (q := 171) hX j98 dc_M_shown_170 rfl hs96 hj99.1 hj99.2.1 hj99.2.2 ?_
    exact (e_M_shown_171 hX hF hS0  I R u0 (x1) (x2) (x3) (x4) (y0) (I u94 j98) hty hs0_ rfl h)
  · rw [if_neg z93] at h
    refine ax_aload_n (q := 155) hX dc_M_shown_154 rfl rfl rfl ?_
    obtain ⟨u100, hu101, h⟩ := ax_bd h
    obtain ⟨n103, hs102⟩ : ∃ n, S u100 = some (.inr (0, n)) := hty.1 _ _ _ _ hs0_ hu101
    refine ax_getR (q := 158) hX dc_M_shown_155 rfl fl_M_28 rfl hs0_ hu101 ?_
    refine ax_iload (q := 160) hX dc_M_shown_158 rfl rfl ?_
    obtain ⟨j104, hj105, h⟩ := ax_bd h
    have hj105 := ax_ix_s hty hs102 hj105
    refine ax_iald (q := 161) hX j104 dc_M_shown_160 rfl hs102 hj105.1 hj105.2.1 hj105.2.2 ?_
    refine ax_goto (tgt := 171) hX dc_M_shown_161 (by decide) ?_
    exact (e_M_shown_171 hX hF hS0  I R u0 (x1) (x2) (x3) (x4) (y0) (I u100 j104) hty hs0_ rfl h)
def d_M_shown_20 (S : ax_S) : Nat → ax_I → ax_R → Nat → Int32 → Int32 → Int32 → Option (Int32 × ax_I)
  | 0, _, _, _, _, _, _ => none
  | n + 1, I, R, u0, x1, x2, x3 =>
    (R u0 6).bind fun u7 =>
    (ax_ix S u7 (I u0 3)).bind fun j11 =>
    if (I u7 j11) ≤ x3 then
      d_M_shown_218 S  I R u0
    else
      if (I u0 0) = 0 then
        (d_M_tileAt S I R u0 (x3)).bind fun r17 =>
        (R u0 8).bind fun u18 =>
        (ax_ix S u18 (r17)).bind fun j22 =>
        (R u0 8).bind fun u24 =>
        (ax_ix S u24 (r17)).bind fun j28 =>
        (R u0 10).bind fun u30 =>
        (ax_ix S u30 (r17)).bind fun j34 =>
        (d_M_in S I R (x1) (I u18 j22) (((I u24 j28) + (I u30 j34)) - 1)).bind fun r38 =>
        if (ax_b r38) = 0 then
          d_M_shown_212 S (d_M_shown_20 S  n) I R u0 (x1) (x2) (x3)
        else
          (R u0 9).bind fun u40 =>
          (ax_ix S u40 (r17)).bind fun j44 =>
          (R u0 9).bind fun u46 =>
          (ax_ix S u46 (r17)).bind fun j50 =>
          (R u0 11).bind fun u52 =>
          (ax_ix S u52 (r17)).bind fun j56 =>
          (d_M_in S I R (x2) (I u40 j44) (((I u46 j50) + (I u52 j56)) - 1)).bind fun r60 =>
          if (ax_b r60) = 0 then
            d_M_shown_212 S (d_M_shown_20 S  n) I R u0 (x1) (x2) (x3)
          else
            (R u0 12).bind fun u62 =>
            (ax_ix S u62 (r17)).bind fun j66 =>
            (d_M_isTurned S I R (I u62 j66)).bind fun r70 =>
            if (ax_b r70) = 0 then
              (R u0 10).bind fun u72 =>
              (ax_ix S u72 (r17)).bind fun j76 =>
              d_M_shown_139 S  I R u0 (x1) (x2) (x3) (r17) (I u72 j76)
            else
              (R u0 11).bind fun u78 =>
              (ax_ix S u78 (r17)).bind fun j82 =>
              d_M_shown_139 S  I R u0 (x1) (x2) (x3) (r17) (I u78 j82)
      else
        d_M_shown_218 S  I R u0
set_option maxHeartbeats 1000000 in
theorem e_M_shown_20 {l : Launch} {X : ax_X} {S : ax_S} {L : ax_L} {R0 : ax_R} {out : Int32 × ax_I} (hX : ax_ok X l "LossFreeToolsModel" b_M_shown 7 (ax_rm 3 0 0)) (hF : ax_fin X (some .int) 0 0 (ax_of (ax_eq (some (.int out.1)) S out.2 R0 L))) (hS0 : ax_S0 X = S) : ∀ (n : Nat), ∀ (I : ax_I) (R : ax_R) (u0 : Nat) (x1 : Int32) (x2 : Int32) (x3 : Int32), ax_typ S R → (S u0 = some (.inl 5)) → R = R0 → d_M_shown_20 S  n I R u0 x1 x2 x3 = some out → ax_W X 7 20 [some (.ref u0), some (.int (x1)), some (.int (x2)), some (.int (x3)), none, none, none] [] S I R L 0 0 := by
  intro n
  induction n with
  | zero =>
    rintro I R u0 x1 x2 x3 hty hs0_ hR0 h
    cases h
  | succ n ih =>
    rintro I R u0 x1 x2 x3 hty hs0_ hR0 h
    subst hR0
    unfold d_M_shown_20 at h
    refine ax_iload_n (q := 21) hX dc_M_shown_20 rfl rfl rfl ?_
    refine ax_aload_n (q := 22) hX dc_M_shown_21 rfl rfl rfl ?_
    obtain ⟨u7, hu8, h⟩ := ax_bd h
    obtain ⟨n10, hs9⟩ : ∃ n, S u7 = some (.inr (0, n)) := hty.1 _ _ _ _ hs0_ hu8
    refine ax_getR (q := 25) hX dc_M_shown_22 rfl fl_M_16 rfl hs0_ hu8 ?_
    refine ax_aload_n (q := 26) hX dc_M_shown_25 rfl rfl rfl ?_
    refine ax_getI (q := 29) hX dc_M_shown_26 rfl fl_M_71 rfl hs0_ ?_
    obtain ⟨j11, hj12, h⟩ := ax_bd h
    have hj12 := ax_ix_s hty hs9 hj12
    refine ax_iald (q := 30) hX j11 dc_M_shown_29 rfl hs9 hj12.1 hj12.2.1 hj12.2.2 ?_
    refine ax_icmp_ge (tgt := 218) (q := 33) hX dc_M_shown_30 rfl (by decide) (fun z13 => ?_) (fun z13 => ?_)
    · rw [if_pos z13] at h
      exact ax_weak (ls' := [some (.ref u0), none, none, none, none, none, none]) (ax_fewP_s _ _ (by repeat (first | exact trivial | (refine And.intro rfl ?_)))) (e_M_shown_218 hX hF hS0  I R u0 hty hs0_ rfl h)
    · rw [if_neg z13] at h
      refine ax_aload_n (q := 34) hX dc_M_shown_33 rfl rfl rfl ?_
      refine ax_getI (q := 37) hX dc_M_shown_34 rfl fl_M_68 rfl hs0_ ?_
      refine ax_if_ne (tgt := 218) (q := 40) hX dc_M_shown_37 rfl (by decide) (fun z14 => ?_) (fun z14 => ?_)
      · rw [if_neg z14] at h
        exact ax_weak (ls' := [some (.ref u0), none, none, none, none, none, none]) (ax_fewP_s _ _ (by repeat (first | exact trivial | (refine And.intro rfl ?_)))) (e_M_shown_218 hX hF hS0  I R u0 hty hs0_ rfl h)
      · rw [if_pos z14] at h
        refine ax_aload_n (q := 41) hX dc_M_shown_40 rfl rfl rfl ?_
        refine ax_iload_n (q := 42) hX dc_M_shown_41 rfl rfl rfl ?_
        obtain ⟨r17, hr15, h⟩ := ax_bd h
        refine ax_kV (vs := [.int (x3)]) (rest := []) (q := 45) hX dc_M_shown_42 rfl mt_M_tileAt wl_M_92 wi_M_tileAt ws_M_tileAt hs0_ rfl (c_M_tileAt l hty hs0_ hr15) rfl (by decide) rfl (Nat.le_of_ble_eq_true rfl) rfl rfl (by decide) (by decide) rfl ?_
        refine ax_istore (ls' := [some (.ref u0), some (.int (x1)), some (.int (x2)), some (.int (x3)), some (.int (r17)), none, none]) (q := 47) hX dc_M_shown_45 rfl (by decide) rfl ?_
        refine ax_iload_n (q := 48) hX dc_M_shown_47 rfl rfl rfl ?_
        refine ax_aload_n (q := 49) hX dc_M_shown_48 rfl rfl rfl ?_
        obtain ⟨u18, hu19, h⟩ := ax_bd h
        obtain ⟨n21, hs20⟩ : ∃ n, S u18 = some (.inr (0, n)) := hty.1 _ _ _ _ hs0_ hu19
        refine ax_getR (q := 52) hX dc_M_shown_49 rfl fl_M_22 rfl hs0_ hu19 ?_
        refine ax_iload (q := 54) hX dc_M_shown_52 rfl rfl ?_
        obtain ⟨j22, hj23, h⟩ := ax_bd h
        have hj23 := ax_ix_s hty hs20 hj23
        refine ax_iald (q := 55) hX j22 dc_M_shown_54 rfl hs20 hj23.1 hj23.2.1 hj23.2.2 ?_
        refine ax_aload_n (q := 56) hX dc_M_shown_55 rfl rfl rfl ?_
        obtain ⟨u24, hu25, h⟩ := ax_bd h
        obtain ⟨n27, hs26⟩ : ∃ n, S u24 = some (.inr (0, n)) := hty.1 _ _ _ _ hs0_ hu25
        refine ax_getR (q := 59) hX dc_M_shown_56 rfl fl_M_22 rfl hs0_ hu25 ?_
        refine ax_iload (q := 61) hX dc_M_shown_59 rfl rfl ?_
        obtain ⟨j28, hj29, h⟩ := ax_bd h
        have hj29 := ax_ix_s hty hs26 hj29
        refine ax_iald (q := 62) hX j28 dc_M_shown_61 rfl hs26 hj29.1 hj29.2.1 hj29.2.2 ?_
        refine ax_aload_n (q := 63) hX dc_M_shown_62 rfl rfl rfl ?_
        obtain ⟨u30, hu31, h⟩ := ax_bd h
        obtain ⟨n33, hs32⟩ : ∃ n, S u30 = some (.inr (0, n)) := hty.1 _ _ _ _ hs0_ hu31
        refine ax_getR (q := 66) hX dc_M_shown_63 rfl fl_M_28 rfl hs0_ hu31 ?_
        refine ax_iload (q := 68) hX dc_M_shown_66 rfl rfl ?_
        obtain ⟨j34, hj35, h⟩ := ax_bd h
        have hj35 := ax_ix_s hty hs32 hj35
        refine ax_iald (q := 69) hX j34 dc_M_shown_68 rfl hs32 hj35.1 hj35.2.1 hj35.2.2 ?_
        refine ax_iadd (q := 70) hX dc_M_shown_69 rfl ?_
        refine ax_iconst (v := 1) (q := 71) hX dc_M_shown_70 rfl (by decide) ?_
        refine ax_isub (q := 72) hX dc_M_shown_71 rfl ?_
        obtain ⟨r38, hr36, h⟩ := ax_bd h
        refine ax_kS (vs := [.int (x1), .int (I u18 j22), .int (((I u24 j28) + (I u30 j34)) - 1)]) (rest := []) (q := 75) hX dc_M_shown_72 rfl mt_M_in wl_M_84 wt_M_in (c_M_in l hty  hr36) rfl (by decide) rfl (Nat.le_of_ble_eq_true rfl) rfl rfl (by decide) (by decide) rfl ?_
        refine ax_if_eq (tgt := 212) (q := 78) hX dc_M_shown_75 rfl (by decide) (fun z39 => ?_) (fun z39 => ?_)
        · rw [if_pos z39] at h
          exact ax_weak (ls' := [some (.ref u0), some (.int (x1)), some (.int (x2)), some (.int (x3)), none, none, none]) (ax_fewP_s _ _ (by repeat (first | exact trivial | (refine And.intro rfl ?_)))) (e_M_shown_212 hX hF hS0 (d_M_shown_20 S  n) (ih) I R u0 (x1) (x2) (x3) hty hs0_ rfl h)
        · rw [if_neg z39] at h
          refine ax_iload_n (q := 79) hX dc_M_shown_78 rfl rfl rfl ?_
          refine ax_aload_n (q := 80) hX dc_M_shown_79 rfl rfl rfl ?_
          obtain ⟨u40, hu41, h⟩ := ax_bd h
          obtain ⟨n43, hs42⟩ : ∃ n, S u40 = some (.inr (0, n)) := hty.1 _ _ _ _ hs0_ hu41
          refine ax_getR (q := 83) hX dc_M_shown_80 rfl fl_M_25 rfl hs0_ hu41 ?_
          refine ax_iload (q := 85) hX dc_M_shown_83 rfl rfl ?_
          obtain ⟨j44, hj45, h⟩ := ax_bd h
          have hj45 := ax_ix_s hty hs42 hj45
          refine ax_iald (q := 86) hX j44 dc_M_shown_85 rfl hs42 hj45.1 hj45.2.1 hj45.2.2 ?_
          refine ax_aload_n (q := 87) hX dc_M_shown_86 rfl rfl rfl ?_
          obtain ⟨u46, hu47, h⟩ := ax_bd h
          obtain ⟨n49, hs48⟩ : ∃ n, S u46 = some (.inr (0, n)) := hty.1 _ _ _ _ hs0_ hu47
          refine ax_getR (q := 90) hX dc_M_shown_87 rfl fl_M_25 rfl hs0_ hu47 ?_
          refine ax_iload (q := 92) hX dc_M_shown_90 rfl rfl ?_
          obtain ⟨j50, hj51, h⟩ := ax_bd h
          have hj51 := ax_ix_s hty hs48 hj51
          refine ax_iald (q := 93) hX j50 dc_M_shown_92 rfl hs48 hj51.1 hj51.2.1 hj51.2.2 ?_
          refine ax_aload_n (q := 94) hX dc_M_shown_93 rfl rfl rfl ?_
          obtain ⟨u52, hu53, h⟩ := ax_bd h
          obtain ⟨n55, hs54⟩ : ∃ n, S u52 = some (.inr (0, n)) := hty.1 _ _ _ _ hs0_ hu53
          refine ax_getR (q := 97) hX dc_M_shown_94 rfl fl_M_31 rfl hs0_ hu53 ?_
          refine ax_iload (q := 99) hX dc_M_shown_97 rfl rfl ?_
          obtain ⟨j56, hj57, h⟩ := ax_bd h
          have hj57 := ax_ix_s hty hs54 hj57
          refine ax_iald (q := 100) hX j56 dc_M_shown_99 rfl hs54 hj57.1 hj57.2.1 hj57.2.2 ?_
          refine ax_iadd (q := 101) hX dc_M_shown_100 rfl ?_
          refine ax_iconst (v := 1) (q := 102) hX dc_M_shown_101 rfl (by decide) ?_
          refine ax_isub (q := 103) hX dc_M_shown_102 rfl ?_
          obtain ⟨r60, hr58, h⟩ := ax_bd h
          refine ax_kS (vs := [.int (x2), .int (I u40 j44), .int (((I u46 j50) + (I u52 j56)) - 1)]) (rest := []) (q := 106) hX dc_M_shown_103 rfl mt_M_in wl_M_84 wt_M_in (c_M_in l hty  hr58) rfl (by decide) rfl (Nat.le_of_ble_eq_true rfl) rfl rfl (by decide) (by decide) rfl ?_
          refine ax_if_eq (tgt := 212) (q := 109) hX dc_M_shown_106 rfl (by decide) (fun z61 => ?_) (fun z61 => ?_)
          · rw [if_pos z61] at h
            exact ax_weak (ls' := [some (.ref u0), some (.int (x1)), some (.int (x2)), some (.int (x3)), none, none, none]) (ax_fewP_s _ _ (by repeat (first | exact trivial | (refine And.intro rfl ?_)))) (e_M_shown_212 hX hF hS0 (d_M_shown_20 S  n) (ih) I R u0 (x1) (x2) (x3) hty hs0_ rfl h)
          · rw [if_neg z61] at h
            refine ax_aload_n (q := 110) hX dc_M_shown_109 rfl rfl rfl ?_
            obtain ⟨u62, hu63, h⟩ := ax_bd h
            obtain ⟨n65, hs64⟩ : ∃ n, S u62 = some (.inr (0, n)) := hty.1 _ _ _ _ hs0_ hu63
            refine ax_getR (q := 113) hX dc_M_shown_110 rfl fl_M_34 rfl hs0_ hu63 ?_
            refine ax_iload (q := 115) hX dc_M_shown_113 rfl rfl ?_
            obtain ⟨j66, hj67, h⟩ := ax_bd h
            have hj67 := ax_ix_s hty hs64 hj67
            refine ax_iald (q := 116) hX j66 dc_M_shown_115 rfl hs64 hj67.1 hj67.2.1 hj67.2.2 ?_
            obtain ⟨r70, hr68, h⟩ := ax_bd h
            refine ax_kS (vs := [.int (I u62 j66)]) (rest := []) (q := 119) hX dc_M_shown_116 rfl mt_M_isTurned wl_M_123 wt_M_isTurned (c_M_isTurned l hty  hr68) rfl (by decide) rfl (Nat.le_of_ble_eq_true rfl) rfl rfl (by decide) (by decide) rfl ?_
            refine ax_if_eq (tgt := 132) (q := 122) hX dc_M_shown_119 rfl (by decide) (fun z71 => ?_) (fun z71 => ?_)
            · rw [if_pos z71] at h
              refine ax_aload_n (q := 133) hX dc_M_shown_132 rfl rfl rfl ?_
              obtain ⟨u72, hu73, h⟩ := ax_bd h
              obtain ⟨n75, hs74⟩ : ∃ n, S u72 = some (.inr (0, n)) := hty.1 _ _ _ _ hs0_ hu73
              refine ax_getR (q := 136) hX dc_M_shown_133 rfl fl_M_28 rfl hs0_ hu73 ?_
              refine ax_iload (q := 138) hX dc_M_shown_136 rfl rfl ?_
              obtain ⟨j76, hj77, h⟩ := ax_bd h
              have hj77 := ax_ix_s hty hs74 hj77
              refine ax_iald (q := 139) hX j76 dc_M_shown_138 rfl hs74 hj77.1 hj77.2.1 hj77.2.2 ?_
              exact (e_M_shown_139 hX hF hS0  I R u0 (x1) (x2) (x3) (r17) (I u72 j76) hty hs0_ rfl h)
            · rw [if_neg z71] at h
              refine ax_aload_n (q := 123) hX dc_M_shown_122 rfl rfl rfl ?_
              obtain ⟨u78, hu79, h⟩ := ax_bd h
              obtain ⟨n81, hs80⟩ : ∃ n, S u78 = some (.inr (0, n)) := hty.1 _ _ _ _ hs0_ hu79
              refine ax_getR (q := 126) hX dc_M_shown_123 rfl fl_M_31 rfl hs0_ hu79 ?_
              refine ax_iload (q := 128) hX dc_M_shown_126 rfl rfl ?_
              obtain ⟨j82, hj83, h⟩ := ax_bd h
              have hj83 := ax_ix_s hty hs80 hj83
              refine ax_iald (q := 129) hX j82 dc_M_shown_128 rfl hs80 hj83.1 hj83.2.1 hj83.2.2 ?_
              refine ax_goto (tgt := 139) hX dc_M_shown_129 (by decide) ?_
              exact (e_M_shown_139 hX hF hS0  I R u0 (x1) (x2) (x3) (r17) (I u78 j82) hty hs0_ rfl h)
def d_M_shown_15 (S : ax_S) (I : ax_I) (R : ax_R) (u0 : Nat) (x1 : Int32) (x2 : Int32) (y0 : Int32) (w1 : Nat) : Option (Int32 × ax_I) :=
  (some (ax_up I w1 0 (y0))).bind fun I5 =>
  d_M_shown_20 S  5000 I5 R u0 (x1) (x2) (0)
set_option maxHeartbeats 1000000 in
theorem e_M_shown_15 {l : Launch} {X : ax_X} {S : ax_S} {L : ax_L} {R0 : ax_R} {out : Int32 × ax_I} (hX : ax_ok X l "LossFreeToolsModel" b_M_shown 7 (ax_rm 3 0 0)) (hF : ax_fin X (some .int) 0 0 (ax_of (ax_eq (some (.int out.1)) S out.2 R0 L))) (hS0 : ax_S0 X = S) : ∀ (I : ax_I) (R : ax_R) (u0 : Nat) (x1 : Int32) (x2 : Int32) (y0 : Int32) (w1 : Nat), ax_typ S R → (S u0 = some (.inl 5)) → (S w1 = some (.inl 5)) → R = R0 → d_M_shown_15 S  I R u0 x1 x2 y0 w1 = some out → ax_W X 7 15 [some (.ref u0), some (.int (x1)), some (.int (x2)), none, none, none, none] [.int (y0), .ref w1] S I R L 0 0 := by
  rintro I R u0 x1 x2 y0 w1 hty hs0_ hw1_ hR0 h
  subst hR0
  unfold d_M_shown_15 at h
  obtain ⟨I5, e6, h⟩ := ax_bs h
  refine ax_putI (q := 18) hX dc_M_shown_15 rfl fl_M_68 rfl hw1_ (fun z => by cases z) rfl rfl e6 ?_
  refine ax_iconst (v := 0) (q := 19) hX dc_M_shown_18 rfl (by decide) ?_
  refine ax_istore_n (ls' := [some (.ref u0), some (.int (x1)), some (.int (x2)), some (.int (0)), none, none, none]) (q := 20) hX dc_M_shown_19 rfl rfl (by decide) rfl ?_
  exact (e_M_shown_20 hX hF hS0  5000 I5 R u0 (x1) (x2) (0) hty hs0_ rfl h)
def d_M_shown (S : ax_S) (I : ax_I) (R : ax_R) (u0 : Nat) (x1 : Int32) (x2 : Int32) : Option (Int32 × ax_I) :=
  (d_M_isSample S I R u0 (x1) (x2)).bind fun r3 =>
  if (ax_b r3) = 0 then
    d_M_shown_15 S  I R u0 (x1) (x2) (1) u0
  else
    d_M_shown_15 S  I R u0 (x1) (x2) (0) u0
set_option maxHeartbeats 1000000 in
theorem c_M_shown (l : Launch) {S : ax_S} {I : ax_I} {R : ax_R} {L : ax_L} {u0 : Nat} {x1 : Int32} {x2 : Int32} {out : Int32 × ax_I} (hty : ax_typ S R) (hs0 : S u0 = some (.inl 5)) (h : d_M_shown S I R u0 x1 x2 = some out) : ax_Met l y_M_shown b_M_shown 7 (some .int) (ax_rm 3 0 0) [.ref u0, .int x1, .int x2] S I R L (ax_eq (some (.int out.1)) S out.2 R L) := by
  refine ax_enter (own := "LossFreeToolsModel") (by decide +kernel) rfl (ax_cats rfl) (Nat.le_of_ble_eq_true rfl) (fun X hX hF _ hS0 => ?_)
  show ax_W X 7 0 [some (.ref u0), some (.int (x1)), some (.int (x2)), none, none, none, none] [] S I R L 0 0
  unfold d_M_shown at h
  refine ax_aload_n (q := 1) hX dc_M_shown_0 rfl rfl rfl ?_
  refine ax_aload_n (q := 2) hX dc_M_shown_1 rfl rfl rfl ?_
  refine ax_iload_n (q := 3) hX dc_M_shown_2 rfl rfl rfl ?_
  refine ax_iload_n (q := 4) hX dc_M_shown_3 rfl rfl rfl ?_
  obtain ⟨r3, hr1, h⟩ := ax_bd h
  refine ax_kV (vs := [.int (x1), .int (x2)]) (rest := [.ref u0]) (q := 7) hX dc_M_shown_4 rfl mt_M_isSample wl_M_100 wi_M_isSample ws_M_isSample hs0 rfl (c_M_isSample l hty hs0 hr1) rfl (by decide) rfl (Nat.le_of_ble_eq_true rfl) rfl rfl (by decide) (by decide) rfl ?_
  refine ax_if_eq (tgt := 14) (q := 10) hX dc_M_shown_7 rfl (by decide) (fun z4 => ?_) (fun z4 => ?_)
  · rw [if_pos z4] at h
    refine ax_iconst (v := 1) (q := 15) hX dc_M_shown_14 rfl (by decide) ?_
    exact (e_M_shown_15 hX hF hS0  I R u0 (x1) (x2) (1) u0 hty hs0 hs0 rfl h)
  · rw [if_neg z4] at h
    refine ax_iconst (v := 0) (q := 11) hX dc_M_shown_10 rfl (by decide) ?_
    refine ax_goto (tgt := 15) hX dc_M_shown_11 (by decide) ?_
    exact (e_M_shown_15 hX hF hS0  I R u0 (x1) (x2) (0) u0 hty hs0 hs0 rfl h)
def d_M_pointer_14 (S : ax_S) (I : ax_I) (R : ax_R) (u0 : Nat) (x1 : Int32) (y0 : Int32) (w1 : Nat) : Option (Int32 × ax_I) :=
  (some (ax_up I w1 0 (y0))).bind fun I5 =>
  if (I5 u0 0) ≤ 0 then
    (d_M_pointerOf S I5 R u0 (x1)).bind fun r10 =>
    some (r10, I5)
  else
    some (0, I5)
set_option maxHeartbeats 1000000 in
theorem e_M_pointer_14 {l : Launch} {X : ax_X} {S : ax_S} {L : ax_L} {R0 : ax_R} {out : Int32 × ax_I} (hX : ax_ok X l "LossFreeToolsModel" b_M_pointer 2 (ax_rm 3 0 0)) (hF : ax_fin X (some .int) 0 0 (ax_of (ax_eq (some (.int out.1)) S out.2 R0 L))) (hS0 : ax_S0 X = S) : ∀ (I : ax_I) (R : ax_R) (u0 : Nat) (x1 : Int32) (y0 : Int32) (w1 : Nat), ax_typ S R → (S u0 = some (.inl 5)) → (S w1 = some (.inl 5)) → R = R0 → d_M_pointer_14 S  I R u0 x1 y0 w1 = some out → ax_W X 2 14 [some (.ref u0), some (.int (x1))] [.int (y0), .ref w1] S I R L 0 0 := by
  rintro I R u0 x1 y0 w1 hty hs0_ hw1_ hR0 h
  subst hR0
  unfold d_M_pointer_14 at h
  obtain ⟨I5, e6, h⟩ := ax_bs h
  refine ax_putI (q := 17) hX dc_M_pointer_14 rfl fl_M_68 rfl hw1_ (fun z => by cases z) rfl rfl e6 ?_
  refine ax_aload_n (q := 18) hX dc_M_pointer_17 rfl rfl rfl ?_
  refine ax_getI (q := 21) hX dc_M_pointer_18 rfl fl_M_68 rfl hs0_ ?_
  refine ax_if_le (tgt := 28) (q := 24) hX dc_M_pointer_21 rfl (by decide) (fun z7 => ?_) (fun z7 => ?_)
  · rw [if_pos z7] at h
    refine ax_aload_n (q := 29) hX dc_M_pointer_28 rfl rfl rfl ?_
    refine ax_iload_n (q := 30) hX dc_M_pointer_29 rfl rfl rfl ?_
    obtain ⟨r10, hr8, h⟩ := ax_bd h
    refine ax_kV (vs := [.int (x1)]) (rest := []) (q := 33) hX dc_M_pointer_30 rfl mt_M_pointerOf wl_M_143 wi_M_pointerOf ws_M_pointerOf hs0_ rfl (c_M_pointerOf l hty hs0_ hr8) rfl (by decide) rfl (Nat.le_of_ble_eq_true rfl) rfl rfl (by decide) (by decide) rfl ?_
    cases h
    exact ax_iret hX hF dc_M_pointer_33 rfl rfl (by decide) (by decide) ax_eq.mk (by rw [hS0]; exact fun _ _ z => z)
  · rw [if_neg z7] at h
    refine ax_iconst (v := 0) (q := 25) hX dc_M_pointer_24 rfl (by decide) ?_
    refine ax_goto (tgt := 33) hX dc_M_pointer_25 (by decide) ?_
    cases h
    exact ax_iret hX hF dc_M_pointer_33 rfl rfl (by decide) (by decide) ax_eq.mk (by rw [hS0]; exact fun _ _ z => z)
def d_M_pointer (S : ax_S) (I : ax_I) (R : ax_R) (u0 : Nat) (x1 : Int32) : Option (Int32 × ax_I) :=
  (d_M_isTile S I R u0 (x1)).bind fun r3 =>
  if (ax_b r3) = 0 then
    d_M_pointer_14 S  I R u0 (x1) (1) u0
  else
    d_M_pointer_14 S  I R u0 (x1) (0) u0
set_option maxHeartbeats 1000000 in
theorem c_M_pointer (l : Launch) {S : ax_S} {I : ax_I} {R : ax_R} {L : ax_L} {u0 : Nat} {x1 : Int32} {out : Int32 × ax_I} (hty : ax_typ S R) (hs0 : S u0 = some (.inl 5)) (h : d_M_pointer S I R u0 x1 = some out) : ax_Met l y_M_pointer b_M_pointer 2 (some .int) (ax_rm 3 0 0) [.ref u0, .int x1] S I R L (ax_eq (some (.int out.1)) S out.2 R L) := by
  refine ax_enter (own := "LossFreeToolsModel") (by decide +kernel) rfl (ax_cats rfl) (Nat.le_of_ble_eq_true rfl) (fun X hX hF _ hS0 => ?_)
  show ax_W X 2 0 [some (.ref u0), some (.int (x1))] [] S I R L 0 0
  unfold d_M_pointer at h
  refine ax_aload_n (q := 1) hX dc_M_pointer_0 rfl rfl rfl ?_
  refine ax_aload_n (q := 2) hX dc_M_pointer_1 rfl rfl rfl ?_
  refine ax_iload_n (q := 3) hX dc_M_pointer_2 rfl rfl rfl ?_
  obtain ⟨r3, hr1, h⟩ := ax_bd h
  refine ax_kV (vs := [.int (x1)]) (rest := [.ref u0]) (q := 6) hX dc_M_pointer_3 rfl mt_M_isTile wl_M_96 wi_M_isTile ws_M_isTile hs0 rfl (c_M_isTile l hty hs0 hr1) rfl (by decide) rfl (Nat.le_of_ble_eq_true rfl) rfl rfl (by decide) (by decide) rfl ?_
  refine ax_if_eq (tgt := 13) (q := 9) hX dc_M_pointer_6 rfl (by decide) (fun z4 => ?_) (fun z4 => ?_)
  · rw [if_pos z4] at h
    refine ax_iconst (v := 1) (q := 14) hX dc_M_pointer_13 rfl (by decide) ?_
    exact (e_M_pointer_14 hX hF hS0  I R u0 (x1) (1) u0 hty hs0 hs0 rfl h)
  · rw [if_neg z4] at h
    refine ax_iconst (v := 0) (q := 10) hX dc_M_pointer_9 rfl (by decide) ?_
    refine ax_goto (tgt := 14) hX dc_M_pointer_10 (by decide) ?_
    exact (e_M_pointer_14 hX hF hS0  I R u0 (x1) (0) u0 hty hs0 hs0 rfl h)
def d_M_tellPart_103 (S : ax_S) : Nat → ax_I → ax_R → Nat → Int32 → Int32 → Option (ax_I)
  | 0, _, _, _, _, _ => none
  | n + 1, I, R, u0, x3, x4 =>
    if (I u0 22) ≤ x4 then
      (d_M_tellTwo S I R u0 (x3)).bind fun I74 =>
      some (I74)
    else
      (R u0 21).bind fun u75 =>
      (ax_ix S u75 (x4)).bind fun j79 =>
      d_M_tellPart_103 S  n I R u0 (((31 * x3) + (I u75 j79)) - ((31 * x3) + (I u75 j79)) / 65521 * 65521) (x4 + 1)
set_option maxHeartbeats 1000000 in
theorem e_M_tellPart_103 {l : Launch} {X : ax_X} {S : ax_S} {L : ax_L} {R0 : ax_R} {out : ax_I} (hX : ax_ok X l "LossFreeToolsModel" b_M_tellPart 5 (ax_rm 3 0 0)) (hF : ax_fin X none 0 0 (ax_of (ax_eq none S out R0 L))) (hS0 : ax_S0 X = S) : ∀ (n : Nat), ∀ (I : ax_I) (R : ax_R) (u0 : Nat) (x3 : Int32) (x4 : Int32), ax_typ S R → (S u0 = some (.inl 5)) → R = R0 → d_M_tellPart_103 S  n I R u0 x3 x4 = some out → ax_W X 5 103 [some (.ref u0), none, none, some (.int (x3)), some (.int (x4))] [] S I R L 0 0 := by
  intro n
  induction n with
  | zero =>
    rintro I R u0 x3 x4 hty hs0_ hR0 h
    cases h
  | succ n ih =>
    rintro I R u0 x3 x4 hty hs0_ hR0 h
    subst hR0
    unfold d_M_tellPart_103 at h
    refine ax_iload (q := 105) hX dc_M_tellPart_103 rfl rfl ?_
    refine ax_aload_n (q := 106) hX dc_M_tellPart_105 rfl rfl rfl ?_
    refine ax_getI (q := 109) hX dc_M_tellPart_106 rfl fl_M_81 rfl hs0_ ?_
    refine ax_icmp_ge (tgt := 134) (q := 112) hX dc_M_tellPart_109 rfl (by decide) (fun z71 => ?_) (fun z71 => ?_)
    · rw [if_pos z71] at h
      refine ax_aload_n (q := 135) hX dc_M_tellPart_134 rfl rfl rfl ?_
      refine ax_iload_n (q := 136) hX dc_M_tellPart_135 rfl rfl rfl ?_
      obtain ⟨I74, hr72, h⟩ := ax_bd h
      refine ax_kV (vs := [.int (x3)]) (rest := []) (q := 139) hX dc_M_tellPart_136 rfl mt_M_tellTwo wl_M_146 wi_M_tellTwo ws_M_tellTwo hs0_ rfl (c_M_tellTwo l hty hs0_ hr72) rfl (by decide) rfl (Nat.le_of_ble_eq_true rfl) rfl rfl (by decide) (by decide) rfl ?_
      cases h
      exact ax_vret hX hF dc_M_tellPart_139 (by decide) (by decide) ax_eq.mk (by rw [hS0]; exact fun _ _ z => z)
    · rw [if_neg z71] at h
      refine ax_bipush (v := 31) (q := 114) hX dc_M_tellPart_112 rfl (by decide) ?_
      refine ax_iload_n (q := 115) hX dc_M_tellPart_114 rfl rfl rfl ?_
      refine ax_imul (q := 116) hX dc_M_tellPart_115 rfl ?_
      refine ax_aload_n (q := 117) hX dc_M_tellPart_116 rfl rfl rfl ?_
      obtain ⟨u75, hu76, h⟩ := ax_bd h
      obtain ⟨n78, hs77⟩ : ∃ n, S u75 = some (.inr (0, n)) := hty.1 _ _ _ _ hs0_ hu76
      refine ax_getR (q := 120) hX dc_M_tellPart_117 rfl fl_M_55 rfl hs0_ hu76 ?_
      refine ax_iload (q := 122) hX dc_M_tellPart_120 rfl rfl ?_
      obtain ⟨j79, hj80, h⟩ := ax_bd h
      have hj80 := ax_ix_s hty hs77 hj80
      refine ax_iald (q := 123) hX j79 dc_M_tellPart_122 rfl hs77 hj80.1 hj80.2.1 hj80.2.2 ?_
      refine ax_iadd (q := 124) hX dc_M_tellPart_123 rfl ?_
      refine ax_ldc (v := 65521) (q := 126) hX dc_M_tellPart_124 rfl wk_M_149 ?_
      refine ax_irem (q := 127) hX dc_M_tellPart_126 rfl (by decide) ?_
      refine ax_istore_n (ls' := [some (.ref u0), none, none, some (.int (((31 * x3) + (I u75 j79)) - ((31 * x3) + (I u75 j79)) / 65521 * 65521)), some (.int (x4))]) (q := 128) hX dc_M_tellPart_127 rfl rfl (by decide) rfl ?_
      refine ax_iinc (v := x4 + 1) (ls' := [some (.ref u0), none, none, some (.int (((31 * x3) + (I u75 j79)) - ((31 * x3) + (I u75 j79)) / 65521 * 65521)), some (.int (x4 + 1))]) (q := 131) hX dc_M_tellPart_128 rfl rfl rfl (by decide) rfl ?_
      refine ax_goto (tgt := 103) hX dc_M_tellPart_131 (by decide) ?_
      exact (ih I R u0 (((31 * x3) + (I u75 j79)) - ((31 * x3) + (I u75 j79)) / 65521 * 65521) (x4 + 1) hty hs0_ rfl h)
def d_M_tellPart_67 (S : ax_S) : Nat → ax_I → ax_R → Nat → Int32 → Int32 → Int32 → Option (ax_I)
  | 0, _, _, _, _, _, _ => none
  | n + 1, I, R, u0, x1, x2, x3 =>
    (R u0 13).bind fun u55 =>
    (ax_ix S u55 (x1)).bind fun j59 =>
    if (I u55 j59) ≤ x3 then
      d_M_tellPart_103 S  5000 I R u0 (1) (x2)
    else
      (R u0 14).bind fun u62 =>
      (ax_ix S u62 ((12 * x1) + x3)).bind fun j66 =>
      (d_M_tell S I R u0 (I u62 j66)).bind fun I70 =>
      d_M_tellPart_67 S  n I70 R u0 (x1) (x2) (x3 + 1)
set_option maxHeartbeats 1000000 in
theorem e_M_tellPart_67 {l : Launch} {X : ax_X} {S : ax_S} {L : ax_L} {R0 : ax_R} {out : ax_I} (hX : ax_ok X l "LossFreeToolsModel" b_M_tellPart 5 (ax_rm 3 0 0)) (hF : ax_fin X none 0 0 (ax_of (ax_eq none S out R0 L))) (hS0 : ax_S0 X = S) : ∀ (n : Nat), ∀ (I : ax_I) (R : ax_R) (u0 : Nat) (x1 : Int32) (x2 : Int32) (x3 : Int32), ax_typ S R → (S u0 = some (.inl 5)) → R = R0 → d_M_tellPart_67 S  n I R u0 x1 x2 x3 = some out → ax_W X 5 67 [some (.ref u0), some (.int (x1)), some (.int (x2)), some (.int (x3)), none] [] S I R L 0 0 := by
  intro n
  induction n with
  | zero =>
    rintro I R u0 x1 x2 x3 hty hs0_ hR0 h
    cases h
  | succ n ih =>
    rintro I R u0 x1 x2 x3 hty hs0_ hR0 h
    subst hR0
    unfold d_M_tellPart_67 at h
    refine ax_iload_n (q := 68) hX dc_M_tellPart_67 rfl rfl rfl ?_
    refine ax_aload_n (q := 69) hX dc_M_tellPart_68 rfl rfl rfl ?_
    obtain ⟨u55, hu56, h⟩ := ax_bd h
    obtain ⟨n58, hs57⟩ : ∃ n, S u55 = some (.inr (0, n)) := hty.1 _ _ _ _ hs0_ hu56
    refine ax_getR (q := 72) hX dc_M_tellPart_69 rfl fl_M_37 rfl hs0_ hu56 ?_
    refine ax_iload_n (q := 73) hX dc_M_tellPart_72 rfl rfl rfl ?_
    obtain ⟨j59, hj60, h⟩ := ax_bd h
    have hj60 := ax_ix_s hty hs57 hj60
    refine ax_iald (q := 74) hX j59 dc_M_tellPart_73 rfl hs57 hj60.1 hj60.2.1 hj60.2.2 ?_
    refine ax_icmp_ge (tgt := 98) (q := 77) hX dc_M_tellPart_74 rfl (by decide) (fun z61 => ?_) (fun z61 => ?_)
    · rw [if_pos z61] at h
      refine ax_iconst (v := 1) (q := 99) hX dc_M_tellPart_98 rfl (by decide) ?_
      refine ax_istore_n (ls' := [some (.ref u0), some (.int (x1)), some (.int (x2)), some (.int (1)), none]) (q := 100) hX dc_M_tellPart_99 rfl rfl (by decide) rfl ?_
      refine ax_iload_n (q := 101) hX dc_M_tellPart_100 rfl rfl rfl ?_
      refine ax_istore (ls' := [some (.ref u0), some (.int (x1)), some (.int (x2)), some (.int (1)), some (.int (x2))]) (q := 103) hX dc_M_tellPart_101 rfl (by decide) rfl ?_
      exact ax_weak (ls' := [some (.ref u0), none, none, some (.int (1)), some (.int (x2))]) (ax_fewP_s _ _ (by repeat (first | exact trivial | (refine And.intro rfl ?_)))) (e_M_tellPart_103 hX hF hS0  5000 I R u0 (1) (x2) hty hs0_ rfl h)
    · rw [if_neg z61] at h
      refine ax_aload_n (q := 78) hX dc_M_tellPart_77 rfl rfl rfl ?_
      refine ax_aload_n (q := 79) hX dc_M_tellPart_78 rfl rfl rfl ?_
      obtain ⟨u62, hu63, h⟩ := ax_bd h
      obtain ⟨n65, hs64⟩ : ∃ n, S u62 = some (.inr (0, n)) := hty.1 _ _ _ _ hs0_ hu63
      refine ax_getR (q := 82) hX dc_M_tellPart_79 rfl fl_M_40 rfl hs0_ hu63 ?_
      refine ax_bipush (v := 12) (q := 84) hX dc_M_tellPart_82 rfl (by decide) ?_
      refine ax_iload_n (q := 85) hX dc_M_tellPart_84 rfl rfl rfl ?_
      refine ax_imul (q := 86) hX dc_M_tellPart_85 rfl ?_
      refine ax_iload_n (q := 87) hX dc_M_tellPart_86 rfl rfl rfl ?_
      refine ax_iadd (q := 88) hX dc_M_tellPart_87 rfl ?_
      obtain ⟨j66, hj67, h⟩ := ax_bd h
      have hj67 := ax_ix_s hty hs64 hj67
      refine ax_iald (q := 89) hX j66 dc_M_tellPart_88 rfl hs64 hj67.1 hj67.2.1 hj67.2.2 ?_
      obtain ⟨I70, hr68, h⟩ := ax_bd h
      refine ax_kV (vs := [.int (I u62 j66)]) (rest := []) (q := 92) hX dc_M_tellPart_89 rfl mt_M_tell wl_M_133 wi_M_tell ws_M_tell hs0_ rfl (c_M_tell l hty hs0_ hr68) rfl (by decide) rfl (Nat.le_of_ble_eq_true rfl) rfl rfl (by decide) (by decide) rfl ?_
      refine ax_iinc (v := x3 + 1) (ls' := [some (.ref u0), some (.int (x1)), some (.int (x2)), some (.int (x3 + 1)), none]) (q := 95) hX dc_M_tellPart_92 rfl rfl rfl (by decide) rfl ?_
      refine ax_goto (tgt := 67) hX dc_M_tellPart_95 (by decide) ?_
      exact (ih I70 R u0 (x1) (x2) (x3 + 1) hty hs0_ rfl h)
def d_M_tellPart (S : ax_S) (I : ax_I) (R : ax_R) (u0 : Nat) (x1 : Int32) : Option (ax_I) :=
  (R u0 8).bind fun u1 =>
  (ax_ix S u1 (x1)).bind fun j5 =>
  (d_M_tellTwo S I R u0 (I u1 j5)).bind fun I9 =>
  (R u0 9).bind fun u10 =>
  (ax_ix S u10 (x1)).bind fun j14 =>
  (d_M_tellTwo S I9 R u0 (I9 u10 j14)).bind fun I18 =>
  (R u0 10).bind fun u19 =>
  (ax_ix S u19 (x1)).bind fun j23 =>
  (d_M_tellTwo S I18 R u0 (I18 u19 j23)).bind fun I27 =>
  (R u0 11).bind fun u28 =>
  (ax_ix S u28 (x1)).bind fun j32 =>
  (d_M_tellTwo S I27 R u0 (I27 u28 j32)).bind fun I36 =>
  (R u0 12).bind fun u37 =>
  (ax_ix S u37 (x1)).bind fun j41 =>
  (d_M_tell S I36 R u0 (I36 u37 j41)).bind fun I45 =>
  (R u0 13).bind fun u46 =>
  (ax_ix S u46 (x1)).bind fun j50 =>
  (d_M_tell S I45 R u0 (I45 u46 j50)).bind fun I54 =>
  d_M_tellPart_67 S  5000 I54 R u0 (x1) (I u0 22) (0)
set_option maxHeartbeats 1000000 in
theorem c_M_tellPart (l : Launch) {S : ax_S} {I : ax_I} {R : ax_R} {L : ax_L} {u0 : Nat} {x1 : Int32} {out : ax_I} (hty : ax_typ S R) (hs0 : S u0 = some (.inl 5)) (h : d_M_tellPart S I R u0 x1 = some out) : ax_Met l y_M_tellPart b_M_tellPart 5 none (ax_rm 3 0 0) [.ref u0, .int x1] S I R L (ax_eq none S out R L) := by
  refine ax_enter (own := "LossFreeToolsModel") (by decide +kernel) rfl (ax_cats rfl) (Nat.le_of_ble_eq_true rfl) (fun X hX hF _ hS0 => ?_)
  show ax_W X 5 0 [some (.ref u0), some (.int (x1)), none, none, none] [] S I R L 0 0
  unfold d_M_tellPart at h
  refine ax_aload_n (q := 1) hX dc_M_tellPart_0 rfl rfl rfl ?_
  refine ax_getI (q := 4) hX dc_M_tellPart_1 rfl fl_M_81 rfl hs0 ?_
  refine ax_istore_n (ls' := [some (.ref u0), some (.int (x1)), some (.int (I u0 22)), none, none]) (q := 5) hX dc_M_tellPart_4 rfl rfl (by decide) rfl ?_
  refine ax_aload_n (q := 6) hX dc_M_tellPart_5 rfl rfl rfl ?_
  refine ax_aload_n (q := 7) hX dc_M_tellPart_6 rfl rfl rfl ?_
  obtain ⟨u1, hu2, h⟩ := ax_bd h
  obtain ⟨n4, hs3⟩ : ∃ n, S u1 = some (.inr (0, n)) := hty.1 _ _ _ _ hs0 hu2
  refine ax_getR (q := 10) hX dc_M_tellPart_7 rfl fl_M_22 rfl hs0 hu2 ?_
  refine ax_iload_n (q := 11) hX dc_M_tellPart_10 rfl rfl rfl ?_
  obtain ⟨j5, hj6, h⟩ := ax_bd h
  have hj6 := ax_ix_s hty hs3 hj6
  refine ax_iald (q := 12) hX j5 dc_M_tellPart_11 rfl hs3 hj6.1 hj6.2.1 hj6.2.2 ?_
  obtain ⟨I9, hr7, h⟩ := ax_bd h
  refine ax_kV (vs := [.int (I u1 j5)]) (rest := []) (q := 15) hX dc_M_tellPart_12 rfl mt_M_tellTwo wl_M_146 wi_M_tellTwo ws_M_tellTwo hs0 rfl (c_M_tellTwo l hty hs0 hr7) rfl (by decide) rfl (Nat.le_of_ble_eq_true rfl) rfl rfl (by decide) (by decide) rfl ?_
  refine ax_aload_n (q := 16) hX dc_M_tellPart_15 rfl rfl rfl ?_
  refine ax_aload_n (q := 17) hX dc_M_tellPart_16 rfl rfl rfl ?_
  obtain ⟨u10, hu11, h⟩ := ax_bd h
  obtain ⟨n13, hs12⟩ : ∃ n, S u10 = some (.inr (0, n)) := hty.1 _ _ _ _ hs0 hu11
  refine ax_getR (q := 20) hX dc_M_tellPart_17 rfl fl_M_25 rfl hs0 hu11 ?_
  refine ax_iload_n (q := 21) hX dc_M_tellPart_20 rfl rfl rfl ?_
  obtain ⟨j14, hj15, h⟩ := ax_bd h
  have hj15 := ax_ix_s hty hs12 hj15
  refine ax_iald (q := 22) hX j14 dc_M_tellPart_21 rfl hs12 hj15.1 hj15.2.1 hj15.2.2 ?_
  obtain ⟨I18, hr16, h⟩ := ax_bd h
  refine ax_kV (vs := [.int (I9 u10 j14)]) (rest := []) (q := 25) hX dc_M_tellPart_22 rfl mt_M_tellTwo wl_M_146 wi_M_tellTwo ws_M_tellTwo hs0 rfl (c_M_tellTwo l hty hs0 hr16) rfl (by decide) rfl (Nat.le_of_ble_eq_true rfl) rfl rfl (by decide) (by decide) rfl ?_
  refine ax_aload_n (q := 26) hX dc_M_tellPart_25 rfl rfl rfl ?_
  refine ax_aload_n (q := 27) hX dc_M_tellPart_26 rfl rfl rfl ?_
  obtain ⟨u19, hu20, h⟩ := ax_bd h
  obtain ⟨n22, hs21⟩ : ∃ n, S u19 = some (.inr (0, n)) := hty.1 _ _ _ _ hs0 hu20
  refine ax_getR (q := 30) hX dc_M_tellPart_27 rfl fl_M_28 rfl hs0 hu20 ?_
  refine ax_iload_n (q := 31) hX dc_M_tellPart_30 rfl rfl rfl ?_
  obtain ⟨j23, hj24, h⟩ := ax_bd h
  have hj24 := ax_ix_s hty hs21 hj24
  refine ax_iald (q := 32) hX j23 dc_M_tellPart_31 rfl hs21 hj24.1 hj24.2.1 hj24.2.2 ?_
  obtain ⟨I27, hr25, h⟩ := ax_bd h
  refine ax_kV (vs := [.int (I18 u19 j23)]) (rest := []) (q := 35) hX dc_M_tellPart_32 rfl mt_M_tellTwo wl_M_146 wi_M_tellTwo ws_M_tellTwo hs0 rfl (c_M_tellTwo l hty hs0 hr25) rfl (by decide) rfl (Nat.le_of_ble_eq_true rfl) rfl rfl (by decide) (by decide) rfl ?_
  refine ax_aload_n (q := 36) hX dc_M_tellPart_35 rfl rfl rfl ?_
  refine ax_aload_n (q := 37) hX dc_M_tellPart_36 rfl rfl rfl ?_
  obtain ⟨u28, hu29, h⟩ := ax_bd h
  obtain ⟨n31, hs30⟩ : ∃ n, S u28 = some (.inr (0, n)) := hty.1 _ _ _ _ hs0 hu29
  refine ax_getR (q := 40) hX dc_M_tellPart_37 rfl fl_M_31 rfl hs0 hu29 ?_
  refine ax_iload_n (q := 41) hX dc_M_tellPart_40 rfl rfl rfl ?_
  obtain ⟨j32, hj33, h⟩ := ax_bd h
  have hj33 := ax_ix_s hty hs30 hj33
  refine ax_iald (q := 42) hX j32 dc_M_tellPart_41 rfl hs30 hj33.1 hj33.2.1 hj33.2.2 ?_
  obtain ⟨I36, hr34, h⟩ := ax_bd h
  refine ax_kV (vs := [.int (I27 u28 j32)]) (rest := []) (q := 45) hX dc_M_tellPart_42 rfl mt_M_tellTwo wl_M_146 wi_M_tellTwo ws_M_tellTwo hs0 rfl (c_M_tellTwo l hty hs0 hr34) rfl (by decide) rfl (Nat.le_of_ble_eq_true rfl) rfl rfl (by decide) (by decide) rfl ?_
  refine ax_aload_n (q := 46) hX dc_M_tellPart_45 rfl rfl rfl ?_
  refine ax_aload_n (q := 47) hX dc_M_tellPart_46 rfl rfl rfl ?_
  obtain ⟨u37, hu38, h⟩ := ax_bd h
  obtain ⟨n40, hs39⟩ : ∃ n, S u37 = some (.inr (0, n)) := hty.1 _ _ _ _ hs0 hu38
  refine ax_getR (q := 50) hX dc_M_tellPart_47 rfl fl_M_34 rfl hs0 hu38 ?_
  refine ax_iload_n (q := 51) hX dc_M_tellPart_50 rfl rfl rfl ?_
  obtain ⟨j41, hj42, h⟩ := ax_bd h
  have hj42 := ax_ix_s hty hs39 hj42
  refine ax_iald (q := 52) hX j41 dc_M_tellPart_51 rfl hs39 hj42.1 hj42.2.1 hj42.2.2 ?_
  obtain ⟨I45, hr43, h⟩ := ax_bd h
  refine ax_kV (vs := [.int (I36 u37 j41)]) (rest := []) (q := 55) hX dc_M_tellPart_52 rfl mt_M_tell wl_M_133 wi_M_tell ws_M_tell hs0 rfl (c_M_tell l hty hs0 hr43) rfl (by decide) rfl (Nat.le_of_ble_eq_true rfl) rfl rfl (by decide) (by decide) rfl ?_
  refine ax_aload_n (q := 56) hX dc_M_tellPart_55 rfl rfl rfl ?_
  refine ax_aload_n (q := 57) hX dc_M_tellPart_56 rfl rfl rfl ?_
  obtain ⟨u46, hu47, h⟩ := ax_bd h
  obtain ⟨n49, hs48⟩ : ∃ n, S u46 = some (.inr (0, n)) := hty.1 _ _ _ _ hs0 hu47
  refine ax_getR (q := 60) hX dc_M_tellPart_57 rfl fl_M_37 rfl hs0 hu47 ?_
  refine ax_iload_n (q := 61) hX dc_M_tellPart_60 rfl rfl rfl ?_
  obtain ⟨j50, hj51, h⟩ := ax_bd h
  have hj51 := ax_ix_s hty hs48 hj51
  refine ax_iald (q := 62) hX j50 dc_M_tellPart_61 rfl hs48 hj51.1 hj51.2.1 hj51.2.2 ?_
  obtain ⟨I54, hr52, h⟩ := ax_bd h
  refine ax_kV (vs := [.int (I45 u46 j50)]) (rest := []) (q := 65) hX dc_M_tellPart_62 rfl mt_M_tell wl_M_133 wi_M_tell ws_M_tell hs0 rfl (c_M_tell l hty hs0 hr52) rfl (by decide) rfl (Nat.le_of_ble_eq_true rfl) rfl rfl (by decide) (by decide) rfl ?_
  refine ax_iconst (v := 0) (q := 66) hX dc_M_tellPart_65 rfl (by decide) ?_
  refine ax_istore_n (ls' := [some (.ref u0), some (.int (x1)), some (.int (I u0 22)), some (.int (0)), none]) (q := 67) hX dc_M_tellPart_66 rfl rfl (by decide) rfl ?_
  exact (e_M_tellPart_67 hX hF hS0  5000 I54 R u0 (x1) (I u0 22) (0) hty hs0 rfl h)
def d_M_crop_422 (S : ax_S) (rec304 : ax_I → ax_R → Nat → Int32 → Int32 → Int32 → Int32 → Int32 → Int32 → Int32 → Option (Int32 × ax_I)) (I : ax_I) (R : ax_R) (u0 : Nat) (x1 : Int32) (x2 : Int32) (x3 : Int32) (x4 : Int32) (x5 : Int32) (x6 : Int32) (x7 : Int32) : Option (Int32 × ax_I) :=
  rec304 I R u0 (x1) (x2) (x3) (x4) (x5) (x6) (x7 + 1)
set_option maxHeartbeats 1000000 in
theorem e_M_crop_422 {l : Launch} {X : ax_X} {S : ax_S} {L : ax_L} {R0 : ax_R} {out : Int32 × ax_I} (hX : ax_ok X l "LossFreeToolsModel" b_M_crop 8 (ax_rm 4 0 0)) (hF : ax_fin X (some .int) 0 0 (ax_of (ax_eq (some (.int out.1)) S out.2 R0 L))) (hS0 : ax_S0 X = S) (rec304 : ax_I → ax_R → Nat → Int32 → Int32 → Int32 → Int32 → Int32 → Int32 → Int32 → Option (Int32 × ax_I)) (hrec304 : ∀ (I : ax_I) (R : ax_R) (u0 : Nat) (x1 : Int32) (x2 : Int32) (x3 : Int32) (x4 : Int32) (x5 : Int32) (x6 : Int32) (x7 : Int32), ax_typ S R → (S u0 = some (.inl 5)) → R = R0 → rec304 I R u0 x1 x2 x3 x4 x5 x6 x7 = some out → ax_W X 8 304 [some (.ref u0), some (.int (x1)), some (.int (x2)), some (.int (x3)), some (.int (x4)), some (.int (x5)), some (.int (x6)), some (.int (x7))] [] S I R L 0 0) : ∀ (I : ax_I) (R : ax_R) (u0 : Nat) (x1 : Int32) (x2 : Int32) (x3 : Int32) (x4 : Int32) (x5 : Int32) (x6 : Int32) (x7 : Int32), ax_typ S R → (S u0 = some (.inl 5)) → R = R0 → d_M_crop_422 S rec304 I R u0 x1 x2 x3 x4 x5 x6 x7 = some out → ax_W X 8 422 [some (.ref u0), some (.int (x1)), some (.int (x2)), some (.int (x3)), some (.int (x4)), some (.int (x5)), some (.int (x6)), some (.int (x7))] [] S I R L 0 0 := by
  rintro I R u0 x1 x2 x3 x4 x5 x6 x7 hty hs0_ hR0 h
  subst hR0
  unfold d_M_crop_422 at h
  refine ax_iinc (v := x7 + 1) (ls' := [some (.ref u0), some (.int (x1)), some (.int (x2)), some (.int (x3)), some (.int (x4)), some (.int (x5)), some (.int (x6)), some (.int (x7 + 1))]) (q := 425) hX dc_M_crop_422 rfl rfl rfl (by decide) rfl ?_
  refine ax_goto (tgt := 304) hX dc_M_crop_425 (by decide) ?_
  exact (hrec304 I R u0 (x1) (x2) (x3) (x4) (x5) (x6) (x7 + 1) hty hs0_ rfl h)
def d_M_crop_304 (S : ax_S) : Nat → ax_I → ax_R → Nat → Int32 → Int32 → Int32 → Int32 → Int32 → Int32 → Int32 → Option (Int32 × ax_I)
  | 0, _, _, _, _, _, _, _, _, _, _ => none
  | n + 1, I, R, u0, x1, x2, x3, x4, x5, x6, x7 =>
    (R u0 7).bind fun u153 =>
    (ax_ix S u153 (I u0 3)).bind fun j157 =>
    if ((20 * (I u0 3)) + (I u153 j157)) ≤ x7 then
      (R u0 7).bind fun u160 =>
      (ax_ix S u160 (I u0 3)).bind fun j164 =>
      (some (ax_up I u160 j164 (x6))).bind fun I166 =>
      (R u0 4).bind fun u168 =>
      (ax_ix S u168 (I166 u0 3)).bind fun j172 =>
      (some (ax_up I166 u168 j172 (x3))).bind fun I174 =>
      (R u0 5).bind fun u176 =>
      (ax_ix S u176 (I174 u0 3)).bind fun j180 =>
      (some (ax_up I174 u176 j180 (x4))).bind fun I182 =>
      some (x5, I182)
    else
      (R u0 15).bind fun u184 =>
      (ax_ix S u184 (x7)).bind fun j188 =>
      (d_M_in S I R (I u184 j188) (x1) ((x1 + x3) - 1)).bind fun r192 =>
      if (ax_b r192) = 0 then
        d_M_crop_422 S (d_M_crop_304 S  n) I R u0 (x1) (x2) (x3) (x4) (x5) (x6) (x7)
      else
        (R u0 16).bind fun u194 =>
        (ax_ix S u194 (x7)).bind fun j198 =>
        (d_M_in S I R (I u194 j198) (x2) ((x2 + x4) - 1)).bind fun r202 =>
        if (ax_b r202) = 0 then
          d_M_crop_422 S (d_M_crop_304 S  n) I R u0 (x1) (x2) (x3) (x4) (x5) (x6) (x7)
        else
          (d_M_moveNote S I R u0 (x7) ((20 * (I u0 3)) + x6)).bind fun I206 =>
          (R u0 15).bind fun u207 =>
          (ax_ix S u207 ((20 * (I206 u0 3)) + x6)).bind fun j211 =>
          (ax_ix S u207 ((20 * (I206 u0 3)) + x6)).bind fun j213 =>
          (some (ax_up I206 u207 j213 ((I206 u207 j211) - x1))).bind fun I215 =>
          (R u0 16).bind fun u217 =>
          (ax_ix S u217 ((20 * (I215 u0 3)) + x6)).bind fun j221 =>
          (ax_ix S u217 ((20 * (I215 u0 3)) + x6)).bind fun j223 =>
          (some (ax_up I215 u217 j223 ((I215 u217 j221) - x2))).bind fun I225 =>
          d_M_crop_422 S (d_M_crop_304 S  n) I225 R u0 (x1) (x2) (x3) (x4) (x5) (x6 + 1) (x7)
set_option maxHeartbeats 1000000 in
theorem e_M_crop_304 {l : Launch} {X : ax_X} {S : ax_S} {L : ax_L} {R0 : ax_R} {out : Int32 × ax_I} (hX : ax_ok X l "LossFreeToolsModel" b_M_crop 8 (ax_rm 4 0 0)) (hF : ax_fin X (some .int) 0 0 (ax_of (ax_eq (some (.int out.1)) S out.2 R0 L))) (hS0 : ax_S0 X = S) : ∀ (n : Nat), ∀ (I : ax_I) (R : ax_R) (u0 : Nat) (x1 : Int32) (x2 : Int32) (x3 : Int32) (x4 : Int32) (x5 : Int32) (x6 : Int32) (x7 : Int32), ax_typ S R → (S u0 = some (.inl 5)) → R = R0 → d_M_crop_304 S  n I R u0 x1 x2 x3 x4 x5 x6 x7 = some out → ax_W X 8 304 [some (.ref u0), some (.int (x1)), some (.int (x2)), some (.int (x3)), some (.int (x4)), some (.int (x5)), some (.int (x6)), some (.int (x7))] [] S I R L 0 0 := by
  intro n
  induction n with
  | zero =>
    rintro I R u0 x1 x2 x3 x4 x5 x6 x7 hty hs0_ hR0 h
    cases h
  | succ n ih =>
    rintro I R u0 x1 x2 x3 x4 x5 x6 x7 hty hs0_ hR0 h
    subst hR0
    unfold d_M_crop_304 at h
    refine ax_iload (q := 306) hX dc_M_crop_304 rfl rfl ?_
    refine ax_bipush (v := 20) (q := 308) hX dc_M_crop_306 rfl (by decide) ?_
    refine ax_aload_n (q := 309) hX dc_M_crop_308 rfl rfl rfl ?_
    refine ax_getI (q := 312) hX dc_M_crop_309 rfl fl_M_71 rfl hs0_ ?_
    refine ax_imul (q := 313) hX dc_M_crop_312 rfl ?_
    refine ax_aload_n (q := 314) hX dc_M_crop_313 rfl rfl rfl ?_
    obtain ⟨u153, hu154, h⟩ := ax_bd h
    obtain ⟨n156, hs155⟩ : ∃ n, S u153 = some (.inr (0, n)) := hty.1 _ _ _ _ hs0_ hu154
    refine ax_getR (q := 317) hX dc_M_crop_314 rfl fl_M_19 rfl hs0_ hu154 ?_
    refine ax_aload_n (q := 318) hX dc_M_crop_317 rfl rfl rfl ?_
    refine ax_getI (q := 321) hX dc_M_crop_318 rfl fl_M_71 rfl hs0_ ?_
    obtain ⟨j157, hj158, h⟩ := ax_bd h
    have hj158 := ax_ix_s hty hs155 hj158
    refine ax_iald (q := 322) hX j157 dc_M_crop_321 rfl hs155 hj158.1 hj158.2.1 hj158.2.2 ?_
    refine ax_iadd (q := 323) hX dc_M_crop_322 rfl ?_
    refine ax_icmp_ge (tgt := 428) (q := 326) hX dc_M_crop_323 rfl (by decide) (fun z159 => ?_) (fun z159 => ?_)
    · rw [if_pos z159] at h
      refine ax_aload_n (q := 429) hX dc_M_crop_428 rfl rfl rfl ?_
      obtain ⟨u160, hu161, h⟩ := ax_bd h
      obtain ⟨n163, hs162⟩ : ∃ n, S u160 = some (.inr (0, n)) := hty.1 _ _ _ _ hs0_ hu161
      refine ax_getR (q := 432) hX dc_M_crop_429 rfl fl_M_19 rfl hs0_ hu161 ?_
      refine ax_aload_n (q := 433) hX dc_M_crop_432 rfl rfl rfl ?_
      refine ax_getI (q := 436) hX dc_M_crop_433 rfl fl_M_71 rfl hs0_ ?_
      refine ax_iload (q := 438) hX dc_M_crop_436 rfl rfl ?_
      obtain ⟨j164, hj165, h⟩ := ax_bd h
      have hj165 := ax_ix_s hty hs162 hj165
      obtain ⟨I166, e167, h⟩ := ax_bs h
      refine ax_iast (q := 439) hX j164 dc_M_crop_438 rfl hs162 hj165.1 hj165.2.1 hj165.2.2 e167 ?_
      refine ax_aload_n (q := 440) hX dc_M_crop_439 rfl rfl rfl ?_
      obtain ⟨u168, hu169, h⟩ := ax_bd h
      obtain ⟨n171, hs170⟩ : ∃ n, S u168 = some (.inr (0, n)) := hty.1 _ _ _ _ hs0_ hu169
      refine ax_getR (q := 443) hX dc_M_crop_440 rfl fl_M_7 rfl hs0_ hu169 ?_
      refine ax_aload_n (q := 444) hX dc_M_crop_443 rfl rfl rfl ?_
      refine ax_getI (q := 447) hX dc_M_crop_444 rfl fl_M_71 rfl hs0_ ?_
      refine ax_iload_n (q := 448) hX dc_M_crop_447 rfl rfl rfl ?_
      obtain ⟨j172, hj173, h⟩ := ax_bd h
      have hj173 := ax_ix_s hty hs170 hj173
      obtain ⟨I174, e175, h⟩ := ax_bs h
      refine ax_iast (q := 449) hX j172 dc_M_crop_448 rfl hs170 hj173.1 hj173.2.1 hj173.2.2 e175 ?_
      refine ax_aload_n (q := 450) hX dc_M_crop_449 rfl rfl rfl ?_
      obtain ⟨u176, hu177, h⟩ := ax_bd h
      obtain ⟨n179, hs178⟩ : ∃ n, S u176 = some (.inr (0, n)) := hty.1 _ _ _ _ hs0_ hu177
      refine ax_getR (q := 453) hX dc_M_crop_450 rfl fl_M_13 rfl hs0_ hu177 ?_
      refine ax_aload_n (q := 454) hX dc_M_crop_453 rfl rfl rfl ?_
      refine ax_getI (q := 457) hX dc_M_crop_454 rfl fl_M_71 rfl hs0_ ?_
      refine ax_iload (q := 459) hX dc_M_crop_457 rfl rfl ?_
      obtain ⟨j180, hj181, h⟩ := ax_bd h
      have hj181 := ax_ix_s hty hs178 hj181
      obtain ⟨I182, e183, h⟩ := ax_bs h
      refine ax_iast (q := 460) hX j180 dc_M_crop_459 rfl hs178 hj181.1 hj181.2.1 hj181.2.2 e183 ?_
      refine ax_iload (q := 462) hX dc_M_crop_460 rfl rfl ?_
      cases h
      exact ax_iret hX hF dc_M_crop_462 rfl rfl (by decide) (by decide) ax_eq.mk (by rw [hS0]; exact fun _ _ z => z)
    · rw [if_neg z159] at h
      refine ax_aload_n (q := 327) hX dc_M_crop_326 rfl rfl rfl ?_
      obtain ⟨u184, hu185, h⟩ := ax_bd h
      obtain ⟨n187, hs186⟩ : ∃ n, S u184 = some (.inr (0, n)) := hty.1 _ _ _ _ hs0_ hu185
      refine ax_getR (q := 330) hX dc_M_crop_327 rfl fl_M_43 rfl hs0_ hu185 ?_
      refine ax_iload (q := 332) hX dc_M_crop_330 rfl rfl ?_
      obtain ⟨j188, hj189, h⟩ := ax_bd h
      have hj189 := ax_ix_s hty hs186 hj189
      refine ax_iald (q := 333) hX j188 dc_M_crop_332 rfl hs186 hj189.1 hj189.2.1 hj189.2.2 ?_
      refine ax_iload_n (q := 334) hX dc_M_crop_333 rfl rfl rfl ?_
      refine ax_iload_n (q := 335) hX dc_M_crop_334 rfl rfl rfl ?_
      refine ax_iload_n (q := 336) hX dc_M_crop_335 rfl rfl rfl ?_
      refine ax_iadd (q := 337) hX dc_M_crop_336 rfl ?_
      refine ax_iconst (v := 1) (q := 338) hX dc_M_crop_337 rfl (by decide) ?_
      refine ax_isub (q := 339) hX dc_M_crop_338 rfl ?_
      obtain ⟨r192, hr190, h⟩ := ax_bd h
      refine ax_kS (vs := [.int (I u184 j188), .int (x1), .int ((x1 + x3) - 1)]) (rest := []) (q := 342) hX dc_M_crop_339 rfl mt_M_in wl_M_84 wt_M_in (c_M_in l hty  hr190) rfl (by decide) rfl (Nat.le_of_ble_eq_true rfl) rfl rfl (by decide) (by decide) rfl ?_
      refine ax_if_eq (tgt := 422) (q := 345) hX dc_M_crop_342 rfl (by decide) (fun z193 => ?_) (fun z193 => ?_)
      · rw [if_pos z193] at h
        exact (e_M_crop_422 hX hF hS0 (d_M_crop_304 S  n) (ih) I R u0 (x1) (x2) (x3) (x4) (x5) (x6) (x7) hty hs0_ rfl h)
      · rw [if_neg z193] at h
        refine ax_aload_n (q := 346) hX dc_M_crop_345 rfl rfl rfl ?_
        obtain ⟨u194, hu195, h⟩ := ax_bd h
        obtain ⟨n197, hs196⟩ : ∃ n, S u194 = some (.inr (0, n)) := hty.1 _ _ _ _ hs0_ hu195
        refine ax_getR (q := 349) hX dc_M_crop_346 rfl fl_M_46 rfl hs0_ hu195 ?_
        refine ax_iload (q := 351) hX dc_M_crop_349 rfl rfl ?_
        obtain ⟨j198, hj199, h⟩ := ax_bd h
        have hj199 := ax_ix_s hty hs196 hj199
        refine ax_iald (q := 352) hX j198 dc_M_crop_351 rfl hs196 hj199.1 hj199.2.1 hj199.2.2 ?_
        refine ax_iload_n (q := 353) hX dc_M_crop_352 rfl rfl rfl ?_
        refine ax_iload_n (q := 354) hX dc_M_crop_353 rfl rfl rfl ?_
        refine ax_iload (q := 356) hX dc_M_crop_354 rfl rfl ?_
        refine ax_iadd (q := 357) hX dc_M_crop_356 rfl ?_
        refine ax_iconst (v := 1) (q := 358) hX dc_M_crop_357 rfl (by decide) ?_
        refine ax_isub (q := 359) hX dc_M_crop_358 rfl ?_
        obtain ⟨r202, hr200, h⟩ := ax_bd h
        refine ax_kS (vs := [.int (I u194 j198), .int (x2), .int ((x2 + x4) - 1)]) (rest := []) (q := 362) hX dc_M_crop_359 rfl mt_M_in wl_M_84 wt_M_in (c_M_in l hty  hr200) rfl (by decide) rfl (Nat.le_of_ble_eq_true rfl) rfl rfl (by decide) (by decide) rfl ?_
        refine ax_if_eq (tgt := 422) (q := 365) hX dc_M_crop_362 rfl (by decide) (fun z203 => ?_) (fun z203 => ?_)
        · rw [if_pos z203] at h
          exact (e_M_crop_422 hX hF hS0 (d_M_crop_304 S  n) (ih) I R u0 (x1) (x2) (x3) (x4) (x5) (x6) (x7) hty hs0_ rfl h)
        · rw [if_neg z203] at h
          refine ax_aload_n (q := 366) hX dc_M_crop_365 rfl rfl rfl ?_
          refine ax_iload (q := 368) hX dc_M_crop_366 rfl rfl ?_
          refine ax_bipush (v := 20) (q := 370) hX dc_M_crop_368 rfl (by decide) ?_
          refine ax_aload_n (q := 371) hX dc_M_crop_370 rfl rfl rfl ?_
          refine ax_getI (q := 374) hX dc_M_crop_371 rfl fl_M_71 rfl hs0_ ?_
          refine ax_imul (q := 375) hX dc_M_crop_374 rfl ?_
          refine ax_iload (q := 377) hX dc_M_crop_375 rfl rfl ?_
          refine ax_iadd (q := 378) hX dc_M_crop_377 rfl ?_
          obtain ⟨I206, hr204, h⟩ := ax_bd h
          refine ax_kV (vs := [.int (x7), .int ((20 * (I u0 3)) + x6)]) (rest := []) (q := 381) hX dc_M_crop_378 rfl mt_M_moveNote wl_M_116 wi_M_moveNote ws_M_moveNote hs0_ rfl (c_M_moveNote l hty hs0_ hr204) rfl (by decide) rfl (Nat.le_of_ble_eq_true rfl) rfl rfl (by decide) (by decide) rfl ?_
          refine ax_aload_n (q := 382) hX dc_M_crop_381 rfl rfl rfl ?_
          obtain ⟨u207, hu208, h⟩ := ax_bd h
          obtain ⟨n210, hs209⟩ : ∃ n, S u207 = some (.inr (0, n)) := hty.1 _ _ _ _ hs0_ hu208
          refine ax_getR (q := 385) hX dc_M_crop_382 rfl fl_M_43 rfl hs0_ hu208 ?_
          refine ax_bipush (v := 20) (q := 387) hX dc_M_crop_385 rfl (by decide) ?_
          refine ax_aload_n (q := 388) hX dc_M_crop_387 rfl rfl rfl ?_
          refine ax_getI (q := 391) hX dc_M_crop_388 rfl fl_M_71 rfl hs0_ ?_
          refine ax_imul (q := 392) hX dc_M_crop_391 rfl ?_
          refine ax_iload (q := 394) hX dc_M_crop_392 rfl rfl ?_
          refine ax_iadd (q := 395) hX dc_M_crop_394 rfl ?_
          refine ax_dup2 (q := 396) hX dc_M_crop_395 rfl rfl rfl ?_
          obtain ⟨j211, hj212, h⟩ := ax_bd h
          have hj212 := ax_ix_s hty hs209 hj212
          refine ax_iald (q := 397) hX j211 dc_M_crop_396 rfl hs209 hj212.1 hj212.2.1 hj212.2.2 ?_
          refine ax_iload_n (q := 398) hX dc_M_crop_397 rfl rfl rfl ?_
          refine ax_isub (q := 399) hX dc_M_crop_398 rfl ?_
          obtain ⟨j213, hj214, h⟩ := ax_bd h
          have hj214 := ax_ix_s hty hs209 hj214
          obtain ⟨I215, e216, h⟩ := ax_bs h
          refine ax_iast (q := 400) hX j213 dc_M_crop_399 rfl hs209 hj214.1 hj214.2.1 hj214.2.2 e216 ?_
          refine ax_aload_n (q := 401) hX dc_M_crop_400 rfl rfl rfl ?_
          obtain ⟨u217, hu218, h⟩ := ax_bd h
          obtain ⟨n220, hs219⟩ : ∃ n, S u217 = some (.inr (0, n)) := hty.1 _ _ _ _ hs0_ hu218
          refine ax_getR (q := 404) hX dc_M_crop_401 rfl fl_M_46 rfl hs0_ hu218 ?_
          refine ax_bipush (v := 20) (q := 406) hX dc_M_crop_404 rfl (by decide) ?_
          refine ax_aload_n (q := 407) hX dc_M_crop_406 rfl rfl rfl ?_
          refine ax_getI (q := 410) hX dc_M_crop_407 rfl fl_M_71 rfl hs0_ ?_
          refine ax_imul (q := 411) hX dc_M_crop_410 rfl ?_
          refine ax_iload (q := 413) hX dc_M_crop_411 rfl rfl ?_
          refine ax_iadd (q := 414) hX dc_M_crop_413 rfl ?_
          refine ax_dup2 (q := 415) hX dc_M_crop_414 rfl rfl rfl ?_
          obtain ⟨j221, hj222, h⟩ := ax_bd h
          have hj222 := ax_ix_s hty hs219 hj222
          refine ax_iald (q := 416) hX j221 dc_M_crop_415 rfl hs219 hj222.1 hj222.2.1 hj222.2.2 ?_
          refine ax_iload_n (q := 417) hX dc_M_crop_416 rfl rfl rfl ?_
          refine ax_isub (q := 418) hX dc_M_crop_417 rfl ?_
          obtain ⟨j223, hj224, h⟩ := ax_bd h
          have hj224 := ax_ix_s hty hs219 hj224
          obtain ⟨I225, e226, h⟩ := ax_bs h
          refine ax_iast (q := 419) hX j223 dc_M_crop_418 rfl hs219 hj224.1 hj224.2.1 hj224.2.2 e226 ?_
          refine ax_iinc (v := x6 + 1) (ls' := [some (.ref u0), some (.int (x1)), some (.int (x2)), some (.int (x3)), some (.int (x4)), some (.int (x5)), some (.int (x6 + 1)), some (.int (x7))]) (q := 422) hX dc_M_crop_419 rfl rfl rfl (by decide) rfl ?_
          exact (e_M_crop_422 hX hF hS0 (d_M_crop_304 S  n) (ih) I225 R u0 (x1) (x2) (x3) (x4) (x5) (x6 + 1) (x7) hty hs0_ rfl h)
def d_M_crop_275 (S : ax_S) (rec159 : ax_I → ax_R → Nat → Int32 → Int32 → Int32 → Int32 → Int32 → Int32 → Option (Int32 × ax_I)) (I : ax_I) (R : ax_R) (u0 : Nat) (x1 : Int32) (x2 : Int32) (x3 : Int32) (x4 : Int32) (x5 : Int32) (x6 : Int32) : Option (Int32 × ax_I) :=
  rec159 I R u0 (x1) (x2) (x3) (x4) (x5) (x6 + 1)
set_option maxHeartbeats 1000000 in
theorem e_M_crop_275 {l : Launch} {X : ax_X} {S : ax_S} {L : ax_L} {R0 : ax_R} {out : Int32 × ax_I} (hX : ax_ok X l "LossFreeToolsModel" b_M_crop 8 (ax_rm 4 0 0)) (hF : ax_fin X (some .int) 0 0 (ax_of (ax_eq (some (.int out.1)) S out.2 R0 L))) (hS0 : ax_S0 X = S) (rec159 : ax_I → ax_R → Nat → Int32 → Int32 → Int32 → Int32 → Int32 → Int32 → Option (Int32 × ax_I)) (hrec159 : ∀ (I : ax_I) (R : ax_R) (u0 : Nat) (x1 : Int32) (x2 : Int32) (x3 : Int32) (x4 : Int32) (x5 : Int32) (x6 : Int32), ax_typ S R → (S u0 = some (.inl 5)) → R = R0 → rec159 I R u0 x1 x2 x3 x4 x5 x6 = some out → ax_W X 8 159 [some (.ref u0), some (.int (x1)), some (.int (x2)), some (.int (x3)), some (.int (x4)), some (.int (x5)), some (.int (x6)), none] [] S I R L 0 0) : ∀ (I : ax_I) (R : ax_R) (u0 : Nat) (x1 : Int32) (x2 : Int32) (x3 : Int32) (x4 : Int32) (x5 : Int32) (x6 : Int32), ax_typ S R → (S u0 = some (.inl 5)) → R = R0 → d_M_crop_275 S rec159 I R u0 x1 x2 x3 x4 x5 x6 = some out → ax_W X 8 275 [some (.ref u0), some (.int (x1)), some (.int (x2)), some (.int (x3)), some (.int (x4)), some (.int (x5)), some (.int (x6)), none] [] S I R L 0 0 := by
  rintro I R u0 x1 x2 x3 x4 x5 x6 hty hs0_ hR0 h
  subst hR0
  unfold d_M_crop_275 at h
  refine ax_iinc (v := x6 + 1) (ls' := [some (.ref u0), some (.int (x1)), some (.int (x2)), some (.int (x3)), some (.int (x4)), some (.int (x5)), some (.int (x6 + 1)), none]) (q := 278) hX dc_M_crop_275 rfl rfl rfl (by decide) rfl ?_
  refine ax_goto (tgt := 159) hX dc_M_crop_278 (by decide) ?_
  exact (hrec159 I R u0 (x1) (x2) (x3) (x4) (x5) (x6 + 1) hty hs0_ rfl h)
def d_M_crop_159 (S : ax_S) : Nat → ax_I → ax_R → Nat → Int32 → Int32 → Int32 → Int32 → Int32 → Int32 → Option (Int32 × ax_I)
  | 0, _, _, _, _, _, _, _, _, _ => none
  | n + 1, I, R, u0, x1, x2, x3, x4, x5, x6 =>
    (R u0 6).bind fun u75 =>
    (ax_ix S u75 (I u0 3)).bind fun j79 =>
    if (I u75 j79) ≤ x6 then
      (R u0 6).bind fun u82 =>
      (ax_ix S u82 (I u0 3)).bind fun j86 =>
      (some (ax_up I u82 j86 (x5))).bind fun I88 =>
      d_M_crop_304 S  5000 I88 R u0 (x1) (x2) (x3) (x4) (x5) (0) (20 * (I88 u0 3))
    else
      (d_M_tileAt S I R u0 (x6)).bind fun r92 =>
      (R u0 8).bind fun u93 =>
      (ax_ix S u93 (r92)).bind fun j97 =>
      if (I u93 j97) < x1 then
        d_M_crop_275 S (d_M_crop_159 S  n) I R u0 (x1) (x2) (x3) (x4) (x5) (x6)
      else
        (R u0 8).bind fun u100 =>
        (ax_ix S u100 (r92)).bind fun j104 =>
        if (x1 + x3) ≤ (I u100 j104) then
          d_M_crop_275 S (d_M_crop_159 S  n) I R u0 (x1) (x2) (x3) (x4) (x5) (x6)
        else
          (R u0 9).bind fun u107 =>
          (ax_ix S u107 (r92)).bind fun j111 =>
          if (I u107 j111) < x2 then
            d_M_crop_275 S (d_M_crop_159 S  n) I R u0 (x1) (x2) (x3) (x4) (x5) (x6)
          else
            (R u0 9).bind fun u114 =>
            (ax_ix S u114 (r92)).bind fun j118 =>
            if (x2 + x4) ≤ (I u114 j118) then
              d_M_crop_275 S (d_M_crop_159 S  n) I R u0 (x1) (x2) (x3) (x4) (x5) (x6)
            else
              (d_M_tileAt S I R u0 (x5)).bind fun r123 =>
              (d_M_move S I R u0 (r92) (r123)).bind fun I126 =>
              (R u0 8).bind fun u127 =>
              (d_M_tileAt S I126 R u0 (x5)).bind fun r133 =>
              (ax_ix S u127 (r133)).bind fun j134 =>
              (ax_ix S u127 (r133)).bind fun j136 =>
              (some (ax_up I126 u127 j136 ((I126 u127 j134) - x1))).bind fun I138 =>
              (R u0 9).bind fun u140 =>
              (d_M_tileAt S I138 R u0 (x5)).bind fun r146 =>
              (ax_ix S u140 (r146)).bind fun j147 =>
              (ax_ix S u140 (r146)).bind fun j149 =>
              (some (ax_up I138 u140 j149 ((I138 u140 j147) - x2))).bind fun I151 =>
              d_M_crop_275 S (d_M_crop_159 S  n) I151 R u0 (x1) (x2) (x3) (x4) (x5 + 1) (x6)
set_option maxHeartbeats 1000000 in
theorem e_M_crop_159 {l : Launch} {X : ax_X} {S : ax_S} {L : ax_L} {R0 : ax_R} {out : Int32 × ax_I} (hX : ax_ok X l "LossFreeToolsModel" b_M_crop 8 (ax_rm 4 0 0)) (hF : ax_fin X (some .int) 0 0 (ax_of (ax_eq (some (.int out.1)) S out.2 R0 L))) (hS0 : ax_S0 X = S) : ∀ (n : Nat), ∀ (I : ax_I) (R : ax_R) (u0 : Nat) (x1 : Int32) (x2 : Int32) (x3 : Int32) (x4 : Int32) (x5 : Int32) (x6 : Int32), ax_typ S R → (S u0 = some (.inl 5)) → R = R0 → d_M_crop_159 S  n I R u0 x1 x2 x3 x4 x5 x6 = some out → ax_W X 8 159 [some (.ref u0), some (.int (x1)), some (.int (x2)), some (.int (x3)), some (.int (x4)), some (.int (x5)), some (.int (x6)), none] [] S I R L 0 0 := by
  intro n
  induction n with
  | zero =>
    rintro I R u0 x1 x2 x3 x4 x5 x6 hty hs0_ hR0 h
    cases h
  | succ n ih =>
    rintro I R u0 x1 x2 x3 x4 x5 x6 hty hs0_ hR0 h
    subst hR0
    unfold d_M_crop_159 at h
    refine ax_iload (q := 161) hX dc_M_crop_159 rfl rfl ?_
    refine ax_aload_n (q := 162) hX dc_M_crop_161 rfl rfl rfl ?_
    obtain ⟨u75, hu76, h⟩ := ax_bd h
    obtain ⟨n78, hs77⟩ : ∃ n, S u75 = some (.inr (0, n)) := hty.1 _ _ _ _ hs0_ hu76
    refine ax_getR (q := 165) hX dc_M_crop_162 rfl fl_M_16 rfl hs0_ hu76 ?_
    refine ax_aload_n (q := 166) hX dc_M_crop_165 rfl rfl rfl ?_
    refine ax_getI (q := 169) hX dc_M_crop_166 rfl fl_M_71 rfl hs0_ ?_
    obtain ⟨j79, hj80, h⟩ := ax_bd h
    have hj80 := ax_ix_s hty hs77 hj80
    refine ax_iald (q := 170) hX j79 dc_M_crop_169 rfl hs77 hj80.1 hj80.2.1 hj80.2.2 ?_
    refine ax_icmp_ge (tgt := 281) (q := 173) hX dc_M_crop_170 rfl (by decide) (fun z81 => ?_) (fun z81 => ?_)
    · rw [if_pos z81] at h
      refine ax_aload_n (q := 282) hX dc_M_crop_281 rfl rfl rfl ?_
      obtain ⟨u82, hu83, h⟩ := ax_bd h
      obtain ⟨n85, hs84⟩ : ∃ n, S u82 = some (.inr (0, n)) := hty.1 _ _ _ _ hs0_ hu83
      refine ax_getR (q := 285) hX dc_M_crop_282 rfl fl_M_16 rfl hs0_ hu83 ?_
      refine ax_aload_n (q := 286) hX dc_M_crop_285 rfl rfl rfl ?_
      refine ax_getI (q := 289) hX dc_M_crop_286 rfl fl_M_71 rfl hs0_ ?_
      refine ax_iload (q := 291) hX dc_M_crop_289 rfl rfl ?_
      obtain ⟨j86, hj87, h⟩ := ax_bd h
      have hj87 := ax_ix_s hty hs84 hj87
      obtain ⟨I88, e89, h⟩ := ax_bs h
      refine ax_iast (q := 292) hX j86 dc_M_crop_291 rfl hs84 hj87.1 hj87.2.1 hj87.2.2 e89 ?_
      refine ax_iconst (v := 0) (q := 293) hX dc_M_crop_292 rfl (by decide) ?_
      refine ax_istore (ls' := [some (.ref u0), some (.int (x1)), some (.int (x2)), some (.int (x3)), some (.int (x4)), some (.int (x5)), some (.int (0)), none]) (q := 295) hX dc_M_crop_293 rfl (by decide) rfl ?_
      refine ax_bipush (v := 20) (q := 297) hX dc_M_crop_295 rfl (by decide) ?_
      refine ax_aload_n (q := 298) hX dc_M_crop_297 rfl rfl rfl ?_
      refine ax_getI (q := 301) hX dc_M_crop_298 rfl fl_M_71 rfl hs0_ ?_
      refine ax_imul (q := 302) hX dc_M_crop_301 rfl ?_
      refine ax_istore (ls' := [some (.ref u0), some (.int (x1)), some (.int (x2)), some (.int (x3)), some (.int (x4)), some (.int (x5)), some (.int (0)), some (.int (20 * (I88 u0 3)))]) (q := 304) hX dc_M_crop_302 rfl (by decide) rfl ?_
      exact (e_M_crop_304 hX hF hS0  5000 I88 R u0 (x1) (x2) (x3) (x4) (x5) (0) (20 * (I88 u0 3)) hty hs0_ rfl h)
    · rw [if_neg z81] at h
      refine ax_aload_n (q := 174) hX dc_M_crop_173 rfl rfl rfl ?_
      refine ax_iload (q := 176) hX dc_M_crop_174 rfl rfl ?_
      obtain ⟨r92, hr90, h⟩ := ax_bd h
      refine ax_kV (vs := [.int (x6)]) (rest := []) (q := 179) hX dc_M_crop_176 rfl mt_M_tileAt wl_M_92 wi_M_tileAt ws_M_tileAt hs0_ rfl (c_M_tileAt l hty hs0_ hr90) rfl (by decide) rfl (Nat.le_of_ble_eq_true rfl) rfl rfl (by decide) (by decide) rfl ?_
      refine ax_istore (ls' := [some (.ref u0), some (.int (x1)), some (.int (x2)), some (.int (x3)), some (.int (x4)), some (.int (x5)), some (.int (x6)), some (.int (r92))]) (q := 181) hX dc_M_crop_179 rfl (by decide) rfl ?_
      refine ax_aload_n (q := 182) hX dc_M_crop_181 rfl rfl rfl ?_
      obtain ⟨u93, hu94, h⟩ := ax_bd h
      obtain ⟨n96, hs95⟩ : ∃ n, S u93 = some (.inr (0, n)) := hty.1 _ _ _ _ hs0_ hu94
      refine ax_getR (q := 185) hX dc_M_crop_182 rfl fl_M_22 rfl hs0_ hu94 ?_
      refine ax_iload (q := 187) hX dc_M_crop_185 rfl rfl ?_
      obtain ⟨j97, hj98, h⟩ := ax_bd h
      have hj98 := ax_ix_s hty hs95 hj98
      refine ax_iald (q := 188) hX j97 dc_M_crop_187 rfl hs95 hj98.1 hj98.2.1 hj98.2.2 ?_
      refine ax_iload_n (q := 189) hX dc_M_crop_188 rfl rfl rfl ?_
      refine ax_icmp_lt (tgt := 275) (q := 192) hX dc_M_crop_189 rfl (by decide) (fun z99 => ?_) (fun z99 => ?_)
      · rw [if_pos z99] at h
        exact ax_weak (ls' := [some (.ref u0), some (.int (x1)), some (.int (x2)), some (.int (x3)), some (.int (x4)), some (.int (x5)), some (.int (x6)), none]) (ax_fewP_s _ _ (by repeat (first | exact trivial | (refine And.intro rfl ?_)))) (e_M_crop_275 hX hF hS0 (d_M_crop_159 S  n) (ih) I R u0 (x1) (x2) (x3) (x4) (x5) (x6) hty hs0_ rfl h)
      · rw [if_neg z99] at h
        refine ax_aload_n (q := 193) hX dc_M_crop_192 rfl rfl rfl ?_
        obtain ⟨u100, hu101, h⟩ := ax_bd h
        obtain ⟨n103, hs102⟩ : ∃ n, S u100 = some (.inr (0, n)) := hty.1 _ _ _ _ hs0_ hu101
        refine ax_getR (q := 196) hX dc_M_crop_193 rfl fl_M_22 rfl hs0_ hu101 ?_
        refine ax_iload (q := 198) hX dc_M_crop_196 rfl rfl ?_
        obtain ⟨j104, hj105, h⟩ := ax_bd h
        have hj105 := ax_ix_s hty hs102 hj105
        refine ax_iald (q := 199) hX j104 dc_M_crop_198 rfl hs102 hj105.1 hj105.2.1 hj105.2.2 ?_
        refine ax_iload_n (q := 200) hX dc_M_crop_199 rfl rfl rfl ?_
        refine ax_iload_n (q := 201) hX dc_M_crop_200 rfl rfl rfl ?_
        refine ax_iadd (q := 202) hX dc_M_crop_201 rfl ?_
        refine ax_icmp_ge (tgt := 275) (q := 205) hX dc_M_crop_202 rfl (by decide) (fun z106 => ?_) (fun z106 => ?_)
        · rw [if_pos z106] at h
          exact ax_weak (ls' := [some (.ref u0), some (.int (x1)), some (.int (x2)), some (.int (x3)), some (.int (x4)), some (.int (x5)), some (.int (x6)), none]) (ax_fewP_s _ _ (by repeat (first | exact trivial | (refine And.intro rfl ?_)))) (e_M_crop_275 hX hF hS0 (d_M_crop_159 S  n) (ih) I R u0 (x1) (x2) (x3) (x4) (x5) (x6) hty hs0_ rfl h)
        · rw [if_neg z106] at h
          refine ax_aload_n (q := 206) hX dc_M_crop_205 rfl rfl rfl ?_
          obtain ⟨u107, hu108, h⟩ := ax_bd h
          obtain ⟨n110, hs109⟩ : ∃ n, S u107 = some (.inr (0, n)) := hty.1 _ _ _ _ hs0_ hu108
          refine ax_getR (q := 209) hX dc_M_crop_206 rfl fl_M_25 rfl hs0_ hu108 ?_
          refine ax_iload (q := 211) hX dc_M_crop_209 rfl rfl ?_
          obtain ⟨j111, hj112, h⟩ := ax_bd h
          have hj112 := ax_ix_s hty hs109 hj112
          refine ax_iald (q := 212) hX j111 dc_M_crop_211 rfl hs109 hj112.1 hj112.2.1 hj112.2.2 ?_
          refine ax_iload_n (q := 213) hX dc_M_crop_212 rfl rfl rfl ?_
          refine ax_icmp_lt (tgt := 275) (q := 216) hX dc_M_crop_213 rfl (by decide) (fun z113 => ?_) (fun z113 => ?_)
          · rw [if_pos z113] at h
            exact ax_weak (ls' := [some (.ref u0), some (.int (x1)), some (.int (x2)), some (.int (x3)), some (.int (x4)), some (.int (x5)), some (.int (x6)), none]) (ax_fewP_s _ _ (by repeat (first | exact trivial | (refine And.intro rfl ?_)))) (e_M_crop_275 hX hF hS0 (d_M_crop_159 S  n) (ih) I R u0 (x1) (x2) (x3) (x4) (x5) (x6) hty hs0_ rfl h)
          · rw [if_neg z113] at h
            refine ax_aload_n (q := 217) hX dc_M_crop_216 rfl rfl rfl ?_
            obtain ⟨u114, hu115, h⟩ := ax_bd h
            obtain ⟨n117, hs116⟩ : ∃ n, S u114 = some (.inr (0, n)) := hty.1 _ _ _ _ hs0_ hu115
            refine ax_getR (q := 220) hX dc_M_crop_217 rfl fl_M_25 rfl hs0_ hu115 ?_
            refine ax_iload (q := 222) hX dc_M_crop_220 rfl rfl ?_
            obtain ⟨j118, hj119, h⟩ := ax_bd h
            have hj119 := ax_ix_s hty hs116 hj119
            refine ax_iald (q := 223) hX j118 dc_M_crop_222 rfl hs116 hj119.1 hj119.2.1 hj119.2.2 ?_
            refine ax_iload_n (q := 224) hX dc_M_crop_223 rfl rfl rfl ?_
            refine ax_iload (q := 226) hX dc_M_crop_224 rfl rfl ?_
            refine ax_iadd (q := 227) hX dc_M_crop_226 rfl ?_
            refine ax_icmp_ge (tgt := 275) (q := 230) hX dc_M_crop_227 rfl (by decide) (fun z120 => ?_) (fun z120 => ?_)
            · rw [if_pos z120] at h
              exact ax_weak (ls' := [some (.ref u0), some (.int (x1)), some (.int (x2)), some (.int (x3)), some (.int (x4)), some (.int (x5)), some (.int (x6)), none]) (ax_fewP_s _ _ (by repeat (first | exact trivial | (refine And.intro rfl ?_)))) (e_M_crop_275 hX hF hS0 (d_M_crop_159 S  n) (ih) I R u0 (x1) (x2) (x3) (x4) (x5) (x6) hty hs0_ rfl h)
            · rw [if_neg z120] at h
              refine ax_aload_n (q := 231) hX dc_M_crop_230 rfl rfl rfl ?_
              refine ax_iload (q := 233) hX dc_M_crop_231 rfl rfl ?_
              refine ax_aload_n (q := 234) hX dc_M_crop_233 rfl rfl rfl ?_
              refine ax_iload (q := 236) hX dc_M_crop_234 rfl rfl ?_
              obtain ⟨r123, hr121, h⟩ := ax_bd h
              refine ax_kV (vs := [.int (x5)]) (rest := [.int (r92), .ref u0]) (q := 239) hX dc_M_crop_236 rfl mt_M_tileAt wl_M_92 wi_M_tileAt ws_M_tileAt hs0_ rfl (c_M_tileAt l hty hs0_ hr121) rfl (by decide) rfl (Nat.le_of_ble_eq_true rfl) rfl rfl (by decide) (by decide) rfl ?_
              obtain ⟨I126, hr124, h⟩ := ax_bd h
              refine ax_kV (vs := [.int (r92), .int (r123)]) (rest := []) (q := 242) hX dc_M_crop_239 rfl mt_M_move wl_M_112 wi_M_move ws_M_move hs0_ rfl (c_M_move l hty hs0_ hr124) rfl (by decide) rfl (Nat.le_of_ble_eq_true rfl) rfl rfl (by decide) (by decide) rfl ?_
              refine ax_aload_n (q := 243) hX dc_M_crop_242 rfl rfl rfl ?_
              obtain ⟨u127, hu128, h⟩ := ax_bd h
              obtain ⟨n130, hs129⟩ : ∃ n, S u127 = some (.inr (0, n)) := hty.1 _ _ _ _ hs0_ hu128
              refine ax_getR (q := 246) hX dc_M_crop_243 rfl fl_M_22 rfl hs0_ hu128 ?_
              refine ax_aload_n (q := 247) hX dc_M_crop_246 rfl rfl rfl ?_
              refine ax_iload (q := 249) hX dc_M_crop_247 rfl rfl ?_
              obtain ⟨r133, hr131, h⟩ := ax_bd h
              refine ax_kV (vs := [.int (x5)]) (rest := [.ref u127]) (q := 252) hX dc_M_crop_249 rfl mt_M_tileAt wl_M_92 wi_M_tileAt ws_M_tileAt hs0_ rfl (c_M_tileAt l hty hs0_ hr131) rfl (by decide) rfl (Nat.le_of_ble_eq_true rfl) rfl rfl (by decide) (by decide) rfl ?_
              refine ax_dup2 (q := 253) hX dc_M_crop_252 rfl rfl rfl ?_
              obtain ⟨j134, hj135, h⟩ := ax_bd h
              have hj135 := ax_ix_s hty hs129 hj135
              refine ax_iald (q := 254) hX j134 dc_M_crop_253 rfl hs129 hj135.1 hj135.2.1 hj135.2.2 ?_
              refine ax_iload_n (q := 255) hX dc_M_crop_254 rfl rfl rfl ?_
              refine ax_isub (q := 256) hX dc_M_crop_255 rfl ?_
              obtain ⟨j136, hj137, h⟩ := ax_bd h
              have hj137 := ax_ix_s hty hs129 hj137
              obtain ⟨I138, e139, h⟩ := ax_bs h
              refine ax_iast (q := 257) hX j136 dc_M_crop_256 rfl hs129 hj137.1 hj137.2.1 hj137.2.2 e139 ?_
              refine ax_aload_n (q := 258) hX dc_M_crop_257 rfl rfl rfl ?_
              obtain ⟨u140, hu141, h⟩ := ax_bd h
              obtain ⟨n143, hs142⟩ : ∃ n, S u140 = some (.inr (0, n)) := hty.1 _ _ _ _ hs0_ hu141
              refine ax_getR (q := 261) hX dc_M_crop_258 rfl fl_M_25 rfl hs0_ hu141 ?_
              refine ax_aload_n (q := 262) hX dc_M_crop_261 rfl rfl rfl ?_
              refine ax_iload (q := 264) hX dc_M_crop_262 rfl rfl ?_
              obtain ⟨r146, hr144, h⟩ := ax_bd h
              refine ax_kV (vs := [.int (x5)]) (rest := [.ref u140]) (q := 267) hX dc_M_crop_264 rfl mt_M_tileAt wl_M_92 wi_M_tileAt ws_M_tileAt hs0_ rfl (c_M_tileAt l hty hs0_ hr144) rfl (by decide) rfl (Nat.le_of_ble_eq_true rfl) rfl rfl (by decide) (by decide) rfl ?_
              refine ax_dup2 (q := 268) hX dc_M_crop_267 rfl rfl rfl ?_
              obtain ⟨j147, hj148, h⟩ := ax_bd h
              have hj148 := ax_ix_s hty hs142 hj148
              refine ax_iald (q := 269) hX j147 dc_M_crop_268 rfl hs142 hj148.1 hj148.2.1 hj148.2.2 ?_
              refine ax_iload_n (q := 270) hX dc_M_crop_269 rfl rfl rfl ?_
              refine ax_isub (q := 271) hX dc_M_crop_270 rfl ?_
              obtain ⟨j149, hj150, h⟩ := ax_bd h
              have hj150 := ax_ix_s hty hs142 hj150
              obtain ⟨I151, e152, h⟩ := ax_bs h
              refine ax_iast (q := 272) hX j149 dc_M_crop_271 rfl hs142 hj150.1 hj150.2.1 hj150.2.2 e152 ?_
              refine ax_iinc (v := x5 + 1) (ls' := [some (.ref u0), some (.int (x1)), some (.int (x2)), some (.int (x3)), some (.int (x4)), some (.int (x5 + 1)), some (.int (x6)), some (.int (r92))]) (q := 275) hX dc_M_crop_272 rfl rfl rfl (by decide) rfl ?_
              exact ax_weak (ls' := [some (.ref u0), some (.int (x1)), some (.int (x2)), some (.int (x3)), some (.int (x4)), some (.int (x5 + 1)), some (.int (x6)), none]) (ax_fewP_s _ _ (by repeat (first | exact trivial | (refine And.intro rfl ?_)))) (e_M_crop_275 hX hF hS0 (d_M_crop_159 S  n) (ih) I151 R u0 (x1) (x2) (x3) (x4) (x5 + 1) (x6) hty hs0_ rfl h)
def d_M_crop_88 (S : ax_S) (I : ax_I) (R : ax_R) (u0 : Nat) (x1 : Int32) (x2 : Int32) (x3 : Int32) (x4 : Int32) (y0 : Int32) (w1 : Nat) : Option (Int32 × ax_I) :=
  (ax_bo (y0)).bind fun b26 =>
  (some (ax_up I w1 19 (ax_b b26))).bind fun I28 =>
  if (I28 u0 19) = 0 then
    d_M_crop_159 S  5000 I28 R u0 (x1) (x2) (x3) (x4) (0) (0)
  else
    (R u0 20).bind fun u31 =>
    (d_M_nearest S I28 R u0 (1) (x1)).bind fun r37 =>
    (ax_ix S u31 (0)).bind fun j38 =>
    (some (ax_up I28 u31 j38 (r37))).bind fun I40 =>
    (R u0 20).bind fun u42 =>
    (d_M_nearest S I40 R u0 (0) (x2)).bind fun r48 =>
    (ax_ix S u42 (1)).bind fun j49 =>
    (some (ax_up I40 u42 j49 (r48))).bind fun I51 =>
    (R u0 20).bind fun u53 =>
    (d_M_nearest S I51 R u0 (1) (x1 + x3)).bind fun r59 =>
    (ax_ix S u53 (2)).bind fun j60 =>
    (some (ax_up I51 u53 j60 (r59))).bind fun I62 =>
    (R u0 20).bind fun u64 =>
    (d_M_nearest S I62 R u0 (0) (x2 + x4)).bind fun r70 =>
    (ax_ix S u64 (3)).bind fun j71 =>
    (some (ax_up I62 u64 j71 (r70))).bind fun I73 =>
    some ((-1), I73)
set_option maxHeartbeats 1000000 in
theorem e_M_crop_88 {l : Launch} {X : ax_X} {S : ax_S} {L : ax_L} {R0 : ax_R} {out : Int32 × ax_I} (hX : ax_ok X l "LossFreeToolsModel" b_M_crop 8 (ax_rm 4 0 0)) (hF : ax_fin X (some .int) 0 0 (ax_of (ax_eq (some (.int out.1)) S out.2 R0 L))) (hS0 : ax_S0 X = S) : ∀ (I : ax_I) (R : ax_R) (u0 : Nat) (x1 : Int32) (x2 : Int32) (x3 : Int32) (x4 : Int32) (y0 : Int32) (w1 : Nat), ax_typ S R → (S u0 = some (.inl 5)) → (S w1 = some (.inl 5)) → R = R0 → d_M_crop_88 S  I R u0 x1 x2 x3 x4 y0 w1 = some out → ax_W X 8 88 [some (.ref u0), some (.int (x1)), some (.int (x2)), some (.int (x3)), some (.int (x4)), none, none, none] [.int (y0), .ref w1] S I R L 0 0 := by
  rintro I R u0 x1 x2 x3 x4 y0 w1 hty hs0_ hw1_ hR0 h
  subst hR0
  unfold d_M_crop_88 at h
  obtain ⟨b26, hb27, h⟩ := ax_bd h
  rw [ax_bo_s hb27]
  obtain ⟨I28, e29, h⟩ := ax_bs h
  refine ax_putI (q := 91) hX dc_M_crop_88 rfl fl_M_77 rfl hw1_ (fun z => by cases z) (ax_b_n _) (ax_b_f _) e29 ?_
  refine ax_aload_n (q := 92) hX dc_M_crop_91 rfl rfl rfl ?_
  refine ax_getI (q := 95) hX dc_M_crop_92 rfl fl_M_77 rfl hs0_ ?_
  refine ax_if_eq (tgt := 153) (q := 98) hX dc_M_crop_95 rfl (by decide) (fun z30 => ?_) (fun z30 => ?_)
  · rw [if_pos z30] at h
    refine ax_iconst (v := 0) (q := 154) hX dc_M_crop_153 rfl (by decide) ?_
    refine ax_istore (ls' := [some (.ref u0), some (.int (x1)), some (.int (x2)), some (.int (x3)), some (.int (x4)), some (.int (0)), none, none]) (q := 156) hX dc_M_crop_154 rfl (by decide) rfl ?_
    refine ax_iconst (v := 0) (q := 157) hX dc_M_crop_156 rfl (by decide) ?_
    refine ax_istore (ls' := [some (.ref u0), some (.int (x1)), some (.int (x2)), some (.int (x3)), some (.int (x4)), some (.int (0)), some (.int (0)), none]) (q := 159) hX dc_M_crop_157 rfl (by decide) rfl ?_
    exact (e_M_crop_159 hX hF hS0  5000 I28 R u0 (x1) (x2) (x3) (x4) (0) (0) hty hs0_ rfl h)
  · rw [if_neg z30] at h
    refine ax_aload_n (q := 99) hX dc_M_crop_98 rfl rfl rfl ?_
    obtain ⟨u31, hu32, h⟩ := ax_bd h
    obtain ⟨n34, hs33⟩ : ∃ n, S u31 = some (.inr (0, n)) := hty.1 _ _ _ _ hs0_ hu32
    refine ax_getR (q := 102) hX dc_M_crop_99 rfl fl_M_52 rfl hs0_ hu32 ?_
    refine ax_iconst (v := 0) (q := 103) hX dc_M_crop_102 rfl (by decide) ?_
    refine ax_aload_n (q := 104) hX dc_M_crop_103 rfl rfl rfl ?_
    refine ax_iconst (v := 1) (q := 105) hX dc_M_crop_104 rfl (by decide) ?_
    refine ax_iload_n (q := 106) hX dc_M_crop_105 rfl rfl rfl ?_
    obtain ⟨r37, hr35, h⟩ := ax_bd h
    refine ax_kV (vs := [.int (1), .int (x1)]) (rest := [.int (0), .ref u31]) (q := 109) hX dc_M_crop_106 rfl mt_M_nearest wl_M_108 wi_M_nearest ws_M_nearest hs0_ rfl (c_M_nearest l hty hs0_ hr35) rfl (by decide) rfl (Nat.le_of_ble_eq_true rfl) rfl rfl (by decide) (by decide) rfl ?_
    obtain ⟨j38, hj39, h⟩ := ax_bd h
    have hj39 := ax_ix_s hty hs33 hj39
    obtain ⟨I40, e41, h⟩ := ax_bs h
    refine ax_iast (q := 110) hX j38 dc_M_crop_109 rfl hs33 hj39.1 hj39.2.1 hj39.2.2 e41 ?_
    refine ax_aload_n (q := 111) hX dc_M_crop_110 rfl rfl rfl ?_
    obtain ⟨u42, hu43, h⟩ := ax_bd h
    obtain ⟨n45, hs44⟩ : ∃ n, S u42 = some (.inr (0, n)) := hty.1 _ _ _ _ hs0_ hu43
    refine ax_getR (q := 114) hX dc_M_crop_111 rfl fl_M_52 rfl hs0_ hu43 ?_
    refine ax_iconst (v := 1) (q := 115) hX dc_M_crop_114 rfl (by decide) ?_
    refine ax_aload_n (q := 116) hX dc_M_crop_115 rfl rfl rfl ?_
    refine ax_iconst (v := 0) (q := 117) hX dc_M_crop_116 rfl (by decide) ?_
    refine ax_iload_n (q := 118) hX dc_M_crop_117 rfl rfl rfl ?_
    obtain ⟨r48, hr46, h⟩ := ax_bd h
    refine ax_kV (vs := [.int (0), .int (x2)]) (rest := [.int (1), .ref u42]) (q := 121) hX dc_M_crop_118 rfl mt_M_nearest wl_M_108 wi_M_nearest ws_M_nearest hs0_ rfl (c_M_nearest l hty hs0_ hr46) rfl (by decide) rfl (Nat.le_of_ble_eq_true rfl) rfl rfl (by decide) (by decide) rfl ?_
    obtain ⟨j49, hj50, h⟩ := ax_bd h
    have hj50 := ax_ix_s hty hs44 hj50
    obtain ⟨I51, e52, h⟩ := ax_bs h
    refine ax_iast (q := 122) hX j49 dc_M_crop_121 rfl hs44 hj50.1 hj50.2.1 hj50.2.2 e52 ?_
    refine ax_aload_n (q := 123) hX dc_M_crop_122 rfl rfl rfl ?_
    obtain ⟨u53, hu54, h⟩ := ax_bd h
    obtain ⟨n56, hs55⟩ : ∃ n, S u53 = some (.inr (0, n)) := hty.1 _ _ _ _ hs0_ hu54
    refine ax_getR (q := 126) hX dc_M_crop_123 rfl fl_M_52 rfl hs0_ hu54 ?_
    refine ax_iconst (v := 2) (q := 127) hX dc_M_crop_126 rfl (by decide) ?_
    refine ax_aload_n (q := 128) hX dc_M_crop_127 rfl rfl rfl ?_
    refine ax_iconst (v := 1) (q := 129) hX dc_M_crop_128 rfl (by decide) ?_
    refine ax_iload_n (q := 130) hX dc_M_crop_129 rfl rfl rfl ?_
    refine ax_iload_n (q := 131) hX dc_M_crop_130 rfl rfl rfl ?_
    refine ax_iadd (q := 132) hX dc_M_crop_131 rfl ?_
    obtain ⟨r59, hr57, h⟩ := ax_bd h
    refine ax_kV (vs := [.int (1), .int (x1 + x3)]) (rest := [.int (2), .ref u53]) (q := 135) hX dc_M_crop_132 rfl mt_M_nearest wl_M_108 wi_M_nearest ws_M_nearest hs0_ rfl (c_M_nearest l hty hs0_ hr57) rfl (by decide) rfl (Nat.le_of_ble_eq_true rfl) rfl rfl (by decide) (by decide) rfl ?_
    obtain ⟨j60, hj61, h⟩ := ax_bd h
    have hj61 := ax_ix_s hty hs55 hj61
    obtain ⟨I62, e63, h⟩ := ax_bs h
    refine ax_iast (q := 136) hX j60 dc_M_crop_135 rfl hs55 hj61.1 hj61.2.1 hj61.2.2 e63 ?_
    refine ax_aload_n (q := 137) hX dc_M_crop_136 rfl rfl rfl ?_
    obtain ⟨u64, hu65, h⟩ := ax_bd h
    obtain ⟨n67, hs66⟩ : ∃ n, S u64 = some (.inr (0, n)) := hty.1 _ _ _ _ hs0_ hu65
    refine ax_getR (q := 140) hX dc_M_crop_137 rfl fl_M_52 rfl hs0_ hu65 ?_
    refine ax_iconst (v := 3) (q := 141) hX dc_M_crop_140 rfl (by decide) ?_
    refine ax_aload_n (q := 142) hX dc_M_crop_141 rfl rfl rfl ?_
    refine ax_iconst (v := 0) (q := 143) hX dc_M_crop_142 rfl (by decide) ?_
    refine ax_iload_n (q := 144) hX dc_M_crop_143 rfl rfl rfl ?_
    refine ax_iload (q := 146) hX dc_M_crop_144 rfl rfl ?_
    refine ax_iadd (q := 147) hX dc_M_crop_146 rfl ?_
    obtain ⟨r70, hr68, h⟩ := ax_bd h
    refine ax_kV (vs := [.int (0), .int (x2 + x4)]) (rest := [.int (3), .ref u64]) (q := 150) hX dc_M_crop_147 rfl mt_M_nearest wl_M_108 wi_M_nearest ws_M_nearest hs0_ rfl (c_M_nearest l hty hs0_ hr68) rfl (by decide) rfl (Nat.le_of_ble_eq_true rfl) rfl rfl (by decide) (by decide) rfl ?_
    obtain ⟨j71, hj72, h⟩ := ax_bd h
    have hj72 := ax_ix_s hty hs66 hj72
    obtain ⟨I73, e74, h⟩ := ax_bs h
    refine ax_iast (q := 151) hX j71 dc_M_crop_150 rfl hs66 hj72.1 hj72.2.1 hj72.2.2 e74 ?_
    refine ax_iconst (v := (-1)) (q := 152) hX dc_M_crop_151 rfl (by decide) ?_
    cases h
    exact ax_iret hX hF dc_M_crop_152 rfl rfl (by decide) (by decide) ax_eq.mk (by rw [hS0]; exact fun _ _ z => z)
def d_M_crop_83 (S : ax_S) (I : ax_I) (R : ax_R) (u0 : Nat) (x1 : Int32) (x2 : Int32) (x3 : Int32) (x4 : Int32) (w0 : Nat) : Option (Int32 × ax_I) :=
  d_M_crop_88 S  I R u0 (x1) (x2) (x3) (x4) (1) w0
set_option maxHeartbeats 1000000 in
theorem e_M_crop_83 {l : Launch} {X : ax_X} {S : ax_S} {L : ax_L} {R0 : ax_R} {out : Int32 × ax_I} (hX : ax_ok X l "LossFreeToolsModel" b_M_crop 8 (ax_rm 4 0 0)) (hF : ax_fin X (some .int) 0 0 (ax_of (ax_eq (some (.int out.1)) S out.2 R0 L))) (hS0 : ax_S0 X = S) : ∀ (I : ax_I) (R : ax_R) (u0 : Nat) (x1 : Int32) (x2 : Int32) (x3 : Int32) (x4 : Int32) (w0 : Nat), ax_typ S R → (S u0 = some (.inl 5)) → (S w0 = some (.inl 5)) → R = R0 → d_M_crop_83 S  I R u0 x1 x2 x3 x4 w0 = some out → ax_W X 8 83 [some (.ref u0), some (.int (x1)), some (.int (x2)), some (.int (x3)), some (.int (x4)), none, none, none] [.ref w0] S I R L 0 0 := by
  rintro I R u0 x1 x2 x3 x4 w0 hty hs0_ hw0_ hR0 h
  subst hR0
  unfold d_M_crop_83 at h
  refine ax_iconst (v := 1) (q := 84) hX dc_M_crop_83 rfl (by decide) ?_
  refine ax_goto (tgt := 88) hX dc_M_crop_84 (by decide) ?_
  exact (e_M_crop_88 hX hF hS0  I R u0 (x1) (x2) (x3) (x4) (1) w0 hty hs0_ hw0_ rfl h)
def d_M_crop_29 (S : ax_S) (I : ax_I) (R : ax_R) (u0 : Nat) (x1 : Int32) (x2 : Int32) (x3 : Int32) (x4 : Int32) (y0 : Int32) (w1 : Nat) : Option (Int32 × ax_I) :=
  (some (ax_up I w1 0 (y0))).bind fun I7 =>
  if (I7 u0 0) ≤ 0 then
    (d_M_fits S I7 R u0 (1) (x1)).bind fun r12 =>
    if (ax_b r12) = 0 then
      d_M_crop_83 S  I7 R u0 (x1) (x2) (x3) (x4) u0
    else
      (d_M_fits S I7 R u0 (0) (x2)).bind fun r16 =>
      if (ax_b r16) = 0 then
        d_M_crop_83 S  I7 R u0 (x1) (x2) (x3) (x4) u0
      else
        (d_M_fits S I7 R u0 (1) (x1 + x3)).bind fun r20 =>
        if (ax_b r20) = 0 then
          d_M_crop_83 S  I7 R u0 (x1) (x2) (x3) (x4) u0
        else
          (d_M_fits S I7 R u0 (0) (x2 + x4)).bind fun r24 =>
          if (ax_b r24) = 0 then
            d_M_crop_83 S  I7 R u0 (x1) (x2) (x3) (x4) u0
          else
            d_M_crop_88 S  I7 R u0 (x1) (x2) (x3) (x4) (0) u0
  else
    some (0, I7)
set_option maxHeartbeats 1000000 in
theorem e_M_crop_29 {l : Launch} {X : ax_X} {S : ax_S} {L : ax_L} {R0 : ax_R} {out : Int32 × ax_I} (hX : ax_ok X l "LossFreeToolsModel" b_M_crop 8 (ax_rm 4 0 0)) (hF : ax_fin X (some .int) 0 0 (ax_of (ax_eq (some (.int out.1)) S out.2 R0 L))) (hS0 : ax_S0 X = S) : ∀ (I : ax_I) (R : ax_R) (u0 : Nat) (x1 : Int32) (x2 : Int32) (x3 : Int32) (x4 : Int32) (y0 : Int32) (w1 : Nat), ax_typ S R → (S u0 = some (.inl 5)) → (S w1 = some (.inl 5)) → R = R0 → d_M_crop_29 S  I R u0 x1 x2 x3 x4 y0 w1 = some out → ax_W X 8 29 [some (.ref u0), some (.int (x1)), some (.int (x2)), some (.int (x3)), some (.int (x4)), none, none, none] [.int (y0), .ref w1] S I R L 0 0 := by
  rintro I R u0 x1 x2 x3 x4 y0 w1 hty hs0_ hw1_ hR0 h
  subst hR0
  unfold d_M_crop_29 at h
  obtain ⟨I7, e8, h⟩ := ax_bs h
  refine ax_putI (q := 32) hX dc_M_crop_29 rfl fl_M_68 rfl hw1_ (fun z => by cases z) rfl rfl e8 ?_
  refine ax_aload_n (q := 33) hX dc_M_crop_32 rfl rfl rfl ?_
  refine ax_getI (q := 36) hX dc_M_crop_33 rfl fl_M_68 rfl hs0_ ?_
  refine ax_if_le (tgt := 41) (q := 39) hX dc_M_crop_36 rfl (by decide) (fun z9 => ?_) (fun z9 => ?_)
  · rw [if_pos z9] at h
    refine ax_aload_n (q := 42) hX dc_M_crop_41 rfl rfl rfl ?_
    refine ax_aload_n (q := 43) hX dc_M_crop_42 rfl rfl rfl ?_
    refine ax_iconst (v := 1) (q := 44) hX dc_M_crop_43 rfl (by decide) ?_
    refine ax_iload_n (q := 45) hX dc_M_crop_44 rfl rfl rfl ?_
    obtain ⟨r12, hr10, h⟩ := ax_bd h
    refine ax_kV (vs := [.int (1), .int (x1)]) (rest := [.ref u0]) (q := 48) hX dc_M_crop_45 rfl mt_M_fits wl_M_104 wi_M_fits ws_M_fits hs0_ rfl (c_M_fits l hty hs0_ hr10) rfl (by decide) rfl (Nat.le_of_ble_eq_true rfl) rfl rfl (by decide) (by decide) rfl ?_
    refine ax_if_eq (tgt := 83) (q := 51) hX dc_M_crop_48 rfl (by decide) (fun z13 => ?_) (fun z13 => ?_)
    · rw [if_pos z13] at h
      exact (e_M_crop_83 hX hF hS0  I7 R u0 (x1) (x2) (x3) (x4) u0 hty hs0_ hs0_ rfl h)
    · rw [if_neg z13] at h
      refine ax_aload_n (q := 52) hX dc_M_crop_51 rfl rfl rfl ?_
      refine ax_iconst (v := 0) (q := 53) hX dc_M_crop_52 rfl (by decide) ?_
      refine ax_iload_n (q := 54) hX dc_M_crop_53 rfl rfl rfl ?_
      obtain ⟨r16, hr14, h⟩ := ax_bd h
      refine ax_kV (vs := [.int (0), .int (x2)]) (rest := [.ref u0]) (q := 57) hX dc_M_crop_54 rfl mt_M_fits wl_M_104 wi_M_fits ws_M_fits hs0_ rfl (c_M_fits l hty hs0_ hr14) rfl (by decide) rfl (Nat.le_of_ble_eq_true rfl) rfl rfl (by decide) (by decide) rfl ?_
      refine ax_if_eq (tgt := 83) (q := 60) hX dc_M_crop_57 rfl (by decide) (fun z17 => ?_) (fun z17 => ?_)
      · rw [if_pos z17] at h
        exact (e_M_crop_83 hX hF hS0  I7 R u0 (x1) (x2) (x3) (x4) u0 hty hs0_ hs0_ rfl h)
      · rw [if_neg z17] at h
        refine ax_aload_n (q := 61) hX dc_M_crop_60 rfl rfl rfl ?_
        refine ax_iconst (v := 1) (q := 62) hX dc_M_crop_61 rfl (by decide) ?_
        refine ax_iload_n (q := 63) hX dc_M_crop_62 rfl rfl rfl ?_
        refine ax_iload_n (q := 64) hX dc_M_crop_63 rfl rfl rfl ?_
        refine ax_iadd (q := 65) hX dc_M_crop_64 rfl ?_
        obtain ⟨r20, hr18, h⟩ := ax_bd h
        refine ax_kV (vs := [.int (1), .int (x1 + x3)]) (rest := [.ref u0]) (q := 68) hX dc_M_crop_65 rfl mt_M_fits wl_M_104 wi_M_fits ws_M_fits hs0_ rfl (c_M_fits l hty hs0_ hr18) rfl (by decide) rfl (Nat.le_of_ble_eq_true rfl) rfl rfl (by decide) (by decide) rfl ?_
        refine ax_if_eq (tgt := 83) (q := 71) hX dc_M_crop_68 rfl (by decide) (fun z21 => ?_) (fun z21 => ?_)
        · rw [if_pos z21] at h
          exact (e_M_crop_83 hX hF hS0  I7 R u0 (x1) (x2) (x3) (x4) u0 hty hs0_ hs0_ rfl h)
        · rw [if_neg z21] at h
          refine ax_aload_n (q := 72) hX dc_M_crop_71 rfl rfl rfl ?_
          refine ax_iconst (v := 0) (q := 73) hX dc_M_crop_72 rfl (by decide) ?_
          refine ax_iload_n (q := 74) hX dc_M_crop_73 rfl rfl rfl ?_
          refine ax_iload (q := 76) hX dc_M_crop_74 rfl rfl ?_
          refine ax_iadd (q := 77) hX dc_M_crop_76 rfl ?_
          obtain ⟨r24, hr22, h⟩ := ax_bd h
          refine ax_kV (vs := [.int (0), .int (x2 + x4)]) (rest := [.ref u0]) (q := 80) hX dc_M_crop_77 rfl mt_M_fits wl_M_104 wi_M_fits ws_M_fits hs0_ rfl (c_M_fits l hty hs0_ hr22) rfl (by decide) rfl (Nat.le_of_ble_eq_true rfl) rfl rfl (by decide) (by decide) rfl ?_
          refine ax_if_ne (tgt := 87) (q := 83) hX dc_M_crop_80 rfl (by decide) (fun z25 => ?_) (fun z25 => ?_)
          · rw [if_neg z25] at h
            refine ax_iconst (v := 0) (q := 88) hX dc_M_crop_87 rfl (by decide) ?_
            exact (e_M_crop_88 hX hF hS0  I7 R u0 (x1) (x2) (x3) (x4) (0) u0 hty hs0_ hs0_ rfl h)
          · rw [if_pos z25] at h
            exact (e_M_crop_83 hX hF hS0  I7 R u0 (x1) (x2) (x3) (x4) u0 hty hs0_ hs0_ rfl h)
  · rw [if_neg z9] at h
    refine ax_iconst (v := 0) (q := 40) hX dc_M_crop_39 rfl (by decide) ?_
    cases h
    exact ax_iret hX hF dc_M_crop_40 rfl rfl (by decide) (by decide) ax_eq.mk (by rw [hS0]; exact fun _ _ z => z)
def d_M_crop_24 (S : ax_S) (I : ax_I) (R : ax_R) (u0 : Nat) (x1 : Int32) (x2 : Int32) (x3 : Int32) (x4 : Int32) (w0 : Nat) : Option (Int32 × ax_I) :=
  d_M_crop_29 S  I R u0 (x1) (x2) (x3) (x4) (1) w0
set_option maxHeartbeats 1000000 in
theorem e_M_crop_24 {l : Launch} {X : ax_X} {S : ax_S} {L : ax_L} {R0 : ax_R} {out : Int32 × ax_I} (hX : ax_ok X l "LossFreeToolsModel" b_M_crop 8 (ax_rm 4 0 0)) (hF : ax_fin X (some .int) 0 0 (ax_of (ax_eq (some (.int out.1)) S out.2 R0 L))) (hS0 : ax_S0 X = S) : ∀ (I : ax_I) (R : ax_R) (u0 : Nat) (x1 : Int32) (x2 : Int32) (x3 : Int32) (x4 : Int32) (w0 : Nat), ax_typ S R → (S u0 = some (.inl 5)) → (S w0 = some (.inl 5)) → R = R0 → d_M_crop_24 S  I R u0 x1 x2 x3 x4 w0 = some out → ax_W X 8 24 [some (.ref u0), some (.int (x1)), some (.int (x2)), some (.int (x3)), some (.int (x4)), none, none, none] [.ref w0] S I R L 0 0 := by
  rintro I R u0 x1 x2 x3 x4 w0 hty hs0_ hw0_ hR0 h
  subst hR0
  unfold d_M_crop_24 at h
  refine ax_iconst (v := 1) (q := 25) hX dc_M_crop_24 rfl (by decide) ?_
  refine ax_goto (tgt := 29) hX dc_M_crop_25 (by decide) ?_
  exact (e_M_crop_29 hX hF hS0  I R u0 (x1) (x2) (x3) (x4) (1) w0 hty hs0_ hw0_ rfl h)
def d_M_crop (S : ax_S) (I : ax_I) (R : ax_R) (u0 : Nat) (x1 : Int32) (x2 : Int32) (x3 : Int32) (x4 : Int32) : Option (Int32 × ax_I) :=
  if x3 < 1 then
    d_M_crop_24 S  I R u0 (x1) (x2) (x3) (x4) u0
  else
    if x4 < 1 then
      d_M_crop_24 S  I R u0 (x1) (x2) (x3) (x4) u0
    else
      (d_M_lies S I R u0 (x1) (x2) (x3) (x4)).bind fun r5 =>
      if (ax_b r5) = 0 then
        d_M_crop_24 S  I R u0 (x1) (x2) (x3) (x4) u0
      else
        d_M_crop_29 S  I R u0 (x1) (x2) (x3) (x4) (0) u0
set_option maxHeartbeats 1000000 in
theorem c_M_crop (l : Launch) {S : ax_S} {I : ax_I} {R : ax_R} {L : ax_L} {u0 : Nat} {x1 : Int32} {x2 : Int32} {x3 : Int32} {x4 : Int32} {out : Int32 × ax_I} (hty : ax_typ S R) (hs0 : S u0 = some (.inl 5)) (h : d_M_crop S I R u0 x1 x2 x3 x4 = some out) : ax_Met l y_M_crop b_M_crop 8 (some .int) (ax_rm 4 0 0) [.ref u0, .int x1, .int x2, .int x3, .int x4] S I R L (ax_eq (some (.int out.1)) S out.2 R L) := by
  refine ax_enter (own := "LossFreeToolsModel") (by decide +kernel) rfl (ax_cats rfl) (Nat.le_of_ble_eq_true rfl) (fun X hX hF _ hS0 => ?_)
  show ax_W X 8 0 [some (.ref u0), some (.int (x1)), some (.int (x2)), some (.int (x3)), some (.int (x4)), none, none, none] [] S I R L 0 0
  unfold d_M_crop at h
  refine ax_aload_n (q := 1) hX dc_M_crop_0 rfl rfl rfl ?_
  refine ax_iload_n (q := 2) hX dc_M_crop_1 rfl rfl rfl ?_
  refine ax_iconst (v := 1) (q := 3) hX dc_M_crop_2 rfl (by decide) ?_
  refine ax_icmp_lt (tgt := 24) (q := 6) hX dc_M_crop_3 rfl (by decide) (fun z1 => ?_) (fun z1 => ?_)
  · rw [if_pos z1] at h
    exact (e_M_crop_24 hX hF hS0  I R u0 (x1) (x2) (x3) (x4) u0 hty hs0 hs0 rfl h)
  · rw [if_neg z1] at h
    refine ax_iload (q := 8) hX dc_M_crop_6 rfl rfl ?_
    refine ax_iconst (v := 1) (q := 9) hX dc_M_crop_8 rfl (by decide) ?_
    refine ax_icmp_lt (tgt := 24) (q := 12) hX dc_M_crop_9 rfl (by decide) (fun z2 => ?_) (fun z2 => ?_)
    · rw [if_pos z2] at h
      exact (e_M_crop_24 hX hF hS0  I R u0 (x1) (x2) (x3) (x4) u0 hty hs0 hs0 rfl h)
    · rw [if_neg z2] at h
      refine ax_aload_n (q := 13) hX dc_M_crop_12 rfl rfl rfl ?_
      refine ax_iload_n (q := 14) hX dc_M_crop_13 rfl rfl rfl ?_
      refine ax_iload_n (q := 15) hX dc_M_crop_14 rfl rfl rfl ?_
      refine ax_iload_n (q := 16) hX dc_M_crop_15 rfl rfl rfl ?_
      refine ax_iload (q := 18) hX dc_M_crop_16 rfl rfl ?_
      obtain ⟨r5, hr3, h⟩ := ax_bd h
      refine ax_kV (vs := [.int (x1), .int (x2), .int (x3), .int (x4)]) (rest := [.ref u0]) (q := 21) hX dc_M_crop_18 rfl mt_M_lies wl_M_88 wi_M_lies ws_M_lies hs0 rfl (c_M_lies l hty hs0 hr3) rfl (by decide) rfl (Nat.le_of_ble_eq_true rfl) rfl rfl (by decide) (by decide) rfl ?_
      refine ax_if_ne (tgt := 28) (q := 24) hX dc_M_crop_21 rfl (by decide) (fun z6 => ?_) (fun z6 => ?_)
      · rw [if_neg z6] at h
        refine ax_iconst (v := 0) (q := 29) hX dc_M_crop_28 rfl (by decide) ?_
        exact (e_M_crop_29 hX hF hS0  I R u0 (x1) (x2) (x3) (x4) (0) u0 hty hs0 hs0 rfl h)
      · rw [if_pos z6] at h
        exact (e_M_crop_24 hX hF hS0  I R u0 (x1) (x2) (x3) (x4) u0 hty hs0 hs0 rfl h)
def d_M_write_220 (S : ax_S) (rec171 : ax_I → ax_R → Nat → Int32 → Option (Int32 × ax_I)) (rec186 : ax_I → ax_R → Nat → Int32 → Int32 → Option (Int32 × ax_I)) (I : ax_I) (R : ax_R) (u0 : Nat) (x1 : Int32) (x2 : Int32) : Option (Int32 × ax_I) :=
  rec186 I R u0 (x1) (x2 + 1)
set_option maxHeartbeats 1000000 in
theorem e_M_write_220 {l : Launch} {X : ax_X} {S : ax_S} {L : ax_L} {R0 : ax_R} {out : Int32 × ax_I} (hX : ax_ok X l "LossFreeToolsModel" b_M_write 3 (ax_rm 4 0 0)) (hF : ax_fin X (some .int) 0 0 (ax_of (ax_eq (some (.int out.1)) S out.2 R0 L))) (hS0 : ax_S0 X = S) (rec171 : ax_I → ax_R → Nat → Int32 → Option (Int32 × ax_I)) (rec186 : ax_I → ax_R → Nat → Int32 → Int32 → Option (Int32 × ax_I)) (hrec171 : ∀ (I : ax_I) (R : ax_R) (u0 : Nat) (x1 : Int32), ax_typ S R → (S u0 = some (.inl 5)) → R = R0 → rec171 I R u0 x1 = some out → ax_W X 3 171 [some (.ref u0), some (.int (x1)), none] [] S I R L 0 0) (hrec186 : ∀ (I : ax_I) (R : ax_R) (u0 : Nat) (x1 : Int32) (x2 : Int32), ax_typ S R → (S u0 = some (.inl 5)) → R = R0 → rec186 I R u0 x1 x2 = some out → ax_W X 3 186 [some (.ref u0), some (.int (x1)), some (.int (x2))] [] S I R L 0 0) : ∀ (I : ax_I) (R : ax_R) (u0 : Nat) (x1 : Int32) (x2 : Int32), ax_typ S R → (S u0 = some (.inl 5)) → R = R0 → d_M_write_220 S rec171 rec186 I R u0 x1 x2 = some out → ax_W X 3 220 [some (.ref u0), some (.int (x1)), some (.int (x2))] [] S I R L 0 0 := by
  rintro I R u0 x1 x2 hty hs0_ hR0 h
  subst hR0
  unfold d_M_write_220 at h
  refine ax_iinc (v := x2 + 1) (ls' := [some (.ref u0), some (.int (x1)), some (.int (x2 + 1))]) (q := 223) hX dc_M_write_220 rfl rfl rfl (by decide) rfl ?_
  refine ax_goto (tgt := 186) hX dc_M_write_223 (by decide) ?_
  exact (hrec186 I R u0 (x1) (x2 + 1) hty hs0_ rfl h)
def d_M_write_186 (S : ax_S) (rec171 : ax_I → ax_R → Nat → Int32 → Option (Int32 × ax_I)) : Nat → ax_I → ax_R → Nat → Int32 → Int32 → Option (Int32 × ax_I)
  | 0, _, _, _, _, _ => none
  | n + 1, I, R, u0, x1, x2 =>
    (R u0 6).bind fun u101 =>
    (ax_ix S u101 (I u0 3)).bind fun j105 =>
    if (I u101 j105) ≤ x2 then
      rec171 I R u0 (x1 + 1)
    else
      (d_M_pointerOf S I R u0 (x2)).bind fun r110 =>
      if r110 = (I u0 22) then
        (d_M_tileAt S I R u0 (x2)).bind fun r114 =>
        (d_M_tellPart S I R u0 (r114)).bind fun I117 =>
        d_M_write_220 S (rec171) (d_M_write_186 S rec171 n) I117 R u0 (x1) (x2)
      else
        d_M_write_220 S (rec171) (d_M_write_186 S rec171 n) I R u0 (x1) (x2)
set_option maxHeartbeats 1000000 in
theorem e_M_write_186 {l : Launch} {X : ax_X} {S : ax_S} {L : ax_L} {R0 : ax_R} {out : Int32 × ax_I} (hX : ax_ok X l "LossFreeToolsModel" b_M_write 3 (ax_rm 4 0 0)) (hF : ax_fin X (some .int) 0 0 (ax_of (ax_eq (some (.int out.1)) S out.2 R0 L))) (hS0 : ax_S0 X = S) (rec171 : ax_I → ax_R → Nat → Int32 → Option (Int32 × ax_I)) (hrec171 : ∀ (I : ax_I) (R : ax_R) (u0 : Nat) (x1 : Int32), ax_typ S R → (S u0 = some (.inl 5)) → R = R0 → rec171 I R u0 x1 = some out → ax_W X 3 171 [some (.ref u0), some (.int (x1)), none] [] S I R L 0 0) : ∀ (n : Nat), ∀ (I : ax_I) (R : ax_R) (u0 : Nat) (x1 : Int32) (x2 : Int32), ax_typ S R → (S u0 = some (.inl 5)) → R = R0 → d_M_write_186 S rec171 n I R u0 x1 x2 = some out → ax_W X 3 186 [some (.ref u0), some (.int (x1)), some (.int (x2))] [] S I R L 0 0 := by
  intro n
  induction n with
  | zero =>
    rintro I R u0 x1 x2 hty hs0_ hR0 h
    cases h
  | succ n ih =>
    rintro I R u0 x1 x2 hty hs0_ hR0 h
    subst hR0
    unfold d_M_write_186 at h
    refine ax_iload_n (q := 187) hX dc_M_write_186 rfl rfl rfl ?_
    refine ax_aload_n (q := 188) hX dc_M_write_187 rfl rfl rfl ?_
    obtain ⟨u101, hu102, h⟩ := ax_bd h
    obtain ⟨n104, hs103⟩ : ∃ n, S u101 = some (.inr (0, n)) := hty.1 _ _ _ _ hs0_ hu102
    refine ax_getR (q := 191) hX dc_M_write_188 rfl fl_M_16 rfl hs0_ hu102 ?_
    refine ax_aload_n (q := 192) hX dc_M_write_191 rfl rfl rfl ?_
    refine ax_getI (q := 195) hX dc_M_write_192 rfl fl_M_71 rfl hs0_ ?_
    obtain ⟨j105, hj106, h⟩ := ax_bd h
    have hj106 := ax_ix_s hty hs103 hj106
    refine ax_iald (q := 196) hX j105 dc_M_write_195 rfl hs103 hj106.1 hj106.2.1 hj106.2.2 ?_
    refine ax_icmp_ge (tgt := 226) (q := 199) hX dc_M_write_196 rfl (by decide) (fun z107 => ?_) (fun z107 => ?_)
    · rw [if_pos z107] at h
      refine ax_iinc (v := x1 + 1) (ls' := [some (.ref u0), some (.int (x1 + 1)), some (.int (x2))]) (q := 229) hX dc_M_write_226 rfl rfl rfl (by decide) rfl ?_
      refine ax_goto (tgt := 171) hX dc_M_write_229 (by decide) ?_
      exact ax_weak (ls' := [some (.ref u0), some (.int (x1 + 1)), none]) (ax_fewP_s _ _ (by repeat (first | exact trivial | (refine And.intro rfl ?_)))) (hrec171 I R u0 (x1 + 1) hty hs0_ rfl h)
    · rw [if_neg z107] at h
      refine ax_aload_n (q := 200) hX dc_M_write_199 rfl rfl rfl ?_
      refine ax_iload_n (q := 201) hX dc_M_write_200 rfl rfl rfl ?_
      obtain ⟨r110, hr108, h⟩ := ax_bd h
      refine ax_kV (vs := [.int (x2)]) (rest := []) (q := 204) hX dc_M_write_201 rfl mt_M_pointerOf wl_M_143 wi_M_pointerOf ws_M_pointerOf hs0_ rfl (c_M_pointerOf l hty hs0_ hr108) rfl (by decide) rfl (Nat.le_of_ble_eq_true rfl) rfl rfl (by decide) (by decide) rfl ?_
      refine ax_aload_n (q := 205) hX dc_M_write_204 rfl rfl rfl ?_
      refine ax_getI (q := 208) hX dc_M_write_205 rfl fl_M_81 rfl hs0_ ?_
      refine ax_icmp_ne (tgt := 220) (q := 211) hX dc_M_write_208 rfl (by decide) (fun z111 => ?_) (fun z111 => ?_)
      · rw [if_neg z111] at h
        exact (e_M_write_220 hX hF hS0 (rec171) (d_M_write_186 S rec171 n) (hrec171) (ih) I R u0 (x1) (x2) hty hs0_ rfl h)
      · rw [if_pos z111] at h
        refine ax_aload_n (q := 212) hX dc_M_write_211 rfl rfl rfl ?_
        refine ax_aload_n (q := 213) hX dc_M_write_212 rfl rfl rfl ?_
        refine ax_iload_n (q := 214) hX dc_M_write_213 rfl rfl rfl ?_
        obtain ⟨r114, hr112, h⟩ := ax_bd h
        refine ax_kV (vs := [.int (x2)]) (rest := [.ref u0]) (q := 217) hX dc_M_write_214 rfl mt_M_tileAt wl_M_92 wi_M_tileAt ws_M_tileAt hs0_ rfl (c_M_tileAt l hty hs0_ hr112) rfl (by decide) rfl (Nat.le_of_ble_eq_true rfl) rfl rfl (by decide) (by decide) rfl ?_
        obtain ⟨I117, hr115, h⟩ := ax_bd h
        refine ax_kV (vs := [.int (r114)]) (rest := []) (q := 220) hX dc_M_write_217 rfl mt_M_tellPart wl_M_150 wi_M_tellPart ws_M_tellPart hs0_ rfl (c_M_tellPart l hty hs0_ hr115) rfl (by decide) rfl (Nat.le_of_ble_eq_true rfl) rfl rfl (by decide) (by decide) rfl ?_
        exact (e_M_write_220 hX hF hS0 (rec171) (d_M_write_186 S rec171 n) (hrec171) (ih) I117 R u0 (x1) (x2) hty hs0_ rfl h)
def d_M_write_171 (S : ax_S) : Nat → ax_I → ax_R → Nat → Int32 → Option (Int32 × ax_I)
  | 0, _, _, _, _ => none
  | n + 1, I, R, u0, x1 =>
    (R u0 6).bind fun u94 =>
    (ax_ix S u94 (I u0 3)).bind fun j98 =>
    if (I u94 j98) ≤ x1 then
      some (I u0 22, I)
    else
      d_M_write_186 S (d_M_write_171 S  n) 5000 I R u0 (x1) (0)
set_option maxHeartbeats 1000000 in
theorem e_M_write_171 {l : Launch} {X : ax_X} {S : ax_S} {L : ax_L} {R0 : ax_R} {out : Int32 × ax_I} (hX : ax_ok X l "LossFreeToolsModel" b_M_write 3 (ax_rm 4 0 0)) (hF : ax_fin X (some .int) 0 0 (ax_of (ax_eq (some (.int out.1)) S out.2 R0 L))) (hS0 : ax_S0 X = S) : ∀ (n : Nat), ∀ (I : ax_I) (R : ax_R) (u0 : Nat) (x1 : Int32), ax_typ S R → (S u0 = some (.inl 5)) → R = R0 → d_M_write_171 S  n I R u0 x1 = some out → ax_W X 3 171 [some (.ref u0), some (.int (x1)), none] [] S I R L 0 0 := by
  intro n
  induction n with
  | zero =>
    rintro I R u0 x1 hty hs0_ hR0 h
    cases h
  | succ n ih =>
    rintro I R u0 x1 hty hs0_ hR0 h
    subst hR0
    unfold d_M_write_171 at h
    refine ax_iload_n (q := 172) hX dc_M_write_171 rfl rfl rfl ?_
    refine ax_aload_n (q := 173) hX dc_M_write_172 rfl rfl rfl ?_
    obtain ⟨u94, hu95, h⟩ := ax_bd h
    obtain ⟨n97, hs96⟩ : ∃ n, S u94 = some (.inr (0, n)) := hty.1 _ _ _ _ hs0_ hu95
    refine ax_getR (q := 176) hX dc_M_write_173 rfl fl_M_16 rfl hs0_ hu95 ?_
    refine ax_aload_n (q := 177) hX dc_M_write_176 rfl rfl rfl ?_
    refine ax_getI (q := 180) hX dc_M_write_177 rfl fl_M_71 rfl hs0_ ?_
    obtain ⟨j98, hj99, h⟩ := ax_bd h
    have hj99 := ax_ix_s hty hs96 hj99
    refine ax_iald (q := 181) hX j98 dc_M_write_180 rfl hs96 hj99.1 hj99.2.1 hj99.2.2 ?_
    refine ax_icmp_ge (tgt := 232) (q := 184) hX dc_M_write_181 rfl (by decide) (fun z100 => ?_) (fun z100 => ?_)
    · rw [if_pos z100] at h
      refine ax_aload_n (q := 233) hX dc_M_write_232 rfl rfl rfl ?_
      refine ax_getI (q := 236) hX dc_M_write_233 rfl fl_M_81 rfl hs0_ ?_
      cases h
      exact ax_iret hX hF dc_M_write_236 rfl rfl (by decide) (by decide) ax_eq.mk (by rw [hS0]; exact fun _ _ z => z)
    · rw [if_neg z100] at h
      refine ax_iconst (v := 0) (q := 185) hX dc_M_write_184 rfl (by decide) ?_
      refine ax_istore_n (ls' := [some (.ref u0), some (.int (x1)), some (.int (0))]) (q := 186) hX dc_M_write_185 rfl rfl (by decide) rfl ?_
      exact (e_M_write_186 hX hF hS0 (d_M_write_171 S  n) (ih) 5000 I R u0 (x1) (0) hty hs0_ rfl h)
def d_M_write_112 (S : ax_S) : Nat → ax_I → ax_R → Nat → Int32 → Option (Int32 × ax_I)
  | 0, _, _, _, _ => none
  | n + 1, I, R, u0, x1 =>
    (R u0 7).bind fun u60 =>
    (ax_ix S u60 (I u0 3)).bind fun j64 =>
    if ((20 * (I u0 3)) + (I u60 j64)) ≤ x1 then
      d_M_write_171 S  5000 I R u0 (0)
    else
      (R u0 15).bind fun u67 =>
      (ax_ix S u67 (x1)).bind fun j71 =>
      (d_M_tellTwo S I R u0 (I u67 j71)).bind fun I75 =>
      (R u0 16).bind fun u76 =>
      (ax_ix S u76 (x1)).bind fun j80 =>
      (d_M_tellTwo S I75 R u0 (I75 u76 j80)).bind fun I84 =>
      (R u0 17).bind fun u85 =>
      (ax_ix S u85 (x1)).bind fun j89 =>
      (d_M_tell S I84 R u0 (I84 u85 j89)).bind fun I93 =>
      d_M_write_112 S  n I93 R u0 (x1 + 1)
set_option maxHeartbeats 1000000 in
theorem e_M_write_112 {l : Launch} {X : ax_X} {S : ax_S} {L : ax_L} {R0 : ax_R} {out : Int32 × ax_I} (hX : ax_ok X l "LossFreeToolsModel" b_M_write 3 (ax_rm 4 0 0)) (hF : ax_fin X (some .int) 0 0 (ax_of (ax_eq (some (.int out.1)) S out.2 R0 L))) (hS0 : ax_S0 X = S) : ∀ (n : Nat), ∀ (I : ax_I) (R : ax_R) (u0 : Nat) (x1 : Int32), ax_typ S R → (S u0 = some (.inl 5)) → R = R0 → d_M_write_112 S  n I R u0 x1 = some out → ax_W X 3 112 [some (.ref u0), some (.int (x1)), none] [] S I R L 0 0 := by
  intro n
  induction n with
  | zero =>
    rintro I R u0 x1 hty hs0_ hR0 h
    cases h
  | succ n ih =>
    rintro I R u0 x1 hty hs0_ hR0 h
    subst hR0
    unfold d_M_write_112 at h
    refine ax_iload_n (q := 113) hX dc_M_write_112 rfl rfl rfl ?_
    refine ax_bipush (v := 20) (q := 115) hX dc_M_write_113 rfl (by decide) ?_
    refine ax_aload_n (q := 116) hX dc_M_write_115 rfl rfl rfl ?_
    refine ax_getI (q := 119) hX dc_M_write_116 rfl fl_M_71 rfl hs0_ ?_
    refine ax_imul (q := 120) hX dc_M_write_119 rfl ?_
    refine ax_aload_n (q := 121) hX dc_M_write_120 rfl rfl rfl ?_
    obtain ⟨u60, hu61, h⟩ := ax_bd h
    obtain ⟨n63, hs62⟩ : ∃ n, S u60 = some (.inr (0, n)) := hty.1 _ _ _ _ hs0_ hu61
    refine ax_getR (q := 124) hX dc_M_write_121 rfl fl_M_19 rfl hs0_ hu61 ?_
    refine ax_aload_n (q := 125) hX dc_M_write_124 rfl rfl rfl ?_
    refine ax_getI (q := 128) hX dc_M_write_125 rfl fl_M_71 rfl hs0_ ?_
    obtain ⟨j64, hj65, h⟩ := ax_bd h
    have hj65 := ax_ix_s hty hs62 hj65
    refine ax_iald (q := 129) hX j64 dc_M_write_128 rfl hs62 hj65.1 hj65.2.1 hj65.2.2 ?_
    refine ax_iadd (q := 130) hX dc_M_write_129 rfl ?_
    refine ax_icmp_ge (tgt := 169) (q := 133) hX dc_M_write_130 rfl (by decide) (fun z66 => ?_) (fun z66 => ?_)
    · rw [if_pos z66] at h
      refine ax_iconst (v := 0) (q := 170) hX dc_M_write_169 rfl (by decide) ?_
      refine ax_istore_n (ls' := [some (.ref u0), some (.int (0)), none]) (q := 171) hX dc_M_write_170 rfl rfl (by decide) rfl ?_
      exact (e_M_write_171 hX hF hS0  5000 I R u0 (0) hty hs0_ rfl h)
    · rw [if_neg z66] at h
      refine ax_aload_n (q := 134) hX dc_M_write_133 rfl rfl rfl ?_
      refine ax_aload_n (q := 135) hX dc_M_write_134 rfl rfl rfl ?_
      obtain ⟨u67, hu68, h⟩ := ax_bd h
      obtain ⟨n70, hs69⟩ : ∃ n, S u67 = some (.inr (0, n)) := hty.1 _ _ _ _ hs0_ hu68
      refine ax_getR (q := 138) hX dc_M_write_135 rfl fl_M_43 rfl hs0_ hu68 ?_
      refine ax_iload_n (q := 139) hX dc_M_write_138 rfl rfl rfl ?_
      obtain ⟨j71, hj72, h⟩ := ax_bd h
      have hj72 := ax_ix_s hty hs69 hj72
      refine ax_iald (q := 140) hX j71 dc_M_write_139 rfl hs69 hj72.1 hj72.2.1 hj72.2.2 ?_
      obtain ⟨I75, hr73, h⟩ := ax_bd h
      refine ax_kV (vs := [.int (I u67 j71)]) (rest := []) (q := 143) hX dc_M_write_140 rfl mt_M_tellTwo wl_M_146 wi_M_tellTwo ws_M_tellTwo hs0_ rfl (c_M_tellTwo l hty hs0_ hr73) rfl (by decide) rfl (Nat.le_of_ble_eq_true rfl) rfl rfl (by decide) (by decide) rfl ?_
      refine ax_aload_n (q := 144) hX dc_M_write_143 rfl rfl rfl ?_
      refine ax_aload_n (q := 145) hX dc_M_write_144 rfl rfl rfl ?_
      obtain ⟨u76, hu77, h⟩ := ax_bd h
      obtain ⟨n79, hs78⟩ : ∃ n, S u76 = some (.inr (0, n)) := hty.1 _ _ _ _ hs0_ hu77
      refine ax_getR (q := 148) hX dc_M_write_145 rfl fl_M_46 rfl hs0_ hu77 ?_
      refine ax_iload_n (q := 149) hX dc_M_write_148 rfl rfl rfl ?_
      obtain ⟨j80, hj81, h⟩ := ax_bd h
      have hj81 := ax_ix_s hty hs78 hj81
      refine ax_iald (q := 150) hX j80 dc_M_write_149 rfl hs78 hj81.1 hj81.2.1 hj81.2.2 ?_
      obtain ⟨I84, hr82, h⟩ := ax_bd h
      refine ax_kV (vs := [.int (I75 u76 j80)]) (rest := []) (q := 153) hX dc_M_write_150 rfl mt_M_tellTwo wl_M_146 wi_M_tellTwo ws_M_tellTwo hs0_ rfl (c_M_tellTwo l hty hs0_ hr82) rfl (by decide) rfl (Nat.le_of_ble_eq_true rfl) rfl rfl (by decide) (by decide) rfl ?_
      refine ax_aload_n (q := 154) hX dc_M_write_153 rfl rfl rfl ?_
      refine ax_aload_n (q := 155) hX dc_M_write_154 rfl rfl rfl ?_
      obtain ⟨u85, hu86, h⟩ := ax_bd h
      obtain ⟨n88, hs87⟩ : ∃ n, S u85 = some (.inr (0, n)) := hty.1 _ _ _ _ hs0_ hu86
      refine ax_getR (q := 158) hX dc_M_write_155 rfl fl_M_49 rfl hs0_ hu86 ?_
      refine ax_iload_n (q := 159) hX dc_M_write_158 rfl rfl rfl ?_
      obtain ⟨j89, hj90, h⟩ := ax_bd h
      have hj90 := ax_ix_s hty hs87 hj90
      refine ax_iald (q := 160) hX j89 dc_M_write_159 rfl hs87 hj90.1 hj90.2.1 hj90.2.2 ?_
      obtain ⟨I93, hr91, h⟩ := ax_bd h
      refine ax_kV (vs := [.int (I84 u85 j89)]) (rest := []) (q := 163) hX dc_M_write_160 rfl mt_M_tell wl_M_133 wi_M_tell ws_M_tell hs0_ rfl (c_M_tell l hty hs0_ hr91) rfl (by decide) rfl (Nat.le_of_ble_eq_true rfl) rfl rfl (by decide) (by decide) rfl ?_
      refine ax_iinc (v := x1 + 1) (ls' := [some (.ref u0), some (.int (x1 + 1)), none]) (q := 166) hX dc_M_write_163 rfl rfl rfl (by decide) rfl ?_
      refine ax_goto (tgt := 112) hX dc_M_write_166 (by decide) ?_
      exact (ih I93 R u0 (x1 + 1) hty hs0_ rfl h)
def d_M_write_63 (S : ax_S) : Nat → ax_I → ax_R → Nat → Int32 → Option (Int32 × ax_I)
  | 0, _, _, _, _ => none
  | n + 1, I, R, u0, x1 =>
    (R u0 6).bind fun u38 =>
    (ax_ix S u38 (I u0 3)).bind fun j42 =>
    if (I u38 j42) ≤ x1 then
      (R u0 7).bind fun u45 =>
      (ax_ix S u45 (I u0 3)).bind fun j49 =>
      (d_M_tell S I R u0 (I u45 j49)).bind fun I53 =>
      d_M_write_112 S  5000 I53 R u0 (20 * (I53 u0 3))
    else
      (d_M_pointerOf S I R u0 (x1)).bind fun r56 =>
      (d_M_tellTwo S I R u0 (r56)).bind fun I59 =>
      d_M_write_63 S  n I59 R u0 (x1 + 1)
set_option maxHeartbeats 1000000 in
theorem e_M_write_63 {l : Launch} {X : ax_X} {S : ax_S} {L : ax_L} {R0 : ax_R} {out : Int32 × ax_I} (hX : ax_ok X l "LossFreeToolsModel" b_M_write 3 (ax_rm 4 0 0)) (hF : ax_fin X (some .int) 0 0 (ax_of (ax_eq (some (.int out.1)) S out.2 R0 L))) (hS0 : ax_S0 X = S) : ∀ (n : Nat), ∀ (I : ax_I) (R : ax_R) (u0 : Nat) (x1 : Int32), ax_typ S R → (S u0 = some (.inl 5)) → R = R0 → d_M_write_63 S  n I R u0 x1 = some out → ax_W X 3 63 [some (.ref u0), some (.int (x1)), none] [] S I R L 0 0 := by
  intro n
  induction n with
  | zero =>
    rintro I R u0 x1 hty hs0_ hR0 h
    cases h
  | succ n ih =>
    rintro I R u0 x1 hty hs0_ hR0 h
    subst hR0
    unfold d_M_write_63 at h
    refine ax_iload_n (q := 64) hX dc_M_write_63 rfl rfl rfl ?_
    refine ax_aload_n (q := 65) hX dc_M_write_64 rfl rfl rfl ?_
    obtain ⟨u38, hu39, h⟩ := ax_bd h
    obtain ⟨n41, hs40⟩ : ∃ n, S u38 = some (.inr (0, n)) := hty.1 _ _ _ _ hs0_ hu39
    refine ax_getR (q := 68) hX dc_M_write_65 rfl fl_M_16 rfl hs0_ hu39 ?_
    refine ax_aload_n (q := 69) hX dc_M_write_68 rfl rfl rfl ?_
    refine ax_getI (q := 72) hX dc_M_write_69 rfl fl_M_71 rfl hs0_ ?_
    obtain ⟨j42, hj43, h⟩ := ax_bd h
    have hj43 := ax_ix_s hty hs40 hj43
    refine ax_iald (q := 73) hX j42 dc_M_write_72 rfl hs40 hj43.1 hj43.2.1 hj43.2.2 ?_
    refine ax_icmp_ge (tgt := 91) (q := 76) hX dc_M_write_73 rfl (by decide) (fun z44 => ?_) (fun z44 => ?_)
    · rw [if_pos z44] at h
      refine ax_aload_n (q := 92) hX dc_M_write_91 rfl rfl rfl ?_
      refine ax_aload_n (q := 93) hX dc_M_write_92 rfl rfl rfl ?_
      obtain ⟨u45, hu46, h⟩ := ax_bd h
      obtain ⟨n48, hs47⟩ : ∃ n, S u45 = some (.inr (0, n)) := hty.1 _ _ _ _ hs0_ hu46
      refine ax_getR (q := 96) hX dc_M_write_93 rfl fl_M_19 rfl hs0_ hu46 ?_
      refine ax_aload_n (q := 97) hX dc_M_write_96 rfl rfl rfl ?_
      refine ax_getI (q := 100) hX dc_M_write_97 rfl fl_M_71 rfl hs0_ ?_
      obtain ⟨j49, hj50, h⟩ := ax_bd h
      have hj50 := ax_ix_s hty hs47 hj50
      refine ax_iald (q := 101) hX j49 dc_M_write_100 rfl hs47 hj50.1 hj50.2.1 hj50.2.2 ?_
      obtain ⟨I53, hr51, h⟩ := ax_bd h
      refine ax_kV (vs := [.int (I u45 j49)]) (rest := []) (q := 104) hX dc_M_write_101 rfl mt_M_tell wl_M_133 wi_M_tell ws_M_tell hs0_ rfl (c_M_tell l hty hs0_ hr51) rfl (by decide) rfl (Nat.le_of_ble_eq_true rfl) rfl rfl (by decide) (by decide) rfl ?_
      refine ax_bipush (v := 20) (q := 106) hX dc_M_write_104 rfl (by decide) ?_
      refine ax_aload_n (q := 107) hX dc_M_write_106 rfl rfl rfl ?_
      refine ax_getI (q := 110) hX dc_M_write_107 rfl fl_M_71 rfl hs0_ ?_
      refine ax_imul (q := 111) hX dc_M_write_110 rfl ?_
      refine ax_istore_n (ls' := [some (.ref u0), some (.int (20 * (I53 u0 3))), none]) (q := 112) hX dc_M_write_111 rfl rfl (by decide) rfl ?_
      exact (e_M_write_112 hX hF hS0  5000 I53 R u0 (20 * (I53 u0 3)) hty hs0_ rfl h)
    · rw [if_neg z44] at h
      refine ax_aload_n (q := 77) hX dc_M_write_76 rfl rfl rfl ?_
      refine ax_aload_n (q := 78) hX dc_M_write_77 rfl rfl rfl ?_
      refine ax_iload_n (q := 79) hX dc_M_write_78 rfl rfl rfl ?_
      obtain ⟨r56, hr54, h⟩ := ax_bd h
      refine ax_kV (vs := [.int (x1)]) (rest := [.ref u0]) (q := 82) hX dc_M_write_79 rfl mt_M_pointerOf wl_M_143 wi_M_pointerOf ws_M_pointerOf hs0_ rfl (c_M_pointerOf l hty hs0_ hr54) rfl (by decide) rfl (Nat.le_of_ble_eq_true rfl) rfl rfl (by decide) (by decide) rfl ?_
      obtain ⟨I59, hr57, h⟩ := ax_bd h
      refine ax_kV (vs := [.int (r56)]) (rest := []) (q := 85) hX dc_M_write_82 rfl mt_M_tellTwo wl_M_146 wi_M_tellTwo ws_M_tellTwo hs0_ rfl (c_M_tellTwo l hty hs0_ hr57) rfl (by decide) rfl (Nat.le_of_ble_eq_true rfl) rfl rfl (by decide) (by decide) rfl ?_
      refine ax_iinc (v := x1 + 1) (ls' := [some (.ref u0), some (.int (x1 + 1)), none]) (q := 88) hX dc_M_write_85 rfl rfl rfl (by decide) rfl ?_
      refine ax_goto (tgt := 63) hX dc_M_write_88 (by decide) ?_
      exact (ih I59 R u0 (x1 + 1) hty hs0_ rfl h)
def d_M_write (S : ax_S) (I : ax_I) (R : ax_R) (u0 : Nat) : Option (Int32 × ax_I) :=
  (some (ax_up I u0 0 (0))).bind fun I1 =>
  (some (ax_up I1 u0 22 (0))).bind fun I3 =>
  (d_M_tell S I3 R u0 (76)).bind fun I7 =>
  (d_M_tell S I7 R u0 (70)).bind fun I10 =>
  (R u0 4).bind fun u11 =>
  (ax_ix S u11 (I10 u0 3)).bind fun j15 =>
  (d_M_tellTwo S I10 R u0 (I10 u11 j15)).bind fun I19 =>
  (R u0 5).bind fun u20 =>
  (ax_ix S u20 (I19 u0 3)).bind fun j24 =>
  (d_M_tellTwo S I19 R u0 (I19 u20 j24)).bind fun I28 =>
  (R u0 6).bind fun u29 =>
  (ax_ix S u29 (I28 u0 3)).bind fun j33 =>
  (d_M_tell S I28 R u0 (I28 u29 j33)).bind fun I37 =>
  d_M_write_63 S  5000 I37 R u0 (0)
set_option maxHeartbeats 1000000 in
theorem c_M_write (l : Launch) {S : ax_S} {I : ax_I} {R : ax_R} {L : ax_L} {u0 : Nat} {out : Int32 × ax_I} (hty : ax_typ S R) (hs0 : S u0 = some (.inl 5)) (h : d_M_write S I R u0 = some out) : ax_Met l y_M_write b_M_write 3 (some .int) (ax_rm 4 0 0) [.ref u0] S I R L (ax_eq (some (.int out.1)) S out.2 R L) := by
  refine ax_enter (own := "LossFreeToolsModel") (by decide +kernel) rfl (ax_cats rfl) (Nat.le_of_ble_eq_true rfl) (fun X hX hF _ hS0 => ?_)
  show ax_W X 3 0 [some (.ref u0), none, none] [] S I R L 0 0
  unfold d_M_write at h
  refine ax_aload_n (q := 1) hX dc_M_write_0 rfl rfl rfl ?_
  refine ax_iconst (v := 0) (q := 2) hX dc_M_write_1 rfl (by decide) ?_
  obtain ⟨I1, e2, h⟩ := ax_bs h
  refine ax_putI (q := 5) hX dc_M_write_2 rfl fl_M_68 rfl hs0 (fun z => by cases z) rfl rfl e2 ?_
  refine ax_aload_n (q := 6) hX dc_M_write_5 rfl rfl rfl ?_
  refine ax_iconst (v := 0) (q := 7) hX dc_M_write_6 rfl (by decide) ?_
  obtain ⟨I3, e4, h⟩ := ax_bs h
  refine ax_putI (q := 10) hX dc_M_write_7 rfl fl_M_81 rfl hs0 (fun z => by cases z) rfl rfl e4 ?_
  refine ax_aload_n (q := 11) hX dc_M_write_10 rfl rfl rfl ?_
  refine ax_bipush (v := 76) (q := 13) hX dc_M_write_11 rfl (by decide) ?_
  obtain ⟨I7, hr5, h⟩ := ax_bd h
  refine ax_kV (vs := [.int (76)]) (rest := []) (q := 16) hX dc_M_write_13 rfl mt_M_tell wl_M_133 wi_M_tell ws_M_tell hs0 rfl (c_M_tell l hty hs0 hr5) rfl (by decide) rfl (Nat.le_of_ble_eq_true rfl) rfl rfl (by decide) (by decide) rfl ?_
  refine ax_aload_n (q := 17) hX dc_M_write_16 rfl rfl rfl ?_
  refine ax_bipush (v := 70) (q := 19) hX dc_M_write_17 rfl (by decide) ?_
  obtain ⟨I10, hr8, h⟩ := ax_bd h
  refine ax_kV (vs := [.int (70)]) (rest := []) (q := 22) hX dc_M_write_19 rfl mt_M_tell wl_M_133 wi_M_tell ws_M_tell hs0 rfl (c_M_tell l hty hs0 hr8) rfl (by decide) rfl (Nat.le_of_ble_eq_true rfl) rfl rfl (by decide) (by decide) rfl ?_
  refine ax_aload_n (q := 23) hX dc_M_write_22 rfl rfl rfl ?_
  refine ax_aload_n (q := 24) hX dc_M_write_23 rfl rfl rfl ?_
  obtain ⟨u11, hu12, h⟩ := ax_bd h
  obtain ⟨n14, hs13⟩ : ∃ n, S u11 = some (.inr (0, n)) := hty.1 _ _ _ _ hs0 hu12
  refine ax_getR (q := 27) hX dc_M_write_24 rfl fl_M_7 rfl hs0 hu12 ?_
  refine ax_aload_n (q := 28) hX dc_M_write_27 rfl rfl rfl ?_
  refine ax_getI (q := 31) hX dc_M_write_28 rfl fl_M_71 rfl hs0 ?_
  obtain ⟨j15, hj16, h⟩ := ax_bd h
  have hj16 := ax_ix_s hty hs13 hj16
  refine ax_iald (q := 32) hX j15 dc_M_write_31 rfl hs13 hj16.1 hj16.2.1 hj16.2.2 ?_
  obtain ⟨I19, hr17, h⟩ := ax_bd h
  refine ax_kV (vs := [.int (I10 u11 j15)]) (rest := []) (q := 35) hX dc_M_write_32 rfl mt_M_tellTwo wl_M_146 wi_M_tellTwo ws_M_tellTwo hs0 rfl (c_M_tellTwo l hty hs0 hr17) rfl (by decide) rfl (Nat.le_of_ble_eq_true rfl) rfl rfl (by decide) (by decide) rfl ?_
  refine ax_aload_n (q := 36) hX dc_M_write_35 rfl rfl rfl ?_
  refine ax_aload_n (q := 37) hX dc_M_write_36 rfl rfl rfl ?_
  obtain ⟨u20, hu21, h⟩ := ax_bd h
  obtain ⟨n23, hs22⟩ : ∃ n, S u20 = some (.inr (0, n)) := hty.1 _ _ _ _ hs0 hu21
  refine ax_getR (q := 40) hX dc_M_write_37 rfl fl_M_13 rfl hs0 hu21 ?_
  refine ax_aload_n (q := 41) hX dc_M_write_40 rfl rfl rfl ?_
  refine ax_getI (q := 44) hX dc_M_write_41 rfl fl_M_71 rfl hs0 ?_
  obtain ⟨j24, hj25, h⟩ := ax_bd h
  have hj25 := ax_ix_s hty hs22 hj25
  refine ax_iald (q := 45) hX j24 dc_M_write_44 rfl hs22 hj25.1 hj25.2.1 hj25.2.2 ?_
  obtain ⟨I28, hr26, h⟩ := ax_bd h
  refine ax_kV (vs := [.int (I19 u20 j24)]) (rest := []) (q := 48) hX dc_M_write_45 rfl mt_M_tellTwo wl_M_146 wi_M_tellTwo ws_M_tellTwo hs0 rfl (c_M_tellTwo l hty hs0 hr26) rfl (by decide) rfl (Nat.le_of_ble_eq_true rfl) rfl rfl (by decide) (by decide) rfl ?_
  refine ax_aload_n (q := 49) hX dc_M_write_48 rfl rfl rfl ?_
  refine ax_aload_n (q := 50) hX dc_M_write_49 rfl rfl rfl ?_
  obtain ⟨u29, hu30, h⟩ := ax_bd h
  obtain ⟨n32, hs31⟩ : ∃ n, S u29 = some (.inr (0, n)) := hty.1 _ _ _ _ hs0 hu30
  refine ax_getR (q := 53) hX dc_M_write_50 rfl fl_M_16 rfl hs0 hu30 ?_
  refine ax_aload_n (q := 54) hX dc_M_write_53 rfl rfl rfl ?_
  refine ax_getI (q := 57) hX dc_M_write_54 rfl fl_M_71 rfl hs0 ?_
  obtain ⟨j33, hj34, h⟩ := ax_bd h
  have hj34 := ax_ix_s hty hs31 hj34
  refine ax_iald (q := 58) hX j33 dc_M_write_57 rfl hs31 hj34.1 hj34.2.1 hj34.2.2 ?_
  obtain ⟨I37, hr35, h⟩ := ax_bd h
  refine ax_kV (vs := [.int (I28 u29 j33)]) (rest := []) (q := 61) hX dc_M_write_58 rfl mt_M_tell wl_M_133 wi_M_tell ws_M_tell hs0 rfl (c_M_tell l hty hs0 hr35) rfl (by decide) rfl (Nat.le_of_ble_eq_true rfl) rfl rfl (by decide) (by decide) rfl ?_
  refine ax_iconst (v := 0) (q := 62) hX dc_M_write_61 rfl (by decide) ?_
  refine ax_istore_n (ls' := [some (.ref u0), some (.int (0)), none]) (q := 63) hX dc_M_write_62 rfl rfl (by decide) rfl ?_
  exact (e_M_write_63 hX hF hS0  5000 I37 R u0 (0) hty hs0 rfl h)
