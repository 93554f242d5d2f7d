def d_P_nearestFit_64 (S : ax_S) (rec9 : ax_I → ax_R → Nat → Int32 → Int32 → Int32 → Int32 → Option (Int32)) (I : ax_I) (R : ax_R) (u0 : Nat) (x1 : Int32) (x2 : Int32) (x3 : Int32) (x4 : Int32) : Option (Int32) :=
  rec9 I R u0 (x1) (x2) (x3) (x4 + 1)
set_option maxHeartbeats 1000000 in
theorem e_P_nearestFit_64 {l : Launch} {X : ax_X} {S : ax_S} {L : ax_L} {I0 : ax_I} {R0 : ax_R} {out : Int32} (hX : ax_ok X l "LossFreeTools$Picture" b_P_nearestFit 7 (ax_rm 3 0 0)) (hF : ax_fin X (some .int) 0 0 (ax_of (ax_eq (some (.int out)) S I0 R0 L))) (hS0 : ax_S0 X = S) (rec9 : ax_I → ax_R → Nat → Int32 → Int32 → Int32 → Int32 → Option (Int32)) (hrec9 : ∀ (I : ax_I) (R : ax_R) (u0 : Nat) (x1 : Int32) (x2 : Int32) (x3 : Int32) (x4 : Int32), ax_typ S R → (S u0 = some (.inl 1)) → I = I0 → R = R0 → rec9 I R u0 x1 x2 x3 x4 = some out → ax_W X 7 9 [some (.ref u0), some (.int (x1)), some (.int (x2)), some (.int (x3)), some (.int (x4)), none, none] [] S I R L 0 0) : ∀ (I : ax_I) (R : ax_R) (u0 : Nat) (x1 : Int32) (x2 : Int32) (x3 : Int32) (x4 : Int32), ax_typ S R → (S u0 = some (.inl 1)) → I = I0 → R = R0 → d_P_nearestFit_64 S rec9 I R u0 x1 x2 x3 x4 = some out → ax_W X 7 64 [some (.ref u0), some (.int (x1)), some (.int (x2)), some (.int (x3)), some (.int (x4)), none, none] [] S I R L 0 0 := by
  rintro I R u0 x1 x2 x3 x4 hty hs0_ hI0 hR0 h
  subst hI0
  subst hR0
  unfold d_P_nearestFit_64 at h
  refine ax_iinc (v := x4 + 1) (ls' := [some (.ref u0), some (.int (x1)), some (.int (x2)), some (.int (x3)), some (.int (x4 + 1)), none, none]) (q := 67) hX dc_P_nearestFit_64 rfl rfl rfl (by decide) rfl ?_
  refine ax_goto (tgt := 9) hX dc_P_nearestFit_67 (by decide) ?_
  exact (hrec9 I R u0 (x1) (x2) (x3) (x4 + 1) hty hs0_ rfl rfl h)
def d_P_nearestFit_39 (S : ax_S) (rec9 : ax_I → ax_R → Nat → Int32 → Int32 → Int32 → Int32 → Option (Int32)) (I : ax_I) (R : ax_R) (u0 : Nat) (x1 : Int32) (x2 : Int32) (x3 : Int32) (x4 : Int32) : Option (Int32) :=
  if x3 < (x2 + x4) then
    d_P_nearestFit_64 S (rec9) I R u0 (x1) (x2) (x3) (x4)
  else
    (d_P_borderFits S I R u0 (x1) (x2 + x4)).bind fun r13 =>
    if (ax_b r13) = 0 then
      d_P_nearestFit_64 S (rec9) I R u0 (x1) (x2) (x3) (x4)
    else
      some (x2 + x4)
set_option maxHeartbeats 1000000 in
theorem e_P_nearestFit_39 {l : Launch} {X : ax_X} {S : ax_S} {L : ax_L} {I0 : ax_I} {R0 : ax_R} {out : Int32} (hX : ax_ok X l "LossFreeTools$Picture" b_P_nearestFit 7 (ax_rm 3 0 0)) (hF : ax_fin X (some .int) 0 0 (ax_of (ax_eq (some (.int out)) S I0 R0 L))) (hS0 : ax_S0 X = S) (rec9 : ax_I → ax_R → Nat → Int32 → Int32 → Int32 → Int32 → Option (Int32)) (hrec9 : ∀ (I : ax_I) (R : ax_R) (u0 : Nat) (x1 : Int32) (x2 : Int32) (x3 : Int32) (x4 : Int32), ax_typ S R → (S u0 = some (.inl 1)) → I = I0 → R = R0 → rec9 I R u0 x1 x2 x3 x4 = some out → ax_W X 7 9 [some (.ref u0), some (.int (x1)), some (.int (x2)), some (.int (x3)), some (.int (x4)), none, none] [] S I R L 0 0) : ∀ (I : ax_I) (R : ax_R) (u0 : Nat) (x1 : Int32) (x2 : Int32) (x3 : Int32) (x4 : Int32), ax_typ S R → (S u0 = some (.inl 1)) → I = I0 → R = R0 → d_P_nearestFit_39 S rec9 I R u0 x1 x2 x3 x4 = some out → ax_W X 7 39 [some (.ref u0), some (.int (x1)), some (.int (x2)), some (.int (x3)), some (.int (x4)), none, none] [] S I R L 0 0 := by
  rintro I R u0 x1 x2 x3 x4 hty hs0_ hI0 hR0 h
  subst hI0
  subst hR0
  unfold d_P_nearestFit_39 at h
  refine ax_iload_n (q := 40) hX dc_P_nearestFit_39 rfl rfl rfl ?_
  refine ax_iload (q := 42) hX dc_P_nearestFit_40 rfl rfl ?_
  refine ax_iadd (q := 43) hX dc_P_nearestFit_42 rfl ?_
  refine ax_istore (ls' := [some (.ref u0), some (.int (x1)), some (.int (x2)), some (.int (x3)), some (.int (x4)), none, some (.int (x2 + x4))]) (q := 45) hX dc_P_nearestFit_43 rfl (by decide) rfl ?_
  refine ax_iload (q := 47) hX dc_P_nearestFit_45 rfl rfl ?_
  refine ax_iload_n (q := 48) hX dc_P_nearestFit_47 rfl rfl rfl ?_
  refine ax_icmp_gt (tgt := 64) (q := 51) hX dc_P_nearestFit_48 rfl (by decide) (fun z10 => ?_) (fun z10 => ?_)
  · rw [if_pos z10] at h
    exact ax_weak (ls' := [some (.ref u0), some (.int (x1)), some (.int (x2)), some (.int (x3)), some (.int (x4)), none, none]) (ax_fewP_s _ _ (by repeat (first | exact trivial | (refine And.intro rfl ?_)))) (e_P_nearestFit_64 hX hF hS0 (rec9) (hrec9) I R u0 (x1) (x2) (x3) (x4) hty hs0_ rfl rfl h)
  · rw [if_neg z10] at h
    refine ax_aload_n (q := 52) hX dc_P_nearestFit_51 rfl rfl rfl ?_
    refine ax_iload_n (q := 53) hX dc_P_nearestFit_52 rfl rfl rfl ?_
    refine ax_iload (q := 55) hX dc_P_nearestFit_53 rfl rfl ?_
    obtain ⟨r13, hr11, h⟩ := ax_bd h
    refine ax_kV (vs := [.int (x1), .int (x2 + x4)]) (rest := []) (q := 58) hX dc_P_nearestFit_55 rfl mt_P_borderFits wl_P_57 wi_P_borderFits ws_P_borderFits hs0_ rfl (c_P_borderFits l hty hs0_ hr11) rfl (by decide) rfl (Nat.le_of_ble_eq_true rfl) rfl rfl (by decide) (by decide) rfl ?_
    refine ax_if_eq (tgt := 64) (q := 61) hX dc_P_nearestFit_58 rfl (by decide) (fun z14 => ?_) (fun z14 => ?_)
    · rw [if_pos z14] at h
      exact ax_weak (ls' := [some (.ref u0), some (.int (x1)), some (.int (x2)), some (.int (x3)), some (.int (x4)), none, none]) (ax_fewP_s _ _ (by repeat (first | exact trivial | (refine And.intro rfl ?_)))) (e_P_nearestFit_64 hX hF hS0 (rec9) (hrec9) I R u0 (x1) (x2) (x3) (x4) hty hs0_ rfl rfl h)
    · rw [if_neg z14] at h
      refine ax_iload (q := 63) hX dc_P_nearestFit_61 rfl rfl ?_
      cases h
      exact ax_iret hX hF dc_P_nearestFit_63 rfl rfl (by decide) (by decide) ax_eq.mk (by rw [hS0]; exact fun _ _ z => z)
def d_P_nearestFit_9 (S : ax_S) : Nat → ax_I → ax_R → Nat → Int32 → Int32 → Int32 → Int32 → Option (Int32)
  | 0, _, _, _, _, _, _, _ => none
  | n + 1, I, R, u0, x1, x2, x3, x4 =>
    if x3 < x4 then
      some (0)
    else
      if (x2 - x4) < 0 then
        d_P_nearestFit_39 S (d_P_nearestFit_9 S  n) I R u0 (x1) (x2) (x3) (x4)
      else
        (d_P_borderFits S I R u0 (x1) (x2 - x4)).bind fun r8 =>
        if (ax_b r8) = 0 then
          d_P_nearestFit_39 S (d_P_nearestFit_9 S  n) I R u0 (x1) (x2) (x3) (x4)
        else
          some (x2 - x4)
set_option maxHeartbeats 1000000 in
theorem e_P_nearestFit_9 {l : Launch} {X : ax_X} {S : ax_S} {L : ax_L} {I0 : ax_I} {R0 : ax_R} {out : Int32} (hX : ax_ok X l "LossFreeTools$Picture" b_P_nearestFit 7 (ax_rm 3 0 0)) (hF : ax_fin X (some .int) 0 0 (ax_of (ax_eq (some (.int out)) S I0 R0 L))) (hS0 : ax_S0 X = S) : ∀ (n : Nat), ∀ (I : ax_I) (R : ax_R) (u0 : Nat) (x1 : Int32) (x2 : Int32) (x3 : Int32) (x4 : Int32), ax_typ S R → (S u0 = some (.inl 1)) → I = I0 → R = R0 → d_P_nearestFit_9 S  n I R u0 x1 x2 x3 x4 = some out → ax_W X 7 9 [some (.ref u0), some (.int (x1)), some (.int (x2)), some (.int (x3)), some (.int (x4)), none, none] [] S I R L 0 0 := by
  intro n
  induction n with
  | zero =>
    rintro I R u0 x1 x2 x3 x4 hty hs0_ hI0 hR0 h
    cases h
  | succ n ih =>
    rintro I R u0 x1 x2 x3 x4 hty hs0_ hI0 hR0 h
    subst hI0
    subst hR0
    unfold d_P_nearestFit_9 at h
    refine ax_iload (q := 11) hX dc_P_nearestFit_9 rfl rfl ?_
    refine ax_iload_n (q := 12) hX dc_P_nearestFit_11 rfl rfl rfl ?_
    refine ax_icmp_gt (tgt := 70) (q := 15) hX dc_P_nearestFit_12 rfl (by decide) (fun z4 => ?_) (fun z4 => ?_)
    · rw [if_pos z4] at h
      refine ax_iconst (v := 0) (q := 71) hX dc_P_nearestFit_70 rfl (by decide) ?_
      cases h
      exact ax_iret hX hF dc_P_nearestFit_71 rfl rfl (by decide) (by decide) ax_eq.mk (by rw [hS0]; exact fun _ _ z => z)
    · rw [if_neg z4] at h
      refine ax_iload_n (q := 16) hX dc_P_nearestFit_15 rfl rfl rfl ?_
      refine ax_iload (q := 18) hX dc_P_nearestFit_16 rfl rfl ?_
      refine ax_isub (q := 19) hX dc_P_nearestFit_18 rfl ?_
      refine ax_istore (ls' := [some (.ref u0), some (.int (x1)), some (.int (x2)), some (.int (x3)), some (.int (x4)), some (.int (x2 - x4)), none]) (q := 21) hX dc_P_nearestFit_19 rfl (by decide) rfl ?_
      refine ax_iload (q := 23) hX dc_P_nearestFit_21 rfl rfl ?_
      refine ax_if_lt (tgt := 39) (q := 26) hX dc_P_nearestFit_23 rfl (by decide) (fun z5 => ?_) (fun z5 => ?_)
      · rw [if_pos z5] at h
        exact ax_weak (ls' := [some (.ref u0), some (.int (x1)), some (.int (x2)), some (.int (x3)), some (.int (x4)), none, none]) (ax_fewP_s _ _ (by repeat (first | exact trivial | (refine And.intro rfl ?_)))) (e_P_nearestFit_39 hX hF hS0 (d_P_nearestFit_9 S  n) (ih) I R u0 (x1) (x2) (x3) (x4) hty hs0_ rfl rfl h)
      · rw [if_neg z5] at h
        refine ax_aload_n (q := 27) hX dc_P_nearestFit_26 rfl rfl rfl ?_
        refine ax_iload_n (q := 28) hX dc_P_nearestFit_27 rfl rfl rfl ?_
        refine ax_iload (q := 30) hX dc_P_nearestFit_28 rfl rfl ?_
        obtain ⟨r8, hr6, h⟩ := ax_bd h
        refine ax_kV (vs := [.int (x1), .int (x2 - x4)]) (rest := []) (q := 33) hX dc_P_nearestFit_30 rfl mt_P_borderFits wl_P_57 wi_P_borderFits ws_P_borderFits hs0_ rfl (c_P_borderFits l hty hs0_ hr6) rfl (by decide) rfl (Nat.le_of_ble_eq_true rfl) rfl rfl (by decide) (by decide) rfl ?_
        refine ax_if_eq (tgt := 39) (q := 36) hX dc_P_nearestFit_33 rfl (by decide) (fun z9 => ?_) (fun z9 => ?_)
        · rw [if_pos z9] at h
          exact ax_weak (ls' := [some (.ref u0), some (.int (x1)), some (.int (x2)), some (.int (x3)), some (.int (x4)), none, none]) (ax_fewP_s _ _ (by repeat (first | exact trivial | (refine And.intro rfl ?_)))) (e_P_nearestFit_39 hX hF hS0 (d_P_nearestFit_9 S  n) (ih) I R u0 (x1) (x2) (x3) (x4) hty hs0_ rfl rfl h)
        · rw [if_neg z9] at h
          refine ax_iload (q := 38) hX dc_P_nearestFit_36 rfl rfl ?_
          cases h
          exact ax_iret hX hF dc_P_nearestFit_38 rfl rfl (by decide) (by decide) ax_eq.mk (by rw [hS0]; exact fun _ _ z => z)
def d_P_nearestFit (S : ax_S) (I : ax_I) (R : ax_R) (u0 : Nat) (x1 : Int32) (x2 : Int32) : Option (Int32) :=
  (d_P_sizeAlong S I R u0 (x1)).bind fun r3 =>
  d_P_nearestFit_9 S  5000 I R u0 (x1) (x2) (r3) (0)
set_option maxHeartbeats 1000000 in
theorem c_P_nearestFit (l : Launch) {S : ax_S} {I : ax_I} {R : ax_R} {L : ax_L} {u0 : Nat} {x1 : Int32} {x2 : Int32} {out : Int32} (hty : ax_typ S R) (hs0 : S u0 = some (.inl 1)) (h : d_P_nearestFit S I R u0 x1 x2 = some out) : ax_Met l y_P_nearestFit b_P_nearestFit 7 (some .int) (ax_rm 3 0 0) [.ref u0, .int x1, .int x2] S I R L (ax_eq (some (.int out)) S I R L) := by
  refine ax_enter (own := "LossFreeTools$Picture") (by decide +kernel) rfl (ax_cats rfl) (Nat.le_of_ble_eq_true rfl) (fun X hX hF _ hS0 => ?_)
  show ax_W X 7 0 [some (.ref u0), some (.int (x1)), some (.int (x2)), none, none, none, none] [] S I R L 0 0
  unfold d_P_nearestFit at h
  refine ax_aload_n (q := 1) hX dc_P_nearestFit_0 rfl rfl rfl ?_
  refine ax_iload_n (q := 2) hX dc_P_nearestFit_1 rfl rfl rfl ?_
  obtain ⟨r3, hr1, h⟩ := ax_bd h
  refine ax_kV (vs := [.int (x1)]) (rest := []) (q := 5) hX dc_P_nearestFit_2 rfl mt_P_sizeAlong wl_P_53 wi_P_sizeAlong ws_P_sizeAlong hs0 rfl (c_P_sizeAlong l hty hs0 hr1) rfl (by decide) rfl (Nat.le_of_ble_eq_true rfl) rfl rfl (by decide) (by decide) rfl ?_
  refine ax_istore_n (ls' := [some (.ref u0), some (.int (x1)), some (.int (x2)), some (.int (r3)), none, none, none]) (q := 6) hX dc_P_nearestFit_5 rfl rfl (by decide) rfl ?_
  refine ax_iconst (v := 0) (q := 7) hX dc_P_nearestFit_6 rfl (by decide) ?_
  refine ax_istore (ls' := [some (.ref u0), some (.int (x1)), some (.int (x2)), some (.int (r3)), some (.int (0)), none, none]) (q := 9) hX dc_P_nearestFit_7 rfl (by decide) rfl ?_
  exact (e_P_nearestFit_9 hX hF hS0  5000 I R u0 (x1) (x2) (r3) (0) hty hs0 rfl rfl h)
def d_P_cutTo (S : ax_S) (I : ax_I) (R : ax_R) (u0 : Nat) (x1 : Int32) (x2 : Int32) (x3 : Int32) (x4 : Int32) : Option (Int32 × ax_I × ax_R) :=
  (d_P_keepTilesWithin S I R u0 (x1) (x2) (x1 + x3) (x2 + x4)).bind fun o5 =>
  (d_P_keepNotesWithin S o5.1 o5.2 u0 (x1) (x2) (x1 + x3) (x2 + x4)).bind fun o10 =>
  (d_P_moveBy S o10.1 o10.2 u0 (-x1) (-x2)).bind fun I13 =>
  (some (ax_up I13 u0 4 (x3))).bind fun I14 =>
  (some (ax_up I14 u0 5 (x4))).bind fun I16 =>
  some (I16 u0 2, I16, o10.2)
set_option maxHeartbeats 1000000 in
theorem c_P_cutTo (l : Launch) {S : ax_S} {I : ax_I} {R : ax_R} {L : ax_L} {u0 : Nat} {x1 : Int32} {x2 : Int32} {x3 : Int32} {x4 : Int32} {out : Int32 × ax_I × ax_R} (hty : ax_typ S R) (hs0 : S u0 = some (.inl 1)) (h : d_P_cutTo S I R u0 x1 x2 x3 x4 = some out) : ax_Met l y_P_cutTo b_P_cutTo 5 (some .int) (ax_rm 3 0 0) [.ref u0, .int x1, .int x2, .int x3, .int x4] S I R L (ax_eq (some (.int out.1)) S out.2.1 out.2.2 L) := by
  refine ax_enter (own := "LossFreeTools$Picture") (by decide +kernel) rfl (ax_cats rfl) (Nat.le_of_ble_eq_true rfl) (fun X hX hF _ hS0 => ?_)
  show ax_W X 5 0 [some (.ref u0), some (.int (x1)), some (.int (x2)), some (.int (x3)), some (.int (x4))] [] S I R L 0 0
  unfold d_P_cutTo at h
  refine ax_aload_n (q := 1) hX dc_P_cutTo_0 rfl rfl rfl ?_
  refine ax_iload_n (q := 2) hX dc_P_cutTo_1 rfl rfl rfl ?_
  refine ax_iload_n (q := 3) hX dc_P_cutTo_2 rfl rfl rfl ?_
  refine ax_iload_n (q := 4) hX dc_P_cutTo_3 rfl rfl rfl ?_
  refine ax_iload_n (q := 5) hX dc_P_cutTo_4 rfl rfl rfl ?_
  refine ax_iadd (q := 6) hX dc_P_cutTo_5 rfl ?_
  refine ax_iload_n (q := 7) hX dc_P_cutTo_6 rfl rfl rfl ?_
  refine ax_iload (q := 9) hX dc_P_cutTo_7 rfl rfl ?_
  refine ax_iadd (q := 10) hX dc_P_cutTo_9 rfl ?_
  obtain ⟨o5, hr1, h⟩ := ax_bd h
  refine ax_kV (vs := [.int (x1), .int (x2), .int (x1 + x3), .int (x2 + x4)]) (rest := []) (q := 13) hX dc_P_cutTo_10 rfl mt_P_keepTilesWithin wl_P_60 wi_P_keepTilesWithin ws_P_keepTilesWithin hs0 rfl (c_P_keepTilesWithin l hty hs0 hr1) rfl (by decide) rfl (Nat.le_of_ble_eq_true rfl) rfl rfl (by decide) (by decide) rfl ?_
  have hty : ax_typ S o5.2 := t_P_keepTilesWithin hty hs0 hr1
  refine ax_aload_n (q := 14) hX dc_P_cutTo_13 rfl rfl rfl ?_
  refine ax_iload_n (q := 15) hX dc_P_cutTo_14 rfl rfl rfl ?_
  refine ax_iload_n (q := 16) hX dc_P_cutTo_15 rfl rfl rfl ?_
  refine ax_iload_n (q := 17) hX dc_P_cutTo_16 rfl rfl rfl ?_
  refine ax_iload_n (q := 18) hX dc_P_cutTo_17 rfl rfl rfl ?_
  refine ax_iadd (q := 19) hX dc_P_cutTo_18 rfl ?_
  refine ax_iload_n (q := 20) hX dc_P_cutTo_19 rfl rfl rfl ?_
  refine ax_iload (q := 22) hX dc_P_cutTo_20 rfl rfl ?_
  refine ax_iadd (q := 23) hX dc_P_cutTo_22 rfl ?_
  obtain ⟨o10, hr6, h⟩ := ax_bd h
  refine ax_kV (vs := [.int (x1), .int (x2), .int (x1 + x3), .int (x2 + x4)]) (rest := []) (q := 26) hX dc_P_cutTo_23 rfl mt_P_keepNotesWithin wl_P_63 wi_P_keepNotesWithin ws_P_keepNotesWithin hs0 rfl (c_P_keepNotesWithin l hty hs0 hr6) rfl (by decide) rfl (Nat.le_of_ble_eq_true rfl) rfl rfl (by decide) (by decide) rfl ?_
  have hty : ax_typ S o10.2 := t_P_keepNotesWithin hty hs0 hr6
  refine ax_aload_n (q := 27) hX dc_P_cutTo_26 rfl rfl rfl ?_
  refine ax_iload_n (q := 28) hX dc_P_cutTo_27 rfl rfl rfl ?_
  refine ax_ineg (q := 29) hX dc_P_cutTo_28 rfl ?_
  refine ax_iload_n (q := 30) hX dc_P_cutTo_29 rfl rfl rfl ?_
  refine ax_ineg (q := 31) hX dc_P_cutTo_30 rfl ?_
  obtain ⟨I13, hr11, h⟩ := ax_bd h
  refine ax_kV (vs := [.int (-x1), .int (-x2)]) (rest := []) (q := 34) hX dc_P_cutTo_31 rfl mt_P_moveBy wl_P_66 wi_P_moveBy ws_P_moveBy hs0 rfl (c_P_moveBy l hty hs0 hr11) rfl (by decide) rfl (Nat.le_of_ble_eq_true rfl) rfl rfl (by decide) (by decide) rfl ?_
  refine ax_aload_n (q := 35) hX dc_P_cutTo_34 rfl rfl rfl ?_
  refine ax_iload_n (q := 36) hX dc_P_cutTo_35 rfl rfl rfl ?_
  obtain ⟨I14, e15, h⟩ := ax_bs h
  refine ax_putI (q := 39) hX dc_P_cutTo_36 rfl fl_P_25 rfl hs0 (fun z => by cases z) rfl rfl e15 ?_
  refine ax_aload_n (q := 40) hX dc_P_cutTo_39 rfl rfl rfl ?_
  refine ax_iload (q := 42) hX dc_P_cutTo_40 rfl rfl ?_
  obtain ⟨I16, e17, h⟩ := ax_bs h
  refine ax_putI (q := 45) hX dc_P_cutTo_42 rfl fl_P_29 rfl hs0 (fun z => by cases z) rfl rfl e17 ?_
  refine ax_aload_n (q := 46) hX dc_P_cutTo_45 rfl rfl rfl ?_
  refine ax_getI (q := 49) hX dc_P_cutTo_46 rfl fl_P_32 rfl hs0 ?_
  cases h
  exact ax_iret hX hF dc_P_cutTo_49 rfl rfl (by decide) (by decide) ax_eq.mk (by rw [hS0]; exact fun _ _ z => z)
theorem t_P_cutTo {S : ax_S} {I : ax_I} {R : ax_R} {u0 : Nat} {x1 : Int32} {x2 : Int32} {x3 : Int32} {x4 : Int32} {out : Int32 × ax_I × ax_R} (hty : ax_typ S R) (hs0 : S u0 = some (.inl 1)) (h : d_P_cutTo S I R u0 x1 x2 x3 x4 = some out) : ax_typ S out.2.2 := by
  unfold d_P_cutTo at h
  obtain ⟨o5, hr1, h⟩ := ax_bd h
  have hty : ax_typ S o5.2 := t_P_keepTilesWithin hty hs0 hr1
  obtain ⟨o10, hr6, h⟩ := ax_bd h
  have hty : ax_typ S o10.2 := t_P_keepNotesWithin hty hs0 hr6
  obtain ⟨I13, hr11, h⟩ := ax_bd h
  obtain ⟨I14, e15, h⟩ := ax_bs h
  obtain ⟨I16, e17, h⟩ := ax_bs h
  cases h
  exact hty
def d_P_moveAlong_19 (S : ax_S) (I : ax_I) (R : ax_R) (y0 : Int32) (y1 : Int32) (w2 : Nat) : Option (ax_I) :=
  (d_P_moveBy S I R w2 (y1) (y0)).bind fun I5 =>
  some (I5)
set_option maxHeartbeats 1000000 in
theorem e_P_moveAlong_19 {l : Launch} {X : ax_X} {S : ax_S} {L : ax_L} {R0 : ax_R} {out : ax_I} (hX : ax_ok X l "LossFreeTools$Picture" b_P_moveAlong 3 (ax_rm 3 0 0)) (hF : ax_fin X none 0 0 (ax_of (ax_eq none S out R0 L))) (hS0 : ax_S0 X = S) : ∀ (I : ax_I) (R : ax_R) (y0 : Int32) (y1 : Int32) (w2 : Nat), ax_typ S R → (S w2 = some (.inl 1)) → R = R0 → d_P_moveAlong_19 S  I R y0 y1 w2 = some out → ax_W X 3 19 [none, none, none] [.int (y0), .int (y1), .ref w2] S I R L 0 0 := by
  rintro I R y0 y1 w2 hty hw2_ hR0 h
  subst hR0
  unfold d_P_moveAlong_19 at h
  obtain ⟨I5, hr3, h⟩ := ax_bd h
  refine ax_kV (vs := [.int (y1), .int (y0)]) (rest := []) (q := 22) hX dc_P_moveAlong_19 rfl mt_P_moveBy wl_P_66 wi_P_moveBy ws_P_moveBy hw2_ rfl (c_P_moveBy l hty hw2_ hr3) rfl (by decide) rfl (Nat.le_of_ble_eq_true rfl) rfl rfl (by decide) (by decide) rfl ?_
  cases h
  exact ax_vret hX hF dc_P_moveAlong_22 (by decide) (by decide) ax_eq.mk (by rw [hS0]; exact fun _ _ z => z)
def d_P_moveAlong_10 (S : ax_S) (I : ax_I) (R : ax_R) (x1 : Int32) (x2 : Int32) (y0 : Int32) (w1 : Nat) : Option (ax_I) :=
  if x1 = 0 then
    d_P_moveAlong_19 S  I R (x2) (y0) w1
  else
    d_P_moveAlong_19 S  I R (0) (y0) w1
set_option maxHeartbeats 1000000 in
theorem e_P_moveAlong_10 {l : Launch} {X : ax_X} {S : ax_S} {L : ax_L} {R0 : ax_R} {out : ax_I} (hX : ax_ok X l "LossFreeTools$Picture" b_P_moveAlong 3 (ax_rm 3 0 0)) (hF : ax_fin X none 0 0 (ax_of (ax_eq none S out R0 L))) (hS0 : ax_S0 X = S) : ∀ (I : ax_I) (R : ax_R) (x1 : Int32) (x2 : Int32) (y0 : Int32) (w1 : Nat), ax_typ S R → (S w1 = some (.inl 1)) → R = R0 → d_P_moveAlong_10 S  I R x1 x2 y0 w1 = some out → ax_W X 3 10 [none, some (.int (x1)), some (.int (x2))] [.int (y0), .ref w1] S I R L 0 0 := by
  rintro I R x1 x2 y0 w1 hty hw1_ hR0 h
  subst hR0
  unfold d_P_moveAlong_10 at h
  refine ax_iload_n (q := 11) hX dc_P_moveAlong_10 rfl rfl rfl ?_
  refine ax_if_eq (tgt := 18) (q := 14) hX dc_P_moveAlong_11 rfl (by decide) (fun z2 => ?_) (fun z2 => ?_)
  · rw [if_pos z2] at h
    refine ax_iload_n (q := 19) hX dc_P_moveAlong_18 rfl rfl rfl ?_
    exact ax_weak (ls' := [none, none, none]) (ax_fewP_s _ _ (by repeat (first | exact trivial | (refine And.intro rfl ?_)))) (e_P_moveAlong_19 hX hF hS0  I R (x2) (y0) w1 hty hw1_ rfl h)
  · rw [if_neg z2] at h
    refine ax_iconst (v := 0) (q := 15) hX dc_P_moveAlong_14 rfl (by decide) ?_
    refine ax_goto (tgt := 19) hX dc_P_moveAlong_15 (by decide) ?_
    exact ax_weak (ls' := [none, none, none]) (ax_fewP_s _ _ (by repeat (first | exact trivial | (refine And.intro rfl ?_)))) (e_P_moveAlong_19 hX hF hS0  I R (0) (y0) w1 hty hw1_ rfl h)
def d_P_moveAlong (S : ax_S) (I : ax_I) (R : ax_R) (u0 : Nat) (x1 : Int32) (x2 : Int32) : Option (ax_I) :=
  if x1 = 0 then
    d_P_moveAlong_10 S  I R (x1) (x2) (0) u0
  else
    d_P_moveAlong_10 S  I R (x1) (x2) (x2) u0
set_option maxHeartbeats 1000000 in
theorem c_P_moveAlong (l : Launch) {S : ax_S} {I : ax_I} {R : ax_R} {L : ax_L} {u0 : Nat} {x1 : Int32} {x2 : Int32} {out : ax_I} (hty : ax_typ S R) (hs0 : S u0 = some (.inl 1)) (h : d_P_moveAlong S I R u0 x1 x2 = some out) : ax_Met l y_P_moveAlong b_P_moveAlong 3 none (ax_rm 3 0 0) [.ref u0, .int x1, .int x2] S I R L (ax_eq none S out R L) := by
  refine ax_enter (own := "LossFreeTools$Picture") (by decide +kernel) rfl (ax_cats rfl) (Nat.le_of_ble_eq_true rfl) (fun X hX hF _ hS0 => ?_)
  show ax_W X 3 0 [some (.ref u0), some (.int (x1)), some (.int (x2))] [] S I R L 0 0
  unfold d_P_moveAlong at h
  refine ax_aload_n (q := 1) hX dc_P_moveAlong_0 rfl rfl rfl ?_
  refine ax_iload_n (q := 2) hX dc_P_moveAlong_1 rfl rfl rfl ?_
  refine ax_if_eq (tgt := 9) (q := 5) hX dc_P_moveAlong_2 rfl (by decide) (fun z1 => ?_) (fun z1 => ?_)
  · rw [if_pos z1] at h
    refine ax_iconst (v := 0) (q := 10) hX dc_P_moveAlong_9 rfl (by decide) ?_
    exact ax_weak (ls' := [none, some (.int (x1)), some (.int (x2))]) (ax_fewP_s _ _ (by repeat (first | exact trivial | (refine And.intro rfl ?_)))) (e_P_moveAlong_10 hX hF hS0  I R (x1) (x2) (0) u0 hty hs0 rfl h)
  · rw [if_neg z1] at h
    refine ax_iload_n (q := 6) hX dc_P_moveAlong_5 rfl rfl rfl ?_
    refine ax_goto (tgt := 10) hX dc_P_moveAlong_6 (by decide) ?_
    exact ax_weak (ls' := [none, some (.int (x1)), some (.int (x2))]) (ax_fewP_s _ _ (by repeat (first | exact trivial | (refine And.intro rfl ?_)))) (e_P_moveAlong_10 hX hF hS0  I R (x1) (x2) (x2) u0 hty hs0 rfl h)
def d_P_showBy_33 (S : ax_S) : Nat → ax_I → ax_R → Nat → Int32 → Int32 → Option (ax_I)
  | 0, _, _, _, _, _ => none
  | n + 1, I, R, u0, x1, x2 =>
    if (I u0 2) ≤ x2 then
      some (I)
    else
      (R u0 0).bind fun u16 =>
      (ax_ix S u16 (x2)).bind fun j20 =>
      (R u16 j20).bind fun u22 =>
      (R u0 0).bind fun u25 =>
      (ax_ix S u25 (x2)).bind fun j29 =>
      (R u25 j29).bind fun u31 =>
      (d_K_together S I R (I u31 6) (x1)).bind fun r36 =>
      (some (ax_up I u22 6 (r36))).bind fun I37 =>
      d_P_showBy_33 S  n I37 R u0 (x1) (x2 + 1)
set_option maxHeartbeats 1000000 in
theorem e_P_showBy_33 {l : Launch} {X : ax_X} {S : ax_S} {L : ax_L} {R0 : ax_R} {out : ax_I} (hX : ax_ok X l "LossFreeTools$Picture" b_P_showBy 3 (ax_rm 3 0 0)) (hF : ax_fin X none 0 0 (ax_of (ax_eq none S out R0 L))) (hS0 : ax_S0 X = S) : ∀ (n : Nat), ∀ (I : ax_I) (R : ax_R) (u0 : Nat) (x1 : Int32) (x2 : Int32), ax_typ S R → (S u0 = some (.inl 1)) → R = R0 → d_P_showBy_33 S  n I R u0 x1 x2 = some out → ax_W X 3 33 [some (.ref u0), some (.int (x1)), some (.int (x2))] [] S I R L 0 0 := by
  intro n
  induction n with
  | zero =>
    rintro I R u0 x1 x2 hty hs0_ hR0 h
    cases h
  | succ n ih =>
    rintro I R u0 x1 x2 hty hs0_ hR0 h
    subst hR0
    unfold d_P_showBy_33 at h
    refine ax_iload_n (q := 34) hX dc_P_showBy_33 rfl rfl rfl ?_
    refine ax_aload_n (q := 35) hX dc_P_showBy_34 rfl rfl rfl ?_
    refine ax_getI (q := 38) hX dc_P_showBy_35 rfl fl_P_32 rfl hs0_ ?_
    refine ax_icmp_ge (tgt := 69) (q := 41) hX dc_P_showBy_38 rfl (by decide) (fun z15 => ?_) (fun z15 => ?_)
    · rw [if_pos z15] at h
      cases h
      exact ax_vret hX hF dc_P_showBy_69 (by decide) (by decide) ax_eq.mk (by rw [hS0]; exact fun _ _ z => z)
    · rw [if_neg z15] at h
      refine ax_aload_n (q := 42) hX dc_P_showBy_41 rfl rfl rfl ?_
      obtain ⟨u16, hu17, h⟩ := ax_bd h
      obtain ⟨n19, hs18⟩ : ∃ n, S u16 = some (.inr (2, n)) := hty.1 _ _ _ _ hs0_ hu17
      refine ax_getR (q := 45) hX dc_P_showBy_42 rfl fl_P_11 rfl hs0_ hu17 ?_
      refine ax_iload_n (q := 46) hX dc_P_showBy_45 rfl rfl rfl ?_
      obtain ⟨j20, hj21, h⟩ := ax_bd h
      have hj21 := ax_ix_s hty hs18 hj21
      obtain ⟨u22, hu23, h⟩ := ax_bd h
      have hs24 : S u22 = some (.inl 3) := hty.2.1 _ _ _ _ hs18 hu23
      refine ax_aald (q := 47) hX j20 dc_P_showBy_46 rfl hs18 rfl rfl hj21.1 hj21.2.1 hj21.2.2 hu23 ?_
      refine ax_aload_n (q := 48) hX dc_P_showBy_47 rfl rfl rfl ?_
      obtain ⟨u25, hu26, h⟩ := ax_bd h
      obtain ⟨n28, hs27⟩ : ∃ n, S u25 = some (.inr (2, n)) := hty.1 _ _ _ _ hs0_ hu26
      refine ax_getR (q := 51) hX dc_P_showBy_48 rfl fl_P_11 rfl hs0_ hu26 ?_
      refine ax_iload_n (q := 52) hX dc_P_showBy_51 rfl rfl rfl ?_
      obtain ⟨j29, hj30, h⟩ := ax_bd h
      have hj30 := ax_ix_s hty hs27 hj30
      obtain ⟨u31, hu32, h⟩ := ax_bd h
      have hs33 : S u31 = some (.inl 3) := hty.2.1 _ _ _ _ hs27 hu32
      refine ax_aald (q := 53) hX j29 dc_P_showBy_52 rfl hs27 rfl rfl hj30.1 hj30.2.1 hj30.2.2 hu32 ?_
      refine ax_getI (q := 56) hX dc_P_showBy_53 rfl fl_P_90 rfl hs33 ?_
      refine ax_iload_n (q := 57) hX dc_P_showBy_56 rfl rfl rfl ?_
      obtain ⟨r36, hr34, h⟩ := ax_bd h
      refine ax_kN (host := "LossFreeTools") (vs := [.int (I u31 6), .int (x1)]) (rest := [.ref u22]) (q := 60) hX dc_P_showBy_57 rfl mt_K_together (by decide +kernel) wt_K_together (c_K_together l hty  hr34) rfl (by decide) rfl (Nat.le_of_ble_eq_true rfl) rfl rfl (by decide) (by decide) rfl ?_
      obtain ⟨I37, e38, h⟩ := ax_bs h
      refine ax_putI (q := 63) hX dc_P_showBy_60 rfl fl_P_90 rfl hs24 (fun z => by cases z) rfl rfl e38 ?_
      refine ax_iinc (v := x2 + 1) (ls' := [some (.ref u0), some (.int (x1)), some (.int (x2 + 1))]) (q := 66) hX dc_P_showBy_63 rfl rfl rfl (by decide) rfl ?_
      refine ax_goto (tgt := 33) hX dc_P_showBy_66 (by decide) ?_
      exact (ih I37 R u0 (x1) (x2 + 1) hty hs0_ rfl h)
def d_P_showBy_13 (S : ax_S) : Nat → ax_I → ax_R → Nat → Int32 → Int32 → Option (ax_I)
  | 0, _, _, _, _, _ => none
  | n + 1, I, R, u0, x1, x2 =>
    (d_K_quarters S I R (x1)).bind fun r10 =>
    if r10 ≤ x2 then
      d_P_showBy_33 S  5000 I R u0 (x1) (0)
    else
      (d_P_turnQuarter S I R u0).bind fun I14 =>
      d_P_showBy_13 S  n I14 R u0 (x1) (x2 + 1)
set_option maxHeartbeats 1000000 in
theorem e_P_showBy_13 {l : Launch} {X : ax_X} {S : ax_S} {L : ax_L} {R0 : ax_R} {out : ax_I} (hX : ax_ok X l "LossFreeTools$Picture" b_P_showBy 3 (ax_rm 3 0 0)) (hF : ax_fin X none 0 0 (ax_of (ax_eq none S out R0 L))) (hS0 : ax_S0 X = S) : ∀ (n : Nat), ∀ (I : ax_I) (R : ax_R) (u0 : Nat) (x1 : Int32) (x2 : Int32), ax_typ S R → (S u0 = some (.inl 1)) → R = R0 → d_P_showBy_13 S  n I R u0 x1 x2 = some out → ax_W X 3 13 [some (.ref u0), some (.int (x1)), some (.int (x2))] [] S I R L 0 0 := by
  intro n
  induction n with
  | zero =>
    rintro I R u0 x1 x2 hty hs0_ hR0 h
    cases h
  | succ n ih =>
    rintro I R u0 x1 x2 hty hs0_ hR0 h
    subst hR0
    unfold d_P_showBy_13 at h
    refine ax_iload_n (q := 14) hX dc_P_showBy_13 rfl rfl rfl ?_
    refine ax_iload_n (q := 15) hX dc_P_showBy_14 rfl rfl rfl ?_
    obtain ⟨r10, hr8, h⟩ := ax_bd h
    refine ax_kN (host := "LossFreeTools") (vs := [.int (x1)]) (rest := [.int (x2)]) (q := 18) hX dc_P_showBy_15 rfl mt_K_quarters (by decide +kernel) wt_K_quarters (c_K_quarters l hty  hr8) rfl (by decide) rfl (Nat.le_of_ble_eq_true rfl) rfl rfl (by decide) (by decide) rfl ?_
    refine ax_icmp_ge (tgt := 31) (q := 21) hX dc_P_showBy_18 rfl (by decide) (fun z11 => ?_) (fun z11 => ?_)
    · rw [if_pos z11] at h
      refine ax_iconst (v := 0) (q := 32) hX dc_P_showBy_31 rfl (by decide) ?_
      refine ax_istore_n (ls' := [some (.ref u0), some (.int (x1)), some (.int (0))]) (q := 33) hX dc_P_showBy_32 rfl rfl (by decide) rfl ?_
      exact (e_P_showBy_33 hX hF hS0  5000 I R u0 (x1) (0) hty hs0_ rfl h)
    · rw [if_neg z11] at h
      refine ax_aload_n (q := 22) hX dc_P_showBy_21 rfl rfl rfl ?_
      obtain ⟨I14, hr12, h⟩ := ax_bd h
      refine ax_kV (vs := []) (rest := []) (q := 25) hX dc_P_showBy_22 rfl mt_P_turnQuarter wl_P_87 wi_P_turnQuarter ws_P_turnQuarter hs0_ rfl (c_P_turnQuarter l hty hs0_ hr12) rfl (by decide) rfl (Nat.le_of_ble_eq_true rfl) rfl rfl (by decide) (by decide) rfl ?_
      refine ax_iinc (v := x2 + 1) (ls' := [some (.ref u0), some (.int (x1)), some (.int (x2 + 1))]) (q := 28) hX dc_P_showBy_25 rfl rfl rfl (by decide) rfl ?_
      refine ax_goto (tgt := 13) hX dc_P_showBy_28 (by decide) ?_
      exact (ih I14 R u0 (x1) (x2 + 1) hty hs0_ rfl h)
def d_P_showBy_11 (S : ax_S) (I : ax_I) (R : ax_R) (u0 : Nat) (x1 : Int32) : Option (ax_I) :=
  d_P_showBy_13 S  5000 I R u0 (x1) (0)
set_option maxHeartbeats 1000000 in
theorem e_P_showBy_11 {l : Launch} {X : ax_X} {S : ax_S} {L : ax_L} {R0 : ax_R} {out : ax_I} (hX : ax_ok X l "LossFreeTools$Picture" b_P_showBy 3 (ax_rm 3 0 0)) (hF : ax_fin X none 0 0 (ax_of (ax_eq none S out R0 L))) (hS0 : ax_S0 X = S) : ∀ (I : ax_I) (R : ax_R) (u0 : Nat) (x1 : Int32), ax_typ S R → (S u0 = some (.inl 1)) → R = R0 → d_P_showBy_11 S  I R u0 x1 = some out → ax_W X 3 11 [some (.ref u0), some (.int (x1)), none] [] S I R L 0 0 := by
  rintro I R u0 x1 hty hs0_ hR0 h
  subst hR0
  unfold d_P_showBy_11 at h
  refine ax_iconst (v := 0) (q := 12) hX dc_P_showBy_11 rfl (by decide) ?_
  refine ax_istore_n (ls' := [some (.ref u0), some (.int (x1)), some (.int (0))]) (q := 13) hX dc_P_showBy_12 rfl rfl (by decide) rfl ?_
  exact (e_P_showBy_13 hX hF hS0  5000 I R u0 (x1) (0) hty hs0_ rfl h)
def d_P_showBy (S : ax_S) (I : ax_I) (R : ax_R) (u0 : Nat) (x1 : Int32) : Option (ax_I) :=
  (d_K_mirrors S I R (x1)).bind fun r3 =>
  if (ax_b r3) = 0 then
    d_P_showBy_11 S  I R u0 (x1)
  else
    (d_P_mirror S I R u0).bind fun I7 =>
    d_P_showBy_11 S  I7 R u0 (x1)
set_option maxHeartbeats 1000000 in
theorem c_P_showBy (l : Launch) {S : ax_S} {I : ax_I} {R : ax_R} {L : ax_L} {u0 : Nat} {x1 : Int32} {out : ax_I} (hty : ax_typ S R) (hs0 : S u0 = some (.inl 1)) (h : d_P_showBy S I R u0 x1 = some out) : ax_Met l y_P_showBy b_P_showBy 3 none (ax_rm 3 0 0) [.ref u0, .int x1] S I R L (ax_eq none S out R L) := by
  refine ax_enter (own := "LossFreeTools$Picture") (by decide +kernel) rfl (ax_cats rfl) (Nat.le_of_ble_eq_true rfl) (fun X hX hF _ hS0 => ?_)
  show ax_W X 3 0 [some (.ref u0), some (.int (x1)), none] [] S I R L 0 0
  unfold d_P_showBy at h
  refine ax_iload_n (q := 1) hX dc_P_showBy_0 rfl rfl rfl ?_
  obtain ⟨r3, hr1, h⟩ := ax_bd h
  refine ax_kN (host := "LossFreeTools") (vs := [.int (x1)]) (rest := []) (q := 4) hX dc_P_showBy_1 rfl mt_K_mirrors (by decide +kernel) wt_K_mirrors (c_K_mirrors l hty  hr1) rfl (by decide) rfl (Nat.le_of_ble_eq_true rfl) rfl rfl (by decide) (by decide) rfl ?_
  refine ax_if_eq (tgt := 11) (q := 7) hX dc_P_showBy_4 rfl (by decide) (fun z4 => ?_) (fun z4 => ?_)
  · rw [if_pos z4] at h
    exact (e_P_showBy_11 hX hF hS0  I R u0 (x1) hty hs0 rfl h)
  · rw [if_neg z4] at h
    refine ax_aload_n (q := 8) hX dc_P_showBy_7 rfl rfl rfl ?_
    obtain ⟨I7, hr5, h⟩ := ax_bd h
    refine ax_kV (vs := []) (rest := []) (q := 11) hX dc_P_showBy_8 rfl mt_P_mirror wl_P_80 wi_P_mirror ws_P_mirror hs0 rfl (c_P_mirror l hty hs0 hr5) rfl (by decide) rfl (Nat.le_of_ble_eq_true rfl) rfl rfl (by decide) (by decide) rfl ?_
    exact (e_P_showBy_11 hX hF hS0  I7 R u0 (x1) hty hs0 rfl h)
def d_P_putHead_76 (S : ax_S) : Nat → ax_I → ax_R → Nat → Nat → Int32 → Option (ax_I)
  | 0, _, _, _, _, _ => none
  | n + 1, I, R, u0, u1, x2 =>
    if (I u0 3) ≤ x2 then
      some (I)
    else
      (R u0 1).bind fun u36 =>
      (ax_ix S u36 (x2)).bind fun j40 =>
      (R u36 j40).bind fun u42 =>
      (d_S_putNumber S I R u1 (I u42 0)).bind fun I47 =>
      (R u0 1).bind fun u48 =>
      (ax_ix S u48 (x2)).bind fun j52 =>
      (R u48 j52).bind fun u54 =>
      (d_S_putNumber S I47 R u1 (I47 u54 1)).bind fun I59 =>
      (R u0 1).bind fun u60 =>
      (ax_ix S u60 (x2)).bind fun j64 =>
      (R u60 j64).bind fun u66 =>
      (d_S_putByte S I59 R u1 (I59 u66 2)).bind fun I71 =>
      d_P_putHead_76 S  n I71 R u0 u1 (x2 + 1)
set_option maxHeartbeats 1000000 in
theorem e_P_putHead_76 {l : Launch} {X : ax_X} {S : ax_S} {L : ax_L} {R0 : ax_R} {out : ax_I} (hX : ax_ok X l "LossFreeTools$Picture" b_P_putHead 3 (ax_rm 3 0 0)) (hF : ax_fin X none 0 0 (ax_of (ax_eq none S out R0 L))) (hS0 : ax_S0 X = S) : ∀ (n : Nat), ∀ (I : ax_I) (R : ax_R) (u0 : Nat) (u1 : Nat) (x2 : Int32), ax_typ S R → (S u0 = some (.inl 1)) → (S u1 = some (.inl 2)) → R = R0 → d_P_putHead_76 S  n I R u0 u1 x2 = some out → ax_W X 3 76 [some (.ref u0), some (.ref u1), some (.int (x2))] [] S I R L 0 0 := by
  intro n
  induction n with
  | zero =>
    rintro I R u0 u1 x2 hty hs0_ hs1_ hR0 h
    cases h
  | succ n ih =>
    rintro I R u0 u1 x2 hty hs0_ hs1_ hR0 h
    subst hR0
    unfold d_P_putHead_76 at h
    refine ax_iload_n (q := 77) hX dc_P_putHead_76 rfl rfl rfl ?_
    refine ax_aload_n (q := 78) hX dc_P_putHead_77 rfl rfl rfl ?_
    refine ax_getI (q := 81) hX dc_P_putHead_78 rfl fl_P_35 rfl hs0_ ?_
    refine ax_icmp_ge (tgt := 129) (q := 84) hX dc_P_putHead_81 rfl (by decide) (fun z35 => ?_) (fun z35 => ?_)
    · rw [if_pos z35] at h
      cases h
      exact ax_vret hX hF dc_P_putHead_129 (by decide) (by decide) ax_eq.mk (by rw [hS0]; exact fun _ _ z => z)
    · rw [if_neg z35] at h
      refine ax_aload_n (q := 85) hX dc_P_putHead_84 rfl rfl rfl ?_
      refine ax_aload_n (q := 86) hX dc_P_putHead_85 rfl rfl rfl ?_
      obtain ⟨u36, hu37, h⟩ := ax_bd h
      obtain ⟨n39, hs38⟩ : ∃ n, S u36 = some (.inr (3, n)) := hty.1 _ _ _ _ hs0_ hu37
      refine ax_getR (q := 89) hX dc_P_putHead_86 rfl fl_P_20 rfl hs0_ hu37 ?_
      refine ax_iload_n (q := 90) hX dc_P_putHead_89 rfl rfl rfl ?_
      obtain ⟨j40, hj41, h⟩ := ax_bd h
      have hj41 := ax_ix_s hty hs38 hj41
      obtain ⟨u42, hu43, h⟩ := ax_bd h
      have hs44 : S u42 = some (.inl 0) := hty.2.2.1 _ _ _ _ hs38 hu43
      refine ax_aald (q := 91) hX j40 dc_P_putHead_90 rfl hs38 rfl rfl hj41.1 hj41.2.1 hj41.2.2 hu43 ?_
      refine ax_getI (q := 94) hX dc_P_putHead_91 rfl fl_P_126 rfl hs44 ?_
      obtain ⟨I47, hr45, h⟩ := ax_bd h
      refine ax_kV (vs := [.int (I u42 0)]) (rest := []) (q := 97) hX dc_P_putHead_94 rfl mt_S_putNumber wl_P_119 wi_S_putNumber ws_S_putNumber hs1_ rfl (c_S_putNumber l hty hs1_ hr45) rfl (by decide) rfl (Nat.le_of_ble_eq_true rfl) rfl rfl (by decide) (by decide) rfl ?_
      refine ax_aload_n (q := 98) hX dc_P_putHead_97 rfl rfl rfl ?_
      refine ax_aload_n (q := 99) hX dc_P_putHead_98 rfl rfl rfl ?_
      obtain ⟨u48, hu49, h⟩ := ax_bd h
      obtain ⟨n51, hs50⟩ : ∃ n, S u48 = some (.inr (3, n)) := hty.1 _ _ _ _ hs0_ hu49
      refine ax_getR (q := 102) hX dc_P_putHead_99 rfl fl_P_20 rfl hs0_ hu49 ?_
      refine ax_iload_n (q := 103) hX dc_P_putHead_102 rfl rfl rfl ?_
      obtain ⟨j52, hj53, h⟩ := ax_bd h
      have hj53 := ax_ix_s hty hs50 hj53
      obtain ⟨u54, hu55, h⟩ := ax_bd h
      have hs56 : S u54 = some (.inl 0) := hty.2.2.1 _ _ _ _ hs50 hu55
      refine ax_aald (q := 104) hX j52 dc_P_putHead_103 rfl hs50 rfl rfl hj53.1 hj53.2.1 hj53.2.2 hu55 ?_
      refine ax_getI (q := 107) hX dc_P_putHead_104 rfl fl_P_129 rfl hs56 ?_
      obtain ⟨I59, hr57, h⟩ := ax_bd h
      refine ax_kV (vs := [.int (I47 u54 1)]) (rest := []) (q := 110) hX dc_P_putHead_107 rfl mt_S_putNumber wl_P_119 wi_S_putNumber ws_S_putNumber hs1_ rfl (c_S_putNumber l hty hs1_ hr57) rfl (by decide) rfl (Nat.le_of_ble_eq_true rfl) rfl rfl (by decide) (by decide) rfl ?_
      refine ax_aload_n (q := 111) hX dc_P_putHead_110 rfl rfl rfl ?_
      refine ax_aload_n (q := 112) hX dc_P_putHead_111 rfl rfl rfl ?_
      obtain ⟨u60, hu61, h⟩ := ax_bd h
      obtain ⟨n63, hs62⟩ : ∃ n, S u60 = some (.inr (3, n)) := hty.1 _ _ _ _ hs0_ hu61
      refine ax_getR (q := 115) hX dc_P_putHead_112 rfl fl_P_20 rfl hs0_ hu61 ?_
      refine ax_iload_n (q := 116) hX dc_P_putHead_115 rfl rfl rfl ?_
      obtain ⟨j64, hj65, h⟩ := ax_bd h
      have hj65 := ax_ix_s hty hs62 hj65
      obtain ⟨u66, hu67, h⟩ := ax_bd h
      have hs68 : S u66 = some (.inl 0) := hty.2.2.1 _ _ _ _ hs62 hu67
      refine ax_aald (q := 117) hX j64 dc_P_putHead_116 rfl hs62 rfl rfl hj65.1 hj65.2.1 hj65.2.2 hu67 ?_
      refine ax_getI (q := 120) hX dc_P_putHead_117 rfl fl_P_132 rfl hs68 ?_
      obtain ⟨I71, hr69, h⟩ := ax_bd h
      refine ax_kV (vs := [.int (I59 u66 2)]) (rest := []) (q := 123) hX dc_P_putHead_120 rfl mt_S_putByte wl_P_114 wi_S_putByte ws_S_putByte hs1_ rfl (c_S_putByte l hty hs1_ hr69) rfl (by decide) rfl (Nat.le_of_ble_eq_true rfl) rfl rfl (by decide) (by decide) rfl ?_
      refine ax_iinc (v := x2 + 1) (ls' := [some (.ref u0), some (.ref u1), some (.int (x2 + 1))]) (q := 126) hX dc_P_putHead_123 rfl rfl rfl (by decide) rfl ?_
      refine ax_goto (tgt := 76) hX dc_P_putHead_126 (by decide) ?_
      exact (ih I71 R u0 u1 (x2 + 1) hty hs0_ hs1_ rfl h)
def d_P_putHead_38 (S : ax_S) : Nat → ax_I → ax_R → Nat → Nat → Int32 → Option (ax_I)
  | 0, _, _, _, _, _ => none
  | n + 1, I, R, u0, u1, x2 =>
    if (I u0 2) ≤ x2 then
      (d_S_putByte S I R u1 (I u0 3)).bind fun I19 =>
      d_P_putHead_76 S  5000 I19 R u0 u1 (0)
    else
      (R u0 0).bind fun u20 =>
      (ax_ix S u20 (x2)).bind fun j24 =>
      (R u20 j24).bind fun u26 =>
      (d_P_placeOfPart S I R u0 u26).bind fun r31 =>
      (d_S_putNumber S I R u1 (r31)).bind fun I34 =>
      d_P_putHead_38 S  n I34 R u0 u1 (x2 + 1)
set_option maxHeartbeats 1000000 in
theorem e_P_putHead_38 {l : Launch} {X : ax_X} {S : ax_S} {L : ax_L} {R0 : ax_R} {out : ax_I} (hX : ax_ok X l "LossFreeTools$Picture" b_P_putHead 3 (ax_rm 3 0 0)) (hF : ax_fin X none 0 0 (ax_of (ax_eq none S out R0 L))) (hS0 : ax_S0 X = S) : ∀ (n : Nat), ∀ (I : ax_I) (R : ax_R) (u0 : Nat) (u1 : Nat) (x2 : Int32), ax_typ S R → (S u0 = some (.inl 1)) → (S u1 = some (.inl 2)) → R = R0 → d_P_putHead_38 S  n I R u0 u1 x2 = some out → ax_W X 3 38 [some (.ref u0), some (.ref u1), some (.int (x2))] [] S I R L 0 0 := by
  intro n
  induction n with
  | zero =>
    rintro I R u0 u1 x2 hty hs0_ hs1_ hR0 h
    cases h
  | succ n ih =>
    rintro I R u0 u1 x2 hty hs0_ hs1_ hR0 h
    subst hR0
    unfold d_P_putHead_38 at h
    refine ax_iload_n (q := 39) hX dc_P_putHead_38 rfl rfl rfl ?_
    refine ax_aload_n (q := 40) hX dc_P_putHead_39 rfl rfl rfl ?_
    refine ax_getI (q := 43) hX dc_P_putHead_40 rfl fl_P_32 rfl hs0_ ?_
    refine ax_icmp_ge (tgt := 66) (q := 46) hX dc_P_putHead_43 rfl (by decide) (fun z16 => ?_) (fun z16 => ?_)
    · rw [if_pos z16] at h
      refine ax_aload_n (q := 67) hX dc_P_putHead_66 rfl rfl rfl ?_
      refine ax_aload_n (q := 68) hX dc_P_putHead_67 rfl rfl rfl ?_
      refine ax_getI (q := 71) hX dc_P_putHead_68 rfl fl_P_35 rfl hs0_ ?_
      obtain ⟨I19, hr17, h⟩ := ax_bd h
      refine ax_kV (vs := [.int (I u0 3)]) (rest := []) (q := 74) hX dc_P_putHead_71 rfl mt_S_putByte wl_P_114 wi_S_putByte ws_S_putByte hs1_ rfl (c_S_putByte l hty hs1_ hr17) rfl (by decide) rfl (Nat.le_of_ble_eq_true rfl) rfl rfl (by decide) (by decide) rfl ?_
      refine ax_iconst (v := 0) (q := 75) hX dc_P_putHead_74 rfl (by decide) ?_
      refine ax_istore_n (ls' := [some (.ref u0), some (.ref u1), some (.int (0))]) (q := 76) hX dc_P_putHead_75 rfl rfl (by decide) rfl ?_
      exact (e_P_putHead_76 hX hF hS0  5000 I19 R u0 u1 (0) hty hs0_ hs1_ rfl h)
    · rw [if_neg z16] at h
      refine ax_aload_n (q := 47) hX dc_P_putHead_46 rfl rfl rfl ?_
      refine ax_aload_n (q := 48) hX dc_P_putHead_47 rfl rfl rfl ?_
      refine ax_aload_n (q := 49) hX dc_P_putHead_48 rfl rfl rfl ?_
      obtain ⟨u20, hu21, h⟩ := ax_bd h
      obtain ⟨n23, hs22⟩ : ∃ n, S u20 = some (.inr (2, n)) := hty.1 _ _ _ _ hs0_ hu21
      refine ax_getR (q := 52) hX dc_P_putHead_49 rfl fl_P_11 rfl hs0_ hu21 ?_
      refine ax_iload_n (q := 53) hX dc_P_putHead_52 rfl rfl rfl ?_
      obtain ⟨j24, hj25, h⟩ := ax_bd h
      have hj25 := ax_ix_s hty hs22 hj25
      obtain ⟨u26, hu27, h⟩ := ax_bd h
      have hs28 : S u26 = some (.inl 3) := hty.2.1 _ _ _ _ hs22 hu27
      refine ax_aald (q := 54) hX j24 dc_P_putHead_53 rfl hs22 rfl rfl hj25.1 hj25.2.1 hj25.2.2 hu27 ?_
      obtain ⟨r31, hr29, h⟩ := ax_bd h
      refine ax_kV (vs := [.ref u26]) (rest := [.ref u1]) (q := 57) hX dc_P_putHead_54 rfl mt_P_placeOfPart wl_P_122 wi_P_placeOfPart ws_P_placeOfPart hs0_ rfl (c_P_placeOfPart l hty hs0_ hs28 hr29) rfl (by decide) rfl (Nat.le_of_ble_eq_true rfl) rfl rfl (by decide) (by decide) rfl ?_
      obtain ⟨I34, hr32, h⟩ := ax_bd h
      refine ax_kV (vs := [.int (r31)]) (rest := []) (q := 60) hX dc_P_putHead_57 rfl mt_S_putNumber wl_P_119 wi_S_putNumber ws_S_putNumber hs1_ rfl (c_S_putNumber l hty hs1_ hr32) rfl (by decide) rfl (Nat.le_of_ble_eq_true rfl) rfl rfl (by decide) (by decide) rfl ?_
      refine ax_iinc (v := x2 + 1) (ls' := [some (.ref u0), some (.ref u1), some (.int (x2 + 1))]) (q := 63) hX dc_P_putHead_60 rfl rfl rfl (by decide) rfl ?_
      refine ax_goto (tgt := 38) hX dc_P_putHead_63 (by decide) ?_
      exact (ih I34 R u0 u1 (x2 + 1) hty hs0_ hs1_ rfl h)
def d_P_putHead (S : ax_S) (I : ax_I) (R : ax_R) (u0 : Nat) (u1 : Nat) : Option (ax_I) :=
  (d_S_putByte S I R u1 (76)).bind fun I3 =>
  (d_S_putByte S I3 R u1 (70)).bind fun I6 =>
  (d_S_putNumber S I6 R u1 (I6 u0 4)).bind fun I9 =>
  (d_S_putNumber S I9 R u1 (I9 u0 5)).bind fun I12 =>
  (d_S_putByte S I12 R u1 (I12 u0 2)).bind fun I15 =>
  d_P_putHead_38 S  5000 I15 R u0 u1 (0)
set_option maxHeartbeats 1000000 in
theorem c_P_putHead (l : Launch) {S : ax_S} {I : ax_I} {R : ax_R} {L : ax_L} {u0 : Nat} {u1 : Nat} {out : ax_I} (hty : ax_typ S R) (hs0 : S u0 = some (.inl 1)) (hs1 : S u1 = some (.inl 2)) (h : d_P_putHead S I R u0 u1 = some out) : ax_Met l y_P_putHead b_P_putHead 3 none (ax_rm 3 0 0) [.ref u0, .ref u1] S I R L (ax_eq none S out R L) := by
  refine ax_enter (own := "LossFreeTools$Picture") (by decide +kernel) rfl (ax_cats rfl) (Nat.le_of_ble_eq_true rfl) (fun X hX hF _ hS0 => ?_)
  show ax_W X 3 0 [some (.ref u0), some (.ref u1), none] [] S I R L 0 0
  unfold d_P_putHead at h
  refine ax_aload_n (q := 1) hX dc_P_putHead_0 rfl rfl rfl ?_
  refine ax_bipush (v := 76) (q := 3) hX dc_P_putHead_1 rfl (by decide) ?_
  obtain ⟨I3, hr1, h⟩ := ax_bd h
  refine ax_kV (vs := [.int (76)]) (rest := []) (q := 6) hX dc_P_putHead_3 rfl mt_S_putByte wl_P_114 wi_S_putByte ws_S_putByte hs1 rfl (c_S_putByte l hty hs1 hr1) rfl (by decide) rfl (Nat.le_of_ble_eq_true rfl) rfl rfl (by decide) (by decide) rfl ?_
  refine ax_aload_n (q := 7) hX dc_P_putHead_6 rfl rfl rfl ?_
  refine ax_bipush (v := 70) (q := 9) hX dc_P_putHead_7 rfl (by decide) ?_
  obtain ⟨I6, hr4, h⟩ := ax_bd h
  refine ax_kV (vs := [.int (70)]) (rest := []) (q := 12) hX dc_P_putHead_9 rfl mt_S_putByte wl_P_114 wi_S_putByte ws_S_putByte hs1 rfl (c_S_putByte l hty hs1 hr4) rfl (by decide) rfl (Nat.le_of_ble_eq_true rfl) rfl rfl (by decide) (by decide) rfl ?_
  refine ax_aload_n (q := 13) hX dc_P_putHead_12 rfl rfl rfl ?_
  refine ax_aload_n (q := 14) hX dc_P_putHead_13 rfl rfl rfl ?_
  refine ax_getI (q := 17) hX dc_P_putHead_14 rfl fl_P_25 rfl hs0 ?_
  obtain ⟨I9, hr7, h⟩ := ax_bd h
  refine ax_kV (vs := [.int (I6 u0 4)]) (rest := []) (q := 20) hX dc_P_putHead_17 rfl mt_S_putNumber wl_P_119 wi_S_putNumber ws_S_putNumber hs1 rfl (c_S_putNumber l hty hs1 hr7) rfl (by decide) rfl (Nat.le_of_ble_eq_true rfl) rfl rfl (by decide) (by decide) rfl ?_
  refine ax_aload_n (q := 21) hX dc_P_putHead_20 rfl rfl rfl ?_
  refine ax_aload_n (q := 22) hX dc_P_putHead_21 rfl rfl rfl ?_
  refine ax_getI (q := 25) hX dc_P_putHead_22 rfl fl_P_29 rfl hs0 ?_
  obtain ⟨I12, hr10, h⟩ := ax_bd h
  refine ax_kV (vs := [.int (I9 u0 5)]) (rest := []) (q := 28) hX dc_P_putHead_25 rfl mt_S_putNumber wl_P_119 wi_S_putNumber ws_S_putNumber hs1 rfl (c_S_putNumber l hty hs1 hr10) rfl (by decide) rfl (Nat.le_of_ble_eq_true rfl) rfl rfl (by decide) (by decide) rfl ?_
  refine ax_aload_n (q := 29) hX dc_P_putHead_28 rfl rfl rfl ?_
  refine ax_aload_n (q := 30) hX dc_P_putHead_29 rfl rfl rfl ?_
  refine ax_getI (q := 33) hX dc_P_putHead_30 rfl fl_P_32 rfl hs0 ?_
  obtain ⟨I15, hr13, h⟩ := ax_bd h
  refine ax_kV (vs := [.int (I12 u0 2)]) (rest := []) (q := 36) hX dc_P_putHead_33 rfl mt_S_putByte wl_P_114 wi_S_putByte ws_S_putByte hs1 rfl (c_S_putByte l hty hs1 hr13) rfl (by decide) rfl (Nat.le_of_ble_eq_true rfl) rfl rfl (by decide) (by decide) rfl ?_
  refine ax_iconst (v := 0) (q := 37) hX dc_P_putHead_36 rfl (by decide) ?_
  refine ax_istore_n (ls' := [some (.ref u0), some (.ref u1), some (.int (0))]) (q := 38) hX dc_P_putHead_37 rfl rfl (by decide) rfl ?_
  exact (e_P_putHead_38 hX hF hS0  5000 I15 R u0 u1 (0) hty hs0 hs1 rfl h)
def d_T_ownWidth (S : ax_S) (I : ax_I) (R : ax_R) (u0 : Nat) : Option (Int32) :=
  (d_T_liesOnItsSide S I R u0).bind fun r3 =>
  if (ax_b r3) = 0 then
    some (I u0 4)
  else
    some (I u0 5)
set_option maxHeartbeats 1000000 in
theorem c_T_ownWidth (l : Launch) {S : ax_S} {I : ax_I} {R : ax_R} {L : ax_L} {u0 : Nat} {out : Int32} (hty : ax_typ S R) (hs0 : S u0 = some (.inl 3)) (h : d_T_ownWidth S I R u0 = some out) : ax_Met l y_T_ownWidth b_T_ownWidth 1 (some .int) (ax_rm 3 0 0) [.ref u0] S I R L (ax_eq (some (.int out)) S I R L) := by
  refine ax_enter (own := "LossFreeTools$Tile") (by decide +kernel) rfl (ax_cats rfl) (Nat.le_of_ble_eq_true rfl) (fun X hX hF _ hS0 => ?_)
  show ax_W X 1 0 [some (.ref u0)] [] S I R L 0 0
  unfold d_T_ownWidth at h
  refine ax_aload_n (q := 1) hX dc_T_ownWidth_0 rfl rfl rfl ?_
  obtain ⟨r3, hr1, h⟩ := ax_bd h
  refine ax_kV (vs := []) (rest := []) (q := 4) hX dc_T_ownWidth_1 rfl mt_T_liesOnItsSide wl_T_38 wi_T_liesOnItsSide ws_T_liesOnItsSide hs0 rfl (c_T_liesOnItsSide l hty hs0 hr1) rfl (by decide) rfl (Nat.le_of_ble_eq_true rfl) rfl rfl (by decide) (by decide) rfl ?_
  refine ax_if_eq (tgt := 14) (q := 7) hX dc_T_ownWidth_4 rfl (by decide) (fun z4 => ?_) (fun z4 => ?_)
  · rw [if_pos z4] at h
    refine ax_aload_n (q := 15) hX dc_T_ownWidth_14 rfl rfl rfl ?_
    refine ax_getI (q := 18) hX dc_T_ownWidth_15 rfl fl_T_22 rfl hs0 ?_
    cases h
    exact ax_iret hX hF dc_T_ownWidth_18 rfl rfl (by decide) (by decide) ax_eq.mk (by rw [hS0]; exact fun _ _ z => z)
  · rw [if_neg z4] at h
    refine ax_aload_n (q := 8) hX dc_T_ownWidth_7 rfl rfl rfl ?_
    refine ax_getI (q := 11) hX dc_T_ownWidth_8 rfl fl_T_25 rfl hs0 ?_
    refine ax_goto (tgt := 18) hX dc_T_ownWidth_11 (by decide) ?_
    cases h
    exact ax_iret hX hF dc_T_ownWidth_18 rfl rfl (by decide) (by decide) ax_eq.mk (by rw [hS0]; exact fun _ _ z => z)
def d_T_ownHeight (S : ax_S) (I : ax_I) (R : ax_R) (u0 : Nat) : Option (Int32) :=
  (d_T_liesOnItsSide S I R u0).bind fun r3 =>
  if (ax_b r3) = 0 then
    some (I u0 5)
  else
    some (I u0 4)
set_option maxHeartbeats 1000000 in
theorem c_T_ownHeight (l : Launch) {S : ax_S} {I : ax_I} {R : ax_R} {L : ax_L} {u0 : Nat} {out : Int32} (hty : ax_typ S R) (hs0 : S u0 = some (.inl 3)) (h : d_T_ownHeight S I R u0 = some out) : ax_Met l y_T_ownHeight b_T_ownHeight 1 (some .int) (ax_rm 3 0 0) [.ref u0] S I R L (ax_eq (some (.int out)) S I R L) := by
  refine ax_enter (own := "LossFreeTools$Tile") (by decide +kernel) rfl (ax_cats rfl) (Nat.le_of_ble_eq_true rfl) (fun X hX hF _ hS0 => ?_)
  show ax_W X 1 0 [some (.ref u0)] [] S I R L 0 0
  unfold d_T_ownHeight at h
  refine ax_aload_n (q := 1) hX dc_T_ownHeight_0 rfl rfl rfl ?_
  obtain ⟨r3, hr1, h⟩ := ax_bd h
  refine ax_kV (vs := []) (rest := []) (q := 4) hX dc_T_ownHeight_1 rfl mt_T_liesOnItsSide wl_T_38 wi_T_liesOnItsSide ws_T_liesOnItsSide hs0 rfl (c_T_liesOnItsSide l hty hs0 hr1) rfl (by decide) rfl (Nat.le_of_ble_eq_true rfl) rfl rfl (by decide) (by decide) rfl ?_
  refine ax_if_eq (tgt := 14) (q := 7) hX dc_T_ownHeight_4 rfl (by decide) (fun z4 => ?_) (fun z4 => ?_)
  · rw [if_pos z4] at h
    refine ax_aload_n (q := 15) hX dc_T_ownHeight_14 rfl rfl rfl ?_
    refine ax_getI (q := 18) hX dc_T_ownHeight_15 rfl fl_T_25 rfl hs0 ?_
    cases h
    exact ax_iret hX hF dc_T_ownHeight_18 rfl rfl (by decide) (by decide) ax_eq.mk (by rw [hS0]; exact fun _ _ z => z)
  · rw [if_neg z4] at h
    refine ax_aload_n (q := 8) hX dc_T_ownHeight_7 rfl rfl rfl ?_
    refine ax_getI (q := 11) hX dc_T_ownHeight_8 rfl fl_T_22 rfl hs0 ?_
    refine ax_goto (tgt := 18) hX dc_T_ownHeight_11 (by decide) ?_
    cases h
    exact ax_iret hX hF dc_T_ownHeight_18 rfl rfl (by decide) (by decide) ax_eq.mk (by rw [hS0]; exact fun _ _ z => z)
def d_T_putPart_55 (S : ax_S) : Nat → ax_I → ax_R → Nat → Nat → Int32 → Int32 → Option (ax_I)
  | 0, _, _, _, _, _, _ => none
  | n + 1, I, R, u0, u1, x2, x3 =>
    if (I u0 1) ≤ x3 then
      (d_S_sumFrom S I R u1 (x2)).bind fun r22 =>
      (d_S_putNumber S I R u1 (r22)).bind fun I25 =>
      some (I25)
    else
      (R u0 0).bind fun u26 =>
      (ax_ix S u26 (x3)).bind fun j30 =>
      (d_S_putByte S I R u1 (I u26 j30)).bind fun I34 =>
      d_T_putPart_55 S  n I34 R u0 u1 (x2) (x3 + 1)
set_option maxHeartbeats 1000000 in
theorem e_T_putPart_55 {l : Launch} {X : ax_X} {S : ax_S} {L : ax_L} {R0 : ax_R} {out : ax_I} (hX : ax_ok X l "LossFreeTools$Tile" b_T_putPart 4 (ax_rm 3 0 0)) (hF : ax_fin X none 0 0 (ax_of (ax_eq none S out R0 L))) (hS0 : ax_S0 X = S) : ∀ (n : Nat), ∀ (I : ax_I) (R : ax_R) (u0 : Nat) (u1 : Nat) (x2 : Int32) (x3 : Int32), ax_typ S R → (S u0 = some (.inl 3)) → (S u1 = some (.inl 2)) → R = R0 → d_T_putPart_55 S  n I R u0 u1 x2 x3 = some out → ax_W X 4 55 [some (.ref u0), some (.ref u1), some (.int (x2)), some (.int (x3))] [] S I R L 0 0 := by
  intro n
  induction n with
  | zero =>
    rintro I R u0 u1 x2 x3 hty hs0_ hs1_ hR0 h
    cases h
  | succ n ih =>
    rintro I R u0 u1 x2 x3 hty hs0_ hs1_ hR0 h
    subst hR0
    unfold d_T_putPart_55 at h
    refine ax_iload_n (q := 56) hX dc_T_putPart_55 rfl rfl rfl ?_
    refine ax_aload_n (q := 57) hX dc_T_putPart_56 rfl rfl rfl ?_
    refine ax_getI (q := 60) hX dc_T_putPart_57 rfl fl_T_31 rfl hs0_ ?_
    refine ax_icmp_ge (tgt := 79) (q := 63) hX dc_T_putPart_60 rfl (by decide) (fun z19 => ?_) (fun z19 => ?_)
    · rw [if_pos z19] at h
      refine ax_aload_n (q := 80) hX dc_T_putPart_79 rfl rfl rfl ?_
      refine ax_aload_n (q := 81) hX dc_T_putPart_80 rfl rfl rfl ?_
      refine ax_iload_n (q := 82) hX dc_T_putPart_81 rfl rfl rfl ?_
      obtain ⟨r22, hr20, h⟩ := ax_bd h
      refine ax_kV (vs := [.int (x2)]) (rest := [.ref u1]) (q := 85) hX dc_T_putPart_82 rfl mt_S_sumFrom wl_T_58 wi_S_sumFrom ws_S_sumFrom hs1_ rfl (c_S_sumFrom l hty hs1_ hr20) rfl (by decide) rfl (Nat.le_of_ble_eq_true rfl) rfl rfl (by decide) (by decide) rfl ?_
      obtain ⟨I25, hr23, h⟩ := ax_bd h
      refine ax_kV (vs := [.int (r22)]) (rest := []) (q := 88) hX dc_T_putPart_85 rfl mt_S_putNumber wl_T_51 wi_S_putNumber ws_S_putNumber hs1_ rfl (c_S_putNumber l hty hs1_ hr23) rfl (by decide) rfl (Nat.le_of_ble_eq_true rfl) rfl rfl (by decide) (by decide) rfl ?_
      cases h
      exact ax_vret hX hF dc_T_putPart_88 (by decide) (by decide) ax_eq.mk (by rw [hS0]; exact fun _ _ z => z)
    · rw [if_neg z19] at h
      refine ax_aload_n (q := 64) hX dc_T_putPart_63 rfl rfl rfl ?_
      refine ax_aload_n (q := 65) hX dc_T_putPart_64 rfl rfl rfl ?_
      obtain ⟨u26, hu27, h⟩ := ax_bd h
      obtain ⟨n29, hs28⟩ : ∃ n, S u26 = some (.inr (0, n)) := hty.1 _ _ _ _ hs0_ hu27
      refine ax_getR (q := 68) hX dc_T_putPart_65 rfl fl_T_9 rfl hs0_ hu27 ?_
      refine ax_iload_n (q := 69) hX dc_T_putPart_68 rfl rfl rfl ?_
      obtain ⟨j30, hj31, h⟩ := ax_bd h
      have hj31 := ax_ix_s hty hs28 hj31
      refine ax_iald (q := 70) hX j30 dc_T_putPart_69 rfl hs28 hj31.1 hj31.2.1 hj31.2.2 ?_
      obtain ⟨I34, hr32, h⟩ := ax_bd h
      refine ax_kV (vs := [.int (I u26 j30)]) (rest := []) (q := 73) hX dc_T_putPart_70 rfl mt_S_putByte wl_T_55 wi_S_putByte ws_S_putByte hs1_ rfl (c_S_putByte l hty hs1_ hr32) rfl (by decide) rfl (Nat.le_of_ble_eq_true rfl) rfl rfl (by decide) (by decide) rfl ?_
      refine ax_iinc (v := x3 + 1) (ls' := [some (.ref u0), some (.ref u1), some (.int (x2)), some (.int (x3 + 1))]) (q := 76) hX dc_T_putPart_73 rfl rfl rfl (by decide) rfl ?_
      refine ax_goto (tgt := 55) hX dc_T_putPart_76 (by decide) ?_
      exact (ih I34 R u0 u1 (x2) (x3 + 1) hty hs0_ hs1_ rfl h)
def d_T_putPart (S : ax_S) (I : ax_I) (R : ax_R) (u0 : Nat) (u1 : Nat) : Option (ax_I) :=
  (d_S_putNumber S I R u1 (I u0 2)).bind fun I3 =>
  (d_S_putNumber S I3 R u1 (I3 u0 3)).bind fun I6 =>
  (d_S_putNumber S I6 R u1 (I6 u0 4)).bind fun I9 =>
  (d_S_putNumber S I9 R u1 (I9 u0 5)).bind fun I12 =>
  (d_S_putByte S I12 R u1 (I12 u0 6)).bind fun I15 =>
  (d_S_putByte S I15 R u1 (I15 u0 1)).bind fun I18 =>
  d_T_putPart_55 S  5000 I18 R u0 u1 (I u1 2) (0)
set_option maxHeartbeats 1000000 in
theorem c_T_putPart (l : Launch) {S : ax_S} {I : ax_I} {R : ax_R} {L : ax_L} {u0 : Nat} {u1 : Nat} {out : ax_I} (hty : ax_typ S R) (hs0 : S u0 = some (.inl 3)) (hs1 : S u1 = some (.inl 2)) (h : d_T_putPart S I R u0 u1 = some out) : ax_Met l y_T_putPart b_T_putPart 4 none (ax_rm 3 0 0) [.ref u0, .ref u1] S I R L (ax_eq none S out R L) := by
  refine ax_enter (own := "LossFreeTools$Tile") (by decide +kernel) rfl (ax_cats rfl) (Nat.le_of_ble_eq_true rfl) (fun X hX hF _ hS0 => ?_)
  show ax_W X 4 0 [some (.ref u0), some (.ref u1), none, none] [] S I R L 0 0
  unfold d_T_putPart at h
  refine ax_aload_n (q := 1) hX dc_T_putPart_0 rfl rfl rfl ?_
  refine ax_getI (q := 4) hX dc_T_putPart_1 rfl fl_T_46 rfl hs1 ?_
  refine ax_istore_n (ls' := [some (.ref u0), some (.ref u1), some (.int (I u1 2)), none]) (q := 5) hX dc_T_putPart_4 rfl rfl (by decide) rfl ?_
  refine ax_aload_n (q := 6) hX dc_T_putPart_5 rfl rfl rfl ?_
  refine ax_aload_n (q := 7) hX dc_T_putPart_6 rfl rfl rfl ?_
  refine ax_getI (q := 10) hX dc_T_putPart_7 rfl fl_T_15 rfl hs0 ?_
  obtain ⟨I3, hr1, h⟩ := ax_bd h
  refine ax_kV (vs := [.int (I u0 2)]) (rest := []) (q := 13) hX dc_T_putPart_10 rfl mt_S_putNumber wl_T_51 wi_S_putNumber ws_S_putNumber hs1 rfl (c_S_putNumber l hty hs1 hr1) rfl (by decide) rfl (Nat.le_of_ble_eq_true rfl) rfl rfl (by decide) (by decide) rfl ?_
  refine ax_aload_n (q := 14) hX dc_T_putPart_13 rfl rfl rfl ?_
  refine ax_aload_n (q := 15) hX dc_T_putPart_14 rfl rfl rfl ?_
  refine ax_getI (q := 18) hX dc_T_putPart_15 rfl fl_T_19 rfl hs0 ?_
  obtain ⟨I6, hr4, h⟩ := ax_bd h
  refine ax_kV (vs := [.int (I3 u0 3)]) (rest := []) (q := 21) hX dc_T_putPart_18 rfl mt_S_putNumber wl_T_51 wi_S_putNumber ws_S_putNumber hs1 rfl (c_S_putNumber l hty hs1 hr4) rfl (by decide) rfl (Nat.le_of_ble_eq_true rfl) rfl rfl (by decide) (by decide) rfl ?_
  refine ax_aload_n (q := 22) hX dc_T_putPart_21 rfl rfl rfl ?_
  refine ax_aload_n (q := 23) hX dc_T_putPart_22 rfl rfl rfl ?_
  refine ax_getI (q := 26) hX dc_T_putPart_23 rfl fl_T_22 rfl hs0 ?_
  obtain ⟨I9, hr7, h⟩ := ax_bd h
  refine ax_kV (vs := [.int (I6 u0 4)]) (rest := []) (q := 29) hX dc_T_putPart_26 rfl mt_S_putNumber wl_T_51 wi_S_putNumber ws_S_putNumber hs1 rfl (c_S_putNumber l hty hs1 hr7) rfl (by decide) rfl (Nat.le_of_ble_eq_true rfl) rfl rfl (by decide) (by decide) rfl ?_
  refine ax_aload_n (q := 30) hX dc_T_putPart_29 rfl rfl rfl ?_
  refine ax_aload_n (q := 31) hX dc_T_putPart_30 rfl rfl rfl ?_
  refine ax_getI (q := 34) hX dc_T_putPart_31 rfl fl_T_25 rfl hs0 ?_
  obtain ⟨I12, hr10, h⟩ := ax_bd h
  refine ax_kV (vs := [.int (I9 u0 5)]) (rest := []) (q := 37) hX dc_T_putPart_34 rfl mt_S_putNumber wl_T_51 wi_S_putNumber ws_S_putNumber hs1 rfl (c_S_putNumber l hty hs1 hr10) rfl (by decide) rfl (Nat.le_of_ble_eq_true rfl) rfl rfl (by decide) (by decide) rfl ?_
  refine ax_aload_n (q := 38) hX dc_T_putPart_37 rfl rfl rfl ?_
  refine ax_aload_n (q := 39) hX dc_T_putPart_38 rfl rfl rfl ?_
  refine ax_getI (q := 42) hX dc_T_putPart_39 rfl fl_T_28 rfl hs0 ?_
  obtain ⟨I15, hr13, h⟩ := ax_bd h
  refine ax_kV (vs := [.int (I12 u0 6)]) (rest := []) (q := 45) hX dc_T_putPart_42 rfl mt_S_putByte wl_T_55 wi_S_putByte ws_S_putByte hs1 rfl (c_S_putByte l hty hs1 hr13) rfl (by decide) rfl (Nat.le_of_ble_eq_true rfl) rfl rfl (by decide) (by decide) rfl ?_
  refine ax_aload_n (q := 46) hX dc_T_putPart_45 rfl rfl rfl ?_
  refine ax_aload_n (q := 47) hX dc_T_putPart_46 rfl rfl rfl ?_
  refine ax_getI (q := 50) hX dc_T_putPart_47 rfl fl_T_31 rfl hs0 ?_
  obtain ⟨I18, hr16, h⟩ := ax_bd h
  refine ax_kV (vs := [.int (I15 u0 1)]) (rest := []) (q := 53) hX dc_T_putPart_50 rfl mt_S_putByte wl_T_55 wi_S_putByte ws_S_putByte hs1 rfl (c_S_putByte l hty hs1 hr16) rfl (by decide) rfl (Nat.le_of_ble_eq_true rfl) rfl rfl (by decide) (by decide) rfl ?_
  refine ax_iconst (v := 0) (q := 54) hX dc_T_putPart_53 rfl (by decide) ?_
  refine ax_istore_n (ls' := [some (.ref u0), some (.ref u1), some (.int (I u1 2)), some (.int (0))]) (q := 55) hX dc_T_putPart_54 rfl rfl (by decide) rfl ?_
  exact (e_T_putPart_55 hX hF hS0  5000 I18 R u0 u1 (I u1 2) (0) hty hs0 hs1 rfl h)
def d_K_allAskedFit_2 (S : ax_S) : Nat → ax_I → ax_R → Nat → Int32 → Option (Bool)
  | 0, _, _, _, _ => none
  | n + 1, I, R, u0, x1 =>
    if 4 ≤ x1 then
      some (true)
    else
      (R u0 4).bind fun u2 =>
      (d_K_isUpright S I R (x1)).bind fun r7 =>
      (R u0 3).bind fun u8 =>
      (ax_ix S u8 (x1)).bind fun j12 =>
      (d_P_borderFits S I R u2 (ax_b r7) (I u8 j12)).bind fun r16 =>
      if (ax_b r16) = 0 then
        some (false)
      else
        d_K_allAskedFit_2 S  n I R u0 (x1 + 1)
set_option maxHeartbeats 1000000 in
theorem e_K_allAskedFit_2 {l : Launch} {X : ax_X} {S : ax_S} {L : ax_L} {I0 : ax_I} {R0 : ax_R} {out : Bool} (hX : ax_ok X l "LossFreeTools" b_K_allAskedFit 2 (ax_rm 3 0 0)) (hF : ax_fin X (some .boolean) 0 0 (ax_of (ax_eq (some (.int (ax_b out))) S I0 R0 L))) (hS0 : ax_S0 X = S) : ∀ (n : Nat), ∀ (I : ax_I) (R : ax_R) (u0 : Nat) (x1 : Int32), ax_typ S R → (S u0 = some (.inl 4)) → I = I0 → R = R0 → d_K_allAskedFit_2 S  n I R u0 x1 = some out → ax_W X 2 2 [some (.ref u0), some (.int (x1))] [] S I R L 0 0 := by
  intro n
  induction n with
  | zero =>
    rintro I R u0 x1 hty hs0_ hI0 hR0 h
    cases h
  | succ n ih =>
    rintro I R u0 x1 hty hs0_ hI0 hR0 h
    subst hI0
    subst hR0
    unfold d_K_allAskedFit_2 at h
    refine ax_iload_n (q := 3) hX dc_K_allAskedFit_2 rfl rfl rfl ?_
    refine ax_iconst (v := 4) (q := 4) hX dc_K_allAskedFit_3 rfl (by decide) ?_
    refine ax_icmp_ge (tgt := 35) (q := 7) hX dc_K_allAskedFit_4 rfl (by decide) (fun z1 => ?_) (fun z1 => ?_)
    · rw [if_pos z1] at h
      refine ax_iconst (v := 1) (q := 36) hX dc_K_allAskedFit_35 rfl (by decide) ?_
      cases h
      exact ax_iret hX hF dc_K_allAskedFit_36 rfl rfl (by decide) (by decide) ax_eq.mk (by rw [hS0]; exact fun _ _ z => z)
    · rw [if_neg z1] at h
      refine ax_aload_n (q := 8) hX dc_K_allAskedFit_7 rfl rfl rfl ?_
      obtain ⟨u2, hu3, h⟩ := ax_bd h
      have hs4 : S u2 = some (.inl 1) := hty.1 _ _ _ _ hs0_ hu3
      refine ax_getR (q := 11) hX dc_K_allAskedFit_8 rfl fl_K_36 rfl hs0_ hu3 ?_
      refine ax_iload_n (q := 12) hX dc_K_allAskedFit_11 rfl rfl rfl ?_
      obtain ⟨r7, hr5, h⟩ := ax_bd h
      refine ax_kS (vs := [.int (x1)]) (rest := [.ref u2]) (q := 15) hX dc_K_allAskedFit_12 rfl mt_K_isUpright wl_K_140 wt_K_isUpright (c_K_isUpright l hty  hr5) rfl (by decide) rfl (Nat.le_of_ble_eq_true rfl) rfl rfl (by decide) (by decide) rfl ?_
      refine ax_aload_n (q := 16) hX dc_K_allAskedFit_15 rfl rfl rfl ?_
      obtain ⟨u8, hu9, h⟩ := ax_bd h
      obtain ⟨n11, hs10⟩ : ∃ n, S u8 = some (.inr (0, n)) := hty.1 _ _ _ _ hs0_ hu9
      refine ax_getR (q := 19) hX dc_K_allAskedFit_16 rfl fl_K_27 rfl hs0_ hu9 ?_
      refine ax_iload_n (q := 20) hX dc_K_allAskedFit_19 rfl rfl rfl ?_
      obtain ⟨j12, hj13, h⟩ := ax_bd h
      have hj13 := ax_ix_s hty hs10 hj13
      refine ax_iald (q := 21) hX j12 dc_K_allAskedFit_20 rfl hs10 hj13.1 hj13.2.1 hj13.2.2 ?_
      obtain ⟨r16, hr14, h⟩ := ax_bd h
      refine ax_kV (vs := [.int (ax_b r7), .int (I u8 j12)]) (rest := []) (q := 24) hX dc_K_allAskedFit_21 rfl mt_P_borderFits wl_K_252 wi_P_borderFits ws_P_borderFits hs4 rfl (c_P_borderFits l hty hs4 hr14) rfl (by decide) rfl (Nat.le_of_ble_eq_true rfl) rfl rfl (by decide) (by decide) rfl ?_
      refine ax_if_ne (tgt := 29) (q := 27) hX dc_K_allAskedFit_24 rfl (by decide) (fun z17 => ?_) (fun z17 => ?_)
      · rw [if_neg z17] at h
        refine ax_iinc (v := x1 + 1) (ls' := [some (.ref u0), some (.int (x1 + 1))]) (q := 32) hX dc_K_allAskedFit_29 rfl rfl rfl (by decide) rfl ?_
        refine ax_goto (tgt := 2) hX dc_K_allAskedFit_32 (by decide) ?_
        exact (ih I R u0 (x1 + 1) hty hs0_ rfl rfl h)
      · rw [if_pos z17] at h
        refine ax_iconst (v := 0) (q := 28) hX dc_K_allAskedFit_27 rfl (by decide) ?_
        cases h
        exact ax_iret hX hF dc_K_allAskedFit_28 rfl rfl (by decide) (by decide) ax_eq.mk (by rw [hS0]; exact fun _ _ z => z)
def d_K_allAskedFit (S : ax_S) (I : ax_I) (R : ax_R) (u0 : Nat) : Option (Bool) :=
  d_K_allAskedFit_2 S  5000 I R u0 (0)
set_option maxHeartbeats 1000000 in
theorem c_K_allAskedFit (l : Launch) {S : ax_S} {I : ax_I} {R : ax_R} {L : ax_L} {u0 : Nat} {out : Bool} (hty : ax_typ S R) (hs0 : S u0 = some (.inl 4)) (h : d_K_allAskedFit S I R u0 = some out) : ax_Met l y_K_allAskedFit b_K_allAskedFit 2 (some .boolean) (ax_rm 3 0 0) [.ref u0] S I R L (ax_eq (some (.int (ax_b out))) S I R L) := by
  refine ax_enter (own := "LossFreeTools") (by decide +kernel) rfl (ax_cats rfl) (Nat.le_of_ble_eq_true rfl) (fun X hX hF _ hS0 => ?_)
  show ax_W X 2 0 [some (.ref u0), none] [] S I R L 0 0
  unfold d_K_allAskedFit at h
  refine ax_iconst (v := 0) (q := 1) hX dc_K_allAskedFit_0 rfl (by decide) ?_
  refine ax_istore_n (ls' := [some (.ref u0), some (.int (0))]) (q := 2) hX dc_K_allAskedFit_1 rfl rfl (by decide) rfl ?_
  exact (e_K_allAskedFit_2 hX hF hS0  5000 I R u0 (0) hty hs0 rfl rfl h)
