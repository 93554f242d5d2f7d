def d_M_byteOf_48 (S : ax_S) (I : ax_I) (R : ax_R) (u0 : Nat) (x1 : Int32) (x2 : Int32) (y0 : Int32) (w1 : Nat) : Option (Int32 × ax_I) :=
  (some (ax_up I w1 0 (y0))).bind fun I19 =>
  if (I19 u0 0) ≤ 0 then
    (d_M_tileAt S I19 R u0 (x1)).bind fun r24 =>
    (R u0 14).bind fun u25 =>
    (R u0 13).bind fun u29 =>
    (ax_ix S u29 (r24)).bind fun j33 =>
    (ax_ix S u25 ((12 * r24) + (I19 u29 j33))).bind fun j35 =>
    (some (ax_up I19 u25 j35 (x2))).bind fun I37 =>
    (R u0 13).bind fun u39 =>
    (ax_ix S u39 (r24)).bind fun j43 =>
    (ax_ix S u39 (r24)).bind fun j45 =>
    (some (ax_up I37 u39 j45 ((I37 u39 j43) + 1))).bind fun I47 =>
    (R u0 13).bind fun u49 =>
    (ax_ix S u49 (r24)).bind fun j53 =>
    some (I47 u49 j53, I47)
  else
    some (0, I19)
set_option maxHeartbeats 1000000 in
theorem e_M_byteOf_48 {l : Launch} {X : ax_X} {S : ax_S} {L : ax_L} {R0 : ax_R} {out : Int32 × ax_I} (hX : ax_ok X l "LossFreeToolsModel" b_M_byteOf 4 (ax_rm 3 0 0)) (hF : ax_fin X (some .int) 0 0 (ax_of (ax_eq (some (.int out.1)) S out.2 R0 L))) (hS0 : ax_S0 X = S) : ∀ (I : ax_I) (R : ax_R) (u0 : Nat) (x1 : Int32) (x2 : Int32) (y0 : Int32) (w1 : Nat), ax_typ S R → (S u0 = some (.inl 5)) → (S w1 = some (.inl 5)) → R = R0 → d_M_byteOf_48 S  I R u0 x1 x2 y0 w1 = some out → ax_W X 4 48 [some (.ref u0), some (.int (x1)), some (.int (x2)), none] [.int (y0), .ref w1] S I R L 0 0 := by
  rintro I R u0 x1 x2 y0 w1 hty hs0_ hw1_ hR0 h
  subst hR0
  unfold d_M_byteOf_48 at h
  obtain ⟨I19, e20, h⟩ := ax_bs h
  refine ax_putI (q := 51) hX dc_M_byteOf_48 rfl fl_M_68 rfl hw1_ (fun z => by cases z) rfl rfl e20 ?_
  refine ax_aload_n (q := 52) hX dc_M_byteOf_51 rfl rfl rfl ?_
  refine ax_getI (q := 55) hX dc_M_byteOf_52 rfl fl_M_68 rfl hs0_ ?_
  refine ax_if_le (tgt := 60) (q := 58) hX dc_M_byteOf_55 rfl (by decide) (fun z21 => ?_) (fun z21 => ?_)
  · rw [if_pos z21] at h
    refine ax_aload_n (q := 61) hX dc_M_byteOf_60 rfl rfl rfl ?_
    refine ax_iload_n (q := 62) hX dc_M_byteOf_61 rfl rfl rfl ?_
    obtain ⟨r24, hr22, h⟩ := ax_bd h
    refine ax_kV (vs := [.int (x1)]) (rest := []) (q := 65) hX dc_M_byteOf_62 rfl mt_M_tileAt wl_M_92 wi_M_tileAt ws_M_tileAt hs0_ rfl (c_M_tileAt l hty hs0_ hr22) rfl (by decide) rfl (Nat.le_of_ble_eq_true rfl) rfl rfl (by decide) (by decide) rfl ?_
    refine ax_istore_n (ls' := [some (.ref u0), some (.int (x1)), some (.int (x2)), some (.int (r24))]) (q := 66) hX dc_M_byteOf_65 rfl rfl (by decide) rfl ?_
    refine ax_aload_n (q := 67) hX dc_M_byteOf_66 rfl rfl rfl ?_
    obtain ⟨u25, hu26, h⟩ := ax_bd h
    obtain ⟨n28, hs27⟩ : ∃ n, S u25 = some (.inr (0, n)) := hty.1 _ _ _ _ hs0_ hu26
    refine ax_getR (q := 70) hX dc_M_byteOf_67 rfl fl_M_40 rfl hs0_ hu26 ?_
    refine ax_bipush (v := 12) (q := 72) hX dc_M_byteOf_70 rfl (by decide) ?_
    refine ax_iload_n (q := 73) hX dc_M_byteOf_72 rfl rfl rfl ?_
    refine ax_imul (q := 74) hX dc_M_byteOf_73 rfl ?_
    refine ax_aload_n (q := 75) hX dc_M_byteOf_74 rfl rfl rfl ?_
    obtain ⟨u29, hu30, h⟩ := ax_bd h
    obtain ⟨n32, hs31⟩ : ∃ n, S u29 = some (.inr (0, n)) := hty.1 _ _ _ _ hs0_ hu30
    refine ax_getR (q := 78) hX dc_M_byteOf_75 rfl fl_M_37 rfl hs0_ hu30 ?_
    refine ax_iload_n (q := 79) hX dc_M_byteOf_78 rfl rfl rfl ?_
    obtain ⟨j33, hj34, h⟩ := ax_bd h
    have hj34 := ax_ix_s hty hs31 hj34
    refine ax_iald (q := 80) hX j33 dc_M_byteOf_79 rfl hs31 hj34.1 hj34.2.1 hj34.2.2 ?_
    refine ax_iadd (q := 81) hX dc_M_byteOf_80 rfl ?_
    refine ax_iload_n (q := 82) hX dc_M_byteOf_81 rfl rfl rfl ?_
    obtain ⟨j35, hj36, h⟩ := ax_bd h
    have hj36 := ax_ix_s hty hs27 hj36
    obtain ⟨I37, e38, h⟩ := ax_bs h
    refine ax_iast (q := 83) hX j35 dc_M_byteOf_82 rfl hs27 hj36.1 hj36.2.1 hj36.2.2 e38 ?_
    refine ax_aload_n (q := 84) hX dc_M_byteOf_83 rfl rfl rfl ?_
    obtain ⟨u39, hu40, h⟩ := ax_bd h
    obtain ⟨n42, hs41⟩ : ∃ n, S u39 = some (.inr (0, n)) := hty.1 _ _ _ _ hs0_ hu40
    refine ax_getR (q := 87) hX dc_M_byteOf_84 rfl fl_M_37 rfl hs0_ hu40 ?_
    refine ax_iload_n (q := 88) hX dc_M_byteOf_87 rfl rfl rfl ?_
    refine ax_dup2 (q := 89) hX dc_M_byteOf_88 rfl rfl rfl ?_
    obtain ⟨j43, hj44, h⟩ := ax_bd h
    have hj44 := ax_ix_s hty hs41 hj44
    refine ax_iald (q := 90) hX j43 dc_M_byteOf_89 rfl hs41 hj44.1 hj44.2.1 hj44.2.2 ?_
    refine ax_iconst (v := 1) (q := 91) hX dc_M_byteOf_90 rfl (by decide) ?_
    refine ax_iadd (q := 92) hX dc_M_byteOf_91 rfl ?_
    obtain ⟨j45, hj46, h⟩ := ax_bd h
    have hj46 := ax_ix_s hty hs41 hj46
    obtain ⟨I47, e48, h⟩ := ax_bs h
    refine ax_iast (q := 93) hX j45 dc_M_byteOf_92 rfl hs41 hj46.1 hj46.2.1 hj46.2.2 e48 ?_
    refine ax_aload_n (q := 94) hX dc_M_byteOf_93 rfl rfl rfl ?_
    obtain ⟨u49, hu50, h⟩ := ax_bd h
    obtain ⟨n52, hs51⟩ : ∃ n, S u49 = some (.inr (0, n)) := hty.1 _ _ _ _ hs0_ hu50
    refine ax_getR (q := 97) hX dc_M_byteOf_94 rfl fl_M_37 rfl hs0_ hu50 ?_
    refine ax_iload_n (q := 98) hX dc_M_byteOf_97 rfl rfl rfl ?_
    obtain ⟨j53, hj54, h⟩ := ax_bd h
    have hj54 := ax_ix_s hty hs51 hj54
    refine ax_iald (q := 99) hX j53 dc_M_byteOf_98 rfl hs51 hj54.1 hj54.2.1 hj54.2.2 ?_
    cases h
    exact ax_iret hX hF dc_M_byteOf_99 rfl rfl (by decide) (by decide) ax_eq.mk (by rw [hS0]; exact fun _ _ z => z)
  · rw [if_neg z21] at h
    refine ax_iconst (v := 0) (q := 59) hX dc_M_byteOf_58 rfl (by decide) ?_
    cases h
    exact ax_iret hX hF dc_M_byteOf_59 rfl rfl (by decide) (by decide) ax_eq.mk (by rw [hS0]; exact fun _ _ z => z)
def d_M_byteOf (S : ax_S) (I : ax_I) (R : ax_R) (u0 : Nat) (x1 : Int32) (x2 : Int32) : Option (Int32 × ax_I) :=
  (d_M_isTile S I R u0 (x1)).bind fun r3 =>
  if (ax_b r3) = 0 then
    d_M_byteOf_48 S  I R u0 (x1) (x2) (1) u0
  else
    (d_M_in S I R (x2) (0) (255)).bind fun r7 =>
    if (ax_b r7) = 0 then
      d_M_byteOf_48 S  I R u0 (x1) (x2) (2) u0
    else
      (R u0 13).bind fun u9 =>
      (d_M_tileAt S I R u0 (x1)).bind fun r15 =>
      (ax_ix S u9 (r15)).bind fun j16 =>
      if (I u9 j16) = 12 then
        d_M_byteOf_48 S  I R u0 (x1) (x2) (3) u0
      else
        d_M_byteOf_48 S  I R u0 (x1) (x2) (0) u0
set_option maxHeartbeats 1000000 in
theorem c_M_byteOf (l : Launch) {S : ax_S} {I : ax_I} {R : ax_R} {L : ax_L} {u0 : Nat} {x1 : Int32} {x2 : Int32} {out : Int32 × ax_I} (hty : ax_typ S R) (hs0 : S u0 = some (.inl 5)) (h : d_M_byteOf S I R u0 x1 x2 = some out) : ax_Met l y_M_byteOf b_M_byteOf 4 (some .int) (ax_rm 3 0 0) [.ref u0, .int x1, .int x2] S I R L (ax_eq (some (.int out.1)) S out.2 R L) := by
  refine ax_enter (own := "LossFreeToolsModel") (by decide +kernel) rfl (ax_cats rfl) (Nat.le_of_ble_eq_true rfl) (fun X hX hF _ hS0 => ?_)
  show ax_W X 4 0 [some (.ref u0), some (.int (x1)), some (.int (x2)), none] [] S I R L 0 0
  unfold d_M_byteOf at h
  refine ax_aload_n (q := 1) hX dc_M_byteOf_0 rfl rfl rfl ?_
  refine ax_aload_n (q := 2) hX dc_M_byteOf_1 rfl rfl rfl ?_
  refine ax_iload_n (q := 3) hX dc_M_byteOf_2 rfl rfl rfl ?_
  obtain ⟨r3, hr1, h⟩ := ax_bd h
  refine ax_kV (vs := [.int (x1)]) (rest := [.ref u0]) (q := 6) hX dc_M_byteOf_3 rfl mt_M_isTile wl_M_96 wi_M_isTile ws_M_isTile hs0 rfl (c_M_isTile l hty hs0 hr1) rfl (by decide) rfl (Nat.le_of_ble_eq_true rfl) rfl rfl (by decide) (by decide) rfl ?_
  refine ax_if_ne (tgt := 13) (q := 9) hX dc_M_byteOf_6 rfl (by decide) (fun z4 => ?_) (fun z4 => ?_)
  · rw [if_neg z4] at h
    refine ax_iload_n (q := 14) hX dc_M_byteOf_13 rfl rfl rfl ?_
    refine ax_iconst (v := 0) (q := 15) hX dc_M_byteOf_14 rfl (by decide) ?_
    refine ax_sipush (v := 255) (q := 18) hX dc_M_byteOf_15 rfl (by decide) ?_
    obtain ⟨r7, hr5, h⟩ := ax_bd h
    refine ax_kS (vs := [.int (x2), .int (0), .int (255)]) (rest := [.ref u0]) (q := 21) hX dc_M_byteOf_18 rfl mt_M_in wl_M_84 wt_M_in (c_M_in l hty  hr5) rfl (by decide) rfl (Nat.le_of_ble_eq_true rfl) rfl rfl (by decide) (by decide) rfl ?_
    refine ax_if_ne (tgt := 28) (q := 24) hX dc_M_byteOf_21 rfl (by decide) (fun z8 => ?_) (fun z8 => ?_)
    · rw [if_neg z8] at h
      refine ax_aload_n (q := 29) hX dc_M_byteOf_28 rfl rfl rfl ?_
      obtain ⟨u9, hu10, h⟩ := ax_bd h
      obtain ⟨n12, hs11⟩ : ∃ n, S u9 = some (.inr (0, n)) := hty.1 _ _ _ _ hs0 hu10
      refine ax_getR (q := 32) hX dc_M_byteOf_29 rfl fl_M_37 rfl hs0 hu10 ?_
      refine ax_aload_n (q := 33) hX dc_M_byteOf_32 rfl rfl rfl ?_
      refine ax_iload_n (q := 34) hX dc_M_byteOf_33 rfl rfl rfl ?_
      obtain ⟨r15, hr13, h⟩ := ax_bd h
      refine ax_kV (vs := [.int (x1)]) (rest := [.ref u9, .ref u0]) (q := 37) hX dc_M_byteOf_34 rfl mt_M_tileAt wl_M_92 wi_M_tileAt ws_M_tileAt hs0 rfl (c_M_tileAt l hty hs0 hr13) rfl (by decide) rfl (Nat.le_of_ble_eq_true rfl) rfl rfl (by decide) (by decide) rfl ?_
      obtain ⟨j16, hj17, h⟩ := ax_bd h
      have hj17 := ax_ix_s hty hs11 hj17
      refine ax_iald (q := 38) hX j16 dc_M_byteOf_37 rfl hs11 hj17.1 hj17.2.1 hj17.2.2 ?_
      refine ax_bipush (v := 12) (q := 40) hX dc_M_byteOf_38 rfl (by decide) ?_
      refine ax_icmp_ne (tgt := 47) (q := 43) hX dc_M_byteOf_40 rfl (by decide) (fun z18 => ?_) (fun z18 => ?_)
      · rw [if_neg z18] at h
        refine ax_iconst (v := 0) (q := 48) hX dc_M_byteOf_47 rfl (by decide) ?_
        exact (e_M_byteOf_48 hX hF hS0  I R u0 (x1) (x2) (0) u0 hty hs0 hs0 rfl h)
      · rw [if_pos z18] at h
        refine ax_iconst (v := 3) (q := 44) hX dc_M_byteOf_43 rfl (by decide) ?_
        refine ax_goto (tgt := 48) hX dc_M_byteOf_44 (by decide) ?_
        exact (e_M_byteOf_48 hX hF hS0  I R u0 (x1) (x2) (3) u0 hty hs0 hs0 rfl h)
    · rw [if_pos z8] at h
      refine ax_iconst (v := 2) (q := 25) hX dc_M_byteOf_24 rfl (by decide) ?_
      refine ax_goto (tgt := 48) hX dc_M_byteOf_25 (by decide) ?_
      exact (e_M_byteOf_48 hX hF hS0  I R u0 (x1) (x2) (2) u0 hty hs0 hs0 rfl h)
  · rw [if_pos z4] at h
    refine ax_iconst (v := 1) (q := 10) hX dc_M_byteOf_9 rfl (by decide) ?_
    refine ax_goto (tgt := 48) hX dc_M_byteOf_10 (by decide) ?_
    exact (e_M_byteOf_48 hX hF hS0  I R u0 (x1) (x2) (1) u0 hty hs0 hs0 rfl h)
def d_M_note_48 (S : ax_S) (I : ax_I) (R : ax_R) (u0 : Nat) (x1 : Int32) (x2 : Int32) (x3 : Int32) (y0 : Int32) (w1 : Nat) : Option (Int32 × ax_I) :=
  (some (ax_up I w1 0 (y0))).bind fun I16 =>
  if (I16 u0 0) ≤ 0 then
    (R u0 7).bind fun u19 =>
    (ax_ix S u19 (I16 u0 3)).bind fun j23 =>
    (R u0 15).bind fun u25 =>
    (ax_ix S u25 ((20 * (I16 u0 3)) + (I16 u19 j23))).bind fun j29 =>
    (some (ax_up I16 u25 j29 (x1))).bind fun I31 =>
    (R u0 16).bind fun u33 =>
    (ax_ix S u33 ((20 * (I16 u0 3)) + (I16 u19 j23))).bind fun j37 =>
    (some (ax_up I31 u33 j37 (x2))).bind fun I39 =>
    (R u0 17).bind fun u41 =>
    (ax_ix S u41 ((20 * (I16 u0 3)) + (I16 u19 j23))).bind fun j45 =>
    (some (ax_up I39 u41 j45 (x3))).bind fun I47 =>
    (R u0 7).bind fun u49 =>
    (ax_ix S u49 (I47 u0 3)).bind fun j53 =>
    (ax_ix S u49 (I47 u0 3)).bind fun j55 =>
    (some (ax_up I47 u49 j55 ((I47 u49 j53) + 1))).bind fun I57 =>
    (R u0 7).bind fun u59 =>
    (ax_ix S u59 (I57 u0 3)).bind fun j63 =>
    some (I57 u59 j63, I57)
  else
    some (0, I16)
set_option maxHeartbeats 1000000 in
theorem e_M_note_48 {l : Launch} {X : ax_X} {S : ax_S} {L : ax_L} {R0 : ax_R} {out : Int32 × ax_I} (hX : ax_ok X l "LossFreeToolsModel" b_M_note 5 (ax_rm 3 0 0)) (hF : ax_fin X (some .int) 0 0 (ax_of (ax_eq (some (.int out.1)) S out.2 R0 L))) (hS0 : ax_S0 X = S) : ∀ (I : ax_I) (R : ax_R) (u0 : Nat) (x1 : Int32) (x2 : Int32) (x3 : Int32) (y0 : Int32) (w1 : Nat), ax_typ S R → (S u0 = some (.inl 5)) → (S w1 = some (.inl 5)) → R = R0 → d_M_note_48 S  I R u0 x1 x2 x3 y0 w1 = some out → ax_W X 5 48 [some (.ref u0), some (.int (x1)), some (.int (x2)), some (.int (x3)), none] [.int (y0), .ref w1] S I R L 0 0 := by
  rintro I R u0 x1 x2 x3 y0 w1 hty hs0_ hw1_ hR0 h
  subst hR0
  unfold d_M_note_48 at h
  obtain ⟨I16, e17, h⟩ := ax_bs h
  refine ax_putI (q := 51) hX dc_M_note_48 rfl fl_M_68 rfl hw1_ (fun z => by cases z) rfl rfl e17 ?_
  refine ax_aload_n (q := 52) hX dc_M_note_51 rfl rfl rfl ?_
  refine ax_getI (q := 55) hX dc_M_note_52 rfl fl_M_68 rfl hs0_ ?_
  refine ax_if_le (tgt := 60) (q := 58) hX dc_M_note_55 rfl (by decide) (fun z18 => ?_) (fun z18 => ?_)
  · rw [if_pos z18] at h
    refine ax_bipush (v := 20) (q := 62) hX dc_M_note_60 rfl (by decide) ?_
    refine ax_aload_n (q := 63) hX dc_M_note_62 rfl rfl rfl ?_
    refine ax_getI (q := 66) hX dc_M_note_63 rfl fl_M_71 rfl hs0_ ?_
    refine ax_imul (q := 67) hX dc_M_note_66 rfl ?_
    refine ax_aload_n (q := 68) hX dc_M_note_67 rfl rfl rfl ?_
    obtain ⟨u19, hu20, h⟩ := ax_bd h
    obtain ⟨n22, hs21⟩ : ∃ n, S u19 = some (.inr (0, n)) := hty.1 _ _ _ _ hs0_ hu20
    refine ax_getR (q := 71) hX dc_M_note_68 rfl fl_M_19 rfl hs0_ hu20 ?_
    refine ax_aload_n (q := 72) hX dc_M_note_71 rfl rfl rfl ?_
    refine ax_getI (q := 75) hX dc_M_note_72 rfl fl_M_71 rfl hs0_ ?_
    obtain ⟨j23, hj24, h⟩ := ax_bd h
    have hj24 := ax_ix_s hty hs21 hj24
    refine ax_iald (q := 76) hX j23 dc_M_note_75 rfl hs21 hj24.1 hj24.2.1 hj24.2.2 ?_
    refine ax_iadd (q := 77) hX dc_M_note_76 rfl ?_
    refine ax_istore (ls' := [some (.ref u0), some (.int (x1)), some (.int (x2)), some (.int (x3)), some (.int ((20 * (I16 u0 3)) + (I16 u19 j23)))]) (q := 79) hX dc_M_note_77 rfl (by decide) rfl ?_
    refine ax_aload_n (q := 80) hX dc_M_note_79 rfl rfl rfl ?_
    obtain ⟨u25, hu26, h⟩ := ax_bd h
    obtain ⟨n28, hs27⟩ : ∃ n, S u25 = some (.inr (0, n)) := hty.1 _ _ _ _ hs0_ hu26
    refine ax_getR (q := 83) hX dc_M_note_80 rfl fl_M_43 rfl hs0_ hu26 ?_
    refine ax_iload (q := 85) hX dc_M_note_83 rfl rfl ?_
    refine ax_iload_n (q := 86) hX dc_M_note_85 rfl rfl rfl ?_
    obtain ⟨j29, hj30, h⟩ := ax_bd h
    have hj30 := ax_ix_s hty hs27 hj30
    obtain ⟨I31, e32, h⟩ := ax_bs h
    refine ax_iast (q := 87) hX j29 dc_M_note_86 rfl hs27 hj30.1 hj30.2.1 hj30.2.2 e32 ?_
    refine ax_aload_n (q := 88) hX dc_M_note_87 rfl rfl rfl ?_
    obtain ⟨u33, hu34, h⟩ := ax_bd h
    obtain ⟨n36, hs35⟩ : ∃ n, S u33 = some (.inr (0, n)) := hty.1 _ _ _ _ hs0_ hu34
    refine ax_getR (q := 91) hX dc_M_note_88 rfl fl_M_46 rfl hs0_ hu34 ?_
    refine ax_iload (q := 93) hX dc_M_note_91 rfl rfl ?_
    refine ax_iload_n (q := 94) hX dc_M_note_93 rfl rfl rfl ?_
    obtain ⟨j37, hj38, h⟩ := ax_bd h
    have hj38 := ax_ix_s hty hs35 hj38
    obtain ⟨I39, e40, h⟩ := ax_bs h
    refine ax_iast (q := 95) hX j37 dc_M_note_94 rfl hs35 hj38.1 hj38.2.1 hj38.2.2 e40 ?_
    refine ax_aload_n (q := 96) hX dc_M_note_95 rfl rfl rfl ?_
    obtain ⟨u41, hu42, h⟩ := ax_bd h
    obtain ⟨n44, hs43⟩ : ∃ n, S u41 = some (.inr (0, n)) := hty.1 _ _ _ _ hs0_ hu42
    refine ax_getR (q := 99) hX dc_M_note_96 rfl fl_M_49 rfl hs0_ hu42 ?_
    refine ax_iload (q := 101) hX dc_M_note_99 rfl rfl ?_
    refine ax_iload_n (q := 102) hX dc_M_note_101 rfl rfl rfl ?_
    obtain ⟨j45, hj46, h⟩ := ax_bd h
    have hj46 := ax_ix_s hty hs43 hj46
    obtain ⟨I47, e48, h⟩ := ax_bs h
    refine ax_iast (q := 103) hX j45 dc_M_note_102 rfl hs43 hj46.1 hj46.2.1 hj46.2.2 e48 ?_
    refine ax_aload_n (q := 104) hX dc_M_note_103 rfl rfl rfl ?_
    obtain ⟨u49, hu50, h⟩ := ax_bd h
    obtain ⟨n52, hs51⟩ : ∃ n, S u49 = some (.inr (0, n)) := hty.1 _ _ _ _ hs0_ hu50
    refine ax_getR (q := 107) hX dc_M_note_104 rfl fl_M_19 rfl hs0_ hu50 ?_
    refine ax_aload_n (q := 108) hX dc_M_note_107 rfl rfl rfl ?_
    refine ax_getI (q := 111) hX dc_M_note_108 rfl fl_M_71 rfl hs0_ ?_
    refine ax_dup2 (q := 112) hX dc_M_note_111 rfl rfl rfl ?_
    obtain ⟨j53, hj54, h⟩ := ax_bd h
    have hj54 := ax_ix_s hty hs51 hj54
    refine ax_iald (q := 113) hX j53 dc_M_note_112 rfl hs51 hj54.1 hj54.2.1 hj54.2.2 ?_
    refine ax_iconst (v := 1) (q := 114) hX dc_M_note_113 rfl (by decide) ?_
    refine ax_iadd (q := 115) hX dc_M_note_114 rfl ?_
    obtain ⟨j55, hj56, h⟩ := ax_bd h
    have hj56 := ax_ix_s hty hs51 hj56
    obtain ⟨I57, e58, h⟩ := ax_bs h
    refine ax_iast (q := 116) hX j55 dc_M_note_115 rfl hs51 hj56.1 hj56.2.1 hj56.2.2 e58 ?_
    refine ax_aload_n (q := 117) hX dc_M_note_116 rfl rfl rfl ?_
    obtain ⟨u59, hu60, h⟩ := ax_bd h
    obtain ⟨n62, hs61⟩ : ∃ n, S u59 = some (.inr (0, n)) := hty.1 _ _ _ _ hs0_ hu60
    refine ax_getR (q := 120) hX dc_M_note_117 rfl fl_M_19 rfl hs0_ hu60 ?_
    refine ax_aload_n (q := 121) hX dc_M_note_120 rfl rfl rfl ?_
    refine ax_getI (q := 124) hX dc_M_note_121 rfl fl_M_71 rfl hs0_ ?_
    obtain ⟨j63, hj64, h⟩ := ax_bd h
    have hj64 := ax_ix_s hty hs61 hj64
    refine ax_iald (q := 125) hX j63 dc_M_note_124 rfl hs61 hj64.1 hj64.2.1 hj64.2.2 ?_
    cases h
    exact ax_iret hX hF dc_M_note_125 rfl rfl (by decide) (by decide) ax_eq.mk (by rw [hS0]; exact fun _ _ z => z)
  · rw [if_neg z18] at h
    refine ax_iconst (v := 0) (q := 59) hX dc_M_note_58 rfl (by decide) ?_
    cases h
    exact ax_iret hX hF dc_M_note_59 rfl rfl (by decide) (by decide) ax_eq.mk (by rw [hS0]; exact fun _ _ z => z)
def d_M_note (S : ax_S) (I : ax_I) (R : ax_R) (u0 : Nat) (x1 : Int32) (x2 : Int32) (x3 : Int32) : Option (Int32 × ax_I) :=
  (d_M_isSample S I R u0 (x1) (x2)).bind fun r3 =>
  if (ax_b r3) = 0 then
    d_M_note_48 S  I R u0 (x1) (x2) (x3) (1) u0
  else
    (d_M_in S I R (x3) (0) (255)).bind fun r7 =>
    if (ax_b r7) = 0 then
      d_M_note_48 S  I R u0 (x1) (x2) (x3) (2) u0
    else
      (R u0 7).bind fun u9 =>
      (ax_ix S u9 (I u0 3)).bind fun j13 =>
      if (I u9 j13) = 20 then
        d_M_note_48 S  I R u0 (x1) (x2) (x3) (3) u0
      else
        d_M_note_48 S  I R u0 (x1) (x2) (x3) (0) u0
set_option maxHeartbeats 1000000 in
theorem c_M_note (l : Launch) {S : ax_S} {I : ax_I} {R : ax_R} {L : ax_L} {u0 : Nat} {x1 : Int32} {x2 : Int32} {x3 : Int32} {out : Int32 × ax_I} (hty : ax_typ S R) (hs0 : S u0 = some (.inl 5)) (h : d_M_note S I R u0 x1 x2 x3 = some out) : ax_Met l y_M_note b_M_note 5 (some .int) (ax_rm 3 0 0) [.ref u0, .int x1, .int x2, .int x3] S I R L (ax_eq (some (.int out.1)) S out.2 R L) := by
  refine ax_enter (own := "LossFreeToolsModel") (by decide +kernel) rfl (ax_cats rfl) (Nat.le_of_ble_eq_true rfl) (fun X hX hF _ hS0 => ?_)
  show ax_W X 5 0 [some (.ref u0), some (.int (x1)), some (.int (x2)), some (.int (x3)), none] [] S I R L 0 0
  unfold d_M_note at h
  refine ax_aload_n (q := 1) hX dc_M_note_0 rfl rfl rfl ?_
  refine ax_aload_n (q := 2) hX dc_M_note_1 rfl rfl rfl ?_
  refine ax_iload_n (q := 3) hX dc_M_note_2 rfl rfl rfl ?_
  refine ax_iload_n (q := 4) hX dc_M_note_3 rfl rfl rfl ?_
  obtain ⟨r3, hr1, h⟩ := ax_bd h
  refine ax_kV (vs := [.int (x1), .int (x2)]) (rest := [.ref u0]) (q := 7) hX dc_M_note_4 rfl mt_M_isSample wl_M_100 wi_M_isSample ws_M_isSample hs0 rfl (c_M_isSample l hty hs0 hr1) rfl (by decide) rfl (Nat.le_of_ble_eq_true rfl) rfl rfl (by decide) (by decide) rfl ?_
  refine ax_if_ne (tgt := 14) (q := 10) hX dc_M_note_7 rfl (by decide) (fun z4 => ?_) (fun z4 => ?_)
  · rw [if_neg z4] at h
    refine ax_iload_n (q := 15) hX dc_M_note_14 rfl rfl rfl ?_
    refine ax_iconst (v := 0) (q := 16) hX dc_M_note_15 rfl (by decide) ?_
    refine ax_sipush (v := 255) (q := 19) hX dc_M_note_16 rfl (by decide) ?_
    obtain ⟨r7, hr5, h⟩ := ax_bd h
    refine ax_kS (vs := [.int (x3), .int (0), .int (255)]) (rest := [.ref u0]) (q := 22) hX dc_M_note_19 rfl mt_M_in wl_M_84 wt_M_in (c_M_in l hty  hr5) rfl (by decide) rfl (Nat.le_of_ble_eq_true rfl) rfl rfl (by decide) (by decide) rfl ?_
    refine ax_if_ne (tgt := 29) (q := 25) hX dc_M_note_22 rfl (by decide) (fun z8 => ?_) (fun z8 => ?_)
    · rw [if_neg z8] at h
      refine ax_aload_n (q := 30) hX dc_M_note_29 rfl rfl rfl ?_
      obtain ⟨u9, hu10, h⟩ := ax_bd h
      obtain ⟨n12, hs11⟩ : ∃ n, S u9 = some (.inr (0, n)) := hty.1 _ _ _ _ hs0 hu10
      refine ax_getR (q := 33) hX dc_M_note_30 rfl fl_M_19 rfl hs0 hu10 ?_
      refine ax_aload_n (q := 34) hX dc_M_note_33 rfl rfl rfl ?_
      refine ax_getI (q := 37) hX dc_M_note_34 rfl fl_M_71 rfl hs0 ?_
      obtain ⟨j13, hj14, h⟩ := ax_bd h
      have hj14 := ax_ix_s hty hs11 hj14
      refine ax_iald (q := 38) hX j13 dc_M_note_37 rfl hs11 hj14.1 hj14.2.1 hj14.2.2 ?_
      refine ax_bipush (v := 20) (q := 40) hX dc_M_note_38 rfl (by decide) ?_
      refine ax_icmp_ne (tgt := 47) (q := 43) hX dc_M_note_40 rfl (by decide) (fun z15 => ?_) (fun z15 => ?_)
      · rw [if_neg z15] at h
        refine ax_iconst (v := 0) (q := 48) hX dc_M_note_47 rfl (by decide) ?_
        exact (e_M_note_48 hX hF hS0  I R u0 (x1) (x2) (x3) (0) u0 hty hs0 hs0 rfl h)
      · rw [if_pos z15] at h
        refine ax_iconst (v := 3) (q := 44) hX dc_M_note_43 rfl (by decide) ?_
        refine ax_goto (tgt := 48) hX dc_M_note_44 (by decide) ?_
        exact (e_M_note_48 hX hF hS0  I R u0 (x1) (x2) (x3) (3) u0 hty hs0 hs0 rfl h)
    · rw [if_pos z8] at h
      refine ax_iconst (v := 2) (q := 26) hX dc_M_note_25 rfl (by decide) ?_
      refine ax_goto (tgt := 48) hX dc_M_note_26 (by decide) ?_
      exact (e_M_note_48 hX hF hS0  I R u0 (x1) (x2) (x3) (2) u0 hty hs0 hs0 rfl h)
  · rw [if_pos z4] at h
    refine ax_iconst (v := 1) (q := 11) hX dc_M_note_10 rfl (by decide) ?_
    refine ax_goto (tgt := 48) hX dc_M_note_11 (by decide) ?_
    exact (e_M_note_48 hX hF hS0  I R u0 (x1) (x2) (x3) (1) u0 hty hs0 hs0 rfl h)
def d_M_nearest_100 (S : ax_S) (rec32 : ax_I → ax_R → Nat → Int32 → Int32 → Int32 → Int32 → Int32 → Option (Int32)) (I : ax_I) (R : ax_R) (u0 : Nat) (x1 : Int32) (x2 : Int32) (x3 : Int32) (x5 : Int32) (y0 : Int32) : Option (Int32) :=
  rec32 I R u0 (x1) (x2) (x3) (y0) (x5 + 1)
set_option maxHeartbeats 1000000 in
theorem e_M_nearest_100 {l : Launch} {X : ax_X} {S : ax_S} {L : ax_L} {I0 : ax_I} {R0 : ax_R} {out : Int32} (hX : ax_ok X l "LossFreeToolsModel" b_M_nearest 8 (ax_rm 3 0 0)) (hF : ax_fin X (some .int) 0 0 (ax_of (ax_eq (some (.int out)) S I0 R0 L))) (hS0 : ax_S0 X = S) (rec32 : ax_I → ax_R → Nat → Int32 → Int32 → Int32 → Int32 → Int32 → Option (Int32)) (hrec32 : ∀ (I : ax_I) (R : ax_R) (u0 : Nat) (x1 : Int32) (x2 : Int32) (x3 : Int32) (x4 : Int32) (x5 : Int32), ax_typ S R → (S u0 = some (.inl 5)) → I = I0 → R = R0 → rec32 I R u0 x1 x2 x3 x4 x5 = some out → ax_W X 8 32 [some (.ref u0), some (.int (x1)), some (.int (x2)), some (.int (x3)), some (.int (x4)), some (.int (x5)), none, none] [] S I R L 0 0) : ∀ (I : ax_I) (R : ax_R) (u0 : Nat) (x1 : Int32) (x2 : Int32) (x3 : Int32) (x5 : Int32) (y0 : Int32), ax_typ S R → (S u0 = some (.inl 5)) → I = I0 → R = R0 → d_M_nearest_100 S rec32 I R u0 x1 x2 x3 x5 y0 = some out → ax_W X 8 100 [some (.ref u0), some (.int (x1)), some (.int (x2)), some (.int (x3)), none, some (.int (x5)), none, none] [.int (y0)] S I R L 0 0 := by
  rintro I R u0 x1 x2 x3 x5 y0 hty hs0_ hI0 hR0 h
  subst hI0
  subst hR0
  unfold d_M_nearest_100 at h
  refine ax_istore (ls' := [some (.ref u0), some (.int (x1)), some (.int (x2)), some (.int (x3)), some (.int (y0)), some (.int (x5)), none, none]) (q := 102) hX dc_M_nearest_100 rfl (by decide) rfl ?_
  refine ax_iinc (v := x5 + 1) (ls' := [some (.ref u0), some (.int (x1)), some (.int (x2)), some (.int (x3)), some (.int (y0)), some (.int (x5 + 1)), none, none]) (q := 105) hX dc_M_nearest_102 rfl rfl rfl (by decide) rfl ?_
  refine ax_goto (tgt := 32) hX dc_M_nearest_105 (by decide) ?_
  exact (hrec32 I R u0 (x1) (x2) (x3) (y0) (x5 + 1) hty hs0_ rfl rfl h)
def d_M_nearest_98 (S : ax_S) (rec32 : ax_I → ax_R → Nat → Int32 → Int32 → Int32 → Int32 → Int32 → Option (Int32)) (I : ax_I) (R : ax_R) (u0 : Nat) (x1 : Int32) (x2 : Int32) (x3 : Int32) (x4 : Int32) (x5 : Int32) : Option (Int32) :=
  d_M_nearest_100 S (rec32) I R u0 (x1) (x2) (x3) (x5) (x4)
set_option maxHeartbeats 1000000 in
theorem e_M_nearest_98 {l : Launch} {X : ax_X} {S : ax_S} {L : ax_L} {I0 : ax_I} {R0 : ax_R} {out : Int32} (hX : ax_ok X l "LossFreeToolsModel" b_M_nearest 8 (ax_rm 3 0 0)) (hF : ax_fin X (some .int) 0 0 (ax_of (ax_eq (some (.int out)) S I0 R0 L))) (hS0 : ax_S0 X = S) (rec32 : ax_I → ax_R → Nat → Int32 → Int32 → Int32 → Int32 → Int32 → Option (Int32)) (hrec32 : ∀ (I : ax_I) (R : ax_R) (u0 : Nat) (x1 : Int32) (x2 : Int32) (x3 : Int32) (x4 : Int32) (x5 : Int32), ax_typ S R → (S u0 = some (.inl 5)) → I = I0 → R = R0 → rec32 I R u0 x1 x2 x3 x4 x5 = some out → ax_W X 8 32 [some (.ref u0), some (.int (x1)), some (.int (x2)), some (.int (x3)), some (.int (x4)), some (.int (x5)), none, none] [] S I R L 0 0) : ∀ (I : ax_I) (R : ax_R) (u0 : Nat) (x1 : Int32) (x2 : Int32) (x3 : Int32) (x4 : Int32) (x5 : Int32), ax_typ S R → (S u0 = some (.inl 5)) → I = I0 → R = R0 → d_M_nearest_98 S rec32 I R u0 x1 x2 x3 x4 x5 = some out → ax_W X 8 98 [some (.ref u0), some (.int (x1)), some (.int (x2)), some (.int (x3)), some (.int (x4)), some (.int (x5)), none, none] [] S I R L 0 0 := by
  rintro I R u0 x1 x2 x3 x4 x5 hty hs0_ hI0 hR0 h
  subst hI0
  subst hR0
  unfold d_M_nearest_98 at h
  refine ax_iload (q := 100) hX dc_M_nearest_98 rfl rfl ?_
  exact ax_weak (ls' := [some (.ref u0), some (.int (x1)), some (.int (x2)), some (.int (x3)), none, some (.int (x5)), none, none]) (ax_fewP_s _ _ (by repeat (first | exact trivial | (refine And.intro rfl ?_)))) (e_M_nearest_100 hX hF hS0 (rec32) (hrec32) I R u0 (x1) (x2) (x3) (x5) (x4) hty hs0_ rfl rfl h)
def d_M_nearest_74 (S : ax_S) (rec32 : ax_I → ax_R → Nat → Int32 → Int32 → Int32 → Int32 → Int32 → Option (Int32)) (I : ax_I) (R : ax_R) (u0 : Nat) (x1 : Int32) (x2 : Int32) (x3 : Int32) (x4 : Int32) (x5 : Int32) (x6 : Int32) (y0 : Int32) : Option (Int32) :=
  (d_M_fits S I R u0 (x1) (x5)).bind fun r19 =>
  if (ax_b r19) = 0 then
    d_M_nearest_98 S (rec32) I R u0 (x1) (x2) (x3) (x4) (x5)
  else
    if y0 ≤ x6 then
      d_M_nearest_98 S (rec32) I R u0 (x1) (x2) (x3) (x4) (x5)
    else
      d_M_nearest_100 S (rec32) I R u0 (x1) (x2) (x3) (x5) (x5)
set_option maxHeartbeats 1000000 in
theorem e_M_nearest_74 {l : Launch} {X : ax_X} {S : ax_S} {L : ax_L} {I0 : ax_I} {R0 : ax_R} {out : Int32} (hX : ax_ok X l "LossFreeToolsModel" b_M_nearest 8 (ax_rm 3 0 0)) (hF : ax_fin X (some .int) 0 0 (ax_of (ax_eq (some (.int out)) S I0 R0 L))) (hS0 : ax_S0 X = S) (rec32 : ax_I → ax_R → Nat → Int32 → Int32 → Int32 → Int32 → Int32 → Option (Int32)) (hrec32 : ∀ (I : ax_I) (R : ax_R) (u0 : Nat) (x1 : Int32) (x2 : Int32) (x3 : Int32) (x4 : Int32) (x5 : Int32), ax_typ S R → (S u0 = some (.inl 5)) → I = I0 → R = R0 → rec32 I R u0 x1 x2 x3 x4 x5 = some out → ax_W X 8 32 [some (.ref u0), some (.int (x1)), some (.int (x2)), some (.int (x3)), some (.int (x4)), some (.int (x5)), none, none] [] S I R L 0 0) : ∀ (I : ax_I) (R : ax_R) (u0 : Nat) (x1 : Int32) (x2 : Int32) (x3 : Int32) (x4 : Int32) (x5 : Int32) (x6 : Int32) (y0 : Int32), ax_typ S R → (S u0 = some (.inl 5)) → I = I0 → R = R0 → d_M_nearest_74 S rec32 I R u0 x1 x2 x3 x4 x5 x6 y0 = some out → ax_W X 8 74 [some (.ref u0), some (.int (x1)), some (.int (x2)), some (.int (x3)), some (.int (x4)), some (.int (x5)), some (.int (x6)), none] [.int (y0)] S I R L 0 0 := by
  rintro I R u0 x1 x2 x3 x4 x5 x6 y0 hty hs0_ hI0 hR0 h
  subst hI0
  subst hR0
  unfold d_M_nearest_74 at h
  refine ax_istore (ls' := [some (.ref u0), some (.int (x1)), some (.int (x2)), some (.int (x3)), some (.int (x4)), some (.int (x5)), some (.int (x6)), some (.int (y0))]) (q := 76) hX dc_M_nearest_74 rfl (by decide) rfl ?_
  refine ax_aload_n (q := 77) hX dc_M_nearest_76 rfl rfl rfl ?_
  refine ax_iload_n (q := 78) hX dc_M_nearest_77 rfl rfl rfl ?_
  refine ax_iload (q := 80) hX dc_M_nearest_78 rfl rfl ?_
  obtain ⟨r19, hr17, h⟩ := ax_bd h
  refine ax_kV (vs := [.int (x1), .int (x5)]) (rest := []) (q := 83) hX dc_M_nearest_80 rfl mt_M_fits wl_M_104 wi_M_fits ws_M_fits hs0_ rfl (c_M_fits l hty hs0_ hr17) rfl (by decide) rfl (Nat.le_of_ble_eq_true rfl) rfl rfl (by decide) (by decide) rfl ?_
  refine ax_if_eq (tgt := 98) (q := 86) hX dc_M_nearest_83 rfl (by decide) (fun z20 => ?_) (fun z20 => ?_)
  · rw [if_pos z20] at h
    exact ax_weak (ls' := [some (.ref u0), some (.int (x1)), some (.int (x2)), some (.int (x3)), some (.int (x4)), some (.int (x5)), none, none]) (ax_fewP_s _ _ (by repeat (first | exact trivial | (refine And.intro rfl ?_)))) (e_M_nearest_98 hX hF hS0 (rec32) (hrec32) I R u0 (x1) (x2) (x3) (x4) (x5) hty hs0_ rfl rfl h)
  · rw [if_neg z20] at h
    refine ax_iload (q := 88) hX dc_M_nearest_86 rfl rfl ?_
    refine ax_iload (q := 90) hX dc_M_nearest_88 rfl rfl ?_
    refine ax_icmp_ge (tgt := 98) (q := 93) hX dc_M_nearest_90 rfl (by decide) (fun z21 => ?_) (fun z21 => ?_)
    · rw [if_pos z21] at h
      exact ax_weak (ls' := [some (.ref u0), some (.int (x1)), some (.int (x2)), some (.int (x3)), some (.int (x4)), some (.int (x5)), none, none]) (ax_fewP_s _ _ (by repeat (first | exact trivial | (refine And.intro rfl ?_)))) (e_M_nearest_98 hX hF hS0 (rec32) (hrec32) I R u0 (x1) (x2) (x3) (x4) (x5) hty hs0_ rfl rfl h)
    · rw [if_neg z21] at h
      refine ax_iload (q := 95) hX dc_M_nearest_93 rfl rfl ?_
      refine ax_goto (tgt := 100) hX dc_M_nearest_95 (by decide) ?_
      exact ax_weak (ls' := [some (.ref u0), some (.int (x1)), some (.int (x2)), some (.int (x3)), none, some (.int (x5)), none, none]) (ax_fewP_s _ _ (by repeat (first | exact trivial | (refine And.intro rfl ?_)))) (e_M_nearest_100 hX hF hS0 (rec32) (hrec32) I R u0 (x1) (x2) (x3) (x5) (x5) hty hs0_ rfl rfl h)
def d_M_nearest_55 (S : ax_S) (rec32 : ax_I → ax_R → Nat → Int32 → Int32 → Int32 → Int32 → Int32 → Option (Int32)) (I : ax_I) (R : ax_R) (u0 : Nat) (x1 : Int32) (x2 : Int32) (x3 : Int32) (x4 : Int32) (x5 : Int32) (y0 : Int32) : Option (Int32) :=
  if x2 ≤ x4 then
    d_M_nearest_74 S (rec32) I R u0 (x1) (x2) (x3) (x4) (x5) (y0) (x4 - x2)
  else
    d_M_nearest_74 S (rec32) I R u0 (x1) (x2) (x3) (x4) (x5) (y0) (x2 - x4)
set_option maxHeartbeats 1000000 in
theorem e_M_nearest_55 {l : Launch} {X : ax_X} {S : ax_S} {L : ax_L} {I0 : ax_I} {R0 : ax_R} {out : Int32} (hX : ax_ok X l "LossFreeToolsModel" b_M_nearest 8 (ax_rm 3 0 0)) (hF : ax_fin X (some .int) 0 0 (ax_of (ax_eq (some (.int out)) S I0 R0 L))) (hS0 : ax_S0 X = S) (rec32 : ax_I → ax_R → Nat → Int32 → Int32 → Int32 → Int32 → Int32 → Option (Int32)) (hrec32 : ∀ (I : ax_I) (R : ax_R) (u0 : Nat) (x1 : Int32) (x2 : Int32) (x3 : Int32) (x4 : Int32) (x5 : Int32), ax_typ S R → (S u0 = some (.inl 5)) → I = I0 → R = R0 → rec32 I R u0 x1 x2 x3 x4 x5 = some out → ax_W X 8 32 [some (.ref u0), some (.int (x1)), some (.int (x2)), some (.int (x3)), some (.int (x4)), some (.int (x5)), none, none] [] S I R L 0 0) : ∀ (I : ax_I) (R : ax_R) (u0 : Nat) (x1 : Int32) (x2 : Int32) (x3 : Int32) (x4 : Int32) (x5 : Int32) (y0 : Int32), ax_typ S R → (S u0 = some (.inl 5)) → I = I0 → R = R0 → d_M_nearest_55 S rec32 I R u0 x1 x2 x3 x4 x5 y0 = some out → ax_W X 8 55 [some (.ref u0), some (.int (x1)), some (.int (x2)), some (.int (x3)), some (.int (x4)), some (.int (x5)), none, none] [.int (y0)] S I R L 0 0 := by
  rintro I R u0 x1 x2 x3 x4 x5 y0 hty hs0_ hI0 hR0 h
  subst hI0
  subst hR0
  unfold d_M_nearest_55 at h
  refine ax_istore (ls' := [some (.ref u0), some (.int (x1)), some (.int (x2)), some (.int (x3)), some (.int (x4)), some (.int (x5)), some (.int (y0)), none]) (q := 57) hX dc_M_nearest_55 rfl (by decide) rfl ?_
  refine ax_iload (q := 59) hX dc_M_nearest_57 rfl rfl ?_
  refine ax_iload_n (q := 60) hX dc_M_nearest_59 rfl rfl rfl ?_
  refine ax_icmp_ge (tgt := 70) (q := 63) hX dc_M_nearest_60 rfl (by decide) (fun z16 => ?_) (fun z16 => ?_)
  · rw [if_pos z16] at h
    refine ax_iload (q := 72) hX dc_M_nearest_70 rfl rfl ?_
    refine ax_iload_n (q := 73) hX dc_M_nearest_72 rfl rfl rfl ?_
    refine ax_isub (q := 74) hX dc_M_nearest_73 rfl ?_
    exact (e_M_nearest_74 hX hF hS0 (rec32) (hrec32) I R u0 (x1) (x2) (x3) (x4) (x5) (y0) (x4 - x2) hty hs0_ rfl rfl h)
  · rw [if_neg z16] at h
    refine ax_iload_n (q := 64) hX dc_M_nearest_63 rfl rfl rfl ?_
    refine ax_iload (q := 66) hX dc_M_nearest_64 rfl rfl ?_
    refine ax_isub (q := 67) hX dc_M_nearest_66 rfl ?_
    refine ax_goto (tgt := 74) hX dc_M_nearest_67 (by decide) ?_
    exact (e_M_nearest_74 hX hF hS0 (rec32) (hrec32) I R u0 (x1) (x2) (x3) (x4) (x5) (y0) (x2 - x4) hty hs0_ rfl rfl h)
def d_M_nearest_32 (S : ax_S) : Nat → ax_I → ax_R → Nat → Int32 → Int32 → Int32 → Int32 → Int32 → Option (Int32)
  | 0, _, _, _, _, _, _, _, _ => none
  | n + 1, I, R, u0, x1, x2, x3, x4, x5 =>
    if x3 < x5 then
      some (x4)
    else
      if x2 ≤ x5 then
        d_M_nearest_55 S (d_M_nearest_32 S  n) I R u0 (x1) (x2) (x3) (x4) (x5) (x5 - x2)
      else
        d_M_nearest_55 S (d_M_nearest_32 S  n) I R u0 (x1) (x2) (x3) (x4) (x5) (x2 - x5)
set_option maxHeartbeats 1000000 in
theorem e_M_nearest_32 {l : Launch} {X : ax_X} {S : ax_S} {L : ax_L} {I0 : ax_I} {R0 : ax_R} {out : Int32} (hX : ax_ok X l "LossFreeToolsModel" b_M_nearest 8 (ax_rm 3 0 0)) (hF : ax_fin X (some .int) 0 0 (ax_of (ax_eq (some (.int out)) S I0 R0 L))) (hS0 : ax_S0 X = S) : ∀ (n : Nat), ∀ (I : ax_I) (R : ax_R) (u0 : Nat) (x1 : Int32) (x2 : Int32) (x3 : Int32) (x4 : Int32) (x5 : Int32), ax_typ S R → (S u0 = some (.inl 5)) → I = I0 → R = R0 → d_M_nearest_32 S  n I R u0 x1 x2 x3 x4 x5 = some out → ax_W X 8 32 [some (.ref u0), some (.int (x1)), some (.int (x2)), some (.int (x3)), some (.int (x4)), some (.int (x5)), none, none] [] S I R L 0 0 := by
  intro n
  induction n with
  | zero =>
    rintro I R u0 x1 x2 x3 x4 x5 hty hs0_ hI0 hR0 h
    cases h
  | succ n ih =>
    rintro I R u0 x1 x2 x3 x4 x5 hty hs0_ hI0 hR0 h
    subst hI0
    subst hR0
    unfold d_M_nearest_32 at h
    refine ax_iload (q := 34) hX dc_M_nearest_32 rfl rfl ?_
    refine ax_iload_n (q := 35) hX dc_M_nearest_34 rfl rfl rfl ?_
    refine ax_icmp_gt (tgt := 108) (q := 38) hX dc_M_nearest_35 rfl (by decide) (fun z14 => ?_) (fun z14 => ?_)
    · rw [if_pos z14] at h
      refine ax_iload (q := 110) hX dc_M_nearest_108 rfl rfl ?_
      cases h
      exact ax_iret hX hF dc_M_nearest_110 rfl rfl (by decide) (by decide) ax_eq.mk (by rw [hS0]; exact fun _ _ z => z)
    · rw [if_neg z14] at h
      refine ax_iload (q := 40) hX dc_M_nearest_38 rfl rfl ?_
      refine ax_iload_n (q := 41) hX dc_M_nearest_40 rfl rfl rfl ?_
      refine ax_icmp_ge (tgt := 51) (q := 44) hX dc_M_nearest_41 rfl (by decide) (fun z15 => ?_) (fun z15 => ?_)
      · rw [if_pos z15] at h
        refine ax_iload (q := 53) hX dc_M_nearest_51 rfl rfl ?_
        refine ax_iload_n (q := 54) hX dc_M_nearest_53 rfl rfl rfl ?_
        refine ax_isub (q := 55) hX dc_M_nearest_54 rfl ?_
        exact (e_M_nearest_55 hX hF hS0 (d_M_nearest_32 S  n) (ih) I R u0 (x1) (x2) (x3) (x4) (x5) (x5 - x2) hty hs0_ rfl rfl h)
      · rw [if_neg z15] at h
        refine ax_iload_n (q := 45) hX dc_M_nearest_44 rfl rfl rfl ?_
        refine ax_iload (q := 47) hX dc_M_nearest_45 rfl rfl ?_
        refine ax_isub (q := 48) hX dc_M_nearest_47 rfl ?_
        refine ax_goto (tgt := 55) hX dc_M_nearest_48 (by decide) ?_
        exact (e_M_nearest_55 hX hF hS0 (d_M_nearest_32 S  n) (ih) I R u0 (x1) (x2) (x3) (x4) (x5) (x2 - x5) hty hs0_ rfl rfl h)
def d_M_nearest_25 (S : ax_S) (I : ax_I) (R : ax_R) (u0 : Nat) (x1 : Int32) (x2 : Int32) (y0 : Int32) : Option (Int32) :=
  d_M_nearest_32 S  5000 I R u0 (x1) (x2) (y0) (0) (0)
set_option maxHeartbeats 1000000 in
theorem e_M_nearest_25 {l : Launch} {X : ax_X} {S : ax_S} {L : ax_L} {I0 : ax_I} {R0 : ax_R} {out : Int32} (hX : ax_ok X l "LossFreeToolsModel" b_M_nearest 8 (ax_rm 3 0 0)) (hF : ax_fin X (some .int) 0 0 (ax_of (ax_eq (some (.int out)) S I0 R0 L))) (hS0 : ax_S0 X = S) : ∀ (I : ax_I) (R : ax_R) (u0 : Nat) (x1 : Int32) (x2 : Int32) (y0 : Int32), ax_typ S R → (S u0 = some (.inl 5)) → I = I0 → R = R0 → d_M_nearest_25 S  I R u0 x1 x2 y0 = some out → ax_W X 8 25 [some (.ref u0), some (.int (x1)), some (.int (x2)), none, none, none, none, none] [.int (y0)] S I R L 0 0 := by
  rintro I R u0 x1 x2 y0 hty hs0_ hI0 hR0 h
  subst hI0
  subst hR0
  unfold d_M_nearest_25 at h
  refine ax_istore_n (ls' := [some (.ref u0), some (.int (x1)), some (.int (x2)), some (.int (y0)), none, none, none, none]) (q := 26) hX dc_M_nearest_25 rfl rfl (by decide) rfl ?_
  refine ax_iconst (v := 0) (q := 27) hX dc_M_nearest_26 rfl (by decide) ?_
  refine ax_istore (ls' := [some (.ref u0), some (.int (x1)), some (.int (x2)), some (.int (y0)), some (.int (0)), none, none, none]) (q := 29) hX dc_M_nearest_27 rfl (by decide) rfl ?_
  refine ax_iconst (v := 0) (q := 30) hX dc_M_nearest_29 rfl (by decide) ?_
  refine ax_istore (ls' := [some (.ref u0), some (.int (x1)), some (.int (x2)), some (.int (y0)), some (.int (0)), some (.int (0)), none, none]) (q := 32) hX dc_M_nearest_30 rfl (by decide) rfl ?_
  exact (e_M_nearest_32 hX hF hS0  5000 I R u0 (x1) (x2) (y0) (0) (0) hty hs0_ rfl rfl h)
def d_M_nearest (S : ax_S) (I : ax_I) (R : ax_R) (u0 : Nat) (x1 : Int32) (x2 : Int32) : Option (Int32) :=
  if x1 = 0 then
    (R u0 5).bind fun u2 =>
    (ax_ix S u2 (I u0 3)).bind fun j6 =>
    d_M_nearest_25 S  I R u0 (x1) (x2) (I u2 j6)
  else
    (R u0 4).bind fun u8 =>
    (ax_ix S u8 (I u0 3)).bind fun j12 =>
    d_M_nearest_25 S  I R u0 (x1) (x2) (I u8 j12)
set_option maxHeartbeats 1000000 in
theorem c_M_nearest (l : Launch) {S : ax_S} {I : ax_I} {R : ax_R} {L : ax_L} {u0 : Nat} {x1 : Int32} {x2 : Int32} {out : Int32} (hty : ax_typ S R) (hs0 : S u0 = some (.inl 5)) (h : d_M_nearest S I R u0 x1 x2 = some out) : ax_Met l y_M_nearest b_M_nearest 8 (some .int) (ax_rm 3 0 0) [.ref u0, .int x1, .int x2] S I R L (ax_eq (some (.int out)) S I R L) := by
  refine ax_enter (own := "LossFreeToolsModel") (by decide +kernel) rfl (ax_cats rfl) (Nat.le_of_ble_eq_true rfl) (fun X hX hF _ hS0 => ?_)
  show ax_W X 8 0 [some (.ref u0), some (.int (x1)), some (.int (x2)), none, none, none, none, none] [] S I R L 0 0
  unfold d_M_nearest at h
  refine ax_iload_n (q := 1) hX dc_M_nearest_0 rfl rfl rfl ?_
  refine ax_if_eq (tgt := 16) (q := 4) hX dc_M_nearest_1 rfl (by decide) (fun z1 => ?_) (fun z1 => ?_)
  · rw [if_pos z1] at h
    refine ax_aload_n (q := 17) hX dc_M_nearest_16 rfl rfl rfl ?_
    obtain ⟨u2, hu3, h⟩ := ax_bd h
    obtain ⟨n5, hs4⟩ : ∃ n, S u2 = some (.inr (0, n)) := hty.1 _ _ _ _ hs0 hu3
    refine ax_getR (q := 20) hX dc_M_nearest_17 rfl fl_M_13 rfl hs0 hu3 ?_
    refine ax_aload_n (q := 21) hX dc_M_nearest_20 rfl rfl rfl ?_
    refine ax_getI (q := 24) hX dc_M_nearest_21 rfl fl_M_71 rfl hs0 ?_
    obtain ⟨j6, hj7, h⟩ := ax_bd h
    have hj7 := ax_ix_s hty hs4 hj7
    refine ax_iald (q := 25) hX j6 dc_M_nearest_24 rfl hs4 hj7.1 hj7.2.1 hj7.2.2 ?_
    exact (e_M_nearest_25 hX hF hS0  I R u0 (x1) (x2) (I u2 j6) hty hs0 rfl rfl h)
  · rw [if_neg z1] at h
    refine ax_aload_n (q := 5) hX dc_M_nearest_4 rfl rfl rfl ?_
    obtain ⟨u8, hu9, h⟩ := ax_bd h
    obtain ⟨n11, hs10⟩ : ∃ n, S u8 = some (.inr (0, n)) := hty.1 _ _ _ _ hs0 hu9
    refine ax_getR (q := 8) hX dc_M_nearest_5 rfl fl_M_7 rfl hs0 hu9 ?_
    refine ax_aload_n (q := 9) hX dc_M_nearest_8 rfl rfl rfl ?_
    refine ax_getI (q := 12) hX dc_M_nearest_9 rfl fl_M_71 rfl hs0 ?_
    obtain ⟨j12, hj13, h⟩ := ax_bd h
    have hj13 := ax_ix_s hty hs10 hj13
    refine ax_iald (q := 13) hX j12 dc_M_nearest_12 rfl hs10 hj13.1 hj13.2.1 hj13.2.2 ?_
    refine ax_goto (tgt := 25) hX dc_M_nearest_13 (by decide) ?_
    exact (e_M_nearest_25 hX hF hS0  I R u0 (x1) (x2) (I u8 j12) hty hs0 rfl rfl h)
def d_M_turn_422 (S : ax_S) (I : ax_I) (R : ax_R) (u0 : Nat) (x1 : Int32) (y0 : Int32) (y1 : Int32) (w2 : Nat) : Option (Int32 × ax_I) :=
  (ax_ix S w2 (y1)).bind fun j207 =>
  (some (ax_up I w2 j207 (y0))).bind fun I209 =>
  (d_M_both S I209 R (I209 u0 18) (x1)).bind fun r213 =>
  (some (ax_up I209 u0 18 (r213))).bind fun I214 =>
  (some (ax_up I214 u0 19 (0))).bind fun I216 =>
  some (I216 u0 18, I216)
set_option maxHeartbeats 1000000 in
theorem e_M_turn_422 {l : Launch} {X : ax_X} {S : ax_S} {L : ax_L} {R0 : ax_R} {out : Int32 × ax_I} (hX : ax_ok X l "LossFreeToolsModel" b_M_turn 9 (ax_rm 3 0 0)) (hF : ax_fin X (some .int) 0 0 (ax_of (ax_eq (some (.int out.1)) S out.2 R0 L))) (hS0 : ax_S0 X = S) : ∀ (I : ax_I) (R : ax_R) (u0 : Nat) (x1 : Int32) (y0 : Int32) (y1 : Int32) (w2 : Nat), ax_typ S R → (S u0 = some (.inl 5)) → (∃ n, S w2 = some (.inr (0, n))) → R = R0 → d_M_turn_422 S  I R u0 x1 y0 y1 w2 = some out → ax_W X 9 422 [some (.ref u0), some (.int (x1)), none, none, none, none, none, none, none] [.int (y0), .int (y1), .ref w2] S I R L 0 0 := by
  rintro I R u0 x1 y0 y1 w2 hty hs0_ ⟨nw2_, hw2_⟩ hR0 h
  subst hR0
  unfold d_M_turn_422 at h
  obtain ⟨j207, hj208, h⟩ := ax_bd h
  have hj208 := ax_ix_s hty hw2_ hj208
  obtain ⟨I209, e210, h⟩ := ax_bs h
  refine ax_iast (q := 423) hX j207 dc_M_turn_422 rfl hw2_ hj208.1 hj208.2.1 hj208.2.2 e210 ?_
  refine ax_aload_n (q := 424) hX dc_M_turn_423 rfl rfl rfl ?_
  refine ax_aload_n (q := 425) hX dc_M_turn_424 rfl rfl rfl ?_
  refine ax_getI (q := 428) hX dc_M_turn_425 rfl fl_M_74 rfl hs0_ ?_
  refine ax_iload_n (q := 429) hX dc_M_turn_428 rfl rfl rfl ?_
  obtain ⟨r213, hr211, h⟩ := ax_bd h
  refine ax_kS (vs := [.int (I209 u0 18), .int (x1)]) (rest := [.ref u0]) (q := 432) hX dc_M_turn_429 rfl mt_M_both wl_M_126 wt_M_both (c_M_both l hty  hr211) rfl (by decide) rfl (Nat.le_of_ble_eq_true rfl) rfl rfl (by decide) (by decide) rfl ?_
  obtain ⟨I214, e215, h⟩ := ax_bs h
  refine ax_putI (q := 435) hX dc_M_turn_432 rfl fl_M_74 rfl hs0_ (fun z => by cases z) rfl rfl e215 ?_
  refine ax_aload_n (q := 436) hX dc_M_turn_435 rfl rfl rfl ?_
  refine ax_iconst (v := 0) (q := 437) hX dc_M_turn_436 rfl (by decide) ?_
  obtain ⟨I216, e217, h⟩ := ax_bs h
  refine ax_putI (q := 440) hX dc_M_turn_437 rfl fl_M_77 rfl hs0_ (fun z => by cases z) rfl rfl e217 ?_
  refine ax_aload_n (q := 441) hX dc_M_turn_440 rfl rfl rfl ?_
  refine ax_getI (q := 444) hX dc_M_turn_441 rfl fl_M_74 rfl hs0_ ?_
  cases h
  exact ax_iret hX hF dc_M_turn_444 rfl rfl (by decide) (by decide) ax_eq.mk (by rw [hS0]; exact fun _ _ z => z)
def d_M_turn_401 (S : ax_S) (I : ax_I) (R : ax_R) (u0 : Nat) (x1 : Int32) (x2 : Int32) (x3 : Int32) (y0 : Int32) (y1 : Int32) (w2 : Nat) : Option (Int32 × ax_I) :=
  (ax_ix S w2 (y1)).bind fun j195 =>
  (some (ax_up I w2 j195 (y0))).bind fun I197 =>
  (R u0 5).bind fun u199 =>
  (d_M_isTurned S I197 R (x1)).bind fun r205 =>
  if (ax_b r205) = 0 then
    d_M_turn_422 S  I197 R u0 (x1) (x3) (I197 u0 3) u199
  else
    d_M_turn_422 S  I197 R u0 (x1) (x2) (I197 u0 3) u199
set_option maxHeartbeats 1000000 in
theorem e_M_turn_401 {l : Launch} {X : ax_X} {S : ax_S} {L : ax_L} {R0 : ax_R} {out : Int32 × ax_I} (hX : ax_ok X l "LossFreeToolsModel" b_M_turn 9 (ax_rm 3 0 0)) (hF : ax_fin X (some .int) 0 0 (ax_of (ax_eq (some (.int out.1)) S out.2 R0 L))) (hS0 : ax_S0 X = S) : ∀ (I : ax_I) (R : ax_R) (u0 : Nat) (x1 : Int32) (x2 : Int32) (x3 : Int32) (y0 : Int32) (y1 : Int32) (w2 : Nat), ax_typ S R → (S u0 = some (.inl 5)) → (∃ n, S w2 = some (.inr (0, n))) → R = R0 → d_M_turn_401 S  I R u0 x1 x2 x3 y0 y1 w2 = some out → ax_W X 9 401 [some (.ref u0), some (.int (x1)), some (.int (x2)), some (.int (x3)), none, none, none, none, none] [.int (y0), .int (y1), .ref w2] S I R L 0 0 := by
  rintro I R u0 x1 x2 x3 y0 y1 w2 hty hs0_ ⟨nw2_, hw2_⟩ hR0 h
  subst hR0
  unfold d_M_turn_401 at h
  obtain ⟨j195, hj196, h⟩ := ax_bd h
  have hj196 := ax_ix_s hty hw2_ hj196
  obtain ⟨I197, e198, h⟩ := ax_bs h
  refine ax_iast (q := 402) hX j195 dc_M_turn_401 rfl hw2_ hj196.1 hj196.2.1 hj196.2.2 e198 ?_
  refine ax_aload_n (q := 403) hX dc_M_turn_402 rfl rfl rfl ?_
  obtain ⟨u199, hu200, h⟩ := ax_bd h
  obtain ⟨n202, hs201⟩ : ∃ n, S u199 = some (.inr (0, n)) := hty.1 _ _ _ _ hs0_ hu200
  refine ax_getR (q := 406) hX dc_M_turn_403 rfl fl_M_13 rfl hs0_ hu200 ?_
  refine ax_aload_n (q := 407) hX dc_M_turn_406 rfl rfl rfl ?_
  refine ax_getI (q := 410) hX dc_M_turn_407 rfl fl_M_71 rfl hs0_ ?_
  refine ax_iload_n (q := 411) hX dc_M_turn_410 rfl rfl rfl ?_
  obtain ⟨r205, hr203, h⟩ := ax_bd h
  refine ax_kS (vs := [.int (x1)]) (rest := [.int (I197 u0 3), .ref u199]) (q := 414) hX dc_M_turn_411 rfl mt_M_isTurned wl_M_123 wt_M_isTurned (c_M_isTurned l hty  hr203) rfl (by decide) rfl (Nat.le_of_ble_eq_true rfl) rfl rfl (by decide) (by decide) rfl ?_
  refine ax_if_eq (tgt := 421) (q := 417) hX dc_M_turn_414 rfl (by decide) (fun z206 => ?_) (fun z206 => ?_)
  · rw [if_pos z206] at h
    refine ax_iload_n (q := 422) hX dc_M_turn_421 rfl rfl rfl ?_
    exact ax_weak (ls' := [some (.ref u0), some (.int (x1)), none, none, none, none, none, none, none]) (ax_fewP_s _ _ (by repeat (first | exact trivial | (refine And.intro rfl ?_)))) (e_M_turn_422 hX hF hS0  I197 R u0 (x1) (x3) (I197 u0 3) u199 hty hs0_ ⟨n202, hs201⟩ rfl h)
  · rw [if_neg z206] at h
    refine ax_iload_n (q := 418) hX dc_M_turn_417 rfl rfl rfl ?_
    refine ax_goto (tgt := 422) hX dc_M_turn_418 (by decide) ?_
    exact ax_weak (ls' := [some (.ref u0), some (.int (x1)), none, none, none, none, none, none, none]) (ax_fewP_s _ _ (by repeat (first | exact trivial | (refine And.intro rfl ?_)))) (e_M_turn_422 hX hF hS0  I197 R u0 (x1) (x2) (I197 u0 3) u199 hty hs0_ ⟨n202, hs201⟩ rfl h)
def d_M_turn_305 (S : ax_S) : Nat → ax_I → ax_R → Nat → Int32 → Int32 → Int32 → Int32 → Option (Int32 × ax_I)
  | 0, _, _, _, _, _, _, _ => none
  | n + 1, I, R, u0, x1, x2, x3, x4 =>
    (R u0 7).bind fun u149 =>
    (ax_ix S u149 (I u0 3)).bind fun j153 =>
    if ((20 * (I u0 3)) + (I u149 j153)) ≤ x4 then
      (R u0 4).bind fun u156 =>
      (d_M_isTurned S I R (x1)).bind fun r162 =>
      if (ax_b r162) = 0 then
        d_M_turn_401 S  I R u0 (x1) (x2) (x3) (x2) (I u0 3) u156
      else
        d_M_turn_401 S  I R u0 (x1) (x2) (x3) (x3) (I u0 3) u156
    else
      (R u0 15).bind fun u164 =>
      (ax_ix S u164 (x4)).bind fun j168 =>
      (R u0 16).bind fun u170 =>
      (ax_ix S u170 (x4)).bind fun j174 =>
      (d_M_comes S I R (x1) (I u164 j168) (I u170 j174) (x2) (x3)).bind fun r178 =>
      (R u0 15).bind fun u179 =>
      (ax_ix S u179 (x4)).bind fun j183 =>
      (some (ax_up I u179 j183 (r178 - r178 / 1000 * 1000))).bind fun I185 =>
      (R u0 16).bind fun u187 =>
      (ax_ix S u187 (x4)).bind fun j191 =>
      (some (ax_up I185 u187 j191 (r178 / 1000))).bind fun I193 =>
      d_M_turn_305 S  n I193 R u0 (x1) (x2) (x3) (x4 + 1)
set_option maxHeartbeats 1000000 in
theorem e_M_turn_305 {l : Launch} {X : ax_X} {S : ax_S} {L : ax_L} {R0 : ax_R} {out : Int32 × ax_I} (hX : ax_ok X l "LossFreeToolsModel" b_M_turn 9 (ax_rm 3 0 0)) (hF : ax_fin X (some .int) 0 0 (ax_of (ax_eq (some (.int out.1)) S out.2 R0 L))) (hS0 : ax_S0 X = S) : ∀ (n : Nat), ∀ (I : ax_I) (R : ax_R) (u0 : Nat) (x1 : Int32) (x2 : Int32) (x3 : Int32) (x4 : Int32), ax_typ S R → (S u0 = some (.inl 5)) → R = R0 → d_M_turn_305 S  n I R u0 x1 x2 x3 x4 = some out → ax_W X 9 305 [some (.ref u0), some (.int (x1)), some (.int (x2)), some (.int (x3)), some (.int (x4)), none, none, none, none] [] S I R L 0 0 := by
  intro n
  induction n with
  | zero =>
    rintro I R u0 x1 x2 x3 x4 hty hs0_ hR0 h
    cases h
  | succ n ih =>
    rintro I R u0 x1 x2 x3 x4 hty hs0_ hR0 h
    subst hR0
    unfold d_M_turn_305 at h
    refine ax_iload (q := 307) hX dc_M_turn_305 rfl rfl ?_
    refine ax_bipush (v := 20) (q := 309) hX dc_M_turn_307 rfl (by decide) ?_
    refine ax_aload_n (q := 310) hX dc_M_turn_309 rfl rfl rfl ?_
    refine ax_getI (q := 313) hX dc_M_turn_310 rfl fl_M_71 rfl hs0_ ?_
    refine ax_imul (q := 314) hX dc_M_turn_313 rfl ?_
    refine ax_aload_n (q := 315) hX dc_M_turn_314 rfl rfl rfl ?_
    obtain ⟨u149, hu150, h⟩ := ax_bd h
    obtain ⟨n152, hs151⟩ : ∃ n, S u149 = some (.inr (0, n)) := hty.1 _ _ _ _ hs0_ hu150
    refine ax_getR (q := 318) hX dc_M_turn_315 rfl fl_M_19 rfl hs0_ hu150 ?_
    refine ax_aload_n (q := 319) hX dc_M_turn_318 rfl rfl rfl ?_
    refine ax_getI (q := 322) hX dc_M_turn_319 rfl fl_M_71 rfl hs0_ ?_
    obtain ⟨j153, hj154, h⟩ := ax_bd h
    have hj154 := ax_ix_s hty hs151 hj154
    refine ax_iald (q := 323) hX j153 dc_M_turn_322 rfl hs151 hj154.1 hj154.2.1 hj154.2.2 ?_
    refine ax_iadd (q := 324) hX dc_M_turn_323 rfl ?_
    refine ax_icmp_ge (tgt := 381) (q := 327) hX dc_M_turn_324 rfl (by decide) (fun z155 => ?_) (fun z155 => ?_)
    · rw [if_pos z155] at h
      refine ax_aload_n (q := 382) hX dc_M_turn_381 rfl rfl rfl ?_
      obtain ⟨u156, hu157, h⟩ := ax_bd h
      obtain ⟨n159, hs158⟩ : ∃ n, S u156 = some (.inr (0, n)) := hty.1 _ _ _ _ hs0_ hu157
      refine ax_getR (q := 385) hX dc_M_turn_382 rfl fl_M_7 rfl hs0_ hu157 ?_
      refine ax_aload_n (q := 386) hX dc_M_turn_385 rfl rfl rfl ?_
      refine ax_getI (q := 389) hX dc_M_turn_386 rfl fl_M_71 rfl hs0_ ?_
      refine ax_iload_n (q := 390) hX dc_M_turn_389 rfl rfl rfl ?_
      obtain ⟨r162, hr160, h⟩ := ax_bd h
      refine ax_kS (vs := [.int (x1)]) (rest := [.int (I u0 3), .ref u156]) (q := 393) hX dc_M_turn_390 rfl mt_M_isTurned wl_M_123 wt_M_isTurned (c_M_isTurned l hty  hr160) rfl (by decide) rfl (Nat.le_of_ble_eq_true rfl) rfl rfl (by decide) (by decide) rfl ?_
      refine ax_if_eq (tgt := 400) (q := 396) hX dc_M_turn_393 rfl (by decide) (fun z163 => ?_) (fun z163 => ?_)
      · rw [if_pos z163] at h
        refine ax_iload_n (q := 401) hX dc_M_turn_400 rfl rfl rfl ?_
        exact ax_weak (ls' := [some (.ref u0), some (.int (x1)), some (.int (x2)), some (.int (x3)), none, none, none, none, none]) (ax_fewP_s _ _ (by repeat (first | exact trivial | (refine And.intro rfl ?_)))) (e_M_turn_401 hX hF hS0  I R u0 (x1) (x2) (x3) (x2) (I u0 3) u156 hty hs0_ ⟨n159, hs158⟩ rfl h)
      · rw [if_neg z163] at h
        refine ax_iload_n (q := 397) hX dc_M_turn_396 rfl rfl rfl ?_
        refine ax_goto (tgt := 401) hX dc_M_turn_397 (by decide) ?_
        exact ax_weak (ls' := [some (.ref u0), some (.int (x1)), some (.int (x2)), some (.int (x3)), none, none, none, none, none]) (ax_fewP_s _ _ (by repeat (first | exact trivial | (refine And.intro rfl ?_)))) (e_M_turn_401 hX hF hS0  I R u0 (x1) (x2) (x3) (x3) (I u0 3) u156 hty hs0_ ⟨n159, hs158⟩ rfl h)
    · rw [if_neg z155] at h
      refine ax_iload_n (q := 328) hX dc_M_turn_327 rfl rfl rfl ?_
      refine ax_aload_n (q := 329) hX dc_M_turn_328 rfl rfl rfl ?_
      obtain ⟨u164, hu165, h⟩ := ax_bd h
      obtain ⟨n167, hs166⟩ : ∃ n, S u164 = some (.inr (0, n)) := hty.1 _ _ _ _ hs0_ hu165
      refine ax_getR (q := 332) hX dc_M_turn_329 rfl fl_M_43 rfl hs0_ hu165 ?_
      refine ax_iload (q := 334) hX dc_M_turn_332 rfl rfl ?_
      obtain ⟨j168, hj169, h⟩ := ax_bd h
      have hj169 := ax_ix_s hty hs166 hj169
      refine ax_iald (q := 335) hX j168 dc_M_turn_334 rfl hs166 hj169.1 hj169.2.1 hj169.2.2 ?_
      refine ax_aload_n (q := 336) hX dc_M_turn_335 rfl rfl rfl ?_
      obtain ⟨u170, hu171, h⟩ := ax_bd h
      obtain ⟨n173, hs172⟩ : ∃ n, S u170 = some (.inr (0, n)) := hty.1 _ _ _ _ hs0_ hu171
      refine ax_getR (q := 339) hX dc_M_turn_336 rfl fl_M_46 rfl hs0_ hu171 ?_
      refine ax_iload (q := 341) hX dc_M_turn_339 rfl rfl ?_
      obtain ⟨j174, hj175, h⟩ := ax_bd h
      have hj175 := ax_ix_s hty hs172 hj175
      refine ax_iald (q := 342) hX j174 dc_M_turn_341 rfl hs172 hj175.1 hj175.2.1 hj175.2.2 ?_
      refine ax_iload_n (q := 343) hX dc_M_turn_342 rfl rfl rfl ?_
      refine ax_iload_n (q := 344) hX dc_M_turn_343 rfl rfl rfl ?_
      obtain ⟨r178, hr176, h⟩ := ax_bd h
      refine ax_kS (vs := [.int (x1), .int (I u164 j168), .int (I u170 j174), .int (x2), .int (x3)]) (rest := []) (q := 347) hX dc_M_turn_344 rfl mt_M_comes wl_M_119 wt_M_comes (c_M_comes l hty  hr176) rfl (by decide) rfl (Nat.le_of_ble_eq_true rfl) rfl rfl (by decide) (by decide) rfl ?_
      refine ax_istore (ls' := [some (.ref u0), some (.int (x1)), some (.int (x2)), some (.int (x3)), some (.int (x4)), some (.int (r178)), none, none, none]) (q := 349) hX dc_M_turn_347 rfl (by decide) rfl ?_
      refine ax_aload_n (q := 350) hX dc_M_turn_349 rfl rfl rfl ?_
      obtain ⟨u179, hu180, h⟩ := ax_bd h
      obtain ⟨n182, hs181⟩ : ∃ n, S u179 = some (.inr (0, n)) := hty.1 _ _ _ _ hs0_ hu180
      refine ax_getR (q := 353) hX dc_M_turn_350 rfl fl_M_43 rfl hs0_ hu180 ?_
      refine ax_iload (q := 355) hX dc_M_turn_353 rfl rfl ?_
      refine ax_iload (q := 357) hX dc_M_turn_355 rfl rfl ?_
      refine ax_sipush (v := 1000) (q := 360) hX dc_M_turn_357 rfl (by decide) ?_
      refine ax_irem (q := 361) hX dc_M_turn_360 rfl (by decide) ?_
      obtain ⟨j183, hj184, h⟩ := ax_bd h
      have hj184 := ax_ix_s hty hs181 hj184
      obtain ⟨I185, e186, h⟩ := ax_bs h
      refine ax_iast (q := 362) hX j183 dc_M_turn_361 rfl hs181 hj184.1 hj184.2.1 hj184.2.2 e186 ?_
      refine ax_aload_n (q := 363) hX dc_M_turn_362 rfl rfl rfl ?_
      obtain ⟨u187, hu188, h⟩ := ax_bd h
      obtain ⟨n190, hs189⟩ : ∃ n, S u187 = some (.inr (0, n)) := hty.1 _ _ _ _ hs0_ hu188
      refine ax_getR (q := 366) hX dc_M_turn_363 rfl fl_M_46 rfl hs0_ hu188 ?_
      refine ax_iload (q := 368) hX dc_M_turn_366 rfl rfl ?_
      refine ax_iload (q := 370) hX dc_M_turn_368 rfl rfl ?_
      refine ax_sipush (v := 1000) (q := 373) hX dc_M_turn_370 rfl (by decide) ?_
      refine ax_idiv (q := 374) hX dc_M_turn_373 rfl (by decide) ?_
      obtain ⟨j191, hj192, h⟩ := ax_bd h
      have hj192 := ax_ix_s hty hs189 hj192
      obtain ⟨I193, e194, h⟩ := ax_bs h
      refine ax_iast (q := 375) hX j191 dc_M_turn_374 rfl hs189 hj192.1 hj192.2.1 hj192.2.2 e194 ?_
      refine ax_iinc (v := x4 + 1) (ls' := [some (.ref u0), some (.int (x1)), some (.int (x2)), some (.int (x3)), some (.int (x4 + 1)), some (.int (r178)), none, none, none]) (q := 378) hX dc_M_turn_375 rfl rfl rfl (by decide) rfl ?_
      refine ax_goto (tgt := 305) hX dc_M_turn_378 (by decide) ?_
      exact ax_weak (ls' := [some (.ref u0), some (.int (x1)), some (.int (x2)), some (.int (x3)), some (.int (x4 + 1)), none, none, none, none]) (ax_fewP_s _ _ (by repeat (first | exact trivial | (refine And.intro rfl ?_)))) (ih I193 R u0 (x1) (x2) (x3) (x4 + 1) hty hs0_ rfl h)
def d_M_turn_271 (S : ax_S) (rec51 : ax_I → ax_R → Nat → Int32 → Int32 → Int32 → Int32 → Option (Int32 × ax_I)) (I : ax_I) (R : ax_R) (u0 : Nat) (x1 : Int32) (x2 : Int32) (x3 : Int32) (x4 : Int32) (x5 : Int32) (y0 : Int32) (y1 : Int32) (w2 : Nat) : Option (Int32 × ax_I) :=
  (ax_ix S w2 (y1)).bind fun j128 =>
  (some (ax_up I w2 j128 (y0))).bind fun I130 =>
  (R u0 12).bind fun u132 =>
  (R u0 12).bind fun u136 =>
  (ax_ix S u136 (x5)).bind fun j140 =>
  (d_M_both S I130 R (I130 u136 j140) (x1)).bind fun r144 =>
  (ax_ix S u132 (x5)).bind fun j145 =>
  (some (ax_up I130 u132 j145 (r144))).bind fun I147 =>
  rec51 I147 R u0 (x1) (x2) (x3) (x4 + 1)
set_option maxHeartbeats 1000000 in
theorem e_M_turn_271 {l : Launch} {X : ax_X} {S : ax_S} {L : ax_L} {R0 : ax_R} {out : Int32 × ax_I} (hX : ax_ok X l "LossFreeToolsModel" b_M_turn 9 (ax_rm 3 0 0)) (hF : ax_fin X (some .int) 0 0 (ax_of (ax_eq (some (.int out.1)) S out.2 R0 L))) (hS0 : ax_S0 X = S) (rec51 : ax_I → ax_R → Nat → Int32 → Int32 → Int32 → Int32 → Option (Int32 × ax_I)) (hrec51 : ∀ (I : ax_I) (R : ax_R) (u0 : Nat) (x1 : Int32) (x2 : Int32) (x3 : Int32) (x4 : Int32), ax_typ S R → (S u0 = some (.inl 5)) → R = R0 → rec51 I R u0 x1 x2 x3 x4 = some out → ax_W X 9 51 [some (.ref u0), some (.int (x1)), some (.int (x2)), some (.int (x3)), some (.int (x4)), none, none, none, none] [] S I R L 0 0) : ∀ (I : ax_I) (R : ax_R) (u0 : Nat) (x1 : Int32) (x2 : Int32) (x3 : Int32) (x4 : Int32) (x5 : Int32) (y0 : Int32) (y1 : Int32) (w2 : Nat), ax_typ S R → (S u0 = some (.inl 5)) → (∃ n, S w2 = some (.inr (0, n))) → R = R0 → d_M_turn_271 S rec51 I R u0 x1 x2 x3 x4 x5 y0 y1 w2 = some out → ax_W X 9 271 [some (.ref u0), some (.int (x1)), some (.int (x2)), some (.int (x3)), some (.int (x4)), some (.int (x5)), none, none, none] [.int (y0), .int (y1), .ref w2] S I R L 0 0 := by
  rintro I R u0 x1 x2 x3 x4 x5 y0 y1 w2 hty hs0_ ⟨nw2_, hw2_⟩ hR0 h
  subst hR0
  unfold d_M_turn_271 at h
  obtain ⟨j128, hj129, h⟩ := ax_bd h
  have hj129 := ax_ix_s hty hw2_ hj129
  obtain ⟨I130, e131, h⟩ := ax_bs h
  refine ax_iast (q := 272) hX j128 dc_M_turn_271 rfl hw2_ hj129.1 hj129.2.1 hj129.2.2 e131 ?_
  refine ax_aload_n (q := 273) hX dc_M_turn_272 rfl rfl rfl ?_
  obtain ⟨u132, hu133, h⟩ := ax_bd h
  obtain ⟨n135, hs134⟩ : ∃ n, S u132 = some (.inr (0, n)) := hty.1 _ _ _ _ hs0_ hu133
  refine ax_getR (q := 276) hX dc_M_turn_273 rfl fl_M_34 rfl hs0_ hu133 ?_
  refine ax_iload (q := 278) hX dc_M_turn_276 rfl rfl ?_
  refine ax_aload_n (q := 279) hX dc_M_turn_278 rfl rfl rfl ?_
  obtain ⟨u136, hu137, h⟩ := ax_bd h
  obtain ⟨n139, hs138⟩ : ∃ n, S u136 = some (.inr (0, n)) := hty.1 _ _ _ _ hs0_ hu137
  refine ax_getR (q := 282) hX dc_M_turn_279 rfl fl_M_34 rfl hs0_ hu137 ?_
  refine ax_iload (q := 284) hX dc_M_turn_282 rfl rfl ?_
  obtain ⟨j140, hj141, h⟩ := ax_bd h
  have hj141 := ax_ix_s hty hs138 hj141
  refine ax_iald (q := 285) hX j140 dc_M_turn_284 rfl hs138 hj141.1 hj141.2.1 hj141.2.2 ?_
  refine ax_iload_n (q := 286) hX dc_M_turn_285 rfl rfl rfl ?_
  obtain ⟨r144, hr142, h⟩ := ax_bd h
  refine ax_kS (vs := [.int (I130 u136 j140), .int (x1)]) (rest := [.int (x5), .ref u132]) (q := 289) hX dc_M_turn_286 rfl mt_M_both wl_M_126 wt_M_both (c_M_both l hty  hr142) rfl (by decide) rfl (Nat.le_of_ble_eq_true rfl) rfl rfl (by decide) (by decide) rfl ?_
  obtain ⟨j145, hj146, h⟩ := ax_bd h
  have hj146 := ax_ix_s hty hs134 hj146
  obtain ⟨I147, e148, h⟩ := ax_bs h
  refine ax_iast (q := 290) hX j145 dc_M_turn_289 rfl hs134 hj146.1 hj146.2.1 hj146.2.2 e148 ?_
  refine ax_iinc (v := x4 + 1) (ls' := [some (.ref u0), some (.int (x1)), some (.int (x2)), some (.int (x3)), some (.int (x4 + 1)), some (.int (x5)), none, none, none]) (q := 293) hX dc_M_turn_290 rfl rfl rfl (by decide) rfl ?_
  refine ax_goto (tgt := 51) hX dc_M_turn_293 (by decide) ?_
  exact ax_weak (ls' := [some (.ref u0), some (.int (x1)), some (.int (x2)), some (.int (x3)), some (.int (x4 + 1)), none, none, none, none]) (ax_fewP_s _ _ (by repeat (first | exact trivial | (refine And.intro rfl ?_)))) (hrec51 I147 R u0 (x1) (x2) (x3) (x4 + 1) hty hs0_ rfl h)
def d_M_turn_245 (S : ax_S) (rec51 : ax_I → ax_R → Nat → Int32 → Int32 → Int32 → Int32 → Option (Int32 × ax_I)) (I : ax_I) (R : ax_R) (u0 : Nat) (x1 : Int32) (x2 : Int32) (x3 : Int32) (x4 : Int32) (x5 : Int32) (x8 : Int32) (y0 : Int32) (y1 : Int32) (w2 : Nat) : Option (Int32 × ax_I) :=
  (ax_ix S w2 (y1)).bind fun j110 =>
  (some (ax_up I w2 j110 (y0))).bind fun I112 =>
  (R u0 11).bind fun u114 =>
  (d_M_isTurned S I112 R (x1)).bind fun r120 =>
  if (ax_b r120) = 0 then
    (R u0 11).bind fun u122 =>
    (ax_ix S u122 (x5)).bind fun j126 =>
    d_M_turn_271 S (rec51) I112 R u0 (x1) (x2) (x3) (x4) (x5) (I112 u122 j126) (x5) u114
  else
    d_M_turn_271 S (rec51) I112 R u0 (x1) (x2) (x3) (x4) (x5) (x8) (x5) u114
set_option maxHeartbeats 1000000 in
theorem e_M_turn_245 {l : Launch} {X : ax_X} {S : ax_S} {L : ax_L} {R0 : ax_R} {out : Int32 × ax_I} (hX : ax_ok X l "LossFreeToolsModel" b_M_turn 9 (ax_rm 3 0 0)) (hF : ax_fin X (some .int) 0 0 (ax_of (ax_eq (some (.int out.1)) S out.2 R0 L))) (hS0 : ax_S0 X = S) (rec51 : ax_I → ax_R → Nat → Int32 → Int32 → Int32 → Int32 → Option (Int32 × ax_I)) (hrec51 : ∀ (I : ax_I) (R : ax_R) (u0 : Nat) (x1 : Int32) (x2 : Int32) (x3 : Int32) (x4 : Int32), ax_typ S R → (S u0 = some (.inl 5)) → R = R0 → rec51 I R u0 x1 x2 x3 x4 = some out → ax_W X 9 51 [some (.ref u0), some (.int (x1)), some (.int (x2)), some (.int (x3)), some (.int (x4)), none, none, none, none] [] S I R L 0 0) : ∀ (I : ax_I) (R : ax_R) (u0 : Nat) (x1 : Int32) (x2 : Int32) (x3 : Int32) (x4 : Int32) (x5 : Int32) (x8 : Int32) (y0 : Int32) (y1 : Int32) (w2 : Nat), ax_typ S R → (S u0 = some (.inl 5)) → (∃ n, S w2 = some (.inr (0, n))) → R = R0 → d_M_turn_245 S rec51 I R u0 x1 x2 x3 x4 x5 x8 y0 y1 w2 = some out → ax_W X 9 245 [some (.ref u0), some (.int (x1)), some (.int (x2)), some (.int (x3)), some (.int (x4)), some (.int (x5)), none, none, some (.int (x8))] [.int (y0), .int (y1), .ref w2] S I R L 0 0 := by
  rintro I R u0 x1 x2 x3 x4 x5 x8 y0 y1 w2 hty hs0_ ⟨nw2_, hw2_⟩ hR0 h
  subst hR0
  unfold d_M_turn_245 at h
  obtain ⟨j110, hj111, h⟩ := ax_bd h
  have hj111 := ax_ix_s hty hw2_ hj111
  obtain ⟨I112, e113, h⟩ := ax_bs h
  refine ax_iast (q := 246) hX j110 dc_M_turn_245 rfl hw2_ hj111.1 hj111.2.1 hj111.2.2 e113 ?_
  refine ax_aload_n (q := 247) hX dc_M_turn_246 rfl rfl rfl ?_
  obtain ⟨u114, hu115, h⟩ := ax_bd h
  obtain ⟨n117, hs116⟩ : ∃ n, S u114 = some (.inr (0, n)) := hty.1 _ _ _ _ hs0_ hu115
  refine ax_getR (q := 250) hX dc_M_turn_247 rfl fl_M_31 rfl hs0_ hu115 ?_
  refine ax_iload (q := 252) hX dc_M_turn_250 rfl rfl ?_
  refine ax_iload_n (q := 253) hX dc_M_turn_252 rfl rfl rfl ?_
  obtain ⟨r120, hr118, h⟩ := ax_bd h
  refine ax_kS (vs := [.int (x1)]) (rest := [.int (x5), .ref u114]) (q := 256) hX dc_M_turn_253 rfl mt_M_isTurned wl_M_123 wt_M_isTurned (c_M_isTurned l hty  hr118) rfl (by decide) rfl (Nat.le_of_ble_eq_true rfl) rfl rfl (by decide) (by decide) rfl ?_
  refine ax_if_eq (tgt := 264) (q := 259) hX dc_M_turn_256 rfl (by decide) (fun z121 => ?_) (fun z121 => ?_)
  · rw [if_pos z121] at h
    refine ax_aload_n (q := 265) hX dc_M_turn_264 rfl rfl rfl ?_
    obtain ⟨u122, hu123, h⟩ := ax_bd h
    obtain ⟨n125, hs124⟩ : ∃ n, S u122 = some (.inr (0, n)) := hty.1 _ _ _ _ hs0_ hu123
    refine ax_getR (q := 268) hX dc_M_turn_265 rfl fl_M_31 rfl hs0_ hu123 ?_
    refine ax_iload (q := 270) hX dc_M_turn_268 rfl rfl ?_
    obtain ⟨j126, hj127, h⟩ := ax_bd h
    have hj127 := ax_ix_s hty hs124 hj127
    refine ax_iald (q := 271) hX j126 dc_M_turn_270 rfl hs124 hj127.1 hj127.2.1 hj127.2.2 ?_
    exact ax_weak (ls' := [some (.ref u0), some (.int (x1)), some (.int (x2)), some (.int (x3)), some (.int (x4)), some (.int (x5)), none, none, none]) (ax_fewP_s _ _ (by repeat (first | exact trivial | (refine And.intro rfl ?_)))) (e_M_turn_271 hX hF hS0 (rec51) (hrec51) I112 R u0 (x1) (x2) (x3) (x4) (x5) (I112 u122 j126) (x5) u114 hty hs0_ ⟨n117, hs116⟩ rfl h)
  · rw [if_neg z121] at h
    refine ax_iload (q := 261) hX dc_M_turn_259 rfl rfl ?_
    refine ax_goto (tgt := 271) hX dc_M_turn_261 (by decide) ?_
    exact ax_weak (ls' := [some (.ref u0), some (.int (x1)), some (.int (x2)), some (.int (x3)), some (.int (x4)), some (.int (x5)), none, none, none]) (ax_fewP_s _ _ (by repeat (first | exact trivial | (refine And.intro rfl ?_)))) (e_M_turn_271 hX hF hS0 (rec51) (hrec51) I112 R u0 (x1) (x2) (x3) (x4) (x5) (x8) (x5) u114 hty hs0_ ⟨n117, hs116⟩ rfl h)
def d_M_turn_210 (S : ax_S) (rec51 : ax_I → ax_R → Nat → Int32 → Int32 → Int32 → Int32 → Option (Int32 × ax_I)) (I : ax_I) (R : ax_R) (u0 : Nat) (x1 : Int32) (x2 : Int32) (x3 : Int32) (x4 : Int32) (x5 : Int32) (y0 : Int32) (y1 : Int32) (w2 : Nat) : Option (Int32 × ax_I) :=
  (ax_ix S w2 (y1)).bind fun j86 =>
  (some (ax_up I w2 j86 (y0))).bind fun I88 =>
  (R u0 10).bind fun u90 =>
  (ax_ix S u90 (x5)).bind fun j94 =>
  (R u0 10).bind fun u96 =>
  (d_M_isTurned S I88 R (x1)).bind fun r102 =>
  if (ax_b r102) = 0 then
    d_M_turn_245 S (rec51) I88 R u0 (x1) (x2) (x3) (x4) (x5) (I88 u90 j94) (I88 u90 j94) (x5) u96
  else
    (R u0 11).bind fun u104 =>
    (ax_ix S u104 (x5)).bind fun j108 =>
    d_M_turn_245 S (rec51) I88 R u0 (x1) (x2) (x3) (x4) (x5) (I88 u90 j94) (I88 u104 j108) (x5) u96
set_option maxHeartbeats 1000000 in
theorem e_M_turn_210 {l : Launch} {X : ax_X} {S : ax_S} {L : ax_L} {R0 : ax_R} {out : Int32 × ax_I} (hX : ax_ok X l "LossFreeToolsModel" b_M_turn 9 (ax_rm 3 0 0)) (hF : ax_fin X (some .int) 0 0 (ax_of (ax_eq (some (.int out.1)) S out.2 R0 L))) (hS0 : ax_S0 X = S) (rec51 : ax_I → ax_R → Nat → Int32 → Int32 → Int32 → Int32 → Option (Int32 × ax_I)) (hrec51 : ∀ (I : ax_I) (R : ax_R) (u0 : Nat) (x1 : Int32) (x2 : Int32) (x3 : Int32) (x4 : Int32), ax_typ S R → (S u0 = some (.inl 5)) → R = R0 → rec51 I R u0 x1 x2 x3 x4 = some out → ax_W X 9 51 [some (.ref u0), some (.int (x1)), some (.int (x2)), some (.int (x3)), some (.int (x4)), none, none, none, none] [] S I R L 0 0) : ∀ (I : ax_I) (R : ax_R) (u0 : Nat) (x1 : Int32) (x2 : Int32) (x3 : Int32) (x4 : Int32) (x5 : Int32) (y0 : Int32) (y1 : Int32) (w2 : Nat), ax_typ S R → (S u0 = some (.inl 5)) → (∃ n, S w2 = some (.inr (0, n))) → R = R0 → d_M_turn_210 S rec51 I R u0 x1 x2 x3 x4 x5 y0 y1 w2 = some out → ax_W X 9 210 [some (.ref u0), some (.int (x1)), some (.int (x2)), some (.int (x3)), some (.int (x4)), some (.int (x5)), none, none, none] [.int (y0), .int (y1), .ref w2] S I R L 0 0 := by
  rintro I R u0 x1 x2 x3 x4 x5 y0 y1 w2 hty hs0_ ⟨nw2_, hw2_⟩ hR0 h
  subst hR0
  unfold d_M_turn_210 at h
  obtain ⟨j86, hj87, h⟩ := ax_bd h
  have hj87 := ax_ix_s hty hw2_ hj87
  obtain ⟨I88, e89, h⟩ := ax_bs h
  refine ax_iast (q := 211) hX j86 dc_M_turn_210 rfl hw2_ hj87.1 hj87.2.1 hj87.2.2 e89 ?_
  refine ax_aload_n (q := 212) hX dc_M_turn_211 rfl rfl rfl ?_
  obtain ⟨u90, hu91, h⟩ := ax_bd h
  obtain ⟨n93, hs92⟩ : ∃ n, S u90 = some (.inr (0, n)) := hty.1 _ _ _ _ hs0_ hu91
  refine ax_getR (q := 215) hX dc_M_turn_212 rfl fl_M_28 rfl hs0_ hu91 ?_
  refine ax_iload (q := 217) hX dc_M_turn_215 rfl rfl ?_
  obtain ⟨j94, hj95, h⟩ := ax_bd h
  have hj95 := ax_ix_s hty hs92 hj95
  refine ax_iald (q := 218) hX j94 dc_M_turn_217 rfl hs92 hj95.1 hj95.2.1 hj95.2.2 ?_
  refine ax_istore (ls' := [some (.ref u0), some (.int (x1)), some (.int (x2)), some (.int (x3)), some (.int (x4)), some (.int (x5)), none, none, some (.int (I88 u90 j94))]) (q := 220) hX dc_M_turn_218 rfl (by decide) rfl ?_
  refine ax_aload_n (q := 221) hX dc_M_turn_220 rfl rfl rfl ?_
  obtain ⟨u96, hu97, h⟩ := ax_bd h
  obtain ⟨n99, hs98⟩ : ∃ n, S u96 = some (.inr (0, n)) := hty.1 _ _ _ _ hs0_ hu97
  refine ax_getR (q := 224) hX dc_M_turn_221 rfl fl_M_28 rfl hs0_ hu97 ?_
  refine ax_iload (q := 226) hX dc_M_turn_224 rfl rfl ?_
  refine ax_iload_n (q := 227) hX dc_M_turn_226 rfl rfl rfl ?_
  obtain ⟨r102, hr100, h⟩ := ax_bd h
  refine ax_kS (vs := [.int (x1)]) (rest := [.int (x5), .ref u96]) (q := 230) hX dc_M_turn_227 rfl mt_M_isTurned wl_M_123 wt_M_isTurned (c_M_isTurned l hty  hr100) rfl (by decide) rfl (Nat.le_of_ble_eq_true rfl) rfl rfl (by decide) (by decide) rfl ?_
  refine ax_if_eq (tgt := 243) (q := 233) hX dc_M_turn_230 rfl (by decide) (fun z103 => ?_) (fun z103 => ?_)
  · rw [if_pos z103] at h
    refine ax_iload (q := 245) hX dc_M_turn_243 rfl rfl ?_
    exact (e_M_turn_245 hX hF hS0 (rec51) (hrec51) I88 R u0 (x1) (x2) (x3) (x4) (x5) (I88 u90 j94) (I88 u90 j94) (x5) u96 hty hs0_ ⟨n99, hs98⟩ rfl h)
  · rw [if_neg z103] at h
    refine ax_aload_n (q := 234) hX dc_M_turn_233 rfl rfl rfl ?_
    obtain ⟨u104, hu105, h⟩ := ax_bd h
    obtain ⟨n107, hs106⟩ : ∃ n, S u104 = some (.inr (0, n)) := hty.1 _ _ _ _ hs0_ hu105
    refine ax_getR (q := 237) hX dc_M_turn_234 rfl fl_M_31 rfl hs0_ hu105 ?_
    refine ax_iload (q := 239) hX dc_M_turn_237 rfl rfl ?_
    obtain ⟨j108, hj109, h⟩ := ax_bd h
    have hj109 := ax_ix_s hty hs106 hj109
    refine ax_iald (q := 240) hX j108 dc_M_turn_239 rfl hs106 hj109.1 hj109.2.1 hj109.2.2 ?_
    refine ax_goto (tgt := 245) hX dc_M_turn_240 (by decide) ?_
    exact (e_M_turn_245 hX hF hS0 (rec51) (hrec51) I88 R u0 (x1) (x2) (x3) (x4) (x5) (I88 u90 j94) (I88 u104 j108) (x5) u96 hty hs0_ ⟨n99, hs98⟩ rfl h)
def d_M_turn_173 (S : ax_S) (rec51 : ax_I → ax_R → Nat → Int32 → Int32 → Int32 → Int32 → Option (Int32 × ax_I)) (I : ax_I) (R : ax_R) (u0 : Nat) (x1 : Int32) (x2 : Int32) (x3 : Int32) (x4 : Int32) (x5 : Int32) (x6 : Int32) (x7 : Int32) (y0 : Int32) (y1 : Int32) (w2 : Nat) : Option (Int32 × ax_I) :=
  (ax_ix S w2 (y1)).bind fun j77 =>
  (some (ax_up I w2 j77 (y0))).bind fun I79 =>
  (R u0 9).bind fun u81 =>
  if (x7 / 1000) ≤ (x6 / 1000) then
    d_M_turn_210 S (rec51) I79 R u0 (x1) (x2) (x3) (x4) (x5) (x7 / 1000) (x5) u81
  else
    d_M_turn_210 S (rec51) I79 R u0 (x1) (x2) (x3) (x4) (x5) (x6 / 1000) (x5) u81
set_option maxHeartbeats 1000000 in
theorem e_M_turn_173 {l : Launch} {X : ax_X} {S : ax_S} {L : ax_L} {R0 : ax_R} {out : Int32 × ax_I} (hX : ax_ok X l "LossFreeToolsModel" b_M_turn 9 (ax_rm 3 0 0)) (hF : ax_fin X (some .int) 0 0 (ax_of (ax_eq (some (.int out.1)) S out.2 R0 L))) (hS0 : ax_S0 X = S) (rec51 : ax_I → ax_R → Nat → Int32 → Int32 → Int32 → Int32 → Option (Int32 × ax_I)) (hrec51 : ∀ (I : ax_I) (R : ax_R) (u0 : Nat) (x1 : Int32) (x2 : Int32) (x3 : Int32) (x4 : Int32), ax_typ S R → (S u0 = some (.inl 5)) → R = R0 → rec51 I R u0 x1 x2 x3 x4 = some out → ax_W X 9 51 [some (.ref u0), some (.int (x1)), some (.int (x2)), some (.int (x3)), some (.int (x4)), none, none, none, none] [] S I R L 0 0) : ∀ (I : ax_I) (R : ax_R) (u0 : Nat) (x1 : Int32) (x2 : Int32) (x3 : Int32) (x4 : Int32) (x5 : Int32) (x6 : Int32) (x7 : Int32) (y0 : Int32) (y1 : Int32) (w2 : Nat), ax_typ S R → (S u0 = some (.inl 5)) → (∃ n, S w2 = some (.inr (0, n))) → R = R0 → d_M_turn_173 S rec51 I R u0 x1 x2 x3 x4 x5 x6 x7 y0 y1 w2 = some out → ax_W X 9 173 [some (.ref u0), some (.int (x1)), some (.int (x2)), some (.int (x3)), some (.int (x4)), some (.int (x5)), some (.int (x6)), some (.int (x7)), none] [.int (y0), .int (y1), .ref w2] S I R L 0 0 := by
  rintro I R u0 x1 x2 x3 x4 x5 x6 x7 y0 y1 w2 hty hs0_ ⟨nw2_, hw2_⟩ hR0 h
  subst hR0
  unfold d_M_turn_173 at h
  obtain ⟨j77, hj78, h⟩ := ax_bd h
  have hj78 := ax_ix_s hty hw2_ hj78
  obtain ⟨I79, e80, h⟩ := ax_bs h
  refine ax_iast (q := 174) hX j77 dc_M_turn_173 rfl hw2_ hj78.1 hj78.2.1 hj78.2.2 e80 ?_
  refine ax_aload_n (q := 175) hX dc_M_turn_174 rfl rfl rfl ?_
  obtain ⟨u81, hu82, h⟩ := ax_bd h
  obtain ⟨n84, hs83⟩ : ∃ n, S u81 = some (.inr (0, n)) := hty.1 _ _ _ _ hs0_ hu82
  refine ax_getR (q := 178) hX dc_M_turn_175 rfl fl_M_25 rfl hs0_ hu82 ?_
  refine ax_iload (q := 180) hX dc_M_turn_178 rfl rfl ?_
  refine ax_iload (q := 182) hX dc_M_turn_180 rfl rfl ?_
  refine ax_sipush (v := 1000) (q := 185) hX dc_M_turn_182 rfl (by decide) ?_
  refine ax_idiv (q := 186) hX dc_M_turn_185 rfl (by decide) ?_
  refine ax_iload (q := 188) hX dc_M_turn_186 rfl rfl ?_
  refine ax_sipush (v := 1000) (q := 191) hX dc_M_turn_188 rfl (by decide) ?_
  refine ax_idiv (q := 192) hX dc_M_turn_191 rfl (by decide) ?_
  refine ax_icmp_ge (tgt := 204) (q := 195) hX dc_M_turn_192 rfl (by decide) (fun z85 => ?_) (fun z85 => ?_)
  · rw [if_pos z85] at h
    refine ax_iload (q := 206) hX dc_M_turn_204 rfl rfl ?_
    refine ax_sipush (v := 1000) (q := 209) hX dc_M_turn_206 rfl (by decide) ?_
    refine ax_idiv (q := 210) hX dc_M_turn_209 rfl (by decide) ?_
    exact ax_weak (ls' := [some (.ref u0), some (.int (x1)), some (.int (x2)), some (.int (x3)), some (.int (x4)), some (.int (x5)), none, none, none]) (ax_fewP_s _ _ (by repeat (first | exact trivial | (refine And.intro rfl ?_)))) (e_M_turn_210 hX hF hS0 (rec51) (hrec51) I79 R u0 (x1) (x2) (x3) (x4) (x5) (x7 / 1000) (x5) u81 hty hs0_ ⟨n84, hs83⟩ rfl h)
  · rw [if_neg z85] at h
    refine ax_iload (q := 197) hX dc_M_turn_195 rfl rfl ?_
    refine ax_sipush (v := 1000) (q := 200) hX dc_M_turn_197 rfl (by decide) ?_
    refine ax_idiv (q := 201) hX dc_M_turn_200 rfl (by decide) ?_
    refine ax_goto (tgt := 210) hX dc_M_turn_201 (by decide) ?_
    exact ax_weak (ls' := [some (.ref u0), some (.int (x1)), some (.int (x2)), some (.int (x3)), some (.int (x4)), some (.int (x5)), none, none, none]) (ax_fewP_s _ _ (by repeat (first | exact trivial | (refine And.intro rfl ?_)))) (e_M_turn_210 hX hF hS0 (rec51) (hrec51) I79 R u0 (x1) (x2) (x3) (x4) (x5) (x6 / 1000) (x5) u81 hty hs0_ ⟨n84, hs83⟩ rfl h)
def d_M_turn_51 (S : ax_S) : Nat → ax_I → ax_R → Nat → Int32 → Int32 → Int32 → Int32 → Option (Int32 × ax_I)
  | 0, _, _, _, _, _, _, _ => none
  | n + 1, I, R, u0, x1, x2, x3, x4 =>
    (R u0 6).bind fun u20 =>
    (ax_ix S u20 (I u0 3)).bind fun j24 =>
    if (I u20 j24) ≤ x4 then
      d_M_turn_305 S  5000 I R u0 (x1) (x2) (x3) (20 * (I u0 3))
    else
      (d_M_tileAt S I R u0 (x4)).bind fun r29 =>
      (R u0 8).bind fun u30 =>
      (ax_ix S u30 (r29)).bind fun j34 =>
      (R u0 9).bind fun u36 =>
      (ax_ix S u36 (r29)).bind fun j40 =>
      (d_M_comes S I R (x1) (I u30 j34) (I u36 j40) (x2) (x3)).bind fun r44 =>
      (R u0 8).bind fun u45 =>
      (ax_ix S u45 (r29)).bind fun j49 =>
      (R u0 10).bind fun u51 =>
      (ax_ix S u51 (r29)).bind fun j55 =>
      (R u0 9).bind fun u57 =>
      (ax_ix S u57 (r29)).bind fun j61 =>
      (R u0 11).bind fun u63 =>
      (ax_ix S u63 (r29)).bind fun j67 =>
      (d_M_comes S I R (x1) (((I u45 j49) + (I u51 j55)) - 1) (((I u57 j61) + (I u63 j67)) - 1) (x2) (x3)).bind fun r71 =>
      (R u0 8).bind fun u72 =>
      if (r71 - r71 / 1000 * 1000) ≤ (r44 - r44 / 1000 * 1000) then
        d_M_turn_173 S (d_M_turn_51 S  n) I R u0 (x1) (x2) (x3) (x4) (r29) (r44) (r71) (r71 - r71 / 1000 * 1000) (r29) u72
      else
        d_M_turn_173 S (d_M_turn_51 S  n) I R u0 (x1) (x2) (x3) (x4) (r29) (r44) (r71) (r44 - r44 / 1000 * 1000) (r29) u72
set_option maxHeartbeats 1000000 in
theorem e_M_turn_51 {l : Launch} {X : ax_X} {S : ax_S} {L : ax_L} {R0 : ax_R} {out : Int32 × ax_I} (hX : ax_ok X l "LossFreeToolsModel" b_M_turn 9 (ax_rm 3 0 0)) (hF : ax_fin X (some .int) 0 0 (ax_of (ax_eq (some (.int out.1)) S out.2 R0 L))) (hS0 : ax_S0 X = S) : ∀ (n : Nat), ∀ (I : ax_I) (R : ax_R) (u0 : Nat) (x1 : Int32) (x2 : Int32) (x3 : Int32) (x4 : Int32), ax_typ S R → (S u0 = some (.inl 5)) → R = R0 → d_M_turn_51 S  n I R u0 x1 x2 x3 x4 = some out → ax_W X 9 51 [some (.ref u0), some (.int (x1)), some (.int (x2)), some (.int (x3)), some (.int (x4)), none, none, none, none] [] S I R L 0 0 := by
  intro n
  induction n with
  | zero =>
    rintro I R u0 x1 x2 x3 x4 hty hs0_ hR0 h
    cases h
  | succ n ih =>
    rintro I R u0 x1 x2 x3 x4 hty hs0_ hR0 h
    subst hR0
    unfold d_M_turn_51 at h
    refine ax_iload (q := 53) hX dc_M_turn_51 rfl rfl ?_
    refine ax_aload_n (q := 54) hX dc_M_turn_53 rfl rfl rfl ?_
    obtain ⟨u20, hu21, h⟩ := ax_bd h
    obtain ⟨n23, hs22⟩ : ∃ n, S u20 = some (.inr (0, n)) := hty.1 _ _ _ _ hs0_ hu21
    refine ax_getR (q := 57) hX dc_M_turn_54 rfl fl_M_16 rfl hs0_ hu21 ?_
    refine ax_aload_n (q := 58) hX dc_M_turn_57 rfl rfl rfl ?_
    refine ax_getI (q := 61) hX dc_M_turn_58 rfl fl_M_71 rfl hs0_ ?_
    obtain ⟨j24, hj25, h⟩ := ax_bd h
    have hj25 := ax_ix_s hty hs22 hj25
    refine ax_iald (q := 62) hX j24 dc_M_turn_61 rfl hs22 hj25.1 hj25.2.1 hj25.2.2 ?_
    refine ax_icmp_ge (tgt := 296) (q := 65) hX dc_M_turn_62 rfl (by decide) (fun z26 => ?_) (fun z26 => ?_)
    · rw [if_pos z26] at h
      refine ax_bipush (v := 20) (q := 298) hX dc_M_turn_296 rfl (by decide) ?_
      refine ax_aload_n (q := 299) hX dc_M_turn_298 rfl rfl rfl ?_
      refine ax_getI (q := 302) hX dc_M_turn_299 rfl fl_M_71 rfl hs0_ ?_
      refine ax_imul (q := 303) hX dc_M_turn_302 rfl ?_
      refine ax_istore (ls' := [some (.ref u0), some (.int (x1)), some (.int (x2)), some (.int (x3)), some (.int (20 * (I u0 3))), none, none, none, none]) (q := 305) hX dc_M_turn_303 rfl (by decide) rfl ?_
      exact (e_M_turn_305 hX hF hS0  5000 I R u0 (x1) (x2) (x3) (20 * (I u0 3)) hty hs0_ rfl h)
    · rw [if_neg z26] at h
      refine ax_aload_n (q := 66) hX dc_M_turn_65 rfl rfl rfl ?_
      refine ax_iload (q := 68) hX dc_M_turn_66 rfl rfl ?_
      obtain ⟨r29, hr27, h⟩ := ax_bd h
      refine ax_kV (vs := [.int (x4)]) (rest := []) (q := 71) hX dc_M_turn_68 rfl mt_M_tileAt wl_M_92 wi_M_tileAt ws_M_tileAt hs0_ rfl (c_M_tileAt l hty hs0_ hr27) rfl (by decide) rfl (Nat.le_of_ble_eq_true rfl) rfl rfl (by decide) (by decide) rfl ?_
      refine ax_istore (ls' := [some (.ref u0), some (.int (x1)), some (.int (x2)), some (.int (x3)), some (.int (x4)), some (.int (r29)), none, none, none]) (q := 73) hX dc_M_turn_71 rfl (by decide) rfl ?_
      refine ax_iload_n (q := 74) hX dc_M_turn_73 rfl rfl rfl ?_
      refine ax_aload_n (q := 75) hX dc_M_turn_74 rfl rfl rfl ?_
      obtain ⟨u30, hu31, h⟩ := ax_bd h
      obtain ⟨n33, hs32⟩ : ∃ n, S u30 = some (.inr (0, n)) := hty.1 _ _ _ _ hs0_ hu31
      refine ax_getR (q := 78) hX dc_M_turn_75 rfl fl_M_22 rfl hs0_ hu31 ?_
      refine ax_iload (q := 80) hX dc_M_turn_78 rfl rfl ?_
      obtain ⟨j34, hj35, h⟩ := ax_bd h
      have hj35 := ax_ix_s hty hs32 hj35
      refine ax_iald (q := 81) hX j34 dc_M_turn_80 rfl hs32 hj35.1 hj35.2.1 hj35.2.2 ?_
      refine ax_aload_n (q := 82) hX dc_M_turn_81 rfl rfl rfl ?_
      obtain ⟨u36, hu37, h⟩ := ax_bd h
      obtain ⟨n39, hs38⟩ : ∃ n, S u36 = some (.inr (0, n)) := hty.1 _ _ _ _ hs0_ hu37
      refine ax_getR (q := 85) hX dc_M_turn_82 rfl fl_M_25 rfl hs0_ hu37 ?_
      refine ax_iload (q := 87) hX dc_M_turn_85 rfl rfl ?_
      obtain ⟨j40, hj41, h⟩ := ax_bd h
      have hj41 := ax_ix_s hty hs38 hj41
      refine ax_iald (q := 88) hX j40 dc_M_turn_87 rfl hs38 hj41.1 hj41.2.1 hj41.2.2 ?_
      refine ax_iload_n (q := 89) hX dc_M_turn_88 rfl rfl rfl ?_
      refine ax_iload_n (q := 90) hX dc_M_turn_89 rfl rfl rfl ?_
      obtain ⟨r44, hr42, h⟩ := ax_bd h
      refine ax_kS (vs := [.int (x1), .int (I u30 j34), .int (I u36 j40), .int (x2), .int (x3)]) (rest := []) (q := 93) hX dc_M_turn_90 rfl mt_M_comes wl_M_119 wt_M_comes (c_M_comes l hty  hr42) rfl (by decide) rfl (Nat.le_of_ble_eq_true rfl) rfl rfl (by decide) (by decide) rfl ?_
      refine ax_istore (ls' := [some (.ref u0), some (.int (x1)), some (.int (x2)), some (.int (x3)), some (.int (x4)), some (.int (r29)), some (.int (r44)), none, none]) (q := 95) hX dc_M_turn_93 rfl (by decide) rfl ?_
      refine ax_iload_n (q := 96) hX dc_M_turn_95 rfl rfl rfl ?_
      refine ax_aload_n (q := 97) hX dc_M_turn_96 rfl rfl rfl ?_
      obtain ⟨u45, hu46, h⟩ := ax_bd h
      obtain ⟨n48, hs47⟩ : ∃ n, S u45 = some (.inr (0, n)) := hty.1 _ _ _ _ hs0_ hu46
      refine ax_getR (q := 100) hX dc_M_turn_97 rfl fl_M_22 rfl hs0_ hu46 ?_
      refine ax_iload (q := 102) hX dc_M_turn_100 rfl rfl ?_
      obtain ⟨j49, hj50, h⟩ := ax_bd h
      have hj50 := ax_ix_s hty hs47 hj50
      refine ax_iald (q := 103) hX j49 dc_M_turn_102 rfl hs47 hj50.1 hj50.2.1 hj50.2.2 ?_
      refine ax_aload_n (q := 104) hX dc_M_turn_103 rfl rfl rfl ?_
      obtain ⟨u51, hu52, h⟩ := ax_bd h
      obtain ⟨n54, hs53⟩ : ∃ n, S u51 = some (.inr (0, n)) := hty.1 _ _ _ _ hs0_ hu52
      refine ax_getR (q := 107) hX dc_M_turn_104 rfl fl_M_28 rfl hs0_ hu52 ?_
      refine ax_iload (q := 109) hX dc_M_turn_107 rfl rfl ?_
      obtain ⟨j55, hj56, h⟩ := ax_bd h
      have hj56 := ax_ix_s hty hs53 hj56
      refine ax_iald (q := 110) hX j55 dc_M_turn_109 rfl hs53 hj56.1 hj56.2.1 hj56.2.2 ?_
      refine ax_iadd (q := 111) hX dc_M_turn_110 rfl ?_
      refine ax_iconst (v := 1) (q := 112) hX dc_M_turn_111 rfl (by decide) ?_
      refine ax_isub (q := 113) hX dc_M_turn_112 rfl ?_
      refine ax_aload_n (q := 114) hX dc_M_turn_113 rfl rfl rfl ?_
      obtain ⟨u57, hu58, h⟩ := ax_bd h
      obtain ⟨n60, hs59⟩ : ∃ n, S u57 = some (.inr (0, n)) := hty.1 _ _ _ _ hs0_ hu58
      refine ax_getR (q := 117) hX dc_M_turn_114 rfl fl_M_25 rfl hs0_ hu58 ?_
      refine ax_iload (q := 119) hX dc_M_turn_117 rfl rfl ?_
      obtain ⟨j61, hj62, h⟩ := ax_bd h
      have hj62 := ax_ix_s hty hs59 hj62
      refine ax_iald (q := 120) hX j61 dc_M_turn_119 rfl hs59 hj62.1 hj62.2.1 hj62.2.2 ?_
      refine ax_aload_n (q := 121) hX dc_M_turn_120 rfl rfl rfl ?_
      obtain ⟨u63, hu64, h⟩ := ax_bd h
      obtain ⟨n66, hs65⟩ : ∃ n, S u63 = some (.inr (0, n)) := hty.1 _ _ _ _ hs0_ hu64
      refine ax_getR (q := 124) hX dc_M_turn_121 rfl fl_M_31 rfl hs0_ hu64 ?_
      refine ax_iload (q := 126) hX dc_M_turn_124 rfl rfl ?_
      obtain ⟨j67, hj68, h⟩ := ax_bd h
      have hj68 := ax_ix_s hty hs65 hj68
      refine ax_iald (q := 127) hX j67 dc_M_turn_126 rfl hs65 hj68.1 hj68.2.1 hj68.2.2 ?_
      refine ax_iadd (q := 128) hX dc_M_turn_127 rfl ?_
      refine ax_iconst (v := 1) (q := 129) hX dc_M_turn_128 rfl (by decide) ?_
      refine ax_isub (q := 130) hX dc_M_turn_129 rfl ?_
      refine ax_iload_n (q := 131) hX dc_M_turn_130 rfl rfl rfl ?_
      refine ax_iload_n (q := 132) hX dc_M_turn_131 rfl rfl rfl ?_
      obtain ⟨r71, hr69, h⟩ := ax_bd h
      refine ax_kS (vs := [.int (x1), .int (((I u45 j49) + (I u51 j55)) - 1), .int (((I u57 j61) + (I u63 j67)) - 1), .int (x2), .int (x3)]) (rest := []) (q := 135) hX dc_M_turn_132 rfl mt_M_comes wl_M_119 wt_M_comes (c_M_comes l hty  hr69) rfl (by decide) rfl (Nat.le_of_ble_eq_true rfl) rfl rfl (by decide) (by decide) rfl ?_
      refine ax_istore (ls' := [some (.ref u0), some (.int (x1)), some (.int (x2)), some (.int (x3)), some (.int (x4)), some (.int (r29)), some (.int (r44)), some (.int (r71)), none]) (q := 137) hX dc_M_turn_135 rfl (by decide) rfl ?_
      refine ax_aload_n (q := 138) hX dc_M_turn_137 rfl rfl rfl ?_
      obtain ⟨u72, hu73, h⟩ := ax_bd h
      obtain ⟨n75, hs74⟩ : ∃ n, S u72 = some (.inr (0, n)) := hty.1 _ _ _ _ hs0_ hu73
      refine ax_getR (q := 141) hX dc_M_turn_138 rfl fl_M_22 rfl hs0_ hu73 ?_
      refine ax_iload (q := 143) hX dc_M_turn_141 rfl rfl ?_
      refine ax_iload (q := 145) hX dc_M_turn_143 rfl rfl ?_
      refine ax_sipush (v := 1000) (q := 148) hX dc_M_turn_145 rfl (by decide) ?_
      refine ax_irem (q := 149) hX dc_M_turn_148 rfl (by decide) ?_
      refine ax_iload (q := 151) hX dc_M_turn_149 rfl rfl ?_
      refine ax_sipush (v := 1000) (q := 154) hX dc_M_turn_151 rfl (by decide) ?_
      refine ax_irem (q := 155) hX dc_M_turn_154 rfl (by decide) ?_
      refine ax_icmp_ge (tgt := 167) (q := 158) hX dc_M_turn_155 rfl (by decide) (fun z76 => ?_) (fun z76 => ?_)
      · rw [if_pos z76] at h
        refine ax_iload (q := 169) hX dc_M_turn_167 rfl rfl ?_
        refine ax_sipush (v := 1000) (q := 172) hX dc_M_turn_169 rfl (by decide) ?_
        refine ax_irem (q := 173) hX dc_M_turn_172 rfl (by decide) ?_
        exact (e_M_turn_173 hX hF hS0 (d_M_turn_51 S  n) (ih) I R u0 (x1) (x2) (x3) (x4) (r29) (r44) (r71) (r71 - r71 / 1000 * 1000) (r29) u72 hty hs0_ ⟨n75, hs74⟩ rfl h)
      · rw [if_neg z76] at h
        refine ax_iload (q := 160) hX dc_M_turn_158 rfl rfl ?_
        refine ax_sipush (v := 1000) (q := 163) hX dc_M_turn_160 rfl (by decide) ?_
        refine ax_irem (q := 164) hX dc_M_turn_163 rfl (by decide) ?_
        refine ax_goto (tgt := 173) hX dc_M_turn_164 (by decide) ?_
        exact (e_M_turn_173 hX hF hS0 (d_M_turn_51 S  n) (ih) I R u0 (x1) (x2) (x3) (x4) (r29) (r44) (r71) (r44 - r44 / 1000 * 1000) (r29) u72 hty hs0_ ⟨n75, hs74⟩ rfl h)
def d_M_turn_16 (S : ax_S) (I : ax_I) (R : ax_R) (u0 : Nat) (x1 : Int32) (y0 : Int32) (w1 : Nat) : Option (Int32 × ax_I) :=
  (some (ax_up I w1 0 (y0))).bind fun I5 =>
  if (I5 u0 0) ≤ 0 then
    (R u0 4).bind fun u8 =>
    (ax_ix S u8 (I5 u0 3)).bind fun j12 =>
    (R u0 5).bind fun u14 =>
    (ax_ix S u14 (I5 u0 3)).bind fun j18 =>
    d_M_turn_51 S  5000 I5 R u0 (x1) (I5 u8 j12) (I5 u14 j18) (0)
  else
    some (0, I5)
set_option maxHeartbeats 1000000 in
theorem e_M_turn_16 {l : Launch} {X : ax_X} {S : ax_S} {L : ax_L} {R0 : ax_R} {out : Int32 × ax_I} (hX : ax_ok X l "LossFreeToolsModel" b_M_turn 9 (ax_rm 3 0 0)) (hF : ax_fin X (some .int) 0 0 (ax_of (ax_eq (some (.int out.1)) S out.2 R0 L))) (hS0 : ax_S0 X = S) : ∀ (I : ax_I) (R : ax_R) (u0 : Nat) (x1 : Int32) (y0 : Int32) (w1 : Nat), ax_typ S R → (S u0 = some (.inl 5)) → (S w1 = some (.inl 5)) → R = R0 → d_M_turn_16 S  I R u0 x1 y0 w1 = some out → ax_W X 9 16 [some (.ref u0), some (.int (x1)), none, none, none, none, none, none, none] [.int (y0), .ref w1] S I R L 0 0 := by
  rintro I R u0 x1 y0 w1 hty hs0_ hw1_ hR0 h
  subst hR0
  unfold d_M_turn_16 at h
  obtain ⟨I5, e6, h⟩ := ax_bs h
  refine ax_putI (q := 19) hX dc_M_turn_16 rfl fl_M_68 rfl hw1_ (fun z => by cases z) rfl rfl e6 ?_
  refine ax_aload_n (q := 20) hX dc_M_turn_19 rfl rfl rfl ?_
  refine ax_getI (q := 23) hX dc_M_turn_20 rfl fl_M_68 rfl hs0_ ?_
  refine ax_if_le (tgt := 28) (q := 26) hX dc_M_turn_23 rfl (by decide) (fun z7 => ?_) (fun z7 => ?_)
  · rw [if_pos z7] at h
    refine ax_aload_n (q := 29) hX dc_M_turn_28 rfl rfl rfl ?_
    obtain ⟨u8, hu9, h⟩ := ax_bd h
    obtain ⟨n11, hs10⟩ : ∃ n, S u8 = some (.inr (0, n)) := hty.1 _ _ _ _ hs0_ hu9
    refine ax_getR (q := 32) hX dc_M_turn_29 rfl fl_M_7 rfl hs0_ hu9 ?_
    refine ax_aload_n (q := 33) hX dc_M_turn_32 rfl rfl rfl ?_
    refine ax_getI (q := 36) hX dc_M_turn_33 rfl fl_M_71 rfl hs0_ ?_
    obtain ⟨j12, hj13, h⟩ := ax_bd h
    have hj13 := ax_ix_s hty hs10 hj13
    refine ax_iald (q := 37) hX j12 dc_M_turn_36 rfl hs10 hj13.1 hj13.2.1 hj13.2.2 ?_
    refine ax_istore_n (ls' := [some (.ref u0), some (.int (x1)), some (.int (I5 u8 j12)), none, none, none, none, none, none]) (q := 38) hX dc_M_turn_37 rfl rfl (by decide) rfl ?_
    refine ax_aload_n (q := 39) hX dc_M_turn_38 rfl rfl rfl ?_
    obtain ⟨u14, hu15, h⟩ := ax_bd h
    obtain ⟨n17, hs16⟩ : ∃ n, S u14 = some (.inr (0, n)) := hty.1 _ _ _ _ hs0_ hu15
    refine ax_getR (q := 42) hX dc_M_turn_39 rfl fl_M_13 rfl hs0_ hu15 ?_
    refine ax_aload_n (q := 43) hX dc_M_turn_42 rfl rfl rfl ?_
    refine ax_getI (q := 46) hX dc_M_turn_43 rfl fl_M_71 rfl hs0_ ?_
    obtain ⟨j18, hj19, h⟩ := ax_bd h
    have hj19 := ax_ix_s hty hs16 hj19
    refine ax_iald (q := 47) hX j18 dc_M_turn_46 rfl hs16 hj19.1 hj19.2.1 hj19.2.2 ?_
    refine ax_istore_n (ls' := [some (.ref u0), some (.int (x1)), some (.int (I5 u8 j12)), some (.int (I5 u14 j18)), none, none, none, none, none]) (q := 48) hX dc_M_turn_47 rfl rfl (by decide) rfl ?_
    refine ax_iconst (v := 0) (q := 49) hX dc_M_turn_48 rfl (by decide) ?_
    refine ax_istore (ls' := [some (.ref u0), some (.int (x1)), some (.int (I5 u8 j12)), some (.int (I5 u14 j18)), some (.int (0)), none, none, none, none]) (q := 51) hX dc_M_turn_49 rfl (by decide) rfl ?_
    exact (e_M_turn_51 hX hF hS0  5000 I5 R u0 (x1) (I5 u8 j12) (I5 u14 j18) (0) hty hs0_ rfl h)
  · rw [if_neg z7] at h
    refine ax_iconst (v := 0) (q := 27) hX dc_M_turn_26 rfl (by decide) ?_
    cases h
    exact ax_iret hX hF dc_M_turn_27 rfl rfl (by decide) (by decide) ax_eq.mk (by rw [hS0]; exact fun _ _ z => z)
def d_M_turn (S : ax_S) (I : ax_I) (R : ax_R) (u0 : Nat) (x1 : Int32) : Option (Int32 × ax_I) :=
  (d_M_in S I R (x1) (0) (7)).bind fun r3 =>
  if (ax_b r3) = 0 then
    d_M_turn_16 S  I R u0 (x1) (1) u0
  else
    d_M_turn_16 S  I R u0 (x1) (0) u0
set_option maxHeartbeats 1000000 in
theorem c_M_turn (l : Launch) {S : ax_S} {I : ax_I} {R : ax_R} {L : ax_L} {u0 : Nat} {x1 : Int32} {out : Int32 × ax_I} (hty : ax_typ S R) (hs0 : S u0 = some (.inl 5)) (h : d_M_turn S I R u0 x1 = some out) : ax_Met l y_M_turn b_M_turn 9 (some .int) (ax_rm 3 0 0) [.ref u0, .int x1] S I R L (ax_eq (some (.int out.1)) S out.2 R L) := by
  refine ax_enter (own := "LossFreeToolsModel") (by decide +kernel) rfl (ax_cats rfl) (Nat.le_of_ble_eq_true rfl) (fun X hX hF _ hS0 => ?_)
  show ax_W X 9 0 [some (.ref u0), some (.int (x1)), none, none, none, none, none, none, none] [] S I R L 0 0
  unfold d_M_turn at h
  refine ax_aload_n (q := 1) hX dc_M_turn_0 rfl rfl rfl ?_
  refine ax_iload_n (q := 2) hX dc_M_turn_1 rfl rfl rfl ?_
  refine ax_iconst (v := 0) (q := 3) hX dc_M_turn_2 rfl (by decide) ?_
  refine ax_bipush (v := 7) (q := 5) hX dc_M_turn_3 rfl (by decide) ?_
  obtain ⟨r3, hr1, h⟩ := ax_bd h
  refine ax_kS (vs := [.int (x1), .int (0), .int (7)]) (rest := [.ref u0]) (q := 8) hX dc_M_turn_5 rfl mt_M_in wl_M_84 wt_M_in (c_M_in l hty  hr1) rfl (by decide) rfl (Nat.le_of_ble_eq_true rfl) rfl rfl (by decide) (by decide) rfl ?_
  refine ax_if_eq (tgt := 15) (q := 11) hX dc_M_turn_8 rfl (by decide) (fun z4 => ?_) (fun z4 => ?_)
  · rw [if_pos z4] at h
    refine ax_iconst (v := 1) (q := 16) hX dc_M_turn_15 rfl (by decide) ?_
    exact (e_M_turn_16 hX hF hS0  I R u0 (x1) (1) u0 hty hs0 hs0 rfl h)
  · rw [if_neg z4] at h
    refine ax_iconst (v := 0) (q := 12) hX dc_M_turn_11 rfl (by decide) ?_
    refine ax_goto (tgt := 16) hX dc_M_turn_12 (by decide) ?_
    exact (e_M_turn_16 hX hF hS0  I R u0 (x1) (0) u0 hty hs0 hs0 rfl h)
def d_M_at_14 (S : ax_S) (I : ax_I) (R : ax_R) (u0 : Nat) (x1 : Int32) (x2 : Int32) (y0 : Int32) (w1 : Nat) : Option (Int32 × ax_I) :=
  (some (ax_up I w1 0 (y0))).bind fun I5 =>
  if (I5 u0 0) ≤ 0 then
    (d_M_tileAt S I5 R u0 (x1)).bind fun r10 =>
    (R u0 12).bind fun u11 =>
    (ax_ix S u11 (r10)).bind fun j15 =>
    (d_M_isTurned S I5 R (I5 u11 j15)).bind fun r19 =>
    if x2 = 0 then
      (R u0 8).bind fun u21 =>
      (ax_ix S u21 (r10)).bind fun j25 =>
      some (I5 u21 j25, I5)
    else
    if x2 = 1 then
      (R u0 9).bind fun u28 =>
      (ax_ix S u28 (r10)).bind fun j32 =>
      some (I5 u28 j32, I5)
    else
    if x2 = 2 then
      (R u0 10).bind fun u35 =>
      (ax_ix S u35 (r10)).bind fun j39 =>
      some (I5 u35 j39, I5)
    else
    if x2 = 3 then
      (R u0 11).bind fun u42 =>
      (ax_ix S u42 (r10)).bind fun j46 =>
      some (I5 u42 j46, I5)
    else
    if x2 = 4 then
      (R u0 12).bind fun u49 =>
      (ax_ix S u49 (r10)).bind fun j53 =>
      some (I5 u49 j53, I5)
    else
    if x2 = 5 then
      (R u0 13).bind fun u56 =>
      (ax_ix S u56 (r10)).bind fun j60 =>
      some (I5 u56 j60, I5)
    else
    if x2 = 6 then
      if (ax_b r19) = 0 then
        (R u0 10).bind fun u64 =>
        (ax_ix S u64 (r10)).bind fun j68 =>
        some (I5 u64 j68, I5)
      else
        (R u0 11).bind fun u70 =>
        (ax_ix S u70 (r10)).bind fun j74 =>
        some (I5 u70 j74, I5)
    else
    if x2 = 7 then
      if (ax_b r19) = 0 then
        (R u0 11).bind fun u78 =>
        (ax_ix S u78 (r10)).bind fun j82 =>
        some (I5 u78 j82, I5)
      else
        (R u0 10).bind fun u84 =>
        (ax_ix S u84 (r10)).bind fun j88 =>
        some (I5 u84 j88, I5)
    else
    some ((-1), I5)
  else
    some (0, I5)
set_option maxHeartbeats 1000000 in
theorem e_M_at_14 {l : Launch} {X : ax_X} {S : ax_S} {L : ax_L} {R0 : ax_R} {out : Int32 × ax_I} (hX : ax_ok X l "LossFreeToolsModel" b_M_at 5 (ax_rm 3 0 0)) (hF : ax_fin X (some .int) 0 0 (ax_of (ax_eq (some (.int out.1)) S out.2 R0 L))) (hS0 : ax_S0 X = S) : ∀ (I : ax_I) (R : ax_R) (u0 : Nat) (x1 : Int32) (x2 : Int32) (y0 : Int32) (w1 : Nat), ax_typ S R → (S u0 = some (.inl 5)) → (S w1 = some (.inl 5)) → R = R0 → d_M_at_14 S  I R u0 x1 x2 y0 w1 = some out → ax_W X 5 14 [some (.ref u0), some (.int (x1)), some (.int (x2)), none, none] [.int (y0), .ref w1] S I R L 0 0 := by
  rintro I R u0 x1 x2 y0 w1 hty hs0_ hw1_ hR0 h
  subst hR0
  unfold d_M_at_14 at h
  obtain ⟨I5, e6, h⟩ := ax_bs h
  refine ax_putI (q := 17) hX dc_M_at_14 rfl fl_M_68 rfl hw1_ (fun z => by cases z) rfl rfl e6 ?_
  refine ax_aload_n (q := 18) hX dc_M_at_17 rfl rfl rfl ?_
  refine ax_getI (q := 21) hX dc_M_at_18 rfl fl_M_68 rfl hs0_ ?_
  refine ax_if_le (tgt := 26) (q := 24) hX dc_M_at_21 rfl (by decide) (fun z7 => ?_) (fun z7 => ?_)
  · rw [if_pos z7] at h
    refine ax_aload_n (q := 27) hX dc_M_at_26 rfl rfl rfl ?_
    refine ax_iload_n (q := 28) hX dc_M_at_27 rfl rfl rfl ?_
    obtain ⟨r10, hr8, h⟩ := ax_bd h
    refine ax_kV (vs := [.int (x1)]) (rest := []) (q := 31) hX dc_M_at_28 rfl mt_M_tileAt wl_M_92 wi_M_tileAt ws_M_tileAt hs0_ rfl (c_M_tileAt l hty hs0_ hr8) rfl (by decide) rfl (Nat.le_of_ble_eq_true rfl) rfl rfl (by decide) (by decide) rfl ?_
    refine ax_istore_n (ls' := [some (.ref u0), some (.int (x1)), some (.int (x2)), some (.int (r10)), none]) (q := 32) hX dc_M_at_31 rfl rfl (by decide) rfl ?_
    refine ax_aload_n (q := 33) hX dc_M_at_32 rfl rfl rfl ?_
    obtain ⟨u11, hu12, h⟩ := ax_bd h
    obtain ⟨n14, hs13⟩ : ∃ n, S u11 = some (.inr (0, n)) := hty.1 _ _ _ _ hs0_ hu12
    refine ax_getR (q := 36) hX dc_M_at_33 rfl fl_M_34 rfl hs0_ hu12 ?_
    refine ax_iload_n (q := 37) hX dc_M_at_36 rfl rfl rfl ?_
    obtain ⟨j15, hj16, h⟩ := ax_bd h
    have hj16 := ax_ix_s hty hs13 hj16
    refine ax_iald (q := 38) hX j15 dc_M_at_37 rfl hs13 hj16.1 hj16.2.1 hj16.2.2 ?_
    obtain ⟨r19, hr17, h⟩ := ax_bd h
    refine ax_kS (vs := [.int (I5 u11 j15)]) (rest := []) (q := 41) hX dc_M_at_38 rfl mt_M_isTurned wl_M_123 wt_M_isTurned (c_M_isTurned l hty  hr17) rfl (by decide) rfl (Nat.le_of_ble_eq_true rfl) rfl rfl (by decide) (by decide) rfl ?_
    refine ax_istore (ls' := [some (.ref u0), some (.int (x1)), some (.int (x2)), some (.int (r10)), some (.int (ax_b r19))]) (q := 43) hX dc_M_at_41 rfl (by decide) rfl ?_
    refine ax_iload_n (q := 44) hX dc_M_at_43 rfl rfl rfl ?_
    by_cases z20 : x2 = 0
    · rw [if_pos z20] at h
      refine ax_tsIn (tgt := 92) hX dc_M_at_44 (by rw [z20]; decide) (by rw [z20]; decide) (by rw [z20]; rfl) (by decide) ?_
      refine ax_aload_n (q := 93) hX dc_M_at_92 rfl rfl rfl ?_
      obtain ⟨u21, hu22, h⟩ := ax_bd h
      obtain ⟨n24, hs23⟩ : ∃ n, S u21 = some (.inr (0, n)) := hty.1 _ _ _ _ hs0_ hu22
      refine ax_getR (q := 96) hX dc_M_at_93 rfl fl_M_22 rfl hs0_ hu22 ?_
      refine ax_iload_n (q := 97) hX dc_M_at_96 rfl rfl rfl ?_
      obtain ⟨j25, hj26, h⟩ := ax_bd h
      have hj26 := ax_ix_s hty hs23 hj26
      refine ax_iald (q := 98) hX j25 dc_M_at_97 rfl hs23 hj26.1 hj26.2.1 hj26.2.2 ?_
      cases h
      exact ax_iret hX hF dc_M_at_98 rfl rfl (by decide) (by decide) ax_eq.mk (by rw [hS0]; exact fun _ _ z => z)
    rw [if_neg z20] at h
    by_cases z27 : x2 = 1
    · rw [if_pos z27] at h
      refine ax_tsIn (tgt := 99) hX dc_M_at_44 (by rw [z27]; decide) (by rw [z27]; decide) (by rw [z27]; rfl) (by decide) ?_
      refine ax_aload_n (q := 100) hX dc_M_at_99 rfl rfl rfl ?_
      obtain ⟨u28, hu29, h⟩ := ax_bd h
      obtain ⟨n31, hs30⟩ : ∃ n, S u28 = some (.inr (0, n)) := hty.1 _ _ _ _ hs0_ hu29
      refine ax_getR (q := 103) hX dc_M_at_100 rfl fl_M_25 rfl hs0_ hu29 ?_
      refine ax_iload_n (q := 104) hX dc_M_at_103 rfl rfl rfl ?_
      obtain ⟨j32, hj33, h⟩ := ax_bd h
      have hj33 := ax_ix_s hty hs30 hj33
      refine ax_iald (q := 105) hX j32 dc_M_at_104 rfl hs30 hj33.1 hj33.2.1 hj33.2.2 ?_
      cases h
      exact ax_iret hX hF dc_M_at_105 rfl rfl (by decide) (by decide) ax_eq.mk (by rw [hS0]; exact fun _ _ z => z)
    rw [if_neg z27] at h
    by_cases z34 : x2 = 2
    · rw [if_pos z34] at h
      refine ax_tsIn (tgt := 106) hX dc_M_at_44 (by rw [z34]; decide) (by rw [z34]; decide) (by rw [z34]; rfl) (by decide) ?_
      refine ax_aload_n (q := 107) hX dc_M_at_106 rfl rfl rfl ?_
      obtain ⟨u35, hu36, h⟩ := ax_bd h
      obtain ⟨n38, hs37⟩ : ∃ n, S u35 = some (.inr (0, n)) := hty.1 _ _ _ _ hs0_ hu36
      refine ax_getR (q := 110) hX dc_M_at_107 rfl fl_M_28 rfl hs0_ hu36 ?_
      refine ax_iload_n (q := 111) hX dc_M_at_110 rfl rfl rfl ?_
      obtain ⟨j39, hj40, h⟩ := ax_bd h
      have hj40 := ax_ix_s hty hs37 hj40
      refine ax_iald (q := 112) hX j39 dc_M_at_111 rfl hs37 hj40.1 hj40.2.1 hj40.2.2 ?_
      cases h
      exact ax_iret hX hF dc_M_at_112 rfl rfl (by decide) (by decide) ax_eq.mk (by rw [hS0]; exact fun _ _ z => z)
    rw [if_neg z34] at h
    by_cases z41 : x2 = 3
    · rw [if_pos z41] at h
      refine ax_tsIn (tgt := 113) hX dc_M_at_44 (by rw [z41]; decide) (by rw [z41]; decide) (by rw [z41]; rfl) (by decide) ?_
      refine ax_aload_n (q := 114) hX dc_M_at_113 rfl rfl rfl ?_
      obtain ⟨u42, hu43, h⟩ := ax_bd h
      obtain ⟨n45, hs44⟩ : ∃ n, S u42 = some (.inr (0, n)) := hty.1 _ _ _ _ hs0_ hu43
      refine ax_getR (q := 117) hX dc_M_at_114 rfl fl_M_31 rfl hs0_ hu43 ?_
      refine ax_iload_n (q := 118) hX dc_M_at_117 rfl rfl rfl ?_
      obtain ⟨j46, hj47, h⟩ := ax_bd h
      have hj47 := ax_ix_s hty hs44 hj47
      refine ax_iald (q := 119) hX j46 dc_M_at_118 rfl hs44 hj47.1 hj47.2.1 hj47.2.2 ?_
      cases h
      exact ax_iret hX hF dc_M_at_119 rfl rfl (by decide) (by decide) ax_eq.mk (by rw [hS0]; exact fun _ _ z => z)
    rw [if_neg z41] at h
    by_cases z48 : x2 = 4
    · rw [if_pos z48] at h
      refine ax_tsIn (tgt := 120) hX dc_M_at_44 (by rw [z48]; decide) (by rw [z48]; decide) (by rw [z48]; rfl) (by decide) ?_
      refine ax_aload_n (q := 121) hX dc_M_at_120 rfl rfl rfl ?_
      obtain ⟨u49, hu50, h⟩ := ax_bd h
      obtain ⟨n52, hs51⟩ : ∃ n, S u49 = some (.inr (0, n)) := hty.1 _ _ _ _ hs0_ hu50
      refine ax_getR (q := 124) hX dc_M_at_121 rfl fl_M_34 rfl hs0_ hu50 ?_
      refine ax_iload_n (q := 125) hX dc_M_at_124 rfl rfl rfl ?_
      obtain ⟨j53, hj54, h⟩ := ax_bd h
      have hj54 := ax_ix_s hty hs51 hj54
      refine ax_iald (q := 126) hX j53 dc_M_at_125 rfl hs51 hj54.1 hj54.2.1 hj54.2.2 ?_
      cases h
      exact ax_iret hX hF dc_M_at_126 rfl rfl (by decide) (by decide) ax_eq.mk (by rw [hS0]; exact fun _ _ z => z)
    rw [if_neg z48] at h
    by_cases z55 : x2 = 5
    · rw [if_pos z55] at h
      refine ax_tsIn (tgt := 127) hX dc_M_at_44 (by rw [z55]; decide) (by rw [z55]; decide) (by rw [z55]; rfl) (by decide) ?_
      refine ax_aload_n (q := 128) hX dc_M_at_127 rfl rfl rfl ?_
      obtain ⟨u56, hu57, h⟩ := ax_bd h
      obtain ⟨n59, hs58⟩ : ∃ n, S u56 = some (.inr (0, n)) := hty.1 _ _ _ _ hs0_ hu57
      refine ax_getR (q := 131) hX dc_M_at_128 rfl fl_M_37 rfl hs0_ hu57 ?_
      refine ax_iload_n (q := 132) hX dc_M_at_131 rfl rfl rfl ?_
      obtain ⟨j60, hj61, h⟩ := ax_bd h
      have hj61 := ax_ix_s hty hs58 hj61
      refine ax_iald (q := 133) hX j60 dc_M_at_132 rfl hs58 hj61.1 hj61.2.1 hj61.2.2 ?_
      cases h
      exact ax_iret hX hF dc_M_at_133 rfl rfl (by decide) (by decide) ax_eq.mk (by rw [hS0]; exact fun _ _ z => z)
    rw [if_neg z55] at h
    by_cases z62 : x2 = 6
    · rw [if_pos z62] at h
      refine ax_tsIn (tgt := 134) hX dc_M_at_44 (by rw [z62]; decide) (by rw [z62]; decide) (by rw [z62]; rfl) (by decide) ?_
      refine ax_iload (q := 136) hX dc_M_at_134 rfl rfl ?_
      refine ax_if_eq (tgt := 148) (q := 139) hX dc_M_at_136 rfl (by decide) (fun z63 => ?_) (fun z63 => ?_)
      · rw [if_pos z63] at h
        refine ax_aload_n (q := 149) hX dc_M_at_148 rfl rfl rfl ?_
        obtain ⟨u64, hu65, h⟩ := ax_bd h
        obtain ⟨n67, hs66⟩ : ∃ n, S u64 = some (.inr (0, n)) := hty.1 _ _ _ _ hs0_ hu65
        refine ax_getR (q := 152) hX dc_M_at_149 rfl fl_M_28 rfl hs0_ hu65 ?_
        refine ax_iload_n (q := 153) hX dc_M_at_152 rfl rfl rfl ?_
        obtain ⟨j68, hj69, h⟩ := ax_bd h
        have hj69 := ax_ix_s hty hs66 hj69
        refine ax_iald (q := 154) hX j68 dc_M_at_153 rfl hs66 hj69.1 hj69.2.1 hj69.2.2 ?_
        cases h
        exact ax_iret hX hF dc_M_at_154 rfl rfl (by decide) (by decide) ax_eq.mk (by rw [hS0]; exact fun _ _ z => z)
      · rw [if_neg z63] at h
        refine ax_aload_n (q := 140) hX dc_M_at_139 rfl rfl rfl ?_
        obtain ⟨u70, hu71, h⟩ := ax_bd h
        obtain ⟨n73, hs72⟩ : ∃ n, S u70 = some (.inr (0, n)) := hty.1 _ _ _ _ hs0_ hu71
        refine ax_getR (q := 143) hX dc_M_at_140 rfl fl_M_31 rfl hs0_ hu71 ?_
        refine ax_iload_n (q := 144) hX dc_M_at_143 rfl rfl rfl ?_
        obtain ⟨j74, hj75, h⟩ := ax_bd h
        have hj75 := ax_ix_s hty hs72 hj75
        refine ax_iald (q := 145) hX j74 dc_M_at_144 rfl hs72 hj75.1 hj75.2.1 hj75.2.2 ?_
        refine ax_goto (tgt := 154) hX dc_M_at_145 (by decide) ?_
        cases h
        exact ax_iret hX hF dc_M_at_154 rfl rfl (by decide) (by decide) ax_eq.mk (by rw [hS0]; exact fun _ _ z => z)
    rw [if_neg z62] at h
    by_cases z76 : x2 = 7
    · rw [if_pos z76] at h
      refine ax_tsIn (tgt := 155) hX dc_M_at_44 (by rw [z76]; decide) (by rw [z76]; decide) (by rw [z76]; rfl) (by decide) ?_
      refine ax_iload (q := 157) hX dc_M_at_155 rfl rfl ?_
      refine ax_if_eq (tgt := 169) (q := 160) hX dc_M_at_157 rfl (by decide) (fun z77 => ?_) (fun z77 => ?_)
      · rw [if_pos z77] at h
        refine ax_aload_n (q := 170) hX dc_M_at_169 rfl rfl rfl ?_
        obtain ⟨u78, hu79, h⟩ := ax_bd h
        obtain ⟨n81, hs80⟩ : ∃ n, S u78 = some (.inr (0, n)) := hty.1 _ _ _ _ hs0_ hu79
        refine ax_getR (q := 173) hX dc_M_at_170 rfl fl_M_31 rfl hs0_ hu79 ?_
        refine ax_iload_n (q := 174) hX dc_M_at_173 rfl rfl rfl ?_
        obtain ⟨j82, hj83, h⟩ := ax_bd h
        have hj83 := ax_ix_s hty hs80 hj83
        refine ax_iald (q := 175) hX j82 dc_M_at_174 rfl hs80 hj83.1 hj83.2.1 hj83.2.2 ?_
        cases h
        exact ax_iret hX hF dc_M_at_175 rfl rfl (by decide) (by decide) ax_eq.mk (by rw [hS0]; exact fun _ _ z => z)
      · rw [if_neg z77] at h
        refine ax_aload_n (q := 161) hX dc_M_at_160 rfl rfl rfl ?_
        obtain ⟨u84, hu85, h⟩ := ax_bd h
        obtain ⟨n87, hs86⟩ : ∃ n, S u84 = some (.inr (0, n)) := hty.1 _ _ _ _ hs0_ hu85
        refine ax_getR (q := 164) hX dc_M_at_161 rfl fl_M_28 rfl hs0_ hu85 ?_
        refine ax_iload_n (q := 165) hX dc_M_at_164 rfl rfl rfl ?_
        obtain ⟨j88, hj89, h⟩ := ax_bd h
        have hj89 := ax_ix_s hty hs86 hj89
        refine ax_iald (q := 166) hX j88 dc_M_at_165 rfl hs86 hj89.1 hj89.2.1 hj89.2.2 ?_
        refine ax_goto (tgt := 175) hX dc_M_at_166 (by decide) ?_
        cases h
        exact ax_iret hX hF dc_M_at_175 rfl rfl (by decide) (by decide) ax_eq.mk (by rw [hS0]; exact fun _ _ z => z)
    rw [if_neg z76] at h
    refine ax_tsOut (tgt := 176) hX dc_M_at_44 (ax_out8 z20 z27 z34 z41 z48 z55 z62 z76) (by decide) ?_
    refine ax_iconst (v := (-1)) (q := 177) hX dc_M_at_176 rfl (by decide) ?_
    cases h
    exact ax_iret hX hF dc_M_at_177 rfl rfl (by decide) (by decide) ax_eq.mk (by rw [hS0]; exact fun _ _ z => z)
  · rw [if_neg z7] at h
    refine ax_iconst (v := 0) (q := 25) hX dc_M_at_24 rfl (by decide) ?_
    cases h
    exact ax_iret hX hF dc_M_at_25 rfl rfl (by decide) (by decide) ax_eq.mk (by rw [hS0]; exact fun _ _ z => z)
def d_M_at (S : ax_S) (I : ax_I) (R : ax_R) (u0 : Nat) (x1 : Int32) (x2 : Int32) : Option (Int32 × ax_I) :=
  (d_M_isTile S I R u0 (x1)).bind fun r3 =>
  if (ax_b r3) = 0 then
    d_M_at_14 S  I R u0 (x1) (x2) (1) u0
  else
    d_M_at_14 S  I R u0 (x1) (x2) (0) u0
set_option maxHeartbeats 1000000 in
theorem c_M_at (l : Launch) {S : ax_S} {I : ax_I} {R : ax_R} {L : ax_L} {u0 : Nat} {x1 : Int32} {x2 : Int32} {out : Int32 × ax_I} (hty : ax_typ S R) (hs0 : S u0 = some (.inl 5)) (h : d_M_at S I R u0 x1 x2 = some out) : ax_Met l y_M_at b_M_at 5 (some .int) (ax_rm 3 0 0) [.ref u0, .int x1, .int x2] S I R L (ax_eq (some (.int out.1)) S out.2 R L) := by
  refine ax_enter (own := "LossFreeToolsModel") (by decide +kernel) rfl (ax_cats rfl) (Nat.le_of_ble_eq_true rfl) (fun X hX hF _ hS0 => ?_)
  show ax_W X 5 0 [some (.ref u0), some (.int (x1)), some (.int (x2)), none, none] [] S I R L 0 0
  unfold d_M_at at h
  refine ax_aload_n (q := 1) hX dc_M_at_0 rfl rfl rfl ?_
  refine ax_aload_n (q := 2) hX dc_M_at_1 rfl rfl rfl ?_
  refine ax_iload_n (q := 3) hX dc_M_at_2 rfl rfl rfl ?_
  obtain ⟨r3, hr1, h⟩ := ax_bd h
  refine ax_kV (vs := [.int (x1)]) (rest := [.ref u0]) (q := 6) hX dc_M_at_3 rfl mt_M_isTile wl_M_96 wi_M_isTile ws_M_isTile hs0 rfl (c_M_isTile l hty hs0 hr1) rfl (by decide) rfl (Nat.le_of_ble_eq_true rfl) rfl rfl (by decide) (by decide) rfl ?_
  refine ax_if_eq (tgt := 13) (q := 9) hX dc_M_at_6 rfl (by decide) (fun z4 => ?_) (fun z4 => ?_)
  · rw [if_pos z4] at h
    refine ax_iconst (v := 1) (q := 14) hX dc_M_at_13 rfl (by decide) ?_
    exact (e_M_at_14 hX hF hS0  I R u0 (x1) (x2) (1) u0 hty hs0 hs0 rfl h)
  · rw [if_neg z4] at h
    refine ax_iconst (v := 0) (q := 10) hX dc_M_at_9 rfl (by decide) ?_
    refine ax_goto (tgt := 14) hX dc_M_at_10 (by decide) ?_
    exact (e_M_at_14 hX hF hS0  I R u0 (x1) (x2) (0) u0 hty hs0 hs0 rfl h)
def d_M_byteAt_34 (S : ax_S) (I : ax_I) (R : ax_R) (u0 : Nat) (x1 : Int32) (x2 : Int32) (y0 : Int32) (w1 : Nat) : Option (Int32 × ax_I) :=
  (some (ax_up I w1 0 (y0))).bind fun I18 =>
  if (I18 u0 0) ≤ 0 then
    (R u0 14).bind fun u21 =>
    (d_M_tileAt S I18 R u0 (x1)).bind fun r27 =>
    (ax_ix S u21 ((12 * r27) + x2)).bind fun j28 =>
    some (I18 u21 j28, I18)
  else
    some (0, I18)
set_option maxHeartbeats 1000000 in
theorem e_M_byteAt_34 {l : Launch} {X : ax_X} {S : ax_S} {L : ax_L} {R0 : ax_R} {out : Int32 × ax_I} (hX : ax_ok X l "LossFreeToolsModel" b_M_byteAt 3 (ax_rm 3 0 0)) (hF : ax_fin X (some .int) 0 0 (ax_of (ax_eq (some (.int out.1)) S out.2 R0 L))) (hS0 : ax_S0 X = S) : ∀ (I : ax_I) (R : ax_R) (u0 : Nat) (x1 : Int32) (x2 : Int32) (y0 : Int32) (w1 : Nat), ax_typ S R → (S u0 = some (.inl 5)) → (S w1 = some (.inl 5)) → R = R0 → d_M_byteAt_34 S  I R u0 x1 x2 y0 w1 = some out → ax_W X 3 34 [some (.ref u0), some (.int (x1)), some (.int (x2))] [.int (y0), .ref w1] S I R L 0 0 := by
  rintro I R u0 x1 x2 y0 w1 hty hs0_ hw1_ hR0 h
  subst hR0
  unfold d_M_byteAt_34 at h
  obtain ⟨I18, e19, h⟩ := ax_bs h
  refine ax_putI (q := 37) hX dc_M_byteAt_34 rfl fl_M_68 rfl hw1_ (fun z => by cases z) rfl rfl e19 ?_
  refine ax_aload_n (q := 38) hX dc_M_byteAt_37 rfl rfl rfl ?_
  refine ax_getI (q := 41) hX dc_M_byteAt_38 rfl fl_M_68 rfl hs0_ ?_
  refine ax_if_le (tgt := 48) (q := 44) hX dc_M_byteAt_41 rfl (by decide) (fun z20 => ?_) (fun z20 => ?_)
  · rw [if_pos z20] at h
    refine ax_aload_n (q := 49) hX dc_M_byteAt_48 rfl rfl rfl ?_
    obtain ⟨u21, hu22, h⟩ := ax_bd h
    obtain ⟨n24, hs23⟩ : ∃ n, S u21 = some (.inr (0, n)) := hty.1 _ _ _ _ hs0_ hu22
    refine ax_getR (q := 52) hX dc_M_byteAt_49 rfl fl_M_40 rfl hs0_ hu22 ?_
    refine ax_bipush (v := 12) (q := 54) hX dc_M_byteAt_52 rfl (by decide) ?_
    refine ax_aload_n (q := 55) hX dc_M_byteAt_54 rfl rfl rfl ?_
    refine ax_iload_n (q := 56) hX dc_M_byteAt_55 rfl rfl rfl ?_
    obtain ⟨r27, hr25, h⟩ := ax_bd h
    refine ax_kV (vs := [.int (x1)]) (rest := [.int (12), .ref u21]) (q := 59) hX dc_M_byteAt_56 rfl mt_M_tileAt wl_M_92 wi_M_tileAt ws_M_tileAt hs0_ rfl (c_M_tileAt l hty hs0_ hr25) rfl (by decide) rfl (Nat.le_of_ble_eq_true rfl) rfl rfl (by decide) (by decide) rfl ?_
    refine ax_imul (q := 60) hX dc_M_byteAt_59 rfl ?_
    refine ax_iload_n (q := 61) hX dc_M_byteAt_60 rfl rfl rfl ?_
    refine ax_iadd (q := 62) hX dc_M_byteAt_61 rfl ?_
    obtain ⟨j28, hj29, h⟩ := ax_bd h
    have hj29 := ax_ix_s hty hs23 hj29
    refine ax_iald (q := 63) hX j28 dc_M_byteAt_62 rfl hs23 hj29.1 hj29.2.1 hj29.2.2 ?_
    cases h
    exact ax_iret hX hF dc_M_byteAt_63 rfl rfl (by decide) (by decide) ax_eq.mk (by rw [hS0]; exact fun _ _ z => z)
  · rw [if_neg z20] at h
    refine ax_iconst (v := 0) (q := 45) hX dc_M_byteAt_44 rfl (by decide) ?_
    refine ax_goto (tgt := 63) hX dc_M_byteAt_45 (by decide) ?_
    cases h
    exact ax_iret hX hF dc_M_byteAt_63 rfl rfl (by decide) (by decide) ax_eq.mk (by rw [hS0]; exact fun _ _ z => z)
def d_M_byteAt_29 (S : ax_S) (I : ax_I) (R : ax_R) (u0 : Nat) (x1 : Int32) (x2 : Int32) (w0 : Nat) : Option (Int32 × ax_I) :=
  d_M_byteAt_34 S  I R u0 (x1) (x2) (1) w0
set_option maxHeartbeats 1000000 in
theorem e_M_byteAt_29 {l : Launch} {X : ax_X} {S : ax_S} {L : ax_L} {R0 : ax_R} {out : Int32 × ax_I} (hX : ax_ok X l "LossFreeToolsModel" b_M_byteAt 3 (ax_rm 3 0 0)) (hF : ax_fin X (some .int) 0 0 (ax_of (ax_eq (some (.int out.1)) S out.2 R0 L))) (hS0 : ax_S0 X = S) : ∀ (I : ax_I) (R : ax_R) (u0 : Nat) (x1 : Int32) (x2 : Int32) (w0 : Nat), ax_typ S R → (S u0 = some (.inl 5)) → (S w0 = some (.inl 5)) → R = R0 → d_M_byteAt_29 S  I R u0 x1 x2 w0 = some out → ax_W X 3 29 [some (.ref u0), some (.int (x1)), some (.int (x2))] [.ref w0] S I R L 0 0 := by
  rintro I R u0 x1 x2 w0 hty hs0_ hw0_ hR0 h
  subst hR0
  unfold d_M_byteAt_29 at h
  refine ax_iconst (v := 1) (q := 30) hX dc_M_byteAt_29 rfl (by decide) ?_
  refine ax_goto (tgt := 34) hX dc_M_byteAt_30 (by decide) ?_
  exact (e_M_byteAt_34 hX hF hS0  I R u0 (x1) (x2) (1) w0 hty hs0_ hw0_ rfl h)
def d_M_byteAt (S : ax_S) (I : ax_I) (R : ax_R) (u0 : Nat) (x1 : Int32) (x2 : Int32) : Option (Int32 × ax_I) :=
  (d_M_isTile S I R u0 (x1)).bind fun r3 =>
  if (ax_b r3) = 0 then
    d_M_byteAt_29 S  I R u0 (x1) (x2) u0
  else
    (R u0 13).bind fun u5 =>
    (d_M_tileAt S I R u0 (x1)).bind fun r11 =>
    (ax_ix S u5 (r11)).bind fun j12 =>
    (d_M_in S I R (x2) (0) ((I u5 j12) - 1)).bind fun r16 =>
    if (ax_b r16) = 0 then
      d_M_byteAt_29 S  I R u0 (x1) (x2) u0
    else
      d_M_byteAt_34 S  I R u0 (x1) (x2) (0) u0
set_option maxHeartbeats 1000000 in
theorem c_M_byteAt (l : Launch) {S : ax_S} {I : ax_I} {R : ax_R} {L : ax_L} {u0 : Nat} {x1 : Int32} {x2 : Int32} {out : Int32 × ax_I} (hty : ax_typ S R) (hs0 : S u0 = some (.inl 5)) (h : d_M_byteAt S I R u0 x1 x2 = some out) : ax_Met l y_M_byteAt b_M_byteAt 3 (some .int) (ax_rm 3 0 0) [.ref u0, .int x1, .int x2] S I R L (ax_eq (some (.int out.1)) S out.2 R L) := by
  refine ax_enter (own := "LossFreeToolsModel") (by decide +kernel) rfl (ax_cats rfl) (Nat.le_of_ble_eq_true rfl) (fun X hX hF _ hS0 => ?_)
  show ax_W X 3 0 [some (.ref u0), some (.int (x1)), some (.int (x2))] [] S I R L 0 0
  unfold d_M_byteAt at h
  refine ax_aload_n (q := 1) hX dc_M_byteAt_0 rfl rfl rfl ?_
  refine ax_aload_n (q := 2) hX dc_M_byteAt_1 rfl rfl rfl ?_
  refine ax_iload_n (q := 3) hX dc_M_byteAt_2 rfl rfl rfl ?_
  obtain ⟨r3, hr1, h⟩ := ax_bd h
  refine ax_kV (vs := [.int (x1)]) (rest := [.ref u0]) (q := 6) hX dc_M_byteAt_3 rfl mt_M_isTile wl_M_96 wi_M_isTile ws_M_isTile hs0 rfl (c_M_isTile l hty hs0 hr1) rfl (by decide) rfl (Nat.le_of_ble_eq_true rfl) rfl rfl (by decide) (by decide) rfl ?_
  refine ax_if_eq (tgt := 29) (q := 9) hX dc_M_byteAt_6 rfl (by decide) (fun z4 => ?_) (fun z4 => ?_)
  · rw [if_pos z4] at h
    exact (e_M_byteAt_29 hX hF hS0  I R u0 (x1) (x2) u0 hty hs0 hs0 rfl h)
  · rw [if_neg z4] at h
    refine ax_iload_n (q := 10) hX dc_M_byteAt_9 rfl rfl rfl ?_
    refine ax_iconst (v := 0) (q := 11) hX dc_M_byteAt_10 rfl (by decide) ?_
    refine ax_aload_n (q := 12) hX dc_M_byteAt_11 rfl rfl rfl ?_
    obtain ⟨u5, hu6, h⟩ := ax_bd h
    obtain ⟨n8, hs7⟩ : ∃ n, S u5 = some (.inr (0, n)) := hty.1 _ _ _ _ hs0 hu6
    refine ax_getR (q := 15) hX dc_M_byteAt_12 rfl fl_M_37 rfl hs0 hu6 ?_
    refine ax_aload_n (q := 16) hX dc_M_byteAt_15 rfl rfl rfl ?_
    refine ax_iload_n (q := 17) hX dc_M_byteAt_16 rfl rfl rfl ?_
    obtain ⟨r11, hr9, h⟩ := ax_bd h
    refine ax_kV (vs := [.int (x1)]) (rest := [.ref u5, .int (0), .int (x2), .ref u0]) (q := 20) hX dc_M_byteAt_17 rfl mt_M_tileAt wl_M_92 wi_M_tileAt ws_M_tileAt hs0 rfl (c_M_tileAt l hty hs0 hr9) rfl (by decide) rfl (Nat.le_of_ble_eq_true rfl) rfl rfl (by decide) (by decide) rfl ?_
    obtain ⟨j12, hj13, h⟩ := ax_bd h
    have hj13 := ax_ix_s hty hs7 hj13
    refine ax_iald (q := 21) hX j12 dc_M_byteAt_20 rfl hs7 hj13.1 hj13.2.1 hj13.2.2 ?_
    refine ax_iconst (v := 1) (q := 22) hX dc_M_byteAt_21 rfl (by decide) ?_
    refine ax_isub (q := 23) hX dc_M_byteAt_22 rfl ?_
    obtain ⟨r16, hr14, h⟩ := ax_bd h
    refine ax_kS (vs := [.int (x2), .int (0), .int ((I u5 j12) - 1)]) (rest := [.ref u0]) (q := 26) hX dc_M_byteAt_23 rfl mt_M_in wl_M_84 wt_M_in (c_M_in l hty  hr14) rfl (by decide) rfl (Nat.le_of_ble_eq_true rfl) rfl rfl (by decide) (by decide) rfl ?_
    refine ax_if_ne (tgt := 33) (q := 29) hX dc_M_byteAt_26 rfl (by decide) (fun z17 => ?_) (fun z17 => ?_)
    · rw [if_neg z17] at h
      refine ax_iconst (v := 0) (q := 34) hX dc_M_byteAt_33 rfl (by decide) ?_
      exact (e_M_byteAt_34 hX hF hS0  I R u0 (x1) (x2) (0) u0 hty hs0 hs0 rfl h)
    · rw [if_pos z17] at h
      exact (e_M_byteAt_29 hX hF hS0  I R u0 (x1) (x2) u0 hty hs0 hs0 rfl h)
def d_M_shown_218 (S : ax_S) (I : ax_I) (R : ax_R) (u0 : Nat) : Option (Int32 × ax_I) :=
  if (I u0 0) ≤ 0 then
    some ((-1), I)
  else
    some (0, I)
set_option maxHeartbeats 1000000 in
theorem e_M_shown_218 {l : Launch} {X : ax_X} {S : ax_S} {L : ax_L} {R0 : ax_R} {out : Int32 × ax_I} (hX : ax_ok X l "LossFreeToolsModel" b_M_shown 7 (ax_rm 3 0 0)) (hF : ax_fin X (some .int) 0 0 (ax_of (ax_eq (some (.int out.1)) S out.2 R0 L))) (hS0 : ax_S0 X = S) : ∀ (I : ax_I) (R : ax_R) (u0 : Nat), ax_typ S R → (S u0 = some (.inl 5)) → R = R0 → d_M_shown_218 S  I R u0 = some out → ax_W X 7 218 [some (.ref u0), none, none, none, none, none, none] [] S I R L 0 0 := by
  rintro I R u0 hty hs0_ hR0 h
  subst hR0
  unfold d_M_shown_218 at h
  refine ax_aload_n (q := 219) hX dc_M_shown_218 rfl rfl rfl ?_
  refine ax_getI (q := 222) hX dc_M_shown_219 rfl fl_M_68 rfl hs0_ ?_
  refine ax_if_le (tgt := 229) (q := 225) hX dc_M_shown_222 rfl (by decide) (fun z127 => ?_) (fun z127 => ?_)
  · rw [if_pos z127] at h
    refine ax_iconst (v := (-1)) (q := 230) hX dc_M_shown_229 rfl (by decide) ?_
    cases h
    exact ax_iret hX hF dc_M_shown_230 rfl rfl (by decide) (by decide) ax_eq.mk (by rw [hS0]; exact fun _ _ z => z)
  · rw [if_neg z127] at h
    refine ax_iconst (v := 0) (q := 226) hX dc_M_shown_225 rfl (by decide) ?_
    refine ax_goto (tgt := 230) hX dc_M_shown_226 (by decide) ?_
    cases h
    exact ax_iret hX hF dc_M_shown_230 rfl rfl (by decide) (by decide) ax_eq.mk (by rw [hS0]; exact fun _ _ z => z)
def d_M_shown_212 (S : ax_S) (rec20 : ax_I → ax_R → Nat → Int32 → Int32 → Int32 → Option (Int32 × ax_I)) (I : ax_I) (R : ax_R) (u0 : Nat) (x1 : Int32) (x2 : Int32) (x3 : Int32) : Option (Int32 × ax_I) :=
  rec20 I R u0 (x1) (x2) (x3 + 1)
set_option maxHeartbeats 1000000 in
theorem e_M_shown_212 {l : Launch} {X : ax_X} {S : ax_S} {L : ax_L} {R0 : ax_R} {out : Int32 × ax_I} (hX : ax_ok X l "LossFreeToolsModel" b_M_shown 7 (ax_rm 3 0 0)) (hF : ax_fin X (some .int) 0 0 (ax_of (ax_eq (some (.int out.1)) S out.2 R0 L))) (hS0 : ax_S0 X = S) (rec20 : ax_I → ax_R → Nat → Int32 → Int32 → Int32 → Option (Int32 × ax_I)) (hrec20 : ∀ (I : ax_I) (R : ax_R) (u0 : Nat) (x1 : Int32) (x2 : Int32) (x3 : Int32), ax_typ S R → (S u0 = some (.inl 5)) → R = R0 → rec20 I R u0 x1 x2 x3 = some out → ax_W X 7 20 [some (.ref u0), some (.int (x1)), some (.int (x2)), some (.int (x3)), none, none, none] [] S I R L 0 0) : ∀ (I : ax_I) (R : ax_R) (u0 : Nat) (x1 : Int32) (x2 : Int32) (x3 : Int32), ax_typ S R → (S u0 = some (.inl 5)) → R = R0 → d_M_shown_212 S rec20 I R u0 x1 x2 x3 = some out → ax_W X 7 212 [some (.ref u0), some (.int (x1)), some (.int (x2)), some (.int (x3)), none, none, none] [] S I R L 0 0 := by
  rintro I R u0 x1 x2 x3 hty hs0_ hR0 h
  subst hR0
  unfold d_M_shown_212 at h
  refine ax_iinc (v := x3 + 1) (ls' := [some (.ref u0), some (.int (x1)), some (.int (x2)), some (.int (x3 + 1)), none, none, none]) (q := 215) hX dc_M_shown_212 rfl rfl rfl (by decide) rfl ?_
  refine ax_goto (tgt := 20) hX dc_M_shown_215 (by decide) ?_
  exact (hrec20 I R u0 (x1) (x2) (x3 + 1) hty hs0_ rfl h)
def d_M_shown_171 (S : ax_S) (I : ax_I) (R : ax_R) (u0 : Nat) (x1 : Int32) (x2 : Int32) (x3 : Int32) (x4 : Int32) (x5 : Int32) (y0 : Int32) : Option (Int32 × ax_I) :=
  (R u0 12).bind fun u106 =>
  (ax_ix S u106 (x4)).bind fun j110 =>
  (R u0 8).bind fun u112 =>
  (ax_ix S u112 (x4)).bind fun j116 =>
  (R u0 9).bind fun u118 =>
  (ax_ix S u118 (x4)).bind fun j122 =>
  (d_M_ownOf S I R (I u106 j110) (x1 - (I u112 j116)) (x2 - (I u118 j122)) (x5) (y0)).bind fun r126 =>
  some ((4096 * x3) + r126, I)
set_option maxHeartbeats 1000000 in
theorem e_M_shown_171 {l : Launch} {X : ax_X} {S : ax_S} {L : ax_L} {R0 : ax_R} {out : Int32 × ax_I} (hX : ax_ok X l "LossFreeToolsModel" b_M_shown 7 (ax_rm 3 0 0)) (hF : ax_fin X (some .int) 0 0 (ax_of (ax_eq (some (.int out.1)) S out.2 R0 L))) (hS0 : ax_S0 X = S) : ∀ (I : ax_I) (R : ax_R) (u0 : Nat) (x1 : Int32) (x2 : Int32) (x3 : Int32) (x4 : Int32) (x5 : Int32) (y0 : Int32), ax_typ S R → (S u0 = some (.inl 5)) → R = R0 → d_M_shown_171 S  I R u0 x1 x2 x3 x4 x5 y0 = some out → ax_W X 7 171 [some (.ref u0), some (.int (x1)), some (.int (x2)), some (.int (x3)), some (.int (x4)), some (.int (x5)), none] [.int (y0)] S I R L 0 0 := by
  rintro I R u0 x1 x2 x3 x4 x5 y0 hty hs0_ hR0 h
  subst hR0
  unfold d_M_shown_171 at h
  refine ax_istore (ls' := [some (.ref u0), some (.int (x1)), some (.int (x2)), some (.int (x3)), some (.int (x4)), some (.int (x5)), some (.int (y0))]) (q := 173) hX dc_M_shown_171 rfl (by decide) rfl ?_
  refine ax_sipush (v := 4096) (q := 176) hX dc_M_shown_173 rfl (by decide) ?_
  refine ax_iload_n (q := 177) hX dc_M_shown_176 rfl rfl rfl ?_
  refine ax_imul (q := 178) hX dc_M_shown_177 rfl ?_
  refine ax_aload_n (q := 179) hX dc_M_shown_178 rfl rfl rfl ?_
  obtain ⟨u106, hu107, h⟩ := ax_bd h
  obtain ⟨n109, hs108⟩ : ∃ n, S u106 = some (.inr (0, n)) := hty.1 _ _ _ _ hs0_ hu107
  refine ax_getR (q := 182) hX dc_M_shown_179 rfl fl_M_34 rfl hs0_ hu107 ?_
  refine ax_iload (q := 184) hX dc_M_shown_182 rfl rfl ?_
  obtain ⟨j110, hj111, h⟩ := ax_bd h
  have hj111 := ax_ix_s hty hs108 hj111
  refine ax_iald (q := 185) hX j110 dc_M_shown_184 rfl hs108 hj111.1 hj111.2.1 hj111.2.2 ?_
  refine ax_iload_n (q := 186) hX dc_M_shown_185 rfl rfl rfl ?_
  refine ax_aload_n (q := 187) hX dc_M_shown_186 rfl rfl rfl ?_
  obtain ⟨u112, hu113, h⟩ := ax_bd h
  obtain ⟨n115, hs114⟩ : ∃ n, S u112 = some (.inr (0, n)) := hty.1 _ _ _ _ hs0_ hu113
  refine ax_getR (q := 190) hX dc_M_shown_187 rfl fl_M_22 rfl hs0_ hu113 ?_
  refine ax_iload (q := 192) hX dc_M_shown_190 rfl rfl ?_
  obtain ⟨j116, hj117, h⟩ := ax_bd h
  have hj117 := ax_ix_s hty hs114 hj117
  refine ax_iald (q := 193) hX j116 dc_M_shown_192 rfl hs114 hj117.1 hj117.2.1 hj117.2.2 ?_
  refine ax_isub (q := 194) hX dc_M_shown_193 rfl ?_
  refine ax_iload_n (q := 195) hX dc_M_shown_194 rfl rfl rfl ?_
  refine ax_aload_n (q := 196) hX dc_M_shown_195 rfl rfl rfl ?_
  obtain ⟨u118, hu119, h⟩ := ax_bd h
  obtain ⟨n121, hs120⟩ : ∃ n, S u118 = some (.inr (0, n)) := hty.1 _ _ _ _ hs0_ hu119
  refine ax_getR (q := 199) hX dc_M_shown_196 rfl fl_M_25 rfl hs0_ hu119 ?_
  refine ax_iload (q := 201) hX dc_M_shown_199 rfl rfl ?_
  obtain ⟨j122, hj123, h⟩ := ax_bd h
  have hj123 := ax_ix_s hty hs120 hj123
  refine ax_iald (q := 202) hX j122 dc_M_shown_201 rfl hs120 hj123.1 hj123.2.1 hj123.2.2 ?_
  refine ax_isub (q := 203) hX dc_M_shown_202 rfl ?_
  refine ax_iload (q := 205) hX dc_M_shown_203 rfl rfl ?_
  refine ax_iload (q := 207) hX dc_M_shown_205 rfl rfl ?_
  obtain ⟨r126, hr124, h⟩ := ax_bd h
  refine ax_kS (vs := [.int (I u106 j110), .int (x1 - (I u112 j116)), .int (x2 - (I u118 j122)), .int (x5), .int (y0)]) (rest := [.int (4096 * x3)]) (q := 210) hX dc_M_shown_207 rfl mt_M_ownOf wl_M_130 wt_M_ownOf (c_M_ownOf l hty  hr124) rfl (by decide) rfl (Nat.le_of_ble_eq_true rfl) rfl rfl (by decide) (by decide) rfl ?_
  refine ax_iadd (q := 211) hX dc_M_shown_210 rfl ?_
  cases h
  exact ax_iret hX hF dc_M_shown_211 rfl rfl (by decide) (by decide) ax_eq.mk (by rw [hS0]; exact fun _ _ z => z)
def d_M_shown_139 (S : ax_S) (I : ax_I) (R : ax_R) (u0 : Nat) (x1 : Int32) (x2 : Int32) (x3 : Int32) (x4 : Int32) (y0 : Int32) : Option (Int32 × ax_I) :=
  (R u0 12).bind fun u84 =>
  (ax_ix S u84 (x4)).bind fun j88 =>
  (d_M_isTurned S I R (I u84 j88)).bind fun r92 =>
  if (ax_b r92) = 0 then
    (R u0 11).bind fun u94 =>
    (ax_ix S u94 (x4)).bind fun j98 =>
    d_M_shown_171 S  I R u0 (x1) (x2) (x3) (x4) (y0) (I u94 j98)
  else
    (R u0 10).bind fun u100 =>
    (ax_ix S u100 (x4)).bind fun j104 =>
    d_M_shown_171 S  I R u0 (x1) (x2) (x3) (x4) (y0) (I u100 j104)
set_option maxHeartbeats 1000000 in
theorem e_M_shown_139 {l : Launch} {X : ax_X} {S : ax_S} {L : ax_L} {R0 : ax_R} {out : Int32 × ax_I} (hX : ax_ok X l "LossFreeToolsModel" b_M_shown 7 (ax_rm 3 0 0)) (hF : ax_fin X (some .int) 0 0 (ax_of (ax_eq (some (.int out.1)) S out.2 R0 L))) (hS0 : ax_S0 X = S) : ∀ (I : ax_I) (R : ax_R) (u0 : Nat) (x1 : Int32) (x2 : Int32) (x3 : Int32) (x4 : Int32) (y0 : Int32), ax_typ S R → (S u0 = some (.inl 5)) → R = R0 → d_M_shown_139 S  I R u0 x1 x2 x3 x4 y0 = some out → ax_W X 7 139 [some (.ref u0), some (.int (x1)), some (.int (x2)), some (.int (x3)), some (.int (x4)), none, none] [.int (y0)] S I R L 0 0 := by
  rintro I R u0 x1 x2 x3 x4 y0 hty hs0_ hR0 h
  subst hR0
  unfold d_M_shown_139 at h
  refine ax_istore (ls' := [some (.ref u0), some (.int (x1)), some (.int (x2)), some (.int (x3)), some (.int (x4)), some (.int (y0)), none]) (q := 141) hX dc_M_shown_139 rfl (by decide) rfl ?_
  refine ax_aload_n (q := 142) hX dc_M_shown_141 rfl rfl rfl ?_
  obtain ⟨u84, hu85, h⟩ := ax_bd h
  obtain ⟨n87, hs86⟩ : ∃ n, S u84 = some (.inr (0, n)) := hty.1 _ _ _ _ hs0_ hu85
  refine ax_getR (q := 145) hX dc_M_shown_142 rfl fl_M_34 rfl hs0_ hu85 ?_
  refine ax_iload (q := 147) hX dc_M_shown_145 rfl rfl ?_
  obtain ⟨j88, hj89, h⟩ := ax_bd h
  have hj89 := ax_ix_s hty hs86 hj89
  refine ax_iald (q := 148) hX j88 dc_M_shown_147 rfl hs86 hj89.1 hj89.2.1 hj89.2.2 ?_
  obtain ⟨r92, hr90, h⟩ := ax_bd h
  refine ax_kS (vs := [.int (I u84 j88)]) (rest := []) (q := 151) hX dc_M_shown_148 rfl mt_M_isTurned wl_M_123 wt_M_isTurned (c_M_isTurned l hty  hr90) rfl (by decide) rfl (Nat.le_of_ble_eq_true rfl) rfl rfl (by decide) (by decide) rfl ?_
  refine ax_if_eq (tgt := 164) (q := 154) hX dc_M_shown_151 rfl (by decide) (fun z93 => ?_) (fun z93 => ?_)
  · rw [if_pos z93] at h
    refine ax_aload_n (q := 165) hX dc_M_shown_164 rfl rfl rfl ?_
    obtain ⟨u94, hu95, h⟩ := ax_bd h
    obtain ⟨n97, hs96⟩ : ∃ n, S u94 = some (.inr (0, n)) := hty.1 _ _ _ _ hs0_ hu95
    refine ax_getR (q := 168) hX dc_M_shown_165 rfl fl_M_31 rfl hs0_ hu95 ?_
    refine ax_iload (q := 170) hX dc_M_shown_168 rfl rfl ?_
    obtain ⟨j98, hj99, h⟩ := ax_bd h
    have hj99 := ax_ix_s hty hs96 hj99
    refine ax_iald (q := 171) hX j98 dc_M_shown_170 rfl hs96 hj99.1 hj99.2.1 hj99.2.2 ?_
    exact (e_M_shown_171 hX hF hS0  I R u0 (x1) (x2) (x3) (x4) (y0) (I u94 j98) hty hs0_ rfl h)
  · rw [if_neg z93] at h
    refine ax_aload_n (q := 155) hX dc_M_shown_154 rfl rfl rfl ?_
    obtain ⟨u100, hu101, h⟩ := ax_bd h
    obtain ⟨n103, hs102⟩ : ∃ n, S u100 = some (.inr (0, n)) := hty.1 _ _ _ _ hs0_ hu101
    refine ax_getR (q := 158) hX dc_M_shown_155 rfl fl_M_28 rfl hs0_ hu101 ?_
    refine ax_iload (q := 160) hX dc_M_shown_158 rfl rfl ?_
    obtain ⟨j104, hj105, h⟩ := ax_bd h
    have hj105 := ax_ix_s hty hs102 hj105
    refine ax_iald (q := 161) hX j104 dc_M_shown_160 rfl hs102 hj105.1 hj105.2.1 hj105.2.2 ?_
    refine ax_goto (tgt := 171) hX dc_M_shown_161 (by decide) ?_
    exact (e_M_shown_171 hX hF hS0  I R u0 (x1) (x2) (x3) (x4) (y0) (I u100 j104) hty hs0_ rfl h)
def d_M_shown_20 (S : ax_S) : Nat → ax_I → ax_R → Nat → Int32 → Int32 → Int32 → Option (Int32 × ax_I)
  | 0, _, _, _, _, _, _ => none
  | n + 1, I, R, u0, x1, x2, x3 =>
    (R u0 6).bind fun u7 =>
    (ax_ix S u7 (I u0 3)).bind fun j11 =>
    if (I u7 j11) ≤ x3 then
      d_M_shown_218 S  I R u0
    else
      if (I u0 0) = 0 then
        (d_M_tileAt S I R u0 (x3)).bind fun r17 =>
        (R u0 8).bind fun u18 =>
        (ax_ix S u18 (r17)).bind fun j22 =>
        (R u0 8).bind fun u24 =>
        (ax_ix S u24 (r17)).bind fun j28 =>
        (R u0 10).bind fun u30 =>
        (ax_ix S u30 (r17)).bind fun j34 =>
        (d_M_in S I R (x1) (I u18 j22) (((I u24 j28) + (I u30 j34)) - 1)).bind fun r38 =>
        if (ax_b r38) = 0 then
          d_M_shown_212 S (d_M_shown_20 S  n) I R u0 (x1) (x2) (x3)
        else
          (R u0 9).bind fun u40 =>
          (ax_ix S u40 (r17)).bind fun j44 =>
          (R u0 9).bind fun u46 =>
          (ax_ix S u46 (r17)).bind fun j50 =>
          (R u0 11).bind fun u52 =>
          (ax_ix S u52 (r17)).bind fun j56 =>
          (d_M_in S I R (x2) (I u40 j44) (((I u46 j50) + (I u52 j56)) - 1)).bind fun r60 =>
          if (ax_b r60) = 0 then
            d_M_shown_212 S (d_M_shown_20 S  n) I R u0 (x1) (x2) (x3)
          else
            (R u0 12).bind fun u62 =>
            (ax_ix S u62 (r17)).bind fun j66 =>
            (d_M_isTurned S I R (I u62 j66)).bind fun r70 =>
            if (ax_b r70) = 0 then
              (R u0 10).bind fun u72 =>
              (ax_ix S u72 (r17)).bind fun j76 =>
              d_M_shown_139 S  I R u0 (x1) (x2) (x3) (r17) (I u72 j76)
            else
              (R u0 11).bind fun u78 =>
              (ax_ix S u78 (r17)).bind fun j82 =>
              d_M_shown_139 S  I R u0 (x1) (x2) (x3) (r17) (I u78 j82)
      else
        d_M_shown_218 S  I R u0
set_option maxHeartbeats 1000000 in
theorem e_M_shown_20 {l : Launch} {X : ax_X} {S : ax_S} {L : ax_L} {R0 : ax_R} {out : Int32 × ax_I} (hX : ax_ok X l "LossFreeToolsModel" b_M_shown 7 (ax_rm 3 0 0)) (hF : ax_fin X (some .int) 0 0 (ax_of (ax_eq (some (.int out.1)) S out.2 R0 L))) (hS0 : ax_S0 X = S) : ∀ (n : Nat), ∀ (I : ax_I) (R : ax_R) (u0 : Nat) (x1 : Int32) (x2 : Int32) (x3 : Int32), ax_typ S R → (S u0 = some (.inl 5)) → R = R0 → d_M_shown_20 S  n I R u0 x1 x2 x3 = some out → ax_W X 7 20 [some (.ref u0), some (.int (x1)), some (.int (x2)), some (.int (x3)), none, none, none] [] S I R L 0 0 := by
  intro n
  induction n with
  | zero =>
    rintro I R u0 x1 x2 x3 hty hs0_ hR0 h
    cases h
  | succ n ih =>
    rintro I R u0 x1 x2 x3 hty hs0_ hR0 h
    subst hR0
    unfold d_M_shown_20 at h
    refine ax_iload_n (q := 21) hX dc_M_shown_20 rfl rfl rfl ?_
    refine ax_aload_n (q := 22) hX dc_M_shown_21 rfl rfl rfl ?_
    obtain ⟨u7, hu8, h⟩ := ax_bd h
    obtain ⟨n10, hs9⟩ : ∃ n, S u7 = some (.inr (0, n)) := hty.1 _ _ _ _ hs0_ hu8
    refine ax_getR (q := 25) hX dc_M_shown_22 rfl fl_M_16 rfl hs0_ hu8 ?_
    refine ax_aload_n (q := 26) hX dc_M_shown_25 rfl rfl rfl ?_
    refine ax_getI (q := 29) hX dc_M_shown_26 rfl fl_M_71 rfl hs0_ ?_
    obtain ⟨j11, hj12, h⟩ := ax_bd h
    have hj12 := ax_ix_s hty hs9 hj12
    refine ax_iald (q := 30) hX j11 dc_M_shown_29 rfl hs9 hj12.1 hj12.2.1 hj12.2.2 ?_
    refine ax_icmp_ge (tgt := 218) (q := 33) hX dc_M_shown_30 rfl (by decide) (fun z13 => ?_) (fun z13 => ?_)
    · rw [if_pos z13] at h
      exact ax_weak (ls' := [some (.ref u0), none, none, none, none, none, none]) (ax_fewP_s _ _ (by repeat (first | exact trivial | (refine And.intro rfl ?_)))) (e_M_shown_218 hX hF hS0  I R u0 hty hs0_ rfl h)
    · rw [if_neg z13] at h
      refine ax_aload_n (q := 34) hX dc_M_shown_33 rfl rfl rfl ?_
      refine ax_getI (q := 37) hX dc_M_shown_34 rfl fl_M_68 rfl hs0_ ?_
      refine ax_if_ne (tgt := 218) (q := 40) hX dc_M_shown_37 rfl (by decide) (fun z14 => ?_) (fun z14 => ?_)
      · rw [if_neg z14] at h
        exact ax_weak (ls' := [some (.ref u0), none, none, none, none, none, none]) (ax_fewP_s _ _ (by repeat (first | exact trivial | (refine And.intro rfl ?_)))) (e_M_shown_218 hX hF hS0  I R u0 hty hs0_ rfl h)
      · rw [if_pos z14] at h
        refine ax_aload_n (q := 41) hX dc_M_shown_40 rfl rfl rfl ?_
        refine ax_iload_n (q := 42) hX dc_M_shown_41 rfl rfl rfl ?_
        obtain ⟨r17, hr15, h⟩ := ax_bd h
        refine ax_kV (vs := [.int (x3)]) (rest := []) (q := 45) hX dc_M_shown_42 rfl mt_M_tileAt wl_M_92 wi_M_tileAt ws_M_tileAt hs0_ rfl (c_M_tileAt l hty hs0_ hr15) rfl (by decide) rfl (Nat.le_of_ble_eq_true rfl) rfl rfl (by decide) (by decide) rfl ?_
        refine ax_istore (ls' := [some (.ref u0), some (.int (x1)), some (.int (x2)), some (.int (x3)), some (.int (r17)), none, none]) (q := 47) hX dc_M_shown_45 rfl (by decide) rfl ?_
        refine ax_iload_n (q := 48) hX dc_M_shown_47 rfl rfl rfl ?_
        refine ax_aload_n (q := 49) hX dc_M_shown_48 rfl rfl rfl ?_
        obtain ⟨u18, hu19, h⟩ := ax_bd h
        obtain ⟨n21, hs20⟩ : ∃ n, S u18 = some (.inr (0, n)) := hty.1 _ _ _ _ hs0_ hu19
        refine ax_getR (q := 52) hX dc_M_shown_49 rfl fl_M_22 rfl hs0_ hu19 ?_
        refine ax_iload (q := 54) hX dc_M_shown_52 rfl rfl ?_
        obtain ⟨j22, hj23, h⟩ := ax_bd h
        have hj23 := ax_ix_s hty hs20 hj23
        refine ax_iald (q := 55) hX j22 dc_M_shown_54 rfl hs20 hj23.1 hj23.2.1 hj23.2.2 ?_
        refine ax_aload_n (q := 56) hX dc_M_shown_55 rfl rfl rfl ?_
        obtain ⟨u24, hu25, h⟩ := ax_bd h
        obtain ⟨n27, hs26⟩ : ∃ n, S u24 = some (.inr (0, n)) := hty.1 _ _ _ _ hs0_ hu25
        refine ax_getR (q := 59) hX dc_M_shown_56 rfl fl_M_22 rfl hs0_ hu25 ?_
        refine ax_iload (q := 61) hX dc_M_shown_59 rfl rfl ?_
        obtain ⟨j28, hj29, h⟩ := ax_bd h
        have hj29 := ax_ix_s hty hs26 hj29
        refine ax_iald (q := 62) hX j28 dc_M_shown_61 rfl hs26 hj29.1 hj29.2.1 hj29.2.2 ?_
        refine ax_aload_n (q := 63) hX dc_M_shown_62 rfl rfl rfl ?_
        obtain ⟨u30, hu31, h⟩ := ax_bd h
        obtain ⟨n33, hs32⟩ : ∃ n, S u30 = some (.inr (0, n)) := hty.1 _ _ _ _ hs0_ hu31
        refine ax_getR (q := 66) hX dc_M_shown_63 rfl fl_M_28 rfl hs0_ hu31 ?_
        refine ax_iload (q := 68) hX dc_M_shown_66 rfl rfl ?_
        obtain ⟨j34, hj35, h⟩ := ax_bd h
        have hj35 := ax_ix_s hty hs32 hj35
        refine ax_iald (q := 69) hX j34 dc_M_shown_68 rfl hs32 hj35.1 hj35.2.1 hj35.2.2 ?_
        refine ax_iadd (q := 70) hX dc_M_shown_69 rfl ?_
        refine ax_iconst (v := 1) (q := 71) hX dc_M_shown_70 rfl (by decide) ?_
        refine ax_isub (q := 72) hX dc_M_shown_71 rfl ?_
        obtain ⟨r38, hr36, h⟩ := ax_bd h
        refine ax_kS (vs := [.int (x1), .int (I u18 j22), .int (((I u24 j28) + (I u30 j34)) - 1)]) (rest := []) (q := 75) hX dc_M_shown_72 rfl mt_M_in wl_M_84 wt_M_in (c_M_in l hty  hr36) rfl (by decide) rfl (Nat.le_of_ble_eq_true rfl) rfl rfl (by decide) (by decide) rfl ?_
        refine ax_if_eq (tgt := 212) (q := 78) hX dc_M_shown_75 rfl (by decide) (fun z39 => ?_) (fun z39 => ?_)
        · rw [if_pos z39] at h
          exact ax_weak (ls' := [some (.ref u0), some (.int (x1)), some (.int (x2)), some (.int (x3)), none, none, none]) (ax_fewP_s _ _ (by repeat (first | exact trivial | (refine And.intro rfl ?_)))) (e_M_shown_212 hX hF hS0 (d_M_shown_20 S  n) (ih) I R u0 (x1) (x2) (x3) hty hs0_ rfl h)
        · rw [if_neg z39] at h
          refine ax_iload_n (q := 79) hX dc_M_shown_78 rfl rfl rfl ?_
          refine ax_aload_n (q := 80) hX dc_M_shown_79 rfl rfl rfl ?_
          obtain ⟨u40, hu41, h⟩ := ax_bd h
          obtain ⟨n43, hs42⟩ : ∃ n, S u40 = some (.inr (0, n)) := hty.1 _ _ _ _ hs0_ hu41
          refine ax_getR (q := 83) hX dc_M_shown_80 rfl fl_M_25 rfl hs0_ hu41 ?_
          refine ax_iload (q := 85) hX dc_M_shown_83 rfl rfl ?_
          obtain ⟨j44, hj45, h⟩ := ax_bd h
          have hj45 := ax_ix_s hty hs42 hj45
          refine ax_iald (q := 86) hX j44 dc_M_shown_85 rfl hs42 hj45.1 hj45.2.1 hj45.2.2 ?_
          refine ax_aload_n (q := 87) hX dc_M_shown_86 rfl rfl rfl ?_
          obtain ⟨u46, hu47, h⟩ := ax_bd h
          obtain ⟨n49, hs48⟩ : ∃ n, S u46 = some (.inr (0, n)) := hty.1 _ _ _ _ hs0_ hu47
          refine ax_getR (q := 90) hX dc_M_shown_87 rfl fl_M_25 rfl hs0_ hu47 ?_
          refine ax_iload (q := 92) hX dc_M_shown_90 rfl rfl ?_
          obtain ⟨j50, hj51, h⟩ := ax_bd h
          have hj51 := ax_ix_s hty hs48 hj51
          refine ax_iald (q := 93) hX j50 dc_M_shown_92 rfl hs48 hj51.1 hj51.2.1 hj51.2.2 ?_
          refine ax_aload_n (q := 94) hX dc_M_shown_93 rfl rfl rfl ?_
          obtain ⟨u52, hu53, h⟩ := ax_bd h
          obtain ⟨n55, hs54⟩ : ∃ n, S u52 = some (.inr (0, n)) := hty.1 _ _ _ _ hs0_ hu53
          refine ax_getR (q := 97) hX dc_M_shown_94 rfl fl_M_31 rfl hs0_ hu53 ?_
          refine ax_iload (q := 99) hX dc_M_shown_97 rfl rfl ?_
          obtain ⟨j56, hj57, h⟩ := ax_bd h
          have hj57 := ax_ix_s hty hs54 hj57
          refine ax_iald (q := 100) hX j56 dc_M_shown_99 rfl hs54 hj57.1 hj57.2.1 hj57.2.2 ?_
          refine ax_iadd (q := 101) hX dc_M_shown_100 rfl ?_
          refine ax_iconst (v := 1) (q := 102) hX dc_M_shown_101 rfl (by decide) ?_
          refine ax_isub (q := 103) hX dc_M_shown_102 rfl ?_
          obtain ⟨r60, hr58, h⟩ := ax_bd h
          refine ax_kS (vs := [.int (x2), .int (I u40 j44), .int (((I u46 j50) + (I u52 j56)) - 1)]) (rest := []) (q := 106) hX dc_M_shown_103 rfl mt_M_in wl_M_84 wt_M_in (c_M_in l hty  hr58) rfl (by decide) rfl (Nat.le_of_ble_eq_true rfl) rfl rfl (by decide) (by decide) rfl ?_
          refine ax_if_eq (tgt := 212) (q := 109) hX dc_M_shown_106 rfl (by decide) (fun z61 => ?_) (fun z61 => ?_)
          · rw [if_pos z61] at h
            exact ax_weak (ls' := [some (.ref u0), some (.int (x1)), some (.int (x2)), some (.int (x3)), none, none, none]) (ax_fewP_s _ _ (by repeat (first | exact trivial | (refine And.intro rfl ?_)))) (e_M_shown_212 hX hF hS0 (d_M_shown_20 S  n) (ih) I R u0 (x1) (x2) (x3) hty hs0_ rfl h)
          · rw [if_neg z61] at h
            refine ax_aload_n (q := 110) hX dc_M_shown_109 rfl rfl rfl ?_
            obtain ⟨u62, hu63, h⟩ := ax_bd h
            obtain ⟨n65, hs64⟩ : ∃ n, S u62 = some (.inr (0, n)) := hty.1 _ _ _ _ hs0_ hu63
            refine ax_getR (q := 113) hX dc_M_shown_110 rfl fl_M_34 rfl hs0_ hu63 ?_
            refine ax_iload (q := 115) hX dc_M_shown_113 rfl rfl ?_
            obtain ⟨j66, hj67, h⟩ := ax_bd h
            have hj67 := ax_ix_s hty hs64 hj67
            refine ax_iald (q := 116) hX j66 dc_M_shown_115 rfl hs64 hj67.1 hj67.2.1 hj67.2.2 ?_
            obtain ⟨r70, hr68, h⟩ := ax_bd h
            refine ax_kS (vs := [.int (I u62 j66)]) (rest := []) (q := 119) hX dc_M_shown_116 rfl mt_M_isTurned wl_M_123 wt_M_isTurned (c_M_isTurned l hty  hr68) rfl (by decide) rfl (Nat.le_of_ble_eq_true rfl) rfl rfl (by decide) (by decide) rfl ?_
            refine ax_if_eq (tgt := 132) (q := 122) hX dc_M_shown_119 rfl (by decide) (fun z71 => ?_) (fun z71 => ?_)
            · rw [if_pos z71] at h
              refine ax_aload_n (q := 133) hX dc_M_shown_132 rfl rfl rfl ?_
              obtain ⟨u72, hu73, h⟩ := ax_bd h
              obtain ⟨n75, hs74⟩ : ∃ n, S u72 = some (.inr (0, n)) := hty.1 _ _ _ _ hs0_ hu73
              refine ax_getR (q := 136) hX dc_M_shown_133 rfl fl_M_28 rfl hs0_ hu73 ?_
              refine ax_iload (q := 138) hX dc_M_shown_136 rfl rfl ?_
              obtain ⟨j76, hj77, h⟩ := ax_bd h
              have hj77 := ax_ix_s hty hs74 hj77
              refine ax_iald (q := 139) hX j76 dc_M_shown_138 rfl hs74 hj77.1 hj77.2.1 hj77.2.2 ?_
              exact (e_M_shown_139 hX hF hS0  I R u0 (x1) (x2) (x3) (r17) (I u72 j76) hty hs0_ rfl h)
            · rw [if_neg z71] at h
              refine ax_aload_n (q := 123) hX dc_M_shown_122 rfl rfl rfl ?_
              obtain ⟨u78, hu79, h⟩ := ax_bd h
              obtain ⟨n81, hs80⟩ : ∃ n, S u78 = some (.inr (0, n)) := hty.1 _ _ _ _ hs0_ hu79
              refine ax_getR (q := 126) hX dc_M_shown_123 rfl fl_M_31 rfl hs0_ hu79 ?_
              refine ax_iload (q := 128) hX dc_M_shown_126 rfl rfl ?_
              obtain ⟨j82, hj83, h⟩ := ax_bd h
              have hj83 := ax_ix_s hty hs80 hj83
              refine ax_iald (q := 129) hX j82 dc_M_shown_128 rfl hs80 hj83.1 hj83.2.1 hj83.2.2 ?_
              refine ax_goto (tgt := 139) hX dc_M_shown_129 (by decide) ?_
              exact (e_M_shown_139 hX hF hS0  I R u0 (x1) (x2) (x3) (r17) (I u78 j82) hty hs0_ rfl h)
def d_M_shown_15 (S : ax_S) (I : ax_I) (R : ax_R) (u0 : Nat) (x1 : Int32) (x2 : Int32) (y0 : Int32) (w1 : Nat) : Option (Int32 × ax_I) :=
  (some (ax_up I w1 0 (y0))).bind fun I5 =>
  d_M_shown_20 S  5000 I5 R u0 (x1) (x2) (0)
set_option maxHeartbeats 1000000 in
theorem e_M_shown_15 {l : Launch} {X : ax_X} {S : ax_S} {L : ax_L} {R0 : ax_R} {out : Int32 × ax_I} (hX : ax_ok X l "LossFreeToolsModel" b_M_shown 7 (ax_rm 3 0 0)) (hF : ax_fin X (some .int) 0 0 (ax_of (ax_eq (some (.int out.1)) S out.2 R0 L))) (hS0 : ax_S0 X = S) : ∀ (I : ax_I) (R : ax_R) (u0 : Nat) (x1 : Int32) (x2 : Int32) (y0 : Int32) (w1 : Nat), ax_typ S R → (S u0 = some (.inl 5)) → (S w1 = some (.inl 5)) → R = R0 → d_M_shown_15 S  I R u0 x1 x2 y0 w1 = some out → ax_W X 7 15 [some (.ref u0), some (.int (x1)), some (.int (x2)), none, none, none, none] [.int (y0), .ref w1] S I R L 0 0 := by
  rintro I R u0 x1 x2 y0 w1 hty hs0_ hw1_ hR0 h
  subst hR0
  unfold d_M_shown_15 at h
  obtain ⟨I5, e6, h⟩ := ax_bs h
  refine ax_putI (q := 18) hX dc_M_shown_15 rfl fl_M_68 rfl hw1_ (fun z => by cases z) rfl rfl e6 ?_
  refine ax_iconst (v := 0) (q := 19) hX dc_M_shown_18 rfl (by decide) ?_
  refine ax_istore_n (ls' := [some (.ref u0), some (.int (x1)), some (.int (x2)), some (.int (0)), none, none, none]) (q := 20) hX dc_M_shown_19 rfl rfl (by decide) rfl ?_
  exact (e_M_shown_20 hX hF hS0  5000 I5 R u0 (x1) (x2) (0) hty hs0_ rfl h)
def d_M_shown (S : ax_S) (I : ax_I) (R : ax_R) (u0 : Nat) (x1 : Int32) (x2 : Int32) : Option (Int32 × ax_I) :=
  (d_M_isSample S I R u0 (x1) (x2)).bind fun r3 =>
  if (ax_b r3) = 0 then
    d_M_shown_15 S  I R u0 (x1) (x2) (1) u0
  else
    d_M_shown_15 S  I R u0 (x1) (x2) (0) u0
set_option maxHeartbeats 1000000 in
theorem c_M_shown (l : Launch) {S : ax_S} {I : ax_I} {R : ax_R} {L : ax_L} {u0 : Nat} {x1 : Int32} {x2 : Int32} {out : Int32 × ax_I} (hty : ax_typ S R) (hs0 : S u0 = some (.inl 5)) (h : d_M_shown S I R u0 x1 x2 = some out) : ax_Met l y_M_shown b_M_shown 7 (some .int) (ax_rm 3 0 0) [.ref u0, .int x1, .int x2] S I R L (ax_eq (some (.int out.1)) S out.2 R L) := by
  refine ax_enter (own := "LossFreeToolsModel") (by decide +kernel) rfl (ax_cats rfl) (Nat.le_of_ble_eq_true rfl) (fun X hX hF _ hS0 => ?_)
  show ax_W X 7 0 [some (.ref u0), some (.int (x1)), some (.int (x2)), none, none, none, none] [] S I R L 0 0
  unfold d_M_shown at h
  refine ax_aload_n (q := 1) hX dc_M_shown_0 rfl rfl rfl ?_
  refine ax_aload_n (q := 2) hX dc_M_shown_1 rfl rfl rfl ?_
  refine ax_iload_n (q := 3) hX dc_M_shown_2 rfl rfl rfl ?_
  refine ax_iload_n (q := 4) hX dc_M_shown_3 rfl rfl rfl ?_
  obtain ⟨r3, hr1, h⟩ := ax_bd h
  refine ax_kV (vs := [.int (x1), .int (x2)]) (rest := [.ref u0]) (q := 7) hX dc_M_shown_4 rfl mt_M_isSample wl_M_100 wi_M_isSample ws_M_isSample hs0 rfl (c_M_isSample l hty hs0 hr1) rfl (by decide) rfl (Nat.le_of_ble_eq_true rfl) rfl rfl (by decide) (by decide) rfl ?_
  refine ax_if_eq (tgt := 14) (q := 10) hX dc_M_shown_7 rfl (by decide) (fun z4 => ?_) (fun z4 => ?_)
  · rw [if_pos z4] at h
    refine ax_iconst (v := 1) (q := 15) hX dc_M_shown_14 rfl (by decide) ?_
    exact (e_M_shown_15 hX hF hS0  I R u0 (x1) (x2) (1) u0 hty hs0 hs0 rfl h)
  · rw [if_neg z4] at h
    refine ax_iconst (v := 0) (q := 11) hX dc_M_shown_10 rfl (by decide) ?_
    refine ax_goto (tgt := 15) hX dc_M_shown_11 (by decide) ?_
    exact (e_M_shown_15 hX hF hS0  I R u0 (x1) (x2) (0) u0 hty hs0 hs0 rfl h)
def d_M_pointer_14 (S : ax_S) (I : ax_I) (R : ax_R) (u0 : Nat) (x1 : Int32) (y0 : Int32) (w1 : Nat) : Option (Int32 × ax_I) :=
  (some (ax_up I w1 0 (y0))).bind fun I5 =>
  if (I5 u0 0) ≤ 0 then
    (d_M_pointerOf S I5 R u0 (x1)).bind fun r10 =>
    some (r10, I5)
  else
    some (0, I5)
set_option maxHeartbeats 1000000 in
theorem e_M_pointer_14 {l : Launch} {X : ax_X} {S : ax_S} {L : ax_L} {R0 : ax_R} {out : Int32 × ax_I} (hX : ax_ok X l "LossFreeToolsModel" b_M_pointer 2 (ax_rm 3 0 0)) (hF : ax_fin X (some .int) 0 0 (ax_of (ax_eq (some (.int out.1)) S out.2 R0 L))) (hS0 : ax_S0 X = S) : ∀ (I : ax_I) (R : ax_R) (u0 : Nat) (x1 : Int32) (y0 : Int32) (w1 : Nat), ax_typ S R → (S u0 = some (.inl 5)) → (S w1 = some (.inl 5)) → R = R0 → d_M_pointer_14 S  I R u0 x1 y0 w1 = some out → ax_W X 2 14 [some (.ref u0), some (.int (x1))] [.int (y0), .ref w1] S I R L 0 0 := by
  rintro I R u0 x1 y0 w1 hty hs0_ hw1_ hR0 h
  subst hR0
  unfold d_M_pointer_14 at h
  obtain ⟨I5, e6, h⟩ := ax_bs h
  refine ax_putI (q := 17) hX dc_M_pointer_14 rfl fl_M_68 rfl hw1_ (fun z => by cases z) rfl rfl e6 ?_
  refine ax_aload_n (q := 18) hX dc_M_pointer_17 rfl rfl rfl ?_
  refine ax_getI (q := 21) hX dc_M_pointer_18 rfl fl_M_68 rfl hs0_ ?_
  refine ax_if_le (tgt := 28) (q := 24) hX dc_M_pointer_21 rfl (by decide) (fun z7 => ?_) (fun z7 => ?_)
  · rw [if_pos z7] at h
    refine ax_aload_n (q := 29) hX dc_M_pointer_28 rfl rfl rfl ?_
    refine ax_iload_n (q := 30) hX dc_M_pointer_29 rfl rfl rfl ?_
    obtain ⟨r10, hr8, h⟩ := ax_bd h
    refine ax_kV (vs := [.int (x1)]) (rest := []) (q := 33) hX dc_M_pointer_30 rfl mt_M_pointerOf wl_M_143 wi_M_pointerOf ws_M_pointerOf hs0_ rfl (c_M_pointerOf l hty hs0_ hr8) rfl (by decide) rfl (Nat.le_of_ble_eq_true rfl) rfl rfl (by decide) (by decide) rfl ?_
    cases h
    exact ax_iret hX hF dc_M_pointer_33 rfl rfl (by decide) (by decide) ax_eq.mk (by rw [hS0]; exact fun _ _ z => z)
  · rw [if_neg z7] at h
    refine ax_iconst (v := 0) (q := 25) hX dc_M_pointer_24 rfl (by decide) ?_
    refine ax_goto (tgt := 33) hX dc_M_pointer_25 (by decide) ?_
    cases h
    exact ax_iret hX hF dc_M_pointer_33 rfl rfl (by decide) (by decide) ax_eq.mk (by rw [hS0]; exact fun _ _ z => z)
def d_M_pointer (S : ax_S) (I : ax_I) (R : ax_R) (u0 : Nat) (x1 : Int32) : Option (Int32 × ax_I) :=
  (d_M_isTile S I R u0 (x1)).bind fun r3 =>
  if (ax_b r3) = 0 then
    d_M_pointer_14 S  I R u0 (x1) (1) u0
  else
    d_M_pointer_14 S  I R u0 (x1) (0) u0
set_option maxHeartbeats 1000000 in
theorem c_M_pointer (l : Launch) {S : ax_S} {I : ax_I} {R : ax_R} {L : ax_L} {u0 : Nat} {x1 : Int32} {out : Int32 × ax_I} (hty : ax_typ S R) (hs0 : S u0 = some (.inl 5)) (h : d_M_pointer S I R u0 x1 = some out) : ax_Met l y_M_pointer b_M_pointer 2 (some .int) (ax_rm 3 0 0) [.ref u0, .int x1] S I R L (ax_eq (some (.int out.1)) S out.2 R L) := by
  refine ax_enter (own := "LossFreeToolsModel") (by decide +kernel) rfl (ax_cats rfl) (Nat.le_of_ble_eq_true rfl) (fun X hX hF _ hS0 => ?_)
  show ax_W X 2 0 [some (.ref u0), some (.int (x1))] [] S I R L 0 0
  unfold d_M_pointer at h
  refine ax_aload_n (q := 1) hX dc_M_pointer_0 rfl rfl rfl ?_
  refine ax_aload_n (q := 2) hX dc_M_pointer_1 rfl rfl rfl ?_
  refine ax_iload_n (q := 3) hX dc_M_pointer_2 rfl rfl rfl ?_
  obtain ⟨r3, hr1, h⟩ := ax_bd h
  refine ax_kV (vs := [.int (x1)]) (rest := [.ref u0]) (q := 6) hX dc_M_pointer_3 rfl mt_M_isTile wl_M_96 wi_M_isTile ws_M_isTile hs0 rfl (c_M_isTile l hty hs0 hr1) rfl (by decide) rfl (Nat.le_of_ble_eq_true rfl) rfl rfl (by decide) (by decide) rfl ?_
  refine ax_if_eq (tgt := 13) (q := 9) hX dc_M_pointer_6 rfl (by decide) (fun z4 => ?_) (fun z4 => ?_)
  · rw [if_pos z4] at h
    refine ax_iconst (v := 1) (q := 14) hX dc_M_pointer_13 rfl (by decide) ?_
    exact (e_M_pointer_14 hX hF hS0  I R u0 (x1) (1) u0 hty hs0 hs0 rfl h)
  · rw [if_neg z4] at h
    refine ax_iconst (v := 0) (q := 10) hX dc_M_pointer_9 rfl (by decide) ?_
    refine ax_goto (tgt := 14) hX dc_M_pointer_10 (by decide) ?_
    exact (e_M_pointer_14 hX hF hS0  I R u0 (x1) (0) u0 hty hs0 hs0 rfl h)
def d_M_tellPart_103 (S : ax_S) : Nat → ax_I → ax_R → Nat → Int32 → Int32 → Option (ax_I)
  | 0, _, _, _, _, _ => none
  | n + 1, I, R, u0, x3, x4 =>
    if (I u0 22) ≤ x4 then
      (d_M_tellTwo S I R u0 (x3)).bind fun I74 =>
      some (I74)
    else
      (R u0 21).bind fun u75 =>
      (ax_ix S u75 (x4)).bind fun j79 =>
      d_M_tellPart_103 S  n I R u0 (((31 * x3) + (I u75 j79)) - ((31 * x3) + (I u75 j79)) / 65521 * 65521) (x4 + 1)
set_option maxHeartbeats 1000000 in
theorem e_M_tellPart_103 {l : Launch} {X : ax_X} {S : ax_S} {L : ax_L} {R0 : ax_R} {out : ax_I} (hX : ax_ok X l "LossFreeToolsModel" b_M_tellPart 5 (ax_rm 3 0 0)) (hF : ax_fin X none 0 0 (ax_of (ax_eq none S out R0 L))) (hS0 : ax_S0 X = S) : ∀ (n : Nat), ∀ (I : ax_I) (R : ax_R) (u0 : Nat) (x3 : Int32) (x4 : Int32), ax_typ S R → (S u0 = some (.inl 5)) → R = R0 → d_M_tellPart_103 S  n I R u0 x3 x4 = some out → ax_W X 5 103 [some (.ref u0), none, none, some (.int (x3)), some (.int (x4))] [] S I R L 0 0 := by
  intro n
  induction n with
  | zero =>
    rintro I R u0 x3 x4 hty hs0_ hR0 h
    cases h
  | succ n ih =>
    rintro I R u0 x3 x4 hty hs0_ hR0 h
    subst hR0
    unfold d_M_tellPart_103 at h
    refine ax_iload (q := 105) hX dc_M_tellPart_103 rfl rfl ?_
    refine ax_aload_n (q := 106) hX dc_M_tellPart_105 rfl rfl rfl ?_
    refine ax_getI (q := 109) hX dc_M_tellPart_106 rfl fl_M_81 rfl hs0_ ?_
    refine ax_icmp_ge (tgt := 134) (q := 112) hX dc_M_tellPart_109 rfl (by decide) (fun z71 => ?_) (fun z71 => ?_)
    · rw [if_pos z71] at h
      refine ax_aload_n (q := 135) hX dc_M_tellPart_134 rfl rfl rfl ?_
      refine ax_iload_n (q := 136) hX dc_M_tellPart_135 rfl rfl rfl ?_
      obtain ⟨I74, hr72, h⟩ := ax_bd h
      refine ax_kV (vs := [.int (x3)]) (rest := []) (q := 139) hX dc_M_tellPart_136 rfl mt_M_tellTwo wl_M_146 wi_M_tellTwo ws_M_tellTwo hs0_ rfl (c_M_tellTwo l hty hs0_ hr72) rfl (by decide) rfl (Nat.le_of_ble_eq_true rfl) rfl rfl (by decide) (by decide) rfl ?_
      cases h
      exact ax_vret hX hF dc_M_tellPart_139 (by decide) (by decide) ax_eq.mk (by rw [hS0]; exact fun _ _ z => z)
    · rw [if_neg z71] at h
      refine ax_bipush (v := 31) (q := 114) hX dc_M_tellPart_112 rfl (by decide) ?_
      refine ax_iload_n (q := 115) hX dc_M_tellPart_114 rfl rfl rfl ?_
      refine ax_imul (q := 116) hX dc_M_tellPart_115 rfl ?_
      refine ax_aload_n (q := 117) hX dc_M_tellPart_116 rfl rfl rfl ?_
      obtain ⟨u75, hu76, h⟩ := ax_bd h
      obtain ⟨n78, hs77⟩ : ∃ n, S u75 = some (.inr (0, n)) := hty.1 _ _ _ _ hs0_ hu76
      refine ax_getR (q := 120) hX dc_M_tellPart_117 rfl fl_M_55 rfl hs0_ hu76 ?_
      refine ax_iload (q := 122) hX dc_M_tellPart_120 rfl rfl ?_
      obtain ⟨j79, hj80, h⟩ := ax_bd h
      have hj80 := ax_ix_s hty hs77 hj80
      refine ax_iald (q := 123) hX j79 dc_M_tellPart_122 rfl hs77 hj80.1 hj80.2.1 hj80.2.2 ?_
      refine ax_iadd (q := 124) hX dc_M_tellPart_123 rfl ?_
      refine ax_ldc (v := 65521) (q := 126) hX dc_M_tellPart_124 rfl wk_M_149 ?_
      refine ax_irem (q := 127) hX dc_M_tellPart_126 rfl (by decide) ?_
      refine ax_istore_n (ls' := [some (.ref u0), none, none, some (.int (((31 * x3) + (I u75 j79)) - ((31 * x3) + (I u75 j79)) / 65521 * 65521)), some (.int (x4))]) (q := 128) hX dc_M_tellPart_127 rfl rfl (by decide) rfl ?_
      refine ax_iinc (v := x4 + 1) (ls' := [some (.ref u0), none, none, some (.int (((31 * x3) + (I u75 j79)) - ((31 * x3) + (I u75 j79)) / 65521 * 65521)), some (.int (x4 + 1))]) (q := 131) hX dc_M_tellPart_128 rfl rfl rfl (by decide) rfl ?_
      refine ax_goto (tgt := 103) hX dc_M_tellPart_131 (by decide) ?_
      exact (ih I R u0 (((31 * x3) + (I u75 j79)) - ((31 * x3) + (I u75 j79)) / 65521 * 65521) (x4 + 1) hty hs0_ rfl h)
def d_M_tellPart_67 (S : ax_S) : Nat → ax_I → ax_R → Nat → Int32 → Int32 → Int32 → Option (ax_I)
  | 0, _, _, _, _, _, _ => none
  | n + 1, I, R, u0, x1, x2, x3 =>
    (R u0 13).bind fun u55 =>
    (ax_ix S u55 (x1)).bind fun j59 =>
    if (I u55 j59) ≤ x3 then
      d_M_tellPart_103 S  5000 I R u0 (1) (x2)
    else
      (R u0 14).bind fun u62 =>
      (ax_ix S u62 ((12 * x1) + x3)).bind fun j66 =>
      (d_M_tell S I R u0 (I u62 j66)).bind fun I70 =>
      d_M_tellPart_67 S  n I70 R u0 (x1) (x2) (x3 + 1)
set_option maxHeartbeats 1000000 in
theorem e_M_tellPart_67 {l : Launch} {X : ax_X} {S : ax_S} {L : ax_L} {R0 : ax_R} {out : ax_I} (hX : ax_ok X l "LossFreeToolsModel" b_M_tellPart 5 (ax_rm 3 0 0)) (hF : ax_fin X none 0 0 (ax_of (ax_eq none S out R0 L))) (hS0 : ax_S0 X = S) : ∀ (n : Nat), ∀ (I : ax_I) (R : ax_R) (u0 : Nat) (x1 : Int32) (x2 : Int32) (x3 : Int32), ax_typ S R → (S u0 = some (.inl 5)) → R = R0 → d_M_tellPart_67 S  n I R u0 x1 x2 x3 = some out → ax_W X 5 67 [some (.ref u0), some (.int (x1)), some (.int (x2)), some (.int (x3)), none] [] S I R L 0 0 := by
  intro n
  induction n with
  | zero =>
    rintro I R u0 x1 x2 x3 hty hs0_ hR0 h
    cases h
  | succ n ih =>
    rintro I R u0 x1 x2 x3 hty hs0_ hR0 h
    subst hR0
    unfold d_M_tellPart_67 at h
    refine ax_iload_n (q := 68) hX dc_M_tellPart_67 rfl rfl rfl ?_
    refine ax_aload_n (q := 69) hX dc_M_tellPart_68 rfl rfl rfl ?_
    obtain ⟨u55, hu56, h⟩ := ax_bd h
    obtain ⟨n58, hs57⟩ : ∃ n, S u55 = some (.inr (0, n)) := hty.1 _ _ _ _ hs0_ hu56
    refine ax_getR (q := 72) hX dc_M_tellPart_69 rfl fl_M_37 rfl hs0_ hu56 ?_
    refine ax_iload_n (q := 73) hX dc_M_tellPart_72 rfl rfl rfl ?_
    obtain ⟨j59, hj60, h⟩ := ax_bd h
    have hj60 := ax_ix_s hty hs57 hj60
    refine ax_iald (q := 74) hX j59 dc_M_tellPart_73 rfl hs57 hj60.1 hj60.2.1 hj60.2.2 ?_
    refine ax_icmp_ge (tgt := 98) (q := 77) hX dc_M_tellPart_74 rfl (by decide) (fun z61 => ?_) (fun z61 => ?_)
    · rw [if_pos z61] at h
      refine ax_iconst (v := 1) (q := 99) hX dc_M_tellPart_98 rfl (by decide) ?_
      refine ax_istore_n (ls' := [some (.ref u0), some (.int (x1)), some (.int (x2)), some (.int (1)), none]) (q := 100) hX dc_M_tellPart_99 rfl rfl (by decide) rfl ?_
      refine ax_iload_n (q := 101) hX dc_M_tellPart_100 rfl rfl rfl ?_
      refine ax_istore (ls' := [some (.ref u0), some (.int (x1)), some (.int (x2)), some (.int (1)), some (.int (x2))]) (q := 103) hX dc_M_tellPart_101 rfl (by decide) rfl ?_
      exact ax_weak (ls' := [some (.ref u0), none, none, some (.int (1)), some (.int (x2))]) (ax_fewP_s _ _ (by repeat (first | exact trivial | (refine And.intro rfl ?_)))) (e_M_tellPart_103 hX hF hS0  5000 I R u0 (1) (x2) hty hs0_ rfl h)
    · rw [if_neg z61] at h
      refine ax_aload_n (q := 78) hX dc_M_tellPart_77 rfl rfl rfl ?_
      refine ax_aload_n (q := 79) hX dc_M_tellPart_78 rfl rfl rfl ?_
      obtain ⟨u62, hu63, h⟩ := ax_bd h
      obtain ⟨n65, hs64⟩ : ∃ n, S u62 = some (.inr (0, n)) := hty.1 _ _ _ _ hs0_ hu63
      refine ax_getR (q := 82) hX dc_M_tellPart_79 rfl fl_M_40 rfl hs0_ hu63 ?_
      refine ax_bipush (v := 12) (q := 84) hX dc_M_tellPart_82 rfl (by decide) ?_
      refine ax_iload_n (q := 85) hX dc_M_tellPart_84 rfl rfl rfl ?_
      refine ax_imul (q := 86) hX dc_M_tellPart_85 rfl ?_
      refine ax_iload_n (q := 87) hX dc_M_tellPart_86 rfl rfl rfl ?_
      refine ax_iadd (q := 88) hX dc_M_tellPart_87 rfl ?_
      obtain ⟨j66, hj67, h⟩ := ax_bd h
      have hj67 := ax_ix_s hty hs64 hj67
      refine ax_iald (q := 89) hX j66 dc_M_tellPart_88 rfl hs64 hj67.1 hj67.2.1 hj67.2.2 ?_
      obtain ⟨I70, hr68, h⟩ := ax_bd h
      refine ax_kV (vs := [.int (I u62 j66)]) (rest := []) (q := 92) hX dc_M_tellPart_89 rfl mt_M_tell wl_M_133 wi_M_tell ws_M_tell hs0_ rfl (c_M_tell l hty hs0_ hr68) rfl (by decide) rfl (Nat.le_of_ble_eq_true rfl) rfl rfl (by decide) (by decide) rfl ?_
      refine ax_iinc (v := x3 + 1) (ls' := [some (.ref u0), some (.int (x1)), some (.int (x2)), some (.int (x3 + 1)), none]) (q := 95) hX dc_M_tellPart_92 rfl rfl rfl (by decide) rfl ?_
      refine ax_goto (tgt := 67) hX dc_M_tellPart_95 (by decide) ?_
      exact (ih I70 R u0 (x1) (x2) (x3 + 1) hty hs0_ rfl h)
def d_M_tellPart (S : ax_S) (I : ax_I) (R : ax_R) (u0 : Nat) (x1 : Int32) : Option (ax_I) :=
  (R u0 8).bind fun u1 =>
  (ax_ix S u1 (x1)).bind fun j5 =>
  (d_M_tellTwo S I R u0 (I u1 j5)).bind fun I9 =>
  (R u0 9).bind fun u10 =>
  (ax_ix S u10 (x1)).bind fun j14 =>
  (d_M_tellTwo S I9 R u0 (I9 u10 j14)).bind fun I18 =>
  (R u0 10).bind fun u19 =>
  (ax_ix S u19 (x1)).bind fun j23 =>
  (d_M_tellTwo S I18 R u0 (I18 u19 j23)).bind fun I27 =>
  (R u0 11).bind fun u28 =>
  (ax_ix S u28 (x1)).bind fun j32 =>
  (d_M_tellTwo S I27 R u0 (I27 u28 j32)).bind fun I36 =>
  (R u0 12).bind fun u37 =>
  (ax_ix S u37 (x1)).bind fun j41 =>
  (d_M_tell S I36 R u0 (I36 u37 j41)).bind fun I45 =>
  (R u0 13).bind fun u46 =>
  (ax_ix S u46 (x1)).bind fun j50 =>
  (d_M_tell S I45 R u0 (I45 u46 j50)).bind fun I54 =>
  d_M_tellPart_67 S  5000 I54 R u0 (x1) (I u0 22) (0)
set_option maxHeartbeats 1000000 in
theorem c_M_tellPart (l : Launch) {S : ax_S} {I : ax_I} {R : ax_R} {L : ax_L} {u0 : Nat} {x1 : Int32} {out : ax_I} (hty : ax_typ S R) (hs0 : S u0 = some (.inl 5)) (h : d_M_tellPart S I R u0 x1 = some out) : ax_Met l y_M_tellPart b_M_tellPart 5 none (ax_rm 3 0 0) [.ref u0, .int x1] S I R L (ax_eq none S out R L) := by
  refine ax_enter (own := "LossFreeToolsModel") (by decide +kernel) rfl (ax_cats rfl) (Nat.le_of_ble_eq_true rfl) (fun X hX hF _ hS0 => ?_)
  show ax_W X 5 0 [some (.ref u0), some (.int (x1)), none, none, none] [] S I R L 0 0
  unfold d_M_tellPart at h
  refine ax_aload_n (q := 1) hX dc_M_tellPart_0 rfl rfl rfl ?_
  refine ax_getI (q := 4) hX dc_M_tellPart_1 rfl fl_M_81 rfl hs0 ?_
  refine ax_istore_n (ls' := [some (.ref u0), some (.int (x1)), some (.int (I u0 22)), none, none]) (q := 5) hX dc_M_tellPart_4 rfl rfl (by decide) rfl ?_
  refine ax_aload_n (q := 6) hX dc_M_tellPart_5 rfl rfl rfl ?_
  refine ax_aload_n (q := 7) hX dc_M_tellPart_6 rfl rfl rfl ?_
  obtain ⟨u1, hu2, h⟩ := ax_bd h
  obtain ⟨n4, hs3⟩ : ∃ n, S u1 = some (.inr (0, n)) := hty.1 _ _ _ _ hs0 hu2
  refine ax_getR (q := 10) hX dc_M_tellPart_7 rfl fl_M_22 rfl hs0 hu2 ?_
  refine ax_iload_n (q := 11) hX dc_M_tellPart_10 rfl rfl rfl ?_
  obtain ⟨j5, hj6, h⟩ := ax_bd h
  have hj6 := ax_ix_s hty hs3 hj6
  refine ax_iald (q := 12) hX j5 dc_M_tellPart_11 rfl hs3 hj6.1 hj6.2.1 hj6.2.2 ?_
  obtain ⟨I9, hr7, h⟩ := ax_bd h
  refine ax_kV (vs := [.int (I u1 j5)]) (rest := []) (q := 15) hX dc_M_tellPart_12 rfl mt_M_tellTwo wl_M_146 wi_M_tellTwo ws_M_tellTwo hs0 rfl (c_M_tellTwo l hty hs0 hr7) rfl (by decide) rfl (Nat.le_of_ble_eq_true rfl) rfl rfl (by decide) (by decide) rfl ?_
  refine ax_aload_n (q := 16) hX dc_M_tellPart_15 rfl rfl rfl ?_
  refine ax_aload_n (q := 17) hX dc_M_tellPart_16 rfl rfl rfl ?_
  obtain ⟨u10, hu11, h⟩ := ax_bd h
  obtain ⟨n13, hs12⟩ : ∃ n, S u10 = some (.inr (0, n)) := hty.1 _ _ _ _ hs0 hu11
  refine ax_getR (q := 20) hX dc_M_tellPart_17 rfl fl_M_25 rfl hs0 hu11 ?_
  refine ax_iload_n (q := 21) hX dc_M_tellPart_20 rfl rfl rfl ?_
  obtain ⟨j14, hj15, h⟩ := ax_bd h
  have hj15 := ax_ix_s hty hs12 hj15
  refine ax_iald (q := 22) hX j14 dc_M_tellPart_21 rfl hs12 hj15.1 hj15.2.1 hj15.2.2 ?_
  obtain ⟨I18, hr16, h⟩ := ax_bd h
  refine ax_kV (vs := [.int (I9 u10 j14)]) (rest := []) (q := 25) hX dc_M_tellPart_22 rfl mt_M_tellTwo wl_M_146 wi_M_tellTwo ws_M_tellTwo hs0 rfl (c_M_tellTwo l hty hs0 hr16) rfl (by decide) rfl (Nat.le_of_ble_eq_true rfl) rfl rfl (by decide) (by decide) rfl ?_
  refine ax_aload_n (q := 26) hX dc_M_tellPart_25 rfl rfl rfl ?_
  refine ax_aload_n (q := 27) hX dc_M_tellPart_26 rfl rfl rfl ?_
  obtain ⟨u19, hu20, h⟩ := ax_bd h
  obtain ⟨n22, hs21⟩ : ∃ n, S u19 = some (.inr (0, n)) := hty.1 _ _ _ _ hs0 hu20
  refine ax_getR (q := 30) hX dc_M_tellPart_27 rfl fl_M_28 rfl hs0 hu20 ?_
  refine ax_iload_n (q := 31) hX dc_M_tellPart_30 rfl rfl rfl ?_
  obtain ⟨j23, hj24, h⟩ := ax_bd h
  have hj24 := ax_ix_s hty hs21 hj24
  refine ax_iald (q := 32) hX j23 dc_M_tellPart_31 rfl hs21 hj24.1 hj24.2.1 hj24.2.2 ?_
  obtain ⟨I27, hr25, h⟩ := ax_bd h
  refine ax_kV (vs := [.int (I18 u19 j23)]) (rest := []) (q := 35) hX dc_M_tellPart_32 rfl mt_M_tellTwo wl_M_146 wi_M_tellTwo ws_M_tellTwo hs0 rfl (c_M_tellTwo l hty hs0 hr25) rfl (by decide) rfl (Nat.le_of_ble_eq_true rfl) rfl rfl (by decide) (by decide) rfl ?_
  refine ax_aload_n (q := 36) hX dc_M_tellPart_35 rfl rfl rfl ?_
  refine ax_aload_n (q := 37) hX dc_M_tellPart_36 rfl rfl rfl ?_
  obtain ⟨u28, hu29, h⟩ := ax_bd h
  obtain ⟨n31, hs30⟩ : ∃ n, S u28 = some (.inr (0, n)) := hty.1 _ _ _ _ hs0 hu29
  refine ax_getR (q := 40) hX dc_M_tellPart_37 rfl fl_M_31 rfl hs0 hu29 ?_
  refine ax_iload_n (q := 41) hX dc_M_tellPart_40 rfl rfl rfl ?_
  obtain ⟨j32, hj33, h⟩ := ax_bd h
  have hj33 := ax_ix_s hty hs30 hj33
  refine ax_iald (q := 42) hX j32 dc_M_tellPart_41 rfl hs30 hj33.1 hj33.2.1 hj33.2.2 ?_
  obtain ⟨I36, hr34, h⟩ := ax_bd h
  refine ax_kV (vs := [.int (I27 u28 j32)]) (rest := []) (q := 45) hX dc_M_tellPart_42 rfl mt_M_tellTwo wl_M_146 wi_M_tellTwo ws_M_tellTwo hs0 rfl (c_M_tellTwo l hty hs0 hr34) rfl (by decide) rfl (Nat.le_of_ble_eq_true rfl) rfl rfl (by decide) (by decide) rfl ?_
  refine ax_aload_n (q := 46) hX dc_M_tellPart_45 rfl rfl rfl ?_
  refine ax_aload_n (q := 47) hX dc_M_tellPart_46 rfl rfl rfl ?_
  obtain ⟨u37, hu38, h⟩ := ax_bd h
  obtain ⟨n40, hs39⟩ : ∃ n, S u37 = some (.inr (0, n)) := hty.1 _ _ _ _ hs0 hu38
  refine ax_getR (q := 50) hX dc_M_tellPart_47 rfl fl_M_34 rfl hs0 hu38 ?_
  refine ax_iload_n (q := 51) hX dc_M_tellPart_50 rfl rfl rfl ?_
  obtain ⟨j41, hj42, h⟩ := ax_bd h
  have hj42 := ax_ix_s hty hs39 hj42
  refine ax_iald (q := 52) hX j41 dc_M_tellPart_51 rfl hs39 hj42.1 hj42.2.1 hj42.2.2 ?_
  obtain ⟨I45, hr43, h⟩ := ax_bd h
  refine ax_kV (vs := [.int (I36 u37 j41)]) (rest := []) (q := 55) hX dc_M_tellPart_52 rfl mt_M_tell wl_M_133 wi_M_tell ws_M_tell hs0 rfl (c_M_tell l hty hs0 hr43) rfl (by decide) rfl (Nat.le_of_ble_eq_true rfl) rfl rfl (by decide) (by decide) rfl ?_
  refine ax_aload_n (q := 56) hX dc_M_tellPart_55 rfl rfl rfl ?_
  refine ax_aload_n (q := 57) hX dc_M_tellPart_56 rfl rfl rfl ?_
  obtain ⟨u46, hu47, h⟩ := ax_bd h
  obtain ⟨n49, hs48⟩ : ∃ n, S u46 = some (.inr (0, n)) := hty.1 _ _ _ _ hs0 hu47
  refine ax_getR (q := 60) hX dc_M_tellPart_57 rfl fl_M_37 rfl hs0 hu47 ?_
  refine ax_iload_n (q := 61) hX dc_M_tellPart_60 rfl rfl rfl ?_
  obtain ⟨j50, hj51, h⟩ := ax_bd h
  have hj51 := ax_ix_s hty hs48 hj51
  refine ax_iald (q := 62) hX j50 dc_M_tellPart_61 rfl hs48 hj51.1 hj51.2.1 hj51.2.2 ?_
  obtain ⟨I54, hr52, h⟩ := ax_bd h
  refine ax_kV (vs := [.int (I45 u46 j50)]) (rest := []) (q := 65) hX dc_M_tellPart_62 rfl mt_M_tell wl_M_133 wi_M_tell ws_M_tell hs0 rfl (c_M_tell l hty hs0 hr52) rfl (by decide) rfl (Nat.le_of_ble_eq_true rfl) rfl rfl (by decide) (by decide) rfl ?_
  refine ax_iconst (v := 0) (q := 66) hX dc_M_tellPart_65 rfl (by decide) ?_
  refine ax_istore_n (ls' := [some (.ref u0), some (.int (x1)), some (.int (I u0 22)), some (.int (0)), none]) (q := 67) hX dc_M_tellPart_66 rfl rfl (by decide) rfl ?_
  exact (e_M_tellPart_67 hX hF hS0  5000 I54 R u0 (x1) (I u0 22) (0) hty hs0 rfl h)
