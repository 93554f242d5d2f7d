def d_K_tile_28 (S : ax_S) (I : ax_I) (R : ax_R) : Option ((Int32 ⊕ String) × ax_I) :=
  some (.inr "java/lang/IllegalArgumentException", I)
set_option maxHeartbeats 1000000 in
theorem e_K_tile_28 {l : Launch} {X : ax_X} {S : ax_S} {L : ax_L} {R0 : ax_R} {out : (Int32 ⊕ String) × ax_I} (hX : ax_ok X l "LossFreeTools" b_K_tile 5 (ax_rm 6 1 6)) (hF : ax_fin X (some .int) 1 6 (ax_eqX out.1 S out.2 R0 L)) (hS0 : ax_S0 X = S) (hno : ax_noh X) (hl0 : l.stackTraces = false) : ∀ (I : ax_I) (R : ax_R), ax_typ S R → R = R0 → d_K_tile_28 S  I R = some out → ax_W X 5 28 [none, none, none, none, none] [] S I R L 0 0 := by
  rintro I R hty hR0 h
  subst hR0
  unfold d_K_tile_28 at h
  cases h
  exact ax_throw hX hF hno hl0 th_K_56_58 dc_K_tile_28 dc_K_tile_31 dc_K_tile_32 dc_K_tile_34 dc_K_tile_37 (by decide) (by decide) (by decide) (by decide) (by decide) (by decide) ⟨rfl, rfl, rfl, rfl, rfl⟩ (by rw [hS0]; exact fun _ _ z => z)
def d_K_tile (S : ax_S) (I : ax_I) (R : ax_R) (u0 : Nat) (x1 : Int32) (x2 : Int32) (x3 : Int32) (x4 : Int32) : Option ((Int32 ⊕ String) × ax_I) :=
  if 64 < x3 then
    d_K_tile_28 S  I R 
  else
    if 64 < x4 then
      d_K_tile_28 S  I R 
    else
      (R u0 4).bind fun u3 =>
      (d_P_holdsRectangle S I R u3 (x1) (x2) (x3) (x4)).bind fun r8 =>
      if (ax_b r8) = 0 then
        d_K_tile_28 S  I R 
      else
        (R u0 4).bind fun u10 =>
        (d_P_overlapsTile S I R u10 (x1) (x2) (x3) (x4)).bind fun r15 =>
        if (ax_b r15) = 0 then
          (R u0 4).bind fun u17 =>
          if (I u17 2) < 40 then
            (some (ax_up I u0 7 (0))).bind fun I21 =>
            (R u0 4).bind fun u23 =>
            (d_P_addTile S I21 R u23 (x1) (x2) (x3) (x4)).bind fun o30 =>
            some (.inl (o30.1), o30.2)
          else
            some (.inr "java/lang/UnsupportedOperationException", I)
        else
          some (.inr "java/lang/IllegalStateException", I)
set_option maxHeartbeats 1000000 in
theorem c_K_tile (l : Launch) (hl0 : l.stackTraces = false) {S : ax_S} {I : ax_I} {R : ax_R} {L : ax_L} {u0 : Nat} {x1 : Int32} {x2 : Int32} {x3 : Int32} {x4 : Int32} {out : (Int32 ⊕ String) × ax_I} (hty : ax_typ S R) (hs0 : S u0 = some (.inl 4)) (h : d_K_tile S I R u0 x1 x2 x3 x4 = some out) : ax_MetX l y_K_tile b_K_tile 5 (some .int) (ax_rm 6 1 6) [.ref u0, .int x1, .int x2, .int x3, .int x4] S I R L (ax_eqX out.1 S out.2 R L) := by
  refine ax_enterX (own := "LossFreeTools") (by decide +kernel) rfl (ax_cats rfl) (Nat.le_of_ble_eq_true rfl) (fun X hX hF hno hS0 => ?_)
  show ax_W X 5 0 [some (.ref u0), some (.int (x1)), some (.int (x2)), some (.int (x3)), some (.int (x4))] [] S I R L 0 0
  unfold d_K_tile at h
  refine ax_iload_n (q := 1) hX dc_K_tile_0 rfl rfl rfl ?_
  refine ax_bipush (v := 64) (q := 3) hX dc_K_tile_1 rfl (by decide) ?_
  refine ax_icmp_gt (tgt := 28) (q := 6) hX dc_K_tile_3 rfl (by decide) (fun z1 => ?_) (fun z1 => ?_)
  · rw [if_pos z1] at h
    exact ax_weak (ls' := [none, none, none, none, none]) (ax_fewP_s _ _ (by repeat (first | exact trivial | (refine And.intro rfl ?_)))) (e_K_tile_28 hX hF hS0 hno hl0  I R  hty  rfl h)
  · rw [if_neg z1] at h
    refine ax_iload (q := 8) hX dc_K_tile_6 rfl rfl ?_
    refine ax_bipush (v := 64) (q := 10) hX dc_K_tile_8 rfl (by decide) ?_
    refine ax_icmp_gt (tgt := 28) (q := 13) hX dc_K_tile_10 rfl (by decide) (fun z2 => ?_) (fun z2 => ?_)
    · rw [if_pos z2] at h
      exact ax_weak (ls' := [none, none, none, none, none]) (ax_fewP_s _ _ (by repeat (first | exact trivial | (refine And.intro rfl ?_)))) (e_K_tile_28 hX hF hS0 hno hl0  I R  hty  rfl h)
    · rw [if_neg z2] at h
      refine ax_aload_n (q := 14) hX dc_K_tile_13 rfl rfl rfl ?_
      obtain ⟨u3, hu4, h⟩ := ax_bd h
      have hs5 : S u3 = some (.inl 1) := hty.1 _ _ _ _ hs0 hu4
      refine ax_getR (q := 17) hX dc_K_tile_14 rfl fl_K_36 rfl hs0 hu4 ?_
      refine ax_iload_n (q := 18) hX dc_K_tile_17 rfl rfl rfl ?_
      refine ax_iload_n (q := 19) hX dc_K_tile_18 rfl rfl rfl ?_
      refine ax_iload_n (q := 20) hX dc_K_tile_19 rfl rfl rfl ?_
      refine ax_iload (q := 22) hX dc_K_tile_20 rfl rfl ?_
      obtain ⟨r8, hr6, h⟩ := ax_bd h
      refine ax_kV (vs := [.int (x1), .int (x2), .int (x3), .int (x4)]) (rest := []) (q := 25) hX dc_K_tile_22 rfl mt_P_holdsRectangle wl_K_50 wi_P_holdsRectangle ws_P_holdsRectangle hs5 rfl (c_P_holdsRectangle l hty hs5 hr6) rfl (by decide) rfl (Nat.le_of_ble_eq_true rfl) rfl rfl (by decide) (by decide) rfl ?_
      refine ax_if_ne (tgt := 38) (q := 28) hX dc_K_tile_25 rfl (by decide) (fun z9 => ?_) (fun z9 => ?_)
      · rw [if_neg z9] at h
        refine ax_aload_n (q := 39) hX dc_K_tile_38 rfl rfl rfl ?_
        obtain ⟨u10, hu11, h⟩ := ax_bd h
        have hs12 : S u10 = some (.inl 1) := hty.1 _ _ _ _ hs0 hu11
        refine ax_getR (q := 42) hX dc_K_tile_39 rfl fl_K_36 rfl hs0 hu11 ?_
        refine ax_iload_n (q := 43) hX dc_K_tile_42 rfl rfl rfl ?_
        refine ax_iload_n (q := 44) hX dc_K_tile_43 rfl rfl rfl ?_
        refine ax_iload_n (q := 45) hX dc_K_tile_44 rfl rfl rfl ?_
        refine ax_iload (q := 47) hX dc_K_tile_45 rfl rfl ?_
        obtain ⟨r15, hr13, h⟩ := ax_bd h
        refine ax_kV (vs := [.int (x1), .int (x2), .int (x3), .int (x4)]) (rest := []) (q := 50) hX dc_K_tile_47 rfl mt_P_overlapsTile wl_K_61 wi_P_overlapsTile ws_P_overlapsTile hs12 rfl (c_P_overlapsTile l hty hs12 hr13) rfl (by decide) rfl (Nat.le_of_ble_eq_true rfl) rfl rfl (by decide) (by decide) rfl ?_
        refine ax_if_eq (tgt := 63) (q := 53) hX dc_K_tile_50 rfl (by decide) (fun z16 => ?_) (fun z16 => ?_)
        · rw [if_pos z16] at h
          refine ax_aload_n (q := 64) hX dc_K_tile_63 rfl rfl rfl ?_
          obtain ⟨u17, hu18, h⟩ := ax_bd h
          have hs19 : S u17 = some (.inl 1) := hty.1 _ _ _ _ hs0 hu18
          refine ax_getR (q := 67) hX dc_K_tile_64 rfl fl_K_36 rfl hs0 hu18 ?_
          refine ax_getI (q := 70) hX dc_K_tile_67 rfl fl_K_69 rfl hs19 ?_
          refine ax_bipush (v := 40) (q := 72) hX dc_K_tile_70 rfl (by decide) ?_
          refine ax_icmp_lt (tgt := 85) (q := 75) hX dc_K_tile_72 rfl (by decide) (fun z20 => ?_) (fun z20 => ?_)
          · rw [if_pos z20] at h
            refine ax_aload_n (q := 86) hX dc_K_tile_85 rfl rfl rfl ?_
            refine ax_iconst (v := 0) (q := 87) hX dc_K_tile_86 rfl (by decide) ?_
            obtain ⟨I21, e22, h⟩ := ax_bs h
            refine ax_putI (q := 90) hX dc_K_tile_87 rfl fl_K_46 rfl hs0 (fun z => by cases z) rfl rfl e22 ?_
            refine ax_aload_n (q := 91) hX dc_K_tile_90 rfl rfl rfl ?_
            obtain ⟨u23, hu24, h⟩ := ax_bd h
            have hs25 : S u23 = some (.inl 1) := hty.1 _ _ _ _ hs0 hu24
            refine ax_getR (q := 94) hX dc_K_tile_91 rfl fl_K_36 rfl hs0 hu24 ?_
            refine ax_iload_n (q := 95) hX dc_K_tile_94 rfl rfl rfl ?_
            refine ax_iload_n (q := 96) hX dc_K_tile_95 rfl rfl rfl ?_
            refine ax_iload_n (q := 97) hX dc_K_tile_96 rfl rfl rfl ?_
            refine ax_iload (q := 99) hX dc_K_tile_97 rfl rfl ?_
            obtain ⟨o30, hr26, h⟩ := ax_bd h
            refine ax_kV (vs := [.int (x1), .int (x2), .int (x3), .int (x4)]) (rest := []) (q := 102) hX dc_K_tile_99 rfl mt_P_addTile wl_K_77 wi_P_addTile ws_P_addTile hs25 rfl (c_P_addTile l hty hs25 hr26) rfl (by decide) rfl (Nat.le_of_ble_eq_true rfl) rfl rfl (by decide) (by decide) rfl ?_
            cases h
            exact ax_iret hX hF dc_K_tile_102 rfl rfl (by decide) (by decide) ⟨rfl, rfl, rfl, rfl, rfl⟩ (by rw [hS0]; exact fun _ _ z => z)
          · rw [if_neg z20] at h
            cases h
            exact ax_throw hX hF hno hl0 th_K_74_76 dc_K_tile_75 dc_K_tile_78 dc_K_tile_79 dc_K_tile_81 dc_K_tile_84 (by decide) (by decide) (by decide) (by decide) (by decide) (by decide) ⟨rfl, rfl, rfl, rfl, rfl⟩ (by rw [hS0]; exact fun _ _ z => z)
        · rw [if_neg z16] at h
          cases h
          exact ax_throw hX hF hno hl0 th_K_66_68 dc_K_tile_53 dc_K_tile_56 dc_K_tile_57 dc_K_tile_59 dc_K_tile_62 (by decide) (by decide) (by decide) (by decide) (by decide) (by decide) ⟨rfl, rfl, rfl, rfl, rfl⟩ (by rw [hS0]; exact fun _ _ z => z)
      · rw [if_pos z9] at h
        exact ax_weak (ls' := [none, none, none, none, none]) (ax_fewP_s _ _ (by repeat (first | exact trivial | (refine And.intro rfl ?_)))) (e_K_tile_28 hX hF hS0 hno hl0  I R  hty  rfl h)
def d_K_byteOf (S : ax_S) (I : ax_I) (R : ax_R) (u0 : Nat) (x1 : Int32) (x2 : Int32) : Option ((Int32 ⊕ String) × ax_I) :=
  (R u0 4).bind fun u1 =>
  (d_P_hasTile S I R u1 (x1)).bind fun r6 =>
  if (ax_b r6) = 0 then
    some (.inr "java/lang/IndexOutOfBoundsException", I)
  else
    (d_K_isByte S I R (x2)).bind fun r10 =>
    if (ax_b r10) = 0 then
      some (.inr "java/lang/IllegalArgumentException", I)
    else
      (R u0 4).bind fun u12 =>
      (R u12 0).bind fun u15 =>
      (ax_ix S u15 (x1)).bind fun j19 =>
      (R u15 j19).bind fun u21 =>
      if (I u21 1) < 12 then
        (d_T_addByte S I R u21 (x2)).bind fun o29 =>
        some (.inl (o29.1), o29.2)
      else
        some (.inr "java/lang/UnsupportedOperationException", I)
set_option maxHeartbeats 1000000 in
theorem c_K_byteOf (l : Launch) (hl0 : l.stackTraces = false) {S : ax_S} {I : ax_I} {R : ax_R} {L : ax_L} {u0 : Nat} {x1 : Int32} {x2 : Int32} {out : (Int32 ⊕ String) × ax_I} (hty : ax_typ S R) (hs0 : S u0 = some (.inl 4)) (h : d_K_byteOf S I R u0 x1 x2 = some out) : ax_MetX l y_K_byteOf b_K_byteOf 4 (some .int) (ax_rm 6 1 6) [.ref u0, .int x1, .int x2] S I R L (ax_eqX out.1 S out.2 R L) := by
  refine ax_enterX (own := "LossFreeTools") (by decide +kernel) rfl (ax_cats rfl) (Nat.le_of_ble_eq_true rfl) (fun X hX hF hno hS0 => ?_)
  show ax_W X 4 0 [some (.ref u0), some (.int (x1)), some (.int (x2)), none] [] S I R L 0 0
  unfold d_K_byteOf at h
  refine ax_aload_n (q := 1) hX dc_K_byteOf_0 rfl rfl rfl ?_
  obtain ⟨u1, hu2, h⟩ := ax_bd h
  have hs3 : S u1 = some (.inl 1) := hty.1 _ _ _ _ hs0 hu2
  refine ax_getR (q := 4) hX dc_K_byteOf_1 rfl fl_K_36 rfl hs0 hu2 ?_
  refine ax_iload_n (q := 5) hX dc_K_byteOf_4 rfl rfl rfl ?_
  obtain ⟨r6, hr4, h⟩ := ax_bd h
  refine ax_kV (vs := [.int (x1)]) (rest := []) (q := 8) hX dc_K_byteOf_5 rfl mt_P_hasTile wl_K_81 wi_P_hasTile ws_P_hasTile hs3 rfl (c_P_hasTile l hty hs3 hr4) rfl (by decide) rfl (Nat.le_of_ble_eq_true rfl) rfl rfl (by decide) (by decide) rfl ?_
  refine ax_if_ne (tgt := 21) (q := 11) hX dc_K_byteOf_8 rfl (by decide) (fun z7 => ?_) (fun z7 => ?_)
  · rw [if_neg z7] at h
    refine ax_iload_n (q := 22) hX dc_K_byteOf_21 rfl rfl rfl ?_
    obtain ⟨r10, hr8, h⟩ := ax_bd h
    refine ax_kS (vs := [.int (x2)]) (rest := []) (q := 25) hX dc_K_byteOf_22 rfl mt_K_isByte wl_K_90 wt_K_isByte (c_K_isByte l hty  hr8) rfl (by decide) rfl (Nat.le_of_ble_eq_true rfl) rfl rfl (by decide) (by decide) rfl ?_
    refine ax_if_ne (tgt := 38) (q := 28) hX dc_K_byteOf_25 rfl (by decide) (fun z11 => ?_) (fun z11 => ?_)
    · rw [if_neg z11] at h
      refine ax_aload_n (q := 39) hX dc_K_byteOf_38 rfl rfl rfl ?_
      obtain ⟨u12, hu13, h⟩ := ax_bd h
      have hs14 : S u12 = some (.inl 1) := hty.1 _ _ _ _ hs0 hu13
      refine ax_getR (q := 42) hX dc_K_byteOf_39 rfl fl_K_36 rfl hs0 hu13 ?_
      obtain ⟨u15, hu16, h⟩ := ax_bd h
      obtain ⟨n18, hs17⟩ : ∃ n, S u15 = some (.inr (2, n)) := hty.1 _ _ _ _ hs14 hu16
      refine ax_getR (q := 45) hX dc_K_byteOf_42 rfl fl_K_95 rfl hs14 hu16 ?_
      refine ax_iload_n (q := 46) hX dc_K_byteOf_45 rfl rfl rfl ?_
      obtain ⟨j19, hj20, h⟩ := ax_bd h
      have hj20 := ax_ix_s hty hs17 hj20
      obtain ⟨u21, hu22, h⟩ := ax_bd h
      have hs23 : S u21 = some (.inl 3) := hty.2.1 _ _ _ _ hs17 hu22
      refine ax_aald (q := 47) hX j19 dc_K_byteOf_46 rfl hs17 rfl rfl hj20.1 hj20.2.1 hj20.2.2 hu22 ?_
      refine ax_astore_n (ls' := [some (.ref u0), some (.int (x1)), some (.int (x2)), some (.ref u21)]) (q := 48) hX dc_K_byteOf_47 rfl rfl (by decide) rfl ?_
      refine ax_aload_n (q := 49) hX dc_K_byteOf_48 rfl rfl rfl ?_
      refine ax_getI (q := 52) hX dc_K_byteOf_49 rfl fl_K_99 rfl hs23 ?_
      refine ax_bipush (v := 12) (q := 54) hX dc_K_byteOf_52 rfl (by decide) ?_
      refine ax_icmp_lt (tgt := 67) (q := 57) hX dc_K_byteOf_54 rfl (by decide) (fun z24 => ?_) (fun z24 => ?_)
      · rw [if_pos z24] at h
        refine ax_aload_n (q := 68) hX dc_K_byteOf_67 rfl rfl rfl ?_
        refine ax_iload_n (q := 69) hX dc_K_byteOf_68 rfl rfl rfl ?_
        obtain ⟨o29, hr25, h⟩ := ax_bd h
        refine ax_kV (vs := [.int (x2)]) (rest := []) (q := 72) hX dc_K_byteOf_69 rfl mt_T_addByte wl_K_106 wi_T_addByte ws_T_addByte hs23 rfl (c_T_addByte l hty hs23 hr25) rfl (by decide) rfl (Nat.le_of_ble_eq_true rfl) rfl rfl (by decide) (by decide) rfl ?_
        cases h
        exact ax_iret hX hF dc_K_byteOf_72 rfl rfl (by decide) (by decide) ⟨rfl, rfl, rfl, rfl, rfl⟩ (by rw [hS0]; exact fun _ _ z => z)
      · rw [if_neg z24] at h
        cases h
        exact ax_throw hX hF hno hl0 th_K_104_76 dc_K_byteOf_57 dc_K_byteOf_60 dc_K_byteOf_61 dc_K_byteOf_63 dc_K_byteOf_66 (by decide) (by decide) (by decide) (by decide) (by decide) (by decide) ⟨rfl, rfl, rfl, rfl, rfl⟩ (by rw [hS0]; exact fun _ _ z => z)
    · rw [if_pos z11] at h
      cases h
      exact ax_throw hX hF hno hl0 th_K_93_58 dc_K_byteOf_28 dc_K_byteOf_31 dc_K_byteOf_32 dc_K_byteOf_34 dc_K_byteOf_37 (by decide) (by decide) (by decide) (by decide) (by decide) (by decide) ⟨rfl, rfl, rfl, rfl, rfl⟩ (by rw [hS0]; exact fun _ _ z => z)
  · rw [if_pos z7] at h
    cases h
    exact ax_throw hX hF hno hl0 th_K_87_89 dc_K_byteOf_11 dc_K_byteOf_14 dc_K_byteOf_15 dc_K_byteOf_17 dc_K_byteOf_20 (by decide) (by decide) (by decide) (by decide) (by decide) (by decide) ⟨rfl, rfl, rfl, rfl, rfl⟩ (by rw [hS0]; exact fun _ _ z => z)
def d_K_note (S : ax_S) (I : ax_I) (R : ax_R) (u0 : Nat) (x1 : Int32) (x2 : Int32) (x3 : Int32) : Option ((Int32 ⊕ String) × ax_I) :=
  (R u0 4).bind fun u1 =>
  (d_P_hasSample S I R u1 (x1) (x2)).bind fun r6 =>
  if (ax_b r6) = 0 then
    some (.inr "java/lang/IndexOutOfBoundsException", I)
  else
    (d_K_isByte S I R (x3)).bind fun r10 =>
    if (ax_b r10) = 0 then
      some (.inr "java/lang/IllegalArgumentException", I)
    else
      (R u0 4).bind fun u12 =>
      if (I u12 3) < 20 then
        (R u0 4).bind fun u16 =>
        (d_P_addNote S I R u16 (x1) (x2) (x3)).bind fun o23 =>
        some (.inl (o23.1), o23.2)
      else
        some (.inr "java/lang/UnsupportedOperationException", I)
set_option maxHeartbeats 1000000 in
theorem c_K_note (l : Launch) (hl0 : l.stackTraces = false) {S : ax_S} {I : ax_I} {R : ax_R} {L : ax_L} {u0 : Nat} {x1 : Int32} {x2 : Int32} {x3 : Int32} {out : (Int32 ⊕ String) × ax_I} (hty : ax_typ S R) (hs0 : S u0 = some (.inl 4)) (h : d_K_note S I R u0 x1 x2 x3 = some out) : ax_MetX l y_K_note b_K_note 4 (some .int) (ax_rm 6 1 6) [.ref u0, .int x1, .int x2, .int x3] S I R L (ax_eqX out.1 S out.2 R L) := by
  refine ax_enterX (own := "LossFreeTools") (by decide +kernel) rfl (ax_cats rfl) (Nat.le_of_ble_eq_true rfl) (fun X hX hF hno hS0 => ?_)
  show ax_W X 4 0 [some (.ref u0), some (.int (x1)), some (.int (x2)), some (.int (x3))] [] S I R L 0 0
  unfold d_K_note at h
  refine ax_aload_n (q := 1) hX dc_K_note_0 rfl rfl rfl ?_
  obtain ⟨u1, hu2, h⟩ := ax_bd h
  have hs3 : S u1 = some (.inl 1) := hty.1 _ _ _ _ hs0 hu2
  refine ax_getR (q := 4) hX dc_K_note_1 rfl fl_K_36 rfl hs0 hu2 ?_
  refine ax_iload_n (q := 5) hX dc_K_note_4 rfl rfl rfl ?_
  refine ax_iload_n (q := 6) hX dc_K_note_5 rfl rfl rfl ?_
  obtain ⟨r6, hr4, h⟩ := ax_bd h
  refine ax_kV (vs := [.int (x1), .int (x2)]) (rest := []) (q := 9) hX dc_K_note_6 rfl mt_P_hasSample wl_K_109 wi_P_hasSample ws_P_hasSample hs3 rfl (c_P_hasSample l hty hs3 hr4) rfl (by decide) rfl (Nat.le_of_ble_eq_true rfl) rfl rfl (by decide) (by decide) rfl ?_
  refine ax_if_ne (tgt := 22) (q := 12) hX dc_K_note_9 rfl (by decide) (fun z7 => ?_) (fun z7 => ?_)
  · rw [if_neg z7] at h
    refine ax_iload_n (q := 23) hX dc_K_note_22 rfl rfl rfl ?_
    obtain ⟨r10, hr8, h⟩ := ax_bd h
    refine ax_kS (vs := [.int (x3)]) (rest := []) (q := 26) hX dc_K_note_23 rfl mt_K_isByte wl_K_90 wt_K_isByte (c_K_isByte l hty  hr8) rfl (by decide) rfl (Nat.le_of_ble_eq_true rfl) rfl rfl (by decide) (by decide) rfl ?_
    refine ax_if_ne (tgt := 39) (q := 29) hX dc_K_note_26 rfl (by decide) (fun z11 => ?_) (fun z11 => ?_)
    · rw [if_neg z11] at h
      refine ax_aload_n (q := 40) hX dc_K_note_39 rfl rfl rfl ?_
      obtain ⟨u12, hu13, h⟩ := ax_bd h
      have hs14 : S u12 = some (.inl 1) := hty.1 _ _ _ _ hs0 hu13
      refine ax_getR (q := 43) hX dc_K_note_40 rfl fl_K_36 rfl hs0 hu13 ?_
      refine ax_getI (q := 46) hX dc_K_note_43 rfl fl_K_115 rfl hs14 ?_
      refine ax_bipush (v := 20) (q := 48) hX dc_K_note_46 rfl (by decide) ?_
      refine ax_icmp_lt (tgt := 61) (q := 51) hX dc_K_note_48 rfl (by decide) (fun z15 => ?_) (fun z15 => ?_)
      · rw [if_pos z15] at h
        refine ax_aload_n (q := 62) hX dc_K_note_61 rfl rfl rfl ?_
        obtain ⟨u16, hu17, h⟩ := ax_bd h
        have hs18 : S u16 = some (.inl 1) := hty.1 _ _ _ _ hs0 hu17
        refine ax_getR (q := 65) hX dc_K_note_62 rfl fl_K_36 rfl hs0 hu17 ?_
        refine ax_iload_n (q := 66) hX dc_K_note_65 rfl rfl rfl ?_
        refine ax_iload_n (q := 67) hX dc_K_note_66 rfl rfl rfl ?_
        refine ax_iload_n (q := 68) hX dc_K_note_67 rfl rfl rfl ?_
        obtain ⟨o23, hr19, h⟩ := ax_bd h
        refine ax_kV (vs := [.int (x1), .int (x2), .int (x3)]) (rest := []) (q := 71) hX dc_K_note_68 rfl mt_P_addNote wl_K_120 wi_P_addNote ws_P_addNote hs18 rfl (c_P_addNote l hty hs18 hr19) rfl (by decide) rfl (Nat.le_of_ble_eq_true rfl) rfl rfl (by decide) (by decide) rfl ?_
        cases h
        exact ax_iret hX hF dc_K_note_71 rfl rfl (by decide) (by decide) ⟨rfl, rfl, rfl, rfl, rfl⟩ (by rw [hS0]; exact fun _ _ z => z)
      · rw [if_neg z15] at h
        cases h
        exact ax_throw hX hF hno hl0 th_K_118_76 dc_K_note_51 dc_K_note_54 dc_K_note_55 dc_K_note_57 dc_K_note_60 (by decide) (by decide) (by decide) (by decide) (by decide) (by decide) ⟨rfl, rfl, rfl, rfl, rfl⟩ (by rw [hS0]; exact fun _ _ z => z)
    · rw [if_pos z11] at h
      cases h
      exact ax_throw hX hF hno hl0 th_K_93_58 dc_K_note_29 dc_K_note_32 dc_K_note_33 dc_K_note_35 dc_K_note_38 (by decide) (by decide) (by decide) (by decide) (by decide) (by decide) ⟨rfl, rfl, rfl, rfl, rfl⟩ (by rw [hS0]; exact fun _ _ z => z)
  · rw [if_pos z7] at h
    cases h
    exact ax_throw hX hF hno hl0 th_K_113_89 dc_K_note_12 dc_K_note_15 dc_K_note_16 dc_K_note_18 dc_K_note_21 (by decide) (by decide) (by decide) (by decide) (by decide) (by decide) ⟨rfl, rfl, rfl, rfl, rfl⟩ (by rw [hS0]; exact fun _ _ z => z)
def d_K_crop_76 (S : ax_S) (I : ax_I) (R : ax_R) (u0 : Nat) (x1 : Int32) (x2 : Int32) (x3 : Int32) (x4 : Int32) (y0 : Int32) (w1 : Nat) : Option ((Int32 ⊕ String) × ax_I × ax_R) :=
  (ax_bo (y0)).bind fun b46 =>
  (some (ax_up I w1 7 (ax_b b46))).bind fun I48 =>
  if (I48 u0 7) = 0 then
    (R u0 4).bind fun u51 =>
    (d_P_cutTo S I48 R u51 (x1) (x2) (x3) (x4)).bind fun o59 =>
    some (.inl (o59.1), o59.2.1, o59.2.2)
  else
    some (.inl ((-1)), I48, R)
set_option maxHeartbeats 1000000 in
theorem e_K_crop_76 {l : Launch} {X : ax_X} {S : ax_S} {L : ax_L} {out : (Int32 ⊕ String) × ax_I × ax_R} (hX : ax_ok X l "LossFreeTools" b_K_crop 5 (ax_rm 6 1 6)) (hF : ax_fin X (some .int) 1 6 (ax_eqX out.1 S out.2.1 out.2.2 L)) (hS0 : ax_S0 X = S) (hno : ax_noh X) (hl0 : l.stackTraces = false) : ∀ (I : ax_I) (R : ax_R) (u0 : Nat) (x1 : Int32) (x2 : Int32) (x3 : Int32) (x4 : Int32) (y0 : Int32) (w1 : Nat), ax_typ S R → (S u0 = some (.inl 4)) → (S w1 = some (.inl 4)) → d_K_crop_76 S  I R u0 x1 x2 x3 x4 y0 w1 = some out → ax_W X 5 76 [some (.ref u0), some (.int (x1)), some (.int (x2)), some (.int (x3)), some (.int (x4))] [.int (y0), .ref w1] S I R L 0 0 := by
  rintro I R u0 x1 x2 x3 x4 y0 w1 hty hs0_ hw1_ h
  unfold d_K_crop_76 at h
  obtain ⟨b46, hb47, h⟩ := ax_bd h
  rw [ax_bo_s hb47]
  obtain ⟨I48, e49, h⟩ := ax_bs h
  refine ax_putI (q := 79) hX dc_K_crop_76 rfl fl_K_46 rfl hw1_ (fun z => by cases z) (ax_b_n _) (ax_b_f _) e49 ?_
  refine ax_aload_n (q := 80) hX dc_K_crop_79 rfl rfl rfl ?_
  refine ax_getI (q := 83) hX dc_K_crop_80 rfl fl_K_46 rfl hs0_ ?_
  refine ax_if_eq (tgt := 88) (q := 86) hX dc_K_crop_83 rfl (by decide) (fun z50 => ?_) (fun z50 => ?_)
  · rw [if_pos z50] at h
    refine ax_aload_n (q := 89) hX dc_K_crop_88 rfl rfl rfl ?_
    obtain ⟨u51, hu52, h⟩ := ax_bd h
    have hs53 : S u51 = some (.inl 1) := hty.1 _ _ _ _ hs0_ hu52
    refine ax_getR (q := 92) hX dc_K_crop_89 rfl fl_K_36 rfl hs0_ hu52 ?_
    refine ax_iload_n (q := 93) hX dc_K_crop_92 rfl rfl rfl ?_
    refine ax_iload_n (q := 94) hX dc_K_crop_93 rfl rfl rfl ?_
    refine ax_iload_n (q := 95) hX dc_K_crop_94 rfl rfl rfl ?_
    refine ax_iload (q := 97) hX dc_K_crop_95 rfl rfl ?_
    obtain ⟨o59, hr54, h⟩ := ax_bd h
    refine ax_kV (vs := [.int (x1), .int (x2), .int (x3), .int (x4)]) (rest := []) (q := 100) hX dc_K_crop_97 rfl mt_P_cutTo wl_K_130 wi_P_cutTo ws_P_cutTo hs53 rfl (c_P_cutTo l hty hs53 hr54) rfl (by decide) rfl (Nat.le_of_ble_eq_true rfl) rfl rfl (by decide) (by decide) rfl ?_
    have hty : ax_typ S o59.2.2 := t_P_cutTo hty hs53 hr54
    cases h
    exact ax_iret hX hF dc_K_crop_100 rfl rfl (by decide) (by decide) ⟨rfl, rfl, rfl, rfl, rfl⟩ (by rw [hS0]; exact fun _ _ z => z)
  · rw [if_neg z50] at h
    refine ax_iconst (v := (-1)) (q := 87) hX dc_K_crop_86 rfl (by decide) ?_
    cases h
    exact ax_iret hX hF dc_K_crop_87 rfl rfl (by decide) (by decide) ⟨rfl, rfl, rfl, rfl, rfl⟩ (by rw [hS0]; exact fun _ _ z => z)
def d_K_crop (S : ax_S) (I : ax_I) (R : ax_R) (u0 : Nat) (x1 : Int32) (x2 : Int32) (x3 : Int32) (x4 : Int32) : Option ((Int32 ⊕ String) × ax_I × ax_R) :=
  (some (ax_up I u0 7 (0))).bind fun I1 =>
  (R u0 4).bind fun u3 =>
  (d_P_holdsRectangle S I1 R u3 (x1) (x2) (x3) (x4)).bind fun r8 =>
  if (ax_b r8) = 0 then
    some (.inr "java/lang/IllegalArgumentException", I1, R)
  else
    (R u0 3).bind fun u10 =>
    (ax_ix S u10 (0)).bind fun j14 =>
    (some (ax_up I1 u10 j14 (x1))).bind fun I16 =>
    (R u0 3).bind fun u18 =>
    (ax_ix S u18 (1)).bind fun j22 =>
    (some (ax_up I16 u18 j22 (x2))).bind fun I24 =>
    (R u0 3).bind fun u26 =>
    (ax_ix S u26 (2)).bind fun j30 =>
    (some (ax_up I24 u26 j30 (x1 + x3))).bind fun I32 =>
    (R u0 3).bind fun u34 =>
    (ax_ix S u34 (3)).bind fun j38 =>
    (some (ax_up I32 u34 j38 (x2 + x4))).bind fun I40 =>
    (d_K_allAskedFit S I40 R u0).bind fun r44 =>
    if (ax_b r44) = 0 then
      d_K_crop_76 S  I40 R u0 (x1) (x2) (x3) (x4) (1) u0
    else
      d_K_crop_76 S  I40 R u0 (x1) (x2) (x3) (x4) (0) u0
set_option maxHeartbeats 1000000 in
theorem c_K_crop (l : Launch) (hl0 : l.stackTraces = false) {S : ax_S} {I : ax_I} {R : ax_R} {L : ax_L} {u0 : Nat} {x1 : Int32} {x2 : Int32} {x3 : Int32} {x4 : Int32} {out : (Int32 ⊕ String) × ax_I × ax_R} (hty : ax_typ S R) (hs0 : S u0 = some (.inl 4)) (h : d_K_crop S I R u0 x1 x2 x3 x4 = some out) : ax_MetX l y_K_crop b_K_crop 5 (some .int) (ax_rm 6 1 6) [.ref u0, .int x1, .int x2, .int x3, .int x4] S I R L (ax_eqX out.1 S out.2.1 out.2.2 L) := by
  refine ax_enterX (own := "LossFreeTools") (by decide +kernel) rfl (ax_cats rfl) (Nat.le_of_ble_eq_true rfl) (fun X hX hF hno hS0 => ?_)
  show ax_W X 5 0 [some (.ref u0), some (.int (x1)), some (.int (x2)), some (.int (x3)), some (.int (x4))] [] S I R L 0 0
  unfold d_K_crop at h
  refine ax_aload_n (q := 1) hX dc_K_crop_0 rfl rfl rfl ?_
  refine ax_iconst (v := 0) (q := 2) hX dc_K_crop_1 rfl (by decide) ?_
  obtain ⟨I1, e2, h⟩ := ax_bs h
  refine ax_putI (q := 5) hX dc_K_crop_2 rfl fl_K_46 rfl hs0 (fun z => by cases z) rfl rfl e2 ?_
  refine ax_aload_n (q := 6) hX dc_K_crop_5 rfl rfl rfl ?_
  obtain ⟨u3, hu4, h⟩ := ax_bd h
  have hs5 : S u3 = some (.inl 1) := hty.1 _ _ _ _ hs0 hu4
  refine ax_getR (q := 9) hX dc_K_crop_6 rfl fl_K_36 rfl hs0 hu4 ?_
  refine ax_iload_n (q := 10) hX dc_K_crop_9 rfl rfl rfl ?_
  refine ax_iload_n (q := 11) hX dc_K_crop_10 rfl rfl rfl ?_
  refine ax_iload_n (q := 12) hX dc_K_crop_11 rfl rfl rfl ?_
  refine ax_iload (q := 14) hX dc_K_crop_12 rfl rfl ?_
  obtain ⟨r8, hr6, h⟩ := ax_bd h
  refine ax_kV (vs := [.int (x1), .int (x2), .int (x3), .int (x4)]) (rest := []) (q := 17) hX dc_K_crop_14 rfl mt_P_holdsRectangle wl_K_50 wi_P_holdsRectangle ws_P_holdsRectangle hs5 rfl (c_P_holdsRectangle l hty hs5 hr6) rfl (by decide) rfl (Nat.le_of_ble_eq_true rfl) rfl rfl (by decide) (by decide) rfl ?_
  refine ax_if_ne (tgt := 30) (q := 20) hX dc_K_crop_17 rfl (by decide) (fun z9 => ?_) (fun z9 => ?_)
  · rw [if_neg z9] at h
    refine ax_aload_n (q := 31) hX dc_K_crop_30 rfl rfl rfl ?_
    obtain ⟨u10, hu11, h⟩ := ax_bd h
    obtain ⟨n13, hs12⟩ : ∃ n, S u10 = some (.inr (0, n)) := hty.1 _ _ _ _ hs0 hu11
    refine ax_getR (q := 34) hX dc_K_crop_31 rfl fl_K_27 rfl hs0 hu11 ?_
    refine ax_iconst (v := 0) (q := 35) hX dc_K_crop_34 rfl (by decide) ?_
    refine ax_iload_n (q := 36) hX dc_K_crop_35 rfl rfl rfl ?_
    obtain ⟨j14, hj15, h⟩ := ax_bd h
    have hj15 := ax_ix_s hty hs12 hj15
    obtain ⟨I16, e17, h⟩ := ax_bs h
    refine ax_iast (q := 37) hX j14 dc_K_crop_36 rfl hs12 hj15.1 hj15.2.1 hj15.2.2 e17 ?_
    refine ax_aload_n (q := 38) hX dc_K_crop_37 rfl rfl rfl ?_
    obtain ⟨u18, hu19, h⟩ := ax_bd h
    obtain ⟨n21, hs20⟩ : ∃ n, S u18 = some (.inr (0, n)) := hty.1 _ _ _ _ hs0 hu19
    refine ax_getR (q := 41) hX dc_K_crop_38 rfl fl_K_27 rfl hs0 hu19 ?_
    refine ax_iconst (v := 1) (q := 42) hX dc_K_crop_41 rfl (by decide) ?_
    refine ax_iload_n (q := 43) hX dc_K_crop_42 rfl rfl rfl ?_
    obtain ⟨j22, hj23, h⟩ := ax_bd h
    have hj23 := ax_ix_s hty hs20 hj23
    obtain ⟨I24, e25, h⟩ := ax_bs h
    refine ax_iast (q := 44) hX j22 dc_K_crop_43 rfl hs20 hj23.1 hj23.2.1 hj23.2.2 e25 ?_
    refine ax_aload_n (q := 45) hX dc_K_crop_44 rfl rfl rfl ?_
    obtain ⟨u26, hu27, h⟩ := ax_bd h
    obtain ⟨n29, hs28⟩ : ∃ n, S u26 = some (.inr (0, n)) := hty.1 _ _ _ _ hs0 hu27
    refine ax_getR (q := 48) hX dc_K_crop_45 rfl fl_K_27 rfl hs0 hu27 ?_
    refine ax_iconst (v := 2) (q := 49) hX dc_K_crop_48 rfl (by decide) ?_
    refine ax_iload_n (q := 50) hX dc_K_crop_49 rfl rfl rfl ?_
    refine ax_iload_n (q := 51) hX dc_K_crop_50 rfl rfl rfl ?_
    refine ax_iadd (q := 52) hX dc_K_crop_51 rfl ?_
    obtain ⟨j30, hj31, h⟩ := ax_bd h
    have hj31 := ax_ix_s hty hs28 hj31
    obtain ⟨I32, e33, h⟩ := ax_bs h
    refine ax_iast (q := 53) hX j30 dc_K_crop_52 rfl hs28 hj31.1 hj31.2.1 hj31.2.2 e33 ?_
    refine ax_aload_n (q := 54) hX dc_K_crop_53 rfl rfl rfl ?_
    obtain ⟨u34, hu35, h⟩ := ax_bd h
    obtain ⟨n37, hs36⟩ : ∃ n, S u34 = some (.inr (0, n)) := hty.1 _ _ _ _ hs0 hu35
    refine ax_getR (q := 57) hX dc_K_crop_54 rfl fl_K_27 rfl hs0 hu35 ?_
    refine ax_iconst (v := 3) (q := 58) hX dc_K_crop_57 rfl (by decide) ?_
    refine ax_iload_n (q := 59) hX dc_K_crop_58 rfl rfl rfl ?_
    refine ax_iload (q := 61) hX dc_K_crop_59 rfl rfl ?_
    refine ax_iadd (q := 62) hX dc_K_crop_61 rfl ?_
    obtain ⟨j38, hj39, h⟩ := ax_bd h
    have hj39 := ax_ix_s hty hs36 hj39
    obtain ⟨I40, e41, h⟩ := ax_bs h
    refine ax_iast (q := 63) hX j38 dc_K_crop_62 rfl hs36 hj39.1 hj39.2.1 hj39.2.2 e41 ?_
    refine ax_aload_n (q := 64) hX dc_K_crop_63 rfl rfl rfl ?_
    refine ax_aload_n (q := 65) hX dc_K_crop_64 rfl rfl rfl ?_
    obtain ⟨r44, hr42, h⟩ := ax_bd h
    refine ax_kV (vs := []) (rest := [.ref u0]) (q := 68) hX dc_K_crop_65 rfl mt_K_allAskedFit wl_K_126 wi_K_allAskedFit ws_K_allAskedFit hs0 rfl (c_K_allAskedFit l hty hs0 hr42) rfl (by decide) rfl (Nat.le_of_ble_eq_true rfl) rfl rfl (by decide) (by decide) rfl ?_
    refine ax_if_ne (tgt := 75) (q := 71) hX dc_K_crop_68 rfl (by decide) (fun z45 => ?_) (fun z45 => ?_)
    · rw [if_neg z45] at h
      refine ax_iconst (v := 0) (q := 76) hX dc_K_crop_75 rfl (by decide) ?_
      exact (e_K_crop_76 hX hF hS0 hno hl0  I40 R u0 (x1) (x2) (x3) (x4) (0) u0 hty hs0 hs0 h)
    · rw [if_pos z45] at h
      refine ax_iconst (v := 1) (q := 72) hX dc_K_crop_71 rfl (by decide) ?_
      refine ax_goto (tgt := 76) hX dc_K_crop_72 (by decide) ?_
      exact (e_K_crop_76 hX hF hS0 hno hl0  I40 R u0 (x1) (x2) (x3) (x4) (1) u0 hty hs0 hs0 h)
  · rw [if_pos z9] at h
    cases h
    exact ax_throw hX hF hno hl0 th_K_124_58 dc_K_crop_20 dc_K_crop_23 dc_K_crop_24 dc_K_crop_26 dc_K_crop_29 (by decide) (by decide) (by decide) (by decide) (by decide) (by decide) ⟨rfl, rfl, rfl, rfl, rfl⟩ (by rw [hS0]; exact fun _ _ z => z)
theorem te_K_crop_76 {S : ax_S} {out : (Int32 ⊕ String) × ax_I × ax_R} : ∀ (I : ax_I) (R : ax_R) (u0 : Nat) (x1 : Int32) (x2 : Int32) (x3 : Int32) (x4 : Int32) (y0 : Int32) (w1 : Nat), ax_typ S R → (S u0 = some (.inl 4)) → (S w1 = some (.inl 4)) → d_K_crop_76 S  I R u0 x1 x2 x3 x4 y0 w1 = some out → ax_typ S out.2.2 := by
  rintro I R u0 x1 x2 x3 x4 y0 w1 hty hs0_ hw1_ h
  unfold d_K_crop_76 at h
  obtain ⟨b46, hb47, h⟩ := ax_bd h
  obtain ⟨I48, e49, h⟩ := ax_bs h
  by_cases z50 : (I48 u0 7) = 0
  · rw [if_pos z50] at h
    obtain ⟨u51, hu52, h⟩ := ax_bd h
    have hs53 : S u51 = some (.inl 1) := hty.1 _ _ _ _ hs0_ hu52
    obtain ⟨o59, hr54, h⟩ := ax_bd h
    have hty : ax_typ S o59.2.2 := t_P_cutTo hty hs53 hr54
    cases h
    exact hty
  · rw [if_neg z50] at h
    cases h
    exact hty
theorem t_K_crop {S : ax_S} {I : ax_I} {R : ax_R} {u0 : Nat} {x1 : Int32} {x2 : Int32} {x3 : Int32} {x4 : Int32} {out : (Int32 ⊕ String) × ax_I × ax_R} (hty : ax_typ S R) (hs0 : S u0 = some (.inl 4)) (h : d_K_crop S I R u0 x1 x2 x3 x4 = some out) : ax_typ S out.2.2 := by
  unfold d_K_crop at h
  obtain ⟨I1, e2, h⟩ := ax_bs h
  obtain ⟨u3, hu4, h⟩ := ax_bd h
  have hs5 : S u3 = some (.inl 1) := hty.1 _ _ _ _ hs0 hu4
  obtain ⟨r8, hr6, h⟩ := ax_bd h
  by_cases z9 : (ax_b r8) = 0
  · rw [if_pos z9] at h
    cases h
    exact hty
  · rw [if_neg z9] at h
    obtain ⟨u10, hu11, h⟩ := ax_bd h
    obtain ⟨n13, hs12⟩ : ∃ n, S u10 = some (.inr (0, n)) := hty.1 _ _ _ _ hs0 hu11
    obtain ⟨j14, hj15, h⟩ := ax_bd h
    have hj15 := ax_ix_s hty hs12 hj15
    obtain ⟨I16, e17, h⟩ := ax_bs h
    obtain ⟨u18, hu19, h⟩ := ax_bd h
    obtain ⟨n21, hs20⟩ : ∃ n, S u18 = some (.inr (0, n)) := hty.1 _ _ _ _ hs0 hu19
    obtain ⟨j22, hj23, h⟩ := ax_bd h
    have hj23 := ax_ix_s hty hs20 hj23
    obtain ⟨I24, e25, h⟩ := ax_bs h
    obtain ⟨u26, hu27, h⟩ := ax_bd h
    obtain ⟨n29, hs28⟩ : ∃ n, S u26 = some (.inr (0, n)) := hty.1 _ _ _ _ hs0 hu27
    obtain ⟨j30, hj31, h⟩ := ax_bd h
    have hj31 := ax_ix_s hty hs28 hj31
    obtain ⟨I32, e33, h⟩ := ax_bs h
    obtain ⟨u34, hu35, h⟩ := ax_bd h
    obtain ⟨n37, hs36⟩ : ∃ n, S u34 = some (.inr (0, n)) := hty.1 _ _ _ _ hs0 hu35
    obtain ⟨j38, hj39, h⟩ := ax_bd h
    have hj39 := ax_ix_s hty hs36 hj39
    obtain ⟨I40, e41, h⟩ := ax_bs h
    obtain ⟨r44, hr42, h⟩ := ax_bd h
    by_cases z45 : (ax_b r44) = 0
    · rw [if_pos z45] at h
      exact te_K_crop_76   I40 R u0 (x1) (x2) (x3) (x4) (1) u0 hty hs0 hs0 h
    · rw [if_neg z45] at h
      exact te_K_crop_76   I40 R u0 (x1) (x2) (x3) (x4) (0) u0 hty hs0 hs0 h
def d_K_near (S : ax_S) (I : ax_I) (R : ax_R) (u0 : Nat) (x1 : Int32) : Option ((Int32 ⊕ String)) :=
  (d_K_isSide S I R (x1)).bind fun r3 =>
  if (ax_b r3) = 0 then
    some (.inr "java/lang/IndexOutOfBoundsException")
  else
    if (I u0 7) = 0 then
      some (.inr "java/lang/IllegalStateException")
    else
      (R u0 4).bind fun u6 =>
      (d_K_isUpright S I R (x1)).bind fun r11 =>
      (R u0 3).bind fun u12 =>
      (ax_ix S u12 (x1)).bind fun j16 =>
      (d_P_nearestFit S I R u6 (ax_b r11) (I u12 j16)).bind fun r20 =>
      some (.inl (r20))
set_option maxHeartbeats 1000000 in
theorem c_K_near (l : Launch) (hl0 : l.stackTraces = false) {S : ax_S} {I : ax_I} {R : ax_R} {L : ax_L} {u0 : Nat} {x1 : Int32} {out : (Int32 ⊕ String)} (hty : ax_typ S R) (hs0 : S u0 = some (.inl 4)) (h : d_K_near S I R u0 x1 = some out) : ax_MetX l y_K_near b_K_near 2 (some .int) (ax_rm 6 1 6) [.ref u0, .int x1] S I R L (ax_eqX out S I R L) := by
  refine ax_enterX (own := "LossFreeTools") (by decide +kernel) rfl (ax_cats rfl) (Nat.le_of_ble_eq_true rfl) (fun X hX hF hno hS0 => ?_)
  show ax_W X 2 0 [some (.ref u0), some (.int (x1))] [] S I R L 0 0
  unfold d_K_near at h
  refine ax_iload_n (q := 1) hX dc_K_near_0 rfl rfl rfl ?_
  obtain ⟨r3, hr1, h⟩ := ax_bd h
  refine ax_kS (vs := [.int (x1)]) (rest := []) (q := 4) hX dc_K_near_1 rfl mt_K_isSide wl_K_133 wt_K_isSide (c_K_isSide l hty  hr1) rfl (by decide) rfl (Nat.le_of_ble_eq_true rfl) rfl rfl (by decide) (by decide) rfl ?_
  refine ax_if_ne (tgt := 17) (q := 7) hX dc_K_near_4 rfl (by decide) (fun z4 => ?_) (fun z4 => ?_)
  · rw [if_neg z4] at h
    refine ax_aload_n (q := 18) hX dc_K_near_17 rfl rfl rfl ?_
    refine ax_getI (q := 21) hX dc_K_near_18 rfl fl_K_46 rfl hs0 ?_
    refine ax_if_ne (tgt := 34) (q := 24) hX dc_K_near_21 rfl (by decide) (fun z5 => ?_) (fun z5 => ?_)
    · rw [if_neg z5] at h
      refine ax_aload_n (q := 35) hX dc_K_near_34 rfl rfl rfl ?_
      obtain ⟨u6, hu7, h⟩ := ax_bd h
      have hs8 : S u6 = some (.inl 1) := hty.1 _ _ _ _ hs0 hu7
      refine ax_getR (q := 38) hX dc_K_near_35 rfl fl_K_36 rfl hs0 hu7 ?_
      refine ax_iload_n (q := 39) hX dc_K_near_38 rfl rfl rfl ?_
      obtain ⟨r11, hr9, h⟩ := ax_bd h
      refine ax_kS (vs := [.int (x1)]) (rest := [.ref u6]) (q := 42) hX dc_K_near_39 rfl mt_K_isUpright wl_K_140 wt_K_isUpright (c_K_isUpright l hty  hr9) rfl (by decide) rfl (Nat.le_of_ble_eq_true rfl) rfl rfl (by decide) (by decide) rfl ?_
      refine ax_aload_n (q := 43) hX dc_K_near_42 rfl rfl rfl ?_
      obtain ⟨u12, hu13, h⟩ := ax_bd h
      obtain ⟨n15, hs14⟩ : ∃ n, S u12 = some (.inr (0, n)) := hty.1 _ _ _ _ hs0 hu13
      refine ax_getR (q := 46) hX dc_K_near_43 rfl fl_K_27 rfl hs0 hu13 ?_
      refine ax_iload_n (q := 47) hX dc_K_near_46 rfl rfl rfl ?_
      obtain ⟨j16, hj17, h⟩ := ax_bd h
      have hj17 := ax_ix_s hty hs14 hj17
      refine ax_iald (q := 48) hX j16 dc_K_near_47 rfl hs14 hj17.1 hj17.2.1 hj17.2.2 ?_
      obtain ⟨r20, hr18, h⟩ := ax_bd h
      refine ax_kV (vs := [.int (ax_b r11), .int (I u12 j16)]) (rest := []) (q := 51) hX dc_K_near_48 rfl mt_P_nearestFit wl_K_143 wi_P_nearestFit ws_P_nearestFit hs8 rfl (c_P_nearestFit l hty hs8 hr18) rfl (by decide) rfl (Nat.le_of_ble_eq_true rfl) rfl rfl (by decide) (by decide) rfl ?_
      cases h
      exact ax_iret hX hF dc_K_near_51 rfl rfl (by decide) (by decide) ⟨rfl, rfl, rfl, rfl, rfl⟩ (by rw [hS0]; exact fun _ _ z => z)
    · rw [if_pos z5] at h
      cases h
      exact ax_throw hX hF hno hl0 th_K_138_68 dc_K_near_24 dc_K_near_27 dc_K_near_28 dc_K_near_30 dc_K_near_33 (by decide) (by decide) (by decide) (by decide) (by decide) (by decide) ⟨rfl, rfl, rfl, rfl, rfl⟩ (by rw [hS0]; exact fun _ _ z => z)
  · rw [if_pos z4] at h
    cases h
    exact ax_throw hX hF hno hl0 th_K_136_89 dc_K_near_7 dc_K_near_10 dc_K_near_11 dc_K_near_13 dc_K_near_16 (by decide) (by decide) (by decide) (by decide) (by decide) (by decide) ⟨rfl, rfl, rfl, rfl, rfl⟩ (by rw [hS0]; exact fun _ _ z => z)
def d_K_turn_10 (S : ax_S) (I : ax_I) (R : ax_R) : Option ((Int32 ⊕ String) × ax_I) :=
  some (.inr "java/lang/IllegalArgumentException", I)
set_option maxHeartbeats 1000000 in
theorem e_K_turn_10 {l : Launch} {X : ax_X} {S : ax_S} {L : ax_L} {R0 : ax_R} {out : (Int32 ⊕ String) × ax_I} (hX : ax_ok X l "LossFreeTools" b_K_turn 2 (ax_rm 6 1 6)) (hF : ax_fin X (some .int) 1 6 (ax_eqX out.1 S out.2 R0 L)) (hS0 : ax_S0 X = S) (hno : ax_noh X) (hl0 : l.stackTraces = false) : ∀ (I : ax_I) (R : ax_R), ax_typ S R → R = R0 → d_K_turn_10 S  I R = some out → ax_W X 2 10 [none, none] [] S I R L 0 0 := by
  rintro I R hty hR0 h
  subst hR0
  unfold d_K_turn_10 at h
  cases h
  exact ax_throw hX hF hno hl0 th_K_147_58 dc_K_turn_10 dc_K_turn_13 dc_K_turn_14 dc_K_turn_16 dc_K_turn_19 (by decide) (by decide) (by decide) (by decide) (by decide) (by decide) ⟨rfl, rfl, rfl, rfl, rfl⟩ (by rw [hS0]; exact fun _ _ z => z)
def d_K_turn (S : ax_S) (I : ax_I) (R : ax_R) (u0 : Nat) (x1 : Int32) : Option ((Int32 ⊕ String) × ax_I) :=
  if x1 < 0 then
    d_K_turn_10 S  I R 
  else
    if x1 < 8 then
      (R u0 4).bind fun u3 =>
      (d_P_showBy S I R u3 (x1)).bind fun I8 =>
      (d_K_together S I8 R (I8 u0 6) (x1)).bind fun r11 =>
      (some (ax_up I8 u0 6 (r11))).bind fun I12 =>
      (some (ax_up I12 u0 7 (0))).bind fun I14 =>
      some (.inl (I14 u0 6), I14)
    else
      d_K_turn_10 S  I R 
set_option maxHeartbeats 1000000 in
theorem c_K_turn (l : Launch) (hl0 : l.stackTraces = false) {S : ax_S} {I : ax_I} {R : ax_R} {L : ax_L} {u0 : Nat} {x1 : Int32} {out : (Int32 ⊕ String) × ax_I} (hty : ax_typ S R) (hs0 : S u0 = some (.inl 4)) (h : d_K_turn S I R u0 x1 = some out) : ax_MetX l y_K_turn b_K_turn 2 (some .int) (ax_rm 6 1 6) [.ref u0, .int x1] S I R L (ax_eqX out.1 S out.2 R L) := by
  refine ax_enterX (own := "LossFreeTools") (by decide +kernel) rfl (ax_cats rfl) (Nat.le_of_ble_eq_true rfl) (fun X hX hF hno hS0 => ?_)
  show ax_W X 2 0 [some (.ref u0), some (.int (x1))] [] S I R L 0 0
  unfold d_K_turn at h
  refine ax_iload_n (q := 1) hX dc_K_turn_0 rfl rfl rfl ?_
  refine ax_if_lt (tgt := 10) (q := 4) hX dc_K_turn_1 rfl (by decide) (fun z1 => ?_) (fun z1 => ?_)
  · rw [if_pos z1] at h
    exact ax_weak (ls' := [none, none]) (ax_fewP_s _ _ (by repeat (first | exact trivial | (refine And.intro rfl ?_)))) (e_K_turn_10 hX hF hS0 hno hl0  I R  hty  rfl h)
  · rw [if_neg z1] at h
    refine ax_iload_n (q := 5) hX dc_K_turn_4 rfl rfl rfl ?_
    refine ax_bipush (v := 8) (q := 7) hX dc_K_turn_5 rfl (by decide) ?_
    refine ax_icmp_lt (tgt := 20) (q := 10) hX dc_K_turn_7 rfl (by decide) (fun z2 => ?_) (fun z2 => ?_)
    · rw [if_pos z2] at h
      refine ax_aload_n (q := 21) hX dc_K_turn_20 rfl rfl rfl ?_
      obtain ⟨u3, hu4, h⟩ := ax_bd h
      have hs5 : S u3 = some (.inl 1) := hty.1 _ _ _ _ hs0 hu4
      refine ax_getR (q := 24) hX dc_K_turn_21 rfl fl_K_36 rfl hs0 hu4 ?_
      refine ax_iload_n (q := 25) hX dc_K_turn_24 rfl rfl rfl ?_
      obtain ⟨I8, hr6, h⟩ := ax_bd h
      refine ax_kV (vs := [.int (x1)]) (rest := []) (q := 28) hX dc_K_turn_25 rfl mt_P_showBy wl_K_149 wi_P_showBy ws_P_showBy hs5 rfl (c_P_showBy l hty hs5 hr6) rfl (by decide) rfl (Nat.le_of_ble_eq_true rfl) rfl rfl (by decide) (by decide) rfl ?_
      refine ax_aload_n (q := 29) hX dc_K_turn_28 rfl rfl rfl ?_
      refine ax_aload_n (q := 30) hX dc_K_turn_29 rfl rfl rfl ?_
      refine ax_getI (q := 33) hX dc_K_turn_30 rfl fl_K_43 rfl hs0 ?_
      refine ax_iload_n (q := 34) hX dc_K_turn_33 rfl rfl rfl ?_
      obtain ⟨r11, hr9, h⟩ := ax_bd h
      refine ax_kS (vs := [.int (I8 u0 6), .int (x1)]) (rest := [.ref u0]) (q := 37) hX dc_K_turn_34 rfl mt_K_together wl_K_153 wt_K_together (c_K_together l hty  hr9) rfl (by decide) rfl (Nat.le_of_ble_eq_true rfl) rfl rfl (by decide) (by decide) rfl ?_
      obtain ⟨I12, e13, h⟩ := ax_bs h
      refine ax_putI (q := 40) hX dc_K_turn_37 rfl fl_K_43 rfl hs0 (fun z => by cases z) rfl rfl e13 ?_
      refine ax_aload_n (q := 41) hX dc_K_turn_40 rfl rfl rfl ?_
      refine ax_iconst (v := 0) (q := 42) hX dc_K_turn_41 rfl (by decide) ?_
      obtain ⟨I14, e15, h⟩ := ax_bs h
      refine ax_putI (q := 45) hX dc_K_turn_42 rfl fl_K_46 rfl hs0 (fun z => by cases z) rfl rfl e15 ?_
      refine ax_aload_n (q := 46) hX dc_K_turn_45 rfl rfl rfl ?_
      refine ax_getI (q := 49) hX dc_K_turn_46 rfl fl_K_43 rfl hs0 ?_
      cases h
      exact ax_iret hX hF dc_K_turn_49 rfl rfl (by decide) (by decide) ⟨rfl, rfl, rfl, rfl, rfl⟩ (by rw [hS0]; exact fun _ _ z => z)
    · rw [if_neg z2] at h
      exact ax_weak (ls' := [none, none]) (ax_fewP_s _ _ (by repeat (first | exact trivial | (refine And.intro rfl ?_)))) (e_K_turn_10 hX hF hS0 hno hl0  I R  hty  rfl h)
def d_K_join_51 (S : ax_S) (I : ax_I) (R : ax_R) (u0 : Nat) (x1 : Int32) (x2 : Int32) (y0 : Int32) (w1 : Nat) (y2 : Int32) : Option ((Int32 ⊕ String) × ax_I × ax_R) :=
  (d_P_sizeAlong S I R w1 (y0)).bind fun r21 =>
  if y2 = r21 then
    (R u0 4).bind fun u23 =>
    (R u0 5).bind fun u26 =>
    (d_P_hasRoomFor S I R u23 u26 (x2)).bind fun r31 =>
    if (ax_b r31) = 0 then
      some (.inr "java/lang/UnsupportedOperationException", I, R)
    else
      (d_K_makePlaceAt S I R u0 (x1)).bind fun I35 =>
      (R u0 4).bind fun u36 =>
      (R u0 5).bind fun u39 =>
      (d_P_takeOver S I35 R u36 u39).bind fun o46 =>
      (some (ax_up o46.1 u0 6 (0))).bind fun I47 =>
      (some (ax_up I47 u0 7 (0))).bind fun I49 =>
      (o46.2 u0 4).bind fun u51 =>
      some (.inl (I49 u51 2), I49, o46.2)
  else
    some (.inr "java/lang/IllegalStateException", I, R)
set_option maxHeartbeats 1000000 in
theorem e_K_join_51 {l : Launch} {X : ax_X} {S : ax_S} {L : ax_L} {out : (Int32 ⊕ String) × ax_I × ax_R} (hX : ax_ok X l "LossFreeTools" b_K_join 3 (ax_rm 6 1 6)) (hF : ax_fin X (some .int) 1 6 (ax_eqX out.1 S out.2.1 out.2.2 L)) (hS0 : ax_S0 X = S) (hno : ax_noh X) (hl0 : l.stackTraces = false) : ∀ (I : ax_I) (R : ax_R) (u0 : Nat) (x1 : Int32) (x2 : Int32) (y0 : Int32) (w1 : Nat) (y2 : Int32), ax_typ S R → (S u0 = some (.inl 4)) → (S w1 = some (.inl 1)) → d_K_join_51 S  I R u0 x1 x2 y0 w1 y2 = some out → ax_W X 3 51 [some (.ref u0), some (.int (x1)), some (.int (x2))] [.int (y0), .ref w1, .int (y2)] S I R L 0 0 := by
  rintro I R u0 x1 x2 y0 w1 y2 hty hs0_ hw1_ h
  unfold d_K_join_51 at h
  obtain ⟨r21, hr19, h⟩ := ax_bd h
  refine ax_kV (vs := [.int (y0)]) (rest := [.int (y2)]) (q := 54) hX dc_K_join_51 rfl mt_P_sizeAlong wl_K_157 wi_P_sizeAlong ws_P_sizeAlong hw1_ rfl (c_P_sizeAlong l hty hw1_ hr19) rfl (by decide) rfl (Nat.le_of_ble_eq_true rfl) rfl rfl (by decide) (by decide) rfl ?_
  refine ax_icmp_eq (tgt := 67) (q := 57) hX dc_K_join_54 rfl (by decide) (fun z22 => ?_) (fun z22 => ?_)
  · rw [if_pos z22] at h
    refine ax_aload_n (q := 68) hX dc_K_join_67 rfl rfl rfl ?_
    obtain ⟨u23, hu24, h⟩ := ax_bd h
    have hs25 : S u23 = some (.inl 1) := hty.1 _ _ _ _ hs0_ hu24
    refine ax_getR (q := 71) hX dc_K_join_68 rfl fl_K_36 rfl hs0_ hu24 ?_
    refine ax_aload_n (q := 72) hX dc_K_join_71 rfl rfl rfl ?_
    obtain ⟨u26, hu27, h⟩ := ax_bd h
    have hs28 : S u26 = some (.inl 1) := hty.1 _ _ _ _ hs0_ hu27
    refine ax_getR (q := 75) hX dc_K_join_72 rfl fl_K_40 rfl hs0_ hu27 ?_
    refine ax_iload_n (q := 76) hX dc_K_join_75 rfl rfl rfl ?_
    obtain ⟨r31, hr29, h⟩ := ax_bd h
    refine ax_kV (vs := [.ref u26, .int (x2)]) (rest := []) (q := 79) hX dc_K_join_76 rfl mt_P_hasRoomFor wl_K_163 wi_P_hasRoomFor ws_P_hasRoomFor hs25 rfl (c_P_hasRoomFor l hty hs25 hs28 hr29) rfl (by decide) rfl (Nat.le_of_ble_eq_true rfl) rfl rfl (by decide) (by decide) rfl ?_
    refine ax_if_ne (tgt := 92) (q := 82) hX dc_K_join_79 rfl (by decide) (fun z32 => ?_) (fun z32 => ?_)
    · rw [if_neg z32] at h
      refine ax_aload_n (q := 93) hX dc_K_join_92 rfl rfl rfl ?_
      refine ax_iload_n (q := 94) hX dc_K_join_93 rfl rfl rfl ?_
      obtain ⟨I35, hr33, h⟩ := ax_bd h
      refine ax_kV (vs := [.int (x1)]) (rest := []) (q := 97) hX dc_K_join_94 rfl mt_K_makePlaceAt wl_K_169 wi_K_makePlaceAt ws_K_makePlaceAt hs0_ rfl (c_K_makePlaceAt l hty hs0_ hr33) rfl (by decide) rfl (Nat.le_of_ble_eq_true rfl) rfl rfl (by decide) (by decide) rfl ?_
      refine ax_aload_n (q := 98) hX dc_K_join_97 rfl rfl rfl ?_
      obtain ⟨u36, hu37, h⟩ := ax_bd h
      have hs38 : S u36 = some (.inl 1) := hty.1 _ _ _ _ hs0_ hu37
      refine ax_getR (q := 101) hX dc_K_join_98 rfl fl_K_36 rfl hs0_ hu37 ?_
      refine ax_aload_n (q := 102) hX dc_K_join_101 rfl rfl rfl ?_
      obtain ⟨u39, hu40, h⟩ := ax_bd h
      have hs41 : S u39 = some (.inl 1) := hty.1 _ _ _ _ hs0_ hu40
      refine ax_getR (q := 105) hX dc_K_join_102 rfl fl_K_40 rfl hs0_ hu40 ?_
      obtain ⟨o46, hr42, h⟩ := ax_bd h
      refine ax_kV (vs := [.ref u39]) (rest := []) (q := 108) hX dc_K_join_105 rfl mt_P_takeOver wl_K_172 wi_P_takeOver ws_P_takeOver hs38 rfl (c_P_takeOver l hty hs38 hs41 hr42) rfl (by decide) rfl (Nat.le_of_ble_eq_true rfl) rfl rfl (by decide) (by decide) rfl ?_
      have hty : ax_typ S o46.2 := t_P_takeOver hty hs38 hs41 hr42
      refine ax_aload_n (q := 109) hX dc_K_join_108 rfl rfl rfl ?_
      refine ax_iconst (v := 0) (q := 110) hX dc_K_join_109 rfl (by decide) ?_
      obtain ⟨I47, e48, h⟩ := ax_bs h
      refine ax_putI (q := 113) hX dc_K_join_110 rfl fl_K_43 rfl hs0_ (fun z => by cases z) rfl rfl e48 ?_
      refine ax_aload_n (q := 114) hX dc_K_join_113 rfl rfl rfl ?_
      refine ax_iconst (v := 0) (q := 115) hX dc_K_join_114 rfl (by decide) ?_
      obtain ⟨I49, e50, h⟩ := ax_bs h
      refine ax_putI (q := 118) hX dc_K_join_115 rfl fl_K_46 rfl hs0_ (fun z => by cases z) rfl rfl e50 ?_
      refine ax_aload_n (q := 119) hX dc_K_join_118 rfl rfl rfl ?_
      obtain ⟨u51, hu52, h⟩ := ax_bd h
      have hs53 : S u51 = some (.inl 1) := hty.1 _ _ _ _ hs0_ hu52
      refine ax_getR (q := 122) hX dc_K_join_119 rfl fl_K_36 rfl hs0_ hu52 ?_
      refine ax_getI (q := 125) hX dc_K_join_122 rfl fl_K_69 rfl hs53 ?_
      cases h
      exact ax_iret hX hF dc_K_join_125 rfl rfl (by decide) (by decide) ⟨rfl, rfl, rfl, rfl, rfl⟩ (by rw [hS0]; exact fun _ _ z => z)
    · rw [if_pos z32] at h
      cases h
      exact ax_throw hX hF hno hl0 th_K_167_76 dc_K_join_82 dc_K_join_85 dc_K_join_86 dc_K_join_88 dc_K_join_91 (by decide) (by decide) (by decide) (by decide) (by decide) (by decide) ⟨rfl, rfl, rfl, rfl, rfl⟩ (by rw [hS0]; exact fun _ _ z => z)
  · rw [if_neg z22] at h
    cases h
    exact ax_throw hX hF hno hl0 th_K_161_68 dc_K_join_57 dc_K_join_60 dc_K_join_61 dc_K_join_63 dc_K_join_66 (by decide) (by decide) (by decide) (by decide) (by decide) (by decide) ⟨rfl, rfl, rfl, rfl, rfl⟩ (by rw [hS0]; exact fun _ _ z => z)
def d_K_join_35 (S : ax_S) (I : ax_I) (R : ax_R) (u0 : Nat) (x1 : Int32) (x2 : Int32) (y0 : Int32) (w1 : Nat) : Option ((Int32 ⊕ String) × ax_I × ax_R) :=
  (d_P_sizeAlong S I R w1 (y0)).bind fun r14 =>
  (R u0 5).bind fun u15 =>
  if x2 = 0 then
    d_K_join_51 S  I R u0 (x1) (x2) (1) u15 (r14)
  else
    d_K_join_51 S  I R u0 (x1) (x2) (0) u15 (r14)
set_option maxHeartbeats 1000000 in
theorem e_K_join_35 {l : Launch} {X : ax_X} {S : ax_S} {L : ax_L} {out : (Int32 ⊕ String) × ax_I × ax_R} (hX : ax_ok X l "LossFreeTools" b_K_join 3 (ax_rm 6 1 6)) (hF : ax_fin X (some .int) 1 6 (ax_eqX out.1 S out.2.1 out.2.2 L)) (hS0 : ax_S0 X = S) (hno : ax_noh X) (hl0 : l.stackTraces = false) : ∀ (I : ax_I) (R : ax_R) (u0 : Nat) (x1 : Int32) (x2 : Int32) (y0 : Int32) (w1 : Nat), ax_typ S R → (S u0 = some (.inl 4)) → (S w1 = some (.inl 1)) → d_K_join_35 S  I R u0 x1 x2 y0 w1 = some out → ax_W X 3 35 [some (.ref u0), some (.int (x1)), some (.int (x2))] [.int (y0), .ref w1] S I R L 0 0 := by
  rintro I R u0 x1 x2 y0 w1 hty hs0_ hw1_ h
  unfold d_K_join_35 at h
  obtain ⟨r14, hr12, h⟩ := ax_bd h
  refine ax_kV (vs := [.int (y0)]) (rest := []) (q := 38) hX dc_K_join_35 rfl mt_P_sizeAlong wl_K_157 wi_P_sizeAlong ws_P_sizeAlong hw1_ rfl (c_P_sizeAlong l hty hw1_ hr12) rfl (by decide) rfl (Nat.le_of_ble_eq_true rfl) rfl rfl (by decide) (by decide) rfl ?_
  refine ax_aload_n (q := 39) hX dc_K_join_38 rfl rfl rfl ?_
  obtain ⟨u15, hu16, h⟩ := ax_bd h
  have hs17 : S u15 = some (.inl 1) := hty.1 _ _ _ _ hs0_ hu16
  refine ax_getR (q := 42) hX dc_K_join_39 rfl fl_K_40 rfl hs0_ hu16 ?_
  refine ax_iload_n (q := 43) hX dc_K_join_42 rfl rfl rfl ?_
  refine ax_if_ne (tgt := 50) (q := 46) hX dc_K_join_43 rfl (by decide) (fun z18 => ?_) (fun z18 => ?_)
  · rw [if_neg z18] at h
    refine ax_iconst (v := 0) (q := 51) hX dc_K_join_50 rfl (by decide) ?_
    exact (e_K_join_51 hX hF hS0 hno hl0  I R u0 (x1) (x2) (0) u15 (r14) hty hs0_ hs17 h)
  · rw [if_pos z18] at h
    refine ax_iconst (v := 1) (q := 47) hX dc_K_join_46 rfl (by decide) ?_
    refine ax_goto (tgt := 51) hX dc_K_join_47 (by decide) ?_
    exact (e_K_join_51 hX hF hS0 hno hl0  I R u0 (x1) (x2) (1) u15 (r14) hty hs0_ hs17 h)
def d_K_join (S : ax_S) (I : ax_I) (R : ax_R) (u0 : Nat) (x1 : Int32) : Option ((Int32 ⊕ String) × ax_I × ax_R) :=
  (d_K_isSide S I R (x1)).bind fun r3 =>
  if (ax_b r3) = 0 then
    some (.inr "java/lang/IndexOutOfBoundsException", I, R)
  else
    (d_K_isUpright S I R (x1)).bind fun r7 =>
    (R u0 4).bind fun u8 =>
    if (ax_b r7) = 0 then
      d_K_join_35 S  I R u0 (x1) (ax_b r7) (1) u8
    else
      d_K_join_35 S  I R u0 (x1) (ax_b r7) (0) u8
set_option maxHeartbeats 1000000 in
theorem c_K_join (l : Launch) (hl0 : l.stackTraces = false) {S : ax_S} {I : ax_I} {R : ax_R} {L : ax_L} {u0 : Nat} {x1 : Int32} {out : (Int32 ⊕ String) × ax_I × ax_R} (hty : ax_typ S R) (hs0 : S u0 = some (.inl 4)) (h : d_K_join S I R u0 x1 = some out) : ax_MetX l y_K_join b_K_join 3 (some .int) (ax_rm 6 1 6) [.ref u0, .int x1] S I R L (ax_eqX out.1 S out.2.1 out.2.2 L) := by
  refine ax_enterX (own := "LossFreeTools") (by decide +kernel) rfl (ax_cats rfl) (Nat.le_of_ble_eq_true rfl) (fun X hX hF hno hS0 => ?_)
  show ax_W X 3 0 [some (.ref u0), some (.int (x1)), none] [] S I R L 0 0
  unfold d_K_join at h
  refine ax_iload_n (q := 1) hX dc_K_join_0 rfl rfl rfl ?_
  obtain ⟨r3, hr1, h⟩ := ax_bd h
  refine ax_kS (vs := [.int (x1)]) (rest := []) (q := 4) hX dc_K_join_1 rfl mt_K_isSide wl_K_133 wt_K_isSide (c_K_isSide l hty  hr1) rfl (by decide) rfl (Nat.le_of_ble_eq_true rfl) rfl rfl (by decide) (by decide) rfl ?_
  refine ax_if_ne (tgt := 17) (q := 7) hX dc_K_join_4 rfl (by decide) (fun z4 => ?_) (fun z4 => ?_)
  · rw [if_neg z4] at h
    refine ax_iload_n (q := 18) hX dc_K_join_17 rfl rfl rfl ?_
    obtain ⟨r7, hr5, h⟩ := ax_bd h
    refine ax_kS (vs := [.int (x1)]) (rest := []) (q := 21) hX dc_K_join_18 rfl mt_K_isUpright wl_K_140 wt_K_isUpright (c_K_isUpright l hty  hr5) rfl (by decide) rfl (Nat.le_of_ble_eq_true rfl) rfl rfl (by decide) (by decide) rfl ?_
    refine ax_istore_n (ls' := [some (.ref u0), some (.int (x1)), some (.int (ax_b r7))]) (q := 22) hX dc_K_join_21 rfl rfl (by decide) rfl ?_
    refine ax_aload_n (q := 23) hX dc_K_join_22 rfl rfl rfl ?_
    obtain ⟨u8, hu9, h⟩ := ax_bd h
    have hs10 : S u8 = some (.inl 1) := hty.1 _ _ _ _ hs0 hu9
    refine ax_getR (q := 26) hX dc_K_join_23 rfl fl_K_36 rfl hs0 hu9 ?_
    refine ax_iload_n (q := 27) hX dc_K_join_26 rfl rfl rfl ?_
    refine ax_if_ne (tgt := 34) (q := 30) hX dc_K_join_27 rfl (by decide) (fun z11 => ?_) (fun z11 => ?_)
    · rw [if_neg z11] at h
      refine ax_iconst (v := 0) (q := 35) hX dc_K_join_34 rfl (by decide) ?_
      exact (e_K_join_35 hX hF hS0 hno hl0  I R u0 (x1) (ax_b r7) (0) u8 hty hs0 hs10 h)
    · rw [if_pos z11] at h
      refine ax_iconst (v := 1) (q := 31) hX dc_K_join_30 rfl (by decide) ?_
      refine ax_goto (tgt := 35) hX dc_K_join_31 (by decide) ?_
      exact (e_K_join_35 hX hF hS0 hno hl0  I R u0 (x1) (ax_b r7) (1) u8 hty hs0 hs10 h)
  · rw [if_pos z4] at h
    cases h
    exact ax_throw hX hF hno hl0 th_K_136_89 dc_K_join_7 dc_K_join_10 dc_K_join_11 dc_K_join_13 dc_K_join_16 (by decide) (by decide) (by decide) (by decide) (by decide) (by decide) ⟨rfl, rfl, rfl, rfl, rfl⟩ (by rw [hS0]; exact fun _ _ z => z)
theorem te_K_join_51 {S : ax_S} {out : (Int32 ⊕ String) × ax_I × ax_R} : ∀ (I : ax_I) (R : ax_R) (u0 : Nat) (x1 : Int32) (x2 : Int32) (y0 : Int32) (w1 : Nat) (y2 : Int32), ax_typ S R → (S u0 = some (.inl 4)) → (S w1 = some (.inl 1)) → d_K_join_51 S  I R u0 x1 x2 y0 w1 y2 = some out → ax_typ S out.2.2 := by
  rintro I R u0 x1 x2 y0 w1 y2 hty hs0_ hw1_ h
  unfold d_K_join_51 at h
  obtain ⟨r21, hr19, h⟩ := ax_bd h
  by_cases z22 : y2 = r21
  · rw [if_pos z22] at h
    obtain ⟨u23, hu24, h⟩ := ax_bd h
    have hs25 : S u23 = some (.inl 1) := hty.1 _ _ _ _ hs0_ hu24
    obtain ⟨u26, hu27, h⟩ := ax_bd h
    have hs28 : S u26 = some (.inl 1) := hty.1 _ _ _ _ hs0_ hu27
    obtain ⟨r31, hr29, h⟩ := ax_bd h
    by_cases z32 : (ax_b r31) = 0
    · rw [if_pos z32] at h
      cases h
      exact hty
    · rw [if_neg z32] at h
      obtain ⟨I35, hr33, h⟩ := ax_bd h
      obtain ⟨u36, hu37, h⟩ := ax_bd h
      have hs38 : S u36 = some (.inl 1) := hty.1 _ _ _ _ hs0_ hu37
      obtain ⟨u39, hu40, h⟩ := ax_bd h
      have hs41 : S u39 = some (.inl 1) := hty.1 _ _ _ _ hs0_ hu40
      obtain ⟨o46, hr42, h⟩ := ax_bd h
      have hty : ax_typ S o46.2 := t_P_takeOver hty hs38 hs41 hr42
      obtain ⟨I47, e48, h⟩ := ax_bs h
      obtain ⟨I49, e50, h⟩ := ax_bs h
      obtain ⟨u51, hu52, h⟩ := ax_bd h
      have hs53 : S u51 = some (.inl 1) := hty.1 _ _ _ _ hs0_ hu52
      cases h
      exact hty
  · rw [if_neg z22] at h
    cases h
    exact hty
theorem te_K_join_35 {S : ax_S} {out : (Int32 ⊕ String) × ax_I × ax_R} : ∀ (I : ax_I) (R : ax_R) (u0 : Nat) (x1 : Int32) (x2 : Int32) (y0 : Int32) (w1 : Nat), ax_typ S R → (S u0 = some (.inl 4)) → (S w1 = some (.inl 1)) → d_K_join_35 S  I R u0 x1 x2 y0 w1 = some out → ax_typ S out.2.2 := by
  rintro I R u0 x1 x2 y0 w1 hty hs0_ hw1_ h
  unfold d_K_join_35 at h
  obtain ⟨r14, hr12, h⟩ := ax_bd h
  obtain ⟨u15, hu16, h⟩ := ax_bd h
  have hs17 : S u15 = some (.inl 1) := hty.1 _ _ _ _ hs0_ hu16
  by_cases z18 : x2 = 0
  · rw [if_pos z18] at h
    exact te_K_join_51   I R u0 (x1) (x2) (1) u15 (r14) hty hs0_ hs17 h
  · rw [if_neg z18] at h
    exact te_K_join_51   I R u0 (x1) (x2) (0) u15 (r14) hty hs0_ hs17 h
theorem t_K_join {S : ax_S} {I : ax_I} {R : ax_R} {u0 : Nat} {x1 : Int32} {out : (Int32 ⊕ String) × ax_I × ax_R} (hty : ax_typ S R) (hs0 : S u0 = some (.inl 4)) (h : d_K_join S I R u0 x1 = some out) : ax_typ S out.2.2 := by
  unfold d_K_join at h
  obtain ⟨r3, hr1, h⟩ := ax_bd h
  by_cases z4 : (ax_b r3) = 0
  · rw [if_pos z4] at h
    cases h
    exact hty
  · rw [if_neg z4] at h
    obtain ⟨r7, hr5, h⟩ := ax_bd h
    obtain ⟨u8, hu9, h⟩ := ax_bd h
    have hs10 : S u8 = some (.inl 1) := hty.1 _ _ _ _ hs0 hu9
    by_cases z11 : (ax_b r7) = 0
    · rw [if_pos z11] at h
      exact te_K_join_35   I R u0 (x1) (ax_b r7) (1) u8 hty hs0 hs10 h
    · rw [if_neg z11] at h
      exact te_K_join_35   I R u0 (x1) (ax_b r7) (0) u8 hty hs0 hs10 h
def d_K_at (S : ax_S) (I : ax_I) (R : ax_R) (u0 : Nat) (x1 : Int32) (x2 : Int32) : Option ((Int32 ⊕ String)) :=
  (R u0 4).bind fun u1 =>
  (d_P_hasTile S I R u1 (x1)).bind fun r6 =>
  if (ax_b r6) = 0 then
    some (.inr "java/lang/IndexOutOfBoundsException")
  else
    (R u0 4).bind fun u8 =>
    (R u8 0).bind fun u11 =>
    (ax_ix S u11 (x1)).bind fun j15 =>
    (R u11 j15).bind fun u17 =>
    if x2 = 0 then
      some (.inl (I u17 2))
    else
    if x2 = 1 then
      some (.inl (I u17 3))
    else
    if x2 = 2 then
      some (.inl (I u17 4))
    else
    if x2 = 3 then
      some (.inl (I u17 5))
    else
    if x2 = 4 then
      some (.inl (I u17 6))
    else
    if x2 = 5 then
      some (.inl (I u17 1))
    else
    if x2 = 6 then
      (d_T_ownWidth S I R u17).bind fun r29 =>
      some (.inl (r29))
    else
    if x2 = 7 then
      (d_T_ownHeight S I R u17).bind fun r33 =>
      some (.inl (r33))
    else
    some (.inl ((-1)))
set_option maxHeartbeats 1000000 in
theorem c_K_at (l : Launch) (hl0 : l.stackTraces = false) {S : ax_S} {I : ax_I} {R : ax_R} {L : ax_L} {u0 : Nat} {x1 : Int32} {x2 : Int32} {out : (Int32 ⊕ String)} (hty : ax_typ S R) (hs0 : S u0 = some (.inl 4)) (h : d_K_at S I R u0 x1 x2 = some out) : ax_MetX l y_K_at b_K_at 4 (some .int) (ax_rm 6 1 6) [.ref u0, .int x1, .int x2] S I R L (ax_eqX out S I R L) := by
  refine ax_enterX (own := "LossFreeTools") (by decide +kernel) rfl (ax_cats rfl) (Nat.le_of_ble_eq_true rfl) (fun X hX hF hno hS0 => ?_)
  show ax_W X 4 0 [some (.ref u0), some (.int (x1)), some (.int (x2)), none] [] S I R L 0 0
  unfold d_K_at at h
  refine ax_aload_n (q := 1) hX dc_K_at_0 rfl rfl rfl ?_
  obtain ⟨u1, hu2, h⟩ := ax_bd h
  have hs3 : S u1 = some (.inl 1) := hty.1 _ _ _ _ hs0 hu2
  refine ax_getR (q := 4) hX dc_K_at_1 rfl fl_K_36 rfl hs0 hu2 ?_
  refine ax_iload_n (q := 5) hX dc_K_at_4 rfl rfl rfl ?_
  obtain ⟨r6, hr4, h⟩ := ax_bd h
  refine ax_kV (vs := [.int (x1)]) (rest := []) (q := 8) hX dc_K_at_5 rfl mt_P_hasTile wl_K_81 wi_P_hasTile ws_P_hasTile hs3 rfl (c_P_hasTile l hty hs3 hr4) rfl (by decide) rfl (Nat.le_of_ble_eq_true rfl) rfl rfl (by decide) (by decide) rfl ?_
  refine ax_if_ne (tgt := 21) (q := 11) hX dc_K_at_8 rfl (by decide) (fun z7 => ?_) (fun z7 => ?_)
  · rw [if_neg z7] at h
    refine ax_aload_n (q := 22) hX dc_K_at_21 rfl rfl rfl ?_
    obtain ⟨u8, hu9, h⟩ := ax_bd h
    have hs10 : S u8 = some (.inl 1) := hty.1 _ _ _ _ hs0 hu9
    refine ax_getR (q := 25) hX dc_K_at_22 rfl fl_K_36 rfl hs0 hu9 ?_
    obtain ⟨u11, hu12, h⟩ := ax_bd h
    obtain ⟨n14, hs13⟩ : ∃ n, S u11 = some (.inr (2, n)) := hty.1 _ _ _ _ hs10 hu12
    refine ax_getR (q := 28) hX dc_K_at_25 rfl fl_K_95 rfl hs10 hu12 ?_
    refine ax_iload_n (q := 29) hX dc_K_at_28 rfl rfl rfl ?_
    obtain ⟨j15, hj16, h⟩ := ax_bd h
    have hj16 := ax_ix_s hty hs13 hj16
    obtain ⟨u17, hu18, h⟩ := ax_bd h
    have hs19 : S u17 = some (.inl 3) := hty.2.1 _ _ _ _ hs13 hu18
    refine ax_aald (q := 30) hX j15 dc_K_at_29 rfl hs13 rfl rfl hj16.1 hj16.2.1 hj16.2.2 hu18 ?_
    refine ax_astore_n (ls' := [some (.ref u0), some (.int (x1)), some (.int (x2)), some (.ref u17)]) (q := 31) hX dc_K_at_30 rfl rfl (by decide) rfl ?_
    refine ax_iload_n (q := 32) hX dc_K_at_31 rfl rfl rfl ?_
    by_cases z20 : x2 = 0
    · rw [if_pos z20] at h
      refine ax_tsIn (tgt := 80) hX dc_K_at_32 (by rw [z20]; decide) (by rw [z20]; decide) (by rw [z20]; rfl) (by decide) ?_
      refine ax_aload_n (q := 81) hX dc_K_at_80 rfl rfl rfl ?_
      refine ax_getI (q := 84) hX dc_K_at_81 rfl fl_K_176 rfl hs19 ?_
      cases h
      exact ax_iret hX hF dc_K_at_84 rfl rfl (by decide) (by decide) ⟨rfl, rfl, rfl, rfl, rfl⟩ (by rw [hS0]; exact fun _ _ z => z)
    rw [if_neg z20] at h
    by_cases z21 : x2 = 1
    · rw [if_pos z21] at h
      refine ax_tsIn (tgt := 85) hX dc_K_at_32 (by rw [z21]; decide) (by rw [z21]; decide) (by rw [z21]; rfl) (by decide) ?_
      refine ax_aload_n (q := 86) hX dc_K_at_85 rfl rfl rfl ?_
      refine ax_getI (q := 89) hX dc_K_at_86 rfl fl_K_179 rfl hs19 ?_
      cases h
      exact ax_iret hX hF dc_K_at_89 rfl rfl (by decide) (by decide) ⟨rfl, rfl, rfl, rfl, rfl⟩ (by rw [hS0]; exact fun _ _ z => z)
    rw [if_neg z21] at h
    by_cases z22 : x2 = 2
    · rw [if_pos z22] at h
      refine ax_tsIn (tgt := 90) hX dc_K_at_32 (by rw [z22]; decide) (by rw [z22]; decide) (by rw [z22]; rfl) (by decide) ?_
      refine ax_aload_n (q := 91) hX dc_K_at_90 rfl rfl rfl ?_
      refine ax_getI (q := 94) hX dc_K_at_91 rfl fl_K_182 rfl hs19 ?_
      cases h
      exact ax_iret hX hF dc_K_at_94 rfl rfl (by decide) (by decide) ⟨rfl, rfl, rfl, rfl, rfl⟩ (by rw [hS0]; exact fun _ _ z => z)
    rw [if_neg z22] at h
    by_cases z23 : x2 = 3
    · rw [if_pos z23] at h
      refine ax_tsIn (tgt := 95) hX dc_K_at_32 (by rw [z23]; decide) (by rw [z23]; decide) (by rw [z23]; rfl) (by decide) ?_
      refine ax_aload_n (q := 96) hX dc_K_at_95 rfl rfl rfl ?_
      refine ax_getI (q := 99) hX dc_K_at_96 rfl fl_K_185 rfl hs19 ?_
      cases h
      exact ax_iret hX hF dc_K_at_99 rfl rfl (by decide) (by decide) ⟨rfl, rfl, rfl, rfl, rfl⟩ (by rw [hS0]; exact fun _ _ z => z)
    rw [if_neg z23] at h
    by_cases z24 : x2 = 4
    · rw [if_pos z24] at h
      refine ax_tsIn (tgt := 100) hX dc_K_at_32 (by rw [z24]; decide) (by rw [z24]; decide) (by rw [z24]; rfl) (by decide) ?_
      refine ax_aload_n (q := 101) hX dc_K_at_100 rfl rfl rfl ?_
      refine ax_getI (q := 104) hX dc_K_at_101 rfl fl_K_188 rfl hs19 ?_
      cases h
      exact ax_iret hX hF dc_K_at_104 rfl rfl (by decide) (by decide) ⟨rfl, rfl, rfl, rfl, rfl⟩ (by rw [hS0]; exact fun _ _ z => z)
    rw [if_neg z24] at h
    by_cases z25 : x2 = 5
    · rw [if_pos z25] at h
      refine ax_tsIn (tgt := 105) hX dc_K_at_32 (by rw [z25]; decide) (by rw [z25]; decide) (by rw [z25]; rfl) (by decide) ?_
      refine ax_aload_n (q := 106) hX dc_K_at_105 rfl rfl rfl ?_
      refine ax_getI (q := 109) hX dc_K_at_106 rfl fl_K_99 rfl hs19 ?_
      cases h
      exact ax_iret hX hF dc_K_at_109 rfl rfl (by decide) (by decide) ⟨rfl, rfl, rfl, rfl, rfl⟩ (by rw [hS0]; exact fun _ _ z => z)
    rw [if_neg z25] at h
    by_cases z26 : x2 = 6
    · rw [if_pos z26] at h
      refine ax_tsIn (tgt := 110) hX dc_K_at_32 (by rw [z26]; decide) (by rw [z26]; decide) (by rw [z26]; rfl) (by decide) ?_
      refine ax_aload_n (q := 111) hX dc_K_at_110 rfl rfl rfl ?_
      obtain ⟨r29, hr27, h⟩ := ax_bd h
      refine ax_kV (vs := []) (rest := []) (q := 114) hX dc_K_at_111 rfl mt_T_ownWidth wl_K_191 wi_T_ownWidth ws_T_ownWidth hs19 rfl (c_T_ownWidth l hty hs19 hr27) rfl (by decide) rfl (Nat.le_of_ble_eq_true rfl) rfl rfl (by decide) (by decide) rfl ?_
      cases h
      exact ax_iret hX hF dc_K_at_114 rfl rfl (by decide) (by decide) ⟨rfl, rfl, rfl, rfl, rfl⟩ (by rw [hS0]; exact fun _ _ z => z)
    rw [if_neg z26] at h
    by_cases z30 : x2 = 7
    · rw [if_pos z30] at h
      refine ax_tsIn (tgt := 115) hX dc_K_at_32 (by rw [z30]; decide) (by rw [z30]; decide) (by rw [z30]; rfl) (by decide) ?_
      refine ax_aload_n (q := 116) hX dc_K_at_115 rfl rfl rfl ?_
      obtain ⟨r33, hr31, h⟩ := ax_bd h
      refine ax_kV (vs := []) (rest := []) (q := 119) hX dc_K_at_116 rfl mt_T_ownHeight wl_K_195 wi_T_ownHeight ws_T_ownHeight hs19 rfl (c_T_ownHeight l hty hs19 hr31) rfl (by decide) rfl (Nat.le_of_ble_eq_true rfl) rfl rfl (by decide) (by decide) rfl ?_
      cases h
      exact ax_iret hX hF dc_K_at_119 rfl rfl (by decide) (by decide) ⟨rfl, rfl, rfl, rfl, rfl⟩ (by rw [hS0]; exact fun _ _ z => z)
    rw [if_neg z30] at h
    refine ax_tsOut (tgt := 120) hX dc_K_at_32 (ax_out8 z20 z21 z22 z23 z24 z25 z26 z30) (by decide) ?_
    refine ax_iconst (v := (-1)) (q := 121) hX dc_K_at_120 rfl (by decide) ?_
    cases h
    exact ax_iret hX hF dc_K_at_121 rfl rfl (by decide) (by decide) ⟨rfl, rfl, rfl, rfl, rfl⟩ (by rw [hS0]; exact fun _ _ z => z)
  · rw [if_pos z7] at h
    cases h
    exact ax_throw hX hF hno hl0 th_K_87_89 dc_K_at_11 dc_K_at_14 dc_K_at_15 dc_K_at_17 dc_K_at_20 (by decide) (by decide) (by decide) (by decide) (by decide) (by decide) ⟨rfl, rfl, rfl, rfl, rfl⟩ (by rw [hS0]; exact fun _ _ z => z)
def d_K_byteAt_43 (S : ax_S) (I : ax_I) (R : ax_R) : Option ((Int32 ⊕ String)) :=
  some (.inr "java/lang/IndexOutOfBoundsException")
set_option maxHeartbeats 1000000 in
theorem e_K_byteAt_43 {l : Launch} {X : ax_X} {S : ax_S} {L : ax_L} {I0 : ax_I} {R0 : ax_R} {out : (Int32 ⊕ String)} (hX : ax_ok X l "LossFreeTools" b_K_byteAt 4 (ax_rm 6 1 6)) (hF : ax_fin X (some .int) 1 6 (ax_eqX out S I0 R0 L)) (hS0 : ax_S0 X = S) (hno : ax_noh X) (hl0 : l.stackTraces = false) : ∀ (I : ax_I) (R : ax_R), ax_typ S R → I = I0 → R = R0 → d_K_byteAt_43 S  I R = some out → ax_W X 4 43 [none, none, none, none] [] S I R L 0 0 := by
  rintro I R hty hI0 hR0 h
  subst hI0
  subst hR0
  unfold d_K_byteAt_43 at h
  cases h
  exact ax_throw hX hF hno hl0 th_K_198_89 dc_K_byteAt_43 dc_K_byteAt_46 dc_K_byteAt_47 dc_K_byteAt_49 dc_K_byteAt_52 (by decide) (by decide) (by decide) (by decide) (by decide) (by decide) ⟨rfl, rfl, rfl, rfl, rfl⟩ (by rw [hS0]; exact fun _ _ z => z)
def d_K_byteAt (S : ax_S) (I : ax_I) (R : ax_R) (u0 : Nat) (x1 : Int32) (x2 : Int32) : Option ((Int32 ⊕ String)) :=
  (R u0 4).bind fun u1 =>
  (d_P_hasTile S I R u1 (x1)).bind fun r6 =>
  if (ax_b r6) = 0 then
    some (.inr "java/lang/IndexOutOfBoundsException")
  else
    (R u0 4).bind fun u8 =>
    (R u8 0).bind fun u11 =>
    (ax_ix S u11 (x1)).bind fun j15 =>
    (R u11 j15).bind fun u17 =>
    if x2 < 0 then
      d_K_byteAt_43 S  I R 
    else
      if x2 < (I u17 1) then
        (R u17 0).bind fun u22 =>
        (ax_ix S u22 (x2)).bind fun j26 =>
        some (.inl (I u22 j26))
      else
        d_K_byteAt_43 S  I R 
set_option maxHeartbeats 1000000 in
theorem c_K_byteAt (l : Launch) (hl0 : l.stackTraces = false) {S : ax_S} {I : ax_I} {R : ax_R} {L : ax_L} {u0 : Nat} {x1 : Int32} {x2 : Int32} {out : (Int32 ⊕ String)} (hty : ax_typ S R) (hs0 : S u0 = some (.inl 4)) (h : d_K_byteAt S I R u0 x1 x2 = some out) : ax_MetX l y_K_byteAt b_K_byteAt 4 (some .int) (ax_rm 6 1 6) [.ref u0, .int x1, .int x2] S I R L (ax_eqX out S I R L) := by
  refine ax_enterX (own := "LossFreeTools") (by decide +kernel) rfl (ax_cats rfl) (Nat.le_of_ble_eq_true rfl) (fun X hX hF hno hS0 => ?_)
  show ax_W X 4 0 [some (.ref u0), some (.int (x1)), some (.int (x2)), none] [] S I R L 0 0
  unfold d_K_byteAt at h
  refine ax_aload_n (q := 1) hX dc_K_byteAt_0 rfl rfl rfl ?_
  obtain ⟨u1, hu2, h⟩ := ax_bd h
  have hs3 : S u1 = some (.inl 1) := hty.1 _ _ _ _ hs0 hu2
  refine ax_getR (q := 4) hX dc_K_byteAt_1 rfl fl_K_36 rfl hs0 hu2 ?_
  refine ax_iload_n (q := 5) hX dc_K_byteAt_4 rfl rfl rfl ?_
  obtain ⟨r6, hr4, h⟩ := ax_bd h
  refine ax_kV (vs := [.int (x1)]) (rest := []) (q := 8) hX dc_K_byteAt_5 rfl mt_P_hasTile wl_K_81 wi_P_hasTile ws_P_hasTile hs3 rfl (c_P_hasTile l hty hs3 hr4) rfl (by decide) rfl (Nat.le_of_ble_eq_true rfl) rfl rfl (by decide) (by decide) rfl ?_
  refine ax_if_ne (tgt := 21) (q := 11) hX dc_K_byteAt_8 rfl (by decide) (fun z7 => ?_) (fun z7 => ?_)
  · rw [if_neg z7] at h
    refine ax_aload_n (q := 22) hX dc_K_byteAt_21 rfl rfl rfl ?_
    obtain ⟨u8, hu9, h⟩ := ax_bd h
    have hs10 : S u8 = some (.inl 1) := hty.1 _ _ _ _ hs0 hu9
    refine ax_getR (q := 25) hX dc_K_byteAt_22 rfl fl_K_36 rfl hs0 hu9 ?_
    obtain ⟨u11, hu12, h⟩ := ax_bd h
    obtain ⟨n14, hs13⟩ : ∃ n, S u11 = some (.inr (2, n)) := hty.1 _ _ _ _ hs10 hu12
    refine ax_getR (q := 28) hX dc_K_byteAt_25 rfl fl_K_95 rfl hs10 hu12 ?_
    refine ax_iload_n (q := 29) hX dc_K_byteAt_28 rfl rfl rfl ?_
    obtain ⟨j15, hj16, h⟩ := ax_bd h
    have hj16 := ax_ix_s hty hs13 hj16
    obtain ⟨u17, hu18, h⟩ := ax_bd h
    have hs19 : S u17 = some (.inl 3) := hty.2.1 _ _ _ _ hs13 hu18
    refine ax_aald (q := 30) hX j15 dc_K_byteAt_29 rfl hs13 rfl rfl hj16.1 hj16.2.1 hj16.2.2 hu18 ?_
    refine ax_astore_n (ls' := [some (.ref u0), some (.int (x1)), some (.int (x2)), some (.ref u17)]) (q := 31) hX dc_K_byteAt_30 rfl rfl (by decide) rfl ?_
    refine ax_iload_n (q := 32) hX dc_K_byteAt_31 rfl rfl rfl ?_
    refine ax_if_lt (tgt := 43) (q := 35) hX dc_K_byteAt_32 rfl (by decide) (fun z20 => ?_) (fun z20 => ?_)
    · rw [if_pos z20] at h
      exact ax_weak (ls' := [none, none, none, none]) (ax_fewP_s _ _ (by repeat (first | exact trivial | (refine And.intro rfl ?_)))) (e_K_byteAt_43 hX hF hS0 hno hl0  I R  hty  rfl rfl h)
    · rw [if_neg z20] at h
      refine ax_iload_n (q := 36) hX dc_K_byteAt_35 rfl rfl rfl ?_
      refine ax_aload_n (q := 37) hX dc_K_byteAt_36 rfl rfl rfl ?_
      refine ax_getI (q := 40) hX dc_K_byteAt_37 rfl fl_K_99 rfl hs19 ?_
      refine ax_icmp_lt (tgt := 53) (q := 43) hX dc_K_byteAt_40 rfl (by decide) (fun z21 => ?_) (fun z21 => ?_)
      · rw [if_pos z21] at h
        refine ax_aload_n (q := 54) hX dc_K_byteAt_53 rfl rfl rfl ?_
        obtain ⟨u22, hu23, h⟩ := ax_bd h
        obtain ⟨n25, hs24⟩ : ∃ n, S u22 = some (.inr (0, n)) := hty.1 _ _ _ _ hs19 hu23
        refine ax_getR (q := 57) hX dc_K_byteAt_54 rfl fl_K_200 rfl hs19 hu23 ?_
        refine ax_iload_n (q := 58) hX dc_K_byteAt_57 rfl rfl rfl ?_
        obtain ⟨j26, hj27, h⟩ := ax_bd h
        have hj27 := ax_ix_s hty hs24 hj27
        refine ax_iald (q := 59) hX j26 dc_K_byteAt_58 rfl hs24 hj27.1 hj27.2.1 hj27.2.2 ?_
        cases h
        exact ax_iret hX hF dc_K_byteAt_59 rfl rfl (by decide) (by decide) ⟨rfl, rfl, rfl, rfl, rfl⟩ (by rw [hS0]; exact fun _ _ z => z)
      · rw [if_neg z21] at h
        exact ax_weak (ls' := [none, none, none, none]) (ax_fewP_s _ _ (by repeat (first | exact trivial | (refine And.intro rfl ?_)))) (e_K_byteAt_43 hX hF hS0 hno hl0  I R  hty  rfl rfl h)
  · rw [if_pos z7] at h
    cases h
    exact ax_throw hX hF hno hl0 th_K_87_89 dc_K_byteAt_11 dc_K_byteAt_14 dc_K_byteAt_15 dc_K_byteAt_17 dc_K_byteAt_20 (by decide) (by decide) (by decide) (by decide) (by decide) (by decide) ⟨rfl, rfl, rfl, rfl, rfl⟩ (by rw [hS0]; exact fun _ _ z => z)
def d_K_shown (S : ax_S) (I : ax_I) (R : ax_R) (u0 : Nat) (x1 : Int32) (x2 : Int32) : Option ((Int32 ⊕ String)) :=
  (R u0 4).bind fun u1 =>
  (d_P_hasSample S I R u1 (x1) (x2)).bind fun r6 =>
  if (ax_b r6) = 0 then
    some (.inr "java/lang/IndexOutOfBoundsException")
  else
    (R u0 4).bind fun u8 =>
    (d_P_tileOver S I R u8 (x1) (x2)).bind fun r13 =>
    if r13 = (-1) then
      some (.inl ((-1)))
    else
      (R u0 4).bind fun u15 =>
      (R u15 0).bind fun u18 =>
      (ax_ix S u18 (r13)).bind fun j22 =>
      (R u18 j22).bind fun u24 =>
      (d_T_ownSample S I R u24 (x1) (x2)).bind fun r29 =>
      some (.inl ((4096 * r13) + r29))
set_option maxHeartbeats 1000000 in
theorem c_K_shown (l : Launch) (hl0 : l.stackTraces = false) {S : ax_S} {I : ax_I} {R : ax_R} {L : ax_L} {u0 : Nat} {x1 : Int32} {x2 : Int32} {out : (Int32 ⊕ String)} (hty : ax_typ S R) (hs0 : S u0 = some (.inl 4)) (h : d_K_shown S I R u0 x1 x2 = some out) : ax_MetX l y_K_shown b_K_shown 4 (some .int) (ax_rm 6 1 6) [.ref u0, .int x1, .int x2] S I R L (ax_eqX out S I R L) := by
  refine ax_enterX (own := "LossFreeTools") (by decide +kernel) rfl (ax_cats rfl) (Nat.le_of_ble_eq_true rfl) (fun X hX hF hno hS0 => ?_)
  show ax_W X 4 0 [some (.ref u0), some (.int (x1)), some (.int (x2)), none] [] S I R L 0 0
  unfold d_K_shown at h
  refine ax_aload_n (q := 1) hX dc_K_shown_0 rfl rfl rfl ?_
  obtain ⟨u1, hu2, h⟩ := ax_bd h
  have hs3 : S u1 = some (.inl 1) := hty.1 _ _ _ _ hs0 hu2
  refine ax_getR (q := 4) hX dc_K_shown_1 rfl fl_K_36 rfl hs0 hu2 ?_
  refine ax_iload_n (q := 5) hX dc_K_shown_4 rfl rfl rfl ?_
  refine ax_iload_n (q := 6) hX dc_K_shown_5 rfl rfl rfl ?_
  obtain ⟨r6, hr4, h⟩ := ax_bd h
  refine ax_kV (vs := [.int (x1), .int (x2)]) (rest := []) (q := 9) hX dc_K_shown_6 rfl mt_P_hasSample wl_K_109 wi_P_hasSample ws_P_hasSample hs3 rfl (c_P_hasSample l hty hs3 hr4) rfl (by decide) rfl (Nat.le_of_ble_eq_true rfl) rfl rfl (by decide) (by decide) rfl ?_
  refine ax_if_ne (tgt := 22) (q := 12) hX dc_K_shown_9 rfl (by decide) (fun z7 => ?_) (fun z7 => ?_)
  · rw [if_neg z7] at h
    refine ax_aload_n (q := 23) hX dc_K_shown_22 rfl rfl rfl ?_
    obtain ⟨u8, hu9, h⟩ := ax_bd h
    have hs10 : S u8 = some (.inl 1) := hty.1 _ _ _ _ hs0 hu9
    refine ax_getR (q := 26) hX dc_K_shown_23 rfl fl_K_36 rfl hs0 hu9 ?_
    refine ax_iload_n (q := 27) hX dc_K_shown_26 rfl rfl rfl ?_
    refine ax_iload_n (q := 28) hX dc_K_shown_27 rfl rfl rfl ?_
    obtain ⟨r13, hr11, h⟩ := ax_bd h
    refine ax_kV (vs := [.int (x1), .int (x2)]) (rest := []) (q := 31) hX dc_K_shown_28 rfl mt_P_tileOver wl_K_203 wi_P_tileOver ws_P_tileOver hs10 rfl (c_P_tileOver l hty hs10 hr11) rfl (by decide) rfl (Nat.le_of_ble_eq_true rfl) rfl rfl (by decide) (by decide) rfl ?_
    refine ax_istore_n (ls' := [some (.ref u0), some (.int (x1)), some (.int (x2)), some (.int (r13))]) (q := 32) hX dc_K_shown_31 rfl rfl (by decide) rfl ?_
    refine ax_iload_n (q := 33) hX dc_K_shown_32 rfl rfl rfl ?_
    refine ax_iconst (v := (-1)) (q := 34) hX dc_K_shown_33 rfl (by decide) ?_
    refine ax_icmp_ne (tgt := 39) (q := 37) hX dc_K_shown_34 rfl (by decide) (fun z14 => ?_) (fun z14 => ?_)
    · rw [if_neg z14] at h
      refine ax_sipush (v := 4096) (q := 42) hX dc_K_shown_39 rfl (by decide) ?_
      refine ax_iload_n (q := 43) hX dc_K_shown_42 rfl rfl rfl ?_
      refine ax_imul (q := 44) hX dc_K_shown_43 rfl ?_
      refine ax_aload_n (q := 45) hX dc_K_shown_44 rfl rfl rfl ?_
      obtain ⟨u15, hu16, h⟩ := ax_bd h
      have hs17 : S u15 = some (.inl 1) := hty.1 _ _ _ _ hs0 hu16
      refine ax_getR (q := 48) hX dc_K_shown_45 rfl fl_K_36 rfl hs0 hu16 ?_
      obtain ⟨u18, hu19, h⟩ := ax_bd h
      obtain ⟨n21, hs20⟩ : ∃ n, S u18 = some (.inr (2, n)) := hty.1 _ _ _ _ hs17 hu19
      refine ax_getR (q := 51) hX dc_K_shown_48 rfl fl_K_95 rfl hs17 hu19 ?_
      refine ax_iload_n (q := 52) hX dc_K_shown_51 rfl rfl rfl ?_
      obtain ⟨j22, hj23, h⟩ := ax_bd h
      have hj23 := ax_ix_s hty hs20 hj23
      obtain ⟨u24, hu25, h⟩ := ax_bd h
      have hs26 : S u24 = some (.inl 3) := hty.2.1 _ _ _ _ hs20 hu25
      refine ax_aald (q := 53) hX j22 dc_K_shown_52 rfl hs20 rfl rfl hj23.1 hj23.2.1 hj23.2.2 hu25 ?_
      refine ax_iload_n (q := 54) hX dc_K_shown_53 rfl rfl rfl ?_
      refine ax_iload_n (q := 55) hX dc_K_shown_54 rfl rfl rfl ?_
      obtain ⟨r29, hr27, h⟩ := ax_bd h
      refine ax_kV (vs := [.int (x1), .int (x2)]) (rest := [.int (4096 * r13)]) (q := 58) hX dc_K_shown_55 rfl mt_T_ownSample wl_K_206 wi_T_ownSample ws_T_ownSample hs26 rfl (c_T_ownSample l hty hs26 hr27) rfl (by decide) rfl (Nat.le_of_ble_eq_true rfl) rfl rfl (by decide) (by decide) rfl ?_
      refine ax_iadd (q := 59) hX dc_K_shown_58 rfl ?_
      cases h
      exact ax_iret hX hF dc_K_shown_59 rfl rfl (by decide) (by decide) ⟨rfl, rfl, rfl, rfl, rfl⟩ (by rw [hS0]; exact fun _ _ z => z)
    · rw [if_pos z14] at h
      refine ax_iconst (v := (-1)) (q := 38) hX dc_K_shown_37 rfl (by decide) ?_
      cases h
      exact ax_iret hX hF dc_K_shown_38 rfl rfl (by decide) (by decide) ⟨rfl, rfl, rfl, rfl, rfl⟩ (by rw [hS0]; exact fun _ _ z => z)
  · rw [if_pos z7] at h
    cases h
    exact ax_throw hX hF hno hl0 th_K_113_89 dc_K_shown_12 dc_K_shown_15 dc_K_shown_16 dc_K_shown_18 dc_K_shown_21 (by decide) (by decide) (by decide) (by decide) (by decide) (by decide) ⟨rfl, rfl, rfl, rfl, rfl⟩ (by rw [hS0]; exact fun _ _ z => z)
def d_K_noteAt_15 (S : ax_S) (I : ax_I) (R : ax_R) : Option ((Int32 ⊕ String)) :=
  some (.inr "java/lang/IndexOutOfBoundsException")
set_option maxHeartbeats 1000000 in
theorem e_K_noteAt_15 {l : Launch} {X : ax_X} {S : ax_S} {L : ax_L} {I0 : ax_I} {R0 : ax_R} {out : (Int32 ⊕ String)} (hX : ax_ok X l "LossFreeTools" b_K_noteAt 4 (ax_rm 6 1 6)) (hF : ax_fin X (some .int) 1 6 (ax_eqX out S I0 R0 L)) (hS0 : ax_S0 X = S) (hno : ax_noh X) (hl0 : l.stackTraces = false) : ∀ (I : ax_I) (R : ax_R), ax_typ S R → I = I0 → R = R0 → d_K_noteAt_15 S  I R = some out → ax_W X 4 15 [none, none, none, none] [] S I R L 0 0 := by
  rintro I R hty hI0 hR0 h
  subst hI0
  subst hR0
  unfold d_K_noteAt_15 at h
  cases h
  exact ax_throw hX hF hno hl0 th_K_209_89 dc_K_noteAt_15 dc_K_noteAt_18 dc_K_noteAt_19 dc_K_noteAt_21 dc_K_noteAt_24 (by decide) (by decide) (by decide) (by decide) (by decide) (by decide) ⟨rfl, rfl, rfl, rfl, rfl⟩ (by rw [hS0]; exact fun _ _ z => z)
def d_K_noteAt (S : ax_S) (I : ax_I) (R : ax_R) (u0 : Nat) (x1 : Int32) (x2 : Int32) : Option ((Int32 ⊕ String)) :=
  if x1 < 0 then
    d_K_noteAt_15 S  I R 
  else
    (R u0 4).bind fun u2 =>
    if x1 < (I u2 3) then
      (R u0 4).bind fun u6 =>
      (R u6 1).bind fun u9 =>
      (ax_ix S u9 (x1)).bind fun j13 =>
      (R u9 j13).bind fun u15 =>
      if x2 = 0 then
        some (.inl (I u15 0))
      else
      if x2 = 1 then
        some (.inl (I u15 1))
      else
      if x2 = 2 then
        some (.inl (I u15 2))
      else
      some (.inl ((-1)))
    else
      d_K_noteAt_15 S  I R 
set_option maxHeartbeats 1000000 in
theorem c_K_noteAt (l : Launch) (hl0 : l.stackTraces = false) {S : ax_S} {I : ax_I} {R : ax_R} {L : ax_L} {u0 : Nat} {x1 : Int32} {x2 : Int32} {out : (Int32 ⊕ String)} (hty : ax_typ S R) (hs0 : S u0 = some (.inl 4)) (h : d_K_noteAt S I R u0 x1 x2 = some out) : ax_MetX l y_K_noteAt b_K_noteAt 4 (some .int) (ax_rm 6 1 6) [.ref u0, .int x1, .int x2] S I R L (ax_eqX out S I R L) := by
  refine ax_enterX (own := "LossFreeTools") (by decide +kernel) rfl (ax_cats rfl) (Nat.le_of_ble_eq_true rfl) (fun X hX hF hno hS0 => ?_)
  show ax_W X 4 0 [some (.ref u0), some (.int (x1)), some (.int (x2)), none] [] S I R L 0 0
  unfold d_K_noteAt at h
  refine ax_iload_n (q := 1) hX dc_K_noteAt_0 rfl rfl rfl ?_
  refine ax_if_lt (tgt := 15) (q := 4) hX dc_K_noteAt_1 rfl (by decide) (fun z1 => ?_) (fun z1 => ?_)
  · rw [if_pos z1] at h
    exact ax_weak (ls' := [none, none, none, none]) (ax_fewP_s _ _ (by repeat (first | exact trivial | (refine And.intro rfl ?_)))) (e_K_noteAt_15 hX hF hS0 hno hl0  I R  hty  rfl rfl h)
  · rw [if_neg z1] at h
    refine ax_iload_n (q := 5) hX dc_K_noteAt_4 rfl rfl rfl ?_
    refine ax_aload_n (q := 6) hX dc_K_noteAt_5 rfl rfl rfl ?_
    obtain ⟨u2, hu3, h⟩ := ax_bd h
    have hs4 : S u2 = some (.inl 1) := hty.1 _ _ _ _ hs0 hu3
    refine ax_getR (q := 9) hX dc_K_noteAt_6 rfl fl_K_36 rfl hs0 hu3 ?_
    refine ax_getI (q := 12) hX dc_K_noteAt_9 rfl fl_K_115 rfl hs4 ?_
    refine ax_icmp_lt (tgt := 25) (q := 15) hX dc_K_noteAt_12 rfl (by decide) (fun z5 => ?_) (fun z5 => ?_)
    · rw [if_pos z5] at h
      refine ax_aload_n (q := 26) hX dc_K_noteAt_25 rfl rfl rfl ?_
      obtain ⟨u6, hu7, h⟩ := ax_bd h
      have hs8 : S u6 = some (.inl 1) := hty.1 _ _ _ _ hs0 hu7
      refine ax_getR (q := 29) hX dc_K_noteAt_26 rfl fl_K_36 rfl hs0 hu7 ?_
      obtain ⟨u9, hu10, h⟩ := ax_bd h
      obtain ⟨n12, hs11⟩ : ∃ n, S u9 = some (.inr (3, n)) := hty.1 _ _ _ _ hs8 hu10
      refine ax_getR (q := 32) hX dc_K_noteAt_29 rfl fl_K_211 rfl hs8 hu10 ?_
      refine ax_iload_n (q := 33) hX dc_K_noteAt_32 rfl rfl rfl ?_
      obtain ⟨j13, hj14, h⟩ := ax_bd h
      have hj14 := ax_ix_s hty hs11 hj14
      obtain ⟨u15, hu16, h⟩ := ax_bd h
      have hs17 : S u15 = some (.inl 0) := hty.2.2.1 _ _ _ _ hs11 hu16
      refine ax_aald (q := 34) hX j13 dc_K_noteAt_33 rfl hs11 rfl rfl hj14.1 hj14.2.1 hj14.2.2 hu16 ?_
      refine ax_astore_n (ls' := [some (.ref u0), some (.int (x1)), some (.int (x2)), some (.ref u15)]) (q := 35) hX dc_K_noteAt_34 rfl rfl (by decide) rfl ?_
      refine ax_iload_n (q := 36) hX dc_K_noteAt_35 rfl rfl rfl ?_
      by_cases z18 : x2 = 0
      · rw [if_pos z18] at h
        refine ax_tsIn (tgt := 64) hX dc_K_noteAt_36 (by rw [z18]; decide) (by rw [z18]; decide) (by rw [z18]; rfl) (by decide) ?_
        refine ax_aload_n (q := 65) hX dc_K_noteAt_64 rfl rfl rfl ?_
        refine ax_getI (q := 68) hX dc_K_noteAt_65 rfl fl_K_215 rfl hs17 ?_
        cases h
        exact ax_iret hX hF dc_K_noteAt_68 rfl rfl (by decide) (by decide) ⟨rfl, rfl, rfl, rfl, rfl⟩ (by rw [hS0]; exact fun _ _ z => z)
      rw [if_neg z18] at h
      by_cases z19 : x2 = 1
      · rw [if_pos z19] at h
        refine ax_tsIn (tgt := 69) hX dc_K_noteAt_36 (by rw [z19]; decide) (by rw [z19]; decide) (by rw [z19]; rfl) (by decide) ?_
        refine ax_aload_n (q := 70) hX dc_K_noteAt_69 rfl rfl rfl ?_
        refine ax_getI (q := 73) hX dc_K_noteAt_70 rfl fl_K_218 rfl hs17 ?_
        cases h
        exact ax_iret hX hF dc_K_noteAt_73 rfl rfl (by decide) (by decide) ⟨rfl, rfl, rfl, rfl, rfl⟩ (by rw [hS0]; exact fun _ _ z => z)
      rw [if_neg z19] at h
      by_cases z20 : x2 = 2
      · rw [if_pos z20] at h
        refine ax_tsIn (tgt := 74) hX dc_K_noteAt_36 (by rw [z20]; decide) (by rw [z20]; decide) (by rw [z20]; rfl) (by decide) ?_
        refine ax_aload_n (q := 75) hX dc_K_noteAt_74 rfl rfl rfl ?_
        refine ax_getI (q := 78) hX dc_K_noteAt_75 rfl fl_K_219 rfl hs17 ?_
        cases h
        exact ax_iret hX hF dc_K_noteAt_78 rfl rfl (by decide) (by decide) ⟨rfl, rfl, rfl, rfl, rfl⟩ (by rw [hS0]; exact fun _ _ z => z)
      rw [if_neg z20] at h
      refine ax_tsOut (tgt := 79) hX dc_K_noteAt_36 (ax_out3 z18 z19 z20) (by decide) ?_
      refine ax_iconst (v := (-1)) (q := 80) hX dc_K_noteAt_79 rfl (by decide) ?_
      cases h
      exact ax_iret hX hF dc_K_noteAt_80 rfl rfl (by decide) (by decide) ⟨rfl, rfl, rfl, rfl, rfl⟩ (by rw [hS0]; exact fun _ _ z => z)
    · rw [if_neg z5] at h
      exact ax_weak (ls' := [none, none, none, none]) (ax_fewP_s _ _ (by repeat (first | exact trivial | (refine And.intro rfl ?_)))) (e_K_noteAt_15 hX hF hS0 hno hl0  I R  hty  rfl rfl h)
def d_K_streamAt_15 (S : ax_S) (I : ax_I) (R : ax_R) : Option ((Int32 ⊕ String)) :=
  some (.inr "java/lang/IndexOutOfBoundsException")
set_option maxHeartbeats 1000000 in
theorem e_K_streamAt_15 {l : Launch} {X : ax_X} {S : ax_S} {L : ax_L} {I0 : ax_I} {R0 : ax_R} {out : (Int32 ⊕ String)} (hX : ax_ok X l "LossFreeTools" b_K_streamAt 2 (ax_rm 6 1 6)) (hF : ax_fin X (some .int) 1 6 (ax_eqX out S I0 R0 L)) (hS0 : ax_S0 X = S) (hno : ax_noh X) (hl0 : l.stackTraces = false) : ∀ (I : ax_I) (R : ax_R), ax_typ S R → I = I0 → R = R0 → d_K_streamAt_15 S  I R = some out → ax_W X 2 15 [none, none] [] S I R L 0 0 := by
  rintro I R hty hI0 hR0 h
  subst hI0
  subst hR0
  unfold d_K_streamAt_15 at h
  cases h
  exact ax_throw hX hF hno hl0 th_K_198_89 dc_K_streamAt_15 dc_K_streamAt_18 dc_K_streamAt_19 dc_K_streamAt_21 dc_K_streamAt_24 (by decide) (by decide) (by decide) (by decide) (by decide) (by decide) ⟨rfl, rfl, rfl, rfl, rfl⟩ (by rw [hS0]; exact fun _ _ z => z)
def d_K_streamAt (S : ax_S) (I : ax_I) (R : ax_R) (u0 : Nat) (x1 : Int32) : Option ((Int32 ⊕ String)) :=
  if x1 < 0 then
    d_K_streamAt_15 S  I R 
  else
    (R u0 2).bind fun u2 =>
    if x1 < (I u2 1) then
      (R u0 2).bind fun u6 =>
      (R u6 0).bind fun u9 =>
      (ax_ix S u9 (x1)).bind fun j13 =>
      some (.inl (I u9 j13))
    else
      d_K_streamAt_15 S  I R 
set_option maxHeartbeats 1000000 in
theorem c_K_streamAt (l : Launch) (hl0 : l.stackTraces = false) {S : ax_S} {I : ax_I} {R : ax_R} {L : ax_L} {u0 : Nat} {x1 : Int32} {out : (Int32 ⊕ String)} (hty : ax_typ S R) (hs0 : S u0 = some (.inl 4)) (h : d_K_streamAt S I R u0 x1 = some out) : ax_MetX l y_K_streamAt b_K_streamAt 2 (some .int) (ax_rm 6 1 6) [.ref u0, .int x1] S I R L (ax_eqX out S I R L) := by
  refine ax_enterX (own := "LossFreeTools") (by decide +kernel) rfl (ax_cats rfl) (Nat.le_of_ble_eq_true rfl) (fun X hX hF hno hS0 => ?_)
  show ax_W X 2 0 [some (.ref u0), some (.int (x1))] [] S I R L 0 0
  unfold d_K_streamAt at h
  refine ax_iload_n (q := 1) hX dc_K_streamAt_0 rfl rfl rfl ?_
  refine ax_if_lt (tgt := 15) (q := 4) hX dc_K_streamAt_1 rfl (by decide) (fun z1 => ?_) (fun z1 => ?_)
  · rw [if_pos z1] at h
    exact ax_weak (ls' := [none, none]) (ax_fewP_s _ _ (by repeat (first | exact trivial | (refine And.intro rfl ?_)))) (e_K_streamAt_15 hX hF hS0 hno hl0  I R  hty  rfl rfl h)
  · rw [if_neg z1] at h
    refine ax_iload_n (q := 5) hX dc_K_streamAt_4 rfl rfl rfl ?_
    refine ax_aload_n (q := 6) hX dc_K_streamAt_5 rfl rfl rfl ?_
    obtain ⟨u2, hu3, h⟩ := ax_bd h
    have hs4 : S u2 = some (.inl 2) := hty.1 _ _ _ _ hs0 hu3
    refine ax_getR (q := 9) hX dc_K_streamAt_6 rfl fl_K_23 rfl hs0 hu3 ?_
    refine ax_getI (q := 12) hX dc_K_streamAt_9 rfl fl_K_239 rfl hs4 ?_
    refine ax_icmp_lt (tgt := 25) (q := 15) hX dc_K_streamAt_12 rfl (by decide) (fun z5 => ?_) (fun z5 => ?_)
    · rw [if_pos z5] at h
      refine ax_aload_n (q := 26) hX dc_K_streamAt_25 rfl rfl rfl ?_
      obtain ⟨u6, hu7, h⟩ := ax_bd h
      have hs8 : S u6 = some (.inl 2) := hty.1 _ _ _ _ hs0 hu7
      refine ax_getR (q := 29) hX dc_K_streamAt_26 rfl fl_K_23 rfl hs0 hu7 ?_
      obtain ⟨u9, hu10, h⟩ := ax_bd h
      obtain ⟨n12, hs11⟩ : ∃ n, S u9 = some (.inr (0, n)) := hty.1 _ _ _ _ hs8 hu10
      refine ax_getR (q := 32) hX dc_K_streamAt_29 rfl fl_K_242 rfl hs8 hu10 ?_
      refine ax_iload_n (q := 33) hX dc_K_streamAt_32 rfl rfl rfl ?_
      obtain ⟨j13, hj14, h⟩ := ax_bd h
      have hj14 := ax_ix_s hty hs11 hj14
      refine ax_iald (q := 34) hX j13 dc_K_streamAt_33 rfl hs11 hj14.1 hj14.2.1 hj14.2.2 ?_
      cases h
      exact ax_iret hX hF dc_K_streamAt_34 rfl rfl (by decide) (by decide) ⟨rfl, rfl, rfl, rfl, rfl⟩ (by rw [hS0]; exact fun _ _ z => z)
    · rw [if_neg z5] at h
      exact ax_weak (ls' := [none, none]) (ax_fewP_s _ _ (by repeat (first | exact trivial | (refine And.intro rfl ?_)))) (e_K_streamAt_15 hX hF hS0 hno hl0  I R  hty  rfl rfl h)
def d_K_pointer (S : ax_S) (I : ax_I) (R : ax_R) (u0 : Nat) (x1 : Int32) : Option ((Int32 ⊕ String)) :=
  (R u0 4).bind fun u1 =>
  (d_P_hasTile S I R u1 (x1)).bind fun r6 =>
  if (ax_b r6) = 0 then
    some (.inr "java/lang/IndexOutOfBoundsException")
  else
    (R u0 4).bind fun u8 =>
    (R u0 4).bind fun u11 =>
    (R u11 0).bind fun u14 =>
    (ax_ix S u14 (x1)).bind fun j18 =>
    (R u14 j18).bind fun u20 =>
    (d_P_placeOfPart S I R u8 u20).bind fun r25 =>
    some (.inl (r25))
set_option maxHeartbeats 1000000 in
theorem c_K_pointer (l : Launch) (hl0 : l.stackTraces = false) {S : ax_S} {I : ax_I} {R : ax_R} {L : ax_L} {u0 : Nat} {x1 : Int32} {out : (Int32 ⊕ String)} (hty : ax_typ S R) (hs0 : S u0 = some (.inl 4)) (h : d_K_pointer S I R u0 x1 = some out) : ax_MetX l y_K_pointer b_K_pointer 2 (some .int) (ax_rm 6 1 6) [.ref u0, .int x1] S I R L (ax_eqX out S I R L) := by
  refine ax_enterX (own := "LossFreeTools") (by decide +kernel) rfl (ax_cats rfl) (Nat.le_of_ble_eq_true rfl) (fun X hX hF hno hS0 => ?_)
  show ax_W X 2 0 [some (.ref u0), some (.int (x1))] [] S I R L 0 0
  unfold d_K_pointer at h
  refine ax_aload_n (q := 1) hX dc_K_pointer_0 rfl rfl rfl ?_
  obtain ⟨u1, hu2, h⟩ := ax_bd h
  have hs3 : S u1 = some (.inl 1) := hty.1 _ _ _ _ hs0 hu2
  refine ax_getR (q := 4) hX dc_K_pointer_1 rfl fl_K_36 rfl hs0 hu2 ?_
  refine ax_iload_n (q := 5) hX dc_K_pointer_4 rfl rfl rfl ?_
  obtain ⟨r6, hr4, h⟩ := ax_bd h
  refine ax_kV (vs := [.int (x1)]) (rest := []) (q := 8) hX dc_K_pointer_5 rfl mt_P_hasTile wl_K_81 wi_P_hasTile ws_P_hasTile hs3 rfl (c_P_hasTile l hty hs3 hr4) rfl (by decide) rfl (Nat.le_of_ble_eq_true rfl) rfl rfl (by decide) (by decide) rfl ?_
  refine ax_if_ne (tgt := 21) (q := 11) hX dc_K_pointer_8 rfl (by decide) (fun z7 => ?_) (fun z7 => ?_)
  · rw [if_neg z7] at h
    refine ax_aload_n (q := 22) hX dc_K_pointer_21 rfl rfl rfl ?_
    obtain ⟨u8, hu9, h⟩ := ax_bd h
    have hs10 : S u8 = some (.inl 1) := hty.1 _ _ _ _ hs0 hu9
    refine ax_getR (q := 25) hX dc_K_pointer_22 rfl fl_K_36 rfl hs0 hu9 ?_
    refine ax_aload_n (q := 26) hX dc_K_pointer_25 rfl rfl rfl ?_
    obtain ⟨u11, hu12, h⟩ := ax_bd h
    have hs13 : S u11 = some (.inl 1) := hty.1 _ _ _ _ hs0 hu12
    refine ax_getR (q := 29) hX dc_K_pointer_26 rfl fl_K_36 rfl hs0 hu12 ?_
    obtain ⟨u14, hu15, h⟩ := ax_bd h
    obtain ⟨n17, hs16⟩ : ∃ n, S u14 = some (.inr (2, n)) := hty.1 _ _ _ _ hs13 hu15
    refine ax_getR (q := 32) hX dc_K_pointer_29 rfl fl_K_95 rfl hs13 hu15 ?_
    refine ax_iload_n (q := 33) hX dc_K_pointer_32 rfl rfl rfl ?_
    obtain ⟨j18, hj19, h⟩ := ax_bd h
    have hj19 := ax_ix_s hty hs16 hj19
    obtain ⟨u20, hu21, h⟩ := ax_bd h
    have hs22 : S u20 = some (.inl 3) := hty.2.1 _ _ _ _ hs16 hu21
    refine ax_aald (q := 34) hX j18 dc_K_pointer_33 rfl hs16 rfl rfl hj19.1 hj19.2.1 hj19.2.2 hu21 ?_
    obtain ⟨r25, hr23, h⟩ := ax_bd h
    refine ax_kV (vs := [.ref u20]) (rest := []) (q := 37) hX dc_K_pointer_34 rfl mt_P_placeOfPart wl_K_229 wi_P_placeOfPart ws_P_placeOfPart hs10 rfl (c_P_placeOfPart l hty hs10 hs22 hr23) rfl (by decide) rfl (Nat.le_of_ble_eq_true rfl) rfl rfl (by decide) (by decide) rfl ?_
    cases h
    exact ax_iret hX hF dc_K_pointer_37 rfl rfl (by decide) (by decide) ⟨rfl, rfl, rfl, rfl, rfl⟩ (by rw [hS0]; exact fun _ _ z => z)
  · rw [if_pos z7] at h
    cases h
    exact ax_throw hX hF hno hl0 th_K_87_89 dc_K_pointer_11 dc_K_pointer_14 dc_K_pointer_15 dc_K_pointer_17 dc_K_pointer_20 (by decide) (by decide) (by decide) (by decide) (by decide) (by decide) ⟨rfl, rfl, rfl, rfl, rfl⟩ (by rw [hS0]; exact fun _ _ z => z)
