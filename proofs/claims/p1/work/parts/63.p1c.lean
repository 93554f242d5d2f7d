/-! a fresh object: note, shown, crop -/
/-- not by unfolding: a simp with it leaves the loops shut -/
theorem ob {α β : Type} (a : α) (f : α → Option β) : (some a).bind f = f a := by rw [Option.bind_some]
section FR
variable {I J : ax_I} {w h : Int32} {L : ax_L} {sc : Nat → Int32} {i : Nat}
theorem sample_both (hK : KF I w h) (hM : MF J w h) (hw : 1 ≤ w.toInt) (hh : 1 ≤ h.toInt) (a b : Int32) : ∃ r, d_P_hasSample oS I (mR 16) 4 a b = some r ∧ d_M_isSample oS J (mR 16) 210 a b = some r := by
  unfold d_P_hasSample d_M_isSample
  rw [hK.2.1.2.2.1, hK.2.1.2.2.2, fR_m0, Option.bind_some, hM.1.2.2.2, fX_211, Option.bind_some, hM.2.2.1.1, fR_m1, Option.bind_some, fX_212, Option.bind_some, hM.2.2.1.2.2.1]
  by_cases z1 : a < 0
  · rw [if_pos z1, m_in_f (Or.inl z1), Option.bind_some, if_pos bF]
    exact ⟨_, rfl, rfl⟩
  rw [if_neg z1]
  by_cases z3 : w ≤ a
  · rw [m_in_f (Or.inr ((i_sub1 hw).mpr z3)), Option.bind_some, if_pos bF]
    by_cases z2 : b < 0
    · rw [if_pos z2]
      exact ⟨_, rfl, rfl⟩
    · rw [if_neg z2, if_pos z3]
      exact ⟨_, rfl, rfl⟩
  rw [m_in_t z1 (fun z => z3 ((i_sub1 hw).mp z)), Option.bind_some, if_neg bT]
  by_cases z2 : b < 0
  · rw [if_pos z2, m_in_f (Or.inl z2), Option.bind_some, if_pos bF]
    exact ⟨_, rfl, rfl⟩
  rw [if_neg z2, if_neg z3]
  by_cases z4 : h ≤ b
  · rw [if_pos z4, m_in_f (Or.inr ((i_sub1 hh).mpr z4)), Option.bind_some, if_pos bF]
    exact ⟨_, rfl, rfl⟩
  · rw [if_neg z4, m_in_t z2 (fun z => z4 ((i_sub1 hh).mp z)), Option.bind_some, if_neg bT]
    exact ⟨_, rfl, rfl⟩
theorem byte_both (x : Int32) : ∃ r, d_K_isByte oS I (mR 16) x = some r ∧ d_M_in oS J (mR 16) x 0 255 = some r := by
  unfold d_K_isByte d_M_in
  by_cases z1 : x < 0
  · rw [if_pos z1]
    exact ⟨_, rfl, rfl⟩
  · rw [if_neg z1]
    by_cases z2 : 255 < x
    · rw [if_pos z2]
      exact ⟨_, rfl, rfl⟩
    · rw [if_neg z2]
      exact ⟨_, rfl, rfl⟩
theorem k_note_ok (hK : KF I w h) (hM : MF I w h) (a b c : Int32) : ∃ I', d_P_addNote oS I (mR 16) 4 a b c = some (1, I') ∧ MF I' w h := by
  unfold d_P_addNote d_N_startAnew
  rw [fR_4_1, Option.bind_some, hK.2.1.2.1, fL_86, if_neg (by decide), Option.bind_some, fX_86, Option.bind_some, fR_86_0]
  simp only [Option.bind_some]
  refine ⟨_, by
    congr 2
    simp [ax_up, hK.2.1.2.1], ?_⟩
  repeat (refine MF_up (by decide) ?_)
  exact hM
theorem m_note_x (hM : MF J w h) (a b c y : Int32) (hy : ¬ y ≤ 0) : d_M_note_48 oS J (mR 16) 210 a b c y 210 = some (0, ax_up J 210 0 y) := by
  unfold d_M_note_48
  rw [Option.bind_some, if_neg (up_le hy)]
theorem m_note_ok (hM : MF J w h) (a b c : Int32) : ∃ J', d_M_note_48 oS J (mR 16) 210 a b c 0 210 = some (1, J') ∧ J' 210 0 = 0 := by
  unfold d_M_note_48
  rw [Option.bind_some, if_pos (up_ge (by decide))]
  obtain ⟨J1, hJ1⟩ : ∃ J1, J1 = ax_up J 210 0 0 := ⟨_, rfl⟩
  have e3 : J1 210 3 = 0 := by rw [hJ1, ax_up_ne (by decide)]; exact hM.1.2.2.2
  have e214 : J1 214 0 = 0 := by rw [hJ1, ax_up_ne (by decide)]; exact hM.2.2.2.2.2.1
  have e0 : J1 210 0 = 0 := by rw [hJ1, ax_up_self]
  rw [← hJ1]
  simp only [Option.bind_some, fR_m3, fR_m11, fR_m12, fR_m13, e3, fX_214, e214, fX_222, fX_223, fX_224]
  simp only [ax_up_ne (show ¬ (210 = 222 ∧ 3 = 0) by decide), ax_up_ne (show ¬ (210 = 223 ∧ 3 = 0) by decide), ax_up_ne (show ¬ (210 = 224 ∧ 3 = 0) by decide), e3, fX_214, Option.bind_some, ax_up_ne (show ¬ (210 = 214 ∧ 3 = 0) by decide)]
  refine ⟨_, by
    congr 2
    simp [ax_up, e214], ?_⟩
  simp [ax_up, e0]
theorem p1_note (hK : KF I w h) (hM : MF I w h) (hw : 1 ≤ w.toInt) (hh : 1 ≤ h.toInt) : ∃ out, d_L_300 oS sc i I (mR 16) L = some out := by
  unfold d_L_300
  generalize sc (i + 1) = a
  generalize sc (i + 2) = b
  generalize sc (i + 3) = c
  obtain ⟨r, r1, r2⟩ := sample_both hK hM hw hh a b
  obtain ⟨t, t1, t2⟩ := byte_both (I := I) (J := I) c
  cases r with
  | false =>
    have e : d_K_note oS I (mR 16) 0 a b c = some (.inr "java/lang/IndexOutOfBoundsException", I) := by
      unfold d_K_note
      rw [fR_0_4, Option.bind_some, r1, Option.bind_some, if_pos bF]
    rw [e, Option.bind_some, show hc_note (Sum.inr "java/lang/IndexOutOfBoundsException") = some 1 from rfl, Option.bind_some]
    unfold d_M_note
    rw [r2, Option.bind_some, if_pos bF, m_note_x hM _ _ _ _ (by decide), Option.bind_some]
    unfold d_M_thrown
    rw [Option.bind_some]
    exact l_end rfl (fun z => absurd z (by decide))
  | true =>
    cases t with
    | false =>
      have e : d_K_note oS I (mR 16) 0 a b c = some (.inr "java/lang/IllegalArgumentException", I) := by
        unfold d_K_note
        rw [fR_0_4, Option.bind_some, r1, Option.bind_some, if_neg bT, t1, Option.bind_some, if_pos bF]
      rw [e, Option.bind_some, show hc_note (Sum.inr "java/lang/IllegalArgumentException") = some 2 from rfl, Option.bind_some]
      unfold d_M_note
      rw [r2, Option.bind_some, if_neg bT, t2, Option.bind_some, if_pos bF, m_note_x hM _ _ _ _ (by decide), Option.bind_some]
      unfold d_M_thrown
      rw [Option.bind_some]
      exact l_end rfl (fun z => absurd z (by decide))
    | true =>
      obtain ⟨I', ha, hM'⟩ := k_note_ok hK hM a b c
      have e : d_K_note oS I (mR 16) 0 a b c = some (.inl 1, I') := by
        unfold d_K_note
        rw [fR_0_4, Option.bind_some, r1, Option.bind_some, if_neg bT, t1, Option.bind_some, if_neg bT, Option.bind_some, hK.2.1.2.1, if_pos (by decide), Option.bind_some, ha, Option.bind_some]
      obtain ⟨r', q1, q2⟩ := sample_both hK hM' hw hh a b
      cases r1.symm.trans q1
      obtain ⟨t', s1, s2⟩ := byte_both (I := I) (J := I') c
      cases t1.symm.trans s1
      obtain ⟨J', hm, hc⟩ := m_note_ok hM' a b c
      rw [e, Option.bind_some, show hc_note (Sum.inl 1) = some 0 from rfl, Option.bind_some]
      have e2 : d_M_note oS I' (mR 16) 210 a b c = some (1, J') := by
        unfold d_M_note
        rw [q2, Option.bind_some, if_neg bT, s2, Option.bind_some, if_neg bT, fR_m3, Option.bind_some, hM'.1.2.2.2, fX_214, Option.bind_some, hM'.2.2.2.2.2.1, if_neg (by decide)]
        exact hm
      dsimp only
      rw [e2, Option.bind_some]
      unfold d_M_thrown
      rw [Option.bind_some]
      exact l_end hc (fun _ => hcL_self 1 L)
theorem m_shown (hM : MF J w h) (a b y : Int32) : d_M_shown_15 oS J (mR 16) 210 a b y 210 = some (if y ≤ 0 then -1 else 0, ax_up J 210 0 y) := by
  unfold d_M_shown_15
  rw [Option.bind_some, show (5000 : Nat) = 4999 + 1 from rfl, d_M_shown_20, fR_m2, Option.bind_some, ax_up_ne (by decide), hM.1.2.2.2, fX_213, Option.bind_some, ax_up_ne (by decide), hM.2.2.2.1, if_pos (by decide)]
  unfold d_M_shown_218
  rw [ax_up_self]
  by_cases z : y ≤ 0
  · rw [if_pos z, if_pos z]
  · rw [if_neg z, if_neg z]
theorem p1_shown (hK : KF I w h) (hM : MF I w h) (hw : 1 ≤ w.toInt) (hh : 1 ≤ h.toInt) : ∃ out, d_L_789 oS sc i I (mR 16) L = some out := by
  unfold d_L_789
  generalize sc (i + 1) = a
  generalize sc (i + 2) = b
  obtain ⟨r, r1, r2⟩ := sample_both hK hM hw hh a b
  cases r with
  | false =>
    have e : d_K_shown oS I (mR 16) 0 a b = some (.inr "java/lang/IndexOutOfBoundsException") := by
      unfold d_K_shown
      rw [fR_0_4, Option.bind_some, r1, Option.bind_some, if_pos bF]
    rw [e, Option.bind_some, show hc_shown (Sum.inr "java/lang/IndexOutOfBoundsException") = some 1 from rfl, Option.bind_some]
    unfold d_M_shown
    rw [r2, Option.bind_some, if_pos bF, m_shown hM, Option.bind_some]
    unfold d_M_thrown
    rw [Option.bind_some]
    exact l_end rfl (fun z => absurd z (by decide))
  | true =>
    have e : d_K_shown oS I (mR 16) 0 a b = some (.inl (-1)) := by
      unfold d_K_shown d_P_tileOver
      rw [fR_0_4, Option.bind_some, r1, Option.bind_some, if_neg bT, Option.bind_some, show (5000 : Nat) = 4999 + 1 from rfl, d_P_tileOver_2, hK.2.1.1, if_pos (by decide), Option.bind_some, if_pos rfl]
    rw [e, Option.bind_some, show hc_shown (Sum.inl (-1)) = some 0 from rfl, Option.bind_some]
    unfold d_M_shown
    rw [r2, Option.bind_some, if_neg bT, m_shown hM, Option.bind_some, if_pos (by decide)]
    unfold d_M_thrown
    rw [Option.bind_some]
    exact l_end rfl (fun _ => hcL_self (-1) L)
theorem k_fit (hK : I 4 2 = 0) (u b : Int32) : d_P_borderFits oS I (mR 16) 4 u b = some true := by
  unfold d_P_borderFits
  rw [show (5000 : Nat) = 4999 + 1 from rfl, d_P_borderFits_2, hK, if_pos (by decide)]
theorem m_fit (h3 : J 210 3 = 0) (hz : J 213 0 = 0) (u b : Int32) : d_M_fits oS J (mR 16) 210 u b = some true := by
  unfold d_M_fits
  rw [show (5000 : Nat) = 4999 + 1 from rfl, d_M_fits_5, fR_m2, Option.bind_some, h3, fX_213, Option.bind_some, hz, if_pos (by decide)]
  rfl
theorem k_asked (hK : I 4 2 = 0) : d_K_allAskedFit oS I (mR 16) 0 = some true := by
  unfold d_K_allAskedFit
  rw [show (5000 : Nat) = 4995 + 1 + 1 + 1 + 1 + 1 from rfl]
  rw [d_K_allAskedFit_2, if_neg (by decide), fR_0_4, Option.bind_some, show d_K_isUpright oS I (mR 16) 0 = some true from rfl, Option.bind_some, fR_0_3, Option.bind_some, fX_3a, Option.bind_some, k_fit hK, Option.bind_some, if_neg bT, show (0 : Int32) + 1 = 1 from rfl]
  rw [d_K_allAskedFit_2, if_neg (by decide), fR_0_4, Option.bind_some, show d_K_isUpright oS I (mR 16) 1 = some false from rfl, Option.bind_some, fR_0_3, Option.bind_some, fX_3b, Option.bind_some, k_fit hK, Option.bind_some, if_neg bT, show (1 : Int32) + 1 = 2 from rfl]
  rw [d_K_allAskedFit_2, if_neg (by decide), fR_0_4, Option.bind_some, show d_K_isUpright oS I (mR 16) 2 = some true from rfl, Option.bind_some, fR_0_3, Option.bind_some, fX_3c, Option.bind_some, k_fit hK, Option.bind_some, if_neg bT, show (2 : Int32) + 1 = 3 from rfl]
  rw [d_K_allAskedFit_2, if_neg (by decide), fR_0_4, Option.bind_some, show d_K_isUpright oS I (mR 16) 3 = some false from rfl, Option.bind_some, fR_0_3, Option.bind_some, fX_3d, Option.bind_some, k_fit hK, Option.bind_some, if_neg bT, show (3 : Int32) + 1 = 4 from rfl]
  rw [d_K_allAskedFit_2, if_pos (by decide)]
theorem k_move (h2 : I 4 2 = 0) (h3 : I 4 3 = 0) (x y : Int32) : d_P_moveBy oS I (mR 16) 4 x y = some I := by
  unfold d_P_moveBy
  rw [show (5000 : Nat) = 4999 + 1 from rfl, d_P_moveBy_2, h2, if_pos (by decide), show (5000 : Nat) = 4999 + 1 from rfl, d_P_moveBy_29, h3, if_pos (by decide)]
theorem k_cut (h2 : I 4 2 = 0) (h3 : I 4 3 = 0) (hM : MF I w h) (a b c d : Int32) : ∃ I', d_P_cutTo oS I (mR 16) 4 a b c d = some (0, I', mR 16) ∧ MF I' w h := by
  have e1 : d_P_keepTilesWithin oS I (mR 16) 4 a b (a + c) (b + d) = some (ax_up I 4 2 0, mR 16) := by
    unfold d_P_keepTilesWithin
    rw [show (5000 : Nat) = 4999 + 1 from rfl, d_P_keepTilesWithin_6, h2, if_pos (by decide), Option.bind_some]
  have e2 : d_P_keepNotesWithin oS (ax_up I 4 2 0) (mR 16) 4 a b (a + c) (b + d) = some (ax_up (ax_up I 4 2 0) 4 3 0, mR 16) := by
    unfold d_P_keepNotesWithin
    rw [show (5000 : Nat) = 4999 + 1 from rfl, d_P_keepNotesWithin_6, ax_up_ne (by decide), h3, if_pos (by decide), Option.bind_some]
  unfold d_P_cutTo
  rw [e1, Option.bind_some]
  dsimp only
  rw [e2, Option.bind_some]
  dsimp only
  rw [k_move (by rw [ax_up_ne (by decide), ax_up_self]) (ax_up_self _ _ _ _), Option.bind_some, Option.bind_some, Option.bind_some]
  refine ⟨_, by
    congr 2, ?_⟩
  repeat (refine MF_up (by decide) ?_)
  exact hM
theorem k_crop_ok (hK : KF I w h) (hM : MF I w h) {a b c d : Int32} (hr : d_P_holdsRectangle oS (ax_up I 0 7 0) (mR 16) 4 a b c d = some true) : ∃ I', d_K_crop oS I (mR 16) 0 a b c d = some (.inl 0, I', mR 16) ∧ MF I' w h := by
  unfold d_K_crop
  rw [Option.bind_some, fR_0_4, Option.bind_some, hr, Option.bind_some, if_neg bT, fR_0_3, Option.bind_some, fX_3a, Option.bind_some, Option.bind_some, Option.bind_some, fX_3b, Option.bind_some, Option.bind_some, Option.bind_some, fX_3c, Option.bind_some, Option.bind_some, Option.bind_some, fX_3d, Option.bind_some, Option.bind_some]
  obtain ⟨I1, hI1⟩ : ∃ I1, I1 = ax_up (ax_up (ax_up (ax_up (ax_up I 0 7 0) 3 0 a) 3 1 b) 3 2 (a + c)) 3 3 (b + d) := ⟨_, rfl⟩
  rw [← hI1]
  have f2 : I1 4 2 = 0 := by rw [hI1]; simp [ax_up, hK.2.1.1]
  have f3 : I1 4 3 = 0 := by rw [hI1]; simp [ax_up, hK.2.1.2.1]
  have fM : MF I1 w h := by rw [hI1]; repeat (refine MF_up (by decide) ?_); exact hM
  rw [k_asked f2, Option.bind_some, if_neg bT]
  unfold d_K_crop_76
  rw [show ax_bo 0 = some false from rfl, Option.bind_some, Option.bind_some, ax_up_self, if_pos bF, fR_0_4, Option.bind_some]
  obtain ⟨I', hc, hM'⟩ := k_cut (I := ax_up I1 0 7 (ax_b false)) (by rw [ax_up_ne (by decide)]; exact f2) (by rw [ax_up_ne (by decide)]; exact f3) (MF_up (by decide) fM) a b c d
  rw [hc, Option.bind_some]
  exact ⟨I', rfl, hM'⟩
theorem m_crop_b (hM : MF J w h) {a b c d : Int32} (z : c < 1 ∨ d < 1 ∨ d_M_lies oS J (mR 16) 210 a b c d = some false) : d_M_crop oS J (mR 16) 210 a b c d = some (0, ax_up J 210 0 1) := by
  have e : d_M_crop_24 oS J (mR 16) 210 a b c d 210 = some (0, ax_up J 210 0 1) := by
    unfold d_M_crop_24 d_M_crop_29
    rw [Option.bind_some, if_neg (up_le (by decide))]
  unfold d_M_crop
  by_cases z1 : c < 1
  · rw [if_pos z1, e]
  · rw [if_neg z1]
    by_cases z2 : d < 1
    · rw [if_pos z2, e]
    · rw [if_neg z2, (z.resolve_left z1).resolve_left z2, Option.bind_some, if_pos bF, e]
theorem m_crop_ok (hM : MF J w h) {a b c d : Int32} (z1 : ¬ c < 1) (z2 : ¬ d < 1) (z3 : d_M_lies oS J (mR 16) 210 a b c d = some true) : ∃ J', d_M_crop oS J (mR 16) 210 a b c d = some (0, J') ∧ J' 210 0 = 0 := by
  unfold d_M_crop
  rw [if_neg z1, if_neg z2, z3, Option.bind_some, if_neg bT]
  unfold d_M_crop_29
  rw [Option.bind_some, if_pos (up_ge (by decide))]
  obtain ⟨J1, hJ1⟩ : ∃ J1, J1 = ax_up J 210 0 0 := ⟨_, rfl⟩
  have e3 : J1 210 3 = 0 := by rw [hJ1, ax_up_ne (by decide)]; exact hM.1.2.2.2
  have e213 : J1 213 0 = 0 := by rw [hJ1, ax_up_ne (by decide)]; exact hM.2.2.2.1
  have e214 : J1 214 0 = 0 := by rw [hJ1, ax_up_ne (by decide)]; exact hM.2.2.2.2.2.1
  have e0 : J1 210 0 = 0 := by rw [hJ1, ax_up_self]
  rw [← hJ1, m_fit e3 e213, Option.bind_some, if_neg bT, m_fit e3 e213, Option.bind_some, if_neg bT, m_fit e3 e213, Option.bind_some, if_neg bT, m_fit e3 e213, Option.bind_some, if_neg bT]
  unfold d_M_crop_88
  rw [show ax_bo 0 = some false from rfl, Option.bind_some, Option.bind_some, ax_up_self, if_pos bF, show (5000 : Nat) = 4999 + 1 from rfl, d_M_crop_159]
  obtain ⟨J2, hJ2⟩ : ∃ J2, J2 = ax_up J1 210 19 (ax_b false) := ⟨_, rfl⟩
  have g3 : J2 210 3 = 0 := by rw [hJ2, ax_up_ne (by decide)]; exact e3
  have g213 : J2 213 0 = 0 := by rw [hJ2, ax_up_ne (by decide)]; exact e213
  have g214 : J2 214 0 = 0 := by rw [hJ2, ax_up_ne (by decide)]; exact e214
  have g0 : J2 210 0 = 0 := by rw [hJ2, ax_up_ne (by decide)]; exact e0
  rw [← hJ2]
  simp only [fR_m2, ob, g3, fX_213, g213]
  rw [if_pos (by decide), show (5000 : Nat) = 4999 + 1 from rfl, d_M_crop_304]
  obtain ⟨J3, hJ3⟩ : ∃ J3, J3 = ax_up J2 213 0 0 := ⟨_, rfl⟩
  have k3 : J3 210 3 = 0 := by rw [hJ3, ax_up_ne (by decide)]; exact g3
  have k214 : J3 214 0 = 0 := by rw [hJ3, ax_up_ne (by decide)]; exact g214
  have k0 : J3 210 0 = 0 := by rw [hJ3, ax_up_ne (by decide)]; exact g0
  rw [← hJ3]
  simp only [fR_m3, ob, k3, fX_214, k214]
  rw [if_pos (by decide)]
  simp only [ax_up_ne (show ¬ (210 = 214 ∧ 3 = 0) by decide), ax_up_ne (show ¬ (210 = 211 ∧ 3 = 0) by decide), k3, fR_m0, fR_m1, fX_211, fX_212, ob]
  refine ⟨_, rfl, ?_⟩
  simp [ax_up, k0]
theorem p1_crop (hK : KF I w h) (hM : MF I w h) : ∃ out, d_L_380 oS sc i I (mR 16) L = some out := by
  unfold d_L_380
  generalize sc (i + 1) = a
  generalize sc (i + 2) = b
  generalize sc (i + 3) = c
  generalize sc (i + 4) = d
  have e0 : d_P_holdsRectangle oS (ax_up I 0 7 0) (mR 16) 4 a b c d = d_P_holdsRectangle oS I (mR 16) 4 a b c d := by
    unfold d_P_holdsRectangle
    rw [ax_up_ne (by decide), ax_up_ne (by decide)]
  obtain ⟨r, r1, r2, r3⟩ := rect_both hK (MF_up (i := 0) (k := 7) (v := 0) (by decide) hM) a b c d
  cases r with
  | false =>
    have e : d_K_crop oS I (mR 16) 0 a b c d = some (.inr "java/lang/IllegalArgumentException", ax_up I 0 7 0, mR 16) := by
      unfold d_K_crop
      rw [Option.bind_some, fR_0_4, Option.bind_some, e0, r1, Option.bind_some, if_pos bF]
    rw [e, Option.bind_some, show hc_crop (Sum.inr "java/lang/IllegalArgumentException") = some 1 from rfl, Option.bind_some]
    dsimp only
    rw [m_crop_b (MF_up (by decide) hM) (r3 rfl), Option.bind_some]
    unfold d_M_thrown
    rw [Option.bind_some]
    exact l_end rfl (fun z => absurd z (by decide))
  | true =>
    obtain ⟨I', hc, hM'⟩ := k_crop_ok hK hM (e0.trans r1)
    obtain ⟨r', q1, q2, -⟩ := rect_both hK hM' a b c d
    cases r1.symm.trans q1
    obtain ⟨z1, z2, z3⟩ := q2 rfl
    obtain ⟨J', hm, h0⟩ := m_crop_ok hM' z1 z2 z3
    rw [hc, Option.bind_some, show hc_crop (Sum.inl 0) = some 0 from rfl, Option.bind_some]
    dsimp only
    rw [hm, Option.bind_some]
    unfold d_M_thrown
    rw [Option.bind_some]
    exact l_end h0 (fun _ => hcL_self 0 L)
end FR
