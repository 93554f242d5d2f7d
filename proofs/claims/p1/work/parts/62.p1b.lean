/-! a fresh object: tile, note, shown, crop -/
theorem fX_5 : ax_ix oS 5 0 = some 0 := by decide +kernel
theorem fX_86 : ax_ix oS 86 0 = some 0 := by decide +kernel
theorem fX_3a : ax_ix oS 3 0 = some 0 := by decide +kernel
theorem fX_3b : ax_ix oS 3 1 = some 1 := by decide +kernel
theorem fX_3c : ax_ix oS 3 2 = some 2 := by decide +kernel
theorem fX_3d : ax_ix oS 3 3 = some 3 := by decide +kernel
theorem fL_5 : nI (ax_len oS 5) = 40 := by decide +kernel
theorem fL_86 : nI (ax_len oS 86) = 20 := by decide +kernel
theorem fX_215 : ax_ix oS 215 (40 * 0 + 0) = some 0 := by decide +kernel
theorem fX_216 : ax_ix oS 216 (40 * 0 + 0) = some 0 := by decide +kernel
theorem fX_217 : ax_ix oS 217 (40 * 0 + 0) = some 0 := by decide +kernel
theorem fX_218 : ax_ix oS 218 (40 * 0 + 0) = some 0 := by decide +kernel
theorem fX_219 : ax_ix oS 219 (40 * 0 + 0) = some 0 := by decide +kernel
theorem fX_220 : ax_ix oS 220 (40 * 0 + 0) = some 0 := by decide +kernel
theorem fX_222 : ax_ix oS 222 (20 * 0 + 0) = some 0 := by decide +kernel
theorem fX_223 : ax_ix oS 223 (20 * 0 + 0) = some 0 := by decide +kernel
theorem fX_224 : ax_ix oS 224 (20 * 0 + 0) = some 0 := by decide +kernel
theorem i_sub1 {w x : Int32} (h1 : 1 ≤ w.toInt) : w - 1 < x ↔ w ≤ x := by
  have e : (w - 1).toInt = w.toInt - 1 := by
    rw [Int32.toInt_sub]
    have a : (1 : Int32).toInt = 1 := rfl
    have b := w.toInt_lt
    rw [a]
    exact Int.bmod_eq_of_le (by omega) (by omega)
  rw [Int32.lt_iff_toInt_lt, Int32.le_iff_toInt_le, e]
  omega
section FR
variable {I J : ax_I} {w h : Int32} {L : ax_L} {sc : Nat → Int32} {i : Nat}
theorem k_noOv (hK : I 4 2 = 0) (a b c d : Int32) : d_P_overlapsTile oS I (mR 16) 4 a b c d = some false := by
  unfold d_P_overlapsTile
  rw [show (5000 : Nat) = 4999 + 1 from rfl, d_P_overlapsTile_3, hK, if_pos (by decide)]
/-- the tests of tile() and crop() on both sides -/
theorem rect_both (hK : KF I w h) (hM : MF J w h) (a b c d : Int32) : ∃ r, d_P_holdsRectangle oS I (mR 16) 4 a b c d = some r ∧ (r = true → ¬ c < 1 ∧ ¬ d < 1 ∧ d_M_lies oS J (mR 16) 210 a b c d = some true) ∧ (r = false → c < 1 ∨ d < 1 ∨ d_M_lies oS J (mR 16) 210 a b c d = some false) := by
  unfold d_P_holdsRectangle d_M_lies
  rw [hK.2.1.2.2.1, hK.2.1.2.2.2, fR_m0, Option.bind_some, hM.1.2.2.2, fX_211, Option.bind_some, hM.2.2.1.1, fR_m1, Option.bind_some, fX_212, Option.bind_some, hM.2.2.1.2.2.1]
  by_cases z1 : c < 1
  · rw [if_pos z1]
    exact ⟨_, rfl, fun z => (by cases z), fun _ => Or.inl z1⟩
  by_cases z2 : d < 1
  · rw [if_neg z1, if_pos z2]
    exact ⟨_, rfl, fun z => (by cases z), fun _ => Or.inr (Or.inl z2)⟩
  rw [if_neg z1, if_neg z2]
  by_cases z3 : a < 0
  · rw [if_pos z3]
    exact ⟨_, rfl, fun z => (by cases z), fun _ => Or.inr (Or.inr rfl)⟩
  by_cases z4 : b < 0
  · rw [if_neg z3, if_pos z4]
    exact ⟨_, rfl, fun z => (by cases z), fun _ => Or.inr (Or.inr rfl)⟩
  rw [if_neg z3, if_neg z4]
  by_cases z5 : w - c < a
  · rw [if_pos z5]
    exact ⟨_, rfl, fun z => (by cases z), fun _ => Or.inr (Or.inr rfl)⟩
  by_cases z6 : h - d < b
  · rw [if_neg z5, if_pos z6]
    exact ⟨_, rfl, fun z => (by cases z), fun _ => Or.inr (Or.inr rfl)⟩
  rw [if_neg z5, if_neg z6]
  exact ⟨_, rfl, fun _ => ⟨z1, z2, rfl⟩, fun z => (by cases z)⟩
theorem m_tile_bad (hM : MF J w h) (a b c d : Int32) : d_M_tile_34 oS J (mR 16) 210 a b c d 210 = some (0, ax_up (ax_up J 210 0 1) 210 0 1) := by
  unfold d_M_tile_34 d_M_tile_39
  rw [Option.bind_some, show (5000 : Nat) = 4999 + 1 from rfl, d_M_tile_45, fR_m2, Option.bind_some, ax_up_ne (by decide), hM.1.2.2.2, fX_213, Option.bind_some, ax_up_ne (by decide), hM.2.2.2.1, if_pos (by decide)]
  unfold d_M_tile_166
  rw [ax_up_self, if_neg (by decide)]
  unfold d_M_tile_192 d_M_tile_196
  rw [Option.bind_some, ax_up_self, if_neg (by rw [ax_up_self]; decide), ax_up_self]
theorem m_tile_ok (hM : MF J w h) (a b c d : Int32) : ∃ J', d_M_tile_39 oS J (mR 16) 210 a b c d 0 210 = some (0, J') ∧ J' 210 0 = 0 := by
  unfold d_M_tile_39
  rw [Option.bind_some, show (5000 : Nat) = 4999 + 1 from rfl, d_M_tile_45, fR_m2, Option.bind_some, ax_up_ne (by decide), hM.1.2.2.2, fX_213, Option.bind_some, ax_up_ne (by decide), hM.2.2.2.1, if_pos (by decide)]
  unfold d_M_tile_166
  rw [ax_up_self, if_pos rfl, fR_m2, Option.bind_some, ax_up_ne (by decide), hM.1.2.2.2, fX_213, Option.bind_some, ax_up_ne (by decide), hM.2.2.2.1, if_neg (by decide)]
  unfold d_M_tile_192 d_M_tile_196 d_M_tileAt
  rw [Option.bind_some, ax_up_self, if_pos (by rw [ax_up_self]; decide)]
  obtain ⟨J1, hJ1⟩ : ∃ J1, J1 = ax_up (ax_up J 210 0 0) 210 0 (ax_up J 210 0 0 210 0) := ⟨_, rfl⟩
  have e3 : J1 210 3 = 0 := by rw [hJ1, ax_up_ne (by decide), ax_up_ne (by decide)]; exact hM.1.2.2.2
  have e213 : J1 213 0 = 0 := by rw [hJ1, ax_up_ne (by decide), ax_up_ne (by decide)]; exact hM.2.2.2.1
  have e0 : J1 210 0 = 0 := by rw [hJ1, ax_up_self, ax_up_self]
  rw [← hJ1]
  simp only [Option.bind_some, fR_m2, fR_m4, fR_m5, fR_m6, fR_m7, fR_m8, fR_m9, e3, fX_213, e213, fX_215, fX_216, fX_217, fX_218, fX_219, fX_220]
  simp only [ax_up_ne (show ¬ (210 = 215 ∧ 3 = 0) by decide), ax_up_ne (show ¬ (210 = 216 ∧ 3 = 0) by decide), ax_up_ne (show ¬ (210 = 217 ∧ 3 = 0) by decide), ax_up_ne (show ¬ (210 = 218 ∧ 3 = 0) by decide), ax_up_ne (show ¬ (210 = 219 ∧ 3 = 0) by decide), ax_up_ne (show ¬ (210 = 220 ∧ 3 = 0) by decide), e3, fX_213, Option.bind_some, ax_up_ne (show ¬ (210 = 213 ∧ 3 = 0) by decide), ax_up_ne (show ¬ (210 = 210 ∧ 3 = 19) by decide)]
  refine ⟨_, by
    congr 2
    simp [ax_up, e213], ?_⟩
  simp [ax_up, e0]
theorem k_tile_ok (hK : KF I w h) (hM : MF I w h) (a b c d : Int32) : ∃ I', d_P_addTile oS (ax_up I 0 7 0) (mR 16) 4 a b c d = some (0, I') ∧ MF I' w h := by
  have e : ax_up I 0 7 0 4 2 = 0 := by rw [ax_up_ne (by decide)]; exact hK.2.1.1
  unfold d_P_addTile d_T_startAnew
  rw [fR_4_0, Option.bind_some, e, fL_5, if_pos (by decide), Option.bind_some, fX_5, Option.bind_some, fR_5_0]
  simp only [Option.bind_some]
  refine ⟨_, by
    congr 2
    simp [ax_up, hK.2.1.1], ?_⟩
  repeat (refine MF_up (by decide) ?_)
  exact hM
theorem m_in_f {S : ax_S} {R : ax_R} {x lo hi : Int32} (z : x < lo ∨ hi < x) : d_M_in S J R x lo hi = some false := by
  unfold d_M_in
  by_cases h1 : x < lo
  · rw [if_pos h1]
  · rw [if_neg h1, if_pos (z.resolve_left h1)]
theorem m_in_t {S : ax_S} {R : ax_R} {x lo hi : Int32} (z1 : ¬ x < lo) (z2 : ¬ hi < x) : d_M_in S J R x lo hi = some true := by
  unfold d_M_in
  rw [if_neg z1, if_neg z2]
theorem m_tile_b (hM : MF J w h) {a b c d : Int32} (z : (c < 1 ∨ 64 < c) ∨ (d < 1 ∨ 64 < d) ∨ d_M_lies oS J (mR 16) 210 a b c d = some false) : d_M_tile oS J (mR 16) 210 a b c d = some (0, ax_up (ax_up J 210 0 1) 210 0 1) := by
  unfold d_M_tile
  by_cases z1 : c < 1 ∨ 64 < c
  · rw [m_in_f z1, Option.bind_some, if_pos bF]
    exact m_tile_bad hM a b c d
  · rw [m_in_t (fun y => z1 (Or.inl y)) (fun y => z1 (Or.inr y)), Option.bind_some, if_neg bT]
    by_cases z2 : d < 1 ∨ 64 < d
    · rw [m_in_f z2, Option.bind_some, if_pos bF]
      exact m_tile_bad hM a b c d
    · rw [m_in_t (fun y => z2 (Or.inl y)) (fun y => z2 (Or.inr y)), Option.bind_some, if_neg bT, (z.resolve_left z1).resolve_left z2, Option.bind_some, if_pos bF]
      exact m_tile_bad hM a b c d
theorem p1_tile (hK : KF I w h) (hM : MF I w h) : ∃ out, d_L_140 oS sc i I (mR 16) L = some out := by
  unfold d_L_140
  generalize sc (i + 1) = a
  generalize sc (i + 2) = b
  generalize sc (i + 3) = c
  generalize sc (i + 4) = d
  have bad : d_K_tile oS I (mR 16) 0 a b c d = some (.inr "java/lang/IllegalArgumentException", I) → (c < 1 ∨ 64 < c) ∨ (d < 1 ∨ 64 < d) ∨ d_M_lies oS I (mR 16) 210 a b c d = some false → ∃ out, ((d_K_tile oS I (mR 16) 0 a b c d).bind fun r1 => (hc_tile r1.1).bind fun k3 => (d_M_tile oS r1.2 (mR 16) 210 a b c d).bind fun r5 => (d_M_thrown oS r5.2 (mR 16) 210).bind fun r7 => if r7 = k3 then if k3 = 0 then if lg_cmp (hcL r1.1 L 227 227 0) r5.1.toInt64 = 0 then some (r5.2, mR 16, hcL r1.1 L 227) else none else some (r5.2, mR 16, hcL r1.1 L 227) else none) = some out := by
    intro e z
    rw [e, Option.bind_some, show hc_tile (Sum.inr "java/lang/IllegalArgumentException") = some 1 from rfl, Option.bind_some, m_tile_b hM z, Option.bind_some]
    unfold d_M_thrown
    rw [Option.bind_some]
    exact l_end rfl (fun z => absurd z (by decide))
  obtain ⟨r, r1, r2, r3⟩ := rect_both hK hM a b c d
  by_cases y1 : 64 < c
  · exact bad (by unfold d_K_tile; rw [if_pos y1]; rfl) (Or.inl (Or.inr y1))
  by_cases y2 : 64 < d
  · exact bad (by unfold d_K_tile; rw [if_neg y1, if_pos y2]; rfl) (Or.inr (Or.inl (Or.inr y2)))
  cases r with
  | false =>
    refine bad (by unfold d_K_tile; rw [if_neg y1, if_neg y2, fR_0_4, Option.bind_some, r1, Option.bind_some, if_pos bF]; rfl) ?_
    rcases r3 rfl with z | z | z
    · exact Or.inl (Or.inl z)
    · exact Or.inr (Or.inl (Or.inl z))
    · exact Or.inr (Or.inr z)
  | true =>
    obtain ⟨c1, d1, l1⟩ := r2 rfl
    obtain ⟨I', ha, hM'⟩ := k_tile_ok hK hM a b c d
    have e : d_K_tile oS I (mR 16) 0 a b c d = some (.inl 0, I') := by
      unfold d_K_tile
      rw [if_neg y1, if_neg y2, fR_0_4, Option.bind_some, r1, Option.bind_some, if_neg bT, Option.bind_some, k_noOv hK.2.1.1, Option.bind_some, if_pos bF, Option.bind_some, hK.2.1.1, if_pos (by decide), Option.bind_some, Option.bind_some, ha, Option.bind_some]
    obtain ⟨-, -, -, l2⟩ := (rect_both hK hM' a b c d)
    have l3 : d_M_lies oS I' (mR 16) 210 a b c d = some true := by
      obtain ⟨r', q1, q2, -⟩ := rect_both hK hM' a b c d
      cases r1.symm.trans q1
      exact (q2 rfl).2.2
    obtain ⟨J', hm, hc⟩ := m_tile_ok hM' a b c d
    have e2 : d_M_tile oS I' (mR 16) 210 a b c d = some (0, J') := by
      unfold d_M_tile
      rw [m_in_t c1 y1, Option.bind_some, if_neg bT, m_in_t d1 y2, Option.bind_some, if_neg bT, l3, Option.bind_some, if_neg bT]
      exact hm
    rw [e, Option.bind_some, show hc_tile (Sum.inl 0) = some 0 from rfl, Option.bind_some, e2, Option.bind_some]
    unfold d_M_thrown
    rw [Option.bind_some]
    exact l_end hc (fun _ => hcL_self 0 L)
end FR
