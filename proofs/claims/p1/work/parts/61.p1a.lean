/-! a fresh object's answers, and the reference's: calls that throw, and small ones -/
theorem i_nl {x : Int32} (h : ¬ x < 0) : 0 ≤ x := Int32.not_lt.mp h
theorem i_m1 {x : Int32} (h : ¬ x < 0) : (0 : Int32) - 1 < x := by
  rw [Int32.lt_iff_toInt_lt] at *
  have e1 : (0 : Int32).toInt = 0 := rfl
  have e2 : ((0 : Int32) - 1).toInt = -1 := rfl
  omega
theorem fR_m0 : mR 16 210 4 = some 211 := by decide +kernel
theorem fR_m1 : mR 16 210 5 = some 212 := by decide +kernel
theorem fR_m2 : mR 16 210 6 = some 213 := by decide +kernel
theorem fR_m3 : mR 16 210 7 = some 214 := by decide +kernel
theorem fR_m4 : mR 16 210 8 = some 215 := by decide +kernel
theorem fR_m5 : mR 16 210 9 = some 216 := by decide +kernel
theorem fR_m6 : mR 16 210 10 = some 217 := by decide +kernel
theorem fR_m7 : mR 16 210 11 = some 218 := by decide +kernel
theorem fR_m8 : mR 16 210 12 = some 219 := by decide +kernel
theorem fR_m9 : mR 16 210 13 = some 220 := by decide +kernel
theorem fR_m10 : mR 16 210 14 = some 221 := by decide +kernel
theorem fR_m11 : mR 16 210 15 = some 222 := by decide +kernel
theorem fR_m12 : mR 16 210 16 = some 223 := by decide +kernel
theorem fR_m13 : mR 16 210 17 = some 224 := by decide +kernel
theorem fR_m14 : mR 16 210 20 = some 225 := by decide +kernel
theorem fR_m15 : mR 16 210 21 = some 226 := by decide +kernel
theorem fX_211 : ax_ix oS 211 0 = some 0 := by decide +kernel
theorem fX_212 : ax_ix oS 212 0 = some 0 := by decide +kernel
theorem fX_213 : ax_ix oS 213 0 = some 0 := by decide +kernel
theorem fX_214 : ax_ix oS 214 0 = some 0 := by decide +kernel
theorem fY_211 : ax_ix oS 211 1 = some 1 := by decide +kernel
theorem fY_212 : ax_ix oS 212 1 = some 1 := by decide +kernel
theorem fY_213 : ax_ix oS 213 1 = some 1 := by decide +kernel
theorem fY_214 : ax_ix oS 214 1 = some 1 := by decide +kernel
theorem bF : ax_b false = 0 := rfl
theorem bT : ¬ ax_b true = 0 := by decide
theorem lg_self (x : Int64) : lg_cmp x x = 0 := by
  unfold lg_cmp
  simp
theorem hcL_self (v : Int32) (L : ax_L) : hcL (.inl v) L 227 227 0 = v.toInt64 := by
  unfold hcL
  exact ax_up_self _ _ _ _
/-- a call: both answer alike -/
theorem l_end {β : Type} {a k : Int32} {x y : Int64} {s : β} (h1 : a = k) (h2 : k = 0 → x = y) : ∃ out, (if a = k then (if k = 0 then (if lg_cmp x y = 0 then some s else none) else some s) else none) = some out := by
  rw [if_pos h1]
  by_cases h : k = 0
  · rw [if_pos h, h2 h, if_pos (lg_self y)]
    exact ⟨s, rfl⟩
  · rw [if_neg h]
    exact ⟨s, rfl⟩
theorem up_le {I : ax_I} {u v : Nat} {x : Int32} (hx : ¬ x ≤ 0) : ¬ ax_up I u v x u v ≤ 0 := by rw [ax_up_self]; exact hx
theorem up_ge {I : ax_I} {u v : Nat} {x : Int32} (hx : x ≤ 0) : ax_up I u v x u v ≤ 0 := by rw [ax_up_self]; exact hx
section FR
variable {I : ax_I} {w h : Int32} {L : ax_L} {sc : Nat → Int32} {i : Nat}
theorem k_noTile (hK : KF I w h) (x : Int32) : d_P_hasTile oS I (mR 16) 4 x = some false := by
  unfold d_P_hasTile
  by_cases h1 : x < 0
  · rw [if_pos h1]
  · rw [if_neg h1, hK.2.1.1, if_pos (i_nl h1)]
theorem m_noTile (hM : MF I w h) (x : Int32) : d_M_isTile oS I (mR 16) 210 x = some false := by
  unfold d_M_isTile
  rw [fR_m2, Option.bind_some, hM.1.2.2.2, fX_213, Option.bind_some, hM.2.2.2.1]
  unfold d_M_in
  by_cases h1 : x < 0
  · rw [if_pos h1, Option.bind_some]
  · rw [if_neg h1, if_pos (i_m1 h1), Option.bind_some]
theorem p1_byteOf (hK : KF I w h) (hM : MF I w h) : ∃ out, d_L_232 oS sc i I (mR 16) L = some out := by
  unfold d_L_232 d_K_byteOf
  rw [fR_0_4, Option.bind_some, k_noTile hK, Option.bind_some, if_pos bF, Option.bind_some]
  rw [show hc_byteOf (Sum.inr "java/lang/IndexOutOfBoundsException") = some 1 from rfl, Option.bind_some]
  unfold d_M_byteOf
  rw [m_noTile hM, Option.bind_some, if_pos bF]
  unfold d_M_byteOf_48
  rw [Option.bind_some, if_neg (up_le (by decide)), Option.bind_some]
  unfold d_M_thrown
  rw [Option.bind_some]
  exact l_end rfl (fun z => absurd z (by decide))
theorem p1_at (hK : KF I w h) (hM : MF I w h) : ∃ out, d_L_653 oS sc i I (mR 16) L = some out := by
  unfold d_L_653 d_K_at
  rw [fR_0_4, Option.bind_some, k_noTile hK, Option.bind_some, if_pos bF, Option.bind_some]
  rw [show hc_at (Sum.inr "java/lang/IndexOutOfBoundsException") = some 1 from rfl, Option.bind_some]
  unfold d_M_at
  rw [m_noTile hM, Option.bind_some, if_pos bF]
  unfold d_M_at_14
  rw [Option.bind_some, if_neg (up_le (by decide)), Option.bind_some]
  unfold d_M_thrown
  rw [Option.bind_some]
  exact l_end rfl (fun z => absurd z (by decide))
theorem p1_byteAt (hK : KF I w h) (hM : MF I w h) : ∃ out, d_L_721 oS sc i I (mR 16) L = some out := by
  unfold d_L_721 d_K_byteAt
  rw [fR_0_4, Option.bind_some, k_noTile hK, Option.bind_some, if_pos bF, Option.bind_some]
  rw [show hc_byteAt (Sum.inr "java/lang/IndexOutOfBoundsException") = some 1 from rfl, Option.bind_some]
  unfold d_M_byteAt
  rw [m_noTile hM, Option.bind_some, if_pos bF]
  unfold d_M_byteAt_29 d_M_byteAt_34
  rw [Option.bind_some, if_neg (up_le (by decide)), Option.bind_some]
  unfold d_M_thrown
  rw [Option.bind_some]
  exact l_end rfl (fun z => absurd z (by decide))
theorem p1_pointer (hK : KF I w h) (hM : MF I w h) : ∃ out, d_L_994 oS sc i I (mR 16) L = some out := by
  unfold d_L_994 d_K_pointer
  rw [fR_0_4, Option.bind_some, k_noTile hK, Option.bind_some, if_pos bF, Option.bind_some]
  rw [show hc_pointer (Sum.inr "java/lang/IndexOutOfBoundsException") = some 1 from rfl, Option.bind_some]
  unfold d_M_pointer
  rw [m_noTile hM, Option.bind_some, if_pos bF]
  unfold d_M_pointer_14
  rw [Option.bind_some, if_neg (up_le (by decide)), Option.bind_some]
  unfold d_M_thrown
  rw [Option.bind_some]
  exact l_end rfl (fun z => absurd z (by decide))
theorem k_noteAt (hK : KF I w h) (x y : Int32) : d_K_noteAt oS I (mR 16) 0 x y = some (.inr "java/lang/IndexOutOfBoundsException") := by
  unfold d_K_noteAt
  by_cases h1 : x < 0
  · rw [if_pos h1]
    rfl
  · rw [if_neg h1, fR_0_4, Option.bind_some, hK.2.1.2.1, if_neg h1]
    rfl
theorem p1_noteAt (hK : KF I w h) (hM : MF I w h) : ∃ out, d_L_857 oS sc i I (mR 16) L = some out := by
  unfold d_L_857
  rw [k_noteAt hK, Option.bind_some]
  rw [show hc_noteAt (Sum.inr "java/lang/IndexOutOfBoundsException") = some 1 from rfl, Option.bind_some]
  unfold d_M_noteAt
  rw [fR_m3, Option.bind_some, hM.1.2.2.2, fX_214, Option.bind_some, hM.2.2.2.2.2.1]
  have e : d_M_in oS I (mR 16) (sc (i + 1)) 0 (0 - 1) = some false := by
    unfold d_M_in
    by_cases h1 : sc (i + 1) < 0
    · rw [if_pos h1]
    · rw [if_neg h1, if_pos (i_m1 h1)]
  rw [e, Option.bind_some, if_pos bF]
  unfold d_M_noteAt_25
  rw [Option.bind_some, if_neg (up_le (by decide)), Option.bind_some]
  unfold d_M_thrown
  rw [Option.bind_some]
  exact l_end rfl (fun z => absurd z (by decide))
theorem k_streamAt (hK : KF I w h) (x : Int32) : d_K_streamAt oS I (mR 16) 0 x = some (.inr "java/lang/IndexOutOfBoundsException") := by
  unfold d_K_streamAt
  by_cases h1 : x < 0
  · rw [if_pos h1]
    rfl
  · rw [if_neg h1, fR_0_2, Option.bind_some, hK.2.2.2.1, if_neg h1]
    rfl
theorem p1_streamAt (hK : KF I w h) (hM : MF I w h) : ∃ out, d_L_938 oS sc i I (mR 16) L = some out := by
  unfold d_L_938
  rw [k_streamAt hK, Option.bind_some]
  rw [show hc_streamAt (Sum.inr "java/lang/IndexOutOfBoundsException") = some 1 from rfl, Option.bind_some]
  unfold d_M_streamAt
  rw [hM.2.1.2.2]
  have e : d_M_in oS I (mR 16) (sc (i + 1)) 0 (0 - 1) = some false := by
    unfold d_M_in
    by_cases h1 : sc (i + 1) < 0
    · rw [if_pos h1]
    · rw [if_neg h1, if_pos (i_m1 h1)]
  rw [e, Option.bind_some, if_pos bF]
  unfold d_M_streamAt_20
  rw [Option.bind_some, if_neg (up_le (by decide)), Option.bind_some]
  unfold d_M_thrown
  rw [Option.bind_some]
  exact l_end rfl (fun z => absurd z (by decide))
theorem p1_near (hK : KF I w h) (hM : MF I w h) : ∃ out, d_L_472 oS sc i I (mR 16) L = some out := by
  unfold d_L_472 d_K_near d_M_near
  have e1 : (3 : Int32) < sc (i + 1) ↔ 4 ≤ sc (i + 1) := by
    rw [Int32.lt_iff_toInt_lt, Int32.le_iff_toInt_le]
    have a : (3 : Int32).toInt = 3 := rfl
    have b : (4 : Int32).toInt = 4 := rfl
    omega
  have ek : ∃ r, d_K_isSide oS I (mR 16) (sc (i + 1)) = some r ∧ d_M_in oS I (mR 16) (sc (i + 1)) 0 3 = some r := by
    unfold d_K_isSide d_M_in
    by_cases h1 : sc (i + 1) < 0
    · rw [if_pos h1, if_pos h1]
      exact ⟨_, rfl, rfl⟩
    · rw [if_neg h1, if_neg h1]
      by_cases h2 : 4 ≤ sc (i + 1)
      · rw [if_pos h2, if_pos (e1.mpr h2)]
        exact ⟨_, rfl, rfl⟩
      · rw [if_neg h2, if_neg (fun z => h2 (e1.mp z))]
        exact ⟨_, rfl, rfl⟩
  obtain ⟨r, r1, r2⟩ := ek
  rw [r1, r2, Option.bind_some, Option.bind_some]
  cases r with
  | false =>
    rw [if_pos bF, if_pos bF, Option.bind_some]
    rw [show hc_near (Sum.inr "java/lang/IndexOutOfBoundsException") = some 1 from rfl, Option.bind_some]
    unfold d_M_near_26
    rw [Option.bind_some, if_neg (up_le (by decide)), Option.bind_some]
    unfold d_M_thrown
    rw [Option.bind_some]
    exact l_end rfl (fun z => absurd z (by decide))
  | true =>
    rw [if_neg bT, if_neg bT, if_pos hK.1.2.2.2, if_pos hM.2.1.2.1, Option.bind_some]
    rw [show hc_near (Sum.inr "java/lang/IllegalStateException") = some 2 from rfl, Option.bind_some]
    unfold d_M_near_26
    rw [Option.bind_some, if_neg (up_le (by decide)), Option.bind_some]
    unfold d_M_thrown
    rw [Option.bind_some]
    exact l_end rfl (fun z => absurd z (by decide))
end FR
theorem p1_swap (x1 x2 : Int32) (L : ax_L) (sc : Nat → Int32) (i : Nat) : ∃ out, d_L_584 oS sc i (oI x1 x2) (mR 16) L = some out := by
  have hK := fI_K x1 x2
  have hM := fI_M x1 x2
  generalize oI x1 x2 = I at hK hM
  obtain ⟨⟨k00, k01, k06, k07⟩, ⟨k42, k43, k44, k45⟩, ⟨l2, l3, l4, l5⟩, k11, k12⟩ := hK
  obtain ⟨⟨m0, m1, m2, m3⟩, ⟨m18, m19, m22⟩, ⟨a0, a1, b0, b1⟩, c0, c1, n0, n1⟩ := hM
  unfold d_L_584 d_K_swap
  rw [fR_0_4, Option.bind_some, fR_0_5, Option.bind_some, Option.bind_some, Option.bind_some, Option.bind_some, Option.bind_some]
  rw [show ax_up (ax_up (mR 16) 0 4 (some 107)) 0 5 (some 4) 0 4 = some 107 by rw [ax_up_ne (by decide), ax_up_self], Option.bind_some, Option.bind_some]
  unfold d_M_swap
  dsimp only
  rw [Option.bind_some, Option.bind_some, Option.bind_some, Option.bind_some]
  rw [show (ax_up (ax_up (mR 16) 0 4 (some 107)) 0 5 (some 4)) 210 6 = some 213 by rw [ax_up_ne (by decide), ax_up_ne (by decide)]; exact fR_m2, Option.bind_some]
  have e : ∀ (J : ax_I), J 210 3 = 0 → ax_ix oS 213 (ax_up (ax_up (ax_up (ax_up J 210 0 0) 210 3 (1 - ax_up J 210 0 0 210 3)) 210 18 0) 210 19 0 210 3) = some 1 := by
    intro J hJ
    have e1 : ax_up (ax_up (ax_up (ax_up J 210 0 0) 210 3 (1 - ax_up J 210 0 0 210 3)) 210 18 0) 210 19 0 210 3 = 1 - J 210 3 := rfl
    rw [e1, hJ]
    exact fY_213
  rw [e (ax_up (ax_up I 0 6 0) 0 7 0) (by rw [ax_up_ne (by decide), ax_up_ne (by decide)]; exact m3), Option.bind_some, Option.bind_some]
  refine ⟨_, if_pos ?_⟩
  simp [ax_up, l2, c1]
theorem p1_clear (x1 x2 : Int32) (L : ax_L) (sc : Nat → Int32) (i : Nat) : ∃ out, d_L_1075 oS sc i (oI x1 x2) (mR 16) L = some out := ⟨_, rfl⟩
theorem p1_told (x1 x2 : Int32) (L : ax_L) (sc : Nat → Int32) (i : Nat) : ∃ out, d_L_1050 oS sc i (oI x1 x2) (mR 16) L = some out := by
  have hK := fI_K x1 x2
  have hM := fI_M x1 x2
  generalize oI x1 x2 = I at hK hM
  generalize fs x1 = w at hK hM
  generalize fs x2 = h at hK hM
  obtain ⟨⟨k00, k01, k06, k07⟩, ⟨k42, k43, k44, k45⟩, ⟨l2, l3, l4, l5⟩, k11, k12⟩ := hK
  obtain ⟨⟨m0, m1, m2, m3⟩, ⟨m18, m19, m22⟩, ⟨a0, a1, b0, b1⟩, c0, c1, n0, n1⟩ := hM
  have up : ∀ a b, ¬ (a = 210 ∧ b = 0) → ax_up I 210 0 0 a b = I a b := fun a b z => ax_up_ne z
  have u3 := up 210 3 (by decide)
  unfold d_L_1050 d_K_told d_M_told
  rw [Option.bind_some, u3, m3, show (1 : Int32) - 0 = 1 from rfl, fR_0_4, fR_0_2, fR_0_5, fR_m0, fR_m1, fR_m2, fR_m3]
  simp only [Option.bind_some, fX_211, fX_212, fX_213, fX_214, fY_211, fY_212, fY_213, fY_214, up 211 0 (by decide), up 211 1 (by decide), up 212 0 (by decide), up 212 1 (by decide), up 213 0 (by decide), up 213 1 (by decide), up 214 0 (by decide), up 214 1 (by decide), up 210 22 (by decide), k42, k43, k44, k45, l2, l3, l4, l5, k11, a0, a1, b0, b1, c0, c1, n0, n1, m22]
  by_cases z0 : sc (i + 1) = 0
  · rw [if_pos z0, if_pos z0, Option.bind_some, Option.bind_some]
    exact ⟨_, if_pos rfl⟩
  rw [if_neg z0, if_neg z0]
  by_cases z1 : sc (i + 1) = 1
  · rw [if_pos z1, if_pos z1, Option.bind_some, Option.bind_some]
    exact ⟨_, if_pos rfl⟩
  rw [if_neg z1, if_neg z1]
  by_cases z2 : sc (i + 1) = 2
  · rw [if_pos z2, if_pos z2, Option.bind_some, Option.bind_some]
    exact ⟨_, if_pos rfl⟩
  rw [if_neg z2, if_neg z2]
  by_cases z3 : sc (i + 1) = 3
  · rw [if_pos z3, if_pos z3, Option.bind_some, Option.bind_some]
    exact ⟨_, if_pos rfl⟩
  rw [if_neg z3, if_neg z3]
  by_cases z4 : sc (i + 1) = 4
  · rw [if_pos z4, if_pos z4, Option.bind_some, Option.bind_some]
    exact ⟨_, if_pos rfl⟩
  rw [if_neg z4, if_neg z4]
  by_cases z5 : sc (i + 1) = 5
  · rw [if_pos z5, if_pos z5, Option.bind_some, Option.bind_some]
    exact ⟨_, if_pos rfl⟩
  rw [if_neg z5, if_neg z5]
  by_cases z6 : sc (i + 1) = 6
  · rw [if_pos z6, if_pos z6, Option.bind_some, Option.bind_some]
    exact ⟨_, if_pos rfl⟩
  rw [if_neg z6, if_neg z6]
  by_cases z7 : sc (i + 1) = 7
  · rw [if_pos z7, if_pos z7, Option.bind_some, Option.bind_some]
    exact ⟨_, if_pos rfl⟩
  rw [if_neg z7, if_neg z7]
  by_cases z8 : sc (i + 1) = 8
  · rw [if_pos z8, if_pos z8, Option.bind_some, Option.bind_some]
    exact ⟨_, if_pos rfl⟩
  rw [if_neg z8, if_neg z8, Option.bind_some, Option.bind_some]
  exact ⟨_, if_pos rfl⟩
