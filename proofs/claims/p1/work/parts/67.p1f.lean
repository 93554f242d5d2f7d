/-! a fresh object: join -/
theorem side_of {x : Int32} (h1 : ¬ x < 0) (h2 : ¬ 4 ≤ x) : ∃ k, k < 4 ∧ x = nI k := by
  obtain ⟨k, hk, rfl⟩ := nI_of h1
  refine ⟨k, ?_, rfl⟩
  rw [Int32.le_iff_toInt_le, nI_toInt hk] at h2
  have : (4 : Int32).toInt = 4 := rfl
  omega
theorem i_dbl {w : Int32} (h1 : 1 ≤ w.toInt) (h2 : w.toInt ≤ 200) : ¬ 400 < w + w := by
  have e : (w + w).toInt = w.toInt + w.toInt := by
    rw [Int32.toInt_add]
    exact Int.bmod_eq_of_le (by omega) (by omega)
  rw [Int32.lt_iff_toInt_lt, e]
  have : (400 : Int32).toInt = 400 := rfl
  omega
section FR
variable {I J : ax_I} {w h : Int32} {L : ax_L} {sc : Nat → Int32} {i p : Nat}
theorem k_moveU {u : Nat} (h2 : I u 2 = 0) (h3 : I u 3 = 0) (x y : Int32) : d_P_moveBy oS I (mR 16) u x y = some I := by
  unfold d_P_moveBy
  rw [show (5000 : Nat) = 4999 + 1 from rfl, d_P_moveBy_2, h2, if_pos (by decide), show (5000 : Nat) = 4999 + 1 from rfl, d_P_moveBy_29, h3, if_pos (by decide)]
theorem k_along {u : Nat} (h2 : I u 2 = 0) (h3 : I u 3 = 0) (x y : Int32) : d_P_moveAlong oS I (mR 16) u x y = some I := by
  unfold d_P_moveAlong d_P_moveAlong_10 d_P_moveAlong_19
  by_cases z : x = 0
  · rw [if_pos z, if_pos z, k_moveU h2 h3, Option.bind_some]
  · rw [if_neg z, if_neg z, k_moveU h2 h3, Option.bind_some]
theorem k_grow (x y : Int32) : ∃ a b, d_P_growAlong oS I (mR 16) 4 x y = some (ax_up (ax_up I 4 4 a) 4 5 b) := by
  unfold d_P_growAlong d_P_growAlong_14 d_P_growAlong_32
  by_cases z : x = 0
  · rw [if_pos z, Option.bind_some, if_pos z, Option.bind_some]
    exact ⟨_, _, rfl⟩
  · rw [if_neg z, Option.bind_some, if_neg z, Option.bind_some]
    exact ⟨_, _, rfl⟩
theorem k_place55 (x y : Int32) : ∃ a b, d_K_makePlaceAt_55 oS I (mR 16) 0 x y = some (ax_up (ax_up I 4 4 a) 4 5 b) := by
  unfold d_K_makePlaceAt_55
  obtain ⟨a, b, e⟩ := k_grow (I := I) x y
  rw [fR_0_4, Option.bind_some, e, Option.bind_some]
  exact ⟨a, b, rfl⟩
theorem up_t (k : Nat) (hk : k < 4) (S : ax_S) (I : ax_I) (R : ax_R) : ∃ r, d_K_isUpright S I R (nI k) = some r := by
  have : k = 0 ∨ k = 1 ∨ k = 2 ∨ k = 3 := by omega
  rcases this with rfl | rfl | rfl | rfl
  · exact ⟨true, rfl⟩
  · exact ⟨false, rfl⟩
  · exact ⟨true, rfl⟩
  · exact ⟨false, rfl⟩
theorem k_size {u : Nat} (h4 : I u 4 = w) (h5 : I u 5 = h) (x : Int32) : d_P_sizeAlong oS I (mR 16) u x = some (if x = 0 then h else w) := by
  unfold d_P_sizeAlong
  by_cases z : x = 0
  · rw [if_pos z, if_pos z, h5]
  · rw [if_neg z, if_neg z, h4]
theorem k_place (hK : KF I w h) {k : Nat} (hk : k < 4) : ∃ a b, d_K_makePlaceAt oS I (mR 16) 0 (nI k) = some (ax_up (ax_up I 4 4 a) 4 5 b) := by
  unfold d_K_makePlaceAt
  obtain ⟨r, hr⟩ := up_t k hk oS I (mR 16)
  rw [hr, Option.bind_some, fR_0_4, Option.bind_some, k_size hK.2.1.2.2.1 hK.2.1.2.2.2, Option.bind_some, fR_0_5, Option.bind_some, k_size hK.2.2.1.2.2.1 hK.2.2.1.2.2.2, Option.bind_some, Option.bind_some, k_along hK.2.2.1.1 hK.2.2.1.2.1, Option.bind_some]
  have e33 : ∀ x y, ∃ a b, d_K_makePlaceAt_33 oS I (mR 16) 0 x y = some (ax_up (ax_up I 4 4 a) 4 5 b) := by
    intro x y
    unfold d_K_makePlaceAt_33
    rw [fR_0_4, Option.bind_some, k_along hK.2.1.1 hK.2.1.2.1, Option.bind_some]
    exact k_place55 x y
  split
  · exact e33 _ _
  · split
    · exact e33 _ _
    · exact k_place55 _ _
theorem k_take (h1 : I 107 2 = 0) (h2 : I 107 3 = 0) : d_P_takeOver oS I (mR 16) 4 107 = some (ax_up (ax_up I 107 2 0) 107 3 0, mR 16) := by
  unfold d_P_takeOver
  rw [show (5000 : Nat) = 4999 + 1 from rfl, d_P_takeOver_2, h1, if_pos (by decide)]
  unfold d_P_takeOver_70
  rw [show (5000 : Nat) = 4999 + 1 from rfl, d_P_takeOver_72, h2, if_pos (by decide)]
  unfold d_P_takeOver_140
  rw [Option.bind_some, Option.bind_some]
theorem k_join51 (hK : KF I w h) (hM : MF I w h) (bw : 1 ≤ w.toInt ∧ w.toInt ≤ 200) (bh : 1 ≤ h.toInt ∧ h.toInt ≤ 200) {k : Nat} (hk : k < 4) (x2 y0 : Int32) : ∃ I', d_K_join_51 oS I (mR 16) 0 (nI k) x2 y0 107 (if y0 = 0 then h else w) = some (.inl 0, I', mR 16) ∧ MF I' w h := by
  unfold d_K_join_51
  rw [k_size hK.2.2.1.2.2.1 hK.2.2.1.2.2.2, Option.bind_some, if_pos rfl, fR_0_4, Option.bind_some, fR_0_5, Option.bind_some]
  have er : d_P_hasRoomFor oS I (mR 16) 4 107 x2 = some true := by
    unfold d_P_hasRoomFor
    rw [k_size hK.2.1.2.2.1 hK.2.1.2.2.2, Option.bind_some, k_size hK.2.2.1.2.2.1 hK.2.2.1.2.2.2, Option.bind_some]
    have : ¬ 400 < (if x2 = 0 then h else w) + (if x2 = 0 then h else w) := by
      split
      · exact i_dbl bh.1 bh.2
      · exact i_dbl bw.1 bw.2
    rw [if_neg this, hK.2.1.1, hK.2.2.1.1, if_neg (by decide), hK.2.1.2.1, hK.2.2.1.2.1, if_neg (by decide)]
  obtain ⟨a, b, ep⟩ := k_place hK hk
  rw [er, Option.bind_some, if_neg bT, ep, Option.bind_some, Option.bind_some, Option.bind_some, k_take (by rw [ax_up_ne (by decide), ax_up_ne (by decide)]; exact hK.2.2.1.1) (by rw [ax_up_ne (by decide), ax_up_ne (by decide)]; exact hK.2.2.1.2.1), Option.bind_some]
  dsimp only
  rw [Option.bind_some, Option.bind_some, fR_0_4, Option.bind_some]
  refine ⟨_, by
    congr 2
    simp [ax_up, hK.2.1.1], ?_⟩
  repeat (refine MF_up (by decide) ?_)
  exact hM
theorem k_join35 (hK : KF I w h) (hM : MF I w h) (bw : 1 ≤ w.toInt ∧ w.toInt ≤ 200) (bh : 1 ≤ h.toInt ∧ h.toInt ≤ 200) {k : Nat} (hk : k < 4) (r : Bool) : ∃ I', d_K_join_35 oS I (mR 16) 0 (nI k) (ax_b r) (if ax_b r = 0 then 1 else 0) 4 = some (.inl 0, I', mR 16) ∧ MF I' w h := by
  unfold d_K_join_35
  rw [k_size hK.2.1.2.2.1 hK.2.1.2.2.2, Option.bind_some, fR_0_5, Option.bind_some]
  cases r with
  | false =>
    rw [if_pos bF, if_pos bF]
    exact k_join51 hK hM bw bh hk _ 1
  | true =>
    rw [if_neg bT, if_neg bT]
    exact k_join51 hK hM bw bh hk _ 0
/-- what the reference's join rests on -/
def MJ (K : ax_I) : Prop := K 210 0 = 0 ∧ K 210 3 = 0 ∧ K 213 0 = 0 ∧ K 213 1 = 0 ∧ K 214 0 = 0 ∧ K 214 1 = 0
theorem m_j638 {K : ax_I} (h0 : K 210 0 = 0) (h3 : K 210 3 = 0) (hz : K 213 0 = 0) (y : Int32) : ∃ J', d_M_join_638 oS K (mR 16) 210 y 0 212 = some (0, J') ∧ J' 210 0 = 0 := by
  unfold d_M_join_638
  rw [fX_212, Option.bind_some, Option.bind_some, Option.bind_some, Option.bind_some, fR_m2, Option.bind_some]
  have e : ax_up (ax_up (ax_up K 212 0 y) 210 18 0) 210 19 0 210 3 = 0 := by rw [ax_up_ne (by decide), ax_up_ne (by decide), ax_up_ne (by decide)]; exact h3
  rw [e, fX_213, Option.bind_some]
  have e2 : ax_up (ax_up (ax_up K 212 0 y) 210 18 0) 210 19 0 213 0 = 0 := by rw [ax_up_ne (by decide), ax_up_ne (by decide), ax_up_ne (by decide)]; exact hz
  rw [e2]
  refine ⟨_, rfl, ?_⟩
  simp [ax_up, h0]
theorem m_j611 {K : ax_I} (h0 : K 210 0 = 0) (h3 : K 210 3 = 0) (hz : K 213 0 = 0) (x3 x4 y : Int32) : ∃ J', d_M_join_611 oS K (mR 16) 210 x3 x4 y 0 211 = some (0, J') ∧ J' 210 0 = 0 := by
  unfold d_M_join_611
  rw [fX_211, Option.bind_some, Option.bind_some, fR_m1, Option.bind_some]
  have e : ax_up K 211 0 y 210 3 = 0 := by rw [ax_up_ne (by decide)]; exact h3
  rw [e, Option.bind_some, fX_212, Option.bind_some]
  have q : ∀ v, ∃ J', d_M_join_638 oS (ax_up K 211 0 y) (mR 16) 210 v 0 212 = some (0, J') ∧ J' 210 0 = 0 := fun v => m_j638 (by rw [ax_up_ne (by decide)]; exact h0) e (by rw [ax_up_ne (by decide)]; exact hz) v
  split
  · exact q _
  · exact q _
theorem m_j485 {K : ax_I} (hK : MJ K) (x3 x4 x8 x9 : Int32) : ∃ J', d_M_join_485 oS 5000 K (mR 16) 210 1 x3 x4 x8 x9 0 = some (0, J') ∧ J' 210 0 = 0 := by
  obtain ⟨h0, h3, a0, a1, b0, b1⟩ := hK
  rw [show (5000 : Nat) = 4999 + 1 from rfl, d_M_join_485, fR_m3, Option.bind_some, fY_214, Option.bind_some, b1, if_pos (by decide), fR_m2, Option.bind_some, fY_213, Option.bind_some, Option.bind_some, Option.bind_some, fY_214, Option.bind_some, Option.bind_some, fR_m0, Option.bind_some]
  have e : ax_up (ax_up K 213 1 0) 214 1 0 210 3 = 0 := by rw [ax_up_ne (by decide), ax_up_ne (by decide)]; exact h3
  rw [e, Option.bind_some, fX_211, Option.bind_some]
  have q : ∀ v, ∃ J', d_M_join_611 oS (ax_up (ax_up K 213 1 0) 214 1 0) (mR 16) 210 x3 x4 v 0 211 = some (0, J') ∧ J' 210 0 = 0 := fun v => m_j611 (by rw [ax_up_ne (by decide), ax_up_ne (by decide)]; exact h0) e (by rw [ax_up_ne (by decide), ax_up_ne (by decide)]; exact a0) x3 x4 v
  split
  · exact q _
  · exact q _
theorem m_j284 {K : ax_I} (hK : MJ K) (x3 x4 x6 x7 x8 x9 : Int32) : ∃ J', d_M_join_284 oS 5000 K (mR 16) 210 1 x3 x4 x6 x7 x8 x9 0 = some (0, J') ∧ J' 210 0 = 0 := by
  have hK' := hK
  obtain ⟨h0, h3, a0, a1, b0, b1⟩ := hK
  rw [show (5000 : Nat) = 4999 + 1 from rfl, d_M_join_284, fR_m2, Option.bind_some, h3, fX_213, Option.bind_some, a0, if_pos (by decide)]
  rw [show (5000 : Nat) = 4999 + 1 from rfl, d_M_join_345, fR_m3, Option.bind_some, h3, fX_214, Option.bind_some, b0, if_pos (by decide)]
  rw [show (5000 : Nat) = 4999 + 1 from rfl, d_M_join_400, fR_m2, Option.bind_some, fY_213, Option.bind_some, a1, if_pos (by decide)]
  exact m_j485 hK' x3 x4 x8 x9
theorem m_j222 {K : ax_I} (hK : MJ K) (x1 x3 x4 y : Int32) : ∃ J', d_M_join_222 oS K (mR 16) 210 x1 1 x3 x4 y = some (0, J') ∧ J' 210 0 = 0 := by
  have q259 : ∀ x6 x7 y0, ∃ J', d_M_join_259 oS K (mR 16) 210 x1 1 x3 x4 x6 x7 y0 = some (0, J') ∧ J' 210 0 = 0 := by
    intro x6 x7 y0
    unfold d_M_join_259 d_M_join_279
    rw [fR_m1, Option.bind_some, hK.2.1, fX_212, Option.bind_some]
    split
    · exact m_j284 hK _ _ _ _ _ _
    · exact m_j284 hK _ _ _ _ _ _
  have q239 : ∀ x6 y0, ∃ J', d_M_join_239 oS K (mR 16) 210 x1 1 x3 x4 x6 y0 = some (0, J') ∧ J' 210 0 = 0 := by
    intro x6 y0
    unfold d_M_join_239
    rw [fR_m0, Option.bind_some, hK.2.1, fX_211, Option.bind_some]
    split
    · exact q259 _ _ _
    · exact q259 _ _ _
  unfold d_M_join_222
  rw [fR_m1, Option.bind_some, fY_212, Option.bind_some]
  split
  · exact q239 _ _
  · exact q239 _ _
theorem m_j196 (hM : MF J w h) (x1 x3 x4 : Int32) : ∃ J', d_M_join_196 oS J (mR 16) 210 x1 1 x3 x4 0 210 = some (0, J') ∧ J' 210 0 = 0 := by
  unfold d_M_join_196
  rw [Option.bind_some, if_pos (up_ge (by decide)), fR_m0, Option.bind_some, fY_211, Option.bind_some]
  have hJ : MJ (ax_up J 210 0 0) := ⟨ax_up_self _ _ _ _, by rw [ax_up_ne (by decide)]; exact hM.1.2.2.2, by rw [ax_up_ne (by decide)]; exact hM.2.2.2.1, by rw [ax_up_ne (by decide)]; exact hM.2.2.2.2.1, by rw [ax_up_ne (by decide)]; exact hM.2.2.2.2.2.1, by rw [ax_up_ne (by decide)]; exact hM.2.2.2.2.2.2⟩
  split
  · exact m_j222 hJ _ _ _ _
  · exact m_j222 hJ _ _ _ _
theorem m_j116 (hM : MF J w h) {x1 x3 x4 : Int32} (hs : ¬ 400 < x4) : (¬ x1 < 0 → ¬ 3 < x1 → ∃ J', d_M_join_116 oS J (mR 16) 210 x1 1 x3 x4 1 = some (0, J') ∧ J' 210 0 = 0) ∧ (x1 < 0 ∨ 3 < x1 → ∃ J', d_M_join_116 oS J (mR 16) 210 x1 1 x3 x4 1 = some (0, J') ∧ J' 210 0 = 1) := by
  refine ⟨fun z1 z2 => ?_, fun z => ?_⟩
  · unfold d_M_join_116
    rw [m_in_t z1 z2, Option.bind_some, if_neg bT, if_neg (by decide), if_neg hs, fR_m2, Option.bind_some, hM.1.2.2.2, fX_213, Option.bind_some, Option.bind_some, fY_213, Option.bind_some, hM.2.2.2.1, hM.2.2.2.2.1, if_neg (by decide), fR_m3, Option.bind_some, fX_214, Option.bind_some, Option.bind_some, fY_214, Option.bind_some, hM.2.2.2.2.2.1, hM.2.2.2.2.2.2, if_pos (by decide)]
    exact m_j196 hM _ _ _
  · unfold d_M_join_116
    rw [m_in_f z, Option.bind_some, if_pos bF]
    unfold d_M_join_196
    rw [Option.bind_some, if_neg (up_le (by decide))]
    exact ⟨_, rfl, rfl⟩
theorem m_j21 (hM : MF J w h) (bw : 1 ≤ w.toInt ∧ w.toInt ≤ 200) (bh : 1 ≤ h.toInt ∧ h.toInt ≤ 200) (x1 y : Int32) : (¬ x1 < 0 → ¬ 3 < x1 → ∃ J', d_M_join_21 oS J (mR 16) 210 x1 1 y = some (0, J') ∧ J' 210 0 = 0) ∧ (x1 < 0 ∨ 3 < x1 → ∃ J', d_M_join_21 oS J (mR 16) 210 x1 1 y = some (0, J') ∧ J' 210 0 = 1) := by
  have q : ∀ s, d_M_join_61 oS J (mR 16) 210 x1 1 y s = d_M_join_116 oS J (mR 16) 210 x1 1 y s 1 := by
    intro s
    unfold d_M_join_61
    rw [fR_m0, Option.bind_some, hM.1.2.2.2, fX_211, Option.bind_some, Option.bind_some, fY_211, Option.bind_some, hM.2.2.1.1, hM.2.2.1.2.1, if_pos rfl, fR_m1, Option.bind_some, fX_212, Option.bind_some, Option.bind_some, fY_212, Option.bind_some, hM.2.2.1.2.2.1, hM.2.2.1.2.2.2, if_pos rfl]
    split <;> rfl
  have e : d_M_join_21 oS J (mR 16) 210 x1 1 y = d_M_join_116 oS J (mR 16) 210 x1 1 y (if y = 0 then h + h else w + w) 1 := by
    unfold d_M_join_21
    rw [fR_m1, Option.bind_some, hM.1.2.2.2, fX_212, Option.bind_some, Option.bind_some, fY_212, Option.bind_some, hM.2.2.1.2.2.1, hM.2.2.1.2.2.2, q, fR_m0, Option.bind_some, fX_211, Option.bind_some, Option.bind_some, fY_211, Option.bind_some, hM.2.2.1.1, hM.2.2.1.2.1, q]
    split <;> rfl
  have hs : ¬ 400 < (if y = 0 then h + h else w + w) := by
    split
    · exact i_dbl bh.1 bh.2
    · exact i_dbl bw.1 bw.2
  rw [e]
  exact m_j116 hM hs
theorem p1_join (hK : KF I w h) (hM : MF I w h) (bw : 1 ≤ w.toInt ∧ w.toInt ≤ 200) (bh : 1 ≤ h.toInt ∧ h.toInt ≤ 200) : ∃ out, d_L_597 oS sc i I (mR 16) L = some out := by
  unfold d_L_597
  generalize sc (i + 1) = x
  have e3 : (3 : Int32) < x ↔ 4 ≤ x := by
    rw [Int32.lt_iff_toInt_lt, Int32.le_iff_toInt_le]
    have a : (3 : Int32).toInt = 3 := rfl
    have b : (4 : Int32).toInt = 4 := rfl
    omega
  have hm : ∀ K, MF K w h → (¬ x < 0 → ¬ 3 < x → ∃ J', d_M_join oS K (mR 16) 210 x = some (0, J') ∧ J' 210 0 = 0) ∧ (x < 0 ∨ 3 < x → ∃ J', d_M_join oS K (mR 16) 210 x = some (0, J') ∧ J' 210 0 = 1) := by
    intro K hK2
    unfold d_M_join d_M_join_16
    rw [hK2.1.2.2.2, show (1 : Int32) - 0 = 1 from rfl]
    split
    · exact m_j21 hK2 bw bh x 1
    · split
      · exact m_j21 hK2 bw bh x 1
      · exact m_j21 hK2 bw bh x 0
  by_cases z : x < 0 ∨ 3 < x
  · have e : d_K_join oS I (mR 16) 0 x = some (.inr "java/lang/IndexOutOfBoundsException", I, mR 16) := by
      unfold d_K_join d_K_isSide
      by_cases z1 : x < 0
      · rw [if_pos z1, Option.bind_some, if_pos bF]
      · rw [if_neg z1, if_pos (e3.mp (z.resolve_left z1)), Option.bind_some, if_pos bF]
    obtain ⟨J', e2, h1⟩ := (hm I hM).2 z
    rw [e, Option.bind_some, show hc_join (Sum.inr "java/lang/IndexOutOfBoundsException") = some 1 from rfl, Option.bind_some]
    dsimp only
    rw [e2, Option.bind_some]
    unfold d_M_thrown
    rw [Option.bind_some]
    exact l_end h1 (fun z => absurd z (by decide))
  · have z1 : ¬ x < 0 := fun y => z (Or.inl y)
    have z2 : ¬ 3 < x := fun y => z (Or.inr y)
    obtain ⟨k, hk, rfl⟩ := side_of z1 (fun y => z2 (e3.mpr y))
    have e : ∃ I', d_K_join oS I (mR 16) 0 (nI k) = some (.inl 0, I', mR 16) ∧ MF I' w h := by
      obtain ⟨r, hr⟩ := up_t k hk oS I (mR 16)
      have := k_join35 hK hM bw bh hk r
      unfold d_K_join d_K_isSide
      rw [if_neg z1, if_neg (fun y => z2 (e3.mpr y)), Option.bind_some, if_neg bT, hr, Option.bind_some, fR_0_4, Option.bind_some]
      cases r with
      | false =>
        rw [if_pos bF] at this ⊢
        exact this
      | true =>
        rw [if_neg bT] at this ⊢
        exact this
    obtain ⟨I', e, hM'⟩ := e
    obtain ⟨J', e2, h0⟩ := (hm I' hM').1 z1 z2
    rw [e, Option.bind_some, show hc_join (Sum.inl 0) = some 0 from rfl, Option.bind_some]
    dsimp only
    rw [e2, Option.bind_some]
    unfold d_M_thrown
    rw [Option.bind_some]
    exact l_end h0 (fun _ => hcL_self 0 L)
end FR
