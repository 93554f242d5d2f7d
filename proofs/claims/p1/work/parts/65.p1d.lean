/-! a fresh object: turn -/
section FR
variable {I J : ax_I} {w h : Int32} {L : ax_L} {sc : Nat → Int32} {i : Nat}
theorem k_quarter (h2 : I 4 2 = 0) (h3 : I 4 3 = 0) : d_P_turnQuarter oS I (mR 16) 4 = some (ax_up (ax_up I 4 4 (I 4 5)) 4 5 (I 4 4)) := by
  unfold d_P_turnQuarter
  rw [show (5000 : Nat) = 4999 + 1 from rfl, d_P_turnQuarter_2, h2, if_pos (by decide), show (5000 : Nat) = 4999 + 1 from rfl, d_P_turnQuarter_31, h3, if_pos (by decide), Option.bind_some, Option.bind_some]
theorem k_mirror (h2 : I 4 2 = 0) (h3 : I 4 3 = 0) : d_P_mirror oS I (mR 16) 4 = some I := by
  unfold d_P_mirror
  rw [show (5000 : Nat) = 4999 + 1 from rfl, d_P_mirror_2, h2, if_pos (by decide), show (5000 : Nat) = 4999 + 1 from rfl, d_P_mirror_31, h3, if_pos (by decide)]
theorem k_show13 {k : Nat} (hk : k < 8) : ∀ (m n j : Nat) (I : ax_I), j + m = k % 4 → m < n → I 4 2 = 0 → I 4 3 = 0 → I 0 6 = 0 → MF I w h → ∃ I', d_P_showBy_13 oS n I (mR 16) 4 (nI k) (nI j) = some I' ∧ I' 0 6 = 0 ∧ MF I' w h := by
  intro m
  induction m with
  | zero =>
    intro n j I hj hn h2 h3 h6 hM
    obtain ⟨n, rfl⟩ : ∃ n', n = n' + 1 := ⟨n - 1, by omega⟩
    have hj : j = k % 4 := by omega
    subst hj
    unfold d_P_showBy_13 d_K_quarters
    rw [Option.bind_some, q_t ⟨k, hk⟩, if_pos (nI_le (Nat.le_refl _) (by omega)), show (5000 : Nat) = 4999 + 1 from rfl, d_P_showBy_33, h2, if_pos (by decide)]
    exact ⟨I, rfl, h6, hM⟩
  | succ m ih =>
    intro n j I hj hn h2 h3 h6 hM
    obtain ⟨n, rfl⟩ : ∃ n', n = n' + 1 := ⟨n - 1, by omega⟩
    unfold d_P_showBy_13 d_K_quarters
    rw [Option.bind_some, q_t ⟨k, hk⟩, if_neg (nI_ge (by show j < k % 4; omega) (by omega)), k_quarter h2 h3, Option.bind_some, nI_1]
    exact ih n (j + 1) _ (by omega) (by omega) (by rw [ax_up_ne (by decide), ax_up_ne (by decide)]; exact h2) (by rw [ax_up_ne (by decide), ax_up_ne (by decide)]; exact h3) (by rw [ax_up_ne (by decide), ax_up_ne (by decide)]; exact h6) (MF_up (by decide) (MF_up (by decide) hM))
theorem k_turn_ok (hK : KF I w h) (hM : MF I w h) {k : Nat} (hk : k < 8) : ∃ I', d_K_turn oS I (mR 16) 0 (nI k) = some (.inl (nI k), I') ∧ MF I' w h := by
  have hs : ∃ I1, d_P_showBy oS I (mR 16) 4 (nI k) = some I1 ∧ I1 0 6 = 0 ∧ MF I1 w h := by
    unfold d_P_showBy d_P_showBy_11 d_K_mirrors
    have := k_show13 (w := w) (h := h) hk (k % 4) 5000 0 I (by omega) (by omega) hK.2.1.1 hK.2.1.2.1 hK.1.2.2.1 hM
    by_cases z : nI k < 4
    · rw [if_pos z, Option.bind_some, if_pos bF]
      exact this
    · rw [if_neg z, Option.bind_some, if_neg bT, k_mirror hK.2.1.1 hK.2.1.2.1, Option.bind_some]
      exact this
  obtain ⟨I1, s1, s2, s3⟩ := hs
  unfold d_K_turn
  rw [if_neg (nI_pos (by omega)), if_pos (show nI k < 8 from (nI_lt hk (by decide) : nI k < nI 8)), fR_0_4, Option.bind_some, s1, Option.bind_some, s2, show (0 : Int32) = nI 0 from rfl, tog_tog oS I1 (mR 16) (by omega) hk, Option.bind_some, Option.bind_some, Option.bind_some]
  have ht : tog 0 k = k := (show ∀ k : Fin 8, tog 0 k.1 = k.1 by decide +kernel) ⟨k, hk⟩
  refine ⟨_, by
    congr 2
    rw [ht]
    simp [ax_up], MF_up (by decide) (MF_up (by decide) s3)⟩
theorem m_turn_x (hM : MF J w h) (x : Int32) : d_M_turn_16 oS J (mR 16) 210 x 1 210 = some (0, ax_up J 210 0 1) := by
  unfold d_M_turn_16
  rw [Option.bind_some, if_neg (up_le (by decide))]
theorem m_turn_ok (hM : MF J w h) {k : Nat} (hk : k < 8) : ∃ J', d_M_turn_16 oS J (mR 16) 210 (nI k) 0 210 = some (nI k, J') ∧ J' 210 0 = 0 := by
  have ht : tog 0 k = k := (show ∀ k : Fin 8, tog 0 k.1 = k.1 by decide +kernel) ⟨k, hk⟩
  unfold d_M_turn_16
  rw [Option.bind_some, if_pos (up_ge (by decide))]
  obtain ⟨J1, hJ1⟩ : ∃ J1, J1 = ax_up J 210 0 0 := ⟨_, rfl⟩
  have e3 : J1 210 3 = 0 := by rw [hJ1, ax_up_ne (by decide)]; exact hM.1.2.2.2
  have e18 : J1 210 18 = 0 := by rw [hJ1, ax_up_ne (by decide)]; exact hM.2.1.1
  have e213 : J1 213 0 = 0 := by rw [hJ1, ax_up_ne (by decide)]; exact hM.2.2.2.1
  have e214 : J1 214 0 = 0 := by rw [hJ1, ax_up_ne (by decide)]; exact hM.2.2.2.2.2.1
  have e0 : J1 210 0 = 0 := by rw [hJ1, ax_up_self]
  rw [← hJ1, fR_m0, Option.bind_some, e3, fX_211, Option.bind_some, fR_m1, Option.bind_some, fX_212, Option.bind_some, show (5000 : Nat) = 4999 + 1 from rfl, d_M_turn_51, fR_m2, Option.bind_some, e3, fX_213, Option.bind_some, e213, if_pos (by decide), show (5000 : Nat) = 4999 + 1 from rfl, d_M_turn_305, fR_m3, Option.bind_some, e3, fX_214, Option.bind_some, e214, if_pos (by decide), fR_m0, Option.bind_some]
  have t : ∀ K : ax_I, ∃ r, d_M_isTurned oS K (mR 16) (nI k) = some r := by
    intro K
    unfold d_M_isTurned
    split
    · exact ⟨_, rfl⟩
    · exact ⟨_, rfl⟩
  have p422 : ∀ (K : ax_I) (y : Int32), K 210 18 = 0 → K 210 0 = 0 → ∃ J', d_M_turn_422 oS K (mR 16) 210 (nI k) y 0 212 = some (nI k, J') ∧ J' 210 0 = 0 := by
    intro K y h18 h0
    unfold d_M_turn_422
    rw [fX_212, Option.bind_some, Option.bind_some, ax_up_ne (by decide), h18, show (0 : Int32) = nI 0 from rfl, both_tog _ _ _ (by omega) hk, Option.bind_some, Option.bind_some, Option.bind_some, ht]
    refine ⟨_, by
      congr 2, ?_⟩
    simp [ax_up, h0]
    rfl
  have p401 : ∀ (y : Int32) (a b : Int32), ∃ J', d_M_turn_401 oS J1 (mR 16) 210 (nI k) a b y 0 211 = some (nI k, J') ∧ J' 210 0 = 0 := by
    intro y a b
    unfold d_M_turn_401
    rw [fX_211, Option.bind_some, Option.bind_some, fR_m1, Option.bind_some]
    obtain ⟨r, hr⟩ := t (ax_up J1 211 0 y)
    rw [hr, Option.bind_some, ax_up_ne (show ¬ (210 = 211 ∧ 3 = 0) by decide), e3]
    have q1 : ax_up J1 211 0 y 210 18 = 0 := by rw [ax_up_ne (by decide)]; exact e18
    have q2 : ax_up J1 211 0 y 210 0 = 0 := by rw [ax_up_ne (by decide)]; exact e0
    cases r with
    | false => rw [if_pos bF]; exact p422 _ _ q1 q2
    | true => rw [if_neg bT]; exact p422 _ _ q1 q2
  obtain ⟨r, hr⟩ := t J1
  rw [hr, Option.bind_some]
  cases r with
  | false => rw [if_pos bF]; exact p401 _ _ _
  | true => rw [if_neg bT]; exact p401 _ _ _
theorem p1_turn (hK : KF I w h) (hM : MF I w h) : ∃ out, d_L_528 oS sc i I (mR 16) L = some out := by
  unfold d_L_528
  generalize sc (i + 1) = x
  have e7 : (7 : Int32) < x ↔ ¬ x < 8 := by
    rw [Int32.lt_iff_toInt_lt, Int32.lt_iff_toInt_lt]
    have a : (7 : Int32).toInt = 7 := rfl
    have b : (8 : Int32).toInt = 8 := rfl
    omega
  by_cases z : x < 0 ∨ 7 < x
  · have e : d_K_turn oS I (mR 16) 0 x = some (.inr "java/lang/IllegalArgumentException", I) := by
      unfold d_K_turn
      by_cases z1 : x < 0
      · rw [if_pos z1]
        rfl
      · rw [if_neg z1, if_neg (e7.mp (z.resolve_left z1))]
        rfl
    rw [e, Option.bind_some, show hc_turn (Sum.inr "java/lang/IllegalArgumentException") = some 1 from rfl, Option.bind_some]
    unfold d_M_turn
    rw [m_in_f z, Option.bind_some, if_pos bF, m_turn_x hM, Option.bind_some]
    unfold d_M_thrown
    rw [Option.bind_some]
    exact l_end rfl (fun z => absurd z (by decide))
  · have z1 : ¬ x < 0 := fun y => z (Or.inl y)
    have z2 : ¬ 7 < x := fun y => z (Or.inr y)
    have z3 : x < 8 := Classical.byContradiction fun y => z2 (e7.mpr y)
    obtain ⟨k, hk, rfl⟩ := way_of z1 z3
    obtain ⟨I', e, hM'⟩ := k_turn_ok hK hM hk
    obtain ⟨J', e2, h0⟩ := m_turn_ok hM' hk
    rw [e, Option.bind_some, show hc_turn (Sum.inl (nI k)) = some 0 from rfl, Option.bind_some]
    unfold d_M_turn
    rw [m_in_t z1 z2, Option.bind_some, if_neg bT]
    dsimp only
    rw [e2, Option.bind_some]
    unfold d_M_thrown
    rw [Option.bind_some]
    exact l_end h0 (fun _ => hcL_self (nI k) L)
end FR
