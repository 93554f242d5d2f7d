/-! a fresh object: write, join -/
theorem fL_2 : nI (ax_len oS 2) = nI 1148 := by decide +kernel
theorem fS_226 : oS 226 = some (.inr (0, 1200)) := by decide +kernel
/-- what is kept while the class writes -/
def KW (I : ax_I) (w h : Int32) (p : Nat) : Prop := I 1 2 = nI p ∧ I 1 1 = nI p ∧ I 4 2 = 0 ∧ I 4 3 = 0 ∧ MF I w h
def MW (I : ax_I) (p : Nat) : Prop := I 210 22 = nI p ∧ I 210 3 = 0 ∧ I 213 0 = 0 ∧ I 214 0 = 0
section FR
variable {I J : ax_I} {w h : Int32} {L : ax_L} {sc : Nat → Int32} {i p : Nat}
theorem k_put (hI : KW I w h p) (hp : p < 1148) (v : Int32) : ∃ I', d_S_putByte oS I (mR 16) 1 v = some I' ∧ KW I' w h (p + 1) := by
  obtain ⟨h1, h2, h3, h4, h5⟩ := hI
  unfold d_S_putByte
  rw [h1, if_neg (nI_pos (by omega)), fR_1_0, Option.bind_some, fL_2, if_pos (nI_lt hp (by decide)), Option.bind_some, ax_ix_k fS_2 rfl hp (by decide), Option.bind_some, Option.bind_some, Option.bind_some, Option.bind_some]
  refine ⟨_, rfl, ?_, ?_, ?_, ?_, ?_⟩
  · simp only [ax_up]
    simp [h1, nI_1]
  · simp only [ax_up]
    simp [h1, h2, nI_1]
    intro z
    exact absurd (nI_lt (Nat.lt_succ_self p) (by omega)) (Int32.not_lt.mpr z)
  · simp [ax_up, h3]
  · simp [ax_up, h4]
  · exact MF_up (by decide) (MF_up (by decide) (MF_up (by decide) h5))
theorem k_num (hI : KW I w h p) (hp : p + 1 < 1148) (v : Int32) : ∃ I', d_S_putNumber oS I (mR 16) 1 v = some I' ∧ KW I' w h (p + 2) := by
  unfold d_S_putNumber
  obtain ⟨I1, e1, k1⟩ := k_put hI (by omega) (v &&& 255)
  rw [e1, Option.bind_some]
  obtain ⟨I2, e2, k2⟩ := k_put k1 (by omega) ((v >>> (8 &&& 31)) &&& 255)
  rw [e2, Option.bind_some]
  exact ⟨I2, rfl, k2⟩
theorem k_write (hK : KF I w h) (hM : MF I w h) : ∃ I', d_K_write oS I (mR 16) 0 = some (nI 8, I') ∧ MF I' w h := by
  unfold d_K_write d_S_empty d_P_putHead
  rw [fR_0_2, Option.bind_some, Option.bind_some, Option.bind_some, Option.bind_some, fR_0_4, Option.bind_some, Option.bind_some]
  have k0 : KW (ax_up (ax_up I 1 1 0) 1 2 0) w h 0 := ⟨rfl, rfl, hK.2.1.1, hK.2.1.2.1, MF_up (by decide) (MF_up (by decide) hM)⟩
  obtain ⟨I1, e1, k1⟩ := k_put k0 (by omega) 76
  rw [e1, Option.bind_some]
  obtain ⟨I2, e2, k2⟩ := k_put k1 (by omega) 70
  rw [e2, Option.bind_some]
  obtain ⟨I3, e3, k3⟩ := k_num k2 (by omega) (I2 4 4)
  rw [e3, Option.bind_some]
  obtain ⟨I4, e4, k4⟩ := k_num k3 (by omega) (I3 4 5)
  rw [e4, Option.bind_some]
  obtain ⟨I5, e5, k5⟩ := k_put k4 (by omega) (I4 4 2)
  rw [e5, Option.bind_some, show (5000 : Nat) = 4999 + 1 from rfl, d_P_putHead_38, k5.2.2.1, if_pos (by decide)]
  obtain ⟨I6, e6, k6⟩ := k_put k5 (by omega) (I5 4 3)
  rw [e6, Option.bind_some, show (5000 : Nat) = 4999 + 1 from rfl, d_P_putHead_76, k6.2.2.2.1, if_pos (by decide), Option.bind_some, d_K_write_20, fR_0_4, Option.bind_some, k6.2.2.1, if_pos (by decide), fR_0_2, Option.bind_some, k6.2.1]
  exact ⟨I6, rfl, k6.2.2.2.2⟩
theorem m_tell (hI : MW J p) (hp : p < 1200) (v : Int32) : ∃ J', d_M_tell oS J (mR 16) 210 v = some J' ∧ MW J' (p + 1) := by
  obtain ⟨h1, h2, h3, h4⟩ := hI
  unfold d_M_tell
  rw [fR_m15, Option.bind_some, ax_ix_k fS_226 h1 hp (by decide), Option.bind_some, Option.bind_some, Option.bind_some]
  refine ⟨_, rfl, ?_, ?_, ?_, ?_⟩
  · simp only [ax_up]
    simp [h1, nI_1]
  · simp [ax_up, h2]
  · simp [ax_up, h3]
  · simp [ax_up, h4]
theorem m_two (hI : MW J p) (hp : p + 1 < 1200) (v : Int32) : ∃ J', d_M_tellTwo oS J (mR 16) 210 v = some J' ∧ MW J' (p + 2) := by
  unfold d_M_tellTwo
  obtain ⟨J1, e1, k1⟩ := m_tell hI (by omega) (v - v / 256 * 256)
  rw [e1, Option.bind_some]
  obtain ⟨J2, e2, k2⟩ := m_tell k1 (by omega) (v / 256)
  rw [e2, Option.bind_some]
  exact ⟨J2, rfl, k2⟩
theorem m_write (hM : MF J w h) : ∃ J', d_M_write oS J (mR 16) 210 = some (nI 8, J') := by
  unfold d_M_write
  rw [Option.bind_some, Option.bind_some]
  have k0 : MW (ax_up (ax_up J 210 0 0) 210 22 0) 0 := ⟨rfl, hM.1.2.2.2, hM.2.2.2.1, hM.2.2.2.2.2.1⟩
  obtain ⟨J1, e1, k1⟩ := m_tell k0 (by omega) 76
  rw [e1, Option.bind_some]
  obtain ⟨J2, e2, k2⟩ := m_tell k1 (by omega) 70
  rw [e2, Option.bind_some, fR_m0, Option.bind_some, k2.2.1, fX_211, Option.bind_some]
  obtain ⟨J3, e3, k3⟩ := m_two k2 (by omega) (J2 211 0)
  rw [e3, Option.bind_some, fR_m1, Option.bind_some, k3.2.1, fX_212, Option.bind_some]
  obtain ⟨J4, e4, k4⟩ := m_two k3 (by omega) (J3 212 0)
  rw [e4, Option.bind_some, fR_m2, Option.bind_some, k4.2.1, fX_213, Option.bind_some]
  obtain ⟨J5, e5, k5⟩ := m_tell k4 (by omega) (J4 213 0)
  rw [e5, Option.bind_some, show (5000 : Nat) = 4999 + 1 from rfl, d_M_write_63, fR_m2, Option.bind_some, k5.2.1, fX_213, Option.bind_some, k5.2.2.1, if_pos (by decide), fR_m3, Option.bind_some, fX_214, Option.bind_some]
  obtain ⟨J6, e6, k6⟩ := m_tell k5 (by omega) (J5 214 0)
  rw [e6, Option.bind_some, show (5000 : Nat) = 4999 + 1 from rfl, d_M_write_112, fR_m3, Option.bind_some, k6.2.1, fX_214, Option.bind_some, k6.2.2.2, if_pos (by decide), show (5000 : Nat) = 4999 + 1 from rfl, d_M_write_171, fR_m2, Option.bind_some, k6.2.1, fX_213, Option.bind_some, k6.2.2.1, if_pos (by decide), k6.1]
  exact ⟨J6, rfl⟩
theorem p1_write (hK : KF I w h) (hM : MF I w h) : ∃ out, d_L_925 oS sc i I (mR 16) L = some out := by
  unfold d_L_925
  obtain ⟨I', e, hM'⟩ := k_write hK hM
  obtain ⟨J', e2⟩ := m_write hM'
  rw [e, Option.bind_some]
  dsimp only
  rw [e2, Option.bind_some]
  exact ⟨_, if_pos rfl⟩
end FR
