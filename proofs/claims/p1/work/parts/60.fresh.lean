/-! a fresh object: what its cells hold -/
theorem fR_0_2 : mR 16 0 2 = some 1 := by decide +kernel
theorem fR_0_3 : mR 16 0 3 = some 3 := by decide +kernel
theorem fR_0_4 : mR 16 0 4 = some 4 := by decide +kernel
theorem fR_0_5 : mR 16 0 5 = some 107 := by decide +kernel
theorem fR_1_0 : mR 16 1 0 = some 2 := by decide +kernel
theorem fR_4_0 : mR 16 4 0 = some 5 := by decide +kernel
theorem fR_4_1 : mR 16 4 1 = some 86 := by decide +kernel
theorem fR_107_0 : mR 16 107 0 = some 108 := by decide +kernel
theorem fR_107_1 : mR 16 107 1 = some 189 := by decide +kernel
theorem fR_5_0 : mR 16 5 0 = some 6 := by decide +kernel
theorem fR_86_0 : mR 16 86 0 = some 87 := by decide +kernel
theorem fR_6_0 : mR 16 6 0 = some 7 := by decide +kernel
theorem fS_1 : oS 1 = some (.inl 2) := by decide +kernel
theorem fS_2 : oS 2 = some (.inr (0, 1148)) := by decide +kernel
theorem fS_3 : oS 3 = some (.inr (0, 4)) := by decide +kernel
theorem fS_4 : oS 4 = some (.inl 1) := by decide +kernel
theorem fS_5 : oS 5 = some (.inr (2, 40)) := by decide +kernel
theorem fS_6 : oS 6 = some (.inl 3) := by decide +kernel
theorem fS_7 : oS 7 = some (.inr (0, 12)) := by decide +kernel
theorem fS_86 : oS 86 = some (.inr (3, 20)) := by decide +kernel
theorem fS_87 : oS 87 = some (.inl 0) := by decide +kernel
theorem fS_107 : oS 107 = some (.inl 1) := by decide +kernel
theorem fS_108 : oS 108 = some (.inr (2, 40)) := by decide +kernel
theorem fS_189 : oS 189 = some (.inr (3, 20)) := by decide +kernel
/-- the class's side -/
def KF (I : ax_I) (w h : Int32) : Prop := (I 0 0 = w ∧ I 0 1 = h ∧ I 0 6 = 0 ∧ I 0 7 = 0) ∧ (I 4 2 = 0 ∧ I 4 3 = 0 ∧ I 4 4 = w ∧ I 4 5 = h) ∧ (I 107 2 = 0 ∧ I 107 3 = 0 ∧ I 107 4 = w ∧ I 107 5 = h) ∧ I 1 1 = 0 ∧ I 1 2 = 0
/-- the reference's side -/
def MF (I : ax_I) (w h : Int32) : Prop := (I 210 0 = 0 ∧ I 210 1 = w ∧ I 210 2 = h ∧ I 210 3 = 0) ∧ (I 210 18 = 0 ∧ I 210 19 = 0 ∧ I 210 22 = 0) ∧ (I 211 0 = w ∧ I 211 1 = w ∧ I 212 0 = h ∧ I 212 1 = h) ∧ I 213 0 = 0 ∧ I 213 1 = 0 ∧ I 214 0 = 0 ∧ I 214 1 = 0
theorem fI_K (x1 x2 : Int32) : KF (oI x1 x2) (fs x1) (fs x2) := ⟨⟨rfl, rfl, rfl, rfl⟩, ⟨rfl, rfl, rfl, rfl⟩, ⟨rfl, rfl, rfl, rfl⟩, rfl, rfl⟩
theorem fm_fs (x : Int32) : fm x = fs x := by
  unfold fm fs
  by_cases h1 : x < 200
  · rw [if_pos h1]
    by_cases h2 : 1 < x
    · rw [if_pos h2, if_pos (by rw [Int32.le_iff_toInt_le] at *; rw [Int32.lt_iff_toInt_lt] at *; omega), if_pos (by rw [Int32.le_iff_toInt_le] at *; rw [Int32.lt_iff_toInt_lt] at *; omega)]
    · rw [if_neg h2]
      by_cases h3 : 1 ≤ x
      · rw [if_pos h3, if_pos (by rw [Int32.le_iff_toInt_le] at *; rw [Int32.lt_iff_toInt_lt] at *; omega)]
        apply Int32.toInt_inj.mp
        rw [Int32.le_iff_toInt_le] at *
        rw [Int32.lt_iff_toInt_lt] at *
        omega
      · rw [if_neg h3]
  · have h4 : (200 : Int32) ≤ x := Int32.not_lt.mp h1
    have h5 : (1 : Int32) ≤ x := by rw [Int32.le_iff_toInt_le] at *; have : (200 : Int32).toInt = 200 := rfl; have : (1 : Int32).toInt = 1 := rfl; omega
    rw [if_neg h1, if_pos h5, if_pos (show (1 : Int32) < 200 by decide)]
    by_cases h6 : x ≤ 200
    · rw [if_pos h6]
      exact Int32.le_antisymm h6 h4
    · rw [if_neg h6]
theorem fI_M (x1 x2 : Int32) : MF (oI x1 x2) (fs x1) (fs x2) := by
  rw [← fm_fs x1, ← fm_fs x2]
  exact ⟨⟨rfl, rfl, rfl, rfl⟩, ⟨rfl, rfl, rfl⟩, ⟨rfl, rfl, rfl, rfl⟩, rfl, rfl, rfl, rfl⟩
theorem MF_up {I : ax_I} {w h v : Int32} {i k : Nat} (hi : i < 210) (hM : MF I w h) : MF (ax_up I i k v) w h := by
  have e : ∀ a b, 210 ≤ a → ax_up I i k v a b = I a b := fun a b ha => ax_up_ne (by omega)
  unfold MF
  simp only [e _ _ (show 210 ≤ 210 by omega), e _ _ (show 210 ≤ 211 by omega), e _ _ (show 210 ≤ 212 by omega), e _ _ (show 210 ≤ 213 by omega), e _ _ (show 210 ≤ 214 by omega)]
  exact hM
theorem fs_bd (x : Int32) : 1 ≤ (fs x).toInt ∧ (fs x).toInt ≤ 200 := by
  have e1 : (1 : Int32).toInt = 1 := rfl
  have e2 : (200 : Int32).toInt = 200 := rfl
  unfold fs
  by_cases h1 : x < 200
  · rw [if_pos h1]
    by_cases h2 : 1 < x
    · rw [if_pos h2]
      rw [Int32.lt_iff_toInt_lt] at *
      omega
    · rw [if_neg h2]
      exact ⟨by decide, by decide⟩
  · rw [if_neg h1, if_pos (by decide)]
    exact ⟨by decide, by decide⟩
