/-! one way and then another: the reference finds it by trying; a table -/
theorem comes_k {S : ax_S} {I : ax_I} {R : ax_R} : ∀ (n : Nat) (x0 x5 x6 x7 x8 x9 : Int32), d_M_comes_29 S n I R x0 x5 x6 x7 x8 x9 = d_M_comes_29 k0S n k0I k0R x0 x5 x6 x7 x8 x9 := by
  intro n
  induction n with
  | zero => intros; rfl
  | succ n ih =>
    intro x0 x5 x6 x7 x8 x9
    rw [d_M_comes_29, d_M_comes_29]
    split
    · rfl
    · exact ih _ _ _ _ _ _
theorem come_k (S : ax_S) (I : ax_I) (R : ax_R) (x0 x1 x2 x3 x4 : Int32) : d_M_comes S I R x0 x1 x2 x3 x4 = d_M_comes k0S k0I k0R x0 x1 x2 x3 x4 := by
  unfold d_M_comes d_M_comes_14
  split <;> exact comes_k _ _ _ _ _ _ _
theorem both_k16 {S : ax_S} {I : ax_I} {R : ax_R} {f g : ax_I → ax_R → Int32 → Int32 → Int32 → Int32 → Option Int32} (hfg : ∀ a b c d, f I R a b c d = g k0I k0R a b c d) : ∀ (n : Nat) (x0 x1 x2 x3 x4 x5 : Int32), d_M_both_16 S f n I R x0 x1 x2 x3 x4 x5 = d_M_both_16 k0S g n k0I k0R x0 x1 x2 x3 x4 x5 := by
  intro n
  induction n with
  | zero => intros; rfl
  | succ n ih =>
    intro x0 x1 x2 x3 x4 x5
    have t : ∀ x, d_M_isTurned S I R x = d_M_isTurned k0S k0I k0R x := fun _ => rfl
    have p110 : ∀ y, d_M_both_110 S f (d_M_both_16 S f n) I R x0 x1 x2 x3 x5 y = d_M_both_110 k0S g (d_M_both_16 k0S g n) k0I k0R x0 x1 x2 x3 x5 y := fun y => ih _ _ _ _ _ _
    have p76 : ∀ y0 y1 y2 y3 y4, d_M_both_76 S f (d_M_both_16 S f n) I R x0 x1 x2 x3 x4 x5 y0 y1 y2 y3 y4 = d_M_both_76 k0S g (d_M_both_16 k0S g n) k0I k0R x0 x1 x2 x3 x4 x5 y0 y1 y2 y3 y4 := by
      intro y0 y1 y2 y3 y4
      unfold d_M_both_76 d_M_both_109
      rw [come_k S I R, come_k S I R, p110, p110]
    have p64 : ∀ y0 y1 y2 y3, d_M_both_64 S f (d_M_both_16 S f n) I R x0 x1 x2 x3 x4 x5 y0 y1 y2 y3 = d_M_both_64 k0S g (d_M_both_16 k0S g n) k0I k0R x0 x1 x2 x3 x4 x5 y0 y1 y2 y3 := by
      intro y0 y1 y2 y3
      unfold d_M_both_64
      rw [t, p76, p76]
    have p150 : d_M_both_150 S f I R x0 x1 x2 x3 = d_M_both_150 k0S g k0I k0R x0 x1 x2 x3 := hfg _ _ _ _
    have p139 : ∀ y, d_M_both_139 S f I R x0 x1 x2 x3 y = d_M_both_139 k0S g k0I k0R x0 x1 x2 x3 y := by
      intro y
      unfold d_M_both_139 d_M_both_151
      rw [t, p150, hfg]
    rw [d_M_both_16, d_M_both_16, t, t, p150, p139, p139, come_k S I R]
    simp only [p64]
theorem both_k4 {S : ax_S} {I : ax_I} {R : ax_R} : ∀ (n : Nat) (x0 x1 x2 x3 : Int32), d_M_both_4 S n I R x0 x1 x2 x3 = d_M_both_4 k0S n k0I k0R x0 x1 x2 x3 := by
  intro n
  induction n with
  | zero => intros; rfl
  | succ n ih =>
    intro x0 x1 x2 x3
    rw [d_M_both_4, d_M_both_4, both_k16 ih]
theorem both_k (S : ax_S) (I : ax_I) (R : ax_R) (x0 x1 : Int32) : d_M_both S I R x0 x1 = d_M_both k0S k0I k0R x0 x1 := both_k4 _ _ _ _ _
/-- one way and then another -/
def tog (a b : Nat) : Nat := (if 4 ≤ b then (b % 4 + 4 - a % 4) % 4 else (b % 4 + a % 4) % 4) + (if (4 ≤ a) = (4 ≤ b) then 0 else 4)
theorem both_t : ∀ a b : Fin 8, d_M_both k0S k0I k0R (nI a.1) (nI b.1) = some (nI (tog a.1 b.1)) := by decide +kernel
theorem both_tog (S : ax_S) (I : ax_I) (R : ax_R) {a b : Nat} (ha : a < 8) (hb : b < 8) : d_M_both S I R (nI a) (nI b) = some (nI (tog a b)) := (both_k _ _ _ _ _).trans (both_t ⟨a, ha⟩ ⟨b, hb⟩)
theorem tog_t : ∀ a b : Fin 8, d_K_together k0S k0I k0R (nI a.1) (nI b.1) = some (nI (tog a.1 b.1)) := by decide +kernel
theorem tog_k (S : ax_S) (I : ax_I) (R : ax_R) (x y : Int32) : d_K_together S I R x y = d_K_together k0S k0I k0R x y := rfl
theorem tog_tog (S : ax_S) (I : ax_I) (R : ax_R) {a b : Nat} (ha : a < 8) (hb : b < 8) : d_K_together S I R (nI a) (nI b) = some (nI (tog a b)) := (tog_k _ _ _ _ _).trans (tog_t ⟨a, ha⟩ ⟨b, hb⟩)
theorem tog_lt : ∀ a b : Fin 8, tog a.1 b.1 < 8 := by decide +kernel
theorem way_of {x : Int32} (h1 : ¬ x < 0) (h2 : x < 8) : ∃ k, k < 8 ∧ x = nI k := by
  obtain ⟨k, hk, rfl⟩ := nI_of h1
  refine ⟨k, ?_, rfl⟩
  rw [Int32.lt_iff_toInt_lt, nI_toInt hk] at h2
  have : (8 : Int32).toInt = 8 := rfl
  omega
theorem q_t : ∀ a : Fin 8, nI a.1 &&& 3 = nI (a.1 % 4) := by decide +kernel
theorem turned_t : ∀ a : Fin 8, d_M_isTurned k0S k0I k0R (nI a.1) = some (decide (a.1 % 2 = 1)) := by decide +kernel
