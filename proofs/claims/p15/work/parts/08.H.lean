/-! a fresh object: what its cells hold -/
theorem fR_0_2 : mR 16 0 2 = some 1 := by decide +kernel
theorem fR_0_3 : mR 16 0 3 = some 3 := by decide +kernel
theorem fR_0_4 : mR 16 0 4 = some 4 := by decide +kernel
theorem fR_0_5 : mR 16 0 5 = some 107 := by decide +kernel
theorem fR_1_0 : mR 16 1 0 = some 2 := by decide +kernel
theorem fR_4_0 : mR 16 4 0 = some 5 := by decide +kernel
theorem fR_4_1 : mR 16 4 1 = some 86 := by decide +kernel
theorem fR_107_0 : mR 16 107 0 = some 108 := by decide +kernel
theorem fR_107_1 : mR 16 107 1 = some 189 := by decide +kernel
theorem fR_5_0 : mR 16 5 0 = some 6 := by decide +kernel
theorem fR_86_0 : mR 16 86 0 = some 87 := by decide +kernel
theorem fR_6_0 : mR 16 6 0 = some 7 := by decide +kernel
theorem fS_1 : oS 1 = some (.inl 2) := by decide +kernel
theorem fS_2 : oS 2 = some (.inr (0, 1148)) := by decide +kernel
theorem fS_3 : oS 3 = some (.inr (0, 4)) := by decide +kernel
theorem fS_4 : oS 4 = some (.inl 1) := by decide +kernel
theorem fS_5 : oS 5 = some (.inr (2, 40)) := by decide +kernel
theorem fS_6 : oS 6 = some (.inl 3) := by decide +kernel
theorem fS_7 : oS 7 = some (.inr (0, 12)) := by decide +kernel
theorem fS_86 : oS 86 = some (.inr (3, 20)) := by decide +kernel
theorem fS_87 : oS 87 = some (.inl 0) := by decide +kernel
theorem fS_107 : oS 107 = some (.inl 1) := by decide +kernel
theorem fS_108 : oS 108 = some (.inr (2, 40)) := by decide +kernel
theorem fS_189 : oS 189 = some (.inr (3, 20)) := by decide +kernel
/-- the class's side -/
def KF (I : ax_I) (w h : Int32) : Prop := (I 0 0 = w ∧ I 0 1 = h ∧ I 0 6 = 0 ∧ I 0 7 = 0) ∧ (I 4 2 = 0 ∧ I 4 3 = 0 ∧ I 4 4 = w ∧ I 4 5 = h) ∧ (I 107 2 = 0 ∧ I 107 3 = 0 ∧ I 107 4 = w ∧ I 107 5 = h) ∧ I 1 1 = 0 ∧ I 1 2 = 0
/-- the reference's side -/
def MF (I : ax_I) (w h : Int32) : Prop := (I 210 0 = 0 ∧ I 210 1 = w ∧ I 210 2 = h ∧ I 210 3 = 0) ∧ (I 210 18 = 0 ∧ I 210 19 = 0 ∧ I 210 22 = 0) ∧ (I 211 0 = w ∧ I 211 1 = w ∧ I 212 0 = h ∧ I 212 1 = h) ∧ I 213 0 = 0 ∧ I 213 1 = 0 ∧ I 214 0 = 0 ∧ I 214 1 = 0
theorem fI_K (x1 x2 : Int32) : KF (oI x1 x2) (fs x1) (fs x2) := ⟨⟨rfl, rfl, rfl, rfl⟩, ⟨rfl, rfl, rfl, rfl⟩, ⟨rfl, rfl, rfl, rfl⟩, rfl, rfl⟩
theorem fm_fs (x : Int32) : fm x = fs x := by
  unfold fm fs
  by_cases h1 : x < 200
  · rw [if_pos h1]
    by_cases h2 : 1 < x
    · rw [if_pos h2, if_pos (by rw [Int32.le_iff_toInt_le] at *; rw [Int32.lt_iff_toInt_lt] at *; omega), if_pos (by rw [Int32.le_iff_toInt_le] at *; rw [Int32.lt_iff_toInt_lt] at *; omega)]
    · rw [if_neg h2]
      by_cases h3 : 1 ≤ x
      · rw [if_pos h3, if_pos (by rw [Int32.le_iff_toInt_le] at *; rw [Int32.lt_iff_toInt_lt] at *; omega)]
        apply Int32.toInt_inj.mp
        rw [Int32.le_iff_toInt_le] at *
        rw [Int32.lt_iff_toInt_lt] at *
        omega
      · rw [if_neg h3]
  · have h4 : (200 : Int32) ≤ x := Int32.not_lt.mp h1
    have h5 : (1 : Int32) ≤ x := by rw [Int32.le_iff_toInt_le] at *; have : (200 : Int32).toInt = 200 := rfl; have : (1 : Int32).toInt = 1 := rfl; omega
    rw [if_neg h1, if_pos h5, if_pos (show (1 : Int32) < 200 by decide)]
    by_cases h6 : x ≤ 200
    · rw [if_pos h6]
      exact Int32.le_antisymm h6 h4
    · rw [if_neg h6]
theorem fI_M (x1 x2 : Int32) : MF (oI x1 x2) (fs x1) (fs x2) := by
  rw [← fm_fs x1, ← fm_fs x2]
  exact ⟨⟨rfl, rfl, rfl, rfl⟩, ⟨rfl, rfl, rfl⟩, ⟨rfl, rfl, rfl, rfl⟩, rfl, rfl, rfl, rfl⟩
theorem MF_up {I : ax_I} {w h v : Int32} {i k : Nat} (hi : i < 210) (hM : MF I w h) : MF (ax_up I i k v) w h := by
  have e : ∀ a b, 210 ≤ a → ax_up I i k v a b = I a b := fun a b ha => ax_up_ne (by omega)
  unfold MF
  simp only [e _ _ (show 210 ≤ 210 by omega), e _ _ (show 210 ≤ 211 by omega), e _ _ (show 210 ≤ 212 by omega), e _ _ (show 210 ≤ 213 by omega), e _ _ (show 210 ≤ 214 by omega)]
  exact hM
theorem fs_bd (x : Int32) : 1 ≤ (fs x).toInt ∧ (fs x).toInt ≤ 200 := by
  have e1 : (1 : Int32).toInt = 1 := rfl
  have e2 : (200 : Int32).toInt = 200 := rfl
  unfold fs
  by_cases h1 : x < 200
  · rw [if_pos h1]
    by_cases h2 : 1 < x
    · rw [if_pos h2]
      rw [Int32.lt_iff_toInt_lt] at *
      omega
    · rw [if_neg h2]
      exact ⟨by decide, by decide⟩
  · rw [if_neg h1, if_pos (by decide)]
    exact ⟨by decide, by decide⟩
/-! a fresh object's answers, and the reference's: calls that throw, and small ones -/
theorem bF : ax_b false = 0 := rfl
theorem bT : ¬ ax_b true = 0 := by decide
theorem lg_self (x : Int64) : lg_cmp x x = 0 := by
  unfold lg_cmp
  simp
theorem up_le {I : ax_I} {u v : Nat} {x : Int32} (hx : ¬ x ≤ 0) : ¬ ax_up I u v x u v ≤ 0 := by rw [ax_up_self]; exact hx
theorem up_ge {I : ax_I} {u v : Nat} {x : Int32} (hx : x ≤ 0) : ax_up I u v x u v ≤ 0 := by rw [ax_up_self]; exact hx
section FR
variable {I : ax_I} {w h : Int32} {L : ax_L} {sc : Nat → Int32} {i : Nat}
end FR
/-! a fresh object: tile, note, shown, crop -/
section FR
variable {I J : ax_I} {w h : Int32} {L : ax_L} {sc : Nat → Int32} {i : Nat}
theorem m_in_f {S : ax_S} {R : ax_R} {x lo hi : Int32} (z : x < lo ∨ hi < x) : d_M_in S J R x lo hi = some false := by
  unfold d_M_in
  by_cases h1 : x < lo
  · rw [if_pos h1]
  · rw [if_neg h1, if_pos (z.resolve_left h1)]
theorem m_in_t {S : ax_S} {R : ax_R} {x lo hi : Int32} (z1 : ¬ x < lo) (z2 : ¬ hi < x) : d_M_in S J R x lo hi = some true := by
  unfold d_M_in
  rw [if_neg z1, if_neg z2]
end FR
/-! a fresh object: note, shown, crop -/
/-- not by unfolding: a simp with it leaves the loops shut -/
theorem ob {α β : Type} (a : α) (f : α → Option β) : (some a).bind f = f a := by rw [Option.bind_some]
section FR
variable {I J : ax_I} {w h : Int32} {L : ax_L} {sc : Nat → Int32} {i : Nat}
end FR
/-! one way and then another: the reference finds it by trying; a table -/
theorem comes_k {S : ax_S} {I : ax_I} {R : ax_R} : ∀ (n : Nat) (x0 x5 x6 x7 x8 x9 : Int32), d_M_comes_29 S n I R x0 x5 x6 x7 x8 x9 = d_M_comes_29 k0S n k0I k0R x0 x5 x6 x7 x8 x9 := by
  intro n
  induction n with
  | zero => intros; rfl
  | succ n ih =>
    intro x0 x5 x6 x7 x8 x9
    rw [d_M_comes_29, d_M_comes_29]
    split
    · rfl
    · exact ih _ _ _ _ _ _
theorem come_k (S : ax_S) (I : ax_I) (R : ax_R) (x0 x1 x2 x3 x4 : Int32) : d_M_comes S I R x0 x1 x2 x3 x4 = d_M_comes k0S k0I k0R x0 x1 x2 x3 x4 := by
  unfold d_M_comes d_M_comes_14
  split <;> exact comes_k _ _ _ _ _ _ _
theorem both_k16 {S : ax_S} {I : ax_I} {R : ax_R} {f g : ax_I → ax_R → Int32 → Int32 → Int32 → Int32 → Option Int32} (hfg : ∀ a b c d, f I R a b c d = g k0I k0R a b c d) : ∀ (n : Nat) (x0 x1 x2 x3 x4 x5 : Int32), d_M_both_16 S f n I R x0 x1 x2 x3 x4 x5 = d_M_both_16 k0S g n k0I k0R x0 x1 x2 x3 x4 x5 := by
  intro n
  induction n with
  | zero => intros; rfl
  | succ n ih =>
    intro x0 x1 x2 x3 x4 x5
    have t : ∀ x, d_M_isTurned S I R x = d_M_isTurned k0S k0I k0R x := fun _ => rfl
    have p110 : ∀ y, d_M_both_110 S f (d_M_both_16 S f n) I R x0 x1 x2 x3 x5 y = d_M_both_110 k0S g (d_M_both_16 k0S g n) k0I k0R x0 x1 x2 x3 x5 y := fun y => ih _ _ _ _ _ _
    have p76 : ∀ y0 y1 y2 y3 y4, d_M_both_76 S f (d_M_both_16 S f n) I R x0 x1 x2 x3 x4 x5 y0 y1 y2 y3 y4 = d_M_both_76 k0S g (d_M_both_16 k0S g n) k0I k0R x0 x1 x2 x3 x4 x5 y0 y1 y2 y3 y4 := by
      intro y0 y1 y2 y3 y4
      unfold d_M_both_76 d_M_both_109
      rw [come_k S I R, come_k S I R, p110, p110]
    have p64 : ∀ y0 y1 y2 y3, d_M_both_64 S f (d_M_both_16 S f n) I R x0 x1 x2 x3 x4 x5 y0 y1 y2 y3 = d_M_both_64 k0S g (d_M_both_16 k0S g n) k0I k0R x0 x1 x2 x3 x4 x5 y0 y1 y2 y3 := by
      intro y0 y1 y2 y3
      unfold d_M_both_64
      rw [t, p76, p76]
    have p150 : d_M_both_150 S f I R x0 x1 x2 x3 = d_M_both_150 k0S g k0I k0R x0 x1 x2 x3 := hfg _ _ _ _
    have p139 : ∀ y, d_M_both_139 S f I R x0 x1 x2 x3 y = d_M_both_139 k0S g k0I k0R x0 x1 x2 x3 y := by
      intro y
      unfold d_M_both_139 d_M_both_151
      rw [t, p150, hfg]
    rw [d_M_both_16, d_M_both_16, t, t, p150, p139, p139, come_k S I R]
    simp only [p64]
theorem both_k4 {S : ax_S} {I : ax_I} {R : ax_R} : ∀ (n : Nat) (x0 x1 x2 x3 : Int32), d_M_both_4 S n I R x0 x1 x2 x3 = d_M_both_4 k0S n k0I k0R x0 x1 x2 x3 := by
  intro n
  induction n with
  | zero => intros; rfl
  | succ n ih =>
    intro x0 x1 x2 x3
    rw [d_M_both_4, d_M_both_4, both_k16 ih]
theorem both_k (S : ax_S) (I : ax_I) (R : ax_R) (x0 x1 : Int32) : d_M_both S I R x0 x1 = d_M_both k0S k0I k0R x0 x1 := both_k4 _ _ _ _ _
/-- one way and then another -/
def tog (a b : Nat) : Nat := (if 4 ≤ b then (b % 4 + 4 - a % 4) % 4 else (b % 4 + a % 4) % 4) + (if (4 ≤ a) = (4 ≤ b) then 0 else 4)
theorem both_t : ∀ a b : Fin 8, d_M_both k0S k0I k0R (nI a.1) (nI b.1) = some (nI (tog a.1 b.1)) := by decide +kernel
theorem both_tog (S : ax_S) (I : ax_I) (R : ax_R) {a b : Nat} (ha : a < 8) (hb : b < 8) : d_M_both S I R (nI a) (nI b) = some (nI (tog a b)) := (both_k _ _ _ _ _).trans (both_t ⟨a, ha⟩ ⟨b, hb⟩)
theorem tog_t : ∀ a b : Fin 8, d_K_together k0S k0I k0R (nI a.1) (nI b.1) = some (nI (tog a.1 b.1)) := by decide +kernel
theorem tog_k (S : ax_S) (I : ax_I) (R : ax_R) (x y : Int32) : d_K_together S I R x y = d_K_together k0S k0I k0R x y := rfl
theorem tog_tog (S : ax_S) (I : ax_I) (R : ax_R) {a b : Nat} (ha : a < 8) (hb : b < 8) : d_K_together S I R (nI a) (nI b) = some (nI (tog a b)) := (tog_k _ _ _ _ _).trans (tog_t ⟨a, ha⟩ ⟨b, hb⟩)
theorem tog_lt : ∀ a b : Fin 8, tog a.1 b.1 < 8 := by decide +kernel
theorem way_of {x : Int32} (h1 : ¬ x < 0) (h2 : x < 8) : ∃ k, k < 8 ∧ x = nI k := by
  obtain ⟨k, hk, rfl⟩ := nI_of h1
  refine ⟨k, ?_, rfl⟩
  rw [Int32.lt_iff_toInt_lt, nI_toInt hk] at h2
  have : (8 : Int32).toInt = 8 := rfl
  omega
theorem q_t : ∀ a : Fin 8, nI a.1 &&& 3 = nI (a.1 % 4) := by decide +kernel
theorem turned_t : ∀ a : Fin 8, d_M_isTurned k0S k0I k0R (nI a.1) = some (decide (a.1 % 2 = 1)) := by decide +kernel
/-! a fresh object: write, join -/
/-- what is kept while the class writes -/
def KW (I : ax_I) (w h : Int32) (p : Nat) : Prop := I 1 2 = nI p ∧ I 1 1 = nI p ∧ I 4 2 = 0 ∧ I 4 3 = 0 ∧ MF I w h
def MW (I : ax_I) (p : Nat) : Prop := I 210 22 = nI p ∧ I 210 3 = 0 ∧ I 213 0 = 0 ∧ I 214 0 = 0
section FR
variable {I J : ax_I} {w h : Int32} {L : ax_L} {sc : Nat → Int32} {i p : Nat}
end FR
/-! a fresh object: join -/
theorem side_of {x : Int32} (h1 : ¬ x < 0) (h2 : ¬ 4 ≤ x) : ∃ k, k < 4 ∧ x = nI k := by
  obtain ⟨k, hk, rfl⟩ := nI_of h1
  refine ⟨k, ?_, rfl⟩
  rw [Int32.le_iff_toInt_le, nI_toInt hk] at h2
  have : (4 : Int32).toInt = 4 := rfl
  omega
section FR
variable {I J : ax_I} {w h : Int32} {L : ax_L} {sc : Nat → Int32} {i p : Nat}
/-- what the reference's join rests on -/
def MJ (K : ax_I) : Prop := K 210 0 = 0 ∧ K 210 3 = 0 ∧ K 213 0 = 0 ∧ K 213 1 = 0 ∧ K 214 0 = 0 ∧ K 214 1 = 0
end FR
/-! numbers that stand in cells: Nat under 2^31; the mathematical state -/
theorem nI_sub {a b : Nat} (h : b ≤ a) : nI a - nI b = nI (a - b) := by
  obtain ⟨c, rfl⟩ : ∃ c, a = b + c := ⟨a - b, by omega⟩
  rw [Nat.add_sub_cancel_left, ← nI_add, Int32.add_comm, Int32.add_sub_cancel]
theorem nI_mul (a b : Nat) : nI a * nI b = nI (a * b) := (Int32.ofNat_mul a b).symm
theorem ax_up_up {α : Type} (f : Nat → Nat → α) (i k : Nat) (a b : α) : ax_up (ax_up f i k a) i k b = ax_up f i k b := by
  funext x y
  unfold ax_up
  by_cases h : x = i ∧ y = k
  · rw [if_pos h, if_pos h]
  · rw [if_neg h, if_neg h, if_neg h]
theorem ax_up_id {α : Type} {f : Nat → Nat → α} {i k : Nat} {a : α} (h : f i k = a) : ax_up f i k a = f := by
  funext x y
  unfold ax_up
  by_cases e : x = i ∧ y = k
  · rw [if_pos e, e.1, e.2, h]
  · rw [if_neg e]
/-- a tile: ((x, y), (w, h), way, bytes); a note: x, y, byte; a picture: (width, height), tiles, notes -/
abbrev Tl : Type := (Nat × Nat) × (Nat × Nat) × Nat × List Nat
abbrev Nt : Type := Nat × Nat × Nat
abbrev Pc : Type := (Nat × Nat) × List Tl × List Nt
def apart (s t : Tl) : Prop := s.1.1 + s.2.1.1 ≤ t.1.1 ∨ t.1.1 + t.2.1.1 ≤ s.1.1 ∨ s.1.2 + s.2.1.2 ≤ t.1.2 ∨ t.1.2 + t.2.1.2 ≤ s.1.2
def okT (W H : Nat) (t : Tl) : Prop := (1 ≤ t.2.1.1 ∧ t.2.1.1 ≤ 64 ∧ 1 ≤ t.2.1.2 ∧ t.2.1.2 ≤ 64) ∧ (t.1.1 + t.2.1.1 ≤ W ∧ t.1.2 + t.2.1.2 ≤ H) ∧ t.2.2.1 < 8 ∧ t.2.2.2.length ≤ 12 ∧ ∀ b ∈ t.2.2.2, b < 256
def okN (W H : Nat) (n : Nt) : Prop := n.1 < W ∧ n.2.1 < H ∧ n.2.2 < 256
def okP (p : Pc) : Prop := (1 ≤ p.1.1 ∧ p.1.1 ≤ 400 ∧ 1 ≤ p.1.2 ∧ p.1.2 ≤ 400) ∧ (p.2.1.length ≤ 40 ∧ p.2.2.length ≤ 20) ∧ (∀ t ∈ p.2.1, okT p.1.1 p.1.2 t) ∧ (∀ n ∈ p.2.2, okN p.1.1 p.1.2 n) ∧ p.2.1.Pairwise apart
/-- the reference's cells of a tile, a note, a picture -/
def MT (I : ax_I) (m : Nat) (t : Tl) : Prop := (I 215 m = nI t.1.1 ∧ I 216 m = nI t.1.2 ∧ I 217 m = nI t.2.1.1 ∧ I 218 m = nI t.2.1.2 ∧ I 219 m = nI t.2.2.1 ∧ I 220 m = nI t.2.2.2.length) ∧ ∀ j b, t.2.2.2[j]? = some b → I 221 (12 * m + j) = nI b
def MN (I : ax_I) (m : Nat) (n : Nt) : Prop := I 222 m = nI n.1 ∧ I 223 m = nI n.2.1 ∧ I 224 m = nI n.2.2
def MP (I : ax_I) (q : Nat) (p : Pc) : Prop := (I 211 q = nI p.1.1 ∧ I 212 q = nI p.1.2 ∧ I 213 q = nI p.2.1.length ∧ I 214 q = nI p.2.2.length) ∧ (∀ k t, p.2.1[k]? = some t → MT I (40 * q + k) t) ∧ ∀ k n, p.2.2[k]? = some n → MN I (20 * q + k) n
/-- the reference: THIS one stands at 'now' -/
def MR (I : ax_I) (now : Nat) (a b : Pc) (fw fh since : Nat) (st : List Nat) : Prop := now < 2 ∧ I 210 3 = nI now ∧ MP I now a ∧ MP I (1 - now) b ∧ I 210 1 = nI fw ∧ I 210 2 = nI fh ∧ I 210 18 = nI since ∧ I 210 22 = nI st.length ∧ ∀ j b, st[j]? = some b → I 226 j = nI b
/-- what only speaks of the code, of 'refused' and of 'nears' -/
def mFree (i k : Nat) : Prop := (i = 210 ∧ (k = 0 ∨ k = 19)) ∨ i = 225 ∨ i < 210 ∨ 227 ≤ i
theorem MT_up {I : ax_I} {m i k : Nat} {v : Int32} {t : Tl} (hi : i < 215 ∨ 221 < i) (h : MT I m t) : MT (ax_up I i k v) m t := by
  obtain ⟨⟨h1, h2, h3, h4, h5, h6⟩, h7⟩ := h
  refine ⟨⟨?_, ?_, ?_, ?_, ?_, ?_⟩, fun j b hj => ?_⟩
  · rw [ax_up_ne (by omega)]; exact h1
  · rw [ax_up_ne (by omega)]; exact h2
  · rw [ax_up_ne (by omega)]; exact h3
  · rw [ax_up_ne (by omega)]; exact h4
  · rw [ax_up_ne (by omega)]; exact h5
  · rw [ax_up_ne (by omega)]; exact h6
  · rw [ax_up_ne (by omega)]; exact h7 j b hj
theorem MN_up {I : ax_I} {m i k : Nat} {v : Int32} {n : Nt} (hi : i < 222 ∨ 224 < i) (h : MN I m n) : MN (ax_up I i k v) m n := by
  obtain ⟨h1, h2, h3⟩ := h
  refine ⟨?_, ?_, ?_⟩
  · rw [ax_up_ne (by omega)]; exact h1
  · rw [ax_up_ne (by omega)]; exact h2
  · rw [ax_up_ne (by omega)]; exact h3
theorem MP_up {I : ax_I} {q i k : Nat} {v : Int32} {p : Pc} (hi : i < 211 ∨ 224 < i) (h : MP I q p) : MP (ax_up I i k v) q p := by
  obtain ⟨⟨h1, h2, h3, h4⟩, h5, h6⟩ := h
  refine ⟨⟨?_, ?_, ?_, ?_⟩, fun k t hk => MT_up (by omega) (h5 k t hk), fun k n hk => MN_up (by omega) (h6 k n hk)⟩
  · rw [ax_up_ne (by omega)]; exact h1
  · rw [ax_up_ne (by omega)]; exact h2
  · rw [ax_up_ne (by omega)]; exact h3
  · rw [ax_up_ne (by omega)]; exact h4
theorem MR_up {I : ax_I} {i k now fw fh since : Nat} {v : Int32} {a b : Pc} {st : List Nat} (hi : mFree i k) (h : MR I now a b fw fh since st) : MR (ax_up I i k v) now a b fw fh since st := by
  unfold mFree at hi
  obtain ⟨h1, h2, h3, h4, h5, h6, h7, h8, h9⟩ := h
  refine ⟨h1, ?_, MP_up (by omega) h3, MP_up (by omega) h4, ?_, ?_, ?_, ?_, fun j b hj => ?_⟩
  · rw [ax_up_ne (by omega)]; exact h2
  · rw [ax_up_ne (by omega)]; exact h5
  · rw [ax_up_ne (by omega)]; exact h6
  · rw [ax_up_ne (by omega)]; exact h7
  · rw [ax_up_ne (by omega)]; exact h8
  · rw [ax_up_ne (by omega)]; exact h9 j b hj
/-- the reference's rows by their numbers -/
theorem mr_4 {S : ax_S} {R : ax_R} (h : mOk S R) : R 210 4 = some 211 := (h.2 0 (by omega)).1
theorem mr_5 {S : ax_S} {R : ax_R} (h : mOk S R) : R 210 5 = some 212 := (h.2 1 (by omega)).1
theorem mr_6 {S : ax_S} {R : ax_R} (h : mOk S R) : R 210 6 = some 213 := (h.2 2 (by omega)).1
theorem mr_7 {S : ax_S} {R : ax_R} (h : mOk S R) : R 210 7 = some 214 := (h.2 3 (by omega)).1
theorem mr_8 {S : ax_S} {R : ax_R} (h : mOk S R) : R 210 8 = some 215 := (h.2 4 (by omega)).1
theorem mr_9 {S : ax_S} {R : ax_R} (h : mOk S R) : R 210 9 = some 216 := (h.2 5 (by omega)).1
theorem mr_10 {S : ax_S} {R : ax_R} (h : mOk S R) : R 210 10 = some 217 := (h.2 6 (by omega)).1
theorem mr_11 {S : ax_S} {R : ax_R} (h : mOk S R) : R 210 11 = some 218 := (h.2 7 (by omega)).1
theorem mr_12 {S : ax_S} {R : ax_R} (h : mOk S R) : R 210 12 = some 219 := (h.2 8 (by omega)).1
theorem mr_13 {S : ax_S} {R : ax_R} (h : mOk S R) : R 210 13 = some 220 := (h.2 9 (by omega)).1
theorem mr_14 {S : ax_S} {R : ax_R} (h : mOk S R) : R 210 14 = some 221 := (h.2 10 (by omega)).1
theorem mr_15 {S : ax_S} {R : ax_R} (h : mOk S R) : R 210 15 = some 222 := (h.2 11 (by omega)).1
theorem mr_16 {S : ax_S} {R : ax_R} (h : mOk S R) : R 210 16 = some 223 := (h.2 12 (by omega)).1
theorem mr_17 {S : ax_S} {R : ax_R} (h : mOk S R) : R 210 17 = some 224 := (h.2 13 (by omega)).1
theorem mr_20 {S : ax_S} {R : ax_R} (h : mOk S R) : R 210 20 = some 225 := (h.2 14 (by omega)).1
theorem mr_21 {S : ax_S} {R : ax_R} (h : mOk S R) : R 210 21 = some 226 := (h.2 15 (by omega)).1
/-- an index of the n-th row -/
theorem mx {S : ax_S} {R : ax_R} (h : mOk S R) (n : Nat) (hn : n < 16) {x : Int32} (j : Nat) (hx : x = nI j) (hj : j < mLen n) : ax_ix S (211 + n) x = some j := ax_ix_k (h.2 n hn).2 hx hj (mLen_lt n)
theorem mx2 {S : ax_S} {R : ax_R} (h : mOk S R) {now : Nat} (hn : now < 2) : ax_ix S 211 (nI now) = some now ∧ ax_ix S 212 (nI now) = some now ∧ ax_ix S 213 (nI now) = some now ∧ ax_ix S 214 (nI now) = some now := ⟨mx h 0 (by omega) now rfl hn, mx h 1 (by omega) now rfl hn, mx h 2 (by omega) now rfl hn, mx h 3 (by omega) now rfl hn⟩
theorem mxT {S : ax_S} {R : ax_R} (h : mOk S R) {m : Nat} (hm : m < 80) {x : Int32} (hx : x = nI m) : (ax_ix S 215 x = some m ∧ ax_ix S 216 x = some m ∧ ax_ix S 217 x = some m) ∧ ax_ix S 218 x = some m ∧ ax_ix S 219 x = some m ∧ ax_ix S 220 x = some m := ⟨⟨mx h 4 (by omega) m hx hm, mx h 5 (by omega) m hx hm, mx h 6 (by omega) m hx hm⟩, mx h 7 (by omega) m hx hm, mx h 8 (by omega) m hx hm, mx h 9 (by omega) m hx hm⟩
theorem mxB {S : ax_S} {R : ax_R} (h : mOk S R) {m : Nat} (hm : m < 960) {x : Int32} (hx : x = nI m) : ax_ix S 221 x = some m := mx h 10 (by omega) m hx hm
theorem mxN {S : ax_S} {R : ax_R} (h : mOk S R) {m : Nat} (hm : m < 40) {x : Int32} (hx : x = nI m) : ax_ix S 222 x = some m ∧ ax_ix S 223 x = some m ∧ ax_ix S 224 x = some m := ⟨mx h 11 (by omega) m hx hm, mx h 12 (by omega) m hx hm, mx h 13 (by omega) m hx hm⟩
theorem mxS {S : ax_S} {R : ax_R} (h : mOk S R) {m : Nat} (hm : m < 1200) {x : Int32} (hx : x = nI m) : ax_ix S 226 x = some m := mx h 15 (by omega) m hx hm
/-- a picture stays where its own cells stay -/
theorem MP_keep {I J : ax_I} {q : Nat} {p : Pc} (h : MP I q p) (hp : okP p) (e1 : ∀ i, 211 ≤ i → i ≤ 214 → J i q = I i q) (e2 : ∀ i m, 215 ≤ i → i ≤ 220 → 40 * q ≤ m → m < 40 * q + 40 → J i m = I i m) (e3 : ∀ m, 480 * q ≤ m → m < 480 * q + 480 → J 221 m = I 221 m) (e4 : ∀ i m, 222 ≤ i → i ≤ 224 → 20 * q ≤ m → m < 20 * q + 20 → J i m = I i m) : MP J q p := by
  obtain ⟨⟨h1, h2, h3, h4⟩, h5, h6⟩ := h
  obtain ⟨-, ⟨l1, l2⟩, ht, -⟩ := hp
  refine ⟨⟨(e1 _ (by omega) (by omega)).trans h1, (e1 _ (by omega) (by omega)).trans h2, (e1 _ (by omega) (by omega)).trans h3, (e1 _ (by omega) (by omega)).trans h4⟩, fun k t hk => ?_, fun k n hk => ?_⟩
  · have hlt : k < p.2.1.length := (List.getElem?_eq_some_iff.mp hk).1
    obtain ⟨⟨q1, q2, q3, q4, q5, q6⟩, q7⟩ := h5 k t hk
    have hb := (ht t (List.mem_of_getElem? hk)).2.2.2.1
    refine ⟨⟨(e2 _ _ (by omega) (by omega) (by omega) (by omega)).trans q1, (e2 _ _ (by omega) (by omega) (by omega) (by omega)).trans q2, (e2 _ _ (by omega) (by omega) (by omega) (by omega)).trans q3, (e2 _ _ (by omega) (by omega) (by omega) (by omega)).trans q4, (e2 _ _ (by omega) (by omega) (by omega) (by omega)).trans q5, (e2 _ _ (by omega) (by omega) (by omega) (by omega)).trans q6⟩, fun j b hj => ?_⟩
    have hjl : j < t.2.2.2.length := (List.getElem?_eq_some_iff.mp hj).1
    exact (e3 _ (by omega) (by omega)).trans (q7 j b hj)
  · have hlt : k < p.2.2.length := (List.getElem?_eq_some_iff.mp hk).1
    obtain ⟨q1, q2, q3⟩ := h6 k n hk
    exact ⟨(e4 _ _ (by omega) (by omega) (by omega) (by omega)).trans q1, (e4 _ _ (by omega) (by omega) (by omega) (by omega)).trans q2, (e4 _ _ (by omega) (by omega) (by omega) (by omega)).trans q3⟩
theorem MR_mk {I J : ax_I} {now fw fh since : Nat} {a b a' b' : Pc} {st : List Nat} (h : MR I now a b fw fh since st) (e1 : ∀ k, k = 1 ∨ k = 2 ∨ k = 3 ∨ k = 18 ∨ k = 22 → J 210 k = I 210 k) (e2 : ∀ k, J 226 k = I 226 k) (ha : MP J now a') (hb : MP J (1 - now) b') : MR J now a' b' fw fh since st := by
  obtain ⟨h1, h2, -, -, h5, h6, h7, h8, h9⟩ := h
  exact ⟨h1, (e1 _ (by omega)).trans h2, ha, hb, (e1 _ (by omega)).trans h5, (e1 _ (by omega)).trans h6, (e1 _ (by omega)).trans h7, (e1 _ (by omega)).trans h8, fun j c hj => (e2 j).trans (h9 j c hj)⟩
/-! the reference writes into its own cells alone -/
def low (I0 J : ax_I) : Prop := ∀ i m, i < 210 → J i m = I0 i m
def frG {β : Type} (pr : β → ax_I) (I0 : ax_I) (r : Option β) : Prop := ∀ o, r = some o → low I0 (pr o)
section FRM
variable {β : Type} {pr : β → ax_I} {I0 : ax_I}
theorem fr_none : frG pr I0 none := fun o h => (by cases h)
theorem fr_ite {c : Prop} [Decidable c] {a b : Option β} (ha : frG pr I0 a) (hb : frG pr I0 b) : frG pr I0 (if c then a else b) := by
  split
  · exact ha
  · exact hb
theorem fr_b {γ : Type} {x : Option γ} {K : γ → Option β} (h : ∀ a, frG pr I0 (K a)) : frG pr I0 (x.bind K) := by
  cases x with
  | none => exact fr_none
  | some a => rw [ob]; exact h a
theorem fr_set {J : ax_I} {u k : Nat} {v : Int32} {K : ax_I → Option β} (hu : 210 ≤ u) (hJ : low I0 J) (h : ∀ J', low I0 J' → frG pr I0 (K J')) : frG pr I0 ((some (ax_up J u k v)).bind K) := by
  rw [ob]
  exact h _ (fun i m hi => by rw [ax_up_ne (by omega)]; exact hJ i m hi)
theorem fr_R {R : ax_R} (hR : mOk oS R) {k : Nat} (hk : (4 ≤ k ∧ k ≤ 17) ∨ k = 20 ∨ k = 21) {K : Nat → Option β} (h : ∀ u, 210 ≤ u → frG pr I0 (K u)) : frG pr I0 ((R 210 k).bind K) := by
  obtain ⟨u, hu, hg⟩ : ∃ u, R 210 k = some u ∧ 210 ≤ u := by
    rcases hk with hk | rfl | rfl
    · have := (hR.2 (k - 4) (by omega)).1
      unfold mFld at this
      rw [if_pos (by omega), show k - 4 + 4 = k by omega] at this
      exact ⟨_, this, by omega⟩
    · exact ⟨_, mr_20 hR, by omega⟩
    · exact ⟨_, mr_21 hR, by omega⟩
  rw [hu, ob]
  exact h u hg
theorem fr_cP {x : Option (Int32 × ax_I)} {K : Int32 × ax_I → Option β} (hx : frG Prod.snd I0 x) (h : ∀ o, low I0 o.2 → frG pr I0 (K o)) : frG pr I0 (x.bind K) := by
  cases x with
  | none => exact fr_none
  | some a => rw [ob]; exact h a (hx a rfl)
theorem fr_cI {x : Option ax_I} {K : ax_I → Option β} (hx : frG id I0 x) (h : ∀ o, low I0 o → frG pr I0 (K o)) : frG pr I0 (x.bind K) := by
  cases x with
  | none => exact fr_none
  | some a => rw [ob]; exact h a (hx a rfl)
theorem fr_ret {v : Int32} {J : ax_I} (h : low I0 J) : frG Prod.snd I0 (some (v, J)) := fun o e => (by cases e; exact h)
theorem fr_retI {J : ax_I} (h : low I0 J) : frG id I0 (some J) := fun o e => (by cases e; exact h)
end FRM
theorem f_M_clear_12 {R : ax_R} (hR : mOk oS R) {I0 : ax_I} : ∀ (n : Nat) (I : ax_I) (x1 : Int32), low I0 I → frG id I0 (d_M_clear_12 oS n I R 210 x1) := by
  intro n
  induction n with
  | zero => intros; exact fr_none
  | succ n ih =>
    intro I x1 hI
    rw [d_M_clear_12]
    refine fr_ite ?_ ?_
    · skip
      refine fr_set (by omega) (by assumption) (fun I6 hI6 => ?_)
      refine fr_set (by omega) (by assumption) (fun I8 hI8 => ?_)
      refine fr_set (by omega) (by assumption) (fun I10 hI10 => ?_)
      exact fr_retI (by assumption)
    · skip
      refine fr_R hR (by decide) (fun u12 hu12 => ?_)
      refine fr_b (fun j16 => ?_)
      refine fr_set (by omega) (by assumption) (fun I18 hI18 => ?_)
      refine fr_R hR (by decide) (fun u20 hu20 => ?_)
      refine fr_b (fun j24 => ?_)
      refine fr_set (by omega) (by assumption) (fun I26 hI26 => ?_)
      refine fr_R hR (by decide) (fun u28 hu28 => ?_)
      refine fr_b (fun j32 => ?_)
      refine fr_set (by omega) (by assumption) (fun I34 hI34 => ?_)
      refine fr_R hR (by decide) (fun u36 hu36 => ?_)
      refine fr_b (fun j40 => ?_)
      refine fr_set (by omega) (by assumption) (fun I42 hI42 => ?_)
      apply ih <;> assumption
theorem f_M_clear {R : ax_R} (hR : mOk oS R) {I0 : ax_I} (I : ax_I) (hI : low I0 I) : frG id I0 (d_M_clear oS I R 210 ) := by
  unfold d_M_clear
  refine fr_set (by omega) (by assumption) (fun I1 hI1 => ?_)
  refine fr_set (by omega) (by assumption) (fun I3 hI3 => ?_)
  apply f_M_clear_12 hR <;> first | assumption | omega
theorem f_M_move_74 {R : ax_R} (hR : mOk oS R) {I0 : ax_I} : ∀ (n : Nat) (I : ax_I) (x1 x2 x3 : Int32), low I0 I → frG id I0 (d_M_move_74 oS n I R 210 x1 x2 x3) := by
  intro n
  induction n with
  | zero => intros; exact fr_none
  | succ n ih =>
    intro I x1 x2 x3 hI
    rw [d_M_move_74]
    refine fr_ite ?_ ?_
    · skip
      exact fr_retI (by assumption)
    · skip
      refine fr_R hR (by decide) (fun u86 hu86 => ?_)
      refine fr_R hR (by decide) (fun u90 hu90 => ?_)
      refine fr_b (fun j94 => ?_)
      refine fr_b (fun j96 => ?_)
      refine fr_set (by omega) (by assumption) (fun I98 hI98 => ?_)
      apply ih <;> assumption
theorem f_M_move {R : ax_R} (hR : mOk oS R) {I0 : ax_I} (I : ax_I) (x1 : Int32) (x2 : Int32) (hI : low I0 I) : frG id I0 (d_M_move oS I R 210 x1 x2) := by
  unfold d_M_move
  refine fr_R hR (by decide) (fun u1 hu1 => ?_)
  refine fr_R hR (by decide) (fun u5 hu5 => ?_)
  refine fr_b (fun j9 => ?_)
  refine fr_b (fun j11 => ?_)
  refine fr_set (by omega) (by assumption) (fun I13 hI13 => ?_)
  refine fr_R hR (by decide) (fun u15 hu15 => ?_)
  refine fr_R hR (by decide) (fun u19 hu19 => ?_)
  refine fr_b (fun j23 => ?_)
  refine fr_b (fun j25 => ?_)
  refine fr_set (by omega) (by assumption) (fun I27 hI27 => ?_)
  refine fr_R hR (by decide) (fun u29 hu29 => ?_)
  refine fr_R hR (by decide) (fun u33 hu33 => ?_)
  refine fr_b (fun j37 => ?_)
  refine fr_b (fun j39 => ?_)
  refine fr_set (by omega) (by assumption) (fun I41 hI41 => ?_)
  refine fr_R hR (by decide) (fun u43 hu43 => ?_)
  refine fr_R hR (by decide) (fun u47 hu47 => ?_)
  refine fr_b (fun j51 => ?_)
  refine fr_b (fun j53 => ?_)
  refine fr_set (by omega) (by assumption) (fun I55 hI55 => ?_)
  refine fr_R hR (by decide) (fun u57 hu57 => ?_)
  refine fr_R hR (by decide) (fun u61 hu61 => ?_)
  refine fr_b (fun j65 => ?_)
  refine fr_b (fun j67 => ?_)
  refine fr_set (by omega) (by assumption) (fun I69 hI69 => ?_)
  refine fr_R hR (by decide) (fun u71 hu71 => ?_)
  refine fr_R hR (by decide) (fun u75 hu75 => ?_)
  refine fr_b (fun j79 => ?_)
  refine fr_b (fun j81 => ?_)
  refine fr_set (by omega) (by assumption) (fun I83 hI83 => ?_)
  apply f_M_move_74 hR <;> first | assumption | omega
theorem f_M_moveNote {R : ax_R} (hR : mOk oS R) {I0 : ax_I} (I : ax_I) (x1 : Int32) (x2 : Int32) (hI : low I0 I) : frG id I0 (d_M_moveNote oS I R 210 x1 x2) := by
  unfold d_M_moveNote
  refine fr_R hR (by decide) (fun u1 hu1 => ?_)
  refine fr_R hR (by decide) (fun u5 hu5 => ?_)
  refine fr_b (fun j9 => ?_)
  refine fr_b (fun j11 => ?_)
  refine fr_set (by omega) (by assumption) (fun I13 hI13 => ?_)
  refine fr_R hR (by decide) (fun u15 hu15 => ?_)
  refine fr_R hR (by decide) (fun u19 hu19 => ?_)
  refine fr_b (fun j23 => ?_)
  refine fr_b (fun j25 => ?_)
  refine fr_set (by omega) (by assumption) (fun I27 hI27 => ?_)
  refine fr_R hR (by decide) (fun u29 hu29 => ?_)
  refine fr_R hR (by decide) (fun u33 hu33 => ?_)
  refine fr_b (fun j37 => ?_)
  refine fr_b (fun j39 => ?_)
  refine fr_set (by omega) (by assumption) (fun I41 hI41 => ?_)
  exact fr_retI (by assumption)
theorem f_M_swap {R : ax_R} (hR : mOk oS R) {I0 : ax_I} (I : ax_I) (hI : low I0 I) : frG Prod.snd I0 (d_M_swap oS I R 210 ) := by
  unfold d_M_swap
  refine fr_set (by omega) (by assumption) (fun I1 hI1 => ?_)
  refine fr_set (by omega) (by assumption) (fun I3 hI3 => ?_)
  refine fr_set (by omega) (by assumption) (fun I5 hI5 => ?_)
  refine fr_set (by omega) (by assumption) (fun I7 hI7 => ?_)
  refine fr_R hR (by decide) (fun u9 hu9 => ?_)
  refine fr_b (fun j13 => ?_)
  exact fr_ret (by assumption)
theorem f_M_tell {R : ax_R} (hR : mOk oS R) {I0 : ax_I} (I : ax_I) (x1 : Int32) (hI : low I0 I) : frG id I0 (d_M_tell oS I R 210 x1) := by
  unfold d_M_tell
  refine fr_R hR (by decide) (fun u1 hu1 => ?_)
  refine fr_b (fun j5 => ?_)
  refine fr_set (by omega) (by assumption) (fun I7 hI7 => ?_)
  refine fr_set (by omega) (by assumption) (fun I9 hI9 => ?_)
  exact fr_retI (by assumption)
theorem f_M_told {R : ax_R} (hR : mOk oS R) {I0 : ax_I} (I : ax_I) (x1 : Int32) (hI : low I0 I) : frG Prod.snd I0 (d_M_told oS I R 210 x1) := by
  unfold d_M_told
  refine fr_set (by omega) (by assumption) (fun I1 hI1 => ?_)
  refine fr_ite ?_ ?_
  · skip
    refine fr_R hR (by decide) (fun u4 hu4 => ?_)
    refine fr_b (fun j8 => ?_)
    exact fr_ret (by assumption)
  · skip
    refine fr_ite ?_ ?_
    · skip
      refine fr_R hR (by decide) (fun u11 hu11 => ?_)
      refine fr_b (fun j15 => ?_)
      exact fr_ret (by assumption)
    · skip
      refine fr_ite ?_ ?_
      · skip
        refine fr_R hR (by decide) (fun u18 hu18 => ?_)
        refine fr_b (fun j22 => ?_)
        exact fr_ret (by assumption)
      · skip
        refine fr_ite ?_ ?_
        · skip
          refine fr_R hR (by decide) (fun u25 hu25 => ?_)
          refine fr_b (fun j29 => ?_)
          exact fr_ret (by assumption)
        · skip
          refine fr_ite ?_ ?_
          · skip
            exact fr_ret (by assumption)
          · skip
            refine fr_ite ?_ ?_
            · skip
              refine fr_R hR (by decide) (fun u33 hu33 => ?_)
              refine fr_b (fun j37 => ?_)
              exact fr_ret (by assumption)
            · skip
              refine fr_ite ?_ ?_
              · skip
                refine fr_R hR (by decide) (fun u40 hu40 => ?_)
                refine fr_b (fun j44 => ?_)
                exact fr_ret (by assumption)
              · skip
                refine fr_ite ?_ ?_
                · skip
                  refine fr_R hR (by decide) (fun u47 hu47 => ?_)
                  refine fr_b (fun j51 => ?_)
                  exact fr_ret (by assumption)
                · skip
                  refine fr_ite ?_ ?_
                  · skip
                    refine fr_R hR (by decide) (fun u54 hu54 => ?_)
                    refine fr_b (fun j58 => ?_)
                    exact fr_ret (by assumption)
                  · skip
                    exact fr_ret (by assumption)
theorem f_M_tile_196 {R : ax_R} (hR : mOk oS R) {I0 : ax_I} (I : ax_I) (x1 : Int32) (x2 : Int32) (x3 : Int32) (x4 : Int32) (y0 : Int32) (w1 : Nat) (hw1 : 210 ≤ w1) (hI : low I0 I) : frG Prod.snd I0 (d_M_tile_196 oS I R 210 x1 x2 x3 x4 y0 w1) := by
  unfold d_M_tile_196
  refine fr_set (by omega) (by assumption) (fun I77 hI77 => ?_)
  refine fr_ite ?_ ?_
  · skip
    refine fr_R hR (by decide) (fun u80 hu80 => ?_)
    refine fr_b (fun j84 => ?_)
    refine fr_b (fun r88 => ?_)
    refine fr_R hR (by decide) (fun u89 hu89 => ?_)
    refine fr_b (fun j93 => ?_)
    refine fr_set (by omega) (by assumption) (fun I95 hI95 => ?_)
    refine fr_R hR (by decide) (fun u97 hu97 => ?_)
    refine fr_b (fun j101 => ?_)
    refine fr_set (by omega) (by assumption) (fun I103 hI103 => ?_)
    refine fr_R hR (by decide) (fun u105 hu105 => ?_)
    refine fr_b (fun j109 => ?_)
    refine fr_set (by omega) (by assumption) (fun I111 hI111 => ?_)
    refine fr_R hR (by decide) (fun u113 hu113 => ?_)
    refine fr_b (fun j117 => ?_)
    refine fr_set (by omega) (by assumption) (fun I119 hI119 => ?_)
    refine fr_R hR (by decide) (fun u121 hu121 => ?_)
    refine fr_b (fun j125 => ?_)
    refine fr_set (by omega) (by assumption) (fun I127 hI127 => ?_)
    refine fr_R hR (by decide) (fun u129 hu129 => ?_)
    refine fr_b (fun j133 => ?_)
    refine fr_set (by omega) (by assumption) (fun I135 hI135 => ?_)
    refine fr_R hR (by decide) (fun u137 hu137 => ?_)
    refine fr_b (fun j141 => ?_)
    refine fr_b (fun j143 => ?_)
    refine fr_set (by omega) (by assumption) (fun I145 hI145 => ?_)
    refine fr_set (by omega) (by assumption) (fun I147 hI147 => ?_)
    refine fr_R hR (by decide) (fun u149 hu149 => ?_)
    refine fr_b (fun j153 => ?_)
    exact fr_ret (by assumption)
  · skip
    exact fr_ret (by assumption)
theorem f_M_tile_192 {R : ax_R} (hR : mOk oS R) {I0 : ax_I} (I : ax_I) (x1 : Int32) (x2 : Int32) (x3 : Int32) (x4 : Int32) (w0 : Nat) (hw0 : 210 ≤ w0) (hI : low I0 I) : frG Prod.snd I0 (d_M_tile_192 oS I R 210 x1 x2 x3 x4 w0) := by
  unfold d_M_tile_192
  apply f_M_tile_196 hR <;> first | assumption | omega
theorem f_M_tile_166 {R : ax_R} (hR : mOk oS R) {I0 : ax_I} (I : ax_I) (x1 : Int32) (x2 : Int32) (x3 : Int32) (x4 : Int32) (hI : low I0 I) : frG Prod.snd I0 (d_M_tile_166 oS I R 210 x1 x2 x3 x4) := by
  unfold d_M_tile_166
  refine fr_ite ?_ ?_
  · skip
    refine fr_R hR (by decide) (fun u70 hu70 => ?_)
    refine fr_b (fun j74 => ?_)
    refine fr_ite ?_ ?_
    · skip
      apply f_M_tile_196 hR <;> first | assumption | omega
    · skip
      apply f_M_tile_192 hR <;> first | assumption | omega
  · skip
    apply f_M_tile_192 hR <;> first | assumption | omega
theorem f_M_tile_157 {R : ax_R} (hR : mOk oS R) {I0 : ax_I} (rec45 : ax_I → ax_R → Nat → Int32 → Int32 → Int32 → Int32 → Int32 → Option (Int32 × ax_I)) (hrec45 : ∀ (I : ax_I) (z0 z1 z2 z3 z4 : Int32), low I0 I → frG Prod.snd I0 (rec45 I R 210 z0 z1 z2 z3 z4)) (I : ax_I) (x1 : Int32) (x2 : Int32) (x3 : Int32) (x4 : Int32) (x5 : Int32) (y0 : Int32) (w1 : Nat) (hw1 : 210 ≤ w1) (hI : low I0 I) : frG Prod.snd I0 (d_M_tile_157 oS rec45 I R 210 x1 x2 x3 x4 x5 y0 w1) := by
  unfold d_M_tile_157
  refine fr_set (by omega) (by assumption) (fun I67 hI67 => ?_)
  apply hrec45 <;> assumption
theorem f_M_tile_144 {R : ax_R} (hR : mOk oS R) {I0 : ax_I} (rec45 : ax_I → ax_R → Nat → Int32 → Int32 → Int32 → Int32 → Int32 → Option (Int32 × ax_I)) (hrec45 : ∀ (I : ax_I) (z0 z1 z2 z3 z4 : Int32), low I0 I → frG Prod.snd I0 (rec45 I R 210 z0 z1 z2 z3 z4)) (I : ax_I) (x1 : Int32) (x2 : Int32) (x3 : Int32) (x4 : Int32) (x5 : Int32) (y0 : Int32) (hI : low I0 I) : frG Prod.snd I0 (d_M_tile_144 oS rec45 I R 210 x1 x2 x3 x4 x5 y0) := by
  unfold d_M_tile_144
  refine fr_ite ?_ ?_
  · skip
    apply f_M_tile_157 hR <;> first | assumption | omega
  · skip
    apply f_M_tile_157 hR <;> first | assumption | omega
theorem f_M_tile_139 {R : ax_R} (hR : mOk oS R) {I0 : ax_I} (rec45 : ax_I → ax_R → Nat → Int32 → Int32 → Int32 → Int32 → Int32 → Option (Int32 × ax_I)) (hrec45 : ∀ (I : ax_I) (z0 z1 z2 z3 z4 : Int32), low I0 I → frG Prod.snd I0 (rec45 I R 210 z0 z1 z2 z3 z4)) (I : ax_I) (x1 : Int32) (x2 : Int32) (x3 : Int32) (x4 : Int32) (x5 : Int32) (hI : low I0 I) : frG Prod.snd I0 (d_M_tile_139 oS rec45 I R 210 x1 x2 x3 x4 x5) := by
  unfold d_M_tile_139
  apply f_M_tile_144 hR <;> first | assumption | omega
theorem f_M_tile_45 {R : ax_R} (hR : mOk oS R) {I0 : ax_I} : ∀ (n : Nat) (I : ax_I) (x1 x2 x3 x4 x5 : Int32), low I0 I → frG Prod.snd I0 (d_M_tile_45 oS n I R 210 x1 x2 x3 x4 x5) := by
  intro n
  induction n with
  | zero => intros; exact fr_none
  | succ n ih =>
    intro I x1 x2 x3 x4 x5 hI
    rw [d_M_tile_45]
    refine fr_R hR (by decide) (fun u15 hu15 => ?_)
    refine fr_b (fun j19 => ?_)
    refine fr_ite ?_ ?_
    · skip
      apply f_M_tile_166 hR <;> first | assumption | omega
    · skip
      refine fr_ite ?_ ?_
      · skip
        refine fr_b (fun r25 => ?_)
        refine fr_R hR (by decide) (fun u26 hu26 => ?_)
        refine fr_b (fun j30 => ?_)
        refine fr_ite ?_ ?_
        · skip
          apply f_M_tile_139 hR <;> first | assumption | omega
        · skip
          refine fr_R hR (by decide) (fun u33 hu33 => ?_)
          refine fr_b (fun j37 => ?_)
          refine fr_R hR (by decide) (fun u39 hu39 => ?_)
          refine fr_b (fun j43 => ?_)
          refine fr_ite ?_ ?_
          · skip
            apply f_M_tile_139 hR <;> first | assumption | omega
          · skip
            refine fr_R hR (by decide) (fun u46 hu46 => ?_)
            refine fr_b (fun j50 => ?_)
            refine fr_ite ?_ ?_
            · skip
              apply f_M_tile_139 hR <;> first | assumption | omega
            · skip
              refine fr_R hR (by decide) (fun u53 hu53 => ?_)
              refine fr_b (fun j57 => ?_)
              refine fr_R hR (by decide) (fun u59 hu59 => ?_)
              refine fr_b (fun j63 => ?_)
              refine fr_ite ?_ ?_
              · skip
                apply f_M_tile_144 hR <;> first | assumption | omega
              · skip
                apply f_M_tile_139 hR <;> first | assumption | omega
      · skip
        apply f_M_tile_166 hR <;> first | assumption | omega
theorem f_M_tile_39 {R : ax_R} (hR : mOk oS R) {I0 : ax_I} (I : ax_I) (x1 : Int32) (x2 : Int32) (x3 : Int32) (x4 : Int32) (y0 : Int32) (w1 : Nat) (hw1 : 210 ≤ w1) (hI : low I0 I) : frG Prod.snd I0 (d_M_tile_39 oS I R 210 x1 x2 x3 x4 y0 w1) := by
  unfold d_M_tile_39
  refine fr_set (by omega) (by assumption) (fun I13 hI13 => ?_)
  apply f_M_tile_45 hR <;> first | assumption | omega
theorem f_M_tile_34 {R : ax_R} (hR : mOk oS R) {I0 : ax_I} (I : ax_I) (x1 : Int32) (x2 : Int32) (x3 : Int32) (x4 : Int32) (w0 : Nat) (hw0 : 210 ≤ w0) (hI : low I0 I) : frG Prod.snd I0 (d_M_tile_34 oS I R 210 x1 x2 x3 x4 w0) := by
  unfold d_M_tile_34
  apply f_M_tile_39 hR <;> first | assumption | omega
theorem f_M_tile {R : ax_R} (hR : mOk oS R) {I0 : ax_I} (I : ax_I) (x1 : Int32) (x2 : Int32) (x3 : Int32) (x4 : Int32) (hI : low I0 I) : frG Prod.snd I0 (d_M_tile oS I R 210 x1 x2 x3 x4) := by
  unfold d_M_tile
  refine fr_b (fun r3 => ?_)
  refine fr_ite ?_ ?_
  · skip
    apply f_M_tile_34 hR <;> first | assumption | omega
  · skip
    refine fr_b (fun r7 => ?_)
    refine fr_ite ?_ ?_
    · skip
      apply f_M_tile_34 hR <;> first | assumption | omega
    · skip
      refine fr_b (fun r11 => ?_)
      refine fr_ite ?_ ?_
      · skip
        apply f_M_tile_34 hR <;> first | assumption | omega
      · skip
        apply f_M_tile_39 hR <;> first | assumption | omega
theorem f_M_near_26 {R : ax_R} (hR : mOk oS R) {I0 : ax_I} (I : ax_I) (x1 : Int32) (y0 : Int32) (w1 : Nat) (hw1 : 210 ≤ w1) (hI : low I0 I) : frG Prod.snd I0 (d_M_near_26 oS I R 210 x1 y0 w1) := by
  unfold d_M_near_26
  refine fr_set (by omega) (by assumption) (fun I6 hI6 => ?_)
  refine fr_ite ?_ ?_
  · skip
    refine fr_R hR (by decide) (fun u9 hu9 => ?_)
    refine fr_b (fun j13 => ?_)
    exact fr_ret (by assumption)
  · skip
    exact fr_ret (by assumption)
theorem f_M_near {R : ax_R} (hR : mOk oS R) {I0 : ax_I} (I : ax_I) (x1 : Int32) (hI : low I0 I) : frG Prod.snd I0 (d_M_near oS I R 210 x1) := by
  unfold d_M_near
  refine fr_b (fun r3 => ?_)
  refine fr_ite ?_ ?_
  · skip
    apply f_M_near_26 hR <;> first | assumption | omega
  · skip
    refine fr_ite ?_ ?_
    · skip
      apply f_M_near_26 hR <;> first | assumption | omega
    · skip
      apply f_M_near_26 hR <;> first | assumption | omega
theorem f_M_join_638 {R : ax_R} (hR : mOk oS R) {I0 : ax_I} (I : ax_I) (y0 : Int32) (y1 : Int32) (w2 : Nat) (hw2 : 210 ≤ w2) (hI : low I0 I) : frG Prod.snd I0 (d_M_join_638 oS I R 210 y0 y1 w2) := by
  unfold d_M_join_638
  refine fr_b (fun j315 => ?_)
  refine fr_set (by omega) (by assumption) (fun I317 hI317 => ?_)
  refine fr_set (by omega) (by assumption) (fun I319 hI319 => ?_)
  refine fr_set (by omega) (by assumption) (fun I321 hI321 => ?_)
  refine fr_R hR (by decide) (fun u323 hu323 => ?_)
  refine fr_b (fun j327 => ?_)
  exact fr_ret (by assumption)
theorem f_M_join_611 {R : ax_R} (hR : mOk oS R) {I0 : ax_I} (I : ax_I) (x3 : Int32) (x4 : Int32) (y0 : Int32) (y1 : Int32) (w2 : Nat) (hw2 : 210 ≤ w2) (hI : low I0 I) : frG Prod.snd I0 (d_M_join_611 oS I R 210 x3 x4 y0 y1 w2) := by
  unfold d_M_join_611
  refine fr_b (fun j300 => ?_)
  refine fr_set (by omega) (by assumption) (fun I302 hI302 => ?_)
  refine fr_R hR (by decide) (fun u304 hu304 => ?_)
  refine fr_ite ?_ ?_
  · skip
    apply f_M_join_638 hR <;> first | assumption | omega
  · skip
    refine fr_R hR (by decide) (fun u309 hu309 => ?_)
    refine fr_b (fun j313 => ?_)
    apply f_M_join_638 hR <;> first | assumption | omega
theorem f_M_join_485 {R : ax_R} (hR : mOk oS R) {I0 : ax_I} : ∀ (n : Nat) (I : ax_I) (x2 x3 x4 x8 x9 x10 : Int32), low I0 I → frG Prod.snd I0 (d_M_join_485 oS n I R 210 x2 x3 x4 x8 x9 x10) := by
  intro n
  induction n with
  | zero => intros; exact fr_none
  | succ n ih =>
    intro I x2 x3 x4 x8 x9 x10 hI
    rw [d_M_join_485]
    refine fr_R hR (by decide) (fun u227 hu227 => ?_)
    refine fr_b (fun j231 => ?_)
    refine fr_ite ?_ ?_
    · skip
      refine fr_R hR (by decide) (fun u234 hu234 => ?_)
      refine fr_b (fun j238 => ?_)
      refine fr_set (by omega) (by assumption) (fun I240 hI240 => ?_)
      refine fr_R hR (by decide) (fun u242 hu242 => ?_)
      refine fr_b (fun j246 => ?_)
      refine fr_set (by omega) (by assumption) (fun I248 hI248 => ?_)
      refine fr_R hR (by decide) (fun u250 hu250 => ?_)
      refine fr_ite ?_ ?_
      · skip
        refine fr_R hR (by decide) (fun u255 hu255 => ?_)
        refine fr_b (fun j259 => ?_)
        apply f_M_join_611 hR <;> first | assumption | omega
      · skip
        apply f_M_join_611 hR <;> first | assumption | omega
    · skip
      refine fr_R hR (by decide) (fun u261 hu261 => ?_)
      refine fr_b (fun j265 => ?_)
      refine fr_cI (pr := Prod.snd) ?_ (fun I269 hI269 => ?_)
      · apply f_M_moveNote hR <;> first | assumption | omega
      refine fr_R hR (by decide) (fun u270 hu270 => ?_)
      refine fr_b (fun j274 => ?_)
      refine fr_b (fun j276 => ?_)
      refine fr_set (by omega) (by assumption) (fun I278 hI278 => ?_)
      refine fr_R hR (by decide) (fun u280 hu280 => ?_)
      refine fr_b (fun j284 => ?_)
      refine fr_b (fun j286 => ?_)
      refine fr_set (by omega) (by assumption) (fun I288 hI288 => ?_)
      refine fr_R hR (by decide) (fun u290 hu290 => ?_)
      refine fr_b (fun j294 => ?_)
      refine fr_b (fun j296 => ?_)
      refine fr_set (by omega) (by assumption) (fun I298 hI298 => ?_)
      apply ih <;> assumption
theorem f_M_join_400 {R : ax_R} (hR : mOk oS R) {I0 : ax_I} : ∀ (n : Nat) (I : ax_I) (x2 x3 x4 x8 x9 x10 : Int32), low I0 I → frG Prod.snd I0 (d_M_join_400 oS n I R 210 x2 x3 x4 x8 x9 x10) := by
  intro n
  induction n with
  | zero => intros; exact fr_none
  | succ n ih =>
    intro I x2 x3 x4 x8 x9 x10 hI
    rw [d_M_join_400]
    refine fr_R hR (by decide) (fun u178 hu178 => ?_)
    refine fr_b (fun j182 => ?_)
    refine fr_ite ?_ ?_
    · skip
      apply f_M_join_485 hR <;> first | assumption | omega
    · skip
      refine fr_R hR (by decide) (fun u185 hu185 => ?_)
      refine fr_b (fun j189 => ?_)
      refine fr_b (fun r193 => ?_)
      refine fr_cI (pr := Prod.snd) ?_ (fun I196 hI196 => ?_)
      · apply f_M_move hR <;> first | assumption | omega
      refine fr_R hR (by decide) (fun u197 hu197 => ?_)
      refine fr_b (fun j201 => ?_)
      refine fr_b (fun j203 => ?_)
      refine fr_set (by omega) (by assumption) (fun I205 hI205 => ?_)
      refine fr_R hR (by decide) (fun u207 hu207 => ?_)
      refine fr_b (fun j211 => ?_)
      refine fr_b (fun j213 => ?_)
      refine fr_set (by omega) (by assumption) (fun I215 hI215 => ?_)
      refine fr_R hR (by decide) (fun u217 hu217 => ?_)
      refine fr_b (fun j221 => ?_)
      refine fr_b (fun j223 => ?_)
      refine fr_set (by omega) (by assumption) (fun I225 hI225 => ?_)
      apply ih <;> assumption
theorem f_M_join_345 {R : ax_R} (hR : mOk oS R) {I0 : ax_I} : ∀ (n : Nat) (I : ax_I) (x2 x3 x4 x6 x7 x8 x9 x10 : Int32), low I0 I → frG Prod.snd I0 (d_M_join_345 oS n I R 210 x2 x3 x4 x6 x7 x8 x9 x10) := by
  intro n
  induction n with
  | zero => intros; exact fr_none
  | succ n ih =>
    intro I x2 x3 x4 x6 x7 x8 x9 x10 hI
    rw [d_M_join_345]
    refine fr_R hR (by decide) (fun u151 hu151 => ?_)
    refine fr_b (fun j155 => ?_)
    refine fr_ite ?_ ?_
    · skip
      apply f_M_join_400 hR <;> first | assumption | omega
    · skip
      refine fr_R hR (by decide) (fun u158 hu158 => ?_)
      refine fr_b (fun j162 => ?_)
      refine fr_b (fun j164 => ?_)
      refine fr_set (by omega) (by assumption) (fun I166 hI166 => ?_)
      refine fr_R hR (by decide) (fun u168 hu168 => ?_)
      refine fr_b (fun j172 => ?_)
      refine fr_b (fun j174 => ?_)
      refine fr_set (by omega) (by assumption) (fun I176 hI176 => ?_)
      apply ih <;> assumption
theorem f_M_join_284 {R : ax_R} (hR : mOk oS R) {I0 : ax_I} : ∀ (n : Nat) (I : ax_I) (x2 x3 x4 x6 x7 x8 x9 x10 : Int32), low I0 I → frG Prod.snd I0 (d_M_join_284 oS n I R 210 x2 x3 x4 x6 x7 x8 x9 x10) := by
  intro n
  induction n with
  | zero => intros; exact fr_none
  | succ n ih =>
    intro I x2 x3 x4 x6 x7 x8 x9 x10 hI
    rw [d_M_join_284]
    refine fr_R hR (by decide) (fun u118 hu118 => ?_)
    refine fr_b (fun j122 => ?_)
    refine fr_ite ?_ ?_
    · skip
      apply f_M_join_345 hR <;> first | assumption | omega
    · skip
      refine fr_R hR (by decide) (fun u125 hu125 => ?_)
      refine fr_b (fun r131 => ?_)
      refine fr_b (fun j132 => ?_)
      refine fr_b (fun j134 => ?_)
      refine fr_set (by omega) (by assumption) (fun I136 hI136 => ?_)
      refine fr_R hR (by decide) (fun u138 hu138 => ?_)
      refine fr_b (fun r144 => ?_)
      refine fr_b (fun j145 => ?_)
      refine fr_b (fun j147 => ?_)
      refine fr_set (by omega) (by assumption) (fun I149 hI149 => ?_)
      apply ih <;> assumption
theorem f_M_join_279 {R : ax_R} (hR : mOk oS R) {I0 : ax_I} (I : ax_I) (x2 : Int32) (x3 : Int32) (x4 : Int32) (x6 : Int32) (x7 : Int32) (x8 : Int32) (y0 : Int32) (hI : low I0 I) : frG Prod.snd I0 (d_M_join_279 oS I R 210 x2 x3 x4 x6 x7 x8 y0) := by
  unfold d_M_join_279
  apply f_M_join_284 hR <;> first | assumption | omega
theorem f_M_join_259 {R : ax_R} (hR : mOk oS R) {I0 : ax_I} (I : ax_I) (x1 : Int32) (x2 : Int32) (x3 : Int32) (x4 : Int32) (x6 : Int32) (x7 : Int32) (y0 : Int32) (hI : low I0 I) : frG Prod.snd I0 (d_M_join_259 oS I R 210 x1 x2 x3 x4 x6 x7 y0) := by
  unfold d_M_join_259
  refine fr_ite ?_ ?_
  · skip
    refine fr_R hR (by decide) (fun u112 hu112 => ?_)
    refine fr_b (fun j116 => ?_)
    apply f_M_join_279 hR <;> first | assumption | omega
  · skip
    apply f_M_join_279 hR <;> first | assumption | omega
theorem f_M_join_239 {R : ax_R} (hR : mOk oS R) {I0 : ax_I} (I : ax_I) (x1 : Int32) (x2 : Int32) (x3 : Int32) (x4 : Int32) (x6 : Int32) (y0 : Int32) (hI : low I0 I) : frG Prod.snd I0 (d_M_join_239 oS I R 210 x1 x2 x3 x4 x6 y0) := by
  unfold d_M_join_239
  refine fr_ite ?_ ?_
  · skip
    refine fr_R hR (by decide) (fun u105 hu105 => ?_)
    refine fr_b (fun j109 => ?_)
    apply f_M_join_259 hR <;> first | assumption | omega
  · skip
    apply f_M_join_259 hR <;> first | assumption | omega
theorem f_M_join_222 {R : ax_R} (hR : mOk oS R) {I0 : ax_I} (I : ax_I) (x1 : Int32) (x2 : Int32) (x3 : Int32) (x4 : Int32) (y0 : Int32) (hI : low I0 I) : frG Prod.snd I0 (d_M_join_222 oS I R 210 x1 x2 x3 x4 y0) := by
  unfold d_M_join_222
  refine fr_ite ?_ ?_
  · skip
    refine fr_R hR (by decide) (fun u98 hu98 => ?_)
    refine fr_b (fun j102 => ?_)
    apply f_M_join_239 hR <;> first | assumption | omega
  · skip
    apply f_M_join_239 hR <;> first | assumption | omega
theorem f_M_join_196 {R : ax_R} (hR : mOk oS R) {I0 : ax_I} (I : ax_I) (x1 : Int32) (x2 : Int32) (x3 : Int32) (x4 : Int32) (y0 : Int32) (w1 : Nat) (hw1 : 210 ≤ w1) (hI : low I0 I) : frG Prod.snd I0 (d_M_join_196 oS I R 210 x1 x2 x3 x4 y0 w1) := by
  unfold d_M_join_196
  refine fr_set (by omega) (by assumption) (fun I87 hI87 => ?_)
  refine fr_ite ?_ ?_
  · skip
    refine fr_ite ?_ ?_
    · skip
      refine fr_R hR (by decide) (fun u91 hu91 => ?_)
      refine fr_b (fun j95 => ?_)
      apply f_M_join_222 hR <;> first | assumption | omega
    · skip
      apply f_M_join_222 hR <;> first | assumption | omega
  · skip
    exact fr_ret (by assumption)
theorem f_M_join_191 {R : ax_R} (hR : mOk oS R) {I0 : ax_I} (I : ax_I) (x1 : Int32) (x2 : Int32) (x3 : Int32) (x4 : Int32) (w0 : Nat) (hw0 : 210 ≤ w0) (hI : low I0 I) : frG Prod.snd I0 (d_M_join_191 oS I R 210 x1 x2 x3 x4 w0) := by
  unfold d_M_join_191
  apply f_M_join_196 hR <;> first | assumption | omega
theorem f_M_join_116 {R : ax_R} (hR : mOk oS R) {I0 : ax_I} (I : ax_I) (x1 : Int32) (x2 : Int32) (x3 : Int32) (x4 : Int32) (y0 : Int32) (hI : low I0 I) : frG Prod.snd I0 (d_M_join_116 oS I R 210 x1 x2 x3 x4 y0) := by
  unfold d_M_join_116
  refine fr_b (fun r57 => ?_)
  refine fr_ite ?_ ?_
  · skip
    apply f_M_join_196 hR <;> first | assumption | omega
  · skip
    refine fr_ite ?_ ?_
    · skip
      apply f_M_join_196 hR <;> first | assumption | omega
    · skip
      refine fr_ite ?_ ?_
      · skip
        apply f_M_join_191 hR <;> first | assumption | omega
      · skip
        refine fr_R hR (by decide) (fun u61 hu61 => ?_)
        refine fr_b (fun j65 => ?_)
        refine fr_R hR (by decide) (fun u67 hu67 => ?_)
        refine fr_b (fun j71 => ?_)
        refine fr_ite ?_ ?_
        · skip
          apply f_M_join_191 hR <;> first | assumption | omega
        · skip
          refine fr_R hR (by decide) (fun u74 hu74 => ?_)
          refine fr_b (fun j78 => ?_)
          refine fr_R hR (by decide) (fun u80 hu80 => ?_)
          refine fr_b (fun j84 => ?_)
          refine fr_ite ?_ ?_
          · skip
            apply f_M_join_196 hR <;> first | assumption | omega
          · skip
            apply f_M_join_191 hR <;> first | assumption | omega
theorem f_M_join_61 {R : ax_R} (hR : mOk oS R) {I0 : ax_I} (I : ax_I) (x1 : Int32) (x2 : Int32) (x3 : Int32) (y0 : Int32) (hI : low I0 I) : frG Prod.snd I0 (d_M_join_61 oS I R 210 x1 x2 x3 y0) := by
  unfold d_M_join_61
  refine fr_ite ?_ ?_
  · skip
    refine fr_R hR (by decide) (fun u29 hu29 => ?_)
    refine fr_b (fun j33 => ?_)
    refine fr_R hR (by decide) (fun u35 hu35 => ?_)
    refine fr_b (fun j39 => ?_)
    refine fr_ite ?_ ?_
    · skip
      apply f_M_join_116 hR <;> first | assumption | omega
    · skip
      apply f_M_join_116 hR <;> first | assumption | omega
  · skip
    refine fr_R hR (by decide) (fun u42 hu42 => ?_)
    refine fr_b (fun j46 => ?_)
    refine fr_R hR (by decide) (fun u48 hu48 => ?_)
    refine fr_b (fun j52 => ?_)
    refine fr_ite ?_ ?_
    · skip
      apply f_M_join_116 hR <;> first | assumption | omega
    · skip
      apply f_M_join_116 hR <;> first | assumption | omega
theorem f_M_join_21 {R : ax_R} (hR : mOk oS R) {I0 : ax_I} (I : ax_I) (x1 : Int32) (x2 : Int32) (y0 : Int32) (hI : low I0 I) : frG Prod.snd I0 (d_M_join_21 oS I R 210 x1 x2 y0) := by
  unfold d_M_join_21
  refine fr_ite ?_ ?_
  · skip
    refine fr_R hR (by decide) (fun u4 hu4 => ?_)
    refine fr_b (fun j8 => ?_)
    refine fr_R hR (by decide) (fun u10 hu10 => ?_)
    refine fr_b (fun j14 => ?_)
    apply f_M_join_61 hR <;> first | assumption | omega
  · skip
    refine fr_R hR (by decide) (fun u16 hu16 => ?_)
    refine fr_b (fun j20 => ?_)
    refine fr_R hR (by decide) (fun u22 hu22 => ?_)
    refine fr_b (fun j26 => ?_)
    apply f_M_join_61 hR <;> first | assumption | omega
theorem f_M_join_16 {R : ax_R} (hR : mOk oS R) {I0 : ax_I} (I : ax_I) (x1 : Int32) (x2 : Int32) (hI : low I0 I) : frG Prod.snd I0 (d_M_join_16 oS I R 210 x1 x2) := by
  unfold d_M_join_16
  apply f_M_join_21 hR <;> first | assumption | omega
theorem f_M_join {R : ax_R} (hR : mOk oS R) {I0 : ax_I} (I : ax_I) (x1 : Int32) (hI : low I0 I) : frG Prod.snd I0 (d_M_join oS I R 210 x1) := by
  unfold d_M_join
  refine fr_ite ?_ ?_
  · skip
    apply f_M_join_16 hR <;> first | assumption | omega
  · skip
    refine fr_ite ?_ ?_
    · skip
      apply f_M_join_16 hR <;> first | assumption | omega
    · skip
      apply f_M_join_21 hR <;> first | assumption | omega
theorem f_M_noteAt_25 {R : ax_R} (hR : mOk oS R) {I0 : ax_I} (I : ax_I) (x1 : Int32) (x2 : Int32) (y0 : Int32) (w1 : Nat) (hw1 : 210 ≤ w1) (hI : low I0 I) : frG Prod.snd I0 (d_M_noteAt_25 oS I R 210 x1 x2 y0 w1) := by
  unfold d_M_noteAt_25
  refine fr_set (by omega) (by assumption) (fun I11 hI11 => ?_)
  refine fr_ite ?_ ?_
  · skip
    refine fr_ite ?_ ?_
    · skip
      refine fr_R hR (by decide) (fun u29 hu29 => ?_)
      refine fr_b (fun j33 => ?_)
      exact fr_ret (by assumption)
    · skip
      refine fr_ite ?_ ?_
      · skip
        refine fr_R hR (by decide) (fun u23 hu23 => ?_)
        refine fr_b (fun j27 => ?_)
        exact fr_ret (by assumption)
      · skip
        refine fr_ite ?_ ?_
        · skip
          refine fr_R hR (by decide) (fun u17 hu17 => ?_)
          refine fr_b (fun j21 => ?_)
          exact fr_ret (by assumption)
        · skip
          exact fr_ret (by assumption)
  · skip
    exact fr_ret (by assumption)
theorem f_M_noteAt {R : ax_R} (hR : mOk oS R) {I0 : ax_I} (I : ax_I) (x1 : Int32) (x2 : Int32) (hI : low I0 I) : frG Prod.snd I0 (d_M_noteAt oS I R 210 x1 x2) := by
  unfold d_M_noteAt
  refine fr_R hR (by decide) (fun u1 hu1 => ?_)
  refine fr_b (fun j5 => ?_)
  refine fr_b (fun r9 => ?_)
  refine fr_ite ?_ ?_
  · skip
    apply f_M_noteAt_25 hR <;> first | assumption | omega
  · skip
    apply f_M_noteAt_25 hR <;> first | assumption | omega
theorem f_M_tellTwo {R : ax_R} (hR : mOk oS R) {I0 : ax_I} (I : ax_I) (x1 : Int32) (hI : low I0 I) : frG id I0 (d_M_tellTwo oS I R 210 x1) := by
  unfold d_M_tellTwo
  refine fr_cI (pr := id) ?_ (fun I3 hI3 => ?_)
  · apply f_M_tell hR <;> first | assumption | omega
  refine fr_cI (pr := id) ?_ (fun I6 hI6 => ?_)
  · apply f_M_tell hR <;> first | assumption | omega
  exact fr_retI (by assumption)
theorem f_M_streamAt_20 {R : ax_R} (hR : mOk oS R) {I0 : ax_I} (I : ax_I) (x1 : Int32) (y0 : Int32) (w1 : Nat) (hw1 : 210 ≤ w1) (hI : low I0 I) : frG Prod.snd I0 (d_M_streamAt_20 oS I R 210 x1 y0 w1) := by
  unfold d_M_streamAt_20
  refine fr_set (by omega) (by assumption) (fun I5 hI5 => ?_)
  refine fr_ite ?_ ?_
  · skip
    refine fr_R hR (by decide) (fun u8 hu8 => ?_)
    refine fr_b (fun j12 => ?_)
    exact fr_ret (by assumption)
  · skip
    exact fr_ret (by assumption)
theorem f_M_streamAt {R : ax_R} (hR : mOk oS R) {I0 : ax_I} (I : ax_I) (x1 : Int32) (hI : low I0 I) : frG Prod.snd I0 (d_M_streamAt oS I R 210 x1) := by
  unfold d_M_streamAt
  refine fr_b (fun r3 => ?_)
  refine fr_ite ?_ ?_
  · skip
    apply f_M_streamAt_20 hR <;> first | assumption | omega
  · skip
    apply f_M_streamAt_20 hR <;> first | assumption | omega
theorem f_M_byteOf_48 {R : ax_R} (hR : mOk oS R) {I0 : ax_I} (I : ax_I) (x1 : Int32) (x2 : Int32) (y0 : Int32) (w1 : Nat) (hw1 : 210 ≤ w1) (hI : low I0 I) : frG Prod.snd I0 (d_M_byteOf_48 oS I R 210 x1 x2 y0 w1) := by
  unfold d_M_byteOf_48
  refine fr_set (by omega) (by assumption) (fun I19 hI19 => ?_)
  refine fr_ite ?_ ?_
  · skip
    refine fr_b (fun r24 => ?_)
    refine fr_R hR (by decide) (fun u25 hu25 => ?_)
    refine fr_R hR (by decide) (fun u29 hu29 => ?_)
    refine fr_b (fun j33 => ?_)
    refine fr_b (fun j35 => ?_)
    refine fr_set (by omega) (by assumption) (fun I37 hI37 => ?_)
    refine fr_R hR (by decide) (fun u39 hu39 => ?_)
    refine fr_b (fun j43 => ?_)
    refine fr_b (fun j45 => ?_)
    refine fr_set (by omega) (by assumption) (fun I47 hI47 => ?_)
    refine fr_R hR (by decide) (fun u49 hu49 => ?_)
    refine fr_b (fun j53 => ?_)
    exact fr_ret (by assumption)
  · skip
    exact fr_ret (by assumption)
theorem f_M_byteOf {R : ax_R} (hR : mOk oS R) {I0 : ax_I} (I : ax_I) (x1 : Int32) (x2 : Int32) (hI : low I0 I) : frG Prod.snd I0 (d_M_byteOf oS I R 210 x1 x2) := by
  unfold d_M_byteOf
  refine fr_b (fun r3 => ?_)
  refine fr_ite ?_ ?_
  · skip
    apply f_M_byteOf_48 hR <;> first | assumption | omega
  · skip
    refine fr_b (fun r7 => ?_)
    refine fr_ite ?_ ?_
    · skip
      apply f_M_byteOf_48 hR <;> first | assumption | omega
    · skip
      refine fr_R hR (by decide) (fun u9 hu9 => ?_)
      refine fr_b (fun r15 => ?_)
      refine fr_b (fun j16 => ?_)
      refine fr_ite ?_ ?_
      · skip
        apply f_M_byteOf_48 hR <;> first | assumption | omega
      · skip
        apply f_M_byteOf_48 hR <;> first | assumption | omega
theorem f_M_note_48 {R : ax_R} (hR : mOk oS R) {I0 : ax_I} (I : ax_I) (x1 : Int32) (x2 : Int32) (x3 : Int32) (y0 : Int32) (w1 : Nat) (hw1 : 210 ≤ w1) (hI : low I0 I) : frG Prod.snd I0 (d_M_note_48 oS I R 210 x1 x2 x3 y0 w1) := by
  unfold d_M_note_48
  refine fr_set (by omega) (by assumption) (fun I16 hI16 => ?_)
  refine fr_ite ?_ ?_
  · skip
    refine fr_R hR (by decide) (fun u19 hu19 => ?_)
    refine fr_b (fun j23 => ?_)
    refine fr_R hR (by decide) (fun u25 hu25 => ?_)
    refine fr_b (fun j29 => ?_)
    refine fr_set (by omega) (by assumption) (fun I31 hI31 => ?_)
    refine fr_R hR (by decide) (fun u33 hu33 => ?_)
    refine fr_b (fun j37 => ?_)
    refine fr_set (by omega) (by assumption) (fun I39 hI39 => ?_)
    refine fr_R hR (by decide) (fun u41 hu41 => ?_)
    refine fr_b (fun j45 => ?_)
    refine fr_set (by omega) (by assumption) (fun I47 hI47 => ?_)
    refine fr_R hR (by decide) (fun u49 hu49 => ?_)
    refine fr_b (fun j53 => ?_)
    refine fr_b (fun j55 => ?_)
    refine fr_set (by omega) (by assumption) (fun I57 hI57 => ?_)
    refine fr_R hR (by decide) (fun u59 hu59 => ?_)
    refine fr_b (fun j63 => ?_)
    exact fr_ret (by assumption)
  · skip
    exact fr_ret (by assumption)
theorem f_M_note {R : ax_R} (hR : mOk oS R) {I0 : ax_I} (I : ax_I) (x1 : Int32) (x2 : Int32) (x3 : Int32) (hI : low I0 I) : frG Prod.snd I0 (d_M_note oS I R 210 x1 x2 x3) := by
  unfold d_M_note
  refine fr_b (fun r3 => ?_)
  refine fr_ite ?_ ?_
  · skip
    apply f_M_note_48 hR <;> first | assumption | omega
  · skip
    refine fr_b (fun r7 => ?_)
    refine fr_ite ?_ ?_
    · skip
      apply f_M_note_48 hR <;> first | assumption | omega
    · skip
      refine fr_R hR (by decide) (fun u9 hu9 => ?_)
      refine fr_b (fun j13 => ?_)
      refine fr_ite ?_ ?_
      · skip
        apply f_M_note_48 hR <;> first | assumption | omega
      · skip
        apply f_M_note_48 hR <;> first | assumption | omega
theorem f_M_turn_422 {R : ax_R} (hR : mOk oS R) {I0 : ax_I} (I : ax_I) (x1 : Int32) (y0 : Int32) (y1 : Int32) (w2 : Nat) (hw2 : 210 ≤ w2) (hI : low I0 I) : frG Prod.snd I0 (d_M_turn_422 oS I R 210 x1 y0 y1 w2) := by
  unfold d_M_turn_422
  refine fr_b (fun j207 => ?_)
  refine fr_set (by omega) (by assumption) (fun I209 hI209 => ?_)
  refine fr_b (fun r213 => ?_)
  refine fr_set (by omega) (by assumption) (fun I214 hI214 => ?_)
  refine fr_set (by omega) (by assumption) (fun I216 hI216 => ?_)
  exact fr_ret (by assumption)
theorem f_M_turn_401 {R : ax_R} (hR : mOk oS R) {I0 : ax_I} (I : ax_I) (x1 : Int32) (x2 : Int32) (x3 : Int32) (y0 : Int32) (y1 : Int32) (w2 : Nat) (hw2 : 210 ≤ w2) (hI : low I0 I) : frG Prod.snd I0 (d_M_turn_401 oS I R 210 x1 x2 x3 y0 y1 w2) := by
  unfold d_M_turn_401
  refine fr_b (fun j195 => ?_)
  refine fr_set (by omega) (by assumption) (fun I197 hI197 => ?_)
  refine fr_R hR (by decide) (fun u199 hu199 => ?_)
  refine fr_b (fun r205 => ?_)
  refine fr_ite ?_ ?_
  · skip
    apply f_M_turn_422 hR <;> first | assumption | omega
  · skip
    apply f_M_turn_422 hR <;> first | assumption | omega
theorem f_M_turn_305 {R : ax_R} (hR : mOk oS R) {I0 : ax_I} : ∀ (n : Nat) (I : ax_I) (x1 x2 x3 x4 : Int32), low I0 I → frG Prod.snd I0 (d_M_turn_305 oS n I R 210 x1 x2 x3 x4) := by
  intro n
  induction n with
  | zero => intros; exact fr_none
  | succ n ih =>
    intro I x1 x2 x3 x4 hI
    rw [d_M_turn_305]
    refine fr_R hR (by decide) (fun u149 hu149 => ?_)
    refine fr_b (fun j153 => ?_)
    refine fr_ite ?_ ?_
    · skip
      refine fr_R hR (by decide) (fun u156 hu156 => ?_)
      refine fr_b (fun r162 => ?_)
      refine fr_ite ?_ ?_
      · skip
        apply f_M_turn_401 hR <;> first | assumption | omega
      · skip
        apply f_M_turn_401 hR <;> first | assumption | omega
    · skip
      refine fr_R hR (by decide) (fun u164 hu164 => ?_)
      refine fr_b (fun j168 => ?_)
      refine fr_R hR (by decide) (fun u170 hu170 => ?_)
      refine fr_b (fun j174 => ?_)
      refine fr_b (fun r178 => ?_)
      refine fr_R hR (by decide) (fun u179 hu179 => ?_)
      refine fr_b (fun j183 => ?_)
      refine fr_set (by omega) (by assumption) (fun I185 hI185 => ?_)
      refine fr_R hR (by decide) (fun u187 hu187 => ?_)
      refine fr_b (fun j191 => ?_)
      refine fr_set (by omega) (by assumption) (fun I193 hI193 => ?_)
      apply ih <;> assumption
theorem f_M_turn_271 {R : ax_R} (hR : mOk oS R) {I0 : ax_I} (rec51 : ax_I → ax_R → Nat → Int32 → Int32 → Int32 → Int32 → Option (Int32 × ax_I)) (hrec51 : ∀ (I : ax_I) (z0 z1 z2 z3 : Int32), low I0 I → frG Prod.snd I0 (rec51 I R 210 z0 z1 z2 z3)) (I : ax_I) (x1 : Int32) (x2 : Int32) (x3 : Int32) (x4 : Int32) (x5 : Int32) (y0 : Int32) (y1 : Int32) (w2 : Nat) (hw2 : 210 ≤ w2) (hI : low I0 I) : frG Prod.snd I0 (d_M_turn_271 oS rec51 I R 210 x1 x2 x3 x4 x5 y0 y1 w2) := by
  unfold d_M_turn_271
  refine fr_b (fun j128 => ?_)
  refine fr_set (by omega) (by assumption) (fun I130 hI130 => ?_)
  refine fr_R hR (by decide) (fun u132 hu132 => ?_)
  refine fr_R hR (by decide) (fun u136 hu136 => ?_)
  refine fr_b (fun j140 => ?_)
  refine fr_b (fun r144 => ?_)
  refine fr_b (fun j145 => ?_)
  refine fr_set (by omega) (by assumption) (fun I147 hI147 => ?_)
  apply hrec51 <;> assumption
theorem f_M_turn_245 {R : ax_R} (hR : mOk oS R) {I0 : ax_I} (rec51 : ax_I → ax_R → Nat → Int32 → Int32 → Int32 → Int32 → Option (Int32 × ax_I)) (hrec51 : ∀ (I : ax_I) (z0 z1 z2 z3 : Int32), low I0 I → frG Prod.snd I0 (rec51 I R 210 z0 z1 z2 z3)) (I : ax_I) (x1 : Int32) (x2 : Int32) (x3 : Int32) (x4 : Int32) (x5 : Int32) (x8 : Int32) (y0 : Int32) (y1 : Int32) (w2 : Nat) (hw2 : 210 ≤ w2) (hI : low I0 I) : frG Prod.snd I0 (d_M_turn_245 oS rec51 I R 210 x1 x2 x3 x4 x5 x8 y0 y1 w2) := by
  unfold d_M_turn_245
  refine fr_b (fun j110 => ?_)
  refine fr_set (by omega) (by assumption) (fun I112 hI112 => ?_)
  refine fr_R hR (by decide) (fun u114 hu114 => ?_)
  refine fr_b (fun r120 => ?_)
  refine fr_ite ?_ ?_
  · skip
    refine fr_R hR (by decide) (fun u122 hu122 => ?_)
    refine fr_b (fun j126 => ?_)
    apply f_M_turn_271 hR <;> first | assumption | omega
  · skip
    apply f_M_turn_271 hR <;> first | assumption | omega
theorem f_M_turn_210 {R : ax_R} (hR : mOk oS R) {I0 : ax_I} (rec51 : ax_I → ax_R → Nat → Int32 → Int32 → Int32 → Int32 → Option (Int32 × ax_I)) (hrec51 : ∀ (I : ax_I) (z0 z1 z2 z3 : Int32), low I0 I → frG Prod.snd I0 (rec51 I R 210 z0 z1 z2 z3)) (I : ax_I) (x1 : Int32) (x2 : Int32) (x3 : Int32) (x4 : Int32) (x5 : Int32) (y0 : Int32) (y1 : Int32) (w2 : Nat) (hw2 : 210 ≤ w2) (hI : low I0 I) : frG Prod.snd I0 (d_M_turn_210 oS rec51 I R 210 x1 x2 x3 x4 x5 y0 y1 w2) := by
  unfold d_M_turn_210
  refine fr_b (fun j86 => ?_)
  refine fr_set (by omega) (by assumption) (fun I88 hI88 => ?_)
  refine fr_R hR (by decide) (fun u90 hu90 => ?_)
  refine fr_b (fun j94 => ?_)
  refine fr_R hR (by decide) (fun u96 hu96 => ?_)
  refine fr_b (fun r102 => ?_)
  refine fr_ite ?_ ?_
  · skip
    apply f_M_turn_245 hR <;> first | assumption | omega
  · skip
    refine fr_R hR (by decide) (fun u104 hu104 => ?_)
    refine fr_b (fun j108 => ?_)
    apply f_M_turn_245 hR <;> first | assumption | omega
theorem f_M_turn_173 {R : ax_R} (hR : mOk oS R) {I0 : ax_I} (rec51 : ax_I → ax_R → Nat → Int32 → Int32 → Int32 → Int32 → Option (Int32 × ax_I)) (hrec51 : ∀ (I : ax_I) (z0 z1 z2 z3 : Int32), low I0 I → frG Prod.snd I0 (rec51 I R 210 z0 z1 z2 z3)) (I : ax_I) (x1 : Int32) (x2 : Int32) (x3 : Int32) (x4 : Int32) (x5 : Int32) (x6 : Int32) (x7 : Int32) (y0 : Int32) (y1 : Int32) (w2 : Nat) (hw2 : 210 ≤ w2) (hI : low I0 I) : frG Prod.snd I0 (d_M_turn_173 oS rec51 I R 210 x1 x2 x3 x4 x5 x6 x7 y0 y1 w2) := by
  unfold d_M_turn_173
  refine fr_b (fun j77 => ?_)
  refine fr_set (by omega) (by assumption) (fun I79 hI79 => ?_)
  refine fr_R hR (by decide) (fun u81 hu81 => ?_)
  refine fr_ite ?_ ?_
  · skip
    apply f_M_turn_210 hR <;> first | assumption | omega
  · skip
    apply f_M_turn_210 hR <;> first | assumption | omega
theorem f_M_turn_51 {R : ax_R} (hR : mOk oS R) {I0 : ax_I} : ∀ (n : Nat) (I : ax_I) (x1 x2 x3 x4 : Int32), low I0 I → frG Prod.snd I0 (d_M_turn_51 oS n I R 210 x1 x2 x3 x4) := by
  intro n
  induction n with
  | zero => intros; exact fr_none
  | succ n ih =>
    intro I x1 x2 x3 x4 hI
    rw [d_M_turn_51]
    refine fr_R hR (by decide) (fun u20 hu20 => ?_)
    refine fr_b (fun j24 => ?_)
    refine fr_ite ?_ ?_
    · skip
      apply f_M_turn_305 hR <;> first | assumption | omega
    · skip
      refine fr_b (fun r29 => ?_)
      refine fr_R hR (by decide) (fun u30 hu30 => ?_)
      refine fr_b (fun j34 => ?_)
      refine fr_R hR (by decide) (fun u36 hu36 => ?_)
      refine fr_b (fun j40 => ?_)
      refine fr_b (fun r44 => ?_)
      refine fr_R hR (by decide) (fun u45 hu45 => ?_)
      refine fr_b (fun j49 => ?_)
      refine fr_R hR (by decide) (fun u51 hu51 => ?_)
      refine fr_b (fun j55 => ?_)
      refine fr_R hR (by decide) (fun u57 hu57 => ?_)
      refine fr_b (fun j61 => ?_)
      refine fr_R hR (by decide) (fun u63 hu63 => ?_)
      refine fr_b (fun j67 => ?_)
      refine fr_b (fun r71 => ?_)
      refine fr_R hR (by decide) (fun u72 hu72 => ?_)
      refine fr_ite ?_ ?_
      · skip
        apply f_M_turn_173 hR <;> first | assumption | omega
      · skip
        apply f_M_turn_173 hR <;> first | assumption | omega
theorem f_M_turn_16 {R : ax_R} (hR : mOk oS R) {I0 : ax_I} (I : ax_I) (x1 : Int32) (y0 : Int32) (w1 : Nat) (hw1 : 210 ≤ w1) (hI : low I0 I) : frG Prod.snd I0 (d_M_turn_16 oS I R 210 x1 y0 w1) := by
  unfold d_M_turn_16
  refine fr_set (by omega) (by assumption) (fun I5 hI5 => ?_)
  refine fr_ite ?_ ?_
  · skip
    refine fr_R hR (by decide) (fun u8 hu8 => ?_)
    refine fr_b (fun j12 => ?_)
    refine fr_R hR (by decide) (fun u14 hu14 => ?_)
    refine fr_b (fun j18 => ?_)
    apply f_M_turn_51 hR <;> first | assumption | omega
  · skip
    exact fr_ret (by assumption)
theorem f_M_turn {R : ax_R} (hR : mOk oS R) {I0 : ax_I} (I : ax_I) (x1 : Int32) (hI : low I0 I) : frG Prod.snd I0 (d_M_turn oS I R 210 x1) := by
  unfold d_M_turn
  refine fr_b (fun r3 => ?_)
  refine fr_ite ?_ ?_
  · skip
    apply f_M_turn_16 hR <;> first | assumption | omega
  · skip
    apply f_M_turn_16 hR <;> first | assumption | omega
theorem f_M_at_14 {R : ax_R} (hR : mOk oS R) {I0 : ax_I} (I : ax_I) (x1 : Int32) (x2 : Int32) (y0 : Int32) (w1 : Nat) (hw1 : 210 ≤ w1) (hI : low I0 I) : frG Prod.snd I0 (d_M_at_14 oS I R 210 x1 x2 y0 w1) := by
  unfold d_M_at_14
  refine fr_set (by omega) (by assumption) (fun I5 hI5 => ?_)
  refine fr_ite ?_ ?_
  · skip
    refine fr_b (fun r10 => ?_)
    refine fr_R hR (by decide) (fun u11 hu11 => ?_)
    refine fr_b (fun j15 => ?_)
    refine fr_b (fun r19 => ?_)
    refine fr_ite ?_ ?_
    · skip
      refine fr_R hR (by decide) (fun u21 hu21 => ?_)
      refine fr_b (fun j25 => ?_)
      exact fr_ret (by assumption)
    · skip
      refine fr_ite ?_ ?_
      · skip
        refine fr_R hR (by decide) (fun u28 hu28 => ?_)
        refine fr_b (fun j32 => ?_)
        exact fr_ret (by assumption)
      · skip
        refine fr_ite ?_ ?_
        · skip
          refine fr_R hR (by decide) (fun u35 hu35 => ?_)
          refine fr_b (fun j39 => ?_)
          exact fr_ret (by assumption)
        · skip
          refine fr_ite ?_ ?_
          · skip
            refine fr_R hR (by decide) (fun u42 hu42 => ?_)
            refine fr_b (fun j46 => ?_)
            exact fr_ret (by assumption)
          · skip
            refine fr_ite ?_ ?_
            · skip
              refine fr_R hR (by decide) (fun u49 hu49 => ?_)
              refine fr_b (fun j53 => ?_)
              exact fr_ret (by assumption)
            · skip
              refine fr_ite ?_ ?_
              · skip
                refine fr_R hR (by decide) (fun u56 hu56 => ?_)
                refine fr_b (fun j60 => ?_)
                exact fr_ret (by assumption)
              · skip
                refine fr_ite ?_ ?_
                · skip
                  refine fr_ite ?_ ?_
                  · skip
                    refine fr_R hR (by decide) (fun u64 hu64 => ?_)
                    refine fr_b (fun j68 => ?_)
                    exact fr_ret (by assumption)
                  · skip
                    refine fr_R hR (by decide) (fun u70 hu70 => ?_)
                    refine fr_b (fun j74 => ?_)
                    exact fr_ret (by assumption)
                · skip
                  refine fr_ite ?_ ?_
                  · skip
                    refine fr_ite ?_ ?_
                    · skip
                      refine fr_R hR (by decide) (fun u78 hu78 => ?_)
                      refine fr_b (fun j82 => ?_)
                      exact fr_ret (by assumption)
                    · skip
                      refine fr_R hR (by decide) (fun u84 hu84 => ?_)
                      refine fr_b (fun j88 => ?_)
                      exact fr_ret (by assumption)
                  · skip
                    exact fr_ret (by assumption)
  · skip
    exact fr_ret (by assumption)
theorem f_M_at {R : ax_R} (hR : mOk oS R) {I0 : ax_I} (I : ax_I) (x1 : Int32) (x2 : Int32) (hI : low I0 I) : frG Prod.snd I0 (d_M_at oS I R 210 x1 x2) := by
  unfold d_M_at
  refine fr_b (fun r3 => ?_)
  refine fr_ite ?_ ?_
  · skip
    apply f_M_at_14 hR <;> first | assumption | omega
  · skip
    apply f_M_at_14 hR <;> first | assumption | omega
theorem f_M_byteAt_34 {R : ax_R} (hR : mOk oS R) {I0 : ax_I} (I : ax_I) (x1 : Int32) (x2 : Int32) (y0 : Int32) (w1 : Nat) (hw1 : 210 ≤ w1) (hI : low I0 I) : frG Prod.snd I0 (d_M_byteAt_34 oS I R 210 x1 x2 y0 w1) := by
  unfold d_M_byteAt_34
  refine fr_set (by omega) (by assumption) (fun I18 hI18 => ?_)
  refine fr_ite ?_ ?_
  · skip
    refine fr_R hR (by decide) (fun u21 hu21 => ?_)
    refine fr_b (fun r27 => ?_)
    refine fr_b (fun j28 => ?_)
    exact fr_ret (by assumption)
  · skip
    exact fr_ret (by assumption)
theorem f_M_byteAt_29 {R : ax_R} (hR : mOk oS R) {I0 : ax_I} (I : ax_I) (x1 : Int32) (x2 : Int32) (w0 : Nat) (hw0 : 210 ≤ w0) (hI : low I0 I) : frG Prod.snd I0 (d_M_byteAt_29 oS I R 210 x1 x2 w0) := by
  unfold d_M_byteAt_29
  apply f_M_byteAt_34 hR <;> first | assumption | omega
theorem f_M_byteAt {R : ax_R} (hR : mOk oS R) {I0 : ax_I} (I : ax_I) (x1 : Int32) (x2 : Int32) (hI : low I0 I) : frG Prod.snd I0 (d_M_byteAt oS I R 210 x1 x2) := by
  unfold d_M_byteAt
  refine fr_b (fun r3 => ?_)
  refine fr_ite ?_ ?_
  · skip
    apply f_M_byteAt_29 hR <;> first | assumption | omega
  · skip
    refine fr_R hR (by decide) (fun u5 hu5 => ?_)
    refine fr_b (fun r11 => ?_)
    refine fr_b (fun j12 => ?_)
    refine fr_b (fun r16 => ?_)
    refine fr_ite ?_ ?_
    · skip
      apply f_M_byteAt_29 hR <;> first | assumption | omega
    · skip
      apply f_M_byteAt_34 hR <;> first | assumption | omega
theorem f_M_shown_218 {R : ax_R} (hR : mOk oS R) {I0 : ax_I} (I : ax_I) (hI : low I0 I) : frG Prod.snd I0 (d_M_shown_218 oS I R 210 ) := by
  unfold d_M_shown_218
  refine fr_ite ?_ ?_
  · skip
    exact fr_ret (by assumption)
  · skip
    exact fr_ret (by assumption)
theorem f_M_shown_212 {R : ax_R} (hR : mOk oS R) {I0 : ax_I} (rec20 : ax_I → ax_R → Nat → Int32 → Int32 → Int32 → Option (Int32 × ax_I)) (hrec20 : ∀ (I : ax_I) (z0 z1 z2 : Int32), low I0 I → frG Prod.snd I0 (rec20 I R 210 z0 z1 z2)) (I : ax_I) (x1 : Int32) (x2 : Int32) (x3 : Int32) (hI : low I0 I) : frG Prod.snd I0 (d_M_shown_212 oS rec20 I R 210 x1 x2 x3) := by
  unfold d_M_shown_212
  apply hrec20 <;> assumption
theorem f_M_shown_171 {R : ax_R} (hR : mOk oS R) {I0 : ax_I} (I : ax_I) (x1 : Int32) (x2 : Int32) (x3 : Int32) (x4 : Int32) (x5 : Int32) (y0 : Int32) (hI : low I0 I) : frG Prod.snd I0 (d_M_shown_171 oS I R 210 x1 x2 x3 x4 x5 y0) := by
  unfold d_M_shown_171
  refine fr_R hR (by decide) (fun u106 hu106 => ?_)
  refine fr_b (fun j110 => ?_)
  refine fr_R hR (by decide) (fun u112 hu112 => ?_)
  refine fr_b (fun j116 => ?_)
  refine fr_R hR (by decide) (fun u118 hu118 => ?_)
  refine fr_b (fun j122 => ?_)
  refine fr_b (fun r126 => ?_)
  exact fr_ret (by assumption)
theorem f_M_shown_139 {R : ax_R} (hR : mOk oS R) {I0 : ax_I} (I : ax_I) (x1 : Int32) (x2 : Int32) (x3 : Int32) (x4 : Int32) (y0 : Int32) (hI : low I0 I) : frG Prod.snd I0 (d_M_shown_139 oS I R 210 x1 x2 x3 x4 y0) := by
  unfold d_M_shown_139
  refine fr_R hR (by decide) (fun u84 hu84 => ?_)
  refine fr_b (fun j88 => ?_)
  refine fr_b (fun r92 => ?_)
  refine fr_ite ?_ ?_
  · skip
    refine fr_R hR (by decide) (fun u94 hu94 => ?_)
    refine fr_b (fun j98 => ?_)
    apply f_M_shown_171 hR <;> first | assumption | omega
  · skip
    refine fr_R hR (by decide) (fun u100 hu100 => ?_)
    refine fr_b (fun j104 => ?_)
    apply f_M_shown_171 hR <;> first | assumption | omega
theorem f_M_shown_20 {R : ax_R} (hR : mOk oS R) {I0 : ax_I} : ∀ (n : Nat) (I : ax_I) (x1 x2 x3 : Int32), low I0 I → frG Prod.snd I0 (d_M_shown_20 oS n I R 210 x1 x2 x3) := by
  intro n
  induction n with
  | zero => intros; exact fr_none
  | succ n ih =>
    intro I x1 x2 x3 hI
    rw [d_M_shown_20]
    refine fr_R hR (by decide) (fun u7 hu7 => ?_)
    refine fr_b (fun j11 => ?_)
    refine fr_ite ?_ ?_
    · skip
      apply f_M_shown_218 hR <;> first | assumption | omega
    · skip
      refine fr_ite ?_ ?_
      · skip
        refine fr_b (fun r17 => ?_)
        refine fr_R hR (by decide) (fun u18 hu18 => ?_)
        refine fr_b (fun j22 => ?_)
        refine fr_R hR (by decide) (fun u24 hu24 => ?_)
        refine fr_b (fun j28 => ?_)
        refine fr_R hR (by decide) (fun u30 hu30 => ?_)
        refine fr_b (fun j34 => ?_)
        refine fr_b (fun r38 => ?_)
        refine fr_ite ?_ ?_
        · skip
          apply f_M_shown_212 hR <;> first | assumption | omega
        · skip
          refine fr_R hR (by decide) (fun u40 hu40 => ?_)
          refine fr_b (fun j44 => ?_)
          refine fr_R hR (by decide) (fun u46 hu46 => ?_)
          refine fr_b (fun j50 => ?_)
          refine fr_R hR (by decide) (fun u52 hu52 => ?_)
          refine fr_b (fun j56 => ?_)
          refine fr_b (fun r60 => ?_)
          refine fr_ite ?_ ?_
          · skip
            apply f_M_shown_212 hR <;> first | assumption | omega
          · skip
            refine fr_R hR (by decide) (fun u62 hu62 => ?_)
            refine fr_b (fun j66 => ?_)
            refine fr_b (fun r70 => ?_)
            refine fr_ite ?_ ?_
            · skip
              refine fr_R hR (by decide) (fun u72 hu72 => ?_)
              refine fr_b (fun j76 => ?_)
              apply f_M_shown_139 hR <;> first | assumption | omega
            · skip
              refine fr_R hR (by decide) (fun u78 hu78 => ?_)
              refine fr_b (fun j82 => ?_)
              apply f_M_shown_139 hR <;> first | assumption | omega
      · skip
        apply f_M_shown_218 hR <;> first | assumption | omega
theorem f_M_shown_15 {R : ax_R} (hR : mOk oS R) {I0 : ax_I} (I : ax_I) (x1 : Int32) (x2 : Int32) (y0 : Int32) (w1 : Nat) (hw1 : 210 ≤ w1) (hI : low I0 I) : frG Prod.snd I0 (d_M_shown_15 oS I R 210 x1 x2 y0 w1) := by
  unfold d_M_shown_15
  refine fr_set (by omega) (by assumption) (fun I5 hI5 => ?_)
  apply f_M_shown_20 hR <;> first | assumption | omega
theorem f_M_shown {R : ax_R} (hR : mOk oS R) {I0 : ax_I} (I : ax_I) (x1 : Int32) (x2 : Int32) (hI : low I0 I) : frG Prod.snd I0 (d_M_shown oS I R 210 x1 x2) := by
  unfold d_M_shown
  refine fr_b (fun r3 => ?_)
  refine fr_ite ?_ ?_
  · skip
    apply f_M_shown_15 hR <;> first | assumption | omega
  · skip
    apply f_M_shown_15 hR <;> first | assumption | omega
theorem f_M_pointer_14 {R : ax_R} (hR : mOk oS R) {I0 : ax_I} (I : ax_I) (x1 : Int32) (y0 : Int32) (w1 : Nat) (hw1 : 210 ≤ w1) (hI : low I0 I) : frG Prod.snd I0 (d_M_pointer_14 oS I R 210 x1 y0 w1) := by
  unfold d_M_pointer_14
  refine fr_set (by omega) (by assumption) (fun I5 hI5 => ?_)
  refine fr_ite ?_ ?_
  · skip
    refine fr_b (fun r10 => ?_)
    exact fr_ret (by assumption)
  · skip
    exact fr_ret (by assumption)
theorem f_M_pointer {R : ax_R} (hR : mOk oS R) {I0 : ax_I} (I : ax_I) (x1 : Int32) (hI : low I0 I) : frG Prod.snd I0 (d_M_pointer oS I R 210 x1) := by
  unfold d_M_pointer
  refine fr_b (fun r3 => ?_)
  refine fr_ite ?_ ?_
  · skip
    apply f_M_pointer_14 hR <;> first | assumption | omega
  · skip
    apply f_M_pointer_14 hR <;> first | assumption | omega
theorem f_M_tellPart_103 {R : ax_R} (hR : mOk oS R) {I0 : ax_I} : ∀ (n : Nat) (I : ax_I) (x3 x4 : Int32), low I0 I → frG id I0 (d_M_tellPart_103 oS n I R 210 x3 x4) := by
  intro n
  induction n with
  | zero => intros; exact fr_none
  | succ n ih =>
    intro I x3 x4 hI
    rw [d_M_tellPart_103]
    refine fr_ite ?_ ?_
    · skip
      refine fr_cI (pr := id) ?_ (fun I74 hI74 => ?_)
      · apply f_M_tellTwo hR <;> first | assumption | omega
      exact fr_retI (by assumption)
    · skip
      refine fr_R hR (by decide) (fun u75 hu75 => ?_)
      refine fr_b (fun j79 => ?_)
      apply ih <;> assumption
theorem f_M_tellPart_67 {R : ax_R} (hR : mOk oS R) {I0 : ax_I} : ∀ (n : Nat) (I : ax_I) (x1 x2 x3 : Int32), low I0 I → frG id I0 (d_M_tellPart_67 oS n I R 210 x1 x2 x3) := by
  intro n
  induction n with
  | zero => intros; exact fr_none
  | succ n ih =>
    intro I x1 x2 x3 hI
    rw [d_M_tellPart_67]
    refine fr_R hR (by decide) (fun u55 hu55 => ?_)
    refine fr_b (fun j59 => ?_)
    refine fr_ite ?_ ?_
    · skip
      apply f_M_tellPart_103 hR <;> first | assumption | omega
    · skip
      refine fr_R hR (by decide) (fun u62 hu62 => ?_)
      refine fr_b (fun j66 => ?_)
      refine fr_cI (pr := id) ?_ (fun I70 hI70 => ?_)
      · apply f_M_tell hR <;> first | assumption | omega
      apply ih <;> assumption
theorem f_M_tellPart {R : ax_R} (hR : mOk oS R) {I0 : ax_I} (I : ax_I) (x1 : Int32) (hI : low I0 I) : frG id I0 (d_M_tellPart oS I R 210 x1) := by
  unfold d_M_tellPart
  refine fr_R hR (by decide) (fun u1 hu1 => ?_)
  refine fr_b (fun j5 => ?_)
  refine fr_cI (pr := id) ?_ (fun I9 hI9 => ?_)
  · apply f_M_tellTwo hR <;> first | assumption | omega
  refine fr_R hR (by decide) (fun u10 hu10 => ?_)
  refine fr_b (fun j14 => ?_)
  refine fr_cI (pr := id) ?_ (fun I18 hI18 => ?_)
  · apply f_M_tellTwo hR <;> first | assumption | omega
  refine fr_R hR (by decide) (fun u19 hu19 => ?_)
  refine fr_b (fun j23 => ?_)
  refine fr_cI (pr := id) ?_ (fun I27 hI27 => ?_)
  · apply f_M_tellTwo hR <;> first | assumption | omega
  refine fr_R hR (by decide) (fun u28 hu28 => ?_)
  refine fr_b (fun j32 => ?_)
  refine fr_cI (pr := id) ?_ (fun I36 hI36 => ?_)
  · apply f_M_tellTwo hR <;> first | assumption | omega
  refine fr_R hR (by decide) (fun u37 hu37 => ?_)
  refine fr_b (fun j41 => ?_)
  refine fr_cI (pr := id) ?_ (fun I45 hI45 => ?_)
  · apply f_M_tell hR <;> first | assumption | omega
  refine fr_R hR (by decide) (fun u46 hu46 => ?_)
  refine fr_b (fun j50 => ?_)
  refine fr_cI (pr := id) ?_ (fun I54 hI54 => ?_)
  · apply f_M_tell hR <;> first | assumption | omega
  apply f_M_tellPart_67 hR <;> first | assumption | omega
theorem f_M_crop_422 {R : ax_R} (hR : mOk oS R) {I0 : ax_I} (rec304 : ax_I → ax_R → Nat → Int32 → Int32 → Int32 → Int32 → Int32 → Int32 → Int32 → Option (Int32 × ax_I)) (hrec304 : ∀ (I : ax_I) (z0 z1 z2 z3 z4 z5 z6 : Int32), low I0 I → frG Prod.snd I0 (rec304 I R 210 z0 z1 z2 z3 z4 z5 z6)) (I : ax_I) (x1 : Int32) (x2 : Int32) (x3 : Int32) (x4 : Int32) (x5 : Int32) (x6 : Int32) (x7 : Int32) (hI : low I0 I) : frG Prod.snd I0 (d_M_crop_422 oS rec304 I R 210 x1 x2 x3 x4 x5 x6 x7) := by
  unfold d_M_crop_422
  apply hrec304 <;> assumption
theorem f_M_crop_304 {R : ax_R} (hR : mOk oS R) {I0 : ax_I} : ∀ (n : Nat) (I : ax_I) (x1 x2 x3 x4 x5 x6 x7 : Int32), low I0 I → frG Prod.snd I0 (d_M_crop_304 oS n I R 210 x1 x2 x3 x4 x5 x6 x7) := by
  intro n
  induction n with
  | zero => intros; exact fr_none
  | succ n ih =>
    intro I x1 x2 x3 x4 x5 x6 x7 hI
    rw [d_M_crop_304]
    refine fr_R hR (by decide) (fun u153 hu153 => ?_)
    refine fr_b (fun j157 => ?_)
    refine fr_ite ?_ ?_
    · skip
      refine fr_R hR (by decide) (fun u160 hu160 => ?_)
      refine fr_b (fun j164 => ?_)
      refine fr_set (by omega) (by assumption) (fun I166 hI166 => ?_)
      refine fr_R hR (by decide) (fun u168 hu168 => ?_)
      refine fr_b (fun j172 => ?_)
      refine fr_set (by omega) (by assumption) (fun I174 hI174 => ?_)
      refine fr_R hR (by decide) (fun u176 hu176 => ?_)
      refine fr_b (fun j180 => ?_)
      refine fr_set (by omega) (by assumption) (fun I182 hI182 => ?_)
      exact fr_ret (by assumption)
    · skip
      refine fr_R hR (by decide) (fun u184 hu184 => ?_)
      refine fr_b (fun j188 => ?_)
      refine fr_b (fun r192 => ?_)
      refine fr_ite ?_ ?_
      · skip
        apply f_M_crop_422 hR <;> first | assumption | omega
      · skip
        refine fr_R hR (by decide) (fun u194 hu194 => ?_)
        refine fr_b (fun j198 => ?_)
        refine fr_b (fun r202 => ?_)
        refine fr_ite ?_ ?_
        · skip
          apply f_M_crop_422 hR <;> first | assumption | omega
        · skip
          refine fr_cI (pr := Prod.snd) ?_ (fun I206 hI206 => ?_)
          · apply f_M_moveNote hR <;> first | assumption | omega
          refine fr_R hR (by decide) (fun u207 hu207 => ?_)
          refine fr_b (fun j211 => ?_)
          refine fr_b (fun j213 => ?_)
          refine fr_set (by omega) (by assumption) (fun I215 hI215 => ?_)
          refine fr_R hR (by decide) (fun u217 hu217 => ?_)
          refine fr_b (fun j221 => ?_)
          refine fr_b (fun j223 => ?_)
          refine fr_set (by omega) (by assumption) (fun I225 hI225 => ?_)
          apply f_M_crop_422 hR <;> first | assumption | omega
theorem f_M_crop_275 {R : ax_R} (hR : mOk oS R) {I0 : ax_I} (rec159 : ax_I → ax_R → Nat → Int32 → Int32 → Int32 → Int32 → Int32 → Int32 → Option (Int32 × ax_I)) (hrec159 : ∀ (I : ax_I) (z0 z1 z2 z3 z4 z5 : Int32), low I0 I → frG Prod.snd I0 (rec159 I R 210 z0 z1 z2 z3 z4 z5)) (I : ax_I) (x1 : Int32) (x2 : Int32) (x3 : Int32) (x4 : Int32) (x5 : Int32) (x6 : Int32) (hI : low I0 I) : frG Prod.snd I0 (d_M_crop_275 oS rec159 I R 210 x1 x2 x3 x4 x5 x6) := by
  unfold d_M_crop_275
  apply hrec159 <;> assumption
theorem f_M_crop_159 {R : ax_R} (hR : mOk oS R) {I0 : ax_I} : ∀ (n : Nat) (I : ax_I) (x1 x2 x3 x4 x5 x6 : Int32), low I0 I → frG Prod.snd I0 (d_M_crop_159 oS n I R 210 x1 x2 x3 x4 x5 x6) := by
  intro n
  induction n with
  | zero => intros; exact fr_none
  | succ n ih =>
    intro I x1 x2 x3 x4 x5 x6 hI
    rw [d_M_crop_159]
    refine fr_R hR (by decide) (fun u75 hu75 => ?_)
    refine fr_b (fun j79 => ?_)
    refine fr_ite ?_ ?_
    · skip
      refine fr_R hR (by decide) (fun u82 hu82 => ?_)
      refine fr_b (fun j86 => ?_)
      refine fr_set (by omega) (by assumption) (fun I88 hI88 => ?_)
      apply f_M_crop_304 hR <;> first | assumption | omega
    · skip
      refine fr_b (fun r92 => ?_)
      refine fr_R hR (by decide) (fun u93 hu93 => ?_)
      refine fr_b (fun j97 => ?_)
      refine fr_ite ?_ ?_
      · skip
        apply f_M_crop_275 hR <;> first | assumption | omega
      · skip
        refine fr_R hR (by decide) (fun u100 hu100 => ?_)
        refine fr_b (fun j104 => ?_)
        refine fr_ite ?_ ?_
        · skip
          apply f_M_crop_275 hR <;> first | assumption | omega
        · skip
          refine fr_R hR (by decide) (fun u107 hu107 => ?_)
          refine fr_b (fun j111 => ?_)
          refine fr_ite ?_ ?_
          · skip
            apply f_M_crop_275 hR <;> first | assumption | omega
          · skip
            refine fr_R hR (by decide) (fun u114 hu114 => ?_)
            refine fr_b (fun j118 => ?_)
            refine fr_ite ?_ ?_
            · skip
              apply f_M_crop_275 hR <;> first | assumption | omega
            · skip
              refine fr_b (fun r123 => ?_)
              refine fr_cI (pr := Prod.snd) ?_ (fun I126 hI126 => ?_)
              · apply f_M_move hR <;> first | assumption | omega
              refine fr_R hR (by decide) (fun u127 hu127 => ?_)
              refine fr_b (fun r133 => ?_)
              refine fr_b (fun j134 => ?_)
              refine fr_b (fun j136 => ?_)
              refine fr_set (by omega) (by assumption) (fun I138 hI138 => ?_)
              refine fr_R hR (by decide) (fun u140 hu140 => ?_)
              refine fr_b (fun r146 => ?_)
              refine fr_b (fun j147 => ?_)
              refine fr_b (fun j149 => ?_)
              refine fr_set (by omega) (by assumption) (fun I151 hI151 => ?_)
              apply f_M_crop_275 hR <;> first | assumption | omega
theorem f_M_crop_88 {R : ax_R} (hR : mOk oS R) {I0 : ax_I} (I : ax_I) (x1 : Int32) (x2 : Int32) (x3 : Int32) (x4 : Int32) (y0 : Int32) (w1 : Nat) (hw1 : 210 ≤ w1) (hI : low I0 I) : frG Prod.snd I0 (d_M_crop_88 oS I R 210 x1 x2 x3 x4 y0 w1) := by
  unfold d_M_crop_88
  refine fr_b (fun b26 => ?_)
  refine fr_set (by omega) (by assumption) (fun I28 hI28 => ?_)
  refine fr_ite ?_ ?_
  · skip
    apply f_M_crop_159 hR <;> first | assumption | omega
  · skip
    refine fr_R hR (by decide) (fun u31 hu31 => ?_)
    refine fr_b (fun r37 => ?_)
    refine fr_b (fun j38 => ?_)
    refine fr_set (by omega) (by assumption) (fun I40 hI40 => ?_)
    refine fr_R hR (by decide) (fun u42 hu42 => ?_)
    refine fr_b (fun r48 => ?_)
    refine fr_b (fun j49 => ?_)
    refine fr_set (by omega) (by assumption) (fun I51 hI51 => ?_)
    refine fr_R hR (by decide) (fun u53 hu53 => ?_)
    refine fr_b (fun r59 => ?_)
    refine fr_b (fun j60 => ?_)
    refine fr_set (by omega) (by assumption) (fun I62 hI62 => ?_)
    refine fr_R hR (by decide) (fun u64 hu64 => ?_)
    refine fr_b (fun r70 => ?_)
    refine fr_b (fun j71 => ?_)
    refine fr_set (by omega) (by assumption) (fun I73 hI73 => ?_)
    exact fr_ret (by assumption)
theorem f_M_crop_83 {R : ax_R} (hR : mOk oS R) {I0 : ax_I} (I : ax_I) (x1 : Int32) (x2 : Int32) (x3 : Int32) (x4 : Int32) (w0 : Nat) (hw0 : 210 ≤ w0) (hI : low I0 I) : frG Prod.snd I0 (d_M_crop_83 oS I R 210 x1 x2 x3 x4 w0) := by
  unfold d_M_crop_83
  apply f_M_crop_88 hR <;> first | assumption | omega
theorem f_M_crop_29 {R : ax_R} (hR : mOk oS R) {I0 : ax_I} (I : ax_I) (x1 : Int32) (x2 : Int32) (x3 : Int32) (x4 : Int32) (y0 : Int32) (w1 : Nat) (hw1 : 210 ≤ w1) (hI : low I0 I) : frG Prod.snd I0 (d_M_crop_29 oS I R 210 x1 x2 x3 x4 y0 w1) := by
  unfold d_M_crop_29
  refine fr_set (by omega) (by assumption) (fun I7 hI7 => ?_)
  refine fr_ite ?_ ?_
  · skip
    refine fr_b (fun r12 => ?_)
    refine fr_ite ?_ ?_
    · skip
      apply f_M_crop_83 hR <;> first | assumption | omega
    · skip
      refine fr_b (fun r16 => ?_)
      refine fr_ite ?_ ?_
      · skip
        apply f_M_crop_83 hR <;> first | assumption | omega
      · skip
        refine fr_b (fun r20 => ?_)
        refine fr_ite ?_ ?_
        · skip
          apply f_M_crop_83 hR <;> first | assumption | omega
        · skip
          refine fr_b (fun r24 => ?_)
          refine fr_ite ?_ ?_
          · skip
            apply f_M_crop_83 hR <;> first | assumption | omega
          · skip
            apply f_M_crop_88 hR <;> first | assumption | omega
  · skip
    exact fr_ret (by assumption)
theorem f_M_crop_24 {R : ax_R} (hR : mOk oS R) {I0 : ax_I} (I : ax_I) (x1 : Int32) (x2 : Int32) (x3 : Int32) (x4 : Int32) (w0 : Nat) (hw0 : 210 ≤ w0) (hI : low I0 I) : frG Prod.snd I0 (d_M_crop_24 oS I R 210 x1 x2 x3 x4 w0) := by
  unfold d_M_crop_24
  apply f_M_crop_29 hR <;> first | assumption | omega
theorem f_M_crop {R : ax_R} (hR : mOk oS R) {I0 : ax_I} (I : ax_I) (x1 : Int32) (x2 : Int32) (x3 : Int32) (x4 : Int32) (hI : low I0 I) : frG Prod.snd I0 (d_M_crop oS I R 210 x1 x2 x3 x4) := by
  unfold d_M_crop
  refine fr_ite ?_ ?_
  · skip
    apply f_M_crop_24 hR <;> first | assumption | omega
  · skip
    refine fr_ite ?_ ?_
    · skip
      apply f_M_crop_24 hR <;> first | assumption | omega
    · skip
      refine fr_b (fun r5 => ?_)
      refine fr_ite ?_ ?_
      · skip
        apply f_M_crop_24 hR <;> first | assumption | omega
      · skip
        apply f_M_crop_29 hR <;> first | assumption | omega
theorem f_M_write_220 {R : ax_R} (hR : mOk oS R) {I0 : ax_I} (rec171 : ax_I → ax_R → Nat → Int32 → Option (Int32 × ax_I)) (hrec171 : ∀ (I : ax_I) (z0 : Int32), low I0 I → frG Prod.snd I0 (rec171 I R 210 z0)) (rec186 : ax_I → ax_R → Nat → Int32 → Int32 → Option (Int32 × ax_I)) (hrec186 : ∀ (I : ax_I) (z0 z1 : Int32), low I0 I → frG Prod.snd I0 (rec186 I R 210 z0 z1)) (I : ax_I) (x1 : Int32) (x2 : Int32) (hI : low I0 I) : frG Prod.snd I0 (d_M_write_220 oS rec171 rec186 I R 210 x1 x2) := by
  unfold d_M_write_220
  apply hrec186 <;> assumption
theorem f_M_write_186 {R : ax_R} (hR : mOk oS R) {I0 : ax_I} (rec171 : ax_I → ax_R → Nat → Int32 → Option (Int32 × ax_I)) (hrec171 : ∀ (I : ax_I) (z0 : Int32), low I0 I → frG Prod.snd I0 (rec171 I R 210 z0)) : ∀ (n : Nat) (I : ax_I) (x1 x2 : Int32), low I0 I → frG Prod.snd I0 (d_M_write_186 oS rec171 n I R 210 x1 x2) := by
  intro n
  induction n with
  | zero => intros; exact fr_none
  | succ n ih =>
    intro I x1 x2 hI
    rw [d_M_write_186]
    refine fr_R hR (by decide) (fun u101 hu101 => ?_)
    refine fr_b (fun j105 => ?_)
    refine fr_ite ?_ ?_
    · skip
      apply hrec171 <;> assumption
    · skip
      refine fr_b (fun r110 => ?_)
      refine fr_ite ?_ ?_
      · skip
        refine fr_b (fun r114 => ?_)
        refine fr_cI (pr := Prod.snd) ?_ (fun I117 hI117 => ?_)
        · apply f_M_tellPart hR <;> first | assumption | omega
        apply f_M_write_220 hR <;> first | assumption | omega
      · skip
        apply f_M_write_220 hR <;> first | assumption | omega
theorem f_M_write_171 {R : ax_R} (hR : mOk oS R) {I0 : ax_I} : ∀ (n : Nat) (I : ax_I) (x1 : Int32), low I0 I → frG Prod.snd I0 (d_M_write_171 oS n I R 210 x1) := by
  intro n
  induction n with
  | zero => intros; exact fr_none
  | succ n ih =>
    intro I x1 hI
    rw [d_M_write_171]
    refine fr_R hR (by decide) (fun u94 hu94 => ?_)
    refine fr_b (fun j98 => ?_)
    refine fr_ite ?_ ?_
    · skip
      exact fr_ret (by assumption)
    · skip
      apply f_M_write_186 hR <;> first | assumption | omega
theorem f_M_write_112 {R : ax_R} (hR : mOk oS R) {I0 : ax_I} : ∀ (n : Nat) (I : ax_I) (x1 : Int32), low I0 I → frG Prod.snd I0 (d_M_write_112 oS n I R 210 x1) := by
  intro n
  induction n with
  | zero => intros; exact fr_none
  | succ n ih =>
    intro I x1 hI
    rw [d_M_write_112]
    refine fr_R hR (by decide) (fun u60 hu60 => ?_)
    refine fr_b (fun j64 => ?_)
    refine fr_ite ?_ ?_
    · skip
      apply f_M_write_171 hR <;> first | assumption | omega
    · skip
      refine fr_R hR (by decide) (fun u67 hu67 => ?_)
      refine fr_b (fun j71 => ?_)
      refine fr_cI (pr := Prod.snd) ?_ (fun I75 hI75 => ?_)
      · apply f_M_tellTwo hR <;> first | assumption | omega
      refine fr_R hR (by decide) (fun u76 hu76 => ?_)
      refine fr_b (fun j80 => ?_)
      refine fr_cI (pr := Prod.snd) ?_ (fun I84 hI84 => ?_)
      · apply f_M_tellTwo hR <;> first | assumption | omega
      refine fr_R hR (by decide) (fun u85 hu85 => ?_)
      refine fr_b (fun j89 => ?_)
      refine fr_cI (pr := Prod.snd) ?_ (fun I93 hI93 => ?_)
      · apply f_M_tell hR <;> first | assumption | omega
      apply ih <;> assumption
theorem f_M_write_63 {R : ax_R} (hR : mOk oS R) {I0 : ax_I} : ∀ (n : Nat) (I : ax_I) (x1 : Int32), low I0 I → frG Prod.snd I0 (d_M_write_63 oS n I R 210 x1) := by
  intro n
  induction n with
  | zero => intros; exact fr_none
  | succ n ih =>
    intro I x1 hI
    rw [d_M_write_63]
    refine fr_R hR (by decide) (fun u38 hu38 => ?_)
    refine fr_b (fun j42 => ?_)
    refine fr_ite ?_ ?_
    · skip
      refine fr_R hR (by decide) (fun u45 hu45 => ?_)
      refine fr_b (fun j49 => ?_)
      refine fr_cI (pr := Prod.snd) ?_ (fun I53 hI53 => ?_)
      · apply f_M_tell hR <;> first | assumption | omega
      apply f_M_write_112 hR <;> first | assumption | omega
    · skip
      refine fr_b (fun r56 => ?_)
      refine fr_cI (pr := Prod.snd) ?_ (fun I59 hI59 => ?_)
      · apply f_M_tellTwo hR <;> first | assumption | omega
      apply ih <;> assumption
theorem f_M_write {R : ax_R} (hR : mOk oS R) {I0 : ax_I} (I : ax_I) (hI : low I0 I) : frG Prod.snd I0 (d_M_write oS I R 210 ) := by
  unfold d_M_write
  refine fr_set (by omega) (by assumption) (fun I1 hI1 => ?_)
  refine fr_set (by omega) (by assumption) (fun I3 hI3 => ?_)
  refine fr_cI (pr := Prod.snd) ?_ (fun I7 hI7 => ?_)
  · apply f_M_tell hR <;> first | assumption | omega
  refine fr_cI (pr := Prod.snd) ?_ (fun I10 hI10 => ?_)
  · apply f_M_tell hR <;> first | assumption | omega
  refine fr_R hR (by decide) (fun u11 hu11 => ?_)
  refine fr_b (fun j15 => ?_)
  refine fr_cI (pr := Prod.snd) ?_ (fun I19 hI19 => ?_)
  · apply f_M_tellTwo hR <;> first | assumption | omega
  refine fr_R hR (by decide) (fun u20 hu20 => ?_)
  refine fr_b (fun j24 => ?_)
  refine fr_cI (pr := Prod.snd) ?_ (fun I28 hI28 => ?_)
  · apply f_M_tellTwo hR <;> first | assumption | omega
  refine fr_R hR (by decide) (fun u29 hu29 => ?_)
  refine fr_b (fun j33 => ?_)
  refine fr_cI (pr := Prod.snd) ?_ (fun I37 hI37 => ?_)
  · apply f_M_tell hR <;> first | assumption | omega
  apply f_M_write_63 hR <;> first | assumption | omega
/-! the reference: tile -/
def mAns (r : Option (Int32 × ax_I)) (code : Nat) (ans : Int32) (Q : ax_I → Prop) : Prop := ∃ v J, r = some (v, J) ∧ J 210 0 = nI code ∧ (code = 0 → v = ans) ∧ Q J
theorem arg_rect {W : Nat} (hW : W ≤ 400) {a c : Int32} (h1 : ¬ c < 1) (h2 : ¬ a < 0) (h3 : ¬ nI W - c < a) : ∃ x w, a = nI x ∧ c = nI w ∧ 1 ≤ w ∧ x + w ≤ W := by
  have hc0 : ¬ c < 0 := by
    intro z
    apply h1
    rw [Int32.lt_iff_toInt_lt] at *
    have e0 : (0 : Int32).toInt = 0 := rfl
    have e1 : (1 : Int32).toInt = 1 := rfl
    omega
  obtain ⟨x, hx, rfl⟩ := nI_of h2
  obtain ⟨w, hw, rfl⟩ := nI_of hc0
  refine ⟨x, w, rfl, rfl, ?_, ?_⟩
  · rw [Int32.lt_iff_toInt_lt, nI_toInt hw] at h1
    have e1 : (1 : Int32).toInt = 1 := rfl
    omega
  · have e : (nI W - nI w).toInt = (W : Int) - (w : Int) := by
      rw [Int32.toInt_sub, nI_toInt (by omega), nI_toInt hw]
      exact Int.bmod_eq_of_le (by omega) (by omega)
    rw [Int32.lt_iff_toInt_lt, e, nI_toInt hx] at h3
    omega
theorem arg_rect' {W x w : Nat} (hW : W ≤ 400) (hw : 1 ≤ w) (h : x + w ≤ W) : ¬ nI w < 1 ∧ ¬ nI x < 0 ∧ ¬ nI W - nI w < nI x := by
  refine ⟨?_, nI_pos (by omega), ?_⟩
  · exact nI_nlt (a := w) (b := 1) hw (by omega)
  · rw [nI_sub (by omega)]
    exact nI_nlt (by omega) (by omega)
section MTILE
variable {I : ax_I} {R : ax_R} {now fw fh since : Nat} {a b : Pc} {st : List Nat}
theorem m_t196 (hR : mOk oS R) (x1 x2 x3 x4 : Int32) {y : Int32} (hy : ¬ y ≤ 0) : d_M_tile_196 oS I R 210 x1 x2 x3 x4 y 210 = some (0, ax_up I 210 0 y) := by
  unfold d_M_tile_196
  rw [Option.bind_some, if_neg (up_le hy)]
/-- a tile more -/
def addT (p : Pc) (t : Tl) : Pc := (p.1, p.2.1 ++ [t], p.2.2)
theorem m_t196a (hR : mOk oS R) (hM : MR I now a b fw fh since st) (hb : okP b) (hl : a.2.1.length < 40) (x y w h : Nat) : mAns (d_M_tile_196 oS I R 210 (nI x) (nI y) (nI w) (nI h) 0 210) 0 (nI a.2.1.length) (fun J => MR J now (addT a ((x, y), (w, h), 0, [])) b fw fh since st) := by
  unfold d_M_tile_196 d_M_tileAt
  rw [Option.bind_some, if_pos (up_ge (by decide))]
  obtain ⟨J1, hJ1⟩ : ∃ J1, J1 = ax_up I 210 0 0 := ⟨_, rfl⟩
  have hM1 : MR J1 now a b fw fh since st := by rw [hJ1]; exact MR_up (Or.inl ⟨rfl, Or.inl rfl⟩) hM
  have c0 : J1 210 0 = 0 := by rw [hJ1, ax_up_self]
  rw [← hJ1]
  clear hJ1 hM
  have hM2 := hM1
  obtain ⟨hn, n3, ⟨⟨p1, p2, p3, p4⟩, pt, pn⟩, hb', -⟩ := hM1
  obtain ⟨-, -, ix, -⟩ := mx2 hR hn
  have e40 : (40 : Int32) * nI now + nI a.2.1.length = nI (40 * now + a.2.1.length) := by rw [show (40 : Int32) = nI 40 from rfl, nI_mul, nI_add]
  obtain ⟨⟨t1, t2, t3⟩, t4, t5, t6⟩ := mxT hR (show 40 * now + a.2.1.length < 80 by omega) e40
  rw [mr_6 hR, ob, n3, ix, ob, ob, p3, mr_8 hR, ob, t1, ob, ob, mr_9 hR, ob, t2, ob, ob, mr_10 hR, ob, t3, ob, ob, mr_11 hR, ob, t4, ob, ob, mr_12 hR, ob, t5, ob, ob, mr_13 hR, ob, t6, ob, ob, ob]
  obtain ⟨J2, hJ2⟩ : ∃ J2, J2 = ax_up (ax_up (ax_up (ax_up (ax_up (ax_up J1 215 (40 * now + a.2.1.length) (nI x)) 216 (40 * now + a.2.1.length) (nI y)) 217 (40 * now + a.2.1.length) (nI w)) 218 (40 * now + a.2.1.length) (nI h)) 219 (40 * now + a.2.1.length) 0) 220 (40 * now + a.2.1.length) 0 := ⟨_, rfl⟩
  have g : ∀ i k, i < 215 ∨ 220 < i → J2 i k = J1 i k := by
    intro i k hi
    rw [hJ2, ax_up_ne (by omega), ax_up_ne (by omega), ax_up_ne (by omega), ax_up_ne (by omega), ax_up_ne (by omega), ax_up_ne (by omega)]
  have g2 : ∀ i k, k ≠ 40 * now + a.2.1.length → J2 i k = J1 i k := by
    intro i k hi
    rw [hJ2, ax_up_ne (by omega), ax_up_ne (by omega), ax_up_ne (by omega), ax_up_ne (by omega), ax_up_ne (by omega), ax_up_ne (by omega)]
  rw [← hJ2, g 210 3 (by omega), n3, ix, ob, ob, ob, ob, g 213 now (by omega), p3, nI_1]
  have e3 : ax_up (ax_up J2 213 now (nI (a.2.1.length + 1))) 210 19 0 210 3 = nI now := by rw [ax_up_ne (by omega), ax_up_ne (by omega), g 210 3 (by omega), n3]
  rw [ob, e3, ix, ob, ax_up_ne (show ¬ (213 = 210 ∧ now = 19) by omega), ax_up_self, nI_pred]
  have k1 : ∀ i k, i ≠ 213 → ¬ (i = 210 ∧ k = 19) → i < 215 ∨ 220 < i → ax_up (ax_up J2 213 now (nI (a.2.1.length + 1))) 210 19 0 i k = J1 i k := fun i k z1 z2 z3 => by rw [ax_up_ne (by omega), ax_up_ne (by omega), g _ _ z3]
  refine ⟨_, _, rfl, (k1 _ _ (by omega) (by omega) (by omega)).trans c0, fun _ => rfl, MR_mk hM2 (fun k hk => k1 _ _ (by omega) (by omega) (by omega)) (fun k => k1 _ _ (by omega) (by omega) (by omega)) ⟨⟨(k1 _ _ (by omega) (by omega) (by omega)).trans p1, (k1 _ _ (by omega) (by omega) (by omega)).trans p2, ?_, (k1 _ _ (by omega) (by omega) (by omega)).trans p4⟩, fun k t hk => ?_, fun k n hk => ?_⟩ (MP_keep hb' hb (fun i z1 z2 => ?_) (fun i m z1 z2 z3 z4 => ?_) (fun m z1 z2 => k1 _ _ (by omega) (by omega) (by omega)) (fun i m z1 z2 z3 z4 => k1 _ _ (by omega) (by omega) (by omega)))⟩
  · rw [ax_up_ne (by omega), ax_up_self]; unfold addT; rw [List.length_append]; rfl
  · refine MT_up (by omega) (MT_up (by omega) ?_)
    have hk' : (a.2.1 ++ [((x, y), (w, h), 0, [])])[k]? = some t := hk
    by_cases hlt : k < a.2.1.length
    · rw [List.getElem?_append_left hlt] at hk'
      obtain ⟨⟨q1, q2, q3, q4, q5, q6⟩, q7⟩ := pt k t hk'
      exact ⟨⟨(g2 _ _ (by omega)).trans q1, (g2 _ _ (by omega)).trans q2, (g2 _ _ (by omega)).trans q3, (g2 _ _ (by omega)).trans q4, (g2 _ _ (by omega)).trans q5, (g2 _ _ (by omega)).trans q6⟩, fun j c hj => (g 221 _ (by omega)).trans (q7 j c hj)⟩
    · rw [List.getElem?_append_right (by omega)] at hk'
      have hz : k - a.2.1.length < 1 := (List.getElem?_eq_some_iff.mp hk').1
      have hk2 : k = a.2.1.length := by omega
      subst hk2
      simp at hk'
      subst hk'
      refine ⟨⟨?_, ?_, ?_, ?_, ?_, ?_⟩, fun j c hj => by cases hj⟩ <;> rw [hJ2] <;> simp [ax_up] <;> rfl
  · obtain ⟨q1, q2, q3⟩ := pn k n hk
    exact ⟨(k1 _ _ (by omega) (by omega) (by omega)).trans q1, (k1 _ _ (by omega) (by omega) (by omega)).trans q2, (k1 _ _ (by omega) (by omega) (by omega)).trans q3⟩
  · rw [ax_up_ne (by omega), ax_up_ne (by omega), g _ _ (by omega)]
  · rw [ax_up_ne (by omega), ax_up_ne (by omega), g2 _ _ (by omega)]
/-- the reference's loop over the tiles: the first that isn't apart ends it -/
theorem m_t166 (hR : mOk oS R) (hM : MR I now a b fw fh since st) (hb : okP b) (ha : okP a) (h0 : I 210 0 = 0) (x y w h : Nat) : (a.2.1.length = 40 → d_M_tile_166 oS I R 210 (nI x) (nI y) (nI w) (nI h) = some (0, ax_up I 210 0 (nI 3))) ∧ (a.2.1.length < 40 → mAns (d_M_tile_166 oS I R 210 (nI x) (nI y) (nI w) (nI h)) 0 (nI a.2.1.length) (fun J => MR J now (addT a ((x, y), (w, h), 0, [])) b fw fh since st)) := by
  have hM' := hM
  obtain ⟨hn, n3, ⟨⟨p1, p2, p3, p4⟩, pt, pn⟩, hb', -⟩ := hM
  obtain ⟨-, -, ix, -⟩ := mx2 hR hn
  unfold d_M_tile_166
  rw [h0, if_pos rfl, mr_6 hR, ob, n3, ix, ob, p3]
  refine ⟨fun e => ?_, fun e => ?_⟩
  · rw [e, if_pos (show nI 40 = 40 from rfl)]
    exact m_t196 hR _ _ _ _ (by decide)
  · rw [if_neg (fun z => by have := (nI_eq (by omega) (by omega)).mp (show nI a.2.1.length = nI 40 from z); omega)]
    unfold d_M_tile_192
    rw [h0]
    exact m_t196a hR hM' hb e x y w h
theorem m_t166x (hR : mOk oS R) {c : Int32} (h0 : I 210 0 = c) (hc : ¬ c ≤ 0) (x1 x2 x3 x4 : Int32) : d_M_tile_166 oS I R 210 x1 x2 x3 x4 = some (0, I) := by
  unfold d_M_tile_166
  rw [h0, if_neg (fun z => hc (by rw [z]; decide))]
  unfold d_M_tile_192
  rw [h0, m_t196 hR _ _ _ _ hc, ax_up_id h0]
theorem m_tloop (hR : mOk oS R) (hM : MR I now a b fw fh since st) (ha : okP a) (h0 : I 210 0 = 0) {x y w h : Nat} (hx : x + w ≤ 400) (hy : y + h ≤ 400) : ∀ (m n k : Nat), k + m = a.2.1.length → m < n → ((∀ t ∈ a.2.1.drop k, apart ((x, y), (w, h), 0, []) t) → d_M_tile_45 oS n I R 210 (nI x) (nI y) (nI w) (nI h) (nI k) = d_M_tile_166 oS I R 210 (nI x) (nI y) (nI w) (nI h)) ∧ ((¬ ∀ t ∈ a.2.1.drop k, apart ((x, y), (w, h), 0, []) t) → d_M_tile_45 oS n I R 210 (nI x) (nI y) (nI w) (nI h) (nI k) = some (0, ax_up I 210 0 (nI 2))) := by
  have hM' := hM
  obtain ⟨hn, n3, ⟨⟨p1, p2, p3, p4⟩, pt, pn⟩, hb', -⟩ := hM
  obtain ⟨-, -, ix, -⟩ := mx2 hR hn
  have l40 := ha.2.1.1
  intro m
  induction m with
  | zero =>
    intro n k hk hn'
    obtain ⟨n, rfl⟩ : ∃ n', n = n' + 1 := ⟨n - 1, by omega⟩
    have hk : k = a.2.1.length := by omega
    subst hk
    rw [d_M_tile_45, mr_6 hR, ob, n3, ix, ob, p3, if_pos (nI_le (Nat.le_refl _) (by omega))]
    refine ⟨fun _ => rfl, fun z => absurd (fun t ht => ?_) z⟩
    rw [List.drop_length] at ht
    cases ht
  | succ m ih =>
    intro n k hk hn'
    obtain ⟨n, rfl⟩ : ∃ n', n = n' + 1 := ⟨n - 1, by omega⟩
    have hlt : k < a.2.1.length := by omega
    obtain ⟨t, ht⟩ : ∃ t, a.2.1[k]? = some t := ⟨_, List.getElem?_eq_getElem hlt⟩
    obtain ⟨⟨q1, q2, q3, q4, q5, q6⟩, -⟩ := pt k t ht
    obtain ⟨-, ⟨o1, o2⟩, -⟩ := ha.2.2.1 t (List.mem_of_getElem? ht)
    have oW := ha.1
    have e40 : (40 : Int32) * nI now + nI k = nI (40 * now + k) := by rw [show (40 : Int32) = nI 40 from rfl, nI_mul, nI_add]
    obtain ⟨⟨t1, t2, t3⟩, t4, -, -⟩ := mxT hR (show 40 * now + k < 80 by omega) e40
    have ed : a.2.1.drop k = t :: a.2.1.drop (k + 1) := by rw [List.drop_eq_getElem_cons hlt]; congr 1; rw [List.getElem?_eq_getElem hlt] at ht; exact Option.some.inj ht
    have go : d_M_tile_139 oS (d_M_tile_45 oS n) I R 210 (nI x) (nI y) (nI w) (nI h) (nI k) = d_M_tile_45 oS n I R 210 (nI x) (nI y) (nI w) (nI h) (nI (k + 1)) := by
      unfold d_M_tile_139 d_M_tile_144 d_M_tile_157
      rw [if_neg (by decide), ob, ax_up_id h0, nI_1]
    have stop : d_M_tile_144 oS (d_M_tile_45 oS n) I R 210 (nI x) (nI y) (nI w) (nI h) (nI k) 0 = some (0, ax_up I 210 0 (nI 2)) := by
      unfold d_M_tile_144 d_M_tile_157
      obtain ⟨n, rfl⟩ : ∃ n', n = n' + 1 := ⟨n - 1, by omega⟩
      rw [if_pos rfl, ob, d_M_tile_45, mr_6 hR, ob, ax_up_ne (by omega), n3, ix, ob, ax_up_self, if_neg (show ¬ (2 : Int32) = 0 by decide), m_t166x hR (ax_up_self _ _ _ _) (by decide)]
      split <;> rfl
    obtain ⟨ih1, ih2⟩ := ih n (k + 1) (by omega) (by omega)
    have yes : apart ((x, y), (w, h), 0, []) t → d_M_tile_45 oS (n + 1) I R 210 (nI x) (nI y) (nI w) (nI h) (nI k) = d_M_tile_139 oS (d_M_tile_45 oS n) I R 210 (nI x) (nI y) (nI w) (nI h) (nI k) := by
      intro hap
      have hap : x + w ≤ t.1.1 ∨ t.1.1 + t.2.1.1 ≤ x ∨ y + h ≤ t.1.2 ∨ t.1.2 + t.2.1.2 ≤ y := hap
      rw [d_M_tile_45, mr_6 hR, ob, n3, ix, ob, p3, if_neg (nI_ge hlt (by omega)), h0, if_pos rfl]
      unfold d_M_tileAt
      rw [ob, n3, mr_8 hR, ob, t1, ob, q1, nI_add]
      by_cases z1 : x + w ≤ t.1.1
      · rw [if_pos (nI_le z1 (by omega))]
      rw [if_neg (nI_ge (by omega) (by omega)), ob, t1, ob, mr_10 hR, ob, t3, ob, q1, q3, nI_add]
      by_cases z2 : t.1.1 + t.2.1.1 ≤ x
      · rw [if_pos (nI_le z2 (by omega))]
      rw [if_neg (nI_ge (by omega) (by omega)), mr_9 hR, ob, t2, ob, q2, nI_add]
      by_cases z3 : y + h ≤ t.1.2
      · rw [if_pos (nI_le z3 (by omega))]
      rw [if_neg (nI_ge (by omega) (by omega)), ob, t2, ob, mr_11 hR, ob, t4, ob, q2, q4, nI_add, if_neg (nI_nlt (by omega) (by omega))]
    have no : ¬ apart ((x, y), (w, h), 0, []) t → d_M_tile_45 oS (n + 1) I R 210 (nI x) (nI y) (nI w) (nI h) (nI k) = some (0, ax_up I 210 0 (nI 2)) := by
      intro hap
      have hap : ¬ (x + w ≤ t.1.1 ∨ t.1.1 + t.2.1.1 ≤ x ∨ y + h ≤ t.1.2 ∨ t.1.2 + t.2.1.2 ≤ y) := hap
      rw [d_M_tile_45, mr_6 hR, ob, n3, ix, ob, p3, if_neg (nI_ge hlt (by omega)), h0, if_pos rfl]
      unfold d_M_tileAt
      rw [ob, n3, mr_8 hR, ob, t1, ob, q1, nI_add, if_neg (nI_ge (by omega) (by omega)), ob, t1, ob, mr_10 hR, ob, t3, ob, q1, q3, nI_add, if_neg (nI_ge (by omega) (by omega)), mr_9 hR, ob, t2, ob, q2, nI_add, if_neg (nI_ge (by omega) (by omega)), ob, t2, ob, mr_11 hR, ob, t4, ob, q2, q4, nI_add, if_pos (nI_lt (by omega) (by omega))]
      exact stop
    rw [ed]
    refine ⟨fun z => ?_, fun z => ?_⟩
    · rw [yes (z t List.mem_cons_self), go]
      exact ih1 (fun s hs => z s (List.mem_cons_of_mem _ hs))
    · by_cases hap : apart ((x, y), (w, h), 0, []) t
      · rw [yes hap, go]
        refine ih2 (fun z2 => z (fun s hs => ?_))
        rcases List.mem_cons.mp hs with rfl | hs
        · exact hap
        · exact z2 s hs
      · exact no hap
/-- the arguments of a call that both sides refuse at once -/
def noRect (W H : Nat) (x y w h : Int32) : Prop := w < 1 ∨ h < 1 ∨ x < 0 ∨ y < 0 ∨ nI W - w < x ∨ nI H - h < y
theorem rect_of {W H : Nat} (hW : W ≤ 400) (hH : H ≤ 400) {x y w h : Int32} (z : ¬ noRect W H x y w h) : ∃ x' y' w' h', (x = nI x' ∧ y = nI y' ∧ w = nI w' ∧ h = nI h') ∧ 1 ≤ w' ∧ 1 ≤ h' ∧ x' + w' ≤ W ∧ y' + h' ≤ H := by
  obtain ⟨x', w', e1, e2, e3, e4⟩ := arg_rect hW (fun y => z (Or.inl y)) (fun y => z (Or.inr (Or.inr (Or.inl y)))) (fun y => z (Or.inr (Or.inr (Or.inr (Or.inr (Or.inl y))))))
  obtain ⟨y', h', f1, f2, f3, f4⟩ := arg_rect hH (fun y => z (Or.inr (Or.inl y))) (fun y => z (Or.inr (Or.inr (Or.inr (Or.inl y))))) (fun y => z (Or.inr (Or.inr (Or.inr (Or.inr (Or.inr y))))))
  exact ⟨x', y', w', h', ⟨e1, f1, e2, f2⟩, e3, f3, e4, f4⟩
theorem rect_no {W H x y w h : Nat} (hW : W ≤ 400) (hH : H ≤ 400) (h1 : 1 ≤ w) (h2 : 1 ≤ h) (h3 : x + w ≤ W) (h4 : y + h ≤ H) : ¬ noRect W H (nI x) (nI y) (nI w) (nI h) := by
  obtain ⟨a1, a2, a3⟩ := arg_rect' hW h1 h3
  obtain ⟨b1, b2, b3⟩ := arg_rect' hH h2 h4
  rintro (z | z | z | z | z | z)
  · exact a1 z
  · exact b1 z
  · exact a2 z
  · exact b2 z
  · exact a3 z
  · exact b3 z
theorem m_lies (hR : mOk oS R) (hM : MR I now a b fw fh since st) (x y w h : Int32) : (noRect a.1.1 a.1.2 x y w h → ¬ w < 1 → ¬ h < 1 → d_M_lies oS I R 210 x y w h = some false) ∧ (¬ noRect a.1.1 a.1.2 x y w h → d_M_lies oS I R 210 x y w h = some true) := by
  obtain ⟨hn, n3, ⟨⟨p1, p2, p3, p4⟩, pt, pn⟩, hb', -⟩ := hM
  obtain ⟨i1, i2, -, -⟩ := mx2 hR hn
  unfold d_M_lies
  rw [mr_4 hR, ob, n3, i1, ob, p1, mr_5 hR, ob, i2, ob, p2]
  refine ⟨fun z y1 y2 => ?_, fun z => ?_⟩
  · by_cases z1 : x < 0
    · rw [if_pos z1]
    rw [if_neg z1]
    by_cases z2 : y < 0
    · rw [if_pos z2]
    rw [if_neg z2]
    by_cases z3 : nI a.1.1 - w < x
    · rw [if_pos z3]
    rw [if_neg z3]
    by_cases z4 : nI a.1.2 - h < y
    · rw [if_pos z4]
    rcases z with z | z | z | z | z | z
    · exact absurd z y1
    · exact absurd z y2
    · exact absurd z z1
    · exact absurd z z2
    · exact absurd z z3
    · exact absurd z z4
  · rw [if_neg (fun y => z (Or.inr (Or.inr (Or.inl y)))), if_neg (fun y => z (Or.inr (Or.inr (Or.inr (Or.inl y))))), if_neg (fun y => z (Or.inr (Or.inr (Or.inr (Or.inr (Or.inl y)))))), if_neg (fun y => z (Or.inr (Or.inr (Or.inr (Or.inr (Or.inr y))))))]
theorem m_t34 (hR : mOk oS R) (hM : MR I now a b fw fh since st) (x1 x2 x3 x4 : Int32) : mAns (d_M_tile_34 oS I R 210 x1 x2 x3 x4 210) 1 0 (fun J => MR J now a b fw fh since st) := by
  have hM1 : MR (ax_up I 210 0 1) now a b fw fh since st := MR_up (Or.inl ⟨rfl, Or.inl rfl⟩) hM
  refine ⟨0, ax_up I 210 0 1, ?_, ax_up_self _ _ _ _, fun z => (by cases z), hM1⟩
  obtain ⟨hn, n3, ⟨⟨p1, p2, p3, p4⟩, pt, pn⟩, hb', -⟩ := hM1
  obtain ⟨-, -, ix, -⟩ := mx2 hR hn
  unfold d_M_tile_34 d_M_tile_39
  rw [ob, show (5000 : Nat) = 4999 + 1 from rfl, d_M_tile_45, mr_6 hR, ob, n3, ix, ob, ax_up_self, if_neg (show ¬ (1 : Int32) = 0 by decide), m_t166x hR (ax_up_self _ _ _ _) (by decide)]
  split <;> rfl
theorem M_tile_bad (hR : mOk oS R) (hM : MR I now a b fw fh since st) {x y w h : Int32} (z : 64 < w ∨ 64 < h ∨ noRect a.1.1 a.1.2 x y w h) : mAns (d_M_tile oS I R 210 x y w h) 1 0 (fun J => MR J now a b fw fh since st) := by
  unfold d_M_tile
  by_cases z1 : w < 1 ∨ 64 < w
  · rw [m_in_f z1, ob, if_pos bF]
    exact m_t34 hR hM _ _ _ _
  rw [m_in_t (fun y => z1 (Or.inl y)) (fun y => z1 (Or.inr y)), ob, if_neg bT]
  by_cases z2 : h < 1 ∨ 64 < h
  · rw [m_in_f z2, ob, if_pos bF]
    exact m_t34 hR hM _ _ _ _
  rw [m_in_t (fun y => z2 (Or.inl y)) (fun y => z2 (Or.inr y)), ob, if_neg bT]
  have z3 : noRect a.1.1 a.1.2 x y w h := by
    rcases z with z | z | z
    · exact absurd (Or.inr z) z1
    · exact absurd (Or.inr z) z2
    · exact z
  rw [(m_lies hR hM x y w h).1 z3 (fun y => z1 (Or.inl y)) (fun y => z2 (Or.inl y)), ob, if_pos bF]
  exact m_t34 hR hM _ _ _ _
theorem M_tile (hR : mOk oS R) (hM : MR I now a b fw fh since st) (ha : okP a) (hb : okP b) {x y w h : Nat} (w1 : 1 ≤ w) (w2 : w ≤ 64) (h1 : 1 ≤ h) (h2 : h ≤ 64) (hx : x + w ≤ a.1.1) (hy : y + h ≤ a.1.2) : ((¬ ∀ t ∈ a.2.1, apart ((x, y), (w, h), 0, []) t) → mAns (d_M_tile oS I R 210 (nI x) (nI y) (nI w) (nI h)) 2 0 (fun J => MR J now a b fw fh since st)) ∧ ((∀ t ∈ a.2.1, apart ((x, y), (w, h), 0, []) t) → (a.2.1.length = 40 → mAns (d_M_tile oS I R 210 (nI x) (nI y) (nI w) (nI h)) 3 0 (fun J => MR J now a b fw fh since st)) ∧ (a.2.1.length < 40 → mAns (d_M_tile oS I R 210 (nI x) (nI y) (nI w) (nI h)) 0 (nI a.2.1.length) (fun J => MR J now (addT a ((x, y), (w, h), 0, [])) b fw fh since st))) := by
  have hW := ha.1
  have hl := ha.2.1.1
  have e : d_M_tile oS I R 210 (nI x) (nI y) (nI w) (nI h) = d_M_tile_45 oS 5000 (ax_up I 210 0 0) R 210 (nI x) (nI y) (nI w) (nI h) (nI 0) := by
    unfold d_M_tile
    rw [m_in_t (lo := 1) (hi := 64) (nI_nlt (a := w) (b := 1) w1 (by omega)) (nI_nlt (a := 64) (b := w) w2 (by decide)), ob, if_neg bT, m_in_t (lo := 1) (hi := 64) (nI_nlt (a := h) (b := 1) h1 (by omega)) (nI_nlt (a := 64) (b := h) h2 (by decide)), ob, if_neg bT, (m_lies hR hM _ _ _ _).2 (rect_no hW.2.1 hW.2.2.2 w1 h1 hx hy), ob, if_neg bT]
    unfold d_M_tile_39
    rw [ob]
    rfl
  have hM1 : MR (ax_up I 210 0 0) now a b fw fh since st := MR_up (Or.inl ⟨rfl, Or.inl rfl⟩) hM
  obtain ⟨q1, q2⟩ := m_tloop hR hM1 ha (ax_up_self _ _ _ _) (x := x) (y := y) (w := w) (h := h) (by omega) (by omega) a.2.1.length 5000 0 (by omega) (by omega)
  rw [List.drop_zero] at q1 q2
  rw [e]
  refine ⟨fun z => ?_, fun z => ?_⟩
  · rw [q2 z]
    exact ⟨_, _, rfl, ax_up_self _ _ _ _, fun z => (by cases z), MR_up (Or.inl ⟨rfl, Or.inl rfl⟩) hM1⟩
  · rw [q1 z]
    obtain ⟨r1, r2⟩ := m_t166 hR hM1 hb ha (ax_up_self _ _ _ _) x y w h
    refine ⟨fun l => ?_, fun l => r2 l⟩
    rw [r1 l]
    exact ⟨_, _, rfl, ax_up_self _ _ _ _, fun z => (by cases z), MR_up (Or.inl ⟨rfl, Or.inl rfl⟩) hM1⟩
end MTILE
/-! the reference: byteOf, note, and what only asks -/
theorem i_subn {n : Nat} (hn : n < 2 ^ 31) {x : Int32} : nI n - 1 < x ↔ nI n ≤ x := by
  have e : (nI n - 1).toInt = (n : Int) - 1 := by
    rw [Int32.toInt_sub, nI_toInt hn]
    have a : (1 : Int32).toInt = 1 := rfl
    rw [a]
    exact Int.bmod_eq_of_le (by omega) (by omega)
  rw [Int32.lt_iff_toInt_lt, Int32.le_iff_toInt_le, e, nI_toInt hn]
  omega
theorem idx_of {n : Nat} (hn : n < 2 ^ 31) {x : Int32} (h1 : ¬ x < 0) (h2 : ¬ nI n ≤ x) : ∃ k, k < n ∧ x = nI k := by
  obtain ⟨k, hk, rfl⟩ := nI_of h1
  refine ⟨k, ?_, rfl⟩
  rcases Nat.lt_or_ge k n with h | h
  · exact h
  · exact absurd (nI_le h hk) h2
theorem idx_no {n k : Nat} (hn : n < 2 ^ 31) (h : k < n) : ¬ nI k < 0 ∧ ¬ nI n ≤ nI k := ⟨nI_pos (by omega), nI_ge h hn⟩
/-- an index that none is: below 0, or n and more -/
def noIx (n : Nat) (x : Int32) : Prop := x < 0 ∨ nI n ≤ x
theorem m_inIx {S : ax_S} {J : ax_I} {R : ax_R} {n : Nat} (hn : n < 2 ^ 31) {x : Int32} : (noIx n x → d_M_in S J R x 0 (nI n - 1) = some false) ∧ (¬ noIx n x → d_M_in S J R x 0 (nI n - 1) = some true) := by
  refine ⟨fun z => m_in_f ?_, fun z => m_in_t (fun y => z (Or.inl y)) (fun y => z (Or.inr ((i_subn hn).mp y)))⟩
  rcases z with z | z
  · exact Or.inl z
  · exact Or.inr ((i_subn hn).mpr z)
section MS
variable {I : ax_I} {R : ax_R} {now fw fh since : Nat} {a b : Pc} {st : List Nat}
theorem m_isTile (hR : mOk oS R) (hM : MR I now a b fw fh since st) (ha : okP a) (x : Int32) : (noIx a.2.1.length x → d_M_isTile oS I R 210 x = some false) ∧ (¬ noIx a.2.1.length x → d_M_isTile oS I R 210 x = some true) := by
  obtain ⟨hn, n3, ⟨⟨p1, p2, p3, p4⟩, pt, pn⟩, hb', -⟩ := hM
  obtain ⟨i1, i2, i3, i4⟩ := mx2 hR hn
  have l := ha.2.1.1
  unfold d_M_isTile
  rw [mr_6 hR, ob, n3, i3, ob, p3]
  refine ⟨fun z => ?_, fun z => ?_⟩
  · rw [(m_inIx (by omega)).1 z, ob]
  · rw [(m_inIx (by omega)).2 z, ob]
theorem m_isSample (hR : mOk oS R) (hM : MR I now a b fw fh since st) (ha : okP a) (x y : Int32) : (noIx a.1.1 x ∨ noIx a.1.2 y → d_M_isSample oS I R 210 x y = some false) ∧ (¬ (noIx a.1.1 x ∨ noIx a.1.2 y) → d_M_isSample oS I R 210 x y = some true) := by
  obtain ⟨hn, n3, ⟨⟨p1, p2, p3, p4⟩, pt, pn⟩, hb', -⟩ := hM
  obtain ⟨i1, i2, i3, i4⟩ := mx2 hR hn
  have l := ha.1
  unfold d_M_isSample
  rw [mr_4 hR, ob, n3, i1, ob, p1, mr_5 hR, ob, i2, ob, p2]
  refine ⟨fun z => ?_, fun z => ?_⟩
  · by_cases z1 : noIx a.1.1 x
    · rw [(m_inIx (by omega)).1 z1, ob, if_pos bF]
    · rw [(m_inIx (by omega)).2 z1, ob, if_neg bT, (m_inIx (by omega)).1 (z.resolve_left z1), ob, if_pos bF]
  · rw [(m_inIx (by omega)).2 (fun y => z (Or.inl y)), ob, if_neg bT, (m_inIx (by omega)).2 (fun y => z (Or.inr y)), ob, if_neg bT]
/-- code 0 is set, nothing else -/
theorem MR_c (hM : MR I now a b fw fh since st) (v : Int32) : MR (ax_up I 210 0 v) now a b fw fh since st := MR_up (Or.inl ⟨rfl, Or.inl rfl⟩) hM
def setT (p : Pc) (k : Nat) (t : Tl) : Pc := (p.1, p.2.1.set k t, p.2.2)
def byt (t : Tl) (c : Nat) : Tl := (t.1, t.2.1, t.2.2.1, t.2.2.2 ++ [c])
theorem m_b48x (x y : Int32) {c : Int32} (hc : ¬ c ≤ 0) : d_M_byteOf_48 oS I R 210 x y c 210 = some (0, ax_up I 210 0 c) := by
  unfold d_M_byteOf_48
  rw [ob, if_neg (up_le hc)]
theorem M_byteOf (hR : mOk oS R) (hM : MR I now a b fw fh since st) (ha : okP a) (hb : okP b) (x y : Int32) : (noIx a.2.1.length x → mAns (d_M_byteOf oS I R 210 x y) 1 0 (fun J => MR J now a b fw fh since st)) ∧ (∀ k t, a.2.1[k]? = some t → x = nI k → (y < 0 ∨ 255 < y → mAns (d_M_byteOf oS I R 210 x y) 2 0 (fun J => MR J now a b fw fh since st)) ∧ (∀ c, c < 256 → y = nI c → (t.2.2.2.length = 12 → mAns (d_M_byteOf oS I R 210 x y) 3 0 (fun J => MR J now a b fw fh since st)) ∧ (t.2.2.2.length < 12 → mAns (d_M_byteOf oS I R 210 x y) 0 (nI (t.2.2.2.length + 1)) (fun J => MR J now (setT a k (byt t c)) b fw fh since st)))) := by
  have l := ha.2.1.1
  obtain ⟨s1, s2⟩ := m_isTile hR hM ha x
  refine ⟨fun z => ?_, fun k t hk hx => ?_⟩
  · unfold d_M_byteOf
    rw [s1 z, ob, if_pos bF, m_b48x _ _ (by decide)]
    exact ⟨_, _, rfl, ax_up_self _ _ _ _, fun z => (by cases z), MR_c hM _⟩
  have hlt : k < a.2.1.length := (List.getElem?_eq_some_iff.mp hk).1
  have nx : ¬ noIx a.2.1.length x := by
    rw [hx]
    obtain ⟨n1, n2⟩ := idx_no (by omega) hlt
    rintro (z | z)
    · exact n1 z
    · exact n2 z
  refine ⟨fun z => ?_, fun c hc hy => ?_⟩
  · unfold d_M_byteOf
    rw [s2 nx, ob, if_neg bT, m_in_f z, ob, if_pos bF, m_b48x _ _ (by decide)]
    exact ⟨_, _, rfl, ax_up_self _ _ _ _, fun z => (by cases z), MR_c hM _⟩
  have hM' := hM
  obtain ⟨hn, n3, ⟨⟨p1, p2, p3, p4⟩, pt, pn⟩, hb', -⟩ := hM
  obtain ⟨⟨q1, q2, q3, q4, q5, q6⟩, q7⟩ := pt k t hk
  have lt := (ha.2.2.1 t (List.mem_of_getElem? hk)).2.2.2.1
  have e40 : (40 : Int32) * nI now + x = nI (40 * now + k) := by rw [hx, show (40 : Int32) = nI 40 from rfl, nI_mul, nI_add]
  obtain ⟨-, -, -, t6⟩ := mxT hR (show 40 * now + k < 80 by omega) e40
  have nb : d_M_in oS I R y 0 255 = some true := by
    rw [hy]
    exact m_in_t (hi := 255) (nI_pos (by omega)) (nI_nlt (a := 255) (by omega) (by decide))
  have e : d_M_byteOf oS I R 210 x y = if nI t.2.2.2.length = 12 then d_M_byteOf_48 oS I R 210 x y 3 210 else d_M_byteOf_48 oS I R 210 x y 0 210 := by
    unfold d_M_byteOf d_M_tileAt
    rw [s2 nx, ob, if_neg bT, nb, ob, if_neg bT, mr_13 hR, ob, n3, ob, t6, ob, q6]
  rw [e]
  refine ⟨fun z => ?_, fun z => ?_⟩
  · rw [if_pos (show nI t.2.2.2.length = 12 by rw [z]; rfl), m_b48x _ _ (by decide)]
    exact ⟨_, _, rfl, ax_up_self _ _ _ _, fun z => (by cases z), MR_c hM' _⟩
  rw [if_neg (fun y => by have := (nI_eq (by omega) (by omega)).mp (show nI t.2.2.2.length = nI 12 from y); omega)]
  unfold d_M_byteOf_48 d_M_tileAt
  have e12 : (12 : Int32) * (40 * nI now + x) + nI t.2.2.2.length = nI (12 * (40 * now + k) + t.2.2.2.length) := by rw [e40, show (12 : Int32) = nI 12 from rfl, nI_mul, nI_add]
  have tb := mxB hR (show 12 * (40 * now + k) + t.2.2.2.length < 960 by omega) e12
  rw [ob, if_pos (up_ge (by decide)), ob, ax_up_ne (show ¬ (210 = 210 ∧ 3 = 0) by decide), n3, mr_14 hR, ob, mr_13 hR, ob, t6, ob, ax_up_ne (show ¬ (220 = 210 ∧ 40 * now + k = 0) by omega), q6, tb, ob, ob, ob, t6, ob, ob, ax_up_ne (show ¬ (220 = 221 ∧ 40 * now + k = 12 * (40 * now + k) + t.2.2.2.length) by omega), ax_up_ne (show ¬ (220 = 210 ∧ 40 * now + k = 0) by omega), q6, nI_1, ob, ob, t6, ob, ax_up_self]
  obtain ⟨J, hJ⟩ : ∃ J, J = ax_up (ax_up (ax_up I 210 0 0) 221 (12 * (40 * now + k) + t.2.2.2.length) y) 220 (40 * now + k) (nI (t.2.2.2.length + 1)) := ⟨_, rfl⟩
  rw [← hJ]
  have k1 : ∀ i m, i ≠ 220 → i ≠ 221 → ¬ (i = 210 ∧ m = 0) → J i m = I i m := fun i m z1 z2 z3 => by rw [hJ, ax_up_ne (by omega), ax_up_ne (by omega), ax_up_ne (by omega)]
  have k2 : ∀ m, m ≠ 40 * now + k → J 220 m = I 220 m := fun m z1 => by rw [hJ, ax_up_ne (by omega), ax_up_ne (by omega), ax_up_ne (by omega)]
  have k3 : ∀ m, m ≠ 12 * (40 * now + k) + t.2.2.2.length → J 221 m = I 221 m := fun m z1 => by rw [hJ, ax_up_ne (by omega), ax_up_ne (by omega), ax_up_ne (by omega)]
  have c0 : J 210 0 = 0 := by rw [hJ, ax_up_ne (by omega), ax_up_ne (by omega), ax_up_self]
  have c1 : J 220 (40 * now + k) = nI (t.2.2.2.length + 1) := by rw [hJ, ax_up_self]
  have c2 : J 221 (12 * (40 * now + k) + t.2.2.2.length) = y := by rw [hJ, ax_up_ne (by omega), ax_up_self]
  refine ⟨_, _, rfl, c0, fun _ => rfl, MR_mk hM' (fun k hk => k1 _ _ (by omega) (by omega) (by omega)) (fun k => k1 _ _ (by omega) (by omega) (by omega)) ⟨⟨(k1 _ _ (by omega) (by omega) (by omega)).trans p1, (k1 _ _ (by omega) (by omega) (by omega)).trans p2, ?_, (k1 _ _ (by omega) (by omega) (by omega)).trans p4⟩, fun k' t' hk' => ?_, fun k n hk => ?_⟩ (MP_keep hb' hb (fun i z1 z2 => k1 _ _ (by omega) (by omega) (by omega)) (fun i m z1 z2 z3 z4 => ?_) (fun m z1 z2 => k3 _ (by omega)) (fun i m z1 z2 z3 z4 => k1 _ _ (by omega) (by omega) (by omega)))⟩
  · rw [k1 _ _ (by omega) (by omega) (by omega), p3]; unfold setT; rw [List.length_set]
  · have hk2 : (a.2.1.set k (byt t c))[k']? = some t' := hk'
    rw [List.getElem?_set] at hk2
    by_cases hkk : k = k'
    · subst hkk
      rw [if_pos rfl, if_pos hlt] at hk2
      cases hk2
      refine ⟨⟨(k1 _ _ (by omega) (by omega) (by omega)).trans q1, (k1 _ _ (by omega) (by omega) (by omega)).trans q2, (k1 _ _ (by omega) (by omega) (by omega)).trans q3, (k1 _ _ (by omega) (by omega) (by omega)).trans q4, (k1 _ _ (by omega) (by omega) (by omega)).trans q5, ?_⟩, fun j d hj => ?_⟩
      · rw [c1]; unfold byt; rw [List.length_append]; rfl
      · have hj : (t.2.2.2 ++ [c])[j]? = some d := hj
        by_cases hjl : j < t.2.2.2.length
        · rw [List.getElem?_append_left hjl] at hj
          exact (k3 _ (by omega)).trans (q7 j d hj)
        · rw [List.getElem?_append_right (by omega)] at hj
          have hz : j - t.2.2.2.length < 1 := (List.getElem?_eq_some_iff.mp hj).1
          have hj2 : j = t.2.2.2.length := by omega
          subst hj2
          simp at hj
          subst hj
          rw [c2, hy]
    · rw [if_neg hkk] at hk2
      have hl' : k' < a.2.1.length := (List.getElem?_eq_some_iff.mp hk2).1
      obtain ⟨⟨r1, r2, r3, r4, r5, r6⟩, r7⟩ := pt k' t' hk2
      have lt' := (ha.2.2.1 t' (List.mem_of_getElem? hk2)).2.2.2.1
      refine ⟨⟨(k1 _ _ (by omega) (by omega) (by omega)).trans r1, (k1 _ _ (by omega) (by omega) (by omega)).trans r2, (k1 _ _ (by omega) (by omega) (by omega)).trans r3, (k1 _ _ (by omega) (by omega) (by omega)).trans r4, (k1 _ _ (by omega) (by omega) (by omega)).trans r5, (k2 _ (by omega)).trans r6⟩, fun j d hj => ?_⟩
      have hjl : j < t'.2.2.2.length := (List.getElem?_eq_some_iff.mp hj).1
      exact (k3 _ (by omega)).trans (r7 j d hj)
  · obtain ⟨r1, r2, r3⟩ := pn k n hk
    exact ⟨(k1 _ _ (by omega) (by omega) (by omega)).trans r1, (k1 _ _ (by omega) (by omega) (by omega)).trans r2, (k1 _ _ (by omega) (by omega) (by omega)).trans r3⟩
  · by_cases z5 : i = 220
    · subst z5
      exact k2 _ (by omega)
    · exact k1 _ _ (by omega) (by omega) (by omega)
end MS
/-! the reference: note, at, byteAt, noteAt, streamAt, told, swap, clear, near -/
section MS
variable {I : ax_I} {R : ax_R} {now fw fh since : Nat} {a b : Pc} {st : List Nat}
theorem m_turned (S : ax_S) (K : ax_I) (R : ax_R) {v : Nat} (hv : v < 8) : d_M_isTurned S K R (nI v) = some (decide (v % 2 = 1)) := turned_t ⟨v, hv⟩
def addN (p : Pc) (n : Nt) : Pc := (p.1, p.2.1, p.2.2 ++ [n])
theorem m_n48x (x y z : Int32) {c : Int32} (hc : ¬ c ≤ 0) : d_M_note_48 oS I R 210 x y z c 210 = some (0, ax_up I 210 0 c) := by
  unfold d_M_note_48
  rw [ob, if_neg (up_le hc)]
theorem M_note (hR : mOk oS R) (hM : MR I now a b fw fh since st) (ha : okP a) (hb : okP b) (x y z : Int32) : (noIx a.1.1 x ∨ noIx a.1.2 y → mAns (d_M_note oS I R 210 x y z) 1 0 (fun J => MR J now a b fw fh since st)) ∧ (¬ (noIx a.1.1 x ∨ noIx a.1.2 y) → (z < 0 ∨ 255 < z → mAns (d_M_note oS I R 210 x y z) 2 0 (fun J => MR J now a b fw fh since st)) ∧ (∀ c, c < 256 → z = nI c → (a.2.2.length = 20 → mAns (d_M_note oS I R 210 x y z) 3 0 (fun J => MR J now a b fw fh since st)) ∧ (a.2.2.length < 20 → ∀ x' y', x = nI x' → y = nI y' → mAns (d_M_note oS I R 210 x y z) 0 (nI (a.2.2.length + 1)) (fun J => MR J now (addN a (x', y', c)) b fw fh since st)))) := by
  have l := ha.2.1.2
  obtain ⟨s1, s2⟩ := m_isSample hR hM ha x y
  refine ⟨fun e => ?_, fun nx => ?_⟩
  · unfold d_M_note
    rw [s1 e, ob, if_pos bF, m_n48x _ _ _ (by decide)]
    exact ⟨_, _, rfl, ax_up_self _ _ _ _, fun z => (by cases z), MR_c hM _⟩
  refine ⟨fun e => ?_, fun c hc hz => ?_⟩
  · unfold d_M_note
    rw [s2 nx, ob, if_neg bT, m_in_f e, ob, if_pos bF, m_n48x _ _ _ (by decide)]
    exact ⟨_, _, rfl, ax_up_self _ _ _ _, fun z => (by cases z), MR_c hM _⟩
  have hM' := hM
  obtain ⟨hn, n3, ⟨⟨p1, p2, p3, p4⟩, pt, pn⟩, hb', -⟩ := hM
  obtain ⟨i1, i2, i3, i4⟩ := mx2 hR hn
  have nb : d_M_in oS I R z 0 255 = some true := by
    rw [hz]
    exact m_in_t (hi := 255) (nI_pos (by omega)) (nI_nlt (a := 255) (by omega) (by decide))
  have e : d_M_note oS I R 210 x y z = if nI a.2.2.length = 20 then d_M_note_48 oS I R 210 x y z 3 210 else d_M_note_48 oS I R 210 x y z 0 210 := by
    unfold d_M_note
    rw [s2 nx, ob, if_neg bT, nb, ob, if_neg bT, mr_7 hR, ob, n3, i4, ob, p4]
  rw [e]
  refine ⟨fun e => ?_, fun e x' y' hx hy => ?_⟩
  · rw [if_pos (show nI a.2.2.length = 20 by rw [e]; rfl), m_n48x _ _ _ (by decide)]
    exact ⟨_, _, rfl, ax_up_self _ _ _ _, fun z => (by cases z), MR_c hM' _⟩
  rw [if_neg (fun y => by have := (nI_eq (by omega) (by omega)).mp (show nI a.2.2.length = nI 20 from y); omega)]
  unfold d_M_note_48
  have e20 : (20 : Int32) * nI now + nI a.2.2.length = nI (20 * now + a.2.2.length) := by rw [show (20 : Int32) = nI 20 from rfl, nI_mul, nI_add]
  obtain ⟨t1, t2, t3⟩ := mxN hR (show 20 * now + a.2.2.length < 40 by omega) e20
  rw [ob, if_pos (up_ge (by decide)), mr_7 hR, ob, ax_up_ne (show ¬ (210 = 210 ∧ 3 = 0) by decide), n3, i4, ob, ax_up_ne (show ¬ (214 = 210 ∧ now = 0) by omega), p4, mr_15 hR, ob, t1, ob, ob, mr_16 hR, ob, t2, ob, ob, mr_17 hR, ob, t3, ob, ob, ob]
  obtain ⟨J, hJ⟩ : ∃ J, J = ax_up (ax_up (ax_up (ax_up I 210 0 0) 222 (20 * now + a.2.2.length) x) 223 (20 * now + a.2.2.length) y) 224 (20 * now + a.2.2.length) z := ⟨_, rfl⟩
  rw [← hJ]
  have g : ∀ i k, i < 222 ∨ 224 < i → ¬ (i = 210 ∧ k = 0) → J i k = I i k := fun i k z1 z2 => by rw [hJ, ax_up_ne (by omega), ax_up_ne (by omega), ax_up_ne (by omega), ax_up_ne (by omega)]
  have g2 : ∀ i k, k ≠ 20 * now + a.2.2.length → ¬ (i = 210 ∧ k = 0) → J i k = I i k := fun i k z1 z2 => by rw [hJ, ax_up_ne (by omega), ax_up_ne (by omega), ax_up_ne (by omega), ax_up_ne (by omega)]
  have c0 : J 210 0 = 0 := by rw [hJ, ax_up_ne (by omega), ax_up_ne (by omega), ax_up_ne (by omega), ax_up_self]
  rw [g 210 3 (by omega) (by omega), n3, i4, ob, ob, g 214 now (by omega) (by omega), p4, nI_1, ob, ob]
  have e3 : ax_up J 214 now (nI (a.2.2.length + 1)) 210 3 = nI now := by rw [ax_up_ne (by omega), g 210 3 (by omega) (by omega), n3]
  rw [e3, i4, ob, ax_up_self]
  have k1 : ∀ i k, i ≠ 214 → i < 222 ∨ 224 < i → ¬ (i = 210 ∧ k = 0) → ax_up J 214 now (nI (a.2.2.length + 1)) i k = I i k := fun i k z1 z2 z3 => by rw [ax_up_ne (by omega), g _ _ z2 z3]
  refine ⟨_, _, rfl, (ax_up_ne (by omega)).trans c0, fun _ => rfl, MR_mk hM' (fun k hk => k1 _ _ (by omega) (by omega) (by omega)) (fun k => k1 _ _ (by omega) (by omega) (by omega)) ⟨⟨(k1 _ _ (by omega) (by omega) (by omega)).trans p1, (k1 _ _ (by omega) (by omega) (by omega)).trans p2, (k1 _ _ (by omega) (by omega) (by omega)).trans p3, ?_⟩, fun k t hk => ?_, fun k n hk => ?_⟩ (MP_keep hb' hb (fun i z1 z2 => ?_) (fun i m z1 z2 z3 z4 => k1 _ _ (by omega) (by omega) (by omega)) (fun m z1 z2 => k1 _ _ (by omega) (by omega) (by omega)) (fun i m z1 z2 z3 z4 => ?_))⟩
  · rw [ax_up_self]; unfold addN; rw [List.length_append]; rfl
  · obtain ⟨⟨q1, q2, q3, q4, q5, q6⟩, q7⟩ := pt k t hk
    exact ⟨⟨(k1 _ _ (by omega) (by omega) (by omega)).trans q1, (k1 _ _ (by omega) (by omega) (by omega)).trans q2, (k1 _ _ (by omega) (by omega) (by omega)).trans q3, (k1 _ _ (by omega) (by omega) (by omega)).trans q4, (k1 _ _ (by omega) (by omega) (by omega)).trans q5, (k1 _ _ (by omega) (by omega) (by omega)).trans q6⟩, fun j c hj => (k1 _ _ (by omega) (by omega) (by omega)).trans (q7 j c hj)⟩
  · have hk' : (a.2.2 ++ [(x', y', c)])[k]? = some n := hk
    by_cases hlt : k < a.2.2.length
    · rw [List.getElem?_append_left hlt] at hk'
      obtain ⟨q1, q2, q3⟩ := pn k n hk'
      refine ⟨?_, ?_, ?_⟩
      · rw [ax_up_ne (by omega), g2 _ _ (by omega) (by omega)]; exact q1
      · rw [ax_up_ne (by omega), g2 _ _ (by omega) (by omega)]; exact q2
      · rw [ax_up_ne (by omega), g2 _ _ (by omega) (by omega)]; exact q3
    · rw [List.getElem?_append_right (by omega)] at hk'
      have hzz : k - a.2.2.length < 1 := (List.getElem?_eq_some_iff.mp hk').1
      have hk2 : k = a.2.2.length := by omega
      subst hk2
      simp at hk'
      subst hk'
      refine ⟨?_, ?_, ?_⟩
      · rw [ax_up_ne (by omega), hJ, ax_up_ne (by omega), ax_up_ne (by omega), ax_up_self]; exact hx
      · rw [ax_up_ne (by omega), hJ, ax_up_ne (by omega), ax_up_self]; exact hy
      · rw [ax_up_ne (by omega), hJ, ax_up_self]; exact hz
  · rw [ax_up_ne (by omega), g _ _ (by omega) (by omega)]
  · rw [ax_up_ne (by omega), g2 _ _ (by omega) (by omega)]
/-- what at() answers of a tile -/
def atV (t : Tl) (w : Int32) : Int32 := if w = 0 then nI t.1.1 else if w = 1 then nI t.1.2 else if w = 2 then nI t.2.1.1 else if w = 3 then nI t.2.1.2 else if w = 4 then nI t.2.2.1 else if w = 5 then nI t.2.2.2.length else if w = 6 then (if t.2.2.1 % 2 = 1 then nI t.2.1.2 else nI t.2.1.1) else if w = 7 then (if t.2.2.1 % 2 = 1 then nI t.2.1.1 else nI t.2.1.2) else -1
theorem M_at (hR : mOk oS R) (hM : MR I now a b fw fh since st) (ha : okP a) (x y : Int32) : (noIx a.2.1.length x → mAns (d_M_at oS I R 210 x y) 1 0 (fun J => MR J now a b fw fh since st)) ∧ (∀ k t, a.2.1[k]? = some t → x = nI k → mAns (d_M_at oS I R 210 x y) 0 (atV t y) (fun J => MR J now a b fw fh since st)) := by
  have l := ha.2.1.1
  obtain ⟨s1, s2⟩ := m_isTile hR hM ha x
  refine ⟨fun z => ?_, fun k t hk hx => ?_⟩
  · unfold d_M_at d_M_at_14
    rw [s1 z, ob, if_pos bF, ob, if_neg (up_le (by decide))]
    exact ⟨_, _, rfl, ax_up_self _ _ _ _, fun z => (by cases z), MR_c hM _⟩
  have hlt : k < a.2.1.length := (List.getElem?_eq_some_iff.mp hk).1
  have nx : ¬ noIx a.2.1.length x := by
    rw [hx]
    obtain ⟨n1, n2⟩ := idx_no (by omega) hlt
    rintro (z | z)
    · exact n1 z
    · exact n2 z
  have hM' := hM
  obtain ⟨hn, n3, ⟨⟨p1, p2, p3, p4⟩, pt, pn⟩, hb', -⟩ := MR_c hM 0
  obtain ⟨⟨q1, q2, q3, q4, q5, q6⟩, q7⟩ := pt k t hk
  have tv := (ha.2.2.1 t (List.mem_of_getElem? hk)).2.2.1
  have e40 : (40 : Int32) * nI now + x = nI (40 * now + k) := by rw [hx, show (40 : Int32) = nI 40 from rfl, nI_mul, nI_add]
  obtain ⟨⟨t1, t2, t3⟩, t4, t5, t6⟩ := mxT hR (show 40 * now + k < 80 by omega) e40
  unfold d_M_at d_M_at_14 d_M_tileAt
  rw [s2 nx, ob, if_neg bT, ob, if_pos (up_ge (by decide)), ob, n3]
  simp only [mr_8 hR, mr_9 hR, mr_10 hR, mr_11 hR, mr_12 hR, mr_13 hR, ob, t1, t2, t3, t4, t5, t6, q1, q2, q3, q4, q5, q6, m_turned _ _ _ tv]
  refine ⟨_, ax_up I 210 0 0, ?_, ax_up_self _ _ _ _, fun _ => rfl, MR_c hM' _⟩
  unfold atV
  by_cases z0 : y = 0
  · rw [if_pos z0, if_pos z0]
  rw [if_neg z0, if_neg z0]
  by_cases z1 : y = 1
  · rw [if_pos z1, if_pos z1]
  rw [if_neg z1, if_neg z1]
  by_cases z2 : y = 2
  · rw [if_pos z2, if_pos z2]
  rw [if_neg z2, if_neg z2]
  by_cases z3 : y = 3
  · rw [if_pos z3, if_pos z3]
  rw [if_neg z3, if_neg z3]
  by_cases z4 : y = 4
  · rw [if_pos z4, if_pos z4]
  rw [if_neg z4, if_neg z4]
  by_cases z5 : y = 5
  · rw [if_pos z5, if_pos z5]
  rw [if_neg z5, if_neg z5]
  have hd : ∀ {α : Type} (p q : α), (if ax_b (decide (t.2.2.1 % 2 = 1)) = 0 then p else q) = if t.2.2.1 % 2 = 1 then q else p := by
    intro α p q
    by_cases hz : t.2.2.1 % 2 = 1
    · rw [if_pos hz, if_neg (by rw [decide_eq_true hz]; exact bT)]
    · rw [if_neg hz, if_pos (by rw [decide_eq_false hz]; exact bF)]
  by_cases z6 : y = 6
  · rw [if_pos z6, if_pos z6, hd]
    split <;> rfl
  rw [if_neg z6, if_neg z6]
  by_cases z7 : y = 7
  · rw [if_pos z7, if_pos z7, hd]
    split <;> rfl
  rw [if_neg z7, if_neg z7]
theorem M_byteAt (hR : mOk oS R) (hM : MR I now a b fw fh since st) (ha : okP a) (x y : Int32) : (noIx a.2.1.length x → mAns (d_M_byteAt oS I R 210 x y) 1 0 (fun J => MR J now a b fw fh since st)) ∧ (∀ k t, a.2.1[k]? = some t → x = nI k → (noIx t.2.2.2.length y → mAns (d_M_byteAt oS I R 210 x y) 1 0 (fun J => MR J now a b fw fh since st)) ∧ (∀ j c, t.2.2.2[j]? = some c → y = nI j → mAns (d_M_byteAt oS I R 210 x y) 0 (nI c) (fun J => MR J now a b fw fh since st))) := by
  have l := ha.2.1.1
  obtain ⟨s1, s2⟩ := m_isTile hR hM ha x
  have bad : mAns (d_M_byteAt_29 oS I R 210 x y 210) 1 0 (fun J => MR J now a b fw fh since st) := by
    unfold d_M_byteAt_29 d_M_byteAt_34
    rw [ob, if_neg (up_le (by decide))]
    exact ⟨_, _, rfl, ax_up_self _ _ _ _, fun z => (by cases z), MR_c hM _⟩
  refine ⟨fun z => ?_, fun k t hk hx => ?_⟩
  · unfold d_M_byteAt
    rw [s1 z, ob, if_pos bF]
    exact bad
  have hlt : k < a.2.1.length := (List.getElem?_eq_some_iff.mp hk).1
  have nx : ¬ noIx a.2.1.length x := by
    rw [hx]
    obtain ⟨n1, n2⟩ := idx_no (by omega) hlt
    rintro (z | z)
    · exact n1 z
    · exact n2 z
  have hM' := hM
  obtain ⟨hn, n3, ⟨⟨p1, p2, p3, p4⟩, pt, pn⟩, hb', -⟩ := hM
  obtain ⟨⟨q1, q2, q3, q4, q5, q6⟩, q7⟩ := pt k t hk
  have lt := (ha.2.2.1 t (List.mem_of_getElem? hk)).2.2.2.1
  have e40 : (40 : Int32) * nI now + x = nI (40 * now + k) := by rw [hx, show (40 : Int32) = nI 40 from rfl, nI_mul, nI_add]
  obtain ⟨-, -, -, t6⟩ := mxT hR (show 40 * now + k < 80 by omega) e40
  unfold d_M_byteAt
  rw [s2 nx, ob, if_neg bT, mr_13 hR, ob]
  unfold d_M_tileAt
  rw [ob, n3, t6, ob, q6]
  refine ⟨fun z => ?_, fun j c hj hy => ?_⟩
  · rw [(m_inIx (by omega)).1 z, ob, if_pos bF]
    exact bad
  · have hjl : j < t.2.2.2.length := (List.getElem?_eq_some_iff.mp hj).1
    have ny : ¬ noIx t.2.2.2.length y := by
      rw [hy]
      obtain ⟨n1, n2⟩ := idx_no (by omega) hjl
      rintro (z | z)
      · exact n1 z
      · exact n2 z
    have e12 : (12 : Int32) * (40 * nI now + x) + y = nI (12 * (40 * now + k) + j) := by rw [e40, hy, show (12 : Int32) = nI 12 from rfl, nI_mul, nI_add]
    have tb := mxB hR (show 12 * (40 * now + k) + j < 960 by omega) e12
    rw [(m_inIx (by omega)).2 ny, ob, if_neg bT]
    unfold d_M_byteAt_34 d_M_tileAt
    rw [ob, if_pos (up_ge (by decide)), mr_14 hR, ob, ob, ax_up_ne (show ¬ (210 = 210 ∧ 3 = 0) by decide), n3, tb, ob, ax_up_ne (show ¬ (221 = 210 ∧ 12 * (40 * now + k) + j = 0) by omega), q7 j c hj]
    exact ⟨_, _, rfl, ax_up_self _ _ _ _, fun _ => rfl, MR_c hM' _⟩
def noV (n : Nt) (w : Int32) : Int32 := if w = 0 then nI n.1 else if w = 1 then nI n.2.1 else if w = 2 then nI n.2.2 else -1
theorem M_noteAt (hR : mOk oS R) (hM : MR I now a b fw fh since st) (ha : okP a) (x y : Int32) : (noIx a.2.2.length x → mAns (d_M_noteAt oS I R 210 x y) 1 0 (fun J => MR J now a b fw fh since st)) ∧ (∀ k n, a.2.2[k]? = some n → x = nI k → mAns (d_M_noteAt oS I R 210 x y) 0 (noV n y) (fun J => MR J now a b fw fh since st)) := by
  have l := ha.2.1.2
  have hM' := hM
  obtain ⟨hn, n3, ⟨⟨p1, p2, p3, p4⟩, pt, pn⟩, hb', -⟩ := hM
  obtain ⟨i1, i2, i3, i4⟩ := mx2 hR hn
  unfold d_M_noteAt
  rw [mr_7 hR, ob, n3, i4, ob, p4]
  refine ⟨fun z => ?_, fun k n hk hx => ?_⟩
  · unfold d_M_noteAt_25
    rw [(m_inIx (by omega)).1 z, ob, if_pos bF, ob, if_neg (up_le (by decide))]
    exact ⟨_, _, rfl, ax_up_self _ _ _ _, fun z => (by cases z), MR_c hM' _⟩
  have hlt : k < a.2.2.length := (List.getElem?_eq_some_iff.mp hk).1
  have nx : ¬ noIx a.2.2.length x := by
    rw [hx]
    obtain ⟨n1, n2⟩ := idx_no (by omega) hlt
    rintro (z | z)
    · exact n1 z
    · exact n2 z
  obtain ⟨q1, q2, q3⟩ := pn k n hk
  have e20 : (20 : Int32) * nI now + x = nI (20 * now + k) := by rw [hx, show (20 : Int32) = nI 20 from rfl, nI_mul, nI_add]
  obtain ⟨t1, t2, t3⟩ := mxN hR (show 20 * now + k < 40 by omega) e20
  have u : ∀ i m, i ≠ 210 → ax_up I 210 0 0 i m = I i m := fun i m z => ax_up_ne (by omega)
  unfold d_M_noteAt_25
  rw [(m_inIx (by omega)).2 nx, ob, if_neg bT, ob, if_pos (up_ge (by decide)), ax_up_ne (show ¬ (210 = 210 ∧ 3 = 0) by decide), n3]
  simp only [mr_15 hR, mr_16 hR, mr_17 hR, ob, t1, t2, t3, u 222 _ (by decide), u 223 _ (by decide), u 224 _ (by decide), q1, q2, q3]
  refine ⟨_, ax_up I 210 0 0, ?_, ax_up_self _ _ _ _, fun _ => rfl, MR_c hM' _⟩
  unfold noV
  by_cases z0 : y = 0
  · rw [if_pos z0, if_pos z0]
  rw [if_neg z0, if_neg z0]
  by_cases z1 : y = 1
  · rw [if_pos z1, if_pos z1]
  rw [if_neg z1, if_neg z1]
  by_cases z2 : y = 2
  · rw [if_pos z2, if_pos z2]
  rw [if_neg z2, if_neg z2]
theorem M_streamAt (hR : mOk oS R) (hM : MR I now a b fw fh since st) (hs : st.length ≤ 1148) (x : Int32) : (noIx st.length x → mAns (d_M_streamAt oS I R 210 x) 1 0 (fun J => MR J now a b fw fh since st)) ∧ (∀ j c, st[j]? = some c → x = nI j → mAns (d_M_streamAt oS I R 210 x) 0 (nI c) (fun J => MR J now a b fw fh since st)) := by
  have hM' := hM
  obtain ⟨hn, n3, -, -, -, -, -, f4, f5⟩ := hM
  unfold d_M_streamAt d_M_streamAt_20
  rw [f4]
  refine ⟨fun z => ?_, fun j c hj hx => ?_⟩
  · rw [(m_inIx (by omega)).1 z, ob, if_pos bF, ob, if_neg (up_le (by decide))]
    exact ⟨_, _, rfl, ax_up_self _ _ _ _, fun z => (by cases z), MR_c hM' _⟩
  · have hjl : j < st.length := (List.getElem?_eq_some_iff.mp hj).1
    have nx : ¬ noIx st.length x := by
      rw [hx]
      obtain ⟨n1, n2⟩ := idx_no (by omega) hjl
      rintro (z | z)
      · exact n1 z
      · exact n2 z
    rw [(m_inIx (by omega)).2 nx, ob, if_neg bT, ob, if_pos (up_ge (by decide)), mr_21 hR, ob, mxS hR (show j < 1200 by omega) hx, ob, ax_up_ne (show ¬ (226 = 210 ∧ j = 0) by omega), f5 j c hj]
    exact ⟨_, _, rfl, ax_up_self _ _ _ _, fun _ => rfl, MR_c hM' _⟩
def tellV (a b : Pc) (st : List Nat) (w : Int32) : Int32 := if w = 0 then nI a.1.1 else if w = 1 then nI a.1.2 else if w = 2 then nI a.2.1.length else if w = 3 then nI a.2.2.length else if w = 4 then nI st.length else if w = 5 then nI b.1.1 else if w = 6 then nI b.1.2 else if w = 7 then nI b.2.1.length else if w = 8 then nI b.2.2.length else -1
theorem M_told (hR : mOk oS R) (hM : MR I now a b fw fh since st) (x : Int32) : mAns (d_M_told oS I R 210 x) 0 (tellV a b st x) (fun J => MR J now a b fw fh since st) := by
  have hM' := MR_c hM 0
  obtain ⟨hn, n3, ⟨⟨p1, p2, p3, p4⟩, -, -⟩, ⟨⟨b1, b2, b3, b4⟩, -, -⟩, -, -, -, f4, -⟩ := MR_c hM 0
  obtain ⟨i1, i2, i3, i4⟩ := mx2 hR hn
  obtain ⟨j1, j2, j3, j4⟩ := mx2 hR (show 1 - now < 2 by omega)
  have e1 : (1 : Int32) - nI now = nI (1 - now) := by rw [show (1 : Int32) = nI 1 from rfl, nI_sub (by omega)]
  unfold d_M_told
  rw [ob, n3, e1]
  simp only [mr_4 hR, mr_5 hR, mr_6 hR, mr_7 hR, ob, i1, i2, i3, i4, j1, j2, j3, j4, p1, p2, p3, p4, b1, b2, b3, b4, f4]
  refine ⟨_, ax_up I 210 0 0, ?_, ax_up_self _ _ _ _, fun _ => rfl, hM'⟩
  unfold tellV
  by_cases z0 : x = 0
  · rw [if_pos z0, if_pos z0]
  rw [if_neg z0, if_neg z0]
  by_cases z1 : x = 1
  · rw [if_pos z1, if_pos z1]
  rw [if_neg z1, if_neg z1]
  by_cases z2 : x = 2
  · rw [if_pos z2, if_pos z2]
  rw [if_neg z2, if_neg z2]
  by_cases z3 : x = 3
  · rw [if_pos z3, if_pos z3]
  rw [if_neg z3, if_neg z3]
  by_cases z4 : x = 4
  · rw [if_pos z4, if_pos z4]
  rw [if_neg z4, if_neg z4]
  by_cases z5 : x = 5
  · rw [if_pos z5, if_pos z5]
  rw [if_neg z5, if_neg z5]
  by_cases z6 : x = 6
  · rw [if_pos z6, if_pos z6]
  rw [if_neg z6, if_neg z6]
  by_cases z7 : x = 7
  · rw [if_pos z7, if_pos z7]
  rw [if_neg z7, if_neg z7]
  by_cases z8 : x = 8
  · rw [if_pos z8, if_pos z8]
  rw [if_neg z8, if_neg z8]
theorem M_swap (hR : mOk oS R) (hM : MR I now a b fw fh since st) : mAns (d_M_swap oS I R 210) 0 (nI b.2.1.length) (fun J => MR J (1 - now) b a fw fh 0 st) := by
  obtain ⟨hn, n3, pa, pb, f1, f2, f3, f4, f5⟩ := hM
  obtain ⟨j1, j2, j3, j4⟩ := mx2 hR (show 1 - now < 2 by omega)
  have e1 : (1 : Int32) - nI now = nI (1 - now) := by rw [show (1 : Int32) = nI 1 from rfl, nI_sub (by omega)]
  unfold d_M_swap
  rw [ob, ob, ob, ob, mr_6 hR, ob, ax_up_ne (show ¬ (210 = 210 ∧ 3 = 19) by decide), ax_up_ne (show ¬ (210 = 210 ∧ 3 = 18) by decide), ax_up_self, ax_up_ne (show ¬ (210 = 210 ∧ 3 = 0) by decide), n3, e1, j3, ob]
  have k1 : ∀ i k, ¬ (i = 210 ∧ (k = 0 ∨ k = 3 ∨ k = 18 ∨ k = 19)) → ax_up (ax_up (ax_up (ax_up I 210 0 0) 210 3 (nI (1 - now))) 210 18 0) 210 19 0 i k = I i k := fun i k z => by rw [ax_up_ne (by omega), ax_up_ne (by omega), ax_up_ne (by omega), ax_up_ne (by omega)]
  refine ⟨_, _, rfl, ?_, fun _ => (k1 _ _ (by omega)).trans pb.1.2.2.1, by omega, ?_, ?_, ?_, (k1 _ _ (by omega)).trans f1, (k1 _ _ (by omega)).trans f2, ?_, (k1 _ _ (by omega)).trans f4, fun j c hj => (k1 _ _ (by omega)).trans (f5 j c hj)⟩
  · rw [ax_up_ne (by omega), ax_up_ne (by omega), ax_up_ne (by omega), ax_up_self]; rfl
  · rw [ax_up_ne (by omega), ax_up_ne (by omega), ax_up_self]
  · exact MP_up (by omega) (MP_up (by omega) (MP_up (by omega) (MP_up (by omega) pb)))
  · rw [show 1 - (1 - now) = now by omega]
    exact MP_up (by omega) (MP_up (by omega) (MP_up (by omega) (MP_up (by omega) pa)))
  · rw [ax_up_ne (by omega), ax_up_self]; rfl
theorem M_clear (hR : mOk oS R) (hM : MR I now a b fw fh since st) : ∃ J, d_M_clear oS I R 210 = some J ∧ MR J 0 ((fw, fh), [], []) ((fw, fh), [], []) fw fh 0 [] := by
  obtain ⟨hn, n3, pa, pb, f1, f2, f3, f4, f5⟩ := hM
  refine ⟨clr I, m_clear hR, by omega, rfl, ⟨⟨f1, f2, rfl, rfl⟩, fun k t hk => (by cases hk), fun k t hk => (by cases hk)⟩, ⟨⟨f1, f2, rfl, rfl⟩, fun k t hk => (by cases hk), fun k t hk => (by cases hk)⟩, f1, f2, rfl, rfl, fun j c hj => (by cases hj)⟩
theorem M_near (hR : mOk oS R) (hM : MR I now a b fw fh since st) (x : Int32) : ∃ v J, d_M_near oS I R 210 x = some (v, J) ∧ MR J now a b fw fh since st := by
  unfold d_M_near
  have q : ∀ c : Int32, (¬ c ≤ 0 ∨ ∃ j, j < 4 ∧ x = nI j) → ∃ v J, d_M_near_26 oS I R 210 x c 210 = some (v, J) ∧ MR J now a b fw fh since st := by
    intro c hc
    unfold d_M_near_26
    rw [ob]
    by_cases z : c ≤ 0
    · obtain ⟨j, hj, hx⟩ := hc.resolve_left (fun y => y z)
      rw [if_pos (up_ge z), mr_20 hR, ob, show ax_ix oS 225 x = some j from mx hR 14 (by omega) j hx hj, ob]
      exact ⟨_, _, rfl, MR_c hM _⟩
    · rw [if_neg (up_le z)]
      exact ⟨_, _, rfl, MR_c hM _⟩
  by_cases z : x < 0 ∨ 3 < x
  · rw [m_in_f z, ob, if_pos bF]
    exact q 1 (Or.inl (by decide))
  · have z1 : ¬ x < 0 := fun y => z (Or.inl y)
    have z2 : ¬ 3 < x := fun y => z (Or.inr y)
    rw [m_in_t z1 z2, ob, if_neg bT]
    obtain ⟨j, hj, hx⟩ := side_of z1 (fun y => z2 (by
      rw [Int32.lt_iff_toInt_lt]
      rw [Int32.le_iff_toInt_le] at y
      have a : (3 : Int32).toInt = 3 := rfl
      have b : (4 : Int32).toInt = 4 := rfl
      omega))
    split
    · exact q 2 (Or.inl (by decide))
    · exact q 0 (Or.inr ⟨j, hj, hx⟩)
end MS
/-! the reference: fits, nearest -/
/-- a border c fits: no tile lies on both sides -/
def fitT (up : Bool) (c : Nat) (t : Tl) : Bool := if up then decide (t.1.1 + t.2.1.1 ≤ c ∨ c ≤ t.1.1) else decide (t.1.2 + t.2.1.2 ≤ c ∨ c ≤ t.1.2)
theorem b_up (u : Bool) : (ax_b u = 0) = (u = false) := by cases u <;> simp [ax_b]
section MF
variable {I : ax_I} {R : ax_R} {now fw fh since : Nat} {a b : Pc} {st : List Nat}
theorem m_fits73 {S : ax_S} {f : ax_I → ax_R → Nat → Int32 → Int32 → Int32 → Int32 → Option Bool} {u c k p q : Nat} {g : Bool} (x1 : Int32) (hc : c < 2 ^ 31) (hp : p + q < 2 ^ 31) : d_M_fits_73 S f I R 210 x1 (nI c) (ax_b g) (nI k) (nI p) (nI q) (nI p) = f I R 210 x1 (nI c) (ax_b (g && decide (p + q ≤ c ∨ c ≤ p))) (nI (k + 1)) := by
  unfold d_M_fits_73 d_M_fits_96 d_M_fits_92 d_M_fits_97
  cases g with
  | false => rw [if_pos bF, nI_1]; rfl
  | true =>
    rw [if_neg bT, nI_add, nI_1]
    by_cases z1 : p + q ≤ c
    · rw [if_pos (nI_le z1 hc), decide_eq_true (Or.inl z1)]; rfl
    · rw [if_neg (nI_ge (by omega) hp)]
      by_cases z2 : c ≤ p
      · rw [if_neg (nI_nlt z2 (by omega)), decide_eq_true (Or.inr z2)]; rfl
      · rw [if_pos (nI_lt (by omega) hc), decide_eq_false (by omega)]; rfl
theorem m_fitsL (hR : mOk oS R) (hM : MR I now a b fw fh since st) (ha : okP a) {c : Nat} (hc : c < 2 ^ 31) (u : Bool) : ∀ (m n k : Nat) (g : Bool), k + m = a.2.1.length → m < n → d_M_fits_5 oS n I R 210 (ax_b u) (nI c) (ax_b g) (nI k) = some (g && (a.2.1.drop k).all (fitT u c)) := by
  obtain ⟨hn, n3, ⟨⟨p1, p2, p3, p4⟩, pt, pn⟩, hb', -⟩ := hM
  obtain ⟨-, -, ix, -⟩ := mx2 hR hn
  have l40 := ha.2.1.1
  intro m
  induction m with
  | zero =>
    intro n k g hk hn'
    obtain ⟨n, rfl⟩ : ∃ n', n = n' + 1 := ⟨n - 1, by omega⟩
    have hk : k = a.2.1.length := by omega
    subst hk
    rw [d_M_fits_5, mr_6 hR, ob, n3, ix, ob, p3, if_pos (nI_le (Nat.le_refl _) (by omega)), List.drop_length]
    cases g <;> rfl
  | succ m ih =>
    intro n k g hk hn'
    obtain ⟨n, rfl⟩ : ∃ n', n = n' + 1 := ⟨n - 1, by omega⟩
    have hlt : k < a.2.1.length := by omega
    obtain ⟨t, ht⟩ : ∃ t, a.2.1[k]? = some t := ⟨_, List.getElem?_eq_getElem hlt⟩
    obtain ⟨⟨q1, q2, q3, q4, q5, q6⟩, -⟩ := pt k t ht
    obtain ⟨-, ⟨o1, o2⟩, -⟩ := ha.2.2.1 t (List.mem_of_getElem? ht)
    have oW := ha.1
    have e40 : (40 : Int32) * nI now + nI k = nI (40 * now + k) := by rw [show (40 : Int32) = nI 40 from rfl, nI_mul, nI_add]
    obtain ⟨⟨t1, t2, t3⟩, t4, -, -⟩ := mxT hR (show 40 * now + k < 80 by omega) e40
    have ed : a.2.1.drop k = t :: a.2.1.drop (k + 1) := by rw [List.drop_eq_getElem_cons hlt]; congr 1; rw [List.getElem?_eq_getElem hlt] at ht; exact Option.some.inj ht
    rw [d_M_fits_5, mr_6 hR, ob, n3, ix, ob, p3, if_neg (nI_ge hlt (by omega))]
    unfold d_M_tileAt d_M_fits_48
    rw [ob, n3, ed, List.all_cons]
    simp only [mr_8 hR, mr_9 hR, mr_10 hR, mr_11 hR, ob, t1, t2, t3, t4, q1, q2, q3, q4]
    cases u with
    | false =>
      rw [if_pos bF, if_pos bF, m_fits73 (u := 0) _ hc (by omega), ih n (k + 1) _ (by omega) (by omega), Bool.and_assoc]
      rfl
    | true =>
      rw [if_neg bT, if_neg bT, m_fits73 (u := 0) _ hc (by omega), ih n (k + 1) _ (by omega) (by omega), Bool.and_assoc]
      rfl
theorem m_fits (hR : mOk oS R) (hM : MR I now a b fw fh since st) (ha : okP a) {c : Nat} (hc : c < 2 ^ 31) (u : Bool) : d_M_fits oS I R 210 (ax_b u) (nI c) = some (a.2.1.all (fitT u c)) := by
  have := m_fitsL hR hM ha hc u a.2.1.length 5000 0 true (by omega) (by have := ha.2.1.1; omega)
  rw [List.drop_zero, Bool.true_and] at this
  exact this
theorem m_nearL (hR : mOk oS R) (hM : MR I now a b fw fh since st) (ha : okP a) (u : Bool) (x2 : Int32) {mo : Nat} (hmo : mo ≤ 400) : ∀ (m n k : Nat) (x4 : Int32), k + m = mo + 1 → m < n → ∃ v, d_M_nearest_32 oS n I R 210 (ax_b u) x2 (nI mo) x4 (nI k) = some v := by
  intro m
  induction m with
  | zero =>
    intro n k x4 hk hn'
    obtain ⟨n, rfl⟩ : ∃ n', n = n' + 1 := ⟨n - 1, by omega⟩
    rw [d_M_nearest_32, if_pos (nI_lt (by omega) (by omega))]
    exact ⟨_, rfl⟩
  | succ m ih =>
    intro n k x4 hk hn'
    obtain ⟨n, rfl⟩ : ∃ n', n = n' + 1 := ⟨n - 1, by omega⟩
    have hi := ih n (k + 1)
    have q100 : ∀ y, ∃ v, d_M_nearest_100 oS (d_M_nearest_32 oS n) I R 210 (ax_b u) x2 (nI mo) (nI k) y = some v := by
      intro y
      unfold d_M_nearest_100
      rw [nI_1]
      exact hi y (by omega) (by omega)
    have q74 : ∀ x6 y, ∃ v, d_M_nearest_74 oS (d_M_nearest_32 oS n) I R 210 (ax_b u) x2 (nI mo) x4 (nI k) x6 y = some v := by
      intro x6 y
      unfold d_M_nearest_74 d_M_nearest_98
      rw [m_fits hR hM ha (by omega) u, ob]
      split
      · exact q100 _
      · split
        · exact q100 _
        · exact q100 _
    have q55 : ∀ y, ∃ v, d_M_nearest_55 oS (d_M_nearest_32 oS n) I R 210 (ax_b u) x2 (nI mo) x4 (nI k) y = some v := by
      intro y
      unfold d_M_nearest_55
      split
      · exact q74 _ _
      · exact q74 _ _
    rw [d_M_nearest_32, if_neg (nI_nlt (by omega) (by omega))]
    split
    · exact q55 _
    · exact q55 _
theorem m_nearest (hR : mOk oS R) (hM : MR I now a b fw fh since st) (ha : okP a) (u : Bool) (x2 : Int32) : ∃ v, d_M_nearest oS I R 210 (ax_b u) x2 = some v := by
  have hM' := hM
  obtain ⟨hn, n3, ⟨⟨p1, p2, p3, p4⟩, pt, pn⟩, hb', -⟩ := hM
  obtain ⟨i1, i2, -, -⟩ := mx2 hR hn
  have oW := ha.1
  unfold d_M_nearest d_M_nearest_25
  rw [mr_5 hR, ob, n3, i2, ob, p2, mr_4 hR, ob, i1, ob, p1]
  split
  · exact m_nearL hR hM' ha u x2 oW.2.2.2 (a.1.2 + 1) 5000 0 0 (by omega) (by omega)
  · exact m_nearL hR hM' ha u x2 oW.2.1 (a.1.1 + 1) 5000 0 0 (by omega) (by omega)
end MF
/-! the reference: move, crop -/
section MC
variable {I : ax_I} {R : ax_R} {now fw fh since : Nat} {a b : Pc} {st : List Nat}
theorem m_moveL (hR : mOk oS R) {K : ax_I} {f g : Nat} (hf : f < 80) (hg : g < 80) : ∀ (m n i : Nat) (J : ax_I), i + m = 12 → m < n → (∀ j, j < i → J 221 (12 * g + j) = K 221 (12 * f + j)) → (∀ c d, ¬ (c = 221 ∧ 12 * g ≤ d ∧ d < 12 * g + i) → J c d = K c d) → ∃ J', d_M_move_74 oS n J R 210 (nI f) (nI g) (nI i) = some J' ∧ (∀ j, j < 12 → J' 221 (12 * g + j) = K 221 (12 * f + j)) ∧ ∀ c d, ¬ (c = 221 ∧ 12 * g ≤ d ∧ d < 12 * g + 12) → J' c d = K c d := by
  intro m
  induction m with
  | zero =>
    intro n i J hi hn h1 h2
    obtain ⟨n, rfl⟩ : ∃ n', n = n' + 1 := ⟨n - 1, by omega⟩
    have hi : i = 12 := by omega
    subst hi
    rw [d_M_move_74, if_pos (by decide)]
    exact ⟨J, rfl, h1, h2⟩
  | succ m ih =>
    intro n i J hi hn h1 h2
    obtain ⟨n, rfl⟩ : ∃ n', n = n' + 1 := ⟨n - 1, by omega⟩
    have ef : (12 : Int32) * nI f + nI i = nI (12 * f + i) := by rw [show (12 : Int32) = nI 12 from rfl, nI_mul, nI_add]
    have eg : (12 : Int32) * nI g + nI i = nI (12 * g + i) := by rw [show (12 : Int32) = nI 12 from rfl, nI_mul, nI_add]
    rw [d_M_move_74, if_neg (show ¬ (12 : Int32) ≤ nI i from nI_ge (b := 12) (by omega) (by decide)), mr_14 hR, ob, ob, mxB hR (show 12 * f + i < 960 by omega) ef, ob, mxB hR (show 12 * g + i < 960 by omega) eg, ob, ob, nI_1]
    have hv : J 221 (12 * f + i) = K 221 (12 * f + i) := by
      by_cases e : f = g
      · subst e
        exact h2 _ _ (by omega)
      · exact h2 _ _ (by omega)
    refine ih n (i + 1) _ (by omega) (by omega) (fun j hj => ?_) (fun c d hcd => ?_)
    · by_cases e : j = i
      · subst e
        rw [ax_up_self]
        exact hv
      · rw [ax_up_ne (by omega)]
        exact h1 j (by omega)
    · rw [ax_up_ne (by omega)]
      exact h2 c d (by omega)
theorem m_move (hR : mOk oS R) (I : ax_I) {f g : Nat} (hf : f < 80) (hg : g < 80) : ∃ J, d_M_move oS I R 210 (nI f) (nI g) = some J ∧ (∀ i, 215 ≤ i → i ≤ 220 → J i g = I i f) ∧ (∀ j, j < 12 → J 221 (12 * g + j) = I 221 (12 * f + j)) ∧ ∀ i m, ¬ (215 ≤ i ∧ i ≤ 220 ∧ m = g) → ¬ (i = 221 ∧ 12 * g ≤ m ∧ m < 12 * g + 12) → J i m = I i m := by
  obtain ⟨⟨a1, a2, a3⟩, a4, a5, a6⟩ := mxT hR hf rfl
  obtain ⟨⟨b1, b2, b3⟩, b4, b5, b6⟩ := mxT hR hg rfl
  unfold d_M_move
  rw [mr_8 hR, ob, ob, a1, ob, b1, ob, ob, mr_9 hR, ob, ob, a2, ob, b2, ob, ob, mr_10 hR, ob, ob, a3, ob, b3, ob, ob, mr_11 hR, ob, ob, a4, ob, b4, ob, ob, mr_12 hR, ob, ob, a5, ob, b5, ob, ob, mr_13 hR, ob, ob, a6, ob, b6, ob, ob]
  obtain ⟨K, hK⟩ : ∃ K, K = ax_up (ax_up (ax_up (ax_up (ax_up (ax_up I 215 g (I 215 f)) 216 g (I 216 f)) 217 g (I 217 f)) 218 g (I 218 f)) 219 g (I 219 f)) 220 g (I 220 f) := ⟨_, rfl⟩
  rw [ax_up_ne (show ¬ (216 = 215 ∧ f = g) by omega), ax_up_ne (show ¬ (217 = 216 ∧ f = g) by omega), ax_up_ne (show ¬ (217 = 215 ∧ f = g) by omega), ax_up_ne (show ¬ (218 = 217 ∧ f = g) by omega), ax_up_ne (show ¬ (218 = 216 ∧ f = g) by omega), ax_up_ne (show ¬ (218 = 215 ∧ f = g) by omega), ax_up_ne (show ¬ (219 = 218 ∧ f = g) by omega), ax_up_ne (show ¬ (219 = 217 ∧ f = g) by omega), ax_up_ne (show ¬ (219 = 216 ∧ f = g) by omega), ax_up_ne (show ¬ (219 = 215 ∧ f = g) by omega), ax_up_ne (show ¬ (220 = 219 ∧ f = g) by omega), ax_up_ne (show ¬ (220 = 218 ∧ f = g) by omega), ax_up_ne (show ¬ (220 = 217 ∧ f = g) by omega), ax_up_ne (show ¬ (220 = 216 ∧ f = g) by omega), ax_up_ne (show ¬ (220 = 215 ∧ f = g) by omega), ← hK]
  obtain ⟨J, e, h1, h2⟩ := m_moveL hR (K := K) hf hg 12 5000 0 K (by omega) (by omega) (fun j hj => by omega) (fun c d _ => rfl)
  have k1 : ∀ i, 215 ≤ i → i ≤ 220 → K i g = I i f := by
    intro i z1 z2
    have : i = 215 ∨ i = 216 ∨ i = 217 ∨ i = 218 ∨ i = 219 ∨ i = 220 := by omega
    rw [hK]
    rcases this with rfl | rfl | rfl | rfl | rfl | rfl
    · rw [ax_up_ne (by omega), ax_up_ne (by omega), ax_up_ne (by omega), ax_up_ne (by omega), ax_up_ne (by omega), ax_up_self]
    · rw [ax_up_ne (by omega), ax_up_ne (by omega), ax_up_ne (by omega), ax_up_ne (by omega), ax_up_self]
    · rw [ax_up_ne (by omega), ax_up_ne (by omega), ax_up_ne (by omega), ax_up_self]
    · rw [ax_up_ne (by omega), ax_up_ne (by omega), ax_up_self]
    · rw [ax_up_ne (by omega), ax_up_self]
    · rw [ax_up_self]
  have k2 : ∀ i m, ¬ (215 ≤ i ∧ i ≤ 220 ∧ m = g) → K i m = I i m := by
    intro i m z
    rw [hK, ax_up_ne (by omega), ax_up_ne (by omega), ax_up_ne (by omega), ax_up_ne (by omega), ax_up_ne (by omega), ax_up_ne (by omega)]
  refine ⟨J, e, fun i z1 z2 => (h2 _ _ (by omega)).trans (k1 i z1 z2), fun j hj => (h1 j hj).trans (k2 _ _ (by omega)), fun i m z1 z2 => (h2 _ _ z2).trans (k2 _ _ z1)⟩
theorem MT_moved {I J : ax_I} {f g : Nat} {t : Tl} (h : MT I f t) (hl : t.2.2.2.length ≤ 12) (h1 : ∀ i, 215 ≤ i → i ≤ 220 → J i g = I i f) (h2 : ∀ j, j < 12 → J 221 (12 * g + j) = I 221 (12 * f + j)) : MT J g t := by
  obtain ⟨⟨q1, q2, q3, q4, q5, q6⟩, q7⟩ := h
  refine ⟨⟨(h1 _ (by omega) (by omega)).trans q1, (h1 _ (by omega) (by omega)).trans q2, (h1 _ (by omega) (by omega)).trans q3, (h1 _ (by omega) (by omega)).trans q4, (h1 _ (by omega) (by omega)).trans q5, (h1 _ (by omega) (by omega)).trans q6⟩, fun j c hj => ?_⟩
  have hjl : j < t.2.2.2.length := (List.getElem?_eq_some_iff.mp hj).1
  exact (h2 j (by omega)).trans (q7 j c hj)
/-- a tile's cells are kept -/
theorem MT_keep {I J : ax_I} {m : Nat} {t : Tl} (h : MT I m t) (hl : t.2.2.2.length ≤ 12) (h1 : ∀ i, 215 ≤ i → i ≤ 220 → J i m = I i m) (h2 : ∀ j, j < 12 → J 221 (12 * m + j) = I 221 (12 * m + j)) : MT J m t := MT_moved h hl h1 h2
/-- the place of a tile is moved -/
theorem MT_place {I : ax_I} {m : Nat} {t : Tl} (h : MT I m t) (x y : Nat) : MT (ax_up (ax_up I 215 m (nI x)) 216 m (nI y)) m ((x, y), t.2) := by
  obtain ⟨⟨q1, q2, q3, q4, q5, q6⟩, q7⟩ := h
  refine ⟨⟨?_, ?_, ?_, ?_, ?_, ?_⟩, fun j c hj => ?_⟩
  · rw [ax_up_ne (by omega), ax_up_self]
  · rw [ax_up_self]
  · rw [ax_up_ne (by omega), ax_up_ne (by omega)]; exact q3
  · rw [ax_up_ne (by omega), ax_up_ne (by omega)]; exact q4
  · rw [ax_up_ne (by omega), ax_up_ne (by omega)]; exact q5
  · rw [ax_up_ne (by omega), ax_up_ne (by omega)]; exact q6
  · rw [ax_up_ne (by omega), ax_up_ne (by omega)]; exact q7 j c hj
/-- cropping -/
def inT (x y w h : Nat) (t : Tl) : Bool := decide (x ≤ t.1.1 ∧ y ≤ t.1.2 ∧ t.1.1 + t.2.1.1 ≤ x + w ∧ t.1.2 + t.2.1.2 ≤ y + h)
def shT (x y : Nat) (t : Tl) : Tl := ((t.1.1 - x, t.1.2 - y), t.2)
def inN (x y w h : Nat) (n : Nt) : Bool := decide (x ≤ n.1 ∧ y ≤ n.2.1 ∧ n.1 < x + w ∧ n.2.1 < y + h)
def shN (x y : Nat) (n : Nt) : Nt := (n.1 - x, n.2.1 - y, n.2.2)
def cropP (p : Pc) (x y w h : Nat) : Pc := ((w, h), (p.2.1.filter (inT x y w h)).map (shT x y), (p.2.2.filter (inN x y w h)).map (shN x y))
/-- outside THIS one's tiles nothing has changed -/
def fTl (now : Nat) (I J : ax_I) : Prop := (∀ i m, i < 215 ∨ 221 < i → J i m = I i m) ∧ (∀ i m, 215 ≤ i → i ≤ 220 → ¬ (40 * now ≤ m ∧ m < 40 * now + 40) → J i m = I i m) ∧ ∀ m, ¬ (480 * now ≤ m ∧ m < 480 * now + 480) → J 221 m = I 221 m
theorem take_filter_len {α : Type} (p : α → Bool) (l : List α) (k : Nat) : ((l.take k).filter p).length ≤ k := Nat.le_trans (List.length_filter_le _ _) (by rw [List.length_take]; omega)
theorem take_succ_f {α : Type} {l : List α} {k : Nat} {t : α} (h : l[k]? = some t) : l.take (k + 1) = l.take k ++ [t] := by
  rw [List.take_succ, h]; rfl
theorem m_cropT (hR : mOk oS R) (hM : MR I now a b fw fh since st) (ha : okP a) {x y w h : Nat} (hx : x + w ≤ a.1.1) (hy : y + h ≤ a.1.2) (hfit : ∀ t ∈ a.2.1, (t.1.1 + t.2.1.1 ≤ x ∨ x ≤ t.1.1) ∧ (t.1.2 + t.2.1.2 ≤ y ∨ y ≤ t.1.2) ∧ (t.1.1 + t.2.1.1 ≤ x + w ∨ x + w ≤ t.1.1) ∧ (t.1.2 + t.2.1.2 ≤ y + h ∨ y + h ≤ t.1.2)) : ∀ (m n k : Nat) (J : ax_I), k + m = a.2.1.length → m < n → fTl now I J → (∀ j t, (((a.2.1.take k).filter (inT x y w h)).map (shT x y))[j]? = some t → MT J (40 * now + j) t) → (∀ j t, k ≤ j → a.2.1[j]? = some t → MT J (40 * now + j) t) → ∃ J', d_M_crop_159 oS n J R 210 (nI x) (nI y) (nI w) (nI h) (nI ((a.2.1.take k).filter (inT x y w h)).length) (nI k) = d_M_crop_304 oS 5000 (ax_up J' 213 now (nI (a.2.1.filter (inT x y w h)).length)) R 210 (nI x) (nI y) (nI w) (nI h) (nI (a.2.1.filter (inT x y w h)).length) 0 (nI (20 * now)) ∧ fTl now I J' ∧ ∀ j t, ((a.2.1.filter (inT x y w h)).map (shT x y))[j]? = some t → MT J' (40 * now + j) t := by
  obtain ⟨hn, n3, ⟨⟨p1, p2, p3, p4⟩, pt, pn⟩, hb', -⟩ := hM
  obtain ⟨-, -, ix, -⟩ := mx2 hR hn
  have l40 := ha.2.1.1
  have oW := ha.1
  intro m
  induction m with
  | zero =>
    intro n k J hk hn' hF hA hB
    obtain ⟨n, rfl⟩ : ∃ n', n = n' + 1 := ⟨n - 1, by omega⟩
    have hk : k = a.2.1.length := by omega
    subst hk
    rw [List.take_length] at hA ⊢
    rw [d_M_crop_159, mr_6 hR, ob, hF.1 210 3 (by omega), n3, ix, ob, hF.1 213 now (by omega), p3, if_pos (nI_le (Nat.le_refl _) (by omega)), ob, ix, ob, ob, ax_up_ne (show ¬ (210 = 213 ∧ 3 = now) by omega), hF.1 210 3 (by omega), n3, show (20 : Int32) = nI 20 from rfl, nI_mul]
    exact ⟨J, rfl, hF, hA⟩
  | succ m ih =>
    intro n k J hk hn' hF hA hB
    obtain ⟨n, rfl⟩ : ∃ n', n = n' + 1 := ⟨n - 1, by omega⟩
    have hlt : k < a.2.1.length := by omega
    obtain ⟨t, ht⟩ : ∃ t, a.2.1[k]? = some t := ⟨_, List.getElem?_eq_getElem hlt⟩
    have hT := hB k t (Nat.le_refl _) ht
    obtain ⟨⟨q1, q2, q3, q4, q5, q6⟩, -⟩ := hT
    obtain ⟨⟨s1, s2, s3, s4⟩, ⟨o1, o2⟩, -, hbl, -⟩ := ha.2.2.1 t (List.mem_of_getElem? ht)
    obtain ⟨f1, f2, f3, f4⟩ := hfit t (List.mem_of_getElem? ht)
    have e40 : (40 : Int32) * nI now + nI k = nI (40 * now + k) := by rw [show (40 : Int32) = nI 40 from rfl, nI_mul, nI_add]
    obtain ⟨⟨t1, t2, t3⟩, -⟩ := mxT hR (show 40 * now + k < 80 by omega) e40
    have hle := take_filter_len (inT x y w h) a.2.1 k
    have g3 := hF.1 210 3 (by omega)
    rw [d_M_crop_159, mr_6 hR, ob, g3, n3, ix, ob, hF.1 213 now (by omega), p3, if_neg (nI_ge hlt (by omega))]
    unfold d_M_tileAt
    rw [ob, g3, n3, mr_8 hR, ob, t1, ob, q1, ob, t1, ob, q1, mr_9 hR, ob, t2, ob, q2, ob, t2, ob, q2, nI_add, nI_add]
    have skip : inT x y w h t = false → ∃ J', d_M_crop_275 oS (d_M_crop_159 oS n) J R 210 (nI x) (nI y) (nI w) (nI h) (nI ((a.2.1.take k).filter (inT x y w h)).length) (nI k) = d_M_crop_304 oS 5000 (ax_up J' 213 now (nI (a.2.1.filter (inT x y w h)).length)) R 210 (nI x) (nI y) (nI w) (nI h) (nI (a.2.1.filter (inT x y w h)).length) 0 (nI (20 * now)) ∧ fTl now I J' ∧ ∀ j t, ((a.2.1.filter (inT x y w h)).map (shT x y))[j]? = some t → MT J' (40 * now + j) t := by
      intro hz
      unfold d_M_crop_275
      have et : (a.2.1.take (k + 1)).filter (inT x y w h) = (a.2.1.take k).filter (inT x y w h) := by
        rw [take_succ_f ht, List.filter_append, List.filter_cons, hz]
        simp
      have := ih n (k + 1) J (by omega) (by omega) hF (by rw [et]; exact hA) (fun j t' hj => hB j t' (by omega))
      rw [et] at this
      rw [nI_1]
      exact this
    by_cases z1 : t.1.1 < x
    · rw [if_pos (nI_lt z1 (by omega))]
      exact skip (decide_eq_false (by omega))
    rw [if_neg (nI_nlt (by omega) (by omega))]
    by_cases z2 : x + w ≤ t.1.1
    · rw [if_pos (nI_le z2 (by omega))]
      exact skip (decide_eq_false (by omega))
    rw [if_neg (nI_ge (by omega) (by omega))]
    by_cases z3 : t.1.2 < y
    · rw [if_pos (nI_lt z3 (by omega))]
      exact skip (decide_eq_false (by omega))
    rw [if_neg (nI_nlt (by omega) (by omega))]
    by_cases z4 : y + h ≤ t.1.2
    · rw [if_pos (nI_le z4 (by omega))]
      exact skip (decide_eq_false (by omega))
    rw [if_neg (nI_ge (by omega) (by omega))]
    have hz : inT x y w h t = true := decide_eq_true (by omega)
    obtain ⟨lf, hlf⟩ : ∃ lf, lf = ((a.2.1.take k).filter (inT x y w h)).length := ⟨_, rfl⟩
    rw [← hlf] at hle ⊢
    have el : (40 : Int32) * nI now + nI lf = nI (40 * now + lf) := by rw [show (40 : Int32) = nI 40 from rfl, nI_mul, nI_add]
    obtain ⟨⟨v1, v2, v3⟩, -⟩ := mxT hR (show 40 * now + lf < 80 by omega) rfl
    obtain ⟨J1, e1, m1, m2, m3⟩ := m_move hR J (show 40 * now + k < 80 by omega) (show 40 * now + lf < 80 by omega)
    have g31 : J1 210 3 = nI now := (m3 _ _ (by omega) (by omega)).trans (g3.trans n3)
    have gx : J1 215 (40 * now + lf) = nI t.1.1 := (m1 _ (by omega) (by omega)).trans q1
    have gy : J1 216 (40 * now + lf) = nI t.1.2 := (m1 _ (by omega) (by omega)).trans q2
    rw [ob, e40, el, e1, ob, ob, ob, g31, el, v1, ob, ob, ob, gx, nI_sub (by omega), ob, ob, ax_up_ne (show ¬ (210 = 215 ∧ 3 = 40 * now + lf) by omega), g31, el, v2, ob, ob, ob, ax_up_ne (show ¬ (216 = 215 ∧ 40 * now + lf = 40 * now + lf) by omega), gy, nI_sub (by omega)]
    obtain ⟨J2, hJ2⟩ : ∃ J2, J2 = ax_up (ax_up J1 215 (40 * now + lf) (nI (t.1.1 - x))) 216 (40 * now + lf) (nI (t.1.2 - y)) := ⟨_, rfl⟩
    have kk : ∀ i m, ¬ (215 ≤ i ∧ i ≤ 220 ∧ m = 40 * now + lf) → ¬ (i = 221 ∧ 12 * (40 * now + lf) ≤ m ∧ m < 12 * (40 * now + lf) + 12) → J2 i m = J i m := fun i m z1 z2 => by rw [hJ2, ax_up_ne (by omega), ax_up_ne (by omega)]; exact m3 i m z1 z2
    have et : (a.2.1.take (k + 1)).filter (inT x y w h) = (a.2.1.take k).filter (inT x y w h) ++ [t] := by
      rw [take_succ_f ht, List.filter_append, List.filter_cons, hz]
      simp
    have eln : ((a.2.1.take (k + 1)).filter (inT x y w h)).length = lf + 1 := by rw [et, List.length_append, ← hlf]; rfl
    rw [← hJ2, nI_1]
    unfold d_M_crop_275
    rw [nI_1]
    have := ih n (k + 1) J2 (by omega) (by omega) ⟨fun i m z => (kk _ _ (by omega) (by omega)).trans (hF.1 i m z), fun i m z1 z2 z3 => (kk _ _ (by omega) (by omega)).trans (hF.2.1 i m z1 z2 z3), fun m z => (kk _ _ (by omega) (by omega)).trans (hF.2.2 m z)⟩ (fun j t' hj => ?_) (fun j t' hj hj' => ?_)
    · rw [eln] at this
      exact this
    · rw [et, List.map_append] at hj
      have elm : (((a.2.1.take k).filter (inT x y w h)).map (shT x y)).length = lf := by rw [List.length_map, ← hlf]
      by_cases hjl : j < lf
      · rw [List.getElem?_append_left (by omega)] at hj
        have hbl' : t'.2.2.2.length ≤ 12 := by
          obtain ⟨t0, h0, rfl⟩ := List.mem_map.mp (List.mem_of_getElem? hj)
          have := List.mem_of_mem_take (List.mem_filter.mp h0).1
          exact (ha.2.2.1 t0 this).2.2.2.1
        exact MT_keep (hA j t' hj) hbl' (fun i z1 z2 => kk _ _ (by omega) (by omega)) (fun i z => kk _ _ (by omega) (by omega))
      · rw [List.getElem?_append_right (by omega), elm] at hj
        have hzz : j - lf < 1 := by
          have := (List.getElem?_eq_some_iff.mp hj).1
          simpa using this
        have hj2 : j = lf := by omega
        subst hj2
        simp at hj
        subst hj
        rw [hJ2]
        exact MT_place (MT_moved (hB k t (Nat.le_refl _) ht) hbl m1 m2) _ _
    · have hjl : j < a.2.1.length := (List.getElem?_eq_some_iff.mp hj').1
      exact MT_keep (hB j t' (by omega) hj') (ha.2.2.1 t' (List.mem_of_getElem? hj')).2.2.2.1 (fun i z1 z2 => kk _ _ (by omega) (by omega)) (fun i z => kk _ _ (by omega) (by omega))
end MC
/-! the reference: crop, its notes, and whole -/
section MC
variable {I : ax_I} {R : ax_R} {now fw fh since : Nat} {a b : Pc} {st : List Nat}
theorem m_moveN (hR : mOk oS R) (I : ax_I) {f g : Nat} (hf : f < 40) (hg : g < 40) : ∃ J, d_M_moveNote oS I R 210 (nI f) (nI g) = some J ∧ (∀ i, 222 ≤ i → i ≤ 224 → J i g = I i f) ∧ ∀ i m, ¬ (222 ≤ i ∧ i ≤ 224 ∧ m = g) → J i m = I i m := by
  obtain ⟨a1, a2, a3⟩ := mxN hR hf rfl
  obtain ⟨b1, b2, b3⟩ := mxN hR hg rfl
  unfold d_M_moveNote
  rw [mr_15 hR, ob, ob, a1, ob, b1, ob, ob, mr_16 hR, ob, ob, a2, ob, b2, ob, ob, mr_17 hR, ob, ob, a3, ob, b3, ob, ob]
  refine ⟨_, rfl, fun i z1 z2 => ?_, fun i m z => ?_⟩
  · have : i = 222 ∨ i = 223 ∨ i = 224 := by omega
    rcases this with rfl | rfl | rfl
    · rw [ax_up_ne (by omega), ax_up_ne (by omega), ax_up_self]
    · rw [ax_up_ne (by omega), ax_up_self, ax_up_ne (by omega)]
    · rw [ax_up_self, ax_up_ne (by omega), ax_up_ne (by omega)]
  · rw [ax_up_ne (by omega), ax_up_ne (by omega), ax_up_ne (by omega)]
def fNo (now : Nat) (I J : ax_I) : Prop := (∀ i m, i < 222 ∨ 224 < i → J i m = I i m) ∧ ∀ i m, 222 ≤ i → i ≤ 224 → ¬ (20 * now ≤ m ∧ m < 20 * now + 20) → J i m = I i m
theorem m_cropN (hR : mOk oS R) (hn : now < 2) (n3 : I 210 3 = nI now) (p4 : I 214 now = nI a.2.2.length) (ha : okP a) {x y w h : Nat} (w1 : 1 ≤ w) (h1 : 1 ≤ h) (hx : x + w ≤ a.1.1) (hy : y + h ≤ a.1.2) (x5 : Int32) : ∀ (m n k : Nat) (J : ax_I), k + m = a.2.2.length → m < n → fNo now I J → (∀ j t, (((a.2.2.take k).filter (inN x y w h)).map (shN x y))[j]? = some t → MN J (20 * now + j) t) → (∀ j t, k ≤ j → a.2.2[j]? = some t → MN J (20 * now + j) t) → ∃ J', d_M_crop_304 oS n J R 210 (nI x) (nI y) (nI w) (nI h) x5 (nI ((a.2.2.take k).filter (inN x y w h)).length) (nI (20 * now + k)) = some (x5, ax_up (ax_up (ax_up J' 214 now (nI (a.2.2.filter (inN x y w h)).length)) 211 now (nI w)) 212 now (nI h)) ∧ fNo now I J' ∧ ∀ j t, ((a.2.2.filter (inN x y w h)).map (shN x y))[j]? = some t → MN J' (20 * now + j) t := by
  obtain ⟨i1, i2, i3, i4⟩ := mx2 hR hn
  have l20 := ha.2.1.2
  have oW := ha.1
  have e20 : ∀ v, (20 : Int32) * nI now + nI v = nI (20 * now + v) := fun v => by rw [show (20 : Int32) = nI 20 from rfl, nI_mul, nI_add]
  intro m
  induction m with
  | zero =>
    intro n k J hk hn' hF hA hB
    obtain ⟨n, rfl⟩ : ∃ n', n = n' + 1 := ⟨n - 1, by omega⟩
    have hk : k = a.2.2.length := by omega
    subst hk
    rw [List.take_length] at hA ⊢
    have g3 := (hF.1 210 3 (by omega)).trans n3
    rw [d_M_crop_304, mr_7 hR, ob, g3, i4, ob, hF.1 214 now (by omega), p4, e20, if_pos (nI_le (Nat.le_refl _) (by omega)), ob, i4, ob, ob, mr_4 hR, ob, ax_up_ne (show ¬ (210 = 214 ∧ 3 = now) by omega), g3, i1, ob, ob, mr_5 hR, ob, ax_up_ne (show ¬ (210 = 211 ∧ 3 = now) by omega), ax_up_ne (show ¬ (210 = 214 ∧ 3 = now) by omega), g3, i2, ob, ob]
    exact ⟨J, rfl, hF, hA⟩
  | succ m ih =>
    intro n k J hk hn' hF hA hB
    obtain ⟨n, rfl⟩ : ∃ n', n = n' + 1 := ⟨n - 1, by omega⟩
    have hlt : k < a.2.2.length := by omega
    obtain ⟨t, ht⟩ : ∃ t, a.2.2[k]? = some t := ⟨_, List.getElem?_eq_getElem hlt⟩
    have hT := hB k t (Nat.le_refl _) ht
    obtain ⟨q1, q2, q3⟩ := hT
    obtain ⟨o1, o2, o3⟩ := ha.2.2.2.1 t (List.mem_of_getElem? ht)
    obtain ⟨t1, t2, t3⟩ := mxN hR (show 20 * now + k < 40 by omega) rfl
    have hle := take_filter_len (inN x y w h) a.2.2 k
    have g3 := (hF.1 210 3 (by omega)).trans n3
    have e1 : nI (x + w) - 1 = nI (x + w - 1) := nI_sub (b := 1) (by omega)
    have e2 : nI (y + h) - 1 = nI (y + h - 1) := nI_sub (b := 1) (by omega)
    rw [d_M_crop_304, mr_7 hR, ob, g3, i4, ob, hF.1 214 now (by omega), p4, e20, if_neg (nI_ge (by omega) (by omega)), mr_15 hR, ob, t1, ob, q1, nI_add, e1]
    have skip : inN x y w h t = false → ∃ J', d_M_crop_422 oS (d_M_crop_304 oS n) J R 210 (nI x) (nI y) (nI w) (nI h) x5 (nI ((a.2.2.take k).filter (inN x y w h)).length) (nI (20 * now + k)) = some (x5, ax_up (ax_up (ax_up J' 214 now (nI (a.2.2.filter (inN x y w h)).length)) 211 now (nI w)) 212 now (nI h)) ∧ fNo now I J' ∧ ∀ j t, ((a.2.2.filter (inN x y w h)).map (shN x y))[j]? = some t → MN J' (20 * now + j) t := by
      intro hz
      unfold d_M_crop_422
      have et : (a.2.2.take (k + 1)).filter (inN x y w h) = (a.2.2.take k).filter (inN x y w h) := by
        rw [take_succ_f ht, List.filter_append, List.filter_cons, hz]
        simp
      have := ih n (k + 1) J (by omega) (by omega) hF (by rw [et]; exact hA) (fun j t' hj => hB j t' (by omega))
      rw [et] at this
      rw [nI_1]
      exact this
    by_cases z1 : t.1 < x ∨ x + w - 1 < t.1
    · rw [m_in_f (z1.elim (fun z => Or.inl (nI_lt z (by omega))) (fun z => Or.inr (nI_lt z (by omega)))), ob, if_pos bF]
      exact skip (decide_eq_false (by omega))
    rw [m_in_t (nI_nlt (by omega) (by omega)) (nI_nlt (by omega) (by omega)), ob, if_neg bT, mr_16 hR, ob, t2, ob, q2, nI_add, e2]
    by_cases z2 : t.2.1 < y ∨ y + h - 1 < t.2.1
    · rw [m_in_f (z2.elim (fun z => Or.inl (nI_lt z (by omega))) (fun z => Or.inr (nI_lt z (by omega)))), ob, if_pos bF]
      exact skip (decide_eq_false (by omega))
    rw [m_in_t (nI_nlt (by omega) (by omega)) (nI_nlt (by omega) (by omega)), ob, if_neg bT]
    have hz : inN x y w h t = true := decide_eq_true (by omega)
    obtain ⟨lf, hlf⟩ : ∃ lf, lf = ((a.2.2.take k).filter (inN x y w h)).length := ⟨_, rfl⟩
    rw [← hlf] at hle ⊢
    obtain ⟨v1, v2, v3⟩ := mxN hR (show 20 * now + lf < 40 by omega) rfl
    obtain ⟨J1, f1, m1, m3⟩ := m_moveN hR J (show 20 * now + k < 40 by omega) (show 20 * now + lf < 40 by omega)
    have g31 : J1 210 3 = nI now := (m3 _ _ (by omega)).trans g3
    have gx : J1 222 (20 * now + lf) = nI t.1 := (m1 _ (by omega) (by omega)).trans q1
    have gy : J1 223 (20 * now + lf) = nI t.2.1 := (m1 _ (by omega) (by omega)).trans q2
    rw [e20, f1, ob, ob, g31, e20, v1, ob, ob, ob, gx, nI_sub (by omega), ob, ax_up_ne (show ¬ (210 = 222 ∧ 3 = 20 * now + lf) by omega), g31, e20, v2, ob, ob, ob, ax_up_ne (show ¬ (223 = 222 ∧ 20 * now + lf = 20 * now + lf) by omega), gy, nI_sub (by omega), nI_1]
    obtain ⟨J2, hJ2⟩ : ∃ J2, J2 = ax_up (ax_up J1 222 (20 * now + lf) (nI (t.1 - x))) 223 (20 * now + lf) (nI (t.2.1 - y)) := ⟨_, rfl⟩
    have kk : ∀ i m, ¬ (222 ≤ i ∧ i ≤ 224 ∧ m = 20 * now + lf) → J2 i m = J i m := fun i m z1 => by rw [hJ2, ax_up_ne (by omega), ax_up_ne (by omega)]; exact m3 i m z1
    have et : (a.2.2.take (k + 1)).filter (inN x y w h) = (a.2.2.take k).filter (inN x y w h) ++ [t] := by
      rw [take_succ_f ht, List.filter_append, List.filter_cons, hz]
      simp
    have eln : ((a.2.2.take (k + 1)).filter (inN x y w h)).length = lf + 1 := by rw [et, List.length_append, ← hlf]; rfl
    rw [← hJ2]
    unfold d_M_crop_422
    rw [nI_1]
    have := ih n (k + 1) J2 (by omega) (by omega) ⟨fun i m z => (kk _ _ (by omega)).trans (hF.1 i m z), fun i m z1 z2 z3 => (kk _ _ (by omega)).trans (hF.2 i m z1 z2 z3)⟩ (fun j t' hj => ?_) (fun j t' hj hj' => ?_)
    · rw [eln] at this
      exact this
    · rw [et, List.map_append] at hj
      have elm : (((a.2.2.take k).filter (inN x y w h)).map (shN x y)).length = lf := by rw [List.length_map, ← hlf]
      by_cases hjl : j < lf
      · rw [List.getElem?_append_left (by omega)] at hj
        obtain ⟨r1, r2, r3⟩ := hA j t' hj
        exact ⟨(kk _ _ (by omega)).trans r1, (kk _ _ (by omega)).trans r2, (kk _ _ (by omega)).trans r3⟩
      · rw [List.getElem?_append_right (by omega), elm] at hj
        have hzz : j - lf < 1 := by
          have := (List.getElem?_eq_some_iff.mp hj).1
          simpa using this
        have hj2 : j = lf := by omega
        subst hj2
        simp at hj
        subst hj
        rw [hJ2]
        refine ⟨?_, ?_, ?_⟩
        · rw [ax_up_ne (by omega), ax_up_self]; rfl
        · rw [ax_up_self]; rfl
        · rw [ax_up_ne (by omega), ax_up_ne (by omega)]
          exact (m1 _ (by omega) (by omega)).trans q3
    · have hjl : j < a.2.2.length := (List.getElem?_eq_some_iff.mp hj').1
      obtain ⟨r1, r2, r3⟩ := hB j t' (by omega) hj'
      exact ⟨(kk _ _ (by omega)).trans r1, (kk _ _ (by omega)).trans r2, (kk _ _ (by omega)).trans r3⟩
end MC
