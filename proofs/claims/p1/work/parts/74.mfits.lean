/-! the reference: fits, nearest -/
/-- a border c fits: no tile lies on both sides -/
def fitT (up : Bool) (c : Nat) (t : Tl) : Bool := if up then decide (t.1.1 + t.2.1.1 ≤ c ∨ c ≤ t.1.1) else decide (t.1.2 + t.2.1.2 ≤ c ∨ c ≤ t.1.2)
theorem b_up (u : Bool) : (ax_b u = 0) = (u = false) := by cases u <;> simp [ax_b]
section MF
variable {I : ax_I} {R : ax_R} {now fw fh since : Nat} {a b : Pc} {st : List Nat}
theorem m_fits73 {S : ax_S} {f : ax_I → ax_R → Nat → Int32 → Int32 → Int32 → Int32 → Option Bool} {u c k p q : Nat} {g : Bool} (x1 : Int32) (hc : c < 2 ^ 31) (hp : p + q < 2 ^ 31) : d_M_fits_73 S f I R 210 x1 (nI c) (ax_b g) (nI k) (nI p) (nI q) (nI p) = f I R 210 x1 (nI c) (ax_b (g && decide (p + q ≤ c ∨ c ≤ p))) (nI (k + 1)) := by
  unfold d_M_fits_73 d_M_fits_96 d_M_fits_92 d_M_fits_97
  cases g with
  | false => rw [if_pos bF, nI_1]; rfl
  | true =>
    rw [if_neg bT, nI_add, nI_1]
    by_cases z1 : p + q ≤ c
    · rw [if_pos (nI_le z1 hc), decide_eq_true (Or.inl z1)]; rfl
    · rw [if_neg (nI_ge (by omega) hp)]
      by_cases z2 : c ≤ p
      · rw [if_neg (nI_nlt z2 (by omega)), decide_eq_true (Or.inr z2)]; rfl
      · rw [if_pos (nI_lt (by omega) hc), decide_eq_false (by omega)]; rfl
theorem m_fitsL (hR : mOk oS R) (hM : MR I now a b fw fh since st) (ha : okP a) {c : Nat} (hc : c < 2 ^ 31) (u : Bool) : ∀ (m n k : Nat) (g : Bool), k + m = a.2.1.length → m < n → d_M_fits_5 oS n I R 210 (ax_b u) (nI c) (ax_b g) (nI k) = some (g && (a.2.1.drop k).all (fitT u c)) := by
  obtain ⟨hn, n3, ⟨⟨p1, p2, p3, p4⟩, pt, pn⟩, hb', -⟩ := hM
  obtain ⟨-, -, ix, -⟩ := mx2 hR hn
  have l40 := ha.2.1.1
  intro m
  induction m with
  | zero =>
    intro n k g hk hn'
    obtain ⟨n, rfl⟩ : ∃ n', n = n' + 1 := ⟨n - 1, by omega⟩
    have hk : k = a.2.1.length := by omega
    subst hk
    rw [d_M_fits_5, mr_6 hR, ob, n3, ix, ob, p3, if_pos (nI_le (Nat.le_refl _) (by omega)), List.drop_length]
    cases g <;> rfl
  | succ m ih =>
    intro n k g hk hn'
    obtain ⟨n, rfl⟩ : ∃ n', n = n' + 1 := ⟨n - 1, by omega⟩
    have hlt : k < a.2.1.length := by omega
    obtain ⟨t, ht⟩ : ∃ t, a.2.1[k]? = some t := ⟨_, List.getElem?_eq_getElem hlt⟩
    obtain ⟨⟨q1, q2, q3, q4, q5, q6⟩, -⟩ := pt k t ht
    obtain ⟨-, ⟨o1, o2⟩, -⟩ := ha.2.2.1 t (List.mem_of_getElem? ht)
    have oW := ha.1
    have e40 : (40 : Int32) * nI now + nI k = nI (40 * now + k) := by rw [show (40 : Int32) = nI 40 from rfl, nI_mul, nI_add]
    obtain ⟨⟨t1, t2, t3⟩, t4, -, -⟩ := mxT hR (show 40 * now + k < 80 by omega) e40
    have ed : a.2.1.drop k = t :: a.2.1.drop (k + 1) := by rw [List.drop_eq_getElem_cons hlt]; congr 1; rw [List.getElem?_eq_getElem hlt] at ht; exact Option.some.inj ht
    rw [d_M_fits_5, mr_6 hR, ob, n3, ix, ob, p3, if_neg (nI_ge hlt (by omega))]
    unfold d_M_tileAt d_M_fits_48
    rw [ob, n3, ed, List.all_cons]
    simp only [mr_8 hR, mr_9 hR, mr_10 hR, mr_11 hR, ob, t1, t2, t3, t4, q1, q2, q3, q4]
    cases u with
    | false =>
      rw [if_pos bF, if_pos bF, m_fits73 (u := 0) _ hc (by omega), ih n (k + 1) _ (by omega) (by omega), Bool.and_assoc]
      rfl
    | true =>
      rw [if_neg bT, if_neg bT, m_fits73 (u := 0) _ hc (by omega), ih n (k + 1) _ (by omega) (by omega), Bool.and_assoc]
      rfl
theorem m_fits (hR : mOk oS R) (hM : MR I now a b fw fh since st) (ha : okP a) {c : Nat} (hc : c < 2 ^ 31) (u : Bool) : d_M_fits oS I R 210 (ax_b u) (nI c) = some (a.2.1.all (fitT u c)) := by
  have := m_fitsL hR hM ha hc u a.2.1.length 5000 0 true (by omega) (by have := ha.2.1.1; omega)
  rw [List.drop_zero, Bool.true_and] at this
  exact this
theorem m_nearL (hR : mOk oS R) (hM : MR I now a b fw fh since st) (ha : okP a) (u : Bool) (x2 : Int32) {mo : Nat} (hmo : mo ≤ 400) : ∀ (m n k : Nat) (x4 : Int32), k + m = mo + 1 → m < n → ∃ v, d_M_nearest_32 oS n I R 210 (ax_b u) x2 (nI mo) x4 (nI k) = some v := by
  intro m
  induction m with
  | zero =>
    intro n k x4 hk hn'
    obtain ⟨n, rfl⟩ : ∃ n', n = n' + 1 := ⟨n - 1, by omega⟩
    rw [d_M_nearest_32, if_pos (nI_lt (by omega) (by omega))]
    exact ⟨_, rfl⟩
  | succ m ih =>
    intro n k x4 hk hn'
    obtain ⟨n, rfl⟩ : ∃ n', n = n' + 1 := ⟨n - 1, by omega⟩
    have hi := ih n (k + 1)
    have q100 : ∀ y, ∃ v, d_M_nearest_100 oS (d_M_nearest_32 oS n) I R 210 (ax_b u) x2 (nI mo) (nI k) y = some v := by
      intro y
      unfold d_M_nearest_100
      rw [nI_1]
      exact hi y (by omega) (by omega)
    have q74 : ∀ x6 y, ∃ v, d_M_nearest_74 oS (d_M_nearest_32 oS n) I R 210 (ax_b u) x2 (nI mo) x4 (nI k) x6 y = some v := by
      intro x6 y
      unfold d_M_nearest_74 d_M_nearest_98
      rw [m_fits hR hM ha (by omega) u, ob]
      split
      · exact q100 _
      · split
        · exact q100 _
        · exact q100 _
    have q55 : ∀ y, ∃ v, d_M_nearest_55 oS (d_M_nearest_32 oS n) I R 210 (ax_b u) x2 (nI mo) x4 (nI k) y = some v := by
      intro y
      unfold d_M_nearest_55
      split
      · exact q74 _ _
      · exact q74 _ _
    rw [d_M_nearest_32, if_neg (nI_nlt (by omega) (by omega))]
    split
    · exact q55 _
    · exact q55 _
theorem m_nearest (hR : mOk oS R) (hM : MR I now a b fw fh since st) (ha : okP a) (u : Bool) (x2 : Int32) : ∃ v, d_M_nearest oS I R 210 (ax_b u) x2 = some v := by
  have hM' := hM
  obtain ⟨hn, n3, ⟨⟨p1, p2, p3, p4⟩, pt, pn⟩, hb', -⟩ := hM
  obtain ⟨i1, i2, -, -⟩ := mx2 hR hn
  have oW := ha.1
  unfold d_M_nearest d_M_nearest_25
  rw [mr_5 hR, ob, n3, i2, ob, p2, mr_4 hR, ob, i1, ob, p1]
  split
  · exact m_nearL hR hM' ha u x2 oW.2.2.2 (a.1.2 + 1) 5000 0 0 (by omega) (by omega)
  · exact m_nearL hR hM' ha u x2 oW.2.1 (a.1.1 + 1) 5000 0 0 (by omega) (by omega)
end MF
