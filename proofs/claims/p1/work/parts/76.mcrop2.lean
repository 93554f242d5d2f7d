/-! the reference: crop, its notes, and whole -/
section MC
variable {I : ax_I} {R : ax_R} {now fw fh since : Nat} {a b : Pc} {st : List Nat}
theorem m_moveN (hR : mOk oS R) (I : ax_I) {f g : Nat} (hf : f < 40) (hg : g < 40) : ∃ J, d_M_moveNote oS I R 210 (nI f) (nI g) = some J ∧ (∀ i, 222 ≤ i → i ≤ 224 → J i g = I i f) ∧ ∀ i m, ¬ (222 ≤ i ∧ i ≤ 224 ∧ m = g) → J i m = I i m := by
  obtain ⟨a1, a2, a3⟩ := mxN hR hf rfl
  obtain ⟨b1, b2, b3⟩ := mxN hR hg rfl
  unfold d_M_moveNote
  rw [mr_15 hR, ob, ob, a1, ob, b1, ob, ob, mr_16 hR, ob, ob, a2, ob, b2, ob, ob, mr_17 hR, ob, ob, a3, ob, b3, ob, ob]
  refine ⟨_, rfl, fun i z1 z2 => ?_, fun i m z => ?_⟩
  · have : i = 222 ∨ i = 223 ∨ i = 224 := by omega
    rcases this with rfl | rfl | rfl
    · rw [ax_up_ne (by omega), ax_up_ne (by omega), ax_up_self]
    · rw [ax_up_ne (by omega), ax_up_self, ax_up_ne (by omega)]
    · rw [ax_up_self, ax_up_ne (by omega), ax_up_ne (by omega)]
  · rw [ax_up_ne (by omega), ax_up_ne (by omega), ax_up_ne (by omega)]
def fNo (now : Nat) (I J : ax_I) : Prop := (∀ i m, i < 222 ∨ 224 < i → J i m = I i m) ∧ ∀ i m, 222 ≤ i → i ≤ 224 → ¬ (20 * now ≤ m ∧ m < 20 * now + 20) → J i m = I i m
theorem m_cropN (hR : mOk oS R) (hn : now < 2) (n3 : I 210 3 = nI now) (p4 : I 214 now = nI a.2.2.length) (ha : okP a) {x y w h : Nat} (w1 : 1 ≤ w) (h1 : 1 ≤ h) (hx : x + w ≤ a.1.1) (hy : y + h ≤ a.1.2) (x5 : Int32) : ∀ (m n k : Nat) (J : ax_I), k + m = a.2.2.length → m < n → fNo now I J → (∀ j t, (((a.2.2.take k).filter (inN x y w h)).map (shN x y))[j]? = some t → MN J (20 * now + j) t) → (∀ j t, k ≤ j → a.2.2[j]? = some t → MN J (20 * now + j) t) → ∃ J', d_M_crop_304 oS n J R 210 (nI x) (nI y) (nI w) (nI h) x5 (nI ((a.2.2.take k).filter (inN x y w h)).length) (nI (20 * now + k)) = some (x5, ax_up (ax_up (ax_up J' 214 now (nI (a.2.2.filter (inN x y w h)).length)) 211 now (nI w)) 212 now (nI h)) ∧ fNo now I J' ∧ ∀ j t, ((a.2.2.filter (inN x y w h)).map (shN x y))[j]? = some t → MN J' (20 * now + j) t := by
  obtain ⟨i1, i2, i3, i4⟩ := mx2 hR hn
  have l20 := ha.2.1.2
  have oW := ha.1
  have e20 : ∀ v, (20 : Int32) * nI now + nI v = nI (20 * now + v) := fun v => by rw [show (20 : Int32) = nI 20 from rfl, nI_mul, nI_add]
  intro m
  induction m with
  | zero =>
    intro n k J hk hn' hF hA hB
    obtain ⟨n, rfl⟩ : ∃ n', n = n' + 1 := ⟨n - 1, by omega⟩
    have hk : k = a.2.2.length := by omega
    subst hk
    rw [List.take_length] at hA ⊢
    have g3 := (hF.1 210 3 (by omega)).trans n3
    rw [d_M_crop_304, mr_7 hR, ob, g3, i4, ob, hF.1 214 now (by omega), p4, e20, if_pos (nI_le (Nat.le_refl _) (by omega)), ob, i4, ob, ob, mr_4 hR, ob, ax_up_ne (show ¬ (210 = 214 ∧ 3 = now) by omega), g3, i1, ob, ob, mr_5 hR, ob, ax_up_ne (show ¬ (210 = 211 ∧ 3 = now) by omega), ax_up_ne (show ¬ (210 = 214 ∧ 3 = now) by omega), g3, i2, ob, ob]
    exact ⟨J, rfl, hF, hA⟩
  | succ m ih =>
    intro n k J hk hn' hF hA hB
    obtain ⟨n, rfl⟩ : ∃ n', n = n' + 1 := ⟨n - 1, by omega⟩
    have hlt : k < a.2.2.length := by omega
    obtain ⟨t, ht⟩ : ∃ t, a.2.2[k]? = some t := ⟨_, List.getElem?_eq_getElem hlt⟩
    have hT := hB k t (Nat.le_refl _) ht
    obtain ⟨q1, q2, q3⟩ := hT
    obtain ⟨o1, o2, o3⟩ := ha.2.2.2.1 t (List.mem_of_getElem? ht)
    obtain ⟨t1, t2, t3⟩ := mxN hR (show 20 * now + k < 40 by omega) rfl
    have hle := take_filter_len (inN x y w h) a.2.2 k
    have g3 := (hF.1 210 3 (by omega)).trans n3
    have e1 : nI (x + w) - 1 = nI (x + w - 1) := nI_sub (b := 1) (by omega)
    have e2 : nI (y + h) - 1 = nI (y + h - 1) := nI_sub (b := 1) (by omega)
    rw [d_M_crop_304, mr_7 hR, ob, g3, i4, ob, hF.1 214 now (by omega), p4, e20, if_neg (nI_ge (by omega) (by omega)), mr_15 hR, ob, t1, ob, q1, nI_add, e1]
    have skip : inN x y w h t = false → ∃ J', d_M_crop_422 oS (d_M_crop_304 oS n) J R 210 (nI x) (nI y) (nI w) (nI h) x5 (nI ((a.2.2.take k).filter (inN x y w h)).length) (nI (20 * now + k)) = some (x5, ax_up (ax_up (ax_up J' 214 now (nI (a.2.2.filter (inN x y w h)).length)) 211 now (nI w)) 212 now (nI h)) ∧ fNo now I J' ∧ ∀ j t, ((a.2.2.filter (inN x y w h)).map (shN x y))[j]? = some t → MN J' (20 * now + j) t := by
      intro hz
      unfold d_M_crop_422
      have et : (a.2.2.take (k + 1)).filter (inN x y w h) = (a.2.2.take k).filter (inN x y w h) := by
        rw [take_succ_f ht, List.filter_append, List.filter_cons, hz]
        simp
      have := ih n (k + 1) J (by omega) (by omega) hF (by rw [et]; exact hA) (fun j t' hj => hB j t' (by omega))
      rw [et] at this
      rw [nI_1]
      exact this
    by_cases z1 : t.1 < x ∨ x + w - 1 < t.1
    · rw [m_in_f (z1.elim (fun z => Or.inl (nI_lt z (by omega))) (fun z => Or.inr (nI_lt z (by omega)))), ob, if_pos bF]
      exact skip (decide_eq_false (by omega))
    rw [m_in_t (nI_nlt (by omega) (by omega)) (nI_nlt (by omega) (by omega)), ob, if_neg bT, mr_16 hR, ob, t2, ob, q2, nI_add, e2]
    by_cases z2 : t.2.1 < y ∨ y + h - 1 < t.2.1
    · rw [m_in_f (z2.elim (fun z => Or.inl (nI_lt z (by omega))) (fun z => Or.inr (nI_lt z (by omega)))), ob, if_pos bF]
      exact skip (decide_eq_false (by omega))
    rw [m_in_t (nI_nlt (by omega) (by omega)) (nI_nlt (by omega) (by omega)), ob, if_neg bT]
    have hz : inN x y w h t = true := decide_eq_true (by omega)
    obtain ⟨lf, hlf⟩ : ∃ lf, lf = ((a.2.2.take k).filter (inN x y w h)).length := ⟨_, rfl⟩
    rw [← hlf] at hle ⊢
    obtain ⟨v1, v2, v3⟩ := mxN hR (show 20 * now + lf < 40 by omega) rfl
    obtain ⟨J1, f1, m1, m3⟩ := m_moveN hR J (show 20 * now + k < 40 by omega) (show 20 * now + lf < 40 by omega)
    have g31 : J1 210 3 = nI now := (m3 _ _ (by omega)).trans g3
    have gx : J1 222 (20 * now + lf) = nI t.1 := (m1 _ (by omega) (by omega)).trans q1
    have gy : J1 223 (20 * now + lf) = nI t.2.1 := (m1 _ (by omega) (by omega)).trans q2
    rw [e20, f1, ob, ob, g31, e20, v1, ob, ob, ob, gx, nI_sub (by omega), ob, ax_up_ne (show ¬ (210 = 222 ∧ 3 = 20 * now + lf) by omega), g31, e20, v2, ob, ob, ob, ax_up_ne (show ¬ (223 = 222 ∧ 20 * now + lf = 20 * now + lf) by omega), gy, nI_sub (by omega), nI_1]
    obtain ⟨J2, hJ2⟩ : ∃ J2, J2 = ax_up (ax_up J1 222 (20 * now + lf) (nI (t.1 - x))) 223 (20 * now + lf) (nI (t.2.1 - y)) := ⟨_, rfl⟩
    have kk : ∀ i m, ¬ (222 ≤ i ∧ i ≤ 224 ∧ m = 20 * now + lf) → J2 i m = J i m := fun i m z1 => by rw [hJ2, ax_up_ne (by omega), ax_up_ne (by omega)]; exact m3 i m z1
    have et : (a.2.2.take (k + 1)).filter (inN x y w h) = (a.2.2.take k).filter (inN x y w h) ++ [t] := by
      rw [take_succ_f ht, List.filter_append, List.filter_cons, hz]
      simp
    have eln : ((a.2.2.take (k + 1)).filter (inN x y w h)).length = lf + 1 := by rw [et, List.length_append, ← hlf]; rfl
    rw [← hJ2]
    unfold d_M_crop_422
    rw [nI_1]
    have := ih n (k + 1) J2 (by omega) (by omega) ⟨fun i m z => (kk _ _ (by omega)).trans (hF.1 i m z), fun i m z1 z2 z3 => (kk _ _ (by omega)).trans (hF.2 i m z1 z2 z3)⟩ (fun j t' hj => ?_) (fun j t' hj hj' => ?_)
    · rw [eln] at this
      exact this
    · rw [et, List.map_append] at hj
      have elm : (((a.2.2.take k).filter (inN x y w h)).map (shN x y)).length = lf := by rw [List.length_map, ← hlf]
      by_cases hjl : j < lf
      · rw [List.getElem?_append_left (by omega)] at hj
        obtain ⟨r1, r2, r3⟩ := hA j t' hj
        exact ⟨(kk _ _ (by omega)).trans r1, (kk _ _ (by omega)).trans r2, (kk _ _ (by omega)).trans r3⟩
      · rw [List.getElem?_append_right (by omega), elm] at hj
        have hzz : j - lf < 1 := by
          have := (List.getElem?_eq_some_iff.mp hj).1
          simpa using this
        have hj2 : j = lf := by omega
        subst hj2
        simp at hj
        subst hj
        rw [hJ2]
        refine ⟨?_, ?_, ?_⟩
        · rw [ax_up_ne (by omega), ax_up_self]; rfl
        · rw [ax_up_self]; rfl
        · rw [ax_up_ne (by omega), ax_up_ne (by omega)]
          exact (m1 _ (by omega) (by omega)).trans q3
    · have hjl : j < a.2.2.length := (List.getElem?_eq_some_iff.mp hj').1
      obtain ⟨r1, r2, r3⟩ := hB j t' (by omega) hj'
      exact ⟨(kk _ _ (by omega)).trans r1, (kk _ _ (by omega)).trans r2, (kk _ _ (by omega)).trans r3⟩
end MC
