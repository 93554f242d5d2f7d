/-! the reference: move, crop -/
section MC
variable {I : ax_I} {R : ax_R} {now fw fh since : Nat} {a b : Pc} {st : List Nat}
theorem m_moveL (hR : mOk oS R) {K : ax_I} {f g : Nat} (hf : f < 80) (hg : g < 80) : ∀ (m n i : Nat) (J : ax_I), i + m = 12 → m < n → (∀ j, j < i → J 221 (12 * g + j) = K 221 (12 * f + j)) → (∀ c d, ¬ (c = 221 ∧ 12 * g ≤ d ∧ d < 12 * g + i) → J c d = K c d) → ∃ J', d_M_move_74 oS n J R 210 (nI f) (nI g) (nI i) = some J' ∧ (∀ j, j < 12 → J' 221 (12 * g + j) = K 221 (12 * f + j)) ∧ ∀ c d, ¬ (c = 221 ∧ 12 * g ≤ d ∧ d < 12 * g + 12) → J' c d = K c d := by
  intro m
  induction m with
  | zero =>
    intro n i J hi hn h1 h2
    obtain ⟨n, rfl⟩ : ∃ n', n = n' + 1 := ⟨n - 1, by omega⟩
    have hi : i = 12 := by omega
    subst hi
    rw [d_M_move_74, if_pos (by decide)]
    exact ⟨J, rfl, h1, h2⟩
  | succ m ih =>
    intro n i J hi hn h1 h2
    obtain ⟨n, rfl⟩ : ∃ n', n = n' + 1 := ⟨n - 1, by omega⟩
    have ef : (12 : Int32) * nI f + nI i = nI (12 * f + i) := by rw [show (12 : Int32) = nI 12 from rfl, nI_mul, nI_add]
    have eg : (12 : Int32) * nI g + nI i = nI (12 * g + i) := by rw [show (12 : Int32) = nI 12 from rfl, nI_mul, nI_add]
    rw [d_M_move_74, if_neg (show ¬ (12 : Int32) ≤ nI i from nI_ge (b := 12) (by omega) (by decide)), mr_14 hR, ob, ob, mxB hR (show 12 * f + i < 960 by omega) ef, ob, mxB hR (show 12 * g + i < 960 by omega) eg, ob, ob, nI_1]
    have hv : J 221 (12 * f + i) = K 221 (12 * f + i) := by
      by_cases e : f = g
      · subst e
        exact h2 _ _ (by omega)
      · exact h2 _ _ (by omega)
    refine ih n (i + 1) _ (by omega) (by omega) (fun j hj => ?_) (fun c d hcd => ?_)
    · by_cases e : j = i
      · subst e
        rw [ax_up_self]
        exact hv
      · rw [ax_up_ne (by omega)]
        exact h1 j (by omega)
    · rw [ax_up_ne (by omega)]
      exact h2 c d (by omega)
theorem m_move (hR : mOk oS R) (I : ax_I) {f g : Nat} (hf : f < 80) (hg : g < 80) : ∃ J, d_M_move oS I R 210 (nI f) (nI g) = some J ∧ (∀ i, 215 ≤ i → i ≤ 220 → J i g = I i f) ∧ (∀ j, j < 12 → J 221 (12 * g + j) = I 221 (12 * f + j)) ∧ ∀ i m, ¬ (215 ≤ i ∧ i ≤ 220 ∧ m = g) → ¬ (i = 221 ∧ 12 * g ≤ m ∧ m < 12 * g + 12) → J i m = I i m := by
  obtain ⟨⟨a1, a2, a3⟩, a4, a5, a6⟩ := mxT hR hf rfl
  obtain ⟨⟨b1, b2, b3⟩, b4, b5, b6⟩ := mxT hR hg rfl
  unfold d_M_move
  rw [mr_8 hR, ob, ob, a1, ob, b1, ob, ob, mr_9 hR, ob, ob, a2, ob, b2, ob, ob, mr_10 hR, ob, ob, a3, ob, b3, ob, ob, mr_11 hR, ob, ob, a4, ob, b4, ob, ob, mr_12 hR, ob, ob, a5, ob, b5, ob, ob, mr_13 hR, ob, ob, a6, ob, b6, ob, ob]
  obtain ⟨K, hK⟩ : ∃ K, K = ax_up (ax_up (ax_up (ax_up (ax_up (ax_up I 215 g (I 215 f)) 216 g (I 216 f)) 217 g (I 217 f)) 218 g (I 218 f)) 219 g (I 219 f)) 220 g (I 220 f) := ⟨_, rfl⟩
  rw [ax_up_ne (show ¬ (216 = 215 ∧ f = g) by omega), ax_up_ne (show ¬ (217 = 216 ∧ f = g) by omega), ax_up_ne (show ¬ (217 = 215 ∧ f = g) by omega), ax_up_ne (show ¬ (218 = 217 ∧ f = g) by omega), ax_up_ne (show ¬ (218 = 216 ∧ f = g) by omega), ax_up_ne (show ¬ (218 = 215 ∧ f = g) by omega), ax_up_ne (show ¬ (219 = 218 ∧ f = g) by omega), ax_up_ne (show ¬ (219 = 217 ∧ f = g) by omega), ax_up_ne (show ¬ (219 = 216 ∧ f = g) by omega), ax_up_ne (show ¬ (219 = 215 ∧ f = g) by omega), ax_up_ne (show ¬ (220 = 219 ∧ f = g) by omega), ax_up_ne (show ¬ (220 = 218 ∧ f = g) by omega), ax_up_ne (show ¬ (220 = 217 ∧ f = g) by omega), ax_up_ne (show ¬ (220 = 216 ∧ f = g) by omega), ax_up_ne (show ¬ (220 = 215 ∧ f = g) by omega), ← hK]
  obtain ⟨J, e, h1, h2⟩ := m_moveL hR (K := K) hf hg 12 5000 0 K (by omega) (by omega) (fun j hj => by omega) (fun c d _ => rfl)
  have k1 : ∀ i, 215 ≤ i → i ≤ 220 → K i g = I i f := by
    intro i z1 z2
    have : i = 215 ∨ i = 216 ∨ i = 217 ∨ i = 218 ∨ i = 219 ∨ i = 220 := by omega
    rw [hK]
    rcases this with rfl | rfl | rfl | rfl | rfl | rfl
    · rw [ax_up_ne (by omega), ax_up_ne (by omega), ax_up_ne (by omega), ax_up_ne (by omega), ax_up_ne (by omega), ax_up_self]
    · rw [ax_up_ne (by omega), ax_up_ne (by omega), ax_up_ne (by omega), ax_up_ne (by omega), ax_up_self]
    · rw [ax_up_ne (by omega), ax_up_ne (by omega), ax_up_ne (by omega), ax_up_self]
    · rw [ax_up_ne (by omega), ax_up_ne (by omega), ax_up_self]
    · rw [ax_up_ne (by omega), ax_up_self]
    · rw [ax_up_self]
  have k2 : ∀ i m, ¬ (215 ≤ i ∧ i ≤ 220 ∧ m = g) → K i m = I i m := by
    intro i m z
    rw [hK, ax_up_ne (by omega), ax_up_ne (by omega), ax_up_ne (by omega), ax_up_ne (by omega), ax_up_ne (by omega), ax_up_ne (by omega)]
  refine ⟨J, e, fun i z1 z2 => (h2 _ _ (by omega)).trans (k1 i z1 z2), fun j hj => (h1 j hj).trans (k2 _ _ (by omega)), fun i m z1 z2 => (h2 _ _ z2).trans (k2 _ _ z1)⟩
theorem MT_moved {I J : ax_I} {f g : Nat} {t : Tl} (h : MT I f t) (hl : t.2.2.2.length ≤ 12) (h1 : ∀ i, 215 ≤ i → i ≤ 220 → J i g = I i f) (h2 : ∀ j, j < 12 → J 221 (12 * g + j) = I 221 (12 * f + j)) : MT J g t := by
  obtain ⟨⟨q1, q2, q3, q4, q5, q6⟩, q7⟩ := h
  refine ⟨⟨(h1 _ (by omega) (by omega)).trans q1, (h1 _ (by omega) (by omega)).trans q2, (h1 _ (by omega) (by omega)).trans q3, (h1 _ (by omega) (by omega)).trans q4, (h1 _ (by omega) (by omega)).trans q5, (h1 _ (by omega) (by omega)).trans q6⟩, fun j c hj => ?_⟩
  have hjl : j < t.2.2.2.length := (List.getElem?_eq_some_iff.mp hj).1
  exact (h2 j (by omega)).trans (q7 j c hj)
/-- a tile's cells are kept -/
theorem MT_keep {I J : ax_I} {m : Nat} {t : Tl} (h : MT I m t) (hl : t.2.2.2.length ≤ 12) (h1 : ∀ i, 215 ≤ i → i ≤ 220 → J i m = I i m) (h2 : ∀ j, j < 12 → J 221 (12 * m + j) = I 221 (12 * m + j)) : MT J m t := MT_moved h hl h1 h2
/-- the place of a tile is moved -/
theorem MT_place {I : ax_I} {m : Nat} {t : Tl} (h : MT I m t) (x y : Nat) : MT (ax_up (ax_up I 215 m (nI x)) 216 m (nI y)) m ((x, y), t.2) := by
  obtain ⟨⟨q1, q2, q3, q4, q5, q6⟩, q7⟩ := h
  refine ⟨⟨?_, ?_, ?_, ?_, ?_, ?_⟩, fun j c hj => ?_⟩
  · rw [ax_up_ne (by omega), ax_up_self]
  · rw [ax_up_self]
  · rw [ax_up_ne (by omega), ax_up_ne (by omega)]; exact q3
  · rw [ax_up_ne (by omega), ax_up_ne (by omega)]; exact q4
  · rw [ax_up_ne (by omega), ax_up_ne (by omega)]; exact q5
  · rw [ax_up_ne (by omega), ax_up_ne (by omega)]; exact q6
  · rw [ax_up_ne (by omega), ax_up_ne (by omega)]; exact q7 j c hj
/-- cropping -/
def inT (x y w h : Nat) (t : Tl) : Bool := decide (x ≤ t.1.1 ∧ y ≤ t.1.2 ∧ t.1.1 + t.2.1.1 ≤ x + w ∧ t.1.2 + t.2.1.2 ≤ y + h)
def shT (x y : Nat) (t : Tl) : Tl := ((t.1.1 - x, t.1.2 - y), t.2)
def inN (x y w h : Nat) (n : Nt) : Bool := decide (x ≤ n.1 ∧ y ≤ n.2.1 ∧ n.1 < x + w ∧ n.2.1 < y + h)
def shN (x y : Nat) (n : Nt) : Nt := (n.1 - x, n.2.1 - y, n.2.2)
def cropP (p : Pc) (x y w h : Nat) : Pc := ((w, h), (p.2.1.filter (inT x y w h)).map (shT x y), (p.2.2.filter (inN x y w h)).map (shN x y))
/-- outside THIS one's tiles nothing has changed -/
def fTl (now : Nat) (I J : ax_I) : Prop := (∀ i m, i < 215 ∨ 221 < i → J i m = I i m) ∧ (∀ i m, 215 ≤ i → i ≤ 220 → ¬ (40 * now ≤ m ∧ m < 40 * now + 40) → J i m = I i m) ∧ ∀ m, ¬ (480 * now ≤ m ∧ m < 480 * now + 480) → J 221 m = I 221 m
theorem take_filter_len {α : Type} (p : α → Bool) (l : List α) (k : Nat) : ((l.take k).filter p).length ≤ k := Nat.le_trans (List.length_filter_le _ _) (by rw [List.length_take]; omega)
theorem take_succ_f {α : Type} {l : List α} {k : Nat} {t : α} (h : l[k]? = some t) : l.take (k + 1) = l.take k ++ [t] := by
  rw [List.take_succ, h]; rfl
theorem m_cropT (hR : mOk oS R) (hM : MR I now a b fw fh since st) (ha : okP a) {x y w h : Nat} (hx : x + w ≤ a.1.1) (hy : y + h ≤ a.1.2) (hfit : ∀ t ∈ a.2.1, (t.1.1 + t.2.1.1 ≤ x ∨ x ≤ t.1.1) ∧ (t.1.2 + t.2.1.2 ≤ y ∨ y ≤ t.1.2) ∧ (t.1.1 + t.2.1.1 ≤ x + w ∨ x + w ≤ t.1.1) ∧ (t.1.2 + t.2.1.2 ≤ y + h ∨ y + h ≤ t.1.2)) : ∀ (m n k : Nat) (J : ax_I), k + m = a.2.1.length → m < n → fTl now I J → (∀ j t, (((a.2.1.take k).filter (inT x y w h)).map (shT x y))[j]? = some t → MT J (40 * now + j) t) → (∀ j t, k ≤ j → a.2.1[j]? = some t → MT J (40 * now + j) t) → ∃ J', d_M_crop_159 oS n J R 210 (nI x) (nI y) (nI w) (nI h) (nI ((a.2.1.take k).filter (inT x y w h)).length) (nI k) = d_M_crop_304 oS 5000 (ax_up J' 213 now (nI (a.2.1.filter (inT x y w h)).length)) R 210 (nI x) (nI y) (nI w) (nI h) (nI (a.2.1.filter (inT x y w h)).length) 0 (nI (20 * now)) ∧ fTl now I J' ∧ ∀ j t, ((a.2.1.filter (inT x y w h)).map (shT x y))[j]? = some t → MT J' (40 * now + j) t := by
  obtain ⟨hn, n3, ⟨⟨p1, p2, p3, p4⟩, pt, pn⟩, hb', -⟩ := hM
  obtain ⟨-, -, ix, -⟩ := mx2 hR hn
  have l40 := ha.2.1.1
  have oW := ha.1
  intro m
  induction m with
  | zero =>
    intro n k J hk hn' hF hA hB
    obtain ⟨n, rfl⟩ : ∃ n', n = n' + 1 := ⟨n - 1, by omega⟩
    have hk : k = a.2.1.length := by omega
    subst hk
    rw [List.take_length] at hA ⊢
    rw [d_M_crop_159, mr_6 hR, ob, hF.1 210 3 (by omega), n3, ix, ob, hF.1 213 now (by omega), p3, if_pos (nI_le (Nat.le_refl _) (by omega)), ob, ix, ob, ob, ax_up_ne (show ¬ (210 = 213 ∧ 3 = now) by omega), hF.1 210 3 (by omega), n3, show (20 : Int32) = nI 20 from rfl, nI_mul]
    exact ⟨J, rfl, hF, hA⟩
  | succ m ih =>
    intro n k J hk hn' hF hA hB
    obtain ⟨n, rfl⟩ : ∃ n', n = n' + 1 := ⟨n - 1, by omega⟩
    have hlt : k < a.2.1.length := by omega
    obtain ⟨t, ht⟩ : ∃ t, a.2.1[k]? = some t := ⟨_, List.getElem?_eq_getElem hlt⟩
    have hT := hB k t (Nat.le_refl _) ht
    obtain ⟨⟨q1, q2, q3, q4, q5, q6⟩, -⟩ := hT
    obtain ⟨⟨s1, s2, s3, s4⟩, ⟨o1, o2⟩, -, hbl, -⟩ := ha.2.2.1 t (List.mem_of_getElem? ht)
    obtain ⟨f1, f2, f3, f4⟩ := hfit t (List.mem_of_getElem? ht)
    have e40 : (40 : Int32) * nI now + nI k = nI (40 * now + k) := by rw [show (40 : Int32) = nI 40 from rfl, nI_mul, nI_add]
    obtain ⟨⟨t1, t2, t3⟩, -⟩ := mxT hR (show 40 * now + k < 80 by omega) e40
    have hle := take_filter_len (inT x y w h) a.2.1 k
    have g3 := hF.1 210 3 (by omega)
    rw [d_M_crop_159, mr_6 hR, ob, g3, n3, ix, ob, hF.1 213 now (by omega), p3, if_neg (nI_ge hlt (by omega))]
    unfold d_M_tileAt
    rw [ob, g3, n3, mr_8 hR, ob, t1, ob, q1, ob, t1, ob, q1, mr_9 hR, ob, t2, ob, q2, ob, t2, ob, q2, nI_add, nI_add]
    have skip : inT x y w h t = false → ∃ J', d_M_crop_275 oS (d_M_crop_159 oS n) J R 210 (nI x) (nI y) (nI w) (nI h) (nI ((a.2.1.take k).filter (inT x y w h)).length) (nI k) = d_M_crop_304 oS 5000 (ax_up J' 213 now (nI (a.2.1.filter (inT x y w h)).length)) R 210 (nI x) (nI y) (nI w) (nI h) (nI (a.2.1.filter (inT x y w h)).length) 0 (nI (20 * now)) ∧ fTl now I J' ∧ ∀ j t, ((a.2.1.filter (inT x y w h)).map (shT x y))[j]? = some t → MT J' (40 * now + j) t := by
      intro hz
      unfold d_M_crop_275
      have et : (a.2.1.take (k + 1)).filter (inT x y w h) = (a.2.1.take k).filter (inT x y w h) := by
        rw [take_succ_f ht, List.filter_append, List.filter_cons, hz]
        simp
      have := ih n (k + 1) J (by omega) (by omega) hF (by rw [et]; exact hA) (fun j t' hj => hB j t' (by omega))
      rw [et] at this
      rw [nI_1]
      exact this
    by_cases z1 : t.1.1 < x
    · rw [if_pos (nI_lt z1 (by omega))]
      exact skip (decide_eq_false (by omega))
    rw [if_neg (nI_nlt (by omega) (by omega))]
    by_cases z2 : x + w ≤ t.1.1
    · rw [if_pos (nI_le z2 (by omega))]
      exact skip (decide_eq_false (by omega))
    rw [if_neg (nI_ge (by omega) (by omega))]
    by_cases z3 : t.1.2 < y
    · rw [if_pos (nI_lt z3 (by omega))]
      exact skip (decide_eq_false (by omega))
    rw [if_neg (nI_nlt (by omega) (by omega))]
    by_cases z4 : y + h ≤ t.1.2
    · rw [if_pos (nI_le z4 (by omega))]
      exact skip (decide_eq_false (by omega))
    rw [if_neg (nI_ge (by omega) (by omega))]
    have hz : inT x y w h t = true := decide_eq_true (by omega)
    obtain ⟨lf, hlf⟩ : ∃ lf, lf = ((a.2.1.take k).filter (inT x y w h)).length := ⟨_, rfl⟩
    rw [← hlf] at hle ⊢
    have el : (40 : Int32) * nI now + nI lf = nI (40 * now + lf) := by rw [show (40 : Int32) = nI 40 from rfl, nI_mul, nI_add]
    obtain ⟨⟨v1, v2, v3⟩, -⟩ := mxT hR (show 40 * now + lf < 80 by omega) rfl
    obtain ⟨J1, e1, m1, m2, m3⟩ := m_move hR J (show 40 * now + k < 80 by omega) (show 40 * now + lf < 80 by omega)
    have g31 : J1 210 3 = nI now := (m3 _ _ (by omega) (by omega)).trans (g3.trans n3)
    have gx : J1 215 (40 * now + lf) = nI t.1.1 := (m1 _ (by omega) (by omega)).trans q1
    have gy : J1 216 (40 * now + lf) = nI t.1.2 := (m1 _ (by omega) (by omega)).trans q2
    rw [ob, e40, el, e1, ob, ob, ob, g31, el, v1, ob, ob, ob, gx, nI_sub (by omega), ob, ob, ax_up_ne (show ¬ (210 = 215 ∧ 3 = 40 * now + lf) by omega), g31, el, v2, ob, ob, ob, ax_up_ne (show ¬ (216 = 215 ∧ 40 * now + lf = 40 * now + lf) by omega), gy, nI_sub (by omega)]
    obtain ⟨J2, hJ2⟩ : ∃ J2, J2 = ax_up (ax_up J1 215 (40 * now + lf) (nI (t.1.1 - x))) 216 (40 * now + lf) (nI (t.1.2 - y)) := ⟨_, rfl⟩
    have kk : ∀ i m, ¬ (215 ≤ i ∧ i ≤ 220 ∧ m = 40 * now + lf) → ¬ (i = 221 ∧ 12 * (40 * now + lf) ≤ m ∧ m < 12 * (40 * now + lf) + 12) → J2 i m = J i m := fun i m z1 z2 => by rw [hJ2, ax_up_ne (by omega), ax_up_ne (by omega)]; exact m3 i m z1 z2
    have et : (a.2.1.take (k + 1)).filter (inT x y w h) = (a.2.1.take k).filter (inT x y w h) ++ [t] := by
      rw [take_succ_f ht, List.filter_append, List.filter_cons, hz]
      simp
    have eln : ((a.2.1.take (k + 1)).filter (inT x y w h)).length = lf + 1 := by rw [et, List.length_append, ← hlf]; rfl
    rw [← hJ2, nI_1]
    unfold d_M_crop_275
    rw [nI_1]
    have := ih n (k + 1) J2 (by omega) (by omega) ⟨fun i m z => (kk _ _ (by omega) (by omega)).trans (hF.1 i m z), fun i m z1 z2 z3 => (kk _ _ (by omega) (by omega)).trans (hF.2.1 i m z1 z2 z3), fun m z => (kk _ _ (by omega) (by omega)).trans (hF.2.2 m z)⟩ (fun j t' hj => ?_) (fun j t' hj hj' => ?_)
    · rw [eln] at this
      exact this
    · rw [et, List.map_append] at hj
      have elm : (((a.2.1.take k).filter (inT x y w h)).map (shT x y)).length = lf := by rw [List.length_map, ← hlf]
      by_cases hjl : j < lf
      · rw [List.getElem?_append_left (by omega)] at hj
        have hbl' : t'.2.2.2.length ≤ 12 := by
          obtain ⟨t0, h0, rfl⟩ := List.mem_map.mp (List.mem_of_getElem? hj)
          have := List.mem_of_mem_take (List.mem_filter.mp h0).1
          exact (ha.2.2.1 t0 this).2.2.2.1
        exact MT_keep (hA j t' hj) hbl' (fun i z1 z2 => kk _ _ (by omega) (by omega)) (fun i z => kk _ _ (by omega) (by omega))
      · rw [List.getElem?_append_right (by omega), elm] at hj
        have hzz : j - lf < 1 := by
          have := (List.getElem?_eq_some_iff.mp hj).1
          simpa using this
        have hj2 : j = lf := by omega
        subst hj2
        simp at hj
        subst hj
        rw [hJ2]
        exact MT_place (MT_moved (hB k t (Nat.le_refl _) ht) hbl m1 m2) _ _
    · have hjl : j < a.2.1.length := (List.getElem?_eq_some_iff.mp hj').1
      exact MT_keep (hB j t' (by omega) hj') (ha.2.2.1 t' (List.mem_of_getElem? hj')).2.2.2.1 (fun i z1 z2 => kk _ _ (by omega) (by omega)) (fun i z => kk _ _ (by omega) (by omega))
end MC
