/-! the class: what only asks, swap, clear -/
theorem lies_t : ∀ v : Fin 8, (if ((nI v.1 &&& 3) &&& 1) = 1 then some true else some false) = some (decide (v.1 % 2 = 1)) := by decide +kernel
theorem k_nle {n : Nat} {x : Int32} (h : nI n ≤ x) : ¬ x < nI n := by
  rw [Int32.lt_iff_toInt_lt]
  rw [Int32.le_iff_toInt_le] at h
  omega
section KA
variable {I J : ax_I} {R : ax_R} {f g : Nat → Nat → Nat} {p q r fw fh since : Nat} {a a' b : Pc} {st : List Nat}
theorem k_lies {u v : Nat} (h6 : I u 6 = nI v) (hv : v < 8) (S : ax_S) : d_T_liesOnItsSide S I R u = some (decide (v % 2 = 1)) := by
  unfold d_T_liesOnItsSide d_K_quarters
  rw [ob, h6]
  exact lies_t ⟨v, hv⟩
theorem K_at (hK : KR I R f g p q a b fw fh since st) (ha : okP a) (x y : Int32) : (noIx a.2.1.length x → d_K_at oS I R 0 x y = some (.inr "java/lang/IndexOutOfBoundsException")) ∧ (∀ k t, a.2.1[k]? = some t → x = nI k → d_K_at oS I R 0 x y = some (.inl (atV t y))) := by
  have l := ha.2.1
  obtain ⟨hQ, ⟨⟨p1, p2, p3, p4⟩, pt, pn⟩, -⟩ := hK
  obtain ⟨pp, pq, hne⟩ := KQ_P hQ
  obtain ⟨s1, s2⟩ := k_hasTile (R := R) p3 x
  unfold d_K_at
  rw [hQ.2.1.1, ob]
  refine ⟨fun z => ?_, fun k t hk hx => ?_⟩
  · rw [s1 z, ob, if_pos bF]
  have hlt : k < a.2.1.length := (List.getElem?_eq_some_iff.mp hk).1
  obtain ⟨hu, tu⟩ := hQ.2.2.2.1 p k pp (by omega)
  obtain ⟨⟨q1, q2, q3, q4, q5, q6⟩, q7⟩ := pt k t hk
  have hw := (ha.2.2.1 t (List.mem_of_getElem? hk)).2.2.1
  rw [s2 (by rw [hx]; exact ix_in (by omega) hlt), ob, if_neg bT, ob, (hQ.2.2.1 p pp).1, ob, hx, kxT pp (by omega), ob, hu, ob, q1, q2, q3, q4, q5, q6]
  unfold atV d_T_ownWidth d_T_ownHeight
  rw [k_lies q5 hw, ob, ob, q3, q4]
  have hB : decide (t.2.2.1 % 2 = 1) = true ∨ decide (t.2.2.1 % 2 = 1) = false := by cases decide (t.2.2.1 % 2 = 1) <;> simp
  by_cases z0 : y = 0
  · rw [if_pos z0, if_pos z0]
  rw [if_neg z0, if_neg z0]
  by_cases z1 : y = 1
  · rw [if_pos z1, if_pos z1]
  rw [if_neg z1, if_neg z1]
  by_cases z2 : y = 2
  · rw [if_pos z2, if_pos z2]
  rw [if_neg z2, if_neg z2]
  by_cases z3 : y = 3
  · rw [if_pos z3, if_pos z3]
  rw [if_neg z3, if_neg z3]
  by_cases z4 : y = 4
  · rw [if_pos z4, if_pos z4]
  rw [if_neg z4, if_neg z4]
  by_cases z5 : y = 5
  · rw [if_pos z5, if_pos z5]
  rw [if_neg z5, if_neg z5]
  by_cases z6 : y = 6
  · rw [if_pos z6, if_pos z6]
    by_cases w : t.2.2.1 % 2 = 1
    · rw [decide_eq_true w, if_neg bT, if_pos w, ob]
    · rw [decide_eq_false w, if_pos bF, if_neg w, ob]
  rw [if_neg z6, if_neg z6]
  by_cases z7 : y = 7
  · rw [if_pos z7, if_pos z7]
    by_cases w : t.2.2.1 % 2 = 1
    · rw [decide_eq_true w, if_neg bT, if_pos w, ob]
    · rw [decide_eq_false w, if_pos bF, if_neg w, ob]
  rw [if_neg z7, if_neg z7]
theorem K_byteAt (hK : KR I R f g p q a b fw fh since st) (ha : okP a) (x y : Int32) : (noIx a.2.1.length x → d_K_byteAt oS I R 0 x y = some (.inr "java/lang/IndexOutOfBoundsException")) ∧ (∀ k t, a.2.1[k]? = some t → x = nI k → (noIx t.2.2.2.length y → d_K_byteAt oS I R 0 x y = some (.inr "java/lang/IndexOutOfBoundsException")) ∧ (∀ j c, t.2.2.2[j]? = some c → y = nI j → d_K_byteAt oS I R 0 x y = some (.inl (nI c)))) := by
  have l := ha.2.1
  obtain ⟨hQ, ⟨⟨p1, p2, p3, p4⟩, pt, pn⟩, -⟩ := hK
  obtain ⟨pp, pq, hne⟩ := KQ_P hQ
  obtain ⟨s1, s2⟩ := k_hasTile (R := R) p3 x
  unfold d_K_byteAt d_K_byteAt_43
  rw [hQ.2.1.1, ob]
  refine ⟨fun z => ?_, fun k t hk hx => ?_⟩
  · rw [s1 z, ob, if_pos bF]
  have hlt : k < a.2.1.length := (List.getElem?_eq_some_iff.mp hk).1
  obtain ⟨hu, tu⟩ := hQ.2.2.2.1 p k pp (by omega)
  obtain ⟨⟨q1, q2, q3, q4, q5, q6⟩, q7⟩ := pt k t hk
  have hw := (ha.2.2.1 t (List.mem_of_getElem? hk)).2.2.2.1
  rw [s2 (by rw [hx]; exact ix_in (by omega) hlt), ob, if_neg bT, ob, (hQ.2.2.1 p pp).1, ob, hx, kxT pp (by omega), ob, hu, ob, q6]
  refine ⟨fun z => ?_, fun j c hj hy => ?_⟩
  · by_cases z1 : y < 0
    · rw [if_pos z1]
    · rw [if_neg z1, if_neg (k_nle (z.resolve_left z1))]
  · have hjl : j < t.2.2.2.length := (List.getElem?_eq_some_iff.mp hj).1
    rw [hy, if_neg (nI_pos (by omega)), if_pos (nI_lt hjl (by omega)), hQ.2.2.2.2.2.1 _ tu, ob, kxB tu (by omega), ob, q7 j c hj]
theorem K_noteAt (hK : KR I R f g p q a b fw fh since st) (ha : okP a) (x y : Int32) : (noIx a.2.2.length x → d_K_noteAt oS I R 0 x y = some (.inr "java/lang/IndexOutOfBoundsException")) ∧ (∀ k n, a.2.2[k]? = some n → x = nI k → d_K_noteAt oS I R 0 x y = some (.inl (noV n y))) := by
  have l := ha.2.1
  obtain ⟨hQ, ⟨⟨p1, p2, p3, p4⟩, pt, pn⟩, -⟩ := hK
  obtain ⟨pp, pq, hne⟩ := KQ_P hQ
  unfold d_K_noteAt d_K_noteAt_15
  rw [hQ.2.1.1, ob, p4]
  refine ⟨fun z => ?_, fun k n hk hx => ?_⟩
  · by_cases z1 : x < 0
    · rw [if_pos z1]
    · rw [if_neg z1, if_neg (k_nle (z.resolve_left z1))]
  have hlt : k < a.2.2.length := (List.getElem?_eq_some_iff.mp hk).1
  obtain ⟨hu, nu⟩ := hQ.2.2.2.2.1 p k pp (by omega)
  obtain ⟨q1, q2, q3⟩ := pn k n hk
  rw [hx, if_neg (nI_pos (by omega)), if_pos (nI_lt hlt (by omega)), ob, (hQ.2.2.1 p pp).2, ob, kxN pp (by omega), ob, hu, ob, q1, q2, q3]
  unfold noV
  by_cases z0 : y = 0
  · rw [if_pos z0, if_pos z0]
  rw [if_neg z0, if_neg z0]
  by_cases z1 : y = 1
  · rw [if_pos z1, if_pos z1]
  rw [if_neg z1, if_neg z1]
  by_cases z2 : y = 2
  · rw [if_pos z2, if_pos z2]
  rw [if_neg z2, if_neg z2]
theorem K_told (hK : KR I R f g p q a b fw fh since st) (x : Int32) : d_K_told oS I R 0 x = some (tellV a b st x) := by
  obtain ⟨hQ, ⟨⟨p1, p2, p3, p4⟩, -⟩, ⟨⟨b1, b2, b3, b4⟩, -⟩, -, -, -, h6, -⟩ := hK
  unfold d_K_told tellV
  rw [hQ.2.1.1, hQ.2.1.2.1, hQ.2.1.2.2.1, ob, ob, ob, ob, ob, ob, ob, ob, ob, p1, p2, p3, p4, b1, b2, b3, b4, h6]
  by_cases z0 : x = 0
  · rw [if_pos z0, if_pos z0]
  rw [if_neg z0, if_neg z0]
  by_cases z1 : x = 1
  · rw [if_pos z1, if_pos z1]
  rw [if_neg z1, if_neg z1]
  by_cases z2 : x = 2
  · rw [if_pos z2, if_pos z2]
  rw [if_neg z2, if_neg z2]
  by_cases z3 : x = 3
  · rw [if_pos z3, if_pos z3]
  rw [if_neg z3, if_neg z3]
  by_cases z4 : x = 4
  · rw [if_pos z4, if_pos z4]
  rw [if_neg z4, if_neg z4]
  by_cases z5 : x = 5
  · rw [if_pos z5, if_pos z5]
  rw [if_neg z5, if_neg z5]
  by_cases z6 : x = 6
  · rw [if_pos z6, if_pos z6]
  rw [if_neg z6, if_neg z6]
  by_cases z7 : x = 7
  · rw [if_pos z7, if_pos z7]
  rw [if_neg z7, if_neg z7]
  by_cases z8 : x = 8
  · rw [if_pos z8, if_pos z8]
  rw [if_neg z8, if_neg z8]
theorem K_swap (hK : KR I R f g p q a b fw fh since st) (ha : okP a) (hb : okP b) : ∃ J R', d_K_swap oS I R 0 = some (nI b.2.1.length, J, R') ∧ KR J R' f g q p b a fw fh 0 st ∧ hiI I J ∧ ∀ k, R' 210 k = R 210 k := by
  obtain ⟨⟨hQ, h1, h2, h3, h4, h5, h6, h7⟩, hh⟩ := KR_since hK ha hb 0
  obtain ⟨pp, pq, hne⟩ := KQ_P hQ
  unfold d_K_swap
  rw [hQ.2.1.1, ob, hQ.2.1.2.1, ob, ob, ob, ob, ob, ax_up_ne (show ¬ (0 = 0 ∧ 4 = 5) by omega), ax_up_self, ob]
  have e0 : nI 0 = 0 := rfl
  rw [e0] at h1 h2 h3 h4 h6 h7 hh
  have h5 : ax_up (ax_up I 0 6 0) 0 7 0 0 6 = nI 0 := h5
  rw [h2.1.2.2.1]
  refine ⟨_, _, rfl, ⟨?_, h2, h1, h3, h4, h5, h6, fun j c hj => h7 j c hj⟩, hh, fun k => by rw [ax_up_ne (by omega), ax_up_ne (by omega)]⟩
  obtain ⟨g1, ⟨k1, k2, k3, k4, k5⟩, g3, g4, g5, g6, g7, g8⟩ := hQ
  have k : ∀ i m, i ≠ 0 → ax_up (ax_up R 0 4 (some q)) 0 5 (some p) i m = R i m := fun i m z => by rw [ax_up_ne (by omega), ax_up_ne (by omega)]
  refine ⟨by omega, ⟨?_, ax_up_self _ _ _ _, ?_, ?_, (k _ _ (by omega)).trans k5⟩, fun s hs => ?_, fun s m hs hm => ?_, fun s m hs hm => ?_, fun u hu => ?_, g7, g8⟩
  · rw [ax_up_ne (by omega), ax_up_self]
  · rw [ax_up_ne (by omega), ax_up_ne (by omega)]; exact k3
  · rw [ax_up_ne (by omega), ax_up_ne (by omega)]; exact k4
  · have := P_r hs
    exact ⟨(k _ _ (by omega)).trans (g3 s hs).1, (k _ _ (by omega)).trans (g3 s hs).2⟩
  · rw [k _ _ (by omega)]; exact g4 s m hs hm
  · rw [k _ _ (by omega)]; exact g5 s m hs hm
  · have := T_r hu
    rw [k _ _ (by omega)]; exact g6 u hu
theorem K_clear (hK : KR I R f g p q a b fw fh since st) : ∃ J, d_K_clear oS I R 0 = some J ∧ KR J R f g p q ((fw, fh), [], []) ((fw, fh), [], []) fw fh 0 [] ∧ hiI I J := by
  obtain ⟨hQ, h1, h2, h3, h4, h5, h6, h7⟩ := hK
  obtain ⟨pp, pq, hne⟩ := KQ_P hQ
  have rp := P_r pp
  have rq := P_r pq
  unfold d_K_clear d_P_startAnew d_S_empty
  rw [hQ.2.1.1, ob, ob, ob, ob, ob, ob, hQ.2.1.2.1, ob, ob, ob, ob, ob, ob, hQ.2.1.2.2.1, ob, ob, ob, ob, ob, ob]
  have e0 : ∀ i, ax_up (ax_up (ax_up (ax_up I p 4 (I 0 0)) p 5 (I 0 1)) p 2 0) p 3 0 0 i = I 0 i := fun i => by rw [ax_up_ne (by omega), ax_up_ne (by omega), ax_up_ne (by omega), ax_up_ne (by omega)]
  rw [e0, e0, h3, h4]
  obtain ⟨J, hJ⟩ : ∃ J, J = ax_up (ax_up (ax_up (ax_up (ax_up (ax_up (ax_up (ax_up (ax_up (ax_up (ax_up (ax_up I p 4 (nI fw)) p 5 (nI fh)) p 2 0) p 3 0) q 4 (nI fw)) q 5 (nI fh)) q 2 0) q 3 0) 1 1 0) 1 2 0) 0 6 0) 0 7 0 := ⟨_, rfl⟩
  rw [← hJ]
  have k : ∀ i m, i ≠ p → i ≠ q → i ≠ 1 → ¬ (i = 0 ∧ m = 6) → ¬ (i = 0 ∧ m = 7) → J i m = I i m := fun i m z1 z2 z3 z4 z5 => by rw [hJ, ax_up_ne (by omega), ax_up_ne (by omega), ax_up_ne (by omega), ax_up_ne (by omega), ax_up_ne (by omega), ax_up_ne (by omega), ax_up_ne (by omega), ax_up_ne (by omega), ax_up_ne (by omega), ax_up_ne (by omega), ax_up_ne (by omega), ax_up_ne (by omega)]
  refine ⟨J, rfl, ⟨hQ, ⟨⟨?_, ?_, ?_, ?_⟩, fun k t hk => (by simp at hk), fun k t hk => by simp at hk⟩, ⟨⟨?_, ?_, ?_, ?_⟩, fun k t hk => (by simp at hk), fun k t hk => by simp at hk⟩, (k _ _ (by omega) (by omega) (by omega) (by omega) (by omega)).trans h3, (k _ _ (by omega) (by omega) (by omega) (by omega) (by omega)).trans h4, ?_, ?_, fun j c hj => by cases hj⟩, fun i m z => k _ _ (by omega) (by omega) (by omega) (by omega) (by omega)⟩
  · rw [hJ, ax_up_ne (by omega), ax_up_ne (by omega), ax_up_ne (by omega), ax_up_ne (by omega), ax_up_ne (by omega), ax_up_ne (by omega), ax_up_ne (by omega), ax_up_ne (by omega), ax_up_ne (by omega), ax_up_ne (by omega), ax_up_ne (by omega), ax_up_self]
  · rw [hJ, ax_up_ne (by omega), ax_up_ne (by omega), ax_up_ne (by omega), ax_up_ne (by omega), ax_up_ne (by omega), ax_up_ne (by omega), ax_up_ne (by omega), ax_up_ne (by omega), ax_up_ne (by omega), ax_up_ne (by omega), ax_up_self]
  · rw [hJ, ax_up_ne (by omega), ax_up_ne (by omega), ax_up_ne (by omega), ax_up_ne (by omega), ax_up_ne (by omega), ax_up_ne (by omega), ax_up_ne (by omega), ax_up_ne (by omega), ax_up_ne (by omega), ax_up_self]; rfl
  · rw [hJ, ax_up_ne (by omega), ax_up_ne (by omega), ax_up_ne (by omega), ax_up_ne (by omega), ax_up_ne (by omega), ax_up_ne (by omega), ax_up_ne (by omega), ax_up_ne (by omega), ax_up_self]; rfl
  · rw [hJ, ax_up_ne (by omega), ax_up_ne (by omega), ax_up_ne (by omega), ax_up_ne (by omega), ax_up_ne (by omega), ax_up_ne (by omega), ax_up_ne (by omega), ax_up_self]
  · rw [hJ, ax_up_ne (by omega), ax_up_ne (by omega), ax_up_ne (by omega), ax_up_ne (by omega), ax_up_ne (by omega), ax_up_ne (by omega), ax_up_self]
  · rw [hJ, ax_up_ne (by omega), ax_up_ne (by omega), ax_up_ne (by omega), ax_up_ne (by omega), ax_up_ne (by omega), ax_up_self]; rfl
  · rw [hJ, ax_up_ne (by omega), ax_up_ne (by omega), ax_up_ne (by omega), ax_up_ne (by omega), ax_up_self]; rfl
  · rw [hJ, ax_up_ne (by omega), ax_up_self]; rfl
  · rw [hJ, ax_up_ne (by omega), ax_up_ne (by omega), ax_up_ne (by omega), ax_up_self]; rfl
theorem k_fits0 (hQ : KQ R f g p q) (hr : isP r) (hP : KP I f g r a) (ha : okP a) (u c : Int32) : ∀ (m n k : Nat), k + m = a.2.1.length → m < n → ∃ B, d_P_borderFits_2 oS n I R r u c (nI k) = some B := by
  obtain ⟨⟨p1, p2, p3, p4⟩, pt, pn⟩ := hP
  have l40 := ha.2.1.1
  intro m
  induction m with
  | zero =>
    intro n k hk hn'
    obtain ⟨n, rfl⟩ : ∃ n', n = n' + 1 := ⟨n - 1, by omega⟩
    rw [d_P_borderFits_2, p3, if_pos (nI_le (by omega) (by omega))]
    exact ⟨_, rfl⟩
  | succ m ih =>
    intro n k hk hn'
    obtain ⟨n, rfl⟩ : ∃ n', n = n' + 1 := ⟨n - 1, by omega⟩
    rw [d_P_borderFits_2, p3, if_neg (nI_ge (by omega) (by omega)), (hQ.2.2.1 r hr).1, ob, kxT hr (by omega), ob, (hQ.2.2.2.1 r k hr (by omega)).1, ob]
    have c31 : ∀ y z, ∃ B, d_T_crosses_31 oS I R c y z = some B := by
      intro y z
      unfold d_T_crosses_31
      split
      · exact ⟨_, rfl⟩
      · split
        · exact ⟨_, rfl⟩
        · exact ⟨_, rfl⟩
    obtain ⟨B, hB⟩ : ∃ B, d_T_crosses oS I R (f r k) u c = some B := by
      unfold d_T_crosses d_T_crosses_15
      split
      · exact c31 _ _
      · exact c31 _ _
    rw [hB, ob]
    split
    · rw [nI_1]
      exact ih n (k + 1) (by omega) (by omega)
    · exact ⟨_, rfl⟩
theorem k_nearL (hQ : KQ R f g p q) (hr : isP r) (hP : KP I f g r a) (ha : okP a) (u c : Int32) {la : Nat} (hla : la ≤ 400) : ∀ (m n k : Nat), k + m = la + 1 → m < n → ∃ v, d_P_nearestFit_9 oS n I R r u c (nI la) (nI k) = some v := by
  have bf : ∀ c, ∃ B, d_P_borderFits oS I R r u c = some B := fun c => k_fits0 hQ hr hP ha u c a.2.1.length 5000 0 (by omega) (by have := ha.2.1.1; omega)
  intro m
  induction m with
  | zero =>
    intro n k hk hn'
    obtain ⟨n, rfl⟩ : ∃ n', n = n' + 1 := ⟨n - 1, by omega⟩
    rw [d_P_nearestFit_9, if_pos (nI_lt (by omega) (by omega))]
    exact ⟨_, rfl⟩
  | succ m ih =>
    intro n k hk hn'
    obtain ⟨n, rfl⟩ : ∃ n', n = n' + 1 := ⟨n - 1, by omega⟩
    have q64 : ∃ v, d_P_nearestFit_64 oS (d_P_nearestFit_9 oS n) I R r u c (nI la) (nI k) = some v := by
      unfold d_P_nearestFit_64
      rw [nI_1]
      exact ih n (k + 1) (by omega) (by omega)
    have q39 : ∃ v, d_P_nearestFit_39 oS (d_P_nearestFit_9 oS n) I R r u c (nI la) (nI k) = some v := by
      unfold d_P_nearestFit_39
      obtain ⟨B, hB⟩ := bf (c + nI k)
      rw [hB, ob]
      split
      · exact q64
      · split
        · exact q64
        · exact ⟨_, rfl⟩
    rw [d_P_nearestFit_9, if_neg (nI_nlt (by omega) (by omega))]
    obtain ⟨B, hB⟩ := bf (c - nI k)
    rw [hB, ob]
    split
    · exact q39
    · split
      · exact q39
      · exact ⟨_, rfl⟩
theorem k_side {x : Int32} (h : d_K_isSide oS I R x = some true) : ∃ j, j < 4 ∧ x = nI j := by
  unfold d_K_isSide at h
  split at h
  · cases h
  · rename_i z1
    split at h
    · cases h
    · rename_i z2
      exact idx_of (n := 4) (by omega) z1 z2
theorem k_upr (x : Int32) : ∃ B, d_K_isUpright oS I R x = some B := by
  unfold d_K_isUpright d_K_isUpright_9
  split
  · exact ⟨_, rfl⟩
  · split
    · exact ⟨_, rfl⟩
    · exact ⟨_, rfl⟩
theorem K_near (hK : KR I R f g p q a b fw fh since st) (ha : okP a) (x : Int32) : ∃ o, d_K_near oS I R 0 x = some o ∧ ((∃ v, o = .inl v) ∨ o = .inr "java/lang/IndexOutOfBoundsException" ∨ o = .inr "java/lang/IllegalStateException") := by
  obtain ⟨hQ, hP, -⟩ := hK
  obtain ⟨pp, pq, hne⟩ := KQ_P hQ
  have oW := ha.1
  unfold d_K_near
  obtain ⟨B, hB⟩ : ∃ B, d_K_isSide oS I R x = some B := by
    unfold d_K_isSide
    split
    · exact ⟨_, rfl⟩
    · split
      · exact ⟨_, rfl⟩
      · exact ⟨_, rfl⟩
  rw [hB, ob]
  cases B with
  | false => rw [if_pos bF]; exact ⟨_, rfl, Or.inr (Or.inl rfl)⟩
  | true =>
    rw [if_neg bT]
    split
    · exact ⟨_, rfl, Or.inr (Or.inr rfl)⟩
    · obtain ⟨j, hj, rfl⟩ := k_side hB
      obtain ⟨U, hU⟩ := k_upr (I := I) (R := R) (nI j)
      rw [hQ.2.1.1, ob, hU, ob, hQ.2.1.2.2.2.1, ob, kx3 hj, ob]
      obtain ⟨v, hv⟩ : ∃ v, d_P_nearestFit oS I R p (ax_b U) (I 3 j) = some v := by
        unfold d_P_nearestFit d_P_sizeAlong
        rw [hP.1.1, hP.1.2.1]
        cases U with
        | false =>
          rw [if_pos bF, ob]
          exact k_nearL hQ pp hP ha _ _ oW.2.2.2 (a.1.2 + 1) 5000 0 (by omega) (by omega)
        | true =>
          rw [if_neg bT, ob]
          exact k_nearL hQ pp hP ha _ _ oW.2.1 (a.1.1 + 1) 5000 0 (by omega) (by omega)
      rw [hv, ob]
      exact ⟨_, rfl, Or.inl ⟨_, rfl⟩⟩
theorem k_bef {u v : Nat} {s t : Tl} (hs : KT I u s) (ht : KT I v t) (b1 : s.1.1 ≤ 400) (b2 : s.1.2 ≤ 400) (b3 : t.1.1 ≤ 400) (b4 : t.1.2 ≤ 400) (S : ax_S) : d_T_partComesBefore S I R u v = some (bef s t) := by
  obtain ⟨⟨q1, q2, -⟩, -⟩ := hs
  obtain ⟨⟨r1, r2, -⟩, -⟩ := ht
  unfold d_T_partComesBefore d_T_partComesBefore_33 bef
  rw [q1, q2, r1, r2]
  by_cases z1 : s.1.2 < t.1.2
  · rw [if_pos (nI_lt z1 (by omega)), decide_eq_true (Or.inl z1)]
  rw [if_neg (nI_nlt (by omega) (by omega))]
  by_cases z2 : s.1.2 = t.1.2
  · rw [if_pos (by rw [z2])]
    by_cases z3 : t.1.1 ≤ s.1.1
    · rw [if_pos (nI_le z3 (by omega)), decide_eq_false (by omega)]
    · rw [if_neg (nI_ge (by omega) (by omega)), decide_eq_true (by omega)]
  · rw [if_neg (fun y => z2 ((nI_eq (by omega) (by omega)).mp y)), decide_eq_false (by omega)]
theorem k_ptrL (hQ : KQ R f g p q) (hr : isP r) (hP : KP I f g r a) (ha : okP a) {k : Nat} {t : Tl} (hk : a.2.1[k]? = some t) : ∀ (m n j acc : Nat), j + m = a.2.1.length → m < n → d_P_placeOfPart_19 oS n I R r (f r k) (nI acc) (nI j) = some (nI (acc + sumB t (a.2.1.drop j))) := by
  obtain ⟨⟨p1, p2, p3, p4⟩, pt, pn⟩ := hP
  have l40 := ha.2.1.1
  have oW := ha.1
  intro m
  induction m with
  | zero =>
    intro n j acc hj hn'
    obtain ⟨n, rfl⟩ : ∃ n', n = n' + 1 := ⟨n - 1, by omega⟩
    have hj : j = a.2.1.length := by omega
    subst hj
    rw [d_P_placeOfPart_19, p3, if_pos (nI_le (Nat.le_refl _) (by omega)), List.drop_length]
    rfl
  | succ m ih =>
    intro n j acc hj hn'
    obtain ⟨n, rfl⟩ : ∃ n', n = n' + 1 := ⟨n - 1, by omega⟩
    have hlt : j < a.2.1.length := by omega
    obtain ⟨s, hs⟩ : ∃ s, a.2.1[j]? = some s := ⟨_, List.getElem?_eq_getElem hlt⟩
    have ed : a.2.1.drop j = s :: a.2.1.drop (j + 1) := by rw [List.drop_eq_getElem_cons hlt]; congr 1; rw [List.getElem?_eq_getElem hlt] at hs; exact Option.some.inj hs
    obtain ⟨os, ⟨os1, os2⟩, -⟩ := ha.2.2.1 s (List.mem_of_getElem? hs)
    obtain ⟨ot, ⟨ot1, ot2⟩, -⟩ := ha.2.2.1 t (List.mem_of_getElem? hk)
    have q6 := (pt j s hs).1.2.2.2.2.2
    have esum : sumB t (s :: a.2.1.drop (j + 1)) = (if bef s t then psz s else 0) + sumB t (a.2.1.drop (j + 1)) := by unfold sumB; rw [List.map_cons, List.sum_cons]
    have hu := (hQ.2.2.2.1 r j hr (by omega)).1
    rw [d_P_placeOfPart_19, p3, if_neg (nI_ge hlt (by omega)), (hQ.2.2.1 r hr).1, ob, kxT hr (by omega), ob, hu, ob, k_bef (pt j s hs) (pt k t hk) (by omega) (by omega) (by omega) (by omega), ob, ed, esum]
    unfold d_P_placeOfPart_52
    cases hbf : bef s t with
    | false =>
      rw [if_pos bF, nI_1, ih n (j + 1) acc (by omega) (by omega)]
      congr 2
      simp
    | true =>
      unfold d_T_partLength
      rw [if_neg bT, ob, kxT hr (by omega), ob, hu, ob, ob, q6, show (12 : Int32) = nI 12 from rfl, nI_add, nI_add, nI_1, ih n (j + 1) _ (by omega) (by omega)]
      congr 2
      unfold psz
      simp
      omega
theorem k_ptr (hQ : KQ R f g p q) (hr : isP r) (hP : KP I f g r a) (ha : okP a) {k : Nat} {t : Tl} (hk : a.2.1[k]? = some t) : d_P_placeOfPart oS I R r (f r k) = some (nI (ptrP a t)) := by
  unfold d_P_placeOfPart
  rw [hP.1.2.2.1, hP.1.2.2.2, show (8 : Int32) = nI 8 from rfl, show (2 : Int32) = nI 2 from rfl, show (5 : Int32) = nI 5 from rfl, nI_mul, nI_mul, nI_add, nI_add]
  exact k_ptrL hQ hr hP ha hk a.2.1.length 5000 0 _ (by omega) (by have := ha.2.1.1; omega)
theorem K_pointer (hK : KR I R f g p q a b fw fh since st) (ha : okP a) (x : Int32) : (noIx a.2.1.length x → d_K_pointer oS I R 0 x = some (.inr "java/lang/IndexOutOfBoundsException")) ∧ (∀ k t, a.2.1[k]? = some t → x = nI k → d_K_pointer oS I R 0 x = some (.inl (nI (ptrP a t)))) := by
  have l := ha.2.1
  obtain ⟨hQ, hP, -⟩ := hK
  obtain ⟨pp, pq, hne⟩ := KQ_P hQ
  obtain ⟨s1, s2⟩ := k_hasTile (R := R) hP.1.2.2.1 x
  unfold d_K_pointer
  rw [hQ.2.1.1, ob]
  refine ⟨fun z => ?_, fun k t hk hx => ?_⟩
  · rw [s1 z, ob, if_pos bF]
  have hlt : k < a.2.1.length := (List.getElem?_eq_some_iff.mp hk).1
  rw [s2 (by rw [hx]; exact ix_in (by omega) hlt), ob, if_neg bT, ob, ob, (hQ.2.2.1 p pp).1, ob, hx, kxT pp (by omega), ob, (hQ.2.2.2.1 p k pp (by omega)).1, ob, k_ptr hQ pp hP ha hk, ob]
theorem K_streamAt (hK : KR I R f g p q a b fw fh since st) (hs : st.length ≤ 1148) (x : Int32) : (noIx st.length x → d_K_streamAt oS I R 0 x = some (.inr "java/lang/IndexOutOfBoundsException")) ∧ (∀ j c, st[j]? = some c → x = nI j → d_K_streamAt oS I R 0 x = some (.inl (nI c))) := by
  obtain ⟨hQ, -, -, -, -, -, h6, h7⟩ := hK
  unfold d_K_streamAt d_K_streamAt_15
  rw [hQ.2.1.2.2.1, ob, h6]
  refine ⟨fun z => ?_, fun j c hj hx => ?_⟩
  · by_cases z1 : x < 0
    · rw [if_pos z1]
    · rw [if_neg z1, if_neg (k_nle (z.resolve_left z1))]
  · have hjl : j < st.length := (List.getElem?_eq_some_iff.mp hj).1
    rw [hx, if_neg (nI_pos (by omega)), if_pos (nI_lt hjl (by omega)), ob, hQ.2.1.2.2.2.2, ob, kx2 (by omega), ob, h7 j c hj]
theorem k_tileOver (hQ : KQ R f g p q) (hr : isP r) (hP : KP I f g r a) (ha : okP a) {x y : Nat} (b3 : x ≤ 400) (b4 : y ≤ 400) : ∀ (m n k : Nat), k + m = a.2.1.length → m < n → ∃ v, d_P_tileOver_2 oS n I R r (nI x) (nI y) (nI k) = some v ∧ (v = -1 ∨ ∃ j, j < a.2.1.length ∧ v = nI j) := by
  obtain ⟨⟨p1, p2, p3, p4⟩, pt, pn⟩ := hP
  have l40 := ha.2.1.1
  have oW := ha.1
  intro m
  induction m with
  | zero =>
    intro n k hk hn'
    obtain ⟨n, rfl⟩ : ∃ n', n = n' + 1 := ⟨n - 1, by omega⟩
    rw [d_P_tileOver_2, p3, if_pos (nI_le (by omega) (by omega))]
    exact ⟨_, rfl, Or.inl rfl⟩
  | succ m ih =>
    intro n k hk hn'
    obtain ⟨n, rfl⟩ : ∃ n', n = n' + 1 := ⟨n - 1, by omega⟩
    have hlt : k < a.2.1.length := by omega
    obtain ⟨t, ht⟩ : ∃ t, a.2.1[k]? = some t := ⟨_, List.getElem?_eq_getElem hlt⟩
    obtain ⟨-, ⟨o1, o2⟩, -⟩ := ha.2.2.1 t (List.mem_of_getElem? ht)
    obtain ⟨v1, v2⟩ := k_over (R := R) (pt k t ht) (x := x) (y := y) (w := 1) (h := 1) (by omega) (by omega) (by omega) (by omega) oS
    rw [d_P_tileOver_2, p3, if_neg (nI_ge hlt (by omega)), (hQ.2.2.1 r hr).1, ob, kxT hr (by omega), ob, (hQ.2.2.2.1 r k hr (by omega)).1, ob]
    by_cases z : apart ((x, y), (1, 1), 0, []) t
    · have v1 : d_T_overlaps oS I R (f r k) (nI x) (nI y) 1 1 = some false := v1 z
      rw [v1, ob, if_pos bF, nI_1]
      exact ih n (k + 1) (by omega) (by omega)
    · have v2 : d_T_overlaps oS I R (f r k) (nI x) (nI y) 1 1 = some true := v2 z
      rw [v2, ob, if_neg bT]
      exact ⟨_, rfl, Or.inr ⟨k, hlt, rfl⟩⟩
theorem k_ownS {u v : Nat} (h6 : I u 6 = nI v) (hv : v < 8) (S : ax_S) : ∀ (m n k : Nat) (x3 x4 x5 x6 : Int32), k + m = v % 4 → m < n → ∃ w, d_T_ownSample_30 S n I R u x3 x4 x5 x6 (nI k) = some w := by
  intro m
  have e4 : nI v &&& 3 = nI (v % 4) := q_t ⟨v, hv⟩
  induction m with
  | zero =>
    intro n k x3 x4 x5 x6 hk hn'
    obtain ⟨n, rfl⟩ : ∃ n', n = n' + 1 := ⟨n - 1, by omega⟩
    rw [d_T_ownSample_30]
    unfold d_K_quarters d_K_mirrors d_T_ownSample_92
    rw [ob, h6, e4, if_pos (nI_le (by omega) (by omega))]
    by_cases z : nI v < 4
    · rw [if_pos z, ob, if_pos bF]
      exact ⟨_, rfl⟩
    · rw [if_neg z, ob, if_neg bT]
      exact ⟨_, rfl⟩
  | succ m ih =>
    intro n k x3 x4 x5 x6 hk hn'
    obtain ⟨n, rfl⟩ : ∃ n', n = n' + 1 := ⟨n - 1, by omega⟩
    rw [d_T_ownSample_30]
    unfold d_K_quarters
    rw [ob, h6, e4, if_neg (nI_ge (by omega) (by omega)), nI_1]
    exact ih n (k + 1) _ _ _ _ (by omega) (by omega)
theorem K_shown0 (hK : KR I R f g p q a b fw fh since st) (ha : okP a) (x y : Int32) : ∃ o, d_K_shown oS I R 0 x y = some o ∧ ((∃ v, o = .inl v) ∨ o = .inr "java/lang/IndexOutOfBoundsException") := by
  have l := ha.2.1
  have oW := ha.1
  obtain ⟨hQ, hP, -⟩ := hK
  obtain ⟨pp, pq, hne⟩ := KQ_P hQ
  obtain ⟨s1, s2⟩ := k_hasSample (R := R) hP.1.1 hP.1.2.1 x y
  unfold d_K_shown
  rw [hQ.2.1.1, ob]
  by_cases z : noIx a.1.1 x ∨ noIx a.1.2 y
  · rw [s1 z, ob, if_pos bF]
    exact ⟨_, rfl, Or.inr rfl⟩
  rw [s2 z, ob, if_neg bT]
  obtain ⟨x', hx, rfl⟩ := idx_of (n := a.1.1) (by omega) (fun w => z (Or.inl (Or.inl w))) (fun w => z (Or.inl (Or.inr w)))
  obtain ⟨y', hy, rfl⟩ := idx_of (n := a.1.2) (by omega) (fun w => z (Or.inr (Or.inl w))) (fun w => z (Or.inr (Or.inr w)))
  obtain ⟨v, hv, hv2⟩ := k_tileOver hQ pp hP ha (x := x') (y := y') (by omega) (by omega) a.2.1.length 5000 0 (by omega) (by omega)
  have hv : d_P_tileOver oS I R p (nI x') (nI y') = some v := hv
  rw [ob, hv, ob]
  by_cases e : v = -1
  · rw [if_pos e]
    exact ⟨_, rfl, Or.inl ⟨_, rfl⟩⟩
  · obtain ⟨j, hj, rfl⟩ := hv2.resolve_left e
    obtain ⟨t, ht⟩ : ∃ t, a.2.1[j]? = some t := ⟨_, List.getElem?_eq_getElem hj⟩
    have hw := (ha.2.2.1 t (List.mem_of_getElem? ht)).2.2.1
    rw [if_neg e, ob, (hQ.2.2.1 p pp).1, ob, kxT pp (by omega), ob, (hQ.2.2.2.1 p j pp (by omega)).1, ob]
    unfold d_T_ownSample
    obtain ⟨w, hw⟩ := k_ownS (R := R) (hP.2.1 j t ht).1.2.2.2.2.1 hw oS (t.2.2.1 % 4) 5000 0 (nI x' - I (f p j) 2) (nI y' - I (f p j) 3) (I (f p j) 4) (I (f p j) 5) (by omega) (by omega)
    have hw : d_T_ownSample_30 oS 5000 I R (f p j) (nI x' - I (f p j) 2) (nI y' - I (f p j) 3) (I (f p j) 4) (I (f p j) 5) 0 = some w := hw
    rw [hw, ob]
    exact ⟨_, rfl, Or.inl ⟨_, rfl⟩⟩
end KA
