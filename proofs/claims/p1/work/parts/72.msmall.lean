/-! the reference: byteOf, note, and what only asks -/
theorem i_subn {n : Nat} (hn : n < 2 ^ 31) {x : Int32} : nI n - 1 < x ↔ nI n ≤ x := by
  have e : (nI n - 1).toInt = (n : Int) - 1 := by
    rw [Int32.toInt_sub, nI_toInt hn]
    have a : (1 : Int32).toInt = 1 := rfl
    rw [a]
    exact Int.bmod_eq_of_le (by omega) (by omega)
  rw [Int32.lt_iff_toInt_lt, Int32.le_iff_toInt_le, e, nI_toInt hn]
  omega
theorem idx_of {n : Nat} (hn : n < 2 ^ 31) {x : Int32} (h1 : ¬ x < 0) (h2 : ¬ nI n ≤ x) : ∃ k, k < n ∧ x = nI k := by
  obtain ⟨k, hk, rfl⟩ := nI_of h1
  refine ⟨k, ?_, rfl⟩
  rcases Nat.lt_or_ge k n with h | h
  · exact h
  · exact absurd (nI_le h hk) h2
theorem idx_no {n k : Nat} (hn : n < 2 ^ 31) (h : k < n) : ¬ nI k < 0 ∧ ¬ nI n ≤ nI k := ⟨nI_pos (by omega), nI_ge h hn⟩
/-- an index that none is: below 0, or n and more -/
def noIx (n : Nat) (x : Int32) : Prop := x < 0 ∨ nI n ≤ x
theorem m_inIx {S : ax_S} {J : ax_I} {R : ax_R} {n : Nat} (hn : n < 2 ^ 31) {x : Int32} : (noIx n x → d_M_in S J R x 0 (nI n - 1) = some false) ∧ (¬ noIx n x → d_M_in S J R x 0 (nI n - 1) = some true) := by
  refine ⟨fun z => m_in_f ?_, fun z => m_in_t (fun y => z (Or.inl y)) (fun y => z (Or.inr ((i_subn hn).mp y)))⟩
  rcases z with z | z
  · exact Or.inl z
  · exact Or.inr ((i_subn hn).mpr z)
section MS
variable {I : ax_I} {R : ax_R} {now fw fh since : Nat} {a b : Pc} {st : List Nat}
theorem m_isTile (hR : mOk oS R) (hM : MR I now a b fw fh since st) (ha : okP a) (x : Int32) : (noIx a.2.1.length x → d_M_isTile oS I R 210 x = some false) ∧ (¬ noIx a.2.1.length x → d_M_isTile oS I R 210 x = some true) := by
  obtain ⟨hn, n3, ⟨⟨p1, p2, p3, p4⟩, pt, pn⟩, hb', -⟩ := hM
  obtain ⟨i1, i2, i3, i4⟩ := mx2 hR hn
  have l := ha.2.1.1
  unfold d_M_isTile
  rw [mr_6 hR, ob, n3, i3, ob, p3]
  refine ⟨fun z => ?_, fun z => ?_⟩
  · rw [(m_inIx (by omega)).1 z, ob]
  · rw [(m_inIx (by omega)).2 z, ob]
theorem m_isSample (hR : mOk oS R) (hM : MR I now a b fw fh since st) (ha : okP a) (x y : Int32) : (noIx a.1.1 x ∨ noIx a.1.2 y → d_M_isSample oS I R 210 x y = some false) ∧ (¬ (noIx a.1.1 x ∨ noIx a.1.2 y) → d_M_isSample oS I R 210 x y = some true) := by
  obtain ⟨hn, n3, ⟨⟨p1, p2, p3, p4⟩, pt, pn⟩, hb', -⟩ := hM
  obtain ⟨i1, i2, i3, i4⟩ := mx2 hR hn
  have l := ha.1
  unfold d_M_isSample
  rw [mr_4 hR, ob, n3, i1, ob, p1, mr_5 hR, ob, i2, ob, p2]
  refine ⟨fun z => ?_, fun z => ?_⟩
  · by_cases z1 : noIx a.1.1 x
    · rw [(m_inIx (by omega)).1 z1, ob, if_pos bF]
    · rw [(m_inIx (by omega)).2 z1, ob, if_neg bT, (m_inIx (by omega)).1 (z.resolve_left z1), ob, if_pos bF]
  · rw [(m_inIx (by omega)).2 (fun y => z (Or.inl y)), ob, if_neg bT, (m_inIx (by omega)).2 (fun y => z (Or.inr y)), ob, if_neg bT]
/-- code 0 is set, nothing else -/
theorem MR_c (hM : MR I now a b fw fh since st) (v : Int32) : MR (ax_up I 210 0 v) now a b fw fh since st := MR_up (Or.inl ⟨rfl, Or.inl rfl⟩) hM
def setT (p : Pc) (k : Nat) (t : Tl) : Pc := (p.1, p.2.1.set k t, p.2.2)
def byt (t : Tl) (c : Nat) : Tl := (t.1, t.2.1, t.2.2.1, t.2.2.2 ++ [c])
theorem m_b48x (x y : Int32) {c : Int32} (hc : ¬ c ≤ 0) : d_M_byteOf_48 oS I R 210 x y c 210 = some (0, ax_up I 210 0 c) := by
  unfold d_M_byteOf_48
  rw [ob, if_neg (up_le hc)]
theorem M_byteOf (hR : mOk oS R) (hM : MR I now a b fw fh since st) (ha : okP a) (hb : okP b) (x y : Int32) : (noIx a.2.1.length x → mAns (d_M_byteOf oS I R 210 x y) 1 0 (fun J => MR J now a b fw fh since st)) ∧ (∀ k t, a.2.1[k]? = some t → x = nI k → (y < 0 ∨ 255 < y → mAns (d_M_byteOf oS I R 210 x y) 2 0 (fun J => MR J now a b fw fh since st)) ∧ (∀ c, c < 256 → y = nI c → (t.2.2.2.length = 12 → mAns (d_M_byteOf oS I R 210 x y) 3 0 (fun J => MR J now a b fw fh since st)) ∧ (t.2.2.2.length < 12 → mAns (d_M_byteOf oS I R 210 x y) 0 (nI (t.2.2.2.length + 1)) (fun J => MR J now (setT a k (byt t c)) b fw fh since st)))) := by
  have l := ha.2.1.1
  obtain ⟨s1, s2⟩ := m_isTile hR hM ha x
  refine ⟨fun z => ?_, fun k t hk hx => ?_⟩
  · unfold d_M_byteOf
    rw [s1 z, ob, if_pos bF, m_b48x _ _ (by decide)]
    exact ⟨_, _, rfl, ax_up_self _ _ _ _, fun z => (by cases z), MR_c hM _⟩
  have hlt : k < a.2.1.length := (List.getElem?_eq_some_iff.mp hk).1
  have nx : ¬ noIx a.2.1.length x := by
    rw [hx]
    obtain ⟨n1, n2⟩ := idx_no (by omega) hlt
    rintro (z | z)
    · exact n1 z
    · exact n2 z
  refine ⟨fun z => ?_, fun c hc hy => ?_⟩
  · unfold d_M_byteOf
    rw [s2 nx, ob, if_neg bT, m_in_f z, ob, if_pos bF, m_b48x _ _ (by decide)]
    exact ⟨_, _, rfl, ax_up_self _ _ _ _, fun z => (by cases z), MR_c hM _⟩
  have hM' := hM
  obtain ⟨hn, n3, ⟨⟨p1, p2, p3, p4⟩, pt, pn⟩, hb', -⟩ := hM
  obtain ⟨⟨q1, q2, q3, q4, q5, q6⟩, q7⟩ := pt k t hk
  have lt := (ha.2.2.1 t (List.mem_of_getElem? hk)).2.2.2.1
  have e40 : (40 : Int32) * nI now + x = nI (40 * now + k) := by rw [hx, show (40 : Int32) = nI 40 from rfl, nI_mul, nI_add]
  obtain ⟨-, -, -, t6⟩ := mxT hR (show 40 * now + k < 80 by omega) e40
  have nb : d_M_in oS I R y 0 255 = some true := by
    rw [hy]
    exact m_in_t (hi := 255) (nI_pos (by omega)) (nI_nlt (a := 255) (by omega) (by decide))
  have e : d_M_byteOf oS I R 210 x y = if nI t.2.2.2.length = 12 then d_M_byteOf_48 oS I R 210 x y 3 210 else d_M_byteOf_48 oS I R 210 x y 0 210 := by
    unfold d_M_byteOf d_M_tileAt
    rw [s2 nx, ob, if_neg bT, nb, ob, if_neg bT, mr_13 hR, ob, n3, ob, t6, ob, q6]
  rw [e]
  refine ⟨fun z => ?_, fun z => ?_⟩
  · rw [if_pos (show nI t.2.2.2.length = 12 by rw [z]; rfl), m_b48x _ _ (by decide)]
    exact ⟨_, _, rfl, ax_up_self _ _ _ _, fun z => (by cases z), MR_c hM' _⟩
  rw [if_neg (fun y => by have := (nI_eq (by omega) (by omega)).mp (show nI t.2.2.2.length = nI 12 from y); omega)]
  unfold d_M_byteOf_48 d_M_tileAt
  have e12 : (12 : Int32) * (40 * nI now + x) + nI t.2.2.2.length = nI (12 * (40 * now + k) + t.2.2.2.length) := by rw [e40, show (12 : Int32) = nI 12 from rfl, nI_mul, nI_add]
  have tb := mxB hR (show 12 * (40 * now + k) + t.2.2.2.length < 960 by omega) e12
  rw [ob, if_pos (up_ge (by decide)), ob, ax_up_ne (show ¬ (210 = 210 ∧ 3 = 0) by decide), n3, mr_14 hR, ob, mr_13 hR, ob, t6, ob, ax_up_ne (show ¬ (220 = 210 ∧ 40 * now + k = 0) by omega), q6, tb, ob, ob, ob, t6, ob, ob, ax_up_ne (show ¬ (220 = 221 ∧ 40 * now + k = 12 * (40 * now + k) + t.2.2.2.length) by omega), ax_up_ne (show ¬ (220 = 210 ∧ 40 * now + k = 0) by omega), q6, nI_1, ob, ob, t6, ob, ax_up_self]
  obtain ⟨J, hJ⟩ : ∃ J, J = ax_up (ax_up (ax_up I 210 0 0) 221 (12 * (40 * now + k) + t.2.2.2.length) y) 220 (40 * now + k) (nI (t.2.2.2.length + 1)) := ⟨_, rfl⟩
  rw [← hJ]
  have k1 : ∀ i m, i ≠ 220 → i ≠ 221 → ¬ (i = 210 ∧ m = 0) → J i m = I i m := fun i m z1 z2 z3 => by rw [hJ, ax_up_ne (by omega), ax_up_ne (by omega), ax_up_ne (by omega)]
  have k2 : ∀ m, m ≠ 40 * now + k → J 220 m = I 220 m := fun m z1 => by rw [hJ, ax_up_ne (by omega), ax_up_ne (by omega), ax_up_ne (by omega)]
  have k3 : ∀ m, m ≠ 12 * (40 * now + k) + t.2.2.2.length → J 221 m = I 221 m := fun m z1 => by rw [hJ, ax_up_ne (by omega), ax_up_ne (by omega), ax_up_ne (by omega)]
  have c0 : J 210 0 = 0 := by rw [hJ, ax_up_ne (by omega), ax_up_ne (by omega), ax_up_self]
  have c1 : J 220 (40 * now + k) = nI (t.2.2.2.length + 1) := by rw [hJ, ax_up_self]
  have c2 : J 221 (12 * (40 * now + k) + t.2.2.2.length) = y := by rw [hJ, ax_up_ne (by omega), ax_up_self]
  refine ⟨_, _, rfl, c0, fun _ => rfl, MR_mk hM' (fun k hk => k1 _ _ (by omega) (by omega) (by omega)) (fun k => k1 _ _ (by omega) (by omega) (by omega)) ⟨⟨(k1 _ _ (by omega) (by omega) (by omega)).trans p1, (k1 _ _ (by omega) (by omega) (by omega)).trans p2, ?_, (k1 _ _ (by omega) (by omega) (by omega)).trans p4⟩, fun k' t' hk' => ?_, fun k n hk => ?_⟩ (MP_keep hb' hb (fun i z1 z2 => k1 _ _ (by omega) (by omega) (by omega)) (fun i m z1 z2 z3 z4 => ?_) (fun m z1 z2 => k3 _ (by omega)) (fun i m z1 z2 z3 z4 => k1 _ _ (by omega) (by omega) (by omega)))⟩
  · rw [k1 _ _ (by omega) (by omega) (by omega), p3]; unfold setT; rw [List.length_set]
  · have hk2 : (a.2.1.set k (byt t c))[k']? = some t' := hk'
    rw [List.getElem?_set] at hk2
    by_cases hkk : k = k'
    · subst hkk
      rw [if_pos rfl, if_pos hlt] at hk2
      cases hk2
      refine ⟨⟨(k1 _ _ (by omega) (by omega) (by omega)).trans q1, (k1 _ _ (by omega) (by omega) (by omega)).trans q2, (k1 _ _ (by omega) (by omega) (by omega)).trans q3, (k1 _ _ (by omega) (by omega) (by omega)).trans q4, (k1 _ _ (by omega) (by omega) (by omega)).trans q5, ?_⟩, fun j d hj => ?_⟩
      · rw [c1]; unfold byt; rw [List.length_append]; rfl
      · have hj : (t.2.2.2 ++ [c])[j]? = some d := hj
        by_cases hjl : j < t.2.2.2.length
        · rw [List.getElem?_append_left hjl] at hj
          exact (k3 _ (by omega)).trans (q7 j d hj)
        · rw [List.getElem?_append_right (by omega)] at hj
          have hz : j - t.2.2.2.length < 1 := (List.getElem?_eq_some_iff.mp hj).1
          have hj2 : j = t.2.2.2.length := by omega
          subst hj2
          simp at hj
          subst hj
          rw [c2, hy]
    · rw [if_neg hkk] at hk2
      have hl' : k' < a.2.1.length := (List.getElem?_eq_some_iff.mp hk2).1
      obtain ⟨⟨r1, r2, r3, r4, r5, r6⟩, r7⟩ := pt k' t' hk2
      have lt' := (ha.2.2.1 t' (List.mem_of_getElem? hk2)).2.2.2.1
      refine ⟨⟨(k1 _ _ (by omega) (by omega) (by omega)).trans r1, (k1 _ _ (by omega) (by omega) (by omega)).trans r2, (k1 _ _ (by omega) (by omega) (by omega)).trans r3, (k1 _ _ (by omega) (by omega) (by omega)).trans r4, (k1 _ _ (by omega) (by omega) (by omega)).trans r5, (k2 _ (by omega)).trans r6⟩, fun j d hj => ?_⟩
      have hjl : j < t'.2.2.2.length := (List.getElem?_eq_some_iff.mp hj).1
      exact (k3 _ (by omega)).trans (r7 j d hj)
  · obtain ⟨r1, r2, r3⟩ := pn k n hk
    exact ⟨(k1 _ _ (by omega) (by omega) (by omega)).trans r1, (k1 _ _ (by omega) (by omega) (by omega)).trans r2, (k1 _ _ (by omega) (by omega) (by omega)).trans r3⟩
  · by_cases z5 : i = 220
    · subst z5
      exact k2 _ (by omega)
    · exact k1 _ _ (by omega) (by omega) (by omega)
end MS
