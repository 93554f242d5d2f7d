/-! the reference: note, at, byteAt, noteAt, streamAt, told, swap, clear, near -/
section MS
variable {I : ax_I} {R : ax_R} {now fw fh since : Nat} {a b : Pc} {st : List Nat}
theorem m_turned (S : ax_S) (K : ax_I) (R : ax_R) {v : Nat} (hv : v < 8) : d_M_isTurned S K R (nI v) = some (decide (v % 2 = 1)) := turned_t ⟨v, hv⟩
def addN (p : Pc) (n : Nt) : Pc := (p.1, p.2.1, p.2.2 ++ [n])
theorem m_n48x (x y z : Int32) {c : Int32} (hc : ¬ c ≤ 0) : d_M_note_48 oS I R 210 x y z c 210 = some (0, ax_up I 210 0 c) := by
  unfold d_M_note_48
  rw [ob, if_neg (up_le hc)]
theorem M_note (hR : mOk oS R) (hM : MR I now a b fw fh since st) (ha : okP a) (hb : okP b) (x y z : Int32) : (noIx a.1.1 x ∨ noIx a.1.2 y → mAns (d_M_note oS I R 210 x y z) 1 0 (fun J => MR J now a b fw fh since st)) ∧ (¬ (noIx a.1.1 x ∨ noIx a.1.2 y) → (z < 0 ∨ 255 < z → mAns (d_M_note oS I R 210 x y z) 2 0 (fun J => MR J now a b fw fh since st)) ∧ (∀ c, c < 256 → z = nI c → (a.2.2.length = 20 → mAns (d_M_note oS I R 210 x y z) 3 0 (fun J => MR J now a b fw fh since st)) ∧ (a.2.2.length < 20 → ∀ x' y', x = nI x' → y = nI y' → mAns (d_M_note oS I R 210 x y z) 0 (nI (a.2.2.length + 1)) (fun J => MR J now (addN a (x', y', c)) b fw fh since st)))) := by
  have l := ha.2.1.2
  obtain ⟨s1, s2⟩ := m_isSample hR hM ha x y
  refine ⟨fun e => ?_, fun nx => ?_⟩
  · unfold d_M_note
    rw [s1 e, ob, if_pos bF, m_n48x _ _ _ (by decide)]
    exact ⟨_, _, rfl, ax_up_self _ _ _ _, fun z => (by cases z), MR_c hM _⟩
  refine ⟨fun e => ?_, fun c hc hz => ?_⟩
  · unfold d_M_note
    rw [s2 nx, ob, if_neg bT, m_in_f e, ob, if_pos bF, m_n48x _ _ _ (by decide)]
    exact ⟨_, _, rfl, ax_up_self _ _ _ _, fun z => (by cases z), MR_c hM _⟩
  have hM' := hM
  obtain ⟨hn, n3, ⟨⟨p1, p2, p3, p4⟩, pt, pn⟩, hb', -⟩ := hM
  obtain ⟨i1, i2, i3, i4⟩ := mx2 hR hn
  have nb : d_M_in oS I R z 0 255 = some true := by
    rw [hz]
    exact m_in_t (hi := 255) (nI_pos (by omega)) (nI_nlt (a := 255) (by omega) (by decide))
  have e : d_M_note oS I R 210 x y z = if nI a.2.2.length = 20 then d_M_note_48 oS I R 210 x y z 3 210 else d_M_note_48 oS I R 210 x y z 0 210 := by
    unfold d_M_note
    rw [s2 nx, ob, if_neg bT, nb, ob, if_neg bT, mr_7 hR, ob, n3, i4, ob, p4]
  rw [e]
  refine ⟨fun e => ?_, fun e x' y' hx hy => ?_⟩
  · rw [if_pos (show nI a.2.2.length = 20 by rw [e]; rfl), m_n48x _ _ _ (by decide)]
    exact ⟨_, _, rfl, ax_up_self _ _ _ _, fun z => (by cases z), MR_c hM' _⟩
  rw [if_neg (fun y => by have := (nI_eq (by omega) (by omega)).mp (show nI a.2.2.length = nI 20 from y); omega)]
  unfold d_M_note_48
  have e20 : (20 : Int32) * nI now + nI a.2.2.length = nI (20 * now + a.2.2.length) := by rw [show (20 : Int32) = nI 20 from rfl, nI_mul, nI_add]
  obtain ⟨t1, t2, t3⟩ := mxN hR (show 20 * now + a.2.2.length < 40 by omega) e20
  rw [ob, if_pos (up_ge (by decide)), mr_7 hR, ob, ax_up_ne (show ¬ (210 = 210 ∧ 3 = 0) by decide), n3, i4, ob, ax_up_ne (show ¬ (214 = 210 ∧ now = 0) by omega), p4, mr_15 hR, ob, t1, ob, ob, mr_16 hR, ob, t2, ob, ob, mr_17 hR, ob, t3, ob, ob, ob]
  obtain ⟨J, hJ⟩ : ∃ J, J = ax_up (ax_up (ax_up (ax_up I 210 0 0) 222 (20 * now + a.2.2.length) x) 223 (20 * now + a.2.2.length) y) 224 (20 * now + a.2.2.length) z := ⟨_, rfl⟩
  rw [← hJ]
  have g : ∀ i k, i < 222 ∨ 224 < i → ¬ (i = 210 ∧ k = 0) → J i k = I i k := fun i k z1 z2 => by rw [hJ, ax_up_ne (by omega), ax_up_ne (by omega), ax_up_ne (by omega), ax_up_ne (by omega)]
  have g2 : ∀ i k, k ≠ 20 * now + a.2.2.length → ¬ (i = 210 ∧ k = 0) → J i k = I i k := fun i k z1 z2 => by rw [hJ, ax_up_ne (by omega), ax_up_ne (by omega), ax_up_ne (by omega), ax_up_ne (by omega)]
  have c0 : J 210 0 = 0 := by rw [hJ, ax_up_ne (by omega), ax_up_ne (by omega), ax_up_ne (by omega), ax_up_self]
  rw [g 210 3 (by omega) (by omega), n3, i4, ob, ob, g 214 now (by omega) (by omega), p4, nI_1, ob, ob]
  have e3 : ax_up J 214 now (nI (a.2.2.length + 1)) 210 3 = nI now := by rw [ax_up_ne (by omega), g 210 3 (by omega) (by omega), n3]
  rw [e3, i4, ob, ax_up_self]
  have k1 : ∀ i k, i ≠ 214 → i < 222 ∨ 224 < i → ¬ (i = 210 ∧ k = 0) → ax_up J 214 now (nI (a.2.2.length + 1)) i k = I i k := fun i k z1 z2 z3 => by rw [ax_up_ne (by omega), g _ _ z2 z3]
  refine ⟨_, _, rfl, (ax_up_ne (by omega)).trans c0, fun _ => rfl, MR_mk hM' (fun k hk => k1 _ _ (by omega) (by omega) (by omega)) (fun k => k1 _ _ (by omega) (by omega) (by omega)) ⟨⟨(k1 _ _ (by omega) (by omega) (by omega)).trans p1, (k1 _ _ (by omega) (by omega) (by omega)).trans p2, (k1 _ _ (by omega) (by omega) (by omega)).trans p3, ?_⟩, fun k t hk => ?_, fun k n hk => ?_⟩ (MP_keep hb' hb (fun i z1 z2 => ?_) (fun i m z1 z2 z3 z4 => k1 _ _ (by omega) (by omega) (by omega)) (fun m z1 z2 => k1 _ _ (by omega) (by omega) (by omega)) (fun i m z1 z2 z3 z4 => ?_))⟩
  · rw [ax_up_self]; unfold addN; rw [List.length_append]; rfl
  · obtain ⟨⟨q1, q2, q3, q4, q5, q6⟩, q7⟩ := pt k t hk
    exact ⟨⟨(k1 _ _ (by omega) (by omega) (by omega)).trans q1, (k1 _ _ (by omega) (by omega) (by omega)).trans q2, (k1 _ _ (by omega) (by omega) (by omega)).trans q3, (k1 _ _ (by omega) (by omega) (by omega)).trans q4, (k1 _ _ (by omega) (by omega) (by omega)).trans q5, (k1 _ _ (by omega) (by omega) (by omega)).trans q6⟩, fun j c hj => (k1 _ _ (by omega) (by omega) (by omega)).trans (q7 j c hj)⟩
  · have hk' : (a.2.2 ++ [(x', y', c)])[k]? = some n := hk
    by_cases hlt : k < a.2.2.length
    · rw [List.getElem?_append_left hlt] at hk'
      obtain ⟨q1, q2, q3⟩ := pn k n hk'
      refine ⟨?_, ?_, ?_⟩
      · rw [ax_up_ne (by omega), g2 _ _ (by omega) (by omega)]; exact q1
      · rw [ax_up_ne (by omega), g2 _ _ (by omega) (by omega)]; exact q2
      · rw [ax_up_ne (by omega), g2 _ _ (by omega) (by omega)]; exact q3
    · rw [List.getElem?_append_right (by omega)] at hk'
      have hzz : k - a.2.2.length < 1 := (List.getElem?_eq_some_iff.mp hk').1
      have hk2 : k = a.2.2.length := by omega
      subst hk2
      simp at hk'
      subst hk'
      refine ⟨?_, ?_, ?_⟩
      · rw [ax_up_ne (by omega), hJ, ax_up_ne (by omega), ax_up_ne (by omega), ax_up_self]; exact hx
      · rw [ax_up_ne (by omega), hJ, ax_up_ne (by omega), ax_up_self]; exact hy
      · rw [ax_up_ne (by omega), hJ, ax_up_self]; exact hz
  · rw [ax_up_ne (by omega), g _ _ (by omega) (by omega)]
  · rw [ax_up_ne (by omega), g2 _ _ (by omega) (by omega)]
/-- what at() answers of a tile -/
def atV (t : Tl) (w : Int32) : Int32 := if w = 0 then nI t.1.1 else if w = 1 then nI t.1.2 else if w = 2 then nI t.2.1.1 else if w = 3 then nI t.2.1.2 else if w = 4 then nI t.2.2.1 else if w = 5 then nI t.2.2.2.length else if w = 6 then (if t.2.2.1 % 2 = 1 then nI t.2.1.2 else nI t.2.1.1) else if w = 7 then (if t.2.2.1 % 2 = 1 then nI t.2.1.1 else nI t.2.1.2) else -1
theorem M_at (hR : mOk oS R) (hM : MR I now a b fw fh since st) (ha : okP a) (x y : Int32) : (noIx a.2.1.length x → mAns (d_M_at oS I R 210 x y) 1 0 (fun J => MR J now a b fw fh since st)) ∧ (∀ k t, a.2.1[k]? = some t → x = nI k → mAns (d_M_at oS I R 210 x y) 0 (atV t y) (fun J => MR J now a b fw fh since st)) := by
  have l := ha.2.1.1
  obtain ⟨s1, s2⟩ := m_isTile hR hM ha x
  refine ⟨fun z => ?_, fun k t hk hx => ?_⟩
  · unfold d_M_at d_M_at_14
    rw [s1 z, ob, if_pos bF, ob, if_neg (up_le (by decide))]
    exact ⟨_, _, rfl, ax_up_self _ _ _ _, fun z => (by cases z), MR_c hM _⟩
  have hlt : k < a.2.1.length := (List.getElem?_eq_some_iff.mp hk).1
  have nx : ¬ noIx a.2.1.length x := by
    rw [hx]
    obtain ⟨n1, n2⟩ := idx_no (by omega) hlt
    rintro (z | z)
    · exact n1 z
    · exact n2 z
  have hM' := hM
  obtain ⟨hn, n3, ⟨⟨p1, p2, p3, p4⟩, pt, pn⟩, hb', -⟩ := MR_c hM 0
  obtain ⟨⟨q1, q2, q3, q4, q5, q6⟩, q7⟩ := pt k t hk
  have tv := (ha.2.2.1 t (List.mem_of_getElem? hk)).2.2.1
  have e40 : (40 : Int32) * nI now + x = nI (40 * now + k) := by rw [hx, show (40 : Int32) = nI 40 from rfl, nI_mul, nI_add]
  obtain ⟨⟨t1, t2, t3⟩, t4, t5, t6⟩ := mxT hR (show 40 * now + k < 80 by omega) e40
  unfold d_M_at d_M_at_14 d_M_tileAt
  rw [s2 nx, ob, if_neg bT, ob, if_pos (up_ge (by decide)), ob, n3]
  simp only [mr_8 hR, mr_9 hR, mr_10 hR, mr_11 hR, mr_12 hR, mr_13 hR, ob, t1, t2, t3, t4, t5, t6, q1, q2, q3, q4, q5, q6, m_turned _ _ _ tv]
  refine ⟨_, ax_up I 210 0 0, ?_, ax_up_self _ _ _ _, fun _ => rfl, MR_c hM' _⟩
  unfold atV
  by_cases z0 : y = 0
  · rw [if_pos z0, if_pos z0]
  rw [if_neg z0, if_neg z0]
  by_cases z1 : y = 1
  · rw [if_pos z1, if_pos z1]
  rw [if_neg z1, if_neg z1]
  by_cases z2 : y = 2
  · rw [if_pos z2, if_pos z2]
  rw [if_neg z2, if_neg z2]
  by_cases z3 : y = 3
  · rw [if_pos z3, if_pos z3]
  rw [if_neg z3, if_neg z3]
  by_cases z4 : y = 4
  · rw [if_pos z4, if_pos z4]
  rw [if_neg z4, if_neg z4]
  by_cases z5 : y = 5
  · rw [if_pos z5, if_pos z5]
  rw [if_neg z5, if_neg z5]
  have hd : ∀ {α : Type} (p q : α), (if ax_b (decide (t.2.2.1 % 2 = 1)) = 0 then p else q) = if t.2.2.1 % 2 = 1 then q else p := by
    intro α p q
    by_cases hz : t.2.2.1 % 2 = 1
    · rw [if_pos hz, if_neg (by rw [decide_eq_true hz]; exact bT)]
    · rw [if_neg hz, if_pos (by rw [decide_eq_false hz]; exact bF)]
  by_cases z6 : y = 6
  · rw [if_pos z6, if_pos z6, hd]
    split <;> rfl
  rw [if_neg z6, if_neg z6]
  by_cases z7 : y = 7
  · rw [if_pos z7, if_pos z7, hd]
    split <;> rfl
  rw [if_neg z7, if_neg z7]
theorem M_byteAt (hR : mOk oS R) (hM : MR I now a b fw fh since st) (ha : okP a) (x y : Int32) : (noIx a.2.1.length x → mAns (d_M_byteAt oS I R 210 x y) 1 0 (fun J => MR J now a b fw fh since st)) ∧ (∀ k t, a.2.1[k]? = some t → x = nI k → (noIx t.2.2.2.length y → mAns (d_M_byteAt oS I R 210 x y) 1 0 (fun J => MR J now a b fw fh since st)) ∧ (∀ j c, t.2.2.2[j]? = some c → y = nI j → mAns (d_M_byteAt oS I R 210 x y) 0 (nI c) (fun J => MR J now a b fw fh since st))) := by
  have l := ha.2.1.1
  obtain ⟨s1, s2⟩ := m_isTile hR hM ha x
  have bad : mAns (d_M_byteAt_29 oS I R 210 x y 210) 1 0 (fun J => MR J now a b fw fh since st) := by
    unfold d_M_byteAt_29 d_M_byteAt_34
    rw [ob, if_neg (up_le (by decide))]
    exact ⟨_, _, rfl, ax_up_self _ _ _ _, fun z => (by cases z), MR_c hM _⟩
  refine ⟨fun z => ?_, fun k t hk hx => ?_⟩
  · unfold d_M_byteAt
    rw [s1 z, ob, if_pos bF]
    exact bad
  have hlt : k < a.2.1.length := (List.getElem?_eq_some_iff.mp hk).1
  have nx : ¬ noIx a.2.1.length x := by
    rw [hx]
    obtain ⟨n1, n2⟩ := idx_no (by omega) hlt
    rintro (z | z)
    · exact n1 z
    · exact n2 z
  have hM' := hM
  obtain ⟨hn, n3, ⟨⟨p1, p2, p3, p4⟩, pt, pn⟩, hb', -⟩ := hM
  obtain ⟨⟨q1, q2, q3, q4, q5, q6⟩, q7⟩ := pt k t hk
  have lt := (ha.2.2.1 t (List.mem_of_getElem? hk)).2.2.2.1
  have e40 : (40 : Int32) * nI now + x = nI (40 * now + k) := by rw [hx, show (40 : Int32) = nI 40 from rfl, nI_mul, nI_add]
  obtain ⟨-, -, -, t6⟩ := mxT hR (show 40 * now + k < 80 by omega) e40
  unfold d_M_byteAt
  rw [s2 nx, ob, if_neg bT, mr_13 hR, ob]
  unfold d_M_tileAt
  rw [ob, n3, t6, ob, q6]
  refine ⟨fun z => ?_, fun j c hj hy => ?_⟩
  · rw [(m_inIx (by omega)).1 z, ob, if_pos bF]
    exact bad
  · have hjl : j < t.2.2.2.length := (List.getElem?_eq_some_iff.mp hj).1
    have ny : ¬ noIx t.2.2.2.length y := by
      rw [hy]
      obtain ⟨n1, n2⟩ := idx_no (by omega) hjl
      rintro (z | z)
      · exact n1 z
      · exact n2 z
    have e12 : (12 : Int32) * (40 * nI now + x) + y = nI (12 * (40 * now + k) + j) := by rw [e40, hy, show (12 : Int32) = nI 12 from rfl, nI_mul, nI_add]
    have tb := mxB hR (show 12 * (40 * now + k) + j < 960 by omega) e12
    rw [(m_inIx (by omega)).2 ny, ob, if_neg bT]
    unfold d_M_byteAt_34 d_M_tileAt
    rw [ob, if_pos (up_ge (by decide)), mr_14 hR, ob, ob, ax_up_ne (show ¬ (210 = 210 ∧ 3 = 0) by decide), n3, tb, ob, ax_up_ne (show ¬ (221 = 210 ∧ 12 * (40 * now + k) + j = 0) by omega), q7 j c hj]
    exact ⟨_, _, rfl, ax_up_self _ _ _ _, fun _ => rfl, MR_c hM' _⟩
def noV (n : Nt) (w : Int32) : Int32 := if w = 0 then nI n.1 else if w = 1 then nI n.2.1 else if w = 2 then nI n.2.2 else -1
theorem M_noteAt (hR : mOk oS R) (hM : MR I now a b fw fh since st) (ha : okP a) (x y : Int32) : (noIx a.2.2.length x → mAns (d_M_noteAt oS I R 210 x y) 1 0 (fun J => MR J now a b fw fh since st)) ∧ (∀ k n, a.2.2[k]? = some n → x = nI k → mAns (d_M_noteAt oS I R 210 x y) 0 (noV n y) (fun J => MR J now a b fw fh since st)) := by
  have l := ha.2.1.2
  have hM' := hM
  obtain ⟨hn, n3, ⟨⟨p1, p2, p3, p4⟩, pt, pn⟩, hb', -⟩ := hM
  obtain ⟨i1, i2, i3, i4⟩ := mx2 hR hn
  unfold d_M_noteAt
  rw [mr_7 hR, ob, n3, i4, ob, p4]
  refine ⟨fun z => ?_, fun k n hk hx => ?_⟩
  · unfold d_M_noteAt_25
    rw [(m_inIx (by omega)).1 z, ob, if_pos bF, ob, if_neg (up_le (by decide))]
    exact ⟨_, _, rfl, ax_up_self _ _ _ _, fun z => (by cases z), MR_c hM' _⟩
  have hlt : k < a.2.2.length := (List.getElem?_eq_some_iff.mp hk).1
  have nx : ¬ noIx a.2.2.length x := by
    rw [hx]
    obtain ⟨n1, n2⟩ := idx_no (by omega) hlt
    rintro (z | z)
    · exact n1 z
    · exact n2 z
  obtain ⟨q1, q2, q3⟩ := pn k n hk
  have e20 : (20 : Int32) * nI now + x = nI (20 * now + k) := by rw [hx, show (20 : Int32) = nI 20 from rfl, nI_mul, nI_add]
  obtain ⟨t1, t2, t3⟩ := mxN hR (show 20 * now + k < 40 by omega) e20
  have u : ∀ i m, i ≠ 210 → ax_up I 210 0 0 i m = I i m := fun i m z => ax_up_ne (by omega)
  unfold d_M_noteAt_25
  rw [(m_inIx (by omega)).2 nx, ob, if_neg bT, ob, if_pos (up_ge (by decide)), ax_up_ne (show ¬ (210 = 210 ∧ 3 = 0) by decide), n3]
  simp only [mr_15 hR, mr_16 hR, mr_17 hR, ob, t1, t2, t3, u 222 _ (by decide), u 223 _ (by decide), u 224 _ (by decide), q1, q2, q3]
  refine ⟨_, ax_up I 210 0 0, ?_, ax_up_self _ _ _ _, fun _ => rfl, MR_c hM' _⟩
  unfold noV
  by_cases z0 : y = 0
  · rw [if_pos z0, if_pos z0]
  rw [if_neg z0, if_neg z0]
  by_cases z1 : y = 1
  · rw [if_pos z1, if_pos z1]
  rw [if_neg z1, if_neg z1]
  by_cases z2 : y = 2
  · rw [if_pos z2, if_pos z2]
  rw [if_neg z2, if_neg z2]
theorem M_streamAt (hR : mOk oS R) (hM : MR I now a b fw fh since st) (hs : st.length ≤ 1148) (x : Int32) : (noIx st.length x → mAns (d_M_streamAt oS I R 210 x) 1 0 (fun J => MR J now a b fw fh since st)) ∧ (∀ j c, st[j]? = some c → x = nI j → mAns (d_M_streamAt oS I R 210 x) 0 (nI c) (fun J => MR J now a b fw fh since st)) := by
  have hM' := hM
  obtain ⟨hn, n3, -, -, -, -, -, f4, f5⟩ := hM
  unfold d_M_streamAt d_M_streamAt_20
  rw [f4]
  refine ⟨fun z => ?_, fun j c hj hx => ?_⟩
  · rw [(m_inIx (by omega)).1 z, ob, if_pos bF, ob, if_neg (up_le (by decide))]
    exact ⟨_, _, rfl, ax_up_self _ _ _ _, fun z => (by cases z), MR_c hM' _⟩
  · have hjl : j < st.length := (List.getElem?_eq_some_iff.mp hj).1
    have nx : ¬ noIx st.length x := by
      rw [hx]
      obtain ⟨n1, n2⟩ := idx_no (by omega) hjl
      rintro (z | z)
      · exact n1 z
      · exact n2 z
    rw [(m_inIx (by omega)).2 nx, ob, if_neg bT, ob, if_pos (up_ge (by decide)), mr_21 hR, ob, mxS hR (show j < 1200 by omega) hx, ob, ax_up_ne (show ¬ (226 = 210 ∧ j = 0) by omega), f5 j c hj]
    exact ⟨_, _, rfl, ax_up_self _ _ _ _, fun _ => rfl, MR_c hM' _⟩
def tellV (a b : Pc) (st : List Nat) (w : Int32) : Int32 := if w = 0 then nI a.1.1 else if w = 1 then nI a.1.2 else if w = 2 then nI a.2.1.length else if w = 3 then nI a.2.2.length else if w = 4 then nI st.length else if w = 5 then nI b.1.1 else if w = 6 then nI b.1.2 else if w = 7 then nI b.2.1.length else if w = 8 then nI b.2.2.length else -1
theorem M_told (hR : mOk oS R) (hM : MR I now a b fw fh since st) (x : Int32) : mAns (d_M_told oS I R 210 x) 0 (tellV a b st x) (fun J => MR J now a b fw fh since st) := by
  have hM' := MR_c hM 0
  obtain ⟨hn, n3, ⟨⟨p1, p2, p3, p4⟩, -, -⟩, ⟨⟨b1, b2, b3, b4⟩, -, -⟩, -, -, -, f4, -⟩ := MR_c hM 0
  obtain ⟨i1, i2, i3, i4⟩ := mx2 hR hn
  obtain ⟨j1, j2, j3, j4⟩ := mx2 hR (show 1 - now < 2 by omega)
  have e1 : (1 : Int32) - nI now = nI (1 - now) := by rw [show (1 : Int32) = nI 1 from rfl, nI_sub (by omega)]
  unfold d_M_told
  rw [ob, n3, e1]
  simp only [mr_4 hR, mr_5 hR, mr_6 hR, mr_7 hR, ob, i1, i2, i3, i4, j1, j2, j3, j4, p1, p2, p3, p4, b1, b2, b3, b4, f4]
  refine ⟨_, ax_up I 210 0 0, ?_, ax_up_self _ _ _ _, fun _ => rfl, hM'⟩
  unfold tellV
  by_cases z0 : x = 0
  · rw [if_pos z0, if_pos z0]
  rw [if_neg z0, if_neg z0]
  by_cases z1 : x = 1
  · rw [if_pos z1, if_pos z1]
  rw [if_neg z1, if_neg z1]
  by_cases z2 : x = 2
  · rw [if_pos z2, if_pos z2]
  rw [if_neg z2, if_neg z2]
  by_cases z3 : x = 3
  · rw [if_pos z3, if_pos z3]
  rw [if_neg z3, if_neg z3]
  by_cases z4 : x = 4
  · rw [if_pos z4, if_pos z4]
  rw [if_neg z4, if_neg z4]
  by_cases z5 : x = 5
  · rw [if_pos z5, if_pos z5]
  rw [if_neg z5, if_neg z5]
  by_cases z6 : x = 6
  · rw [if_pos z6, if_pos z6]
  rw [if_neg z6, if_neg z6]
  by_cases z7 : x = 7
  · rw [if_pos z7, if_pos z7]
  rw [if_neg z7, if_neg z7]
  by_cases z8 : x = 8
  · rw [if_pos z8, if_pos z8]
  rw [if_neg z8, if_neg z8]
theorem M_swap (hR : mOk oS R) (hM : MR I now a b fw fh since st) : mAns (d_M_swap oS I R 210) 0 (nI b.2.1.length) (fun J => MR J (1 - now) b a fw fh 0 st) := by
  obtain ⟨hn, n3, pa, pb, f1, f2, f3, f4, f5⟩ := hM
  obtain ⟨j1, j2, j3, j4⟩ := mx2 hR (show 1 - now < 2 by omega)
  have e1 : (1 : Int32) - nI now = nI (1 - now) := by rw [show (1 : Int32) = nI 1 from rfl, nI_sub (by omega)]
  unfold d_M_swap
  rw [ob, ob, ob, ob, mr_6 hR, ob, ax_up_ne (show ¬ (210 = 210 ∧ 3 = 19) by decide), ax_up_ne (show ¬ (210 = 210 ∧ 3 = 18) by decide), ax_up_self, ax_up_ne (show ¬ (210 = 210 ∧ 3 = 0) by decide), n3, e1, j3, ob]
  have k1 : ∀ i k, ¬ (i = 210 ∧ (k = 0 ∨ k = 3 ∨ k = 18 ∨ k = 19)) → ax_up (ax_up (ax_up (ax_up I 210 0 0) 210 3 (nI (1 - now))) 210 18 0) 210 19 0 i k = I i k := fun i k z => by rw [ax_up_ne (by omega), ax_up_ne (by omega), ax_up_ne (by omega), ax_up_ne (by omega)]
  refine ⟨_, _, rfl, ?_, fun _ => (k1 _ _ (by omega)).trans pb.1.2.2.1, by omega, ?_, ?_, ?_, (k1 _ _ (by omega)).trans f1, (k1 _ _ (by omega)).trans f2, ?_, (k1 _ _ (by omega)).trans f4, fun j c hj => (k1 _ _ (by omega)).trans (f5 j c hj)⟩
  · rw [ax_up_ne (by omega), ax_up_ne (by omega), ax_up_ne (by omega), ax_up_self]; rfl
  · rw [ax_up_ne (by omega), ax_up_ne (by omega), ax_up_self]
  · exact MP_up (by omega) (MP_up (by omega) (MP_up (by omega) (MP_up (by omega) pb)))
  · rw [show 1 - (1 - now) = now by omega]
    exact MP_up (by omega) (MP_up (by omega) (MP_up (by omega) (MP_up (by omega) pa)))
  · rw [ax_up_ne (by omega), ax_up_self]; rfl
theorem M_clear (hR : mOk oS R) (hM : MR I now a b fw fh since st) : ∃ J, d_M_clear oS I R 210 = some J ∧ MR J 0 ((fw, fh), [], []) ((fw, fh), [], []) fw fh 0 [] := by
  obtain ⟨hn, n3, pa, pb, f1, f2, f3, f4, f5⟩ := hM
  refine ⟨clr I, m_clear hR, by omega, rfl, ⟨⟨f1, f2, rfl, rfl⟩, fun k t hk => (by cases hk), fun k t hk => (by cases hk)⟩, ⟨⟨f1, f2, rfl, rfl⟩, fun k t hk => (by cases hk), fun k t hk => (by cases hk)⟩, f1, f2, rfl, rfl, fun j c hj => (by cases hj)⟩
theorem M_near (hR : mOk oS R) (hM : MR I now a b fw fh since st) (x : Int32) : ∃ v J, d_M_near oS I R 210 x = some (v, J) ∧ MR J now a b fw fh since st := by
  unfold d_M_near
  have q : ∀ c : Int32, (¬ c ≤ 0 ∨ ∃ j, j < 4 ∧ x = nI j) → ∃ v J, d_M_near_26 oS I R 210 x c 210 = some (v, J) ∧ MR J now a b fw fh since st := by
    intro c hc
    unfold d_M_near_26
    rw [ob]
    by_cases z : c ≤ 0
    · obtain ⟨j, hj, hx⟩ := hc.resolve_left (fun y => y z)
      rw [if_pos (up_ge z), mr_20 hR, ob, show ax_ix oS 225 x = some j from mx hR 14 (by omega) j hx hj, ob]
      exact ⟨_, _, rfl, MR_c hM _⟩
    · rw [if_neg (up_le z)]
      exact ⟨_, _, rfl, MR_c hM _⟩
  by_cases z : x < 0 ∨ 3 < x
  · rw [m_in_f z, ob, if_pos bF]
    exact q 1 (Or.inl (by decide))
  · have z1 : ¬ x < 0 := fun y => z (Or.inl y)
    have z2 : ¬ 3 < x := fun y => z (Or.inr y)
    rw [m_in_t z1 z2, ob, if_neg bT]
    obtain ⟨j, hj, hx⟩ := side_of z1 (fun y => z2 (by
      rw [Int32.lt_iff_toInt_lt]
      rw [Int32.le_iff_toInt_le] at y
      have a : (3 : Int32).toInt = 3 := rfl
      have b : (4 : Int32).toInt = 4 := rfl
      omega))
    split
    · exact q 2 (Or.inl (by decide))
    · exact q 0 (Or.inr ⟨j, hj, hx⟩)
end MS
