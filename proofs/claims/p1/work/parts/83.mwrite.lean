/-! the reference: what it tells into its stream; pointers -/
section MW
variable {I : ax_I} {R : ax_R} {now fw fh since : Nat} {a b : Pc} {st : List Nat}
theorem mp_tell (hR : mOk oS R) (hM : MR I now a b fw fh since st) (hl : st.length < 1200) {x : Int32} (c : Nat) (hx : x = nI c) : ∃ J, d_M_tell oS I R 210 x = some J ∧ J 210 0 = I 210 0 ∧ MR J now a b fw fh since (st ++ [c]) := by
  subst hx
  obtain ⟨hn, n3, ha, hb, n1, n2, n18, n22, nst⟩ := hM
  unfold d_M_tell
  rw [mr_21 hR, ob, n22, mxS hR hl rfl, ob, ob, ob, ax_up_ne (show ¬ (210 = 226 ∧ 22 = st.length) by omega), n22, nI_1]
  have k : ∀ i m, i ≠ 226 → ¬ (i = 210 ∧ m = 22) → ax_up (ax_up I 226 st.length (nI c)) 210 22 (nI (st.length + 1)) i m = I i m := fun i m z1 z2 => by rw [ax_up_ne z2, ax_up_ne (by omega)]
  refine ⟨_, rfl, k _ _ (by omega) (by omega), hn, (k _ _ (by omega) (by omega)).trans n3, MP_up (by omega) (MP_up (by omega) ha), MP_up (by omega) (MP_up (by omega) hb), (k _ _ (by omega) (by omega)).trans n1, (k _ _ (by omega) (by omega)).trans n2, (k _ _ (by omega) (by omega)).trans n18, ?_, fun j d hj => ?_⟩
  · rw [ax_up_self, List.length_append]; rfl
  · rw [ax_up_ne (by omega)]
    by_cases e : j < st.length
    · rw [List.getElem?_append_left e] at hj
      rw [ax_up_ne (by omega)]
      exact nst j d hj
    · rw [List.getElem?_append_right (by omega)] at hj
      have hz : j - st.length < 1 := (List.getElem?_eq_some_iff.mp hj).1
      have hj2 : j = st.length := by omega
      subst hj2
      simp at hj
      subst hj
      rw [ax_up_self]
theorem mp_two (hR : mOk oS R) (hM : MR I now a b fw fh since st) (hl : st.length + 2 ≤ 1200) {x : Int32} {v : Nat} (hv : v < 2 ^ 31) (hx : x = nI v) : ∃ J, d_M_tellTwo oS I R 210 x = some J ∧ J 210 0 = I 210 0 ∧ MR J now a b fw fh since (st ++ two v) := by
  subst hx
  obtain ⟨J1, e1, c1, M1⟩ := mp_tell hR hM (by omega) (v % 256) (n_rem (d := 256) hv (by omega) (by omega))
  obtain ⟨J2, e2, c2, M2⟩ := mp_tell hR M1 (by rw [List.length_append]; show st.length + 1 < 1200; omega) (v / 256) (pk_div (d := 256) hv (by omega) (by omega))
  have e1 : d_M_tell oS I R 210 (nI v - nI v / 256 * 256) = some J1 := e1
  have e2 : d_M_tell oS J1 R 210 (nI v / 256) = some J2 := e2
  unfold d_M_tellTwo
  rw [e1, ob, e2, ob]
  refine ⟨J2, rfl, c2.trans c1, ?_⟩
  rw [List.append_assoc] at M2
  exact M2
theorem m_isBefore (hR : mOk oS R) {m1 m2 : Nat} (h1 : m1 < 80) (h2 : m2 < 80) {s t : Tl} (hs : MT I m1 s) (ht : MT I m2 t) (b1 : s.1.1 ≤ 400) (b2 : s.1.2 ≤ 400) (b3 : t.1.1 ≤ 400) (b4 : t.1.2 ≤ 400) : d_M_isBefore oS I R 210 (nI m1) (nI m2) = some (bef s t) := by
  obtain ⟨⟨x1, x2, -⟩, -⟩ := mxT hR h1 rfl
  obtain ⟨⟨y1, y2, -⟩, -⟩ := mxT hR h2 rfl
  obtain ⟨⟨q1, q2, -⟩, -⟩ := hs
  obtain ⟨⟨r1, r2, -⟩, -⟩ := ht
  unfold d_M_isBefore d_M_isBefore_45
  simp only [mr_8 hR, mr_9 hR, ob, x1, x2, y1, y2, q1, q2, r1, r2]
  unfold bef
  by_cases z1 : s.1.2 < t.1.2
  · rw [if_pos (nI_lt z1 (by omega)), decide_eq_true (Or.inl z1)]
  rw [if_neg (nI_nlt (by omega) (by omega))]
  by_cases z2 : s.1.2 = t.1.2
  · rw [if_pos (by rw [z2])]
    by_cases z3 : t.1.1 ≤ s.1.1
    · rw [if_pos (nI_le z3 (by omega)), decide_eq_false (by omega)]
    · rw [if_neg (nI_ge (by omega) (by omega)), decide_eq_true (by omega)]
  · rw [if_neg (fun y => z2 ((nI_eq (by omega) (by omega)).mp y)), decide_eq_false (by omega)]
theorem m_ptrL (hR : mOk oS R) (hM : MR I now a b fw fh since st) (ha : okP a) {k : Nat} {t : Tl} (hk : a.2.1[k]? = some t) : ∀ (m n j acc : Nat), j + m = a.2.1.length → m < n → d_M_pointerOf_29 oS n I R 210 (nI k) (nI acc) (nI j) = some (nI (acc + sumB t (a.2.1.drop j))) := by
  obtain ⟨hn, n3, ⟨⟨p1, p2, p3, p4⟩, pt, pn⟩, hb', -⟩ := hM
  obtain ⟨-, -, ix, -⟩ := mx2 hR hn
  have l40 := ha.2.1.1
  have hkl : k < a.2.1.length := (List.getElem?_eq_some_iff.mp hk).1
  have oW := ha.1
  intro m
  induction m with
  | zero =>
    intro n j acc hj hn'
    obtain ⟨n, rfl⟩ : ∃ n', n = n' + 1 := ⟨n - 1, by omega⟩
    have hj : j = a.2.1.length := by omega
    subst hj
    rw [d_M_pointerOf_29, mr_6 hR, ob, n3, ix, ob, p3, if_pos (nI_le (Nat.le_refl _) (by omega)), List.drop_length]
    rfl
  | succ m ih =>
    intro n j acc hj hn'
    obtain ⟨n, rfl⟩ : ∃ n', n = n' + 1 := ⟨n - 1, by omega⟩
    have hlt : j < a.2.1.length := by omega
    obtain ⟨s, hs⟩ : ∃ s, a.2.1[j]? = some s := ⟨_, List.getElem?_eq_getElem hlt⟩
    have ed : a.2.1.drop j = s :: a.2.1.drop (j + 1) := by rw [List.drop_eq_getElem_cons hlt]; congr 1; rw [List.getElem?_eq_getElem hlt] at hs; exact Option.some.inj hs
    obtain ⟨os, ⟨os1, os2⟩, -⟩ := ha.2.2.1 s (List.mem_of_getElem? hs)
    obtain ⟨ot, ⟨ot1, ot2⟩, -⟩ := ha.2.2.1 t (List.mem_of_getElem? hk)
    have e40 : ∀ v, (40 : Int32) * nI now + nI v = nI (40 * now + v) := fun v => by rw [show (40 : Int32) = nI 40 from rfl, nI_mul, nI_add]
    obtain ⟨-, -, -, t6⟩ := mxT hR (show 40 * now + j < 80 by omega) rfl
    have q6 := (pt j s hs).1.2.2.2.2.2
    have esum : sumB t (s :: a.2.1.drop (j + 1)) = (if bef s t then psz s else 0) + sumB t (a.2.1.drop (j + 1)) := by unfold sumB; rw [List.map_cons, List.sum_cons]
    rw [d_M_pointerOf_29, mr_6 hR, ob, n3, ix, ob, p3, if_neg (nI_ge hlt (by omega))]
    unfold d_M_tileAt
    rw [ob, ob, n3, e40, e40, m_isBefore hR (by omega) (by omega) (pt j s hs) (pt k t hk) (by omega) (by omega) (by omega) (by omega), ob, ed, esum]
    unfold d_M_pointerOf_77
    cases hbf : bef s t with
    | false =>
      have h0 : nI acc + 0 = nI acc := nI_add acc 0
      rw [if_pos bF, h0, nI_1, ih n (j + 1) acc (by omega) (by omega)]
      congr 2
      simp
    | true =>
      unfold d_M_partSize
      rw [if_neg bT, mr_13 hR, ob, ob, t6, ob, ob, q6, show (12 : Int32) = nI 12 from rfl, nI_add, nI_add, nI_1, ih n (j + 1) _ (by omega) (by omega)]
      congr 2
      unfold psz
      simp
      omega
theorem m_ptr (hR : mOk oS R) (hM : MR I now a b fw fh since st) (ha : okP a) {k : Nat} {t : Tl} (hk : a.2.1[k]? = some t) : d_M_pointerOf oS I R 210 (nI k) = some (nI (ptrP a t)) := by
  have hM' := hM
  obtain ⟨hn, n3, ⟨⟨p1, p2, p3, p4⟩, pt, pn⟩, hb', -⟩ := hM
  obtain ⟨-, -, i3, i4⟩ := mx2 hR hn
  unfold d_M_pointerOf
  rw [mr_6 hR, ob, n3, i3, ob, mr_7 hR, ob, i4, ob, p3, p4, show (8 : Int32) = nI 8 from rfl, show (2 : Int32) = nI 2 from rfl, show (5 : Int32) = nI 5 from rfl, nI_mul, nI_mul, nI_add, nI_add]
  exact m_ptrL hR hM' ha hk a.2.1.length 5000 0 _ (by omega) (by have := ha.2.1.1; omega)
theorem M_pointer (hR : mOk oS R) (hM : MR I now a b fw fh since st) (ha : okP a) (x : Int32) : (noIx a.2.1.length x → mAns (d_M_pointer oS I R 210 x) 1 0 (fun J => MR J now a b fw fh since st)) ∧ (∀ k t, a.2.1[k]? = some t → x = nI k → mAns (d_M_pointer oS I R 210 x) 0 (nI (ptrP a t)) (fun J => MR J now a b fw fh since st)) := by
  have l := ha.2.1.1
  obtain ⟨s1, s2⟩ := m_isTile hR hM ha x
  unfold d_M_pointer d_M_pointer_14
  refine ⟨fun z => ?_, fun k t hk hx => ?_⟩
  · rw [s1 z, ob, if_pos bF, ob, if_neg (up_le (by decide))]
    exact ⟨_, _, rfl, ax_up_self _ _ _ _, fun z => (by cases z), MR_c hM _⟩
  · have hlt : k < a.2.1.length := (List.getElem?_eq_some_iff.mp hk).1
    have nx : ¬ noIx a.2.1.length x := by
      rw [hx]
      rintro (z | z)
      · exact (idx_no (by omega) hlt).1 z
      · exact (idx_no (by omega) hlt).2 z
    rw [s2 nx, ob, if_neg bT, ob, if_pos (up_ge (by decide)), hx, m_ptr hR (MR_c hM 0) ha hk, ob]
    exact ⟨_, _, rfl, ax_up_self _ _ _ _, fun _ => rfl, MR_c hM _⟩
theorem m_part103 (hR : mOk oS R) (hM : MR I now a b fw fh since st) (hl : st.length + 2 ≤ 1200) : ∀ (m n k s : Nat), k + m = st.length → m < n → s < 65521 → (∀ c ∈ st.drop k, c < 256) → ∃ J, d_M_tellPart_103 oS n I R 210 (nI s) (nI k) = some J ∧ J 210 0 = I 210 0 ∧ MR J now a b fw fh since (st ++ two (sumL s (st.drop k))) := by
  have hM' := hM
  obtain ⟨hn, n3, -, -, n1, n2, n18, n22, nst⟩ := hM
  intro m
  induction m with
  | zero =>
    intro n k s hk hn' hs hc
    obtain ⟨n, rfl⟩ : ∃ n', n = n' + 1 := ⟨n - 1, by omega⟩
    have hk : k = st.length := by omega
    subst hk
    rw [d_M_tellPart_103, n22, if_pos (nI_le (Nat.le_refl _) (by omega)), List.drop_length]
    obtain ⟨J, e, c, M⟩ := mp_two hR hM' hl (v := s) (by omega) rfl
    rw [e, ob]
    exact ⟨J, rfl, c, M⟩
  | succ m ih =>
    intro n k s hk hn' hs hc
    obtain ⟨n, rfl⟩ : ∃ n', n = n' + 1 := ⟨n - 1, by omega⟩
    have hlt : k < st.length := by omega
    obtain ⟨c, hc'⟩ : ∃ c, st[k]? = some c := ⟨_, List.getElem?_eq_getElem hlt⟩
    have ed : st.drop k = c :: st.drop (k + 1) := by rw [List.drop_eq_getElem_cons hlt]; congr 1; rw [List.getElem?_eq_getElem hlt] at hc'; exact Option.some.inj hc'
    have c256 : c < 256 := hc c (by rw [ed]; exact List.mem_cons_self)
    have er : nI (31 * s + c) - nI (31 * s + c) / 65521 * 65521 = nI ((31 * s + c) % 65521) := n_rem (d := 65521) (by omega) (by omega) (by omega)
    rw [d_M_tellPart_103, n22, if_neg (nI_ge hlt (by omega)), mr_21 hR, ob, mxS hR (show k < 1200 by omega) rfl, ob, nst k c hc', show (31 : Int32) = nI 31 from rfl, nI_mul, nI_add, er, nI_1, ed]
    exact ih n (k + 1) _ (by omega) (by omega) (Nat.mod_lt _ (by omega)) (fun d hd => hc d (by rw [ed]; exact List.mem_cons_of_mem _ hd))
theorem m_part67 (hR : mOk oS R) (ha : okP a) {k : Nat} {t : Tl} (hk : a.2.1[k]? = some t) (u2 : Int32) : ∀ (m n i : Nat) (J : ax_I) (st : List Nat), i + m = t.2.2.2.length → m < n → MR J now a b fw fh since st → st.length + m + 2 ≤ 1200 → ∃ J', d_M_tellPart_67 oS n J R 210 (nI (40 * now + k)) u2 (nI i) = d_M_tellPart_103 oS 5000 J' R 210 1 u2 ∧ J' 210 0 = J 210 0 ∧ MR J' now a b fw fh since (st ++ t.2.2.2.drop i) := by
  have l40 := ha.2.1.1
  have hkl : k < a.2.1.length := (List.getElem?_eq_some_iff.mp hk).1
  have hbl := (ha.2.2.1 t (List.mem_of_getElem? hk)).2.2.2.1
  intro m
  induction m with
  | zero =>
    intro n i J st hi hn' hM hl
    obtain ⟨n, rfl⟩ : ∃ n', n = n' + 1 := ⟨n - 1, by omega⟩
    have hi : i = t.2.2.2.length := by omega
    subst hi
    have hM' := hM
    obtain ⟨hn, n3, ⟨-, pt, -⟩, -⟩ := hM
    obtain ⟨-, -, -, t6⟩ := mxT hR (show 40 * now + k < 80 by omega) rfl
    rw [d_M_tellPart_67, mr_13 hR, ob, t6, ob, (pt k t hk).1.2.2.2.2.2, if_pos (nI_le (Nat.le_refl _) (by omega)), List.drop_length, List.append_nil]
    exact ⟨J, rfl, rfl, hM'⟩
  | succ m ih =>
    intro n i J st hi hn' hM hl
    obtain ⟨n, rfl⟩ : ∃ n', n = n' + 1 := ⟨n - 1, by omega⟩
    have hlt : i < t.2.2.2.length := by omega
    obtain ⟨c, hc⟩ : ∃ c, t.2.2.2[i]? = some c := ⟨_, List.getElem?_eq_getElem hlt⟩
    have ed : t.2.2.2.drop i = c :: t.2.2.2.drop (i + 1) := by rw [List.drop_eq_getElem_cons hlt]; congr 1; rw [List.getElem?_eq_getElem hlt] at hc; exact Option.some.inj hc
    have hM' := hM
    obtain ⟨hn, n3, ⟨-, pt, -⟩, -⟩ := hM
    obtain ⟨-, -, -, t6⟩ := mxT hR (show 40 * now + k < 80 by omega) rfl
    have e12 : (12 : Int32) * nI (40 * now + k) + nI i = nI (12 * (40 * now + k) + i) := by rw [show (12 : Int32) = nI 12 from rfl, nI_mul, nI_add]
    obtain ⟨J1, e1, c1, M1⟩ := mp_tell hR hM' (by omega) c ((pt k t hk).2 i c hc)
    rw [d_M_tellPart_67, mr_13 hR, ob, t6, ob, (pt k t hk).1.2.2.2.2.2, if_neg (nI_ge hlt (by omega)), mr_14 hR, ob, mxB hR (show 12 * (40 * now + k) + i < 960 by omega) e12, ob, e1, ob, nI_1]
    obtain ⟨J2, e2, c2, M2⟩ := ih n (i + 1) J1 (st ++ [c]) (by omega) (by omega) M1 (by rw [List.length_append]; show st.length + 1 + m + 2 ≤ 1200; omega)
    refine ⟨J2, e2, c2.trans c1, ?_⟩
    rw [ed]
    rw [List.append_assoc] at M2
    exact M2
theorem m_tellPart (hR : mOk oS R) (hM : MR I now a b fw fh since st) (ha : okP a) {k : Nat} {t : Tl} (hk : a.2.1[k]? = some t) (hl : st.length + psz t ≤ 1200) : ∃ J, d_M_tellPart oS I R 210 (nI (40 * now + k)) = some J ∧ J 210 0 = I 210 0 ∧ MR J now a b fw fh since (st ++ part t) := by
  have l40 := ha.2.1.1
  have oW := ha.1
  have hkl : k < a.2.1.length := (List.getElem?_eq_some_iff.mp hk).1
  have ot := ha.2.2.1 t (List.mem_of_getElem? hk)
  have h10 := hd10_lt oW.2.1 oW.2.2.2 ot
  obtain ⟨⟨z1, z2, z3, z4⟩, ⟨z5, z6⟩, z7, z8, z9⟩ := ot
  have hps : psz t = 12 + t.2.2.2.length := rfl
  have hn := hM.1
  obtain ⟨⟨t1, t2, t3⟩, t4, t5, t6⟩ := mxT hR (show 40 * now + k < 80 by omega) rfl
  have n22 : I 210 22 = nI st.length := hM.2.2.2.2.2.2.2.1
  unfold d_M_tellPart
  rw [n22]
  obtain ⟨J1, e1, c1, M1⟩ := mp_two hR hM (by omega) (v := t.1.1) (by omega) (hM.2.2.1.2.1 k t hk).1.1
  rw [mr_8 hR, ob, t1, ob, e1, ob]
  obtain ⟨J2, e2, c2, M2⟩ := mp_two hR M1 (by simp only [List.length_append, two_len]; omega) (v := t.1.2) (by omega) (M1.2.2.1.2.1 k t hk).1.2.1
  rw [mr_9 hR, ob, t2, ob, e2, ob]
  obtain ⟨J3, e3, c3, M3⟩ := mp_two hR M2 (by simp only [List.length_append, two_len]; omega) (v := t.2.1.1) (by omega) (M2.2.2.1.2.1 k t hk).1.2.2.1
  rw [mr_10 hR, ob, t3, ob, e3, ob]
  obtain ⟨J4, e4, c4, M4⟩ := mp_two hR M3 (by simp only [List.length_append, two_len]; omega) (v := t.2.1.2) (by omega) (M3.2.2.1.2.1 k t hk).1.2.2.2.1
  rw [mr_11 hR, ob, t4, ob, e4, ob]
  obtain ⟨J5, e5, c5, M5⟩ := mp_tell hR M4 (by simp only [List.length_append, two_len]; omega) t.2.2.1 (M4.2.2.1.2.1 k t hk).1.2.2.2.2.1
  rw [mr_12 hR, ob, t5, ob, e5, ob]
  obtain ⟨J6, e6, c6, M6⟩ := mp_tell hR M5 (by simp only [List.length_append, two_len, List.length_cons, List.length_nil]; omega) t.2.2.2.length (M5.2.2.1.2.1 k t hk).1.2.2.2.2.2
  rw [mr_13 hR, ob, t6, ob, e6, ob]
  obtain ⟨J7, e7, c7, M7⟩ := m_part67 hR ha hk (nI st.length) t.2.2.2.length 5000 0 J6 _ (by omega) (by omega) M6 (by simp only [List.length_append, two_len, List.length_cons, List.length_nil]; omega)
  have e7 : d_M_tellPart_67 oS 5000 J6 R 210 (nI (40 * now + k)) (nI st.length) 0 = d_M_tellPart_103 oS 5000 J7 R 210 1 (nI st.length) := e7
  rw [e7]
  have eM : st ++ two t.1.1 ++ two t.1.2 ++ two t.2.1.1 ++ two t.2.1.2 ++ [t.2.2.1] ++ [t.2.2.2.length] ++ t.2.2.2.drop 0 = st ++ hd10 t := by
    unfold hd10
    simp only [List.append_assoc, List.drop_zero]
  rw [eM] at M7
  obtain ⟨J8, e8, c8, M8⟩ := m_part103 hR M7 (by rw [List.length_append, hd10_len]; omega) (hd10 t).length 5000 st.length 1 (by rw [List.length_append]) (by rw [hd10_len]; omega) (by omega) (by rw [List.drop_left]; exact h10)
  have e8 : d_M_tellPart_103 oS 5000 J7 R 210 1 (nI st.length) = some J8 := e8
  refine ⟨J8, e8, ?_, ?_⟩
  · rw [c8, c7, c6, c5, c4, c3, c2, c1]
  · rw [List.drop_left, List.append_assoc] at M8
    exact M8
end MW
