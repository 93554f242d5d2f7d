/-! the reference: write, shown -/
section MW2
variable {I : ax_I} {R : ax_R} {now fw fh since : Nat} {a b : Pc} {st : List Nat}
theorem m_w186 (hR : mOk oS R) (ha : okP a) (f : ax_I → ax_R → Nat → Int32 → Option (Int32 × ax_I)) (x1 : Int32) : ∀ (m n k : Nat) (J : ax_I) (st : List Nat), k + m = a.2.1.length → m < n → MR J now a b fw fh since st → st.length ≤ totP a → ∃ J', d_M_write_186 oS f n J R 210 x1 (nI k) = f J' R 210 (x1 + 1) ∧ J' 210 0 = J 210 0 ∧ MR J' now a b fw fh since (wIn a (a.2.1.drop k) st) := by
  have l40 := ha.2.1.1
  have tl := tot_le ha
  intro m
  induction m with
  | zero =>
    intro n k J st hk hn' hM hl
    obtain ⟨n, rfl⟩ : ∃ n', n = n' + 1 := ⟨n - 1, by omega⟩
    have hk : k = a.2.1.length := by omega
    subst hk
    have hM' := hM
    obtain ⟨hn, n3, ⟨⟨p1, p2, p3, p4⟩, pt, pn⟩, -⟩ := hM
    obtain ⟨-, -, i3, i4⟩ := mx2 hR hn
    rw [d_M_write_186, mr_6 hR, ob, n3, i3, ob, p3, if_pos (nI_le (Nat.le_refl _) (by omega)), List.drop_length]
    exact ⟨J, rfl, rfl, hM'⟩
  | succ m ih =>
    intro n k J st hk hn' hM hl
    obtain ⟨n, rfl⟩ : ∃ n', n = n' + 1 := ⟨n - 1, by omega⟩
    have hlt : k < a.2.1.length := by omega
    obtain ⟨t, ht⟩ : ∃ t, a.2.1[k]? = some t := ⟨_, List.getElem?_eq_getElem hlt⟩
    have ed : a.2.1.drop k = t :: a.2.1.drop (k + 1) := by rw [List.drop_eq_getElem_cons hlt]; congr 1; rw [List.getElem?_eq_getElem hlt] at ht; exact Option.some.inj ht
    have hp := ptr_le (List.mem_of_getElem? ht)
    have hM' := hM
    obtain ⟨hn, n3, ⟨⟨p1, p2, p3, p4⟩, pt, pn⟩, hb', n1, n2, n18, n22, nst⟩ := hM
    obtain ⟨-, -, i3, i4⟩ := mx2 hR hn
    have e40 : (40 : Int32) * nI now + nI k = nI (40 * now + k) := by rw [show (40 : Int32) = nI 40 from rfl, nI_mul, nI_add]
    have ew : wIn a (t :: a.2.1.drop (k + 1)) st = wIn a (a.2.1.drop (k + 1)) (if ptrP a t = st.length then st ++ part t else st) := rfl
    rw [d_M_write_186, mr_6 hR, ob, n3, i3, ob, p3, if_neg (nI_ge hlt (by omega)), m_ptr hR hM' ha ht, ob, n22, ed, ew]
    by_cases z : ptrP a t = st.length
    · obtain ⟨J1, e1, c1, M1⟩ := m_tellPart hR hM' ha ht (by omega)
      rw [if_pos (by rw [z]), if_pos z]
      unfold d_M_tileAt d_M_write_220
      rw [ob, n3, e40, e1, ob, nI_1]
      obtain ⟨J2, e2, c2, M2⟩ := ih n (k + 1) J1 (st ++ part t) (by omega) (by omega) M1 (by rw [List.length_append, part_len]; omega)
      exact ⟨J2, e2, c2.trans c1, M2⟩
    · rw [if_neg (fun y => z ((nI_eq (by omega) (by omega)).mp y)), if_neg z]
      unfold d_M_write_220
      rw [nI_1]
      exact ih n (k + 1) J st (by omega) (by omega) hM' hl
theorem m_w171 (hR : mOk oS R) (ha : okP a) : ∀ (m n d : Nat) (J : ax_I) (st : List Nat), d + m = a.2.1.length → m < n → MR J now a b fw fh since st → st.length ≤ totP a → ∃ J', d_M_write_171 oS n J R 210 (nI d) = some (nI (wOut a m st).length, J') ∧ J' 210 0 = J 210 0 ∧ MR J' now a b fw fh since (wOut a m st) := by
  have l40 := ha.2.1.1
  intro m
  induction m with
  | zero =>
    intro n d J st hd hn' hM hl
    obtain ⟨n, rfl⟩ : ∃ n', n = n' + 1 := ⟨n - 1, by omega⟩
    have hd : d = a.2.1.length := by omega
    subst hd
    have hM' := hM
    obtain ⟨hn, n3, ⟨⟨p1, p2, p3, p4⟩, pt, pn⟩, hb', n1, n2, n18, n22, nst⟩ := hM
    obtain ⟨-, -, i3, i4⟩ := mx2 hR hn
    rw [d_M_write_171, mr_6 hR, ob, n3, i3, ob, p3, if_pos (nI_le (Nat.le_refl _) (by omega)), n22]
    exact ⟨J, rfl, rfl, hM'⟩
  | succ m ih =>
    intro n d J st hd hn' hM hl
    obtain ⟨n, rfl⟩ : ∃ n', n = n' + 1 := ⟨n - 1, by omega⟩
    have hM' := hM
    obtain ⟨hn, n3, ⟨⟨p1, p2, p3, p4⟩, pt, pn⟩, hb', n1, n2, n18, n22, nst⟩ := hM
    obtain ⟨-, -, i3, i4⟩ := mx2 hR hn
    obtain ⟨J1, e1, c1, M1⟩ := m_w186 hR ha (d_M_write_171 oS n) (nI d) a.2.1.length 5000 0 J st (by omega) (by omega) hM' hl
    have e1 : d_M_write_186 oS (d_M_write_171 oS n) 5000 J R 210 (nI d) 0 = _ := e1
    rw [d_M_write_171, mr_6 hR, ob, n3, i3, ob, p3, if_neg (nI_ge (by omega) (by omega)), e1, nI_1]
    obtain ⟨J2, e2, c2, M2⟩ := ih n (d + 1) J1 _ (by omega) (by omega) M1 (wIn_le _ (fun t ht => List.mem_of_mem_drop ht) _ hl)
    exact ⟨J2, e2, c2.trans c1, M2⟩
theorem m_w112 (hR : mOk oS R) (ha : okP a) : ∀ (m n k : Nat) (J : ax_I) (st : List Nat), k + m = a.2.2.length → m < n → MR J now a b fw fh since st → st.length + 5 * m ≤ 1200 → ∃ J', d_M_write_112 oS n J R 210 (nI (20 * now + k)) = d_M_write_171 oS 5000 J' R 210 0 ∧ J' 210 0 = J 210 0 ∧ MR J' now a b fw fh since (st ++ (a.2.2.drop k).flatMap (fun n => two n.1 ++ two n.2.1 ++ [n.2.2])) := by
  have l20 := ha.2.1.2
  have oW := ha.1
  intro m
  induction m with
  | zero =>
    intro n k J st hk hn' hM hl
    obtain ⟨n, rfl⟩ : ∃ n', n = n' + 1 := ⟨n - 1, by omega⟩
    have hk : k = a.2.2.length := by omega
    subst hk
    have hM' := hM
    obtain ⟨hn, n3, ⟨⟨p1, p2, p3, p4⟩, pt, pn⟩, hb', n1, n2, n18, n22, nst⟩ := hM
    obtain ⟨-, -, i3, i4⟩ := mx2 hR hn
    have e20 : ∀ v, (20 : Int32) * nI now + nI v = nI (20 * now + v) := fun v => by rw [show (20 : Int32) = nI 20 from rfl, nI_mul, nI_add]
    rw [d_M_write_112, mr_7 hR, ob, n3, i4, ob, p4, e20, if_pos (nI_le (Nat.le_refl _) (by omega)), List.drop_length, List.flatMap_nil, List.append_nil]
    exact ⟨J, rfl, rfl, hM'⟩
  | succ m ih =>
    intro n k J st hk hn' hM hl
    obtain ⟨n, rfl⟩ : ∃ n', n = n' + 1 := ⟨n - 1, by omega⟩
    have hlt : k < a.2.2.length := by omega
    obtain ⟨t, ht⟩ : ∃ t, a.2.2[k]? = some t := ⟨_, List.getElem?_eq_getElem hlt⟩
    have ed : a.2.2.drop k = t :: a.2.2.drop (k + 1) := by rw [List.drop_eq_getElem_cons hlt]; congr 1; rw [List.getElem?_eq_getElem hlt] at ht; exact Option.some.inj ht
    obtain ⟨o1, o2, o3⟩ := ha.2.2.2.1 t (List.mem_of_getElem? ht)
    have hM' := hM
    obtain ⟨hn, n3, ⟨⟨p1, p2, p3, p4⟩, pt, pn⟩, hb', n1, n2, n18, n22, nst⟩ := hM
    obtain ⟨-, -, i3, i4⟩ := mx2 hR hn
    have e20 : ∀ v, (20 : Int32) * nI now + nI v = nI (20 * now + v) := fun v => by rw [show (20 : Int32) = nI 20 from rfl, nI_mul, nI_add]
    obtain ⟨t1, t2, t3⟩ := mxN hR (show 20 * now + k < 40 by omega) rfl
    rw [d_M_write_112, mr_7 hR, ob, n3, i4, ob, p4, e20, if_neg (nI_ge (by omega) (by omega))]
    obtain ⟨J1, e1, c1, M1⟩ := mp_two hR hM' (by omega) (v := t.1) (by omega) (pn k t ht).1
    rw [mr_15 hR, ob, t1, ob, e1, ob]
    obtain ⟨J2, e2, c2, M2⟩ := mp_two hR M1 (by simp only [List.length_append, two_len]; omega) (v := t.2.1) (by omega) (M1.2.2.1.2.2 k t ht).2.1
    rw [mr_16 hR, ob, t2, ob, e2, ob]
    obtain ⟨J3, e3, c3, M3⟩ := mp_tell hR M2 (by simp only [List.length_append, two_len]; omega) t.2.2 (M2.2.2.1.2.2 k t ht).2.2
    rw [mr_17 hR, ob, t3, ob, e3, ob, nI_1]
    obtain ⟨J4, e4, c4, M4⟩ := ih n (k + 1) J3 _ (by omega) (by omega) M3 (by simp only [List.length_append, two_len, List.length_cons, List.length_nil]; omega)
    refine ⟨J4, e4, by rw [c4, c3, c2, c1], ?_⟩
    rw [ed, List.flatMap_cons]
    have eL : st ++ two t.1 ++ two t.2.1 ++ [t.2.2] ++ (a.2.2.drop (k + 1)).flatMap (fun n => two n.1 ++ two n.2.1 ++ [n.2.2]) = st ++ (two t.1 ++ two t.2.1 ++ [t.2.2] ++ (a.2.2.drop (k + 1)).flatMap (fun n => two n.1 ++ two n.2.1 ++ [n.2.2])) := by simp only [List.append_assoc]
    rw [← eL]
    exact M4
theorem m_w63 (hR : mOk oS R) (ha : okP a) : ∀ (m n k : Nat) (J : ax_I) (st : List Nat), k + m = a.2.1.length → m < n → MR J now a b fw fh since st → st.length + 2 * m + 1 ≤ 1200 → ∃ J', d_M_write_63 oS n J R 210 (nI k) = d_M_write_112 oS 5000 J' R 210 (nI (20 * now)) ∧ J' 210 0 = J 210 0 ∧ MR J' now a b fw fh since (st ++ (a.2.1.drop k).flatMap (fun t => two (ptrP a t)) ++ [a.2.2.length]) := by
  have l40 := ha.2.1.1
  have tl := tot_le ha
  intro m
  induction m with
  | zero =>
    intro n k J st hk hn' hM hl
    obtain ⟨n, rfl⟩ : ∃ n', n = n' + 1 := ⟨n - 1, by omega⟩
    have hk : k = a.2.1.length := by omega
    subst hk
    have hM' := hM
    obtain ⟨hn, n3, ⟨⟨p1, p2, p3, p4⟩, pt, pn⟩, hb', n1, n2, n18, n22, nst⟩ := hM
    obtain ⟨-, -, i3, i4⟩ := mx2 hR hn
    obtain ⟨J1, e1, c1, M1⟩ := mp_tell hR hM' (by omega) a.2.2.length p4
    rw [d_M_write_63, mr_6 hR, ob, n3, i3, ob, p3, if_pos (nI_le (Nat.le_refl _) (by omega)), mr_7 hR, ob, i4, ob, e1, ob, M1.2.1, show (20 : Int32) = nI 20 from rfl, nI_mul, List.drop_length, List.flatMap_nil, List.append_nil]
    exact ⟨J1, rfl, c1, M1⟩
  | succ m ih =>
    intro n k J st hk hn' hM hl
    obtain ⟨n, rfl⟩ : ∃ n', n = n' + 1 := ⟨n - 1, by omega⟩
    have hlt : k < a.2.1.length := by omega
    obtain ⟨t, ht⟩ : ∃ t, a.2.1[k]? = some t := ⟨_, List.getElem?_eq_getElem hlt⟩
    have ed : a.2.1.drop k = t :: a.2.1.drop (k + 1) := by rw [List.drop_eq_getElem_cons hlt]; congr 1; rw [List.getElem?_eq_getElem hlt] at ht; exact Option.some.inj ht
    have hp := ptr_le (List.mem_of_getElem? ht)
    have hM' := hM
    obtain ⟨hn, n3, ⟨⟨p1, p2, p3, p4⟩, pt, pn⟩, hb', n1, n2, n18, n22, nst⟩ := hM
    obtain ⟨-, -, i3, i4⟩ := mx2 hR hn
    obtain ⟨J1, e1, c1, M1⟩ := mp_two hR hM' (by omega) (v := ptrP a t) (by omega) rfl
    rw [d_M_write_63, mr_6 hR, ob, n3, i3, ob, p3, if_neg (nI_ge hlt (by omega)), m_ptr hR hM' ha ht, ob, e1, ob, nI_1]
    obtain ⟨J2, e2, c2, M2⟩ := ih n (k + 1) J1 _ (by omega) (by omega) M1 (by simp only [List.length_append, two_len]; omega)
    refine ⟨J2, e2, c2.trans c1, ?_⟩
    rw [ed, List.flatMap_cons, ← List.append_assoc st]
    exact M2
theorem M_write (hR : mOk oS R) (hM : MR I now a b fw fh since st) (ha : okP a) : mAns (d_M_write oS I R 210) 0 (nI (wrP a).length) (fun J => MR J now a b fw fh since (wrP a)) := by
  have l := ha.2.1
  have oW := ha.1
  have hM0 : MR (ax_up (ax_up I 210 0 0) 210 22 0) now a b fw fh since [] := by
    obtain ⟨hn, n3, h1, h2, n1, n2, n18, n22, nst⟩ := MR_c hM 0
    refine ⟨hn, ?_, MP_up (by omega) h1, MP_up (by omega) h2, ?_, ?_, ?_, ax_up_self _ _ _ _, fun j c hj => by cases hj⟩
    · rw [ax_up_ne (by omega)]; exact n3
    · rw [ax_up_ne (by omega)]; exact n1
    · rw [ax_up_ne (by omega)]; exact n2
    · rw [ax_up_ne (by omega)]; exact n18
  have c0 : ax_up (ax_up I 210 0 0) 210 22 0 210 0 = 0 := by rw [ax_up_ne (by omega), ax_up_self]
  have hn := hM.1
  obtain ⟨i1, i2, i3, i4⟩ := mx2 hR hn
  unfold d_M_write
  rw [ob, ob]
  obtain ⟨J1, e1, c1, M1⟩ := mp_tell hR hM0 (x := 76) (by show 0 < 1200; omega) 76 rfl
  rw [e1, ob]
  obtain ⟨J2, e2, c2, M2⟩ := mp_tell hR M1 (x := 70) (by show 1 < 1200; omega) 70 rfl
  rw [e2, ob]
  obtain ⟨J3, e3, c3, M3⟩ := mp_two hR M2 (by show 2 + 2 ≤ 1200; omega) (v := a.1.1) (by omega) M2.2.2.1.1.1
  rw [mr_4 hR, ob, M2.2.1, i1, ob, e3, ob]
  obtain ⟨J4, e4, c4, M4⟩ := mp_two hR M3 (by show 4 + 2 ≤ 1200; omega) (v := a.1.2) (by omega) M3.2.2.1.1.2.1
  rw [mr_5 hR, ob, M3.2.1, i2, ob, e4, ob]
  obtain ⟨J5, e5, c5, M5⟩ := mp_tell hR M4 (by show 6 < 1200; omega) a.2.1.length M4.2.2.1.1.2.2.1
  rw [mr_6 hR, ob, M4.2.1, i3, ob, e5, ob]
  obtain ⟨J6, e6, c6, M6⟩ := m_w63 hR ha a.2.1.length 5000 0 J5 _ (by omega) (by omega) M5 (by show 7 + 2 * a.2.1.length + 1 ≤ 1200; omega)
  have e6 : d_M_write_63 oS 5000 J5 R 210 0 = d_M_write_112 oS 5000 J6 R 210 (nI (20 * now)) := e6
  rw [List.drop_zero] at M6
  obtain ⟨J7, e7, c7, M7⟩ := m_w112 hR ha a.2.2.length 5000 0 J6 _ (by omega) (by omega) M6 (by
    have := hdP_len a
    unfold hdP baP at this
    simp only [List.length_append, List.length_cons, List.length_nil, two_len] at this ⊢
    have hl : ∀ (l : List Tl), (l.flatMap (fun t => two (ptrP a t))).length = 2 * l.length := by
      intro l
      induction l with
      | nil => rfl
      | cons s l ih => rw [List.flatMap_cons, List.length_append, ih, two_len, List.length_cons]; omega
    rw [hl]
    omega)
  have e7 : d_M_write_112 oS 5000 J6 R 210 (nI (20 * now)) = d_M_write_171 oS 5000 J7 R 210 0 := e7
  rw [List.drop_zero] at M7
  have eH : [] ++ [76] ++ [70] ++ two a.1.1 ++ two a.1.2 ++ [a.2.1.length] ++ a.2.1.flatMap (fun t => two (ptrP a t)) ++ [a.2.2.length] ++ a.2.2.flatMap (fun n => two n.1 ++ two n.2.1 ++ [n.2.2]) = hdP a := by
    unfold hdP
    rw [List.nil_append]
  rw [eH] at M7
  obtain ⟨J8, e8, c8, M8⟩ := m_w171 hR ha a.2.1.length 5000 0 J7 _ (by omega) (by omega) M7 (by rw [hdP_len]; unfold totP; omega)
  have e8 : d_M_write_171 oS 5000 J7 R 210 0 = _ := e8
  rw [e6, e7, e8]
  refine ⟨_, _, rfl, ?_, fun _ => rfl, M8⟩
  rw [c8, c7, c6, c5, c4, c3, c2, c1]
  exact c0
/-- no border of the reference's shown is passed -/
theorem m_ownL (S : ax_S) (K : ax_I) (R : ax_R) {v w h : Nat} (hv : v < 8) (w1 : 1 ≤ w) (w2 : w ≤ 64) (h1 : 1 ≤ h) (h2 : h ≤ 64) (x y : Int32) : ∀ (m n k : Nat) (r : Int32), k + m = w * h → m < n → ∃ u, d_M_ownOf_6 S n K R (nI v) x y (nI w) (nI h) r (nI k) = some u := by
  have hwh : w * h ≤ 64 * 64 := Nat.mul_le_mul w2 h2
  intro m
  induction m with
  | zero =>
    intro n k r hk hn'
    obtain ⟨n, rfl⟩ : ∃ n', n = n' + 1 := ⟨n - 1, by omega⟩
    rw [d_M_ownOf_6, nI_mul, if_pos (nI_le (by omega) (by omega))]
    exact ⟨_, rfl⟩
  | succ m ih =>
    intro n k r hk hn'
    obtain ⟨n, rfl⟩ : ∃ n', n = n' + 1 := ⟨n - 1, by omega⟩
    have hx : k % w < w := Nat.mod_lt _ (by omega)
    have hy : k / w < h := Nat.div_lt_of_lt_mul (by omega)
    rw [d_M_ownOf_6, nI_mul, if_neg (nI_ge (by omega) (by omega)), if_neg (nI_ne0 (by omega) (by omega)), if_neg (nI_ne0 (by omega) (by omega)), n_rem (by omega) (by omega) (by omega), pk_div (by omega) (by omega) (by omega), m_come S K R hv (by omega) (by omega) hx hy, ob]
    unfold d_M_ownOf_57
    split
    · rw [if_neg (nI_ne0 (by omega) (by omega)), if_neg (nI_ne0 (by omega) (by omega)), nI_1]
      exact ih n (k + 1) _ (by omega) (by omega)
    · rw [nI_1]
      exact ih n (k + 1) _ (by omega) (by omega)
theorem m_own (S : ax_S) (K : ax_I) (R : ax_R) {v w h : Nat} (hv : v < 8) (w1 : 1 ≤ w) (w2 : w ≤ 64) (h1 : 1 ≤ h) (h2 : h ≤ 64) (x y : Int32) : ∃ u, d_M_ownOf S K R (nI v) x y (nI w) (nI h) = some u := by
  have hwh : w * h ≤ 64 * 64 := Nat.mul_le_mul w2 h2
  exact m_ownL S K R hv w1 w2 h1 h2 x y (w * h) 5000 0 (-1) (by omega) (by omega)
theorem m_shownL (hR : mOk oS R) (hM : MR I now a b fw fh since st) (ha : okP a) (x y : Int32) : ∀ (m n k : Nat), k + m = a.2.1.length → m < n → ∃ u, d_M_shown_20 oS n I R 210 x y (nI k) = some (u, I) := by
  obtain ⟨hn, n3, ⟨⟨p1, p2, p3, p4⟩, pt, pn⟩, hb', -⟩ := hM
  obtain ⟨-, -, ix, -⟩ := mx2 hR hn
  have l40 := ha.2.1.1
  have stop : ∃ u, d_M_shown_218 oS I R 210 = some (u, I) := by
    unfold d_M_shown_218
    split
    · exact ⟨_, rfl⟩
    · exact ⟨_, rfl⟩
  intro m
  induction m with
  | zero =>
    intro n k hk hn'
    obtain ⟨n, rfl⟩ : ∃ n', n = n' + 1 := ⟨n - 1, by omega⟩
    rw [d_M_shown_20, mr_6 hR, ob, n3, ix, ob, p3, if_pos (nI_le (by omega) (by omega))]
    exact stop
  | succ m ih =>
    intro n k hk hn'
    obtain ⟨n, rfl⟩ : ∃ n', n = n' + 1 := ⟨n - 1, by omega⟩
    have hlt : k < a.2.1.length := by omega
    obtain ⟨t, ht⟩ : ∃ t, a.2.1[k]? = some t := ⟨_, List.getElem?_eq_getElem hlt⟩
    obtain ⟨⟨q1, q2, q3, q4, q5, q6⟩, -⟩ := pt k t ht
    obtain ⟨⟨s1, s2, s3, s4⟩, ⟨o1, o2⟩, hw8, hbl, -⟩ := ha.2.2.1 t (List.mem_of_getElem? ht)
    have e40 : (40 : Int32) * nI now + nI k = nI (40 * now + k) := by rw [show (40 : Int32) = nI 40 from rfl, nI_mul, nI_add]
    obtain ⟨⟨t1, t2, t3⟩, t4, t5, t6⟩ := mxT hR (show 40 * now + k < 80 by omega) rfl
    rw [d_M_shown_20, mr_6 hR, ob, n3, ix, ob, p3, if_neg (nI_ge hlt (by omega))]
    by_cases z0 : I 210 0 = 0
    · rw [if_pos z0]
      unfold d_M_tileAt
      rw [ob, n3, e40, mr_8 hR, ob, t1, ob, ob, t1, ob, mr_10 hR, ob, t3, ob, q1, q3]
      have next : ∃ u, d_M_shown_212 oS (d_M_shown_20 oS n) I R 210 x y (nI k) = some (u, I) := by
        unfold d_M_shown_212
        rw [nI_1]
        exact ih n (k + 1) (by omega) (by omega)
      by_cases z1 : x < nI t.1.1 ∨ nI t.1.1 + nI t.2.1.1 - 1 < x
      · rw [m_in_f z1, ob, if_pos bF]
        exact next
      rw [m_in_t (fun y => z1 (Or.inl y)) (fun y => z1 (Or.inr y)), ob, if_neg bT, mr_9 hR, ob, t2, ob, ob, t2, ob, mr_11 hR, ob, t4, ob, q2, q4]
      by_cases z2 : y < nI t.1.2 ∨ nI t.1.2 + nI t.2.1.2 - 1 < y
      · rw [m_in_f z2, ob, if_pos bF]
        exact next
      rw [m_in_t (fun y => z2 (Or.inl y)) (fun y => z2 (Or.inr y)), ob, if_neg bT, mr_12 hR, ob, t5, ob, q5, m_turned oS _ R hw8, ob]
      by_cases z : t.2.2.1 % 2 = 1
      · rw [decide_eq_true z, if_neg bT, ob, t4, ob, q4]
        unfold d_M_shown_139 d_M_shown_171
        obtain ⟨u, hu⟩ := m_own oS I R hw8 s3 s4 s1 s2 (x - nI t.1.1) (y - nI t.1.2)
        rw [mr_12 hR, ob, t5, ob, q5, m_turned oS _ R hw8, ob, decide_eq_true z, if_neg bT, mr_10 hR, ob, t3, ob, q3, ob, t5, ob, q5, mr_8 hR, ob, t1, ob, q1, mr_9 hR, ob, t2, ob, q2, hu, ob]
        exact ⟨_, rfl⟩
      · rw [decide_eq_false z, if_pos bF, ob, t3, ob, q3]
        unfold d_M_shown_139 d_M_shown_171
        obtain ⟨u, hu⟩ := m_own oS I R hw8 s1 s2 s3 s4 (x - nI t.1.1) (y - nI t.1.2)
        rw [mr_12 hR, ob, t5, ob, q5, m_turned oS _ R hw8, ob, decide_eq_false z, if_pos bF, mr_11 hR, ob, t4, ob, q4, ob, t5, ob, q5, mr_8 hR, ob, t1, ob, q1, mr_9 hR, ob, t2, ob, q2, hu, ob]
        exact ⟨_, rfl⟩
    · rw [if_neg z0]
      exact stop
theorem M_shown0 (hR : mOk oS R) (hM : MR I now a b fw fh since st) (ha : okP a) (x y : Int32) : ∃ v J, d_M_shown oS I R 210 x y = some (v, J) ∧ MR J now a b fw fh since st := by
  have g : ∀ c, ∃ v J, d_M_shown_15 oS I R 210 x y c 210 = some (v, J) ∧ MR J now a b fw fh since st := by
    intro c
    obtain ⟨u, hu⟩ := m_shownL hR (MR_c hM c) ha x y a.2.1.length 5000 0 (by omega) (by have := ha.2.1.1; omega)
    have hu : d_M_shown_20 oS 5000 (ax_up I 210 0 c) R 210 x y 0 = _ := hu
    unfold d_M_shown_15
    rw [ob, hu]
    exact ⟨_, _, rfl, MR_c hM c⟩
  obtain ⟨s1, s2⟩ := m_isSample hR hM ha x y
  unfold d_M_shown
  by_cases z : noIx a.1.1 x ∨ noIx a.1.2 y
  · rw [s1 z, ob, if_pos bF]
    exact g 1
  · rw [s2 z, ob, if_neg bT]
    exact g 0
end MW2
