/-! the reference: join, whole -/
section MJ2
variable {I : ax_I} {R : ax_R} {now fw fh since : Nat} {a b : Pc} {st : List Nat}
theorem mj_21 (hR : mOk oS R) (hM : MR I now a b fw fh since st) (ha : okP a) (hb : okP b) (x : Int32) (ac : Bool) : d_M_join_21 oS I R 210 x (nI (1 - now)) (ax_b ac) = d_M_join_116 oS I R 210 x (nI (1 - now)) (ax_b ac) (nI (smP a b ac)) (ax_b (alP a b ac)) := by
  obtain ⟨hn, n3, ⟨⟨p1, p2, p3, p4⟩, -⟩, ⟨⟨b1, b2, b3, b4⟩, -⟩, -⟩ := hM
  obtain ⟨i1, i2, i3, i4⟩ := mx2 hR hn
  obtain ⟨j1, j2, j3, j4⟩ := mx2 hR (show 1 - now < 2 by omega)
  have oa := ha.1
  have ob' := hb.1
  unfold d_M_join_21 d_M_join_61
  cases ac with
  | false =>
    rw [if_pos bF, mr_5 hR, ob, n3, i2, ob, ob, j2, ob, p2, b2, nI_add, if_pos bF, mr_4 hR, ob, i1, ob, ob, j1, ob, p1, b1]
    by_cases z : a.1.1 = b.1.1
    · rw [if_pos (by rw [z]), show alP a b false = true from decide_eq_true z]
      rfl
    · rw [if_neg (fun y => z ((nI_eq (by omega) (by omega)).mp y)), show alP a b false = false from decide_eq_false z]
      rfl
  | true =>
    rw [if_neg bT, mr_4 hR, ob, n3, i1, ob, ob, j1, ob, p1, b1, nI_add, if_neg bT, mr_5 hR, ob, i2, ob, ob, j2, ob, p2, b2]
    by_cases z : a.1.2 = b.1.2
    · rw [if_pos (by rw [z]), show alP a b true = true from decide_eq_true z]
      rfl
    · rw [if_neg (fun y => z ((nI_eq (by omega) (by omega)).mp y)), show alP a b true = false from decide_eq_false z]
      rfl
theorem mj_196x (u1 u2 u3 u4 : Int32) {c : Int32} (hc : ¬ c ≤ 0) : d_M_join_196 oS I R 210 u1 u2 u3 u4 c 210 = some (0, ax_up I 210 0 c) := by
  unfold d_M_join_196
  rw [ob, if_neg (up_le hc)]
theorem mj_116 (hR : mOk oS R) (hM : MR I now a b fw fh since st) (ha : okP a) (hb : okP b) {s : Nat} (hs : s < 4) (ac B : Bool) : (B = false → d_M_join_116 oS I R 210 (nI s) (nI (1 - now)) (ax_b ac) (nI (smP a b ac)) (ax_b B) = some (0, ax_up I 210 0 2)) ∧ (B = true → (roP a b ac = false → d_M_join_116 oS I R 210 (nI s) (nI (1 - now)) (ax_b ac) (nI (smP a b ac)) (ax_b B) = some (0, ax_up I 210 0 3)) ∧ (roP a b ac = true → d_M_join_116 oS I R 210 (nI s) (nI (1 - now)) (ax_b ac) (nI (smP a b ac)) (ax_b B) = d_M_join_196 oS I R 210 (nI s) (nI (1 - now)) (ax_b ac) (nI (smP a b ac)) 0 210)) := by
  obtain ⟨hn, n3, ⟨⟨p1, p2, p3, p4⟩, -⟩, ⟨⟨b1, b2, b3, b4⟩, -⟩, -⟩ := hM
  obtain ⟨i1, i2, i3, i4⟩ := mx2 hR hn
  obtain ⟨j1, j2, j3, j4⟩ := mx2 hR (show 1 - now < 2 by omega)
  have oa := ha.1
  have ob' := hb.1
  have la := ha.2.1
  have lb := hb.2.1
  have hsm : smP a b ac ≤ 800 := by unfold smP; split <;> omega
  have nb : d_M_in oS I R (nI s) 0 3 = some true := m_in_t (lo := 0) (hi := 3) (nI_pos (by omega)) (nI_nlt (a := 3) (by omega) (by decide))
  unfold d_M_join_116 d_M_join_191
  rw [nb, ob, if_neg bT]
  refine ⟨fun e => ?_, fun e => ?_⟩
  · rw [e, if_pos bF]
    exact mj_196x _ _ _ _ (by decide)
  rw [e, if_neg bT]
  by_cases z1 : 400 < smP a b ac
  · rw [if_pos (show (400 : Int32) < nI (smP a b ac) from nI_lt (a := 400) z1 (by omega))]
    refine ⟨fun _ => mj_196x _ _ _ _ (by decide), fun z => ?_⟩
    have := of_decide_eq_true z
    omega
  rw [if_neg (show ¬ (400 : Int32) < nI (smP a b ac) from nI_nlt (b := smP a b ac) (a := 400) (by omega) (by decide)), mr_6 hR, ob, n3, i3, ob, ob, j3, ob, p3, b3, nI_add]
  by_cases z2 : 40 < a.2.1.length + b.2.1.length
  · rw [if_pos (show (40 : Int32) < nI (a.2.1.length + b.2.1.length) from nI_lt (a := 40) z2 (by omega))]
    refine ⟨fun _ => mj_196x _ _ _ _ (by decide), fun z => ?_⟩
    have := of_decide_eq_true z
    omega
  rw [if_neg (show ¬ (40 : Int32) < nI (a.2.1.length + b.2.1.length) from nI_nlt (b := a.2.1.length + b.2.1.length) (a := 40) (by omega) (by decide)), mr_7 hR, ob, i4, ob, ob, j4, ob, p4, b4, nI_add]
  by_cases z3 : a.2.2.length + b.2.2.length ≤ 20
  · rw [if_pos (show nI (a.2.2.length + b.2.2.length) ≤ (20 : Int32) from nI_le (b := 20) z3 (by decide))]
    refine ⟨fun z => ?_, fun _ => rfl⟩
    have := of_decide_eq_false z
    omega
  · rw [if_neg (show ¬ nI (a.2.2.length + b.2.2.length) ≤ (20 : Int32) from nI_ge (a := 20) (by omega) (by omega))]
    refine ⟨fun _ => mj_196x _ _ _ _ (by decide), fun z => ?_⟩
    have := of_decide_eq_true z
    omega
theorem mj_196 (hR : mOk oS R) (hM : MR I now a b fw fh since st) {s : Nat} (hs : s < 4) (u3 u4 : Int32) : d_M_join_196 oS I R 210 (nI s) (nI (1 - now)) u3 u4 0 210 = d_M_join_284 oS 5000 (ax_up I 210 0 0) R 210 (nI (1 - now)) u3 u4 (nI (if s = 0 then b.1.1 else 0)) (nI (if s = 1 then b.1.2 else 0)) (nI (if s = 2 then a.1.1 else 0)) (nI (if s = 3 then a.1.2 else 0)) 0 := by
  unfold d_M_join_196
  rw [ob, if_pos (up_ge (by decide))]
  have hM1 := MR_c hM 0
  obtain ⟨M1, e1⟩ : ∃ M1, M1 = ax_up I 210 0 0 := ⟨_, rfl⟩
  rw [← e1] at hM1 ⊢
  obtain ⟨hn, n3, ⟨⟨p1, p2, p3, p4⟩, -⟩, ⟨⟨b1, b2, b3, b4⟩, -⟩, -⟩ := hM1
  obtain ⟨i1, i2, i3, i4⟩ := mx2 hR hn
  obtain ⟨j1, j2, j3, j4⟩ := mx2 hR (show 1 - now < 2 by omega)
  have hs' : s = 0 ∨ s = 1 ∨ s = 2 ∨ s = 3 := by omega
  rcases hs' with rfl | rfl | rfl | rfl
  · rw [if_pos (show nI 0 = 0 from rfl), mr_4 hR, ob, j1, ob, b1]
    unfold d_M_join_222
    rw [if_neg (show ¬ nI 0 = 1 by decide)]
    unfold d_M_join_239
    rw [if_neg (show ¬ nI 0 = 2 by decide)]
    unfold d_M_join_259
    rw [if_neg (show ¬ nI 0 = 3 by decide)]
    rfl
  · rw [if_neg (show ¬ nI 1 = 0 by decide)]
    unfold d_M_join_222
    rw [if_pos (show nI 1 = 1 from rfl), mr_5 hR, ob, j2, ob, b2]
    unfold d_M_join_239
    rw [if_neg (show ¬ nI 1 = 2 by decide)]
    unfold d_M_join_259
    rw [if_neg (show ¬ nI 1 = 3 by decide)]
    rfl
  · rw [if_neg (show ¬ nI 2 = 0 by decide)]
    unfold d_M_join_222
    rw [if_neg (show ¬ nI 2 = 1 by decide)]
    unfold d_M_join_239
    rw [if_pos (show nI 2 = 2 from rfl), mr_4 hR, ob, n3, i1, ob, p1]
    unfold d_M_join_259
    rw [if_neg (show ¬ nI 2 = 3 by decide)]
    rfl
  · rw [if_neg (show ¬ nI 3 = 0 by decide)]
    unfold d_M_join_222
    rw [if_neg (show ¬ nI 3 = 1 by decide)]
    unfold d_M_join_239
    rw [if_neg (show ¬ nI 3 = 2 by decide)]
    unfold d_M_join_259
    rw [if_pos (show nI 3 = 3 from rfl), mr_5 hR, ob, n3, i2, ob, p2]
    rfl
theorem m_joinD (hR : mOk oS R) (hM : MR I now a b fw fh since st) (ha : okP a) (hb : okP b) (c0 : I 210 0 = 0) {s : Nat} (ac : Bool) (hac : ac = decide (s % 2 = 0)) (h3 : a.2.1.length + b.2.1.length ≤ 40) (h4 : a.2.2.length + b.2.2.length ≤ 20) : mAns (d_M_join_284 oS 5000 I R 210 (nI (1 - now)) (ax_b ac) (nI (smP a b ac)) (nI (if s = 0 then b.1.1 else 0)) (nI (if s = 1 then b.1.2 else 0)) (nI (if s = 2 then a.1.1 else 0)) (nI (if s = 3 then a.1.2 else 0)) 0) 0 (nI (a.2.1.length + b.2.1.length)) (fun J => MR J now (joinP a b s) (emP b) fw fh 0 st) := by
  have hR1 := hM
  obtain ⟨hn, n3, ⟨⟨p1, p2, p3, p4⟩, pt, pn⟩, ⟨⟨b1, b2, b3, b4⟩, bt, bn⟩, n1, n2, n18, n22, nst⟩ := hM
  unfold joinP
  obtain ⟨X, hX⟩ : ∃ X, X = (if s = 0 then b.1.1 else 0) := ⟨_, rfl⟩
  obtain ⟨Y, hY⟩ : ∃ Y, Y = (if s = 1 then b.1.2 else 0) := ⟨_, rfl⟩
  obtain ⟨U, hU⟩ : ∃ U, U = (if s = 2 then a.1.1 else 0) := ⟨_, rfl⟩
  obtain ⟨V, hV⟩ : ∃ V, V = (if s = 3 then a.1.2 else 0) := ⟨_, rfl⟩
  rw [← hX, ← hY, ← hU, ← hV]
  clear hX hY hU hV
  obtain ⟨J1, e1, F1, T1⟩ := m_joinT (X := X) (Y := Y) hR hR1 ha (nI (1 - now)) (ax_b ac) (nI (smP a b ac)) (nI U) (nI V) a.2.1.length 5000 0 I (by omega) (by omega) ⟨fun _ _ _ => rfl, fun _ _ _ _ _ => rfl, fun _ _ => rfl⟩ (fun j t hj => by omega) (fun j t _ hj => pt j t hj)
  have e1 : d_M_join_284 oS 5000 I R 210 (nI (1 - now)) (ax_b ac) (nI (smP a b ac)) (nI X) (nI Y) (nI U) (nI V) 0 = d_M_join_345 oS 5000 J1 R 210 (nI (1 - now)) (ax_b ac) (nI (smP a b ac)) (nI X) (nI Y) (nI U) (nI V) (nI (20 * now)) := e1
  have N1 : ∀ j t, a.2.2[j]? = some t → MN J1 (20 * now + j) t := by
    intro j t hj
    obtain ⟨r1, r2, r3⟩ := pn j t hj
    exact ⟨(F1.1 _ _ (by omega)).trans r1, (F1.1 _ _ (by omega)).trans r2, (F1.1 _ _ (by omega)).trans r3⟩
  obtain ⟨J2, e2, F2, N2⟩ := m_joinN (I := J1) (X := X) (Y := Y) hR hn ((F1.1 _ _ (by omega)).trans n3) ((F1.1 _ _ (by omega)).trans p4) ha (nI (1 - now)) (ax_b ac) (nI (smP a b ac)) (nI U) (nI V) a.2.2.length 5000 0 J1 (by omega) (by omega) ⟨fun _ _ _ => rfl, fun _ _ _ _ _ => rfl⟩ (fun j t hj => by omega) (fun j t _ hj => N1 j t hj)
  have e2 : d_M_join_345 oS 5000 J1 R 210 (nI (1 - now)) (ax_b ac) (nI (smP a b ac)) (nI X) (nI Y) (nI U) (nI V) (nI (20 * now)) = d_M_join_400 oS 5000 J2 R 210 (nI (1 - now)) (ax_b ac) (nI (smP a b ac)) (nI U) (nI V) 0 := e2
  have f2 : ∀ i m, i < 215 ∨ 224 < i → J2 i m = I i m := fun i m z => (F2.1 i m (by omega)).trans (F1.1 i m (by omega))
  have oLa : ∀ t ∈ a.2.1.map (moT X Y), t.2.2.2.length ≤ 12 := by
    intro t ht
    obtain ⟨t0, h0, rfl⟩ := List.mem_map.mp ht
    exact (ha.2.2.1 t0 h0).2.2.2.1
  have oLb : ∀ t ∈ b.2.1, t.2.2.2.length ≤ 12 := fun t ht => (hb.2.2.1 t ht).2.2.2.1
  have T2 : ∀ j t, (a.2.1.map (moT X Y))[j]? = some t → MT J2 (40 * now + j) t := by
    intro j t hj
    have hl := oLa t (List.mem_of_getElem? hj)
    rw [List.getElem?_map] at hj
    obtain ⟨t0, h0, rfl⟩ := Option.map_eq_some_iff.mp hj
    exact MT_keep (T1 j t0 h0) hl (fun i z1 z2 => F2.1 _ _ (by omega)) (fun i z => F2.1 _ _ (by omega))
  have B2 : ∀ j t, b.2.1[j]? = some t → MT J2 (40 * (1 - now) + j) t := by
    intro j t hj
    have hl := oLb t (List.mem_of_getElem? hj)
    have hjl : j < b.2.1.length := (List.getElem?_eq_some_iff.mp hj).1
    exact MT_keep (bt j t hj) hl (fun i z1 z2 => (F2.1 _ _ (by omega)).trans (F1.2.1 _ _ z1 z2 (by omega))) (fun i z => (F2.1 _ _ (by omega)).trans (F1.2.2 _ (by omega)))
  have lT : (a.2.1.map (moT X Y)).length = a.2.1.length := List.length_map _
  have lN : (a.2.2.map (moN X Y)).length = a.2.2.length := List.length_map _
  obtain ⟨J3, e3, F3, L3, T3⟩ := m_joinB (I := J2) (X := U) (Y := V) (La := a.2.1.map (moT X Y)) (Lb := b.2.1) hR hn ((f2 _ _ (by omega)).trans n3) ((f2 _ _ (by omega)).trans b3) B2 (by omega) oLa oLb (ax_b ac) (nI (smP a b ac)) b.2.1.length 5000 0 J2 (by omega) (by omega) ⟨fun _ _ _ _ => rfl, fun _ _ _ _ _ => rfl, fun _ _ => rfl⟩ (by rw [lT]; exact (f2 _ _ (by omega)).trans p3) (fun j t hj => T2 j t (by simpa using hj))
  have e3 : d_M_join_400 oS 5000 J2 R 210 (nI (1 - now)) (ax_b ac) (nI (smP a b ac)) (nI U) (nI V) 0 = d_M_join_485 oS 5000 J3 R 210 (nI (1 - now)) (ax_b ac) (nI (smP a b ac)) (nI U) (nI V) 0 := e3
  have f3 : ∀ i m, i < 215 ∨ 224 < i → ¬ (i = 213 ∧ m = now) → J3 i m = I i m := fun i m z z' => (F3.1 i m (by omega) z').trans (f2 i m z)
  have N3 : ∀ j t, (a.2.2.map (moN X Y))[j]? = some t → MN J3 (20 * now + j) t := by
    intro j t hj
    rw [List.getElem?_map] at hj
    obtain ⟨t0, h0, rfl⟩ := Option.map_eq_some_iff.mp hj
    obtain ⟨r1, r2, r3⟩ := N2 j t0 h0
    exact ⟨(F3.1 _ _ (by omega) (by omega)).trans r1, (F3.1 _ _ (by omega) (by omega)).trans r2, (F3.1 _ _ (by omega) (by omega)).trans r3⟩
  have C3 : ∀ j t, b.2.2[j]? = some t → MN J3 (20 * (1 - now) + j) t := by
    intro j t hj
    have hjl : j < b.2.2.length := (List.getElem?_eq_some_iff.mp hj).1
    obtain ⟨r1, r2, r3⟩ := bn j t hj
    have g : ∀ i, 222 ≤ i → i ≤ 224 → J3 i (20 * (1 - now) + j) = I i (20 * (1 - now) + j) := fun i z1 z2 => (F3.1 _ _ (by omega) (by omega)).trans ((F2.2 _ _ z1 z2 (by omega)).trans (F1.1 _ _ (by omega)))
    exact ⟨(g _ (by omega) (by omega)).trans r1, (g _ (by omega) (by omega)).trans r2, (g _ (by omega) (by omega)).trans r3⟩
  rw [lT] at L3
  obtain ⟨J4, e4, F4, L4, N4⟩ := m_joinC (I := J3) (X := U) (Y := V) (La := a.2.2.map (moN X Y)) (Lb := b.2.2) (W := a.1.1) (H := a.1.2) (sm := smP a b ac) (L := a.2.1.length + b.2.1.length) hR hn ((f3 _ _ (by omega) (by omega)).trans n3) ((f3 _ _ (by omega) (by omega)).trans p1) ((f3 _ _ (by omega) (by omega)).trans p2) L3 ((f3 _ _ (by omega) (by omega)).trans b4) C3 (by omega) ac b.2.2.length 5000 0 J3 (by omega) (by omega) ⟨fun _ _ _ _ => rfl, fun _ _ _ _ _ => rfl⟩ (by rw [lN]; exact (f3 _ _ (by omega) (by omega)).trans p4) (fun j t hj => N3 j t (by simpa using hj))
  have e4 : d_M_join_485 oS 5000 J3 R 210 (nI (1 - now)) (ax_b ac) (nI (smP a b ac)) (nI U) (nI V) 0 = _ := e4
  rw [e1, e2, e3, e4]
  obtain ⟨K, hK⟩ : ∃ K, K = ax_up (ax_up (ax_up (ax_up (ax_up (ax_up J4 213 (1 - now) 0) 214 (1 - now) 0) 211 now (nI (if ac then smP a b ac else a.1.1))) 212 now (nI (if ac then a.1.2 else smP a b ac))) 210 18 0) 210 19 0 := ⟨_, rfl⟩
  rw [← hK]
  have k4 : ∀ i m, ¬ (i = 213 ∧ m = 1 - now) → ¬ (i = 214 ∧ m = 1 - now) → ¬ (i = 211 ∧ m = now) → ¬ (i = 212 ∧ m = now) → ¬ (i = 210 ∧ m = 18) → ¬ (i = 210 ∧ m = 19) → K i m = J4 i m := fun i m z1 z2 z3 z4 z5 z6 => by rw [hK, ax_up_ne z6, ax_up_ne z5, ax_up_ne z4, ax_up_ne z3, ax_up_ne z2, ax_up_ne z1]
  have k3 : ∀ i m, ¬ (i = 213 ∧ m = 1 - now) → ¬ (i = 214 ∧ m = 1 - now) → ¬ (i = 211 ∧ m = now) → ¬ (i = 212 ∧ m = now) → ¬ (i = 210 ∧ m = 18) → ¬ (i = 210 ∧ m = 19) → i < 222 ∨ 224 < i → ¬ (i = 214 ∧ m = now) → K i m = J3 i m := fun i m z1 z2 z3 z4 z5 z6 z7 z8 => (k4 i m z1 z2 z3 z4 z5 z6).trans (F4.1 i m z7 z8)
  have k0 : ∀ i m, ¬ (i = 213 ∧ m = 1 - now) → ¬ (i = 214 ∧ m = 1 - now) → ¬ (i = 211 ∧ m = now) → ¬ (i = 212 ∧ m = now) → ¬ (i = 210 ∧ m = 18) → ¬ (i = 210 ∧ m = 19) → i < 215 ∨ 224 < i → ¬ (i = 214 ∧ m = now) → ¬ (i = 213 ∧ m = now) → K i m = I i m := fun i m z1 z2 z3 z4 z5 z6 z7 z8 z9 => (k3 i m z1 z2 z3 z4 z5 z6 (by omega) z8).trans (f3 i m (by omega) z9)
  have q : ∀ i m, (i = 210 ∧ m ≠ 18 ∧ m ≠ 19) ∨ ((i = 211 ∨ i = 212) ∧ m = 1 - now) ∨ i = 226 → K i m = I i m := fun i m z => k0 i m (by omega) (by omega) (by omega) (by omega) (by omega) (by omega) (by omega) (by omega) (by omega)
  have w1 : K 211 now = nI (if s % 2 = 0 then a.1.1 + b.1.1 else a.1.1) := by
    rw [hK, ax_up_ne (by omega), ax_up_ne (by omega), ax_up_ne (by omega), ax_up_self]
    by_cases z : s % 2 = 0
    · rw [hac, decide_eq_true z, if_pos z]; rfl
    · rw [hac, decide_eq_false z, if_neg z]; rfl
  have w2 : K 212 now = nI (if s % 2 = 0 then a.1.2 else a.1.2 + b.1.2) := by
    rw [hK, ax_up_ne (by omega), ax_up_ne (by omega), ax_up_self]
    by_cases z : s % 2 = 0
    · rw [hac, decide_eq_true z, if_pos z]; rfl
    · rw [hac, decide_eq_false z, if_neg z]; rfl
  refine ⟨_, _, rfl, (q _ _ (by omega)).trans c0, fun _ => rfl, hn, (q _ _ (by omega)).trans n3, ⟨⟨w1, w2, ?_, ?_⟩, fun j t hj => ?_, fun j n hj => ?_⟩, ⟨⟨(q _ _ (by omega)).trans b1, (q _ _ (by omega)).trans b2, ?_, ?_⟩, fun j t hj => (by simp [emP] at hj), fun j n hj => by simp [emP] at hj⟩, (q _ _ (by omega)).trans n1, (q _ _ (by omega)).trans n2, ?_, (q _ _ (by omega)).trans n22, fun j c hj => (q _ _ (by omega)).trans (nst j c hj)⟩
  · show K 213 now = nI (a.2.1.map (moT X Y) ++ b.2.1.map (moT U V)).length
    rw [List.length_append, lT, List.length_map]
    exact (k3 _ _ (by omega) (by omega) (by omega) (by omega) (by omega) (by omega) (by omega) (by omega)).trans L3
  · show K 214 now = nI (a.2.2.map (moN X Y) ++ b.2.2.map (moN U V)).length
    rw [List.length_append, lN, List.length_map]
    rw [lN] at L4
    exact (k4 _ _ (by omega) (by omega) (by omega) (by omega) (by omega) (by omega)).trans L4
  · have hj' : (a.2.1.map (moT X Y) ++ b.2.1.map (moT U V))[j]? = some t := hj
    have hl : t.2.2.2.length ≤ 12 := by
      rcases List.mem_append.mp (List.mem_of_getElem? hj') with z | z
      · exact oLa t z
      · obtain ⟨t0, h0, rfl⟩ := List.mem_map.mp z
        exact oLb t0 h0
    exact MT_keep (T3 j t hj') hl (fun i z1 z2 => k3 _ _ (by omega) (by omega) (by omega) (by omega) (by omega) (by omega) (by omega) (by omega)) (fun i z => k3 _ _ (by omega) (by omega) (by omega) (by omega) (by omega) (by omega) (by omega) (by omega))
  · have hj' : (a.2.2.map (moN X Y) ++ b.2.2.map (moN U V))[j]? = some n := hj
    obtain ⟨r1, r2, r3⟩ := N4 j n hj'
    exact ⟨(k4 _ _ (by omega) (by omega) (by omega) (by omega) (by omega) (by omega)).trans r1, (k4 _ _ (by omega) (by omega) (by omega) (by omega) (by omega) (by omega)).trans r2, (k4 _ _ (by omega) (by omega) (by omega) (by omega) (by omega) (by omega)).trans r3⟩
  · rw [hK, ax_up_ne (by omega), ax_up_ne (by omega), ax_up_ne (by omega), ax_up_ne (by omega), ax_up_ne (by omega), ax_up_self]; rfl
  · rw [hK, ax_up_ne (by omega), ax_up_ne (by omega), ax_up_ne (by omega), ax_up_ne (by omega), ax_up_self]; rfl
  · rw [hK, ax_up_ne (by omega), ax_up_self]; rfl
theorem M_join (hR : mOk oS R) (hM : MR I now a b fw fh since st) (ha : okP a) (hb : okP b) (x : Int32) : (x < 0 ∨ 3 < x → mAns (d_M_join oS I R 210 x) 1 0 (fun J => MR J now a b fw fh since st)) ∧ (∀ s, s < 4 → x = nI s → (alP a b (decide (s % 2 = 0)) = false → mAns (d_M_join oS I R 210 x) 2 0 (fun J => MR J now a b fw fh since st)) ∧ (alP a b (decide (s % 2 = 0)) = true → (roP a b (decide (s % 2 = 0)) = false → mAns (d_M_join oS I R 210 x) 3 0 (fun J => MR J now a b fw fh since st)) ∧ (roP a b (decide (s % 2 = 0)) = true → mAns (d_M_join oS I R 210 x) 0 (nI (a.2.1.length + b.2.1.length)) (fun J => MR J now (joinP a b s) (emP b) fw fh 0 st)))) := by
  have n3 := hM.2.1
  have hn := hM.1
  have sub : (1 : Int32) - nI now = nI (1 - now) := nI_sub (a := 1) (by omega)
  refine ⟨fun z => ?_, fun s hs ex => ?_⟩
  · have e0 : d_M_join_21 oS I R 210 x (nI (1 - now)) 0 = _ := mj_21 hR hM ha hb x false
    unfold d_M_join
    rw [if_neg (fun e => by rw [e] at z; exact absurd z (by decide)), if_neg (fun e => by rw [e] at z; exact absurd z (by decide)), n3, sub, e0]
    unfold d_M_join_116
    rw [m_in_f z, ob, if_pos bF, mj_196x _ _ _ _ (by decide)]
    exact ⟨_, _, rfl, ax_up_self _ _ _ _, fun z => (by cases z), MR_c hM _⟩
  subst ex
  have e : d_M_join oS I R 210 (nI s) = d_M_join_21 oS I R 210 (nI s) (nI (1 - now)) (ax_b (decide (s % 2 = 0))) := by
    unfold d_M_join d_M_join_16
    rw [n3, sub]
    have hs' : s = 0 ∨ s = 1 ∨ s = 2 ∨ s = 3 := by omega
    rcases hs' with rfl | rfl | rfl | rfl
    · rw [if_pos (show nI 0 = 0 from rfl)]; rfl
    · rw [if_neg (show ¬ nI 1 = 0 by decide), if_neg (show ¬ nI 1 = 2 by decide)]; rfl
    · rw [if_neg (show ¬ nI 2 = 0 by decide), if_pos (show nI 2 = 2 from rfl)]; rfl
    · rw [if_neg (show ¬ nI 3 = 0 by decide), if_neg (show ¬ nI 3 = 2 by decide)]; rfl
  rw [e, mj_21 hR hM ha hb]
  obtain ⟨g1, g2⟩ := mj_116 hR hM ha hb hs (decide (s % 2 = 0)) (alP a b (decide (s % 2 = 0)))
  refine ⟨fun z => ?_, fun z => ⟨fun z2 => ?_, fun z2 => ?_⟩⟩
  · rw [g1 z]
    exact ⟨_, _, rfl, ax_up_self _ _ _ _, fun z => (by cases z), MR_c hM _⟩
  · rw [(g2 z).1 z2]
    exact ⟨_, _, rfl, ax_up_self _ _ _ _, fun z => (by cases z), MR_c hM _⟩
  · have z3 := of_decide_eq_true z2
    rw [(g2 z).2 z2, mj_196 hR hM hs]
    exact m_joinD hR (MR_c hM 0) ha hb (ax_up_self _ _ _ _) _ rfl z3.2.1 z3.2.2
end MJ2
