/-! the reference: crop, whole -/
def fitA (p : Pc) (x y w h : Nat) : Bool := p.2.1.all (fitT true x) && (p.2.1.all (fitT false y) && (p.2.1.all (fitT true (x + w)) && p.2.1.all (fitT false (y + h))))
theorem fitA_t {p : Pc} {x y w h : Nat} (hf : fitA p x y w h = true) : ∀ t ∈ p.2.1, (t.1.1 + t.2.1.1 ≤ x ∨ x ≤ t.1.1) ∧ (t.1.2 + t.2.1.2 ≤ y ∨ y ≤ t.1.2) ∧ (t.1.1 + t.2.1.1 ≤ x + w ∨ x + w ≤ t.1.1) ∧ (t.1.2 + t.2.1.2 ≤ y + h ∨ y + h ≤ t.1.2) := by
  unfold fitA at hf
  simp only [Bool.and_eq_true, List.all_eq_true] at hf
  obtain ⟨f1, f2, f3, f4⟩ := hf
  intro t ht
  exact ⟨of_decide_eq_true (f1 t ht), of_decide_eq_true (f2 t ht), of_decide_eq_true (f3 t ht), of_decide_eq_true (f4 t ht)⟩
section MC3
variable {I : ax_I} {R : ax_R} {now fw fh since : Nat} {a b : Pc} {st : List Nat}
theorem m_c24 (hM : MR I now a b fw fh since st) (x y w h : Int32) : mAns (d_M_crop_24 oS I R 210 x y w h 210) 1 0 (fun J => MR J now a b fw fh since st) := by
  unfold d_M_crop_24 d_M_crop_29
  rw [ob, if_neg (up_le (by decide))]
  exact ⟨_, _, rfl, ax_up_self _ _ _ _, fun z => (by cases z), MR_c hM _⟩
theorem m_c88r (hR : mOk oS R) (hM : MR I now a b fw fh since st) (ha : okP a) (c0 : I 210 0 = 0) (x1 x2 x3 x4 : Int32) : mAns (d_M_crop_88 oS I R 210 x1 x2 x3 x4 1 210) 0 (-1) (fun J => MR J now a b fw fh since st) := by
  unfold d_M_crop_88
  rw [show ax_bo 1 = some true from rfl, ob, ob, ax_up_self, if_neg bT]
  have ix : ∀ j, j < 4 → ax_ix oS 225 (nI j) = some j := fun j hj => mx hR 14 (by omega) j rfl hj
  have i0 : ax_ix oS 225 0 = some 0 := ix 0 (by omega)
  have i1 : ax_ix oS 225 1 = some 1 := ix 1 (by omega)
  have i2 : ax_ix oS 225 2 = some 2 := ix 2 (by omega)
  have i3 : ax_ix oS 225 3 = some 3 := ix 3 (by omega)
  have h1 : MR (ax_up I 210 19 (ax_b true)) now a b fw fh since st := MR_up (Or.inl ⟨rfl, Or.inr rfl⟩) hM
  obtain ⟨v1, e1⟩ := m_nearest hR h1 ha true x1
  have e1 : d_M_nearest oS (ax_up I 210 19 (ax_b true)) R 210 1 x1 = some v1 := e1
  have h2 := MR_up (i := 225) (k := 0) (v := v1) (Or.inr (Or.inl rfl)) h1
  obtain ⟨v2, e2⟩ := m_nearest hR h2 ha false x2
  have e2 : d_M_nearest oS (ax_up (ax_up I 210 19 (ax_b true)) 225 0 v1) R 210 0 x2 = some v2 := e2
  have h3 := MR_up (i := 225) (k := 1) (v := v2) (Or.inr (Or.inl rfl)) h2
  obtain ⟨v3, e3⟩ := m_nearest hR h3 ha true (x1 + x3)
  have e3 : d_M_nearest oS (ax_up (ax_up (ax_up I 210 19 (ax_b true)) 225 0 v1) 225 1 v2) R 210 1 (x1 + x3) = some v3 := e3
  have h4 := MR_up (i := 225) (k := 2) (v := v3) (Or.inr (Or.inl rfl)) h3
  obtain ⟨v4, e4⟩ := m_nearest hR h4 ha false (x2 + x4)
  have e4 : d_M_nearest oS (ax_up (ax_up (ax_up (ax_up I 210 19 (ax_b true)) 225 0 v1) 225 1 v2) 225 2 v3) R 210 0 (x2 + x4) = some v4 := e4
  rw [mr_20 hR, ob, e1, ob, i0, ob, ob, ob, e2, ob, i1, ob, ob, ob, e3, ob, i2, ob, ob, ob, e4, ob, i3, ob, ob]
  refine ⟨_, _, rfl, ?_, fun _ => rfl, MR_up (Or.inr (Or.inl rfl)) h4⟩
  rw [ax_up_ne (by omega), ax_up_ne (by omega), ax_up_ne (by omega), ax_up_ne (by omega), ax_up_ne (by omega)]
  exact c0
theorem m_c88d (hR : mOk oS R) (hM : MR I now a b fw fh since st) (ha : okP a) (hb : okP b) (c0 : I 210 0 = 0) {x y w h : Nat} (w1 : 1 ≤ w) (h1 : 1 ≤ h) (hx : x + w ≤ a.1.1) (hy : y + h ≤ a.1.2) (hf : fitA a x y w h = true) : mAns (d_M_crop_88 oS I R 210 (nI x) (nI y) (nI w) (nI h) 0 210) 0 (nI (a.2.1.filter (inT x y w h)).length) (fun J => MR J now (cropP a x y w h) b fw fh since st) := by
  unfold d_M_crop_88
  rw [show ax_bo 0 = some false from rfl, ob, ob, ax_up_self, if_pos bF]
  obtain ⟨M1, hM1⟩ : ∃ M1, M1 = ax_up I 210 19 (ax_b false) := ⟨_, rfl⟩
  have hR1 : MR M1 now a b fw fh since st := by rw [hM1]; exact MR_up (Or.inl ⟨rfl, Or.inr rfl⟩) hM
  have c1 : M1 210 0 = 0 := by rw [hM1, ax_up_ne (by omega)]; exact c0
  rw [← hM1]
  clear hM1 hM c0
  have oC := okP_crop ha w1 h1 hx hy
  have hR2 := hR1
  obtain ⟨hn, n3, ⟨⟨p1, p2, p3, p4⟩, pt, pn⟩, hb', -⟩ := hR1
  obtain ⟨J1, e1, F1, T1⟩ := m_cropT hR hR2 ha hx hy (fitA_t hf) a.2.1.length 5000 0 M1 (by omega) (by have := ha.2.1.1; omega) ⟨fun _ _ _ => rfl, fun _ _ _ _ _ => rfl, fun _ _ => rfl⟩ (fun j t hj => by simp at hj) (fun j t _ hj => pt j t hj)
  have e1 : d_M_crop_159 oS 5000 M1 R 210 (nI x) (nI y) (nI w) (nI h) 0 0 = d_M_crop_304 oS 5000 (ax_up J1 213 now (nI (a.2.1.filter (inT x y w h)).length)) R 210 (nI x) (nI y) (nI w) (nI h) (nI (a.2.1.filter (inT x y w h)).length) 0 (nI (20 * now)) := e1
  obtain ⟨J2, hJ2⟩ : ∃ J2, J2 = ax_up J1 213 now (nI (a.2.1.filter (inT x y w h)).length) := ⟨_, rfl⟩
  rw [← hJ2] at e1
  have g2 : ∀ i m, ¬ (i = 213 ∧ m = now) → J2 i m = J1 i m := fun i m z => by rw [hJ2, ax_up_ne z]
  have n32 : J2 210 3 = nI now := (g2 _ _ (by omega)).trans ((F1.1 _ _ (by omega)).trans n3)
  have p42 : J2 214 now = nI a.2.2.length := (g2 _ _ (by omega)).trans ((F1.1 _ _ (by omega)).trans p4)
  have N2 : ∀ j t, a.2.2[j]? = some t → MN J2 (20 * now + j) t := by
    intro j t hj
    obtain ⟨r1, r2, r3⟩ := pn j t hj
    exact ⟨(g2 _ _ (by omega)).trans ((F1.1 _ _ (by omega)).trans r1), (g2 _ _ (by omega)).trans ((F1.1 _ _ (by omega)).trans r2), (g2 _ _ (by omega)).trans ((F1.1 _ _ (by omega)).trans r3)⟩
  obtain ⟨J3, e2, F3, N3⟩ := m_cropN (I := J2) hR hn n32 p42 ha w1 h1 hx hy (nI (a.2.1.filter (inT x y w h)).length) a.2.2.length 5000 0 J2 (by omega) (by have := ha.2.1.2; omega) ⟨fun _ _ _ => rfl, fun _ _ _ _ _ => rfl⟩ (fun j t hj => by simp at hj) (fun j t _ hj => N2 j t hj)
  have e2 : d_M_crop_304 oS 5000 J2 R 210 (nI x) (nI y) (nI w) (nI h) (nI (a.2.1.filter (inT x y w h)).length) 0 (nI (20 * now)) = _ := e2
  rw [e1, e2]
  obtain ⟨K, hK⟩ : ∃ K, K = ax_up (ax_up (ax_up J3 214 now (nI (a.2.2.filter (inN x y w h)).length)) 211 now (nI w)) 212 now (nI h) := ⟨_, rfl⟩
  rw [← hK]
  have k0 : ∀ i m, ¬ (i = 214 ∧ m = now) → ¬ (i = 211 ∧ m = now) → ¬ (i = 212 ∧ m = now) → K i m = J3 i m := fun i m z1 z2 z3 => by rw [hK, ax_up_ne z3, ax_up_ne z2, ax_up_ne z1]
  have k1 : ∀ i m, ¬ (i = 214 ∧ m = now) → ¬ (i = 211 ∧ m = now) → ¬ (i = 212 ∧ m = now) → i < 222 ∨ 224 < i → K i m = J2 i m := fun i m z1 z2 z3 z4 => (k0 i m z1 z2 z3).trans (F3.1 i m z4)
  have k2 : ∀ i m, ¬ (i = 214 ∧ m = now) → ¬ (i = 211 ∧ m = now) → ¬ (i = 212 ∧ m = now) → ¬ (i = 213 ∧ m = now) → i < 222 ∨ 224 < i → K i m = J1 i m := fun i m z1 z2 z3 z4 z5 => (k1 i m z1 z2 z3 z5).trans (g2 i m z4)
  have k3 : ∀ i m, ¬ (i = 214 ∧ m = now) → ¬ (i = 211 ∧ m = now) → ¬ (i = 212 ∧ m = now) → ¬ (i = 213 ∧ m = now) → i < 215 ∨ 224 < i → K i m = M1 i m := fun i m z1 z2 z3 z4 z5 => (k2 i m z1 z2 z3 z4 (by omega)).trans (F1.1 i m (by omega))
  refine ⟨_, _, rfl, (k3 _ _ (by omega) (by omega) (by omega) (by omega) (by omega)).trans c1, fun _ => rfl, MR_mk hR2 (fun k hk => k3 _ _ (by omega) (by omega) (by omega) (by omega) (by omega)) (fun k => k3 _ _ (by omega) (by omega) (by omega) (by omega) (by omega)) ⟨⟨?_, ?_, ?_, ?_⟩, fun j t hj => ?_, fun j n hj => ?_⟩ (MP_keep hb' hb (fun i z1 z2 => k3 _ _ (by omega) (by omega) (by omega) (by omega) (by omega)) (fun i m z1 z2 z3 z4 => ?_) (fun m z1 z2 => ?_) (fun i m z1 z2 z3 z4 => ?_))⟩
  · rw [hK, ax_up_ne (by omega), ax_up_self]; rfl
  · rw [hK, ax_up_self]; rfl
  · rw [k1 _ _ (by omega) (by omega) (by omega) (by omega), hJ2, ax_up_self]; unfold cropP; rw [List.length_map]
  · rw [hK, ax_up_ne (by omega), ax_up_ne (by omega), ax_up_self]; unfold cropP; rw [List.length_map]
  · exact MT_keep (T1 j t hj) (oC.2.2.1 t (List.mem_of_getElem? hj)).2.2.2.1 (fun i z1 z2 => k2 _ _ (by omega) (by omega) (by omega) (by omega) (by omega)) (fun i z => k2 _ _ (by omega) (by omega) (by omega) (by omega) (by omega))
  · obtain ⟨r1, r2, r3⟩ := N3 j n hj
    exact ⟨(k0 _ _ (by omega) (by omega) (by omega)).trans r1, (k0 _ _ (by omega) (by omega) (by omega)).trans r2, (k0 _ _ (by omega) (by omega) (by omega)).trans r3⟩
  · exact (k2 _ _ (by omega) (by omega) (by omega) (by omega) (by omega)).trans (F1.2.1 i m z1 z2 (by omega))
  · exact (k2 _ _ (by omega) (by omega) (by omega) (by omega) (by omega)).trans (F1.2.2 m (by omega))
  · exact (k0 _ _ (by omega) (by omega) (by omega)).trans ((F3.2 i m z1 z2 (by omega)).trans ((g2 _ _ (by omega)).trans (F1.1 i m (by omega))))
theorem M_crop (hR : mOk oS R) (hM : MR I now a b fw fh since st) (ha : okP a) (hb : okP b) (x y w h : Int32) : (noRect a.1.1 a.1.2 x y w h → mAns (d_M_crop oS I R 210 x y w h) 1 0 (fun J => MR J now a b fw fh since st)) ∧ (∀ x' y' w' h', x = nI x' → y = nI y' → w = nI w' → h = nI h' → 1 ≤ w' → 1 ≤ h' → x' + w' ≤ a.1.1 → y' + h' ≤ a.1.2 → (fitA a x' y' w' h' = false → mAns (d_M_crop oS I R 210 x y w h) 0 (-1) (fun J => MR J now a b fw fh since st)) ∧ (fitA a x' y' w' h' = true → mAns (d_M_crop oS I R 210 x y w h) 0 (nI (a.2.1.filter (inT x' y' w' h')).length) (fun J => MR J now (cropP a x' y' w' h') b fw fh since st))) := by
  refine ⟨fun z => ?_, fun x' y' w' h' ex ey ew eh w1 h1 hx hy => ?_⟩
  · unfold d_M_crop
    by_cases z1 : w < 1
    · rw [if_pos z1]; exact m_c24 hM _ _ _ _
    rw [if_neg z1]
    by_cases z2 : h < 1
    · rw [if_pos z2]; exact m_c24 hM _ _ _ _
    rw [if_neg z2, (m_lies hR hM x y w h).1 z z1 z2, ob, if_pos bF]
    exact m_c24 hM _ _ _ _
  · subst ex ey ew eh
    have hW := ha.1
    have hM0 : MR (ax_up I 210 0 0) now a b fw fh since st := MR_c hM 0
    have c0 : ax_up I 210 0 0 210 0 = 0 := ax_up_self _ _ _ _
    have e : d_M_crop oS I R 210 (nI x') (nI y') (nI w') (nI h') = if fitA a x' y' w' h' = true then d_M_crop_88 oS (ax_up I 210 0 0) R 210 (nI x') (nI y') (nI w') (nI h') 0 210 else d_M_crop_88 oS (ax_up I 210 0 0) R 210 (nI x') (nI y') (nI w') (nI h') 1 210 := by
      have f1 : d_M_fits oS (ax_up I 210 0 0) R 210 1 (nI x') = some (a.2.1.all (fitT true x')) := m_fits hR hM0 ha (by omega) true
      have f2 : d_M_fits oS (ax_up I 210 0 0) R 210 0 (nI y') = some (a.2.1.all (fitT false y')) := m_fits hR hM0 ha (by omega) false
      have f3 : d_M_fits oS (ax_up I 210 0 0) R 210 1 (nI x' + nI w') = some (a.2.1.all (fitT true (x' + w'))) := by rw [nI_add]; exact m_fits hR hM0 ha (by omega) true
      have f4 : d_M_fits oS (ax_up I 210 0 0) R 210 0 (nI y' + nI h') = some (a.2.1.all (fitT false (y' + h'))) := by rw [nI_add]; exact m_fits hR hM0 ha (by omega) false
      unfold d_M_crop
      rw [if_neg (show ¬ nI w' < (1 : Int32) from nI_nlt (a := w') (b := 1) w1 (by omega)), if_neg (show ¬ nI h' < (1 : Int32) from nI_nlt (a := h') (b := 1) h1 (by omega)), (m_lies hR hM _ _ _ _).2 (rect_no hW.2.1 hW.2.2.2 w1 h1 hx hy), ob, if_neg bT]
      unfold d_M_crop_29 d_M_crop_83
      rw [ob, if_pos (up_ge (by decide)), f1, f2, f3, f4, ob, ob, ob, ob]
      unfold fitA
      generalize a.2.1.all (fitT true x') = B1
      generalize a.2.1.all (fitT false y') = B2
      generalize a.2.1.all (fitT true (x' + w')) = B3
      generalize a.2.1.all (fitT false (y' + h')) = B4
      cases B1 with
      | false => rw [if_pos bF, if_neg (by simp)]
      | true =>
        rw [if_neg bT]
        cases B2 with
        | false => rw [if_pos bF, if_neg (by simp)]
        | true =>
          rw [if_neg bT]
          cases B3 with
          | false => rw [if_pos bF, if_neg (by simp)]
          | true =>
            rw [if_neg bT]
            cases B4 with
            | false => rw [if_pos bF, if_neg (by simp)]
            | true => rw [if_neg bT, if_pos (by simp)]
    rw [e]
    refine ⟨fun z => ?_, fun z => ?_⟩
    · rw [z, if_neg (by simp)]
      exact m_c88r hR hM0 ha c0 _ _ _ _
    · rw [if_pos z]
      exact m_c88d hR hM0 ha hb c0 w1 h1 hx hy z
end MC3
