/-! the class: crop, whole -/
theorem okP_subT {p : Pc} (hp : okP p) (F : Tl → Bool) : okP (p.1, p.2.1.filter F, p.2.2) := by
  obtain ⟨h1, ⟨h2, h3⟩, h4, h5, h6⟩ := hp
  exact ⟨h1, ⟨Nat.le_trans (List.length_filter_le _ _) h2, h3⟩, fun t ht => h4 t (List.mem_filter.mp ht).1, h5, List.Pairwise.filter _ h6⟩
theorem okP_subN {p : Pc} (hp : okP p) (F : Nt → Bool) : okP (p.1, p.2.1, p.2.2.filter F) := by
  obtain ⟨h1, ⟨h2, h3⟩, h4, h5, h6⟩ := hp
  exact ⟨h1, ⟨h2, Nat.le_trans (List.length_filter_le _ _) h3⟩, h4, fun t ht => h5 t (List.mem_filter.mp ht).1, h6⟩
section KC2
variable {I J : ax_I} {R R' : ax_R} {f g f' g' : Nat → Nat → Nat} {p q r fw fh since : Nat} {a a' b : Pc} {st : List Nat}
theorem KR_row (h : KR I R f g p q a b fw fh since st) (hb : okP b) (hQ' : KQ R' f' g' p q) (ef : ∀ k, f' q k = f q k) (eg : ∀ k, g' q k = g q k) (e : ∀ i m, i ≠ p → J i m = I i m) (hP : KP J f' g' p a') : KR J R' f' g' p q a' b fw fh since st ∧ hiI I J := by
  obtain ⟨hQ, h1, h2, h3, h4, h5, h6, h7⟩ := h
  obtain ⟨pp, pq, hne⟩ := KQ_P hQ
  have rp := P_r pp
  have l := hb.2.1
  refine ⟨⟨hQ', hP, ?_, (e _ _ (by omega)).trans h3, (e _ _ (by omega)).trans h4, (e _ _ (by omega)).trans h5, (e _ _ (by omega)).trans h6, fun j c hj => (e _ _ (by omega)).trans (h7 j c hj)⟩, fun i m z => e _ _ (by omega)⟩
  have k : KP J f g q b := KP_keep h2 (fun i => e _ _ (fun z => hne z.symm)) (fun k i hk => ⟨e _ _ (T_P (hQ.2.2.2.1 q k pq (by omega)).2 pp).1, e _ _ (T_P (hQ.2.2.2.1 q k pq (by omega)).2 pp).2⟩) (fun k i hk => e _ _ (N_P (hQ.2.2.2.2.1 q k pq (by omega)).2 pp))
  exact ⟨k.1, fun k' t hk => by rw [ef]; exact k.2.1 k' t hk, fun k' n hk => by rw [eg]; exact k.2.2 k' n hk⟩
theorem K_cutTo (hK : KR I R f g p q a b fw fh since st) (ha : okP a) (hb : okP b) {x y w h : Nat} (w1 : 1 ≤ w) (h1 : 1 ≤ h) (hx : x + w ≤ a.1.1) (hy : y + h ≤ a.1.2) : ∃ J R' f' g', d_P_cutTo oS I R p (nI x) (nI y) (nI w) (nI h) = some (nI (a.2.1.filter (inT x y w h)).length, J, R') ∧ KR J R' f' g' p q (cropP a x y w h) b fw fh since st ∧ hiI I J ∧ ∀ i k, 210 ≤ i → R' i k = R i k := by
  have l := ha.2.1
  have oW := ha.1
  have hQ := hK.1
  obtain ⟨pp, pq, hne⟩ := KQ_P hQ
  obtain ⟨R1, f1, e1, Q1, ff1, T1, H1⟩ := k_keepT (p := p) (q := q) (R := R) pp hK.2.1 ha (x := x) (y := y) (w := w) (h := h) (by omega) (by omega) a.2.1.length 5000 0 R f (by omega) (by omega) hQ (fun _ _ _ => rfl) (fun j t hj => by simp at hj) (fun _ _ _ => rfl)
  have e1 : d_P_keepTilesWithin oS I R p (nI x) (nI y) (nI (x + w)) (nI (y + h)) = _ := e1
  have oA := okP_subT ha (inT x y w h)
  have hPA : KP (ax_up I p 2 (nI (a.2.1.filter (inT x y w h)).length)) f1 g p ((a.1, a.2.1.filter (inT x y w h), a.2.2)) := by
    refine ⟨⟨(ax_up_ne (by omega)).trans hK.2.1.1.1, (ax_up_ne (by omega)).trans hK.2.1.1.2.1, ax_up_self _ _ _ _, (ax_up_ne (by omega)).trans hK.2.1.1.2.2.2⟩, fun k t hk => ?_, fun k n hk => ?_⟩
    · have hlt : k < (a.2.1.filter (inT x y w h)).length := (List.getElem?_eq_some_iff.mp hk).1
      have hl2 : (a.2.1.filter (inT x y w h)).length ≤ a.2.1.length := List.length_filter_le _ _
      have tk := T_P (Q1.2.2.2.1 p k pp (by omega)).2 pp
      exact KT_keep (T1 k t hk) (fun i => ax_up_ne (by omega)) (fun i => ax_up_ne (by omega))
    · have hlt : k < a.2.2.length := (List.getElem?_eq_some_iff.mp hk).1
      have nk := N_P (hQ.2.2.2.2.1 p k pp (by omega)).2 pp
      exact KN_keep (hK.2.1.2.2 k n hk) (fun i => ax_up_ne (by omega))
  obtain ⟨hK1, i1⟩ := KR_row (J := ax_up I p 2 (nI (a.2.1.filter (inT x y w h)).length)) (a' := (a.1, a.2.1.filter (inT x y w h), a.2.2)) hK hb Q1 (fun k => ff1 q k (fun z => hne z.symm)) (fun _ => rfl) (fun i m z => ax_up_ne (fun y => z y.1)) hPA
  obtain ⟨I1, hI1⟩ : ∃ I1, I1 = ax_up I p 2 (nI (a.2.1.filter (inT x y w h)).length) := ⟨_, rfl⟩
  rw [← hI1] at e1 hK1 i1
  obtain ⟨R2, g2, e2, Q2, gg2, T2, H2⟩ := k_keepN (p := p) (q := q) (R := R1) (f := f1) pp hK1.2.1 oA (x := x) (y := y) (w := w) (h := h) (by omega) (by omega) a.2.2.length 5000 0 R1 g (Nat.zero_add _) (by omega) Q1 (fun _ _ _ => rfl) (fun j t hj => by simp at hj) (fun _ _ _ => rfl)
  have e2 : d_P_keepNotesWithin oS I1 R1 p (nI x) (nI y) (nI (x + w)) (nI (y + h)) = some (ax_up I1 p 3 (nI (a.2.2.filter (inN x y w h)).length), R2) := e2
  have T2 : ∀ j t, (a.2.2.filter (inN x y w h))[j]? = some t → KN I1 (g2 p j) t := T2
  have oB : okP (a.1, a.2.1.filter (inT x y w h), a.2.2.filter (inN x y w h)) := okP_subN oA (inN x y w h)
  have hPB : KP (ax_up I1 p 3 (nI (a.2.2.filter (inN x y w h)).length)) f1 g2 p ((a.1, a.2.1.filter (inT x y w h), a.2.2.filter (inN x y w h))) := by
    refine ⟨⟨(ax_up_ne (by omega)).trans hK1.2.1.1.1, (ax_up_ne (by omega)).trans hK1.2.1.1.2.1, (ax_up_ne (by omega)).trans hK1.2.1.1.2.2.1, ax_up_self _ _ _ _⟩, fun k t hk => ?_, fun k n hk => ?_⟩
    · have hlt : k < (a.2.1.filter (inT x y w h)).length := (List.getElem?_eq_some_iff.mp hk).1
      have hl2 : (a.2.1.filter (inT x y w h)).length ≤ a.2.1.length := List.length_filter_le _ _
      have tk := T_P (Q1.2.2.2.1 p k pp (by omega)).2 pp
      exact KT_keep (hK1.2.1.2.1 k t hk) (fun i => ax_up_ne (by omega)) (fun i => ax_up_ne (by omega))
    · have hlt : k < (a.2.2.filter (inN x y w h)).length := (List.getElem?_eq_some_iff.mp hk).1
      have hl2 : (a.2.2.filter (inN x y w h)).length ≤ a.2.2.length := List.length_filter_le _ _
      have nk := N_P (Q2.2.2.2.2.1 p k pp (by omega)).2 pp
      exact KN_keep (T2 k n hk) (fun i => ax_up_ne (by omega))
  obtain ⟨hK2, i2⟩ := KR_row (J := ax_up I1 p 3 (nI (a.2.2.filter (inN x y w h)).length)) (a' := (a.1, a.2.1.filter (inT x y w h), a.2.2.filter (inN x y w h))) hK1 hb Q2 (fun k => rfl) (fun k => gg2 q k (fun z => hne z.symm)) (fun i m z => ax_up_ne (fun y => z y.1)) hPB
  obtain ⟨I2, hI2⟩ : ∃ I2, I2 = ax_up I1 p 3 (nI (a.2.2.filter (inN x y w h)).length) := ⟨_, rfl⟩
  rw [← hI2] at e2 hK2 i2
  obtain ⟨J, e3, T3, N3, r3, o3⟩ := k_moveBy Q2 pp hK2.2.1 oB (-nI x) (-nI y) (fun v => v - x) (fun v => v - y) (fun t ht => by have := of_decide_eq_true (List.mem_filter.mp ht).2; exact ⟨nI_neg this.1, nI_neg this.2.1⟩) (fun t ht => by have := of_decide_eq_true (List.mem_filter.mp ht).2; exact ⟨nI_neg this.1, nI_neg this.2.1⟩)
  have hPC : KP (ax_up (ax_up J p 4 (nI w)) p 5 (nI h)) f1 g2 p (cropP a x y w h) := by
    refine ⟨⟨?_, ?_, ?_, ?_⟩, fun k t hk => ?_, fun k n hk => ?_⟩
    · rw [ax_up_ne (by omega), ax_up_self]; rfl
    · rw [ax_up_self]; rfl
    · rw [ax_up_ne (by omega), ax_up_ne (by omega), r3, hK2.2.1.1.2.2.1]; unfold cropP; rw [List.length_map]
    · rw [ax_up_ne (by omega), ax_up_ne (by omega), r3, hK2.2.1.1.2.2.2]; unfold cropP; rw [List.length_map]
    · have hk' : ((a.2.1.filter (inT x y w h)).map (shT x y))[k]? = some t := hk
      rw [List.getElem?_map] at hk'
      obtain ⟨t0, h0, rfl⟩ := Option.map_eq_some_iff.mp hk'
      have hlt : k < (a.2.1.filter (inT x y w h)).length := (List.getElem?_eq_some_iff.mp h0).1
      have hl2 : (a.2.1.filter (inT x y w h)).length ≤ a.2.1.length := List.length_filter_le _ _
      have tk := T_P (Q2.2.2.2.1 p k pp (by omega)).2 pp
      exact KT_keep (T3 k t0 h0) (fun i => (ax_up_ne (by omega)).trans (ax_up_ne (by omega))) (fun i => (ax_up_ne (by omega)).trans (ax_up_ne (by omega)))
    · have hk' : ((a.2.2.filter (inN x y w h)).map (shN x y))[k]? = some n := hk
      rw [List.getElem?_map] at hk'
      obtain ⟨t0, h0, rfl⟩ := Option.map_eq_some_iff.mp hk'
      have hlt : k < (a.2.2.filter (inN x y w h)).length := (List.getElem?_eq_some_iff.mp h0).1
      have hl2 : (a.2.2.filter (inN x y w h)).length ≤ a.2.2.length := List.length_filter_le _ _
      have nk := N_P (Q2.2.2.2.2.1 p k pp (by omega)).2 pp
      exact KN_keep (N3 k t0 h0) (fun i => (ax_up_ne (by omega)).trans (ax_up_ne (by omega)))
  obtain ⟨hK3, i3⟩ := KR_here (J := ax_up (ax_up J p 4 (nI w)) p 5 (nI h)) (a' := cropP a x y w h) hK2 hb (fun i m z => by rw [ax_up_ne (fun e => z (Or.inl e.1)), ax_up_ne (fun e => z (Or.inl e.1))]; exact o3 i m z) hPC
  unfold d_P_cutTo
  rw [nI_add, nI_add, e1, ob]
  show ∃ J R' f' g', (d_P_keepNotesWithin oS I1 R1 p (nI x) (nI y) (nI (x + w)) (nI (y + h))).bind _ = _ ∧ _
  rw [e2, ob]
  show ∃ J R' f' g', (d_P_moveBy oS I2 R2 p (-nI x) (-nI y)).bind _ = _ ∧ _
  rw [e3, ob, ob, ob, ax_up_ne (show ¬ (p = p ∧ 2 = 5) by omega), ax_up_ne (show ¬ (p = p ∧ 2 = 4) by omega), r3, hK2.2.1.1.2.2.1]
  exact ⟨_, _, _, _, rfl, hK3, fun i m z => (i3 i m z).trans ((i2 i m z).trans (i1 i m z)), fun i k z => (H2 i k z).trans (H1 i k z)⟩
theorem K_crop (hK : KR I R f g p q a b fw fh since st) (ha : okP a) (hb : okP b) (x y w h : Int32) : (noRect a.1.1 a.1.2 x y w h → ∃ J, d_K_crop oS I R 0 x y w h = some (.inr "java/lang/IllegalArgumentException", J, R) ∧ KR J R f g p q a b fw fh since st ∧ hiI I J) ∧ (∀ x' y' w' h', x = nI x' → y = nI y' → w = nI w' → h = nI h' → 1 ≤ w' → 1 ≤ h' → x' + w' ≤ a.1.1 → y' + h' ≤ a.1.2 → (fitA a x' y' w' h' = false → ∃ J, d_K_crop oS I R 0 x y w h = some (.inl (-1), J, R) ∧ KR J R f g p q a b fw fh since st ∧ hiI I J) ∧ (fitA a x' y' w' h' = true → ∃ J R' f' g', d_K_crop oS I R 0 x y w h = some (.inl (nI (a.2.1.filter (inT x' y' w' h')).length), J, R') ∧ KR J R' f' g' p q (cropP a x' y' w' h') b fw fh since st ∧ hiI I J ∧ ∀ i k, 210 ≤ i → R' i k = R i k)) := by
  have hQ := hK.1
  obtain ⟨pp, pq, hne⟩ := KQ_P hQ
  have oW := ha.1
  have rp := P_r pp
  have hK1 := KR_own hK ha hb (i := 0) (k := 7) (v := 0) (Or.inl ⟨rfl, rfl⟩)
  obtain ⟨c1, c2⟩ := k_rect (R := R) hK1.2.1.1.1 hK1.2.1.1.2.1 x y w h
  refine ⟨fun z => ?_, fun x' y' w' h' ex ey ew eh w1 h1 hx hy => ?_⟩
  · unfold d_K_crop
    rw [ob, hQ.2.1.1, ob, c1 z, ob, if_pos bF]
    exact ⟨_, rfl, hK1, fun i m z => ax_up_ne (by omega)⟩
  subst ex ey ew eh
  have x0 : ax_ix oS 3 0 = some 0 := kx3 (k := 0) (by omega)
  have x1 : ax_ix oS 3 1 = some 1 := kx3 (k := 1) (by omega)
  have x2 : ax_ix oS 3 2 = some 2 := kx3 (k := 2) (by omega)
  have x3 : ax_ix oS 3 3 = some 3 := kx3 (k := 3) (by omega)
  obtain ⟨I4, hI4⟩ : ∃ I4, I4 = ax_up (ax_up (ax_up (ax_up (ax_up I 0 7 0) 3 0 (nI x')) 3 1 (nI y')) 3 2 (nI (x' + w'))) 3 3 (nI (y' + h')) := ⟨_, rfl⟩
  have hK4 : KR I4 R f g p q a b fw fh since st := by
    rw [hI4]
    exact KR_own (KR_own (KR_own (KR_own hK1 ha hb (Or.inr (Or.inl rfl))) ha hb (Or.inr (Or.inl rfl))) ha hb (Or.inr (Or.inl rfl))) ha hb (Or.inr (Or.inl rfl))
  have h4 : hiI I I4 := fun i m z => by rw [hI4, ax_up_ne (by omega), ax_up_ne (by omega), ax_up_ne (by omega), ax_up_ne (by omega), ax_up_ne (by omega)]
  have as := kp_asked hQ hK4.2.1 ha (x := x') (y := y') (w := w') (h := h') (by omega) (by omega) (by rw [hI4, ax_up_ne (by omega), ax_up_ne (by omega), ax_up_ne (by omega), ax_up_self]) (by rw [hI4, ax_up_ne (by omega), ax_up_ne (by omega), ax_up_self]) (by rw [hI4, ax_up_ne (by omega), ax_up_self]) (by rw [hI4, ax_up_self])
  have e : d_K_crop oS I R 0 (nI x') (nI y') (nI w') (nI h') = if ax_b (fitA a x' y' w' h') = 0 then d_K_crop_76 oS I4 R 0 (nI x') (nI y') (nI w') (nI h') 1 0 else d_K_crop_76 oS I4 R 0 (nI x') (nI y') (nI w') (nI h') 0 0 := by
    unfold d_K_crop
    rw [ob, hQ.2.1.1, ob, c2 (rect_no oW.2.1 oW.2.2.2 w1 h1 hx hy), ob, if_neg bT, hQ.2.1.2.2.2.1, ob, x0, ob, ob, ob, x1, ob, ob, ob, x2, ob, ob, ob, x3, ob, ob, nI_add, nI_add, ← hI4, as, ob]
  rw [e]
  unfold d_K_crop_76
  refine ⟨fun z => ?_, fun z => ?_⟩
  · rw [z, if_pos bF, show ax_bo 1 = some true from rfl, ob, ob, ax_up_self, if_neg bT]
    exact ⟨_, rfl, KR_own hK4 ha hb (Or.inl ⟨rfl, rfl⟩), fun i m z => (ax_up_ne (by omega)).trans (h4 i m z)⟩
  · have hK5 := KR_own hK4 ha hb (i := 0) (k := 7) (v := ax_b false) (Or.inl ⟨rfl, rfl⟩)
    obtain ⟨J, R', f', g', e1, e2, e3, e4⟩ := K_cutTo hK5 ha hb w1 h1 hx hy
    rw [z, if_neg bT, show ax_bo 0 = some false from rfl, ob, ob, ax_up_self, if_pos bF, hQ.2.1.1, ob, e1, ob]
    exact ⟨J, R', f', g', rfl, e2, fun i m z => (e3 i m z).trans ((ax_up_ne (by omega)).trans (h4 i m z)), e4⟩
end KC2
