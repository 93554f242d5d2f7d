/-! the class: tile, byteOf, note -/
theorem T_T {u v : Nat} (hu : isT u) (hv : isT v) : u + 1 ≠ v := by unfold isT at *; omega
theorem T_P {u r : Nat} (hu : isT u) (hr : isP r) : u ≠ r ∧ u + 1 ≠ r := by unfold isT isP at *; omega
theorem T_N {u v : Nat} (hu : isT u) (hv : isN v) : u ≠ v ∧ u + 1 ≠ v := by unfold isT isN at *; omega
theorem N_P {u r : Nat} (hu : isN u) (hr : isP r) : u ≠ r := by unfold isN isP at *; omega
theorem T_r {u : Nat} (hu : isT u) : 4 ≤ u ∧ u + 1 < 210 := by unfold isT at hu; omega
theorem N_r {u : Nat} (hu : isN u) : 4 ≤ u ∧ u < 210 := by unfold isN at hu; omega
theorem P_r {u : Nat} (hu : isP u) : 4 ≤ u ∧ u ≤ 107 := by unfold isP at hu; omega
/-- a picture's own cells -/
def own (f g : Nat → Nat → Nat) (p i : Nat) : Prop := i = p ∨ (∃ k, k < 40 ∧ (i = f p k ∨ i = f p k + 1)) ∨ ∃ k, k < 20 ∧ i = g p k
section KM
variable {I J : ax_I} {R : ax_R} {f g : Nat → Nat → Nat} {p q r fw fh since : Nat} {a a' b : Pc} {st : List Nat}
theorem own_r (hQ : KQ R f g p q) (hr : isP r) {i : Nat} (h : own f g r i) : 4 ≤ i ∧ i < 210 := by
  rcases h with rfl | ⟨k, hk, z⟩ | ⟨k, hk, z⟩
  · have := P_r hr
    omega
  · have := T_r (hQ.2.2.2.1 r k hr hk).2
    omega
  · have := N_r (hQ.2.2.2.2.1 r k hr hk).2
    omega
/-- two pictures' cells are apart -/
theorem own_ne (hQ : KQ R f g p q) {s i : Nat} (hr : isP r) (hs : isP s) (hrs : r ≠ s) (h : own f g r i) : ¬ own f g s i := by
  intro h2
  have tr := fun k hk => (hQ.2.2.2.1 r k hr hk).2
  have ts := fun k hk => (hQ.2.2.2.1 s k hs hk).2
  have nr := fun k hk => (hQ.2.2.2.2.1 r k hr hk).2
  have ns := fun k hk => (hQ.2.2.2.2.1 s k hs hk).2
  rcases h with rfl | ⟨k, hk, z⟩ | ⟨k, hk, z⟩
  · rcases h2 with z2 | ⟨j, hj, z2⟩ | ⟨j, hj, z2⟩
    · exact hrs z2
    · have := T_P (ts j hj) hr; omega
    · have := N_P (ns j hj) hr; omega
  · rcases h2 with z2 | ⟨j, hj, z2⟩ | ⟨j, hj, z2⟩
    · have := T_P (tr k hk) hs; omega
    · have e1 := T_T (tr k hk) (ts j hj)
      have e2 := T_T (ts j hj) (tr k hk)
      have e3 : f r k ≠ f s j := fun e => hrs (hQ.2.2.2.2.2.2.1 r k s j hr hs hk hj e).1
      omega
    · have := T_N (tr k hk) (ns j hj); omega
  · rcases h2 with z2 | ⟨j, hj, z2⟩ | ⟨j, hj, z2⟩
    · have := N_P (nr k hk) hs; omega
    · have := T_N (ts j hj) (nr k hk); omega
    · have e3 : g r k ≠ g s j := fun e => hrs (hQ.2.2.2.2.2.2.2 r k s j hr hs hk hj e).1
      omega
theorem KP_other (hQ : KQ R f g p q) {s : Nat} (hr : isP r) (hs : isP s) (hrs : r ≠ s) (hb : okP b) (e : ∀ i m, ¬ own f g r i → J i m = I i m) (h : KP I f g s b) : KP J f g s b := by
  have l := hb.2.1
  have nn : ∀ i, own f g s i → ¬ own f g r i := fun i z => own_ne hQ hs hr (fun z => hrs z.symm) z
  exact KP_keep h (fun i => e _ _ (nn _ (Or.inl rfl))) (fun k i hk => ⟨e _ _ (nn _ (Or.inr (Or.inl ⟨k, by omega, Or.inl rfl⟩))), e _ _ (nn _ (Or.inr (Or.inl ⟨k, by omega, Or.inr rfl⟩)))⟩) (fun k i hk => e _ _ (nn _ (Or.inr (Or.inr ⟨k, by omega, rfl⟩))))
/-- THIS one's own cells have changed, nothing else -/
theorem KR_here (h : KR I R f g p q a b fw fh since st) (hb : okP b) (e : ∀ i m, ¬ own f g p i → J i m = I i m) (hP : KP J f g p a') : KR J R f g p q a' b fw fh since st ∧ hiI I J := by
  obtain ⟨hQ, h1, h2, h3, h4, h5, h6, h7⟩ := h
  obtain ⟨pp, pq, hne⟩ := KQ_P hQ
  have k : ∀ i m, i < 4 ∨ 210 ≤ i → J i m = I i m := fun i m z => e i m (fun y => by have := own_r hQ pp y; omega)
  exact ⟨⟨hQ, hP, KP_other hQ pp pq hne hb e h2, (k _ _ (by omega)).trans h3, (k _ _ (by omega)).trans h4, (k _ _ (by omega)).trans h5, (k _ _ (by omega)).trans h6, fun j c hj => (k _ _ (by omega)).trans (h7 j c hj)⟩, fun i m z => k _ _ (by omega)⟩
theorem KR_since (h : KR I R f g p q a b fw fh since st) (ha : okP a) (hb : okP b) (s' : Nat) : KR (ax_up (ax_up I 0 6 (nI s')) 0 7 0) R f g p q a b fw fh s' st ∧ hiI I (ax_up (ax_up I 0 6 (nI s')) 0 7 0) := by
  obtain ⟨hQ, h1, h2, h3, h4, h5, h6, h7⟩ := h
  obtain ⟨pp, pq, -⟩ := KQ_P hQ
  have k : ∀ i m, ¬ (i = 0 ∧ m = 6) → ¬ (i = 0 ∧ m = 7) → ax_up (ax_up I 0 6 (nI s')) 0 7 0 i m = I i m := fun i m z1 z2 => by rw [ax_up_ne z2, ax_up_ne z1]
  refine ⟨⟨hQ, KP_far hQ pp ha h1 (fun i m z1 z2 => k _ _ (by omega) (by omega)), KP_far hQ pq hb h2 (fun i m z1 z2 => k _ _ (by omega) (by omega)), (k _ _ (by omega) (by omega)).trans h3, (k _ _ (by omega) (by omega)).trans h4, ?_, (k _ _ (by omega) (by omega)).trans h6, fun j c hj => (k _ _ (by omega) (by omega)).trans (h7 j c hj)⟩, fun i m z => k _ _ (by omega) (by omega)⟩
  rw [ax_up_ne (by omega), ax_up_self]
theorem k_rect (h1 : I p 4 = nI a.1.1) (h2 : I p 5 = nI a.1.2) (x y w h : Int32) : (noRect a.1.1 a.1.2 x y w h → d_P_holdsRectangle oS I R p x y w h = some false) ∧ (¬ noRect a.1.1 a.1.2 x y w h → d_P_holdsRectangle oS I R p x y w h = some true) := by
  unfold d_P_holdsRectangle
  rw [h1, h2]
  refine ⟨fun z => ?_, fun z => ?_⟩
  · by_cases z1 : w < 1
    · rw [if_pos z1]
    rw [if_neg z1]
    by_cases z2 : h < 1
    · rw [if_pos z2]
    rw [if_neg z2]
    by_cases z3 : x < 0
    · rw [if_pos z3]
    rw [if_neg z3]
    by_cases z4 : y < 0
    · rw [if_pos z4]
    rw [if_neg z4]
    by_cases z5 : nI a.1.1 - w < x
    · rw [if_pos z5]
    rw [if_neg z5]
    by_cases z6 : nI a.1.2 - h < y
    · rw [if_pos z6]
    rcases z with z | z | z | z | z | z
    · exact absurd z z1
    · exact absurd z z2
    · exact absurd z z3
    · exact absurd z z4
    · exact absurd z z5
    · exact absurd z z6
  · rw [if_neg (fun y => z (Or.inl y)), if_neg (fun y => z (Or.inr (Or.inl y))), if_neg (fun y => z (Or.inr (Or.inr (Or.inl y)))), if_neg (fun y => z (Or.inr (Or.inr (Or.inr (Or.inl y))))), if_neg (fun y => z (Or.inr (Or.inr (Or.inr (Or.inr (Or.inl y)))))), if_neg (fun y => z (Or.inr (Or.inr (Or.inr (Or.inr (Or.inr y))))))]
theorem k_over {u : Nat} {t : Tl} (ht : KT I u t) {x y w h : Nat} (b1 : t.1.1 + t.2.1.1 ≤ 400) (b2 : t.1.2 + t.2.1.2 ≤ 400) (b3 : x + w ≤ 800) (b4 : y + h ≤ 800) (S : ax_S) : (apart ((x, y), (w, h), 0, []) t → d_T_overlaps S I R u (nI x) (nI y) (nI w) (nI h) = some false) ∧ (¬ apart ((x, y), (w, h), 0, []) t → d_T_overlaps S I R u (nI x) (nI y) (nI w) (nI h) = some true) := by
  obtain ⟨⟨q1, q2, q3, q4, q5, q6⟩, -⟩ := ht
  unfold d_T_overlaps
  rw [q1, q2, q3, q4, nI_add, nI_add, nI_add, nI_add]
  by_cases z1 : t.1.1 + t.2.1.1 ≤ x
  · rw [if_pos (nI_le z1 (by omega))]
    exact ⟨fun _ => rfl, fun z => absurd (Or.inr (Or.inl z1)) z⟩
  rw [if_neg (nI_ge (by omega) (by omega))]
  by_cases z2 : x + w ≤ t.1.1
  · rw [if_pos (nI_le z2 (by omega))]
    exact ⟨fun _ => rfl, fun z => absurd (Or.inl z2) z⟩
  rw [if_neg (nI_ge (by omega) (by omega))]
  by_cases z3 : t.1.2 + t.2.1.2 ≤ y
  · rw [if_pos (nI_le z3 (by omega))]
    exact ⟨fun _ => rfl, fun z => absurd (Or.inr (Or.inr (Or.inr z3))) z⟩
  rw [if_neg (nI_ge (by omega) (by omega))]
  by_cases z4 : y + h ≤ t.1.2
  · rw [if_pos (nI_le z4 (by omega))]
    exact ⟨fun _ => rfl, fun z => absurd (Or.inr (Or.inr (Or.inl z4))) z⟩
  rw [if_neg (nI_ge (by omega) (by omega))]
  refine ⟨fun z => ?_, fun _ => rfl⟩
  have z : x + w ≤ t.1.1 ∨ t.1.1 + t.2.1.1 ≤ x ∨ y + h ≤ t.1.2 ∨ t.1.2 + t.2.1.2 ≤ y := z
  omega
theorem k_ovL (hQ : KQ R f g p q) (hr : isP r) (hP : KP I f g r a) (ha : okP a) {x y w h : Nat} (b3 : x + w ≤ 800) (b4 : y + h ≤ 800) : ∀ (m n k : Nat), k + m = a.2.1.length → m < n → ((∀ t ∈ a.2.1.drop k, apart ((x, y), (w, h), 0, []) t) → d_P_overlapsTile_3 oS n I R r (nI x) (nI y) (nI w) (nI h) (nI k) = some false) ∧ ((¬ ∀ t ∈ a.2.1.drop k, apart ((x, y), (w, h), 0, []) t) → d_P_overlapsTile_3 oS n I R r (nI x) (nI y) (nI w) (nI h) (nI k) = some true) := by
  obtain ⟨⟨p1, p2, p3, p4⟩, pt, pn⟩ := hP
  have l40 := ha.2.1.1
  have oW := ha.1
  intro m
  induction m with
  | zero =>
    intro n k hk hn'
    obtain ⟨n, rfl⟩ : ∃ n', n = n' + 1 := ⟨n - 1, by omega⟩
    have hk : k = a.2.1.length := by omega
    subst hk
    rw [d_P_overlapsTile_3, p3, if_pos (nI_le (Nat.le_refl _) (by omega)), List.drop_length]
    exact ⟨fun _ => rfl, fun z => absurd (fun t ht => by cases ht) z⟩
  | succ m ih =>
    intro n k hk hn'
    obtain ⟨n, rfl⟩ : ∃ n', n = n' + 1 := ⟨n - 1, by omega⟩
    have hlt : k < a.2.1.length := by omega
    obtain ⟨t, ht⟩ : ∃ t, a.2.1[k]? = some t := ⟨_, List.getElem?_eq_getElem hlt⟩
    have ed : a.2.1.drop k = t :: a.2.1.drop (k + 1) := by rw [List.drop_eq_getElem_cons hlt]; congr 1; rw [List.getElem?_eq_getElem hlt] at ht; exact Option.some.inj ht
    obtain ⟨-, ⟨o1, o2⟩, -⟩ := ha.2.2.1 t (List.mem_of_getElem? ht)
    obtain ⟨v1, v2⟩ := k_over (R := R) (pt k t ht) (x := x) (y := y) (w := w) (h := h) (by omega) (by omega) b3 b4 oS
    obtain ⟨i1, i2⟩ := ih n (k + 1) (by omega) (by omega)
    rw [d_P_overlapsTile_3, p3, if_neg (nI_ge hlt (by omega)), (hQ.2.2.1 r hr).1, ob, kxT hr (by omega), ob, (hQ.2.2.2.1 r k hr (by omega)).1, ob, ed]
    by_cases z : apart ((x, y), (w, h), 0, []) t
    · rw [v1 z, ob, if_pos bF, nI_1]
      refine ⟨fun y => i1 (fun s hs => y s (List.mem_cons_of_mem _ hs)), fun y => i2 (fun y2 => y (fun s hs => ?_))⟩
      rcases List.mem_cons.mp hs with rfl | hs
      · exact z
      · exact y2 s hs
    · rw [v2 z, ob, if_neg bT]
      exact ⟨fun y => absurd (y t List.mem_cons_self) z, fun _ => rfl⟩
theorem k_addTile (hK : KR I R f g p q a b fw fh since st) (ha : okP a) (hb : okP b) (hl : a.2.1.length < 40) (x y w h : Nat) : ∃ J, d_P_addTile oS I R p (nI x) (nI y) (nI w) (nI h) = some (nI a.2.1.length, J) ∧ KR J R f g p q (addT a ((x, y), (w, h), 0, [])) b fw fh since st ∧ hiI I J := by
  have hK' := hK
  obtain ⟨hQ, ⟨⟨p1, p2, p3, p4⟩, pt, pn⟩, -⟩ := hK
  obtain ⟨pp, pq, hne⟩ := KQ_P hQ
  obtain ⟨hu, tu⟩ := hQ.2.2.2.1 p _ pp hl
  obtain ⟨u, eu⟩ : ∃ u, u = f p a.2.1.length := ⟨_, rfl⟩
  rw [← eu] at hu tu
  have hup := T_P tu pp
  unfold d_P_addTile d_T_startAnew
  rw [(hQ.2.2.1 p pp).1, ob, p3, klT pp, if_pos (nI_lt hl (by omega)), ob, kxT pp hl, ob, hu, ob, ob, ob, ob, ob, ob, ob, ob]
  obtain ⟨J1, hJ1⟩ : ∃ J1, J1 = ax_up (ax_up (ax_up (ax_up (ax_up (ax_up I u 2 (nI x)) u 3 (nI y)) u 4 (nI w)) u 5 (nI h)) u 6 0) u 1 0 := ⟨_, rfl⟩
  have g1 : ∀ i m, i ≠ u → J1 i m = I i m := fun i m z => by rw [hJ1, ax_up_ne (by omega), ax_up_ne (by omega), ax_up_ne (by omega), ax_up_ne (by omega), ax_up_ne (by omega), ax_up_ne (by omega)]
  rw [← hJ1, ob, g1 p 2 (by omega), p3, nI_1, ax_up_self, nI_pred]
  have k1 : ∀ i m, i ≠ u → ¬ (i = p ∧ m = 2) → ax_up J1 p 2 (nI (a.2.1.length + 1)) i m = I i m := fun i m z1 z2 => by rw [ax_up_ne z2]; exact g1 i m z1
  have k2 : ∀ m, ax_up J1 p 2 (nI (a.2.1.length + 1)) u m = J1 u m := fun m => ax_up_ne (by omega)
  have hPP : KP (ax_up J1 p 2 (nI (a.2.1.length + 1))) f g p (addT a ((x, y), (w, h), 0, [])) := by
    refine ⟨⟨(k1 _ _ (by omega) (by omega)).trans p1, (k1 _ _ (by omega) (by omega)).trans p2, ?_, (k1 _ _ (by omega) (by omega)).trans p4⟩, fun k t hk => ?_, fun k n hk => ?_⟩
    · rw [ax_up_self]; unfold addT; rw [List.length_append]; rfl
    · have hk' : (a.2.1 ++ [((x, y), (w, h), 0, [])])[k]? = some t := hk
      by_cases hlt : k < a.2.1.length
      · rw [List.getElem?_append_left hlt] at hk'
        have tk := (hQ.2.2.2.1 p k pp (by omega)).2
        have e1 := T_T tk tu
        have e2 := T_P tk pp
        have e3 : f p k ≠ u := fun e => by have := (hQ.2.2.2.2.2.2.1 p k p a.2.1.length pp pp (by omega) hl (e.trans eu)).2; omega
        exact KT_keep (pt k t hk') (fun i => k1 _ _ (by omega) (by omega)) (fun i => k1 _ _ (by omega) (by omega))
      · rw [List.getElem?_append_right (by omega)] at hk'
        have hz : k - a.2.1.length < 1 := (List.getElem?_eq_some_iff.mp hk').1
        have hk2 : k = a.2.1.length := by omega
        subst hk2
        simp at hk'
        subst hk'
        rw [← eu]
        refine ⟨⟨?_, ?_, ?_, ?_, ?_, ?_⟩, fun j c hj => by cases hj⟩ <;> rw [k2, hJ1] <;> simp [ax_up] <;> rfl
    · have hlt : k < a.2.2.length := (List.getElem?_eq_some_iff.mp hk).1
      have l2 := ha.2.1.2
      have nk := (hQ.2.2.2.2.1 p k pp (by omega)).2
      have e1 := T_N tu nk
      have e2 := N_P nk pp
      exact KN_keep (pn k n hk) (fun i => k1 _ _ (by omega) (by omega))
  obtain ⟨r1, r2⟩ := KR_here (J := ax_up J1 p 2 (nI (a.2.1.length + 1))) (a' := addT a ((x, y), (w, h), 0, [])) hK' hb (fun i m z => k1 i m (fun e => z (Or.inr (Or.inl ⟨_, hl, Or.inl (e.trans eu)⟩))) (fun e => z (Or.inl e.1))) hPP
  exact ⟨_, rfl, r1, r2⟩
theorem K_tile_bad (hK : KR I R f g p q a b fw fh since st) {x y w h : Int32} (z : 64 < w ∨ 64 < h ∨ noRect a.1.1 a.1.2 x y w h) : d_K_tile oS I R 0 x y w h = some (.inr "java/lang/IllegalArgumentException", I) := by
  unfold d_K_tile d_K_tile_28
  by_cases z1 : 64 < w
  · rw [if_pos z1]
  rw [if_neg z1]
  by_cases z2 : 64 < h
  · rw [if_pos z2]
  rw [if_neg z2, hK.1.2.1.1, ob, (k_rect hK.2.1.1.1 hK.2.1.1.2.1 x y w h).1 (by rcases z with z | z | z; exact absurd z z1; exact absurd z z2; exact z), ob, if_pos bF]
theorem K_tile (hK : KR I R f g p q a b fw fh since st) (ha : okP a) (hb : okP b) {x y w h : Nat} (w1 : 1 ≤ w) (w2 : w ≤ 64) (h1 : 1 ≤ h) (h2 : h ≤ 64) (hx : x + w ≤ a.1.1) (hy : y + h ≤ a.1.2) : ((¬ ∀ t ∈ a.2.1, apart ((x, y), (w, h), 0, []) t) → d_K_tile oS I R 0 (nI x) (nI y) (nI w) (nI h) = some (.inr "java/lang/IllegalStateException", I)) ∧ ((∀ t ∈ a.2.1, apart ((x, y), (w, h), 0, []) t) → (a.2.1.length = 40 → d_K_tile oS I R 0 (nI x) (nI y) (nI w) (nI h) = some (.inr "java/lang/UnsupportedOperationException", I)) ∧ (a.2.1.length < 40 → ∃ J, d_K_tile oS I R 0 (nI x) (nI y) (nI w) (nI h) = some (.inl (nI a.2.1.length), J) ∧ KR J R f g p q (addT a ((x, y), (w, h), 0, [])) b fw fh since st ∧ hiI I J)) := by
  have oW := ha.1
  have hQ := hK.1
  obtain ⟨pp, pq, hne⟩ := KQ_P hQ
  obtain ⟨v1, v2⟩ := k_ovL hQ pp hK.2.1 ha (x := x) (y := y) (w := w) (h := h) (by omega) (by omega) a.2.1.length 5000 0 (by omega) (by have := ha.2.1.1; omega)
  rw [List.drop_zero] at v1 v2
  have e : ∀ B, d_P_overlapsTile oS I R p (nI x) (nI y) (nI w) (nI h) = some B → d_K_tile oS I R 0 (nI x) (nI y) (nI w) (nI h) = if ax_b B = 0 then (if nI a.2.1.length < 40 then (d_P_addTile oS (ax_up I 0 7 0) R p (nI x) (nI y) (nI w) (nI h)).bind fun o30 => some (.inl o30.1, o30.2) else some (.inr "java/lang/UnsupportedOperationException", I)) else some (.inr "java/lang/IllegalStateException", I) := by
    intro B hB
    unfold d_K_tile
    rw [if_neg (show ¬ (64 : Int32) < nI w from nI_nlt (a := 64) w2 (by decide)), if_neg (show ¬ (64 : Int32) < nI h from nI_nlt (a := 64) h2 (by decide)), hQ.2.1.1, ob, (k_rect hK.2.1.1.1 hK.2.1.1.2.1 _ _ _ _).2 (rect_no oW.2.1 oW.2.2.2 w1 h1 hx hy), ob, if_neg bT, ob, hB, ob, ob, hK.2.1.1.2.2.1, ob, ob]
  refine ⟨fun z => ?_, fun z => ⟨fun l => ?_, fun l => ?_⟩⟩
  · rw [e true (v2 z), if_neg bT]
  · rw [e false (v1 z), if_pos bF, l, if_neg (by decide)]
  · obtain ⟨J, e1, e2, e3⟩ := k_addTile (KR_own hK ha hb (i := 0) (k := 7) (v := 0) (Or.inl ⟨rfl, rfl⟩)) ha hb l x y w h
    rw [e false (v1 z), if_pos bF, if_pos (show nI a.2.1.length < (40 : Int32) from nI_lt (b := 40) l (by decide)), e1, ob]
    exact ⟨J, rfl, e2, fun i m z => (e3 i m z).trans (ax_up_ne (by omega))⟩
theorem k_hasTile (h3 : I p 2 = nI a.2.1.length) (x : Int32) : (noIx a.2.1.length x → d_P_hasTile oS I R p x = some false) ∧ (¬ noIx a.2.1.length x → d_P_hasTile oS I R p x = some true) := by
  unfold d_P_hasTile
  rw [h3]
  refine ⟨fun z => ?_, fun z => ?_⟩
  · by_cases z1 : x < 0
    · rw [if_pos z1]
    · rw [if_neg z1, if_pos (z.resolve_left z1)]
  · rw [if_neg (fun y => z (Or.inl y)), if_neg (fun y => z (Or.inr y))]
theorem k_hasSample (h1 : I p 4 = nI a.1.1) (h2 : I p 5 = nI a.1.2) (x y : Int32) : (noIx a.1.1 x ∨ noIx a.1.2 y → d_P_hasSample oS I R p x y = some false) ∧ (¬ (noIx a.1.1 x ∨ noIx a.1.2 y) → d_P_hasSample oS I R p x y = some true) := by
  unfold d_P_hasSample
  rw [h1, h2]
  refine ⟨fun z => ?_, fun z => ?_⟩
  · by_cases z1 : x < 0
    · rw [if_pos z1]
    rw [if_neg z1]
    by_cases z2 : y < 0
    · rw [if_pos z2]
    rw [if_neg z2]
    by_cases z3 : nI a.1.1 ≤ x
    · rw [if_pos z3]
    rw [if_neg z3]
    by_cases z4 : nI a.1.2 ≤ y
    · rw [if_pos z4]
    rcases z with (z | z) | (z | z)
    · exact absurd z z1
    · exact absurd z z3
    · exact absurd z z2
    · exact absurd z z4
  · rw [if_neg (fun y => z (Or.inl (Or.inl y))), if_neg (fun y => z (Or.inr (Or.inl y))), if_neg (fun y => z (Or.inl (Or.inr y))), if_neg (fun y => z (Or.inr (Or.inr y)))]
theorem k_byteF {y : Int32} (z : y < 0 ∨ 255 < y) : d_K_isByte oS I R y = some false := by
  unfold d_K_isByte
  by_cases z1 : y < 0
  · rw [if_pos z1]
  · rw [if_neg z1, if_pos (z.resolve_left z1)]
theorem k_byteT {c : Nat} (hc : c < 256) : d_K_isByte oS I R (nI c) = some true := by
  unfold d_K_isByte
  rw [if_neg (nI_pos (by omega)), if_neg (show ¬ (255 : Int32) < nI c from nI_nlt (a := 255) (by omega) (by decide))]
theorem ix_in {n k : Nat} (hn : n < 2 ^ 31) (h : k < n) : ¬ noIx n (nI k) := by
  rintro (z | z)
  · exact (idx_no hn h).1 z
  · exact (idx_no hn h).2 z
theorem K_byteOf (hK : KR I R f g p q a b fw fh since st) (ha : okP a) (hb : okP b) (x y : Int32) : (noIx a.2.1.length x → d_K_byteOf oS I R 0 x y = some (.inr "java/lang/IndexOutOfBoundsException", I)) ∧ (∀ k t, a.2.1[k]? = some t → x = nI k → (y < 0 ∨ 255 < y → d_K_byteOf oS I R 0 x y = some (.inr "java/lang/IllegalArgumentException", I)) ∧ (∀ c, c < 256 → y = nI c → (t.2.2.2.length = 12 → d_K_byteOf oS I R 0 x y = some (.inr "java/lang/UnsupportedOperationException", I)) ∧ (t.2.2.2.length < 12 → ∃ J, d_K_byteOf oS I R 0 x y = some (.inl (nI (t.2.2.2.length + 1)), J) ∧ KR J R f g p q (setT a k (byt t c)) b fw fh since st ∧ hiI I J))) := by
  have l := ha.2.1
  have hK' := hK
  obtain ⟨hQ, ⟨⟨p1, p2, p3, p4⟩, pt, pn⟩, -⟩ := hK
  obtain ⟨pp, pq, hne⟩ := KQ_P hQ
  obtain ⟨s1, s2⟩ := k_hasTile (R := R) p3 x
  unfold d_K_byteOf
  rw [hQ.2.1.1, ob]
  refine ⟨fun z => ?_, fun k t hk hx => ?_⟩
  · rw [s1 z, ob, if_pos bF]
  have hlt : k < a.2.1.length := (List.getElem?_eq_some_iff.mp hk).1
  rw [s2 (by rw [hx]; exact ix_in (by omega) hlt), ob, if_neg bT]
  refine ⟨fun z => ?_, fun c hc hy => ?_⟩
  · rw [k_byteF z, ob, if_pos bF]
  obtain ⟨hu, tu⟩ := hQ.2.2.2.1 p k pp (by omega)
  obtain ⟨u, eu⟩ : ∃ u, u = f p k := ⟨_, rfl⟩
  have ht := pt k t hk
  rw [← eu] at hu tu ht
  have hup := T_P tu pp
  obtain ⟨⟨q1, q2, q3, q4, q5, q6⟩, q7⟩ := ht
  rw [hy, k_byteT hc, ob, if_neg bT, ob, (hQ.2.2.1 p pp).1, ob, hx, kxT pp (by omega), ob, hu, ob, q6]
  refine ⟨fun e => ?_, fun e => ?_⟩
  · rw [e, if_neg (by decide)]
  unfold d_T_addByte
  rw [if_pos (show nI t.2.2.2.length < (12 : Int32) from nI_lt (b := 12) e (by decide)), hQ.2.2.2.2.2.1 u tu, ob, klB tu, q6, if_neg (nI_ge e (by decide)), ob, kxB tu e, ob, ob, ax_up_ne (show ¬ (u = u + 1 ∧ 1 = t.2.2.2.length) by omega), q6, nI_1, ob, ax_up_self, ob]
  have k1 : ∀ i m, i ≠ u + 1 → ¬ (i = u ∧ m = 1) → ax_up (ax_up I (u + 1) t.2.2.2.length (nI c)) u 1 (nI (t.2.2.2.length + 1)) i m = I i m := fun i m z1 z2 => by rw [ax_up_ne z2, ax_up_ne (by omega)]
  have hPP : KP (ax_up (ax_up I (u + 1) t.2.2.2.length (nI c)) u 1 (nI (t.2.2.2.length + 1))) f g p (setT a k (byt t c)) := by
    refine ⟨⟨(k1 _ _ (by omega) (by omega)).trans p1, (k1 _ _ (by omega) (by omega)).trans p2, ?_, (k1 _ _ (by omega) (by omega)).trans p4⟩, fun k' t' hk' => ?_, fun k' n hk' => ?_⟩
    · refine ((k1 _ _ (by omega) (by omega)).trans p3).trans ?_
      unfold setT
      rw [List.length_set]
    · have hk2 : (a.2.1.set k (byt t c))[k']? = some t' := hk'
      by_cases ek : k' = k
      · subst ek
        rw [List.getElem?_set_self hlt] at hk2
        have et : t' = byt t c := (Option.some.inj hk2).symm
        subst et
        rw [← eu]
        refine ⟨⟨?_, ?_, ?_, ?_, ?_, ?_⟩, fun j d hj => ?_⟩
        · rw [k1 _ _ (by omega) (by omega)]; exact q1
        · rw [k1 _ _ (by omega) (by omega)]; exact q2
        · rw [k1 _ _ (by omega) (by omega)]; exact q3
        · rw [k1 _ _ (by omega) (by omega)]; exact q4
        · rw [k1 _ _ (by omega) (by omega)]; exact q5
        · rw [ax_up_self]; unfold byt; rw [List.length_append]; rfl
        · have hj' : (t.2.2.2 ++ [c])[j]? = some d := hj
          rw [ax_up_ne (by omega)]
          by_cases ej : j < t.2.2.2.length
          · rw [List.getElem?_append_left ej] at hj'
            rw [ax_up_ne (by omega)]
            exact q7 j d hj'
          · rw [List.getElem?_append_right (by omega)] at hj'
            have hz : j - t.2.2.2.length < 1 := (List.getElem?_eq_some_iff.mp hj').1
            have hj2 : j = t.2.2.2.length := by omega
            subst hj2
            simp at hj'
            subst hj'
            rw [ax_up_self]
      · rw [List.getElem?_set_ne (fun z => ek z.symm)] at hk2
        have hlt' : k' < a.2.1.length := (List.getElem?_eq_some_iff.mp hk2).1
        have tk := (hQ.2.2.2.1 p k' pp (by omega)).2
        have e1 := T_T tk tu
        have e2 := T_T tu tk
        have e3 : f p k' ≠ u := fun e => by have := (hQ.2.2.2.2.2.2.1 p k' p k pp pp (by omega) (by omega) (e.trans eu)).2; omega
        exact KT_keep (pt k' t' hk2) (fun i => k1 _ _ (by omega) (by omega)) (fun i => k1 _ _ (by omega) (by omega))
    · have hlt' : k' < a.2.2.length := (List.getElem?_eq_some_iff.mp hk').1
      have nk := (hQ.2.2.2.2.1 p k' pp (by omega)).2
      have e1 := T_N tu nk
      exact KN_keep (pn k' n hk') (fun i => k1 _ _ (by omega) (by omega))
  obtain ⟨r1, r2⟩ := KR_here (J := ax_up (ax_up I (u + 1) t.2.2.2.length (nI c)) u 1 (nI (t.2.2.2.length + 1))) (a' := setT a k (byt t c)) hK' hb (fun i m z => k1 i m (fun e => z (Or.inr (Or.inl ⟨k, by omega, Or.inr (by rw [← eu]; exact e)⟩))) (fun e => z (Or.inr (Or.inl ⟨k, by omega, Or.inl (by rw [← eu]; exact e.1)⟩)))) hPP
  exact ⟨_, rfl, r1, r2⟩
theorem K_note (hK : KR I R f g p q a b fw fh since st) (ha : okP a) (hb : okP b) (x y z : Int32) : (noIx a.1.1 x ∨ noIx a.1.2 y → d_K_note oS I R 0 x y z = some (.inr "java/lang/IndexOutOfBoundsException", I)) ∧ (¬ (noIx a.1.1 x ∨ noIx a.1.2 y) → (z < 0 ∨ 255 < z → d_K_note oS I R 0 x y z = some (.inr "java/lang/IllegalArgumentException", I)) ∧ (∀ c, c < 256 → z = nI c → (a.2.2.length = 20 → d_K_note oS I R 0 x y z = some (.inr "java/lang/UnsupportedOperationException", I)) ∧ (a.2.2.length < 20 → ∀ x' y', x = nI x' → y = nI y' → ∃ J, d_K_note oS I R 0 x y z = some (.inl (nI (a.2.2.length + 1)), J) ∧ KR J R f g p q (addN a (x', y', c)) b fw fh since st ∧ hiI I J))) := by
  have l := ha.2.1
  have hK' := hK
  obtain ⟨hQ, ⟨⟨p1, p2, p3, p4⟩, pt, pn⟩, -⟩ := hK
  obtain ⟨pp, pq, hne⟩ := KQ_P hQ
  obtain ⟨s1, s2⟩ := k_hasSample (R := R) p1 p2 x y
  unfold d_K_note
  rw [hQ.2.1.1, ob]
  refine ⟨fun e => ?_, fun nx => ?_⟩
  · rw [s1 e, ob, if_pos bF]
  rw [s2 nx, ob, if_neg bT]
  refine ⟨fun e => ?_, fun c hc hz => ?_⟩
  · rw [k_byteF e, ob, if_pos bF]
  rw [hz, k_byteT hc, ob, if_neg bT, ob, p4]
  refine ⟨fun e => ?_, fun e x' y' hx hy => ?_⟩
  · rw [e, if_neg (by decide)]
  obtain ⟨hu, nu⟩ := hQ.2.2.2.2.1 p _ pp e
  obtain ⟨u, eu⟩ : ∃ u, u = g p a.2.2.length := ⟨_, rfl⟩
  rw [← eu] at hu nu
  have hup := N_P nu pp
  unfold d_P_addNote d_N_startAnew
  rw [if_pos (show nI a.2.2.length < (20 : Int32) from nI_lt (b := 20) e (by decide)), ob, (hQ.2.2.1 p pp).2, ob, klN pp, p4, if_neg (nI_ge e (by decide)), ob, kxN pp e, ob, hu, ob, ob, ob, ob, ob]
  obtain ⟨J1, hJ1⟩ : ∃ J1, J1 = ax_up (ax_up (ax_up I u 0 x) u 1 y) u 2 (nI c) := ⟨_, rfl⟩
  have g1 : ∀ i m, i ≠ u → J1 i m = I i m := fun i m z => by rw [hJ1, ax_up_ne (by omega), ax_up_ne (by omega), ax_up_ne (by omega)]
  rw [← hJ1, g1 p 3 (by omega), p4, nI_1, ob, ax_up_self, ob]
  have k1 : ∀ i m, i ≠ u → ¬ (i = p ∧ m = 3) → ax_up J1 p 3 (nI (a.2.2.length + 1)) i m = I i m := fun i m z1 z2 => by rw [ax_up_ne z2]; exact g1 i m z1
  have k2 : ∀ m, ax_up J1 p 3 (nI (a.2.2.length + 1)) u m = J1 u m := fun m => ax_up_ne (by omega)
  have hPP : KP (ax_up J1 p 3 (nI (a.2.2.length + 1))) f g p (addN a (x', y', c)) := by
    refine ⟨⟨(k1 _ _ (by omega) (by omega)).trans p1, (k1 _ _ (by omega) (by omega)).trans p2, (k1 _ _ (by omega) (by omega)).trans p3, ?_⟩, fun k t hk => ?_, fun k n hk => ?_⟩
    · rw [ax_up_self]; unfold addN; rw [List.length_append]; rfl
    · have hlt : k < a.2.1.length := (List.getElem?_eq_some_iff.mp hk).1
      have tk := (hQ.2.2.2.1 p k pp (by omega)).2
      have e1 := T_N tk nu
      have e2 := T_P tk pp
      exact KT_keep (pt k t hk) (fun i => k1 _ _ (by omega) (by omega)) (fun i => k1 _ _ (by omega) (by omega))
    · have hk' : (a.2.2 ++ [(x', y', c)])[k]? = some n := hk
      by_cases hlt : k < a.2.2.length
      · rw [List.getElem?_append_left hlt] at hk'
        have nk := (hQ.2.2.2.2.1 p k pp (by omega)).2
        have e2 := N_P nk pp
        have e3 : g p k ≠ u := fun e' => by have := (hQ.2.2.2.2.2.2.2 p k p a.2.2.length pp pp (by omega) e (e'.trans eu)).2; omega
        exact KN_keep (pn k n hk') (fun i => k1 _ _ (by omega) (by omega))
      · rw [List.getElem?_append_right (by omega)] at hk'
        have hz : k - a.2.2.length < 1 := (List.getElem?_eq_some_iff.mp hk').1
        have hk2 : k = a.2.2.length := by omega
        subst hk2
        simp at hk'
        subst hk'
        rw [← eu]
        refine ⟨?_, ?_, ?_⟩
        · rw [k2, hJ1, ax_up_ne (by omega), ax_up_ne (by omega), ax_up_self]; exact hx
        · rw [k2, hJ1, ax_up_ne (by omega), ax_up_self]; exact hy
        · rw [k2, hJ1, ax_up_self]
  obtain ⟨r1, r2⟩ := KR_here (J := ax_up J1 p 3 (nI (a.2.2.length + 1))) (a' := addN a (x', y', c)) hK' hb (fun i m z => k1 i m (fun y => z (Or.inr (Or.inr ⟨_, e, y.trans eu⟩))) (fun y => z (Or.inl y.1))) hPP
  exact ⟨_, rfl, r1, r2⟩
end KM
