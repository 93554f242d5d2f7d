/-! the class: join -/
theorem moT_0 (l : List Tl) : l.map (moT 0 0) = l := by
  conv => rhs; rw [← List.map_id l]
  exact List.map_congr_left (fun t _ => rfl)
theorem moN_0 (l : List Nt) : l.map (moN 0 0) = l := by
  conv => rhs; rw [← List.map_id l]
  exact List.map_congr_left (fun t _ => rfl)
section KJ
variable {I J : ax_I} {R : ax_R} {f g : Nat → Nat → Nat} {p q r fw fh since : Nat} {a a' b : Pc} {st : List Nat}
theorem k_takeT (pp : isP p) (pq : isP q) (hne : p ≠ q) {La Lb : List Tl} (hl : La.length + Lb.length ≤ 40) (hb : J q 2 = nI Lb.length) (tb : ∀ j t, Lb[j]? = some t → KT J (f q j) t) : ∀ (m n k : Nat) (J' : ax_I) (R' : ax_R) (f' : Nat → Nat → Nat), k + m = Lb.length → m < n → KQ R' f' g p q → (∀ i m, ¬ (i = p ∧ m = 2) → J' i m = J i m) → J' p 2 = nI (La.length + k) → (∀ j, k ≤ j → f' q j = f q j) → (∀ j t, (La ++ Lb.take k)[j]? = some t → KT J (f' p j) t) → (∀ i m, 210 ≤ i → R' i m = R i m) → ∃ J'' R'' f'', d_P_takeOver_2 oS n J' R' p q (nI k) = d_P_takeOver_72 oS 5000 J'' R'' p q 0 ∧ KQ R'' f'' g p q ∧ (∀ i m, ¬ (i = p ∧ m = 2) → J'' i m = J i m) ∧ J'' p 2 = nI (La.length + Lb.length) ∧ (∀ j t, (La ++ Lb)[j]? = some t → KT J (f'' p j) t) ∧ ∀ i m, 210 ≤ i → R'' i m = R i m := by
  have rp := P_r pp
  have rq := P_r pq
  intro m
  induction m with
  | zero =>
    intro n k J' R' f' hk hn' hQ hJ hN hf hA hH
    obtain ⟨n, rfl⟩ : ∃ n', n = n' + 1 := ⟨n - 1, by omega⟩
    have hk : k = Lb.length := by omega
    subst hk
    rw [List.take_length] at hA
    rw [d_P_takeOver_2, hJ q 2 (by omega), hb, if_pos (nI_le (Nat.le_refl _) (by omega))]
    exact ⟨J', R', f', rfl, hQ, hJ, hN, hA, hH⟩
  | succ m ih =>
    intro n k J' R' f' hk hn' hQ hJ hN hf hA hH
    obtain ⟨n, rfl⟩ : ∃ n', n = n' + 1 := ⟨n - 1, by omega⟩
    have hlt : k < Lb.length := by omega
    obtain ⟨t, ht⟩ : ∃ t, Lb[k]? = some t := ⟨_, List.getElem?_eq_getElem hlt⟩
    have e1 : ax_up R' (p + 1) (La.length + k) (some (f' q k)) q 0 = some (q + 1) := by rw [ax_up_ne (by rcases pp with rfl | rfl <;> rcases pq with rfl | rfl <;> omega)]; exact (hQ.2.2.1 q pq).1
    rw [d_P_takeOver_2, hJ q 2 (by omega), hb, if_neg (nI_ge hlt (by omega)), (hQ.2.2.1 p pp).1, ob, hN, klT pp, if_neg (nI_ge (by omega) (by omega)), ob, kxT pp (show La.length + k < 40 by omega), ob, (hQ.2.2.2.1 p (La.length + k) pp (by omega)).1, ob, ob, (hQ.2.2.1 q pq).1, ob, kxT pq (show k < 40 by omega), ob, (hQ.2.2.2.1 q k pq (by omega)).1, ob, kxT pp (show La.length + k < 40 by omega), ob, ob, e1, ob, kxT pq (show k < 40 by omega), ob, ob, ob, nI_1, nI_1]
    refine ih n (k + 1) _ _ (swp f' p (La.length + k) q k) (by omega) (by omega) (KQ_swpT hQ pp pq (by omega) (by omega)) (fun i m z => (ax_up_ne z).trans (hJ i m z)) (ax_up_self _ _ _ _) (fun j hj => ?_) (fun j t' hj => ?_) (fun i m z => ?_)
    · rw [swp_3 (by omega) (by omega)]
      exact hf j (by omega)
    · rw [take_succ_f ht, ← List.append_assoc] at hj
      have el : (La ++ Lb.take k).length = La.length + k := by rw [List.length_append, List.length_take]; omega
      by_cases hjl : j < La.length + k
      · rw [List.getElem?_append_left (by omega)] at hj
        rw [swp_3 (by omega) (by omega)]
        exact hA j t' hj
      · rw [List.getElem?_append_right (by omega), el] at hj
        have hzz : j - (La.length + k) < 1 := by
          have := (List.getElem?_eq_some_iff.mp hj).1
          simpa using this
        have hj2 : j = La.length + k := by omega
        subst hj2
        simp at hj
        subst hj
        rw [swp_2, hf k (Nat.le_refl _)]
        exact tb k t ht
    · rw [ax_up_ne (by omega), ax_up_ne (by omega)]
      exact hH i m z
theorem k_takeN (pp : isP p) (pq : isP q) (hne : p ≠ q) {La Lb : List Nt} (hl : La.length + Lb.length ≤ 20) (hb : J q 3 = nI Lb.length) (tb : ∀ j t, Lb[j]? = some t → KN J (g q j) t) : ∀ (m n k : Nat) (J' : ax_I) (R' : ax_R) (g' : Nat → Nat → Nat), k + m = Lb.length → m < n → KQ R' f g' p q → (∀ i m, ¬ (i = p ∧ m = 3) → J' i m = J i m) → J' p 3 = nI (La.length + k) → (∀ j, k ≤ j → g' q j = g q j) → (∀ j t, (La ++ Lb.take k)[j]? = some t → KN J (g' p j) t) → (∀ i m, 210 ≤ i → R' i m = R i m) → ∃ J'' R'' g'', d_P_takeOver_72 oS n J' R' p q (nI k) = some (ax_up (ax_up J'' q 2 0) q 3 0, R'') ∧ KQ R'' f g'' p q ∧ (∀ i m, ¬ (i = p ∧ m = 3) → J'' i m = J i m) ∧ J'' p 3 = nI (La.length + Lb.length) ∧ (∀ j t, (La ++ Lb)[j]? = some t → KN J (g'' p j) t) ∧ ∀ i m, 210 ≤ i → R'' i m = R i m := by
  have rp := P_r pp
  have rq := P_r pq
  intro m
  induction m with
  | zero =>
    intro n k J' R' g' hk hn' hQ hJ hN hf hA hH
    obtain ⟨n, rfl⟩ : ∃ n', n = n' + 1 := ⟨n - 1, by omega⟩
    have hk : k = Lb.length := by omega
    subst hk
    rw [List.take_length] at hA
    rw [d_P_takeOver_72, hJ q 3 (by omega), hb, if_pos (nI_le (Nat.le_refl _) (by omega))]
    unfold d_P_takeOver_140
    rw [ob, ob]
    exact ⟨J', R', g', rfl, hQ, hJ, hN, hA, hH⟩
  | succ m ih =>
    intro n k J' R' g' hk hn' hQ hJ hN hf hA hH
    obtain ⟨n, rfl⟩ : ∃ n', n = n' + 1 := ⟨n - 1, by omega⟩
    have hlt : k < Lb.length := by omega
    obtain ⟨t, ht⟩ : ∃ t, Lb[k]? = some t := ⟨_, List.getElem?_eq_getElem hlt⟩
    have e1 : ax_up R' (p + 82) (La.length + k) (some (g' q k)) q 1 = some (q + 82) := by rw [ax_up_ne (by rcases pp with rfl | rfl <;> rcases pq with rfl | rfl <;> omega)]; exact (hQ.2.2.1 q pq).2
    rw [d_P_takeOver_72, hJ q 3 (by omega), hb, if_neg (nI_ge hlt (by omega)), (hQ.2.2.1 p pp).2, ob, hN, klN pp, if_neg (nI_ge (by omega) (by omega)), ob, kxN pp (show La.length + k < 20 by omega), ob, (hQ.2.2.2.2.1 p (La.length + k) pp (by omega)).1, ob, ob, (hQ.2.2.1 q pq).2, ob, kxN pq (show k < 20 by omega), ob, (hQ.2.2.2.2.1 q k pq (by omega)).1, ob, kxN pp (show La.length + k < 20 by omega), ob, ob, e1, ob, kxN pq (show k < 20 by omega), ob, ob, ob, nI_1, nI_1]
    refine ih n (k + 1) _ _ (swp g' p (La.length + k) q k) (by omega) (by omega) (KQ_swpN hQ pp pq (by omega) (by omega)) (fun i m z => (ax_up_ne z).trans (hJ i m z)) (ax_up_self _ _ _ _) (fun j hj => ?_) (fun j t' hj => ?_) (fun i m z => ?_)
    · rw [swp_3 (by omega) (by omega)]
      exact hf j (by omega)
    · rw [take_succ_f ht, ← List.append_assoc] at hj
      have el : (La ++ Lb.take k).length = La.length + k := by rw [List.length_append, List.length_take]; omega
      by_cases hjl : j < La.length + k
      · rw [List.getElem?_append_left (by omega)] at hj
        rw [swp_3 (by omega) (by omega)]
        exact hA j t' hj
      · rw [List.getElem?_append_right (by omega), el] at hj
        have hzz : j - (La.length + k) < 1 := by
          have := (List.getElem?_eq_some_iff.mp hj).1
          simpa using this
        have hj2 : j = La.length + k := by omega
        subst hj2
        simp at hj
        subst hj
        rw [swp_2, hf k (Nat.le_refl _)]
        exact tb k t ht
    · rw [ax_up_ne (by omega), ax_up_ne (by omega)]
      exact hH i m z
theorem kp_along (hQ : KQ R f g p q) (hr : isP r) (hP : KP I f g r a) (ha : okP a) (ac : Bool) (d : Nat) : ∃ J, d_P_moveAlong oS I R r (ax_b ac) (nI d) = some J ∧ KP J f g r (a.1, a.2.1.map (moT (if ac then d else 0) (if ac then 0 else d)), a.2.2.map (moN (if ac then d else 0) (if ac then 0 else d))) ∧ (∀ i, J r i = I r i) ∧ ∀ i m, ¬ own f g r i → J i m = I i m := by
  have h0 : ∀ v, nI v + 0 = nI (v + 0) := fun v => nI_add v 0
  unfold d_P_moveAlong d_P_moveAlong_10 d_P_moveAlong_19
  cases ac with
  | false =>
    obtain ⟨J, e, hT, hN, hr2, ho⟩ := k_moveBy hQ hr hP ha 0 (nI d) (fun v => v + 0) (fun v => v + d) (fun t _ => ⟨h0 _, nI_add _ _⟩) (fun t _ => ⟨h0 _, nI_add _ _⟩)
    rw [if_pos bF, if_pos bF, e, ob]
    exact ⟨J, rfl, KP_map hP ((hr2 _).trans hP.1.1) ((hr2 _).trans hP.1.2.1) (hr2 _) (hr2 _) hT hN, hr2, ho⟩
  | true =>
    obtain ⟨J, e, hT, hN, hr2, ho⟩ := k_moveBy hQ hr hP ha (nI d) 0 (fun v => v + d) (fun v => v + 0) (fun t _ => ⟨nI_add _ _, h0 _⟩) (fun t _ => ⟨nI_add _ _, h0 _⟩)
    rw [if_neg bT, if_neg bT, e, ob]
    exact ⟨J, rfl, KP_map hP ((hr2 _).trans hP.1.1) ((hr2 _).trans hP.1.2.1) (hr2 _) (hr2 _) hT hN, hr2, ho⟩
theorem kp_grow (h4 : J r 4 = nI a.1.1) (h5 : J r 5 = nI a.1.2) (ac : Bool) (d : Nat) : d_P_growAlong oS J R r (ax_b ac) (nI d) = some (ax_up (ax_up J r 4 (nI (if ac then a.1.1 + d else a.1.1))) r 5 (nI (if ac then a.1.2 else a.1.2 + d))) := by
  have h0 : ∀ v, nI v + 0 = nI v := fun v => nI_add v 0
  unfold d_P_growAlong d_P_growAlong_14 d_P_growAlong_32
  cases ac with
  | false =>
    rw [if_pos bF, h4, h0, ob, if_pos bF, ax_up_ne (show ¬ (r = r ∧ 5 = 4) by omega), h5, nI_add, ob]
    rfl
  | true =>
    rw [if_neg bT, h4, nI_add, ob, if_neg bT, ax_up_ne (show ¬ (r = r ∧ 5 = 4) by omega), h5, h0, ob]
    rfl
theorem kp_size (h4 : I r 4 = nI a.1.1) (h5 : I r 5 = nI a.1.2) (ac : Bool) : d_P_sizeAlong oS I R r (ax_b ac) = some (nI (if ac then a.1.1 else a.1.2)) := by
  unfold d_P_sizeAlong
  rw [h4, h5]
  cases ac with
  | false => rw [if_pos bF]; rfl
  | true => rw [if_neg bT]; rfl
theorem k_uprS {s : Nat} (hs : s < 4) (S : ax_S) : d_K_isUpright S I R (nI s) = some (decide (s % 2 = 0)) := by
  have hs' : s = 0 ∨ s = 1 ∨ s = 2 ∨ s = 3 := by omega
  rcases hs' with rfl | rfl | rfl | rfl <;> rfl
/-- both pictures are moved, THIS one grows -/
theorem kp_place (hQ : KQ R f g p q) (hP : KP I f g p a) (hP2 : KP I f g q b) (ha : okP a) (hb : okP b) {s : Nat} (hs : s < 4) : ∃ J, d_K_makePlaceAt oS I R 0 (nI s) = some J ∧ KP J f g p ((if s % 2 = 0 then a.1.1 + b.1.1 else a.1.1, if s % 2 = 0 then a.1.2 else a.1.2 + b.1.2), a.2.1.map (moT (if s = 0 then b.1.1 else 0) (if s = 1 then b.1.2 else 0)), a.2.2.map (moN (if s = 0 then b.1.1 else 0) (if s = 1 then b.1.2 else 0))) ∧ KP J f g q (b.1, b.2.1.map (moT (if s = 2 then a.1.1 else 0) (if s = 3 then a.1.2 else 0)), b.2.2.map (moN (if s = 2 then a.1.1 else 0) (if s = 3 then a.1.2 else 0))) ∧ ∀ i m, ¬ own f g p i → ¬ own f g q i → J i m = I i m := by
  obtain ⟨pp, pq, hne⟩ := KQ_P hQ
  have l := ha.2.1
  have lb := hb.2.1
  have grow : ∀ (ac : Bool) (d : Nat) (K : ax_I) (La : List Tl) (Na : List Nt) (B : Pc), KP K f g p (a.1, La, Na) → KP K f g q B → La.length ≤ 40 → Na.length ≤ 20 → B.2.1.length ≤ 40 → B.2.2.length ≤ 20 → (∀ i m, ¬ own f g p i → ¬ own f g q i → K i m = I i m) → ∃ J, d_K_makePlaceAt_55 oS K R 0 (ax_b ac) (nI d) = some J ∧ KP J f g p ((if ac then a.1.1 + d else a.1.1, if ac then a.1.2 else a.1.2 + d), La, Na) ∧ KP J f g q B ∧ ∀ i m, ¬ own f g p i → ¬ own f g q i → J i m = I i m := by
    intro ac d K La Na B h1 h2 c1 c2 c3 c4 ho
    unfold d_K_makePlaceAt_55
    rw [hQ.2.1.1, ob, kp_grow (a := a) h1.1.1 h1.1.2.1, ob]
    have kf : ∀ i m, i ≠ p → ax_up (ax_up K p 4 (nI (if ac then a.1.1 + d else a.1.1))) p 5 (nI (if ac then a.1.2 else a.1.2 + d)) i m = K i m := fun i m z => by rw [ax_up_ne (by omega), ax_up_ne (by omega)]
    refine ⟨_, rfl, ⟨⟨?_, ax_up_self _ _ _ _, ?_, ?_⟩, fun k t hk => ?_, fun k n hk => ?_⟩, KP_keep h2 (fun i => kf _ _ (fun e => hne e.symm)) (fun k i hk => ?_) (fun k i hk => ?_), fun i m z1 z2 => ?_⟩
    · rw [ax_up_ne (by omega), ax_up_self]
    · rw [ax_up_ne (by omega), ax_up_ne (by omega)]; exact h1.1.2.2.1
    · rw [ax_up_ne (by omega), ax_up_ne (by omega)]; exact h1.1.2.2.2
    · have hlt : k < La.length := (List.getElem?_eq_some_iff.mp hk).1
      have := T_P (hQ.2.2.2.1 p k pp (by omega)).2 pp
      exact KT_keep (h1.2.1 k t hk) (fun i => kf _ _ this.1) (fun i => kf _ _ this.2)
    · have hlt : k < Na.length := (List.getElem?_eq_some_iff.mp hk).1
      have := N_P (hQ.2.2.2.2.1 p k pp (by omega)).2 pp
      exact KN_keep (h1.2.2 k n hk) (fun i => kf _ _ this)
    · have := T_P (hQ.2.2.2.1 q k pq (by omega)).2 pp
      exact ⟨kf _ _ this.1, kf _ _ this.2⟩
    · exact kf _ _ (N_P (hQ.2.2.2.2.1 q k pq (by omega)).2 pp)
    · rw [kf i m (fun e => z1 (Or.inl e))]
      exact ho i m z1 z2
  have e0 : ∀ ac, d_K_isUpright oS I R (nI s) = some ac → d_K_makePlaceAt oS I R 0 (nI s) = if nI s = 0 then d_K_makePlaceAt_33 oS I R 0 (ax_b ac) (nI (if ac then b.1.1 else b.1.2)) else if nI s = 1 then d_K_makePlaceAt_33 oS I R 0 (ax_b ac) (nI (if ac then b.1.1 else b.1.2)) else (d_P_moveAlong oS I R q (ax_b ac) (nI (if ac then a.1.1 else a.1.2))).bind fun I23 => d_K_makePlaceAt_55 oS I23 R 0 (ax_b ac) (nI (if ac then b.1.1 else b.1.2)) := by
    intro ac hu
    unfold d_K_makePlaceAt
    rw [hu, ob, hQ.2.1.1, ob, kp_size (a := a) hP.1.1 hP.1.2.1, ob, hQ.2.1.2.1, ob, kp_size (a := b) hP2.1.1 hP2.1.2.1, ob, ob]
  have hereM : ∀ (ac : Bool), ∃ J, d_K_makePlaceAt_33 oS I R 0 (ax_b ac) (nI (if ac then b.1.1 else b.1.2)) = some J ∧ KP J f g p ((if ac then a.1.1 + (if ac then b.1.1 else b.1.2) else a.1.1, if ac then a.1.2 else a.1.2 + (if ac then b.1.1 else b.1.2)), a.2.1.map (moT (if ac then (if ac then b.1.1 else b.1.2) else 0) (if ac then 0 else (if ac then b.1.1 else b.1.2))), a.2.2.map (moN (if ac then (if ac then b.1.1 else b.1.2) else 0) (if ac then 0 else (if ac then b.1.1 else b.1.2)))) ∧ KP J f g q b ∧ ∀ i m, ¬ own f g p i → ¬ own f g q i → J i m = I i m := by
    intro ac
    unfold d_K_makePlaceAt_33
    obtain ⟨K, e1, k1, k2, k3⟩ := kp_along hQ pp hP ha ac (if ac then b.1.1 else b.1.2)
    rw [hQ.2.1.1, ob, e1, ob]
    exact grow ac _ K _ _ b k1 (KP_other hQ pp pq hne hb k3 hP2) (by rw [List.length_map]; omega) (by rw [List.length_map]; omega) (by omega) (by omega) (fun i m z1 z2 => k3 i m z1)
  have otherM : ∀ (ac : Bool), ∃ J, ((d_P_moveAlong oS I R q (ax_b ac) (nI (if ac then a.1.1 else a.1.2))).bind fun I23 => d_K_makePlaceAt_55 oS I23 R 0 (ax_b ac) (nI (if ac then b.1.1 else b.1.2))) = some J ∧ KP J f g p ((if ac then a.1.1 + (if ac then b.1.1 else b.1.2) else a.1.1, if ac then a.1.2 else a.1.2 + (if ac then b.1.1 else b.1.2)), a.2.1, a.2.2) ∧ KP J f g q (b.1, b.2.1.map (moT (if ac then (if ac then a.1.1 else a.1.2) else 0) (if ac then 0 else (if ac then a.1.1 else a.1.2))), b.2.2.map (moN (if ac then (if ac then a.1.1 else a.1.2) else 0) (if ac then 0 else (if ac then a.1.1 else a.1.2)))) ∧ ∀ i m, ¬ own f g p i → ¬ own f g q i → J i m = I i m := by
    intro ac
    obtain ⟨K, e1, k1, k2, k3⟩ := kp_along hQ pq hP2 hb ac (if ac then a.1.1 else a.1.2)
    rw [e1, ob]
    exact grow ac _ K a.2.1 a.2.2 _ (KP_other hQ pq pp (fun e => hne e.symm) ha k3 hP) k1 (by omega) (by omega) (by show (List.map _ b.2.1).length ≤ 40; rw [List.length_map]; omega) (by show (List.map _ b.2.2).length ≤ 20; rw [List.length_map]; omega) (fun i m z1 z2 => k3 i m z2)
  have hs' : s = 0 ∨ s = 1 ∨ s = 2 ∨ s = 3 := by omega
  rcases hs' with rfl | rfl | rfl | rfl
  · rw [e0 true rfl, if_pos (show nI 0 = 0 from rfl)]
    obtain ⟨J, j1, j2, j3, j4⟩ := hereM true
    refine ⟨J, j1, j2, ?_, j4⟩
    show KP J f g q (b.1, b.2.1.map (moT 0 0), b.2.2.map (moN 0 0))
    rw [moT_0, moN_0]
    exact j3
  · rw [e0 false rfl, if_neg (show ¬ nI 1 = 0 by decide), if_pos (show nI 1 = 1 from rfl)]
    obtain ⟨J, j1, j2, j3, j4⟩ := hereM false
    refine ⟨J, j1, j2, ?_, j4⟩
    show KP J f g q (b.1, b.2.1.map (moT 0 0), b.2.2.map (moN 0 0))
    rw [moT_0, moN_0]
    exact j3
  · rw [e0 true rfl, if_neg (show ¬ nI 2 = 0 by decide), if_neg (show ¬ nI 2 = 1 by decide)]
    obtain ⟨J, j1, j2, j3, j4⟩ := otherM true
    refine ⟨J, j1, ?_, j3, j4⟩
    show KP J f g p ((a.1.1 + b.1.1, a.1.2), a.2.1.map (moT 0 0), a.2.2.map (moN 0 0))
    rw [moT_0, moN_0]
    exact j2
  · rw [e0 false rfl, if_neg (show ¬ nI 3 = 0 by decide), if_neg (show ¬ nI 3 = 1 by decide)]
    obtain ⟨J, j1, j2, j3, j4⟩ := otherM false
    refine ⟨J, j1, ?_, j3, j4⟩
    show KP J f g p ((a.1.1, a.1.2 + b.1.2), a.2.1.map (moT 0 0), a.2.2.map (moN 0 0))
    rw [moT_0, moN_0]
    exact j2
theorem k_room (hP : KP I f g p a) (hP2 : KP I f g q b) (ha : okP a) (hb : okP b) (ac : Bool) : d_P_hasRoomFor oS I R p q (ax_b ac) = some (roP a b ac) := by
  have oa := ha.1
  have ob' := hb.1
  have la := ha.2.1
  have lb := hb.2.1
  unfold d_P_hasRoomFor
  have e : (if ac then a.1.1 else a.1.2) + (if ac then b.1.1 else b.1.2) = smP a b ac := by cases ac <;> rfl
  have hsm : smP a b ac ≤ 800 := by cases ac <;> simp [smP] <;> omega
  rw [kp_size (a := a) hP.1.1 hP.1.2.1, ob, kp_size (a := b) hP2.1.1 hP2.1.2.1, ob, nI_add, e, hP.1.2.2.1, hP2.1.2.2.1, hP.1.2.2.2, hP2.1.2.2.2, nI_add, nI_add]
  unfold roP
  by_cases z1 : 400 < smP a b ac
  · rw [if_pos (show (400 : Int32) < nI (smP a b ac) from nI_lt (a := 400) z1 (by omega)), decide_eq_false (by omega)]
  rw [if_neg (show ¬ (400 : Int32) < nI (smP a b ac) from nI_nlt (b := smP a b ac) (a := 400) (by omega) (by decide))]
  by_cases z2 : 40 < a.2.1.length + b.2.1.length
  · rw [if_pos (show (40 : Int32) < nI (a.2.1.length + b.2.1.length) from nI_lt (a := 40) z2 (by omega)), decide_eq_false (by omega)]
  rw [if_neg (show ¬ (40 : Int32) < nI (a.2.1.length + b.2.1.length) from nI_nlt (b := a.2.1.length + b.2.1.length) (a := 40) (by omega) (by decide))]
  by_cases z3 : 20 < a.2.2.length + b.2.2.length
  · rw [if_pos (show (20 : Int32) < nI (a.2.2.length + b.2.2.length) from nI_lt (a := 20) z3 (by omega)), decide_eq_false (by omega)]
  rw [if_neg (show ¬ (20 : Int32) < nI (a.2.2.length + b.2.2.length) from nI_nlt (b := a.2.2.length + b.2.2.length) (a := 20) (by omega) (by decide)), decide_eq_true (by omega)]
theorem k_takeOver' (hQ : KQ R f g p q) (hP : KP I f g p a) (hP2 : KP I f g q b) (k3 : I 0 0 = nI fw) (k4 : I 0 1 = nI fh) (k5 : I 0 6 = nI since) (k67 : KS I st) (h3 : a.2.1.length + b.2.1.length ≤ 40) (h4 : a.2.2.length + b.2.2.length ≤ 20) : ∃ J R' f' g', d_P_takeOver oS I R p q = some (J, R') ∧ KR J R' f' g' p q (a.1, a.2.1 ++ b.2.1, a.2.2 ++ b.2.2) (emP b) fw fh since st ∧ hiI I J ∧ ∀ i k, 210 ≤ i → R' i k = R i k := by
  obtain ⟨k6, k7⟩ := k67
  obtain ⟨pp, pq, hne⟩ := KQ_P hQ
  have rp := P_r pp
  have rq := P_r pq
  obtain ⟨J1, R1, f1, e1, Q1, F1, N1, T1, H1⟩ := k_takeT (R := R) (f := f) (g := g) pp pq hne (La := a.2.1) (Lb := b.2.1) h3 hP2.1.2.2.1 hP2.2.1 b.2.1.length 5000 0 I R f (by omega) (by omega) hQ (fun _ _ _ => rfl) hP.1.2.2.1 (fun _ _ => rfl) (fun j t hj => hP.2.1 j t (by simpa using hj)) (fun _ _ _ => rfl)
  have e1 : d_P_takeOver oS I R p q = d_P_takeOver_72 oS 5000 J1 R1 p q 0 := e1
  have nT : ∀ s k, isP s → k < 20 → ∀ i, J1 (g s k) i = I (g s k) i := fun s k hs hk i => F1 _ _ (fun z => N_P (hQ.2.2.2.2.1 s k hs hk).2 pp z.1)
  obtain ⟨J2, R2, g2, e2, Q2, F2, N2, T2, H2⟩ := k_takeN (J := J1) (R := R1) (f := f1) (g := g) pp pq hne (La := a.2.2) (Lb := b.2.2) h4 ((F1 _ _ (by omega)).trans hP2.1.2.2.2) (fun j t hj => KN_keep (hP2.2.2 j t hj) (nT q j pq (by have := (List.getElem?_eq_some_iff.mp hj).1; omega))) b.2.2.length 5000 0 J1 R1 g (by omega) (by omega) Q1 (fun _ _ _ => rfl) ((F1 _ _ (by omega)).trans hP.1.2.2.2) (fun _ _ => rfl) (fun j t hj => by
    have hj' : a.2.2[j]? = some t := by simpa using hj
    exact KN_keep (hP.2.2 j t hj') (nT p j pp (by have := (List.getElem?_eq_some_iff.mp hj').1; omega))) (fun _ _ _ => rfl)
  have e2 : d_P_takeOver_72 oS 5000 J1 R1 p q 0 = _ := e2
  obtain ⟨K, hKe⟩ : ∃ K, K = ax_up (ax_up J2 q 2 0) q 3 0 := ⟨_, rfl⟩
  rw [← hKe] at e2
  have kk : ∀ i m, i ≠ p → i ≠ q → K i m = I i m := fun i m z1 z2 => by
    rw [hKe, ax_up_ne (by omega), ax_up_ne (by omega)]
    exact (F2 _ _ (by omega)).trans (F1 _ _ (by omega))
  have kp : ∀ m, m ≠ 2 → m ≠ 3 → K p m = I p m := fun m z1 z2 => by
    rw [hKe, ax_up_ne (by omega), ax_up_ne (by omega)]
    exact (F2 _ _ (by omega)).trans (F1 _ _ (by omega))
  have kq : ∀ m, m ≠ 2 → m ≠ 3 → K q m = I q m := fun m z1 z2 => by
    rw [hKe, ax_up_ne (by omega), ax_up_ne (by omega)]
    exact (F2 _ _ (by omega)).trans (F1 _ _ (by omega))
  refine ⟨K, R2, f1, g2, e1.trans e2, ⟨Q2, ⟨⟨(kp _ (by omega) (by omega)).trans hP.1.1, (kp _ (by omega) (by omega)).trans hP.1.2.1, ?_, ?_⟩, fun k t hk => ?_, fun k n hk => ?_⟩, ⟨⟨(kq _ (by omega) (by omega)).trans hP2.1.1, (kq _ (by omega) (by omega)).trans hP2.1.2.1, ?_, ?_⟩, fun k t hk => (by simp [emP] at hk), fun k t hk => by simp [emP] at hk⟩, (kk _ _ (by omega) (by omega)).trans k3, (kk _ _ (by omega) (by omega)).trans k4, (kk _ _ (by omega) (by omega)).trans k5, (kk _ _ (by omega) (by omega)).trans k6, fun j c hj => (kk _ _ (by omega) (by omega)).trans (k7 j c hj)⟩, fun i m z => kk _ _ (by omega) (by omega), fun i k z => (H2 i k z).trans (H1 i k z)⟩
  · show K p 2 = nI (a.2.1 ++ b.2.1).length
    rw [hKe, ax_up_ne (by omega), ax_up_ne (by omega), F2 _ _ (by omega), N1, List.length_append]
  · show K p 3 = nI (a.2.2 ++ b.2.2).length
    rw [hKe, ax_up_ne (by omega), ax_up_ne (by omega), N2, List.length_append]
  · have hk' : (a.2.1 ++ b.2.1)[k]? = some t := hk
    have hlt : k < (a.2.1 ++ b.2.1).length := (List.getElem?_eq_some_iff.mp hk').1
    rw [List.length_append] at hlt
    have t1 := T_P (Q1.2.2.2.1 p k pp (by omega)).2 pp
    have t2 := T_P (Q1.2.2.2.1 p k pp (by omega)).2 pq
    exact KT_keep (T1 k t hk') (fun i => kk _ _ t1.1 t2.1) (fun i => kk _ _ t1.2 t2.2)
  · have hk' : (a.2.2 ++ b.2.2)[k]? = some n := hk
    have hlt : k < (a.2.2 ++ b.2.2).length := (List.getElem?_eq_some_iff.mp hk').1
    rw [List.length_append] at hlt
    have t1 := N_P (Q2.2.2.2.2.1 p k pp (by omega)).2 pp
    have t2 := N_P (Q2.2.2.2.2.1 p k pp (by omega)).2 pq
    refine KN_keep (T2 k n hk') (fun i => ?_)
    rw [hKe, ax_up_ne (by omega), ax_up_ne (by omega)]
    exact F2 _ _ (by omega)
  · show K q 2 = nI 0
    rw [hKe, ax_up_ne (by omega), ax_up_self]; rfl
  · show K q 3 = nI 0
    rw [hKe, ax_up_self]; rfl
theorem K_join (hK : KR I R f g p q a b fw fh since st) (ha : okP a) (hb : okP b) (x : Int32) : (x < 0 ∨ 3 < x → d_K_join oS I R 0 x = some (.inr "java/lang/IndexOutOfBoundsException", I, R)) ∧ (∀ s, s < 4 → x = nI s → (alP a b (decide (s % 2 = 0)) = false → d_K_join oS I R 0 x = some (.inr "java/lang/IllegalStateException", I, R)) ∧ (alP a b (decide (s % 2 = 0)) = true → (roP a b (decide (s % 2 = 0)) = false → d_K_join oS I R 0 x = some (.inr "java/lang/UnsupportedOperationException", I, R)) ∧ (roP a b (decide (s % 2 = 0)) = true → ∃ J R' f' g', d_K_join oS I R 0 x = some (.inl (nI (a.2.1.length + b.2.1.length)), J, R') ∧ KR J R' f' g' p q (joinP a b s) (emP b) fw fh 0 st ∧ hiI I J ∧ ∀ i k, 210 ≤ i → R' i k = R i k))) := by
  have hQ := hK.1
  obtain ⟨pp, pq, hne⟩ := KQ_P hQ
  have oa := ha.1
  have ob' := hb.1
  unfold d_K_join
  refine ⟨fun z => ?_, fun s hs ex => ?_⟩
  · have e : d_K_isSide oS I R x = some false := by
      unfold d_K_isSide
      by_cases z1 : x < 0
      · rw [if_pos z1]
      · have z2 : (4 : Int32) ≤ x := by
          have z3 := z.resolve_left z1
          rw [Int32.lt_iff_toInt_lt] at z3
          rw [Int32.le_iff_toInt_le]
          have e3 : (3 : Int32).toInt = 3 := rfl
          have e4 : (4 : Int32).toInt = 4 := rfl
          omega
        rw [if_neg z1, if_pos z2]
    rw [e, ob, if_pos bF]
  subst ex
  have e1 : d_K_isSide oS I R (nI s) = some true := by
    unfold d_K_isSide
    rw [if_neg (nI_pos (by omega)), if_neg (show ¬ (4 : Int32) ≤ nI s from nI_ge (b := 4) hs (by decide))]
  obtain ⟨ac, hac⟩ : ∃ ac, ac = decide (s % 2 = 0) := ⟨_, rfl⟩
  have hu := k_uprS (I := I) (R := R) hs oS
  rw [← hac] at hu ⊢
  have e2 : (if ax_b ac = 0 then d_K_join_35 oS I R 0 (nI s) (ax_b ac) 1 p else d_K_join_35 oS I R 0 (nI s) (ax_b ac) 0 p) = d_K_join_35 oS I R 0 (nI s) (ax_b ac) (ax_b (!ac)) p := by
    cases ac with
    | false => rw [if_pos bF]; rfl
    | true => rw [if_neg bT]; rfl
  have e3 : (if ax_b ac = 0 then d_K_join_51 oS I R 0 (nI s) (ax_b ac) 1 q (nI (if !ac then a.1.1 else a.1.2)) else d_K_join_51 oS I R 0 (nI s) (ax_b ac) 0 q (nI (if !ac then a.1.1 else a.1.2))) = d_K_join_51 oS I R 0 (nI s) (ax_b ac) (ax_b (!ac)) q (nI (if !ac then a.1.1 else a.1.2)) := by
    cases ac with
    | false => rw [if_pos bF]; rfl
    | true => rw [if_neg bT]; rfl
  rw [e1, ob, if_neg bT, hu, ob, hQ.2.1.1, ob, e2]
  unfold d_K_join_35
  rw [kp_size (a := a) hK.2.1.1.1 hK.2.1.1.2.1, ob, hQ.2.1.2.1, ob, e3]
  unfold d_K_join_51
  rw [kp_size (a := b) hK.2.2.1.1.1 hK.2.2.1.1.2.1, ob]
  have eal : alP a b ac = decide ((if !ac then a.1.1 else a.1.2) = (if !ac then b.1.1 else b.1.2)) := by cases ac <;> rfl
  refine ⟨fun z => ?_, fun z => ?_⟩
  · rw [eal] at z
    have z' := of_decide_eq_false z
    rw [if_neg (fun y => z' ((nI_eq (by cases ac <;> simp <;> omega) (by cases ac <;> simp <;> omega)).mp y))]
  rw [eal] at z
  have z' := of_decide_eq_true z
  rw [if_pos (by rw [z']), hQ.2.1.1, ob, hQ.2.1.2.1, ob, k_room hK.2.1 hK.2.2.1 ha hb, ob]
  refine ⟨fun y => ?_, fun y => ?_⟩
  · rw [y, if_pos bF]
  have yr := of_decide_eq_true y
  obtain ⟨J1, j1, j2, j3, j4⟩ := kp_place hQ hK.2.1 hK.2.2.1 ha hb hs
  rw [y, if_neg bT, j1, ob, ob, ob]
  obtain ⟨-, hP, hP2, k3, k4, k5, k6, k7⟩ := hK
  have jf : ∀ i m, i < 4 ∨ 210 ≤ i → J1 i m = I i m := fun i m z => j4 i m (fun y => by have := own_r hQ pp y; omega) (fun y => by have := own_r hQ pq y; omega)
  have oJ := okP_join ha hb hs (by
    rw [hac] at eal z
    by_cases zz : s % 2 = 0
    · rw [if_pos zz]; rw [hac] at z'; simpa [zz] using z'
    · rw [if_neg zz]; rw [hac] at z'; simpa [zz] using z') (by
    have := yr.1
    rw [hac] at this
    unfold smP at this
    by_cases zz : s % 2 = 0
    · rw [if_pos zz]; simpa [zz] using this
    · rw [if_neg zz]; simpa [zz] using this) yr.2.1 yr.2.2
  obtain ⟨A, hA⟩ : ∃ A : Pc, A = ((if s % 2 = 0 then a.1.1 + b.1.1 else a.1.1, if s % 2 = 0 then a.1.2 else a.1.2 + b.1.2), a.2.1.map (moT (if s = 0 then b.1.1 else 0) (if s = 1 then b.1.2 else 0)), a.2.2.map (moN (if s = 0 then b.1.1 else 0) (if s = 1 then b.1.2 else 0))) := ⟨_, rfl⟩
  obtain ⟨B, hB⟩ : ∃ B : Pc, B = (b.1, b.2.1.map (moT (if s = 2 then a.1.1 else 0) (if s = 3 then a.1.2 else 0)), b.2.2.map (moN (if s = 2 then a.1.1 else 0) (if s = 3 then a.1.2 else 0))) := ⟨_, rfl⟩
  have eJ : joinP a b s = (A.1, A.2.1 ++ B.2.1, A.2.2 ++ B.2.2) := by rw [hA, hB]; rfl
  rw [← hA] at j2
  rw [← hB] at j3
  have lA : A.2.1.length = a.2.1.length ∧ A.2.2.length = a.2.2.length := by rw [hA]; exact ⟨List.length_map _, List.length_map _⟩
  have lB : B.2.1.length = b.2.1.length ∧ B.2.2.length = b.2.2.length := by rw [hB]; exact ⟨List.length_map _, List.length_map _⟩
  rw [eJ] at oJ
  have oA : okP A := ⟨oJ.1, ⟨by have := ha.2.1; omega, by have := ha.2.1; omega⟩, fun t ht => oJ.2.2.1 t (List.mem_append_left _ ht), fun n hn => oJ.2.2.2.1 n (List.mem_append_left _ hn), (List.pairwise_append.mp oJ.2.2.2.2).1⟩
  have oE : okP (emP B) := by
    rw [hB]
    exact (show okP (emP b) from okP_em hb)
  obtain ⟨J2, R2, f2, g2, t1, t2, t3, t4⟩ := k_takeOver' hQ j2 j3 ((jf _ _ (by omega)).trans k3) ((jf _ _ (by omega)).trans k4) ((jf _ _ (by omega)).trans k5) ⟨(jf _ _ (by omega)).trans k6, fun j c hj => (jf _ _ (by omega)).trans (k7 j c hj)⟩ (by omega) (by omega)
  obtain ⟨s1, s2⟩ := KR_since t2 oJ oE 0
  have e0 : nI 0 = 0 := rfl
  rw [t1, ob, ob, ob]
  dsimp only
  rw [t2.1.2.1.1, ob]
  rw [e0] at s1 s2
  rw [s1.2.1.1.2.2.1]
  refine ⟨ax_up (ax_up J2 0 6 0) 0 7 0, R2, f2, g2, ?_, ?_, fun i m z => (s2 i m z).trans ((t3 i m z).trans (jf _ _ (by omega))), t4⟩
  · show some (Sum.inl (nI (A.2.1 ++ B.2.1).length), _, _) = _
    rw [List.length_append, lA.1, lB.1]
  · rw [eJ]
    have : emP B = emP b := by rw [hB]; rfl
    rw [← this]
    exact s1
end KJ
