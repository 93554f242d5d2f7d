/-! the class: turn -/
section KU
variable {I J : ax_I} {R : ax_R} {f g : Nat → Nat → Nat} {p q r fw fh since : Nat} {a a' b : Pc} {st : List Nat}
/-- a picture's tiles and notes, one by one -/
theorem KP_map (hP : KP I f g r a) {F : Tl → Tl} {G : Nt → Nt} {W H : Nat} (e4 : J r 4 = nI W) (e5 : J r 5 = nI H) (e2 : J r 2 = I r 2) (e3 : J r 3 = I r 3) (hT : ∀ k t, a.2.1[k]? = some t → KT J (f r k) (F t)) (hN : ∀ k n, a.2.2[k]? = some n → KN J (g r k) (G n)) : KP J f g r ((W, H), a.2.1.map F, a.2.2.map G) := by
  refine ⟨⟨e4, e5, ?_, ?_⟩, fun k t hk => ?_, fun k n hk => ?_⟩
  · show J r 2 = nI (a.2.1.map F).length
    rw [List.length_map, e2]; exact hP.1.2.2.1
  · show J r 3 = nI (a.2.2.map G).length
    rw [List.length_map, e3]; exact hP.1.2.2.2
  · have hk' : (a.2.1.map F)[k]? = some t := hk
    rw [List.getElem?_map] at hk'
    obtain ⟨t0, h0, rfl⟩ := Option.map_eq_some_iff.mp hk'
    exact hT k t0 h0
  · have hk' : (a.2.2.map G)[k]? = some n := hk
    rw [List.getElem?_map] at hk'
    obtain ⟨t0, h0, rfl⟩ := Option.map_eq_some_iff.mp hk'
    exact hN k t0 h0
theorem kp_mirror (hQ : KQ R f g p q) (hr : isP r) (hP : KP I f g r a) (ha : okP a) : ∃ J, d_P_mirror oS I R r = some J ∧ KP J f g r (mirP a) ∧ ∀ i m, ¬ own f g r i → J i m = I i m := by
  have l := ha.2.1
  have oW := ha.1
  obtain ⟨J, e, hT, hN, hr2, ho⟩ := k_pair hQ hr hP ha (fun n J i => d_P_mirror_2 oS n J R r i) (fun n J i => d_P_mirror_31 oS n J R r i) some (mirT a.1.1) (mirN a.1.1) (fun n J hJ => by
    show d_P_mirror_2 oS (n + 1) J R r (nI a.2.1.length) = _
    rw [d_P_mirror_2, hJ, hP.1.2.2.1, if_pos (nI_le (Nat.le_refl _) (by omega))]) (fun n J k t ht hJ hq => by
    show ∃ J', d_P_mirror_2 oS (n + 1) J R r (nI k) = d_P_mirror_2 oS n J' R r (nI (k + 1)) ∧ _
    have hlt : k < a.2.1.length := (List.getElem?_eq_some_iff.mp ht).1
    obtain ⟨⟨q1, q2, q3, q4, q5, q6⟩, q7⟩ := hq
    obtain ⟨-, ⟨o1, o2⟩, -⟩ := ha.2.2.1 t (List.mem_of_getElem? ht)
    rw [d_P_mirror_2, hJ, hP.1.2.2.1, if_neg (nI_ge hlt (by omega)), (hQ.2.2.1 r hr).1, ob, kxT hr (by omega), ob, (hQ.2.2.2.1 r k hr (by omega)).1, ob]
    unfold d_T_mirrorIn
    rw [ob, ob, hJ, hP.1.1, q1, q3, nI_sub (by omega), nI_sub (by omega), nI_1]
    refine ⟨_, rfl, ⟨⟨?_, ?_, ?_, ?_, ?_, ?_⟩, fun j c hj => ?_⟩, fun i m z => ?_⟩
    · rw [ax_up_self]; rfl
    · rw [ax_up_ne (by omega)]; exact q2
    · rw [ax_up_ne (by omega)]; exact q3
    · rw [ax_up_ne (by omega)]; exact q4
    · rw [ax_up_ne (by omega)]; exact q5
    · rw [ax_up_ne (by omega)]; exact q6
    · rw [ax_up_ne (by omega)]; exact q7 j c hj
    · rw [ax_up_ne (by omega)]) (fun n J hJ => by
    show d_P_mirror_31 oS (n + 1) J R r (nI a.2.2.length) = _
    rw [d_P_mirror_31, hJ, hP.1.2.2.2, if_pos (nI_le (Nat.le_refl _) (by omega))]) (fun n J k t ht hJ hq => by
    show ∃ J', d_P_mirror_31 oS (n + 1) J R r (nI k) = d_P_mirror_31 oS n J' R r (nI (k + 1)) ∧ _
    have hlt : k < a.2.2.length := (List.getElem?_eq_some_iff.mp ht).1
    obtain ⟨q1, q2, q3⟩ := hq
    obtain ⟨o1, o2, -⟩ := ha.2.2.2.1 t (List.mem_of_getElem? ht)
    have e1 : nI a.1.1 - 1 = nI (a.1.1 - 1) := nI_sub (b := 1) (by omega)
    rw [d_P_mirror_31, hJ, hP.1.2.2.2, if_neg (nI_ge hlt (by omega)), (hQ.2.2.1 r hr).2, ob, kxN hr (by omega), ob, (hQ.2.2.2.2.1 r k hr (by omega)).1, ob]
    unfold d_N_mirrorIn
    rw [ob, ob, hJ, hP.1.1, q1, e1, nI_sub (by omega), nI_1]
    refine ⟨_, rfl, ⟨?_, ?_, ?_⟩, fun i m z => ?_⟩
    · rw [ax_up_self]; rfl
    · rw [ax_up_ne (by omega)]; exact q2
    · rw [ax_up_ne (by omega)]; exact q3
    · rw [ax_up_ne (by omega)])
  have e : d_P_mirror oS I R r = some J := e
  exact ⟨J, e, KP_map hP ((hr2 _).trans hP.1.1) ((hr2 _).trans hP.1.2.1) (hr2 _) (hr2 _) hT hN, ho⟩
theorem kp_quarter (hQ : KQ R f g p q) (hr : isP r) (hP : KP I f g r a) (ha : okP a) : ∃ J, d_P_turnQuarter oS I R r = some J ∧ KP J f g r (quaP a) ∧ ∀ i m, ¬ own f g r i → J i m = I i m := by
  have l := ha.2.1
  have oW := ha.1
  obtain ⟨J, e, hT, hN, hr2, ho⟩ := k_pair hQ hr hP ha (fun n J i => d_P_turnQuarter_2 oS n J R r i) (fun n J i => d_P_turnQuarter_31 oS n J R r i) (fun J => some (ax_up (ax_up J r 4 (J r 5)) r 5 (J r 4))) (quaT a.1.2) (quaN a.1.2) (fun n J hJ => by
    show d_P_turnQuarter_2 oS (n + 1) J R r (nI a.2.1.length) = _
    rw [d_P_turnQuarter_2, hJ, hP.1.2.2.1, if_pos (nI_le (Nat.le_refl _) (by omega))]) (fun n J k t ht hJ hq => by
    show ∃ J', d_P_turnQuarter_2 oS (n + 1) J R r (nI k) = d_P_turnQuarter_2 oS n J' R r (nI (k + 1)) ∧ _
    have hlt : k < a.2.1.length := (List.getElem?_eq_some_iff.mp ht).1
    obtain ⟨⟨q1, q2, q3, q4, q5, q6⟩, q7⟩ := hq
    obtain ⟨-, ⟨o1, o2⟩, -⟩ := ha.2.2.1 t (List.mem_of_getElem? ht)
    rw [d_P_turnQuarter_2, hJ, hP.1.2.2.1, if_neg (nI_ge hlt (by omega)), (hQ.2.2.1 r hr).1, ob, kxT hr (by omega), ob, (hQ.2.2.2.1 r k hr (by omega)).1, ob]
    obtain ⟨u, eu⟩ : ∃ u, u = f r k := ⟨_, rfl⟩
    rw [← eu] at q1 q2 q3 q4 q5 q6 q7 ⊢
    unfold d_T_quarterIn
    rw [ob, ob, ob, ob, ob, hJ, hP.1.2.1, q1, q2, q4, nI_sub (by omega), nI_sub (by omega), nI_1]
    obtain ⟨K, hK⟩ : ∃ K, K = ax_up (ax_up J u 3 (nI t.1.1)) u 2 (nI (a.1.2 - t.1.2 - t.2.1.2)) := ⟨_, rfl⟩
    have k1 : ∀ i m, ¬ (i = u ∧ m = 3) → ¬ (i = u ∧ m = 2) → K i m = J i m := fun i m z1 z2 => by rw [hK, ax_up_ne z2, ax_up_ne z1]
    rw [← hK, k1 u 5 (by omega) (by omega), k1 u 4 (by omega) (by omega), q3, q4]
    refine ⟨_, rfl, ⟨⟨?_, ?_, ?_, ?_, ?_, ?_⟩, fun j c hj => ?_⟩, fun i m z => ?_⟩
    · rw [ax_up_ne (by omega), ax_up_ne (by omega), hK, ax_up_self]; rfl
    · rw [ax_up_ne (by omega), ax_up_ne (by omega), hK, ax_up_ne (by omega), ax_up_self]; rfl
    · rw [ax_up_ne (by omega), ax_up_self]; rfl
    · rw [ax_up_self]; rfl
    · rw [ax_up_ne (by omega), ax_up_ne (by omega), k1 _ _ (by omega) (by omega)]; exact q5
    · rw [ax_up_ne (by omega), ax_up_ne (by omega), k1 _ _ (by omega) (by omega)]; exact q6
    · rw [ax_up_ne (by omega), ax_up_ne (by omega), k1 _ _ (by omega) (by omega)]; exact q7 j c hj
    · rw [ax_up_ne (by omega), ax_up_ne (by omega), k1 _ _ (by omega) (by omega)]) (fun n J hJ => by
    show d_P_turnQuarter_31 oS (n + 1) J R r (nI a.2.2.length) = _
    rw [d_P_turnQuarter_31, hJ 3, hP.1.2.2.2, if_pos (nI_le (Nat.le_refl _) (by omega)), ob, ob]) (fun n J k t ht hJ hq => by
    show ∃ J', d_P_turnQuarter_31 oS (n + 1) J R r (nI k) = d_P_turnQuarter_31 oS n J' R r (nI (k + 1)) ∧ _
    have hlt : k < a.2.2.length := (List.getElem?_eq_some_iff.mp ht).1
    obtain ⟨q1, q2, q3⟩ := hq
    obtain ⟨o1, o2, -⟩ := ha.2.2.2.1 t (List.mem_of_getElem? ht)
    have e1 : nI a.1.2 - 1 = nI (a.1.2 - 1) := nI_sub (b := 1) (by omega)
    rw [d_P_turnQuarter_31, hJ, hP.1.2.2.2, if_neg (nI_ge hlt (by omega)), (hQ.2.2.1 r hr).2, ob, kxN hr (by omega), ob, (hQ.2.2.2.2.1 r k hr (by omega)).1, ob]
    unfold d_N_quarterIn
    rw [ob, ob, ob, hJ, hP.1.2.1, q1, q2, e1, nI_sub (by omega), nI_1]
    refine ⟨_, rfl, ⟨?_, ?_, ?_⟩, fun i m z => ?_⟩
    · rw [ax_up_self]; rfl
    · rw [ax_up_ne (by omega), ax_up_self]; rfl
    · rw [ax_up_ne (by omega), ax_up_ne (by omega)]; exact q3
    · rw [ax_up_ne (by omega), ax_up_ne (by omega)])
  have e : d_P_turnQuarter oS I R r = some (ax_up (ax_up J r 4 (J r 5)) r 5 (J r 4)) := e
  have kt : ∀ k i, k < 40 → ax_up (ax_up J r 4 (J r 5)) r 5 (J r 4) (f r k) i = J (f r k) i ∧ ax_up (ax_up J r 4 (J r 5)) r 5 (J r 4) (f r k + 1) i = J (f r k + 1) i := fun k i hk => by
    have := T_P (hQ.2.2.2.1 r k hr hk).2 hr
    exact ⟨(ax_up_ne (by omega)).trans (ax_up_ne (by omega)), (ax_up_ne (by omega)).trans (ax_up_ne (by omega))⟩
  refine ⟨_, e, KP_map (J := ax_up (ax_up J r 4 (J r 5)) r 5 (J r 4)) hP ?_ ?_ ?_ ?_ (fun k t hk => KT_keep (hT k t hk) (fun i => (kt k i (by have := (List.getElem?_eq_some_iff.mp hk).1; omega)).1) (fun i => (kt k i (by have := (List.getElem?_eq_some_iff.mp hk).1; omega)).2)) (fun k n hk => KN_keep (hN k n hk) (fun i => ?_)), fun i m z => ?_⟩
  · rw [ax_up_ne (by omega), ax_up_self]; exact (hr2 _).trans hP.1.2.1
  · rw [ax_up_self]; exact (hr2 _).trans hP.1.1
  · rw [ax_up_ne (by omega), ax_up_ne (by omega)]; exact hr2 _
  · rw [ax_up_ne (by omega), ax_up_ne (by omega)]; exact hr2 _
  · have := N_P (hQ.2.2.2.2.1 r k hr (by have := (List.getElem?_eq_some_iff.mp hk).1; omega)).2 hr
    exact (ax_up_ne (by omega)).trans (ax_up_ne (by omega))
  · rw [ax_up_ne (fun e => z (Or.inl e.1)), ax_up_ne (fun e => z (Or.inl e.1))]
    exact ho i m z
theorem k_ways (hQ : KQ R f g p q) (hr : isP r) (hP : KP I f g r a) (ha : okP a) {v : Nat} (hv : v < 8) : ∃ J, d_P_showBy_33 oS 5000 I R r (nI v) 0 = some J ∧ KP J f g r (wayP v a) ∧ ∀ i m, ¬ own f g r i → J i m = I i m := by
  have l := ha.2.1
  obtain ⟨J, e, hT, hr2, ho, hn⟩ := k_tiles hQ hr hP.2.1 ha (fun n J i => d_P_showBy_33 oS n J R r (nI v) i) some (wayT v) (fun n J hJ => by
    show d_P_showBy_33 oS (n + 1) J R r (nI v) (nI a.2.1.length) = _
    rw [d_P_showBy_33, hJ, hP.1.2.2.1, if_pos (nI_le (Nat.le_refl _) (by omega))]) (fun n J k t ht hJ hq => by
    show ∃ J', d_P_showBy_33 oS (n + 1) J R r (nI v) (nI k) = d_P_showBy_33 oS n J' R r (nI v) (nI (k + 1)) ∧ _
    have hlt : k < a.2.1.length := (List.getElem?_eq_some_iff.mp ht).1
    obtain ⟨⟨q1, q2, q3, q4, q5, q6⟩, q7⟩ := hq
    have hw := (ha.2.2.1 t (List.mem_of_getElem? ht)).2.2.1
    rw [d_P_showBy_33, hJ, hP.1.2.2.1, if_neg (nI_ge hlt (by omega)), (hQ.2.2.1 r hr).1, ob, kxT hr (by omega), ob, (hQ.2.2.2.1 r k hr (by omega)).1, ob, ob, kxT hr (by omega), ob, (hQ.2.2.2.1 r k hr (by omega)).1, ob, q5, tog_tog oS _ R hw hv, ob, ob, nI_1]
    refine ⟨_, rfl, ⟨⟨?_, ?_, ?_, ?_, ?_, ?_⟩, fun j c hj => ?_⟩, fun i m z => ?_⟩
    · rw [ax_up_ne (by omega)]; exact q1
    · rw [ax_up_ne (by omega)]; exact q2
    · rw [ax_up_ne (by omega)]; exact q3
    · rw [ax_up_ne (by omega)]; exact q4
    · rw [ax_up_self]; rfl
    · rw [ax_up_ne (by omega)]; exact q6
    · rw [ax_up_ne (by omega)]; exact q7 j c hj
    · rw [ax_up_ne (by omega)])
  refine ⟨J, e, ⟨⟨(hr2 _).trans hP.1.1, (hr2 _).trans hP.1.2.1, ?_, (hr2 _).trans hP.1.2.2.2⟩, fun k t hk => ?_, fun k n hk => KN_keep (hP.2.2 k n hk) (fun i => hn k i (by have : k < a.2.2.length := (List.getElem?_eq_some_iff.mp hk).1; omega))⟩, ho⟩
  · show J r 2 = nI (a.2.1.map (wayT v)).length
    rw [List.length_map]; exact (hr2 _).trans hP.1.2.2.1
  · have hk' : (a.2.1.map (wayT v))[k]? = some t := hk
    rw [List.getElem?_map] at hk'
    obtain ⟨t0, h0, rfl⟩ := Option.map_eq_some_iff.mp hk'
    exact hT k t0 h0
theorem kp_show13 (hQ : KQ R f g p q) (hr : isP r) {v : Nat} (hv : v < 8) : ∀ (m n k : Nat) (I : ax_I) (a : Pc), KP I f g r a → okP a → k + m = v % 4 → m < n → ∃ J, d_P_showBy_13 oS n I R r (nI v) (nI k) = some J ∧ KP J f g r (wayP v (quaPs m a)) ∧ ∀ i m, ¬ own f g r i → J i m = I i m := by
  have e4 : nI v &&& 3 = nI (v % 4) := q_t ⟨v, hv⟩
  intro m
  induction m with
  | zero =>
    intro n k I a hP ha hk hn'
    obtain ⟨n, rfl⟩ : ∃ n', n = n' + 1 := ⟨n - 1, by omega⟩
    rw [d_P_showBy_13]
    unfold d_K_quarters
    rw [ob, e4, if_pos (nI_le (by omega) (by omega))]
    exact k_ways hQ hr hP ha hv
  | succ m ih =>
    intro n k I a hP ha hk hn'
    obtain ⟨n, rfl⟩ : ∃ n', n = n' + 1 := ⟨n - 1, by omega⟩
    obtain ⟨J, e, hJ, ho⟩ := kp_quarter hQ hr hP ha
    rw [d_P_showBy_13]
    unfold d_K_quarters
    rw [ob, e4, if_neg (nI_ge (by omega) (by omega)), e, ob, nI_1]
    obtain ⟨J2, e2, h2, o2⟩ := ih n (k + 1) J (quaP a) hJ (okP_qua ha) (by omega) (by omega)
    exact ⟨J2, e2, h2, fun i m z => (o2 i m z).trans (ho i m z)⟩
theorem k_showBy (hQ : KQ R f g p q) (hr : isP r) (hP : KP I f g r a) (ha : okP a) {v : Nat} (hv : v < 8) : ∃ J, d_P_showBy oS I R r (nI v) = some J ∧ KP J f g r (turnP v a) ∧ ∀ i m, ¬ own f g r i → J i m = I i m := by
  unfold d_P_showBy d_K_mirrors d_P_showBy_11 turnP
  by_cases z : 4 ≤ v
  · obtain ⟨J, e, hJ, ho⟩ := kp_mirror hQ hr hP ha
    obtain ⟨J2, e2, h2, o2⟩ := kp_show13 hQ hr hv (v % 4) 5000 0 J (mirP a) hJ (okP_mir ha) (by omega) (by omega)
    rw [if_neg (show ¬ nI v < 4 from nI_nlt (b := 4) z (by omega)), ob, if_neg bT, e, ob, if_pos z]
    exact ⟨J2, e2, h2, fun i m z => (o2 i m z).trans (ho i m z)⟩
  · rw [if_pos (show nI v < 4 from nI_lt (b := 4) (by omega) (by decide)), ob, if_pos bF, if_neg z]
    exact kp_show13 hQ hr hv (v % 4) 5000 0 I a hP ha (by omega) (by omega)
theorem K_turn (hK : KR I R f g p q a b fw fh since st) (ha : okP a) (hb : okP b) (hs : since < 8) (x : Int32) : (x < 0 ∨ 7 < x → d_K_turn oS I R 0 x = some (.inr "java/lang/IllegalArgumentException", I)) ∧ (∀ v, v < 8 → x = nI v → ∃ J, d_K_turn oS I R 0 x = some (.inl (nI (tog since v)), J) ∧ KR J R f g p q (turnP v a) b fw fh (tog since v) st ∧ hiI I J) := by
  have hQ := hK.1
  obtain ⟨pp, pq, hne⟩ := KQ_P hQ
  unfold d_K_turn d_K_turn_10
  refine ⟨fun z => ?_, fun v hv ex => ?_⟩
  · by_cases z1 : x < 0
    · rw [if_pos z1]
    · have z2 : ¬ x < 8 := by
        have z3 := z.resolve_left z1
        rw [Int32.lt_iff_toInt_lt] at *
        have e7 : (7 : Int32).toInt = 7 := rfl
        have e8 : (8 : Int32).toInt = 8 := rfl
        omega
      rw [if_neg z1, if_neg z2]
  subst ex
  obtain ⟨J, e, hJ, ho⟩ := k_showBy hQ pp hK.2.1 ha hv
  obtain ⟨hK1, h1⟩ := KR_here hK hb ho hJ
  obtain ⟨hK2, h2⟩ := KR_since hK1 (okP_turn ha hv) hb (tog since v)
  rw [if_neg (nI_pos (by omega)), if_pos (show nI v < 8 from nI_lt (b := 8) hv (by decide)), hQ.2.1.1, ob, e, ob, hK1.2.2.2.2.2.1, tog_tog oS _ R hs hv, ob, ob, ob, ax_up_ne (show ¬ (0 = 0 ∧ 6 = 7) by omega), ax_up_self]
  exact ⟨_, rfl, hK2, fun i m z => (h2 i m z).trans (h1 i m z)⟩
end KU
