/-! the class: loops over a picture; crop -/
theorem nI_neg {v x : Nat} (h : x ≤ v) : nI v + -nI x = nI (v - x) := by rw [← Int32.sub_eq_add_neg, nI_sub h]
section KC
variable {I J : ax_I} {R : ax_R} {f g : Nat → Nat → Nat} {p q r fw fh since : Nat} {a a' b : Pc} {st : List Nat}
theorem k_tiles {X : Type} (hQ : KQ R f g p q) (hr : isP r) (hP : ∀ k t, a.2.1[k]? = some t → KT I (f r k) t) (ha : okP a) (L1 : Nat → ax_I → Int32 → Option X) (fin : ax_I → Option X) (F : Tl → Tl)
    (stop1 : ∀ n J, (∀ i, J r i = I r i) → L1 (n + 1) J (nI a.2.1.length) = fin J)
    (step1 : ∀ n J k t, a.2.1[k]? = some t → (∀ i, J r i = I r i) → KT J (f r k) t → ∃ J', L1 (n + 1) J (nI k) = L1 n J' (nI (k + 1)) ∧ KT J' (f r k) (F t) ∧ ∀ i m, i ≠ f r k → J' i m = J i m) :
    ∃ J, L1 5000 I 0 = fin J ∧ (∀ k t, a.2.1[k]? = some t → KT J (f r k) (F t)) ∧ (∀ i, J r i = I r i) ∧ (∀ i m, ¬ own f g r i → J i m = I i m) ∧ ∀ k i, k < 20 → J (g r k) i = I (g r k) i := by
  have l := ha.2.1
  have tT : ∀ k, k < a.2.1.length → isT (f r k) := fun k hk => (hQ.2.2.2.1 r k hr (by omega)).2
  have hrow : ∀ J : ax_I, (∀ i m, (∀ k, k < a.2.1.length → i ≠ f r k) → J i m = I i m) → ∀ i, J r i = I r i := fun J hJ i => hJ _ _ (fun k hk e => (T_P (tT k hk) hr).1 e.symm)
  obtain ⟨J, e, q1, q2⟩ := k_loop L1 fin KT F (f r) a.2.1 I (fun J J' k k' t hk hk' hne hfr hq => KT_keep hq (fun i => hfr _ _ (fun e => hne (hQ.2.2.2.2.2.2.1 r k r k' hr hr (by omega) (by omega) e).2)) (fun i => hfr _ _ (T_T (tT k hk) (tT k' hk')))) (fun n J hJ => stop1 n J (hrow J hJ)) (fun n J k t ht hJ hq => step1 n J k t ht (hrow J hJ) hq) hP 5000 (by omega)
  refine ⟨J, e, q1, hrow J q2, fun i m z => q2 i m (fun k hk y => z (Or.inr (Or.inl ⟨k, by omega, Or.inl y⟩))), fun k i hk => q2 _ _ (fun j hj y => ?_)⟩
  exact (T_N (tT j hj) (hQ.2.2.2.2.1 r k hr hk).2).1 y.symm
theorem k_notes {X : Type} (hQ : KQ R f g p q) (hr : isP r) (hP : ∀ k n, a.2.2[k]? = some n → KN I (g r k) n) (ha : okP a) (L1 : Nat → ax_I → Int32 → Option X) (fin : ax_I → Option X) (G : Nt → Nt)
    (stop1 : ∀ n J, (∀ i, J r i = I r i) → L1 (n + 1) J (nI a.2.2.length) = fin J)
    (step1 : ∀ n J k t, a.2.2[k]? = some t → (∀ i, J r i = I r i) → KN J (g r k) t → ∃ J', L1 (n + 1) J (nI k) = L1 n J' (nI (k + 1)) ∧ KN J' (g r k) (G t) ∧ ∀ i m, i ≠ g r k → J' i m = J i m) :
    ∃ J, L1 5000 I 0 = fin J ∧ (∀ k t, a.2.2[k]? = some t → KN J (g r k) (G t)) ∧ (∀ i, J r i = I r i) ∧ (∀ i m, ¬ own f g r i → J i m = I i m) ∧ ∀ k i, k < 40 → J (f r k) i = I (f r k) i ∧ J (f r k + 1) i = I (f r k + 1) i := by
  have l := ha.2.1
  have tN : ∀ k, k < a.2.2.length → isN (g r k) := fun k hk => (hQ.2.2.2.2.1 r k hr (by omega)).2
  have hrow : ∀ J : ax_I, (∀ i m, (∀ k, k < a.2.2.length → i ≠ g r k) → J i m = I i m) → ∀ i, J r i = I r i := fun J hJ i => hJ _ _ (fun k hk e => N_P (tN k hk) hr e.symm)
  obtain ⟨J, e, q1, q2⟩ := k_loop L1 fin KN G (g r) a.2.2 I (fun J J' k k' t hk hk' hne hfr hq => KN_keep hq (fun i => hfr _ _ (fun e => hne (hQ.2.2.2.2.2.2.2 r k r k' hr hr (by omega) (by omega) e).2))) (fun n J hJ => stop1 n J (hrow J hJ)) (fun n J k t ht hJ hq => step1 n J k t ht (hrow J hJ) hq) hP 5000 (by omega)
  refine ⟨J, e, q1, hrow J q2, fun i m z => q2 i m (fun k hk y => z (Or.inr (Or.inr ⟨k, by omega, y⟩))), fun k i hk => ⟨q2 _ _ (fun j hj y => ?_), q2 _ _ (fun j hj y => ?_)⟩⟩
  · exact (T_N (hQ.2.2.2.1 r k hr hk).2 (tN j hj)).1 y
  · exact (T_N (hQ.2.2.2.1 r k hr hk).2 (tN j hj)).2 y
/-- first the tiles, then the notes -/
theorem k_pair {X : Type} (hQ : KQ R f g p q) (hr : isP r) (hP : KP I f g r a) (ha : okP a) (L1 L2 : Nat → ax_I → Int32 → Option X) (fin : ax_I → Option X) (F : Tl → Tl) (G : Nt → Nt)
    (stop1 : ∀ n J, (∀ i, J r i = I r i) → L1 (n + 1) J (nI a.2.1.length) = L2 5000 J 0)
    (step1 : ∀ n J k t, a.2.1[k]? = some t → (∀ i, J r i = I r i) → KT J (f r k) t → ∃ J', L1 (n + 1) J (nI k) = L1 n J' (nI (k + 1)) ∧ KT J' (f r k) (F t) ∧ ∀ i m, i ≠ f r k → J' i m = J i m)
    (stop2 : ∀ n J, (∀ i, J r i = I r i) → L2 (n + 1) J (nI a.2.2.length) = fin J)
    (step2 : ∀ n J k t, a.2.2[k]? = some t → (∀ i, J r i = I r i) → KN J (g r k) t → ∃ J', L2 (n + 1) J (nI k) = L2 n J' (nI (k + 1)) ∧ KN J' (g r k) (G t) ∧ ∀ i m, i ≠ g r k → J' i m = J i m) :
    ∃ J, L1 5000 I 0 = fin J ∧ (∀ k t, a.2.1[k]? = some t → KT J (f r k) (F t)) ∧ (∀ k n, a.2.2[k]? = some n → KN J (g r k) (G n)) ∧ (∀ i, J r i = I r i) ∧ ∀ i m, ¬ own f g r i → J i m = I i m := by
  have l := ha.2.1
  obtain ⟨J1, e1, t1, r1, o1, n1⟩ := k_tiles hQ hr hP.2.1 ha L1 (fun J => L2 5000 J 0) F stop1 step1
  obtain ⟨J2, e2, n2, r2, o2, t2⟩ := k_notes (I := J1) hQ hr (fun k n hk => KN_keep (hP.2.2 k n hk) (fun i => n1 k i (by have := (List.getElem?_eq_some_iff.mp hk).1; omega))) ha L2 fin G (fun n J hJ => stop2 n J (fun i => (hJ i).trans (r1 i))) (fun n J k t ht hJ hq => step2 n J k t ht (fun i => (hJ i).trans (r1 i)) hq)
  refine ⟨J2, e1.trans e2, fun k t hk => KT_keep (t1 k t hk) (fun i => (t2 k i (by have := (List.getElem?_eq_some_iff.mp hk).1; omega)).1) (fun i => (t2 k i (by have := (List.getElem?_eq_some_iff.mp hk).1; omega)).2), n2, fun i => (r2 i).trans (r1 i), fun i m z => (o2 i m z).trans (o1 i m z)⟩
theorem k_moveBy (hQ : KQ R f g p q) (hr : isP r) (hP : KP I f g r a) (ha : okP a) (dx dy : Int32) (X Y : Nat → Nat) (h1 : ∀ t ∈ a.2.1, nI t.1.1 + dx = nI (X t.1.1) ∧ nI t.1.2 + dy = nI (Y t.1.2)) (h2 : ∀ n ∈ a.2.2, nI n.1 + dx = nI (X n.1) ∧ nI n.2.1 + dy = nI (Y n.2.1)) : ∃ J, d_P_moveBy oS I R r dx dy = some J ∧ (∀ k t, a.2.1[k]? = some t → KT J (f r k) ((X t.1.1, Y t.1.2), t.2)) ∧ (∀ k n, a.2.2[k]? = some n → KN J (g r k) (X n.1, Y n.2.1, n.2.2)) ∧ (∀ i, J r i = I r i) ∧ ∀ i m, ¬ own f g r i → J i m = I i m := by
  have l := ha.2.1
  refine k_pair hQ hr hP ha (fun n J i => d_P_moveBy_2 oS n J R r dx dy i) (fun n J i => d_P_moveBy_29 oS n J R r dx dy i) some (fun t => ((X t.1.1, Y t.1.2), t.2)) (fun n => (X n.1, Y n.2.1, n.2.2)) (fun n J hJ => ?_) (fun n J k t ht hJ hq => ?_) (fun n J hJ => ?_) (fun n J k t ht hJ hq => ?_)
  · show d_P_moveBy_2 oS (n + 1) J R r dx dy (nI a.2.1.length) = _
    rw [d_P_moveBy_2, hJ, hP.1.2.2.1, if_pos (nI_le (Nat.le_refl _) (by omega))]
  · show ∃ J', d_P_moveBy_2 oS (n + 1) J R r dx dy (nI k) = d_P_moveBy_2 oS n J' R r dx dy (nI (k + 1)) ∧ _
    have hlt : k < a.2.1.length := (List.getElem?_eq_some_iff.mp ht).1
    obtain ⟨⟨q1, q2, q3, q4, q5, q6⟩, q7⟩ := hq
    obtain ⟨x1, x2⟩ := h1 t (List.mem_of_getElem? ht)
    rw [d_P_moveBy_2, hJ, hP.1.2.2.1, if_neg (nI_ge hlt (by omega)), (hQ.2.2.1 r hr).1, ob, kxT hr (by omega), ob, (hQ.2.2.2.1 r k hr (by omega)).1, ob]
    unfold d_T_moveBy
    rw [ob, ob, ob, ax_up_ne (show ¬ (f r k = f r k ∧ 3 = 2) by omega), q1, q2, x1, x2, nI_1]
    refine ⟨_, rfl, ⟨⟨?_, ?_, ?_, ?_, ?_, ?_⟩, fun j c hj => ?_⟩, fun i m z => ?_⟩
    · rw [ax_up_ne (by omega), ax_up_self]
    · rw [ax_up_self]
    · rw [ax_up_ne (by omega), ax_up_ne (by omega)]; exact q3
    · rw [ax_up_ne (by omega), ax_up_ne (by omega)]; exact q4
    · rw [ax_up_ne (by omega), ax_up_ne (by omega)]; exact q5
    · rw [ax_up_ne (by omega), ax_up_ne (by omega)]; exact q6
    · rw [ax_up_ne (by omega), ax_up_ne (by omega)]; exact q7 j c hj
    · rw [ax_up_ne (by omega), ax_up_ne (by omega)]
  · show d_P_moveBy_29 oS (n + 1) J R r dx dy (nI a.2.2.length) = _
    rw [d_P_moveBy_29, hJ, hP.1.2.2.2, if_pos (nI_le (Nat.le_refl _) (by omega))]
  · show ∃ J', d_P_moveBy_29 oS (n + 1) J R r dx dy (nI k) = d_P_moveBy_29 oS n J' R r dx dy (nI (k + 1)) ∧ _
    have hlt : k < a.2.2.length := (List.getElem?_eq_some_iff.mp ht).1
    obtain ⟨q1, q2, q3⟩ := hq
    obtain ⟨x1, x2⟩ := h2 t (List.mem_of_getElem? ht)
    rw [d_P_moveBy_29, hJ, hP.1.2.2.2, if_neg (nI_ge hlt (by omega)), (hQ.2.2.1 r hr).2, ob, kxN hr (by omega), ob, (hQ.2.2.2.2.1 r k hr (by omega)).1, ob]
    unfold d_N_moveBy
    rw [ob, ob, ob, ax_up_ne (show ¬ (g r k = g r k ∧ 1 = 0) by omega), q1, q2, x1, x2, nI_1]
    refine ⟨_, rfl, ⟨?_, ?_, ?_⟩, fun i m z => ?_⟩
    · rw [ax_up_ne (by omega), ax_up_self]
    · rw [ax_up_self]
    · rw [ax_up_ne (by omega), ax_up_ne (by omega)]; exact q3
    · rw [ax_up_ne (by omega), ax_up_ne (by omega)]
theorem k_cross {v : Nat} {t : Tl} (ht : KT I v t) (b1 : t.1.1 + t.2.1.1 ≤ 400) (b2 : t.1.2 + t.2.1.2 ≤ 400) {c : Nat} (hc : c ≤ 800) (u : Bool) (S : ax_S) : d_T_crosses S I R v (ax_b u) (nI c) = some (!fitT u c t) := by
  obtain ⟨⟨q1, q2, q3, q4, q5, q6⟩, -⟩ := ht
  have e31 : ∀ x w : Nat, x + w ≤ 400 → d_T_crosses_31 S I R (nI c) (nI x) (nI w) = some (!decide (x + w ≤ c ∨ c ≤ x)) := by
    intro x w hxw
    unfold d_T_crosses_31
    by_cases z1 : c ≤ x
    · rw [if_pos (nI_le z1 (by omega)), decide_eq_true (Or.inr z1)]; rfl
    rw [if_neg (nI_ge (by omega) (by omega)), nI_add]
    by_cases z2 : x + w ≤ c
    · rw [if_pos (nI_le z2 (by omega)), decide_eq_true (Or.inl z2)]; rfl
    · rw [if_neg (nI_ge (by omega) (by omega)), decide_eq_false (by omega)]; rfl
  unfold d_T_crosses d_T_crosses_15
  rw [q1, q2, q3, q4]
  cases u with
  | false => rw [if_pos bF, if_pos bF]; exact e31 _ _ b2
  | true => rw [if_neg bT, if_neg bT]; exact e31 _ _ b1
theorem k_fitsL (hQ : KQ R f g p q) (hr : isP r) (hP : KP I f g r a) (ha : okP a) {c : Nat} (hc : c ≤ 800) (u : Bool) : ∀ (m n k : Nat), k + m = a.2.1.length → m < n → d_P_borderFits_2 oS n I R r (ax_b u) (nI c) (nI k) = some ((a.2.1.drop k).all (fitT u c)) := by
  obtain ⟨⟨p1, p2, p3, p4⟩, pt, pn⟩ := hP
  have l40 := ha.2.1.1
  have oW := ha.1
  intro m
  induction m with
  | zero =>
    intro n k hk hn'
    obtain ⟨n, rfl⟩ : ∃ n', n = n' + 1 := ⟨n - 1, by omega⟩
    have hk : k = a.2.1.length := by omega
    subst hk
    rw [d_P_borderFits_2, p3, if_pos (nI_le (Nat.le_refl _) (by omega)), List.drop_length]
    rfl
  | succ m ih =>
    intro n k hk hn'
    obtain ⟨n, rfl⟩ : ∃ n', n = n' + 1 := ⟨n - 1, by omega⟩
    have hlt : k < a.2.1.length := by omega
    obtain ⟨t, ht⟩ : ∃ t, a.2.1[k]? = some t := ⟨_, List.getElem?_eq_getElem hlt⟩
    have ed : a.2.1.drop k = t :: a.2.1.drop (k + 1) := by rw [List.drop_eq_getElem_cons hlt]; congr 1; rw [List.getElem?_eq_getElem hlt] at ht; exact Option.some.inj ht
    obtain ⟨-, ⟨o1, o2⟩, -⟩ := ha.2.2.1 t (List.mem_of_getElem? ht)
    rw [d_P_borderFits_2, p3, if_neg (nI_ge hlt (by omega)), (hQ.2.2.1 r hr).1, ob, kxT hr (by omega), ob, (hQ.2.2.2.1 r k hr (by omega)).1, ob, k_cross (pt k t ht) (by omega) (by omega) hc u, ob, ed, List.all_cons]
    cases fitT u c t with
    | false => rw [if_neg (show ¬ ax_b (!false) = 0 from bT)]; rfl
    | true => rw [if_pos (show ax_b (!true) = 0 from bF), nI_1, ih n (k + 1) (by omega) (by omega), Bool.true_and]
theorem k_fits (hQ : KQ R f g p q) (hr : isP r) (hP : KP I f g r a) (ha : okP a) {c : Nat} (hc : c ≤ 800) (u : Bool) : d_P_borderFits oS I R r (ax_b u) (nI c) = some (a.2.1.all (fitT u c)) := by
  have := k_fitsL hQ hr hP ha hc u a.2.1.length 5000 0 (by omega) (by have := ha.2.1.1; omega)
  rw [List.drop_zero] at this
  exact this
theorem kp_asked (hQ : KQ R f g p q) (hP : KP I f g p a) (ha : okP a) {x y w h : Nat} (hx : x + w ≤ 400) (hy : y + h ≤ 400) (a0 : I 3 0 = nI x) (a1 : I 3 1 = nI y) (a2 : I 3 2 = nI (x + w)) (a3 : I 3 3 = nI (y + h)) : d_K_allAskedFit oS I R 0 = some (fitA a x y w h) := by
  obtain ⟨pp, pq, hne⟩ := KQ_P hQ
  have u0 : d_K_isUpright oS I R 0 = some true := rfl
  have u1 : d_K_isUpright oS I R 1 = some false := rfl
  have u2 : d_K_isUpright oS I R 2 = some true := rfl
  have u3 : d_K_isUpright oS I R 3 = some false := rfl
  have x0 : ax_ix oS 3 0 = some 0 := kx3 (k := 0) (by omega)
  have x1 : ax_ix oS 3 1 = some 1 := kx3 (k := 1) (by omega)
  have x2 : ax_ix oS 3 2 = some 2 := kx3 (k := 2) (by omega)
  have x3 : ax_ix oS 3 3 = some 3 := kx3 (k := 3) (by omega)
  have f1 := k_fits hQ pp hP ha (c := x) (by omega) true
  have f2 := k_fits hQ pp hP ha (c := y) (by omega) false
  have f3 := k_fits hQ pp hP ha (c := x + w) (by omega) true
  have f4 := k_fits hQ pp hP ha (c := y + h) (by omega) false
  unfold d_K_allAskedFit fitA
  rw [show (5000 : Nat) = 4995 + 1 + 1 + 1 + 1 + 1 from rfl, d_K_allAskedFit_2, if_neg (show ¬ (4 : Int32) ≤ 0 by decide), hQ.2.1.1, ob, u0, ob, hQ.2.1.2.2.2.1, ob, x0, ob, a0, f1, ob]
  cases a.2.1.all (fitT true x) with
  | false => rw [if_pos bF]; rfl
  | true =>
    rw [if_neg bT, show (0 : Int32) + 1 = 1 from rfl, d_K_allAskedFit_2, if_neg (show ¬ (4 : Int32) ≤ 1 by decide), hQ.2.1.1, ob, u1, ob, hQ.2.1.2.2.2.1, ob, x1, ob, a1, f2, ob]
    cases a.2.1.all (fitT false y) with
    | false => rw [if_pos bF]; rfl
    | true =>
      rw [if_neg bT, show (1 : Int32) + 1 = 2 from rfl, d_K_allAskedFit_2, if_neg (show ¬ (4 : Int32) ≤ 2 by decide), hQ.2.1.1, ob, u2, ob, hQ.2.1.2.2.2.1, ob, x2, ob, a2, f3, ob]
      cases a.2.1.all (fitT true (x + w)) with
      | false => rw [if_pos bF]; rfl
      | true =>
        rw [if_neg bT, show (2 : Int32) + 1 = 3 from rfl, d_K_allAskedFit_2, if_neg (show ¬ (4 : Int32) ≤ 3 by decide), hQ.2.1.1, ob, u3, ob, hQ.2.1.2.2.2.1, ob, x3, ob, a3, f4, ob]
        cases a.2.1.all (fitT false (y + h)) with
        | false => rw [if_pos bF]; rfl
        | true => rw [if_neg bT, show (3 : Int32) + 1 = 4 from rfl, d_K_allAskedFit_2, if_pos (show (4 : Int32) ≤ 4 by decide)]; rfl
theorem k_within {u : Nat} {t : Tl} (ht : KT I u t) {x y w h : Nat} (b1 : t.1.1 + t.2.1.1 ≤ 400) (b2 : t.1.2 + t.2.1.2 ≤ 400) (b3 : x + w ≤ 400) (b4 : y + h ≤ 400) (S : ax_S) : d_T_isWithin S I R u (nI x) (nI y) (nI (x + w)) (nI (y + h)) = some (inT x y w h t) := by
  obtain ⟨⟨q1, q2, q3, q4, q5, q6⟩, -⟩ := ht
  unfold d_T_isWithin inT
  rw [q1, q2, q3, q4, nI_add, nI_add]
  by_cases z1 : t.1.1 < x
  · rw [if_pos (nI_lt z1 (by omega)), decide_eq_false (by omega)]
  rw [if_neg (nI_nlt (by omega) (by omega))]
  by_cases z2 : t.1.2 < y
  · rw [if_pos (nI_lt z2 (by omega)), decide_eq_false (by omega)]
  rw [if_neg (nI_nlt (by omega) (by omega))]
  by_cases z3 : x + w < t.1.1 + t.2.1.1
  · rw [if_pos (nI_lt z3 (by omega)), decide_eq_false (by omega)]
  rw [if_neg (nI_nlt (by omega) (by omega))]
  by_cases z4 : y + h < t.1.2 + t.2.1.2
  · rw [if_pos (nI_lt z4 (by omega)), decide_eq_false (by omega)]
  rw [if_neg (nI_nlt (by omega) (by omega)), decide_eq_true (by omega)]
theorem k_withinN {u : Nat} {n : Nt} (ht : KN I u n) {x y w h : Nat} (b1 : n.1 ≤ 400) (b2 : n.2.1 ≤ 400) (b3 : x + w ≤ 400) (b4 : y + h ≤ 400) (S : ax_S) : d_N_isWithin S I R u (nI x) (nI y) (nI (x + w)) (nI (y + h)) = some (inN x y w h n) := by
  obtain ⟨q1, q2, q3⟩ := ht
  unfold d_N_isWithin inN
  rw [q1, q2]
  by_cases z1 : n.1 < x
  · rw [if_pos (nI_lt z1 (by omega)), decide_eq_false (by omega)]
  rw [if_neg (nI_nlt (by omega) (by omega))]
  by_cases z2 : n.2.1 < y
  · rw [if_pos (nI_lt z2 (by omega)), decide_eq_false (by omega)]
  rw [if_neg (nI_nlt (by omega) (by omega))]
  by_cases z3 : x + w ≤ n.1
  · rw [if_pos (nI_le z3 (by omega)), decide_eq_false (by omega)]
  rw [if_neg (nI_ge (by omega) (by omega))]
  by_cases z4 : y + h ≤ n.2.1
  · rw [if_pos (nI_le z4 (by omega)), decide_eq_false (by omega)]
  rw [if_neg (nI_ge (by omega) (by omega)), decide_eq_true (by omega)]
theorem k_keepT (hr : isP r) (hP : KP I f g r a) (ha : okP a) {x y w h : Nat} (b3 : x + w ≤ 400) (b4 : y + h ≤ 400) : ∀ (m n k : Nat) (R' : ax_R) (f' : Nat → Nat → Nat), k + m = a.2.1.length → m < n → KQ R' f' g p q → (∀ s j, s ≠ r ∨ k ≤ j → f' s j = f s j) → (∀ j t, ((a.2.1.take k).filter (inT x y w h))[j]? = some t → KT I (f' r j) t) → (∀ i k, 210 ≤ i → R' i k = R i k) → ∃ R'' f'', d_P_keepTilesWithin_6 oS n I R' r (nI x) (nI y) (nI (x + w)) (nI (y + h)) (nI ((a.2.1.take k).filter (inT x y w h)).length) (nI k) = some (ax_up I r 2 (nI (a.2.1.filter (inT x y w h)).length), R'') ∧ KQ R'' f'' g p q ∧ (∀ s j, s ≠ r → f'' s j = f s j) ∧ (∀ j t, (a.2.1.filter (inT x y w h))[j]? = some t → KT I (f'' r j) t) ∧ ∀ i k, 210 ≤ i → R'' i k = R i k := by
  obtain ⟨⟨p1, p2, p3, p4⟩, pt, pn⟩ := hP
  have l40 := ha.2.1.1
  have oW := ha.1
  have hr4 := P_r hr
  intro m
  induction m with
  | zero =>
    intro n k R' f' hk hn' hQ hf hA hH
    obtain ⟨n, rfl⟩ : ∃ n', n = n' + 1 := ⟨n - 1, by omega⟩
    have hk : k = a.2.1.length := by omega
    subst hk
    rw [List.take_length] at hA ⊢
    rw [d_P_keepTilesWithin_6, p3, if_pos (nI_le (Nat.le_refl _) (by omega)), ob]
    exact ⟨R', f', rfl, hQ, fun s j z => hf s j (Or.inl z), hA, hH⟩
  | succ m ih =>
    intro n k R' f' hk hn' hQ hf hA hH
    obtain ⟨n, rfl⟩ : ∃ n', n = n' + 1 := ⟨n - 1, by omega⟩
    have hlt : k < a.2.1.length := by omega
    obtain ⟨t, ht⟩ : ∃ t, a.2.1[k]? = some t := ⟨_, List.getElem?_eq_getElem hlt⟩
    obtain ⟨-, ⟨o1, o2⟩, -⟩ := ha.2.2.1 t (List.mem_of_getElem? ht)
    have fk : f' r k = f r k := hf r k (Or.inr (Nat.le_refl _))
    have hT : KT I (f' r k) t := by rw [fk]; exact pt k t ht
    have hle := take_filter_len (inT x y w h) a.2.1 k
    rw [d_P_keepTilesWithin_6, p3, if_neg (nI_ge hlt (by omega)), (hQ.2.2.1 r hr).1, ob, kxT hr (by omega), ob, (hQ.2.2.2.1 r k hr (by omega)).1, ob, k_within hT (by omega) (by omega) b3 b4, ob]
    cases hz : inT x y w h t with
    | false =>
      have et : (a.2.1.take (k + 1)).filter (inT x y w h) = (a.2.1.take k).filter (inT x y w h) := by
        rw [take_succ_f ht, List.filter_append, List.filter_cons, hz]
        simp
      have := ih n (k + 1) R' f' (by omega) (by omega) hQ (fun s j z => hf s j (by omega)) (by rw [et]; exact hA) hH
      rw [et] at this
      unfold d_P_keepTilesWithin_63
      rw [if_pos bF, nI_1]
      exact this
    | true =>
      have et : (a.2.1.take (k + 1)).filter (inT x y w h) = (a.2.1.take k).filter (inT x y w h) ++ [t] := by
        rw [take_succ_f ht, List.filter_append, List.filter_cons, hz]
        simp
      obtain ⟨c, hc⟩ : ∃ c, c = ((a.2.1.take k).filter (inT x y w h)).length := ⟨_, rfl⟩
      have eln : ((a.2.1.take (k + 1)).filter (inT x y w h)).length = c + 1 := by rw [et, List.length_append, ← hc]; rfl
      rw [← hc] at hle ⊢
      have e0 : ax_up R' (r + 1) k (some (f' r c)) r 0 = some (r + 1) := by rw [ax_up_ne (by omega)]; exact (hQ.2.2.1 r hr).1
      unfold d_P_keepTilesWithin_63
      rw [if_neg bT, ob, ob, kxT hr (show c < 40 by omega), ob, (hQ.2.2.2.1 r c hr (by omega)).1, ob, kxT hr (show k < 40 by omega), ob, ob, e0, ob, kxT hr (show c < 40 by omega), ob, ob, nI_1, nI_1]
      have := ih n (k + 1) _ (swp f' r k r c) (by omega) (by omega) (KQ_swpT hQ hr hr (show k < 40 by omega) (show c < 40 by omega)) (fun s j z => ?_) (fun j t' hj => ?_) (fun i m z => ?_)
      · rw [eln] at this
        exact this
      · rw [swp_3 (by omega) (by omega)]
        exact hf s j (by omega)
      · rw [et] at hj
        by_cases hjl : j < c
        · rw [List.getElem?_append_left (by omega)] at hj
          rw [swp_3 (by omega) (by omega)]
          exact hA j t' hj
        · rw [List.getElem?_append_right (by omega), ← hc] at hj
          have hzz : j - c < 1 := by
            have := (List.getElem?_eq_some_iff.mp hj).1
            simpa using this
          have hj2 : j = c := by omega
          subst hj2
          simp at hj
          subst hj
          rw [swp_1]
          exact hT
      · rw [ax_up_ne (by omega), ax_up_ne (by omega)]
        exact hH i m z
theorem k_keepN (hr : isP r) (hP : KP I f g r a) (ha : okP a) {x y w h : Nat} (b3 : x + w ≤ 400) (b4 : y + h ≤ 400) : ∀ (m n k : Nat) (R' : ax_R) (g' : Nat → Nat → Nat), k + m = a.2.2.length → m < n → KQ R' f g' p q → (∀ s j, s ≠ r ∨ k ≤ j → g' s j = g s j) → (∀ j t, ((a.2.2.take k).filter (inN x y w h))[j]? = some t → KN I (g' r j) t) → (∀ i k, 210 ≤ i → R' i k = R i k) → ∃ R'' g'', d_P_keepNotesWithin_6 oS n I R' r (nI x) (nI y) (nI (x + w)) (nI (y + h)) (nI ((a.2.2.take k).filter (inN x y w h)).length) (nI k) = some (ax_up I r 3 (nI (a.2.2.filter (inN x y w h)).length), R'') ∧ KQ R'' f g'' p q ∧ (∀ s j, s ≠ r → g'' s j = g s j) ∧ (∀ j t, (a.2.2.filter (inN x y w h))[j]? = some t → KN I (g'' r j) t) ∧ ∀ i k, 210 ≤ i → R'' i k = R i k := by
  obtain ⟨⟨p1, p2, p3, p4⟩, pt, pn⟩ := hP
  have l20 := ha.2.1.2
  have oW := ha.1
  have hr4 := P_r hr
  intro m
  induction m with
  | zero =>
    intro n k R' g' hk hn' hQ hf hA hH
    obtain ⟨n, rfl⟩ : ∃ n', n = n' + 1 := ⟨n - 1, by omega⟩
    have hk : k = a.2.2.length := by omega
    subst hk
    rw [List.take_length] at hA ⊢
    rw [d_P_keepNotesWithin_6, p4, if_pos (nI_le (Nat.le_refl _) (by omega)), ob]
    exact ⟨R', g', rfl, hQ, fun s j z => hf s j (Or.inl z), hA, hH⟩
  | succ m ih =>
    intro n k R' g' hk hn' hQ hf hA hH
    obtain ⟨n, rfl⟩ : ∃ n', n = n' + 1 := ⟨n - 1, by omega⟩
    have hlt : k < a.2.2.length := by omega
    obtain ⟨t, ht⟩ : ∃ t, a.2.2[k]? = some t := ⟨_, List.getElem?_eq_getElem hlt⟩
    obtain ⟨o1, o2, -⟩ := ha.2.2.2.1 t (List.mem_of_getElem? ht)
    have fk : g' r k = g r k := hf r k (Or.inr (Nat.le_refl _))
    have hT : KN I (g' r k) t := by rw [fk]; exact pn k t ht
    have hle := take_filter_len (inN x y w h) a.2.2 k
    rw [d_P_keepNotesWithin_6, p4, if_neg (nI_ge hlt (by omega)), (hQ.2.2.1 r hr).2, ob, kxN hr (by omega), ob, (hQ.2.2.2.2.1 r k hr (by omega)).1, ob, k_withinN hT (by omega) (by omega) b3 b4, ob]
    cases hz : inN x y w h t with
    | false =>
      have et : (a.2.2.take (k + 1)).filter (inN x y w h) = (a.2.2.take k).filter (inN x y w h) := by
        rw [take_succ_f ht, List.filter_append, List.filter_cons, hz]
        simp
      have := ih n (k + 1) R' g' (by omega) (by omega) hQ (fun s j z => hf s j (by omega)) (by rw [et]; exact hA) hH
      rw [et] at this
      unfold d_P_keepNotesWithin_63
      rw [if_pos bF, nI_1]
      exact this
    | true =>
      have et : (a.2.2.take (k + 1)).filter (inN x y w h) = (a.2.2.take k).filter (inN x y w h) ++ [t] := by
        rw [take_succ_f ht, List.filter_append, List.filter_cons, hz]
        simp
      obtain ⟨c, hc⟩ : ∃ c, c = ((a.2.2.take k).filter (inN x y w h)).length := ⟨_, rfl⟩
      have eln : ((a.2.2.take (k + 1)).filter (inN x y w h)).length = c + 1 := by rw [et, List.length_append, ← hc]; rfl
      rw [← hc] at hle ⊢
      have e0 : ax_up R' (r + 82) k (some (g' r c)) r 1 = some (r + 82) := by rw [ax_up_ne (by omega)]; exact (hQ.2.2.1 r hr).2
      unfold d_P_keepNotesWithin_63
      rw [if_neg bT, ob, ob, kxN hr (show c < 20 by omega), ob, (hQ.2.2.2.2.1 r c hr (by omega)).1, ob, kxN hr (show k < 20 by omega), ob, ob, e0, ob, kxN hr (show c < 20 by omega), ob, ob, nI_1, nI_1]
      have := ih n (k + 1) _ (swp g' r k r c) (by omega) (by omega) (KQ_swpN hQ hr hr (show k < 20 by omega) (show c < 20 by omega)) (fun s j z => ?_) (fun j t' hj => ?_) (fun i m z => ?_)
      · rw [eln] at this
        exact this
      · rw [swp_3 (by omega) (by omega)]
        exact hf s j (by omega)
      · rw [et] at hj
        by_cases hjl : j < c
        · rw [List.getElem?_append_left (by omega)] at hj
          rw [swp_3 (by omega) (by omega)]
          exact hA j t' hj
        · rw [List.getElem?_append_right (by omega), ← hc] at hj
          have hzz : j - c < 1 := by
            have := (List.getElem?_eq_some_iff.mp hj).1
            simpa using this
          have hj2 : j = c := by omega
          subst hj2
          simp at hj
          subst hj
          rw [swp_1]
          exact hT
      · rw [ax_up_ne (by omega), ax_up_ne (by omega)]
        exact hH i m z
end KC
