/-! the class: its cells -/
def isT (u : Nat) : Prop := (6 ≤ u ∧ u ≤ 84 ∧ u % 2 = 0) ∨ (109 ≤ u ∧ u ≤ 187 ∧ u % 2 = 1)
def isN (u : Nat) : Prop := (87 ≤ u ∧ u ≤ 106) ∨ (190 ≤ u ∧ u ≤ 209)
def isP (r : Nat) : Prop := r = 4 ∨ r = 107
def KT (I : ax_I) (u : Nat) (t : Tl) : Prop := (I u 2 = nI t.1.1 ∧ I u 3 = nI t.1.2 ∧ I u 4 = nI t.2.1.1 ∧ I u 5 = nI t.2.1.2 ∧ I u 6 = nI t.2.2.1 ∧ I u 1 = nI t.2.2.2.length) ∧ ∀ j b, t.2.2.2[j]? = some b → I (u + 1) j = nI b
def KN (I : ax_I) (u : Nat) (n : Nt) : Prop := I u 0 = nI n.1 ∧ I u 1 = nI n.2.1 ∧ I u 2 = nI n.2.2
/-- f, g: which tile, which note stands where; p is THIS one, q the other -/
def KQ (R : ax_R) (f g : Nat → Nat → Nat) (p q : Nat) : Prop :=
  ((p = 4 ∧ q = 107) ∨ (p = 107 ∧ q = 4)) ∧ (R 0 4 = some p ∧ R 0 5 = some q ∧ R 0 2 = some 1 ∧ R 0 3 = some 3 ∧ R 1 0 = some 2) ∧
  (∀ r, isP r → R r 0 = some (r + 1) ∧ R r 1 = some (r + 82)) ∧ (∀ r k, isP r → k < 40 → R (r + 1) k = some (f r k) ∧ isT (f r k)) ∧ (∀ r k, isP r → k < 20 → R (r + 82) k = some (g r k) ∧ isN (g r k)) ∧
  (∀ u, isT u → R u 0 = some (u + 1)) ∧ (∀ r k s j, isP r → isP s → k < 40 → j < 40 → f r k = f s j → r = s ∧ k = j) ∧ (∀ r k s j, isP r → isP s → k < 20 → j < 20 → g r k = g s j → r = s ∧ k = j)
def KP (I : ax_I) (f g : Nat → Nat → Nat) (r : Nat) (p : Pc) : Prop := (I r 4 = nI p.1.1 ∧ I r 5 = nI p.1.2 ∧ I r 2 = nI p.2.1.length ∧ I r 3 = nI p.2.2.length) ∧ (∀ k t, p.2.1[k]? = some t → KT I (f r k) t) ∧ ∀ k n, p.2.2[k]? = some n → KN I (g r k) n
def KS (I : ax_I) (st : List Nat) : Prop := I 1 1 = nI st.length ∧ ∀ j b, st[j]? = some b → I 2 j = nI b
def KR (I : ax_I) (R : ax_R) (f g : Nat → Nat → Nat) (p q : Nat) (a b : Pc) (fw fh since : Nat) (st : List Nat) : Prop := KQ R f g p q ∧ KP I f g p a ∧ KP I f g q b ∧ I 0 0 = nI fw ∧ I 0 1 = nI fh ∧ I 0 6 = nI since ∧ KS I st
/-- above the class's ids nothing has changed -/
def hiI (I J : ax_I) : Prop := ∀ i m, 210 ≤ i → J i m = I i m
theorem KT_keep {I J : ax_I} {u : Nat} {t : Tl} (h : KT I u t) (e1 : ∀ i, J u i = I u i) (e2 : ∀ i, J (u + 1) i = I (u + 1) i) : KT J u t := by
  obtain ⟨⟨h1, h2, h3, h4, h5, h6⟩, h7⟩ := h
  exact ⟨⟨(e1 _).trans h1, (e1 _).trans h2, (e1 _).trans h3, (e1 _).trans h4, (e1 _).trans h5, (e1 _).trans h6⟩, fun j b hj => (e2 _).trans (h7 j b hj)⟩
theorem KN_keep {I J : ax_I} {u : Nat} {n : Nt} (h : KN I u n) (e1 : ∀ i, J u i = I u i) : KN J u n := ⟨(e1 _).trans h.1, (e1 _).trans h.2.1, (e1 _).trans h.2.2⟩
section KB
variable {I J : ax_I} {R : ax_R} {f g : Nat → Nat → Nat} {p q r fw fh since : Nat} {a b : Pc} {st : List Nat}
theorem KQ_P (h : KQ R f g p q) : isP p ∧ isP q ∧ p ≠ q := by
  rcases h.1 with ⟨rfl, rfl⟩ | ⟨rfl, rfl⟩
  · exact ⟨Or.inl rfl, Or.inr rfl, by omega⟩
  · exact ⟨Or.inr rfl, Or.inl rfl, by omega⟩
/-- a picture stays where its own cells stay -/
theorem KP_keep (h : KP I f g r a) (e0 : ∀ i, J r i = I r i) (e1 : ∀ k i, k < a.2.1.length → J (f r k) i = I (f r k) i ∧ J (f r k + 1) i = I (f r k + 1) i) (e2 : ∀ k i, k < a.2.2.length → J (g r k) i = I (g r k) i) : KP J f g r a := by
  obtain ⟨⟨h1, h2, h3, h4⟩, h5, h6⟩ := h
  refine ⟨⟨(e0 _).trans h1, (e0 _).trans h2, (e0 _).trans h3, (e0 _).trans h4⟩, fun k t hk => ?_, fun k n hk => ?_⟩
  · have hlt : k < a.2.1.length := (List.getElem?_eq_some_iff.mp hk).1
    exact KT_keep (h5 k t hk) (fun i => (e1 k i hlt).1) (fun i => (e1 k i hlt).2)
  · exact KN_keep (h6 k n hk) (fun i => e2 k i (List.getElem?_eq_some_iff.mp hk).1)
/-- what is written outside the pictures' cells leaves them -/
theorem KP_far (hQ : KQ R f g p q) (hr : isP r) (ha : okP a) (h : KP I f g r a) (e : ∀ i m, 4 ≤ i → i < 210 → J i m = I i m) : KP J f g r a := by
  have l := ha.2.1
  refine KP_keep h (fun i => e _ _ ?_ ?_) (fun k i hk => ⟨e _ _ ?_ ?_, e _ _ ?_ ?_⟩) (fun k i hk => e _ _ ?_ ?_)
  · rcases hr with rfl | rfl <;> omega
  · rcases hr with rfl | rfl <;> omega
  all_goals first | (have := (hQ.2.2.2.1 r k hr (by omega)).2; unfold isT at this; omega) | (have := (hQ.2.2.2.2.1 r k hr (by omega)).2; unfold isN at this; omega)
theorem KR_far (h : KR I R f g p q a b fw fh since st) (ha : okP a) (hb : okP b) (e : ∀ i m, i < 210 → J i m = I i m) : KR J R f g p q a b fw fh since st := by
  obtain ⟨hQ, h1, h2, h3, h4, h5, h6, h7⟩ := h
  obtain ⟨pp, pq, -⟩ := KQ_P hQ
  exact ⟨hQ, KP_far hQ pp ha h1 (fun i m _ z => e i m z), KP_far hQ pq hb h2 (fun i m _ z => e i m z), (e _ _ (by omega)).trans h3, (e _ _ (by omega)).trans h4, (e _ _ (by omega)).trans h5, (e _ _ (by omega)).trans h6, fun j c hj => (e _ _ (by omega)).trans (h7 j c hj)⟩
/-- the tool's own cells 7 and more, and row 3 -/
theorem KR_own (h : KR I R f g p q a b fw fh since st) (ha : okP a) (hb : okP b) {i k : Nat} {v : Int32} (hi : (i = 0 ∧ k = 7) ∨ i = 3 ∨ 210 ≤ i) : KR (ax_up I i k v) R f g p q a b fw fh since st := by
  obtain ⟨hQ, h1, h2, h3, h4, h5, h6, h7⟩ := h
  obtain ⟨pp, pq, -⟩ := KQ_P hQ
  refine ⟨hQ, KP_far hQ pp ha h1 (fun i m z1 z2 => ax_up_ne (by omega)), KP_far hQ pq hb h2 (fun i m z1 z2 => ax_up_ne (by omega)), (ax_up_ne (by omega)).trans h3, (ax_up_ne (by omega)).trans h4, (ax_up_ne (by omega)).trans h5, (ax_up_ne (by omega)).trans h6, fun j c hj => (ax_up_ne (by omega)).trans (h7 j c hj)⟩
end KB
theorem MR_far {I J : ax_I} {now fw fh since : Nat} {a b : Pc} {st : List Nat} (h : MR I now a b fw fh since st) (e : hiI I J) : MR J now a b fw fh since st := by
  have tk : ∀ m t, MT I m t → MT J m t := by
    intro m t ⟨⟨h1, h2, h3, h4, h5, h6⟩, h7⟩
    exact ⟨⟨(e _ _ (by omega)).trans h1, (e _ _ (by omega)).trans h2, (e _ _ (by omega)).trans h3, (e _ _ (by omega)).trans h4, (e _ _ (by omega)).trans h5, (e _ _ (by omega)).trans h6⟩, fun j b hj => (e _ _ (by omega)).trans (h7 j b hj)⟩
  have nk : ∀ m t, MN I m t → MN J m t := fun m t h => ⟨(e _ _ (by omega)).trans h.1, (e _ _ (by omega)).trans h.2.1, (e _ _ (by omega)).trans h.2.2⟩
  have pk : ∀ q p, MP I q p → MP J q p := by
    intro q p ⟨⟨h1, h2, h3, h4⟩, h5, h6⟩
    exact ⟨⟨(e _ _ (by omega)).trans h1, (e _ _ (by omega)).trans h2, (e _ _ (by omega)).trans h3, (e _ _ (by omega)).trans h4⟩, fun k t hk => tk _ _ (h5 k t hk), fun k n hk => nk _ _ (h6 k n hk)⟩
  obtain ⟨h1, h2, h3, h4, h5, h6, h7, h8, h9⟩ := h
  exact ⟨h1, (e _ _ (by omega)).trans h2, pk _ _ h3, pk _ _ h4, (e _ _ (by omega)).trans h5, (e _ _ (by omega)).trans h6, (e _ _ (by omega)).trans h7, (e _ _ (by omega)).trans h8, fun j b hj => (e _ _ (by omega)).trans (h9 j b hj)⟩
/-- the class's rows -/
theorem sB_d : ∀ u : Fin 210, ((6 ≤ u.1 ∧ u.1 ≤ 84 ∧ u.1 % 2 = 0) ∨ (109 ≤ u.1 ∧ u.1 ≤ 187 ∧ u.1 % 2 = 1)) → oS (u.1 + 1) = some (.inr (0, 12)) := by decide +kernel
theorem sB {u : Nat} (h : isT u) : oS (u + 1) = some (.inr (0, 12)) := sB_d ⟨u, by unfold isT at h; omega⟩ h
theorem sT {r : Nat} (h : isP r) : oS (r + 1) = some (.inr (2, 40)) := by
  rcases h with rfl | rfl
  · exact fS_5
  · exact fS_108
theorem sN {r : Nat} (h : isP r) : oS (r + 82) = some (.inr (3, 20)) := by
  rcases h with rfl | rfl
  · exact fS_86
  · exact fS_189
theorem kxT {r k : Nat} (h : isP r) (hk : k < 40) : ax_ix oS (r + 1) (nI k) = some k := ax_ix_k (sT h) rfl hk (by omega)
theorem kxN {r k : Nat} (h : isP r) (hk : k < 20) : ax_ix oS (r + 82) (nI k) = some k := ax_ix_k (sN h) rfl hk (by omega)
theorem kxB {u k : Nat} (h : isT u) (hk : k < 12) : ax_ix oS (u + 1) (nI k) = some k := ax_ix_k (sB h) rfl hk (by omega)
theorem kx3 {k : Nat} (hk : k < 4) : ax_ix oS 3 (nI k) = some k := ax_ix_k fS_3 rfl hk (by omega)
theorem kx2 {k : Nat} (hk : k < 1148) : ax_ix oS 2 (nI k) = some k := ax_ix_k fS_2 rfl hk (by omega)
theorem klT {r : Nat} (h : isP r) : ax_len oS (r + 1) = 40 := ax_len_s (sT h)
theorem klN {r : Nat} (h : isP r) : ax_len oS (r + 82) = 20 := ax_len_s (sN h)
theorem klB {u : Nat} (h : isT u) : ax_len oS (u + 1) = 12 := ax_len_s (sB h)
theorem kl2 : ax_len oS 2 = 1148 := ax_len_s fS_2
/-- a loop over tiles, or over notes, that changes them one by one -/
theorem k_loop {X α : Type} (L : Nat → ax_I → Int32 → Option X) (fin : ax_I → Option X) (Q : ax_I → Nat → α → Prop) (F : α → α) (f : Nat → Nat) (l : List α) (I : ax_I)
    (keep : ∀ J J' k k' t, k < l.length → k' < l.length → k ≠ k' → (∀ i m, i ≠ f k' → J' i m = J i m) → Q J (f k) t → Q J' (f k) t)
    (stop : ∀ n J, (∀ i m, (∀ k, k < l.length → i ≠ f k) → J i m = I i m) → L (n + 1) J (nI l.length) = fin J)
    (step : ∀ n J k t, l[k]? = some t → (∀ i m, (∀ k, k < l.length → i ≠ f k) → J i m = I i m) → Q J (f k) t → ∃ J', L (n + 1) J (nI k) = L n J' (nI (k + 1)) ∧ Q J' (f k) (F t) ∧ ∀ i m, i ≠ f k → J' i m = J i m)
    (start : ∀ k t, l[k]? = some t → Q I (f k) t) (n : Nat) (hn : l.length < n) :
    ∃ J, L n I 0 = fin J ∧ (∀ k t, l[k]? = some t → Q J (f k) (F t)) ∧ ∀ i m, (∀ k, k < l.length → i ≠ f k) → J i m = I i m := by
  have main : ∀ (m n k : Nat) (J : ax_I), k + m = l.length → m < n → (∀ i m, (∀ k, k < l.length → i ≠ f k) → J i m = I i m) → (∀ j t, j < k → l[j]? = some t → Q J (f j) (F t)) → (∀ j t, k ≤ j → l[j]? = some t → Q J (f j) t) → ∃ J', L n J (nI k) = fin J' ∧ (∀ k t, l[k]? = some t → Q J' (f k) (F t)) ∧ ∀ i m, (∀ k, k < l.length → i ≠ f k) → J' i m = I i m := by
    intro m
    induction m with
    | zero =>
      intro n k J hk hn hF hA hB
      obtain ⟨n, rfl⟩ : ∃ n', n = n' + 1 := ⟨n - 1, by omega⟩
      have hk : k = l.length := by omega
      subst hk
      exact ⟨J, stop n J hF, fun j t hj => hA j t (List.getElem?_eq_some_iff.mp hj).1 hj, hF⟩
    | succ m ih =>
      intro n k J hk hn hF hA hB
      obtain ⟨n, rfl⟩ : ∃ n', n = n' + 1 := ⟨n - 1, by omega⟩
      have hlt : k < l.length := by omega
      obtain ⟨t, ht⟩ : ∃ t, l[k]? = some t := ⟨_, List.getElem?_eq_getElem hlt⟩
      obtain ⟨J', e, q, fr⟩ := step n J k t ht hF (hB k t (Nat.le_refl _) ht)
      rw [e]
      refine ih n (k + 1) J' (by omega) (by omega) (fun i m z => (fr i m (z k hlt)).trans (hF i m z)) (fun j u hj hu => ?_) (fun j u hj hu => ?_)
      · by_cases ej : j = k
        · subst ej
          rw [ht] at hu
          rw [← Option.some.inj hu]
          exact q
        · exact keep J J' j k _ (List.getElem?_eq_some_iff.mp hu).1 hlt ej fr (hA j u (by omega) hu)
      · exact keep J J' j k _ (List.getElem?_eq_some_iff.mp hu).1 hlt (by omega) fr (hB j u (by omega) hu)
  exact main l.length n 0 I (by omega) hn (fun _ _ _ => rfl) (fun j t hj => by omega) (fun j t _ hj => start j t hj)
/-- two places are exchanged -/
def swp (f : Nat → Nat → Nat) (r i s j : Nat) : Nat → Nat → Nat := fun a b => if a = s ∧ b = j then f r i else if a = r ∧ b = i then f s j else f a b
theorem swp_1 (f : Nat → Nat → Nat) (r i s j : Nat) : swp f r i s j s j = f r i := if_pos ⟨rfl, rfl⟩
theorem swp_2 (f : Nat → Nat → Nat) (r i s j : Nat) : swp f r i s j r i = f s j := by
  unfold swp
  split
  · rename_i z
    rw [z.1, z.2]
  · rw [if_pos ⟨rfl, rfl⟩]
theorem swp_3 {f : Nat → Nat → Nat} {r i s j a b : Nat} (h1 : ¬ (a = s ∧ b = j)) (h2 : ¬ (a = r ∧ b = i)) : swp f r i s j a b = f a b := by
  unfold swp
  rw [if_neg h1, if_neg h2]
theorem swp_inj {f : Nat → Nat → Nat} {N : Nat} (h : ∀ r k s j, isP r → isP s → k < N → j < N → f r k = f s j → r = s ∧ k = j) {r i s j : Nat} (hr : isP r) (hs : isP s) (hi : i < N) (hj : j < N) : ∀ a k b m, isP a → isP b → k < N → m < N → swp f r i s j a k = swp f r i s j b m → a = b ∧ k = m := by
  intro a k b m ha hb hk hm e
  unfold swp at e
  split at e
  · rename_i z1
    split at e
    · rename_i z2
      omega
    · rename_i z2
      split at e
      · rename_i z3
        have := h _ _ _ _ hr hs hi hj e
        omega
      · rename_i z3
        have := h _ _ _ _ hr hb hi hm e
        omega
  · rename_i z1
    split at e
    · rename_i z2
      split at e
      · rename_i z3
        have := h _ _ _ _ hs hr hj hi e
        omega
      · rename_i z3
        split at e
        · rename_i z4
          omega
        · rename_i z4
          have := h _ _ _ _ hs hb hj hm e
          omega
    · rename_i z2
      split at e
      · rename_i z3
        have := h _ _ _ _ ha hr hk hi e
        omega
      · rename_i z3
        split at e
        · rename_i z4
          have := h _ _ _ _ ha hs hk hj e
          omega
        · exact h _ _ _ _ ha hb hk hm e
theorem KQ_swpT {R : ax_R} {f g : Nat → Nat → Nat} {p q : Nat} (h : KQ R f g p q) {r i s j : Nat} (hr : isP r) (hs : isP s) (hi : i < 40) (hj : j < 40) : KQ (ax_up (ax_up R (r + 1) i (some (f s j))) (s + 1) j (some (f r i))) (swp f r i s j) g p q := by
  obtain ⟨h1, ⟨k1, k2, k3, k4, k5⟩, h3, h4, h5, h6, h7, h8⟩ := h
  have rr : r + 1 = 5 ∨ r + 1 = 108 := by rcases hr with rfl | rfl <;> omega
  have ss : s + 1 = 5 ∨ s + 1 = 108 := by rcases hs with rfl | rfl <;> omega
  have k : ∀ a b, a ≠ 5 → a ≠ 108 → ax_up (ax_up R (r + 1) i (some (f s j))) (s + 1) j (some (f r i)) a b = R a b := fun a b z1 z2 => by rw [ax_up_ne (by omega), ax_up_ne (by omega)]
  refine ⟨h1, ⟨(k _ _ (by omega) (by omega)).trans k1, (k _ _ (by omega) (by omega)).trans k2, (k _ _ (by omega) (by omega)).trans k3, (k _ _ (by omega) (by omega)).trans k4, (k _ _ (by omega) (by omega)).trans k5⟩, fun a ha => ?_, fun a b ha hb => ?_, fun a b ha hb => ?_, fun u hu => ?_, swp_inj h7 hr hs hi hj, h8⟩
  · have z : a ≠ 5 ∧ a ≠ 108 := by rcases ha with rfl | rfl <;> omega
    exact ⟨(k _ _ z.1 z.2).trans (h3 a ha).1, (k _ _ z.1 z.2).trans (h3 a ha).2⟩
  · by_cases z1 : a = s ∧ b = j
    · obtain ⟨rfl, rfl⟩ := z1
      rw [ax_up_self, swp_1]
      exact ⟨rfl, (h4 r i hr hi).2⟩
    · by_cases z2 : a = r ∧ b = i
      · obtain ⟨rfl, rfl⟩ := z2
        rw [ax_up_ne (by omega), ax_up_self, swp_2]
        exact ⟨rfl, (h4 s j hs hj).2⟩
      · rw [ax_up_ne (by omega), ax_up_ne (by omega), swp_3 z1 z2]
        exact h4 a b ha hb
  · have z : a + 82 ≠ 5 ∧ a + 82 ≠ 108 := by rcases ha with rfl | rfl <;> omega
    rw [k _ _ z.1 z.2]
    exact h5 a b ha hb
  · have z : u ≠ 5 ∧ u ≠ 108 := by unfold isT at hu; omega
    rw [k _ _ z.1 z.2]
    exact h6 u hu
theorem KQ_swpN {R : ax_R} {f g : Nat → Nat → Nat} {p q : Nat} (h : KQ R f g p q) {r i s j : Nat} (hr : isP r) (hs : isP s) (hi : i < 20) (hj : j < 20) : KQ (ax_up (ax_up R (r + 82) i (some (g s j))) (s + 82) j (some (g r i))) f (swp g r i s j) p q := by
  obtain ⟨h1, ⟨k1, k2, k3, k4, k5⟩, h3, h4, h5, h6, h7, h8⟩ := h
  have rr : r + 82 = 86 ∨ r + 82 = 189 := by rcases hr with rfl | rfl <;> omega
  have ss : s + 82 = 86 ∨ s + 82 = 189 := by rcases hs with rfl | rfl <;> omega
  have k : ∀ a b, a ≠ 86 → a ≠ 189 → ax_up (ax_up R (r + 82) i (some (g s j))) (s + 82) j (some (g r i)) a b = R a b := fun a b z1 z2 => by rw [ax_up_ne (by omega), ax_up_ne (by omega)]
  refine ⟨h1, ⟨(k _ _ (by omega) (by omega)).trans k1, (k _ _ (by omega) (by omega)).trans k2, (k _ _ (by omega) (by omega)).trans k3, (k _ _ (by omega) (by omega)).trans k4, (k _ _ (by omega) (by omega)).trans k5⟩, fun a ha => ?_, fun a b ha hb => ?_, fun a b ha hb => ?_, fun u hu => ?_, h7, swp_inj h8 hr hs hi hj⟩
  · have z : a ≠ 86 ∧ a ≠ 189 := by rcases ha with rfl | rfl <;> omega
    exact ⟨(k _ _ z.1 z.2).trans (h3 a ha).1, (k _ _ z.1 z.2).trans (h3 a ha).2⟩
  · have z : a + 1 ≠ 86 ∧ a + 1 ≠ 189 := by rcases ha with rfl | rfl <;> omega
    rw [k _ _ z.1 z.2]
    exact h4 a b ha hb
  · by_cases z1 : a = s ∧ b = j
    · obtain ⟨rfl, rfl⟩ := z1
      rw [ax_up_self, swp_1]
      exact ⟨rfl, (h5 r i hr hi).2⟩
    · by_cases z2 : a = r ∧ b = i
      · obtain ⟨rfl, rfl⟩ := z2
        rw [ax_up_ne (by omega), ax_up_self, swp_2]
        exact ⟨rfl, (h5 s j hs hj).2⟩
      · rw [ax_up_ne (by omega), ax_up_ne (by omega), swp_3 z1 z2]
        exact h5 a b ha hb
  · have z : u ≠ 86 ∧ u ≠ 189 := by unfold isT at hu; omega
    rw [k _ _ z.1 z.2]
    exact h6 u hu
