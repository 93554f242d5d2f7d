/-! the class: its cells -/
def isT (u : Nat) : Prop := (6 ≤ u ∧ u ≤ 84 ∧ u % 2 = 0) ∨ (109 ≤ u ∧ u ≤ 187 ∧ u % 2 = 1)
def isN (u : Nat) : Prop := (87 ≤ u ∧ u ≤ 106) ∨ (190 ≤ u ∧ u ≤ 209)
def isP (r : Nat) : Prop := r = 4 ∨ r = 107
def KT (I : ax_I) (u : Nat) (t : Tl) : Prop := (I u 2 = nI t.1.1 ∧ I u 3 = nI t.1.2 ∧ I u 4 = nI t.2.1.1 ∧ I u 5 = nI t.2.1.2 ∧ I u 6 = nI t.2.2.1 ∧ I u 1 = nI t.2.2.2.length) ∧ ∀ j b, t.2.2.2[j]? = some b → I (u + 1) j = nI b
def KN (I : ax_I) (u : Nat) (n : Nt) : Prop := I u 0 = nI n.1 ∧ I u 1 = nI n.2.1 ∧ I u 2 = nI n.2.2
/-- f, g: which tile, which note stands where; p is THIS one, q the other -/
def KQ (R : ax_R) (f g : Nat → Nat → Nat) (p q : Nat) : Prop :=
  ((p = 4 ∧ q = 107) ∨ (p = 107 ∧ q = 4)) ∧ (R 0 4 = some p ∧ R 0 5 = some q ∧ R 0 2 = some 1 ∧ R 0 3 = some 3 ∧ R 1 0 = some 2) ∧
  (∀ r, isP r → R r 0 = some (r + 1) ∧ R r 1 = some (r + 82)) ∧ (∀ r k, isP r → k < 40 → R (r + 1) k = some (f r k) ∧ isT (f r k)) ∧ (∀ r k, isP r → k < 20 → R (r + 82) k = some (g r k) ∧ isN (g r k)) ∧
  (∀ u, isT u → R u 0 = some (u + 1)) ∧ (∀ r k s j, isP r → isP s → k < 40 → j < 40 → f r k = f s j → r = s ∧ k = j) ∧ (∀ r k s j, isP r → isP s → k < 20 → j < 20 → g r k = g s j → r = s ∧ k = j)
def KP (I : ax_I) (f g : Nat → Nat → Nat) (r : Nat) (p : Pc) : Prop := (I r 4 = nI p.1.1 ∧ I r 5 = nI p.1.2 ∧ I r 2 = nI p.2.1.length ∧ I r 3 = nI p.2.2.length) ∧ (∀ k t, p.2.1[k]? = some t → KT I (f r k) t) ∧ ∀ k n, p.2.2[k]? = some n → KN I (g r k) n
def KS (I : ax_I) (st : List Nat) : Prop := I 1 1 = nI st.length ∧ ∀ j b, st[j]? = some b → I 2 j = nI b
def KR (I : ax_I) (R : ax_R) (f g : Nat → Nat → Nat) (p q : Nat) (a b : Pc) (fw fh since : Nat) (st : List Nat) : Prop := KQ R f g p q ∧ KP I f g p a ∧ KP I f g q b ∧ I 0 0 = nI fw ∧ I 0 1 = nI fh ∧ I 0 6 = nI since ∧ KS I st
/-- above the class's ids nothing has changed -/
def hiI (I J : ax_I) : Prop := ∀ i m, 210 ≤ i → J i m = I i m
theorem KT_keep {I J : ax_I} {u : Nat} {t : Tl} (h : KT I u t) (e1 : ∀ i, J u i = I u i) (e2 : ∀ i, J (u + 1) i = I (u + 1) i) : KT J u t := by
  obtain ⟨⟨h1, h2, h3, h4, h5, h6⟩, h7⟩ := h
  exact ⟨⟨(e1 _).trans h1, (e1 _).trans h2, (e1 _).trans h3, (e1 _).trans h4, (e1 _).trans h5, (e1 _).trans h6⟩, fun j b hj => (e2 _).trans (h7 j b hj)⟩
theorem KN_keep {I J : ax_I} {u : Nat} {n : Nt} (h : KN I u n) (e1 : ∀ i, J u i = I u i) : KN J u n := ⟨(e1 _).trans h.1, (e1 _).trans h.2.1, (e1 _).trans h.2.2⟩
section KB
variable {I J : ax_I} {R : ax_R} {f g : Nat → Nat → Nat} {p q r fw fh since : Nat} {a b : Pc} {st : List Nat}
theorem KQ_P (h : KQ R f g p q) : isP p ∧ isP q ∧ p ≠ q := by
  rcases h.1 with ⟨rfl, rfl⟩ | ⟨rfl, rfl⟩
  · exact ⟨Or.inl rfl, Or.inr rfl, by omega⟩
  · exact ⟨Or.inr rfl, Or.inl rfl, by omega⟩
/-- a picture stays where its own cells stay -/
theorem KP_keep (h : KP I f g r a) (e0 : ∀ i, J r i = I r i) (e1 : ∀ k i, k < a.2.1.length → J (f r k) i = I (f r k) i ∧ J (f r k + 1) i = I (f r k + 1) i) (e2 : ∀ k i, k < a.2.2.length → J (g r k) i = I (g r k) i) : KP J f g r a := by
  obtain ⟨⟨h1, h2, h3, h4⟩, h5, h6⟩ := h
  refine ⟨⟨(e0 _).trans h1, (e0 _).trans h2, (e0 _).trans h3, (e0 _).trans h4⟩, fun k t hk => ?_, fun k n hk => ?_⟩
  · have hlt : k < a.2.1.length := (List.getElem?_eq_some_iff.mp hk).1
    exact KT_keep (h5 k t hk) (fun i => (e1 k i hlt).1) (fun i => (e1 k i hlt).2)
  · exact KN_keep (h6 k n hk) (fun i => e2 k i (List.getElem?_eq_some_iff.mp hk).1)
/-- what is written outside the pictures' cells leaves them -/
theorem KP_far (hQ : KQ R f g p q) (hr : isP r) (ha : okP a) (h : KP I f g r a) (e : ∀ i m, 4 ≤ i → i < 210 → J i m = I i m) : KP J f g r a := by
  have l := ha.2.1
  refine KP_keep h (fun i => e _ _ ?_ ?_) (fun k i hk => ⟨e _ _ ?_ ?_, e _ _ ?_ ?_⟩) (fun k i hk => e _ _ ?_ ?_)
  · rcases hr with rfl | rfl <;> omega
  · rcases hr with rfl | rfl <;> omega
  all_goals first | (have := (hQ.2.2.2.1 r k hr (by omega)).2; unfold isT at this; omega) | (have := (hQ.2.2.2.2.1 r k hr (by omega)).2; unfold isN at this; omega)
theorem KR_far (h : KR I R f g p q a b fw fh since st) (ha : okP a) (hb : okP b) (e : ∀ i m, i < 210 → J i m = I i m) : KR J R f g p q a b fw fh since st := by
  obtain ⟨hQ, h1, h2, h3, h4, h5, h6, h7⟩ := h
  obtain ⟨pp, pq, -⟩ := KQ_P hQ
  exact ⟨hQ, KP_far hQ pp ha h1 (fun i m _ z => e i m z), KP_far hQ pq hb h2 (fun i m _ z => e i m z), (e _ _ (by omega)).trans h3, (e _ _ (by omega)).trans h4, (e _ _ (by omega)).trans h5, (e _ _ (by omega)).trans h6, fun j c hj => (e _ _ (by omega)).trans (h7 j c hj)⟩
/-- the tool's own cells 7 and more, and row 3 -/
theorem KR_own (h : KR I R f g p q a b fw fh since st) (ha : okP a) (hb : okP b) {i k : Nat} {v : Int32} (hi : (i = 0 ∧ k = 7) ∨ i = 3 ∨ 210 ≤ i) : KR (ax_up I i k v) R f g p q a b fw fh since st := by
  obtain ⟨hQ, h1, h2, h3, h4, h5, h6, h7⟩ := h
  obtain ⟨pp, pq, -⟩ := KQ_P hQ
  refine ⟨hQ, KP_far hQ pp ha h1 (fun i m z1 z2 => ax_up_ne (by omega)), KP_far hQ pq hb h2 (fun i m z1 z2 => ax_up_ne (by omega)), (ax_up_ne (by omega)).trans h3, (ax_up_ne (by omega)).trans h4, (ax_up_ne (by omega)).trans h5, (ax_up_ne (by omega)).trans h6, fun j c hj => (ax_up_ne (by omega)).trans (h7 j c hj)⟩
end KB
theorem MR_far {I J : ax_I} {now fw fh since : Nat} {a b : Pc} {st : List Nat} (h : MR I now a b fw fh since st) (e : hiI I J) : MR J now a b fw fh since st := by
  have tk : ∀ m t, MT I m t → MT J m t := by
    intro m t ⟨⟨h1, h2, h3, h4, h5, h6⟩, h7⟩
    exact ⟨⟨(e _ _ (by omega)).trans h1, (e _ _ (by omega)).trans h2, (e _ _ (by omega)).trans h3, (e _ _ (by omega)).trans h4, (e _ _ (by omega)).trans h5, (e _ _ (by omega)).trans h6⟩, fun j b hj => (e _ _ (by omega)).trans (h7 j b hj)⟩
  have nk : ∀ m t, MN I m t → MN J m t := fun m t h => ⟨(e _ _ (by omega)).trans h.1, (e _ _ (by omega)).trans h.2.1, (e _ _ (by omega)).trans h.2.2⟩
  have pk : ∀ q p, MP I q p → MP J q p := by
    intro q p ⟨⟨h1, h2, h3, h4⟩, h5, h6⟩
    exact ⟨⟨(e _ _ (by omega)).trans h1, (e _ _ (by omega)).trans h2, (e _ _ (by omega)).trans h3, (e _ _ (by omega)).trans h4⟩, fun k t hk => tk _ _ (h5 k t hk), fun k n hk => nk _ _ (h6 k n hk)⟩
  obtain ⟨h1, h2, h3, h4, h5, h6, h7, h8, h9⟩ := h
  exact ⟨h1, (e _ _ (by omega)).trans h2, pk _ _ h3, pk _ _ h4, (e _ _ (by omega)).trans h5, (e _ _ (by omega)).trans h6, (e _ _ (by omega)).trans h7, (e _ _ (by omega)).trans h8, fun j b hj => (e _ _ (by omega)).trans (h9 j b hj)⟩
/-- the class's rows -/
theorem sB_d : ∀ u : Fin 210, ((6 ≤ u.1 ∧ u.1 ≤ 84 ∧ u.1 % 2 = 0) ∨ (109 ≤ u.1 ∧ u.1 ≤ 187 ∧ u.1 % 2 = 1)) → oS (u.1 + 1) = some (.inr (0, 12)) := by decide +kernel
theorem sB {u : Nat} (h : isT u) : oS (u + 1) = some (.inr (0, 12)) := sB_d ⟨u, by unfold isT at h; omega⟩ h
theorem sT {r : Nat} (h : isP r) : oS (r + 1) = some (.inr (2, 40)) := by
  rcases h with rfl | rfl
  · exact fS_5
  · exact fS_108
theorem sN {r : Nat} (h : isP r) : oS (r + 82) = some (.inr (3, 20)) := by
  rcases h with rfl | rfl
  · exact fS_86
  · exact fS_189
theorem kxT {r k : Nat} (h : isP r) (hk : k < 40) : ax_ix oS (r + 1) (nI k) = some k := ax_ix_k (sT h) rfl hk (by omega)
theorem kxN {r k : Nat} (h : isP r) (hk : k < 20) : ax_ix oS (r + 82) (nI k) = some k := ax_ix_k (sN h) rfl hk (by omega)
theorem kxB {u k : Nat} (h : isT u) (hk : k < 12) : ax_ix oS (u + 1) (nI k) = some k := ax_ix_k (sB h) rfl hk (by omega)
theorem kx3 {k : Nat} (hk : k < 4) : ax_ix oS 3 (nI k) = some k := ax_ix_k fS_3 rfl hk (by omega)
theorem kx2 {k : Nat} (hk : k < 1148) : ax_ix oS 2 (nI k) = some k := ax_ix_k fS_2 rfl hk (by omega)
theorem klT {r : Nat} (h : isP r) : ax_len oS (r + 1) = 40 := ax_len_s (sT h)
theorem klN {r : Nat} (h : isP r) : ax_len oS (r + 82) = 20 := ax_len_s (sN h)
theorem klB {u : Nat} (h : isT u) : ax_len oS (u + 1) = 12 := ax_len_s (sB h)
theorem kl2 : ax_len oS 2 = 1148 := ax_len_s fS_2
/-- a loop over tiles, or over notes, that changes them one by one -/
theorem k_loop {X α : Type} (L : Nat → ax_I → Int32 → Option X) (fin : ax_I → Option X) (Q : ax_I → Nat → α → Prop) (F : α → α) (f : Nat → Nat) (l : List α) (I : ax_I)
    (keep : ∀ J J' k k' t, k < l.length → k' < l.length → k ≠ k' → (∀ i m, i ≠ f k' → J' i m = J i m) → Q J (f k) t → Q J' (f k) t)
    (stop : ∀ n J, (∀ i m, (∀ k, k < l.length → i ≠ f k) → J i m = I i m) → L (n + 1) J (nI l.length) = fin J)
    (step : ∀ n J k t, l[k]? = some t → (∀ i m, (∀ k, k < l.length → i ≠ f k) → J i m = I i m) → Q J (f k) t → ∃ J', L (n + 1) J (nI k) = L n J' (nI (k + 1)) ∧ Q J' (f k) (F t) ∧ ∀ i m, i ≠ f k → J' i m = J i m)
    (start : ∀ k t, l[k]? = some t → Q I (f k) t) (n : Nat) (hn : l.length < n) :
    ∃ J, L n I 0 = fin J ∧ (∀ k t, l[k]? = some t → Q J (f k) (F t)) ∧ ∀ i m, (∀ k, k < l.length → i ≠ f k) → J i m = I i m := by
  have main : ∀ (m n k : Nat) (J : ax_I), k + m = l.length → m < n → (∀ i m, (∀ k, k < l.length → i ≠ f k) → J i m = I i m) → (∀ j t, j < k → l[j]? = some t → Q J (f j) (F t)) → (∀ j t, k ≤ j → l[j]? = some t → Q J (f j) t) → ∃ J', L n J (nI k) = fin J' ∧ (∀ k t, l[k]? = some t → Q J' (f k) (F t)) ∧ ∀ i m, (∀ k, k < l.length → i ≠ f k) → J' i m = I i m := by
    intro m
    induction m with
    | zero =>
      intro n k J hk hn hF hA hB
      obtain ⟨n, rfl⟩ : ∃ n', n = n' + 1 := ⟨n - 1, by omega⟩
      have hk : k = l.length := by omega
      subst hk
      exact ⟨J, stop n J hF, fun j t hj => hA j t (List.getElem?_eq_some_iff.mp hj).1 hj, hF⟩
    | succ m ih =>
      intro n k J hk hn hF hA hB
      obtain ⟨n, rfl⟩ : ∃ n', n = n' + 1 := ⟨n - 1, by omega⟩
      have hlt : k < l.length := by omega
      obtain ⟨t, ht⟩ : ∃ t, l[k]? = some t := ⟨_, List.getElem?_eq_getElem hlt⟩
      obtain ⟨J', e, q, fr⟩ := step n J k t ht hF (hB k t (Nat.le_refl _) ht)
      rw [e]
      refine ih n (k + 1) J' (by omega) (by omega) (fun i m z => (fr i m (z k hlt)).trans (hF i m z)) (fun j u hj hu => ?_) (fun j u hj hu => ?_)
      · by_cases ej : j = k
        · subst ej
          rw [ht] at hu
          rw [← Option.some.inj hu]
          exact q
        · exact keep J J' j k _ (List.getElem?_eq_some_iff.mp hu).1 hlt ej fr (hA j u (by omega) hu)
      · exact keep J J' j k _ (List.getElem?_eq_some_iff.mp hu).1 hlt (by omega) fr (hB j u (by omega) hu)
  exact main l.length n 0 I (by omega) hn (fun _ _ _ => rfl) (fun j t hj => by omega) (fun j t _ hj => start j t hj)
/-- two places are exchanged -/
def swp (f : Nat → Nat → Nat) (r i s j : Nat) : Nat → Nat → Nat := fun a b => if a = s ∧ b = j then f r i else if a = r ∧ b = i then f s j else f a b
theorem swp_1 (f : Nat → Nat → Nat) (r i s j : Nat) : swp f r i s j s j = f r i := if_pos ⟨rfl, rfl⟩
theorem swp_2 (f : Nat → Nat → Nat) (r i s j : Nat) : swp f r i s j r i = f s j := by
  unfold swp
  split
  · rename_i z
    rw [z.1, z.2]
  · rw [if_pos ⟨rfl, rfl⟩]
theorem swp_3 {f : Nat → Nat → Nat} {r i s j a b : Nat} (h1 : ¬ (a = s ∧ b = j)) (h2 : ¬ (a = r ∧ b = i)) : swp f r i s j a b = f a b := by
  unfold swp
  rw [if_neg h1, if_neg h2]
theorem swp_inj {f : Nat → Nat → Nat} {N : Nat} (h : ∀ r k s j, isP r → isP s → k < N → j < N → f r k = f s j → r = s ∧ k = j) {r i s j : Nat} (hr : isP r) (hs : isP s) (hi : i < N) (hj : j < N) : ∀ a k b m, isP a → isP b → k < N → m < N → swp f r i s j a k = swp f r i s j b m → a = b ∧ k = m := by
  intro a k b m ha hb hk hm e
  unfold swp at e
  split at e
  · rename_i z1
    split at e
    · rename_i z2
      omega
    · rename_i z2
      split at e
      · rename_i z3
        have := h _ _ _ _ hr hs hi hj e
        omega
      · rename_i z3
        have := h _ _ _ _ hr hb hi hm e
        omega
  · rename_i z1
    split at e
    · rename_i z2
      split at e
      · rename_i z3
        have := h _ _ _ _ hs hr hj hi e
        omega
      · rename_i z3
        split at e
        · rename_i z4
          omega
        · rename_i z4
          have := h _ _ _ _ hs hb hj hm e
          omega
    · rename_i z2
      split at e
      · rename_i z3
        have := h _ _ _ _ ha hr hk hi e
        omega
      · rename_i z3
        split at e
        · rename_i z4
          have := h _ _ _ _ ha hs hk hj e
          omega
        · exact h _ _ _ _ ha hb hk hm e
theorem KQ_swpT {R : ax_R} {f g : Nat → Nat → Nat} {p q : Nat} (h : KQ R f g p q) {r i s j : Nat} (hr : isP r) (hs : isP s) (hi : i < 40) (hj : j < 40) : KQ (ax_up (ax_up R (r + 1) i (some (f s j))) (s + 1) j (some (f r i))) (swp f r i s j) g p q := by
  obtain ⟨h1, ⟨k1, k2, k3, k4, k5⟩, h3, h4, h5, h6, h7, h8⟩ := h
  have rr : r + 1 = 5 ∨ r + 1 = 108 := by rcases hr with rfl | rfl <;> omega
  have ss : s + 1 = 5 ∨ s + 1 = 108 := by rcases hs with rfl | rfl <;> omega
  have k : ∀ a b, a ≠ 5 → a ≠ 108 → ax_up (ax_up R (r + 1) i (some (f s j))) (s + 1) j (some (f r i)) a b = R a b := fun a b z1 z2 => by rw [ax_up_ne (by omega), ax_up_ne (by omega)]
  refine ⟨h1, ⟨(k _ _ (by omega) (by omega)).trans k1, (k _ _ (by omega) (by omega)).trans k2, (k _ _ (by omega) (by omega)).trans k3, (k _ _ (by omega) (by omega)).trans k4, (k _ _ (by omega) (by omega)).trans k5⟩, fun a ha => ?_, fun a b ha hb => ?_, fun a b ha hb => ?_, fun u hu => ?_, swp_inj h7 hr hs hi hj, h8⟩
  · have z : a ≠ 5 ∧ a ≠ 108 := by rcases ha with rfl | rfl <;> omega
    exact ⟨(k _ _ z.1 z.2).trans (h3 a ha).1, (k _ _ z.1 z.2).trans (h3 a ha).2⟩
  · by_cases z1 : a = s ∧ b = j
    · obtain ⟨rfl, rfl⟩ := z1
      rw [ax_up_self, swp_1]
      exact ⟨rfl, (h4 r i hr hi).2⟩
    · by_cases z2 : a = r ∧ b = i
      · obtain ⟨rfl, rfl⟩ := z2
        rw [ax_up_ne (by omega), ax_up_self, swp_2]
        exact ⟨rfl, (h4 s j hs hj).2⟩
      · rw [ax_up_ne (by omega), ax_up_ne (by omega), swp_3 z1 z2]
        exact h4 a b ha hb
  · have z : a + 82 ≠ 5 ∧ a + 82 ≠ 108 := by rcases ha with rfl | rfl <;> omega
    rw [k _ _ z.1 z.2]
    exact h5 a b ha hb
  · have z : u ≠ 5 ∧ u ≠ 108 := by unfold isT at hu; omega
    rw [k _ _ z.1 z.2]
    exact h6 u hu
theorem KQ_swpN {R : ax_R} {f g : Nat → Nat → Nat} {p q : Nat} (h : KQ R f g p q) {r i s j : Nat} (hr : isP r) (hs : isP s) (hi : i < 20) (hj : j < 20) : KQ (ax_up (ax_up R (r + 82) i (some (g s j))) (s + 82) j (some (g r i))) f (swp g r i s j) p q := by
  obtain ⟨h1, ⟨k1, k2, k3, k4, k5⟩, h3, h4, h5, h6, h7, h8⟩ := h
  have rr : r + 82 = 86 ∨ r + 82 = 189 := by rcases hr with rfl | rfl <;> omega
  have ss : s + 82 = 86 ∨ s + 82 = 189 := by rcases hs with rfl | rfl <;> omega
  have k : ∀ a b, a ≠ 86 → a ≠ 189 → ax_up (ax_up R (r + 82) i (some (g s j))) (s + 82) j (some (g r i)) a b = R a b := fun a b z1 z2 => by rw [ax_up_ne (by omega), ax_up_ne (by omega)]
  refine ⟨h1, ⟨(k _ _ (by omega) (by omega)).trans k1, (k _ _ (by omega) (by omega)).trans k2, (k _ _ (by omega) (by omega)).trans k3, (k _ _ (by omega) (by omega)).trans k4, (k _ _ (by omega) (by omega)).trans k5⟩, fun a ha => ?_, fun a b ha hb => ?_, fun a b ha hb => ?_, fun u hu => ?_, h7, swp_inj h8 hr hs hi hj⟩
  · have z : a ≠ 86 ∧ a ≠ 189 := by rcases ha with rfl | rfl <;> omega
    exact ⟨(k _ _ z.1 z.2).trans (h3 a ha).1, (k _ _ z.1 z.2).trans (h3 a ha).2⟩
  · have z : a + 1 ≠ 86 ∧ a + 1 ≠ 189 := by rcases ha with rfl | rfl <;> omega
    rw [k _ _ z.1 z.2]
    exact h4 a b ha hb
  · by_cases z1 : a = s ∧ b = j
    · obtain ⟨rfl, rfl⟩ := z1
      rw [ax_up_self, swp_1]
      exact ⟨rfl, (h5 r i hr hi).2⟩
    · by_cases z2 : a = r ∧ b = i
      · obtain ⟨rfl, rfl⟩ := z2
        rw [ax_up_ne (by omega), ax_up_self, swp_2]
        exact ⟨rfl, (h5 s j hs hj).2⟩
      · rw [ax_up_ne (by omega), ax_up_ne (by omega), swp_3 z1 z2]
        exact h5 a b ha hb
  · have z : u ≠ 86 ∧ u ≠ 189 := by unfold isT at hu; omega
    rw [k _ _ z.1 z.2]
    exact h6 u hu
/-! the class: tile, byteOf, note -/
theorem T_T {u v : Nat} (hu : isT u) (hv : isT v) : u + 1 ≠ v := by unfold isT at *; omega
theorem T_P {u r : Nat} (hu : isT u) (hr : isP r) : u ≠ r ∧ u + 1 ≠ r := by unfold isT isP at *; omega
theorem T_N {u v : Nat} (hu : isT u) (hv : isN v) : u ≠ v ∧ u + 1 ≠ v := by unfold isT isN at *; omega
theorem N_P {u r : Nat} (hu : isN u) (hr : isP r) : u ≠ r := by unfold isN isP at *; omega
theorem T_r {u : Nat} (hu : isT u) : 4 ≤ u ∧ u + 1 < 210 := by unfold isT at hu; omega
theorem N_r {u : Nat} (hu : isN u) : 4 ≤ u ∧ u < 210 := by unfold isN at hu; omega
theorem P_r {u : Nat} (hu : isP u) : 4 ≤ u ∧ u ≤ 107 := by unfold isP at hu; omega
/-- a picture's own cells -/
def own (f g : Nat → Nat → Nat) (p i : Nat) : Prop := i = p ∨ (∃ k, k < 40 ∧ (i = f p k ∨ i = f p k + 1)) ∨ ∃ k, k < 20 ∧ i = g p k
section KM
variable {I J : ax_I} {R : ax_R} {f g : Nat → Nat → Nat} {p q r fw fh since : Nat} {a a' b : Pc} {st : List Nat}
theorem own_r (hQ : KQ R f g p q) (hr : isP r) {i : Nat} (h : own f g r i) : 4 ≤ i ∧ i < 210 := by
  rcases h with rfl | ⟨k, hk, z⟩ | ⟨k, hk, z⟩
  · have := P_r hr
    omega
  · have := T_r (hQ.2.2.2.1 r k hr hk).2
    omega
  · have := N_r (hQ.2.2.2.2.1 r k hr hk).2
    omega
/-- two pictures' cells are apart -/
theorem own_ne (hQ : KQ R f g p q) {s i : Nat} (hr : isP r) (hs : isP s) (hrs : r ≠ s) (h : own f g r i) : ¬ own f g s i := by
  intro h2
  have tr := fun k hk => (hQ.2.2.2.1 r k hr hk).2
  have ts := fun k hk => (hQ.2.2.2.1 s k hs hk).2
  have nr := fun k hk => (hQ.2.2.2.2.1 r k hr hk).2
  have ns := fun k hk => (hQ.2.2.2.2.1 s k hs hk).2
  rcases h with rfl | ⟨k, hk, z⟩ | ⟨k, hk, z⟩
  · rcases h2 with z2 | ⟨j, hj, z2⟩ | ⟨j, hj, z2⟩
    · exact hrs z2
    · have := T_P (ts j hj) hr; omega
    · have := N_P (ns j hj) hr; omega
  · rcases h2 with z2 | ⟨j, hj, z2⟩ | ⟨j, hj, z2⟩
    · have := T_P (tr k hk) hs; omega
    · have e1 := T_T (tr k hk) (ts j hj)
      have e2 := T_T (ts j hj) (tr k hk)
      have e3 : f r k ≠ f s j := fun e => hrs (hQ.2.2.2.2.2.2.1 r k s j hr hs hk hj e).1
      omega
    · have := T_N (tr k hk) (ns j hj); omega
  · rcases h2 with z2 | ⟨j, hj, z2⟩ | ⟨j, hj, z2⟩
    · have := N_P (nr k hk) hs; omega
    · have := T_N (ts j hj) (nr k hk); omega
    · have e3 : g r k ≠ g s j := fun e => hrs (hQ.2.2.2.2.2.2.2 r k s j hr hs hk hj e).1
      omega
theorem KP_other (hQ : KQ R f g p q) {s : Nat} (hr : isP r) (hs : isP s) (hrs : r ≠ s) (hb : okP b) (e : ∀ i m, ¬ own f g r i → J i m = I i m) (h : KP I f g s b) : KP J f g s b := by
  have l := hb.2.1
  have nn : ∀ i, own f g s i → ¬ own f g r i := fun i z => own_ne hQ hs hr (fun z => hrs z.symm) z
  exact KP_keep h (fun i => e _ _ (nn _ (Or.inl rfl))) (fun k i hk => ⟨e _ _ (nn _ (Or.inr (Or.inl ⟨k, by omega, Or.inl rfl⟩))), e _ _ (nn _ (Or.inr (Or.inl ⟨k, by omega, Or.inr rfl⟩)))⟩) (fun k i hk => e _ _ (nn _ (Or.inr (Or.inr ⟨k, by omega, rfl⟩))))
/-- THIS one's own cells have changed, nothing else -/
theorem KR_here (h : KR I R f g p q a b fw fh since st) (hb : okP b) (e : ∀ i m, ¬ own f g p i → J i m = I i m) (hP : KP J f g p a') : KR J R f g p q a' b fw fh since st ∧ hiI I J := by
  obtain ⟨hQ, h1, h2, h3, h4, h5, h6, h7⟩ := h
  obtain ⟨pp, pq, hne⟩ := KQ_P hQ
  have k : ∀ i m, i < 4 ∨ 210 ≤ i → J i m = I i m := fun i m z => e i m (fun y => by have := own_r hQ pp y; omega)
  exact ⟨⟨hQ, hP, KP_other hQ pp pq hne hb e h2, (k _ _ (by omega)).trans h3, (k _ _ (by omega)).trans h4, (k _ _ (by omega)).trans h5, (k _ _ (by omega)).trans h6, fun j c hj => (k _ _ (by omega)).trans (h7 j c hj)⟩, fun i m z => k _ _ (by omega)⟩
theorem KR_since (h : KR I R f g p q a b fw fh since st) (ha : okP a) (hb : okP b) (s' : Nat) : KR (ax_up (ax_up I 0 6 (nI s')) 0 7 0) R f g p q a b fw fh s' st ∧ hiI I (ax_up (ax_up I 0 6 (nI s')) 0 7 0) := by
  obtain ⟨hQ, h1, h2, h3, h4, h5, h6, h7⟩ := h
  obtain ⟨pp, pq, -⟩ := KQ_P hQ
  have k : ∀ i m, ¬ (i = 0 ∧ m = 6) → ¬ (i = 0 ∧ m = 7) → ax_up (ax_up I 0 6 (nI s')) 0 7 0 i m = I i m := fun i m z1 z2 => by rw [ax_up_ne z2, ax_up_ne z1]
  refine ⟨⟨hQ, KP_far hQ pp ha h1 (fun i m z1 z2 => k _ _ (by omega) (by omega)), KP_far hQ pq hb h2 (fun i m z1 z2 => k _ _ (by omega) (by omega)), (k _ _ (by omega) (by omega)).trans h3, (k _ _ (by omega) (by omega)).trans h4, ?_, (k _ _ (by omega) (by omega)).trans h6, fun j c hj => (k _ _ (by omega) (by omega)).trans (h7 j c hj)⟩, fun i m z => k _ _ (by omega) (by omega)⟩
  rw [ax_up_ne (by omega), ax_up_self]
theorem k_rect (h1 : I p 4 = nI a.1.1) (h2 : I p 5 = nI a.1.2) (x y w h : Int32) : (noRect a.1.1 a.1.2 x y w h → d_P_holdsRectangle oS I R p x y w h = some false) ∧ (¬ noRect a.1.1 a.1.2 x y w h → d_P_holdsRectangle oS I R p x y w h = some true) := by
  unfold d_P_holdsRectangle
  rw [h1, h2]
  refine ⟨fun z => ?_, fun z => ?_⟩
  · by_cases z1 : w < 1
    · rw [if_pos z1]
    rw [if_neg z1]
    by_cases z2 : h < 1
    · rw [if_pos z2]
    rw [if_neg z2]
    by_cases z3 : x < 0
    · rw [if_pos z3]
    rw [if_neg z3]
    by_cases z4 : y < 0
    · rw [if_pos z4]
    rw [if_neg z4]
    by_cases z5 : nI a.1.1 - w < x
    · rw [if_pos z5]
    rw [if_neg z5]
    by_cases z6 : nI a.1.2 - h < y
    · rw [if_pos z6]
    rcases z with z | z | z | z | z | z
    · exact absurd z z1
    · exact absurd z z2
    · exact absurd z z3
    · exact absurd z z4
    · exact absurd z z5
    · exact absurd z z6
  · rw [if_neg (fun y => z (Or.inl y)), if_neg (fun y => z (Or.inr (Or.inl y))), if_neg (fun y => z (Or.inr (Or.inr (Or.inl y)))), if_neg (fun y => z (Or.inr (Or.inr (Or.inr (Or.inl y))))), if_neg (fun y => z (Or.inr (Or.inr (Or.inr (Or.inr (Or.inl y)))))), if_neg (fun y => z (Or.inr (Or.inr (Or.inr (Or.inr (Or.inr y))))))]
theorem k_over {u : Nat} {t : Tl} (ht : KT I u t) {x y w h : Nat} (b1 : t.1.1 + t.2.1.1 ≤ 400) (b2 : t.1.2 + t.2.1.2 ≤ 400) (b3 : x + w ≤ 800) (b4 : y + h ≤ 800) (S : ax_S) : (apart ((x, y), (w, h), 0, []) t → d_T_overlaps S I R u (nI x) (nI y) (nI w) (nI h) = some false) ∧ (¬ apart ((x, y), (w, h), 0, []) t → d_T_overlaps S I R u (nI x) (nI y) (nI w) (nI h) = some true) := by
  obtain ⟨⟨q1, q2, q3, q4, q5, q6⟩, -⟩ := ht
  unfold d_T_overlaps
  rw [q1, q2, q3, q4, nI_add, nI_add, nI_add, nI_add]
  by_cases z1 : t.1.1 + t.2.1.1 ≤ x
  · rw [if_pos (nI_le z1 (by omega))]
    exact ⟨fun _ => rfl, fun z => absurd (Or.inr (Or.inl z1)) z⟩
  rw [if_neg (nI_ge (by omega) (by omega))]
  by_cases z2 : x + w ≤ t.1.1
  · rw [if_pos (nI_le z2 (by omega))]
    exact ⟨fun _ => rfl, fun z => absurd (Or.inl z2) z⟩
  rw [if_neg (nI_ge (by omega) (by omega))]
  by_cases z3 : t.1.2 + t.2.1.2 ≤ y
  · rw [if_pos (nI_le z3 (by omega))]
    exact ⟨fun _ => rfl, fun z => absurd (Or.inr (Or.inr (Or.inr z3))) z⟩
  rw [if_neg (nI_ge (by omega) (by omega))]
  by_cases z4 : y + h ≤ t.1.2
  · rw [if_pos (nI_le z4 (by omega))]
    exact ⟨fun _ => rfl, fun z => absurd (Or.inr (Or.inr (Or.inl z4))) z⟩
  rw [if_neg (nI_ge (by omega) (by omega))]
  refine ⟨fun z => ?_, fun _ => rfl⟩
  have z : x + w ≤ t.1.1 ∨ t.1.1 + t.2.1.1 ≤ x ∨ y + h ≤ t.1.2 ∨ t.1.2 + t.2.1.2 ≤ y := z
  omega
theorem k_ovL (hQ : KQ R f g p q) (hr : isP r) (hP : KP I f g r a) (ha : okP a) {x y w h : Nat} (b3 : x + w ≤ 800) (b4 : y + h ≤ 800) : ∀ (m n k : Nat), k + m = a.2.1.length → m < n → ((∀ t ∈ a.2.1.drop k, apart ((x, y), (w, h), 0, []) t) → d_P_overlapsTile_3 oS n I R r (nI x) (nI y) (nI w) (nI h) (nI k) = some false) ∧ ((¬ ∀ t ∈ a.2.1.drop k, apart ((x, y), (w, h), 0, []) t) → d_P_overlapsTile_3 oS n I R r (nI x) (nI y) (nI w) (nI h) (nI k) = some true) := by
  obtain ⟨⟨p1, p2, p3, p4⟩, pt, pn⟩ := hP
  have l40 := ha.2.1.1
  have oW := ha.1
  intro m
  induction m with
  | zero =>
    intro n k hk hn'
    obtain ⟨n, rfl⟩ : ∃ n', n = n' + 1 := ⟨n - 1, by omega⟩
    have hk : k = a.2.1.length := by omega
    subst hk
    rw [d_P_overlapsTile_3, p3, if_pos (nI_le (Nat.le_refl _) (by omega)), List.drop_length]
    exact ⟨fun _ => rfl, fun z => absurd (fun t ht => by cases ht) z⟩
  | succ m ih =>
    intro n k hk hn'
    obtain ⟨n, rfl⟩ : ∃ n', n = n' + 1 := ⟨n - 1, by omega⟩
    have hlt : k < a.2.1.length := by omega
    obtain ⟨t, ht⟩ : ∃ t, a.2.1[k]? = some t := ⟨_, List.getElem?_eq_getElem hlt⟩
    have ed : a.2.1.drop k = t :: a.2.1.drop (k + 1) := by rw [List.drop_eq_getElem_cons hlt]; congr 1; rw [List.getElem?_eq_getElem hlt] at ht; exact Option.some.inj ht
    obtain ⟨-, ⟨o1, o2⟩, -⟩ := ha.2.2.1 t (List.mem_of_getElem? ht)
    obtain ⟨v1, v2⟩ := k_over (R := R) (pt k t ht) (x := x) (y := y) (w := w) (h := h) (by omega) (by omega) b3 b4 oS
    obtain ⟨i1, i2⟩ := ih n (k + 1) (by omega) (by omega)
    rw [d_P_overlapsTile_3, p3, if_neg (nI_ge hlt (by omega)), (hQ.2.2.1 r hr).1, ob, kxT hr (by omega), ob, (hQ.2.2.2.1 r k hr (by omega)).1, ob, ed]
    by_cases z : apart ((x, y), (w, h), 0, []) t
    · rw [v1 z, ob, if_pos bF, nI_1]
      refine ⟨fun y => i1 (fun s hs => y s (List.mem_cons_of_mem _ hs)), fun y => i2 (fun y2 => y (fun s hs => ?_))⟩
      rcases List.mem_cons.mp hs with rfl | hs
      · exact z
      · exact y2 s hs
    · rw [v2 z, ob, if_neg bT]
      exact ⟨fun y => absurd (y t List.mem_cons_self) z, fun _ => rfl⟩
theorem k_addTile (hK : KR I R f g p q a b fw fh since st) (ha : okP a) (hb : okP b) (hl : a.2.1.length < 40) (x y w h : Nat) : ∃ J, d_P_addTile oS I R p (nI x) (nI y) (nI w) (nI h) = some (nI a.2.1.length, J) ∧ KR J R f g p q (addT a ((x, y), (w, h), 0, [])) b fw fh since st ∧ hiI I J := by
  have hK' := hK
  obtain ⟨hQ, ⟨⟨p1, p2, p3, p4⟩, pt, pn⟩, -⟩ := hK
  obtain ⟨pp, pq, hne⟩ := KQ_P hQ
  obtain ⟨hu, tu⟩ := hQ.2.2.2.1 p _ pp hl
  obtain ⟨u, eu⟩ : ∃ u, u = f p a.2.1.length := ⟨_, rfl⟩
  rw [← eu] at hu tu
  have hup := T_P tu pp
  unfold d_P_addTile d_T_startAnew
  rw [(hQ.2.2.1 p pp).1, ob, p3, klT pp, if_pos (nI_lt hl (by omega)), ob, kxT pp hl, ob, hu, ob, ob, ob, ob, ob, ob, ob, ob]
  obtain ⟨J1, hJ1⟩ : ∃ J1, J1 = ax_up (ax_up (ax_up (ax_up (ax_up (ax_up I u 2 (nI x)) u 3 (nI y)) u 4 (nI w)) u 5 (nI h)) u 6 0) u 1 0 := ⟨_, rfl⟩
  have g1 : ∀ i m, i ≠ u → J1 i m = I i m := fun i m z => by rw [hJ1, ax_up_ne (by omega), ax_up_ne (by omega), ax_up_ne (by omega), ax_up_ne (by omega), ax_up_ne (by omega), ax_up_ne (by omega)]
  rw [← hJ1, ob, g1 p 2 (by omega), p3, nI_1, ax_up_self, nI_pred]
  have k1 : ∀ i m, i ≠ u → ¬ (i = p ∧ m = 2) → ax_up J1 p 2 (nI (a.2.1.length + 1)) i m = I i m := fun i m z1 z2 => by rw [ax_up_ne z2]; exact g1 i m z1
  have k2 : ∀ m, ax_up J1 p 2 (nI (a.2.1.length + 1)) u m = J1 u m := fun m => ax_up_ne (by omega)
  have hPP : KP (ax_up J1 p 2 (nI (a.2.1.length + 1))) f g p (addT a ((x, y), (w, h), 0, [])) := by
    refine ⟨⟨(k1 _ _ (by omega) (by omega)).trans p1, (k1 _ _ (by omega) (by omega)).trans p2, ?_, (k1 _ _ (by omega) (by omega)).trans p4⟩, fun k t hk => ?_, fun k n hk => ?_⟩
    · rw [ax_up_self]; unfold addT; rw [List.length_append]; rfl
    · have hk' : (a.2.1 ++ [((x, y), (w, h), 0, [])])[k]? = some t := hk
      by_cases hlt : k < a.2.1.length
      · rw [List.getElem?_append_left hlt] at hk'
        have tk := (hQ.2.2.2.1 p k pp (by omega)).2
        have e1 := T_T tk tu
        have e2 := T_P tk pp
        have e3 : f p k ≠ u := fun e => by have := (hQ.2.2.2.2.2.2.1 p k p a.2.1.length pp pp (by omega) hl (e.trans eu)).2; omega
        exact KT_keep (pt k t hk') (fun i => k1 _ _ (by omega) (by omega)) (fun i => k1 _ _ (by omega) (by omega))
      · rw [List.getElem?_append_right (by omega)] at hk'
        have hz : k - a.2.1.length < 1 := (List.getElem?_eq_some_iff.mp hk').1
        have hk2 : k = a.2.1.length := by omega
        subst hk2
        simp at hk'
        subst hk'
        rw [← eu]
        refine ⟨⟨?_, ?_, ?_, ?_, ?_, ?_⟩, fun j c hj => by cases hj⟩ <;> rw [k2, hJ1] <;> simp [ax_up] <;> rfl
    · have hlt : k < a.2.2.length := (List.getElem?_eq_some_iff.mp hk).1
      have l2 := ha.2.1.2
      have nk := (hQ.2.2.2.2.1 p k pp (by omega)).2
      have e1 := T_N tu nk
      have e2 := N_P nk pp
      exact KN_keep (pn k n hk) (fun i => k1 _ _ (by omega) (by omega))
  obtain ⟨r1, r2⟩ := KR_here (J := ax_up J1 p 2 (nI (a.2.1.length + 1))) (a' := addT a ((x, y), (w, h), 0, [])) hK' hb (fun i m z => k1 i m (fun e => z (Or.inr (Or.inl ⟨_, hl, Or.inl (e.trans eu)⟩))) (fun e => z (Or.inl e.1))) hPP
  exact ⟨_, rfl, r1, r2⟩
theorem K_tile_bad (hK : KR I R f g p q a b fw fh since st) {x y w h : Int32} (z : 64 < w ∨ 64 < h ∨ noRect a.1.1 a.1.2 x y w h) : d_K_tile oS I R 0 x y w h = some (.inr "java/lang/IllegalArgumentException", I) := by
  unfold d_K_tile d_K_tile_28
  by_cases z1 : 64 < w
  · rw [if_pos z1]
  rw [if_neg z1]
  by_cases z2 : 64 < h
  · rw [if_pos z2]
  rw [if_neg z2, hK.1.2.1.1, ob, (k_rect hK.2.1.1.1 hK.2.1.1.2.1 x y w h).1 (by rcases z with z | z | z; exact absurd z z1; exact absurd z z2; exact z), ob, if_pos bF]
theorem K_tile (hK : KR I R f g p q a b fw fh since st) (ha : okP a) (hb : okP b) {x y w h : Nat} (w1 : 1 ≤ w) (w2 : w ≤ 64) (h1 : 1 ≤ h) (h2 : h ≤ 64) (hx : x + w ≤ a.1.1) (hy : y + h ≤ a.1.2) : ((¬ ∀ t ∈ a.2.1, apart ((x, y), (w, h), 0, []) t) → d_K_tile oS I R 0 (nI x) (nI y) (nI w) (nI h) = some (.inr "java/lang/IllegalStateException", I)) ∧ ((∀ t ∈ a.2.1, apart ((x, y), (w, h), 0, []) t) → (a.2.1.length = 40 → d_K_tile oS I R 0 (nI x) (nI y) (nI w) (nI h) = some (.inr "java/lang/UnsupportedOperationException", I)) ∧ (a.2.1.length < 40 → ∃ J, d_K_tile oS I R 0 (nI x) (nI y) (nI w) (nI h) = some (.inl (nI a.2.1.length), J) ∧ KR J R f g p q (addT a ((x, y), (w, h), 0, [])) b fw fh since st ∧ hiI I J)) := by
  have oW := ha.1
  have hQ := hK.1
  obtain ⟨pp, pq, hne⟩ := KQ_P hQ
  obtain ⟨v1, v2⟩ := k_ovL hQ pp hK.2.1 ha (x := x) (y := y) (w := w) (h := h) (by omega) (by omega) a.2.1.length 5000 0 (by omega) (by have := ha.2.1.1; omega)
  rw [List.drop_zero] at v1 v2
  have e : ∀ B, d_P_overlapsTile oS I R p (nI x) (nI y) (nI w) (nI h) = some B → d_K_tile oS I R 0 (nI x) (nI y) (nI w) (nI h) = if ax_b B = 0 then (if nI a.2.1.length < 40 then (d_P_addTile oS (ax_up I 0 7 0) R p (nI x) (nI y) (nI w) (nI h)).bind fun o30 => some (.inl o30.1, o30.2) else some (.inr "java/lang/UnsupportedOperationException", I)) else some (.inr "java/lang/IllegalStateException", I) := by
    intro B hB
    unfold d_K_tile
    rw [if_neg (show ¬ (64 : Int32) < nI w from nI_nlt (a := 64) w2 (by decide)), if_neg (show ¬ (64 : Int32) < nI h from nI_nlt (a := 64) h2 (by decide)), hQ.2.1.1, ob, (k_rect hK.2.1.1.1 hK.2.1.1.2.1 _ _ _ _).2 (rect_no oW.2.1 oW.2.2.2 w1 h1 hx hy), ob, if_neg bT, ob, hB, ob, ob, hK.2.1.1.2.2.1, ob, ob]
  refine ⟨fun z => ?_, fun z => ⟨fun l => ?_, fun l => ?_⟩⟩
  · rw [e true (v2 z), if_neg bT]
  · rw [e false (v1 z), if_pos bF, l, if_neg (by decide)]
  · obtain ⟨J, e1, e2, e3⟩ := k_addTile (KR_own hK ha hb (i := 0) (k := 7) (v := 0) (Or.inl ⟨rfl, rfl⟩)) ha hb l x y w h
    rw [e false (v1 z), if_pos bF, if_pos (show nI a.2.1.length < (40 : Int32) from nI_lt (b := 40) l (by decide)), e1, ob]
    exact ⟨J, rfl, e2, fun i m z => (e3 i m z).trans (ax_up_ne (by omega))⟩
theorem k_hasTile (h3 : I p 2 = nI a.2.1.length) (x : Int32) : (noIx a.2.1.length x → d_P_hasTile oS I R p x = some false) ∧ (¬ noIx a.2.1.length x → d_P_hasTile oS I R p x = some true) := by
  unfold d_P_hasTile
  rw [h3]
  refine ⟨fun z => ?_, fun z => ?_⟩
  · by_cases z1 : x < 0
    · rw [if_pos z1]
    · rw [if_neg z1, if_pos (z.resolve_left z1)]
  · rw [if_neg (fun y => z (Or.inl y)), if_neg (fun y => z (Or.inr y))]
theorem k_hasSample (h1 : I p 4 = nI a.1.1) (h2 : I p 5 = nI a.1.2) (x y : Int32) : (noIx a.1.1 x ∨ noIx a.1.2 y → d_P_hasSample oS I R p x y = some false) ∧ (¬ (noIx a.1.1 x ∨ noIx a.1.2 y) → d_P_hasSample oS I R p x y = some true) := by
  unfold d_P_hasSample
  rw [h1, h2]
  refine ⟨fun z => ?_, fun z => ?_⟩
  · by_cases z1 : x < 0
    · rw [if_pos z1]
    rw [if_neg z1]
    by_cases z2 : y < 0
    · rw [if_pos z2]
    rw [if_neg z2]
    by_cases z3 : nI a.1.1 ≤ x
    · rw [if_pos z3]
    rw [if_neg z3]
    by_cases z4 : nI a.1.2 ≤ y
    · rw [if_pos z4]
    rcases z with (z | z) | (z | z)
    · exact absurd z z1
    · exact absurd z z3
    · exact absurd z z2
    · exact absurd z z4
  · rw [if_neg (fun y => z (Or.inl (Or.inl y))), if_neg (fun y => z (Or.inr (Or.inl y))), if_neg (fun y => z (Or.inl (Or.inr y))), if_neg (fun y => z (Or.inr (Or.inr y)))]
theorem k_byteF {y : Int32} (z : y < 0 ∨ 255 < y) : d_K_isByte oS I R y = some false := by
  unfold d_K_isByte
  by_cases z1 : y < 0
  · rw [if_pos z1]
  · rw [if_neg z1, if_pos (z.resolve_left z1)]
theorem k_byteT {c : Nat} (hc : c < 256) : d_K_isByte oS I R (nI c) = some true := by
  unfold d_K_isByte
  rw [if_neg (nI_pos (by omega)), if_neg (show ¬ (255 : Int32) < nI c from nI_nlt (a := 255) (by omega) (by decide))]
theorem ix_in {n k : Nat} (hn : n < 2 ^ 31) (h : k < n) : ¬ noIx n (nI k) := by
  rintro (z | z)
  · exact (idx_no hn h).1 z
  · exact (idx_no hn h).2 z
theorem K_byteOf (hK : KR I R f g p q a b fw fh since st) (ha : okP a) (hb : okP b) (x y : Int32) : (noIx a.2.1.length x → d_K_byteOf oS I R 0 x y = some (.inr "java/lang/IndexOutOfBoundsException", I)) ∧ (∀ k t, a.2.1[k]? = some t → x = nI k → (y < 0 ∨ 255 < y → d_K_byteOf oS I R 0 x y = some (.inr "java/lang/IllegalArgumentException", I)) ∧ (∀ c, c < 256 → y = nI c → (t.2.2.2.length = 12 → d_K_byteOf oS I R 0 x y = some (.inr "java/lang/UnsupportedOperationException", I)) ∧ (t.2.2.2.length < 12 → ∃ J, d_K_byteOf oS I R 0 x y = some (.inl (nI (t.2.2.2.length + 1)), J) ∧ KR J R f g p q (setT a k (byt t c)) b fw fh since st ∧ hiI I J))) := by
  have l := ha.2.1
  have hK' := hK
  obtain ⟨hQ, ⟨⟨p1, p2, p3, p4⟩, pt, pn⟩, -⟩ := hK
  obtain ⟨pp, pq, hne⟩ := KQ_P hQ
  obtain ⟨s1, s2⟩ := k_hasTile (R := R) p3 x
  unfold d_K_byteOf
  rw [hQ.2.1.1, ob]
  refine ⟨fun z => ?_, fun k t hk hx => ?_⟩
  · rw [s1 z, ob, if_pos bF]
  have hlt : k < a.2.1.length := (List.getElem?_eq_some_iff.mp hk).1
  rw [s2 (by rw [hx]; exact ix_in (by omega) hlt), ob, if_neg bT]
  refine ⟨fun z => ?_, fun c hc hy => ?_⟩
  · rw [k_byteF z, ob, if_pos bF]
  obtain ⟨hu, tu⟩ := hQ.2.2.2.1 p k pp (by omega)
  obtain ⟨u, eu⟩ : ∃ u, u = f p k := ⟨_, rfl⟩
  have ht := pt k t hk
  rw [← eu] at hu tu ht
  have hup := T_P tu pp
  obtain ⟨⟨q1, q2, q3, q4, q5, q6⟩, q7⟩ := ht
  rw [hy, k_byteT hc, ob, if_neg bT, ob, (hQ.2.2.1 p pp).1, ob, hx, kxT pp (by omega), ob, hu, ob, q6]
  refine ⟨fun e => ?_, fun e => ?_⟩
  · rw [e, if_neg (by decide)]
  unfold d_T_addByte
  rw [if_pos (show nI t.2.2.2.length < (12 : Int32) from nI_lt (b := 12) e (by decide)), hQ.2.2.2.2.2.1 u tu, ob, klB tu, q6, if_neg (nI_ge e (by decide)), ob, kxB tu e, ob, ob, ax_up_ne (show ¬ (u = u + 1 ∧ 1 = t.2.2.2.length) by omega), q6, nI_1, ob, ax_up_self, ob]
  have k1 : ∀ i m, i ≠ u + 1 → ¬ (i = u ∧ m = 1) → ax_up (ax_up I (u + 1) t.2.2.2.length (nI c)) u 1 (nI (t.2.2.2.length + 1)) i m = I i m := fun i m z1 z2 => by rw [ax_up_ne z2, ax_up_ne (by omega)]
  have hPP : KP (ax_up (ax_up I (u + 1) t.2.2.2.length (nI c)) u 1 (nI (t.2.2.2.length + 1))) f g p (setT a k (byt t c)) := by
    refine ⟨⟨(k1 _ _ (by omega) (by omega)).trans p1, (k1 _ _ (by omega) (by omega)).trans p2, ?_, (k1 _ _ (by omega) (by omega)).trans p4⟩, fun k' t' hk' => ?_, fun k' n hk' => ?_⟩
    · refine ((k1 _ _ (by omega) (by omega)).trans p3).trans ?_
      unfold setT
      rw [List.length_set]
    · have hk2 : (a.2.1.set k (byt t c))[k']? = some t' := hk'
      by_cases ek : k' = k
      · subst ek
        rw [List.getElem?_set_self hlt] at hk2
        have et : t' = byt t c := (Option.some.inj hk2).symm
        subst et
        rw [← eu]
        refine ⟨⟨?_, ?_, ?_, ?_, ?_, ?_⟩, fun j d hj => ?_⟩
        · rw [k1 _ _ (by omega) (by omega)]; exact q1
        · rw [k1 _ _ (by omega) (by omega)]; exact q2
        · rw [k1 _ _ (by omega) (by omega)]; exact q3
        · rw [k1 _ _ (by omega) (by omega)]; exact q4
        · rw [k1 _ _ (by omega) (by omega)]; exact q5
        · rw [ax_up_self]; unfold byt; rw [List.length_append]; rfl
        · have hj' : (t.2.2.2 ++ [c])[j]? = some d := hj
          rw [ax_up_ne (by omega)]
          by_cases ej : j < t.2.2.2.length
          · rw [List.getElem?_append_left ej] at hj'
            rw [ax_up_ne (by omega)]
            exact q7 j d hj'
          · rw [List.getElem?_append_right (by omega)] at hj'
            have hz : j - t.2.2.2.length < 1 := (List.getElem?_eq_some_iff.mp hj').1
            have hj2 : j = t.2.2.2.length := by omega
            subst hj2
            simp at hj'
            subst hj'
            rw [ax_up_self]
      · rw [List.getElem?_set_ne (fun z => ek z.symm)] at hk2
        have hlt' : k' < a.2.1.length := (List.getElem?_eq_some_iff.mp hk2).1
        have tk := (hQ.2.2.2.1 p k' pp (by omega)).2
        have e1 := T_T tk tu
        have e2 := T_T tu tk
        have e3 : f p k' ≠ u := fun e => by have := (hQ.2.2.2.2.2.2.1 p k' p k pp pp (by omega) (by omega) (e.trans eu)).2; omega
        exact KT_keep (pt k' t' hk2) (fun i => k1 _ _ (by omega) (by omega)) (fun i => k1 _ _ (by omega) (by omega))
    · have hlt' : k' < a.2.2.length := (List.getElem?_eq_some_iff.mp hk').1
      have nk := (hQ.2.2.2.2.1 p k' pp (by omega)).2
      have e1 := T_N tu nk
      exact KN_keep (pn k' n hk') (fun i => k1 _ _ (by omega) (by omega))
  obtain ⟨r1, r2⟩ := KR_here (J := ax_up (ax_up I (u + 1) t.2.2.2.length (nI c)) u 1 (nI (t.2.2.2.length + 1))) (a' := setT a k (byt t c)) hK' hb (fun i m z => k1 i m (fun e => z (Or.inr (Or.inl ⟨k, by omega, Or.inr (by rw [← eu]; exact e)⟩))) (fun e => z (Or.inr (Or.inl ⟨k, by omega, Or.inl (by rw [← eu]; exact e.1)⟩)))) hPP
  exact ⟨_, rfl, r1, r2⟩
theorem K_note (hK : KR I R f g p q a b fw fh since st) (ha : okP a) (hb : okP b) (x y z : Int32) : (noIx a.1.1 x ∨ noIx a.1.2 y → d_K_note oS I R 0 x y z = some (.inr "java/lang/IndexOutOfBoundsException", I)) ∧ (¬ (noIx a.1.1 x ∨ noIx a.1.2 y) → (z < 0 ∨ 255 < z → d_K_note oS I R 0 x y z = some (.inr "java/lang/IllegalArgumentException", I)) ∧ (∀ c, c < 256 → z = nI c → (a.2.2.length = 20 → d_K_note oS I R 0 x y z = some (.inr "java/lang/UnsupportedOperationException", I)) ∧ (a.2.2.length < 20 → ∀ x' y', x = nI x' → y = nI y' → ∃ J, d_K_note oS I R 0 x y z = some (.inl (nI (a.2.2.length + 1)), J) ∧ KR J R f g p q (addN a (x', y', c)) b fw fh since st ∧ hiI I J))) := by
  have l := ha.2.1
  have hK' := hK
  obtain ⟨hQ, ⟨⟨p1, p2, p3, p4⟩, pt, pn⟩, -⟩ := hK
  obtain ⟨pp, pq, hne⟩ := KQ_P hQ
  obtain ⟨s1, s2⟩ := k_hasSample (R := R) p1 p2 x y
  unfold d_K_note
  rw [hQ.2.1.1, ob]
  refine ⟨fun e => ?_, fun nx => ?_⟩
  · rw [s1 e, ob, if_pos bF]
  rw [s2 nx, ob, if_neg bT]
  refine ⟨fun e => ?_, fun c hc hz => ?_⟩
  · rw [k_byteF e, ob, if_pos bF]
  rw [hz, k_byteT hc, ob, if_neg bT, ob, p4]
  refine ⟨fun e => ?_, fun e x' y' hx hy => ?_⟩
  · rw [e, if_neg (by decide)]
  obtain ⟨hu, nu⟩ := hQ.2.2.2.2.1 p _ pp e
  obtain ⟨u, eu⟩ : ∃ u, u = g p a.2.2.length := ⟨_, rfl⟩
  rw [← eu] at hu nu
  have hup := N_P nu pp
  unfold d_P_addNote d_N_startAnew
  rw [if_pos (show nI a.2.2.length < (20 : Int32) from nI_lt (b := 20) e (by decide)), ob, (hQ.2.2.1 p pp).2, ob, klN pp, p4, if_neg (nI_ge e (by decide)), ob, kxN pp e, ob, hu, ob, ob, ob, ob, ob]
  obtain ⟨J1, hJ1⟩ : ∃ J1, J1 = ax_up (ax_up (ax_up I u 0 x) u 1 y) u 2 (nI c) := ⟨_, rfl⟩
  have g1 : ∀ i m, i ≠ u → J1 i m = I i m := fun i m z => by rw [hJ1, ax_up_ne (by omega), ax_up_ne (by omega), ax_up_ne (by omega)]
  rw [← hJ1, g1 p 3 (by omega), p4, nI_1, ob, ax_up_self, ob]
  have k1 : ∀ i m, i ≠ u → ¬ (i = p ∧ m = 3) → ax_up J1 p 3 (nI (a.2.2.length + 1)) i m = I i m := fun i m z1 z2 => by rw [ax_up_ne z2]; exact g1 i m z1
  have k2 : ∀ m, ax_up J1 p 3 (nI (a.2.2.length + 1)) u m = J1 u m := fun m => ax_up_ne (by omega)
  have hPP : KP (ax_up J1 p 3 (nI (a.2.2.length + 1))) f g p (addN a (x', y', c)) := by
    refine ⟨⟨(k1 _ _ (by omega) (by omega)).trans p1, (k1 _ _ (by omega) (by omega)).trans p2, (k1 _ _ (by omega) (by omega)).trans p3, ?_⟩, fun k t hk => ?_, fun k n hk => ?_⟩
    · rw [ax_up_self]; unfold addN; rw [List.length_append]; rfl
    · have hlt : k < a.2.1.length := (List.getElem?_eq_some_iff.mp hk).1
      have tk := (hQ.2.2.2.1 p k pp (by omega)).2
      have e1 := T_N tk nu
      have e2 := T_P tk pp
      exact KT_keep (pt k t hk) (fun i => k1 _ _ (by omega) (by omega)) (fun i => k1 _ _ (by omega) (by omega))
    · have hk' : (a.2.2 ++ [(x', y', c)])[k]? = some n := hk
      by_cases hlt : k < a.2.2.length
      · rw [List.getElem?_append_left hlt] at hk'
        have nk := (hQ.2.2.2.2.1 p k pp (by omega)).2
        have e2 := N_P nk pp
        have e3 : g p k ≠ u := fun e' => by have := (hQ.2.2.2.2.2.2.2 p k p a.2.2.length pp pp (by omega) e (e'.trans eu)).2; omega
        exact KN_keep (pn k n hk') (fun i => k1 _ _ (by omega) (by omega))
      · rw [List.getElem?_append_right (by omega)] at hk'
        have hz : k - a.2.2.length < 1 := (List.getElem?_eq_some_iff.mp hk').1
        have hk2 : k = a.2.2.length := by omega
        subst hk2
        simp at hk'
        subst hk'
        rw [← eu]
        refine ⟨?_, ?_, ?_⟩
        · rw [k2, hJ1, ax_up_ne (by omega), ax_up_ne (by omega), ax_up_self]; exact hx
        · rw [k2, hJ1, ax_up_ne (by omega), ax_up_self]; exact hy
        · rw [k2, hJ1, ax_up_self]
  obtain ⟨r1, r2⟩ := KR_here (J := ax_up J1 p 3 (nI (a.2.2.length + 1))) (a' := addN a (x', y', c)) hK' hb (fun i m z => k1 i m (fun y => z (Or.inr (Or.inr ⟨_, e, y.trans eu⟩))) (fun y => z (Or.inl y.1))) hPP
  exact ⟨_, rfl, r1, r2⟩
end KM
/-! the class: what only asks, swap, clear -/
theorem lies_t : ∀ v : Fin 8, (if ((nI v.1 &&& 3) &&& 1) = 1 then some true else some false) = some (decide (v.1 % 2 = 1)) := by decide +kernel
theorem k_nle {n : Nat} {x : Int32} (h : nI n ≤ x) : ¬ x < nI n := by
  rw [Int32.lt_iff_toInt_lt]
  rw [Int32.le_iff_toInt_le] at h
  omega
section KA
variable {I J : ax_I} {R : ax_R} {f g : Nat → Nat → Nat} {p q r fw fh since : Nat} {a a' b : Pc} {st : List Nat}
theorem k_lies {u v : Nat} (h6 : I u 6 = nI v) (hv : v < 8) (S : ax_S) : d_T_liesOnItsSide S I R u = some (decide (v % 2 = 1)) := by
  unfold d_T_liesOnItsSide d_K_quarters
  rw [ob, h6]
  exact lies_t ⟨v, hv⟩
theorem K_at (hK : KR I R f g p q a b fw fh since st) (ha : okP a) (x y : Int32) : (noIx a.2.1.length x → d_K_at oS I R 0 x y = some (.inr "java/lang/IndexOutOfBoundsException")) ∧ (∀ k t, a.2.1[k]? = some t → x = nI k → d_K_at oS I R 0 x y = some (.inl (atV t y))) := by
  have l := ha.2.1
  obtain ⟨hQ, ⟨⟨p1, p2, p3, p4⟩, pt, pn⟩, -⟩ := hK
  obtain ⟨pp, pq, hne⟩ := KQ_P hQ
  obtain ⟨s1, s2⟩ := k_hasTile (R := R) p3 x
  unfold d_K_at
  rw [hQ.2.1.1, ob]
  refine ⟨fun z => ?_, fun k t hk hx => ?_⟩
  · rw [s1 z, ob, if_pos bF]
  have hlt : k < a.2.1.length := (List.getElem?_eq_some_iff.mp hk).1
  obtain ⟨hu, tu⟩ := hQ.2.2.2.1 p k pp (by omega)
  obtain ⟨⟨q1, q2, q3, q4, q5, q6⟩, q7⟩ := pt k t hk
  have hw := (ha.2.2.1 t (List.mem_of_getElem? hk)).2.2.1
  rw [s2 (by rw [hx]; exact ix_in (by omega) hlt), ob, if_neg bT, ob, (hQ.2.2.1 p pp).1, ob, hx, kxT pp (by omega), ob, hu, ob, q1, q2, q3, q4, q5, q6]
  unfold atV d_T_ownWidth d_T_ownHeight
  rw [k_lies q5 hw, ob, ob, q3, q4]
  have hB : decide (t.2.2.1 % 2 = 1) = true ∨ decide (t.2.2.1 % 2 = 1) = false := by cases decide (t.2.2.1 % 2 = 1) <;> simp
  by_cases z0 : y = 0
  · rw [if_pos z0, if_pos z0]
  rw [if_neg z0, if_neg z0]
  by_cases z1 : y = 1
  · rw [if_pos z1, if_pos z1]
  rw [if_neg z1, if_neg z1]
  by_cases z2 : y = 2
  · rw [if_pos z2, if_pos z2]
  rw [if_neg z2, if_neg z2]
  by_cases z3 : y = 3
  · rw [if_pos z3, if_pos z3]
  rw [if_neg z3, if_neg z3]
  by_cases z4 : y = 4
  · rw [if_pos z4, if_pos z4]
  rw [if_neg z4, if_neg z4]
  by_cases z5 : y = 5
  · rw [if_pos z5, if_pos z5]
  rw [if_neg z5, if_neg z5]
  by_cases z6 : y = 6
  · rw [if_pos z6, if_pos z6]
    by_cases w : t.2.2.1 % 2 = 1
    · rw [decide_eq_true w, if_neg bT, if_pos w, ob]
    · rw [decide_eq_false w, if_pos bF, if_neg w, ob]
  rw [if_neg z6, if_neg z6]
  by_cases z7 : y = 7
  · rw [if_pos z7, if_pos z7]
    by_cases w : t.2.2.1 % 2 = 1
    · rw [decide_eq_true w, if_neg bT, if_pos w, ob]
    · rw [decide_eq_false w, if_pos bF, if_neg w, ob]
  rw [if_neg z7, if_neg z7]
theorem K_byteAt (hK : KR I R f g p q a b fw fh since st) (ha : okP a) (x y : Int32) : (noIx a.2.1.length x → d_K_byteAt oS I R 0 x y = some (.inr "java/lang/IndexOutOfBoundsException")) ∧ (∀ k t, a.2.1[k]? = some t → x = nI k → (noIx t.2.2.2.length y → d_K_byteAt oS I R 0 x y = some (.inr "java/lang/IndexOutOfBoundsException")) ∧ (∀ j c, t.2.2.2[j]? = some c → y = nI j → d_K_byteAt oS I R 0 x y = some (.inl (nI c)))) := by
  have l := ha.2.1
  obtain ⟨hQ, ⟨⟨p1, p2, p3, p4⟩, pt, pn⟩, -⟩ := hK
  obtain ⟨pp, pq, hne⟩ := KQ_P hQ
  obtain ⟨s1, s2⟩ := k_hasTile (R := R) p3 x
  unfold d_K_byteAt d_K_byteAt_43
  rw [hQ.2.1.1, ob]
  refine ⟨fun z => ?_, fun k t hk hx => ?_⟩
  · rw [s1 z, ob, if_pos bF]
  have hlt : k < a.2.1.length := (List.getElem?_eq_some_iff.mp hk).1
  obtain ⟨hu, tu⟩ := hQ.2.2.2.1 p k pp (by omega)
  obtain ⟨⟨q1, q2, q3, q4, q5, q6⟩, q7⟩ := pt k t hk
  have hw := (ha.2.2.1 t (List.mem_of_getElem? hk)).2.2.2.1
  rw [s2 (by rw [hx]; exact ix_in (by omega) hlt), ob, if_neg bT, ob, (hQ.2.2.1 p pp).1, ob, hx, kxT pp (by omega), ob, hu, ob, q6]
  refine ⟨fun z => ?_, fun j c hj hy => ?_⟩
  · by_cases z1 : y < 0
    · rw [if_pos z1]
    · rw [if_neg z1, if_neg (k_nle (z.resolve_left z1))]
  · have hjl : j < t.2.2.2.length := (List.getElem?_eq_some_iff.mp hj).1
    rw [hy, if_neg (nI_pos (by omega)), if_pos (nI_lt hjl (by omega)), hQ.2.2.2.2.2.1 _ tu, ob, kxB tu (by omega), ob, q7 j c hj]
theorem K_noteAt (hK : KR I R f g p q a b fw fh since st) (ha : okP a) (x y : Int32) : (noIx a.2.2.length x → d_K_noteAt oS I R 0 x y = some (.inr "java/lang/IndexOutOfBoundsException")) ∧ (∀ k n, a.2.2[k]? = some n → x = nI k → d_K_noteAt oS I R 0 x y = some (.inl (noV n y))) := by
  have l := ha.2.1
  obtain ⟨hQ, ⟨⟨p1, p2, p3, p4⟩, pt, pn⟩, -⟩ := hK
  obtain ⟨pp, pq, hne⟩ := KQ_P hQ
  unfold d_K_noteAt d_K_noteAt_15
  rw [hQ.2.1.1, ob, p4]
  refine ⟨fun z => ?_, fun k n hk hx => ?_⟩
  · by_cases z1 : x < 0
    · rw [if_pos z1]
    · rw [if_neg z1, if_neg (k_nle (z.resolve_left z1))]
  have hlt : k < a.2.2.length := (List.getElem?_eq_some_iff.mp hk).1
  obtain ⟨hu, nu⟩ := hQ.2.2.2.2.1 p k pp (by omega)
  obtain ⟨q1, q2, q3⟩ := pn k n hk
  rw [hx, if_neg (nI_pos (by omega)), if_pos (nI_lt hlt (by omega)), ob, (hQ.2.2.1 p pp).2, ob, kxN pp (by omega), ob, hu, ob, q1, q2, q3]
  unfold noV
  by_cases z0 : y = 0
  · rw [if_pos z0, if_pos z0]
  rw [if_neg z0, if_neg z0]
  by_cases z1 : y = 1
  · rw [if_pos z1, if_pos z1]
  rw [if_neg z1, if_neg z1]
  by_cases z2 : y = 2
  · rw [if_pos z2, if_pos z2]
  rw [if_neg z2, if_neg z2]
theorem K_told (hK : KR I R f g p q a b fw fh since st) (x : Int32) : d_K_told oS I R 0 x = some (tellV a b st x) := by
  obtain ⟨hQ, ⟨⟨p1, p2, p3, p4⟩, -⟩, ⟨⟨b1, b2, b3, b4⟩, -⟩, -, -, -, h6, -⟩ := hK
  unfold d_K_told tellV
  rw [hQ.2.1.1, hQ.2.1.2.1, hQ.2.1.2.2.1, ob, ob, ob, ob, ob, ob, ob, ob, ob, p1, p2, p3, p4, b1, b2, b3, b4, h6]
  by_cases z0 : x = 0
  · rw [if_pos z0, if_pos z0]
  rw [if_neg z0, if_neg z0]
  by_cases z1 : x = 1
  · rw [if_pos z1, if_pos z1]
  rw [if_neg z1, if_neg z1]
  by_cases z2 : x = 2
  · rw [if_pos z2, if_pos z2]
  rw [if_neg z2, if_neg z2]
  by_cases z3 : x = 3
  · rw [if_pos z3, if_pos z3]
  rw [if_neg z3, if_neg z3]
  by_cases z4 : x = 4
  · rw [if_pos z4, if_pos z4]
  rw [if_neg z4, if_neg z4]
  by_cases z5 : x = 5
  · rw [if_pos z5, if_pos z5]
  rw [if_neg z5, if_neg z5]
  by_cases z6 : x = 6
  · rw [if_pos z6, if_pos z6]
  rw [if_neg z6, if_neg z6]
  by_cases z7 : x = 7
  · rw [if_pos z7, if_pos z7]
  rw [if_neg z7, if_neg z7]
  by_cases z8 : x = 8
  · rw [if_pos z8, if_pos z8]
  rw [if_neg z8, if_neg z8]
theorem K_swap (hK : KR I R f g p q a b fw fh since st) (ha : okP a) (hb : okP b) : ∃ J R', d_K_swap oS I R 0 = some (nI b.2.1.length, J, R') ∧ KR J R' f g q p b a fw fh 0 st ∧ hiI I J ∧ ∀ k, R' 210 k = R 210 k := by
  obtain ⟨⟨hQ, h1, h2, h3, h4, h5, h6, h7⟩, hh⟩ := KR_since hK ha hb 0
  obtain ⟨pp, pq, hne⟩ := KQ_P hQ
  unfold d_K_swap
  rw [hQ.2.1.1, ob, hQ.2.1.2.1, ob, ob, ob, ob, ob, ax_up_ne (show ¬ (0 = 0 ∧ 4 = 5) by omega), ax_up_self, ob]
  have e0 : nI 0 = 0 := rfl
  rw [e0] at h1 h2 h3 h4 h6 h7 hh
  have h5 : ax_up (ax_up I 0 6 0) 0 7 0 0 6 = nI 0 := h5
  rw [h2.1.2.2.1]
  refine ⟨_, _, rfl, ⟨?_, h2, h1, h3, h4, h5, h6, fun j c hj => h7 j c hj⟩, hh, fun k => by rw [ax_up_ne (by omega), ax_up_ne (by omega)]⟩
  obtain ⟨g1, ⟨k1, k2, k3, k4, k5⟩, g3, g4, g5, g6, g7, g8⟩ := hQ
  have k : ∀ i m, i ≠ 0 → ax_up (ax_up R 0 4 (some q)) 0 5 (some p) i m = R i m := fun i m z => by rw [ax_up_ne (by omega), ax_up_ne (by omega)]
  refine ⟨by omega, ⟨?_, ax_up_self _ _ _ _, ?_, ?_, (k _ _ (by omega)).trans k5⟩, fun s hs => ?_, fun s m hs hm => ?_, fun s m hs hm => ?_, fun u hu => ?_, g7, g8⟩
  · rw [ax_up_ne (by omega), ax_up_self]
  · rw [ax_up_ne (by omega), ax_up_ne (by omega)]; exact k3
  · rw [ax_up_ne (by omega), ax_up_ne (by omega)]; exact k4
  · have := P_r hs
    exact ⟨(k _ _ (by omega)).trans (g3 s hs).1, (k _ _ (by omega)).trans (g3 s hs).2⟩
  · rw [k _ _ (by omega)]; exact g4 s m hs hm
  · rw [k _ _ (by omega)]; exact g5 s m hs hm
  · have := T_r hu
    rw [k _ _ (by omega)]; exact g6 u hu
theorem K_clear (hK : KR I R f g p q a b fw fh since st) : ∃ J, d_K_clear oS I R 0 = some J ∧ KR J R f g p q ((fw, fh), [], []) ((fw, fh), [], []) fw fh 0 [] ∧ hiI I J := by
  obtain ⟨hQ, h1, h2, h3, h4, h5, h6, h7⟩ := hK
  obtain ⟨pp, pq, hne⟩ := KQ_P hQ
  have rp := P_r pp
  have rq := P_r pq
  unfold d_K_clear d_P_startAnew d_S_empty
  rw [hQ.2.1.1, ob, ob, ob, ob, ob, ob, hQ.2.1.2.1, ob, ob, ob, ob, ob, ob, hQ.2.1.2.2.1, ob, ob, ob, ob, ob, ob]
  have e0 : ∀ i, ax_up (ax_up (ax_up (ax_up I p 4 (I 0 0)) p 5 (I 0 1)) p 2 0) p 3 0 0 i = I 0 i := fun i => by rw [ax_up_ne (by omega), ax_up_ne (by omega), ax_up_ne (by omega), ax_up_ne (by omega)]
  rw [e0, e0, h3, h4]
  obtain ⟨J, hJ⟩ : ∃ J, J = ax_up (ax_up (ax_up (ax_up (ax_up (ax_up (ax_up (ax_up (ax_up (ax_up (ax_up (ax_up I p 4 (nI fw)) p 5 (nI fh)) p 2 0) p 3 0) q 4 (nI fw)) q 5 (nI fh)) q 2 0) q 3 0) 1 1 0) 1 2 0) 0 6 0) 0 7 0 := ⟨_, rfl⟩
  rw [← hJ]
  have k : ∀ i m, i ≠ p → i ≠ q → i ≠ 1 → ¬ (i = 0 ∧ m = 6) → ¬ (i = 0 ∧ m = 7) → J i m = I i m := fun i m z1 z2 z3 z4 z5 => by rw [hJ, ax_up_ne (by omega), ax_up_ne (by omega), ax_up_ne (by omega), ax_up_ne (by omega), ax_up_ne (by omega), ax_up_ne (by omega), ax_up_ne (by omega), ax_up_ne (by omega), ax_up_ne (by omega), ax_up_ne (by omega), ax_up_ne (by omega), ax_up_ne (by omega)]
  refine ⟨J, rfl, ⟨hQ, ⟨⟨?_, ?_, ?_, ?_⟩, fun k t hk => (by simp at hk), fun k t hk => by simp at hk⟩, ⟨⟨?_, ?_, ?_, ?_⟩, fun k t hk => (by simp at hk), fun k t hk => by simp at hk⟩, (k _ _ (by omega) (by omega) (by omega) (by omega) (by omega)).trans h3, (k _ _ (by omega) (by omega) (by omega) (by omega) (by omega)).trans h4, ?_, ?_, fun j c hj => by cases hj⟩, fun i m z => k _ _ (by omega) (by omega) (by omega) (by omega) (by omega)⟩
  · rw [hJ, ax_up_ne (by omega), ax_up_ne (by omega), ax_up_ne (by omega), ax_up_ne (by omega), ax_up_ne (by omega), ax_up_ne (by omega), ax_up_ne (by omega), ax_up_ne (by omega), ax_up_ne (by omega), ax_up_ne (by omega), ax_up_ne (by omega), ax_up_self]
  · rw [hJ, ax_up_ne (by omega), ax_up_ne (by omega), ax_up_ne (by omega), ax_up_ne (by omega), ax_up_ne (by omega), ax_up_ne (by omega), ax_up_ne (by omega), ax_up_ne (by omega), ax_up_ne (by omega), ax_up_ne (by omega), ax_up_self]
  · rw [hJ, ax_up_ne (by omega), ax_up_ne (by omega), ax_up_ne (by omega), ax_up_ne (by omega), ax_up_ne (by omega), ax_up_ne (by omega), ax_up_ne (by omega), ax_up_ne (by omega), ax_up_ne (by omega), ax_up_self]; rfl
  · rw [hJ, ax_up_ne (by omega), ax_up_ne (by omega), ax_up_ne (by omega), ax_up_ne (by omega), ax_up_ne (by omega), ax_up_ne (by omega), ax_up_ne (by omega), ax_up_ne (by omega), ax_up_self]; rfl
  · rw [hJ, ax_up_ne (by omega), ax_up_ne (by omega), ax_up_ne (by omega), ax_up_ne (by omega), ax_up_ne (by omega), ax_up_ne (by omega), ax_up_ne (by omega), ax_up_self]
  · rw [hJ, ax_up_ne (by omega), ax_up_ne (by omega), ax_up_ne (by omega), ax_up_ne (by omega), ax_up_ne (by omega), ax_up_ne (by omega), ax_up_self]
  · rw [hJ, ax_up_ne (by omega), ax_up_ne (by omega), ax_up_ne (by omega), ax_up_ne (by omega), ax_up_ne (by omega), ax_up_self]; rfl
  · rw [hJ, ax_up_ne (by omega), ax_up_ne (by omega), ax_up_ne (by omega), ax_up_ne (by omega), ax_up_self]; rfl
  · rw [hJ, ax_up_ne (by omega), ax_up_self]; rfl
  · rw [hJ, ax_up_ne (by omega), ax_up_ne (by omega), ax_up_ne (by omega), ax_up_self]; rfl
theorem k_fits0 (hQ : KQ R f g p q) (hr : isP r) (hP : KP I f g r a) (ha : okP a) (u c : Int32) : ∀ (m n k : Nat), k + m = a.2.1.length → m < n → ∃ B, d_P_borderFits_2 oS n I R r u c (nI k) = some B := by
  obtain ⟨⟨p1, p2, p3, p4⟩, pt, pn⟩ := hP
  have l40 := ha.2.1.1
  intro m
  induction m with
  | zero =>
    intro n k hk hn'
    obtain ⟨n, rfl⟩ : ∃ n', n = n' + 1 := ⟨n - 1, by omega⟩
    rw [d_P_borderFits_2, p3, if_pos (nI_le (by omega) (by omega))]
    exact ⟨_, rfl⟩
  | succ m ih =>
    intro n k hk hn'
    obtain ⟨n, rfl⟩ : ∃ n', n = n' + 1 := ⟨n - 1, by omega⟩
    rw [d_P_borderFits_2, p3, if_neg (nI_ge (by omega) (by omega)), (hQ.2.2.1 r hr).1, ob, kxT hr (by omega), ob, (hQ.2.2.2.1 r k hr (by omega)).1, ob]
    have c31 : ∀ y z, ∃ B, d_T_crosses_31 oS I R c y z = some B := by
      intro y z
      unfold d_T_crosses_31
      split
      · exact ⟨_, rfl⟩
      · split
        · exact ⟨_, rfl⟩
        · exact ⟨_, rfl⟩
    obtain ⟨B, hB⟩ : ∃ B, d_T_crosses oS I R (f r k) u c = some B := by
      unfold d_T_crosses d_T_crosses_15
      split
      · exact c31 _ _
      · exact c31 _ _
    rw [hB, ob]
    split
    · rw [nI_1]
      exact ih n (k + 1) (by omega) (by omega)
    · exact ⟨_, rfl⟩
theorem k_nearL (hQ : KQ R f g p q) (hr : isP r) (hP : KP I f g r a) (ha : okP a) (u c : Int32) {la : Nat} (hla : la ≤ 400) : ∀ (m n k : Nat), k + m = la + 1 → m < n → ∃ v, d_P_nearestFit_9 oS n I R r u c (nI la) (nI k) = some v := by
  have bf : ∀ c, ∃ B, d_P_borderFits oS I R r u c = some B := fun c => k_fits0 hQ hr hP ha u c a.2.1.length 5000 0 (by omega) (by have := ha.2.1.1; omega)
  intro m
  induction m with
  | zero =>
    intro n k hk hn'
    obtain ⟨n, rfl⟩ : ∃ n', n = n' + 1 := ⟨n - 1, by omega⟩
    rw [d_P_nearestFit_9, if_pos (nI_lt (by omega) (by omega))]
    exact ⟨_, rfl⟩
  | succ m ih =>
    intro n k hk hn'
    obtain ⟨n, rfl⟩ : ∃ n', n = n' + 1 := ⟨n - 1, by omega⟩
    have q64 : ∃ v, d_P_nearestFit_64 oS (d_P_nearestFit_9 oS n) I R r u c (nI la) (nI k) = some v := by
      unfold d_P_nearestFit_64
      rw [nI_1]
      exact ih n (k + 1) (by omega) (by omega)
    have q39 : ∃ v, d_P_nearestFit_39 oS (d_P_nearestFit_9 oS n) I R r u c (nI la) (nI k) = some v := by
      unfold d_P_nearestFit_39
      obtain ⟨B, hB⟩ := bf (c + nI k)
      rw [hB, ob]
      split
      · exact q64
      · split
        · exact q64
        · exact ⟨_, rfl⟩
    rw [d_P_nearestFit_9, if_neg (nI_nlt (by omega) (by omega))]
    obtain ⟨B, hB⟩ := bf (c - nI k)
    rw [hB, ob]
    split
    · exact q39
    · split
      · exact q39
      · exact ⟨_, rfl⟩
theorem k_side {x : Int32} (h : d_K_isSide oS I R x = some true) : ∃ j, j < 4 ∧ x = nI j := by
  unfold d_K_isSide at h
  split at h
  · cases h
  · rename_i z1
    split at h
    · cases h
    · rename_i z2
      exact idx_of (n := 4) (by omega) z1 z2
theorem k_upr (x : Int32) : ∃ B, d_K_isUpright oS I R x = some B := by
  unfold d_K_isUpright d_K_isUpright_9
  split
  · exact ⟨_, rfl⟩
  · split
    · exact ⟨_, rfl⟩
    · exact ⟨_, rfl⟩
theorem K_near (hK : KR I R f g p q a b fw fh since st) (ha : okP a) (x : Int32) : ∃ o, d_K_near oS I R 0 x = some o ∧ ((∃ v, o = .inl v) ∨ o = .inr "java/lang/IndexOutOfBoundsException" ∨ o = .inr "java/lang/IllegalStateException") := by
  obtain ⟨hQ, hP, -⟩ := hK
  obtain ⟨pp, pq, hne⟩ := KQ_P hQ
  have oW := ha.1
  unfold d_K_near
  obtain ⟨B, hB⟩ : ∃ B, d_K_isSide oS I R x = some B := by
    unfold d_K_isSide
    split
    · exact ⟨_, rfl⟩
    · split
      · exact ⟨_, rfl⟩
      · exact ⟨_, rfl⟩
  rw [hB, ob]
  cases B with
  | false => rw [if_pos bF]; exact ⟨_, rfl, Or.inr (Or.inl rfl)⟩
  | true =>
    rw [if_neg bT]
    split
    · exact ⟨_, rfl, Or.inr (Or.inr rfl)⟩
    · obtain ⟨j, hj, rfl⟩ := k_side hB
      obtain ⟨U, hU⟩ := k_upr (I := I) (R := R) (nI j)
      rw [hQ.2.1.1, ob, hU, ob, hQ.2.1.2.2.2.1, ob, kx3 hj, ob]
      obtain ⟨v, hv⟩ : ∃ v, d_P_nearestFit oS I R p (ax_b U) (I 3 j) = some v := by
        unfold d_P_nearestFit d_P_sizeAlong
        rw [hP.1.1, hP.1.2.1]
        cases U with
        | false =>
          rw [if_pos bF, ob]
          exact k_nearL hQ pp hP ha _ _ oW.2.2.2 (a.1.2 + 1) 5000 0 (by omega) (by omega)
        | true =>
          rw [if_neg bT, ob]
          exact k_nearL hQ pp hP ha _ _ oW.2.1 (a.1.1 + 1) 5000 0 (by omega) (by omega)
      rw [hv, ob]
      exact ⟨_, rfl, Or.inl ⟨_, rfl⟩⟩
theorem k_bef {u v : Nat} {s t : Tl} (hs : KT I u s) (ht : KT I v t) (b1 : s.1.1 ≤ 400) (b2 : s.1.2 ≤ 400) (b3 : t.1.1 ≤ 400) (b4 : t.1.2 ≤ 400) (S : ax_S) : d_T_partComesBefore S I R u v = some (bef s t) := by
  obtain ⟨⟨q1, q2, -⟩, -⟩ := hs
  obtain ⟨⟨r1, r2, -⟩, -⟩ := ht
  unfold d_T_partComesBefore d_T_partComesBefore_33 bef
  rw [q1, q2, r1, r2]
  by_cases z1 : s.1.2 < t.1.2
  · rw [if_pos (nI_lt z1 (by omega)), decide_eq_true (Or.inl z1)]
  rw [if_neg (nI_nlt (by omega) (by omega))]
  by_cases z2 : s.1.2 = t.1.2
  · rw [if_pos (by rw [z2])]
    by_cases z3 : t.1.1 ≤ s.1.1
    · rw [if_pos (nI_le z3 (by omega)), decide_eq_false (by omega)]
    · rw [if_neg (nI_ge (by omega) (by omega)), decide_eq_true (by omega)]
  · rw [if_neg (fun y => z2 ((nI_eq (by omega) (by omega)).mp y)), decide_eq_false (by omega)]
theorem k_ptrL (hQ : KQ R f g p q) (hr : isP r) (hP : KP I f g r a) (ha : okP a) {k : Nat} {t : Tl} (hk : a.2.1[k]? = some t) : ∀ (m n j acc : Nat), j + m = a.2.1.length → m < n → d_P_placeOfPart_19 oS n I R r (f r k) (nI acc) (nI j) = some (nI (acc + sumB t (a.2.1.drop j))) := by
  obtain ⟨⟨p1, p2, p3, p4⟩, pt, pn⟩ := hP
  have l40 := ha.2.1.1
  have oW := ha.1
  intro m
  induction m with
  | zero =>
    intro n j acc hj hn'
    obtain ⟨n, rfl⟩ : ∃ n', n = n' + 1 := ⟨n - 1, by omega⟩
    have hj : j = a.2.1.length := by omega
    subst hj
    rw [d_P_placeOfPart_19, p3, if_pos (nI_le (Nat.le_refl _) (by omega)), List.drop_length]
    rfl
  | succ m ih =>
    intro n j acc hj hn'
    obtain ⟨n, rfl⟩ : ∃ n', n = n' + 1 := ⟨n - 1, by omega⟩
    have hlt : j < a.2.1.length := by omega
    obtain ⟨s, hs⟩ : ∃ s, a.2.1[j]? = some s := ⟨_, List.getElem?_eq_getElem hlt⟩
    have ed : a.2.1.drop j = s :: a.2.1.drop (j + 1) := by rw [List.drop_eq_getElem_cons hlt]; congr 1; rw [List.getElem?_eq_getElem hlt] at hs; exact Option.some.inj hs
    obtain ⟨os, ⟨os1, os2⟩, -⟩ := ha.2.2.1 s (List.mem_of_getElem? hs)
    obtain ⟨ot, ⟨ot1, ot2⟩, -⟩ := ha.2.2.1 t (List.mem_of_getElem? hk)
    have q6 := (pt j s hs).1.2.2.2.2.2
    have esum : sumB t (s :: a.2.1.drop (j + 1)) = (if bef s t then psz s else 0) + sumB t (a.2.1.drop (j + 1)) := by unfold sumB; rw [List.map_cons, List.sum_cons]
    have hu := (hQ.2.2.2.1 r j hr (by omega)).1
    rw [d_P_placeOfPart_19, p3, if_neg (nI_ge hlt (by omega)), (hQ.2.2.1 r hr).1, ob, kxT hr (by omega), ob, hu, ob, k_bef (pt j s hs) (pt k t hk) (by omega) (by omega) (by omega) (by omega), ob, ed, esum]
    unfold d_P_placeOfPart_52
    cases hbf : bef s t with
    | false =>
      rw [if_pos bF, nI_1, ih n (j + 1) acc (by omega) (by omega)]
      congr 2
      simp
    | true =>
      unfold d_T_partLength
      rw [if_neg bT, ob, kxT hr (by omega), ob, hu, ob, ob, q6, show (12 : Int32) = nI 12 from rfl, nI_add, nI_add, nI_1, ih n (j + 1) _ (by omega) (by omega)]
      congr 2
      unfold psz
      simp
      omega
theorem k_ptr (hQ : KQ R f g p q) (hr : isP r) (hP : KP I f g r a) (ha : okP a) {k : Nat} {t : Tl} (hk : a.2.1[k]? = some t) : d_P_placeOfPart oS I R r (f r k) = some (nI (ptrP a t)) := by
  unfold d_P_placeOfPart
  rw [hP.1.2.2.1, hP.1.2.2.2, show (8 : Int32) = nI 8 from rfl, show (2 : Int32) = nI 2 from rfl, show (5 : Int32) = nI 5 from rfl, nI_mul, nI_mul, nI_add, nI_add]
  exact k_ptrL hQ hr hP ha hk a.2.1.length 5000 0 _ (by omega) (by have := ha.2.1.1; omega)
theorem K_pointer (hK : KR I R f g p q a b fw fh since st) (ha : okP a) (x : Int32) : (noIx a.2.1.length x → d_K_pointer oS I R 0 x = some (.inr "java/lang/IndexOutOfBoundsException")) ∧ (∀ k t, a.2.1[k]? = some t → x = nI k → d_K_pointer oS I R 0 x = some (.inl (nI (ptrP a t)))) := by
  have l := ha.2.1
  obtain ⟨hQ, hP, -⟩ := hK
  obtain ⟨pp, pq, hne⟩ := KQ_P hQ
  obtain ⟨s1, s2⟩ := k_hasTile (R := R) hP.1.2.2.1 x
  unfold d_K_pointer
  rw [hQ.2.1.1, ob]
  refine ⟨fun z => ?_, fun k t hk hx => ?_⟩
  · rw [s1 z, ob, if_pos bF]
  have hlt : k < a.2.1.length := (List.getElem?_eq_some_iff.mp hk).1
  rw [s2 (by rw [hx]; exact ix_in (by omega) hlt), ob, if_neg bT, ob, ob, (hQ.2.2.1 p pp).1, ob, hx, kxT pp (by omega), ob, (hQ.2.2.2.1 p k pp (by omega)).1, ob, k_ptr hQ pp hP ha hk, ob]
theorem K_streamAt (hK : KR I R f g p q a b fw fh since st) (hs : st.length ≤ 1148) (x : Int32) : (noIx st.length x → d_K_streamAt oS I R 0 x = some (.inr "java/lang/IndexOutOfBoundsException")) ∧ (∀ j c, st[j]? = some c → x = nI j → d_K_streamAt oS I R 0 x = some (.inl (nI c))) := by
  obtain ⟨hQ, -, -, -, -, -, h6, h7⟩ := hK
  unfold d_K_streamAt d_K_streamAt_15
  rw [hQ.2.1.2.2.1, ob, h6]
  refine ⟨fun z => ?_, fun j c hj hx => ?_⟩
  · by_cases z1 : x < 0
    · rw [if_pos z1]
    · rw [if_neg z1, if_neg (k_nle (z.resolve_left z1))]
  · have hjl : j < st.length := (List.getElem?_eq_some_iff.mp hj).1
    rw [hx, if_neg (nI_pos (by omega)), if_pos (nI_lt hjl (by omega)), ob, hQ.2.1.2.2.2.2, ob, kx2 (by omega), ob, h7 j c hj]
theorem k_tileOver (hQ : KQ R f g p q) (hr : isP r) (hP : KP I f g r a) (ha : okP a) {x y : Nat} (b3 : x ≤ 400) (b4 : y ≤ 400) : ∀ (m n k : Nat), k + m = a.2.1.length → m < n → ∃ v, d_P_tileOver_2 oS n I R r (nI x) (nI y) (nI k) = some v ∧ (v = -1 ∨ ∃ j, j < a.2.1.length ∧ v = nI j) := by
  obtain ⟨⟨p1, p2, p3, p4⟩, pt, pn⟩ := hP
  have l40 := ha.2.1.1
  have oW := ha.1
  intro m
  induction m with
  | zero =>
    intro n k hk hn'
    obtain ⟨n, rfl⟩ : ∃ n', n = n' + 1 := ⟨n - 1, by omega⟩
    rw [d_P_tileOver_2, p3, if_pos (nI_le (by omega) (by omega))]
    exact ⟨_, rfl, Or.inl rfl⟩
  | succ m ih =>
    intro n k hk hn'
    obtain ⟨n, rfl⟩ : ∃ n', n = n' + 1 := ⟨n - 1, by omega⟩
    have hlt : k < a.2.1.length := by omega
    obtain ⟨t, ht⟩ : ∃ t, a.2.1[k]? = some t := ⟨_, List.getElem?_eq_getElem hlt⟩
    obtain ⟨-, ⟨o1, o2⟩, -⟩ := ha.2.2.1 t (List.mem_of_getElem? ht)
    obtain ⟨v1, v2⟩ := k_over (R := R) (pt k t ht) (x := x) (y := y) (w := 1) (h := 1) (by omega) (by omega) (by omega) (by omega) oS
    rw [d_P_tileOver_2, p3, if_neg (nI_ge hlt (by omega)), (hQ.2.2.1 r hr).1, ob, kxT hr (by omega), ob, (hQ.2.2.2.1 r k hr (by omega)).1, ob]
    by_cases z : apart ((x, y), (1, 1), 0, []) t
    · have v1 : d_T_overlaps oS I R (f r k) (nI x) (nI y) 1 1 = some false := v1 z
      rw [v1, ob, if_pos bF, nI_1]
      exact ih n (k + 1) (by omega) (by omega)
    · have v2 : d_T_overlaps oS I R (f r k) (nI x) (nI y) 1 1 = some true := v2 z
      rw [v2, ob, if_neg bT]
      exact ⟨_, rfl, Or.inr ⟨k, hlt, rfl⟩⟩
theorem k_ownS {u v : Nat} (h6 : I u 6 = nI v) (hv : v < 8) (S : ax_S) : ∀ (m n k : Nat) (x3 x4 x5 x6 : Int32), k + m = v % 4 → m < n → ∃ w, d_T_ownSample_30 S n I R u x3 x4 x5 x6 (nI k) = some w := by
  intro m
  have e4 : nI v &&& 3 = nI (v % 4) := q_t ⟨v, hv⟩
  induction m with
  | zero =>
    intro n k x3 x4 x5 x6 hk hn'
    obtain ⟨n, rfl⟩ : ∃ n', n = n' + 1 := ⟨n - 1, by omega⟩
    rw [d_T_ownSample_30]
    unfold d_K_quarters d_K_mirrors d_T_ownSample_92
    rw [ob, h6, e4, if_pos (nI_le (by omega) (by omega))]
    by_cases z : nI v < 4
    · rw [if_pos z, ob, if_pos bF]
      exact ⟨_, rfl⟩
    · rw [if_neg z, ob, if_neg bT]
      exact ⟨_, rfl⟩
  | succ m ih =>
    intro n k x3 x4 x5 x6 hk hn'
    obtain ⟨n, rfl⟩ : ∃ n', n = n' + 1 := ⟨n - 1, by omega⟩
    rw [d_T_ownSample_30]
    unfold d_K_quarters
    rw [ob, h6, e4, if_neg (nI_ge (by omega) (by omega)), nI_1]
    exact ih n (k + 1) _ _ _ _ (by omega) (by omega)
theorem K_shown0 (hK : KR I R f g p q a b fw fh since st) (ha : okP a) (x y : Int32) : ∃ o, d_K_shown oS I R 0 x y = some o ∧ ((∃ v, o = .inl v) ∨ o = .inr "java/lang/IndexOutOfBoundsException") := by
  have l := ha.2.1
  have oW := ha.1
  obtain ⟨hQ, hP, -⟩ := hK
  obtain ⟨pp, pq, hne⟩ := KQ_P hQ
  obtain ⟨s1, s2⟩ := k_hasSample (R := R) hP.1.1 hP.1.2.1 x y
  unfold d_K_shown
  rw [hQ.2.1.1, ob]
  by_cases z : noIx a.1.1 x ∨ noIx a.1.2 y
  · rw [s1 z, ob, if_pos bF]
    exact ⟨_, rfl, Or.inr rfl⟩
  rw [s2 z, ob, if_neg bT]
  obtain ⟨x', hx, rfl⟩ := idx_of (n := a.1.1) (by omega) (fun w => z (Or.inl (Or.inl w))) (fun w => z (Or.inl (Or.inr w)))
  obtain ⟨y', hy, rfl⟩ := idx_of (n := a.1.2) (by omega) (fun w => z (Or.inr (Or.inl w))) (fun w => z (Or.inr (Or.inr w)))
  obtain ⟨v, hv, hv2⟩ := k_tileOver hQ pp hP ha (x := x') (y := y') (by omega) (by omega) a.2.1.length 5000 0 (by omega) (by omega)
  have hv : d_P_tileOver oS I R p (nI x') (nI y') = some v := hv
  rw [ob, hv, ob]
  by_cases e : v = -1
  · rw [if_pos e]
    exact ⟨_, rfl, Or.inl ⟨_, rfl⟩⟩
  · obtain ⟨j, hj, rfl⟩ := hv2.resolve_left e
    obtain ⟨t, ht⟩ : ∃ t, a.2.1[j]? = some t := ⟨_, List.getElem?_eq_getElem hj⟩
    have hw := (ha.2.2.1 t (List.mem_of_getElem? ht)).2.2.1
    rw [if_neg e, ob, (hQ.2.2.1 p pp).1, ob, kxT pp (by omega), ob, (hQ.2.2.2.1 p j pp (by omega)).1, ob]
    unfold d_T_ownSample
    obtain ⟨w, hw⟩ := k_ownS (R := R) (hP.2.1 j t ht).1.2.2.2.2.1 hw oS (t.2.2.1 % 4) 5000 0 (nI x' - I (f p j) 2) (nI y' - I (f p j) 3) (I (f p j) 4) (I (f p j) 5) (by omega) (by omega)
    have hw : d_T_ownSample_30 oS 5000 I R (f p j) (nI x' - I (f p j) 2) (nI y' - I (f p j) 3) (I (f p j) 4) (I (f p j) 5) 0 = some w := hw
    rw [hw, ob]
    exact ⟨_, rfl, Or.inl ⟨_, rfl⟩⟩
end KA
/-! the class: loops over a picture; crop -/
theorem nI_neg {v x : Nat} (h : x ≤ v) : nI v + -nI x = nI (v - x) := by rw [← Int32.sub_eq_add_neg, nI_sub h]
section KC
variable {I J : ax_I} {R : ax_R} {f g : Nat → Nat → Nat} {p q r fw fh since : Nat} {a a' b : Pc} {st : List Nat}
theorem k_tiles {X : Type} (hQ : KQ R f g p q) (hr : isP r) (hP : ∀ k t, a.2.1[k]? = some t → KT I (f r k) t) (ha : okP a) (L1 : Nat → ax_I → Int32 → Option X) (fin : ax_I → Option X) (F : Tl → Tl)
    (stop1 : ∀ n J, (∀ i, J r i = I r i) → L1 (n + 1) J (nI a.2.1.length) = fin J)
    (step1 : ∀ n J k t, a.2.1[k]? = some t → (∀ i, J r i = I r i) → KT J (f r k) t → ∃ J', L1 (n + 1) J (nI k) = L1 n J' (nI (k + 1)) ∧ KT J' (f r k) (F t) ∧ ∀ i m, i ≠ f r k → J' i m = J i m) :
    ∃ J, L1 5000 I 0 = fin J ∧ (∀ k t, a.2.1[k]? = some t → KT J (f r k) (F t)) ∧ (∀ i, J r i = I r i) ∧ (∀ i m, ¬ own f g r i → J i m = I i m) ∧ ∀ k i, k < 20 → J (g r k) i = I (g r k) i := by
  have l := ha.2.1
  have tT : ∀ k, k < a.2.1.length → isT (f r k) := fun k hk => (hQ.2.2.2.1 r k hr (by omega)).2
  have hrow : ∀ J : ax_I, (∀ i m, (∀ k, k < a.2.1.length → i ≠ f r k) → J i m = I i m) → ∀ i, J r i = I r i := fun J hJ i => hJ _ _ (fun k hk e => (T_P (tT k hk) hr).1 e.symm)
  obtain ⟨J, e, q1, q2⟩ := k_loop L1 fin KT F (f r) a.2.1 I (fun J J' k k' t hk hk' hne hfr hq => KT_keep hq (fun i => hfr _ _ (fun e => hne (hQ.2.2.2.2.2.2.1 r k r k' hr hr (by omega) (by omega) e).2)) (fun i => hfr _ _ (T_T (tT k hk) (tT k' hk')))) (fun n J hJ => stop1 n J (hrow J hJ)) (fun n J k t ht hJ hq => step1 n J k t ht (hrow J hJ) hq) hP 5000 (by omega)
  refine ⟨J, e, q1, hrow J q2, fun i m z => q2 i m (fun k hk y => z (Or.inr (Or.inl ⟨k, by omega, Or.inl y⟩))), fun k i hk => q2 _ _ (fun j hj y => ?_)⟩
  exact (T_N (tT j hj) (hQ.2.2.2.2.1 r k hr hk).2).1 y.symm
theorem k_notes {X : Type} (hQ : KQ R f g p q) (hr : isP r) (hP : ∀ k n, a.2.2[k]? = some n → KN I (g r k) n) (ha : okP a) (L1 : Nat → ax_I → Int32 → Option X) (fin : ax_I → Option X) (G : Nt → Nt)
    (stop1 : ∀ n J, (∀ i, J r i = I r i) → L1 (n + 1) J (nI a.2.2.length) = fin J)
    (step1 : ∀ n J k t, a.2.2[k]? = some t → (∀ i, J r i = I r i) → KN J (g r k) t → ∃ J', L1 (n + 1) J (nI k) = L1 n J' (nI (k + 1)) ∧ KN J' (g r k) (G t) ∧ ∀ i m, i ≠ g r k → J' i m = J i m) :
    ∃ J, L1 5000 I 0 = fin J ∧ (∀ k t, a.2.2[k]? = some t → KN J (g r k) (G t)) ∧ (∀ i, J r i = I r i) ∧ (∀ i m, ¬ own f g r i → J i m = I i m) ∧ ∀ k i, k < 40 → J (f r k) i = I (f r k) i ∧ J (f r k + 1) i = I (f r k + 1) i := by
  have l := ha.2.1
  have tN : ∀ k, k < a.2.2.length → isN (g r k) := fun k hk => (hQ.2.2.2.2.1 r k hr (by omega)).2
  have hrow : ∀ J : ax_I, (∀ i m, (∀ k, k < a.2.2.length → i ≠ g r k) → J i m = I i m) → ∀ i, J r i = I r i := fun J hJ i => hJ _ _ (fun k hk e => N_P (tN k hk) hr e.symm)
  obtain ⟨J, e, q1, q2⟩ := k_loop L1 fin KN G (g r) a.2.2 I (fun J J' k k' t hk hk' hne hfr hq => KN_keep hq (fun i => hfr _ _ (fun e => hne (hQ.2.2.2.2.2.2.2 r k r k' hr hr (by omega) (by omega) e).2))) (fun n J hJ => stop1 n J (hrow J hJ)) (fun n J k t ht hJ hq => step1 n J k t ht (hrow J hJ) hq) hP 5000 (by omega)
  refine ⟨J, e, q1, hrow J q2, fun i m z => q2 i m (fun k hk y => z (Or.inr (Or.inr ⟨k, by omega, y⟩))), fun k i hk => ⟨q2 _ _ (fun j hj y => ?_), q2 _ _ (fun j hj y => ?_)⟩⟩
  · exact (T_N (hQ.2.2.2.1 r k hr hk).2 (tN j hj)).1 y
  · exact (T_N (hQ.2.2.2.1 r k hr hk).2 (tN j hj)).2 y
/-- first the tiles, then the notes -/
theorem k_pair {X : Type} (hQ : KQ R f g p q) (hr : isP r) (hP : KP I f g r a) (ha : okP a) (L1 L2 : Nat → ax_I → Int32 → Option X) (fin : ax_I → Option X) (F : Tl → Tl) (G : Nt → Nt)
    (stop1 : ∀ n J, (∀ i, J r i = I r i) → L1 (n + 1) J (nI a.2.1.length) = L2 5000 J 0)
    (step1 : ∀ n J k t, a.2.1[k]? = some t → (∀ i, J r i = I r i) → KT J (f r k) t → ∃ J', L1 (n + 1) J (nI k) = L1 n J' (nI (k + 1)) ∧ KT J' (f r k) (F t) ∧ ∀ i m, i ≠ f r k → J' i m = J i m)
    (stop2 : ∀ n J, (∀ i, J r i = I r i) → L2 (n + 1) J (nI a.2.2.length) = fin J)
    (step2 : ∀ n J k t, a.2.2[k]? = some t → (∀ i, J r i = I r i) → KN J (g r k) t → ∃ J', L2 (n + 1) J (nI k) = L2 n J' (nI (k + 1)) ∧ KN J' (g r k) (G t) ∧ ∀ i m, i ≠ g r k → J' i m = J i m) :
    ∃ J, L1 5000 I 0 = fin J ∧ (∀ k t, a.2.1[k]? = some t → KT J (f r k) (F t)) ∧ (∀ k n, a.2.2[k]? = some n → KN J (g r k) (G n)) ∧ (∀ i, J r i = I r i) ∧ ∀ i m, ¬ own f g r i → J i m = I i m := by
  have l := ha.2.1
  obtain ⟨J1, e1, t1, r1, o1, n1⟩ := k_tiles hQ hr hP.2.1 ha L1 (fun J => L2 5000 J 0) F stop1 step1
  obtain ⟨J2, e2, n2, r2, o2, t2⟩ := k_notes (I := J1) hQ hr (fun k n hk => KN_keep (hP.2.2 k n hk) (fun i => n1 k i (by have := (List.getElem?_eq_some_iff.mp hk).1; omega))) ha L2 fin G (fun n J hJ => stop2 n J (fun i => (hJ i).trans (r1 i))) (fun n J k t ht hJ hq => step2 n J k t ht (fun i => (hJ i).trans (r1 i)) hq)
  refine ⟨J2, e1.trans e2, fun k t hk => KT_keep (t1 k t hk) (fun i => (t2 k i (by have := (List.getElem?_eq_some_iff.mp hk).1; omega)).1) (fun i => (t2 k i (by have := (List.getElem?_eq_some_iff.mp hk).1; omega)).2), n2, fun i => (r2 i).trans (r1 i), fun i m z => (o2 i m z).trans (o1 i m z)⟩
theorem k_moveBy (hQ : KQ R f g p q) (hr : isP r) (hP : KP I f g r a) (ha : okP a) (dx dy : Int32) (X Y : Nat → Nat) (h1 : ∀ t ∈ a.2.1, nI t.1.1 + dx = nI (X t.1.1) ∧ nI t.1.2 + dy = nI (Y t.1.2)) (h2 : ∀ n ∈ a.2.2, nI n.1 + dx = nI (X n.1) ∧ nI n.2.1 + dy = nI (Y n.2.1)) : ∃ J, d_P_moveBy oS I R r dx dy = some J ∧ (∀ k t, a.2.1[k]? = some t → KT J (f r k) ((X t.1.1, Y t.1.2), t.2)) ∧ (∀ k n, a.2.2[k]? = some n → KN J (g r k) (X n.1, Y n.2.1, n.2.2)) ∧ (∀ i, J r i = I r i) ∧ ∀ i m, ¬ own f g r i → J i m = I i m := by
  have l := ha.2.1
  refine k_pair hQ hr hP ha (fun n J i => d_P_moveBy_2 oS n J R r dx dy i) (fun n J i => d_P_moveBy_29 oS n J R r dx dy i) some (fun t => ((X t.1.1, Y t.1.2), t.2)) (fun n => (X n.1, Y n.2.1, n.2.2)) (fun n J hJ => ?_) (fun n J k t ht hJ hq => ?_) (fun n J hJ => ?_) (fun n J k t ht hJ hq => ?_)
  · show d_P_moveBy_2 oS (n + 1) J R r dx dy (nI a.2.1.length) = _
    rw [d_P_moveBy_2, hJ, hP.1.2.2.1, if_pos (nI_le (Nat.le_refl _) (by omega))]
  · show ∃ J', d_P_moveBy_2 oS (n + 1) J R r dx dy (nI k) = d_P_moveBy_2 oS n J' R r dx dy (nI (k + 1)) ∧ _
    have hlt : k < a.2.1.length := (List.getElem?_eq_some_iff.mp ht).1
    obtain ⟨⟨q1, q2, q3, q4, q5, q6⟩, q7⟩ := hq
    obtain ⟨x1, x2⟩ := h1 t (List.mem_of_getElem? ht)
    rw [d_P_moveBy_2, hJ, hP.1.2.2.1, if_neg (nI_ge hlt (by omega)), (hQ.2.2.1 r hr).1, ob, kxT hr (by omega), ob, (hQ.2.2.2.1 r k hr (by omega)).1, ob]
    unfold d_T_moveBy
    rw [ob, ob, ob, ax_up_ne (show ¬ (f r k = f r k ∧ 3 = 2) by omega), q1, q2, x1, x2, nI_1]
    refine ⟨_, rfl, ⟨⟨?_, ?_, ?_, ?_, ?_, ?_⟩, fun j c hj => ?_⟩, fun i m z => ?_⟩
    · rw [ax_up_ne (by omega), ax_up_self]
    · rw [ax_up_self]
    · rw [ax_up_ne (by omega), ax_up_ne (by omega)]; exact q3
    · rw [ax_up_ne (by omega), ax_up_ne (by omega)]; exact q4
    · rw [ax_up_ne (by omega), ax_up_ne (by omega)]; exact q5
    · rw [ax_up_ne (by omega), ax_up_ne (by omega)]; exact q6
    · rw [ax_up_ne (by omega), ax_up_ne (by omega)]; exact q7 j c hj
    · rw [ax_up_ne (by omega), ax_up_ne (by omega)]
  · show d_P_moveBy_29 oS (n + 1) J R r dx dy (nI a.2.2.length) = _
    rw [d_P_moveBy_29, hJ, hP.1.2.2.2, if_pos (nI_le (Nat.le_refl _) (by omega))]
  · show ∃ J', d_P_moveBy_29 oS (n + 1) J R r dx dy (nI k) = d_P_moveBy_29 oS n J' R r dx dy (nI (k + 1)) ∧ _
    have hlt : k < a.2.2.length := (List.getElem?_eq_some_iff.mp ht).1
    obtain ⟨q1, q2, q3⟩ := hq
    obtain ⟨x1, x2⟩ := h2 t (List.mem_of_getElem? ht)
    rw [d_P_moveBy_29, hJ, hP.1.2.2.2, if_neg (nI_ge hlt (by omega)), (hQ.2.2.1 r hr).2, ob, kxN hr (by omega), ob, (hQ.2.2.2.2.1 r k hr (by omega)).1, ob]
    unfold d_N_moveBy
    rw [ob, ob, ob, ax_up_ne (show ¬ (g r k = g r k ∧ 1 = 0) by omega), q1, q2, x1, x2, nI_1]
    refine ⟨_, rfl, ⟨?_, ?_, ?_⟩, fun i m z => ?_⟩
    · rw [ax_up_ne (by omega), ax_up_self]
    · rw [ax_up_self]
    · rw [ax_up_ne (by omega), ax_up_ne (by omega)]; exact q3
    · rw [ax_up_ne (by omega), ax_up_ne (by omega)]
theorem k_cross {v : Nat} {t : Tl} (ht : KT I v t) (b1 : t.1.1 + t.2.1.1 ≤ 400) (b2 : t.1.2 + t.2.1.2 ≤ 400) {c : Nat} (hc : c ≤ 800) (u : Bool) (S : ax_S) : d_T_crosses S I R v (ax_b u) (nI c) = some (!fitT u c t) := by
  obtain ⟨⟨q1, q2, q3, q4, q5, q6⟩, -⟩ := ht
  have e31 : ∀ x w : Nat, x + w ≤ 400 → d_T_crosses_31 S I R (nI c) (nI x) (nI w) = some (!decide (x + w ≤ c ∨ c ≤ x)) := by
    intro x w hxw
    unfold d_T_crosses_31
    by_cases z1 : c ≤ x
    · rw [if_pos (nI_le z1 (by omega)), decide_eq_true (Or.inr z1)]; rfl
    rw [if_neg (nI_ge (by omega) (by omega)), nI_add]
    by_cases z2 : x + w ≤ c
    · rw [if_pos (nI_le z2 (by omega)), decide_eq_true (Or.inl z2)]; rfl
    · rw [if_neg (nI_ge (by omega) (by omega)), decide_eq_false (by omega)]; rfl
  unfold d_T_crosses d_T_crosses_15
  rw [q1, q2, q3, q4]
  cases u with
  | false => rw [if_pos bF, if_pos bF]; exact e31 _ _ b2
  | true => rw [if_neg bT, if_neg bT]; exact e31 _ _ b1
theorem k_fitsL (hQ : KQ R f g p q) (hr : isP r) (hP : KP I f g r a) (ha : okP a) {c : Nat} (hc : c ≤ 800) (u : Bool) : ∀ (m n k : Nat), k + m = a.2.1.length → m < n → d_P_borderFits_2 oS n I R r (ax_b u) (nI c) (nI k) = some ((a.2.1.drop k).all (fitT u c)) := by
  obtain ⟨⟨p1, p2, p3, p4⟩, pt, pn⟩ := hP
  have l40 := ha.2.1.1
  have oW := ha.1
  intro m
  induction m with
  | zero =>
    intro n k hk hn'
    obtain ⟨n, rfl⟩ : ∃ n', n = n' + 1 := ⟨n - 1, by omega⟩
    have hk : k = a.2.1.length := by omega
    subst hk
    rw [d_P_borderFits_2, p3, if_pos (nI_le (Nat.le_refl _) (by omega)), List.drop_length]
    rfl
  | succ m ih =>
    intro n k hk hn'
    obtain ⟨n, rfl⟩ : ∃ n', n = n' + 1 := ⟨n - 1, by omega⟩
    have hlt : k < a.2.1.length := by omega
    obtain ⟨t, ht⟩ : ∃ t, a.2.1[k]? = some t := ⟨_, List.getElem?_eq_getElem hlt⟩
    have ed : a.2.1.drop k = t :: a.2.1.drop (k + 1) := by rw [List.drop_eq_getElem_cons hlt]; congr 1; rw [List.getElem?_eq_getElem hlt] at ht; exact Option.some.inj ht
    obtain ⟨-, ⟨o1, o2⟩, -⟩ := ha.2.2.1 t (List.mem_of_getElem? ht)
    rw [d_P_borderFits_2, p3, if_neg (nI_ge hlt (by omega)), (hQ.2.2.1 r hr).1, ob, kxT hr (by omega), ob, (hQ.2.2.2.1 r k hr (by omega)).1, ob, k_cross (pt k t ht) (by omega) (by omega) hc u, ob, ed, List.all_cons]
    cases fitT u c t with
    | false => rw [if_neg (show ¬ ax_b (!false) = 0 from bT)]; rfl
    | true => rw [if_pos (show ax_b (!true) = 0 from bF), nI_1, ih n (k + 1) (by omega) (by omega), Bool.true_and]
theorem k_fits (hQ : KQ R f g p q) (hr : isP r) (hP : KP I f g r a) (ha : okP a) {c : Nat} (hc : c ≤ 800) (u : Bool) : d_P_borderFits oS I R r (ax_b u) (nI c) = some (a.2.1.all (fitT u c)) := by
  have := k_fitsL hQ hr hP ha hc u a.2.1.length 5000 0 (by omega) (by have := ha.2.1.1; omega)
  rw [List.drop_zero] at this
  exact this
theorem kp_asked (hQ : KQ R f g p q) (hP : KP I f g p a) (ha : okP a) {x y w h : Nat} (hx : x + w ≤ 400) (hy : y + h ≤ 400) (a0 : I 3 0 = nI x) (a1 : I 3 1 = nI y) (a2 : I 3 2 = nI (x + w)) (a3 : I 3 3 = nI (y + h)) : d_K_allAskedFit oS I R 0 = some (fitA a x y w h) := by
  obtain ⟨pp, pq, hne⟩ := KQ_P hQ
  have u0 : d_K_isUpright oS I R 0 = some true := rfl
  have u1 : d_K_isUpright oS I R 1 = some false := rfl
  have u2 : d_K_isUpright oS I R 2 = some true := rfl
  have u3 : d_K_isUpright oS I R 3 = some false := rfl
  have x0 : ax_ix oS 3 0 = some 0 := kx3 (k := 0) (by omega)
  have x1 : ax_ix oS 3 1 = some 1 := kx3 (k := 1) (by omega)
  have x2 : ax_ix oS 3 2 = some 2 := kx3 (k := 2) (by omega)
  have x3 : ax_ix oS 3 3 = some 3 := kx3 (k := 3) (by omega)
  have f1 := k_fits hQ pp hP ha (c := x) (by omega) true
  have f2 := k_fits hQ pp hP ha (c := y) (by omega) false
  have f3 := k_fits hQ pp hP ha (c := x + w) (by omega) true
  have f4 := k_fits hQ pp hP ha (c := y + h) (by omega) false
  unfold d_K_allAskedFit fitA
  rw [show (5000 : Nat) = 4995 + 1 + 1 + 1 + 1 + 1 from rfl, d_K_allAskedFit_2, if_neg (show ¬ (4 : Int32) ≤ 0 by decide), hQ.2.1.1, ob, u0, ob, hQ.2.1.2.2.2.1, ob, x0, ob, a0, f1, ob]
  cases a.2.1.all (fitT true x) with
  | false => rw [if_pos bF]; rfl
  | true =>
    rw [if_neg bT, show (0 : Int32) + 1 = 1 from rfl, d_K_allAskedFit_2, if_neg (show ¬ (4 : Int32) ≤ 1 by decide), hQ.2.1.1, ob, u1, ob, hQ.2.1.2.2.2.1, ob, x1, ob, a1, f2, ob]
    cases a.2.1.all (fitT false y) with
    | false => rw [if_pos bF]; rfl
    | true =>
      rw [if_neg bT, show (1 : Int32) + 1 = 2 from rfl, d_K_allAskedFit_2, if_neg (show ¬ (4 : Int32) ≤ 2 by decide), hQ.2.1.1, ob, u2, ob, hQ.2.1.2.2.2.1, ob, x2, ob, a2, f3, ob]
      cases a.2.1.all (fitT true (x + w)) with
      | false => rw [if_pos bF]; rfl
      | true =>
        rw [if_neg bT, show (2 : Int32) + 1 = 3 from rfl, d_K_allAskedFit_2, if_neg (show ¬ (4 : Int32) ≤ 3 by decide), hQ.2.1.1, ob, u3, ob, hQ.2.1.2.2.2.1, ob, x3, ob, a3, f4, ob]
        cases a.2.1.all (fitT false (y + h)) with
        | false => rw [if_pos bF]; rfl
        | true => rw [if_neg bT, show (3 : Int32) + 1 = 4 from rfl, d_K_allAskedFit_2, if_pos (show (4 : Int32) ≤ 4 by decide)]; rfl
theorem k_within {u : Nat} {t : Tl} (ht : KT I u t) {x y w h : Nat} (b1 : t.1.1 + t.2.1.1 ≤ 400) (b2 : t.1.2 + t.2.1.2 ≤ 400) (b3 : x + w ≤ 400) (b4 : y + h ≤ 400) (S : ax_S) : d_T_isWithin S I R u (nI x) (nI y) (nI (x + w)) (nI (y + h)) = some (inT x y w h t) := by
  obtain ⟨⟨q1, q2, q3, q4, q5, q6⟩, -⟩ := ht
  unfold d_T_isWithin inT
  rw [q1, q2, q3, q4, nI_add, nI_add]
  by_cases z1 : t.1.1 < x
  · rw [if_pos (nI_lt z1 (by omega)), decide_eq_false (by omega)]
  rw [if_neg (nI_nlt (by omega) (by omega))]
  by_cases z2 : t.1.2 < y
  · rw [if_pos (nI_lt z2 (by omega)), decide_eq_false (by omega)]
  rw [if_neg (nI_nlt (by omega) (by omega))]
  by_cases z3 : x + w < t.1.1 + t.2.1.1
  · rw [if_pos (nI_lt z3 (by omega)), decide_eq_false (by omega)]
  rw [if_neg (nI_nlt (by omega) (by omega))]
  by_cases z4 : y + h < t.1.2 + t.2.1.2
  · rw [if_pos (nI_lt z4 (by omega)), decide_eq_false (by omega)]
  rw [if_neg (nI_nlt (by omega) (by omega)), decide_eq_true (by omega)]
theorem k_withinN {u : Nat} {n : Nt} (ht : KN I u n) {x y w h : Nat} (b1 : n.1 ≤ 400) (b2 : n.2.1 ≤ 400) (b3 : x + w ≤ 400) (b4 : y + h ≤ 400) (S : ax_S) : d_N_isWithin S I R u (nI x) (nI y) (nI (x + w)) (nI (y + h)) = some (inN x y w h n) := by
  obtain ⟨q1, q2, q3⟩ := ht
  unfold d_N_isWithin inN
  rw [q1, q2]
  by_cases z1 : n.1 < x
  · rw [if_pos (nI_lt z1 (by omega)), decide_eq_false (by omega)]
  rw [if_neg (nI_nlt (by omega) (by omega))]
  by_cases z2 : n.2.1 < y
  · rw [if_pos (nI_lt z2 (by omega)), decide_eq_false (by omega)]
  rw [if_neg (nI_nlt (by omega) (by omega))]
  by_cases z3 : x + w ≤ n.1
  · rw [if_pos (nI_le z3 (by omega)), decide_eq_false (by omega)]
  rw [if_neg (nI_ge (by omega) (by omega))]
  by_cases z4 : y + h ≤ n.2.1
  · rw [if_pos (nI_le z4 (by omega)), decide_eq_false (by omega)]
  rw [if_neg (nI_ge (by omega) (by omega)), decide_eq_true (by omega)]
theorem k_keepT (hr : isP r) (hP : KP I f g r a) (ha : okP a) {x y w h : Nat} (b3 : x + w ≤ 400) (b4 : y + h ≤ 400) : ∀ (m n k : Nat) (R' : ax_R) (f' : Nat → Nat → Nat), k + m = a.2.1.length → m < n → KQ R' f' g p q → (∀ s j, s ≠ r ∨ k ≤ j → f' s j = f s j) → (∀ j t, ((a.2.1.take k).filter (inT x y w h))[j]? = some t → KT I (f' r j) t) → (∀ i k, 210 ≤ i → R' i k = R i k) → ∃ R'' f'', d_P_keepTilesWithin_6 oS n I R' r (nI x) (nI y) (nI (x + w)) (nI (y + h)) (nI ((a.2.1.take k).filter (inT x y w h)).length) (nI k) = some (ax_up I r 2 (nI (a.2.1.filter (inT x y w h)).length), R'') ∧ KQ R'' f'' g p q ∧ (∀ s j, s ≠ r → f'' s j = f s j) ∧ (∀ j t, (a.2.1.filter (inT x y w h))[j]? = some t → KT I (f'' r j) t) ∧ ∀ i k, 210 ≤ i → R'' i k = R i k := by
  obtain ⟨⟨p1, p2, p3, p4⟩, pt, pn⟩ := hP
  have l40 := ha.2.1.1
  have oW := ha.1
  have hr4 := P_r hr
  intro m
  induction m with
  | zero =>
    intro n k R' f' hk hn' hQ hf hA hH
    obtain ⟨n, rfl⟩ : ∃ n', n = n' + 1 := ⟨n - 1, by omega⟩
    have hk : k = a.2.1.length := by omega
    subst hk
    rw [List.take_length] at hA ⊢
    rw [d_P_keepTilesWithin_6, p3, if_pos (nI_le (Nat.le_refl _) (by omega)), ob]
    exact ⟨R', f', rfl, hQ, fun s j z => hf s j (Or.inl z), hA, hH⟩
  | succ m ih =>
    intro n k R' f' hk hn' hQ hf hA hH
    obtain ⟨n, rfl⟩ : ∃ n', n = n' + 1 := ⟨n - 1, by omega⟩
    have hlt : k < a.2.1.length := by omega
    obtain ⟨t, ht⟩ : ∃ t, a.2.1[k]? = some t := ⟨_, List.getElem?_eq_getElem hlt⟩
    obtain ⟨-, ⟨o1, o2⟩, -⟩ := ha.2.2.1 t (List.mem_of_getElem? ht)
    have fk : f' r k = f r k := hf r k (Or.inr (Nat.le_refl _))
    have hT : KT I (f' r k) t := by rw [fk]; exact pt k t ht
    have hle := take_filter_len (inT x y w h) a.2.1 k
    rw [d_P_keepTilesWithin_6, p3, if_neg (nI_ge hlt (by omega)), (hQ.2.2.1 r hr).1, ob, kxT hr (by omega), ob, (hQ.2.2.2.1 r k hr (by omega)).1, ob, k_within hT (by omega) (by omega) b3 b4, ob]
    cases hz : inT x y w h t with
    | false =>
      have et : (a.2.1.take (k + 1)).filter (inT x y w h) = (a.2.1.take k).filter (inT x y w h) := by
        rw [take_succ_f ht, List.filter_append, List.filter_cons, hz]
        simp
      have := ih n (k + 1) R' f' (by omega) (by omega) hQ (fun s j z => hf s j (by omega)) (by rw [et]; exact hA) hH
      rw [et] at this
      unfold d_P_keepTilesWithin_63
      rw [if_pos bF, nI_1]
      exact this
    | true =>
      have et : (a.2.1.take (k + 1)).filter (inT x y w h) = (a.2.1.take k).filter (inT x y w h) ++ [t] := by
        rw [take_succ_f ht, List.filter_append, List.filter_cons, hz]
        simp
      obtain ⟨c, hc⟩ : ∃ c, c = ((a.2.1.take k).filter (inT x y w h)).length := ⟨_, rfl⟩
      have eln : ((a.2.1.take (k + 1)).filter (inT x y w h)).length = c + 1 := by rw [et, List.length_append, ← hc]; rfl
      rw [← hc] at hle ⊢
      have e0 : ax_up R' (r + 1) k (some (f' r c)) r 0 = some (r + 1) := by rw [ax_up_ne (by omega)]; exact (hQ.2.2.1 r hr).1
      unfold d_P_keepTilesWithin_63
      rw [if_neg bT, ob, ob, kxT hr (show c < 40 by omega), ob, (hQ.2.2.2.1 r c hr (by omega)).1, ob, kxT hr (show k < 40 by omega), ob, ob, e0, ob, kxT hr (show c < 40 by omega), ob, ob, nI_1, nI_1]
      have := ih n (k + 1) _ (swp f' r k r c) (by omega) (by omega) (KQ_swpT hQ hr hr (show k < 40 by omega) (show c < 40 by omega)) (fun s j z => ?_) (fun j t' hj => ?_) (fun i m z => ?_)
      · rw [eln] at this
        exact this
      · rw [swp_3 (by omega) (by omega)]
        exact hf s j (by omega)
      · rw [et] at hj
        by_cases hjl : j < c
        · rw [List.getElem?_append_left (by omega)] at hj
          rw [swp_3 (by omega) (by omega)]
          exact hA j t' hj
        · rw [List.getElem?_append_right (by omega), ← hc] at hj
          have hzz : j - c < 1 := by
            have := (List.getElem?_eq_some_iff.mp hj).1
            simpa using this
          have hj2 : j = c := by omega
          subst hj2
          simp at hj
          subst hj
          rw [swp_1]
          exact hT
      · rw [ax_up_ne (by omega), ax_up_ne (by omega)]
        exact hH i m z
theorem k_keepN (hr : isP r) (hP : KP I f g r a) (ha : okP a) {x y w h : Nat} (b3 : x + w ≤ 400) (b4 : y + h ≤ 400) : ∀ (m n k : Nat) (R' : ax_R) (g' : Nat → Nat → Nat), k + m = a.2.2.length → m < n → KQ R' f g' p q → (∀ s j, s ≠ r ∨ k ≤ j → g' s j = g s j) → (∀ j t, ((a.2.2.take k).filter (inN x y w h))[j]? = some t → KN I (g' r j) t) → (∀ i k, 210 ≤ i → R' i k = R i k) → ∃ R'' g'', d_P_keepNotesWithin_6 oS n I R' r (nI x) (nI y) (nI (x + w)) (nI (y + h)) (nI ((a.2.2.take k).filter (inN x y w h)).length) (nI k) = some (ax_up I r 3 (nI (a.2.2.filter (inN x y w h)).length), R'') ∧ KQ R'' f g'' p q ∧ (∀ s j, s ≠ r → g'' s j = g s j) ∧ (∀ j t, (a.2.2.filter (inN x y w h))[j]? = some t → KN I (g'' r j) t) ∧ ∀ i k, 210 ≤ i → R'' i k = R i k := by
  obtain ⟨⟨p1, p2, p3, p4⟩, pt, pn⟩ := hP
  have l20 := ha.2.1.2
  have oW := ha.1
  have hr4 := P_r hr
  intro m
  induction m with
  | zero =>
    intro n k R' g' hk hn' hQ hf hA hH
    obtain ⟨n, rfl⟩ : ∃ n', n = n' + 1 := ⟨n - 1, by omega⟩
    have hk : k = a.2.2.length := by omega
    subst hk
    rw [List.take_length] at hA ⊢
    rw [d_P_keepNotesWithin_6, p4, if_pos (nI_le (Nat.le_refl _) (by omega)), ob]
    exact ⟨R', g', rfl, hQ, fun s j z => hf s j (Or.inl z), hA, hH⟩
  | succ m ih =>
    intro n k R' g' hk hn' hQ hf hA hH
    obtain ⟨n, rfl⟩ : ∃ n', n = n' + 1 := ⟨n - 1, by omega⟩
    have hlt : k < a.2.2.length := by omega
    obtain ⟨t, ht⟩ : ∃ t, a.2.2[k]? = some t := ⟨_, List.getElem?_eq_getElem hlt⟩
    obtain ⟨o1, o2, -⟩ := ha.2.2.2.1 t (List.mem_of_getElem? ht)
    have fk : g' r k = g r k := hf r k (Or.inr (Nat.le_refl _))
    have hT : KN I (g' r k) t := by rw [fk]; exact pn k t ht
    have hle := take_filter_len (inN x y w h) a.2.2 k
    rw [d_P_keepNotesWithin_6, p4, if_neg (nI_ge hlt (by omega)), (hQ.2.2.1 r hr).2, ob, kxN hr (by omega), ob, (hQ.2.2.2.2.1 r k hr (by omega)).1, ob, k_withinN hT (by omega) (by omega) b3 b4, ob]
    cases hz : inN x y w h t with
    | false =>
      have et : (a.2.2.take (k + 1)).filter (inN x y w h) = (a.2.2.take k).filter (inN x y w h) := by
        rw [take_succ_f ht, List.filter_append, List.filter_cons, hz]
        simp
      have := ih n (k + 1) R' g' (by omega) (by omega) hQ (fun s j z => hf s j (by omega)) (by rw [et]; exact hA) hH
      rw [et] at this
      unfold d_P_keepNotesWithin_63
      rw [if_pos bF, nI_1]
      exact this
    | true =>
      have et : (a.2.2.take (k + 1)).filter (inN x y w h) = (a.2.2.take k).filter (inN x y w h) ++ [t] := by
        rw [take_succ_f ht, List.filter_append, List.filter_cons, hz]
        simp
      obtain ⟨c, hc⟩ : ∃ c, c = ((a.2.2.take k).filter (inN x y w h)).length := ⟨_, rfl⟩
      have eln : ((a.2.2.take (k + 1)).filter (inN x y w h)).length = c + 1 := by rw [et, List.length_append, ← hc]; rfl
      rw [← hc] at hle ⊢
      have e0 : ax_up R' (r + 82) k (some (g' r c)) r 1 = some (r + 82) := by rw [ax_up_ne (by omega)]; exact (hQ.2.2.1 r hr).2
      unfold d_P_keepNotesWithin_63
      rw [if_neg bT, ob, ob, kxN hr (show c < 20 by omega), ob, (hQ.2.2.2.2.1 r c hr (by omega)).1, ob, kxN hr (show k < 20 by omega), ob, ob, e0, ob, kxN hr (show c < 20 by omega), ob, ob, nI_1, nI_1]
      have := ih n (k + 1) _ (swp g' r k r c) (by omega) (by omega) (KQ_swpN hQ hr hr (show k < 20 by omega) (show c < 20 by omega)) (fun s j z => ?_) (fun j t' hj => ?_) (fun i m z => ?_)
      · rw [eln] at this
        exact this
      · rw [swp_3 (by omega) (by omega)]
        exact hf s j (by omega)
      · rw [et] at hj
        by_cases hjl : j < c
        · rw [List.getElem?_append_left (by omega)] at hj
          rw [swp_3 (by omega) (by omega)]
          exact hA j t' hj
        · rw [List.getElem?_append_right (by omega), ← hc] at hj
          have hzz : j - c < 1 := by
            have := (List.getElem?_eq_some_iff.mp hj).1
            simpa using this
          have hj2 : j = c := by omega
          subst hj2
          simp at hj
          subst hj
          rw [swp_1]
          exact hT
      · rw [ax_up_ne (by omega), ax_up_ne (by omega)]
        exact hH i m z
end KC
/-! the class: crop, whole -/
theorem okP_subT {p : Pc} (hp : okP p) (F : Tl → Bool) : okP (p.1, p.2.1.filter F, p.2.2) := by
  obtain ⟨h1, ⟨h2, h3⟩, h4, h5, h6⟩ := hp
  exact ⟨h1, ⟨Nat.le_trans (List.length_filter_le _ _) h2, h3⟩, fun t ht => h4 t (List.mem_filter.mp ht).1, h5, List.Pairwise.filter _ h6⟩
theorem okP_subN {p : Pc} (hp : okP p) (F : Nt → Bool) : okP (p.1, p.2.1, p.2.2.filter F) := by
  obtain ⟨h1, ⟨h2, h3⟩, h4, h5, h6⟩ := hp
  exact ⟨h1, ⟨h2, Nat.le_trans (List.length_filter_le _ _) h3⟩, h4, fun t ht => h5 t (List.mem_filter.mp ht).1, h6⟩
section KC2
variable {I J : ax_I} {R R' : ax_R} {f g f' g' : Nat → Nat → Nat} {p q r fw fh since : Nat} {a a' b : Pc} {st : List Nat}
theorem KR_row (h : KR I R f g p q a b fw fh since st) (hb : okP b) (hQ' : KQ R' f' g' p q) (ef : ∀ k, f' q k = f q k) (eg : ∀ k, g' q k = g q k) (e : ∀ i m, i ≠ p → J i m = I i m) (hP : KP J f' g' p a') : KR J R' f' g' p q a' b fw fh since st ∧ hiI I J := by
  obtain ⟨hQ, h1, h2, h3, h4, h5, h6, h7⟩ := h
  obtain ⟨pp, pq, hne⟩ := KQ_P hQ
  have rp := P_r pp
  have l := hb.2.1
  refine ⟨⟨hQ', hP, ?_, (e _ _ (by omega)).trans h3, (e _ _ (by omega)).trans h4, (e _ _ (by omega)).trans h5, (e _ _ (by omega)).trans h6, fun j c hj => (e _ _ (by omega)).trans (h7 j c hj)⟩, fun i m z => e _ _ (by omega)⟩
  have k : KP J f g q b := KP_keep h2 (fun i => e _ _ (fun z => hne z.symm)) (fun k i hk => ⟨e _ _ (T_P (hQ.2.2.2.1 q k pq (by omega)).2 pp).1, e _ _ (T_P (hQ.2.2.2.1 q k pq (by omega)).2 pp).2⟩) (fun k i hk => e _ _ (N_P (hQ.2.2.2.2.1 q k pq (by omega)).2 pp))
  exact ⟨k.1, fun k' t hk => by rw [ef]; exact k.2.1 k' t hk, fun k' n hk => by rw [eg]; exact k.2.2 k' n hk⟩
theorem K_cutTo (hK : KR I R f g p q a b fw fh since st) (ha : okP a) (hb : okP b) {x y w h : Nat} (w1 : 1 ≤ w) (h1 : 1 ≤ h) (hx : x + w ≤ a.1.1) (hy : y + h ≤ a.1.2) : ∃ J R' f' g', d_P_cutTo oS I R p (nI x) (nI y) (nI w) (nI h) = some (nI (a.2.1.filter (inT x y w h)).length, J, R') ∧ KR J R' f' g' p q (cropP a x y w h) b fw fh since st ∧ hiI I J ∧ ∀ i k, 210 ≤ i → R' i k = R i k := by
  have l := ha.2.1
  have oW := ha.1
  have hQ := hK.1
  obtain ⟨pp, pq, hne⟩ := KQ_P hQ
  obtain ⟨R1, f1, e1, Q1, ff1, T1, H1⟩ := k_keepT (p := p) (q := q) (R := R) pp hK.2.1 ha (x := x) (y := y) (w := w) (h := h) (by omega) (by omega) a.2.1.length 5000 0 R f (by omega) (by omega) hQ (fun _ _ _ => rfl) (fun j t hj => by simp at hj) (fun _ _ _ => rfl)
  have e1 : d_P_keepTilesWithin oS I R p (nI x) (nI y) (nI (x + w)) (nI (y + h)) = _ := e1
  have oA := okP_subT ha (inT x y w h)
  have hPA : KP (ax_up I p 2 (nI (a.2.1.filter (inT x y w h)).length)) f1 g p ((a.1, a.2.1.filter (inT x y w h), a.2.2)) := by
    refine ⟨⟨(ax_up_ne (by omega)).trans hK.2.1.1.1, (ax_up_ne (by omega)).trans hK.2.1.1.2.1, ax_up_self _ _ _ _, (ax_up_ne (by omega)).trans hK.2.1.1.2.2.2⟩, fun k t hk => ?_, fun k n hk => ?_⟩
    · have hlt : k < (a.2.1.filter (inT x y w h)).length := (List.getElem?_eq_some_iff.mp hk).1
      have hl2 : (a.2.1.filter (inT x y w h)).length ≤ a.2.1.length := List.length_filter_le _ _
      have tk := T_P (Q1.2.2.2.1 p k pp (by omega)).2 pp
      exact KT_keep (T1 k t hk) (fun i => ax_up_ne (by omega)) (fun i => ax_up_ne (by omega))
    · have hlt : k < a.2.2.length := (List.getElem?_eq_some_iff.mp hk).1
      have nk := N_P (hQ.2.2.2.2.1 p k pp (by omega)).2 pp
      exact KN_keep (hK.2.1.2.2 k n hk) (fun i => ax_up_ne (by omega))
  obtain ⟨hK1, i1⟩ := KR_row (J := ax_up I p 2 (nI (a.2.1.filter (inT x y w h)).length)) (a' := (a.1, a.2.1.filter (inT x y w h), a.2.2)) hK hb Q1 (fun k => ff1 q k (fun z => hne z.symm)) (fun _ => rfl) (fun i m z => ax_up_ne (fun y => z y.1)) hPA
  obtain ⟨I1, hI1⟩ : ∃ I1, I1 = ax_up I p 2 (nI (a.2.1.filter (inT x y w h)).length) := ⟨_, rfl⟩
  rw [← hI1] at e1 hK1 i1
  obtain ⟨R2, g2, e2, Q2, gg2, T2, H2⟩ := k_keepN (p := p) (q := q) (R := R1) (f := f1) pp hK1.2.1 oA (x := x) (y := y) (w := w) (h := h) (by omega) (by omega) a.2.2.length 5000 0 R1 g (Nat.zero_add _) (by omega) Q1 (fun _ _ _ => rfl) (fun j t hj => by simp at hj) (fun _ _ _ => rfl)
  have e2 : d_P_keepNotesWithin oS I1 R1 p (nI x) (nI y) (nI (x + w)) (nI (y + h)) = some (ax_up I1 p 3 (nI (a.2.2.filter (inN x y w h)).length), R2) := e2
  have T2 : ∀ j t, (a.2.2.filter (inN x y w h))[j]? = some t → KN I1 (g2 p j) t := T2
  have oB : okP (a.1, a.2.1.filter (inT x y w h), a.2.2.filter (inN x y w h)) := okP_subN oA (inN x y w h)
  have hPB : KP (ax_up I1 p 3 (nI (a.2.2.filter (inN x y w h)).length)) f1 g2 p ((a.1, a.2.1.filter (inT x y w h), a.2.2.filter (inN x y w h))) := by
    refine ⟨⟨(ax_up_ne (by omega)).trans hK1.2.1.1.1, (ax_up_ne (by omega)).trans hK1.2.1.1.2.1, (ax_up_ne (by omega)).trans hK1.2.1.1.2.2.1, ax_up_self _ _ _ _⟩, fun k t hk => ?_, fun k n hk => ?_⟩
    · have hlt : k < (a.2.1.filter (inT x y w h)).length := (List.getElem?_eq_some_iff.mp hk).1
      have hl2 : (a.2.1.filter (inT x y w h)).length ≤ a.2.1.length := List.length_filter_le _ _
      have tk := T_P (Q1.2.2.2.1 p k pp (by omega)).2 pp
      exact KT_keep (hK1.2.1.2.1 k t hk) (fun i => ax_up_ne (by omega)) (fun i => ax_up_ne (by omega))
    · have hlt : k < (a.2.2.filter (inN x y w h)).length := (List.getElem?_eq_some_iff.mp hk).1
      have hl2 : (a.2.2.filter (inN x y w h)).length ≤ a.2.2.length := List.length_filter_le _ _
      have nk := N_P (Q2.2.2.2.2.1 p k pp (by omega)).2 pp
      exact KN_keep (T2 k n hk) (fun i => ax_up_ne (by omega))
  obtain ⟨hK2, i2⟩ := KR_row (J := ax_up I1 p 3 (nI (a.2.2.filter (inN x y w h)).length)) (a' := (a.1, a.2.1.filter (inT x y w h), a.2.2.filter (inN x y w h))) hK1 hb Q2 (fun k => rfl) (fun k => gg2 q k (fun z => hne z.symm)) (fun i m z => ax_up_ne (fun y => z y.1)) hPB
  obtain ⟨I2, hI2⟩ : ∃ I2, I2 = ax_up I1 p 3 (nI (a.2.2.filter (inN x y w h)).length) := ⟨_, rfl⟩
  rw [← hI2] at e2 hK2 i2
  obtain ⟨J, e3, T3, N3, r3, o3⟩ := k_moveBy Q2 pp hK2.2.1 oB (-nI x) (-nI y) (fun v => v - x) (fun v => v - y) (fun t ht => by have := of_decide_eq_true (List.mem_filter.mp ht).2; exact ⟨nI_neg this.1, nI_neg this.2.1⟩) (fun t ht => by have := of_decide_eq_true (List.mem_filter.mp ht).2; exact ⟨nI_neg this.1, nI_neg this.2.1⟩)
  have hPC : KP (ax_up (ax_up J p 4 (nI w)) p 5 (nI h)) f1 g2 p (cropP a x y w h) := by
    refine ⟨⟨?_, ?_, ?_, ?_⟩, fun k t hk => ?_, fun k n hk => ?_⟩
    · rw [ax_up_ne (by omega), ax_up_self]; rfl
    · rw [ax_up_self]; rfl
    · rw [ax_up_ne (by omega), ax_up_ne (by omega), r3, hK2.2.1.1.2.2.1]; unfold cropP; rw [List.length_map]
    · rw [ax_up_ne (by omega), ax_up_ne (by omega), r3, hK2.2.1.1.2.2.2]; unfold cropP; rw [List.length_map]
    · have hk' : ((a.2.1.filter (inT x y w h)).map (shT x y))[k]? = some t := hk
      rw [List.getElem?_map] at hk'
      obtain ⟨t0, h0, rfl⟩ := Option.map_eq_some_iff.mp hk'
      have hlt : k < (a.2.1.filter (inT x y w h)).length := (List.getElem?_eq_some_iff.mp h0).1
      have hl2 : (a.2.1.filter (inT x y w h)).length ≤ a.2.1.length := List.length_filter_le _ _
      have tk := T_P (Q2.2.2.2.1 p k pp (by omega)).2 pp
      exact KT_keep (T3 k t0 h0) (fun i => (ax_up_ne (by omega)).trans (ax_up_ne (by omega))) (fun i => (ax_up_ne (by omega)).trans (ax_up_ne (by omega)))
    · have hk' : ((a.2.2.filter (inN x y w h)).map (shN x y))[k]? = some n := hk
      rw [List.getElem?_map] at hk'
      obtain ⟨t0, h0, rfl⟩ := Option.map_eq_some_iff.mp hk'
      have hlt : k < (a.2.2.filter (inN x y w h)).length := (List.getElem?_eq_some_iff.mp h0).1
      have hl2 : (a.2.2.filter (inN x y w h)).length ≤ a.2.2.length := List.length_filter_le _ _
      have nk := N_P (Q2.2.2.2.2.1 p k pp (by omega)).2 pp
      exact KN_keep (N3 k t0 h0) (fun i => (ax_up_ne (by omega)).trans (ax_up_ne (by omega)))
  obtain ⟨hK3, i3⟩ := KR_here (J := ax_up (ax_up J p 4 (nI w)) p 5 (nI h)) (a' := cropP a x y w h) hK2 hb (fun i m z => by rw [ax_up_ne (fun e => z (Or.inl e.1)), ax_up_ne (fun e => z (Or.inl e.1))]; exact o3 i m z) hPC
  unfold d_P_cutTo
  rw [nI_add, nI_add, e1, ob]
  show ∃ J R' f' g', (d_P_keepNotesWithin oS I1 R1 p (nI x) (nI y) (nI (x + w)) (nI (y + h))).bind _ = _ ∧ _
  rw [e2, ob]
  show ∃ J R' f' g', (d_P_moveBy oS I2 R2 p (-nI x) (-nI y)).bind _ = _ ∧ _
  rw [e3, ob, ob, ob, ax_up_ne (show ¬ (p = p ∧ 2 = 5) by omega), ax_up_ne (show ¬ (p = p ∧ 2 = 4) by omega), r3, hK2.2.1.1.2.2.1]
  exact ⟨_, _, _, _, rfl, hK3, fun i m z => (i3 i m z).trans ((i2 i m z).trans (i1 i m z)), fun i k z => (H2 i k z).trans (H1 i k z)⟩
theorem K_crop (hK : KR I R f g p q a b fw fh since st) (ha : okP a) (hb : okP b) (x y w h : Int32) : (noRect a.1.1 a.1.2 x y w h → ∃ J, d_K_crop oS I R 0 x y w h = some (.inr "java/lang/IllegalArgumentException", J, R) ∧ KR J R f g p q a b fw fh since st ∧ hiI I J) ∧ (∀ x' y' w' h', x = nI x' → y = nI y' → w = nI w' → h = nI h' → 1 ≤ w' → 1 ≤ h' → x' + w' ≤ a.1.1 → y' + h' ≤ a.1.2 → (fitA a x' y' w' h' = false → ∃ J, d_K_crop oS I R 0 x y w h = some (.inl (-1), J, R) ∧ KR J R f g p q a b fw fh since st ∧ hiI I J) ∧ (fitA a x' y' w' h' = true → ∃ J R' f' g', d_K_crop oS I R 0 x y w h = some (.inl (nI (a.2.1.filter (inT x' y' w' h')).length), J, R') ∧ KR J R' f' g' p q (cropP a x' y' w' h') b fw fh since st ∧ hiI I J ∧ ∀ i k, 210 ≤ i → R' i k = R i k)) := by
  have hQ := hK.1
  obtain ⟨pp, pq, hne⟩ := KQ_P hQ
  have oW := ha.1
  have rp := P_r pp
  have hK1 := KR_own hK ha hb (i := 0) (k := 7) (v := 0) (Or.inl ⟨rfl, rfl⟩)
  obtain ⟨c1, c2⟩ := k_rect (R := R) hK1.2.1.1.1 hK1.2.1.1.2.1 x y w h
  refine ⟨fun z => ?_, fun x' y' w' h' ex ey ew eh w1 h1 hx hy => ?_⟩
  · unfold d_K_crop
    rw [ob, hQ.2.1.1, ob, c1 z, ob, if_pos bF]
    exact ⟨_, rfl, hK1, fun i m z => ax_up_ne (by omega)⟩
  subst ex ey ew eh
  have x0 : ax_ix oS 3 0 = some 0 := kx3 (k := 0) (by omega)
  have x1 : ax_ix oS 3 1 = some 1 := kx3 (k := 1) (by omega)
  have x2 : ax_ix oS 3 2 = some 2 := kx3 (k := 2) (by omega)
  have x3 : ax_ix oS 3 3 = some 3 := kx3 (k := 3) (by omega)
  obtain ⟨I4, hI4⟩ : ∃ I4, I4 = ax_up (ax_up (ax_up (ax_up (ax_up I 0 7 0) 3 0 (nI x')) 3 1 (nI y')) 3 2 (nI (x' + w'))) 3 3 (nI (y' + h')) := ⟨_, rfl⟩
  have hK4 : KR I4 R f g p q a b fw fh since st := by
    rw [hI4]
    exact KR_own (KR_own (KR_own (KR_own hK1 ha hb (Or.inr (Or.inl rfl))) ha hb (Or.inr (Or.inl rfl))) ha hb (Or.inr (Or.inl rfl))) ha hb (Or.inr (Or.inl rfl))
  have h4 : hiI I I4 := fun i m z => by rw [hI4, ax_up_ne (by omega), ax_up_ne (by omega), ax_up_ne (by omega), ax_up_ne (by omega), ax_up_ne (by omega)]
  have as := kp_asked hQ hK4.2.1 ha (x := x') (y := y') (w := w') (h := h') (by omega) (by omega) (by rw [hI4, ax_up_ne (by omega), ax_up_ne (by omega), ax_up_ne (by omega), ax_up_self]) (by rw [hI4, ax_up_ne (by omega), ax_up_ne (by omega), ax_up_self]) (by rw [hI4, ax_up_ne (by omega), ax_up_self]) (by rw [hI4, ax_up_self])
  have e : d_K_crop oS I R 0 (nI x') (nI y') (nI w') (nI h') = if ax_b (fitA a x' y' w' h') = 0 then d_K_crop_76 oS I4 R 0 (nI x') (nI y') (nI w') (nI h') 1 0 else d_K_crop_76 oS I4 R 0 (nI x') (nI y') (nI w') (nI h') 0 0 := by
    unfold d_K_crop
    rw [ob, hQ.2.1.1, ob, c2 (rect_no oW.2.1 oW.2.2.2 w1 h1 hx hy), ob, if_neg bT, hQ.2.1.2.2.2.1, ob, x0, ob, ob, ob, x1, ob, ob, ob, x2, ob, ob, ob, x3, ob, ob, nI_add, nI_add, ← hI4, as, ob]
  rw [e]
  unfold d_K_crop_76
  refine ⟨fun z => ?_, fun z => ?_⟩
  · rw [z, if_pos bF, show ax_bo 1 = some true from rfl, ob, ob, ax_up_self, if_neg bT]
    exact ⟨_, rfl, KR_own hK4 ha hb (Or.inl ⟨rfl, rfl⟩), fun i m z => (ax_up_ne (by omega)).trans (h4 i m z)⟩
  · have hK5 := KR_own hK4 ha hb (i := 0) (k := 7) (v := ax_b false) (Or.inl ⟨rfl, rfl⟩)
    obtain ⟨J, R', f', g', e1, e2, e3, e4⟩ := K_cutTo hK5 ha hb w1 h1 hx hy
    rw [z, if_neg bT, show ax_bo 0 = some false from rfl, ob, ob, ax_up_self, if_pos bF, hQ.2.1.1, ob, e1, ob]
    exact ⟨J, R', f', g', rfl, e2, fun i m z => (e3 i m z).trans ((ax_up_ne (by omega)).trans (h4 i m z)), e4⟩
end KC2
/-! the class: turn -/
section KU
variable {I J : ax_I} {R : ax_R} {f g : Nat → Nat → Nat} {p q r fw fh since : Nat} {a a' b : Pc} {st : List Nat}
/-- a picture's tiles and notes, one by one -/
theorem KP_map (hP : KP I f g r a) {F : Tl → Tl} {G : Nt → Nt} {W H : Nat} (e4 : J r 4 = nI W) (e5 : J r 5 = nI H) (e2 : J r 2 = I r 2) (e3 : J r 3 = I r 3) (hT : ∀ k t, a.2.1[k]? = some t → KT J (f r k) (F t)) (hN : ∀ k n, a.2.2[k]? = some n → KN J (g r k) (G n)) : KP J f g r ((W, H), a.2.1.map F, a.2.2.map G) := by
  refine ⟨⟨e4, e5, ?_, ?_⟩, fun k t hk => ?_, fun k n hk => ?_⟩
  · show J r 2 = nI (a.2.1.map F).length
    rw [List.length_map, e2]; exact hP.1.2.2.1
  · show J r 3 = nI (a.2.2.map G).length
    rw [List.length_map, e3]; exact hP.1.2.2.2
  · have hk' : (a.2.1.map F)[k]? = some t := hk
    rw [List.getElem?_map] at hk'
    obtain ⟨t0, h0, rfl⟩ := Option.map_eq_some_iff.mp hk'
    exact hT k t0 h0
  · have hk' : (a.2.2.map G)[k]? = some n := hk
    rw [List.getElem?_map] at hk'
    obtain ⟨t0, h0, rfl⟩ := Option.map_eq_some_iff.mp hk'
    exact hN k t0 h0
theorem kp_mirror (hQ : KQ R f g p q) (hr : isP r) (hP : KP I f g r a) (ha : okP a) : ∃ J, d_P_mirror oS I R r = some J ∧ KP J f g r (mirP a) ∧ ∀ i m, ¬ own f g r i → J i m = I i m := by
  have l := ha.2.1
  have oW := ha.1
  obtain ⟨J, e, hT, hN, hr2, ho⟩ := k_pair hQ hr hP ha (fun n J i => d_P_mirror_2 oS n J R r i) (fun n J i => d_P_mirror_31 oS n J R r i) some (mirT a.1.1) (mirN a.1.1) (fun n J hJ => by
    show d_P_mirror_2 oS (n + 1) J R r (nI a.2.1.length) = _
    rw [d_P_mirror_2, hJ, hP.1.2.2.1, if_pos (nI_le (Nat.le_refl _) (by omega))]) (fun n J k t ht hJ hq => by
    show ∃ J', d_P_mirror_2 oS (n + 1) J R r (nI k) = d_P_mirror_2 oS n J' R r (nI (k + 1)) ∧ _
    have hlt : k < a.2.1.length := (List.getElem?_eq_some_iff.mp ht).1
    obtain ⟨⟨q1, q2, q3, q4, q5, q6⟩, q7⟩ := hq
    obtain ⟨-, ⟨o1, o2⟩, -⟩ := ha.2.2.1 t (List.mem_of_getElem? ht)
    rw [d_P_mirror_2, hJ, hP.1.2.2.1, if_neg (nI_ge hlt (by omega)), (hQ.2.2.1 r hr).1, ob, kxT hr (by omega), ob, (hQ.2.2.2.1 r k hr (by omega)).1, ob]
    unfold d_T_mirrorIn
    rw [ob, ob, hJ, hP.1.1, q1, q3, nI_sub (by omega), nI_sub (by omega), nI_1]
    refine ⟨_, rfl, ⟨⟨?_, ?_, ?_, ?_, ?_, ?_⟩, fun j c hj => ?_⟩, fun i m z => ?_⟩
    · rw [ax_up_self]; rfl
    · rw [ax_up_ne (by omega)]; exact q2
    · rw [ax_up_ne (by omega)]; exact q3
    · rw [ax_up_ne (by omega)]; exact q4
    · rw [ax_up_ne (by omega)]; exact q5
    · rw [ax_up_ne (by omega)]; exact q6
    · rw [ax_up_ne (by omega)]; exact q7 j c hj
    · rw [ax_up_ne (by omega)]) (fun n J hJ => by
    show d_P_mirror_31 oS (n + 1) J R r (nI a.2.2.length) = _
    rw [d_P_mirror_31, hJ, hP.1.2.2.2, if_pos (nI_le (Nat.le_refl _) (by omega))]) (fun n J k t ht hJ hq => by
    show ∃ J', d_P_mirror_31 oS (n + 1) J R r (nI k) = d_P_mirror_31 oS n J' R r (nI (k + 1)) ∧ _
    have hlt : k < a.2.2.length := (List.getElem?_eq_some_iff.mp ht).1
    obtain ⟨q1, q2, q3⟩ := hq
    obtain ⟨o1, o2, -⟩ := ha.2.2.2.1 t (List.mem_of_getElem? ht)
    have e1 : nI a.1.1 - 1 = nI (a.1.1 - 1) := nI_sub (b := 1) (by omega)
    rw [d_P_mirror_31, hJ, hP.1.2.2.2, if_neg (nI_ge hlt (by omega)), (hQ.2.2.1 r hr).2, ob, kxN hr (by omega), ob, (hQ.2.2.2.2.1 r k hr (by omega)).1, ob]
    unfold d_N_mirrorIn
    rw [ob, ob, hJ, hP.1.1, q1, e1, nI_sub (by omega), nI_1]
    refine ⟨_, rfl, ⟨?_, ?_, ?_⟩, fun i m z => ?_⟩
    · rw [ax_up_self]; rfl
    · rw [ax_up_ne (by omega)]; exact q2
    · rw [ax_up_ne (by omega)]; exact q3
    · rw [ax_up_ne (by omega)])
  have e : d_P_mirror oS I R r = some J := e
  exact ⟨J, e, KP_map hP ((hr2 _).trans hP.1.1) ((hr2 _).trans hP.1.2.1) (hr2 _) (hr2 _) hT hN, ho⟩
theorem kp_quarter (hQ : KQ R f g p q) (hr : isP r) (hP : KP I f g r a) (ha : okP a) : ∃ J, d_P_turnQuarter oS I R r = some J ∧ KP J f g r (quaP a) ∧ ∀ i m, ¬ own f g r i → J i m = I i m := by
  have l := ha.2.1
  have oW := ha.1
  obtain ⟨J, e, hT, hN, hr2, ho⟩ := k_pair hQ hr hP ha (fun n J i => d_P_turnQuarter_2 oS n J R r i) (fun n J i => d_P_turnQuarter_31 oS n J R r i) (fun J => some (ax_up (ax_up J r 4 (J r 5)) r 5 (J r 4))) (quaT a.1.2) (quaN a.1.2) (fun n J hJ => by
    show d_P_turnQuarter_2 oS (n + 1) J R r (nI a.2.1.length) = _
    rw [d_P_turnQuarter_2, hJ, hP.1.2.2.1, if_pos (nI_le (Nat.le_refl _) (by omega))]) (fun n J k t ht hJ hq => by
    show ∃ J', d_P_turnQuarter_2 oS (n + 1) J R r (nI k) = d_P_turnQuarter_2 oS n J' R r (nI (k + 1)) ∧ _
    have hlt : k < a.2.1.length := (List.getElem?_eq_some_iff.mp ht).1
    obtain ⟨⟨q1, q2, q3, q4, q5, q6⟩, q7⟩ := hq
    obtain ⟨-, ⟨o1, o2⟩, -⟩ := ha.2.2.1 t (List.mem_of_getElem? ht)
    rw [d_P_turnQuarter_2, hJ, hP.1.2.2.1, if_neg (nI_ge hlt (by omega)), (hQ.2.2.1 r hr).1, ob, kxT hr (by omega), ob, (hQ.2.2.2.1 r k hr (by omega)).1, ob]
    obtain ⟨u, eu⟩ : ∃ u, u = f r k := ⟨_, rfl⟩
    rw [← eu] at q1 q2 q3 q4 q5 q6 q7 ⊢
    unfold d_T_quarterIn
    rw [ob, ob, ob, ob, ob, hJ, hP.1.2.1, q1, q2, q4, nI_sub (by omega), nI_sub (by omega), nI_1]
    obtain ⟨K, hK⟩ : ∃ K, K = ax_up (ax_up J u 3 (nI t.1.1)) u 2 (nI (a.1.2 - t.1.2 - t.2.1.2)) := ⟨_, rfl⟩
    have k1 : ∀ i m, ¬ (i = u ∧ m = 3) → ¬ (i = u ∧ m = 2) → K i m = J i m := fun i m z1 z2 => by rw [hK, ax_up_ne z2, ax_up_ne z1]
    rw [← hK, k1 u 5 (by omega) (by omega), k1 u 4 (by omega) (by omega), q3, q4]
    refine ⟨_, rfl, ⟨⟨?_, ?_, ?_, ?_, ?_, ?_⟩, fun j c hj => ?_⟩, fun i m z => ?_⟩
    · rw [ax_up_ne (by omega), ax_up_ne (by omega), hK, ax_up_self]; rfl
    · rw [ax_up_ne (by omega), ax_up_ne (by omega), hK, ax_up_ne (by omega), ax_up_self]; rfl
    · rw [ax_up_ne (by omega), ax_up_self]; rfl
    · rw [ax_up_self]; rfl
    · rw [ax_up_ne (by omega), ax_up_ne (by omega), k1 _ _ (by omega) (by omega)]; exact q5
    · rw [ax_up_ne (by omega), ax_up_ne (by omega), k1 _ _ (by omega) (by omega)]; exact q6
    · rw [ax_up_ne (by omega), ax_up_ne (by omega), k1 _ _ (by omega) (by omega)]; exact q7 j c hj
    · rw [ax_up_ne (by omega), ax_up_ne (by omega), k1 _ _ (by omega) (by omega)]) (fun n J hJ => by
    show d_P_turnQuarter_31 oS (n + 1) J R r (nI a.2.2.length) = _
    rw [d_P_turnQuarter_31, hJ 3, hP.1.2.2.2, if_pos (nI_le (Nat.le_refl _) (by omega)), ob, ob]) (fun n J k t ht hJ hq => by
    show ∃ J', d_P_turnQuarter_31 oS (n + 1) J R r (nI k) = d_P_turnQuarter_31 oS n J' R r (nI (k + 1)) ∧ _
    have hlt : k < a.2.2.length := (List.getElem?_eq_some_iff.mp ht).1
    obtain ⟨q1, q2, q3⟩ := hq
    obtain ⟨o1, o2, -⟩ := ha.2.2.2.1 t (List.mem_of_getElem? ht)
    have e1 : nI a.1.2 - 1 = nI (a.1.2 - 1) := nI_sub (b := 1) (by omega)
    rw [d_P_turnQuarter_31, hJ, hP.1.2.2.2, if_neg (nI_ge hlt (by omega)), (hQ.2.2.1 r hr).2, ob, kxN hr (by omega), ob, (hQ.2.2.2.2.1 r k hr (by omega)).1, ob]
    unfold d_N_quarterIn
    rw [ob, ob, ob, hJ, hP.1.2.1, q1, q2, e1, nI_sub (by omega), nI_1]
    refine ⟨_, rfl, ⟨?_, ?_, ?_⟩, fun i m z => ?_⟩
    · rw [ax_up_self]; rfl
    · rw [ax_up_ne (by omega), ax_up_self]; rfl
    · rw [ax_up_ne (by omega), ax_up_ne (by omega)]; exact q3
    · rw [ax_up_ne (by omega), ax_up_ne (by omega)])
  have e : d_P_turnQuarter oS I R r = some (ax_up (ax_up J r 4 (J r 5)) r 5 (J r 4)) := e
  have kt : ∀ k i, k < 40 → ax_up (ax_up J r 4 (J r 5)) r 5 (J r 4) (f r k) i = J (f r k) i ∧ ax_up (ax_up J r 4 (J r 5)) r 5 (J r 4) (f r k + 1) i = J (f r k + 1) i := fun k i hk => by
    have := T_P (hQ.2.2.2.1 r k hr hk).2 hr
    exact ⟨(ax_up_ne (by omega)).trans (ax_up_ne (by omega)), (ax_up_ne (by omega)).trans (ax_up_ne (by omega))⟩
  refine ⟨_, e, KP_map (J := ax_up (ax_up J r 4 (J r 5)) r 5 (J r 4)) hP ?_ ?_ ?_ ?_ (fun k t hk => KT_keep (hT k t hk) (fun i => (kt k i (by have := (List.getElem?_eq_some_iff.mp hk).1; omega)).1) (fun i => (kt k i (by have := (List.getElem?_eq_some_iff.mp hk).1; omega)).2)) (fun k n hk => KN_keep (hN k n hk) (fun i => ?_)), fun i m z => ?_⟩
  · rw [ax_up_ne (by omega), ax_up_self]; exact (hr2 _).trans hP.1.2.1
  · rw [ax_up_self]; exact (hr2 _).trans hP.1.1
  · rw [ax_up_ne (by omega), ax_up_ne (by omega)]; exact hr2 _
  · rw [ax_up_ne (by omega), ax_up_ne (by omega)]; exact hr2 _
  · have := N_P (hQ.2.2.2.2.1 r k hr (by have := (List.getElem?_eq_some_iff.mp hk).1; omega)).2 hr
    exact (ax_up_ne (by omega)).trans (ax_up_ne (by omega))
  · rw [ax_up_ne (fun e => z (Or.inl e.1)), ax_up_ne (fun e => z (Or.inl e.1))]
    exact ho i m z
theorem k_ways (hQ : KQ R f g p q) (hr : isP r) (hP : KP I f g r a) (ha : okP a) {v : Nat} (hv : v < 8) : ∃ J, d_P_showBy_33 oS 5000 I R r (nI v) 0 = some J ∧ KP J f g r (wayP v a) ∧ ∀ i m, ¬ own f g r i → J i m = I i m := by
  have l := ha.2.1
  obtain ⟨J, e, hT, hr2, ho, hn⟩ := k_tiles hQ hr hP.2.1 ha (fun n J i => d_P_showBy_33 oS n J R r (nI v) i) some (wayT v) (fun n J hJ => by
    show d_P_showBy_33 oS (n + 1) J R r (nI v) (nI a.2.1.length) = _
    rw [d_P_showBy_33, hJ, hP.1.2.2.1, if_pos (nI_le (Nat.le_refl _) (by omega))]) (fun n J k t ht hJ hq => by
    show ∃ J', d_P_showBy_33 oS (n + 1) J R r (nI v) (nI k) = d_P_showBy_33 oS n J' R r (nI v) (nI (k + 1)) ∧ _
    have hlt : k < a.2.1.length := (List.getElem?_eq_some_iff.mp ht).1
    obtain ⟨⟨q1, q2, q3, q4, q5, q6⟩, q7⟩ := hq
    have hw := (ha.2.2.1 t (List.mem_of_getElem? ht)).2.2.1
    rw [d_P_showBy_33, hJ, hP.1.2.2.1, if_neg (nI_ge hlt (by omega)), (hQ.2.2.1 r hr).1, ob, kxT hr (by omega), ob, (hQ.2.2.2.1 r k hr (by omega)).1, ob, ob, kxT hr (by omega), ob, (hQ.2.2.2.1 r k hr (by omega)).1, ob, q5, tog_tog oS _ R hw hv, ob, ob, nI_1]
    refine ⟨_, rfl, ⟨⟨?_, ?_, ?_, ?_, ?_, ?_⟩, fun j c hj => ?_⟩, fun i m z => ?_⟩
    · rw [ax_up_ne (by omega)]; exact q1
    · rw [ax_up_ne (by omega)]; exact q2
    · rw [ax_up_ne (by omega)]; exact q3
    · rw [ax_up_ne (by omega)]; exact q4
    · rw [ax_up_self]; rfl
    · rw [ax_up_ne (by omega)]; exact q6
    · rw [ax_up_ne (by omega)]; exact q7 j c hj
    · rw [ax_up_ne (by omega)])
  refine ⟨J, e, ⟨⟨(hr2 _).trans hP.1.1, (hr2 _).trans hP.1.2.1, ?_, (hr2 _).trans hP.1.2.2.2⟩, fun k t hk => ?_, fun k n hk => KN_keep (hP.2.2 k n hk) (fun i => hn k i (by have : k < a.2.2.length := (List.getElem?_eq_some_iff.mp hk).1; omega))⟩, ho⟩
  · show J r 2 = nI (a.2.1.map (wayT v)).length
    rw [List.length_map]; exact (hr2 _).trans hP.1.2.2.1
  · have hk' : (a.2.1.map (wayT v))[k]? = some t := hk
    rw [List.getElem?_map] at hk'
    obtain ⟨t0, h0, rfl⟩ := Option.map_eq_some_iff.mp hk'
    exact hT k t0 h0
theorem kp_show13 (hQ : KQ R f g p q) (hr : isP r) {v : Nat} (hv : v < 8) : ∀ (m n k : Nat) (I : ax_I) (a : Pc), KP I f g r a → okP a → k + m = v % 4 → m < n → ∃ J, d_P_showBy_13 oS n I R r (nI v) (nI k) = some J ∧ KP J f g r (wayP v (quaPs m a)) ∧ ∀ i m, ¬ own f g r i → J i m = I i m := by
  have e4 : nI v &&& 3 = nI (v % 4) := q_t ⟨v, hv⟩
  intro m
  induction m with
  | zero =>
    intro n k I a hP ha hk hn'
    obtain ⟨n, rfl⟩ : ∃ n', n = n' + 1 := ⟨n - 1, by omega⟩
    rw [d_P_showBy_13]
    unfold d_K_quarters
    rw [ob, e4, if_pos (nI_le (by omega) (by omega))]
    exact k_ways hQ hr hP ha hv
  | succ m ih =>
    intro n k I a hP ha hk hn'
    obtain ⟨n, rfl⟩ : ∃ n', n = n' + 1 := ⟨n - 1, by omega⟩
    obtain ⟨J, e, hJ, ho⟩ := kp_quarter hQ hr hP ha
    rw [d_P_showBy_13]
    unfold d_K_quarters
    rw [ob, e4, if_neg (nI_ge (by omega) (by omega)), e, ob, nI_1]
    obtain ⟨J2, e2, h2, o2⟩ := ih n (k + 1) J (quaP a) hJ (okP_qua ha) (by omega) (by omega)
    exact ⟨J2, e2, h2, fun i m z => (o2 i m z).trans (ho i m z)⟩
theorem k_showBy (hQ : KQ R f g p q) (hr : isP r) (hP : KP I f g r a) (ha : okP a) {v : Nat} (hv : v < 8) : ∃ J, d_P_showBy oS I R r (nI v) = some J ∧ KP J f g r (turnP v a) ∧ ∀ i m, ¬ own f g r i → J i m = I i m := by
  unfold d_P_showBy d_K_mirrors d_P_showBy_11 turnP
  by_cases z : 4 ≤ v
  · obtain ⟨J, e, hJ, ho⟩ := kp_mirror hQ hr hP ha
    obtain ⟨J2, e2, h2, o2⟩ := kp_show13 hQ hr hv (v % 4) 5000 0 J (mirP a) hJ (okP_mir ha) (by omega) (by omega)
    rw [if_neg (show ¬ nI v < 4 from nI_nlt (b := 4) z (by omega)), ob, if_neg bT, e, ob, if_pos z]
    exact ⟨J2, e2, h2, fun i m z => (o2 i m z).trans (ho i m z)⟩
  · rw [if_pos (show nI v < 4 from nI_lt (b := 4) (by omega) (by decide)), ob, if_pos bF, if_neg z]
    exact kp_show13 hQ hr hv (v % 4) 5000 0 I a hP ha (by omega) (by omega)
theorem K_turn (hK : KR I R f g p q a b fw fh since st) (ha : okP a) (hb : okP b) (hs : since < 8) (x : Int32) : (x < 0 ∨ 7 < x → d_K_turn oS I R 0 x = some (.inr "java/lang/IllegalArgumentException", I)) ∧ (∀ v, v < 8 → x = nI v → ∃ J, d_K_turn oS I R 0 x = some (.inl (nI (tog since v)), J) ∧ KR J R f g p q (turnP v a) b fw fh (tog since v) st ∧ hiI I J) := by
  have hQ := hK.1
  obtain ⟨pp, pq, hne⟩ := KQ_P hQ
  unfold d_K_turn d_K_turn_10
  refine ⟨fun z => ?_, fun v hv ex => ?_⟩
  · by_cases z1 : x < 0
    · rw [if_pos z1]
    · have z2 : ¬ x < 8 := by
        have z3 := z.resolve_left z1
        rw [Int32.lt_iff_toInt_lt] at *
        have e7 : (7 : Int32).toInt = 7 := rfl
        have e8 : (8 : Int32).toInt = 8 := rfl
        omega
      rw [if_neg z1, if_neg z2]
  subst ex
  obtain ⟨J, e, hJ, ho⟩ := k_showBy hQ pp hK.2.1 ha hv
  obtain ⟨hK1, h1⟩ := KR_here hK hb ho hJ
  obtain ⟨hK2, h2⟩ := KR_since hK1 (okP_turn ha hv) hb (tog since v)
  rw [if_neg (nI_pos (by omega)), if_pos (show nI v < 8 from nI_lt (b := 8) hv (by decide)), hQ.2.1.1, ob, e, ob, hK1.2.2.2.2.2.1, tog_tog oS _ R hs hv, ob, ob, ob, ax_up_ne (show ¬ (0 = 0 ∧ 6 = 7) by omega), ax_up_self]
  exact ⟨_, rfl, hK2, fun i m z => (h2 i m z).trans (h1 i m z)⟩
end KU
/-! the class: join -/
theorem moT_0 (l : List Tl) : l.map (moT 0 0) = l := by
  conv => rhs; rw [← List.map_id l]
  exact List.map_congr_left (fun t _ => rfl)
theorem moN_0 (l : List Nt) : l.map (moN 0 0) = l := by
  conv => rhs; rw [← List.map_id l]
  exact List.map_congr_left (fun t _ => rfl)
section KJ
variable {I J : ax_I} {R : ax_R} {f g : Nat → Nat → Nat} {p q r fw fh since : Nat} {a a' b : Pc} {st : List Nat}
theorem k_takeT (pp : isP p) (pq : isP q) (hne : p ≠ q) {La Lb : List Tl} (hl : La.length + Lb.length ≤ 40) (hb : J q 2 = nI Lb.length) (tb : ∀ j t, Lb[j]? = some t → KT J (f q j) t) : ∀ (m n k : Nat) (J' : ax_I) (R' : ax_R) (f' : Nat → Nat → Nat), k + m = Lb.length → m < n → KQ R' f' g p q → (∀ i m, ¬ (i = p ∧ m = 2) → J' i m = J i m) → J' p 2 = nI (La.length + k) → (∀ j, k ≤ j → f' q j = f q j) → (∀ j t, (La ++ Lb.take k)[j]? = some t → KT J (f' p j) t) → (∀ i m, 210 ≤ i → R' i m = R i m) → ∃ J'' R'' f'', d_P_takeOver_2 oS n J' R' p q (nI k) = d_P_takeOver_72 oS 5000 J'' R'' p q 0 ∧ KQ R'' f'' g p q ∧ (∀ i m, ¬ (i = p ∧ m = 2) → J'' i m = J i m) ∧ J'' p 2 = nI (La.length + Lb.length) ∧ (∀ j t, (La ++ Lb)[j]? = some t → KT J (f'' p j) t) ∧ ∀ i m, 210 ≤ i → R'' i m = R i m := by
  have rp := P_r pp
  have rq := P_r pq
  intro m
  induction m with
  | zero =>
    intro n k J' R' f' hk hn' hQ hJ hN hf hA hH
    obtain ⟨n, rfl⟩ : ∃ n', n = n' + 1 := ⟨n - 1, by omega⟩
    have hk : k = Lb.length := by omega
    subst hk
    rw [List.take_length] at hA
    rw [d_P_takeOver_2, hJ q 2 (by omega), hb, if_pos (nI_le (Nat.le_refl _) (by omega))]
    exact ⟨J', R', f', rfl, hQ, hJ, hN, hA, hH⟩
  | succ m ih =>
    intro n k J' R' f' hk hn' hQ hJ hN hf hA hH
    obtain ⟨n, rfl⟩ : ∃ n', n = n' + 1 := ⟨n - 1, by omega⟩
    have hlt : k < Lb.length := by omega
    obtain ⟨t, ht⟩ : ∃ t, Lb[k]? = some t := ⟨_, List.getElem?_eq_getElem hlt⟩
    have e1 : ax_up R' (p + 1) (La.length + k) (some (f' q k)) q 0 = some (q + 1) := by rw [ax_up_ne (by rcases pp with rfl | rfl <;> rcases pq with rfl | rfl <;> omega)]; exact (hQ.2.2.1 q pq).1
    rw [d_P_takeOver_2, hJ q 2 (by omega), hb, if_neg (nI_ge hlt (by omega)), (hQ.2.2.1 p pp).1, ob, hN, klT pp, if_neg (nI_ge (by omega) (by omega)), ob, kxT pp (show La.length + k < 40 by omega), ob, (hQ.2.2.2.1 p (La.length + k) pp (by omega)).1, ob, ob, (hQ.2.2.1 q pq).1, ob, kxT pq (show k < 40 by omega), ob, (hQ.2.2.2.1 q k pq (by omega)).1, ob, kxT pp (show La.length + k < 40 by omega), ob, ob, e1, ob, kxT pq (show k < 40 by omega), ob, ob, ob, nI_1, nI_1]
    refine ih n (k + 1) _ _ (swp f' p (La.length + k) q k) (by omega) (by omega) (KQ_swpT hQ pp pq (by omega) (by omega)) (fun i m z => (ax_up_ne z).trans (hJ i m z)) (ax_up_self _ _ _ _) (fun j hj => ?_) (fun j t' hj => ?_) (fun i m z => ?_)
    · rw [swp_3 (by omega) (by omega)]
      exact hf j (by omega)
    · rw [take_succ_f ht, ← List.append_assoc] at hj
      have el : (La ++ Lb.take k).length = La.length + k := by rw [List.length_append, List.length_take]; omega
      by_cases hjl : j < La.length + k
      · rw [List.getElem?_append_left (by omega)] at hj
        rw [swp_3 (by omega) (by omega)]
        exact hA j t' hj
      · rw [List.getElem?_append_right (by omega), el] at hj
        have hzz : j - (La.length + k) < 1 := by
          have := (List.getElem?_eq_some_iff.mp hj).1
          simpa using this
        have hj2 : j = La.length + k := by omega
        subst hj2
        simp at hj
        subst hj
        rw [swp_2, hf k (Nat.le_refl _)]
        exact tb k t ht
    · rw [ax_up_ne (by omega), ax_up_ne (by omega)]
      exact hH i m z
theorem k_takeN (pp : isP p) (pq : isP q) (hne : p ≠ q) {La Lb : List Nt} (hl : La.length + Lb.length ≤ 20) (hb : J q 3 = nI Lb.length) (tb : ∀ j t, Lb[j]? = some t → KN J (g q j) t) : ∀ (m n k : Nat) (J' : ax_I) (R' : ax_R) (g' : Nat → Nat → Nat), k + m = Lb.length → m < n → KQ R' f g' p q → (∀ i m, ¬ (i = p ∧ m = 3) → J' i m = J i m) → J' p 3 = nI (La.length + k) → (∀ j, k ≤ j → g' q j = g q j) → (∀ j t, (La ++ Lb.take k)[j]? = some t → KN J (g' p j) t) → (∀ i m, 210 ≤ i → R' i m = R i m) → ∃ J'' R'' g'', d_P_takeOver_72 oS n J' R' p q (nI k) = some (ax_up (ax_up J'' q 2 0) q 3 0, R'') ∧ KQ R'' f g'' p q ∧ (∀ i m, ¬ (i = p ∧ m = 3) → J'' i m = J i m) ∧ J'' p 3 = nI (La.length + Lb.length) ∧ (∀ j t, (La ++ Lb)[j]? = some t → KN J (g'' p j) t) ∧ ∀ i m, 210 ≤ i → R'' i m = R i m := by
  have rp := P_r pp
  have rq := P_r pq
  intro m
  induction m with
  | zero =>
    intro n k J' R' g' hk hn' hQ hJ hN hf hA hH
    obtain ⟨n, rfl⟩ : ∃ n', n = n' + 1 := ⟨n - 1, by omega⟩
    have hk : k = Lb.length := by omega
    subst hk
    rw [List.take_length] at hA
    rw [d_P_takeOver_72, hJ q 3 (by omega), hb, if_pos (nI_le (Nat.le_refl _) (by omega))]
    unfold d_P_takeOver_140
    rw [ob, ob]
    exact ⟨J', R', g', rfl, hQ, hJ, hN, hA, hH⟩
  | succ m ih =>
    intro n k J' R' g' hk hn' hQ hJ hN hf hA hH
    obtain ⟨n, rfl⟩ : ∃ n', n = n' + 1 := ⟨n - 1, by omega⟩
    have hlt : k < Lb.length := by omega
    obtain ⟨t, ht⟩ : ∃ t, Lb[k]? = some t := ⟨_, List.getElem?_eq_getElem hlt⟩
    have e1 : ax_up R' (p + 82) (La.length + k) (some (g' q k)) q 1 = some (q + 82) := by rw [ax_up_ne (by rcases pp with rfl | rfl <;> rcases pq with rfl | rfl <;> omega)]; exact (hQ.2.2.1 q pq).2
    rw [d_P_takeOver_72, hJ q 3 (by omega), hb, if_neg (nI_ge hlt (by omega)), (hQ.2.2.1 p pp).2, ob, hN, klN pp, if_neg (nI_ge (by omega) (by omega)), ob, kxN pp (show La.length + k < 20 by omega), ob, (hQ.2.2.2.2.1 p (La.length + k) pp (by omega)).1, ob, ob, (hQ.2.2.1 q pq).2, ob, kxN pq (show k < 20 by omega), ob, (hQ.2.2.2.2.1 q k pq (by omega)).1, ob, kxN pp (show La.length + k < 20 by omega), ob, ob, e1, ob, kxN pq (show k < 20 by omega), ob, ob, ob, nI_1, nI_1]
    refine ih n (k + 1) _ _ (swp g' p (La.length + k) q k) (by omega) (by omega) (KQ_swpN hQ pp pq (by omega) (by omega)) (fun i m z => (ax_up_ne z).trans (hJ i m z)) (ax_up_self _ _ _ _) (fun j hj => ?_) (fun j t' hj => ?_) (fun i m z => ?_)
    · rw [swp_3 (by omega) (by omega)]
      exact hf j (by omega)
    · rw [take_succ_f ht, ← List.append_assoc] at hj
      have el : (La ++ Lb.take k).length = La.length + k := by rw [List.length_append, List.length_take]; omega
      by_cases hjl : j < La.length + k
      · rw [List.getElem?_append_left (by omega)] at hj
        rw [swp_3 (by omega) (by omega)]
        exact hA j t' hj
      · rw [List.getElem?_append_right (by omega), el] at hj
        have hzz : j - (La.length + k) < 1 := by
          have := (List.getElem?_eq_some_iff.mp hj).1
          simpa using this
        have hj2 : j = La.length + k := by omega
        subst hj2
        simp at hj
        subst hj
        rw [swp_2, hf k (Nat.le_refl _)]
        exact tb k t ht
    · rw [ax_up_ne (by omega), ax_up_ne (by omega)]
      exact hH i m z
theorem kp_along (hQ : KQ R f g p q) (hr : isP r) (hP : KP I f g r a) (ha : okP a) (ac : Bool) (d : Nat) : ∃ J, d_P_moveAlong oS I R r (ax_b ac) (nI d) = some J ∧ KP J f g r (a.1, a.2.1.map (moT (if ac then d else 0) (if ac then 0 else d)), a.2.2.map (moN (if ac then d else 0) (if ac then 0 else d))) ∧ (∀ i, J r i = I r i) ∧ ∀ i m, ¬ own f g r i → J i m = I i m := by
  have h0 : ∀ v, nI v + 0 = nI (v + 0) := fun v => nI_add v 0
  unfold d_P_moveAlong d_P_moveAlong_10 d_P_moveAlong_19
  cases ac with
  | false =>
    obtain ⟨J, e, hT, hN, hr2, ho⟩ := k_moveBy hQ hr hP ha 0 (nI d) (fun v => v + 0) (fun v => v + d) (fun t _ => ⟨h0 _, nI_add _ _⟩) (fun t _ => ⟨h0 _, nI_add _ _⟩)
    rw [if_pos bF, if_pos bF, e, ob]
    exact ⟨J, rfl, KP_map hP ((hr2 _).trans hP.1.1) ((hr2 _).trans hP.1.2.1) (hr2 _) (hr2 _) hT hN, hr2, ho⟩
  | true =>
    obtain ⟨J, e, hT, hN, hr2, ho⟩ := k_moveBy hQ hr hP ha (nI d) 0 (fun v => v + d) (fun v => v + 0) (fun t _ => ⟨nI_add _ _, h0 _⟩) (fun t _ => ⟨nI_add _ _, h0 _⟩)
    rw [if_neg bT, if_neg bT, e, ob]
    exact ⟨J, rfl, KP_map hP ((hr2 _).trans hP.1.1) ((hr2 _).trans hP.1.2.1) (hr2 _) (hr2 _) hT hN, hr2, ho⟩
theorem kp_grow (h4 : J r 4 = nI a.1.1) (h5 : J r 5 = nI a.1.2) (ac : Bool) (d : Nat) : d_P_growAlong oS J R r (ax_b ac) (nI d) = some (ax_up (ax_up J r 4 (nI (if ac then a.1.1 + d else a.1.1))) r 5 (nI (if ac then a.1.2 else a.1.2 + d))) := by
  have h0 : ∀ v, nI v + 0 = nI v := fun v => nI_add v 0
  unfold d_P_growAlong d_P_growAlong_14 d_P_growAlong_32
  cases ac with
  | false =>
    rw [if_pos bF, h4, h0, ob, if_pos bF, ax_up_ne (show ¬ (r = r ∧ 5 = 4) by omega), h5, nI_add, ob]
    rfl
  | true =>
    rw [if_neg bT, h4, nI_add, ob, if_neg bT, ax_up_ne (show ¬ (r = r ∧ 5 = 4) by omega), h5, h0, ob]
    rfl
theorem kp_size (h4 : I r 4 = nI a.1.1) (h5 : I r 5 = nI a.1.2) (ac : Bool) : d_P_sizeAlong oS I R r (ax_b ac) = some (nI (if ac then a.1.1 else a.1.2)) := by
  unfold d_P_sizeAlong
  rw [h4, h5]
  cases ac with
  | false => rw [if_pos bF]; rfl
  | true => rw [if_neg bT]; rfl
theorem k_uprS {s : Nat} (hs : s < 4) (S : ax_S) : d_K_isUpright S I R (nI s) = some (decide (s % 2 = 0)) := by
  have hs' : s = 0 ∨ s = 1 ∨ s = 2 ∨ s = 3 := by omega
  rcases hs' with rfl | rfl | rfl | rfl <;> rfl
/-- both pictures are moved, THIS one grows -/
theorem kp_place (hQ : KQ R f g p q) (hP : KP I f g p a) (hP2 : KP I f g q b) (ha : okP a) (hb : okP b) {s : Nat} (hs : s < 4) : ∃ J, d_K_makePlaceAt oS I R 0 (nI s) = some J ∧ KP J f g p ((if s % 2 = 0 then a.1.1 + b.1.1 else a.1.1, if s % 2 = 0 then a.1.2 else a.1.2 + b.1.2), a.2.1.map (moT (if s = 0 then b.1.1 else 0) (if s = 1 then b.1.2 else 0)), a.2.2.map (moN (if s = 0 then b.1.1 else 0) (if s = 1 then b.1.2 else 0))) ∧ KP J f g q (b.1, b.2.1.map (moT (if s = 2 then a.1.1 else 0) (if s = 3 then a.1.2 else 0)), b.2.2.map (moN (if s = 2 then a.1.1 else 0) (if s = 3 then a.1.2 else 0))) ∧ ∀ i m, ¬ own f g p i → ¬ own f g q i → J i m = I i m := by
  obtain ⟨pp, pq, hne⟩ := KQ_P hQ
  have l := ha.2.1
  have lb := hb.2.1
  have grow : ∀ (ac : Bool) (d : Nat) (K : ax_I) (La : List Tl) (Na : List Nt) (B : Pc), KP K f g p (a.1, La, Na) → KP K f g q B → La.length ≤ 40 → Na.length ≤ 20 → B.2.1.length ≤ 40 → B.2.2.length ≤ 20 → (∀ i m, ¬ own f g p i → ¬ own f g q i → K i m = I i m) → ∃ J, d_K_makePlaceAt_55 oS K R 0 (ax_b ac) (nI d) = some J ∧ KP J f g p ((if ac then a.1.1 + d else a.1.1, if ac then a.1.2 else a.1.2 + d), La, Na) ∧ KP J f g q B ∧ ∀ i m, ¬ own f g p i → ¬ own f g q i → J i m = I i m := by
    intro ac d K La Na B h1 h2 c1 c2 c3 c4 ho
    unfold d_K_makePlaceAt_55
    rw [hQ.2.1.1, ob, kp_grow (a := a) h1.1.1 h1.1.2.1, ob]
    have kf : ∀ i m, i ≠ p → ax_up (ax_up K p 4 (nI (if ac then a.1.1 + d else a.1.1))) p 5 (nI (if ac then a.1.2 else a.1.2 + d)) i m = K i m := fun i m z => by rw [ax_up_ne (by omega), ax_up_ne (by omega)]
    refine ⟨_, rfl, ⟨⟨?_, ax_up_self _ _ _ _, ?_, ?_⟩, fun k t hk => ?_, fun k n hk => ?_⟩, KP_keep h2 (fun i => kf _ _ (fun e => hne e.symm)) (fun k i hk => ?_) (fun k i hk => ?_), fun i m z1 z2 => ?_⟩
    · rw [ax_up_ne (by omega), ax_up_self]
    · rw [ax_up_ne (by omega), ax_up_ne (by omega)]; exact h1.1.2.2.1
    · rw [ax_up_ne (by omega), ax_up_ne (by omega)]; exact h1.1.2.2.2
    · have hlt : k < La.length := (List.getElem?_eq_some_iff.mp hk).1
      have := T_P (hQ.2.2.2.1 p k pp (by omega)).2 pp
      exact KT_keep (h1.2.1 k t hk) (fun i => kf _ _ this.1) (fun i => kf _ _ this.2)
    · have hlt : k < Na.length := (List.getElem?_eq_some_iff.mp hk).1
      have := N_P (hQ.2.2.2.2.1 p k pp (by omega)).2 pp
      exact KN_keep (h1.2.2 k n hk) (fun i => kf _ _ this)
    · have := T_P (hQ.2.2.2.1 q k pq (by omega)).2 pp
      exact ⟨kf _ _ this.1, kf _ _ this.2⟩
    · exact kf _ _ (N_P (hQ.2.2.2.2.1 q k pq (by omega)).2 pp)
    · rw [kf i m (fun e => z1 (Or.inl e))]
      exact ho i m z1 z2
  have e0 : ∀ ac, d_K_isUpright oS I R (nI s) = some ac → d_K_makePlaceAt oS I R 0 (nI s) = if nI s = 0 then d_K_makePlaceAt_33 oS I R 0 (ax_b ac) (nI (if ac then b.1.1 else b.1.2)) else if nI s = 1 then d_K_makePlaceAt_33 oS I R 0 (ax_b ac) (nI (if ac then b.1.1 else b.1.2)) else (d_P_moveAlong oS I R q (ax_b ac) (nI (if ac then a.1.1 else a.1.2))).bind fun I23 => d_K_makePlaceAt_55 oS I23 R 0 (ax_b ac) (nI (if ac then b.1.1 else b.1.2)) := by
    intro ac hu
    unfold d_K_makePlaceAt
    rw [hu, ob, hQ.2.1.1, ob, kp_size (a := a) hP.1.1 hP.1.2.1, ob, hQ.2.1.2.1, ob, kp_size (a := b) hP2.1.1 hP2.1.2.1, ob, ob]
  have hereM : ∀ (ac : Bool), ∃ J, d_K_makePlaceAt_33 oS I R 0 (ax_b ac) (nI (if ac then b.1.1 else b.1.2)) = some J ∧ KP J f g p ((if ac then a.1.1 + (if ac then b.1.1 else b.1.2) else a.1.1, if ac then a.1.2 else a.1.2 + (if ac then b.1.1 else b.1.2)), a.2.1.map (moT (if ac then (if ac then b.1.1 else b.1.2) else 0) (if ac then 0 else (if ac then b.1.1 else b.1.2))), a.2.2.map (moN (if ac then (if ac then b.1.1 else b.1.2) else 0) (if ac then 0 else (if ac then b.1.1 else b.1.2)))) ∧ KP J f g q b ∧ ∀ i m, ¬ own f g p i → ¬ own f g q i → J i m = I i m := by
    intro ac
    unfold d_K_makePlaceAt_33
    obtain ⟨K, e1, k1, k2, k3⟩ := kp_along hQ pp hP ha ac (if ac then b.1.1 else b.1.2)
    rw [hQ.2.1.1, ob, e1, ob]
    exact grow ac _ K _ _ b k1 (KP_other hQ pp pq hne hb k3 hP2) (by rw [List.length_map]; omega) (by rw [List.length_map]; omega) (by omega) (by omega) (fun i m z1 z2 => k3 i m z1)
  have otherM : ∀ (ac : Bool), ∃ J, ((d_P_moveAlong oS I R q (ax_b ac) (nI (if ac then a.1.1 else a.1.2))).bind fun I23 => d_K_makePlaceAt_55 oS I23 R 0 (ax_b ac) (nI (if ac then b.1.1 else b.1.2))) = some J ∧ KP J f g p ((if ac then a.1.1 + (if ac then b.1.1 else b.1.2) else a.1.1, if ac then a.1.2 else a.1.2 + (if ac then b.1.1 else b.1.2)), a.2.1, a.2.2) ∧ KP J f g q (b.1, b.2.1.map (moT (if ac then (if ac then a.1.1 else a.1.2) else 0) (if ac then 0 else (if ac then a.1.1 else a.1.2))), b.2.2.map (moN (if ac then (if ac then a.1.1 else a.1.2) else 0) (if ac then 0 else (if ac then a.1.1 else a.1.2)))) ∧ ∀ i m, ¬ own f g p i → ¬ own f g q i → J i m = I i m := by
    intro ac
    obtain ⟨K, e1, k1, k2, k3⟩ := kp_along hQ pq hP2 hb ac (if ac then a.1.1 else a.1.2)
    rw [e1, ob]
    exact grow ac _ K a.2.1 a.2.2 _ (KP_other hQ pq pp (fun e => hne e.symm) ha k3 hP) k1 (by omega) (by omega) (by show (List.map _ b.2.1).length ≤ 40; rw [List.length_map]; omega) (by show (List.map _ b.2.2).length ≤ 20; rw [List.length_map]; omega) (fun i m z1 z2 => k3 i m z2)
  have hs' : s = 0 ∨ s = 1 ∨ s = 2 ∨ s = 3 := by omega
  rcases hs' with rfl | rfl | rfl | rfl
  · rw [e0 true rfl, if_pos (show nI 0 = 0 from rfl)]
    obtain ⟨J, j1, j2, j3, j4⟩ := hereM true
    refine ⟨J, j1, j2, ?_, j4⟩
    show KP J f g q (b.1, b.2.1.map (moT 0 0), b.2.2.map (moN 0 0))
    rw [moT_0, moN_0]
    exact j3
  · rw [e0 false rfl, if_neg (show ¬ nI 1 = 0 by decide), if_pos (show nI 1 = 1 from rfl)]
    obtain ⟨J, j1, j2, j3, j4⟩ := hereM false
    refine ⟨J, j1, j2, ?_, j4⟩
    show KP J f g q (b.1, b.2.1.map (moT 0 0), b.2.2.map (moN 0 0))
    rw [moT_0, moN_0]
    exact j3
  · rw [e0 true rfl, if_neg (show ¬ nI 2 = 0 by decide), if_neg (show ¬ nI 2 = 1 by decide)]
    obtain ⟨J, j1, j2, j3, j4⟩ := otherM true
    refine ⟨J, j1, ?_, j3, j4⟩
    show KP J f g p ((a.1.1 + b.1.1, a.1.2), a.2.1.map (moT 0 0), a.2.2.map (moN 0 0))
    rw [moT_0, moN_0]
    exact j2
  · rw [e0 false rfl, if_neg (show ¬ nI 3 = 0 by decide), if_neg (show ¬ nI 3 = 1 by decide)]
    obtain ⟨J, j1, j2, j3, j4⟩ := otherM false
    refine ⟨J, j1, ?_, j3, j4⟩
    show KP J f g p ((a.1.1, a.1.2 + b.1.2), a.2.1.map (moT 0 0), a.2.2.map (moN 0 0))
    rw [moT_0, moN_0]
    exact j2
theorem k_room (hP : KP I f g p a) (hP2 : KP I f g q b) (ha : okP a) (hb : okP b) (ac : Bool) : d_P_hasRoomFor oS I R p q (ax_b ac) = some (roP a b ac) := by
  have oa := ha.1
  have ob' := hb.1
  have la := ha.2.1
  have lb := hb.2.1
  unfold d_P_hasRoomFor
  have e : (if ac then a.1.1 else a.1.2) + (if ac then b.1.1 else b.1.2) = smP a b ac := by cases ac <;> rfl
  have hsm : smP a b ac ≤ 800 := by cases ac <;> simp [smP] <;> omega
  rw [kp_size (a := a) hP.1.1 hP.1.2.1, ob, kp_size (a := b) hP2.1.1 hP2.1.2.1, ob, nI_add, e, hP.1.2.2.1, hP2.1.2.2.1, hP.1.2.2.2, hP2.1.2.2.2, nI_add, nI_add]
  unfold roP
  by_cases z1 : 400 < smP a b ac
  · rw [if_pos (show (400 : Int32) < nI (smP a b ac) from nI_lt (a := 400) z1 (by omega)), decide_eq_false (by omega)]
  rw [if_neg (show ¬ (400 : Int32) < nI (smP a b ac) from nI_nlt (b := smP a b ac) (a := 400) (by omega) (by decide))]
  by_cases z2 : 40 < a.2.1.length + b.2.1.length
  · rw [if_pos (show (40 : Int32) < nI (a.2.1.length + b.2.1.length) from nI_lt (a := 40) z2 (by omega)), decide_eq_false (by omega)]
  rw [if_neg (show ¬ (40 : Int32) < nI (a.2.1.length + b.2.1.length) from nI_nlt (b := a.2.1.length + b.2.1.length) (a := 40) (by omega) (by decide))]
  by_cases z3 : 20 < a.2.2.length + b.2.2.length
  · rw [if_pos (show (20 : Int32) < nI (a.2.2.length + b.2.2.length) from nI_lt (a := 20) z3 (by omega)), decide_eq_false (by omega)]
  rw [if_neg (show ¬ (20 : Int32) < nI (a.2.2.length + b.2.2.length) from nI_nlt (b := a.2.2.length + b.2.2.length) (a := 20) (by omega) (by decide)), decide_eq_true (by omega)]
theorem k_takeOver' (hQ : KQ R f g p q) (hP : KP I f g p a) (hP2 : KP I f g q b) (k3 : I 0 0 = nI fw) (k4 : I 0 1 = nI fh) (k5 : I 0 6 = nI since) (k67 : KS I st) (h3 : a.2.1.length + b.2.1.length ≤ 40) (h4 : a.2.2.length + b.2.2.length ≤ 20) : ∃ J R' f' g', d_P_takeOver oS I R p q = some (J, R') ∧ KR J R' f' g' p q (a.1, a.2.1 ++ b.2.1, a.2.2 ++ b.2.2) (emP b) fw fh since st ∧ hiI I J ∧ ∀ i k, 210 ≤ i → R' i k = R i k := by
  obtain ⟨k6, k7⟩ := k67
  obtain ⟨pp, pq, hne⟩ := KQ_P hQ
  have rp := P_r pp
  have rq := P_r pq
  obtain ⟨J1, R1, f1, e1, Q1, F1, N1, T1, H1⟩ := k_takeT (R := R) (f := f) (g := g) pp pq hne (La := a.2.1) (Lb := b.2.1) h3 hP2.1.2.2.1 hP2.2.1 b.2.1.length 5000 0 I R f (by omega) (by omega) hQ (fun _ _ _ => rfl) hP.1.2.2.1 (fun _ _ => rfl) (fun j t hj => hP.2.1 j t (by simpa using hj)) (fun _ _ _ => rfl)
  have e1 : d_P_takeOver oS I R p q = d_P_takeOver_72 oS 5000 J1 R1 p q 0 := e1
  have nT : ∀ s k, isP s → k < 20 → ∀ i, J1 (g s k) i = I (g s k) i := fun s k hs hk i => F1 _ _ (fun z => N_P (hQ.2.2.2.2.1 s k hs hk).2 pp z.1)
  obtain ⟨J2, R2, g2, e2, Q2, F2, N2, T2, H2⟩ := k_takeN (J := J1) (R := R1) (f := f1) (g := g) pp pq hne (La := a.2.2) (Lb := b.2.2) h4 ((F1 _ _ (by omega)).trans hP2.1.2.2.2) (fun j t hj => KN_keep (hP2.2.2 j t hj) (nT q j pq (by have := (List.getElem?_eq_some_iff.mp hj).1; omega))) b.2.2.length 5000 0 J1 R1 g (by omega) (by omega) Q1 (fun _ _ _ => rfl) ((F1 _ _ (by omega)).trans hP.1.2.2.2) (fun _ _ => rfl) (fun j t hj => by
    have hj' : a.2.2[j]? = some t := by simpa using hj
    exact KN_keep (hP.2.2 j t hj') (nT p j pp (by have := (List.getElem?_eq_some_iff.mp hj').1; omega))) (fun _ _ _ => rfl)
  have e2 : d_P_takeOver_72 oS 5000 J1 R1 p q 0 = _ := e2
  obtain ⟨K, hKe⟩ : ∃ K, K = ax_up (ax_up J2 q 2 0) q 3 0 := ⟨_, rfl⟩
  rw [← hKe] at e2
  have kk : ∀ i m, i ≠ p → i ≠ q → K i m = I i m := fun i m z1 z2 => by
    rw [hKe, ax_up_ne (by omega), ax_up_ne (by omega)]
    exact (F2 _ _ (by omega)).trans (F1 _ _ (by omega))
  have kp : ∀ m, m ≠ 2 → m ≠ 3 → K p m = I p m := fun m z1 z2 => by
    rw [hKe, ax_up_ne (by omega), ax_up_ne (by omega)]
    exact (F2 _ _ (by omega)).trans (F1 _ _ (by omega))
  have kq : ∀ m, m ≠ 2 → m ≠ 3 → K q m = I q m := fun m z1 z2 => by
    rw [hKe, ax_up_ne (by omega), ax_up_ne (by omega)]
    exact (F2 _ _ (by omega)).trans (F1 _ _ (by omega))
  refine ⟨K, R2, f1, g2, e1.trans e2, ⟨Q2, ⟨⟨(kp _ (by omega) (by omega)).trans hP.1.1, (kp _ (by omega) (by omega)).trans hP.1.2.1, ?_, ?_⟩, fun k t hk => ?_, fun k n hk => ?_⟩, ⟨⟨(kq _ (by omega) (by omega)).trans hP2.1.1, (kq _ (by omega) (by omega)).trans hP2.1.2.1, ?_, ?_⟩, fun k t hk => (by simp [emP] at hk), fun k t hk => by simp [emP] at hk⟩, (kk _ _ (by omega) (by omega)).trans k3, (kk _ _ (by omega) (by omega)).trans k4, (kk _ _ (by omega) (by omega)).trans k5, (kk _ _ (by omega) (by omega)).trans k6, fun j c hj => (kk _ _ (by omega) (by omega)).trans (k7 j c hj)⟩, fun i m z => kk _ _ (by omega) (by omega), fun i k z => (H2 i k z).trans (H1 i k z)⟩
  · show K p 2 = nI (a.2.1 ++ b.2.1).length
    rw [hKe, ax_up_ne (by omega), ax_up_ne (by omega), F2 _ _ (by omega), N1, List.length_append]
  · show K p 3 = nI (a.2.2 ++ b.2.2).length
    rw [hKe, ax_up_ne (by omega), ax_up_ne (by omega), N2, List.length_append]
  · have hk' : (a.2.1 ++ b.2.1)[k]? = some t := hk
    have hlt : k < (a.2.1 ++ b.2.1).length := (List.getElem?_eq_some_iff.mp hk').1
    rw [List.length_append] at hlt
    have t1 := T_P (Q1.2.2.2.1 p k pp (by omega)).2 pp
    have t2 := T_P (Q1.2.2.2.1 p k pp (by omega)).2 pq
    exact KT_keep (T1 k t hk') (fun i => kk _ _ t1.1 t2.1) (fun i => kk _ _ t1.2 t2.2)
  · have hk' : (a.2.2 ++ b.2.2)[k]? = some n := hk
    have hlt : k < (a.2.2 ++ b.2.2).length := (List.getElem?_eq_some_iff.mp hk').1
    rw [List.length_append] at hlt
    have t1 := N_P (Q2.2.2.2.2.1 p k pp (by omega)).2 pp
    have t2 := N_P (Q2.2.2.2.2.1 p k pp (by omega)).2 pq
    refine KN_keep (T2 k n hk') (fun i => ?_)
    rw [hKe, ax_up_ne (by omega), ax_up_ne (by omega)]
    exact F2 _ _ (by omega)
  · show K q 2 = nI 0
    rw [hKe, ax_up_ne (by omega), ax_up_self]; rfl
  · show K q 3 = nI 0
    rw [hKe, ax_up_self]; rfl
theorem K_join (hK : KR I R f g p q a b fw fh since st) (ha : okP a) (hb : okP b) (x : Int32) : (x < 0 ∨ 3 < x → d_K_join oS I R 0 x = some (.inr "java/lang/IndexOutOfBoundsException", I, R)) ∧ (∀ s, s < 4 → x = nI s → (alP a b (decide (s % 2 = 0)) = false → d_K_join oS I R 0 x = some (.inr "java/lang/IllegalStateException", I, R)) ∧ (alP a b (decide (s % 2 = 0)) = true → (roP a b (decide (s % 2 = 0)) = false → d_K_join oS I R 0 x = some (.inr "java/lang/UnsupportedOperationException", I, R)) ∧ (roP a b (decide (s % 2 = 0)) = true → ∃ J R' f' g', d_K_join oS I R 0 x = some (.inl (nI (a.2.1.length + b.2.1.length)), J, R') ∧ KR J R' f' g' p q (joinP a b s) (emP b) fw fh 0 st ∧ hiI I J ∧ ∀ i k, 210 ≤ i → R' i k = R i k))) := by
  have hQ := hK.1
  obtain ⟨pp, pq, hne⟩ := KQ_P hQ
  have oa := ha.1
  have ob' := hb.1
  unfold d_K_join
  refine ⟨fun z => ?_, fun s hs ex => ?_⟩
  · have e : d_K_isSide oS I R x = some false := by
      unfold d_K_isSide
      by_cases z1 : x < 0
      · rw [if_pos z1]
      · have z2 : (4 : Int32) ≤ x := by
          have z3 := z.resolve_left z1
          rw [Int32.lt_iff_toInt_lt] at z3
          rw [Int32.le_iff_toInt_le]
          have e3 : (3 : Int32).toInt = 3 := rfl
          have e4 : (4 : Int32).toInt = 4 := rfl
          omega
        rw [if_neg z1, if_pos z2]
    rw [e, ob, if_pos bF]
  subst ex
  have e1 : d_K_isSide oS I R (nI s) = some true := by
    unfold d_K_isSide
    rw [if_neg (nI_pos (by omega)), if_neg (show ¬ (4 : Int32) ≤ nI s from nI_ge (b := 4) hs (by decide))]
  obtain ⟨ac, hac⟩ : ∃ ac, ac = decide (s % 2 = 0) := ⟨_, rfl⟩
  have hu := k_uprS (I := I) (R := R) hs oS
  rw [← hac] at hu ⊢
  have e2 : (if ax_b ac = 0 then d_K_join_35 oS I R 0 (nI s) (ax_b ac) 1 p else d_K_join_35 oS I R 0 (nI s) (ax_b ac) 0 p) = d_K_join_35 oS I R 0 (nI s) (ax_b ac) (ax_b (!ac)) p := by
    cases ac with
    | false => rw [if_pos bF]; rfl
    | true => rw [if_neg bT]; rfl
  have e3 : (if ax_b ac = 0 then d_K_join_51 oS I R 0 (nI s) (ax_b ac) 1 q (nI (if !ac then a.1.1 else a.1.2)) else d_K_join_51 oS I R 0 (nI s) (ax_b ac) 0 q (nI (if !ac then a.1.1 else a.1.2))) = d_K_join_51 oS I R 0 (nI s) (ax_b ac) (ax_b (!ac)) q (nI (if !ac then a.1.1 else a.1.2)) := by
    cases ac with
    | false => rw [if_pos bF]; rfl
    | true => rw [if_neg bT]; rfl
  rw [e1, ob, if_neg bT, hu, ob, hQ.2.1.1, ob, e2]
  unfold d_K_join_35
  rw [kp_size (a := a) hK.2.1.1.1 hK.2.1.1.2.1, ob, hQ.2.1.2.1, ob, e3]
  unfold d_K_join_51
  rw [kp_size (a := b) hK.2.2.1.1.1 hK.2.2.1.1.2.1, ob]
  have eal : alP a b ac = decide ((if !ac then a.1.1 else a.1.2) = (if !ac then b.1.1 else b.1.2)) := by cases ac <;> rfl
  refine ⟨fun z => ?_, fun z => ?_⟩
  · rw [eal] at z
    have z' := of_decide_eq_false z
    rw [if_neg (fun y => z' ((nI_eq (by cases ac <;> simp <;> omega) (by cases ac <;> simp <;> omega)).mp y))]
  rw [eal] at z
  have z' := of_decide_eq_true z
  rw [if_pos (by rw [z']), hQ.2.1.1, ob, hQ.2.1.2.1, ob, k_room hK.2.1 hK.2.2.1 ha hb, ob]
  refine ⟨fun y => ?_, fun y => ?_⟩
  · rw [y, if_pos bF]
  have yr := of_decide_eq_true y
  obtain ⟨J1, j1, j2, j3, j4⟩ := kp_place hQ hK.2.1 hK.2.2.1 ha hb hs
  rw [y, if_neg bT, j1, ob, ob, ob]
  obtain ⟨-, hP, hP2, k3, k4, k5, k6, k7⟩ := hK
  have jf : ∀ i m, i < 4 ∨ 210 ≤ i → J1 i m = I i m := fun i m z => j4 i m (fun y => by have := own_r hQ pp y; omega) (fun y => by have := own_r hQ pq y; omega)
  have oJ := okP_join ha hb hs (by
    rw [hac] at eal z
    by_cases zz : s % 2 = 0
    · rw [if_pos zz]; rw [hac] at z'; simpa [zz] using z'
    · rw [if_neg zz]; rw [hac] at z'; simpa [zz] using z') (by
    have := yr.1
    rw [hac] at this
    unfold smP at this
    by_cases zz : s % 2 = 0
    · rw [if_pos zz]; simpa [zz] using this
    · rw [if_neg zz]; simpa [zz] using this) yr.2.1 yr.2.2
  obtain ⟨A, hA⟩ : ∃ A : Pc, A = ((if s % 2 = 0 then a.1.1 + b.1.1 else a.1.1, if s % 2 = 0 then a.1.2 else a.1.2 + b.1.2), a.2.1.map (moT (if s = 0 then b.1.1 else 0) (if s = 1 then b.1.2 else 0)), a.2.2.map (moN (if s = 0 then b.1.1 else 0) (if s = 1 then b.1.2 else 0))) := ⟨_, rfl⟩
  obtain ⟨B, hB⟩ : ∃ B : Pc, B = (b.1, b.2.1.map (moT (if s = 2 then a.1.1 else 0) (if s = 3 then a.1.2 else 0)), b.2.2.map (moN (if s = 2 then a.1.1 else 0) (if s = 3 then a.1.2 else 0))) := ⟨_, rfl⟩
  have eJ : joinP a b s = (A.1, A.2.1 ++ B.2.1, A.2.2 ++ B.2.2) := by rw [hA, hB]; rfl
  rw [← hA] at j2
  rw [← hB] at j3
  have lA : A.2.1.length = a.2.1.length ∧ A.2.2.length = a.2.2.length := by rw [hA]; exact ⟨List.length_map _, List.length_map _⟩
  have lB : B.2.1.length = b.2.1.length ∧ B.2.2.length = b.2.2.length := by rw [hB]; exact ⟨List.length_map _, List.length_map _⟩
  rw [eJ] at oJ
  have oA : okP A := ⟨oJ.1, ⟨by have := ha.2.1; omega, by have := ha.2.1; omega⟩, fun t ht => oJ.2.2.1 t (List.mem_append_left _ ht), fun n hn => oJ.2.2.2.1 n (List.mem_append_left _ hn), (List.pairwise_append.mp oJ.2.2.2.2).1⟩
  have oE : okP (emP B) := by
    rw [hB]
    exact (show okP (emP b) from okP_em hb)
  obtain ⟨J2, R2, f2, g2, t1, t2, t3, t4⟩ := k_takeOver' hQ j2 j3 ((jf _ _ (by omega)).trans k3) ((jf _ _ (by omega)).trans k4) ((jf _ _ (by omega)).trans k5) ⟨(jf _ _ (by omega)).trans k6, fun j c hj => (jf _ _ (by omega)).trans (k7 j c hj)⟩ (by omega) (by omega)
  obtain ⟨s1, s2⟩ := KR_since t2 oJ oE 0
  have e0 : nI 0 = 0 := rfl
  rw [t1, ob, ob, ob]
  dsimp only
  rw [t2.1.2.1.1, ob]
  rw [e0] at s1 s2
  rw [s1.2.1.1.2.2.1]
  refine ⟨ax_up (ax_up J2 0 6 0) 0 7 0, R2, f2, g2, ?_, ?_, fun i m z => (s2 i m z).trans ((t3 i m z).trans (jf _ _ (by omega))), t4⟩
  · show some (Sum.inl (nI (A.2.1 ++ B.2.1).length), _, _) = _
    rw [List.length_append, lA.1, lB.1]
  · rw [eJ]
    have : emP B = emP b := by rw [hB]; rfl
    rw [← this]
    exact s1
end KJ
/-! the class: what it puts into its stream -/
def mxL (ln pl n : Nat) : Nat := if n = 0 then ln else max ln (pl + n)
theorem mxL_add (ln pl n m : Nat) : mxL (mxL ln pl n) (pl + n) m = mxL ln pl (n + m) := by
  unfold mxL
  by_cases h1 : n = 0
  · subst h1
    simp
  · by_cases h2 : m = 0
    · subst h2
      simp [h1]
    · rw [if_neg h2, if_neg h1, if_neg (by omega)]
      omega
/-- l is put from place pl on; ln was the length -/
def Wr (J J' : ax_I) (pl ln : Nat) (l : List Nat) : Prop := J' 1 2 = nI (pl + l.length) ∧ J' 1 1 = nI (mxL ln pl l.length) ∧ (∀ i c, l[i]? = some c → J' 2 (pl + i) = nI c) ∧ (∀ j, j < pl ∨ pl + l.length ≤ j → J' 2 j = J 2 j) ∧ ∀ i m, i ≠ 1 → i ≠ 2 → J' i m = J i m
theorem b255 {v : Nat} (h : v < 2 ^ 31) : nI v &&& 255 = nI (v % 256) := by
  have := pk_and (nI v) (m := 255) 8 (by decide +kernel)
  rw [pk_tn (by omega)] at this
  exact this
theorem b8 {v : Nat} (h : v < 2 ^ 31) : nI v >>> (8 &&& 31) = nI (v / 256) := pk_shrN h (8 &&& 31) 8 (by decide +kernel)
section KW
variable {I J J0 : ax_I} {R : ax_R} {f g : Nat → Nat → Nat} {p q r fw fh since pl ln : Nat} {a a' b : Pc} {st l : List Nat}
theorem w_byte (h : Wr J0 J pl ln l) (hp : pl + l.length < 1148) (hln : ln ≤ 1148) (r1 : R 1 0 = some 2) {x : Int32} (c : Nat) (hx : x = nI c) : ∃ J', d_S_putByte oS J R 1 x = some J' ∧ Wr J0 J' pl ln (l ++ [c]) := by
  subst hx
  obtain ⟨h1, h2, h3, h4, h5⟩ := h
  have hm : mxL ln pl l.length ≤ 1148 := by unfold mxL; split <;> omega
  unfold d_S_putByte
  rw [h1, if_neg (nI_pos (by omega)), r1, ob, kl2, if_pos (nI_lt hp (by omega)), ob, kx2 hp, ob, ob, ax_up_ne (show ¬ (1 = 2 ∧ 2 = pl + l.length) by omega), h1, nI_1, ob, ob]
  obtain ⟨K, hK⟩ : ∃ K, K = ax_up (ax_up J 2 (pl + l.length) (nI c)) 1 2 (nI (pl + l.length + 1)) := ⟨_, rfl⟩
  have k11 : K 1 1 = nI (mxL ln pl l.length) := by rw [hK, ax_up_ne (by omega), ax_up_ne (by omega)]; exact h2
  have k12 : K 1 2 = nI (pl + l.length + 1) := by rw [hK, ax_up_self]
  rw [← hK, k11, k12]
  have em : (if nI (mxL ln pl l.length) < nI (pl + l.length + 1) then nI (pl + l.length + 1) else nI (mxL ln pl l.length)) = nI (mxL ln pl (l.length + 1)) := by
    have e : mxL ln pl (l.length + 1) = if mxL ln pl l.length < pl + l.length + 1 then pl + l.length + 1 else mxL ln pl l.length := by
      unfold mxL
      rw [if_neg (by omega)]
      by_cases hz : l.length = 0
      · rw [if_pos hz]
        split <;> omega
      · rw [if_neg hz]
        split <;> omega
    rw [e]
    by_cases z : mxL ln pl l.length < pl + l.length + 1
    · rw [if_pos (nI_lt z (by omega)), if_pos z]
    · rw [if_neg (nI_nlt (by omega) (by omega)), if_neg z]
  rw [em]
  have el : (l ++ [c]).length = l.length + 1 := by rw [List.length_append]; rfl
  refine ⟨_, rfl, ?_, ?_, fun i d hi => ?_, fun j hj => ?_, fun i m z1 z2 => ?_⟩
  · rw [ax_up_ne (by omega), k12, el]; rfl
  · rw [ax_up_self, el]
  · rw [ax_up_ne (by omega), hK, ax_up_ne (by omega)]
    by_cases e : i < l.length
    · rw [List.getElem?_append_left e] at hi
      rw [ax_up_ne (by omega)]
      exact h3 i d hi
    · rw [List.getElem?_append_right (by omega)] at hi
      have hz : i - l.length < 1 := (List.getElem?_eq_some_iff.mp hi).1
      have hj2 : i = l.length := by omega
      subst hj2
      simp at hi
      subst hi
      rw [ax_up_self]
  · rw [el] at hj
    rw [ax_up_ne (by omega), hK, ax_up_ne (by omega), ax_up_ne (by omega)]
    exact h4 j (by omega)
  · rw [ax_up_ne (by omega), hK, ax_up_ne (by omega), ax_up_ne (by omega)]
    exact h5 i m z1 z2
theorem w_num (h : Wr J0 J pl ln l) (hp : pl + l.length + 2 ≤ 1148) (hln : ln ≤ 1148) (r1 : R 1 0 = some 2) {x : Int32} {v : Nat} (hv : v < 65536) (hx : x = nI v) : ∃ J', d_S_putNumber oS J R 1 x = some J' ∧ Wr J0 J' pl ln (l ++ two v) := by
  subst hx
  obtain ⟨J1, e1, W1⟩ := w_byte h (by omega) hln r1 (v % 256) (b255 (by omega))
  have e8 : (nI v >>> (8 &&& 31)) &&& 255 = nI (v / 256) := by
    rw [b8 (by omega), b255 (by omega)]
    congr 1
    omega
  obtain ⟨J2, e2, W2⟩ := w_byte W1 (by rw [List.length_append]; show pl + (l.length + 1) < 1148; omega) hln r1 (v / 256) e8
  unfold d_S_putNumber
  rw [e1, ob, e2, ob]
  refine ⟨J2, rfl, ?_⟩
  rw [List.append_assoc] at W2
  exact W2
/-- outside the stream nothing has changed -/
theorem Wr_KP (hQ : KQ R f g p q) (hr : isP r) (ha : okP a) (h : KP J0 f g r a) (e : ∀ i m, i ≠ 1 → i ≠ 2 → J i m = J0 i m) : KP J f g r a := KP_far hQ hr ha h (fun i m z1 _ => e i m (by omega) (by omega))
theorem w_part55 (hQ : KQ R f g p q) (hr : isP r) (hP : KP J0 f g r a) (ha : okP a) {k : Nat} {t : Tl} (hk : a.2.1[k]? = some t) (hln : ln ≤ 1148) (u2 : Int32) : ∀ (m n i : Nat) (J : ax_I) (l : List Nat), i + m = t.2.2.2.length → m < n → Wr J0 J pl ln l → pl + l.length + m ≤ 1148 → ∃ J', d_T_putPart_55 oS n J R (f r k) 1 u2 (nI i) = (d_S_sumFrom oS J' R 1 u2).bind (fun r22 => (d_S_putNumber oS J' R 1 r22).bind fun I25 => some I25) ∧ Wr J0 J' pl ln (l ++ t.2.2.2.drop i) := by
  have l40 := ha.2.1.1
  have hkl : k < a.2.1.length := (List.getElem?_eq_some_iff.mp hk).1
  have hbl := (ha.2.2.1 t (List.mem_of_getElem? hk)).2.2.2.1
  have tu := (hQ.2.2.2.1 r k hr (by omega)).2
  have ru := T_r tu
  have r1 := hQ.2.1.2.2.2.2
  obtain ⟨⟨q1, q2, q3, q4, q5, q6⟩, q7⟩ := hP.2.1 k t hk
  intro m
  induction m with
  | zero =>
    intro n i J l hi hn' hW hl
    obtain ⟨n, rfl⟩ : ∃ n', n = n' + 1 := ⟨n - 1, by omega⟩
    have hi : i = t.2.2.2.length := by omega
    subst hi
    rw [d_T_putPart_55, hW.2.2.2.2 _ _ (by omega) (by omega), q6, if_pos (nI_le (Nat.le_refl _) (by omega)), List.drop_length, List.append_nil]
    exact ⟨J, rfl, hW⟩
  | succ m ih =>
    intro n i J l hi hn' hW hl
    obtain ⟨n, rfl⟩ : ∃ n', n = n' + 1 := ⟨n - 1, by omega⟩
    have hlt : i < t.2.2.2.length := by omega
    obtain ⟨c, hc⟩ : ∃ c, t.2.2.2[i]? = some c := ⟨_, List.getElem?_eq_getElem hlt⟩
    have ed : t.2.2.2.drop i = c :: t.2.2.2.drop (i + 1) := by rw [List.drop_eq_getElem_cons hlt]; congr 1; rw [List.getElem?_eq_getElem hlt] at hc; exact Option.some.inj hc
    obtain ⟨J1, e1, W1⟩ := w_byte hW (by omega) hln r1 c ((hW.2.2.2.2 (f r k + 1) i (by omega) (by omega)).trans (q7 i c hc))
    rw [d_T_putPart_55, hW.2.2.2.2 _ _ (by omega) (by omega), q6, if_neg (nI_ge hlt (by omega)), hQ.2.2.2.2.2.1 _ tu, ob, kxB tu (by omega), ob, e1, ob, nI_1]
    obtain ⟨J2, e2, W2⟩ := ih n (i + 1) J1 (l ++ [c]) (by omega) (by omega) W1 (by rw [List.length_append]; show pl + (l.length + 1) + m ≤ 1148; omega)
    refine ⟨J2, e2, ?_⟩
    rw [ed]
    rw [List.append_assoc] at W2
    exact W2
theorem w_sumL (hW : Wr J0 J pl ln l) (hl : pl + l.length ≤ 1148) (r1 : R 1 0 = some 2) (hc : ∀ c ∈ l, c < 256) : ∀ (m n k s : Nat), k + m = l.length → m < n → s < 65521 → d_S_sumFrom_8 oS n J R 1 (nI s) (nI (pl + k)) = some (nI (sumL s (l.drop k))) := by
  obtain ⟨h1, h2, h3, h4, h5⟩ := hW
  intro m
  induction m with
  | zero =>
    intro n k s hk hn' hs
    obtain ⟨n, rfl⟩ : ∃ n', n = n' + 1 := ⟨n - 1, by omega⟩
    have hk : k = l.length := by omega
    subst hk
    rw [d_S_sumFrom_8, h1, if_pos (nI_le (Nat.le_refl _) (by omega)), List.drop_length]
    rfl
  | succ m ih =>
    intro n k s hk hn' hs
    obtain ⟨n, rfl⟩ : ∃ n', n = n' + 1 := ⟨n - 1, by omega⟩
    have hlt : k < l.length := by omega
    obtain ⟨c, hc'⟩ : ∃ c, l[k]? = some c := ⟨_, List.getElem?_eq_getElem hlt⟩
    have ed : l.drop k = c :: l.drop (k + 1) := by rw [List.drop_eq_getElem_cons hlt]; congr 1; rw [List.getElem?_eq_getElem hlt] at hc'; exact Option.some.inj hc'
    have c256 : c < 256 := hc c (List.mem_of_getElem? hc')
    have er : nI (s * 31 + c) - nI (s * 31 + c) / 65521 * 65521 = nI ((s * 31 + c) % 65521) := n_rem (d := 65521) (by omega) (by omega) (by omega)
    rw [d_S_sumFrom_8, h1, if_neg (nI_ge (by omega) (by omega)), r1, ob, kl2, if_neg (nI_ge (by omega) (by omega)), ob, kx2 (by omega), ob, h3 k c hc', show (31 : Int32) = nI 31 from rfl, nI_mul, nI_add, er, nI_1, ed]
    have := ih n (k + 1) ((s * 31 + c) % 65521) (by omega) (by omega) (Nat.mod_lt _ (by omega))
    rw [show pl + k + 1 = pl + (k + 1) by omega, this]
    show some (nI (sumL ((s * 31 + c) % 65521) (l.drop (k + 1)))) = some (nI (sumL s (c :: l.drop (k + 1))))
    rw [Nat.mul_comm s 31]
    rfl
theorem w_part (hQ : KQ R f g p q) (hr : isP r) (hP : KP J0 f g r a) (ha : okP a) {k : Nat} {t : Tl} (hk : a.2.1[k]? = some t) (h0 : J0 1 2 = nI pl) (h1 : J0 1 1 = nI ln) (hln : ln ≤ 1148) (hl : pl + psz t ≤ 1148) : ∃ J, d_T_putPart oS J0 R (f r k) 1 = some J ∧ Wr J0 J pl ln (part t) := by
  have l40 := ha.2.1.1
  have oW := ha.1
  have hkl : k < a.2.1.length := (List.getElem?_eq_some_iff.mp hk).1
  have ot := ha.2.2.1 t (List.mem_of_getElem? hk)
  have h10 := hd10_lt oW.2.1 oW.2.2.2 ot
  obtain ⟨⟨z1, z2, z3, z4⟩, ⟨z5, z6⟩, z7, z8, z9⟩ := ot
  have hps : psz t = 12 + t.2.2.2.length := rfl
  have ru := T_r (hQ.2.2.2.1 r k hr (by omega)).2
  have r1 := hQ.2.1.2.2.2.2
  obtain ⟨⟨q1, q2, q3, q4, q5, q6⟩, q7⟩ := hP.2.1 k t hk
  have W0 : Wr J0 J0 pl ln [] := ⟨h0, h1, fun i c hi => (by cases hi), fun _ _ => rfl, fun _ _ _ _ => rfl⟩
  unfold d_T_putPart
  obtain ⟨J1, e1, W1⟩ := w_num W0 (by show pl + 0 + 2 ≤ 1148; omega) hln r1 (v := t.1.1) (by omega) q1
  rw [e1, ob, h0]
  obtain ⟨J2, e2, W2⟩ := w_num W1 (by simp only [List.length_append, two_len, List.length_nil]; omega) hln r1 (v := t.1.2) (by omega) ((W1.2.2.2.2 _ _ (by omega) (by omega)).trans q2)
  rw [e2, ob]
  obtain ⟨J3, e3, W3⟩ := w_num W2 (by simp only [List.length_append, two_len, List.length_nil]; omega) hln r1 (v := t.2.1.1) (by omega) ((W2.2.2.2.2 _ _ (by omega) (by omega)).trans q3)
  rw [e3, ob]
  obtain ⟨J4, e4, W4⟩ := w_num W3 (by simp only [List.length_append, two_len, List.length_nil]; omega) hln r1 (v := t.2.1.2) (by omega) ((W3.2.2.2.2 _ _ (by omega) (by omega)).trans q4)
  rw [e4, ob]
  obtain ⟨J5, e5, W5⟩ := w_byte W4 (by simp only [List.length_append, two_len, List.length_nil]; omega) hln r1 t.2.2.1 ((W4.2.2.2.2 _ _ (by omega) (by omega)).trans q5)
  rw [e5, ob]
  obtain ⟨J6, e6, W6⟩ := w_byte W5 (by simp only [List.length_append, two_len, List.length_nil, List.length_cons]; omega) hln r1 t.2.2.2.length ((W5.2.2.2.2 _ _ (by omega) (by omega)).trans q6)
  rw [e6, ob]
  obtain ⟨J7, e7, W7⟩ := w_part55 hQ hr hP ha hk hln (nI pl) t.2.2.2.length 5000 0 J6 _ (by omega) (by omega) W6 (by simp only [List.length_append, two_len, List.length_nil, List.length_cons]; omega)
  have e7 : d_T_putPart_55 oS 5000 J6 R (f r k) 1 (nI pl) 0 = _ := e7
  have eM : [] ++ two t.1.1 ++ two t.1.2 ++ two t.2.1.1 ++ two t.2.1.2 ++ [t.2.2.1] ++ [t.2.2.2.length] ++ t.2.2.2.drop 0 = hd10 t := by
    unfold hd10
    simp only [List.nil_append, List.drop_zero]
  rw [eM] at W7
  have hs := w_sumL W7 (by rw [hd10_len]; omega) r1 h10 (hd10 t).length 5000 0 1 (by omega) (by rw [hd10_len]; omega) (by omega)
  have hsf : d_S_sumFrom oS J7 R 1 (nI pl) = some (nI (sumL 1 (hd10 t))) := by
    unfold d_S_sumFrom
    have e0 : (if (0 : Int32) < nI pl then nI pl else 0) = nI (pl + 0) := by
      by_cases z : 0 < pl
      · rw [if_pos (show (0 : Int32) < nI pl from nI_lt (a := 0) z (by omega))]; rfl
      · have : pl = 0 := by omega
        subst this
        rw [if_neg (by decide)]; rfl
    rw [e0]
    rw [List.drop_zero] at hs
    exact hs
  have sl := sumL_lt (s := 1) (hd10 t) (by omega)
  obtain ⟨J8, e8, W8⟩ := w_num W7 (by rw [hd10_len]; omega) hln r1 (v := sumL 1 (hd10 t)) (by omega) rfl
  rw [e7, hsf, ob, e8, ob]
  exact ⟨J8, rfl, W8⟩
theorem w_head76 (hQ : KQ R f g p q) (hr : isP r) (hP : KP J0 f g r a) (ha : okP a) (hln : ln ≤ 1148) : ∀ (m n k : Nat) (J : ax_I) (l : List Nat), k + m = a.2.2.length → m < n → Wr J0 J pl ln l → pl + l.length + 5 * m ≤ 1148 → ∃ J', d_P_putHead_76 oS n J R r 1 (nI k) = some J' ∧ Wr J0 J' pl ln (l ++ (a.2.2.drop k).flatMap (fun n => two n.1 ++ two n.2.1 ++ [n.2.2])) := by
  have l20 := ha.2.1.2
  have oW := ha.1
  have rr := P_r hr
  have r1 := hQ.2.1.2.2.2.2
  intro m
  induction m with
  | zero =>
    intro n k J l hk hn' hW hl
    obtain ⟨n, rfl⟩ : ∃ n', n = n' + 1 := ⟨n - 1, by omega⟩
    have hk : k = a.2.2.length := by omega
    subst hk
    rw [d_P_putHead_76, hW.2.2.2.2 _ _ (by omega) (by omega), hP.1.2.2.2, if_pos (nI_le (Nat.le_refl _) (by omega)), List.drop_length, List.flatMap_nil, List.append_nil]
    exact ⟨J, rfl, hW⟩
  | succ m ih =>
    intro n k J l hk hn' hW hl
    obtain ⟨n, rfl⟩ : ∃ n', n = n' + 1 := ⟨n - 1, by omega⟩
    have hlt : k < a.2.2.length := by omega
    obtain ⟨t, ht⟩ : ∃ t, a.2.2[k]? = some t := ⟨_, List.getElem?_eq_getElem hlt⟩
    have ed : a.2.2.drop k = t :: a.2.2.drop (k + 1) := by rw [List.drop_eq_getElem_cons hlt]; congr 1; rw [List.getElem?_eq_getElem hlt] at ht; exact Option.some.inj ht
    obtain ⟨o1, o2, o3⟩ := ha.2.2.2.1 t (List.mem_of_getElem? ht)
    obtain ⟨hu, nu⟩ := hQ.2.2.2.2.1 r k hr (by omega)
    have ru := N_r nu
    obtain ⟨q1, q2, q3⟩ := hP.2.2 k t ht
    rw [d_P_putHead_76, hW.2.2.2.2 _ _ (by omega) (by omega), hP.1.2.2.2, if_neg (nI_ge hlt (by omega)), (hQ.2.2.1 r hr).2, ob, kxN hr (by omega), ob, hu, ob]
    obtain ⟨J1, e1, W1⟩ := w_num hW (by omega) hln r1 (v := t.1) (by omega) ((hW.2.2.2.2 _ _ (by omega) (by omega)).trans q1)
    rw [e1, ob, ob, kxN hr (by omega), ob, hu, ob]
    obtain ⟨J2, e2, W2⟩ := w_num W1 (by simp only [List.length_append, two_len]; omega) hln r1 (v := t.2.1) (by omega) ((W1.2.2.2.2 _ _ (by omega) (by omega)).trans q2)
    rw [e2, ob, ob, kxN hr (by omega), ob, hu, ob]
    obtain ⟨J3, e3, W3⟩ := w_byte W2 (by simp only [List.length_append, two_len]; omega) hln r1 t.2.2 ((W2.2.2.2.2 _ _ (by omega) (by omega)).trans q3)
    rw [e3, ob, nI_1]
    obtain ⟨J4, e4, W4⟩ := ih n (k + 1) J3 _ (by omega) (by omega) W3 (by simp only [List.length_append, two_len, List.length_cons, List.length_nil]; omega)
    refine ⟨J4, e4, ?_⟩
    rw [ed, List.flatMap_cons]
    have eL : l ++ two t.1 ++ two t.2.1 ++ [t.2.2] ++ (a.2.2.drop (k + 1)).flatMap (fun n => two n.1 ++ two n.2.1 ++ [n.2.2]) = l ++ (two t.1 ++ two t.2.1 ++ [t.2.2] ++ (a.2.2.drop (k + 1)).flatMap (fun n => two n.1 ++ two n.2.1 ++ [n.2.2])) := by simp only [List.append_assoc]
    rw [← eL]
    exact W4
theorem w_head38 (hQ : KQ R f g p q) (hr : isP r) (hP : KP J0 f g r a) (ha : okP a) (hln : ln ≤ 1148) : ∀ (m n k : Nat) (J : ax_I) (l : List Nat), k + m = a.2.1.length → m < n → Wr J0 J pl ln l → pl + l.length + 2 * m + 1 ≤ 1148 → ∃ J', d_P_putHead_38 oS n J R r 1 (nI k) = d_P_putHead_76 oS 5000 J' R r 1 0 ∧ Wr J0 J' pl ln (l ++ (a.2.1.drop k).flatMap (fun t => two (ptrP a t)) ++ [a.2.2.length]) := by
  have l40 := ha.2.1.1
  have tl := tot_le ha
  have rr := P_r hr
  have r1 := hQ.2.1.2.2.2.2
  intro m
  induction m with
  | zero =>
    intro n k J l hk hn' hW hl
    obtain ⟨n, rfl⟩ : ∃ n', n = n' + 1 := ⟨n - 1, by omega⟩
    have hk : k = a.2.1.length := by omega
    subst hk
    obtain ⟨J1, e1, W1⟩ := w_byte hW (by omega) hln r1 a.2.2.length ((hW.2.2.2.2 r 3 (by omega) (by omega)).trans hP.1.2.2.2)
    rw [d_P_putHead_38, hW.2.2.2.2 _ _ (by omega) (by omega), hP.1.2.2.1, if_pos (nI_le (Nat.le_refl _) (by omega)), e1, ob, List.drop_length, List.flatMap_nil, List.append_nil]
    exact ⟨J1, rfl, W1⟩
  | succ m ih =>
    intro n k J l hk hn' hW hl
    obtain ⟨n, rfl⟩ : ∃ n', n = n' + 1 := ⟨n - 1, by omega⟩
    have hlt : k < a.2.1.length := by omega
    obtain ⟨t, ht⟩ : ∃ t, a.2.1[k]? = some t := ⟨_, List.getElem?_eq_getElem hlt⟩
    have ed : a.2.1.drop k = t :: a.2.1.drop (k + 1) := by rw [List.drop_eq_getElem_cons hlt]; congr 1; rw [List.getElem?_eq_getElem hlt] at ht; exact Option.some.inj ht
    have hp := ptr_le (List.mem_of_getElem? ht)
    obtain ⟨J1, e1, W1⟩ := w_num hW (by omega) hln r1 (v := ptrP a t) (by omega) rfl
    rw [d_P_putHead_38, hW.2.2.2.2 _ _ (by omega) (by omega), hP.1.2.2.1, if_neg (nI_ge hlt (by omega)), (hQ.2.2.1 r hr).1, ob, kxT hr (by omega), ob, (hQ.2.2.2.1 r k hr (by omega)).1, ob, k_ptr hQ hr (Wr_KP hQ hr ha hP hW.2.2.2.2) ha ht, ob, e1, ob, nI_1]
    obtain ⟨J2, e2, W2⟩ := ih n (k + 1) J1 _ (by omega) (by omega) W1 (by simp only [List.length_append, two_len]; omega)
    refine ⟨J2, e2, ?_⟩
    rw [ed, List.flatMap_cons, ← List.append_assoc l]
    exact W2
theorem w_head (hQ : KQ R f g p q) (hr : isP r) (hP : KP J0 f g r a) (ha : okP a) (h0 : J0 1 2 = nI 0) (h1 : J0 1 1 = nI 0) : ∃ J, d_P_putHead oS J0 R r 1 = some J ∧ Wr J0 J 0 0 (hdP a) := by
  have l := ha.2.1
  have oW := ha.1
  have rr := P_r hr
  have r1 := hQ.2.1.2.2.2.2
  have W0 : Wr J0 J0 0 0 [] := ⟨h0, h1, fun i c hi => (by cases hi), fun _ _ => rfl, fun _ _ _ _ => rfl⟩
  unfold d_P_putHead
  obtain ⟨J1, e1, W1⟩ := w_byte W0 (x := 76) (by show 0 < 1148; omega) (by omega) r1 76 rfl
  rw [e1, ob]
  obtain ⟨J2, e2, W2⟩ := w_byte W1 (x := 70) (by show 0 + 1 < 1148; omega) (by omega) r1 70 rfl
  rw [e2, ob]
  obtain ⟨J3, e3, W3⟩ := w_num W2 (by show 0 + 2 + 2 ≤ 1148; omega) (by omega) r1 (v := a.1.1) (by omega) ((W2.2.2.2.2 _ _ (by omega) (by omega)).trans hP.1.1)
  rw [e3, ob]
  obtain ⟨J4, e4, W4⟩ := w_num W3 (by show 0 + 4 + 2 ≤ 1148; omega) (by omega) r1 (v := a.1.2) (by omega) ((W3.2.2.2.2 _ _ (by omega) (by omega)).trans hP.1.2.1)
  rw [e4, ob]
  obtain ⟨J5, e5, W5⟩ := w_byte W4 (by show 0 + 6 < 1148; omega) (by omega) r1 a.2.1.length ((W4.2.2.2.2 _ _ (by omega) (by omega)).trans hP.1.2.2.1)
  rw [e5, ob]
  obtain ⟨J6, e6, W6⟩ := w_head38 hQ hr hP ha (by omega) a.2.1.length 5000 0 J5 _ (by omega) (by omega) W5 (by show 0 + 7 + 2 * a.2.1.length + 1 ≤ 1148; omega)
  have e6 : d_P_putHead_38 oS 5000 J5 R r 1 0 = d_P_putHead_76 oS 5000 J6 R r 1 0 := e6
  rw [List.drop_zero] at W6
  have hl : ∀ (l : List Tl), (l.flatMap (fun t => two (ptrP a t))).length = 2 * l.length := by
    intro l
    induction l with
    | nil => rfl
    | cons s l ih => rw [List.flatMap_cons, List.length_append, ih, two_len, List.length_cons]; omega
  obtain ⟨J7, e7, W7⟩ := w_head76 hQ hr hP ha (by omega) a.2.2.length 5000 0 J6 _ (by omega) (by omega) W6 (by
    simp only [List.length_append, List.length_cons, List.length_nil, two_len, hl]
    omega)
  have e7 : d_P_putHead_76 oS 5000 J6 R r 1 0 = some J7 := e7
  rw [List.drop_zero] at W7
  have eH : [] ++ [76] ++ [70] ++ two a.1.1 ++ two a.1.2 ++ [a.2.1.length] ++ a.2.1.flatMap (fun t => two (ptrP a t)) ++ [a.2.2.length] ++ a.2.2.flatMap (fun n => two n.1 ++ two n.2.1 ++ [n.2.2]) = hdP a := by
    unfold hdP
    rw [List.nil_append]
  rw [eH] at W7
  exact ⟨J7, e6.trans e7, W7⟩
end KW
/-! the stream of a picture, in the order of its parts -/
theorem bef_iff {s t : Tl} : bef s t = true ↔ (s.1.2 < t.1.2 ∨ (s.1.2 = t.1.2 ∧ s.1.1 < t.1.1)) := decide_eq_true_iff
theorem bef_nf {s t : Tl} : bef s t = false ↔ ¬ (s.1.2 < t.1.2 ∨ (s.1.2 = t.1.2 ∧ s.1.1 < t.1.1)) := decide_eq_false_iff_not
theorem bef_or {W H : Nat} {s t : Tl} (hs : okT W H s) (ht : okT W H t) (h : apart s t) : bef s t = true ∨ bef t s = true := by
  obtain ⟨⟨a1, a2, a3, a4⟩, -⟩ := hs
  obtain ⟨⟨b1, b2, b3, b4⟩, -⟩ := ht
  rw [bef_iff, bef_iff]
  unfold apart at h
  omega
theorem sumB_bef {s t : Tl} {l : List Tl} (h : bef s t = true) (hs : s ∈ l) : sumB s l + psz s ≤ sumB t l := by
  have hle : ∀ l : List Tl, sumB s l ≤ sumB t l := by
    intro l
    induction l with
    | nil => exact Nat.le_refl _
    | cons x l ih =>
      have e1 : sumB s (x :: l) = (if bef x s then psz x else 0) + sumB s l := by unfold sumB; rw [List.map_cons, List.sum_cons]
      have e2 : sumB t (x :: l) = (if bef x t then psz x else 0) + sumB t l := by unfold sumB; rw [List.map_cons, List.sum_cons]
      have : (if bef x s then psz x else 0) ≤ (if bef x t then psz x else 0) := by
        by_cases z : bef x s = true
        · have z2 : bef x t = true := by rw [bef_iff] at *; omega
          rw [z, z2]
          exact Nat.le_refl _
        · rw [if_neg z]
          exact Nat.zero_le _
      omega
  induction l with
  | nil => cases hs
  | cons x l ih =>
    have e1 : sumB s (x :: l) = (if bef x s then psz x else 0) + sumB s l := by unfold sumB; rw [List.map_cons, List.sum_cons]
    have e2 : sumB t (x :: l) = (if bef x t then psz x else 0) + sumB t l := by unfold sumB; rw [List.map_cons, List.sum_cons]
    by_cases z : x = s
    · subst z
      rw [e1, e2, bef_self, h]
      have := hle l
      simp
      omega
    · have hm : s ∈ l := by
        rcases List.mem_cons.mp hs with w | w
        · exact absurd w.symm z
        · exact w
      have := ih hm
      have : (if bef x s then psz x else 0) ≤ (if bef x t then psz x else 0) := by
        by_cases z : bef x s = true
        · have z2 : bef x t = true := by rw [bef_iff] at *; omega
          rw [z, z2]
          exact Nat.le_refl _
        · rw [if_neg z]
          exact Nat.zero_le _
      omega
/-- the parts of two tiles lie apart in the stream -/
theorem ptr_apart {p : Pc} (hp : okP p) {i j : Nat} {s t : Tl} (hi : p.2.1[i]? = some s) (hj : p.2.1[j]? = some t) (hij : i ≠ j) : ptrP p s + psz s ≤ ptrP p t ∨ ptrP p t + psz t ≤ ptrP p s := by
  have hs := List.mem_of_getElem? hi
  have ht := List.mem_of_getElem? hj
  have hil : i < p.2.1.length := (List.getElem?_eq_some_iff.mp hi).1
  have hjl : j < p.2.1.length := (List.getElem?_eq_some_iff.mp hj).1
  have hap : apart s t := by
    have hpw := List.pairwise_iff_getElem.mp hp.2.2.2.2
    rw [List.getElem?_eq_getElem hil] at hi
    rw [List.getElem?_eq_getElem hjl] at hj
    rw [← Option.some.inj hi, ← Option.some.inj hj]
    rcases Nat.lt_or_ge i j with z | z
    · exact hpw i j hil hjl z
    · exact apart_symm (hpw j i hjl hil (by omega))
  rcases bef_or (hp.2.2.1 s hs) (hp.2.2.1 t ht) hap with z | z
  · have := sumB_bef z hs
    unfold ptrP
    omega
  · have := sumB_bef z ht
    unfold ptrP
    omega
def srt (p : Pc) : List Tl := p.2.1.mergeSort (fun s t => !bef t s)
theorem srt_perm (p : Pc) : (srt p).Perm p.2.1 := List.mergeSort_perm _ _
theorem srt_pw {p : Pc} (hp : okP p) : (srt p).Pairwise (fun s t => bef s t = true) := by
  have h1 : (srt p).Pairwise (fun s t => (!bef t s) = true) := List.pairwise_mergeSort (fun a b c h1 h2 => by
    simp only [Bool.not_eq_true'] at *
    rw [bef_nf] at *
    omega) (fun a b => by
    cases h : bef b a
    · rfl
    · have : bef a b = false := by rw [bef_iff] at h; rw [bef_nf]; omega
      rw [this]; rfl) _
  have h2 : (srt p).Pairwise apart := (srt_perm p).symm.pairwise hp.2.2.2.2 apart_symm
  refine List.Pairwise.imp_of_mem (fun {s t} hs ht h => ?_) (List.pairwise_and_iff.mpr ⟨h1, h2⟩)
  obtain ⟨z1, z2⟩ := h
  simp only [Bool.not_eq_true'] at z1
  rcases bef_or (hp.2.2.1 s ((srt_perm p).mem_iff.mp hs)) (hp.2.2.1 t ((srt_perm p).mem_iff.mp ht)) z2 with w | w
  · exact w
  · rw [z1] at w
    cases w
theorem ptr_srt {p : Pc} (hp : okP p) {L1 L2 : List Tl} {t : Tl} (h : srt p = L1 ++ t :: L2) : ptrP p t = baP p + (L1.map psz).sum := by
  have e : sumB t p.2.1 = sumB t (srt p) := by
    unfold sumB
    exact (List.Perm.map _ (srt_perm p).symm).sum_nat
  have hpw := srt_pw hp
  rw [h, List.pairwise_append, List.pairwise_cons] at hpw
  obtain ⟨-, ⟨h2, -⟩, h3⟩ := hpw
  have a1 : ∀ l : List Tl, (∀ s ∈ l, bef s t = true) → sumB t l = (l.map psz).sum := by
    intro l hl
    unfold sumB
    congr 1
    exact List.map_congr_left (fun s hs => by rw [hl s hs]; rfl)
  have a2 : ∀ l : List Tl, (∀ s ∈ l, bef s t = false) → sumB t l = 0 := by
    intro l hl
    unfold sumB
    induction l with
    | nil => rfl
    | cons x l ih =>
      rw [List.map_cons, List.sum_cons, ih (fun s hs => hl s (List.mem_cons_of_mem _ hs)), hl x List.mem_cons_self]
      rfl
  have e2 : sumB t (L1 ++ t :: L2) = sumB t L1 + (sumB t (t :: L2)) := by
    unfold sumB
    rw [List.map_append, List.sum_append]
  have b1 := a1 L1 (fun s hs => h3 s hs t List.mem_cons_self)
  have b2 := a2 (t :: L2) (fun s hs => by
    rcases List.mem_cons.mp hs with rfl | w
    · exact bef_self _
    · have := h2 s w
      rw [bef_iff] at this
      rw [bef_nf]
      omega)
  unfold ptrP
  rw [e, h, e2, b1, b2]
  omega
def sPre (p : Pc) (L : List Tl) : List Nat := hdP p ++ L.flatMap part
theorem sPre_len (p : Pc) (L : List Tl) : (sPre p L).length = baP p + (L.map psz).sum := by
  have e : ∀ L : List Tl, (L.flatMap part).length = (L.map psz).sum := by
    intro L
    induction L with
    | nil => rfl
    | cons t L ih => rw [List.flatMap_cons, List.length_append, ih, part_len, List.map_cons, List.sum_cons]
  unfold sPre
  rw [List.length_append, hdP_len, e]
theorem sPre_snoc (p : Pc) (L : List Tl) (t : Tl) : sPre p (L ++ [t]) = sPre p L ++ part t := by
  unfold sPre
  rw [List.flatMap_append, List.append_assoc]
  simp
theorem psz_pos (t : Tl) : 0 < psz t := by unfold psz; omega
/-- who stands at the stream's end is the next -/
theorem ptr_next {p : Pc} (hp : okP p) {L1 L2 : List Tl} (h : srt p = L1 ++ L2) {t : Tl} (ht : t ∈ p.2.1) (e : ptrP p t = (sPre p L1).length) : ∃ L3, L2 = t :: L3 := by
  rw [sPre_len] at e
  have hm : t ∈ L1 ++ L2 := by rw [← h]; exact (srt_perm p).mem_iff.mpr ht
  rcases List.mem_append.mp hm with z | z
  · obtain ⟨A, B, hAB⟩ := List.append_of_mem z
    have := ptr_srt hp (L1 := A) (L2 := B ++ L2) (t := t) (by rw [h, hAB]; simp)
    rw [hAB, List.map_append, List.sum_append, List.map_cons, List.sum_cons] at e
    have := psz_pos t
    omega
  · obtain ⟨A, B, hAB⟩ := List.append_of_mem z
    have h1 := ptr_srt hp (L1 := L1 ++ A) (L2 := B) (t := t) (by rw [h, hAB]; simp)
    rw [List.map_append, List.sum_append] at h1
    cases A with
    | nil => exact ⟨B, hAB⟩
    | cons x A =>
      rw [List.map_cons, List.sum_cons] at h1
      have := psz_pos x
      omega
theorem wIn_srt {p : Pc} (hp : okP p) (l : List Tl) (hl : ∀ t ∈ l, t ∈ p.2.1) : ∀ (L1 L2 : List Tl), srt p = L1 ++ L2 → ∃ M1 M2, srt p = M1 ++ M2 ∧ wIn p l (sPre p L1) = sPre p M1 ∧ L1.length ≤ M1.length ∧ ∀ t, L2.head? = some t → t ∈ l → L1.length + 1 ≤ M1.length := by
  induction l with
  | nil => exact fun L1 L2 h => ⟨L1, L2, h, rfl, Nat.le_refl _, fun t _ z => by cases z⟩
  | cons s l ih =>
    intro L1 L2 h
    have ew : wIn p (s :: l) (sPre p L1) = wIn p l (if ptrP p s = (sPre p L1).length then sPre p L1 ++ part s else sPre p L1) := rfl
    rw [ew]
    by_cases z : ptrP p s = (sPre p L1).length
    · obtain ⟨L3, rfl⟩ := ptr_next hp h (hl s List.mem_cons_self) z
      rw [if_pos z, ← sPre_snoc]
      obtain ⟨M1, M2, g1, g2, g3, -⟩ := ih (fun t ht => hl t (List.mem_cons_of_mem _ ht)) (L1 ++ [s]) L3 (by rw [h]; simp)
      rw [List.length_append] at g3
      exact ⟨M1, M2, g1, g2, by omega, fun t _ _ => g3⟩
    · rw [if_neg z]
      obtain ⟨M1, M2, g1, g2, g3, g4⟩ := ih (fun t ht => hl t (List.mem_cons_of_mem _ ht)) L1 L2 h
      refine ⟨M1, M2, g1, g2, g3, fun t ht htm => ?_⟩
      rcases List.mem_cons.mp htm with w | w
      · subst w
        exfalso
        apply z
        cases L2 with
        | nil => cases ht
        | cons x L2 =>
          have : x = t := by simpa using ht
          subst this
          rw [ptr_srt hp h, sPre_len]
      · exact g4 t ht w
theorem wOut_srt {p : Pc} (hp : okP p) : ∀ (n : Nat) (L1 L2 : List Tl), srt p = L1 ++ L2 → L2.length ≤ n → wOut p n (sPre p L1) = sPre p (srt p) := by
  intro n
  induction n with
  | zero =>
    intro L1 L2 h hl
    have : L2 = [] := List.length_eq_zero_iff.mp (by omega)
    subst this
    rw [List.append_nil] at h
    rw [h]
    rfl
  | succ n ih =>
    intro L1 L2 h hl
    obtain ⟨M1, M2, g1, g2, g3, g4⟩ := wIn_srt hp p.2.1 (fun t ht => ht) L1 L2 h
    have el : L1.length + L2.length = M1.length + M2.length := by
      have := congrArg List.length (h.symm.trans g1)
      rw [List.length_append, List.length_append] at this
      exact this
    show wOut p n (wIn p p.2.1 (sPre p L1)) = _
    rw [g2]
    refine ih M1 M2 g1 ?_
    cases L2 with
    | nil =>
      simp at el
      omega
    | cons x L2 =>
      have hx : x ∈ p.2.1 := (srt_perm p).mem_iff.mp (by rw [h]; simp)
      have := g4 x rfl hx
      rw [List.length_cons] at el hl
      omega
theorem wr_srt {p : Pc} (hp : okP p) : wrP p = sPre p (srt p) := by
  have := wOut_srt hp p.2.1.length [] (srt p) rfl (by rw [(srt_perm p).length_eq]; exact Nat.le_refl _)
  have e : sPre p [] = hdP p := by unfold sPre; simp
  rw [e] at this
  exact this
theorem wr_len {p : Pc} (hp : okP p) : (wrP p).length = totP p := by
  rw [wr_srt hp, sPre_len]
  unfold totP
  rw [(List.Perm.map psz (srt_perm p)).sum_nat]
/-- what holds of the head and of each part holds of the whole stream -/
theorem wr_all {p : Pc} (hp : okP p) (Q : Nat → Nat → Prop) (h1 : ∀ i c, (hdP p)[i]? = some c → Q i c) (h2 : ∀ t ∈ p.2.1, ∀ i c, (part t)[i]? = some c → Q (ptrP p t + i) c) : ∀ j c, (wrP p)[j]? = some c → Q j c := by
  have main : ∀ (n : Nat) (L1 L2 : List Tl), L1.length = n → srt p = L1 ++ L2 → ∀ j c, (sPre p L1)[j]? = some c → Q j c := by
    intro n
    induction n with
    | zero =>
      intro L1 L2 hl _ j c hj
      have : L1 = [] := List.length_eq_zero_iff.mp hl
      subst this
      have e : sPre p [] = hdP p := by unfold sPre; simp
      rw [e] at hj
      exact h1 j c hj
    | succ n ih =>
      intro L1 L2 hl h j c hj
      obtain ⟨M, t, rfl⟩ : ∃ M t, L1 = M ++ [t] := by
        refine ⟨L1.dropLast, L1.getLast (fun z => by rw [z] at hl; cases hl), (List.dropLast_concat_getLast _).symm⟩
      rw [sPre_snoc] at hj
      have h' : srt p = M ++ t :: L2 := by rw [h]; simp
      by_cases z : j < (sPre p M).length
      · rw [List.getElem?_append_left z] at hj
        exact ih M (t :: L2) (by rw [List.length_append] at hl; simpa using hl) h' j c hj
      · rw [List.getElem?_append_right (by omega)] at hj
        have e := ptr_srt hp h'
        have := h2 t ((srt_perm p).mem_iff.mp (by rw [h']; simp)) _ c hj
        rw [sPre_len] at this z
        rw [e, show baP p + (M.map psz).sum + (j - (baP p + (M.map psz).sum)) = j by omega] at this
        exact this
  rw [wr_srt hp]
  exact main _ (srt p) [] rfl (by rw [List.append_nil])
def lenK (p : Pc) (l : List Tl) : Nat := l.foldl (fun m t => max m (ptrP p t + psz t)) (baP p)
theorem lenK_snoc (p : Pc) (l : List Tl) (t : Tl) : lenK p (l ++ [t]) = max (lenK p l) (ptrP p t + psz t) := by
  unfold lenK
  rw [List.foldl_append]
  rfl
theorem lenK_all {p : Pc} (hp : okP p) : lenK p p.2.1 = totP p := by
  have up : ∀ (l : List Tl) (m : Nat), (∀ t ∈ l, t ∈ p.2.1) → m ≤ totP p → l.foldl (fun m t => max m (ptrP p t + psz t)) m ≤ totP p := by
    intro l
    induction l with
    | nil => exact fun m _ h => h
    | cons t l ih => exact fun m h1 h2 => ih _ (fun s hs => h1 s (List.mem_cons_of_mem _ hs)) (by have := ptr_le (h1 t List.mem_cons_self); show max m (ptrP p t + psz t) ≤ totP p; omega)
  have mono : ∀ (l : List Tl) (m : Nat), m ≤ l.foldl (fun m t => max m (ptrP p t + psz t)) m := by
    intro l
    induction l with
    | nil => exact fun m => Nat.le_refl _
    | cons t l ih => exact fun m => Nat.le_trans (Nat.le_max_left m (ptrP p t + psz t)) (ih _)
  have lo : ∀ (l : List Tl) (m : Nat) (t : Tl), t ∈ l → ptrP p t + psz t ≤ l.foldl (fun m t => max m (ptrP p t + psz t)) m := by
    intro l
    induction l with
    | nil => exact fun m t h => by cases h
    | cons x l ih =>
      intro m t h
      rcases List.mem_cons.mp h with rfl | w
      · exact Nat.le_trans (Nat.le_max_right m (ptrP p t + psz t)) (mono _ _)
      · exact ih _ t w
  have h1 : lenK p p.2.1 ≤ totP p := up _ _ (fun t h => h) (by unfold totP; omega)
  have h2 : totP p ≤ lenK p p.2.1 := by
    rw [← wr_len hp, wr_srt hp, sPre_len]
    by_cases z : srt p = []
    · rw [z]
      exact mono p.2.1 (baP p)
    · obtain ⟨M, t, h⟩ : ∃ M t, srt p = M ++ [t] := ⟨(srt p).dropLast, (srt p).getLast z, (List.dropLast_concat_getLast _).symm⟩
      have e := ptr_srt hp (L1 := M) (L2 := []) (t := t) h
      have := lo p.2.1 (baP p) t ((srt_perm p).mem_iff.mp (by rw [h]; simp))
      rw [h, List.map_append, List.sum_append]
      simp
      unfold lenK
      omega
  omega
/-! the class: write -/
theorem lenK_le {p : Pc} (l : List Tl) (hl : ∀ t ∈ l, t ∈ p.2.1) : lenK p l ≤ totP p := by
  have up : ∀ (l : List Tl) (m : Nat), (∀ t ∈ l, t ∈ p.2.1) → m ≤ totP p → l.foldl (fun m t => max m (ptrP p t + psz t)) m ≤ totP p := by
    intro l
    induction l with
    | nil => exact fun m _ h => h
    | cons t l ih => exact fun m h1 h2 => ih _ (fun s hs => h1 s (List.mem_cons_of_mem _ hs)) (by have := ptr_le (h1 t List.mem_cons_self); show max m (ptrP p t + psz t) ≤ totP p; omega)
  exact up l _ hl (by unfold totP; omega)
def Has (J : ax_I) (pl : Nat) (l : List Nat) : Prop := ∀ i c, l[i]? = some c → J 2 (pl + i) = nI c
section KW2
variable {I J J0 : ax_I} {R : ax_R} {f g : Nat → Nat → Nat} {p q r fw fh since pl ln : Nat} {a a' b : Pc} {st l : List Nat}
theorem w_loop (hQ : KQ R f g p q) (hP : KP I f g p a) (ha : okP a) : ∀ (m n k : Nat) (J : ax_I), k + m = a.2.1.length → m < n → J 1 1 = nI (lenK a (a.2.1.take k)) → Has J 0 (hdP a) → (∀ j t, j < k → a.2.1[j]? = some t → Has J (ptrP a t) (part t)) → (∀ i m, i ≠ 1 → i ≠ 2 → J i m = I i m) → ∃ J', d_K_write_20 oS n J R 0 (nI k) = some (nI (totP a), J') ∧ J' 1 1 = nI (totP a) ∧ Has J' 0 (hdP a) ∧ (∀ (j : Nat) (t : Tl), a.2.1[j]? = some t → Has J' (ptrP a t) (part t)) ∧ ∀ i m, i ≠ 1 → i ≠ 2 → J' i m = I i m := by
  have l40 := ha.2.1.1
  have tl := tot_le ha
  obtain ⟨pp, pq, hne⟩ := KQ_P hQ
  have rp := P_r pp
  intro m
  induction m with
  | zero =>
    intro n k J hk hn' h1 hH hA hF
    obtain ⟨n, rfl⟩ : ∃ n', n = n' + 1 := ⟨n - 1, by omega⟩
    have hk : k = a.2.1.length := by omega
    subst hk
    rw [List.take_length, lenK_all ha] at h1
    rw [d_K_write_20, hQ.2.1.1, ob, hF p 2 (by omega) (by omega), hP.1.2.2.1, if_pos (nI_le (Nat.le_refl _) (by omega)), hQ.2.1.2.2.1, ob, h1]
    exact ⟨J, rfl, h1, hH, fun j t hj => hA j t (List.getElem?_eq_some_iff.mp hj).1 hj, hF⟩
  | succ m ih =>
    intro n k J hk hn' h1 hH hA hF
    obtain ⟨n, rfl⟩ : ∃ n', n = n' + 1 := ⟨n - 1, by omega⟩
    have hlt : k < a.2.1.length := by omega
    obtain ⟨t, ht⟩ : ∃ t, a.2.1[k]? = some t := ⟨_, List.getElem?_eq_getElem hlt⟩
    have hp := ptr_le (List.mem_of_getElem? ht)
    have hlk := lenK_le (p := a) (a.2.1.take k) (fun t ht => List.mem_of_mem_take ht)
    have hPJ : KP J f g p a := Wr_KP hQ pp ha hP hF
    have hF0 : ∀ i m, i ≠ 1 → i ≠ 2 → ax_up J 1 2 (nI (ptrP a t)) i m = I i m := fun i m z1 z2 => (ax_up_ne (by omega)).trans (hF i m z1 z2)
    obtain ⟨J1, e1, W1⟩ := w_part hQ pp (Wr_KP hQ pp ha hP hF0) ha ht (ax_up_self _ _ _ _) ((ax_up_ne (by omega)).trans h1) (by omega) (by omega)
    rw [d_K_write_20, hQ.2.1.1, ob, hF p 2 (by omega) (by omega), hP.1.2.2.1, if_neg (nI_ge hlt (by omega)), ob, (hQ.2.2.1 p pp).1, ob, kxT pp (by omega), ob, (hQ.2.2.2.1 p k pp (by omega)).1, ob, hQ.2.1.2.2.1, ob, ob, k_ptr hQ pp hPJ ha ht, ob]
    unfold d_S_goTo
    rw [ob, ob, ob, e1, ob, nI_1]
    obtain ⟨w1, w2, w3, w4, w5⟩ := W1
    rw [part_len] at w1 w2 w4
    have keep : ∀ pl l, (pl + l.length ≤ ptrP a t ∨ ptrP a t + psz t ≤ pl) → Has J pl l → Has J1 pl l := by
      intro pl l hd hh i c hi
      have hil : i < l.length := (List.getElem?_eq_some_iff.mp hi).1
      rw [w4 _ (by omega), ax_up_ne (by omega)]
      exact hh i c hi
    refine ih n (k + 1) J1 (by omega) (by omega) ?_ (keep _ _ (Or.inl ?_) hH) (fun j s hj hs => ?_) (fun i m z1 z2 => (w5 i m z1 z2).trans (hF0 i m z1 z2))
    · rw [w2, take_succ_f ht, lenK_snoc]
      unfold mxL
      rw [if_neg (by have := psz_pos t; omega)]
    · rw [hdP_len]
      unfold ptrP
      omega
    · by_cases ej : j = k
      · subst ej
        rw [ht] at hs
        rw [← Option.some.inj hs]
        exact w3
      · refine keep _ _ ?_ (hA j s (by omega) hs)
        rw [part_len]
        exact ptr_apart ha hs ht ej
theorem K_write (hK : KR I R f g p q a b fw fh since st) (ha : okP a) (hb : okP b) : ∃ J, d_K_write oS I R 0 = some (nI (wrP a).length, J) ∧ KR J R f g p q a b fw fh since (wrP a) ∧ hiI I J := by
  obtain ⟨hQ, hP, hP2, k3, k4, k5, k6, k7⟩ := hK
  obtain ⟨pp, pq, hne⟩ := KQ_P hQ
  have tl := tot_le ha
  have l := ha.2.1
  obtain ⟨I1, hI1⟩ : ∃ I1, I1 = ax_up (ax_up I 1 1 0) 1 2 0 := ⟨_, rfl⟩
  have f1 : ∀ i m, i ≠ 1 → i ≠ 2 → I1 i m = I i m := fun i m z1 z2 => by rw [hI1, ax_up_ne (by omega), ax_up_ne (by omega)]
  obtain ⟨J1, e1, w1, w2, w3, w4, w5⟩ := w_head hQ pp (Wr_KP hQ pp ha hP f1) ha (by rw [hI1, ax_up_self]; rfl) (by rw [hI1, ax_up_ne (by omega), ax_up_self]; rfl)
  have hb0 : 0 < baP a := by unfold baP; omega
  obtain ⟨J2, e2, h1, h2, h3, h4⟩ := w_loop hQ hP ha a.2.1.length 5000 0 J1 (by omega) (by omega) (by
    rw [w2, hdP_len]
    unfold mxL
    rw [if_neg (by omega)]
    congr 1
    show max 0 (0 + baP a) = baP a
    omega) w3 (fun j t hj => by omega) (fun i m z1 z2 => (w5 i m z1 z2).trans (f1 i m z1 z2))
  have e2 : d_K_write_20 oS 5000 J1 R 0 0 = some (nI (totP a), J2) := e2
  unfold d_K_write d_S_empty
  rw [hQ.2.1.2.2.1, ob, ob, ob, ob, hQ.2.1.1, ob, ob, ← hI1, e1, ob, e2, wr_len ha]
  refine ⟨J2, rfl, ⟨hQ, Wr_KP hQ pp ha hP h4, Wr_KP hQ pq hb hP2 h4, (h4 _ _ (by omega) (by omega)).trans k3, (h4 _ _ (by omega) (by omega)).trans k4, (h4 _ _ (by omega) (by omega)).trans k5, ?_, ?_⟩, fun i m z => h4 _ _ (by omega) (by omega)⟩
  · rw [wr_len ha]
    exact h1
  · refine wr_all ha (fun j c => J2 2 j = nI c) (fun i c hi => ?_) (fun t ht i c hi => ?_)
    · have := h2 i c hi
      rw [Nat.zero_add] at this
      exact this
    · obtain ⟨j, hj, hjt⟩ := List.getElem_of_mem ht
      exact h3 j t (by rw [List.getElem?_eq_getElem hj, hjt]) i c hi
end KW2
/-! both sides, call by call -/
def Sm (I : ax_I) (R : ax_R) : Prop := mOk oS R ∧ ax_typ oS R ∧ ∃ f g p q now a b fw fh since st, KR I R f g p q a b fw fh since st ∧ MR I now a b fw fh since st ∧ okP a ∧ okP b ∧ (since < 8 ∧ st.length ≤ 1148) ∧ (1 ≤ fw ∧ fw ≤ 200 ∧ 1 ≤ fh ∧ fh ≤ 200)
theorem mOk_R {R R' : ax_R} (h : mOk oS R) (e : ∀ i k, 210 ≤ i → R' i k = R i k) : mOk oS R' := ⟨h.1, fun n hn => ⟨(e _ _ (by omega)).trans (h.2 n hn).1, (h.2 n hn).2⟩⟩
theorem low_rfl (I : ax_I) : low I I := fun _ _ _ => rfl
section SIM
variable {I J : ax_I} {R : ax_R} {f g : Nat → Nat → Nat} {p q now fw fh since : Nat} {a b : Pc} {st : List Nat}
theorem sm_M {r : Option (Int32 × ax_I)} {code : Nat} {ans : Int32} (hR : mOk oS R) (hty : ax_typ oS R) (hK : KR J R f g p q a b fw fh since st) (oa : okP a) (ob' : okP b) (hs : since < 8 ∧ st.length ≤ 1148) (hw : 1 ≤ fw ∧ fw ≤ 200 ∧ 1 ≤ fh ∧ fh ≤ 200) (hm : mAns r code ans (fun J2 => MR J2 now a b fw fh since st)) (hf : frG Prod.snd J r) : ∃ v J2, r = some (v, J2) ∧ J2 210 0 = nI code ∧ (code = 0 → v = ans) ∧ Sm J2 R := by
  obtain ⟨v, J2, e, c, h0, hM⟩ := hm
  exact ⟨v, J2, e, c, h0, hR, hty, f, g, p, q, now, a, b, fw, fh, since, st, KR_far hK oa ob' (hf _ e), hM, oa, ob', hs, hw⟩
/-- a call of both: the class's outcome o and cells J, R', the reference's v and J2 -/
def sRes (k : Option ((Int32 ⊕ String) × ax_I)) (hc : (Int32 ⊕ String) → Option Int32) (m : ax_I → Option (Int32 × ax_I)) (R : ax_R) : Prop := ∃ o J v J2 code, k = some (o, J) ∧ hc o = some (nI code) ∧ code < 4 ∧ m J = some (v, J2) ∧ J2 210 0 = nI code ∧ (code = 0 → o = .inl v) ∧ Sm J2 R
def sResQ (k : Option (Int32 ⊕ String)) (hc : (Int32 ⊕ String) → Option Int32) (m : Option (Int32 × ax_I)) (R : ax_R) : Prop := ∃ o v J2 code, k = some o ∧ hc o = some (nI code) ∧ code < 4 ∧ m = some (v, J2) ∧ J2 210 0 = nI code ∧ (code = 0 → o = .inl v) ∧ Sm J2 R
def sResR (k : Option ((Int32 ⊕ String) × ax_I × ax_R)) (hc : (Int32 ⊕ String) → Option Int32) (m : ax_I → ax_R → Option (Int32 × ax_I)) : Prop := ∃ o J R' v J2 code, k = some (o, J, R') ∧ hc o = some (nI code) ∧ code < 4 ∧ m J R' = some (v, J2) ∧ J2 210 0 = nI code ∧ (code = 0 → o = .inl v) ∧ Sm J2 R'
theorem s_tile (h : Sm I R) (x y w h' : Int32) : sRes (d_K_tile oS I R 0 x y w h') hc_tile (fun J => d_M_tile oS J R 210 x y w h') R := by
  obtain ⟨hR, hty, f, g, p, q, now, a, b, fw, fh, since, st, hK, hM, oa, ob', hs, hw⟩ := h
  have oW := oa.1
  have fr : ∀ J, frG Prod.snd J (d_M_tile oS J R 210 x y w h') := fun J => f_M_tile hR J _ _ _ _ (low_rfl J)
  by_cases z : 64 < w ∨ 64 < h' ∨ noRect a.1.1 a.1.2 x y w h'
  · obtain ⟨v, J2, e, c, h0, hS⟩ := sm_M hR hty hK oa ob' hs hw (M_tile_bad hR hM z) (fr I)
    exact ⟨_, I, v, J2, 1, K_tile_bad hK z, rfl, by omega, e, c, fun z => (by cases z), hS⟩
  obtain ⟨x', y', w', h2, ⟨rfl, rfl, rfl, rfl⟩, w1, h1, hx, hy⟩ := rect_of oW.2.1 oW.2.2.2 (fun y => z (Or.inr (Or.inr y)))
  have w2 : w' ≤ 64 := by
    rcases Nat.lt_or_ge 64 w' with u | u
    · exact absurd (Or.inl (nI_lt (a := 64) u (by omega))) z
    · exact u
  have h3 : h2 ≤ 64 := by
    rcases Nat.lt_or_ge 64 h2 with u | u
    · exact absurd (Or.inr (Or.inl (nI_lt (a := 64) u (by omega)))) z
    · exact u
  obtain ⟨k1, k2⟩ := K_tile hK oa ob' w1 w2 h1 h3 hx hy
  obtain ⟨m1, m2⟩ := M_tile hR hM oa ob' w1 w2 h1 h3 hx hy
  by_cases ap : ∀ t ∈ a.2.1, apart ((x', y'), (w', h2), 0, []) t
  · rcases Nat.lt_or_ge a.2.1.length 40 with l | l
    · obtain ⟨J, e1, e2, e3⟩ := (k2 ap).2 l
      obtain ⟨n1, n2⟩ := M_tile hR (MR_far hM e3) oa ob' w1 w2 h1 h3 hx hy
      have oT : okT a.1.1 a.1.2 ((x', y'), (w', h2), 0, []) := ⟨⟨w1, w2, h1, h3⟩, ⟨hx, hy⟩, Nat.zero_lt_succ _, Nat.zero_le _, fun c hc => by cases hc⟩
      obtain ⟨v, J2, e, c, h0, hS⟩ := sm_M hR hty e2 (okP_addT oa oT l ap) ob' hs hw ((n2 ap).2 l) (fr J)
      exact ⟨_, J, v, J2, 0, e1, rfl, by omega, e, c, fun z => by rw [h0 rfl], hS⟩
    · have l : a.2.1.length = 40 := by have := oa.2.1.1; omega
      obtain ⟨v, J2, e, c, h0, hS⟩ := sm_M hR hty hK oa ob' hs hw ((m2 ap).1 l) (fr I)
      exact ⟨_, I, v, J2, 3, (k2 ap).1 l, rfl, by omega, e, c, fun z => (by cases z), hS⟩
  · obtain ⟨v, J2, e, c, h0, hS⟩ := sm_M hR hty hK oa ob' hs hw (m1 ap) (fr I)
    exact ⟨_, I, v, J2, 2, k1 ap, rfl, by omega, e, c, fun z => (by cases z), hS⟩
theorem ix_get {α : Type} {l : List α} {x : Int32} (hl : l.length < 2 ^ 31) (z : ¬ noIx l.length x) : ∃ k t, l[k]? = some t ∧ x = nI k := by
  obtain ⟨k, hk, e⟩ := idx_of hl (fun y => z (Or.inl y)) (fun y => z (Or.inr y))
  exact ⟨k, _, List.getElem?_eq_getElem hk, e⟩
theorem by_get {y : Int32} (z : ¬ (y < 0 ∨ 255 < y)) : ∃ c, c < 256 ∧ y = nI c := by
  obtain ⟨c, hc, rfl⟩ := nI_of (fun w => z (Or.inl w))
  refine ⟨c, ?_, rfl⟩
  rcases Nat.lt_or_ge c 256 with u | u
  · exact u
  · exact absurd (Or.inr (nI_lt (a := 255) (by omega) hc)) z
theorem s_byteOf (h : Sm I R) (x y : Int32) : sRes (d_K_byteOf oS I R 0 x y) hc_byteOf (fun J => d_M_byteOf oS J R 210 x y) R := by
  obtain ⟨hR, hty, f, g, p, q, now, a, b, fw, fh, since, st, hK, hM, oa, ob', hs, hw⟩ := h
  have fr : ∀ J, frG Prod.snd J (d_M_byteOf oS J R 210 x y) := fun J => f_M_byteOf hR J _ _ (low_rfl J)
  obtain ⟨k1, k2⟩ := K_byteOf hK oa ob' x y
  obtain ⟨m1, m2⟩ := M_byteOf hR hM oa ob' x y
  by_cases z : noIx a.2.1.length x
  · obtain ⟨v, J2, e, c, h0, hS⟩ := sm_M hR hty hK oa ob' hs hw (m1 z) (fr I)
    exact ⟨_, I, v, J2, 1, k1 z, rfl, by omega, e, c, fun z => (by cases z), hS⟩
  obtain ⟨k, t, hk, hx⟩ := ix_get (by have := oa.2.1.1; omega) z
  by_cases z2 : y < 0 ∨ 255 < y
  · obtain ⟨v, J2, e, c, h0, hS⟩ := sm_M hR hty hK oa ob' hs hw ((m2 k t hk hx).1 z2) (fr I)
    exact ⟨_, I, v, J2, 2, (k2 k t hk hx).1 z2, rfl, by omega, e, c, fun z => (by cases z), hS⟩
  obtain ⟨c, hc, hy⟩ := by_get z2
  have hb := (oa.2.2.1 t (List.mem_of_getElem? hk)).2.2.2.1
  rcases Nat.lt_or_ge t.2.2.2.length 12 with l | l
  · obtain ⟨J, e1, e2, e3⟩ := ((k2 k t hk hx).2 c hc hy).2 l
    obtain ⟨-, n2⟩ := M_byteOf hR (MR_far hM e3) oa ob' x y
    obtain ⟨v, J2, e, c', h0, hS⟩ := sm_M hR hty e2 (okP_byt oa hk l hc) ob' hs hw (((n2 k t hk hx).2 c hc hy).2 l) (fr J)
    exact ⟨_, J, v, J2, 0, e1, rfl, by omega, e, c', fun z => by rw [h0 rfl], hS⟩
  · have l : t.2.2.2.length = 12 := by omega
    obtain ⟨v, J2, e, c', h0, hS⟩ := sm_M hR hty hK oa ob' hs hw (((m2 k t hk hx).2 c hc hy).1 l) (fr I)
    exact ⟨_, I, v, J2, 3, ((k2 k t hk hx).2 c hc hy).1 l, rfl, by omega, e, c', fun z => (by cases z), hS⟩
theorem s_note (h : Sm I R) (x y z : Int32) : sRes (d_K_note oS I R 0 x y z) hc_note (fun J => d_M_note oS J R 210 x y z) R := by
  obtain ⟨hR, hty, f, g, p, q, now, a, b, fw, fh, since, st, hK, hM, oa, ob', hs, hw⟩ := h
  have fr : ∀ J, frG Prod.snd J (d_M_note oS J R 210 x y z) := fun J => f_M_note hR J _ _ _ (low_rfl J)
  have oW := oa.1
  obtain ⟨k1, k2⟩ := K_note hK oa ob' x y z
  obtain ⟨m1, m2⟩ := M_note hR hM oa ob' x y z
  by_cases z1 : noIx a.1.1 x ∨ noIx a.1.2 y
  · obtain ⟨v, J2, e, c, h0, hS⟩ := sm_M hR hty hK oa ob' hs hw (m1 z1) (fr I)
    exact ⟨_, I, v, J2, 1, k1 z1, rfl, by omega, e, c, fun z => (by cases z), hS⟩
  by_cases z2 : z < 0 ∨ 255 < z
  · obtain ⟨v, J2, e, c, h0, hS⟩ := sm_M hR hty hK oa ob' hs hw ((m2 z1).1 z2) (fr I)
    exact ⟨_, I, v, J2, 2, (k2 z1).1 z2, rfl, by omega, e, c, fun z => (by cases z), hS⟩
  obtain ⟨c, hc, hz⟩ := by_get z2
  rcases Nat.lt_or_ge a.2.2.length 20 with l | l
  · obtain ⟨x', hx', hx⟩ := idx_of (n := a.1.1) (by omega) (fun w => z1 (Or.inl (Or.inl w))) (fun w => z1 (Or.inl (Or.inr w)))
    obtain ⟨y', hy', hy⟩ := idx_of (n := a.1.2) (by omega) (fun w => z1 (Or.inr (Or.inl w))) (fun w => z1 (Or.inr (Or.inr w)))
    obtain ⟨J, e1, e2, e3⟩ := ((k2 z1).2 c hc hz).2 l x' y' hx hy
    obtain ⟨-, n2⟩ := M_note hR (MR_far hM e3) oa ob' x y z
    obtain ⟨v, J2, e, c', h0, hS⟩ := sm_M hR hty e2 (okP_addN oa (n := (x', y', c)) ⟨hx', hy', hc⟩ l) ob' hs hw (((n2 z1).2 c hc hz).2 l x' y' hx hy) (fr J)
    exact ⟨_, J, v, J2, 0, e1, rfl, by omega, e, c', fun z => by rw [h0 rfl], hS⟩
  · have l : a.2.2.length = 20 := by have := oa.2.1.2; omega
    obtain ⟨v, J2, e, c', h0, hS⟩ := sm_M hR hty hK oa ob' hs hw (((m2 z1).2 c hc hz).1 l) (fr I)
    exact ⟨_, I, v, J2, 3, ((k2 z1).2 c hc hz).1 l, rfl, by omega, e, c', fun z => (by cases z), hS⟩
theorem s_crop (h : Sm I R) (x y w h' : Int32) : sResR (d_K_crop oS I R 0 x y w h') hc_crop (fun J R' => d_M_crop oS J R' 210 x y w h') := by
  obtain ⟨hR, hty, f, g, p, q, now, a, b, fw, fh, since, st, hK, hM, oa, ob', hs, hw⟩ := h
  have oW := oa.1
  have fr : ∀ J R', mOk oS R' → frG Prod.snd J (d_M_crop oS J R' 210 x y w h') := fun J R' hR' => f_M_crop hR' J _ _ _ _ (low_rfl J)
  obtain ⟨k1, k2⟩ := K_crop hK oa ob' x y w h'
  by_cases z : noRect a.1.1 a.1.2 x y w h'
  · obtain ⟨J, e1, e2, e3⟩ := k1 z
    obtain ⟨v, J2, e, c, h0, hS⟩ := sm_M hR hty e2 oa ob' hs hw ((M_crop hR (MR_far hM e3) oa ob' x y w h').1 z) (fr J R hR)
    exact ⟨_, J, R, v, J2, 1, e1, rfl, by omega, e, c, fun z => (by cases z), hS⟩
  obtain ⟨x', y', w', h2, ⟨ex, ey, ew, eh⟩, w1, h1, hx, hy⟩ := rect_of oW.2.1 oW.2.2.2 z
  cases hf : fitA a x' y' w' h2 with
  | false =>
    obtain ⟨J, e1, e2, e3⟩ := (k2 x' y' w' h2 ex ey ew eh w1 h1 hx hy).1 hf
    obtain ⟨v, J2, e, c, h0, hS⟩ := sm_M hR hty e2 oa ob' hs hw (((M_crop hR (MR_far hM e3) oa ob' x y w h').2 x' y' w' h2 ex ey ew eh w1 h1 hx hy).1 hf) (fr J R hR)
    exact ⟨_, J, R, v, J2, 0, e1, rfl, by omega, e, c, fun z => by rw [h0 rfl], hS⟩
  | true =>
    obtain ⟨J, R', f', g', e1, e2, e3, e4⟩ := (k2 x' y' w' h2 ex ey ew eh w1 h1 hx hy).2 hf
    have hR' := mOk_R hR e4
    obtain ⟨v, J2, e, c, h0, hS⟩ := sm_M hR' (t_K_crop hty oS_0 e1) e2 (okP_crop oa w1 h1 hx hy) ob' hs hw (((M_crop hR' (MR_far hM e3) oa ob' x y w h').2 x' y' w' h2 ex ey ew eh w1 h1 hx hy).2 hf) (fr J R' hR')
    exact ⟨_, J, R', v, J2, 0, e1, rfl, by omega, e, c, fun z => by rw [h0 rfl], hS⟩
/-- near: no more than that both come to an end -/
theorem s_near (h : Sm I R) (x : Int32) : ∃ o k v J2, d_K_near oS I R 0 x = some o ∧ hc_near o = some k ∧ d_M_near oS I R 210 x = some (v, J2) ∧ Sm J2 R := by
  obtain ⟨hR, hty, f, g, p, q, now, a, b, fw, fh, since, st, hK, hM, oa, ob', hs, hw⟩ := h
  obtain ⟨o, e1, e2⟩ := K_near hK oa x
  obtain ⟨v, J2, e3, e4⟩ := M_near hR hM x
  have fr : frG Prod.snd I (d_M_near oS I R 210 x) := f_M_near hR I _ (low_rfl I)
  have hS : Sm J2 R := ⟨hR, hty, f, g, p, q, now, a, b, fw, fh, since, st, KR_far hK oa ob' (fr _ e3), e4, oa, ob', hs, hw⟩
  rcases e2 with ⟨u, rfl⟩ | rfl | rfl
  · exact ⟨_, 0, v, J2, e1, rfl, e3, hS⟩
  · exact ⟨_, 1, v, J2, e1, rfl, e3, hS⟩
  · exact ⟨_, 2, v, J2, e1, rfl, e3, hS⟩
theorem wy_get {x : Int32} (z : ¬ (x < 0 ∨ 7 < x)) : ∃ v, v < 8 ∧ x = nI v := by
  obtain ⟨c, hc, rfl⟩ := nI_of (fun w => z (Or.inl w))
  refine ⟨c, ?_, rfl⟩
  rcases Nat.lt_or_ge c 8 with u | u
  · exact u
  · exact absurd (Or.inr (nI_lt (a := 7) (by omega) hc)) z
theorem sd_get {x : Int32} (z : ¬ (x < 0 ∨ 3 < x)) : ∃ v, v < 4 ∧ x = nI v := by
  obtain ⟨c, hc, rfl⟩ := nI_of (fun w => z (Or.inl w))
  refine ⟨c, ?_, rfl⟩
  rcases Nat.lt_or_ge c 4 with u | u
  · exact u
  · exact absurd (Or.inr (nI_lt (a := 3) (by omega) hc)) z
theorem s_turn (h : Sm I R) (x : Int32) : sRes (d_K_turn oS I R 0 x) hc_turn (fun J => d_M_turn oS J R 210 x) R := by
  obtain ⟨hR, hty, f, g, p, q, now, a, b, fw, fh, since, st, hK, hM, oa, ob', hs, hw⟩ := h
  have fr : ∀ J, frG Prod.snd J (d_M_turn oS J R 210 x) := fun J => f_M_turn hR J _ (low_rfl J)
  obtain ⟨k1, k2⟩ := K_turn hK oa ob' hs.1 x
  by_cases z : x < 0 ∨ 7 < x
  · obtain ⟨v, J2, e, c, h0, hS⟩ := sm_M hR hty hK oa ob' hs hw ((M_turn hR hM oa ob' hs.1 x).1 z) (fr I)
    exact ⟨_, I, v, J2, 1, k1 z, rfl, by omega, e, c, fun z => (by cases z), hS⟩
  obtain ⟨w, hw8, hx⟩ := wy_get z
  obtain ⟨J, e1, e2, e3⟩ := k2 w hw8 hx
  obtain ⟨v, J2, e, c, h0, hS⟩ := sm_M hR hty e2 (okP_turn oa hw8) ob' ⟨tog_lt ⟨since, hs.1⟩ ⟨w, hw8⟩, hs.2⟩ hw ((M_turn hR (MR_far hM e3) oa ob' hs.1 x).2 w hw8 hx) (fr J)
  exact ⟨_, J, v, J2, 0, e1, rfl, by omega, e, c, fun z => by rw [h0 rfl], hS⟩
theorem s_swap (h : Sm I R) : ∃ v J R' J2, d_K_swap oS I R 0 = some (v, J, R') ∧ d_M_swap oS J R' 210 = some (v, J2) ∧ Sm J2 R' := by
  obtain ⟨hR, hty, f, g, p, q, now, a, b, fw, fh, since, st, hK, hM, oa, ob', hs, hw⟩ := h
  obtain ⟨J, R', e1, e2, e3, e4⟩ := K_swap hK oa ob'
  have hR' : mOk oS R' := ⟨hR.1, fun n hn => ⟨(e4 _).trans (hR.2 n hn).1, (hR.2 n hn).2⟩⟩
  obtain ⟨v, J2, e, c, h0, hS⟩ := sm_M hR' (t_K_swap hty oS_0 e1) e2 ob' oa ⟨by omega, hs.2⟩ hw (M_swap hR' (MR_far hM e3)) (f_M_swap hR' J (low_rfl J))
  rw [h0 rfl] at e
  exact ⟨_, J, R', J2, e1, e, hS⟩
theorem s_join (h : Sm I R) (x : Int32) : sResR (d_K_join oS I R 0 x) hc_join (fun J R' => d_M_join oS J R' 210 x) := by
  obtain ⟨hR, hty, f, g, p, q, now, a, b, fw, fh, since, st, hK, hM, oa, ob', hs, hw⟩ := h
  have fr : ∀ J R', mOk oS R' → frG Prod.snd J (d_M_join oS J R' 210 x) := fun J R' hR' => f_M_join hR' J _ (low_rfl J)
  obtain ⟨k1, k2⟩ := K_join hK oa ob' x
  by_cases z : x < 0 ∨ 3 < x
  · obtain ⟨v, J2, e, c, h0, hS⟩ := sm_M hR hty hK oa ob' hs hw ((M_join hR hM oa ob' x).1 z) (fr I R hR)
    exact ⟨_, I, R, v, J2, 1, k1 z, rfl, by omega, e, c, fun z => (by cases z), hS⟩
  obtain ⟨s, hs4, hx⟩ := sd_get z
  obtain ⟨j1, j2⟩ := k2 s hs4 hx
  obtain ⟨m1, m2⟩ := (M_join hR hM oa ob' x).2 s hs4 hx
  cases ha : alP a b (decide (s % 2 = 0)) with
  | false =>
    obtain ⟨v, J2, e, c, h0, hS⟩ := sm_M hR hty hK oa ob' hs hw (m1 ha) (fr I R hR)
    exact ⟨_, I, R, v, J2, 2, j1 ha, rfl, by omega, e, c, fun z => (by cases z), hS⟩
  | true =>
    cases hr : roP a b (decide (s % 2 = 0)) with
    | false =>
      obtain ⟨v, J2, e, c, h0, hS⟩ := sm_M hR hty hK oa ob' hs hw ((m2 ha).1 hr) (fr I R hR)
      exact ⟨_, I, R, v, J2, 3, (j2 ha).1 hr, rfl, by omega, e, c, fun z => (by cases z), hS⟩
    | true =>
      obtain ⟨J, R', f', g', e1, e2, e3, e4⟩ := (j2 ha).2 hr
      have hR' := mOk_R hR e4
      have yr := of_decide_eq_true hr
      have oJ : okP (joinP a b s) := okP_join oa ob' hs4 (by
        unfold alP at ha
        by_cases zz : s % 2 = 0
        · rw [if_pos zz]; simpa [zz] using ha
        · rw [if_neg zz]; simpa [zz] using ha) (by
        have := yr.1
        unfold smP at this
        by_cases zz : s % 2 = 0
        · rw [if_pos zz]; simpa [zz] using this
        · rw [if_neg zz]; simpa [zz] using this) yr.2.1 yr.2.2
      obtain ⟨v, J2, e, c, h0, hS⟩ := sm_M hR' (t_K_join hty oS_0 e1) e2 oJ (okP_em ob') ⟨by omega, hs.2⟩ hw ((((M_join hR' (MR_far hM e3) oa ob' x).2 s hs4 hx).2 ha).2 hr) (fr J R' hR')
      exact ⟨_, J, R', v, J2, 0, e1, rfl, by omega, e, c, fun z => by rw [h0 rfl], hS⟩
theorem s_at (h : Sm I R) (x y : Int32) : sResQ (d_K_at oS I R 0 x y) hc_at (d_M_at oS I R 210 x y) R := by
  obtain ⟨hR, hty, f, g, p, q, now, a, b, fw, fh, since, st, hK, hM, oa, ob', hs, hw⟩ := h
  have fr : frG Prod.snd I (d_M_at oS I R 210 x y) := f_M_at hR I _ _ (low_rfl I)
  by_cases z : noIx a.2.1.length x
  · obtain ⟨v, J2, e, c, h0, hS⟩ := sm_M hR hty hK oa ob' hs hw ((M_at hR hM oa x y).1 z) fr
    exact ⟨_, v, J2, 1, (K_at hK oa x y).1 z, rfl, by omega, e, c, fun z => (by cases z), hS⟩
  obtain ⟨k, t, hk, hx⟩ := ix_get (by have := oa.2.1.1; omega) z
  obtain ⟨v, J2, e, c, h0, hS⟩ := sm_M hR hty hK oa ob' hs hw ((M_at hR hM oa x y).2 k t hk hx) fr
  exact ⟨_, v, J2, 0, (K_at hK oa x y).2 k t hk hx, rfl, by omega, e, c, fun z => by rw [h0 rfl], hS⟩
theorem s_byteAt (h : Sm I R) (x y : Int32) : sResQ (d_K_byteAt oS I R 0 x y) hc_byteAt (d_M_byteAt oS I R 210 x y) R := by
  obtain ⟨hR, hty, f, g, p, q, now, a, b, fw, fh, since, st, hK, hM, oa, ob', hs, hw⟩ := h
  have fr : frG Prod.snd I (d_M_byteAt oS I R 210 x y) := f_M_byteAt hR I _ _ (low_rfl I)
  by_cases z : noIx a.2.1.length x
  · obtain ⟨v, J2, e, c, h0, hS⟩ := sm_M hR hty hK oa ob' hs hw ((M_byteAt hR hM oa x y).1 z) fr
    exact ⟨_, v, J2, 1, (K_byteAt hK oa x y).1 z, rfl, by omega, e, c, fun z => (by cases z), hS⟩
  obtain ⟨k, t, hk, hx⟩ := ix_get (by have := oa.2.1.1; omega) z
  obtain ⟨m1, m2⟩ := (M_byteAt hR hM oa x y).2 k t hk hx
  obtain ⟨k1, k2⟩ := (K_byteAt hK oa x y).2 k t hk hx
  by_cases z2 : noIx t.2.2.2.length y
  · obtain ⟨v, J2, e, c, h0, hS⟩ := sm_M hR hty hK oa ob' hs hw (m1 z2) fr
    exact ⟨_, v, J2, 1, k1 z2, rfl, by omega, e, c, fun z => (by cases z), hS⟩
  obtain ⟨j, d, hj, hy⟩ := ix_get (by have := (oa.2.2.1 t (List.mem_of_getElem? hk)).2.2.2.1; omega) z2
  obtain ⟨v, J2, e, c, h0, hS⟩ := sm_M hR hty hK oa ob' hs hw (m2 j d hj hy) fr
  exact ⟨_, v, J2, 0, k2 j d hj hy, rfl, by omega, e, c, fun z => by rw [h0 rfl], hS⟩
/-- shown: no more than that both come to an end -/
theorem s_shown0 (h : Sm I R) (x y : Int32) : ∃ o k v J2, d_K_shown oS I R 0 x y = some o ∧ hc_shown o = some k ∧ d_M_shown oS I R 210 x y = some (v, J2) ∧ Sm J2 R := by
  obtain ⟨hR, hty, f, g, p, q, now, a, b, fw, fh, since, st, hK, hM, oa, ob', hs, hw⟩ := h
  obtain ⟨o, e1, e2⟩ := K_shown0 hK oa x y
  obtain ⟨v, J2, e3, e4⟩ := M_shown0 hR hM oa x y
  have fr : frG Prod.snd I (d_M_shown oS I R 210 x y) := f_M_shown hR I _ _ (low_rfl I)
  have hS : Sm J2 R := ⟨hR, hty, f, g, p, q, now, a, b, fw, fh, since, st, KR_far hK oa ob' (fr _ e3), e4, oa, ob', hs, hw⟩
  rcases e2 with ⟨u, rfl⟩ | rfl
  · exact ⟨_, 0, v, J2, e1, rfl, e3, hS⟩
  · exact ⟨_, 1, v, J2, e1, rfl, e3, hS⟩
theorem s_noteAt (h : Sm I R) (x y : Int32) : sResQ (d_K_noteAt oS I R 0 x y) hc_noteAt (d_M_noteAt oS I R 210 x y) R := by
  obtain ⟨hR, hty, f, g, p, q, now, a, b, fw, fh, since, st, hK, hM, oa, ob', hs, hw⟩ := h
  have fr : frG Prod.snd I (d_M_noteAt oS I R 210 x y) := f_M_noteAt hR I _ _ (low_rfl I)
  by_cases z : noIx a.2.2.length x
  · obtain ⟨v, J2, e, c, h0, hS⟩ := sm_M hR hty hK oa ob' hs hw ((M_noteAt hR hM oa x y).1 z) fr
    exact ⟨_, v, J2, 1, (K_noteAt hK oa x y).1 z, rfl, by omega, e, c, fun z => (by cases z), hS⟩
  obtain ⟨k, t, hk, hx⟩ := ix_get (by have := oa.2.1.2; omega) z
  obtain ⟨v, J2, e, c, h0, hS⟩ := sm_M hR hty hK oa ob' hs hw ((M_noteAt hR hM oa x y).2 k t hk hx) fr
  exact ⟨_, v, J2, 0, (K_noteAt hK oa x y).2 k t hk hx, rfl, by omega, e, c, fun z => by rw [h0 rfl], hS⟩
theorem s_write (h : Sm I R) : ∃ v J J2, d_K_write oS I R 0 = some (v, J) ∧ d_M_write oS J R 210 = some (v, J2) ∧ Sm J2 R := by
  obtain ⟨hR, hty, f, g, p, q, now, a, b, fw, fh, since, st, hK, hM, oa, ob', hs, hw⟩ := h
  obtain ⟨J, e1, e2, e3⟩ := K_write hK oa ob'
  obtain ⟨v, J2, e, c, h0, hS⟩ := sm_M hR hty e2 oa ob' ⟨hs.1, wr_le oa⟩ hw (M_write hR (MR_far hM e3) oa) (f_M_write hR J (low_rfl J))
  rw [h0 rfl] at e
  exact ⟨_, J, J2, e1, e, hS⟩
theorem s_streamAt (h : Sm I R) (x : Int32) : sResQ (d_K_streamAt oS I R 0 x) hc_streamAt (d_M_streamAt oS I R 210 x) R := by
  obtain ⟨hR, hty, f, g, p, q, now, a, b, fw, fh, since, st, hK, hM, oa, ob', hs, hw⟩ := h
  have fr : frG Prod.snd I (d_M_streamAt oS I R 210 x) := f_M_streamAt hR I _ (low_rfl I)
  by_cases z : noIx st.length x
  · obtain ⟨v, J2, e, c, h0, hS⟩ := sm_M hR hty hK oa ob' hs hw ((M_streamAt hR hM hs.2 x).1 z) fr
    exact ⟨_, v, J2, 1, (K_streamAt hK hs.2 x).1 z, rfl, by omega, e, c, fun z => (by cases z), hS⟩
  obtain ⟨k, t, hk, hx⟩ := ix_get (by have := hs.2; omega) z
  obtain ⟨v, J2, e, c, h0, hS⟩ := sm_M hR hty hK oa ob' hs hw ((M_streamAt hR hM hs.2 x).2 k t hk hx) fr
  exact ⟨_, v, J2, 0, (K_streamAt hK hs.2 x).2 k t hk hx, rfl, by omega, e, c, fun z => by rw [h0 rfl], hS⟩
theorem s_pointer (h : Sm I R) (x : Int32) : sResQ (d_K_pointer oS I R 0 x) hc_pointer (d_M_pointer oS I R 210 x) R := by
  obtain ⟨hR, hty, f, g, p, q, now, a, b, fw, fh, since, st, hK, hM, oa, ob', hs, hw⟩ := h
  have fr : frG Prod.snd I (d_M_pointer oS I R 210 x) := f_M_pointer hR I _ (low_rfl I)
  by_cases z : noIx a.2.1.length x
  · obtain ⟨v, J2, e, c, h0, hS⟩ := sm_M hR hty hK oa ob' hs hw ((M_pointer hR hM oa x).1 z) fr
    exact ⟨_, v, J2, 1, (K_pointer hK oa x).1 z, rfl, by omega, e, c, fun z => (by cases z), hS⟩
  obtain ⟨k, t, hk, hx⟩ := ix_get (by have := oa.2.1.1; omega) z
  obtain ⟨v, J2, e, c, h0, hS⟩ := sm_M hR hty hK oa ob' hs hw ((M_pointer hR hM oa x).2 k t hk hx) fr
  exact ⟨_, v, J2, 0, (K_pointer hK oa x).2 k t hk hx, rfl, by omega, e, c, fun z => by rw [h0 rfl], hS⟩
theorem s_told (h : Sm I R) (x : Int32) : ∃ v J2, d_K_told oS I R 0 x = some v ∧ d_M_told oS I R 210 x = some (v, J2) ∧ Sm J2 R := by
  obtain ⟨hR, hty, f, g, p, q, now, a, b, fw, fh, since, st, hK, hM, oa, ob', hs, hw⟩ := h
  obtain ⟨v, J2, e, c, h0, hS⟩ := sm_M hR hty hK oa ob' hs hw (M_told hR hM x) (f_M_told hR I _ (low_rfl I))
  rw [h0 rfl] at e
  exact ⟨_, J2, K_told hK x, e, hS⟩
theorem s_clear (h : Sm I R) : ∃ J J2, d_K_clear oS I R 0 = some J ∧ d_M_clear oS J R 210 = some J2 ∧ Sm J2 R := by
  obtain ⟨hR, hty, f, g, p, q, now, a, b, fw, fh, since, st, hK, hM, oa, ob', hs, hw⟩ := h
  obtain ⟨J, e1, e2, e3⟩ := K_clear hK
  obtain ⟨J2, e4, e5⟩ := M_clear hR (MR_far hM e3)
  have fr : frG id J (d_M_clear oS J R 210) := f_M_clear hR J (low_rfl J)
  have oF : okP ((fw, fh), [], []) := okP_fresh hw.1 (by omega) hw.2.2.1 (by omega)
  exact ⟨J, J2, e1, e4, hR, hty, f, g, p, q, 0, _, _, fw, fh, 0, [], KR_far e2 oF oF (fr _ e4), e5, oF, oF, ⟨by omega, Nat.zero_le _⟩, hw⟩
end SIM
/-- the start -/
theorem st_f4 : ∀ k : Fin 40, mR 16 5 k.1 = some (6 + 2 * k.1) ∧ mR 16 108 k.1 = some (109 + 2 * k.1) := by decide +kernel
theorem st_g4 : ∀ k : Fin 20, mR 16 86 k.1 = some (87 + k.1) ∧ mR 16 189 k.1 = some (190 + k.1) := by decide +kernel
theorem st_t : ∀ u : Fin 210, ((6 ≤ u.1 ∧ u.1 ≤ 84 ∧ u.1 % 2 = 0) ∨ (109 ≤ u.1 ∧ u.1 ≤ 187 ∧ u.1 % 2 = 1)) → mR 16 u.1 0 = some (u.1 + 1) := by decide +kernel
theorem st_Q : KQ (mR 16) (fun r k => r + 2 + 2 * k) (fun r k => r + 83 + k) 4 107 := by
  refine ⟨Or.inl ⟨rfl, rfl⟩, ⟨fR_0_4, fR_0_5, fR_0_2, fR_0_3, fR_1_0⟩, fun r hr => ?_, fun r k hr hk => ?_, fun r k hr hk => ?_, fun u hu => ?_, fun r k s j hr hs hk hj e => ?_, fun r k s j hr hs hk hj e => ?_⟩
  · rcases hr with rfl | rfl
    · exact ⟨fR_4_0, fR_4_1⟩
    · exact ⟨fR_107_0, fR_107_1⟩
  · rcases hr with rfl | rfl
    · exact ⟨(st_f4 ⟨k, hk⟩).1, Or.inl (by show 6 ≤ 4 + 2 + 2 * k ∧ 4 + 2 + 2 * k ≤ 84 ∧ (4 + 2 + 2 * k) % 2 = 0; omega)⟩
    · exact ⟨(st_f4 ⟨k, hk⟩).2, Or.inr (by show 109 ≤ 107 + 2 + 2 * k ∧ 107 + 2 + 2 * k ≤ 187 ∧ (107 + 2 + 2 * k) % 2 = 1; omega)⟩
  · rcases hr with rfl | rfl
    · exact ⟨(st_g4 ⟨k, hk⟩).1, Or.inl (by show 87 ≤ 4 + 83 + k ∧ 4 + 83 + k ≤ 106; omega)⟩
    · exact ⟨(st_g4 ⟨k, hk⟩).2, Or.inr (by show 190 ≤ 107 + 83 + k ∧ 107 + 83 + k ≤ 209; omega)⟩
  · exact st_t ⟨u, by unfold isT at hu; omega⟩ hu
  · have e : r + 2 + 2 * k = s + 2 + 2 * j := e
    unfold isP at hr hs
    omega
  · have e : r + 83 + k = s + 83 + j := e
    unfold isP at hr hs
    omega
theorem fs_nI (x : Int32) : ∃ n, fs x = nI n ∧ 1 ≤ n ∧ n ≤ 200 := by
  obtain ⟨h1, h2⟩ := fs_bd x
  have h0 : ¬ fs x < 0 := by
    rw [Int32.lt_iff_toInt_lt]
    have : (0 : Int32).toInt = 0 := rfl
    omega
  obtain ⟨n, hn, e⟩ := nI_of h0
  rw [e, nI_toInt hn] at h1 h2
  exact ⟨n, e, by omega, by omega⟩
theorem s_start (x1 x2 : Int32) : Sm (oI x1 x2) (mR 16) := by
  obtain ⟨fw, e1, w1, w2⟩ := fs_nI x1
  obtain ⟨fh, e2, h1, h2⟩ := fs_nI x2
  obtain ⟨⟨k1, k2, k3, -⟩, ⟨k5, k6, k7, k8⟩, ⟨k9, k10, k11, k12⟩, k13, -⟩ := fI_K x1 x2
  obtain ⟨⟨-, m2, m3, m4⟩, ⟨m5, -, m7⟩, ⟨m8, m9, m10, m11⟩, m12, m13, m14, m15⟩ := fI_M x1 x2
  rw [e1] at k1 k7 k11 m2 m8 m9
  rw [e2] at k2 k8 k12 m3 m10 m11
  have oF : okP ((fw, fh), [], []) := okP_fresh w1 (by omega) h1 (by omega)
  exact ⟨mOk_o, oS_typ, _, _, 4, 107, 0, ((fw, fh), [], []), ((fw, fh), [], []), fw, fh, 0, [], ⟨st_Q, ⟨⟨k7, k8, k5, k6⟩, fun k t hk => (by simp at hk), fun k t hk => by simp at hk⟩, ⟨⟨k11, k12, k9, k10⟩, fun k t hk => (by simp at hk), fun k t hk => by simp at hk⟩, k1, k2, k3, k13, fun j c hj => by cases hj⟩, ⟨by omega, m4, ⟨⟨m8, m10, m12, m14⟩, fun k t hk => (by simp at hk), fun k t hk => by simp at hk⟩, ⟨⟨m9, m11, m13, m15⟩, fun k t hk => (by simp at hk), fun k t hk => by simp at hk⟩, m2, m3, m5, m7, fun j c hj => by cases hj⟩, oF, oF, ⟨by omega, Nat.zero_le _⟩, w1, w2, h1, h2⟩
/-- a compared call ends well -/
theorem l_end2 {β : Type} {a k : Int32} {x y : Int64} {s : β} (h1 : a = k) (h2 : k = 0 → x = y) : (if a = k then (if k = 0 then (if lg_cmp x y = 0 then some s else none) else some s) else none) = some s := by
  rw [if_pos h1]
  by_cases h : k = 0
  · rw [if_pos h, h2 h, if_pos (lg_self y)]
  · rw [if_neg h]
theorem nI_4 {c : Nat} (hc : c < 4) (h : nI c = 0) : c = 0 := (nI_eq (a := c) (b := 0) (by omega) (by omega)).mp h
/-! a tile's own sample -/
def ownG : Nat → Bool → Nat → Nat → Nat → Nat → Nat × Nat
  | 0, mi, w, _, x, y => (if mi then w - 1 - x else x, y)
  | n + 1, mi, w, h, x, y => ownG n mi h w y (w - 1 - x)
def own8 (v w h x y : Nat) : Nat × Nat := ownG (v % 4) (decide (4 ≤ v)) w h x y
theorem own_lt {v w h x y : Nat} (hv : v < 8) (hx : x < w) (hy : y < h) : (own8 v w h x y).1 < (if v % 2 = 1 then h else w) ∧ (own8 v w h x y).2 < (if v % 2 = 1 then w else h) := by
  have hv' : v = 0 ∨ v = 1 ∨ v = 2 ∨ v = 3 ∨ v = 4 ∨ v = 5 ∨ v = 6 ∨ v = 7 := by omega
  rcases hv' with rfl | rfl | rfl | rfl | rfl | rfl | rfl | rfl <;> simp [own8, ownG] <;> omega
theorem own_come {v w h x y : Nat} (hv : v < 8) (hx : x < w) (hy : y < h) {ox oy : Nat} (h1 : ox < (if v % 2 = 1 then h else w)) (h2 : oy < (if v % 2 = 1 then w else h)) : come v (if v % 2 = 1 then h else w) (if v % 2 = 1 then w else h) ox oy = (x, y) ↔ (ox, oy) = own8 v w h x y := by
  have hv' : v = 0 ∨ v = 1 ∨ v = 2 ∨ v = 3 ∨ v = 4 ∨ v = 5 ∨ v = 6 ∨ v = 7 := by omega
  rcases hv' with rfl | rfl | rfl | rfl | rfl | rfl | rfl | rfl <;> simp [own8, ownG, come, cq] at * <;> omega
def cov (x y : Nat) (t : Tl) : Bool := decide (t.1.1 ≤ x ∧ x < t.1.1 + t.2.1.1 ∧ t.1.2 ≤ y ∧ y < t.1.2 + t.2.1.2)
def ownV (t : Tl) (x y : Nat) : Nat := 64 * (own8 t.2.2.1 t.2.1.1 t.2.1.2 (x - t.1.1) (y - t.1.2)).2 + (own8 t.2.2.1 t.2.1.1 t.2.1.2 (x - t.1.1) (y - t.1.2)).1
theorem first_ex (x y : Nat) (l : List Tl) : (∀ t ∈ l, cov x y t = false) ∨ ∃ (j : Nat) (t : Tl), l[j]? = some t ∧ cov x y t = true ∧ ∀ (i : Nat) (s : Tl), i < j → l[i]? = some s → cov x y s = false := by
  induction l with
  | nil => exact Or.inl (fun t ht => by cases ht)
  | cons a l ih =>
    cases h : cov x y a with
    | true => exact Or.inr ⟨0, a, rfl, h, fun i s hi => by omega⟩
    | false =>
      rcases ih with z | ⟨j, t, h1, h2, h3⟩
      · refine Or.inl (fun t ht => ?_)
        rcases List.mem_cons.mp ht with rfl | w
        · exact h
        · exact z t w
      · refine Or.inr ⟨j + 1, t, h1, h2, fun i s hi hs => ?_⟩
        cases i with
        | zero =>
          have : a = s := by simpa using hs
          rw [← this]
          exact h
        | succ i => exact h3 i s (by omega) hs
section MSH
variable {I : ax_I} {R : ax_R} {now fw fh since : Nat} {a b : Pc} {st : List Nat}
theorem m_ownF (S : ax_S) (K : ax_I) (R : ax_R) {v W H x y ox oy : Nat} (hv : v < 8) (w1 : 1 ≤ W) (w2 : W ≤ 64) (h1 : 1 ≤ H) (h2 : H ≤ 64) (hx : x < 64) (hy : y < 64) (hox : ox < W) (hoy : oy < H) (hu : ∀ c d, c < W → d < H → (come v W H c d = (x, y) ↔ (c, d) = (ox, oy))) : d_M_ownOf S K R (nI v) (nI x) (nI y) (nI W) (nI H) = some (nI (64 * oy + ox)) := by
  have hwh : W * H ≤ 64 * 64 := Nat.mul_le_mul w2 h2
  have hk : W * oy + ox < W * H := by
    have : W * oy + W ≤ W * H := by
      rw [← Nat.mul_succ]
      exact Nat.mul_le_mul (Nat.le_refl _) hoy
    omega
  have main : ∀ (m n k : Nat), k + m = W * H → m < n → d_M_ownOf_6 S n K R (nI v) (nI x) (nI y) (nI W) (nI H) (if W * oy + ox < k then nI (64 * oy + ox) else -1) (nI k) = some (nI (64 * oy + ox)) := by
    intro m
    induction m with
    | zero =>
      intro n k hk' hn'
      obtain ⟨n, rfl⟩ : ∃ n', n = n' + 1 := ⟨n - 1, by omega⟩
      rw [d_M_ownOf_6, nI_mul, if_pos (nI_le (by omega) (by omega)), if_pos (by omega)]
    | succ m ih =>
      intro n k hk' hn'
      obtain ⟨n, rfl⟩ : ∃ n', n = n' + 1 := ⟨n - 1, by omega⟩
      have hc : k % W < W := Nat.mod_lt _ (by omega)
      have hd : k / W < H := Nat.div_lt_of_lt_mul (by omega)
      have hdm := Nat.div_add_mod k W
      have cl := come_lt (v := v) (W := W) (H := H) (x := k % W) (y := k / W) hv hc hd
      have b1 : (if v % 2 = 1 then H else W) ≤ 64 := by split <;> omega
      have b2 : (if v % 2 = 1 then W else H) ≤ 64 := by split <;> omega
      have hiff := hu (k % W) (k / W) hc hd
      rw [d_M_ownOf_6, nI_mul, if_neg (nI_ge (by omega) (by omega)), if_neg (nI_ne0 (by omega) (by omega)), if_neg (nI_ne0 (by omega) (by omega)), n_rem (by omega) (by omega) (by omega), pk_div (by omega) (by omega) (by omega), m_come S K R hv (by omega) (by omega) hc hd, ob, show (1000 : Int32) = nI 1000 from rfl, nI_mul, nI_add]
      unfold d_M_ownOf_57
      obtain ⟨cx, hcx⟩ : ∃ cx, cx = (come v W H (k % W) (k / W)).1 := ⟨_, rfl⟩
      obtain ⟨cy, hcy⟩ : ∃ cy, cy = (come v W H (k % W) (k / W)).2 := ⟨_, rfl⟩
      have ec : come v W H (k % W) (k / W) = (cx, cy) := by rw [hcx, hcy]
      rw [← hcx, ← hcy] at cl ⊢
      rw [ec] at hiff
      by_cases z : (cx, cy) = (x, y)
      · have e := hiff.mp z
        have e1 : k % W = ox := congrArg Prod.fst e
        have e2 : k / W = oy := congrArg Prod.snd e
        have z1 : cx = x := congrArg Prod.fst z
        have z2 : cy = y := congrArg Prod.snd z
        rw [if_pos (by rw [z1, z2]), if_neg (nI_ne0 (by omega) (by omega)), if_neg (nI_ne0 (by omega) (by omega)), show (64 : Int32) = nI 64 from rfl, nI_mul, nI_add, nI_1]
        have ih' := ih n (k + 1) (by omega) (by omega)
        rw [e1, e2] at hdm
        rw [if_pos (by omega)] at ih'
        rw [e1, e2]
        exact ih'
      · have ne : ¬ (k % W, k / W) = (ox, oy) := fun y => z (hiff.mpr y)
        have nk : ¬ W * oy + ox = k := by
          intro y
          apply ne
          rw [← y, Nat.mul_add_mod, Nat.mod_eq_of_lt hox, Nat.mul_add_div (by omega), Nat.div_eq_of_lt hox, Nat.add_zero]
        rw [if_neg (fun yy => z (by
          have := (nI_eq (by omega) (by omega)).mp yy
          have e1 : cx = x := by omega
          have e2 : cy = y := by omega
          rw [e1, e2])), nI_1]
        have ih' := ih n (k + 1) (by omega) (by omega)
        by_cases w : W * oy + ox < k
        · rw [if_pos (by omega)] at ih'
          rw [if_pos w]
          exact ih'
        · rw [if_neg (by omega)] at ih'
          rw [if_neg w]
          exact ih'
  have := main (W * H) 5000 0 (by omega) (by omega)
  rw [if_neg (by omega)] at this
  exact this
theorem m_shStep (hR : mOk oS R) (hM : MR I now a b fw fh since st) (ha : okP a) (c0 : I 210 0 = 0) {x y k : Nat} {t : Tl} (hx : x < a.1.1) (hy : y < a.1.2) (ht : a.2.1[k]? = some t) (n : Nat) : (cov x y t = false → d_M_shown_20 oS (n + 1) I R 210 (nI x) (nI y) (nI k) = d_M_shown_20 oS n I R 210 (nI x) (nI y) (nI (k + 1))) ∧ (cov x y t = true → d_M_shown_20 oS (n + 1) I R 210 (nI x) (nI y) (nI k) = some (nI (4096 * k + ownV t x y), I)) := by
  obtain ⟨hn, n3, ⟨⟨p1, p2, p3, p4⟩, pt, pn⟩, hb', -⟩ := hM
  obtain ⟨-, -, ix, -⟩ := mx2 hR hn
  have l40 := ha.2.1.1
  have oW := ha.1
  have hlt : k < a.2.1.length := (List.getElem?_eq_some_iff.mp ht).1
  obtain ⟨⟨q1, q2, q3, q4, q5, q6⟩, -⟩ := pt k t ht
  obtain ⟨⟨s1, s2, s3, s4⟩, ⟨o1, o2⟩, hw8, hbl, -⟩ := ha.2.2.1 t (List.mem_of_getElem? ht)
  have e40 : (40 : Int32) * nI now + nI k = nI (40 * now + k) := by rw [show (40 : Int32) = nI 40 from rfl, nI_mul, nI_add]
  obtain ⟨⟨t1, t2, t3⟩, t4, t5, t6⟩ := mxT hR (show 40 * now + k < 80 by omega) rfl
  have ex : nI (t.1.1 + t.2.1.1) - 1 = nI (t.1.1 + t.2.1.1 - 1) := nI_sub (b := 1) (by omega)
  have ey : nI (t.1.2 + t.2.1.2) - 1 = nI (t.1.2 + t.2.1.2 - 1) := nI_sub (b := 1) (by omega)
  rw [d_M_shown_20, mr_6 hR, ob, n3, ix, ob, p3, if_neg (nI_ge hlt (by omega)), if_pos c0]
  unfold d_M_tileAt
  rw [ob, n3, e40, mr_8 hR, ob, t1, ob, ob, t1, ob, mr_10 hR, ob, t3, ob, q1, q3, nI_add, ex]
  have next : d_M_shown_212 oS (d_M_shown_20 oS n) I R 210 (nI x) (nI y) (nI k) = d_M_shown_20 oS n I R 210 (nI x) (nI y) (nI (k + 1)) := by
    unfold d_M_shown_212
    rw [nI_1]
  by_cases z1 : x < t.1.1 ∨ t.1.1 + t.2.1.1 - 1 < x
  · rw [m_in_f (z1.elim (fun z => Or.inl (nI_lt z (by omega))) (fun z => Or.inr (nI_lt z (by omega)))), ob, if_pos bF]
    exact ⟨fun _ => next, fun z => by have := of_decide_eq_true z; omega⟩
  rw [m_in_t (nI_nlt (by omega) (by omega)) (nI_nlt (by omega) (by omega)), ob, if_neg bT, mr_9 hR, ob, t2, ob, ob, t2, ob, mr_11 hR, ob, t4, ob, q2, q4, nI_add, ey]
  by_cases z2 : y < t.1.2 ∨ t.1.2 + t.2.1.2 - 1 < y
  · rw [m_in_f (z2.elim (fun z => Or.inl (nI_lt z (by omega))) (fun z => Or.inr (nI_lt z (by omega)))), ob, if_pos bF]
    exact ⟨fun _ => next, fun z => by have := of_decide_eq_true z; omega⟩
  rw [m_in_t (nI_nlt (by omega) (by omega)) (nI_nlt (by omega) (by omega)), ob, if_neg bT, mr_12 hR, ob, t5, ob, q5, m_turned oS _ R hw8, ob]
  refine ⟨fun z => by have := of_decide_eq_false z; omega, fun _ => ?_⟩
  have hx' : x - t.1.1 < t.2.1.1 := by omega
  have hy' : y - t.1.2 < t.2.1.2 := by omega
  obtain ⟨l1, l2⟩ := own_lt (v := t.2.2.1) hw8 hx' hy'
  have hu : ∀ c d, c < (if t.2.2.1 % 2 = 1 then t.2.1.2 else t.2.1.1) → d < (if t.2.2.1 % 2 = 1 then t.2.1.1 else t.2.1.2) → (come t.2.2.1 (if t.2.2.1 % 2 = 1 then t.2.1.2 else t.2.1.1) (if t.2.2.1 % 2 = 1 then t.2.1.1 else t.2.1.2) c d = (x - t.1.1, y - t.1.2) ↔ (c, d) = ((own8 t.2.2.1 t.2.1.1 t.2.1.2 (x - t.1.1) (y - t.1.2)).1, (own8 t.2.2.1 t.2.1.1 t.2.1.2 (x - t.1.1) (y - t.1.2)).2)) := fun c d hc hd => own_come hw8 hx' hy' hc hd
  have sx : nI x - nI t.1.1 = nI (x - t.1.1) := nI_sub (by omega)
  have sy : nI y - nI t.1.2 = nI (y - t.1.2) := nI_sub (by omega)
  by_cases z : t.2.2.1 % 2 = 1
  · rw [if_pos z, if_pos z] at hu
    rw [if_pos z] at l1 l2
    have hO := m_ownF oS I R hw8 s3 s4 s1 s2 (by omega) (by omega) l1 l2 hu
    rw [decide_eq_true z, if_neg bT, ob, t4, ob, q4]
    unfold d_M_shown_139 d_M_shown_171
    rw [mr_12 hR, ob, t5, ob, q5, m_turned oS _ R hw8, ob, decide_eq_true z, if_neg bT, mr_10 hR, ob, t3, ob, q3, ob, t5, ob, q5, mr_8 hR, ob, t1, ob, q1, mr_9 hR, ob, t2, ob, q2, sx, sy, hO, ob, show (4096 : Int32) = nI 4096 from rfl, nI_mul, nI_add]
    rfl
  · rw [if_neg z, if_neg z] at hu
    rw [if_neg z] at l1 l2
    have hO := m_ownF oS I R hw8 s1 s2 s3 s4 (by omega) (by omega) l1 l2 hu
    rw [decide_eq_false z, if_pos bF, ob, t3, ob, q3]
    unfold d_M_shown_139 d_M_shown_171
    rw [mr_12 hR, ob, t5, ob, q5, m_turned oS _ R hw8, ob, decide_eq_false z, if_pos bF, mr_11 hR, ob, t4, ob, q4, ob, t5, ob, q5, mr_8 hR, ob, t1, ob, q1, mr_9 hR, ob, t2, ob, q2, sx, sy, hO, ob, show (4096 : Int32) = nI 4096 from rfl, nI_mul, nI_add]
    rfl
theorem M_shown (hR : mOk oS R) (hM : MR I now a b fw fh since st) (ha : okP a) (x y : Int32) : (noIx a.1.1 x ∨ noIx a.1.2 y → mAns (d_M_shown oS I R 210 x y) 1 0 (fun J => MR J now a b fw fh since st)) ∧ (∀ x' y', x = nI x' → y = nI y' → x' < a.1.1 → y' < a.1.2 → ((∀ t ∈ a.2.1, cov x' y' t = false) → mAns (d_M_shown oS I R 210 x y) 0 (-1) (fun J => MR J now a b fw fh since st)) ∧ (∀ j t, a.2.1[j]? = some t → cov x' y' t = true → (∀ i s, i < j → a.2.1[i]? = some s → cov x' y' s = false) → mAns (d_M_shown oS I R 210 x y) 0 (nI (4096 * j + ownV t x' y')) (fun J => MR J now a b fw fh since st))) := by
  have l40 := ha.2.1.1
  have oW := ha.1
  obtain ⟨s1, s2⟩ := m_isSample hR hM ha x y
  have stop : ∀ (J : ax_I) (n k : Nat), MR J now a b fw fh since st → k = a.2.1.length → ∀ x y, d_M_shown_20 oS (n + 1) J R 210 x y (nI k) = d_M_shown_218 oS J R 210 := by
    intro J n k hJ hk x y
    obtain ⟨hn, n3, ⟨⟨p1, p2, p3, p4⟩, pt, pn⟩, hb', -⟩ := hJ
    obtain ⟨-, -, ix, -⟩ := mx2 hR hn
    rw [d_M_shown_20, mr_6 hR, ob, n3, ix, ob, p3, if_pos (nI_le (by omega) (by omega))]
  unfold d_M_shown d_M_shown_15
  refine ⟨fun z => ?_, fun x' y' ex ey hx hy => ⟨fun z => ?_, fun j t hj hc hf => ?_⟩⟩
  · rw [s1 z, ob, if_pos bF, ob]
    have hJ := MR_c hM 1
    have c1 : ax_up I 210 0 1 210 0 = 1 := ax_up_self _ _ _ _
    have e : ∀ n, d_M_shown_20 oS (n + 1) (ax_up I 210 0 1) R 210 x y 0 = some (0, ax_up I 210 0 1) := by
      intro n
      obtain ⟨hn, n3, ⟨⟨p1, p2, p3, p4⟩, pt, pn⟩, hb', -⟩ := hJ
      obtain ⟨-, -, ix, -⟩ := mx2 hR hn
      have e218 : d_M_shown_218 oS (ax_up I 210 0 1) R 210 = some (0, ax_up I 210 0 1) := by
        unfold d_M_shown_218
        rw [c1, if_neg (by decide)]
      rw [d_M_shown_20, mr_6 hR, ob, n3, ix, ob, p3, c1, if_neg (show ¬ (1 : Int32) = 0 by decide), e218]
      split <;> rfl
    rw [show (5000 : Nat) = 4999 + 1 from rfl, e]
    exact ⟨_, _, rfl, c1, fun z => (by cases z), hJ⟩
  · subst ex ey
    have hJ := MR_c hM 0
    have c0 : ax_up I 210 0 0 210 0 = 0 := ax_up_self _ _ _ _
    have nx : ¬ (noIx a.1.1 (nI x') ∨ noIx a.1.2 (nI y')) := fun w => w.elim (ix_in (by omega) hx) (ix_in (by omega) hy)
    rw [s2 nx, ob, if_neg bT, ob]
    have go : ∀ (m n k : Nat), k + m = a.2.1.length → m < n → d_M_shown_20 oS n (ax_up I 210 0 0) R 210 (nI x') (nI y') (nI k) = some (-1, ax_up I 210 0 0) := by
      intro m
      induction m with
      | zero =>
        intro n k hk hn'
        obtain ⟨n, rfl⟩ : ∃ n', n = n' + 1 := ⟨n - 1, by omega⟩
        rw [stop _ n k hJ (by omega)]
        unfold d_M_shown_218
        rw [c0, if_pos (by decide)]
      | succ m ih =>
        intro n k hk hn'
        obtain ⟨n, rfl⟩ : ∃ n', n = n' + 1 := ⟨n - 1, by omega⟩
        obtain ⟨t, ht⟩ : ∃ t, a.2.1[k]? = some t := ⟨_, List.getElem?_eq_getElem (by omega)⟩
        rw [(m_shStep hR hJ ha c0 hx hy ht n).1 (z t (List.mem_of_getElem? ht))]
        exact ih n (k + 1) (by omega) (by omega)
    have e := go a.2.1.length 5000 0 (by omega) (by omega)
    have e : d_M_shown_20 oS 5000 (ax_up I 210 0 0) R 210 (nI x') (nI y') 0 = some (-1, ax_up I 210 0 0) := e
    rw [e]
    exact ⟨_, _, rfl, c0, fun _ => rfl, hJ⟩
  · subst ex ey
    have hJ := MR_c hM 0
    have c0 : ax_up I 210 0 0 210 0 = 0 := ax_up_self _ _ _ _
    have hjl : j < a.2.1.length := (List.getElem?_eq_some_iff.mp hj).1
    have nx : ¬ (noIx a.1.1 (nI x') ∨ noIx a.1.2 (nI y')) := fun w => w.elim (ix_in (by omega) hx) (ix_in (by omega) hy)
    rw [s2 nx, ob, if_neg bT, ob]
    have go : ∀ (m n k : Nat), k + m = j → m < n → d_M_shown_20 oS n (ax_up I 210 0 0) R 210 (nI x') (nI y') (nI k) = some (nI (4096 * j + ownV t x' y'), ax_up I 210 0 0) := by
      intro m
      induction m with
      | zero =>
        intro n k hk hn'
        obtain ⟨n, rfl⟩ : ∃ n', n = n' + 1 := ⟨n - 1, by omega⟩
        have hk : k = j := by omega
        subst hk
        exact (m_shStep hR hJ ha c0 hx hy hj n).2 hc
      | succ m ih =>
        intro n k hk hn'
        obtain ⟨n, rfl⟩ : ∃ n', n = n' + 1 := ⟨n - 1, by omega⟩
        obtain ⟨s, hs⟩ : ∃ s, a.2.1[k]? = some s := ⟨_, List.getElem?_eq_getElem (by omega)⟩
        rw [(m_shStep hR hJ ha c0 hx hy hs n).1 (hf k s (by omega) hs)]
        exact ih n (k + 1) (by omega) (by omega)
    have e := go j 5000 0 (by omega) (by omega)
    have e : d_M_shown_20 oS 5000 (ax_up I 210 0 0) R 210 (nI x') (nI y') 0 = some (nI (4096 * j + ownV t x' y'), ax_up I 210 0 0) := e
    rw [e]
    exact ⟨_, _, rfl, c0, fun _ => rfl, hJ⟩
end MSH
section KSH
variable {I J : ax_I} {R : ax_R} {f g : Nat → Nat → Nat} {p q r fw fh since : Nat} {a a' b : Pc} {st : List Nat}
theorem k_ownF {u v : Nat} (h6 : I u 6 = nI v) (hv : v < 8) (S : ax_S) : ∀ (m n k x y w h : Nat), k + m = v % 4 → m < n → x < w → y < h → w ≤ 64 → h ≤ 64 → d_T_ownSample_30 S n I R u (nI x) (nI y) (nI w) (nI h) (nI k) = some (nI (64 * (ownG m (decide (4 ≤ v)) w h x y).2 + (ownG m (decide (4 ≤ v)) w h x y).1)) := by
  intro m
  have e4 : nI v &&& 3 = nI (v % 4) := q_t ⟨v, hv⟩
  induction m with
  | zero =>
    intro n k x y w h hk hn' hx hy hw hh
    obtain ⟨n, rfl⟩ : ∃ n', n = n' + 1 := ⟨n - 1, by omega⟩
    have e1 : nI w - 1 = nI (w - 1) := nI_sub (b := 1) (by omega)
    rw [d_T_ownSample_30]
    unfold d_K_quarters d_K_mirrors d_T_ownSample_92
    rw [ob, h6, e4, if_pos (nI_le (by omega) (by omega))]
    by_cases z : 4 ≤ v
    · rw [if_neg (show ¬ nI v < 4 from nI_nlt (b := 4) z (by omega)), ob, if_neg bT, e1, nI_sub (by omega), show (64 : Int32) = nI 64 from rfl, nI_mul, nI_add, decide_eq_true z]
      rfl
    · rw [if_pos (show nI v < 4 from nI_lt (b := 4) (by omega) (by decide)), ob, if_pos bF, show (64 : Int32) = nI 64 from rfl, nI_mul, nI_add, decide_eq_false z]
      rfl
  | succ m ih =>
    intro n k x y w h hk hn' hx hy hw hh
    obtain ⟨n, rfl⟩ : ∃ n', n = n' + 1 := ⟨n - 1, by omega⟩
    have e1 : nI w - 1 = nI (w - 1) := nI_sub (b := 1) (by omega)
    rw [d_T_ownSample_30]
    unfold d_K_quarters
    rw [ob, h6, e4, if_neg (nI_ge (by omega) (by omega)), e1, nI_sub (by omega), nI_1]
    exact ih n (k + 1) y (w - 1 - x) h w (by omega) (by omega) hy (by omega) hh hw
theorem cov_ap (x y : Nat) (t : Tl) : (cov x y t = false → apart ((x, y), (1, 1), 0, []) t) ∧ (cov x y t = true → ¬ apart ((x, y), (1, 1), 0, []) t) := by
  refine ⟨fun z => ?_, fun z => ?_⟩
  · have z := of_decide_eq_false z
    show x + 1 ≤ t.1.1 ∨ t.1.1 + t.2.1.1 ≤ x ∨ y + 1 ≤ t.1.2 ∨ t.1.2 + t.2.1.2 ≤ y
    omega
  · have z := of_decide_eq_true z
    show ¬ (x + 1 ≤ t.1.1 ∨ t.1.1 + t.2.1.1 ≤ x ∨ y + 1 ≤ t.1.2 ∨ t.1.2 + t.2.1.2 ≤ y)
    omega
theorem k_toStep (hQ : KQ R f g p q) (hr : isP r) (hP : KP I f g r a) (ha : okP a) {x y k : Nat} {t : Tl} (b3 : x ≤ 400) (b4 : y ≤ 400) (ht : a.2.1[k]? = some t) (n : Nat) : (cov x y t = false → d_P_tileOver_2 oS (n + 1) I R r (nI x) (nI y) (nI k) = d_P_tileOver_2 oS n I R r (nI x) (nI y) (nI (k + 1))) ∧ (cov x y t = true → d_P_tileOver_2 oS (n + 1) I R r (nI x) (nI y) (nI k) = some (nI k)) := by
  have l40 := ha.2.1.1
  have oW := ha.1
  have hlt : k < a.2.1.length := (List.getElem?_eq_some_iff.mp ht).1
  obtain ⟨-, ⟨o1, o2⟩, -⟩ := ha.2.2.1 t (List.mem_of_getElem? ht)
  obtain ⟨v1, v2⟩ := k_over (R := R) (hP.2.1 k t ht) (x := x) (y := y) (w := 1) (h := 1) (by omega) (by omega) (by omega) (by omega) oS
  obtain ⟨w1, w2⟩ := cov_ap x y t
  rw [d_P_tileOver_2, hP.1.2.2.1, if_neg (nI_ge hlt (by omega)), (hQ.2.2.1 r hr).1, ob, kxT hr (by omega), ob, (hQ.2.2.2.1 r k hr (by omega)).1, ob]
  refine ⟨fun z => ?_, fun z => ?_⟩
  · have v1 : d_T_overlaps oS I R (f r k) (nI x) (nI y) 1 1 = some false := v1 (w1 z)
    rw [v1, ob, if_pos bF, nI_1]
  · have v2 : d_T_overlaps oS I R (f r k) (nI x) (nI y) 1 1 = some true := v2 (w2 z)
    rw [v2, ob, if_neg bT]
theorem K_shown (hK : KR I R f g p q a b fw fh since st) (ha : okP a) (x y : Int32) : (noIx a.1.1 x ∨ noIx a.1.2 y → d_K_shown oS I R 0 x y = some (.inr "java/lang/IndexOutOfBoundsException")) ∧ (∀ x' y', x = nI x' → y = nI y' → x' < a.1.1 → y' < a.1.2 → ((∀ t ∈ a.2.1, cov x' y' t = false) → d_K_shown oS I R 0 x y = some (.inl (-1))) ∧ (∀ j t, a.2.1[j]? = some t → cov x' y' t = true → (∀ i s, i < j → a.2.1[i]? = some s → cov x' y' s = false) → d_K_shown oS I R 0 x y = some (.inl (nI (4096 * j + ownV t x' y'))))) := by
  have l := ha.2.1
  have oW := ha.1
  obtain ⟨hQ, hP, -⟩ := hK
  obtain ⟨pp, pq, hne⟩ := KQ_P hQ
  obtain ⟨s1, s2⟩ := k_hasSample (R := R) hP.1.1 hP.1.2.1 x y
  unfold d_K_shown
  rw [hQ.2.1.1, ob]
  refine ⟨fun z => ?_, fun x' y' ex ey hx hy => ?_⟩
  · rw [s1 z, ob, if_pos bF]
  subst ex ey
  have nx : ¬ (noIx a.1.1 (nI x') ∨ noIx a.1.2 (nI y')) := fun w => w.elim (ix_in (by omega) hx) (ix_in (by omega) hy)
  rw [s2 nx, ob, if_neg bT, ob]
  refine ⟨fun z => ?_, fun j t hj hc hf => ?_⟩
  · have go : ∀ (m n k : Nat), k + m = a.2.1.length → m < n → d_P_tileOver_2 oS n I R p (nI x') (nI y') (nI k) = some (-1) := by
      intro m
      induction m with
      | zero =>
        intro n k hk hn'
        obtain ⟨n, rfl⟩ : ∃ n', n = n' + 1 := ⟨n - 1, by omega⟩
        rw [d_P_tileOver_2, hP.1.2.2.1, if_pos (nI_le (by omega) (by omega))]
      | succ m ih =>
        intro n k hk hn'
        obtain ⟨n, rfl⟩ : ∃ n', n = n' + 1 := ⟨n - 1, by omega⟩
        obtain ⟨t, ht⟩ : ∃ t, a.2.1[k]? = some t := ⟨_, List.getElem?_eq_getElem (by omega)⟩
        rw [(k_toStep hQ pp hP ha (by omega) (by omega) ht n).1 (z t (List.mem_of_getElem? ht))]
        exact ih n (k + 1) (by omega) (by omega)
    have e : d_P_tileOver oS I R p (nI x') (nI y') = some (-1) := go a.2.1.length 5000 0 (by omega) (by omega)
    rw [e, ob, if_pos rfl]
  · have hjl : j < a.2.1.length := (List.getElem?_eq_some_iff.mp hj).1
    have go : ∀ (m n k : Nat), k + m = j → m < n → d_P_tileOver_2 oS n I R p (nI x') (nI y') (nI k) = some (nI j) := by
      intro m
      induction m with
      | zero =>
        intro n k hk hn'
        obtain ⟨n, rfl⟩ : ∃ n', n = n' + 1 := ⟨n - 1, by omega⟩
        have hk : k = j := by omega
        subst hk
        exact (k_toStep hQ pp hP ha (by omega) (by omega) hj n).2 hc
      | succ m ih =>
        intro n k hk hn'
        obtain ⟨n, rfl⟩ : ∃ n', n = n' + 1 := ⟨n - 1, by omega⟩
        obtain ⟨s, hs⟩ : ∃ s, a.2.1[k]? = some s := ⟨_, List.getElem?_eq_getElem (by omega)⟩
        rw [(k_toStep hQ pp hP ha (by omega) (by omega) hs n).1 (hf k s (by omega) hs)]
        exact ih n (k + 1) (by omega) (by omega)
    have e : d_P_tileOver oS I R p (nI x') (nI y') = some (nI j) := go j 5000 0 (by omega) (by omega)
    have hc' := of_decide_eq_true hc
    obtain ⟨⟨w1, w2, w3, w4⟩, ⟨o1, o2⟩, hw8, -⟩ := ha.2.2.1 t (List.mem_of_getElem? hj)
    obtain ⟨⟨q1, q2, q3, q4, q5, q6⟩, -⟩ := hP.2.1 j t hj
    have ne : ¬ nI j = -1 := by
      intro z
      have := congrArg Int32.toInt z
      rw [nI_toInt (by omega)] at this
      have e1 : (-1 : Int32).toInt = -1 := rfl
      omega
    rw [e, ob, if_neg ne, ob, (hQ.2.2.1 p pp).1, ob, kxT pp (by omega), ob, (hQ.2.2.2.1 p j pp (by omega)).1, ob]
    unfold d_T_ownSample
    have hO := k_ownF (R := R) q5 hw8 oS (t.2.2.1 % 4) 5000 0 (x' - t.1.1) (y' - t.1.2) t.2.1.1 t.2.1.2 (by omega) (by omega) (by omega) (by omega) w2 w4
    have hO : d_T_ownSample_30 oS 5000 I R (f p j) (nI (x' - t.1.1)) (nI (y' - t.1.2)) (nI t.2.1.1) (nI t.2.1.2) 0 = some (nI (ownV t x' y')) := hO
    rw [q1, q2, q3, q4, nI_sub (by omega), nI_sub (by omega), hO, ob, show (4096 : Int32) = nI 4096 from rfl, nI_mul, nI_add]
theorem s_shown (h : Sm I R) (x y : Int32) : sResQ (d_K_shown oS I R 0 x y) hc_shown (d_M_shown oS I R 210 x y) R := by
  obtain ⟨hR, hty, f, g, p, q, now, a, b, fw, fh, since, st, hK, hM, oa, ob', hs, hw⟩ := h
  have oW := oa.1
  have fr : frG Prod.snd I (d_M_shown oS I R 210 x y) := f_M_shown hR I _ _ (low_rfl I)
  by_cases z : noIx a.1.1 x ∨ noIx a.1.2 y
  · obtain ⟨v, J2, e, c, h0, hS⟩ := sm_M hR hty hK oa ob' hs hw ((M_shown hR hM oa x y).1 z) fr
    exact ⟨_, v, J2, 1, (K_shown hK oa x y).1 z, rfl, by omega, e, c, fun z => (by cases z), hS⟩
  obtain ⟨x', hx, ex⟩ := idx_of (n := a.1.1) (by omega) (fun w => z (Or.inl (Or.inl w))) (fun w => z (Or.inl (Or.inr w)))
  obtain ⟨y', hy, ey⟩ := idx_of (n := a.1.2) (by omega) (fun w => z (Or.inr (Or.inl w))) (fun w => z (Or.inr (Or.inr w)))
  obtain ⟨m1, m2⟩ := (M_shown hR hM oa x y).2 x' y' ex ey hx hy
  obtain ⟨k1, k2⟩ := (K_shown hK oa x y).2 x' y' ex ey hx hy
  rcases first_ex x' y' a.2.1 with w | ⟨j, t, h1, h2, h3⟩
  · obtain ⟨v, J2, e, c, h0, hS⟩ := sm_M hR hty hK oa ob' hs hw (m1 w) fr
    exact ⟨_, v, J2, 0, k1 w, rfl, by omega, e, c, fun z => by rw [h0 rfl], hS⟩
  · obtain ⟨v, J2, e, c, h0, hS⟩ := sm_M hR hty hK oa ob' hs hw (m2 j t h1 h2 h3) fr
    exact ⟨_, v, J2, 0, k2 j t h1 h2 h3, rfl, by omega, e, c, fun z => by rw [h0 rfl], hS⟩
end KSH
theorem hcL_self (v : Int32) (L : ax_L) : hcL (.inl v) L 227 227 0 = v.toInt64 := by
  unfold hcL
  exact ax_up_self _ _ _ _
/-! each case of the law keeps both sides together -/
section STEP
variable {I : ax_I} {R : ax_R} {L : ax_L} {sc : Nat → Int32} {i : Nat}
theorem l_case0 (h : Sm I R) : ∃ out, d_L_140 oS sc i I R L = some out ∧ Sm out.1 out.2.1 := by
  obtain ⟨o, J, v, J2, code, e1, e2, hc, e3, e4, e5, hS⟩ := s_tile h (sc (i + 1)) (sc (i + 2)) (sc (i + 3)) (sc (i + 4))
  have e3 : d_M_tile oS J R 210 (sc (i + 1)) (sc (i + 2)) (sc (i + 3)) (sc (i + 4)) = some (v, J2) := e3
  unfold d_L_140
  rw [e1, ob]
  dsimp only
  rw [e2, ob, e3, ob]
  exact ⟨_, rfl, hS⟩
theorem l_case1 (h : Sm I R) : ∃ out, d_L_204 oS sc i I R L = some out ∧ Sm out.1 out.2.1 := by
  obtain ⟨o, J, v, J2, code, e1, e2, hc, e3, e4, e5, hS⟩ := s_byteOf h (sc (i + 1)) (sc (i + 2))
  have e3 : d_M_byteOf oS J R 210 (sc (i + 1)) (sc (i + 2)) = some (v, J2) := e3
  unfold d_L_204
  rw [e1, ob]
  dsimp only
  rw [e2, ob, e3, ob]
  exact ⟨_, rfl, hS⟩
theorem l_case2 (h : Sm I R) : ∃ out, d_L_244 oS sc i I R L = some out ∧ Sm out.1 out.2.1 := by
  obtain ⟨o, J, v, J2, code, e1, e2, hc, e3, e4, e5, hS⟩ := s_note h (sc (i + 1)) (sc (i + 2)) (sc (i + 3))
  have e3 : d_M_note oS J R 210 (sc (i + 1)) (sc (i + 2)) (sc (i + 3)) = some (v, J2) := e3
  unfold d_L_244
  rw [e1, ob]
  dsimp only
  rw [e2, ob, e3, ob]
  exact ⟨_, rfl, hS⟩
theorem l_case3 (h : Sm I R) : ∃ out, d_L_296 oS sc i I R L = some out ∧ Sm out.1 out.2.1 := by
  obtain ⟨o, J, R', v, J2, code, e1, e2, hc, e3, e4, e5, hS⟩ := s_crop h (sc (i + 1)) (sc (i + 2)) (sc (i + 3)) (sc (i + 4))
  have e3 : d_M_crop oS J R' 210 (sc (i + 1)) (sc (i + 2)) (sc (i + 3)) (sc (i + 4)) = some (v, J2) := e3
  unfold d_L_296
  rw [e1, ob]
  dsimp only
  rw [e2, ob, e3, ob]
  exact ⟨_, rfl, hS⟩
theorem l_case4 (h : Sm I R) : ∃ out, d_L_360 oS sc i I R L = some out ∧ Sm out.1 out.2.1 := by
  obtain ⟨o, k, v, J2, e1, e2, e3, hS⟩ := s_near h (sc (i + 1))
  unfold d_L_360
  rw [e1, ob, e2, ob, e3, ob]
  exact ⟨_, rfl, hS⟩
theorem l_case5 (h : Sm I R) : ∃ out, d_L_388 oS sc i I R L = some out ∧ Sm out.1 out.2.1 := by
  obtain ⟨o, J, v, J2, code, e1, e2, hc, e3, e4, e5, hS⟩ := s_turn h (sc (i + 1))
  have e3 : d_M_turn oS J R 210 (sc (i + 1)) = some (v, J2) := e3
  unfold d_L_388
  rw [e1, ob]
  dsimp only
  rw [e2, ob, e3, ob]
  exact ⟨_, rfl, hS⟩
theorem l_case6 (h : Sm I R) : ∃ out, d_L_416 oS sc i I R L = some out ∧ Sm out.1 out.2.1 := by
  obtain ⟨v, J, R', J2, e1, e2, hS⟩ := s_swap h
  unfold d_L_416
  rw [e1, ob]
  dsimp only
  rw [e2, ob]
  exact ⟨_, rfl, hS⟩
theorem l_case7 (h : Sm I R) : ∃ out, d_L_429 oS sc i I R L = some out ∧ Sm out.1 out.2.1 := by
  obtain ⟨o, J, R', v, J2, code, e1, e2, hc, e3, e4, e5, hS⟩ := s_join h (sc (i + 1))
  have e3 : d_M_join oS J R' 210 (sc (i + 1)) = some (v, J2) := e3
  unfold d_L_429
  rw [e1, ob]
  dsimp only
  rw [e2, ob, e3, ob]
  exact ⟨_, rfl, hS⟩
theorem l_case8 (h : Sm I R) : ∃ out, d_L_457 oS sc i I R L = some out ∧ Sm out.1 out.2.1 := by
  obtain ⟨o, v, J2, code, e1, e2, hc, e3, e4, e5, hS⟩ := s_at h (sc (i + 1)) (sc (i + 2))
  unfold d_L_457
  rw [e1, ob, e2, ob, e3, ob]
  exact ⟨_, rfl, hS⟩
theorem l_case9 (h : Sm I R) : ∃ out, d_L_497 oS sc i I R L = some out ∧ Sm out.1 out.2.1 := by
  obtain ⟨o, v, J2, code, e1, e2, hc, e3, e4, e5, hS⟩ := s_byteAt h (sc (i + 1)) (sc (i + 2))
  unfold d_L_497
  rw [e1, ob, e2, ob, e3, ob]
  exact ⟨_, rfl, hS⟩
theorem l_case10 (h : Sm I R) : ∃ out, d_L_537 oS sc i I R L = some out ∧ Sm out.1 out.2.1 := by
  obtain ⟨o, k, v, J2, e1, e2, e3, hS⟩ := s_shown0 h (sc (i + 1)) (sc (i + 2))
  unfold d_L_537
  rw [e1, ob, e2, ob, e3, ob]
  exact ⟨_, rfl, hS⟩
theorem l_case11 (h : Sm I R) : ∃ out, d_L_577 oS sc i I R L = some out ∧ Sm out.1 out.2.1 := by
  obtain ⟨o, v, J2, code, e1, e2, hc, e3, e4, e5, hS⟩ := s_noteAt h (sc (i + 1)) (sc (i + 2))
  unfold d_L_577
  rw [e1, ob, e2, ob, e3, ob]
  exact ⟨_, rfl, hS⟩
theorem l_case12 (h : Sm I R) : ∃ out, d_L_617 oS sc i I R L = some out ∧ Sm out.1 out.2.1 := by
  obtain ⟨v, J, J2, e1, e2, hS⟩ := s_write h
  unfold d_L_617
  rw [e1, ob]
  dsimp only
  rw [e2, ob]
  exact ⟨_, rfl, hS⟩
theorem l_case13 (h : Sm I R) : ∃ out, d_L_630 oS sc i I R L = some out ∧ Sm out.1 out.2.1 := by
  obtain ⟨o, v, J2, code, e1, e2, hc, e3, e4, e5, hS⟩ := s_streamAt h (sc (i + 1))
  unfold d_L_630
  rw [e1, ob, e2, ob, e3, ob]
  unfold d_M_thrown
  rw [ob]
  refine ⟨_, l_end2 e4 (fun z => ?_), hS⟩
  rw [e5 (nI_4 hc z)]
  exact hcL_self v L
theorem l_case14 (h : Sm I R) : ∃ out, d_L_686 oS sc i I R L = some out ∧ Sm out.1 out.2.1 := by
  obtain ⟨o, v, J2, code, e1, e2, hc, e3, e4, e5, hS⟩ := s_pointer h (sc (i + 1))
  unfold d_L_686
  rw [e1, ob, e2, ob, e3, ob]
  exact ⟨_, rfl, hS⟩
theorem l_case15 (h : Sm I R) : ∃ out, d_L_714 oS sc i I R L = some out ∧ Sm out.1 out.2.1 := by
  obtain ⟨v, J2, e1, e2, hS⟩ := s_told h (sc (i + 1))
  unfold d_L_714
  rw [e1, ob, e2, ob]
  exact ⟨_, rfl, hS⟩
theorem l_case16 (h : Sm I R) : ∃ out, d_L_739 oS sc i I R L = some out ∧ Sm out.1 out.2.1 := by
  obtain ⟨J, J2, e1, e2, hS⟩ := s_clear h
  unfold d_L_739
  rw [e1, ob, e2, ob]
  exact ⟨_, rfl, hS⟩
theorem l_step (h : Sm I R) (xs : Nat → Int32) (i : Nat) (L : ax_L) : ∃ out, d_L_step oS xs i I R L = some out ∧ Sm out.1 out.2.1 := by
  unfold d_L_step
  by_cases z0 : xs i &&& 31 = 0
  · rw [if_pos z0]
    exact l_case0 h
  rw [if_neg z0]
  by_cases z1 : xs i &&& 31 = 1
  · rw [if_pos z1]
    exact l_case1 h
  rw [if_neg z1]
  by_cases z2 : xs i &&& 31 = 2
  · rw [if_pos z2]
    exact l_case2 h
  rw [if_neg z2]
  by_cases z3 : xs i &&& 31 = 3
  · rw [if_pos z3]
    exact l_case3 h
  rw [if_neg z3]
  by_cases z4 : xs i &&& 31 = 4
  · rw [if_pos z4]
    exact l_case4 h
  rw [if_neg z4]
  by_cases z5 : xs i &&& 31 = 5
  · rw [if_pos z5]
    exact l_case5 h
  rw [if_neg z5]
  by_cases z6 : xs i &&& 31 = 6
  · rw [if_pos z6]
    exact l_case6 h
  rw [if_neg z6]
  by_cases z7 : xs i &&& 31 = 7
  · rw [if_pos z7]
    exact l_case7 h
  rw [if_neg z7]
  by_cases z8 : xs i &&& 31 = 8
  · rw [if_pos z8]
    exact l_case8 h
  rw [if_neg z8]
  by_cases z9 : xs i &&& 31 = 9
  · rw [if_pos z9]
    exact l_case9 h
  rw [if_neg z9]
  by_cases z10 : xs i &&& 31 = 10
  · rw [if_pos z10]
    exact l_case10 h
  rw [if_neg z10]
  by_cases z11 : xs i &&& 31 = 11
  · rw [if_pos z11]
    exact l_case11 h
  rw [if_neg z11]
  by_cases z12 : xs i &&& 31 = 12
  · rw [if_pos z12]
    exact l_case12 h
  rw [if_neg z12]
  by_cases z13 : xs i &&& 31 = 13
  · rw [if_pos z13]
    exact l_case13 h
  rw [if_neg z13]
  by_cases z14 : xs i &&& 31 = 14
  · rw [if_pos z14]
    exact l_case14 h
  rw [if_neg z14]
  by_cases z15 : xs i &&& 31 = 15
  · rw [if_pos z15]
    exact l_case15 h
  rw [if_neg z15]
  by_cases z16 : xs i &&& 31 = 16
  · rw [if_pos z16]
    exact l_case16 h
  rw [if_neg z16]
  exact ⟨_, rfl, h⟩
end STEP
