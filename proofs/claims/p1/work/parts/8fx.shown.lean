/-! a tile's own sample -/
def ownG : Nat → Bool → Nat → Nat → Nat → Nat → Nat × Nat
  | 0, mi, w, _, x, y => (if mi then w - 1 - x else x, y)
  | n + 1, mi, w, h, x, y => ownG n mi h w y (w - 1 - x)
def own8 (v w h x y : Nat) : Nat × Nat := ownG (v % 4) (decide (4 ≤ v)) w h x y
theorem own_lt {v w h x y : Nat} (hv : v < 8) (hx : x < w) (hy : y < h) : (own8 v w h x y).1 < (if v % 2 = 1 then h else w) ∧ (own8 v w h x y).2 < (if v % 2 = 1 then w else h) := by
  have hv' : v = 0 ∨ v = 1 ∨ v = 2 ∨ v = 3 ∨ v = 4 ∨ v = 5 ∨ v = 6 ∨ v = 7 := by omega
  rcases hv' with rfl | rfl | rfl | rfl | rfl | rfl | rfl | rfl <;> simp [own8, ownG] <;> omega
theorem own_come {v w h x y : Nat} (hv : v < 8) (hx : x < w) (hy : y < h) {ox oy : Nat} (h1 : ox < (if v % 2 = 1 then h else w)) (h2 : oy < (if v % 2 = 1 then w else h)) : come v (if v % 2 = 1 then h else w) (if v % 2 = 1 then w else h) ox oy = (x, y) ↔ (ox, oy) = own8 v w h x y := by
  have hv' : v = 0 ∨ v = 1 ∨ v = 2 ∨ v = 3 ∨ v = 4 ∨ v = 5 ∨ v = 6 ∨ v = 7 := by omega
  rcases hv' with rfl | rfl | rfl | rfl | rfl | rfl | rfl | rfl <;> simp [own8, ownG, come, cq] at * <;> omega
def cov (x y : Nat) (t : Tl) : Bool := decide (t.1.1 ≤ x ∧ x < t.1.1 + t.2.1.1 ∧ t.1.2 ≤ y ∧ y < t.1.2 + t.2.1.2)
def ownV (t : Tl) (x y : Nat) : Nat := 64 * (own8 t.2.2.1 t.2.1.1 t.2.1.2 (x - t.1.1) (y - t.1.2)).2 + (own8 t.2.2.1 t.2.1.1 t.2.1.2 (x - t.1.1) (y - t.1.2)).1
theorem first_ex (x y : Nat) (l : List Tl) : (∀ t ∈ l, cov x y t = false) ∨ ∃ (j : Nat) (t : Tl), l[j]? = some t ∧ cov x y t = true ∧ ∀ (i : Nat) (s : Tl), i < j → l[i]? = some s → cov x y s = false := by
  induction l with
  | nil => exact Or.inl (fun t ht => by cases ht)
  | cons a l ih =>
    cases h : cov x y a with
    | true => exact Or.inr ⟨0, a, rfl, h, fun i s hi => by omega⟩
    | false =>
      rcases ih with z | ⟨j, t, h1, h2, h3⟩
      · refine Or.inl (fun t ht => ?_)
        rcases List.mem_cons.mp ht with rfl | w
        · exact h
        · exact z t w
      · refine Or.inr ⟨j + 1, t, h1, h2, fun i s hi hs => ?_⟩
        cases i with
        | zero =>
          have : a = s := by simpa using hs
          rw [← this]
          exact h
        | succ i => exact h3 i s (by omega) hs
section MSH
variable {I : ax_I} {R : ax_R} {now fw fh since : Nat} {a b : Pc} {st : List Nat}
theorem m_ownF (S : ax_S) (K : ax_I) (R : ax_R) {v W H x y ox oy : Nat} (hv : v < 8) (w1 : 1 ≤ W) (w2 : W ≤ 64) (h1 : 1 ≤ H) (h2 : H ≤ 64) (hx : x < 64) (hy : y < 64) (hox : ox < W) (hoy : oy < H) (hu : ∀ c d, c < W → d < H → (come v W H c d = (x, y) ↔ (c, d) = (ox, oy))) : d_M_ownOf S K R (nI v) (nI x) (nI y) (nI W) (nI H) = some (nI (64 * oy + ox)) := by
  have hwh : W * H ≤ 64 * 64 := Nat.mul_le_mul w2 h2
  have hk : W * oy + ox < W * H := by
    have : W * oy + W ≤ W * H := by
      rw [← Nat.mul_succ]
      exact Nat.mul_le_mul (Nat.le_refl _) hoy
    omega
  have main : ∀ (m n k : Nat), k + m = W * H → m < n → d_M_ownOf_6 S n K R (nI v) (nI x) (nI y) (nI W) (nI H) (if W * oy + ox < k then nI (64 * oy + ox) else -1) (nI k) = some (nI (64 * oy + ox)) := by
    intro m
    induction m with
    | zero =>
      intro n k hk' hn'
      obtain ⟨n, rfl⟩ : ∃ n', n = n' + 1 := ⟨n - 1, by omega⟩
      rw [d_M_ownOf_6, nI_mul, if_pos (nI_le (by omega) (by omega)), if_pos (by omega)]
    | succ m ih =>
      intro n k hk' hn'
      obtain ⟨n, rfl⟩ : ∃ n', n = n' + 1 := ⟨n - 1, by omega⟩
      have hc : k % W < W := Nat.mod_lt _ (by omega)
      have hd : k / W < H := Nat.div_lt_of_lt_mul (by omega)
      have hdm := Nat.div_add_mod k W
      have cl := come_lt (v := v) (W := W) (H := H) (x := k % W) (y := k / W) hv hc hd
      have b1 : (if v % 2 = 1 then H else W) ≤ 64 := by split <;> omega
      have b2 : (if v % 2 = 1 then W else H) ≤ 64 := by split <;> omega
      have hiff := hu (k % W) (k / W) hc hd
      rw [d_M_ownOf_6, nI_mul, if_neg (nI_ge (by omega) (by omega)), if_neg (nI_ne0 (by omega) (by omega)), if_neg (nI_ne0 (by omega) (by omega)), n_rem (by omega) (by omega) (by omega), pk_div (by omega) (by omega) (by omega), m_come S K R hv (by omega) (by omega) hc hd, ob, show (1000 : Int32) = nI 1000 from rfl, nI_mul, nI_add]
      unfold d_M_ownOf_57
      obtain ⟨cx, hcx⟩ : ∃ cx, cx = (come v W H (k % W) (k / W)).1 := ⟨_, rfl⟩
      obtain ⟨cy, hcy⟩ : ∃ cy, cy = (come v W H (k % W) (k / W)).2 := ⟨_, rfl⟩
      have ec : come v W H (k % W) (k / W) = (cx, cy) := by rw [hcx, hcy]
      rw [← hcx, ← hcy] at cl ⊢
      rw [ec] at hiff
      by_cases z : (cx, cy) = (x, y)
      · have e := hiff.mp z
        have e1 : k % W = ox := congrArg Prod.fst e
        have e2 : k / W = oy := congrArg Prod.snd e
        have z1 : cx = x := congrArg Prod.fst z
        have z2 : cy = y := congrArg Prod.snd z
        rw [if_pos (by rw [z1, z2]), if_neg (nI_ne0 (by omega) (by omega)), if_neg (nI_ne0 (by omega) (by omega)), show (64 : Int32) = nI 64 from rfl, nI_mul, nI_add, nI_1]
        have ih' := ih n (k + 1) (by omega) (by omega)
        rw [e1, e2] at hdm
        rw [if_pos (by omega)] at ih'
        rw [e1, e2]
        exact ih'
      · have ne : ¬ (k % W, k / W) = (ox, oy) := fun y => z (hiff.mpr y)
        have nk : ¬ W * oy + ox = k := by
          intro y
          apply ne
          rw [← y, Nat.mul_add_mod, Nat.mod_eq_of_lt hox, Nat.mul_add_div (by omega), Nat.div_eq_of_lt hox, Nat.add_zero]
        rw [if_neg (fun yy => z (by
          have := (nI_eq (by omega) (by omega)).mp yy
          have e1 : cx = x := by omega
          have e2 : cy = y := by omega
          rw [e1, e2])), nI_1]
        have ih' := ih n (k + 1) (by omega) (by omega)
        by_cases w : W * oy + ox < k
        · rw [if_pos (by omega)] at ih'
          rw [if_pos w]
          exact ih'
        · rw [if_neg (by omega)] at ih'
          rw [if_neg w]
          exact ih'
  have := main (W * H) 5000 0 (by omega) (by omega)
  rw [if_neg (by omega)] at this
  exact this
theorem m_shStep (hR : mOk oS R) (hM : MR I now a b fw fh since st) (ha : okP a) (c0 : I 210 0 = 0) {x y k : Nat} {t : Tl} (hx : x < a.1.1) (hy : y < a.1.2) (ht : a.2.1[k]? = some t) (n : Nat) : (cov x y t = false → d_M_shown_20 oS (n + 1) I R 210 (nI x) (nI y) (nI k) = d_M_shown_20 oS n I R 210 (nI x) (nI y) (nI (k + 1))) ∧ (cov x y t = true → d_M_shown_20 oS (n + 1) I R 210 (nI x) (nI y) (nI k) = some (nI (4096 * k + ownV t x y), I)) := by
  obtain ⟨hn, n3, ⟨⟨p1, p2, p3, p4⟩, pt, pn⟩, hb', -⟩ := hM
  obtain ⟨-, -, ix, -⟩ := mx2 hR hn
  have l40 := ha.2.1.1
  have oW := ha.1
  have hlt : k < a.2.1.length := (List.getElem?_eq_some_iff.mp ht).1
  obtain ⟨⟨q1, q2, q3, q4, q5, q6⟩, -⟩ := pt k t ht
  obtain ⟨⟨s1, s2, s3, s4⟩, ⟨o1, o2⟩, hw8, hbl, -⟩ := ha.2.2.1 t (List.mem_of_getElem? ht)
  have e40 : (40 : Int32) * nI now + nI k = nI (40 * now + k) := by rw [show (40 : Int32) = nI 40 from rfl, nI_mul, nI_add]
  obtain ⟨⟨t1, t2, t3⟩, t4, t5, t6⟩ := mxT hR (show 40 * now + k < 80 by omega) rfl
  have ex : nI (t.1.1 + t.2.1.1) - 1 = nI (t.1.1 + t.2.1.1 - 1) := nI_sub (b := 1) (by omega)
  have ey : nI (t.1.2 + t.2.1.2) - 1 = nI (t.1.2 + t.2.1.2 - 1) := nI_sub (b := 1) (by omega)
  rw [d_M_shown_20, mr_6 hR, ob, n3, ix, ob, p3, if_neg (nI_ge hlt (by omega)), if_pos c0]
  unfold d_M_tileAt
  rw [ob, n3, e40, mr_8 hR, ob, t1, ob, ob, t1, ob, mr_10 hR, ob, t3, ob, q1, q3, nI_add, ex]
  have next : d_M_shown_212 oS (d_M_shown_20 oS n) I R 210 (nI x) (nI y) (nI k) = d_M_shown_20 oS n I R 210 (nI x) (nI y) (nI (k + 1)) := by
    unfold d_M_shown_212
    rw [nI_1]
  by_cases z1 : x < t.1.1 ∨ t.1.1 + t.2.1.1 - 1 < x
  · rw [m_in_f (z1.elim (fun z => Or.inl (nI_lt z (by omega))) (fun z => Or.inr (nI_lt z (by omega)))), ob, if_pos bF]
    exact ⟨fun _ => next, fun z => by have := of_decide_eq_true z; omega⟩
  rw [m_in_t (nI_nlt (by omega) (by omega)) (nI_nlt (by omega) (by omega)), ob, if_neg bT, mr_9 hR, ob, t2, ob, ob, t2, ob, mr_11 hR, ob, t4, ob, q2, q4, nI_add, ey]
  by_cases z2 : y < t.1.2 ∨ t.1.2 + t.2.1.2 - 1 < y
  · rw [m_in_f (z2.elim (fun z => Or.inl (nI_lt z (by omega))) (fun z => Or.inr (nI_lt z (by omega)))), ob, if_pos bF]
    exact ⟨fun _ => next, fun z => by have := of_decide_eq_true z; omega⟩
  rw [m_in_t (nI_nlt (by omega) (by omega)) (nI_nlt (by omega) (by omega)), ob, if_neg bT, mr_12 hR, ob, t5, ob, q5, m_turned oS _ R hw8, ob]
  refine ⟨fun z => by have := of_decide_eq_false z; omega, fun _ => ?_⟩
  have hx' : x - t.1.1 < t.2.1.1 := by omega
  have hy' : y - t.1.2 < t.2.1.2 := by omega
  obtain ⟨l1, l2⟩ := own_lt (v := t.2.2.1) hw8 hx' hy'
  have hu : ∀ c d, c < (if t.2.2.1 % 2 = 1 then t.2.1.2 else t.2.1.1) → d < (if t.2.2.1 % 2 = 1 then t.2.1.1 else t.2.1.2) → (come t.2.2.1 (if t.2.2.1 % 2 = 1 then t.2.1.2 else t.2.1.1) (if t.2.2.1 % 2 = 1 then t.2.1.1 else t.2.1.2) c d = (x - t.1.1, y - t.1.2) ↔ (c, d) = ((own8 t.2.2.1 t.2.1.1 t.2.1.2 (x - t.1.1) (y - t.1.2)).1, (own8 t.2.2.1 t.2.1.1 t.2.1.2 (x - t.1.1) (y - t.1.2)).2)) := fun c d hc hd => own_come hw8 hx' hy' hc hd
  have sx : nI x - nI t.1.1 = nI (x - t.1.1) := nI_sub (by omega)
  have sy : nI y - nI t.1.2 = nI (y - t.1.2) := nI_sub (by omega)
  by_cases z : t.2.2.1 % 2 = 1
  · rw [if_pos z, if_pos z] at hu
    rw [if_pos z] at l1 l2
    have hO := m_ownF oS I R hw8 s3 s4 s1 s2 (by omega) (by omega) l1 l2 hu
    rw [decide_eq_true z, if_neg bT, ob, t4, ob, q4]
    unfold d_M_shown_139 d_M_shown_171
    rw [mr_12 hR, ob, t5, ob, q5, m_turned oS _ R hw8, ob, decide_eq_true z, if_neg bT, mr_10 hR, ob, t3, ob, q3, ob, t5, ob, q5, mr_8 hR, ob, t1, ob, q1, mr_9 hR, ob, t2, ob, q2, sx, sy, hO, ob, show (4096 : Int32) = nI 4096 from rfl, nI_mul, nI_add]
    rfl
  · rw [if_neg z, if_neg z] at hu
    rw [if_neg z] at l1 l2
    have hO := m_ownF oS I R hw8 s1 s2 s3 s4 (by omega) (by omega) l1 l2 hu
    rw [decide_eq_false z, if_pos bF, ob, t3, ob, q3]
    unfold d_M_shown_139 d_M_shown_171
    rw [mr_12 hR, ob, t5, ob, q5, m_turned oS _ R hw8, ob, decide_eq_false z, if_pos bF, mr_11 hR, ob, t4, ob, q4, ob, t5, ob, q5, mr_8 hR, ob, t1, ob, q1, mr_9 hR, ob, t2, ob, q2, sx, sy, hO, ob, show (4096 : Int32) = nI 4096 from rfl, nI_mul, nI_add]
    rfl
theorem M_shown (hR : mOk oS R) (hM : MR I now a b fw fh since st) (ha : okP a) (x y : Int32) : (noIx a.1.1 x ∨ noIx a.1.2 y → mAns (d_M_shown oS I R 210 x y) 1 0 (fun J => MR J now a b fw fh since st)) ∧ (∀ x' y', x = nI x' → y = nI y' → x' < a.1.1 → y' < a.1.2 → ((∀ t ∈ a.2.1, cov x' y' t = false) → mAns (d_M_shown oS I R 210 x y) 0 (-1) (fun J => MR J now a b fw fh since st)) ∧ (∀ j t, a.2.1[j]? = some t → cov x' y' t = true → (∀ i s, i < j → a.2.1[i]? = some s → cov x' y' s = false) → mAns (d_M_shown oS I R 210 x y) 0 (nI (4096 * j + ownV t x' y')) (fun J => MR J now a b fw fh since st))) := by
  have l40 := ha.2.1.1
  have oW := ha.1
  obtain ⟨s1, s2⟩ := m_isSample hR hM ha x y
  have stop : ∀ (J : ax_I) (n k : Nat), MR J now a b fw fh since st → k = a.2.1.length → ∀ x y, d_M_shown_20 oS (n + 1) J R 210 x y (nI k) = d_M_shown_218 oS J R 210 := by
    intro J n k hJ hk x y
    obtain ⟨hn, n3, ⟨⟨p1, p2, p3, p4⟩, pt, pn⟩, hb', -⟩ := hJ
    obtain ⟨-, -, ix, -⟩ := mx2 hR hn
    rw [d_M_shown_20, mr_6 hR, ob, n3, ix, ob, p3, if_pos (nI_le (by omega) (by omega))]
  unfold d_M_shown d_M_shown_15
  refine ⟨fun z => ?_, fun x' y' ex ey hx hy => ⟨fun z => ?_, fun j t hj hc hf => ?_⟩⟩
  · rw [s1 z, ob, if_pos bF, ob]
    have hJ := MR_c hM 1
    have c1 : ax_up I 210 0 1 210 0 = 1 := ax_up_self _ _ _ _
    have e : ∀ n, d_M_shown_20 oS (n + 1) (ax_up I 210 0 1) R 210 x y 0 = some (0, ax_up I 210 0 1) := by
      intro n
      obtain ⟨hn, n3, ⟨⟨p1, p2, p3, p4⟩, pt, pn⟩, hb', -⟩ := hJ
      obtain ⟨-, -, ix, -⟩ := mx2 hR hn
      have e218 : d_M_shown_218 oS (ax_up I 210 0 1) R 210 = some (0, ax_up I 210 0 1) := by
        unfold d_M_shown_218
        rw [c1, if_neg (by decide)]
      rw [d_M_shown_20, mr_6 hR, ob, n3, ix, ob, p3, c1, if_neg (show ¬ (1 : Int32) = 0 by decide), e218]
      split <;> rfl
    rw [show (5000 : Nat) = 4999 + 1 from rfl, e]
    exact ⟨_, _, rfl, c1, fun z => (by cases z), hJ⟩
  · subst ex ey
    have hJ := MR_c hM 0
    have c0 : ax_up I 210 0 0 210 0 = 0 := ax_up_self _ _ _ _
    have nx : ¬ (noIx a.1.1 (nI x') ∨ noIx a.1.2 (nI y')) := fun w => w.elim (ix_in (by omega) hx) (ix_in (by omega) hy)
    rw [s2 nx, ob, if_neg bT, ob]
    have go : ∀ (m n k : Nat), k + m = a.2.1.length → m < n → d_M_shown_20 oS n (ax_up I 210 0 0) R 210 (nI x') (nI y') (nI k) = some (-1, ax_up I 210 0 0) := by
      intro m
      induction m with
      | zero =>
        intro n k hk hn'
        obtain ⟨n, rfl⟩ : ∃ n', n = n' + 1 := ⟨n - 1, by omega⟩
        rw [stop _ n k hJ (by omega)]
        unfold d_M_shown_218
        rw [c0, if_pos (by decide)]
      | succ m ih =>
        intro n k hk hn'
        obtain ⟨n, rfl⟩ : ∃ n', n = n' + 1 := ⟨n - 1, by omega⟩
        obtain ⟨t, ht⟩ : ∃ t, a.2.1[k]? = some t := ⟨_, List.getElem?_eq_getElem (by omega)⟩
        rw [(m_shStep hR hJ ha c0 hx hy ht n).1 (z t (List.mem_of_getElem? ht))]
        exact ih n (k + 1) (by omega) (by omega)
    have e := go a.2.1.length 5000 0 (by omega) (by omega)
    have e : d_M_shown_20 oS 5000 (ax_up I 210 0 0) R 210 (nI x') (nI y') 0 = some (-1, ax_up I 210 0 0) := e
    rw [e]
    exact ⟨_, _, rfl, c0, fun _ => rfl, hJ⟩
  · subst ex ey
    have hJ := MR_c hM 0
    have c0 : ax_up I 210 0 0 210 0 = 0 := ax_up_self _ _ _ _
    have hjl : j < a.2.1.length := (List.getElem?_eq_some_iff.mp hj).1
    have nx : ¬ (noIx a.1.1 (nI x') ∨ noIx a.1.2 (nI y')) := fun w => w.elim (ix_in (by omega) hx) (ix_in (by omega) hy)
    rw [s2 nx, ob, if_neg bT, ob]
    have go : ∀ (m n k : Nat), k + m = j → m < n → d_M_shown_20 oS n (ax_up I 210 0 0) R 210 (nI x') (nI y') (nI k) = some (nI (4096 * j + ownV t x' y'), ax_up I 210 0 0) := by
      intro m
      induction m with
      | zero =>
        intro n k hk hn'
        obtain ⟨n, rfl⟩ : ∃ n', n = n' + 1 := ⟨n - 1, by omega⟩
        have hk : k = j := by omega
        subst hk
        exact (m_shStep hR hJ ha c0 hx hy hj n).2 hc
      | succ m ih =>
        intro n k hk hn'
        obtain ⟨n, rfl⟩ : ∃ n', n = n' + 1 := ⟨n - 1, by omega⟩
        obtain ⟨s, hs⟩ : ∃ s, a.2.1[k]? = some s := ⟨_, List.getElem?_eq_getElem (by omega)⟩
        rw [(m_shStep hR hJ ha c0 hx hy hs n).1 (hf k s (by omega) hs)]
        exact ih n (k + 1) (by omega) (by omega)
    have e := go j 5000 0 (by omega) (by omega)
    have e : d_M_shown_20 oS 5000 (ax_up I 210 0 0) R 210 (nI x') (nI y') 0 = some (nI (4096 * j + ownV t x' y'), ax_up I 210 0 0) := e
    rw [e]
    exact ⟨_, _, rfl, c0, fun _ => rfl, hJ⟩
end MSH
section KSH
variable {I J : ax_I} {R : ax_R} {f g : Nat → Nat → Nat} {p q r fw fh since : Nat} {a a' b : Pc} {st : List Nat}
theorem k_ownF {u v : Nat} (h6 : I u 6 = nI v) (hv : v < 8) (S : ax_S) : ∀ (m n k x y w h : Nat), k + m = v % 4 → m < n → x < w → y < h → w ≤ 64 → h ≤ 64 → d_T_ownSample_30 S n I R u (nI x) (nI y) (nI w) (nI h) (nI k) = some (nI (64 * (ownG m (decide (4 ≤ v)) w h x y).2 + (ownG m (decide (4 ≤ v)) w h x y).1)) := by
  intro m
  have e4 : nI v &&& 3 = nI (v % 4) := q_t ⟨v, hv⟩
  induction m with
  | zero =>
    intro n k x y w h hk hn' hx hy hw hh
    obtain ⟨n, rfl⟩ : ∃ n', n = n' + 1 := ⟨n - 1, by omega⟩
    have e1 : nI w - 1 = nI (w - 1) := nI_sub (b := 1) (by omega)
    rw [d_T_ownSample_30]
    unfold d_K_quarters d_K_mirrors d_T_ownSample_92
    rw [ob, h6, e4, if_pos (nI_le (by omega) (by omega))]
    by_cases z : 4 ≤ v
    · rw [if_neg (show ¬ nI v < 4 from nI_nlt (b := 4) z (by omega)), ob, if_neg bT, e1, nI_sub (by omega), show (64 : Int32) = nI 64 from rfl, nI_mul, nI_add, decide_eq_true z]
      rfl
    · rw [if_pos (show nI v < 4 from nI_lt (b := 4) (by omega) (by decide)), ob, if_pos bF, show (64 : Int32) = nI 64 from rfl, nI_mul, nI_add, decide_eq_false z]
      rfl
  | succ m ih =>
    intro n k x y w h hk hn' hx hy hw hh
    obtain ⟨n, rfl⟩ : ∃ n', n = n' + 1 := ⟨n - 1, by omega⟩
    have e1 : nI w - 1 = nI (w - 1) := nI_sub (b := 1) (by omega)
    rw [d_T_ownSample_30]
    unfold d_K_quarters
    rw [ob, h6, e4, if_neg (nI_ge (by omega) (by omega)), e1, nI_sub (by omega), nI_1]
    exact ih n (k + 1) y (w - 1 - x) h w (by omega) (by omega) hy (by omega) hh hw
theorem cov_ap (x y : Nat) (t : Tl) : (cov x y t = false → apart ((x, y), (1, 1), 0, []) t) ∧ (cov x y t = true → ¬ apart ((x, y), (1, 1), 0, []) t) := by
  refine ⟨fun z => ?_, fun z => ?_⟩
  · have z := of_decide_eq_false z
    show x + 1 ≤ t.1.1 ∨ t.1.1 + t.2.1.1 ≤ x ∨ y + 1 ≤ t.1.2 ∨ t.1.2 + t.2.1.2 ≤ y
    omega
  · have z := of_decide_eq_true z
    show ¬ (x + 1 ≤ t.1.1 ∨ t.1.1 + t.2.1.1 ≤ x ∨ y + 1 ≤ t.1.2 ∨ t.1.2 + t.2.1.2 ≤ y)
    omega
theorem k_toStep (hQ : KQ R f g p q) (hr : isP r) (hP : KP I f g r a) (ha : okP a) {x y k : Nat} {t : Tl} (b3 : x ≤ 400) (b4 : y ≤ 400) (ht : a.2.1[k]? = some t) (n : Nat) : (cov x y t = false → d_P_tileOver_2 oS (n + 1) I R r (nI x) (nI y) (nI k) = d_P_tileOver_2 oS n I R r (nI x) (nI y) (nI (k + 1))) ∧ (cov x y t = true → d_P_tileOver_2 oS (n + 1) I R r (nI x) (nI y) (nI k) = some (nI k)) := by
  have l40 := ha.2.1.1
  have oW := ha.1
  have hlt : k < a.2.1.length := (List.getElem?_eq_some_iff.mp ht).1
  obtain ⟨-, ⟨o1, o2⟩, -⟩ := ha.2.2.1 t (List.mem_of_getElem? ht)
  obtain ⟨v1, v2⟩ := k_over (R := R) (hP.2.1 k t ht) (x := x) (y := y) (w := 1) (h := 1) (by omega) (by omega) (by omega) (by omega) oS
  obtain ⟨w1, w2⟩ := cov_ap x y t
  rw [d_P_tileOver_2, hP.1.2.2.1, if_neg (nI_ge hlt (by omega)), (hQ.2.2.1 r hr).1, ob, kxT hr (by omega), ob, (hQ.2.2.2.1 r k hr (by omega)).1, ob]
  refine ⟨fun z => ?_, fun z => ?_⟩
  · have v1 : d_T_overlaps oS I R (f r k) (nI x) (nI y) 1 1 = some false := v1 (w1 z)
    rw [v1, ob, if_pos bF, nI_1]
  · have v2 : d_T_overlaps oS I R (f r k) (nI x) (nI y) 1 1 = some true := v2 (w2 z)
    rw [v2, ob, if_neg bT]
theorem K_shown (hK : KR I R f g p q a b fw fh since st) (ha : okP a) (x y : Int32) : (noIx a.1.1 x ∨ noIx a.1.2 y → d_K_shown oS I R 0 x y = some (.inr "java/lang/IndexOutOfBoundsException")) ∧ (∀ x' y', x = nI x' → y = nI y' → x' < a.1.1 → y' < a.1.2 → ((∀ t ∈ a.2.1, cov x' y' t = false) → d_K_shown oS I R 0 x y = some (.inl (-1))) ∧ (∀ j t, a.2.1[j]? = some t → cov x' y' t = true → (∀ i s, i < j → a.2.1[i]? = some s → cov x' y' s = false) → d_K_shown oS I R 0 x y = some (.inl (nI (4096 * j + ownV t x' y'))))) := by
  have l := ha.2.1
  have oW := ha.1
  obtain ⟨hQ, hP, -⟩ := hK
  obtain ⟨pp, pq, hne⟩ := KQ_P hQ
  obtain ⟨s1, s2⟩ := k_hasSample (R := R) hP.1.1 hP.1.2.1 x y
  unfold d_K_shown
  rw [hQ.2.1.1, ob]
  refine ⟨fun z => ?_, fun x' y' ex ey hx hy => ?_⟩
  · rw [s1 z, ob, if_pos bF]
  subst ex ey
  have nx : ¬ (noIx a.1.1 (nI x') ∨ noIx a.1.2 (nI y')) := fun w => w.elim (ix_in (by omega) hx) (ix_in (by omega) hy)
  rw [s2 nx, ob, if_neg bT, ob]
  refine ⟨fun z => ?_, fun j t hj hc hf => ?_⟩
  · have go : ∀ (m n k : Nat), k + m = a.2.1.length → m < n → d_P_tileOver_2 oS n I R p (nI x') (nI y') (nI k) = some (-1) := by
      intro m
      induction m with
      | zero =>
        intro n k hk hn'
        obtain ⟨n, rfl⟩ : ∃ n', n = n' + 1 := ⟨n - 1, by omega⟩
        rw [d_P_tileOver_2, hP.1.2.2.1, if_pos (nI_le (by omega) (by omega))]
      | succ m ih =>
        intro n k hk hn'
        obtain ⟨n, rfl⟩ : ∃ n', n = n' + 1 := ⟨n - 1, by omega⟩
        obtain ⟨t, ht⟩ : ∃ t, a.2.1[k]? = some t := ⟨_, List.getElem?_eq_getElem (by omega)⟩
        rw [(k_toStep hQ pp hP ha (by omega) (by omega) ht n).1 (z t (List.mem_of_getElem? ht))]
        exact ih n (k + 1) (by omega) (by omega)
    have e : d_P_tileOver oS I R p (nI x') (nI y') = some (-1) := go a.2.1.length 5000 0 (by omega) (by omega)
    rw [e, ob, if_pos rfl]
  · have hjl : j < a.2.1.length := (List.getElem?_eq_some_iff.mp hj).1
    have go : ∀ (m n k : Nat), k + m = j → m < n → d_P_tileOver_2 oS n I R p (nI x') (nI y') (nI k) = some (nI j) := by
      intro m
      induction m with
      | zero =>
        intro n k hk hn'
        obtain ⟨n, rfl⟩ : ∃ n', n = n' + 1 := ⟨n - 1, by omega⟩
        have hk : k = j := by omega
        subst hk
        exact (k_toStep hQ pp hP ha (by omega) (by omega) hj n).2 hc
      | succ m ih =>
        intro n k hk hn'
        obtain ⟨n, rfl⟩ : ∃ n', n = n' + 1 := ⟨n - 1, by omega⟩
        obtain ⟨s, hs⟩ : ∃ s, a.2.1[k]? = some s := ⟨_, List.getElem?_eq_getElem (by omega)⟩
        rw [(k_toStep hQ pp hP ha (by omega) (by omega) hs n).1 (hf k s (by omega) hs)]
        exact ih n (k + 1) (by omega) (by omega)
    have e : d_P_tileOver oS I R p (nI x') (nI y') = some (nI j) := go j 5000 0 (by omega) (by omega)
    have hc' := of_decide_eq_true hc
    obtain ⟨⟨w1, w2, w3, w4⟩, ⟨o1, o2⟩, hw8, -⟩ := ha.2.2.1 t (List.mem_of_getElem? hj)
    obtain ⟨⟨q1, q2, q3, q4, q5, q6⟩, -⟩ := hP.2.1 j t hj
    have ne : ¬ nI j = -1 := by
      intro z
      have := congrArg Int32.toInt z
      rw [nI_toInt (by omega)] at this
      have e1 : (-1 : Int32).toInt = -1 := rfl
      omega
    rw [e, ob, if_neg ne, ob, (hQ.2.2.1 p pp).1, ob, kxT pp (by omega), ob, (hQ.2.2.2.1 p j pp (by omega)).1, ob]
    unfold d_T_ownSample
    have hO := k_ownF (R := R) q5 hw8 oS (t.2.2.1 % 4) 5000 0 (x' - t.1.1) (y' - t.1.2) t.2.1.1 t.2.1.2 (by omega) (by omega) (by omega) (by omega) w2 w4
    have hO : d_T_ownSample_30 oS 5000 I R (f p j) (nI (x' - t.1.1)) (nI (y' - t.1.2)) (nI t.2.1.1) (nI t.2.1.2) 0 = some (nI (ownV t x' y')) := hO
    rw [q1, q2, q3, q4, nI_sub (by omega), nI_sub (by omega), hO, ob, show (4096 : Int32) = nI 4096 from rfl, nI_mul, nI_add]
theorem s_shown (h : Sm I R) (x y : Int32) : sResQ (d_K_shown oS I R 0 x y) hc_shown (d_M_shown oS I R 210 x y) R := by
  obtain ⟨hR, hty, f, g, p, q, now, a, b, fw, fh, since, st, hK, hM, oa, ob', hs, hw⟩ := h
  have oW := oa.1
  have fr : frG Prod.snd I (d_M_shown oS I R 210 x y) := f_M_shown hR I _ _ (low_rfl I)
  by_cases z : noIx a.1.1 x ∨ noIx a.1.2 y
  · obtain ⟨v, J2, e, c, h0, hS⟩ := sm_M hR hty hK oa ob' hs hw ((M_shown hR hM oa x y).1 z) fr
    exact ⟨_, v, J2, 1, (K_shown hK oa x y).1 z, rfl, by omega, e, c, fun z => (by cases z), hS⟩
  obtain ⟨x', hx, ex⟩ := idx_of (n := a.1.1) (by omega) (fun w => z (Or.inl (Or.inl w))) (fun w => z (Or.inl (Or.inr w)))
  obtain ⟨y', hy, ey⟩ := idx_of (n := a.1.2) (by omega) (fun w => z (Or.inr (Or.inl w))) (fun w => z (Or.inr (Or.inr w)))
  obtain ⟨m1, m2⟩ := (M_shown hR hM oa x y).2 x' y' ex ey hx hy
  obtain ⟨k1, k2⟩ := (K_shown hK oa x y).2 x' y' ex ey hx hy
  rcases first_ex x' y' a.2.1 with w | ⟨j, t, h1, h2, h3⟩
  · obtain ⟨v, J2, e, c, h0, hS⟩ := sm_M hR hty hK oa ob' hs hw (m1 w) fr
    exact ⟨_, v, J2, 0, k1 w, rfl, by omega, e, c, fun z => by rw [h0 rfl], hS⟩
  · obtain ⟨v, J2, e, c, h0, hS⟩ := sm_M hR hty hK oa ob' hs hw (m2 j t h1 h2 h3) fr
    exact ⟨_, v, J2, 0, k2 j t h1 h2 h3, rfl, by omega, e, c, fun z => by rw [h0 rfl], hS⟩
end KSH
