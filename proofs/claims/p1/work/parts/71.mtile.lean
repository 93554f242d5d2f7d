/-! the reference: tile -/
def mAns (r : Option (Int32 × ax_I)) (code : Nat) (ans : Int32) (Q : ax_I → Prop) : Prop := ∃ v J, r = some (v, J) ∧ J 210 0 = nI code ∧ (code = 0 → v = ans) ∧ Q J
theorem arg_rect {W : Nat} (hW : W ≤ 400) {a c : Int32} (h1 : ¬ c < 1) (h2 : ¬ a < 0) (h3 : ¬ nI W - c < a) : ∃ x w, a = nI x ∧ c = nI w ∧ 1 ≤ w ∧ x + w ≤ W := by
  have hc0 : ¬ c < 0 := by
    intro z
    apply h1
    rw [Int32.lt_iff_toInt_lt] at *
    have e0 : (0 : Int32).toInt = 0 := rfl
    have e1 : (1 : Int32).toInt = 1 := rfl
    omega
  obtain ⟨x, hx, rfl⟩ := nI_of h2
  obtain ⟨w, hw, rfl⟩ := nI_of hc0
  refine ⟨x, w, rfl, rfl, ?_, ?_⟩
  · rw [Int32.lt_iff_toInt_lt, nI_toInt hw] at h1
    have e1 : (1 : Int32).toInt = 1 := rfl
    omega
  · have e : (nI W - nI w).toInt = (W : Int) - (w : Int) := by
      rw [Int32.toInt_sub, nI_toInt (by omega), nI_toInt hw]
      exact Int.bmod_eq_of_le (by omega) (by omega)
    rw [Int32.lt_iff_toInt_lt, e, nI_toInt hx] at h3
    omega
theorem arg_rect' {W x w : Nat} (hW : W ≤ 400) (hw : 1 ≤ w) (h : x + w ≤ W) : ¬ nI w < 1 ∧ ¬ nI x < 0 ∧ ¬ nI W - nI w < nI x := by
  refine ⟨?_, nI_pos (by omega), ?_⟩
  · exact nI_nlt (a := w) (b := 1) hw (by omega)
  · rw [nI_sub (by omega)]
    exact nI_nlt (by omega) (by omega)
section MTILE
variable {I : ax_I} {R : ax_R} {now fw fh since : Nat} {a b : Pc} {st : List Nat}
theorem m_t196 (hR : mOk oS R) (x1 x2 x3 x4 : Int32) {y : Int32} (hy : ¬ y ≤ 0) : d_M_tile_196 oS I R 210 x1 x2 x3 x4 y 210 = some (0, ax_up I 210 0 y) := by
  unfold d_M_tile_196
  rw [Option.bind_some, if_neg (up_le hy)]
/-- a tile more -/
def addT (p : Pc) (t : Tl) : Pc := (p.1, p.2.1 ++ [t], p.2.2)
theorem m_t196a (hR : mOk oS R) (hM : MR I now a b fw fh since st) (hb : okP b) (hl : a.2.1.length < 40) (x y w h : Nat) : mAns (d_M_tile_196 oS I R 210 (nI x) (nI y) (nI w) (nI h) 0 210) 0 (nI a.2.1.length) (fun J => MR J now (addT a ((x, y), (w, h), 0, [])) b fw fh since st) := by
  unfold d_M_tile_196 d_M_tileAt
  rw [Option.bind_some, if_pos (up_ge (by decide))]
  obtain ⟨J1, hJ1⟩ : ∃ J1, J1 = ax_up I 210 0 0 := ⟨_, rfl⟩
  have hM1 : MR J1 now a b fw fh since st := by rw [hJ1]; exact MR_up (Or.inl ⟨rfl, Or.inl rfl⟩) hM
  have c0 : J1 210 0 = 0 := by rw [hJ1, ax_up_self]
  rw [← hJ1]
  clear hJ1 hM
  have hM2 := hM1
  obtain ⟨hn, n3, ⟨⟨p1, p2, p3, p4⟩, pt, pn⟩, hb', -⟩ := hM1
  obtain ⟨-, -, ix, -⟩ := mx2 hR hn
  have e40 : (40 : Int32) * nI now + nI a.2.1.length = nI (40 * now + a.2.1.length) := by rw [show (40 : Int32) = nI 40 from rfl, nI_mul, nI_add]
  obtain ⟨⟨t1, t2, t3⟩, t4, t5, t6⟩ := mxT hR (show 40 * now + a.2.1.length < 80 by omega) e40
  rw [mr_6 hR, ob, n3, ix, ob, ob, p3, mr_8 hR, ob, t1, ob, ob, mr_9 hR, ob, t2, ob, ob, mr_10 hR, ob, t3, ob, ob, mr_11 hR, ob, t4, ob, ob, mr_12 hR, ob, t5, ob, ob, mr_13 hR, ob, t6, ob, ob, ob]
  obtain ⟨J2, hJ2⟩ : ∃ J2, J2 = ax_up (ax_up (ax_up (ax_up (ax_up (ax_up J1 215 (40 * now + a.2.1.length) (nI x)) 216 (40 * now + a.2.1.length) (nI y)) 217 (40 * now + a.2.1.length) (nI w)) 218 (40 * now + a.2.1.length) (nI h)) 219 (40 * now + a.2.1.length) 0) 220 (40 * now + a.2.1.length) 0 := ⟨_, rfl⟩
  have g : ∀ i k, i < 215 ∨ 220 < i → J2 i k = J1 i k := by
    intro i k hi
    rw [hJ2, ax_up_ne (by omega), ax_up_ne (by omega), ax_up_ne (by omega), ax_up_ne (by omega), ax_up_ne (by omega), ax_up_ne (by omega)]
  have g2 : ∀ i k, k ≠ 40 * now + a.2.1.length → J2 i k = J1 i k := by
    intro i k hi
    rw [hJ2, ax_up_ne (by omega), ax_up_ne (by omega), ax_up_ne (by omega), ax_up_ne (by omega), ax_up_ne (by omega), ax_up_ne (by omega)]
  rw [← hJ2, g 210 3 (by omega), n3, ix, ob, ob, ob, ob, g 213 now (by omega), p3, nI_1]
  have e3 : ax_up (ax_up J2 213 now (nI (a.2.1.length + 1))) 210 19 0 210 3 = nI now := by rw [ax_up_ne (by omega), ax_up_ne (by omega), g 210 3 (by omega), n3]
  rw [ob, e3, ix, ob, ax_up_ne (show ¬ (213 = 210 ∧ now = 19) by omega), ax_up_self, nI_pred]
  have k1 : ∀ i k, i ≠ 213 → ¬ (i = 210 ∧ k = 19) → i < 215 ∨ 220 < i → ax_up (ax_up J2 213 now (nI (a.2.1.length + 1))) 210 19 0 i k = J1 i k := fun i k z1 z2 z3 => by rw [ax_up_ne (by omega), ax_up_ne (by omega), g _ _ z3]
  refine ⟨_, _, rfl, (k1 _ _ (by omega) (by omega) (by omega)).trans c0, fun _ => rfl, MR_mk hM2 (fun k hk => k1 _ _ (by omega) (by omega) (by omega)) (fun k => k1 _ _ (by omega) (by omega) (by omega)) ⟨⟨(k1 _ _ (by omega) (by omega) (by omega)).trans p1, (k1 _ _ (by omega) (by omega) (by omega)).trans p2, ?_, (k1 _ _ (by omega) (by omega) (by omega)).trans p4⟩, fun k t hk => ?_, fun k n hk => ?_⟩ (MP_keep hb' hb (fun i z1 z2 => ?_) (fun i m z1 z2 z3 z4 => ?_) (fun m z1 z2 => k1 _ _ (by omega) (by omega) (by omega)) (fun i m z1 z2 z3 z4 => k1 _ _ (by omega) (by omega) (by omega)))⟩
  · rw [ax_up_ne (by omega), ax_up_self]; unfold addT; rw [List.length_append]; rfl
  · refine MT_up (by omega) (MT_up (by omega) ?_)
    have hk' : (a.2.1 ++ [((x, y), (w, h), 0, [])])[k]? = some t := hk
    by_cases hlt : k < a.2.1.length
    · rw [List.getElem?_append_left hlt] at hk'
      obtain ⟨⟨q1, q2, q3, q4, q5, q6⟩, q7⟩ := pt k t hk'
      exact ⟨⟨(g2 _ _ (by omega)).trans q1, (g2 _ _ (by omega)).trans q2, (g2 _ _ (by omega)).trans q3, (g2 _ _ (by omega)).trans q4, (g2 _ _ (by omega)).trans q5, (g2 _ _ (by omega)).trans q6⟩, fun j c hj => (g 221 _ (by omega)).trans (q7 j c hj)⟩
    · rw [List.getElem?_append_right (by omega)] at hk'
      have hz : k - a.2.1.length < 1 := (List.getElem?_eq_some_iff.mp hk').1
      have hk2 : k = a.2.1.length := by omega
      subst hk2
      simp at hk'
      subst hk'
      refine ⟨⟨?_, ?_, ?_, ?_, ?_, ?_⟩, fun j c hj => by cases hj⟩ <;> rw [hJ2] <;> simp [ax_up] <;> rfl
  · obtain ⟨q1, q2, q3⟩ := pn k n hk
    exact ⟨(k1 _ _ (by omega) (by omega) (by omega)).trans q1, (k1 _ _ (by omega) (by omega) (by omega)).trans q2, (k1 _ _ (by omega) (by omega) (by omega)).trans q3⟩
  · rw [ax_up_ne (by omega), ax_up_ne (by omega), g _ _ (by omega)]
  · rw [ax_up_ne (by omega), ax_up_ne (by omega), g2 _ _ (by omega)]
/-- the reference's loop over the tiles: the first that isn't apart ends it -/
theorem m_t166 (hR : mOk oS R) (hM : MR I now a b fw fh since st) (hb : okP b) (ha : okP a) (h0 : I 210 0 = 0) (x y w h : Nat) : (a.2.1.length = 40 → d_M_tile_166 oS I R 210 (nI x) (nI y) (nI w) (nI h) = some (0, ax_up I 210 0 (nI 3))) ∧ (a.2.1.length < 40 → mAns (d_M_tile_166 oS I R 210 (nI x) (nI y) (nI w) (nI h)) 0 (nI a.2.1.length) (fun J => MR J now (addT a ((x, y), (w, h), 0, [])) b fw fh since st)) := by
  have hM' := hM
  obtain ⟨hn, n3, ⟨⟨p1, p2, p3, p4⟩, pt, pn⟩, hb', -⟩ := hM
  obtain ⟨-, -, ix, -⟩ := mx2 hR hn
  unfold d_M_tile_166
  rw [h0, if_pos rfl, mr_6 hR, ob, n3, ix, ob, p3]
  refine ⟨fun e => ?_, fun e => ?_⟩
  · rw [e, if_pos (show nI 40 = 40 from rfl)]
    exact m_t196 hR _ _ _ _ (by decide)
  · rw [if_neg (fun z => by have := (nI_eq (by omega) (by omega)).mp (show nI a.2.1.length = nI 40 from z); omega)]
    unfold d_M_tile_192
    rw [h0]
    exact m_t196a hR hM' hb e x y w h
theorem m_t166x (hR : mOk oS R) {c : Int32} (h0 : I 210 0 = c) (hc : ¬ c ≤ 0) (x1 x2 x3 x4 : Int32) : d_M_tile_166 oS I R 210 x1 x2 x3 x4 = some (0, I) := by
  unfold d_M_tile_166
  rw [h0, if_neg (fun z => hc (by rw [z]; decide))]
  unfold d_M_tile_192
  rw [h0, m_t196 hR _ _ _ _ hc, ax_up_id h0]
theorem m_tloop (hR : mOk oS R) (hM : MR I now a b fw fh since st) (ha : okP a) (h0 : I 210 0 = 0) {x y w h : Nat} (hx : x + w ≤ 400) (hy : y + h ≤ 400) : ∀ (m n k : Nat), k + m = a.2.1.length → m < n → ((∀ t ∈ a.2.1.drop k, apart ((x, y), (w, h), 0, []) t) → d_M_tile_45 oS n I R 210 (nI x) (nI y) (nI w) (nI h) (nI k) = d_M_tile_166 oS I R 210 (nI x) (nI y) (nI w) (nI h)) ∧ ((¬ ∀ t ∈ a.2.1.drop k, apart ((x, y), (w, h), 0, []) t) → d_M_tile_45 oS n I R 210 (nI x) (nI y) (nI w) (nI h) (nI k) = some (0, ax_up I 210 0 (nI 2))) := by
  have hM' := hM
  obtain ⟨hn, n3, ⟨⟨p1, p2, p3, p4⟩, pt, pn⟩, hb', -⟩ := hM
  obtain ⟨-, -, ix, -⟩ := mx2 hR hn
  have l40 := ha.2.1.1
  intro m
  induction m with
  | zero =>
    intro n k hk hn'
    obtain ⟨n, rfl⟩ : ∃ n', n = n' + 1 := ⟨n - 1, by omega⟩
    have hk : k = a.2.1.length := by omega
    subst hk
    rw [d_M_tile_45, mr_6 hR, ob, n3, ix, ob, p3, if_pos (nI_le (Nat.le_refl _) (by omega))]
    refine ⟨fun _ => rfl, fun z => absurd (fun t ht => ?_) z⟩
    rw [List.drop_length] at ht
    cases ht
  | succ m ih =>
    intro n k hk hn'
    obtain ⟨n, rfl⟩ : ∃ n', n = n' + 1 := ⟨n - 1, by omega⟩
    have hlt : k < a.2.1.length := by omega
    obtain ⟨t, ht⟩ : ∃ t, a.2.1[k]? = some t := ⟨_, List.getElem?_eq_getElem hlt⟩
    obtain ⟨⟨q1, q2, q3, q4, q5, q6⟩, -⟩ := pt k t ht
    obtain ⟨-, ⟨o1, o2⟩, -⟩ := ha.2.2.1 t (List.mem_of_getElem? ht)
    have oW := ha.1
    have e40 : (40 : Int32) * nI now + nI k = nI (40 * now + k) := by rw [show (40 : Int32) = nI 40 from rfl, nI_mul, nI_add]
    obtain ⟨⟨t1, t2, t3⟩, t4, -, -⟩ := mxT hR (show 40 * now + k < 80 by omega) e40
    have ed : a.2.1.drop k = t :: a.2.1.drop (k + 1) := by rw [List.drop_eq_getElem_cons hlt]; congr 1; rw [List.getElem?_eq_getElem hlt] at ht; exact Option.some.inj ht
    have go : d_M_tile_139 oS (d_M_tile_45 oS n) I R 210 (nI x) (nI y) (nI w) (nI h) (nI k) = d_M_tile_45 oS n I R 210 (nI x) (nI y) (nI w) (nI h) (nI (k + 1)) := by
      unfold d_M_tile_139 d_M_tile_144 d_M_tile_157
      rw [if_neg (by decide), ob, ax_up_id h0, nI_1]
    have stop : d_M_tile_144 oS (d_M_tile_45 oS n) I R 210 (nI x) (nI y) (nI w) (nI h) (nI k) 0 = some (0, ax_up I 210 0 (nI 2)) := by
      unfold d_M_tile_144 d_M_tile_157
      obtain ⟨n, rfl⟩ : ∃ n', n = n' + 1 := ⟨n - 1, by omega⟩
      rw [if_pos rfl, ob, d_M_tile_45, mr_6 hR, ob, ax_up_ne (by omega), n3, ix, ob, ax_up_self, if_neg (show ¬ (2 : Int32) = 0 by decide), m_t166x hR (ax_up_self _ _ _ _) (by decide)]
      split <;> rfl
    obtain ⟨ih1, ih2⟩ := ih n (k + 1) (by omega) (by omega)
    have yes : apart ((x, y), (w, h), 0, []) t → d_M_tile_45 oS (n + 1) I R 210 (nI x) (nI y) (nI w) (nI h) (nI k) = d_M_tile_139 oS (d_M_tile_45 oS n) I R 210 (nI x) (nI y) (nI w) (nI h) (nI k) := by
      intro hap
      have hap : x + w ≤ t.1.1 ∨ t.1.1 + t.2.1.1 ≤ x ∨ y + h ≤ t.1.2 ∨ t.1.2 + t.2.1.2 ≤ y := hap
      rw [d_M_tile_45, mr_6 hR, ob, n3, ix, ob, p3, if_neg (nI_ge hlt (by omega)), h0, if_pos rfl]
      unfold d_M_tileAt
      rw [ob, n3, mr_8 hR, ob, t1, ob, q1, nI_add]
      by_cases z1 : x + w ≤ t.1.1
      · rw [if_pos (nI_le z1 (by omega))]
      rw [if_neg (nI_ge (by omega) (by omega)), ob, t1, ob, mr_10 hR, ob, t3, ob, q1, q3, nI_add]
      by_cases z2 : t.1.1 + t.2.1.1 ≤ x
      · rw [if_pos (nI_le z2 (by omega))]
      rw [if_neg (nI_ge (by omega) (by omega)), mr_9 hR, ob, t2, ob, q2, nI_add]
      by_cases z3 : y + h ≤ t.1.2
      · rw [if_pos (nI_le z3 (by omega))]
      rw [if_neg (nI_ge (by omega) (by omega)), ob, t2, ob, mr_11 hR, ob, t4, ob, q2, q4, nI_add, if_neg (nI_nlt (by omega) (by omega))]
    have no : ¬ apart ((x, y), (w, h), 0, []) t → d_M_tile_45 oS (n + 1) I R 210 (nI x) (nI y) (nI w) (nI h) (nI k) = some (0, ax_up I 210 0 (nI 2)) := by
      intro hap
      have hap : ¬ (x + w ≤ t.1.1 ∨ t.1.1 + t.2.1.1 ≤ x ∨ y + h ≤ t.1.2 ∨ t.1.2 + t.2.1.2 ≤ y) := hap
      rw [d_M_tile_45, mr_6 hR, ob, n3, ix, ob, p3, if_neg (nI_ge hlt (by omega)), h0, if_pos rfl]
      unfold d_M_tileAt
      rw [ob, n3, mr_8 hR, ob, t1, ob, q1, nI_add, if_neg (nI_ge (by omega) (by omega)), ob, t1, ob, mr_10 hR, ob, t3, ob, q1, q3, nI_add, if_neg (nI_ge (by omega) (by omega)), mr_9 hR, ob, t2, ob, q2, nI_add, if_neg (nI_ge (by omega) (by omega)), ob, t2, ob, mr_11 hR, ob, t4, ob, q2, q4, nI_add, if_pos (nI_lt (by omega) (by omega))]
      exact stop
    rw [ed]
    refine ⟨fun z => ?_, fun z => ?_⟩
    · rw [yes (z t List.mem_cons_self), go]
      exact ih1 (fun s hs => z s (List.mem_cons_of_mem _ hs))
    · by_cases hap : apart ((x, y), (w, h), 0, []) t
      · rw [yes hap, go]
        refine ih2 (fun z2 => z (fun s hs => ?_))
        rcases List.mem_cons.mp hs with rfl | hs
        · exact hap
        · exact z2 s hs
      · exact no hap
/-- the arguments of a call that both sides refuse at once -/
def noRect (W H : Nat) (x y w h : Int32) : Prop := w < 1 ∨ h < 1 ∨ x < 0 ∨ y < 0 ∨ nI W - w < x ∨ nI H - h < y
theorem rect_of {W H : Nat} (hW : W ≤ 400) (hH : H ≤ 400) {x y w h : Int32} (z : ¬ noRect W H x y w h) : ∃ x' y' w' h', (x = nI x' ∧ y = nI y' ∧ w = nI w' ∧ h = nI h') ∧ 1 ≤ w' ∧ 1 ≤ h' ∧ x' + w' ≤ W ∧ y' + h' ≤ H := by
  obtain ⟨x', w', e1, e2, e3, e4⟩ := arg_rect hW (fun y => z (Or.inl y)) (fun y => z (Or.inr (Or.inr (Or.inl y)))) (fun y => z (Or.inr (Or.inr (Or.inr (Or.inr (Or.inl y))))))
  obtain ⟨y', h', f1, f2, f3, f4⟩ := arg_rect hH (fun y => z (Or.inr (Or.inl y))) (fun y => z (Or.inr (Or.inr (Or.inr (Or.inl y))))) (fun y => z (Or.inr (Or.inr (Or.inr (Or.inr (Or.inr y))))))
  exact ⟨x', y', w', h', ⟨e1, f1, e2, f2⟩, e3, f3, e4, f4⟩
theorem rect_no {W H x y w h : Nat} (hW : W ≤ 400) (hH : H ≤ 400) (h1 : 1 ≤ w) (h2 : 1 ≤ h) (h3 : x + w ≤ W) (h4 : y + h ≤ H) : ¬ noRect W H (nI x) (nI y) (nI w) (nI h) := by
  obtain ⟨a1, a2, a3⟩ := arg_rect' hW h1 h3
  obtain ⟨b1, b2, b3⟩ := arg_rect' hH h2 h4
  rintro (z | z | z | z | z | z)
  · exact a1 z
  · exact b1 z
  · exact a2 z
  · exact b2 z
  · exact a3 z
  · exact b3 z
theorem m_lies (hR : mOk oS R) (hM : MR I now a b fw fh since st) (x y w h : Int32) : (noRect a.1.1 a.1.2 x y w h → ¬ w < 1 → ¬ h < 1 → d_M_lies oS I R 210 x y w h = some false) ∧ (¬ noRect a.1.1 a.1.2 x y w h → d_M_lies oS I R 210 x y w h = some true) := by
  obtain ⟨hn, n3, ⟨⟨p1, p2, p3, p4⟩, pt, pn⟩, hb', -⟩ := hM
  obtain ⟨i1, i2, -, -⟩ := mx2 hR hn
  unfold d_M_lies
  rw [mr_4 hR, ob, n3, i1, ob, p1, mr_5 hR, ob, i2, ob, p2]
  refine ⟨fun z y1 y2 => ?_, fun z => ?_⟩
  · by_cases z1 : x < 0
    · rw [if_pos z1]
    rw [if_neg z1]
    by_cases z2 : y < 0
    · rw [if_pos z2]
    rw [if_neg z2]
    by_cases z3 : nI a.1.1 - w < x
    · rw [if_pos z3]
    rw [if_neg z3]
    by_cases z4 : nI a.1.2 - h < y
    · rw [if_pos z4]
    rcases z with z | z | z | z | z | z
    · exact absurd z y1
    · exact absurd z y2
    · exact absurd z z1
    · exact absurd z z2
    · exact absurd z z3
    · exact absurd z z4
  · rw [if_neg (fun y => z (Or.inr (Or.inr (Or.inl y)))), if_neg (fun y => z (Or.inr (Or.inr (Or.inr (Or.inl y))))), if_neg (fun y => z (Or.inr (Or.inr (Or.inr (Or.inr (Or.inl y)))))), if_neg (fun y => z (Or.inr (Or.inr (Or.inr (Or.inr (Or.inr y))))))]
theorem m_t34 (hR : mOk oS R) (hM : MR I now a b fw fh since st) (x1 x2 x3 x4 : Int32) : mAns (d_M_tile_34 oS I R 210 x1 x2 x3 x4 210) 1 0 (fun J => MR J now a b fw fh since st) := by
  have hM1 : MR (ax_up I 210 0 1) now a b fw fh since st := MR_up (Or.inl ⟨rfl, Or.inl rfl⟩) hM
  refine ⟨0, ax_up I 210 0 1, ?_, ax_up_self _ _ _ _, fun z => (by cases z), hM1⟩
  obtain ⟨hn, n3, ⟨⟨p1, p2, p3, p4⟩, pt, pn⟩, hb', -⟩ := hM1
  obtain ⟨-, -, ix, -⟩ := mx2 hR hn
  unfold d_M_tile_34 d_M_tile_39
  rw [ob, show (5000 : Nat) = 4999 + 1 from rfl, d_M_tile_45, mr_6 hR, ob, n3, ix, ob, ax_up_self, if_neg (show ¬ (1 : Int32) = 0 by decide), m_t166x hR (ax_up_self _ _ _ _) (by decide)]
  split <;> rfl
theorem M_tile_bad (hR : mOk oS R) (hM : MR I now a b fw fh since st) {x y w h : Int32} (z : 64 < w ∨ 64 < h ∨ noRect a.1.1 a.1.2 x y w h) : mAns (d_M_tile oS I R 210 x y w h) 1 0 (fun J => MR J now a b fw fh since st) := by
  unfold d_M_tile
  by_cases z1 : w < 1 ∨ 64 < w
  · rw [m_in_f z1, ob, if_pos bF]
    exact m_t34 hR hM _ _ _ _
  rw [m_in_t (fun y => z1 (Or.inl y)) (fun y => z1 (Or.inr y)), ob, if_neg bT]
  by_cases z2 : h < 1 ∨ 64 < h
  · rw [m_in_f z2, ob, if_pos bF]
    exact m_t34 hR hM _ _ _ _
  rw [m_in_t (fun y => z2 (Or.inl y)) (fun y => z2 (Or.inr y)), ob, if_neg bT]
  have z3 : noRect a.1.1 a.1.2 x y w h := by
    rcases z with z | z | z
    · exact absurd (Or.inr z) z1
    · exact absurd (Or.inr z) z2
    · exact z
  rw [(m_lies hR hM x y w h).1 z3 (fun y => z1 (Or.inl y)) (fun y => z2 (Or.inl y)), ob, if_pos bF]
  exact m_t34 hR hM _ _ _ _
theorem M_tile (hR : mOk oS R) (hM : MR I now a b fw fh since st) (ha : okP a) (hb : okP b) {x y w h : Nat} (w1 : 1 ≤ w) (w2 : w ≤ 64) (h1 : 1 ≤ h) (h2 : h ≤ 64) (hx : x + w ≤ a.1.1) (hy : y + h ≤ a.1.2) : ((¬ ∀ t ∈ a.2.1, apart ((x, y), (w, h), 0, []) t) → mAns (d_M_tile oS I R 210 (nI x) (nI y) (nI w) (nI h)) 2 0 (fun J => MR J now a b fw fh since st)) ∧ ((∀ t ∈ a.2.1, apart ((x, y), (w, h), 0, []) t) → (a.2.1.length = 40 → mAns (d_M_tile oS I R 210 (nI x) (nI y) (nI w) (nI h)) 3 0 (fun J => MR J now a b fw fh since st)) ∧ (a.2.1.length < 40 → mAns (d_M_tile oS I R 210 (nI x) (nI y) (nI w) (nI h)) 0 (nI a.2.1.length) (fun J => MR J now (addT a ((x, y), (w, h), 0, [])) b fw fh since st))) := by
  have hW := ha.1
  have hl := ha.2.1.1
  have e : d_M_tile oS I R 210 (nI x) (nI y) (nI w) (nI h) = d_M_tile_45 oS 5000 (ax_up I 210 0 0) R 210 (nI x) (nI y) (nI w) (nI h) (nI 0) := by
    unfold d_M_tile
    rw [m_in_t (lo := 1) (hi := 64) (nI_nlt (a := w) (b := 1) w1 (by omega)) (nI_nlt (a := 64) (b := w) w2 (by decide)), ob, if_neg bT, m_in_t (lo := 1) (hi := 64) (nI_nlt (a := h) (b := 1) h1 (by omega)) (nI_nlt (a := 64) (b := h) h2 (by decide)), ob, if_neg bT, (m_lies hR hM _ _ _ _).2 (rect_no hW.2.1 hW.2.2.2 w1 h1 hx hy), ob, if_neg bT]
    unfold d_M_tile_39
    rw [ob]
    rfl
  have hM1 : MR (ax_up I 210 0 0) now a b fw fh since st := MR_up (Or.inl ⟨rfl, Or.inl rfl⟩) hM
  obtain ⟨q1, q2⟩ := m_tloop hR hM1 ha (ax_up_self _ _ _ _) (x := x) (y := y) (w := w) (h := h) (by omega) (by omega) a.2.1.length 5000 0 (by omega) (by omega)
  rw [List.drop_zero] at q1 q2
  rw [e]
  refine ⟨fun z => ?_, fun z => ?_⟩
  · rw [q2 z]
    exact ⟨_, _, rfl, ax_up_self _ _ _ _, fun z => (by cases z), MR_up (Or.inl ⟨rfl, Or.inl rfl⟩) hM1⟩
  · rw [q1 z]
    obtain ⟨r1, r2⟩ := m_t166 hR hM1 hb ha (ax_up_self _ _ _ _) x y w h
    refine ⟨fun l => ?_, fun l => r2 l⟩
    rw [r1 l]
    exact ⟨_, _, rfl, ax_up_self _ _ _ _, fun z => (by cases z), MR_up (Or.inl ⟨rfl, Or.inl rfl⟩) hM1⟩
end MTILE
