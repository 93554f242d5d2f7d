/-! the reference: turn -/
theorem n_rem {x d : Nat} (hx : x < 2 ^ 31) (h0 : 0 < d) (hd : d < 2 ^ 31) : nI x - nI x / nI d * nI d = nI (x % d) := by
  rw [pk_div hx h0 hd, nI_mul, nI_sub (Nat.div_mul_le_self x d)]
  congr 1
  have := Nat.div_add_mod x d
  rw [Nat.mul_comm] at this
  omega
theorem m_cq (S : ax_S) (K : ax_I) (R : ax_R) {v : Nat} (hv : v < 8) : ∀ (n f W H x y q : Nat), q + n = v % 4 → n < f → W ≤ 400 → H ≤ 400 → x < W → y < H → d_M_comes_29 S f K R (nI v) (nI x) (nI y) (nI W) (nI H) (nI q) = some (nI (1000 * (cq n W H x y).2 + (cq n W H x y).1)) := by
  intro n
  have e4 : nI v - nI v / 4 * 4 = nI (v % 4) := n_rem (d := 4) (by omega) (by omega) (by omega)
  induction n with
  | zero =>
    intro f W H x y q hq hf hW hH hx hy
    obtain ⟨f, rfl⟩ : ∃ f', f = f' + 1 := ⟨f - 1, by omega⟩
    rw [d_M_comes_29, e4, if_pos (nI_le (by omega) (by omega)), show (1000 : Int32) = nI 1000 from rfl, nI_mul, nI_add]
    rfl
  | succ n ih =>
    intro f W H x y q hq hf hW hH hx hy
    obtain ⟨f, rfl⟩ : ∃ f', f = f' + 1 := ⟨f - 1, by omega⟩
    have e1 : nI H - 1 = nI (H - 1) := nI_sub (b := 1) (by omega)
    rw [d_M_comes_29, e4, if_neg (nI_ge (by omega) (by omega)), e1, nI_sub (by omega), nI_1]
    exact ih f H W (H - 1 - y) x (q + 1) (by omega) (by omega) hH hW (by omega) hx
theorem m_come (S : ax_S) (K : ax_I) (R : ax_R) {v W H x y : Nat} (hv : v < 8) (hW : W ≤ 400) (hH : H ≤ 400) (hx : x < W) (hy : y < H) : d_M_comes S K R (nI v) (nI x) (nI y) (nI W) (nI H) = some (nI (1000 * (come v W H x y).2 + (come v W H x y).1)) := by
  unfold d_M_comes d_M_comes_14 come
  by_cases z : 4 ≤ v
  · have e1 : nI W - 1 = nI (W - 1) := nI_sub (b := 1) (by omega)
    rw [if_neg (show ¬ nI v < 4 from nI_nlt (b := 4) z (by omega)), e1, nI_sub (by omega), if_pos z]
    exact m_cq S K R hv (v % 4) 5000 W H (W - 1 - x) y 0 (by omega) (by omega) hW hH (by omega) hy
  · rw [if_pos (show nI v < 4 from nI_lt (b := 4) (by omega) (by decide)), if_neg z]
    exact m_cq S K R hv (v % 4) 5000 W H x y 0 (by omega) (by omega) hW hH hx hy
theorem MT_five {J : ax_I} {m : Nat} {t : Tl} (h : MT J m t) (X Y w' h' v' : Nat) : MT (ax_up (ax_up (ax_up (ax_up (ax_up J 215 m (nI X)) 216 m (nI Y)) 217 m (nI w')) 218 m (nI h')) 219 m (nI v')) m ((X, Y), (w', h'), v', t.2.2.2) := by
  obtain ⟨⟨q1, q2, q3, q4, q5, q6⟩, q7⟩ := h
  refine ⟨⟨?_, ?_, ?_, ?_, ?_, ?_⟩, fun j c hj => ?_⟩
  · rw [ax_up_ne (by omega), ax_up_ne (by omega), ax_up_ne (by omega), ax_up_ne (by omega), ax_up_self]
  · rw [ax_up_ne (by omega), ax_up_ne (by omega), ax_up_ne (by omega), ax_up_self]
  · rw [ax_up_ne (by omega), ax_up_ne (by omega), ax_up_self]
  · rw [ax_up_ne (by omega), ax_up_self]
  · rw [ax_up_self]
  · rw [ax_up_ne (by omega), ax_up_ne (by omega), ax_up_ne (by omega), ax_up_ne (by omega), ax_up_ne (by omega)]; exact q6
  · rw [ax_up_ne (by omega), ax_up_ne (by omega), ax_up_ne (by omega), ax_up_ne (by omega), ax_up_ne (by omega)]; exact q7 j c hj
section MTU
variable {I : ax_I} {R : ax_R} {now fw fh since : Nat} {a b : Pc} {st : List Nat}
theorem m_t173 (hR : mOk oS R) {f : ax_I → ax_R → Nat → Int32 → Int32 → Int32 → Int32 → Option (Int32 × ax_I)} {J : ax_I} {m : Nat} (hm : m < 80) {v w h s x1 y1 x2 y2 X : Nat} (hv : v < 8) (hs : s < 8) (g7 : J 217 m = nI w) (g8 : J 218 m = nI h) (g9 : J 219 m = nI s) (z1 : x1 < 1000) (z2 : y1 < 1000) (z3 : x2 < 1000) (z4 : y2 < 1000) (u2 u3 u4 : Int32) : d_M_turn_173 oS f J R 210 (nI v) u2 u3 u4 (nI m) (nI (1000 * y1 + x1)) (nI (1000 * y2 + x2)) (nI X) (nI m) 215 = f (ax_up (ax_up (ax_up (ax_up (ax_up J 215 m (nI X)) 216 m (nI (le2 y1 y2))) 217 m (nI (if v % 2 = 1 then h else w))) 218 m (nI (if v % 2 = 1 then w else h))) 219 m (nI (tog s v))) R 210 (nI v) u2 u3 (u4 + 1) := by
  obtain ⟨⟨t1, t2, t3⟩, t4, t5, t6⟩ := mxT hR hm rfl
  have d6 : nI (1000 * y1 + x1) / 1000 = nI y1 := (pk_div (d := 1000) (by omega) (by omega) (by omega)).trans (congrArg nI (by omega))
  have d7 : nI (1000 * y2 + x2) / 1000 = nI y2 := (pk_div (d := 1000) (by omega) (by omega) (by omega)).trans (congrArg nI (by omega))
  have g : ∀ Y : Nat, d_M_turn_210 oS f (ax_up J 215 m (nI X)) R 210 (nI v) u2 u3 u4 (nI m) (nI Y) (nI m) 216 = f (ax_up (ax_up (ax_up (ax_up (ax_up J 215 m (nI X)) 216 m (nI Y)) 217 m (nI (if v % 2 = 1 then h else w))) 218 m (nI (if v % 2 = 1 then w else h))) 219 m (nI (tog s v))) R 210 (nI v) u2 u3 (u4 + 1) := by
    intro Y
    unfold d_M_turn_210
    rw [t2, ob, ob]
    obtain ⟨J2, hJ2⟩ : ∃ J2, J2 = ax_up (ax_up J 215 m (nI X)) 216 m (nI Y) := ⟨_, rfl⟩
    have k7 : J2 217 m = nI w := by rw [hJ2, ax_up_ne (by omega), ax_up_ne (by omega)]; exact g7
    have k8 : J2 218 m = nI h := by rw [hJ2, ax_up_ne (by omega), ax_up_ne (by omega)]; exact g8
    have k9 : J2 219 m = nI s := by rw [hJ2, ax_up_ne (by omega), ax_up_ne (by omega)]; exact g9
    rw [← hJ2, mr_10 hR, ob, t3, ob, ob, m_turned oS _ R hv, ob]
    by_cases z : v % 2 = 1
    · rw [decide_eq_true z, if_neg bT, mr_11 hR, ob, t4, ob, k7, k8, if_pos z, if_pos z]
      unfold d_M_turn_245
      rw [t3, ob, ob, mr_11 hR, ob, m_turned oS _ R hv, ob, decide_eq_true z, if_neg bT]
      unfold d_M_turn_271
      have k9' : ax_up (ax_up J2 217 m (nI h)) 218 m (nI w) 219 m = nI s := by rw [ax_up_ne (by omega), ax_up_ne (by omega)]; exact k9
      rw [t4, ob, ob, mr_12 hR, ob, ob, t5, ob, k9', both_tog oS _ R hs hv, ob, ob, ob]
    · rw [decide_eq_false z, if_pos bF, k7, if_neg z, if_neg z]
      unfold d_M_turn_245
      rw [t3, ob, ob, mr_11 hR, ob, m_turned oS _ R hv, ob, decide_eq_false z, if_pos bF, ob, t4, ob, ax_up_ne (show ¬ (218 = 217 ∧ m = m) by omega), k8]
      unfold d_M_turn_271
      have k9' : ax_up (ax_up J2 217 m (nI w)) 218 m (nI h) 219 m = nI s := by rw [ax_up_ne (by omega), ax_up_ne (by omega)]; exact k9
      rw [t4, ob, ob, mr_12 hR, ob, ob, t5, ob, k9', both_tog oS _ R hs hv, ob, ob, ob]
  unfold d_M_turn_173
  rw [t1, ob, ob, mr_9 hR, ob, d6, d7]
  unfold le2
  by_cases z : y2 ≤ y1
  · rw [if_pos (nI_le z (by omega)), if_pos z]
    exact g y2
  · rw [if_neg (nI_ge (by omega) (by omega)), if_neg z]
    exact g y1
theorem m_turnT (hR : mOk oS R) (hM : MR I now a b fw fh since st) (ha : okP a) {v : Nat} (hv : v < 8) : ∀ (m n k : Nat) (J : ax_I), k + m = a.2.1.length → m < n → fTl now I J → (∀ j t, j < k → a.2.1[j]? = some t → MT J (40 * now + j) (turnT v a.1.1 a.1.2 t)) → (∀ j t, k ≤ j → a.2.1[j]? = some t → MT J (40 * now + j) t) → ∃ J', d_M_turn_51 oS n J R 210 (nI v) (nI a.1.1) (nI a.1.2) (nI k) = d_M_turn_305 oS 5000 J' R 210 (nI v) (nI a.1.1) (nI a.1.2) (nI (20 * now)) ∧ fTl now I J' ∧ ∀ j t, a.2.1[j]? = some t → MT J' (40 * now + j) (turnT v a.1.1 a.1.2 t) := by
  obtain ⟨hn, n3, ⟨⟨p1, p2, p3, p4⟩, pt, pn⟩, hb', -⟩ := hM
  obtain ⟨-, -, ix, -⟩ := mx2 hR hn
  have l40 := ha.2.1.1
  have oW := ha.1
  intro m
  induction m with
  | zero =>
    intro n k J hk hn' hF hA hB
    obtain ⟨n, rfl⟩ : ∃ n', n = n' + 1 := ⟨n - 1, by omega⟩
    have hk : k = a.2.1.length := by omega
    subst hk
    rw [d_M_turn_51, mr_6 hR, ob, hF.1 210 3 (by omega), n3, ix, ob, hF.1 213 now (by omega), p3, if_pos (nI_le (Nat.le_refl _) (by omega)), show (20 : Int32) = nI 20 from rfl, nI_mul]
    exact ⟨J, rfl, hF, fun j t hj => hA j t (List.getElem?_eq_some_iff.mp hj).1 hj⟩
  | succ m ih =>
    intro n k J hk hn' hF hA hB
    obtain ⟨n, rfl⟩ : ∃ n', n = n' + 1 := ⟨n - 1, by omega⟩
    have hlt : k < a.2.1.length := by omega
    obtain ⟨t, ht⟩ : ∃ t, a.2.1[k]? = some t := ⟨_, List.getElem?_eq_getElem hlt⟩
    have hT := hB k t (Nat.le_refl _) ht
    have hT' := hT
    obtain ⟨⟨q1, q2, q3, q4, q5, q6⟩, -⟩ := hT
    obtain ⟨⟨s1, s2, s3, s4⟩, ⟨o1, o2⟩, hw8, hbl, -⟩ := ha.2.2.1 t (List.mem_of_getElem? ht)
    have e40 : (40 : Int32) * nI now + nI k = nI (40 * now + k) := by rw [show (40 : Int32) = nI 40 from rfl, nI_mul, nI_add]
    have hm80 : 40 * now + k < 80 := by omega
    obtain ⟨⟨t1, t2, t3⟩, t4, t5, t6⟩ := mxT hR hm80 rfl
    have g3 := (hF.1 210 3 (by omega)).trans n3
    have c1 := come_lt (v := v) (W := a.1.1) (H := a.1.2) (x := t.1.1) (y := t.1.2) hv (by omega) (by omega)
    have c2 := come_lt (v := v) (W := a.1.1) (H := a.1.2) (x := t.1.1 + t.2.1.1 - 1) (y := t.1.2 + t.2.1.2 - 1) hv (by omega) (by omega)
    have b1 : (if v % 2 = 1 then a.1.2 else a.1.1) ≤ 400 := by split <;> omega
    have b2 : (if v % 2 = 1 then a.1.1 else a.1.2) ≤ 400 := by split <;> omega
    have ex : nI (t.1.1 + t.2.1.1) - 1 = nI (t.1.1 + t.2.1.1 - 1) := nI_sub (b := 1) (by omega)
    have ey : nI (t.1.2 + t.2.1.2) - 1 = nI (t.1.2 + t.2.1.2 - 1) := nI_sub (b := 1) (by omega)
    have M1 := m_come oS J R (v := v) (W := a.1.1) (H := a.1.2) (x := t.1.1) (y := t.1.2) hv (by omega) (by omega) (by omega) (by omega)
    have M2 := m_come oS J R (v := v) (W := a.1.1) (H := a.1.2) (x := t.1.1 + t.2.1.1 - 1) (y := t.1.2 + t.2.1.2 - 1) hv (by omega) (by omega) (by omega) (by omega)
    obtain ⟨x1, hx1⟩ : ∃ x1, x1 = (come v a.1.1 a.1.2 t.1.1 t.1.2).1 := ⟨_, rfl⟩
    obtain ⟨y1, hy1⟩ : ∃ y1, y1 = (come v a.1.1 a.1.2 t.1.1 t.1.2).2 := ⟨_, rfl⟩
    obtain ⟨x2, hx2⟩ : ∃ x2, x2 = (come v a.1.1 a.1.2 (t.1.1 + t.2.1.1 - 1) (t.1.2 + t.2.1.2 - 1)).1 := ⟨_, rfl⟩
    obtain ⟨y2, hy2⟩ : ∃ y2, y2 = (come v a.1.1 a.1.2 (t.1.1 + t.2.1.1 - 1) (t.1.2 + t.2.1.2 - 1)).2 := ⟨_, rfl⟩
    have eT : turnT v a.1.1 a.1.2 t = ((le2 x1 x2, le2 y1 y2), (if v % 2 = 1 then t.2.1.2 else t.2.1.1, if v % 2 = 1 then t.2.1.1 else t.2.1.2), tog t.2.2.1 v, t.2.2.2) := by unfold turnT; rw [hx1, hy1, hx2, hy2]
    rw [← hx1, ← hy1] at c1 M1
    rw [← hx2, ← hy2] at c2 M2
    have r1 : nI (1000 * y1 + x1) - nI (1000 * y1 + x1) / 1000 * 1000 = nI x1 := (n_rem (d := 1000) (by omega) (by omega) (by omega)).trans (congrArg nI (by omega))
    have r2 : nI (1000 * y2 + x2) - nI (1000 * y2 + x2) / 1000 * 1000 = nI x2 := (n_rem (d := 1000) (by omega) (by omega) (by omega)).trans (congrArg nI (by omega))
    rw [d_M_turn_51, mr_6 hR, ob, g3, ix, ob, hF.1 213 now (by omega), p3, if_neg (nI_ge hlt (by omega))]
    unfold d_M_tileAt
    rw [ob, g3, e40]
    simp only [mr_8 hR, mr_9 hR, mr_10 hR, mr_11 hR, ob, t1, t2, t3, t4, q1, q2, q3, q4, nI_add, ex, ey, M1, M2, r1, r2]
    have stp : ∀ X, (if nI x2 ≤ nI x1 then d_M_turn_173 oS (d_M_turn_51 oS n) J R 210 (nI v) (nI a.1.1) (nI a.1.2) (nI k) (nI (40 * now + k)) (nI (1000 * y1 + x1)) (nI (1000 * y2 + x2)) (nI x2) (nI (40 * now + k)) 215 else d_M_turn_173 oS (d_M_turn_51 oS n) J R 210 (nI v) (nI a.1.1) (nI a.1.2) (nI k) (nI (40 * now + k)) (nI (1000 * y1 + x1)) (nI (1000 * y2 + x2)) (nI x1) (nI (40 * now + k)) 215) = X → d_M_turn_51 oS n (ax_up (ax_up (ax_up (ax_up (ax_up J 215 (40 * now + k) (nI (le2 x1 x2))) 216 (40 * now + k) (nI (le2 y1 y2))) 217 (40 * now + k) (nI (if v % 2 = 1 then t.2.1.2 else t.2.1.1))) 218 (40 * now + k) (nI (if v % 2 = 1 then t.2.1.1 else t.2.1.2))) 219 (40 * now + k) (nI (tog t.2.2.1 v))) R 210 (nI v) (nI a.1.1) (nI a.1.2) (nI (k + 1)) = X := by
      intro X hX
      rw [← hX, ← nI_1]
      by_cases z : x2 ≤ x1
      · rw [if_pos (nI_le z (by omega)), m_t173 hR hm80 hv hw8 q3 q4 q5 (by omega) (by omega) (by omega) (by omega)]
        rw [show le2 x1 x2 = x2 from if_pos z]
      · rw [if_neg (nI_ge (by omega) (by omega)), m_t173 hR hm80 hv hw8 q3 q4 q5 (by omega) (by omega) (by omega) (by omega)]
        rw [show le2 x1 x2 = x1 from if_neg z]
    rw [← stp _ rfl]
    obtain ⟨J2, hJ2⟩ : ∃ J2, J2 = ax_up (ax_up (ax_up (ax_up (ax_up J 215 (40 * now + k) (nI (le2 x1 x2))) 216 (40 * now + k) (nI (le2 y1 y2))) 217 (40 * now + k) (nI (if v % 2 = 1 then t.2.1.2 else t.2.1.1))) 218 (40 * now + k) (nI (if v % 2 = 1 then t.2.1.1 else t.2.1.2))) 219 (40 * now + k) (nI (tog t.2.2.1 v)) := ⟨_, rfl⟩
    have kk : ∀ i m, ¬ (215 ≤ i ∧ i ≤ 219 ∧ m = 40 * now + k) → J2 i m = J i m := fun i m z => by rw [hJ2, ax_up_ne (by omega), ax_up_ne (by omega), ax_up_ne (by omega), ax_up_ne (by omega), ax_up_ne (by omega)]
    have hT2 : MT J2 (40 * now + k) (turnT v a.1.1 a.1.2 t) := by
      rw [hJ2, eT]
      exact MT_five hT' _ _ _ _ _
    rw [← hJ2]
    refine ih n (k + 1) J2 (by omega) (by omega) ⟨fun i m z => (kk _ _ (by omega)).trans (hF.1 i m z), fun i m z1 z2 z3 => (kk _ _ (by omega)).trans (hF.2.1 i m z1 z2 z3), fun m z => (kk _ _ (by omega)).trans (hF.2.2 m z)⟩ (fun j t' hj hj' => ?_) (fun j t' hj hj' => ?_)
    · by_cases e : j = k
      · subst e
        rw [ht] at hj'
        rw [← Option.some.inj hj']
        exact hT2
      · exact MT_keep (hA j t' (by omega) hj') (ha.2.2.1 t' (List.mem_of_getElem? hj')).2.2.2.1 (fun i z1 z2 => kk _ _ (by omega)) (fun i z => kk _ _ (by omega))
    · exact MT_keep (hB j t' (by omega) hj') (ha.2.2.1 t' (List.mem_of_getElem? hj')).2.2.2.1 (fun i z1 z2 => kk _ _ (by omega)) (fun i z => kk _ _ (by omega))
theorem m_t422 (hR : mOk oS R) (hn : now < 2) {J : ax_I} {v : Nat} (hv : v < 8) (hs : since < 8) (n3 : J 210 3 = nI now) (n18 : J 210 18 = nI since) (W H : Int32) : (d_M_isTurned oS J R (nI v)).bind (fun r162 => if ax_b r162 = 0 then d_M_turn_401 oS J R 210 (nI v) W H W (J 210 3) 211 else d_M_turn_401 oS J R 210 (nI v) W H H (J 210 3) 211) = some (nI (tog since v), ax_up (ax_up (ax_up (ax_up J 211 now (if v % 2 = 1 then H else W)) 212 now (if v % 2 = 1 then W else H)) 210 18 (nI (tog since v))) 210 19 0) := by
  obtain ⟨i1, i2, i3, i4⟩ := mx2 hR hn
  have e4 : ∀ K : ax_I, ∀ y, K 210 3 = nI now → K 210 18 = nI since → d_M_turn_422 oS K R 210 (nI v) y (nI now) 212 = some (nI (tog since v), ax_up (ax_up (ax_up K 212 now y) 210 18 (nI (tog since v))) 210 19 0) := by
    intro K y k3 k18
    unfold d_M_turn_422
    rw [i2, ob, ob, ax_up_ne (show ¬ (210 = 212 ∧ 18 = now) by omega), k18, both_tog oS _ R hs hv, ob, ob, ob, ax_up_ne (show ¬ (210 = 210 ∧ 18 = 19) by omega), ax_up_self]
  rw [m_turned oS _ R hv, ob, n3]
  by_cases z : v % 2 = 1
  · rw [decide_eq_true z, if_neg bT, if_pos z, if_pos z]
    unfold d_M_turn_401
    rw [i1, ob, ob, mr_5 hR, ob, m_turned oS _ R hv, ob, decide_eq_true z, if_neg bT, ax_up_ne (show ¬ (210 = 211 ∧ 3 = now) by omega), n3]
    exact e4 _ _ ((ax_up_ne (by omega)).trans n3) ((ax_up_ne (by omega)).trans n18)
  · rw [decide_eq_false z, if_pos bF, if_neg z, if_neg z]
    unfold d_M_turn_401
    rw [i1, ob, ob, mr_5 hR, ob, m_turned oS _ R hv, ob, decide_eq_false z, if_pos bF, ax_up_ne (show ¬ (210 = 211 ∧ 3 = now) by omega), n3]
    exact e4 _ _ ((ax_up_ne (by omega)).trans n3) ((ax_up_ne (by omega)).trans n18)
theorem m_turnN (hR : mOk oS R) (hn : now < 2) (n3 : I 210 3 = nI now) (n18 : I 210 18 = nI since) (hs : since < 8) (p4 : I 214 now = nI a.2.2.length) (ha : okP a) {v : Nat} (hv : v < 8) : ∀ (m n k : Nat) (J : ax_I), k + m = a.2.2.length → m < n → fNo now I J → (∀ j t, j < k → a.2.2[j]? = some t → MN J (20 * now + j) (turnN v a.1.1 a.1.2 t)) → (∀ j t, k ≤ j → a.2.2[j]? = some t → MN J (20 * now + j) t) → ∃ J', d_M_turn_305 oS n J R 210 (nI v) (nI a.1.1) (nI a.1.2) (nI (20 * now + k)) = some (nI (tog since v), ax_up (ax_up (ax_up (ax_up J' 211 now (if v % 2 = 1 then nI a.1.2 else nI a.1.1)) 212 now (if v % 2 = 1 then nI a.1.1 else nI a.1.2)) 210 18 (nI (tog since v))) 210 19 0) ∧ fNo now I J' ∧ ∀ j t, a.2.2[j]? = some t → MN J' (20 * now + j) (turnN v a.1.1 a.1.2 t) := by
  obtain ⟨i1, i2, i3, i4⟩ := mx2 hR hn
  have l20 := ha.2.1.2
  have oW := ha.1
  have e20 : ∀ v, (20 : Int32) * nI now + nI v = nI (20 * now + v) := fun v => by rw [show (20 : Int32) = nI 20 from rfl, nI_mul, nI_add]
  intro m
  induction m with
  | zero =>
    intro n k J hk hn' hF hA hB
    obtain ⟨n, rfl⟩ : ∃ n', n = n' + 1 := ⟨n - 1, by omega⟩
    have hk : k = a.2.2.length := by omega
    subst hk
    have g3 := (hF.1 210 3 (by omega)).trans n3
    rw [d_M_turn_305, mr_7 hR, ob, g3, i4, ob, hF.1 214 now (by omega), p4, e20, if_pos (nI_le (Nat.le_refl _) (by omega)), mr_4 hR, ob, ← g3, m_t422 hR hn hv hs g3 ((hF.1 210 18 (by omega)).trans n18)]
    exact ⟨J, rfl, hF, fun j t hj => hA j t (List.getElem?_eq_some_iff.mp hj).1 hj⟩
  | succ m ih =>
    intro n k J hk hn' hF hA hB
    obtain ⟨n, rfl⟩ : ∃ n', n = n' + 1 := ⟨n - 1, by omega⟩
    have hlt : k < a.2.2.length := by omega
    obtain ⟨t, ht⟩ : ∃ t, a.2.2[k]? = some t := ⟨_, List.getElem?_eq_getElem hlt⟩
    obtain ⟨q1, q2, q3⟩ := hB k t (Nat.le_refl _) ht
    obtain ⟨o1, o2, o3⟩ := ha.2.2.2.1 t (List.mem_of_getElem? ht)
    obtain ⟨t1, t2, t3⟩ := mxN hR (show 20 * now + k < 40 by omega) rfl
    have g3 := (hF.1 210 3 (by omega)).trans n3
    have c1 := come_lt (v := v) (W := a.1.1) (H := a.1.2) (x := t.1) (y := t.2.1) hv o1 o2
    have b1 : (if v % 2 = 1 then a.1.2 else a.1.1) ≤ 400 := by split <;> omega
    have b2 : (if v % 2 = 1 then a.1.1 else a.1.2) ≤ 400 := by split <;> omega
    have M1 := m_come oS J R (v := v) (W := a.1.1) (H := a.1.2) (x := t.1) (y := t.2.1) hv (by omega) (by omega) o1 o2
    obtain ⟨x1, hx1⟩ : ∃ x1, x1 = (come v a.1.1 a.1.2 t.1 t.2.1).1 := ⟨_, rfl⟩
    obtain ⟨y1, hy1⟩ : ∃ y1, y1 = (come v a.1.1 a.1.2 t.1 t.2.1).2 := ⟨_, rfl⟩
    have eN : turnN v a.1.1 a.1.2 t = (x1, y1, t.2.2) := by unfold turnN; rw [hx1, hy1]
    rw [← hx1, ← hy1] at c1 M1
    have r1 : nI (1000 * y1 + x1) - nI (1000 * y1 + x1) / 1000 * 1000 = nI x1 := (n_rem (d := 1000) (by omega) (by omega) (by omega)).trans (congrArg nI (by omega))
    have r2 : nI (1000 * y1 + x1) / 1000 = nI y1 := (pk_div (d := 1000) (by omega) (by omega) (by omega)).trans (congrArg nI (by omega))
    rw [d_M_turn_305, mr_7 hR, ob, g3, i4, ob, hF.1 214 now (by omega), p4, e20, if_neg (nI_ge (by omega) (by omega)), mr_15 hR, ob, t1, ob, mr_16 hR, ob, t2, ob, q1, q2, M1, ob, ob, t1, ob, ob, r1, ob, t2, ob, ob, r2, nI_1]
    obtain ⟨J2, hJ2⟩ : ∃ J2, J2 = ax_up (ax_up J 222 (20 * now + k) (nI x1)) 223 (20 * now + k) (nI y1) := ⟨_, rfl⟩
    have kk : ∀ i m, ¬ (222 ≤ i ∧ i ≤ 223 ∧ m = 20 * now + k) → J2 i m = J i m := fun i m z => by rw [hJ2, ax_up_ne (by omega), ax_up_ne (by omega)]
    rw [← hJ2]
    refine ih n (k + 1) J2 (by omega) (by omega) ⟨fun i m z => (kk _ _ (by omega)).trans (hF.1 i m z), fun i m z1 z2 z3 => (kk _ _ (by omega)).trans (hF.2 i m z1 z2 z3)⟩ (fun j t' hj hj' => ?_) (fun j t' hj hj' => ?_)
    · by_cases e : j = k
      · subst e
        rw [ht] at hj'
        rw [← Option.some.inj hj', eN]
        refine ⟨?_, ?_, ?_⟩
        · rw [hJ2, ax_up_ne (by omega), ax_up_self]
        · rw [hJ2, ax_up_self]
        · exact (kk _ _ (by omega)).trans q3
      · obtain ⟨r1, r2, r3⟩ := hA j t' (by omega) hj'
        exact ⟨(kk _ _ (by omega)).trans r1, (kk _ _ (by omega)).trans r2, (kk _ _ (by omega)).trans r3⟩
    · obtain ⟨r1, r2, r3⟩ := hB j t' (by omega) hj'
      exact ⟨(kk _ _ (by omega)).trans r1, (kk _ _ (by omega)).trans r2, (kk _ _ (by omega)).trans r3⟩
theorem M_turn (hR : mOk oS R) (hM : MR I now a b fw fh since st) (ha : okP a) (hb : okP b) (hs : since < 8) (x : Int32) : (x < 0 ∨ 7 < x → mAns (d_M_turn oS I R 210 x) 1 0 (fun J => MR J now a b fw fh since st)) ∧ (∀ v, v < 8 → x = nI v → mAns (d_M_turn oS I R 210 x) 0 (nI (tog since v)) (fun J => MR J now (turnP v a) b fw fh (tog since v) st)) := by
  refine ⟨fun z => ?_, fun v hv ex => ?_⟩
  · unfold d_M_turn
    rw [m_in_f z, ob, if_pos bF]
    unfold d_M_turn_16
    rw [ob, if_neg (up_le (by decide))]
    exact ⟨_, _, rfl, ax_up_self _ _ _ _, fun z => (by cases z), MR_c hM _⟩
  subst ex
  have nb : d_M_in oS I R (nI v) 0 7 = some true := m_in_t (lo := 0) (hi := 7) (nI_pos (by omega)) (nI_nlt (a := 7) (by omega) (by decide))
  have oT := okP_turn ha hv
  unfold d_M_turn
  rw [nb, ob, if_neg bT]
  unfold d_M_turn_16
  obtain ⟨M1, hM1⟩ : ∃ M1, M1 = ax_up I 210 0 0 := ⟨_, rfl⟩
  have hR1 : MR M1 now a b fw fh since st := by rw [hM1]; exact MR_c hM 0
  have c1 : M1 210 0 = 0 := by rw [hM1, ax_up_self]
  rw [ob, if_pos (up_ge (by decide)), ← hM1]
  clear hM1 hM
  have hR2 := hR1
  obtain ⟨hn, n3, ⟨⟨p1, p2, p3, p4⟩, pt, pn⟩, hb', n1, n2, n18, n22, nst⟩ := hR1
  obtain ⟨i1, i2, i3, i4⟩ := mx2 hR hn
  rw [mr_4 hR, ob, n3, i1, ob, mr_5 hR, ob, i2, ob, p1, p2]
  obtain ⟨J1, e1, F1, T1⟩ := m_turnT hR hR2 ha hv a.2.1.length 5000 0 M1 (by omega) (by have := ha.2.1.1; omega) ⟨fun _ _ _ => rfl, fun _ _ _ _ _ => rfl, fun _ _ => rfl⟩ (fun j t hj => by omega) (fun j t _ hj => pt j t hj)
  have e1 : d_M_turn_51 oS 5000 M1 R 210 (nI v) (nI a.1.1) (nI a.1.2) 0 = d_M_turn_305 oS 5000 J1 R 210 (nI v) (nI a.1.1) (nI a.1.2) (nI (20 * now)) := e1
  have N2 : ∀ j t, a.2.2[j]? = some t → MN J1 (20 * now + j) t := by
    intro j t hj
    obtain ⟨r1, r2, r3⟩ := pn j t hj
    exact ⟨(F1.1 _ _ (by omega)).trans r1, (F1.1 _ _ (by omega)).trans r2, (F1.1 _ _ (by omega)).trans r3⟩
  obtain ⟨J3, e2, F3, N3⟩ := m_turnN (I := J1) hR hn ((F1.1 _ _ (by omega)).trans n3) ((F1.1 _ _ (by omega)).trans n18) hs ((F1.1 _ _ (by omega)).trans p4) ha hv a.2.2.length 5000 0 J1 (by omega) (by have := ha.2.1.2; omega) ⟨fun _ _ _ => rfl, fun _ _ _ _ _ => rfl⟩ (fun j t hj => by omega) (fun j t _ hj => N2 j t hj)
  have e2 : d_M_turn_305 oS 5000 J1 R 210 (nI v) (nI a.1.1) (nI a.1.2) (nI (20 * now)) = _ := e2
  rw [e1, e2]
  obtain ⟨K, hK⟩ : ∃ K, K = ax_up (ax_up (ax_up (ax_up J3 211 now (if v % 2 = 1 then nI a.1.2 else nI a.1.1)) 212 now (if v % 2 = 1 then nI a.1.1 else nI a.1.2)) 210 18 (nI (tog since v))) 210 19 0 := ⟨_, rfl⟩
  rw [← hK]
  have k0 : ∀ i m, ¬ (i = 211 ∧ m = now) → ¬ (i = 212 ∧ m = now) → ¬ (i = 210 ∧ m = 18) → ¬ (i = 210 ∧ m = 19) → K i m = J3 i m := fun i m z1 z2 z3 z4 => by rw [hK, ax_up_ne z4, ax_up_ne z3, ax_up_ne z2, ax_up_ne z1]
  have k2 : ∀ i m, ¬ (i = 211 ∧ m = now) → ¬ (i = 212 ∧ m = now) → ¬ (i = 210 ∧ m = 18) → ¬ (i = 210 ∧ m = 19) → i < 222 ∨ 224 < i → K i m = J1 i m := fun i m z1 z2 z3 z4 z5 => (k0 i m z1 z2 z3 z4).trans (F3.1 i m z5)
  have k3 : ∀ i m, ¬ (i = 211 ∧ m = now) → ¬ (i = 212 ∧ m = now) → ¬ (i = 210 ∧ m = 18) → ¬ (i = 210 ∧ m = 19) → i < 215 ∨ 224 < i → K i m = M1 i m := fun i m z1 z2 z3 z4 z5 => (k2 i m z1 z2 z3 z4 (by omega)).trans (F1.1 i m (by omega))
  have w1 : K 211 now = nI (if v % 2 = 1 then a.1.2 else a.1.1) := by rw [hK, ax_up_ne (by omega), ax_up_ne (by omega), ax_up_ne (by omega), ax_up_self]; split <;> rfl
  have w2 : K 212 now = nI (if v % 2 = 1 then a.1.1 else a.1.2) := by rw [hK, ax_up_ne (by omega), ax_up_ne (by omega), ax_up_self]; split <;> rfl
  rw [turn_eq ha hv] at oT ⊢
  refine ⟨_, _, rfl, (k3 _ _ (by omega) (by omega) (by omega) (by omega) (by omega)).trans c1, fun _ => rfl, hn, (k3 _ _ (by omega) (by omega) (by omega) (by omega) (by omega)).trans n3, ⟨⟨w1, w2, ?_, ?_⟩, fun j t hj => ?_, fun j n hj => ?_⟩, MP_keep hb' hb (fun i z1 z2 => k3 _ _ (by omega) (by omega) (by omega) (by omega) (by omega)) (fun i m z1 z2 z3 z4 => ?_) (fun m z1 z2 => ?_) (fun i m z1 z2 z3 z4 => ?_), (k3 _ _ (by omega) (by omega) (by omega) (by omega) (by omega)).trans n1, (k3 _ _ (by omega) (by omega) (by omega) (by omega) (by omega)).trans n2, ?_, (k3 _ _ (by omega) (by omega) (by omega) (by omega) (by omega)).trans n22, fun j c hj => (k3 _ _ (by omega) (by omega) (by omega) (by omega) (by omega)).trans (nst j c hj)⟩
  · show K 213 now = nI (a.2.1.map _).length
    rw [List.length_map]
    exact (k3 _ _ (by omega) (by omega) (by omega) (by omega) (by omega)).trans p3
  · show K 214 now = nI (a.2.2.map _).length
    rw [List.length_map]
    exact (k3 _ _ (by omega) (by omega) (by omega) (by omega) (by omega)).trans p4
  · have hj' : (a.2.1.map (turnT v a.1.1 a.1.2))[j]? = some t := hj
    rw [List.getElem?_map] at hj'
    obtain ⟨t0, h0, rfl⟩ := Option.map_eq_some_iff.mp hj'
    exact MT_keep (T1 j t0 h0) (oT.2.2.1 _ (List.mem_of_getElem? hj)).2.2.2.1 (fun i z1 z2 => k2 _ _ (by omega) (by omega) (by omega) (by omega) (by omega)) (fun i z => k2 _ _ (by omega) (by omega) (by omega) (by omega) (by omega))
  · have hj' : (a.2.2.map (turnN v a.1.1 a.1.2))[j]? = some n := hj
    rw [List.getElem?_map] at hj'
    obtain ⟨t0, h0, rfl⟩ := Option.map_eq_some_iff.mp hj'
    obtain ⟨r1, r2, r3⟩ := N3 j t0 h0
    exact ⟨(k0 _ _ (by omega) (by omega) (by omega) (by omega)).trans r1, (k0 _ _ (by omega) (by omega) (by omega) (by omega)).trans r2, (k0 _ _ (by omega) (by omega) (by omega) (by omega)).trans r3⟩
  · exact (k2 _ _ (by omega) (by omega) (by omega) (by omega) (by omega)).trans (F1.2.1 i m z1 z2 (by omega))
  · exact (k2 _ _ (by omega) (by omega) (by omega) (by omega) (by omega)).trans (F1.2.2 m (by omega))
  · exact (k0 _ _ (by omega) (by omega) (by omega) (by omega)).trans ((F3.2 i m z1 z2 (by omega)).trans (F1.1 i m (by omega)))
  · rw [hK, ax_up_ne (by omega), ax_up_self]
end MTU
