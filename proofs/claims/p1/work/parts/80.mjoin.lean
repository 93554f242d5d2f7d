/-! the reference: join -/
/-- outside THIS one's tiles and their number nothing has changed -/
def fTq (now : Nat) (I J : ax_I) : Prop := (∀ i m, i < 215 ∨ 221 < i → ¬ (i = 213 ∧ m = now) → J i m = I i m) ∧ (∀ i m, 215 ≤ i → i ≤ 220 → ¬ (40 * now ≤ m ∧ m < 40 * now + 40) → J i m = I i m) ∧ ∀ m, ¬ (480 * now ≤ m ∧ m < 480 * now + 480) → J 221 m = I 221 m
def fNq (now : Nat) (I J : ax_I) : Prop := (∀ i m, i < 222 ∨ 224 < i → ¬ (i = 214 ∧ m = now) → J i m = I i m) ∧ ∀ i m, 222 ≤ i → i ≤ 224 → ¬ (20 * now ≤ m ∧ m < 20 * now + 20) → J i m = I i m
def smP (a b : Pc) (ac : Bool) : Nat := if ac then a.1.1 + b.1.1 else a.1.2 + b.1.2
def alP (a b : Pc) (ac : Bool) : Bool := if ac then decide (a.1.2 = b.1.2) else decide (a.1.1 = b.1.1)
def roP (a b : Pc) (ac : Bool) : Bool := decide (smP a b ac ≤ 400 ∧ a.2.1.length + b.2.1.length ≤ 40 ∧ a.2.2.length + b.2.2.length ≤ 20)
section MJ
variable {I : ax_I} {R : ax_R} {now fw fh since : Nat} {a b : Pc} {st : List Nat}
theorem m_joinT (hR : mOk oS R) (hM : MR I now a b fw fh since st) (ha : okP a) {X Y : Nat} (u2 u3 u4 u8 u9 : Int32) : ∀ (m n k : Nat) (J : ax_I), k + m = a.2.1.length → m < n → fTl now I J → (∀ j t, j < k → a.2.1[j]? = some t → MT J (40 * now + j) (moT X Y t)) → (∀ j t, k ≤ j → a.2.1[j]? = some t → MT J (40 * now + j) t) → ∃ J', d_M_join_284 oS n J R 210 u2 u3 u4 (nI X) (nI Y) u8 u9 (nI k) = d_M_join_345 oS 5000 J' R 210 u2 u3 u4 (nI X) (nI Y) u8 u9 (nI (20 * now)) ∧ fTl now I J' ∧ ∀ j t, a.2.1[j]? = some t → MT J' (40 * now + j) (moT X Y t) := by
  obtain ⟨hn, n3, ⟨⟨p1, p2, p3, p4⟩, pt, pn⟩, hb', -⟩ := hM
  obtain ⟨-, -, ix, -⟩ := mx2 hR hn
  have l40 := ha.2.1.1
  intro m
  induction m with
  | zero =>
    intro n k J hk hn' hF hA hB
    obtain ⟨n, rfl⟩ : ∃ n', n = n' + 1 := ⟨n - 1, by omega⟩
    have hk : k = a.2.1.length := by omega
    subst hk
    rw [d_M_join_284, mr_6 hR, ob, hF.1 210 3 (by omega), n3, ix, ob, hF.1 213 now (by omega), p3, if_pos (nI_le (Nat.le_refl _) (by omega)), show (20 : Int32) = nI 20 from rfl, nI_mul]
    exact ⟨J, rfl, hF, fun j t hj => hA j t (List.getElem?_eq_some_iff.mp hj).1 hj⟩
  | succ m ih =>
    intro n k J hk hn' hF hA hB
    obtain ⟨n, rfl⟩ : ∃ n', n = n' + 1 := ⟨n - 1, by omega⟩
    have hlt : k < a.2.1.length := by omega
    obtain ⟨t, ht⟩ : ∃ t, a.2.1[k]? = some t := ⟨_, List.getElem?_eq_getElem hlt⟩
    have hT' := hB k t (Nat.le_refl _) ht
    obtain ⟨⟨q1, q2, q3, q4, q5, q6⟩, -⟩ := hB k t (Nat.le_refl _) ht
    have e40 : (40 : Int32) * nI now + nI k = nI (40 * now + k) := by rw [show (40 : Int32) = nI 40 from rfl, nI_mul, nI_add]
    obtain ⟨⟨t1, t2, t3⟩, -⟩ := mxT hR (show 40 * now + k < 80 by omega) rfl
    have g3 := (hF.1 210 3 (by omega)).trans n3
    rw [d_M_join_284, mr_6 hR, ob, g3, ix, ob, hF.1 213 now (by omega), p3, if_neg (nI_ge hlt (by omega)), mr_8 hR, ob]
    unfold d_M_tileAt
    rw [ob, g3, e40, t1, ob, ob, ob, q1, nI_add, mr_9 hR, ob, ob, ax_up_ne (show ¬ (210 = 215 ∧ 3 = 40 * now + k) by omega), g3, e40, t2, ob, ob, ob, ax_up_ne (show ¬ (216 = 215 ∧ 40 * now + k = 40 * now + k) by omega), q2, nI_add, nI_1]
    obtain ⟨J2, hJ2⟩ : ∃ J2, J2 = ax_up (ax_up J 215 (40 * now + k) (nI (t.1.1 + X))) 216 (40 * now + k) (nI (t.1.2 + Y)) := ⟨_, rfl⟩
    have kk : ∀ i m, ¬ (215 ≤ i ∧ i ≤ 216 ∧ m = 40 * now + k) → J2 i m = J i m := fun i m z => by rw [hJ2, ax_up_ne (by omega), ax_up_ne (by omega)]
    rw [← hJ2]
    refine ih n (k + 1) J2 (by omega) (by omega) ⟨fun i m z => (kk _ _ (by omega)).trans (hF.1 i m z), fun i m z1 z2 z3 => (kk _ _ (by omega)).trans (hF.2.1 i m z1 z2 z3), fun m z => (kk _ _ (by omega)).trans (hF.2.2 m z)⟩ (fun j t' hj hj' => ?_) (fun j t' hj hj' => ?_)
    · by_cases e : j = k
      · subst e
        rw [ht] at hj'
        rw [← Option.some.inj hj', hJ2]
        exact MT_place hT' _ _
      · exact MT_keep (hA j t' (by omega) hj') (ha.2.2.1 t' (List.mem_of_getElem? hj')).2.2.2.1 (fun i z1 z2 => kk _ _ (by omega)) (fun i z => kk _ _ (by omega))
    · exact MT_keep (hB j t' (by omega) hj') (ha.2.2.1 t' (List.mem_of_getElem? hj')).2.2.2.1 (fun i z1 z2 => kk _ _ (by omega)) (fun i z => kk _ _ (by omega))
theorem m_joinN (hR : mOk oS R) (hn : now < 2) (n3 : I 210 3 = nI now) (p4 : I 214 now = nI a.2.2.length) (ha : okP a) {X Y : Nat} (u2 u3 u4 u8 u9 : Int32) : ∀ (m n k : Nat) (J : ax_I), k + m = a.2.2.length → m < n → fNo now I J → (∀ j t, j < k → a.2.2[j]? = some t → MN J (20 * now + j) (moN X Y t)) → (∀ j t, k ≤ j → a.2.2[j]? = some t → MN J (20 * now + j) t) → ∃ J', d_M_join_345 oS n J R 210 u2 u3 u4 (nI X) (nI Y) u8 u9 (nI (20 * now + k)) = d_M_join_400 oS 5000 J' R 210 u2 u3 u4 u8 u9 0 ∧ fNo now I J' ∧ ∀ j t, a.2.2[j]? = some t → MN J' (20 * now + j) (moN X Y t) := by
  obtain ⟨i1, i2, i3, i4⟩ := mx2 hR hn
  have l20 := ha.2.1.2
  have e20 : ∀ v, (20 : Int32) * nI now + nI v = nI (20 * now + v) := fun v => by rw [show (20 : Int32) = nI 20 from rfl, nI_mul, nI_add]
  intro m
  induction m with
  | zero =>
    intro n k J hk hn' hF hA hB
    obtain ⟨n, rfl⟩ : ∃ n', n = n' + 1 := ⟨n - 1, by omega⟩
    have hk : k = a.2.2.length := by omega
    subst hk
    have g3 := (hF.1 210 3 (by omega)).trans n3
    rw [d_M_join_345, mr_7 hR, ob, g3, i4, ob, hF.1 214 now (by omega), p4, e20, if_pos (nI_le (Nat.le_refl _) (by omega))]
    exact ⟨J, rfl, hF, fun j t hj => hA j t (List.getElem?_eq_some_iff.mp hj).1 hj⟩
  | succ m ih =>
    intro n k J hk hn' hF hA hB
    obtain ⟨n, rfl⟩ : ∃ n', n = n' + 1 := ⟨n - 1, by omega⟩
    have hlt : k < a.2.2.length := by omega
    obtain ⟨t, ht⟩ : ∃ t, a.2.2[k]? = some t := ⟨_, List.getElem?_eq_getElem hlt⟩
    obtain ⟨q1, q2, q3⟩ := hB k t (Nat.le_refl _) ht
    obtain ⟨t1, t2, t3⟩ := mxN hR (show 20 * now + k < 40 by omega) rfl
    have g3 := (hF.1 210 3 (by omega)).trans n3
    rw [d_M_join_345, mr_7 hR, ob, g3, i4, ob, hF.1 214 now (by omega), p4, e20, if_neg (nI_ge (by omega) (by omega)), mr_15 hR, ob, t1, ob, ob, ob, q1, nI_add, mr_16 hR, ob, t2, ob, ob, ob, ax_up_ne (show ¬ (223 = 222 ∧ 20 * now + k = 20 * now + k) by omega), q2, nI_add, nI_1]
    obtain ⟨J2, hJ2⟩ : ∃ J2, J2 = ax_up (ax_up J 222 (20 * now + k) (nI (t.1 + X))) 223 (20 * now + k) (nI (t.2.1 + Y)) := ⟨_, rfl⟩
    have kk : ∀ i m, ¬ (222 ≤ i ∧ i ≤ 223 ∧ m = 20 * now + k) → J2 i m = J i m := fun i m z => by rw [hJ2, ax_up_ne (by omega), ax_up_ne (by omega)]
    rw [← hJ2]
    refine ih n (k + 1) J2 (by omega) (by omega) ⟨fun i m z => (kk _ _ (by omega)).trans (hF.1 i m z), fun i m z1 z2 z3 => (kk _ _ (by omega)).trans (hF.2 i m z1 z2 z3)⟩ (fun j t' hj hj' => ?_) (fun j t' hj hj' => ?_)
    · by_cases e : j = k
      · subst e
        rw [ht] at hj'
        rw [← Option.some.inj hj']
        refine ⟨?_, ?_, ?_⟩
        · rw [hJ2, ax_up_ne (by omega), ax_up_self]; rfl
        · rw [hJ2, ax_up_self]; rfl
        · exact (kk _ _ (by omega)).trans q3
      · obtain ⟨r1, r2, r3⟩ := hA j t' (by omega) hj'
        exact ⟨(kk _ _ (by omega)).trans r1, (kk _ _ (by omega)).trans r2, (kk _ _ (by omega)).trans r3⟩
    · obtain ⟨r1, r2, r3⟩ := hB j t' (by omega) hj'
      exact ⟨(kk _ _ (by omega)).trans r1, (kk _ _ (by omega)).trans r2, (kk _ _ (by omega)).trans r3⟩
theorem m_joinB (hR : mOk oS R) (hn : now < 2) (n3 : I 210 3 = nI now) {Lb La : List Tl} (p3 : I 213 (1 - now) = nI Lb.length) (pt : ∀ j t, Lb[j]? = some t → MT I (40 * (1 - now) + j) t) (hlen : La.length + Lb.length ≤ 40) (ola : ∀ t ∈ La, t.2.2.2.length ≤ 12) (olb : ∀ t ∈ Lb, t.2.2.2.length ≤ 12) {X Y : Nat} (u3 u4 : Int32) : ∀ (m n k : Nat) (J : ax_I), k + m = Lb.length → m < n → fTq now I J → J 213 now = nI (La.length + k) → (∀ j t, (La ++ (Lb.take k).map (moT X Y))[j]? = some t → MT J (40 * now + j) t) → ∃ J', d_M_join_400 oS n J R 210 (nI (1 - now)) u3 u4 (nI X) (nI Y) (nI k) = d_M_join_485 oS 5000 J' R 210 (nI (1 - now)) u3 u4 (nI X) (nI Y) 0 ∧ fTq now I J' ∧ J' 213 now = nI (La.length + Lb.length) ∧ ∀ j t, (La ++ Lb.map (moT X Y))[j]? = some t → MT J' (40 * now + j) t := by
  obtain ⟨-, -, ix, -⟩ := mx2 hR hn
  obtain ⟨-, -, iy, -⟩ := mx2 hR (show 1 - now < 2 by omega)
  intro m
  induction m with
  | zero =>
    intro n k J hk hn' hF hN hA
    obtain ⟨n, rfl⟩ : ∃ n', n = n' + 1 := ⟨n - 1, by omega⟩
    have hk : k = Lb.length := by omega
    subst hk
    rw [List.take_length] at hA
    rw [d_M_join_400, mr_6 hR, ob, iy, ob, hF.1 213 (1 - now) (by omega) (by omega), p3, if_pos (nI_le (Nat.le_refl _) (by omega))]
    exact ⟨J, rfl, hF, hN, hA⟩
  | succ m ih =>
    intro n k J hk hn' hF hN hA
    obtain ⟨n, rfl⟩ : ∃ n', n = n' + 1 := ⟨n - 1, by omega⟩
    have hlt : k < Lb.length := by omega
    obtain ⟨t, ht⟩ : ∃ t, Lb[k]? = some t := ⟨_, List.getElem?_eq_getElem hlt⟩
    have hbl := olb t (List.mem_of_getElem? ht)
    have g3 := (hF.1 210 3 (by omega) (by omega)).trans n3
    have e40 : (40 : Int32) * nI now + nI (La.length + k) = nI (40 * now + (La.length + k)) := by rw [show (40 : Int32) = nI 40 from rfl, nI_mul, nI_add]
    have f40 : (40 : Int32) * nI (1 - now) + nI k = nI (40 * (1 - now) + k) := by rw [show (40 : Int32) = nI 40 from rfl, nI_mul, nI_add]
    have hg : 40 * now + (La.length + k) < 80 := by omega
    obtain ⟨⟨t1, t2, t3⟩, -⟩ := mxT hR hg rfl
    have hT : MT J (40 * (1 - now) + k) t := MT_keep (pt k t ht) hbl (fun i z1 z2 => hF.2.1 _ _ z1 z2 (by omega)) (fun i z => hF.2.2 _ (by omega))
    obtain ⟨J1, f1, m1, m2, m3⟩ := m_move hR J (show 40 * (1 - now) + k < 80 by omega) hg
    have hT1 : MT J1 (40 * now + (La.length + k)) t := MT_moved hT hbl m1 m2
    obtain ⟨⟨q1, q2, -⟩, -⟩ := hT1
    rw [d_M_join_400, mr_6 hR, ob, iy, ob, hF.1 213 (1 - now) (by omega) (by omega), p3, if_neg (nI_ge hlt (by omega)), ob, g3, ix, ob, hN]
    unfold d_M_tileAt
    rw [ob, g3, e40, f40, f1, ob, mr_8 hR, ob, t1, ob, ob, ob, q1, nI_add, mr_9 hR, ob, t2, ob, ob, ob, ax_up_ne (show ¬ (216 = 215 ∧ 40 * now + (La.length + k) = 40 * now + (La.length + k)) by omega), q2, nI_add]
    obtain ⟨J2, hJ2⟩ : ∃ J2, J2 = ax_up (ax_up J1 215 (40 * now + (La.length + k)) (nI (t.1.1 + X))) 216 (40 * now + (La.length + k)) (nI (t.1.2 + Y)) := ⟨_, rfl⟩
    rw [← hJ2]
    have k2 : ∀ i m, ¬ (215 ≤ i ∧ i ≤ 220 ∧ m = 40 * now + (La.length + k)) → ¬ (i = 221 ∧ 12 * (40 * now + (La.length + k)) ≤ m ∧ m < 12 * (40 * now + (La.length + k)) + 12) → J2 i m = J i m := fun i m z1 z2 => by rw [hJ2, ax_up_ne (by omega), ax_up_ne (by omega)]; exact m3 i m z1 z2
    have g32 : J2 210 3 = nI now := (k2 _ _ (by omega) (by omega)).trans g3
    have gN : J2 213 now = nI (La.length + k) := (k2 _ _ (by omega) (by omega)).trans hN
    have hT2 : MT J2 (40 * now + (La.length + k)) (moT X Y t) := by
      rw [hJ2]
      exact MT_place (MT_moved hT hbl m1 m2) _ _
    rw [ob, g32, ix, ob, ob, ob, gN, nI_1, nI_1]
    have hJ3 : ∀ i m, i ≠ 213 → ax_up J2 213 now (nI (La.length + k + 1)) i m = J2 i m := fun i m z => ax_up_ne (by omega)
    refine ih n (k + 1) _ (by omega) (by omega) ⟨fun i m z1 z2 => ?_, fun i m z1 z2 z3 => (hJ3 _ _ (by omega)).trans ((k2 _ _ (by omega) (by omega)).trans (hF.2.1 i m z1 z2 z3)), fun m z => (hJ3 _ _ (by omega)).trans ((k2 _ _ (by omega) (by omega)).trans (hF.2.2 m z))⟩ (ax_up_self _ _ _ _) (fun j t' hj => ?_)
    · rw [ax_up_ne z2]
      exact (k2 _ _ (by omega) (by omega)).trans (hF.1 i m z1 z2)
    · rw [take_succ_f ht, List.map_append, ← List.append_assoc] at hj
      have el : (La ++ (Lb.take k).map (moT X Y)).length = La.length + k := by rw [List.length_append, List.length_map, List.length_take]; omega
      refine MT_up (by omega) ?_
      by_cases hjl : j < La.length + k
      · rw [List.getElem?_append_left (by omega)] at hj
        have hbl' : t'.2.2.2.length ≤ 12 := by
          rcases List.mem_append.mp (List.mem_of_getElem? hj) with z | z
          · exact ola t' z
          · obtain ⟨t0, h0, rfl⟩ := List.mem_map.mp z
            exact olb t0 (List.mem_of_mem_take h0)
        exact MT_keep (hA j t' hj) hbl' (fun i z1 z2 => k2 _ _ (by omega) (by omega)) (fun i z => k2 _ _ (by omega) (by omega))
      · rw [List.getElem?_append_right (by omega), el] at hj
        have hzz : j - (La.length + k) < 1 := by
          have := (List.getElem?_eq_some_iff.mp hj).1
          simpa using this
        have hj2 : j = La.length + k := by omega
        subst hj2
        simp at hj
        subst hj
        exact hT2
theorem m_joinE (hR : mOk oS R) (hn : now < 2) {J : ax_I} (n3 : J 210 3 = nI now) {W H sm L : Nat} (p1 : J 211 now = nI W) (p2 : J 212 now = nI H) (p3 : J 213 now = nI L) (ac : Bool) : (R 210 6).bind (fun u234 => (ax_ix oS u234 (nI (1 - now))).bind fun j238 => (some (ax_up J u234 j238 0)).bind fun I240 => (R 210 7).bind fun u242 => (ax_ix oS u242 (nI (1 - now))).bind fun j246 => (some (ax_up I240 u242 j246 0)).bind fun I248 => (R 210 4).bind fun u250 => if ax_b ac = 0 then (R 210 4).bind fun u255 => (ax_ix oS u255 (I248 210 3)).bind fun j259 => d_M_join_611 oS I248 R 210 (ax_b ac) (nI sm) (I248 u255 j259) (I248 210 3) u250 else d_M_join_611 oS I248 R 210 (ax_b ac) (nI sm) (nI sm) (I248 210 3) u250) = some (nI L, ax_up (ax_up (ax_up (ax_up (ax_up (ax_up J 213 (1 - now) 0) 214 (1 - now) 0) 211 now (nI (if ac then sm else W))) 212 now (nI (if ac then H else sm))) 210 18 0) 210 19 0) := by
  obtain ⟨i1, i2, i3, i4⟩ := mx2 hR hn
  obtain ⟨j1, j2, j3, j4⟩ := mx2 hR (show 1 - now < 2 by omega)
  obtain ⟨K, hK⟩ : ∃ K, K = ax_up (ax_up J 213 (1 - now) 0) 214 (1 - now) 0 := ⟨_, rfl⟩
  have k3 : K 210 3 = nI now := by rw [hK, ax_up_ne (by omega), ax_up_ne (by omega)]; exact n3
  have k1 : K 211 now = nI W := by rw [hK, ax_up_ne (by omega), ax_up_ne (by omega)]; exact p1
  have k2 : K 212 now = nI H := by rw [hK, ax_up_ne (by omega), ax_up_ne (by omega)]; exact p2
  have kL : K 213 now = nI L := by rw [hK, ax_up_ne (by omega), ax_up_ne (by omega)]; exact p3
  rw [mr_6 hR, ob, j3, ob, ob, mr_7 hR, ob, j4, ob, ob, ← hK, mr_4 hR, ob, k3]
  cases ac with
  | false =>
    rw [if_pos bF, ob, i1, ob, k1]
    unfold d_M_join_611
    rw [i1, ob, ob, mr_5 hR, ob, if_pos bF, ax_up_ne (show ¬ (210 = 211 ∧ 3 = now) by omega), k3]
    unfold d_M_join_638
    rw [i2, ob, ob, ob, ob, mr_6 hR, ob, ax_up_ne (show ¬ (210 = 210 ∧ 3 = 19) by omega), ax_up_ne (show ¬ (210 = 210 ∧ 3 = 18) by omega), ax_up_ne (show ¬ (210 = 212 ∧ 3 = now) by omega), ax_up_ne (show ¬ (210 = 211 ∧ 3 = now) by omega), k3, i3, ob, ax_up_ne (show ¬ (213 = 210 ∧ now = 19) by omega), ax_up_ne (show ¬ (213 = 210 ∧ now = 18) by omega), ax_up_ne (show ¬ (213 = 212 ∧ now = now) by omega), ax_up_ne (show ¬ (213 = 211 ∧ now = now) by omega), kL]
    rfl
  | true =>
    rw [if_neg bT]
    unfold d_M_join_611
    rw [i1, ob, ob, mr_5 hR, ob, if_neg bT, ob, ax_up_ne (show ¬ (210 = 211 ∧ 3 = now) by omega), k3, i2, ob, ax_up_ne (show ¬ (212 = 211 ∧ now = now) by omega), k2]
    unfold d_M_join_638
    rw [i2, ob, ob, ob, ob, mr_6 hR, ob, ax_up_ne (show ¬ (210 = 210 ∧ 3 = 19) by omega), ax_up_ne (show ¬ (210 = 210 ∧ 3 = 18) by omega), ax_up_ne (show ¬ (210 = 212 ∧ 3 = now) by omega), ax_up_ne (show ¬ (210 = 211 ∧ 3 = now) by omega), k3, i3, ob, ax_up_ne (show ¬ (213 = 210 ∧ now = 19) by omega), ax_up_ne (show ¬ (213 = 210 ∧ now = 18) by omega), ax_up_ne (show ¬ (213 = 212 ∧ now = now) by omega), ax_up_ne (show ¬ (213 = 211 ∧ now = now) by omega), kL]
    rfl
theorem m_joinC (hR : mOk oS R) (hn : now < 2) (n3 : I 210 3 = nI now) {W H sm L : Nat} (p1 : I 211 now = nI W) (p2 : I 212 now = nI H) (p3 : I 213 now = nI L) {Lb La : List Nt} (p4 : I 214 (1 - now) = nI Lb.length) (pn : ∀ j t, Lb[j]? = some t → MN I (20 * (1 - now) + j) t) (hlen : La.length + Lb.length ≤ 20) (ac : Bool) {X Y : Nat} : ∀ (m n k : Nat) (J : ax_I), k + m = Lb.length → m < n → fNq now I J → J 214 now = nI (La.length + k) → (∀ j t, (La ++ (Lb.take k).map (moN X Y))[j]? = some t → MN J (20 * now + j) t) → ∃ J', d_M_join_485 oS n J R 210 (nI (1 - now)) (ax_b ac) (nI sm) (nI X) (nI Y) (nI k) = some (nI L, ax_up (ax_up (ax_up (ax_up (ax_up (ax_up J' 213 (1 - now) 0) 214 (1 - now) 0) 211 now (nI (if ac then sm else W))) 212 now (nI (if ac then H else sm))) 210 18 0) 210 19 0) ∧ fNq now I J' ∧ J' 214 now = nI (La.length + Lb.length) ∧ ∀ j t, (La ++ Lb.map (moN X Y))[j]? = some t → MN J' (20 * now + j) t := by
  obtain ⟨-, -, -, ix⟩ := mx2 hR hn
  obtain ⟨-, -, -, iy⟩ := mx2 hR (show 1 - now < 2 by omega)
  intro m
  induction m with
  | zero =>
    intro n k J hk hn' hF hN hA
    obtain ⟨n, rfl⟩ : ∃ n', n = n' + 1 := ⟨n - 1, by omega⟩
    have hk : k = Lb.length := by omega
    subst hk
    rw [List.take_length] at hA
    rw [d_M_join_485, mr_7 hR, ob, iy, ob, hF.1 214 (1 - now) (by omega) (by omega), p4, if_pos (nI_le (Nat.le_refl _) (by omega)), ← mr_7 hR]
    exact ⟨J, m_joinE hR hn ((hF.1 210 3 (by omega) (by omega)).trans n3) ((hF.1 211 now (by omega) (by omega)).trans p1) ((hF.1 212 now (by omega) (by omega)).trans p2) ((hF.1 213 now (by omega) (by omega)).trans p3) ac, hF, hN, hA⟩
  | succ m ih =>
    intro n k J hk hn' hF hN hA
    obtain ⟨n, rfl⟩ : ∃ n', n = n' + 1 := ⟨n - 1, by omega⟩
    have hlt : k < Lb.length := by omega
    obtain ⟨t, ht⟩ : ∃ t, Lb[k]? = some t := ⟨_, List.getElem?_eq_getElem hlt⟩
    have g3 := (hF.1 210 3 (by omega) (by omega)).trans n3
    have e20 : (20 : Int32) * nI now + nI (La.length + k) = nI (20 * now + (La.length + k)) := by rw [show (20 : Int32) = nI 20 from rfl, nI_mul, nI_add]
    have f20 : (20 : Int32) * nI (1 - now) + nI k = nI (20 * (1 - now) + k) := by rw [show (20 : Int32) = nI 20 from rfl, nI_mul, nI_add]
    have hg : 20 * now + (La.length + k) < 40 := by omega
    obtain ⟨t1, t2, t3⟩ := mxN hR hg rfl
    obtain ⟨r1, r2, r3⟩ := pn k t ht
    obtain ⟨J1, f1, m1, m3⟩ := m_moveN hR J (show 20 * (1 - now) + k < 40 by omega) hg
    have q1 : J1 222 (20 * now + (La.length + k)) = nI t.1 := (m1 _ (by omega) (by omega)).trans ((hF.2 _ _ (by omega) (by omega) (by omega)).trans r1)
    have q2 : J1 223 (20 * now + (La.length + k)) = nI t.2.1 := (m1 _ (by omega) (by omega)).trans ((hF.2 _ _ (by omega) (by omega) (by omega)).trans r2)
    have q3 : J1 224 (20 * now + (La.length + k)) = nI t.2.2 := (m1 _ (by omega) (by omega)).trans ((hF.2 _ _ (by omega) (by omega) (by omega)).trans r3)
    rw [d_M_join_485, mr_7 hR, ob, iy, ob, hF.1 214 (1 - now) (by omega) (by omega), p4, if_neg (nI_ge hlt (by omega)), ob, g3, ix, ob, hN, e20, f20, f1, ob, mr_15 hR, ob, t1, ob, ob, ob, q1, nI_add, mr_16 hR, ob, t2, ob, ob, ob, ax_up_ne (show ¬ (223 = 222 ∧ 20 * now + (La.length + k) = 20 * now + (La.length + k)) by omega), q2, nI_add]
    obtain ⟨J2, hJ2⟩ : ∃ J2, J2 = ax_up (ax_up J1 222 (20 * now + (La.length + k)) (nI (t.1 + X))) 223 (20 * now + (La.length + k)) (nI (t.2.1 + Y)) := ⟨_, rfl⟩
    rw [← hJ2]
    have k2 : ∀ i m, ¬ (222 ≤ i ∧ i ≤ 224 ∧ m = 20 * now + (La.length + k)) → J2 i m = J i m := fun i m z1 => by rw [hJ2, ax_up_ne (by omega), ax_up_ne (by omega)]; exact m3 i m z1
    have g32 : J2 210 3 = nI now := (k2 _ _ (by omega)).trans g3
    have gN : J2 214 now = nI (La.length + k) := (k2 _ _ (by omega)).trans hN
    rw [ob, g32, ix, ob, ob, ob, gN, nI_1, nI_1]
    have hJ3 : ∀ i m, i ≠ 214 → ax_up J2 214 now (nI (La.length + k + 1)) i m = J2 i m := fun i m z => ax_up_ne (by omega)
    refine ih n (k + 1) _ (by omega) (by omega) ⟨fun i m z1 z2 => ?_, fun i m z1 z2 z3 => (hJ3 _ _ (by omega)).trans ((k2 _ _ (by omega)).trans (hF.2 i m z1 z2 z3))⟩ (ax_up_self _ _ _ _) (fun j t' hj => ?_)
    · rw [ax_up_ne z2]
      exact (k2 _ _ (by omega)).trans (hF.1 i m z1 z2)
    · rw [take_succ_f ht, List.map_append, ← List.append_assoc] at hj
      have el : (La ++ (Lb.take k).map (moN X Y)).length = La.length + k := by rw [List.length_append, List.length_map, List.length_take]; omega
      refine MN_up (by omega) ?_
      by_cases hjl : j < La.length + k
      · rw [List.getElem?_append_left (by omega)] at hj
        obtain ⟨r1, r2, r3⟩ := hA j t' hj
        exact ⟨(k2 _ _ (by omega)).trans r1, (k2 _ _ (by omega)).trans r2, (k2 _ _ (by omega)).trans r3⟩
      · rw [List.getElem?_append_right (by omega), el] at hj
        have hzz : j - (La.length + k) < 1 := by
          have := (List.getElem?_eq_some_iff.mp hj).1
          simpa using this
        have hj2 : j = La.length + k := by omega
        subst hj2
        simp at hj
        subst hj
        refine ⟨?_, ?_, ?_⟩
        · rw [hJ2, ax_up_ne (by omega), ax_up_self]; rfl
        · rw [hJ2, ax_up_self]; rfl
        · rw [hJ2, ax_up_ne (by omega), ax_up_ne (by omega)]; exact q3
end MJ
