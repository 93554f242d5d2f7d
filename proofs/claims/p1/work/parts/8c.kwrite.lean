/-! the class: what it puts into its stream -/
def mxL (ln pl n : Nat) : Nat := if n = 0 then ln else max ln (pl + n)
theorem mxL_add (ln pl n m : Nat) : mxL (mxL ln pl n) (pl + n) m = mxL ln pl (n + m) := by
  unfold mxL
  by_cases h1 : n = 0
  · subst h1
    simp
  · by_cases h2 : m = 0
    · subst h2
      simp [h1]
    · rw [if_neg h2, if_neg h1, if_neg (by omega)]
      omega
/-- l is put from place pl on; ln was the length -/
def Wr (J J' : ax_I) (pl ln : Nat) (l : List Nat) : Prop := J' 1 2 = nI (pl + l.length) ∧ J' 1 1 = nI (mxL ln pl l.length) ∧ (∀ i c, l[i]? = some c → J' 2 (pl + i) = nI c) ∧ (∀ j, j < pl ∨ pl + l.length ≤ j → J' 2 j = J 2 j) ∧ ∀ i m, i ≠ 1 → i ≠ 2 → J' i m = J i m
theorem b255 {v : Nat} (h : v < 2 ^ 31) : nI v &&& 255 = nI (v % 256) := by
  have := pk_and (nI v) (m := 255) 8 (by decide +kernel)
  rw [pk_tn (by omega)] at this
  exact this
theorem b8 {v : Nat} (h : v < 2 ^ 31) : nI v >>> (8 &&& 31) = nI (v / 256) := pk_shrN h (8 &&& 31) 8 (by decide +kernel)
section KW
variable {I J J0 : ax_I} {R : ax_R} {f g : Nat → Nat → Nat} {p q r fw fh since pl ln : Nat} {a a' b : Pc} {st l : List Nat}
theorem w_byte (h : Wr J0 J pl ln l) (hp : pl + l.length < 1148) (hln : ln ≤ 1148) (r1 : R 1 0 = some 2) {x : Int32} (c : Nat) (hx : x = nI c) : ∃ J', d_S_putByte oS J R 1 x = some J' ∧ Wr J0 J' pl ln (l ++ [c]) := by
  subst hx
  obtain ⟨h1, h2, h3, h4, h5⟩ := h
  have hm : mxL ln pl l.length ≤ 1148 := by unfold mxL; split <;> omega
  unfold d_S_putByte
  rw [h1, if_neg (nI_pos (by omega)), r1, ob, kl2, if_pos (nI_lt hp (by omega)), ob, kx2 hp, ob, ob, ax_up_ne (show ¬ (1 = 2 ∧ 2 = pl + l.length) by omega), h1, nI_1, ob, ob]
  obtain ⟨K, hK⟩ : ∃ K, K = ax_up (ax_up J 2 (pl + l.length) (nI c)) 1 2 (nI (pl + l.length + 1)) := ⟨_, rfl⟩
  have k11 : K 1 1 = nI (mxL ln pl l.length) := by rw [hK, ax_up_ne (by omega), ax_up_ne (by omega)]; exact h2
  have k12 : K 1 2 = nI (pl + l.length + 1) := by rw [hK, ax_up_self]
  rw [← hK, k11, k12]
  have em : (if nI (mxL ln pl l.length) < nI (pl + l.length + 1) then nI (pl + l.length + 1) else nI (mxL ln pl l.length)) = nI (mxL ln pl (l.length + 1)) := by
    have e : mxL ln pl (l.length + 1) = if mxL ln pl l.length < pl + l.length + 1 then pl + l.length + 1 else mxL ln pl l.length := by
      unfold mxL
      rw [if_neg (by omega)]
      by_cases hz : l.length = 0
      · rw [if_pos hz]
        split <;> omega
      · rw [if_neg hz]
        split <;> omega
    rw [e]
    by_cases z : mxL ln pl l.length < pl + l.length + 1
    · rw [if_pos (nI_lt z (by omega)), if_pos z]
    · rw [if_neg (nI_nlt (by omega) (by omega)), if_neg z]
  rw [em]
  have el : (l ++ [c]).length = l.length + 1 := by rw [List.length_append]; rfl
  refine ⟨_, rfl, ?_, ?_, fun i d hi => ?_, fun j hj => ?_, fun i m z1 z2 => ?_⟩
  · rw [ax_up_ne (by omega), k12, el]; rfl
  · rw [ax_up_self, el]
  · rw [ax_up_ne (by omega), hK, ax_up_ne (by omega)]
    by_cases e : i < l.length
    · rw [List.getElem?_append_left e] at hi
      rw [ax_up_ne (by omega)]
      exact h3 i d hi
    · rw [List.getElem?_append_right (by omega)] at hi
      have hz : i - l.length < 1 := (List.getElem?_eq_some_iff.mp hi).1
      have hj2 : i = l.length := by omega
      subst hj2
      simp at hi
      subst hi
      rw [ax_up_self]
  · rw [el] at hj
    rw [ax_up_ne (by omega), hK, ax_up_ne (by omega), ax_up_ne (by omega)]
    exact h4 j (by omega)
  · rw [ax_up_ne (by omega), hK, ax_up_ne (by omega), ax_up_ne (by omega)]
    exact h5 i m z1 z2
theorem w_num (h : Wr J0 J pl ln l) (hp : pl + l.length + 2 ≤ 1148) (hln : ln ≤ 1148) (r1 : R 1 0 = some 2) {x : Int32} {v : Nat} (hv : v < 65536) (hx : x = nI v) : ∃ J', d_S_putNumber oS J R 1 x = some J' ∧ Wr J0 J' pl ln (l ++ two v) := by
  subst hx
  obtain ⟨J1, e1, W1⟩ := w_byte h (by omega) hln r1 (v % 256) (b255 (by omega))
  have e8 : (nI v >>> (8 &&& 31)) &&& 255 = nI (v / 256) := by
    rw [b8 (by omega), b255 (by omega)]
    congr 1
    omega
  obtain ⟨J2, e2, W2⟩ := w_byte W1 (by rw [List.length_append]; show pl + (l.length + 1) < 1148; omega) hln r1 (v / 256) e8
  unfold d_S_putNumber
  rw [e1, ob, e2, ob]
  refine ⟨J2, rfl, ?_⟩
  rw [List.append_assoc] at W2
  exact W2
/-- outside the stream nothing has changed -/
theorem Wr_KP (hQ : KQ R f g p q) (hr : isP r) (ha : okP a) (h : KP J0 f g r a) (e : ∀ i m, i ≠ 1 → i ≠ 2 → J i m = J0 i m) : KP J f g r a := KP_far hQ hr ha h (fun i m z1 _ => e i m (by omega) (by omega))
theorem w_part55 (hQ : KQ R f g p q) (hr : isP r) (hP : KP J0 f g r a) (ha : okP a) {k : Nat} {t : Tl} (hk : a.2.1[k]? = some t) (hln : ln ≤ 1148) (u2 : Int32) : ∀ (m n i : Nat) (J : ax_I) (l : List Nat), i + m = t.2.2.2.length → m < n → Wr J0 J pl ln l → pl + l.length + m ≤ 1148 → ∃ J', d_T_putPart_55 oS n J R (f r k) 1 u2 (nI i) = (d_S_sumFrom oS J' R 1 u2).bind (fun r22 => (d_S_putNumber oS J' R 1 r22).bind fun I25 => some I25) ∧ Wr J0 J' pl ln (l ++ t.2.2.2.drop i) := by
  have l40 := ha.2.1.1
  have hkl : k < a.2.1.length := (List.getElem?_eq_some_iff.mp hk).1
  have hbl := (ha.2.2.1 t (List.mem_of_getElem? hk)).2.2.2.1
  have tu := (hQ.2.2.2.1 r k hr (by omega)).2
  have ru := T_r tu
  have r1 := hQ.2.1.2.2.2.2
  obtain ⟨⟨q1, q2, q3, q4, q5, q6⟩, q7⟩ := hP.2.1 k t hk
  intro m
  induction m with
  | zero =>
    intro n i J l hi hn' hW hl
    obtain ⟨n, rfl⟩ : ∃ n', n = n' + 1 := ⟨n - 1, by omega⟩
    have hi : i = t.2.2.2.length := by omega
    subst hi
    rw [d_T_putPart_55, hW.2.2.2.2 _ _ (by omega) (by omega), q6, if_pos (nI_le (Nat.le_refl _) (by omega)), List.drop_length, List.append_nil]
    exact ⟨J, rfl, hW⟩
  | succ m ih =>
    intro n i J l hi hn' hW hl
    obtain ⟨n, rfl⟩ : ∃ n', n = n' + 1 := ⟨n - 1, by omega⟩
    have hlt : i < t.2.2.2.length := by omega
    obtain ⟨c, hc⟩ : ∃ c, t.2.2.2[i]? = some c := ⟨_, List.getElem?_eq_getElem hlt⟩
    have ed : t.2.2.2.drop i = c :: t.2.2.2.drop (i + 1) := by rw [List.drop_eq_getElem_cons hlt]; congr 1; rw [List.getElem?_eq_getElem hlt] at hc; exact Option.some.inj hc
    obtain ⟨J1, e1, W1⟩ := w_byte hW (by omega) hln r1 c ((hW.2.2.2.2 (f r k + 1) i (by omega) (by omega)).trans (q7 i c hc))
    rw [d_T_putPart_55, hW.2.2.2.2 _ _ (by omega) (by omega), q6, if_neg (nI_ge hlt (by omega)), hQ.2.2.2.2.2.1 _ tu, ob, kxB tu (by omega), ob, e1, ob, nI_1]
    obtain ⟨J2, e2, W2⟩ := ih n (i + 1) J1 (l ++ [c]) (by omega) (by omega) W1 (by rw [List.length_append]; show pl + (l.length + 1) + m ≤ 1148; omega)
    refine ⟨J2, e2, ?_⟩
    rw [ed]
    rw [List.append_assoc] at W2
    exact W2
theorem w_sumL (hW : Wr J0 J pl ln l) (hl : pl + l.length ≤ 1148) (r1 : R 1 0 = some 2) (hc : ∀ c ∈ l, c < 256) : ∀ (m n k s : Nat), k + m = l.length → m < n → s < 65521 → d_S_sumFrom_8 oS n J R 1 (nI s) (nI (pl + k)) = some (nI (sumL s (l.drop k))) := by
  obtain ⟨h1, h2, h3, h4, h5⟩ := hW
  intro m
  induction m with
  | zero =>
    intro n k s hk hn' hs
    obtain ⟨n, rfl⟩ : ∃ n', n = n' + 1 := ⟨n - 1, by omega⟩
    have hk : k = l.length := by omega
    subst hk
    rw [d_S_sumFrom_8, h1, if_pos (nI_le (Nat.le_refl _) (by omega)), List.drop_length]
    rfl
  | succ m ih =>
    intro n k s hk hn' hs
    obtain ⟨n, rfl⟩ : ∃ n', n = n' + 1 := ⟨n - 1, by omega⟩
    have hlt : k < l.length := by omega
    obtain ⟨c, hc'⟩ : ∃ c, l[k]? = some c := ⟨_, List.getElem?_eq_getElem hlt⟩
    have ed : l.drop k = c :: l.drop (k + 1) := by rw [List.drop_eq_getElem_cons hlt]; congr 1; rw [List.getElem?_eq_getElem hlt] at hc'; exact Option.some.inj hc'
    have c256 : c < 256 := hc c (List.mem_of_getElem? hc')
    have er : nI (s * 31 + c) - nI (s * 31 + c) / 65521 * 65521 = nI ((s * 31 + c) % 65521) := n_rem (d := 65521) (by omega) (by omega) (by omega)
    rw [d_S_sumFrom_8, h1, if_neg (nI_ge (by omega) (by omega)), r1, ob, kl2, if_neg (nI_ge (by omega) (by omega)), ob, kx2 (by omega), ob, h3 k c hc', show (31 : Int32) = nI 31 from rfl, nI_mul, nI_add, er, nI_1, ed]
    have := ih n (k + 1) ((s * 31 + c) % 65521) (by omega) (by omega) (Nat.mod_lt _ (by omega))
    rw [show pl + k + 1 = pl + (k + 1) by omega, this]
    show some (nI (sumL ((s * 31 + c) % 65521) (l.drop (k + 1)))) = some (nI (sumL s (c :: l.drop (k + 1))))
    rw [Nat.mul_comm s 31]
    rfl
theorem w_part (hQ : KQ R f g p q) (hr : isP r) (hP : KP J0 f g r a) (ha : okP a) {k : Nat} {t : Tl} (hk : a.2.1[k]? = some t) (h0 : J0 1 2 = nI pl) (h1 : J0 1 1 = nI ln) (hln : ln ≤ 1148) (hl : pl + psz t ≤ 1148) : ∃ J, d_T_putPart oS J0 R (f r k) 1 = some J ∧ Wr J0 J pl ln (part t) := by
  have l40 := ha.2.1.1
  have oW := ha.1
  have hkl : k < a.2.1.length := (List.getElem?_eq_some_iff.mp hk).1
  have ot := ha.2.2.1 t (List.mem_of_getElem? hk)
  have h10 := hd10_lt oW.2.1 oW.2.2.2 ot
  obtain ⟨⟨z1, z2, z3, z4⟩, ⟨z5, z6⟩, z7, z8, z9⟩ := ot
  have hps : psz t = 12 + t.2.2.2.length := rfl
  have ru := T_r (hQ.2.2.2.1 r k hr (by omega)).2
  have r1 := hQ.2.1.2.2.2.2
  obtain ⟨⟨q1, q2, q3, q4, q5, q6⟩, q7⟩ := hP.2.1 k t hk
  have W0 : Wr J0 J0 pl ln [] := ⟨h0, h1, fun i c hi => (by cases hi), fun _ _ => rfl, fun _ _ _ _ => rfl⟩
  unfold d_T_putPart
  obtain ⟨J1, e1, W1⟩ := w_num W0 (by show pl + 0 + 2 ≤ 1148; omega) hln r1 (v := t.1.1) (by omega) q1
  rw [e1, ob, h0]
  obtain ⟨J2, e2, W2⟩ := w_num W1 (by simp only [List.length_append, two_len, List.length_nil]; omega) hln r1 (v := t.1.2) (by omega) ((W1.2.2.2.2 _ _ (by omega) (by omega)).trans q2)
  rw [e2, ob]
  obtain ⟨J3, e3, W3⟩ := w_num W2 (by simp only [List.length_append, two_len, List.length_nil]; omega) hln r1 (v := t.2.1.1) (by omega) ((W2.2.2.2.2 _ _ (by omega) (by omega)).trans q3)
  rw [e3, ob]
  obtain ⟨J4, e4, W4⟩ := w_num W3 (by simp only [List.length_append, two_len, List.length_nil]; omega) hln r1 (v := t.2.1.2) (by omega) ((W3.2.2.2.2 _ _ (by omega) (by omega)).trans q4)
  rw [e4, ob]
  obtain ⟨J5, e5, W5⟩ := w_byte W4 (by simp only [List.length_append, two_len, List.length_nil]; omega) hln r1 t.2.2.1 ((W4.2.2.2.2 _ _ (by omega) (by omega)).trans q5)
  rw [e5, ob]
  obtain ⟨J6, e6, W6⟩ := w_byte W5 (by simp only [List.length_append, two_len, List.length_nil, List.length_cons]; omega) hln r1 t.2.2.2.length ((W5.2.2.2.2 _ _ (by omega) (by omega)).trans q6)
  rw [e6, ob]
  obtain ⟨J7, e7, W7⟩ := w_part55 hQ hr hP ha hk hln (nI pl) t.2.2.2.length 5000 0 J6 _ (by omega) (by omega) W6 (by simp only [List.length_append, two_len, List.length_nil, List.length_cons]; omega)
  have e7 : d_T_putPart_55 oS 5000 J6 R (f r k) 1 (nI pl) 0 = _ := e7
  have eM : [] ++ two t.1.1 ++ two t.1.2 ++ two t.2.1.1 ++ two t.2.1.2 ++ [t.2.2.1] ++ [t.2.2.2.length] ++ t.2.2.2.drop 0 = hd10 t := by
    unfold hd10
    simp only [List.nil_append, List.drop_zero]
  rw [eM] at W7
  have hs := w_sumL W7 (by rw [hd10_len]; omega) r1 h10 (hd10 t).length 5000 0 1 (by omega) (by rw [hd10_len]; omega) (by omega)
  have hsf : d_S_sumFrom oS J7 R 1 (nI pl) = some (nI (sumL 1 (hd10 t))) := by
    unfold d_S_sumFrom
    have e0 : (if (0 : Int32) < nI pl then nI pl else 0) = nI (pl + 0) := by
      by_cases z : 0 < pl
      · rw [if_pos (show (0 : Int32) < nI pl from nI_lt (a := 0) z (by omega))]; rfl
      · have : pl = 0 := by omega
        subst this
        rw [if_neg (by decide)]; rfl
    rw [e0]
    rw [List.drop_zero] at hs
    exact hs
  have sl := sumL_lt (s := 1) (hd10 t) (by omega)
  obtain ⟨J8, e8, W8⟩ := w_num W7 (by rw [hd10_len]; omega) hln r1 (v := sumL 1 (hd10 t)) (by omega) rfl
  rw [e7, hsf, ob, e8, ob]
  exact ⟨J8, rfl, W8⟩
theorem w_head76 (hQ : KQ R f g p q) (hr : isP r) (hP : KP J0 f g r a) (ha : okP a) (hln : ln ≤ 1148) : ∀ (m n k : Nat) (J : ax_I) (l : List Nat), k + m = a.2.2.length → m < n → Wr J0 J pl ln l → pl + l.length + 5 * m ≤ 1148 → ∃ J', d_P_putHead_76 oS n J R r 1 (nI k) = some J' ∧ Wr J0 J' pl ln (l ++ (a.2.2.drop k).flatMap (fun n => two n.1 ++ two n.2.1 ++ [n.2.2])) := by
  have l20 := ha.2.1.2
  have oW := ha.1
  have rr := P_r hr
  have r1 := hQ.2.1.2.2.2.2
  intro m
  induction m with
  | zero =>
    intro n k J l hk hn' hW hl
    obtain ⟨n, rfl⟩ : ∃ n', n = n' + 1 := ⟨n - 1, by omega⟩
    have hk : k = a.2.2.length := by omega
    subst hk
    rw [d_P_putHead_76, hW.2.2.2.2 _ _ (by omega) (by omega), hP.1.2.2.2, if_pos (nI_le (Nat.le_refl _) (by omega)), List.drop_length, List.flatMap_nil, List.append_nil]
    exact ⟨J, rfl, hW⟩
  | succ m ih =>
    intro n k J l hk hn' hW hl
    obtain ⟨n, rfl⟩ : ∃ n', n = n' + 1 := ⟨n - 1, by omega⟩
    have hlt : k < a.2.2.length := by omega
    obtain ⟨t, ht⟩ : ∃ t, a.2.2[k]? = some t := ⟨_, List.getElem?_eq_getElem hlt⟩
    have ed : a.2.2.drop k = t :: a.2.2.drop (k + 1) := by rw [List.drop_eq_getElem_cons hlt]; congr 1; rw [List.getElem?_eq_getElem hlt] at ht; exact Option.some.inj ht
    obtain ⟨o1, o2, o3⟩ := ha.2.2.2.1 t (List.mem_of_getElem? ht)
    obtain ⟨hu, nu⟩ := hQ.2.2.2.2.1 r k hr (by omega)
    have ru := N_r nu
    obtain ⟨q1, q2, q3⟩ := hP.2.2 k t ht
    rw [d_P_putHead_76, hW.2.2.2.2 _ _ (by omega) (by omega), hP.1.2.2.2, if_neg (nI_ge hlt (by omega)), (hQ.2.2.1 r hr).2, ob, kxN hr (by omega), ob, hu, ob]
    obtain ⟨J1, e1, W1⟩ := w_num hW (by omega) hln r1 (v := t.1) (by omega) ((hW.2.2.2.2 _ _ (by omega) (by omega)).trans q1)
    rw [e1, ob, ob, kxN hr (by omega), ob, hu, ob]
    obtain ⟨J2, e2, W2⟩ := w_num W1 (by simp only [List.length_append, two_len]; omega) hln r1 (v := t.2.1) (by omega) ((W1.2.2.2.2 _ _ (by omega) (by omega)).trans q2)
    rw [e2, ob, ob, kxN hr (by omega), ob, hu, ob]
    obtain ⟨J3, e3, W3⟩ := w_byte W2 (by simp only [List.length_append, two_len]; omega) hln r1 t.2.2 ((W2.2.2.2.2 _ _ (by omega) (by omega)).trans q3)
    rw [e3, ob, nI_1]
    obtain ⟨J4, e4, W4⟩ := ih n (k + 1) J3 _ (by omega) (by omega) W3 (by simp only [List.length_append, two_len, List.length_cons, List.length_nil]; omega)
    refine ⟨J4, e4, ?_⟩
    rw [ed, List.flatMap_cons]
    have eL : l ++ two t.1 ++ two t.2.1 ++ [t.2.2] ++ (a.2.2.drop (k + 1)).flatMap (fun n => two n.1 ++ two n.2.1 ++ [n.2.2]) = l ++ (two t.1 ++ two t.2.1 ++ [t.2.2] ++ (a.2.2.drop (k + 1)).flatMap (fun n => two n.1 ++ two n.2.1 ++ [n.2.2])) := by simp only [List.append_assoc]
    rw [← eL]
    exact W4
theorem w_head38 (hQ : KQ R f g p q) (hr : isP r) (hP : KP J0 f g r a) (ha : okP a) (hln : ln ≤ 1148) : ∀ (m n k : Nat) (J : ax_I) (l : List Nat), k + m = a.2.1.length → m < n → Wr J0 J pl ln l → pl + l.length + 2 * m + 1 ≤ 1148 → ∃ J', d_P_putHead_38 oS n J R r 1 (nI k) = d_P_putHead_76 oS 5000 J' R r 1 0 ∧ Wr J0 J' pl ln (l ++ (a.2.1.drop k).flatMap (fun t => two (ptrP a t)) ++ [a.2.2.length]) := by
  have l40 := ha.2.1.1
  have tl := tot_le ha
  have rr := P_r hr
  have r1 := hQ.2.1.2.2.2.2
  intro m
  induction m with
  | zero =>
    intro n k J l hk hn' hW hl
    obtain ⟨n, rfl⟩ : ∃ n', n = n' + 1 := ⟨n - 1, by omega⟩
    have hk : k = a.2.1.length := by omega
    subst hk
    obtain ⟨J1, e1, W1⟩ := w_byte hW (by omega) hln r1 a.2.2.length ((hW.2.2.2.2 r 3 (by omega) (by omega)).trans hP.1.2.2.2)
    rw [d_P_putHead_38, hW.2.2.2.2 _ _ (by omega) (by omega), hP.1.2.2.1, if_pos (nI_le (Nat.le_refl _) (by omega)), e1, ob, List.drop_length, List.flatMap_nil, List.append_nil]
    exact ⟨J1, rfl, W1⟩
  | succ m ih =>
    intro n k J l hk hn' hW hl
    obtain ⟨n, rfl⟩ : ∃ n', n = n' + 1 := ⟨n - 1, by omega⟩
    have hlt : k < a.2.1.length := by omega
    obtain ⟨t, ht⟩ : ∃ t, a.2.1[k]? = some t := ⟨_, List.getElem?_eq_getElem hlt⟩
    have ed : a.2.1.drop k = t :: a.2.1.drop (k + 1) := by rw [List.drop_eq_getElem_cons hlt]; congr 1; rw [List.getElem?_eq_getElem hlt] at ht; exact Option.some.inj ht
    have hp := ptr_le (List.mem_of_getElem? ht)
    obtain ⟨J1, e1, W1⟩ := w_num hW (by omega) hln r1 (v := ptrP a t) (by omega) rfl
    rw [d_P_putHead_38, hW.2.2.2.2 _ _ (by omega) (by omega), hP.1.2.2.1, if_neg (nI_ge hlt (by omega)), (hQ.2.2.1 r hr).1, ob, kxT hr (by omega), ob, (hQ.2.2.2.1 r k hr (by omega)).1, ob, k_ptr hQ hr (Wr_KP hQ hr ha hP hW.2.2.2.2) ha ht, ob, e1, ob, nI_1]
    obtain ⟨J2, e2, W2⟩ := ih n (k + 1) J1 _ (by omega) (by omega) W1 (by simp only [List.length_append, two_len]; omega)
    refine ⟨J2, e2, ?_⟩
    rw [ed, List.flatMap_cons, ← List.append_assoc l]
    exact W2
theorem w_head (hQ : KQ R f g p q) (hr : isP r) (hP : KP J0 f g r a) (ha : okP a) (h0 : J0 1 2 = nI 0) (h1 : J0 1 1 = nI 0) : ∃ J, d_P_putHead oS J0 R r 1 = some J ∧ Wr J0 J 0 0 (hdP a) := by
  have l := ha.2.1
  have oW := ha.1
  have rr := P_r hr
  have r1 := hQ.2.1.2.2.2.2
  have W0 : Wr J0 J0 0 0 [] := ⟨h0, h1, fun i c hi => (by cases hi), fun _ _ => rfl, fun _ _ _ _ => rfl⟩
  unfold d_P_putHead
  obtain ⟨J1, e1, W1⟩ := w_byte W0 (x := 76) (by show 0 < 1148; omega) (by omega) r1 76 rfl
  rw [e1, ob]
  obtain ⟨J2, e2, W2⟩ := w_byte W1 (x := 70) (by show 0 + 1 < 1148; omega) (by omega) r1 70 rfl
  rw [e2, ob]
  obtain ⟨J3, e3, W3⟩ := w_num W2 (by show 0 + 2 + 2 ≤ 1148; omega) (by omega) r1 (v := a.1.1) (by omega) ((W2.2.2.2.2 _ _ (by omega) (by omega)).trans hP.1.1)
  rw [e3, ob]
  obtain ⟨J4, e4, W4⟩ := w_num W3 (by show 0 + 4 + 2 ≤ 1148; omega) (by omega) r1 (v := a.1.2) (by omega) ((W3.2.2.2.2 _ _ (by omega) (by omega)).trans hP.1.2.1)
  rw [e4, ob]
  obtain ⟨J5, e5, W5⟩ := w_byte W4 (by show 0 + 6 < 1148; omega) (by omega) r1 a.2.1.length ((W4.2.2.2.2 _ _ (by omega) (by omega)).trans hP.1.2.2.1)
  rw [e5, ob]
  obtain ⟨J6, e6, W6⟩ := w_head38 hQ hr hP ha (by omega) a.2.1.length 5000 0 J5 _ (by omega) (by omega) W5 (by show 0 + 7 + 2 * a.2.1.length + 1 ≤ 1148; omega)
  have e6 : d_P_putHead_38 oS 5000 J5 R r 1 0 = d_P_putHead_76 oS 5000 J6 R r 1 0 := e6
  rw [List.drop_zero] at W6
  have hl : ∀ (l : List Tl), (l.flatMap (fun t => two (ptrP a t))).length = 2 * l.length := by
    intro l
    induction l with
    | nil => rfl
    | cons s l ih => rw [List.flatMap_cons, List.length_append, ih, two_len, List.length_cons]; omega
  obtain ⟨J7, e7, W7⟩ := w_head76 hQ hr hP ha (by omega) a.2.2.length 5000 0 J6 _ (by omega) (by omega) W6 (by
    simp only [List.length_append, List.length_cons, List.length_nil, two_len, hl]
    omega)
  have e7 : d_P_putHead_76 oS 5000 J6 R r 1 0 = some J7 := e7
  rw [List.drop_zero] at W7
  have eH : [] ++ [76] ++ [70] ++ two a.1.1 ++ two a.1.2 ++ [a.2.1.length] ++ a.2.1.flatMap (fun t => two (ptrP a t)) ++ [a.2.2.length] ++ a.2.2.flatMap (fun n => two n.1 ++ two n.2.1 ++ [n.2.2]) = hdP a := by
    unfold hdP
    rw [List.nil_append]
  rw [eH] at W7
  exact ⟨J7, e6.trans e7, W7⟩
end KW
