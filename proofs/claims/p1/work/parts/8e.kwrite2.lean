/-! the class: write -/
theorem lenK_le {p : Pc} (l : List Tl) (hl : ∀ t ∈ l, t ∈ p.2.1) : lenK p l ≤ totP p := by
  have up : ∀ (l : List Tl) (m : Nat), (∀ t ∈ l, t ∈ p.2.1) → m ≤ totP p → l.foldl (fun m t => max m (ptrP p t + psz t)) m ≤ totP p := by
    intro l
    induction l with
    | nil => exact fun m _ h => h
    | cons t l ih => exact fun m h1 h2 => ih _ (fun s hs => h1 s (List.mem_cons_of_mem _ hs)) (by have := ptr_le (h1 t List.mem_cons_self); show max m (ptrP p t + psz t) ≤ totP p; omega)
  exact up l _ hl (by unfold totP; omega)
def Has (J : ax_I) (pl : Nat) (l : List Nat) : Prop := ∀ i c, l[i]? = some c → J 2 (pl + i) = nI c
section KW2
variable {I J J0 : ax_I} {R : ax_R} {f g : Nat → Nat → Nat} {p q r fw fh since pl ln : Nat} {a a' b : Pc} {st l : List Nat}
theorem w_loop (hQ : KQ R f g p q) (hP : KP I f g p a) (ha : okP a) : ∀ (m n k : Nat) (J : ax_I), k + m = a.2.1.length → m < n → J 1 1 = nI (lenK a (a.2.1.take k)) → Has J 0 (hdP a) → (∀ j t, j < k → a.2.1[j]? = some t → Has J (ptrP a t) (part t)) → (∀ i m, i ≠ 1 → i ≠ 2 → J i m = I i m) → ∃ J', d_K_write_20 oS n J R 0 (nI k) = some (nI (totP a), J') ∧ J' 1 1 = nI (totP a) ∧ Has J' 0 (hdP a) ∧ (∀ (j : Nat) (t : Tl), a.2.1[j]? = some t → Has J' (ptrP a t) (part t)) ∧ ∀ i m, i ≠ 1 → i ≠ 2 → J' i m = I i m := by
  have l40 := ha.2.1.1
  have tl := tot_le ha
  obtain ⟨pp, pq, hne⟩ := KQ_P hQ
  have rp := P_r pp
  intro m
  induction m with
  | zero =>
    intro n k J hk hn' h1 hH hA hF
    obtain ⟨n, rfl⟩ : ∃ n', n = n' + 1 := ⟨n - 1, by omega⟩
    have hk : k = a.2.1.length := by omega
    subst hk
    rw [List.take_length, lenK_all ha] at h1
    rw [d_K_write_20, hQ.2.1.1, ob, hF p 2 (by omega) (by omega), hP.1.2.2.1, if_pos (nI_le (Nat.le_refl _) (by omega)), hQ.2.1.2.2.1, ob, h1]
    exact ⟨J, rfl, h1, hH, fun j t hj => hA j t (List.getElem?_eq_some_iff.mp hj).1 hj, hF⟩
  | succ m ih =>
    intro n k J hk hn' h1 hH hA hF
    obtain ⟨n, rfl⟩ : ∃ n', n = n' + 1 := ⟨n - 1, by omega⟩
    have hlt : k < a.2.1.length := by omega
    obtain ⟨t, ht⟩ : ∃ t, a.2.1[k]? = some t := ⟨_, List.getElem?_eq_getElem hlt⟩
    have hp := ptr_le (List.mem_of_getElem? ht)
    have hlk := lenK_le (p := a) (a.2.1.take k) (fun t ht => List.mem_of_mem_take ht)
    have hPJ : KP J f g p a := Wr_KP hQ pp ha hP hF
    have hF0 : ∀ i m, i ≠ 1 → i ≠ 2 → ax_up J 1 2 (nI (ptrP a t)) i m = I i m := fun i m z1 z2 => (ax_up_ne (by omega)).trans (hF i m z1 z2)
    obtain ⟨J1, e1, W1⟩ := w_part hQ pp (Wr_KP hQ pp ha hP hF0) ha ht (ax_up_self _ _ _ _) ((ax_up_ne (by omega)).trans h1) (by omega) (by omega)
    rw [d_K_write_20, hQ.2.1.1, ob, hF p 2 (by omega) (by omega), hP.1.2.2.1, if_neg (nI_ge hlt (by omega)), ob, (hQ.2.2.1 p pp).1, ob, kxT pp (by omega), ob, (hQ.2.2.2.1 p k pp (by omega)).1, ob, hQ.2.1.2.2.1, ob, ob, k_ptr hQ pp hPJ ha ht, ob]
    unfold d_S_goTo
    rw [ob, ob, ob, e1, ob, nI_1]
    obtain ⟨w1, w2, w3, w4, w5⟩ := W1
    rw [part_len] at w1 w2 w4
    have keep : ∀ pl l, (pl + l.length ≤ ptrP a t ∨ ptrP a t + psz t ≤ pl) → Has J pl l → Has J1 pl l := by
      intro pl l hd hh i c hi
      have hil : i < l.length := (List.getElem?_eq_some_iff.mp hi).1
      rw [w4 _ (by omega), ax_up_ne (by omega)]
      exact hh i c hi
    refine ih n (k + 1) J1 (by omega) (by omega) ?_ (keep _ _ (Or.inl ?_) hH) (fun j s hj hs => ?_) (fun i m z1 z2 => (w5 i m z1 z2).trans (hF0 i m z1 z2))
    · rw [w2, take_succ_f ht, lenK_snoc]
      unfold mxL
      rw [if_neg (by have := psz_pos t; omega)]
    · rw [hdP_len]
      unfold ptrP
      omega
    · by_cases ej : j = k
      · subst ej
        rw [ht] at hs
        rw [← Option.some.inj hs]
        exact w3
      · refine keep _ _ ?_ (hA j s (by omega) hs)
        rw [part_len]
        exact ptr_apart ha hs ht ej
theorem K_write (hK : KR I R f g p q a b fw fh since st) (ha : okP a) (hb : okP b) : ∃ J, d_K_write oS I R 0 = some (nI (wrP a).length, J) ∧ KR J R f g p q a b fw fh since (wrP a) ∧ hiI I J := by
  obtain ⟨hQ, hP, hP2, k3, k4, k5, k6, k7⟩ := hK
  obtain ⟨pp, pq, hne⟩ := KQ_P hQ
  have tl := tot_le ha
  have l := ha.2.1
  obtain ⟨I1, hI1⟩ : ∃ I1, I1 = ax_up (ax_up I 1 1 0) 1 2 0 := ⟨_, rfl⟩
  have f1 : ∀ i m, i ≠ 1 → i ≠ 2 → I1 i m = I i m := fun i m z1 z2 => by rw [hI1, ax_up_ne (by omega), ax_up_ne (by omega)]
  obtain ⟨J1, e1, w1, w2, w3, w4, w5⟩ := w_head hQ pp (Wr_KP hQ pp ha hP f1) ha (by rw [hI1, ax_up_self]; rfl) (by rw [hI1, ax_up_ne (by omega), ax_up_self]; rfl)
  have hb0 : 0 < baP a := by unfold baP; omega
  obtain ⟨J2, e2, h1, h2, h3, h4⟩ := w_loop hQ hP ha a.2.1.length 5000 0 J1 (by omega) (by omega) (by
    rw [w2, hdP_len]
    unfold mxL
    rw [if_neg (by omega)]
    congr 1
    show max 0 (0 + baP a) = baP a
    omega) w3 (fun j t hj => by omega) (fun i m z1 z2 => (w5 i m z1 z2).trans (f1 i m z1 z2))
  have e2 : d_K_write_20 oS 5000 J1 R 0 0 = some (nI (totP a), J2) := e2
  unfold d_K_write d_S_empty
  rw [hQ.2.1.2.2.1, ob, ob, ob, ob, hQ.2.1.1, ob, ob, ← hI1, e1, ob, e2, wr_len ha]
  refine ⟨J2, rfl, ⟨hQ, Wr_KP hQ pp ha hP h4, Wr_KP hQ pq hb hP2 h4, (h4 _ _ (by omega) (by omega)).trans k3, (h4 _ _ (by omega) (by omega)).trans k4, (h4 _ _ (by omega) (by omega)).trans k5, ?_, ?_⟩, fun i m z => h4 _ _ (by omega) (by omega)⟩
  · rw [wr_len ha]
    exact h1
  · refine wr_all ha (fun j c => J2 2 j = nI c) (fun i c hi => ?_) (fun t ht i c hi => ?_)
    · have := h2 i c hi
      rw [Nat.zero_add] at this
      exact this
    · obtain ⟨j, hj, hjt⟩ := List.getElem_of_mem ht
      exact h3 j t (by rw [List.getElem?_eq_getElem hj, hjt]) i c hi
end KW2
