/-! the stream of a picture, in the order of its parts -/
theorem bef_iff {s t : Tl} : bef s t = true ↔ (s.1.2 < t.1.2 ∨ (s.1.2 = t.1.2 ∧ s.1.1 < t.1.1)) := decide_eq_true_iff
theorem bef_nf {s t : Tl} : bef s t = false ↔ ¬ (s.1.2 < t.1.2 ∨ (s.1.2 = t.1.2 ∧ s.1.1 < t.1.1)) := decide_eq_false_iff_not
theorem bef_or {W H : Nat} {s t : Tl} (hs : okT W H s) (ht : okT W H t) (h : apart s t) : bef s t = true ∨ bef t s = true := by
  obtain ⟨⟨a1, a2, a3, a4⟩, -⟩ := hs
  obtain ⟨⟨b1, b2, b3, b4⟩, -⟩ := ht
  rw [bef_iff, bef_iff]
  unfold apart at h
  omega
theorem sumB_bef {s t : Tl} {l : List Tl} (h : bef s t = true) (hs : s ∈ l) : sumB s l + psz s ≤ sumB t l := by
  have hle : ∀ l : List Tl, sumB s l ≤ sumB t l := by
    intro l
    induction l with
    | nil => exact Nat.le_refl _
    | cons x l ih =>
      have e1 : sumB s (x :: l) = (if bef x s then psz x else 0) + sumB s l := by unfold sumB; rw [List.map_cons, List.sum_cons]
      have e2 : sumB t (x :: l) = (if bef x t then psz x else 0) + sumB t l := by unfold sumB; rw [List.map_cons, List.sum_cons]
      have : (if bef x s then psz x else 0) ≤ (if bef x t then psz x else 0) := by
        by_cases z : bef x s = true
        · have z2 : bef x t = true := by rw [bef_iff] at *; omega
          rw [z, z2]
          exact Nat.le_refl _
        · rw [if_neg z]
          exact Nat.zero_le _
      omega
  induction l with
  | nil => cases hs
  | cons x l ih =>
    have e1 : sumB s (x :: l) = (if bef x s then psz x else 0) + sumB s l := by unfold sumB; rw [List.map_cons, List.sum_cons]
    have e2 : sumB t (x :: l) = (if bef x t then psz x else 0) + sumB t l := by unfold sumB; rw [List.map_cons, List.sum_cons]
    by_cases z : x = s
    · subst z
      rw [e1, e2, bef_self, h]
      have := hle l
      simp
      omega
    · have hm : s ∈ l := by
        rcases List.mem_cons.mp hs with w | w
        · exact absurd w.symm z
        · exact w
      have := ih hm
      have : (if bef x s then psz x else 0) ≤ (if bef x t then psz x else 0) := by
        by_cases z : bef x s = true
        · have z2 : bef x t = true := by rw [bef_iff] at *; omega
          rw [z, z2]
          exact Nat.le_refl _
        · rw [if_neg z]
          exact Nat.zero_le _
      omega
/-- the parts of two tiles lie apart in the stream -/
theorem ptr_apart {p : Pc} (hp : okP p) {i j : Nat} {s t : Tl} (hi : p.2.1[i]? = some s) (hj : p.2.1[j]? = some t) (hij : i ≠ j) : ptrP p s + psz s ≤ ptrP p t ∨ ptrP p t + psz t ≤ ptrP p s := by
  have hs := List.mem_of_getElem? hi
  have ht := List.mem_of_getElem? hj
  have hil : i < p.2.1.length := (List.getElem?_eq_some_iff.mp hi).1
  have hjl : j < p.2.1.length := (List.getElem?_eq_some_iff.mp hj).1
  have hap : apart s t := by
    have hpw := List.pairwise_iff_getElem.mp hp.2.2.2.2
    rw [List.getElem?_eq_getElem hil] at hi
    rw [List.getElem?_eq_getElem hjl] at hj
    rw [← Option.some.inj hi, ← Option.some.inj hj]
    rcases Nat.lt_or_ge i j with z | z
    · exact hpw i j hil hjl z
    · exact apart_symm (hpw j i hjl hil (by omega))
  rcases bef_or (hp.2.2.1 s hs) (hp.2.2.1 t ht) hap with z | z
  · have := sumB_bef z hs
    unfold ptrP
    omega
  · have := sumB_bef z ht
    unfold ptrP
    omega
def srt (p : Pc) : List Tl := p.2.1.mergeSort (fun s t => !bef t s)
theorem srt_perm (p : Pc) : (srt p).Perm p.2.1 := List.mergeSort_perm _ _
theorem srt_pw {p : Pc} (hp : okP p) : (srt p).Pairwise (fun s t => bef s t = true) := by
  have h1 : (srt p).Pairwise (fun s t => (!bef t s) = true) := List.pairwise_mergeSort (fun a b c h1 h2 => by
    simp only [Bool.not_eq_true'] at *
    rw [bef_nf] at *
    omega) (fun a b => by
    cases h : bef b a
    · rfl
    · have : bef a b = false := by rw [bef_iff] at h; rw [bef_nf]; omega
      rw [this]; rfl) _
  have h2 : (srt p).Pairwise apart := (srt_perm p).symm.pairwise hp.2.2.2.2 apart_symm
  refine List.Pairwise.imp_of_mem (fun {s t} hs ht h => ?_) (List.pairwise_and_iff.mpr ⟨h1, h2⟩)
  obtain ⟨z1, z2⟩ := h
  simp only [Bool.not_eq_true'] at z1
  rcases bef_or (hp.2.2.1 s ((srt_perm p).mem_iff.mp hs)) (hp.2.2.1 t ((srt_perm p).mem_iff.mp ht)) z2 with w | w
  · exact w
  · rw [z1] at w
    cases w
theorem ptr_srt {p : Pc} (hp : okP p) {L1 L2 : List Tl} {t : Tl} (h : srt p = L1 ++ t :: L2) : ptrP p t = baP p + (L1.map psz).sum := by
  have e : sumB t p.2.1 = sumB t (srt p) := by
    unfold sumB
    exact (List.Perm.map _ (srt_perm p).symm).sum_nat
  have hpw := srt_pw hp
  rw [h, List.pairwise_append, List.pairwise_cons] at hpw
  obtain ⟨-, ⟨h2, -⟩, h3⟩ := hpw
  have a1 : ∀ l : List Tl, (∀ s ∈ l, bef s t = true) → sumB t l = (l.map psz).sum := by
    intro l hl
    unfold sumB
    congr 1
    exact List.map_congr_left (fun s hs => by rw [hl s hs]; rfl)
  have a2 : ∀ l : List Tl, (∀ s ∈ l, bef s t = false) → sumB t l = 0 := by
    intro l hl
    unfold sumB
    induction l with
    | nil => rfl
    | cons x l ih =>
      rw [List.map_cons, List.sum_cons, ih (fun s hs => hl s (List.mem_cons_of_mem _ hs)), hl x List.mem_cons_self]
      rfl
  have e2 : sumB t (L1 ++ t :: L2) = sumB t L1 + (sumB t (t :: L2)) := by
    unfold sumB
    rw [List.map_append, List.sum_append]
  have b1 := a1 L1 (fun s hs => h3 s hs t List.mem_cons_self)
  have b2 := a2 (t :: L2) (fun s hs => by
    rcases List.mem_cons.mp hs with rfl | w
    · exact bef_self _
    · have := h2 s w
      rw [bef_iff] at this
      rw [bef_nf]
      omega)
  unfold ptrP
  rw [e, h, e2, b1, b2]
  omega
def sPre (p : Pc) (L : List Tl) : List Nat := hdP p ++ L.flatMap part
theorem sPre_len (p : Pc) (L : List Tl) : (sPre p L).length = baP p + (L.map psz).sum := by
  have e : ∀ L : List Tl, (L.flatMap part).length = (L.map psz).sum := by
    intro L
    induction L with
    | nil => rfl
    | cons t L ih => rw [List.flatMap_cons, List.length_append, ih, part_len, List.map_cons, List.sum_cons]
  unfold sPre
  rw [List.length_append, hdP_len, e]
theorem sPre_snoc (p : Pc) (L : List Tl) (t : Tl) : sPre p (L ++ [t]) = sPre p L ++ part t := by
  unfold sPre
  rw [List.flatMap_append, List.append_assoc]
  simp
theorem psz_pos (t : Tl) : 0 < psz t := by unfold psz; omega
/-- who stands at the stream's end is the next -/
theorem ptr_next {p : Pc} (hp : okP p) {L1 L2 : List Tl} (h : srt p = L1 ++ L2) {t : Tl} (ht : t ∈ p.2.1) (e : ptrP p t = (sPre p L1).length) : ∃ L3, L2 = t :: L3 := by
  rw [sPre_len] at e
  have hm : t ∈ L1 ++ L2 := by rw [← h]; exact (srt_perm p).mem_iff.mpr ht
  rcases List.mem_append.mp hm with z | z
  · obtain ⟨A, B, hAB⟩ := List.append_of_mem z
    have := ptr_srt hp (L1 := A) (L2 := B ++ L2) (t := t) (by rw [h, hAB]; simp)
    rw [hAB, List.map_append, List.sum_append, List.map_cons, List.sum_cons] at e
    have := psz_pos t
    omega
  · obtain ⟨A, B, hAB⟩ := List.append_of_mem z
    have h1 := ptr_srt hp (L1 := L1 ++ A) (L2 := B) (t := t) (by rw [h, hAB]; simp)
    rw [List.map_append, List.sum_append] at h1
    cases A with
    | nil => exact ⟨B, hAB⟩
    | cons x A =>
      rw [List.map_cons, List.sum_cons] at h1
      have := psz_pos x
      omega
theorem wIn_srt {p : Pc} (hp : okP p) (l : List Tl) (hl : ∀ t ∈ l, t ∈ p.2.1) : ∀ (L1 L2 : List Tl), srt p = L1 ++ L2 → ∃ M1 M2, srt p = M1 ++ M2 ∧ wIn p l (sPre p L1) = sPre p M1 ∧ L1.length ≤ M1.length ∧ ∀ t, L2.head? = some t → t ∈ l → L1.length + 1 ≤ M1.length := by
  induction l with
  | nil => exact fun L1 L2 h => ⟨L1, L2, h, rfl, Nat.le_refl _, fun t _ z => by cases z⟩
  | cons s l ih =>
    intro L1 L2 h
    have ew : wIn p (s :: l) (sPre p L1) = wIn p l (if ptrP p s = (sPre p L1).length then sPre p L1 ++ part s else sPre p L1) := rfl
    rw [ew]
    by_cases z : ptrP p s = (sPre p L1).length
    · obtain ⟨L3, rfl⟩ := ptr_next hp h (hl s List.mem_cons_self) z
      rw [if_pos z, ← sPre_snoc]
      obtain ⟨M1, M2, g1, g2, g3, -⟩ := ih (fun t ht => hl t (List.mem_cons_of_mem _ ht)) (L1 ++ [s]) L3 (by rw [h]; simp)
      rw [List.length_append] at g3
      exact ⟨M1, M2, g1, g2, by omega, fun t _ _ => g3⟩
    · rw [if_neg z]
      obtain ⟨M1, M2, g1, g2, g3, g4⟩ := ih (fun t ht => hl t (List.mem_cons_of_mem _ ht)) L1 L2 h
      refine ⟨M1, M2, g1, g2, g3, fun t ht htm => ?_⟩
      rcases List.mem_cons.mp htm with w | w
      · subst w
        exfalso
        apply z
        cases L2 with
        | nil => cases ht
        | cons x L2 =>
          have : x = t := by simpa using ht
          subst this
          rw [ptr_srt hp h, sPre_len]
      · exact g4 t ht w
theorem wOut_srt {p : Pc} (hp : okP p) : ∀ (n : Nat) (L1 L2 : List Tl), srt p = L1 ++ L2 → L2.length ≤ n → wOut p n (sPre p L1) = sPre p (srt p) := by
  intro n
  induction n with
  | zero =>
    intro L1 L2 h hl
    have : L2 = [] := List.length_eq_zero_iff.mp (by omega)
    subst this
    rw [List.append_nil] at h
    rw [h]
    rfl
  | succ n ih =>
    intro L1 L2 h hl
    obtain ⟨M1, M2, g1, g2, g3, g4⟩ := wIn_srt hp p.2.1 (fun t ht => ht) L1 L2 h
    have el : L1.length + L2.length = M1.length + M2.length := by
      have := congrArg List.length (h.symm.trans g1)
      rw [List.length_append, List.length_append] at this
      exact this
    show wOut p n (wIn p p.2.1 (sPre p L1)) = _
    rw [g2]
    refine ih M1 M2 g1 ?_
    cases L2 with
    | nil =>
      simp at el
      omega
    | cons x L2 =>
      have hx : x ∈ p.2.1 := (srt_perm p).mem_iff.mp (by rw [h]; simp)
      have := g4 x rfl hx
      rw [List.length_cons] at el hl
      omega
theorem wr_srt {p : Pc} (hp : okP p) : wrP p = sPre p (srt p) := by
  have := wOut_srt hp p.2.1.length [] (srt p) rfl (by rw [(srt_perm p).length_eq]; exact Nat.le_refl _)
  have e : sPre p [] = hdP p := by unfold sPre; simp
  rw [e] at this
  exact this
theorem wr_len {p : Pc} (hp : okP p) : (wrP p).length = totP p := by
  rw [wr_srt hp, sPre_len]
  unfold totP
  rw [(List.Perm.map psz (srt_perm p)).sum_nat]
/-- what holds of the head and of each part holds of the whole stream -/
theorem wr_all {p : Pc} (hp : okP p) (Q : Nat → Nat → Prop) (h1 : ∀ i c, (hdP p)[i]? = some c → Q i c) (h2 : ∀ t ∈ p.2.1, ∀ i c, (part t)[i]? = some c → Q (ptrP p t + i) c) : ∀ j c, (wrP p)[j]? = some c → Q j c := by
  have main : ∀ (n : Nat) (L1 L2 : List Tl), L1.length = n → srt p = L1 ++ L2 → ∀ j c, (sPre p L1)[j]? = some c → Q j c := by
    intro n
    induction n with
    | zero =>
      intro L1 L2 hl _ j c hj
      have : L1 = [] := List.length_eq_zero_iff.mp hl
      subst this
      have e : sPre p [] = hdP p := by unfold sPre; simp
      rw [e] at hj
      exact h1 j c hj
    | succ n ih =>
      intro L1 L2 hl h j c hj
      obtain ⟨M, t, rfl⟩ : ∃ M t, L1 = M ++ [t] := by
        refine ⟨L1.dropLast, L1.getLast (fun z => by rw [z] at hl; cases hl), (List.dropLast_concat_getLast _).symm⟩
      rw [sPre_snoc] at hj
      have h' : srt p = M ++ t :: L2 := by rw [h]; simp
      by_cases z : j < (sPre p M).length
      · rw [List.getElem?_append_left z] at hj
        exact ih M (t :: L2) (by rw [List.length_append] at hl; simpa using hl) h' j c hj
      · rw [List.getElem?_append_right (by omega)] at hj
        have e := ptr_srt hp h'
        have := h2 t ((srt_perm p).mem_iff.mp (by rw [h']; simp)) _ c hj
        rw [sPre_len] at this z
        rw [e, show baP p + (M.map psz).sum + (j - (baP p + (M.map psz).sum)) = j by omega] at this
        exact this
  rw [wr_srt hp]
  exact main _ (srt p) [] rfl (by rw [List.append_nil])
def lenK (p : Pc) (l : List Tl) : Nat := l.foldl (fun m t => max m (ptrP p t + psz t)) (baP p)
theorem lenK_snoc (p : Pc) (l : List Tl) (t : Tl) : lenK p (l ++ [t]) = max (lenK p l) (ptrP p t + psz t) := by
  unfold lenK
  rw [List.foldl_append]
  rfl
theorem lenK_all {p : Pc} (hp : okP p) : lenK p p.2.1 = totP p := by
  have up : ∀ (l : List Tl) (m : Nat), (∀ t ∈ l, t ∈ p.2.1) → m ≤ totP p → l.foldl (fun m t => max m (ptrP p t + psz t)) m ≤ totP p := by
    intro l
    induction l with
    | nil => exact fun m _ h => h
    | cons t l ih => exact fun m h1 h2 => ih _ (fun s hs => h1 s (List.mem_cons_of_mem _ hs)) (by have := ptr_le (h1 t List.mem_cons_self); show max m (ptrP p t + psz t) ≤ totP p; omega)
  have mono : ∀ (l : List Tl) (m : Nat), m ≤ l.foldl (fun m t => max m (ptrP p t + psz t)) m := by
    intro l
    induction l with
    | nil => exact fun m => Nat.le_refl _
    | cons t l ih => exact fun m => Nat.le_trans (Nat.le_max_left m (ptrP p t + psz t)) (ih _)
  have lo : ∀ (l : List Tl) (m : Nat) (t : Tl), t ∈ l → ptrP p t + psz t ≤ l.foldl (fun m t => max m (ptrP p t + psz t)) m := by
    intro l
    induction l with
    | nil => exact fun m t h => by cases h
    | cons x l ih =>
      intro m t h
      rcases List.mem_cons.mp h with rfl | w
      · exact Nat.le_trans (Nat.le_max_right m (ptrP p t + psz t)) (mono _ _)
      · exact ih _ t w
  have h1 : lenK p p.2.1 ≤ totP p := up _ _ (fun t h => h) (by unfold totP; omega)
  have h2 : totP p ≤ lenK p p.2.1 := by
    rw [← wr_len hp, wr_srt hp, sPre_len]
    by_cases z : srt p = []
    · rw [z]
      exact mono p.2.1 (baP p)
    · obtain ⟨M, t, h⟩ : ∃ M t, srt p = M ++ [t] := ⟨(srt p).dropLast, (srt p).getLast z, (List.dropLast_concat_getLast _).symm⟩
      have e := ptr_srt hp (L1 := M) (L2 := []) (t := t) h
      have := lo p.2.1 (baP p) t ((srt_perm p).mem_iff.mp (by rw [h]; simp))
      rw [h, List.map_append, List.sum_append]
      simp
      unfold lenK
      omega
  omega
