/-! the stream, as lists -/
def two (v : Nat) : List Nat := [v % 256, v / 256]
def bef (s t : Tl) : Bool := decide (s.1.2 < t.1.2 ∨ (s.1.2 = t.1.2 ∧ s.1.1 < t.1.1))
def psz (t : Tl) : Nat := 12 + t.2.2.2.length
def sumB (t : Tl) (l : List Tl) : Nat := (l.map (fun s => if bef s t then psz s else 0)).sum
def baP (p : Pc) : Nat := 8 + 2 * p.2.1.length + 5 * p.2.2.length
def ptrP (p : Pc) (t : Tl) : Nat := baP p + sumB t p.2.1
def totP (p : Pc) : Nat := baP p + (p.2.1.map psz).sum
def hd10 (t : Tl) : List Nat := two t.1.1 ++ two t.1.2 ++ two t.2.1.1 ++ two t.2.1.2 ++ [t.2.2.1] ++ [t.2.2.2.length] ++ t.2.2.2
def sumL (s : Nat) (l : List Nat) : Nat := l.foldl (fun s c => (31 * s + c) % 65521) s
def part (t : Tl) : List Nat := hd10 t ++ two (sumL 1 (hd10 t))
def hdP (p : Pc) : List Nat := [76] ++ [70] ++ two p.1.1 ++ two p.1.2 ++ [p.2.1.length] ++ p.2.1.flatMap (fun t => two (ptrP p t)) ++ [p.2.2.length] ++ p.2.2.flatMap (fun n => two n.1 ++ two n.2.1 ++ [n.2.2])
def wIn (p : Pc) (l : List Tl) (st : List Nat) : List Nat := l.foldl (fun st t => if ptrP p t = st.length then st ++ part t else st) st
def wOut (p : Pc) : Nat → List Nat → List Nat
  | 0, st => st
  | n + 1, st => wOut p n (wIn p p.2.1 st)
def wrP (p : Pc) : List Nat := wOut p p.2.1.length (hdP p)
theorem bef_self (t : Tl) : bef t t = false := decide_eq_false (by omega)
theorem sumB_le (t : Tl) (l : List Tl) : sumB t l ≤ (l.map psz).sum := by
  unfold sumB
  induction l with
  | nil => exact Nat.le_refl _
  | cons s l ih =>
    rw [List.map_cons, List.map_cons, List.sum_cons, List.sum_cons]
    have : (if bef s t then psz s else 0) ≤ psz s := by split <;> omega
    omega
theorem sumB_mem {t : Tl} {l : List Tl} (h : t ∈ l) : sumB t l + psz t ≤ (l.map psz).sum := by
  induction l with
  | nil => cases h
  | cons s l ih =>
    have e : sumB t (s :: l) = (if bef s t then psz s else 0) + sumB t l := by unfold sumB; rw [List.map_cons, List.sum_cons]
    rw [e, List.map_cons, List.sum_cons]
    rcases List.mem_cons.mp h with z | z
    · rw [← z, bef_self]
      have := sumB_le t l
      simp
      omega
    · have := ih z
      have : (if bef s t then psz s else 0) ≤ psz s := by split <;> omega
      omega
theorem ptr_le {p : Pc} {t : Tl} (h : t ∈ p.2.1) : ptrP p t + psz t ≤ totP p := by
  have := sumB_mem h
  unfold ptrP totP
  omega
theorem psz_sum {l : List Tl} (h : ∀ t ∈ l, t.2.2.2.length ≤ 12) : (l.map psz).sum ≤ 24 * l.length := by
  induction l with
  | nil => exact Nat.le_refl _
  | cons s l ih =>
    rw [List.map_cons, List.sum_cons, List.length_cons]
    have := ih (fun t ht => h t (List.mem_cons_of_mem _ ht))
    have := h s List.mem_cons_self
    unfold psz at *
    omega
theorem tot_le {p : Pc} (hp : okP p) : totP p ≤ 1148 := by
  have h1 := psz_sum (fun t ht => (hp.2.2.1 t ht).2.2.2.1)
  have h2 := hp.2.1
  unfold totP baP
  omega
theorem two_len (v : Nat) : (two v).length = 2 := rfl
theorem hd10_len (t : Tl) : (hd10 t).length = 10 + t.2.2.2.length := by
  unfold hd10
  simp [two]
  omega
theorem part_len (t : Tl) : (part t).length = psz t := by
  unfold part
  rw [List.length_append, hd10_len, two_len]
  unfold psz
  omega
theorem hd10_lt {W H : Nat} (hW : W ≤ 400) (hH : H ≤ 400) {t : Tl} (ht : okT W H t) : ∀ c ∈ hd10 t, c < 256 := by
  obtain ⟨⟨a1, a2, a3, a4⟩, ⟨b1, b2⟩, c1, c2, c3⟩ := ht
  intro c hc
  unfold hd10 two at hc
  simp at hc
  rcases hc with h | h | h | h | h | h | h | h | h | h | h
  all_goals first | exact c3 c h | omega
theorem hdP_len (p : Pc) : (hdP p).length = baP p := by
  have e1 : ∀ (l : List Tl), (l.flatMap (fun t => two (ptrP p t))).length = 2 * l.length := by
    intro l
    induction l with
    | nil => rfl
    | cons s l ih => rw [List.flatMap_cons, List.length_append, ih, two_len, List.length_cons]; omega
  have e2 : ∀ (l : List Nt), (l.flatMap (fun n => two n.1 ++ two n.2.1 ++ [n.2.2])).length = 5 * l.length := by
    intro l
    induction l with
    | nil => rfl
    | cons s l ih => rw [List.flatMap_cons, List.length_append, ih, List.length_cons]; simp [two]; omega
  unfold hdP baP
  simp only [List.length_append, e1, e2, two_len, List.length_cons, List.length_nil]
  omega
theorem sumL_lt {s : Nat} (l : List Nat) (hs : s < 65521) : sumL s l < 65521 := by
  unfold sumL
  induction l generalizing s with
  | nil => exact hs
  | cons c l ih => exact ih (Nat.mod_lt _ (by omega))
theorem wIn_le {p : Pc} (l : List Tl) (hl : ∀ t ∈ l, t ∈ p.2.1) (st : List Nat) (hs : st.length ≤ totP p) : (wIn p l st).length ≤ totP p := by
  unfold wIn
  induction l generalizing st with
  | nil => exact hs
  | cons t l ih =>
    refine ih (fun s hs => hl s (List.mem_cons_of_mem _ hs)) _ ?_
    show (if ptrP p t = st.length then st ++ part t else st).length ≤ totP p
    split
    · rename_i e
      rw [List.length_append, part_len, ← e]
      exact ptr_le (hl t List.mem_cons_self)
    · exact hs
theorem wOut_le {p : Pc} (n : Nat) (st : List Nat) (hs : st.length ≤ totP p) : (wOut p n st).length ≤ totP p := by
  induction n generalizing st with
  | zero => exact hs
  | succ n ih => exact ih _ (wIn_le _ (fun t ht => ht) _ hs)
theorem wr_le {p : Pc} (hp : okP p) : (wrP p).length ≤ 1148 := Nat.le_trans (wOut_le _ _ (by rw [hdP_len]; unfold totP; omega)) (tot_le hp)
