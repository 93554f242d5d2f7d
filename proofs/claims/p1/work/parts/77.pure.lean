/-! the pure layer: what each call makes of a picture, and that it stays one -/
theorem apart_symm {s t : Tl} (h : apart s t) : apart t s := by
  unfold apart at *
  omega
theorem okP_fresh {w h : Nat} (w1 : 1 ≤ w) (w2 : w ≤ 400) (h1 : 1 ≤ h) (h2 : h ≤ 400) : okP ((w, h), [], []) := ⟨⟨w1, w2, h1, h2⟩, ⟨Nat.zero_le _, Nat.zero_le _⟩, fun t ht => (by cases ht), fun t ht => (by cases ht), List.Pairwise.nil⟩
theorem okP_addT {p : Pc} (hp : okP p) {t : Tl} (ht : okT p.1.1 p.1.2 t) (hl : p.2.1.length < 40) (ha : ∀ s ∈ p.2.1, apart t s) : okP (addT p t) := by
  obtain ⟨h1, ⟨h2, h3⟩, h4, h5, h6⟩ := hp
  refine ⟨h1, ⟨?_, h3⟩, fun s hs => ?_, h5, ?_⟩
  · show (p.2.1 ++ [t]).length ≤ 40
    rw [List.length_append]
    exact hl
  · rcases List.mem_append.mp (show s ∈ p.2.1 ++ [t] from hs) with z | z
    · exact h4 s z
    · rw [List.mem_singleton.mp z]
      exact ht
  · show (p.2.1 ++ [t]).Pairwise apart
    rw [List.pairwise_append]
    refine ⟨h6, List.pairwise_singleton _ _, fun s hs u hu => ?_⟩
    rw [List.mem_singleton.mp hu]
    exact apart_symm (ha s hs)
theorem okP_addN {p : Pc} (hp : okP p) {n : Nt} (hn : okN p.1.1 p.1.2 n) (hl : p.2.2.length < 20) : okP (addN p n) := by
  obtain ⟨h1, ⟨h2, h3⟩, h4, h5, h6⟩ := hp
  refine ⟨h1, ⟨h2, ?_⟩, h4, fun s hs => ?_, h6⟩
  · show (p.2.2 ++ [n]).length ≤ 20
    rw [List.length_append]
    exact hl
  · rcases List.mem_append.mp (show s ∈ p.2.2 ++ [n] from hs) with z | z
    · exact h5 s z
    · rw [List.mem_singleton.mp z]
      exact hn
/-- tiles are changed one by one, and stay apart -/
theorem pw_map {l : List Tl} {f : Tl → Tl} (h : l.Pairwise apart) (hf : ∀ s t, s ∈ l → t ∈ l → apart s t → apart (f s) (f t)) : (l.map f).Pairwise apart := by
  induction l with
  | nil => exact List.Pairwise.nil
  | cons a l ih =>
    rw [List.map_cons, List.pairwise_cons]
    rw [List.pairwise_cons] at h
    refine ⟨fun s hs => ?_, ih h.2 (fun s t z1 z2 => hf s t (List.mem_cons_of_mem _ z1) (List.mem_cons_of_mem _ z2))⟩
    obtain ⟨u, hu, rfl⟩ := List.mem_map.mp hs
    exact hf _ _ List.mem_cons_self (List.mem_cons_of_mem _ hu) (h.1 u hu)
theorem okP_byt {p : Pc} (hp : okP p) {k c : Nat} {t : Tl} (hk : p.2.1[k]? = some t) (hl : t.2.2.2.length < 12) (hc : c < 256) : okP (setT p k (byt t c)) := by
  obtain ⟨h1, ⟨h2, h3⟩, h4, h5, h6⟩ := hp
  obtain ⟨g1, g2, g3, g4, g5⟩ := h4 t (List.mem_of_getElem? hk)
  have ht : okT p.1.1 p.1.2 (byt t c) := by
    refine ⟨g1, g2, g3, ?_, fun b hb => ?_⟩
    · show (t.2.2.2 ++ [c]).length ≤ 12
      rw [List.length_append]
      exact hl
    · rcases List.mem_append.mp (show b ∈ t.2.2.2 ++ [c] from hb) with z | z
      · exact g5 b z
      · rw [List.mem_singleton.mp z]
        exact hc
  refine ⟨h1, ⟨?_, h3⟩, fun s hs => ?_, h5, ?_⟩
  · show (p.2.1.set k (byt t c)).length ≤ 40
    rw [List.length_set]
    exact h2
  · rcases List.mem_or_eq_of_mem_set (show s ∈ p.2.1.set k (byt t c) from hs) with z | z
    · exact h4 s z
    · rw [z]
      exact ht
  · show (p.2.1.set k (byt t c)).Pairwise apart
    rw [List.pairwise_iff_getElem] at h6 ⊢
    intro i j hi hj hij
    rw [List.length_set] at hi hj
    have e : ∀ m (hm : m < p.2.1.length), ((p.2.1.set k (byt t c))[m]'(by rw [List.length_set]; exact hm)).1 = p.2.1[m].1 ∧ ((p.2.1.set k (byt t c))[m]'(by rw [List.length_set]; exact hm)).2.1 = p.2.1[m].2.1 := by
      intro m hm
      rw [List.getElem_set]
      split
      · rename_i z
        subst z
        rw [List.getElem?_eq_getElem hm] at hk
        rw [Option.some.inj hk]
        exact ⟨rfl, rfl⟩
      · exact ⟨rfl, rfl⟩
    have := h6 i j hi hj hij
    unfold apart at this ⊢
    rw [(e i hi).1, (e i hi).2, (e j hj).1, (e j hj).2]
    exact this
theorem okP_crop {p : Pc} (hp : okP p) {x y w h : Nat} (w1 : 1 ≤ w) (h1 : 1 ≤ h) (hx : x + w ≤ p.1.1) (hy : y + h ≤ p.1.2) : okP (cropP p x y w h) := by
  obtain ⟨⟨_, g2, _, g4⟩, ⟨l1, l2⟩, k1, k2, k3⟩ := hp
  refine ⟨⟨w1, by show w ≤ 400; omega, h1, by show h ≤ 400; omega⟩, ⟨?_, ?_⟩, fun s hs => ?_, fun s hs => ?_, ?_⟩
  · show ((p.2.1.filter (inT x y w h)).map (shT x y)).length ≤ 40
    rw [List.length_map]
    exact Nat.le_trans (List.length_filter_le _ _) l1
  · show ((p.2.2.filter (inN x y w h)).map (shN x y)).length ≤ 20
    rw [List.length_map]
    exact Nat.le_trans (List.length_filter_le _ _) l2
  · obtain ⟨t, ht, rfl⟩ := List.mem_map.mp hs
    obtain ⟨m1, m2⟩ := List.mem_filter.mp ht
    obtain ⟨q1, q2, q3, q4⟩ := k1 t m1
    have m2 := of_decide_eq_true m2
    refine ⟨q1, ⟨?_, ?_⟩, q3, q4⟩
    · show t.1.1 - x + t.2.1.1 ≤ w
      omega
    · show t.1.2 - y + t.2.1.2 ≤ h
      omega
  · obtain ⟨t, ht, rfl⟩ := List.mem_map.mp hs
    obtain ⟨m1, m2⟩ := List.mem_filter.mp ht
    obtain ⟨q1, q2, q3⟩ := k2 t m1
    have m2 := of_decide_eq_true m2
    refine ⟨?_, ?_, q3⟩
    · show t.1 - x < w
      omega
    · show t.2.1 - y < h
      omega
  · refine pw_map (List.Pairwise.filter _ k3) (fun s t hs ht z => ?_)
    have m1 := of_decide_eq_true (List.mem_filter.mp hs).2
    have m2 := of_decide_eq_true (List.mem_filter.mp ht).2
    unfold apart at *
    show s.1.1 - x + s.2.1.1 ≤ t.1.1 - x ∨ t.1.1 - x + t.2.1.1 ≤ s.1.1 - x ∨ s.1.2 - y + s.2.1.2 ≤ t.1.2 - y ∨ t.1.2 - y + t.2.1.2 ≤ s.1.2 - y
    omega
/-- mirrored, turned by a quarter, shown otherwise -/
def mirT (W : Nat) (t : Tl) : Tl := ((W - t.1.1 - t.2.1.1, t.1.2), t.2)
def quaT (H : Nat) (t : Tl) : Tl := ((H - t.1.2 - t.2.1.2, t.1.1), (t.2.1.2, t.2.1.1), t.2.2)
def wayT (v : Nat) (t : Tl) : Tl := (t.1, t.2.1, tog t.2.2.1 v, t.2.2.2)
def mirN (W : Nat) (n : Nt) : Nt := (W - 1 - n.1, n.2)
def quaN (H : Nat) (n : Nt) : Nt := (H - 1 - n.2.1, n.1, n.2.2)
def mirP (p : Pc) : Pc := (p.1, p.2.1.map (mirT p.1.1), p.2.2.map (mirN p.1.1))
def quaP (p : Pc) : Pc := ((p.1.2, p.1.1), p.2.1.map (quaT p.1.2), p.2.2.map (quaN p.1.2))
def quaPs : Nat → Pc → Pc
  | 0, p => p
  | n + 1, p => quaPs n (quaP p)
def wayP (v : Nat) (p : Pc) : Pc := (p.1, p.2.1.map (wayT v), p.2.2)
def turnP (v : Nat) (p : Pc) : Pc := wayP v (quaPs (v % 4) (if 4 ≤ v then mirP p else p))
theorem okP_mir {p : Pc} (hp : okP p) : okP (mirP p) := by
  obtain ⟨g, ⟨l1, l2⟩, k1, k2, k3⟩ := hp
  refine ⟨g, ⟨?_, ?_⟩, fun s hs => ?_, fun s hs => ?_, pw_map k3 (fun s t hs ht z => ?_)⟩
  · show (p.2.1.map _).length ≤ 40
    rw [List.length_map]; exact l1
  · show (p.2.2.map _).length ≤ 20
    rw [List.length_map]; exact l2
  · obtain ⟨t, ht, rfl⟩ := List.mem_map.mp hs
    obtain ⟨q1, ⟨q2, q5⟩, q3, q4⟩ := k1 t ht
    refine ⟨q1, ⟨?_, q5⟩, q3, q4⟩
    show p.1.1 - t.1.1 - t.2.1.1 + t.2.1.1 ≤ p.1.1
    omega
  · obtain ⟨t, ht, rfl⟩ := List.mem_map.mp hs
    obtain ⟨q1, q2, q3⟩ := k2 t ht
    refine ⟨?_, q2, q3⟩
    show p.1.1 - 1 - t.1 < p.1.1
    omega
  · obtain ⟨-, ⟨a1, a2⟩, -⟩ := k1 s hs
    obtain ⟨-, ⟨b1, b2⟩, -⟩ := k1 t ht
    unfold apart at *
    show p.1.1 - s.1.1 - s.2.1.1 + s.2.1.1 ≤ p.1.1 - t.1.1 - t.2.1.1 ∨ p.1.1 - t.1.1 - t.2.1.1 + t.2.1.1 ≤ p.1.1 - s.1.1 - s.2.1.1 ∨ s.1.2 + s.2.1.2 ≤ t.1.2 ∨ t.1.2 + t.2.1.2 ≤ s.1.2
    omega
theorem okP_qua {p : Pc} (hp : okP p) : okP (quaP p) := by
  obtain ⟨⟨g1, g2, g3, g4⟩, ⟨l1, l2⟩, k1, k2, k3⟩ := hp
  refine ⟨⟨g3, g4, g1, g2⟩, ⟨?_, ?_⟩, fun s hs => ?_, fun s hs => ?_, pw_map k3 (fun s t hs ht z => ?_)⟩
  · show (p.2.1.map _).length ≤ 40
    rw [List.length_map]; exact l1
  · show (p.2.2.map _).length ≤ 20
    rw [List.length_map]; exact l2
  · obtain ⟨t, ht, rfl⟩ := List.mem_map.mp hs
    obtain ⟨⟨r1, r2, r3, r4⟩, ⟨q2, q5⟩, q3, q4⟩ := k1 t ht
    refine ⟨⟨r3, r4, r1, r2⟩, ⟨?_, q2⟩, q3, q4⟩
    show p.1.2 - t.1.2 - t.2.1.2 + t.2.1.2 ≤ p.1.2
    omega
  · obtain ⟨t, ht, rfl⟩ := List.mem_map.mp hs
    obtain ⟨q1, q2, q3⟩ := k2 t ht
    refine ⟨?_, q1, q3⟩
    show p.1.2 - 1 - t.2.1 < p.1.2
    omega
  · obtain ⟨-, ⟨a1, a2⟩, -⟩ := k1 s hs
    obtain ⟨-, ⟨b1, b2⟩, -⟩ := k1 t ht
    unfold apart at *
    show p.1.2 - s.1.2 - s.2.1.2 + s.2.1.2 ≤ p.1.2 - t.1.2 - t.2.1.2 ∨ p.1.2 - t.1.2 - t.2.1.2 + t.2.1.2 ≤ p.1.2 - s.1.2 - s.2.1.2 ∨ s.1.1 + s.2.1.1 ≤ t.1.1 ∨ t.1.1 + t.2.1.1 ≤ s.1.1
    omega
theorem okP_quas {p : Pc} (hp : okP p) (n : Nat) : okP (quaPs n p) := by
  induction n generalizing p with
  | zero => exact hp
  | succ n ih => exact ih (okP_qua hp)
theorem okP_way {p : Pc} (hp : okP p) {v : Nat} (hv : v < 8) : okP (wayP v p) := by
  obtain ⟨g, ⟨l1, l2⟩, k1, k2, k3⟩ := hp
  refine ⟨g, ⟨?_, l2⟩, fun s hs => ?_, k2, pw_map k3 (fun s t hs ht z => z)⟩
  · show (p.2.1.map _).length ≤ 40
    rw [List.length_map]; exact l1
  · obtain ⟨t, ht, rfl⟩ := List.mem_map.mp hs
    obtain ⟨q1, q2, q3, q4⟩ := k1 t ht
    exact ⟨q1, q2, tog_lt ⟨t.2.2.1, q3⟩ ⟨v, hv⟩, q4⟩
theorem okP_turn {p : Pc} (hp : okP p) {v : Nat} (hv : v < 8) : okP (turnP v p) := by
  unfold turnP
  refine okP_way (okP_quas ?_ _) hv
  split
  · exact okP_mir hp
  · exact hp
/-- joining: THIS one is moved by (x, y), the other by (x', y') -/
def moT (x y : Nat) (t : Tl) : Tl := ((t.1.1 + x, t.1.2 + y), t.2)
def moN (x y : Nat) (n : Nt) : Nt := (n.1 + x, n.2.1 + y, n.2.2)
def joinP (a b : Pc) (s : Nat) : Pc := ((if s % 2 = 0 then a.1.1 + b.1.1 else a.1.1, if s % 2 = 0 then a.1.2 else a.1.2 + b.1.2), a.2.1.map (moT (if s = 0 then b.1.1 else 0) (if s = 1 then b.1.2 else 0)) ++ b.2.1.map (moT (if s = 2 then a.1.1 else 0) (if s = 3 then a.1.2 else 0)), a.2.2.map (moN (if s = 0 then b.1.1 else 0) (if s = 1 then b.1.2 else 0)) ++ b.2.2.map (moN (if s = 2 then a.1.1 else 0) (if s = 3 then a.1.2 else 0)))
def emP (p : Pc) : Pc := (p.1, [], [])
theorem okP_em {p : Pc} (hp : okP p) : okP (emP p) := ⟨hp.1, ⟨Nat.zero_le _, Nat.zero_le _⟩, fun t ht => (by cases ht), fun t ht => (by cases ht), List.Pairwise.nil⟩
theorem okP_join {a b : Pc} (ha : okP a) (hb : okP b) {s : Nat} (hs : s < 4) (h1 : if s % 2 = 0 then a.1.2 = b.1.2 else a.1.1 = b.1.1) (h2 : (if s % 2 = 0 then a.1.1 + b.1.1 else a.1.2 + b.1.2) ≤ 400) (h3 : a.2.1.length + b.2.1.length ≤ 40) (h4 : a.2.2.length + b.2.2.length ≤ 20) : okP (joinP a b s) := by
  obtain ⟨⟨g1, g2, g3, g4⟩, ⟨l1, l2⟩, k1, k2, k3⟩ := ha
  obtain ⟨⟨f1, f2, f3, f4⟩, ⟨m1, m2⟩, j1, j2, j3⟩ := hb
  have hs' : s = 0 ∨ s = 1 ∨ s = 2 ∨ s = 3 := by omega
  refine ⟨⟨?_, ?_, ?_, ?_⟩, ⟨?_, ?_⟩, fun u hu => ?_, fun u hu => ?_, ?_⟩
  · rcases hs' with rfl | rfl | rfl | rfl <;> simp [joinP] at * <;> omega
  · rcases hs' with rfl | rfl | rfl | rfl <;> simp [joinP] at * <;> omega
  · rcases hs' with rfl | rfl | rfl | rfl <;> simp [joinP] at * <;> omega
  · rcases hs' with rfl | rfl | rfl | rfl <;> simp [joinP] at * <;> omega
  · unfold joinP
    rw [List.length_append, List.length_map, List.length_map]
    exact h3
  · unfold joinP
    rw [List.length_append, List.length_map, List.length_map]
    exact h4
  · rcases List.mem_append.mp (show u ∈ List.map _ _ ++ List.map _ _ from hu) with z | z
    · obtain ⟨t, ht, rfl⟩ := List.mem_map.mp z
      obtain ⟨q1, ⟨q2, q5⟩, q3, q4⟩ := k1 t ht
      refine ⟨q1, ⟨?_, ?_⟩, q3, q4⟩
      · rcases hs' with rfl | rfl | rfl | rfl <;> simp [joinP, moT] at * <;> omega
      · rcases hs' with rfl | rfl | rfl | rfl <;> simp [joinP, moT] at * <;> omega
    · obtain ⟨t, ht, rfl⟩ := List.mem_map.mp z
      obtain ⟨q1, ⟨q2, q5⟩, q3, q4⟩ := j1 t ht
      refine ⟨q1, ⟨?_, ?_⟩, q3, q4⟩
      · rcases hs' with rfl | rfl | rfl | rfl <;> simp [joinP, moT] at * <;> omega
      · rcases hs' with rfl | rfl | rfl | rfl <;> simp [joinP, moT] at * <;> omega
  · rcases List.mem_append.mp (show u ∈ List.map _ _ ++ List.map _ _ from hu) with z | z
    · obtain ⟨t, ht, rfl⟩ := List.mem_map.mp z
      obtain ⟨q1, q2, q3⟩ := k2 t ht
      refine ⟨?_, ?_, q3⟩
      · rcases hs' with rfl | rfl | rfl | rfl <;> simp [joinP, moN] at * <;> omega
      · rcases hs' with rfl | rfl | rfl | rfl <;> simp [joinP, moN] at * <;> omega
    · obtain ⟨t, ht, rfl⟩ := List.mem_map.mp z
      obtain ⟨q1, q2, q3⟩ := j2 t ht
      refine ⟨?_, ?_, q3⟩
      · rcases hs' with rfl | rfl | rfl | rfl <;> simp [joinP, moN] at * <;> omega
      · rcases hs' with rfl | rfl | rfl | rfl <;> simp [joinP, moN] at * <;> omega
  · show (List.map _ _ ++ List.map _ _).Pairwise apart
    rw [List.pairwise_append]
    refine ⟨pw_map k3 (fun s t _ _ z => ?_), pw_map j3 (fun s t _ _ z => ?_), fun x hx y hy => ?_⟩
    · unfold apart moT at *
      simp only
      omega
    · unfold apart moT at *
      simp only
      omega
    · obtain ⟨t, ht, rfl⟩ := List.mem_map.mp hx
      obtain ⟨u, hu, rfl⟩ := List.mem_map.mp hy
      obtain ⟨-, ⟨q2, q5⟩, -⟩ := k1 t ht
      obtain ⟨-, ⟨r2, r5⟩, -⟩ := j1 u hu
      unfold apart moT
      rcases hs' with rfl | rfl | rfl | rfl <;> simp <;> omega
/-- the reference's way: where a sample comes, and the lesser of two corners -/
def cq : Nat → Nat → Nat → Nat → Nat → Nat × Nat
  | 0, _, _, x, y => (x, y)
  | n + 1, W, H, x, y => cq n H W (H - 1 - y) x
def come (v W H x y : Nat) : Nat × Nat := cq (v % 4) W H (if 4 ≤ v then W - 1 - x else x) y
def le2 (a b : Nat) : Nat := if b ≤ a then b else a
def turnT (v W H : Nat) (t : Tl) : Tl := ((le2 (come v W H t.1.1 t.1.2).1 (come v W H (t.1.1 + t.2.1.1 - 1) (t.1.2 + t.2.1.2 - 1)).1, le2 (come v W H t.1.1 t.1.2).2 (come v W H (t.1.1 + t.2.1.1 - 1) (t.1.2 + t.2.1.2 - 1)).2), (if v % 2 = 1 then t.2.1.2 else t.2.1.1, if v % 2 = 1 then t.2.1.1 else t.2.1.2), tog t.2.2.1 v, t.2.2.2)
def turnN (v W H : Nat) (n : Nt) : Nt := ((come v W H n.1 n.2.1).1, (come v W H n.1 n.2.1).2, n.2.2)
theorem le2_eq (a b : Nat) : le2 a b = min a b := by
  unfold le2
  split <;> omega
theorem turn_eq {p : Pc} (hp : okP p) {v : Nat} (hv : v < 8) : turnP v p = ((if v % 2 = 1 then p.1.2 else p.1.1, if v % 2 = 1 then p.1.1 else p.1.2), p.2.1.map (turnT v p.1.1 p.1.2), p.2.2.map (turnN v p.1.1 p.1.2)) := by
  obtain ⟨⟨g1, g2, g3, g4⟩, -, k1, k2, -⟩ := hp
  by_cases hv0 : v = 0
  · subst hv0
    have e : p.2.2 = p.2.2.map (turnN 0 p.1.1 p.1.2) := by
      conv => lhs; rw [← List.map_id p.2.2]
      refine List.map_congr_left (fun n _ => ?_)
      simp [turnN, come, cq]
    simp [turnP, quaPs, wayP]
    refine ⟨fun ax ay aw ah av ab ht => ?_, e⟩
    have q := (k1 _ ht).2.1
    have r := (k1 _ ht).1
    simp at q r
    simp [wayT, turnT, come, cq, le2_eq]
    omega
  have hv' : v = 1 ∨ v = 2 ∨ v = 3 ∨ v = 4 ∨ v = 5 ∨ v = 6 ∨ v = 7 := by omega
  rcases hv' with rfl | rfl | rfl | rfl | rfl | rfl | rfl <;> simp [turnP, quaPs, wayP, quaP, mirP, List.map_map] <;> refine ⟨fun ax ay aw ah av ab ht => ?_, fun ax ay ab hn => ?_⟩
  all_goals first | (have q := (k1 _ ht).2.1; have r := (k1 _ ht).1; simp at q r; simp [wayT, quaT, mirT, turnT, come, cq, le2_eq]; omega) | (have q := k2 _ hn; unfold okN at q; simp at q; simp [quaN, mirN, turnN, come, cq]; try omega)
/-- a sample comes into the turned picture -/
theorem come_lt {v W H x y : Nat} (hv : v < 8) (hx : x < W) (hy : y < H) : (come v W H x y).1 < (if v % 2 = 1 then H else W) ∧ (come v W H x y).2 < (if v % 2 = 1 then W else H) := by
  have hv' : v = 0 ∨ v = 1 ∨ v = 2 ∨ v = 3 ∨ v = 4 ∨ v = 5 ∨ v = 6 ∨ v = 7 := by omega
  rcases hv' with rfl | rfl | rfl | rfl | rfl | rfl | rfl | rfl <;> simp [come, cq] <;> omega
