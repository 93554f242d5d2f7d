/-! the pure layer: what each call makes of a picture, and that it stays one -/
theorem apart_symm {s t : Tl} (h : apart s t) : apart t s := by
  unfold apart at *
  omega
theorem okP_fresh {w h : Nat} (w1 : 1 ≤ w) (w2 : w ≤ 400) (h1 : 1 ≤ h) (h2 : h ≤ 400) : okP ((w, h), [], []) := ⟨⟨w1, w2, h1, h2⟩, ⟨Nat.zero_le _, Nat.zero_le _⟩, fun t ht => (by cases ht), fun t ht => (by cases ht), List.Pairwise.nil⟩
theorem okP_addT {p : Pc} (hp : okP p) {t : Tl} (ht : okT p.1.1 p.1.2 t) (hl : p.2.1.length < 40) (ha : ∀ s ∈ p.2.1, apart t s) : okP (addT p t) := by
  obtain ⟨h1, ⟨h2, h3⟩, h4, h5, h6⟩ := hp
  refine ⟨h1, ⟨?_, h3⟩, fun s hs => ?_, h5, ?_⟩
  · show (p.2.1 ++ [t]).length ≤ 40
    rw [List.length_append]
    exact hl
  · rcases List.mem_append.mp (show s ∈ p.2.1 ++ [t] from hs) with z | z
    · exact h4 s z
    · rw [List.mem_singleton.mp z]
      exact ht
  · show (p.2.1 ++ [t]).Pairwise apart
    rw [List.pairwise_append]
    refine ⟨h6, List.pairwise_singleton _ _, fun s hs u hu => ?_⟩
    rw [List.mem_singleton.mp hu]
    exact apart_symm (ha s hs)
theorem okP_addN {p : Pc} (hp : okP p) {n : Nt} (hn : okN p.1.1 p.1.2 n) (hl : p.2.2.length < 20) : okP (addN p n) := by
  obtain ⟨h1, ⟨h2, h3⟩, h4, h5, h6⟩ := hp
  refine ⟨h1, ⟨h2, ?_⟩, h4, fun s hs => ?_, h6⟩
  · show (p.2.2 ++ [n]).length ≤ 20
    rw [List.length_append]
    exact hl
  · rcases List.mem_append.mp (show s ∈ p.2.2 ++ [n] from hs) with z | z
    · exact h5 s z
    · rw [List.mem_singleton.mp z]
      exact hn
/-- tiles are changed one by one, and stay apart -/
theorem pw_map {l : List Tl} {f : Tl → Tl} (h : l.Pairwise apart) (hf : ∀ s t, s ∈ l → t ∈ l → apart s t → apart (f s) (f t)) : (l.map f).Pairwise apart := by
  induction l with
  | nil => exact List.Pairwise.nil
  | cons a l ih =>
    rw [List.map_cons, List.pairwise_cons]
    rw [List.pairwise_cons] at h
    refine ⟨fun s hs => ?_, ih h.2 (fun s t z1 z2 => hf s t (List.mem_cons_of_mem _ z1) (List.mem_cons_of_mem _ z2))⟩
    obtain ⟨u, hu, rfl⟩ := List.mem_map.mp hs
    exact hf _ _ List.mem_cons_self (List.mem_cons_of_mem _ hu) (h.1 u hu)
theorem okP_byt {p : Pc} (hp : okP p) {k c : Nat} {t : Tl} (hk : p.2.1[k]? = some t) (hl : t.2.2.2.length < 12) (hc : c < 256) : okP (setT p k (byt t c)) := by
  obtain ⟨h1, ⟨h2, h3⟩, h4, h5, h6⟩ := hp
  obtain ⟨g1, g2, g3, g4, g5⟩ := h4 t (List.mem_of_getElem? hk)
  have ht : okT p.1.1 p.1.2 (byt t c) := by
    refine ⟨g1, g2, g3, ?_, fun b hb => ?_⟩
    · show (t.2.2.2 ++ [c]).length ≤ 12
      rw [List.length_append]
      exact hl
    · rcases List.mem_append.mp (show b ∈ t.2.2.2 ++ [c] from hb) with z | z
      · exact g5 b z
      · rw [List.mem_singleton.mp z]
        exact hc
  refine ⟨h1, ⟨?_, h3⟩, fun s hs => ?_, h5, ?_⟩
  · show (p.2.1.set k (byt t c)).length ≤ 40
    rw [List.length_set]
    exact h2
  · rcases List.mem_or_eq_of_mem_set (show s ∈ p.2.1.set k (byt t c) from hs) with z | z
    · exact h4 s z
    · rw [z]
      exact ht
  · show (p.2.1.set k (byt t c)).Pairwise apart
    rw [List.pairwise_iff_getElem] at h6 ⊢
    intro i j hi hj hij
    rw [List.length_set] at hi hj
    have e : ∀ m (hm : m < p.2.1.length), ((p.2.1.set k (byt t c))[m]'(by rw [List.length_set]; exact hm)).1 = p.2.1[m].1 ∧ ((p.2.1.set k (byt t c))[m]'(by rw [List.length_set]; exact hm)).2.1 = p.2.1[m].2.1 := by
      intro m hm
      rw [List.getElem_set]
      split
      · rename_i z
        subst z
        rw [List.getElem?_eq_getElem hm] at hk
        rw [Option.some.inj hk]
        exact ⟨rfl, rfl⟩
      · exact ⟨rfl, rfl⟩
    have := h6 i j hi hj hij
    unfold apart at this ⊢
    rw [(e i hi).1, (e i hi).2, (e j hj).1, (e j hj).2]
    exact this
theorem okP_crop {p : Pc} (hp : okP p) {x y w h : Nat} (w1 : 1 ≤ w) (h1 : 1 ≤ h) (hx : x + w ≤ p.1.1) (hy : y + h ≤ p.1.2) : okP (cropP p x y w h) := by
  obtain ⟨⟨_, g2, _, g4⟩, ⟨l1, l2⟩, k1, k2, k3⟩ := hp
  refine ⟨⟨w1, by show w ≤ 400; omega, h1, by show h ≤ 400; omega⟩, ⟨?_, ?_⟩, fun s hs => ?_, fun s hs => ?_, ?_⟩
  · show ((p.2.1.filter (inT x y w h)).map (shT x y)).length ≤ 40
    rw [List.length_map]
    exact Nat.le_trans (List.length_filter_le _ _) l1
  · show ((p.2.2.filter (inN x y w h)).map (shN x y)).length ≤ 20
    rw [List.length_map]
    exact Nat.le_trans (List.length_filter_le _ _) l2
  · obtain ⟨t, ht, rfl⟩ := List.mem_map.mp hs
    obtain ⟨m1, m2⟩ := List.mem_filter.mp ht
    obtain ⟨q1, q2, q3, q4⟩ := k1 t m1
    have m2 := of_decide_eq_true m2
    refine ⟨q1, ⟨?_, ?_⟩, q3, q4⟩
    · show t.1.1 - x + t.2.1.1 ≤ w
      omega
    · show t.1.2 - y + t.2.1.2 ≤ h
      omega
  · obtain ⟨t, ht, rfl⟩ := List.mem_map.mp hs
    obtain ⟨m1, m2⟩ := List.mem_filter.mp ht
    obtain ⟨q1, q2, q3⟩ := k2 t m1
    have m2 := of_decide_eq_true m2
    refine ⟨?_, ?_, q3⟩
    · show t.1 - x < w
      omega
    · show t.2.1 - y < h
      omega
  · refine pw_map (List.Pairwise.filter _ k3) (fun s t hs ht z => ?_)
    have m1 := of_decide_eq_true (List.mem_filter.mp hs).2
    have m2 := of_decide_eq_true (List.mem_filter.mp ht).2
    unfold apart at *
    show s.1.1 - x + s.2.1.1 ≤ t.1.1 - x ∨ t.1.1 - x + t.2.1.1 ≤ s.1.1 - x ∨ s.1.2 - y + s.2.1.2 ≤ t.1.2 - y ∨ t.1.2 - y + t.2.1.2 ≤ s.1.2 - y
    omega
/-- mirrored, turned by a quarter, shown otherwise -/
def mirT (W : Nat) (t : Tl) : Tl := ((W - t.1.1 - t.2.1.1, t.1.2), t.2)
def quaT (H : Nat) (t : Tl) : Tl := ((H - t.1.2 - t.2.1.2, t.1.1), (t.2.1.2, t.2.1.1), t.2.2)
def wayT (v : Nat) (t : Tl) : Tl := (t.1, t.2.1, tog t.2.2.1 v, t.2.2.2)
def mirN (W : Nat) (n : Nt) : Nt := (W - 1 - n.1, n.2)
def quaN (H : Nat) (n : Nt) : Nt := (H - 1 - n.2.1, n.1, n.2.2)
def mirP (p : Pc) : Pc := (p.1, p.2.1.map (mirT p.1.1), p.2.2.map (mirN p.1.1))
def quaP (p : Pc) : Pc := ((p.1.2, p.1.1), p.2.1.map (quaT p.1.2), p.2.2.map (quaN p.1.2))
def quaPs : Nat → Pc → Pc
  | 0, p => p
  | n + 1, p => quaPs n (quaP p)
def wayP (v : Nat) (p : Pc) : Pc := (p.1, p.2.1.map (wayT v), p.2.2)
def turnP (v : Nat) (p : Pc) : Pc := wayP v (quaPs (v % 4) (if 4 ≤ v then mirP p else p))
theorem okP_mir {p : Pc} (hp : okP p) : okP (mirP p) := by
  obtain ⟨g, ⟨l1, l2⟩, k1, k2, k3⟩ := hp
  refine ⟨g, ⟨?_, ?_⟩, fun s hs => ?_, fun s hs => ?_, pw_map k3 (fun s t hs ht z => ?_)⟩
  · show (p.2.1.map _).length ≤ 40
    rw [List.length_map]; exact l1
  · show (p.2.2.map _).length ≤ 20
    rw [List.length_map]; exact l2
  · obtain ⟨t, ht, rfl⟩ := List.mem_map.mp hs
    obtain ⟨q1, ⟨q2, q5⟩, q3, q4⟩ := k1 t ht
    refine ⟨q1, ⟨?_, q5⟩, q3, q4⟩
    show p.1.1 - t.1.1 - t.2.1.1 + t.2.1.1 ≤ p.1.1
    omega
  · obtain ⟨t, ht, rfl⟩ := List.mem_map.mp hs
    obtain ⟨q1, q2, q3⟩ := k2 t ht
    refine ⟨?_, q2, q3⟩
    show p.1.1 - 1 - t.1 < p.1.1
    omega
  · obtain ⟨-, ⟨a1, a2⟩, -⟩ := k1 s hs
    obtain ⟨-, ⟨b1, b2⟩, -⟩ := k1 t ht
    unfold apart at *
    show p.1.1 - s.1.1 - s.2.1.1 + s.2.1.1 ≤ p.1.1 - t.1.1 - t.2.1.1 ∨ p.1.1 - t.1.1 - t.2.1.1 + t.2.1.1 ≤ p.1.1 - s.1.1 - s.2.1.1 ∨ s.1.2 + s.2.1.2 ≤ t.1.2 ∨ t.1.2 + t.2.1.2 ≤ s.1.2
    omega
theorem okP_qua {p : Pc} (hp : okP p) : okP (quaP p) := by
  obtain ⟨⟨g1, g2, g3, g4⟩, ⟨l1, l2⟩, k1, k2, k3⟩ := hp
  refine ⟨⟨g3, g4, g1, g2⟩, ⟨?_, ?_⟩, fun s hs => ?_, fun s hs => ?_, pw_map k3 (fun s t hs ht z => ?_)⟩
  · show (p.2.1.map _).length ≤ 40
    rw [List.length_map]; exact l1
  · show (p.2.2.map _).length ≤ 20
    rw [List.length_map]; exact l2
  · obtain ⟨t, ht, rfl⟩ := List.mem_map.mp hs
    obtain ⟨⟨r1, r2, r3, r4⟩, ⟨q2, q5⟩, q3, q4⟩ := k1 t ht
    refine ⟨⟨r3, r4, r1, r2⟩, ⟨?_, q2⟩, q3, q4⟩
    show p.1.2 - t.1.2 - t.2.1.2 + t.2.1.2 ≤ p.1.2
    omega
  · obtain ⟨t, ht, rfl⟩ := List.mem_map.mp hs
    obtain ⟨q1, q2, q3⟩ := k2 t ht
    refine ⟨?_, q1, q3⟩
    show p.1.2 - 1 - t.2.1 < p.1.2
    omega
  · obtain ⟨-, ⟨a1, a2⟩, -⟩ := k1 s hs
    obtain ⟨-, ⟨b1, b2⟩, -⟩ := k1 t ht
    unfold apart at *
    show p.1.2 - s.1.2 - s.2.1.2 + s.2.1.2 ≤ p.1.2 - t.1.2 - t.2.1.2 ∨ p.1.2 - t.1.2 - t.2.1.2 + t.2.1.2 ≤ p.1.2 - s.1.2 - s.2.1.2 ∨ s.1.1 + s.2.1.1 ≤ t.1.1 ∨ t.1.1 + t.2.1.1 ≤ s.1.1
    omega
theorem okP_quas {p : Pc} (hp : okP p) (n : Nat) : okP (quaPs n p) := by
  induction n generalizing p with
  | zero => exact hp
  | succ n ih => exact ih (okP_qua hp)
theorem okP_way {p : Pc} (hp : okP p) {v : Nat} (hv : v < 8) : okP (wayP v p) := by
  obtain ⟨g, ⟨l1, l2⟩, k1, k2, k3⟩ := hp
  refine ⟨g, ⟨?_, l2⟩, fun s hs => ?_, k2, pw_map k3 (fun s t hs ht z => z)⟩
  · show (p.2.1.map _).length ≤ 40
    rw [List.length_map]; exact l1
  · obtain ⟨t, ht, rfl⟩ := List.mem_map.mp hs
    obtain ⟨q1, q2, q3, q4⟩ := k1 t ht
    exact ⟨q1, q2, tog_lt ⟨t.2.2.1, q3⟩ ⟨v, hv⟩, q4⟩
theorem okP_turn {p : Pc} (hp : okP p) {v : Nat} (hv : v < 8) : okP (turnP v p) := by
  unfold turnP
  refine okP_way (okP_quas ?_ _) hv
  split
  · exact okP_mir hp
  · exact hp
/-- joining: THIS one is moved by (x, y), the other by (x', y') -/
def moT (x y : Nat) (t : Tl) : Tl := ((t.1.1 + x, t.1.2 + y), t.2)
def moN (x y : Nat) (n : Nt) : Nt := (n.1 + x, n.2.1 + y, n.2.2)
def joinP (a b : Pc) (s : Nat) : Pc := ((if s % 2 = 0 then a.1.1 + b.1.1 else a.1.1, if s % 2 = 0 then a.1.2 else a.1.2 + b.1.2), a.2.1.map (moT (if s = 0 then b.1.1 else 0) (if s = 1 then b.1.2 else 0)) ++ b.2.1.map (moT (if s = 2 then a.1.1 else 0) (if s = 3 then a.1.2 else 0)), a.2.2.map (moN (if s = 0 then b.1.1 else 0) (if s = 1 then b.1.2 else 0)) ++ b.2.2.map (moN (if s = 2 then a.1.1 else 0) (if s = 3 then a.1.2 else 0)))
def emP (p : Pc) : Pc := (p.1, [], [])
theorem okP_em {p : Pc} (hp : okP p) : okP (emP p) := ⟨hp.1, ⟨Nat.zero_le _, Nat.zero_le _⟩, fun t ht => (by cases ht), fun t ht => (by cases ht), List.Pairwise.nil⟩
theorem okP_join {a b : Pc} (ha : okP a) (hb : okP b) {s : Nat} (hs : s < 4) (h1 : if s % 2 = 0 then a.1.2 = b.1.2 else a.1.1 = b.1.1) (h2 : (if s % 2 = 0 then a.1.1 + b.1.1 else a.1.2 + b.1.2) ≤ 400) (h3 : a.2.1.length + b.2.1.length ≤ 40) (h4 : a.2.2.length + b.2.2.length ≤ 20) : okP (joinP a b s) := by
  obtain ⟨⟨g1, g2, g3, g4⟩, ⟨l1, l2⟩, k1, k2, k3⟩ := ha
  obtain ⟨⟨f1, f2, f3, f4⟩, ⟨m1, m2⟩, j1, j2, j3⟩ := hb
  have hs' : s = 0 ∨ s = 1 ∨ s = 2 ∨ s = 3 := by omega
  refine ⟨⟨?_, ?_, ?_, ?_⟩, ⟨?_, ?_⟩, fun u hu => ?_, fun u hu => ?_, ?_⟩
  · rcases hs' with rfl | rfl | rfl | rfl <;> simp [joinP] at * <;> omega
  · rcases hs' with rfl | rfl | rfl | rfl <;> simp [joinP] at * <;> omega
  · rcases hs' with rfl | rfl | rfl | rfl <;> simp [joinP] at * <;> omega
  · rcases hs' with rfl | rfl | rfl | rfl <;> simp [joinP] at * <;> omega
  · unfold joinP
    rw [List.length_append, List.length_map, List.length_map]
    exact h3
  · unfold joinP
    rw [List.length_append, List.length_map, List.length_map]
    exact h4
  · rcases List.mem_append.mp (show u ∈ List.map _ _ ++ List.map _ _ from hu) with z | z
    · obtain ⟨t, ht, rfl⟩ := List.mem_map.mp z
      obtain ⟨q1, ⟨q2, q5⟩, q3, q4⟩ := k1 t ht
      refine ⟨q1, ⟨?_, ?_⟩, q3, q4⟩
      · rcases hs' with rfl | rfl | rfl | rfl <;> simp [joinP, moT] at * <;> omega
      · rcases hs' with rfl | rfl | rfl | rfl <;> simp [joinP, moT] at * <;> omega
    · obtain ⟨t, ht, rfl⟩ := List.mem_map.mp z
      obtain ⟨q1, ⟨q2, q5⟩, q3, q4⟩ := j1 t ht
      refine ⟨q1, ⟨?_, ?_⟩, q3, q4⟩
      · rcases hs' with rfl | rfl | rfl | rfl <;> simp [joinP, moT] at * <;> omega
      · rcases hs' with rfl | rfl | rfl | rfl <;> simp [joinP, moT] at * <;> omega
  · rcases List.mem_append.mp (show u ∈ List.map _ _ ++ List.map _ _ from hu) with z | z
    · obtain ⟨t, ht, rfl⟩ := List.mem_map.mp z
      obtain ⟨q1, q2, q3⟩ := k2 t ht
      refine ⟨?_, ?_, q3⟩
      · rcases hs' with rfl | rfl | rfl | rfl <;> simp [joinP, moN] at * <;> omega
      · rcases hs' with rfl | rfl | rfl | rfl <;> simp [joinP, moN] at * <;> omega
    · obtain ⟨t, ht, rfl⟩ := List.mem_map.mp z
      obtain ⟨q1, q2, q3⟩ := j2 t ht
      refine ⟨?_, ?_, q3⟩
      · rcases hs' with rfl | rfl | rfl | rfl <;> simp [joinP, moN] at * <;> omega
      · rcases hs' with rfl | rfl | rfl | rfl <;> simp [joinP, moN] at * <;> omega
  · show (List.map _ _ ++ List.map _ _).Pairwise apart
    rw [List.pairwise_append]
    refine ⟨pw_map k3 (fun s t _ _ z => ?_), pw_map j3 (fun s t _ _ z => ?_), fun x hx y hy => ?_⟩
    · unfold apart moT at *
      simp only
      omega
    · unfold apart moT at *
      simp only
      omega
    · obtain ⟨t, ht, rfl⟩ := List.mem_map.mp hx
      obtain ⟨u, hu, rfl⟩ := List.mem_map.mp hy
      obtain ⟨-, ⟨q2, q5⟩, -⟩ := k1 t ht
      obtain ⟨-, ⟨r2, r5⟩, -⟩ := j1 u hu
      unfold apart moT
      rcases hs' with rfl | rfl | rfl | rfl <;> simp <;> omega
/-- the reference's way: where a sample comes, and the lesser of two corners -/
def cq : Nat → Nat → Nat → Nat → Nat → Nat × Nat
  | 0, _, _, x, y => (x, y)
  | n + 1, W, H, x, y => cq n H W (H - 1 - y) x
def come (v W H x y : Nat) : Nat × Nat := cq (v % 4) W H (if 4 ≤ v then W - 1 - x else x) y
def le2 (a b : Nat) : Nat := if b ≤ a then b else a
def turnT (v W H : Nat) (t : Tl) : Tl := ((le2 (come v W H t.1.1 t.1.2).1 (come v W H (t.1.1 + t.2.1.1 - 1) (t.1.2 + t.2.1.2 - 1)).1, le2 (come v W H t.1.1 t.1.2).2 (come v W H (t.1.1 + t.2.1.1 - 1) (t.1.2 + t.2.1.2 - 1)).2), (if v % 2 = 1 then t.2.1.2 else t.2.1.1, if v % 2 = 1 then t.2.1.1 else t.2.1.2), tog t.2.2.1 v, t.2.2.2)
def turnN (v W H : Nat) (n : Nt) : Nt := ((come v W H n.1 n.2.1).1, (come v W H n.1 n.2.1).2, n.2.2)
theorem le2_eq (a b : Nat) : le2 a b = min a b := by
  unfold le2
  split <;> omega
theorem turn_eq {p : Pc} (hp : okP p) {v : Nat} (hv : v < 8) : turnP v p = ((if v % 2 = 1 then p.1.2 else p.1.1, if v % 2 = 1 then p.1.1 else p.1.2), p.2.1.map (turnT v p.1.1 p.1.2), p.2.2.map (turnN v p.1.1 p.1.2)) := by
  obtain ⟨⟨g1, g2, g3, g4⟩, -, k1, k2, -⟩ := hp
  by_cases hv0 : v = 0
  · subst hv0
    have e : p.2.2 = p.2.2.map (turnN 0 p.1.1 p.1.2) := by
      conv => lhs; rw [← List.map_id p.2.2]
      refine List.map_congr_left (fun n _ => ?_)
      simp [turnN, come, cq]
    simp [turnP, quaPs, wayP]
    refine ⟨fun ax ay aw ah av ab ht => ?_, e⟩
    have q := (k1 _ ht).2.1
    have r := (k1 _ ht).1
    simp at q r
    simp [wayT, turnT, come, cq, le2_eq]
    omega
  have hv' : v = 1 ∨ v = 2 ∨ v = 3 ∨ v = 4 ∨ v = 5 ∨ v = 6 ∨ v = 7 := by omega
  rcases hv' with rfl | rfl | rfl | rfl | rfl | rfl | rfl <;> simp [turnP, quaPs, wayP, quaP, mirP, List.map_map] <;> refine ⟨fun ax ay aw ah av ab ht => ?_, fun ax ay ab hn => ?_⟩
  all_goals first | (have q := (k1 _ ht).2.1; have r := (k1 _ ht).1; simp at q r; simp [wayT, quaT, mirT, turnT, come, cq, le2_eq]; omega) | (have q := k2 _ hn; unfold okN at q; simp at q; simp [quaN, mirN, turnN, come, cq]; try omega)
/-- a sample comes into the turned picture -/
theorem come_lt {v W H x y : Nat} (hv : v < 8) (hx : x < W) (hy : y < H) : (come v W H x y).1 < (if v % 2 = 1 then H else W) ∧ (come v W H x y).2 < (if v % 2 = 1 then W else H) := by
  have hv' : v = 0 ∨ v = 1 ∨ v = 2 ∨ v = 3 ∨ v = 4 ∨ v = 5 ∨ v = 6 ∨ v = 7 := by omega
  rcases hv' with rfl | rfl | rfl | rfl | rfl | rfl | rfl | rfl <;> simp [come, cq] <;> omega
/-! the reference: crop, whole -/
def fitA (p : Pc) (x y w h : Nat) : Bool := p.2.1.all (fitT true x) && (p.2.1.all (fitT false y) && (p.2.1.all (fitT true (x + w)) && p.2.1.all (fitT false (y + h))))
theorem fitA_t {p : Pc} {x y w h : Nat} (hf : fitA p x y w h = true) : ∀ t ∈ p.2.1, (t.1.1 + t.2.1.1 ≤ x ∨ x ≤ t.1.1) ∧ (t.1.2 + t.2.1.2 ≤ y ∨ y ≤ t.1.2) ∧ (t.1.1 + t.2.1.1 ≤ x + w ∨ x + w ≤ t.1.1) ∧ (t.1.2 + t.2.1.2 ≤ y + h ∨ y + h ≤ t.1.2) := by
  unfold fitA at hf
  simp only [Bool.and_eq_true, List.all_eq_true] at hf
  obtain ⟨f1, f2, f3, f4⟩ := hf
  intro t ht
  exact ⟨of_decide_eq_true (f1 t ht), of_decide_eq_true (f2 t ht), of_decide_eq_true (f3 t ht), of_decide_eq_true (f4 t ht)⟩
section MC3
variable {I : ax_I} {R : ax_R} {now fw fh since : Nat} {a b : Pc} {st : List Nat}
theorem m_c24 (hM : MR I now a b fw fh since st) (x y w h : Int32) : mAns (d_M_crop_24 oS I R 210 x y w h 210) 1 0 (fun J => MR J now a b fw fh since st) := by
  unfold d_M_crop_24 d_M_crop_29
  rw [ob, if_neg (up_le (by decide))]
  exact ⟨_, _, rfl, ax_up_self _ _ _ _, fun z => (by cases z), MR_c hM _⟩
theorem m_c88r (hR : mOk oS R) (hM : MR I now a b fw fh since st) (ha : okP a) (c0 : I 210 0 = 0) (x1 x2 x3 x4 : Int32) : mAns (d_M_crop_88 oS I R 210 x1 x2 x3 x4 1 210) 0 (-1) (fun J => MR J now a b fw fh since st) := by
  unfold d_M_crop_88
  rw [show ax_bo 1 = some true from rfl, ob, ob, ax_up_self, if_neg bT]
  have ix : ∀ j, j < 4 → ax_ix oS 225 (nI j) = some j := fun j hj => mx hR 14 (by omega) j rfl hj
  have i0 : ax_ix oS 225 0 = some 0 := ix 0 (by omega)
  have i1 : ax_ix oS 225 1 = some 1 := ix 1 (by omega)
  have i2 : ax_ix oS 225 2 = some 2 := ix 2 (by omega)
  have i3 : ax_ix oS 225 3 = some 3 := ix 3 (by omega)
  have h1 : MR (ax_up I 210 19 (ax_b true)) now a b fw fh since st := MR_up (Or.inl ⟨rfl, Or.inr rfl⟩) hM
  obtain ⟨v1, e1⟩ := m_nearest hR h1 ha true x1
  have e1 : d_M_nearest oS (ax_up I 210 19 (ax_b true)) R 210 1 x1 = some v1 := e1
  have h2 := MR_up (i := 225) (k := 0) (v := v1) (Or.inr (Or.inl rfl)) h1
  obtain ⟨v2, e2⟩ := m_nearest hR h2 ha false x2
  have e2 : d_M_nearest oS (ax_up (ax_up I 210 19 (ax_b true)) 225 0 v1) R 210 0 x2 = some v2 := e2
  have h3 := MR_up (i := 225) (k := 1) (v := v2) (Or.inr (Or.inl rfl)) h2
  obtain ⟨v3, e3⟩ := m_nearest hR h3 ha true (x1 + x3)
  have e3 : d_M_nearest oS (ax_up (ax_up (ax_up I 210 19 (ax_b true)) 225 0 v1) 225 1 v2) R 210 1 (x1 + x3) = some v3 := e3
  have h4 := MR_up (i := 225) (k := 2) (v := v3) (Or.inr (Or.inl rfl)) h3
  obtain ⟨v4, e4⟩ := m_nearest hR h4 ha false (x2 + x4)
  have e4 : d_M_nearest oS (ax_up (ax_up (ax_up (ax_up I 210 19 (ax_b true)) 225 0 v1) 225 1 v2) 225 2 v3) R 210 0 (x2 + x4) = some v4 := e4
  rw [mr_20 hR, ob, e1, ob, i0, ob, ob, ob, e2, ob, i1, ob, ob, ob, e3, ob, i2, ob, ob, ob, e4, ob, i3, ob, ob]
  refine ⟨_, _, rfl, ?_, fun _ => rfl, MR_up (Or.inr (Or.inl rfl)) h4⟩
  rw [ax_up_ne (by omega), ax_up_ne (by omega), ax_up_ne (by omega), ax_up_ne (by omega), ax_up_ne (by omega)]
  exact c0
theorem m_c88d (hR : mOk oS R) (hM : MR I now a b fw fh since st) (ha : okP a) (hb : okP b) (c0 : I 210 0 = 0) {x y w h : Nat} (w1 : 1 ≤ w) (h1 : 1 ≤ h) (hx : x + w ≤ a.1.1) (hy : y + h ≤ a.1.2) (hf : fitA a x y w h = true) : mAns (d_M_crop_88 oS I R 210 (nI x) (nI y) (nI w) (nI h) 0 210) 0 (nI (a.2.1.filter (inT x y w h)).length) (fun J => MR J now (cropP a x y w h) b fw fh since st) := by
  unfold d_M_crop_88
  rw [show ax_bo 0 = some false from rfl, ob, ob, ax_up_self, if_pos bF]
  obtain ⟨M1, hM1⟩ : ∃ M1, M1 = ax_up I 210 19 (ax_b false) := ⟨_, rfl⟩
  have hR1 : MR M1 now a b fw fh since st := by rw [hM1]; exact MR_up (Or.inl ⟨rfl, Or.inr rfl⟩) hM
  have c1 : M1 210 0 = 0 := by rw [hM1, ax_up_ne (by omega)]; exact c0
  rw [← hM1]
  clear hM1 hM c0
  have oC := okP_crop ha w1 h1 hx hy
  have hR2 := hR1
  obtain ⟨hn, n3, ⟨⟨p1, p2, p3, p4⟩, pt, pn⟩, hb', -⟩ := hR1
  obtain ⟨J1, e1, F1, T1⟩ := m_cropT hR hR2 ha hx hy (fitA_t hf) a.2.1.length 5000 0 M1 (by omega) (by have := ha.2.1.1; omega) ⟨fun _ _ _ => rfl, fun _ _ _ _ _ => rfl, fun _ _ => rfl⟩ (fun j t hj => by simp at hj) (fun j t _ hj => pt j t hj)
  have e1 : d_M_crop_159 oS 5000 M1 R 210 (nI x) (nI y) (nI w) (nI h) 0 0 = d_M_crop_304 oS 5000 (ax_up J1 213 now (nI (a.2.1.filter (inT x y w h)).length)) R 210 (nI x) (nI y) (nI w) (nI h) (nI (a.2.1.filter (inT x y w h)).length) 0 (nI (20 * now)) := e1
  obtain ⟨J2, hJ2⟩ : ∃ J2, J2 = ax_up J1 213 now (nI (a.2.1.filter (inT x y w h)).length) := ⟨_, rfl⟩
  rw [← hJ2] at e1
  have g2 : ∀ i m, ¬ (i = 213 ∧ m = now) → J2 i m = J1 i m := fun i m z => by rw [hJ2, ax_up_ne z]
  have n32 : J2 210 3 = nI now := (g2 _ _ (by omega)).trans ((F1.1 _ _ (by omega)).trans n3)
  have p42 : J2 214 now = nI a.2.2.length := (g2 _ _ (by omega)).trans ((F1.1 _ _ (by omega)).trans p4)
  have N2 : ∀ j t, a.2.2[j]? = some t → MN J2 (20 * now + j) t := by
    intro j t hj
    obtain ⟨r1, r2, r3⟩ := pn j t hj
    exact ⟨(g2 _ _ (by omega)).trans ((F1.1 _ _ (by omega)).trans r1), (g2 _ _ (by omega)).trans ((F1.1 _ _ (by omega)).trans r2), (g2 _ _ (by omega)).trans ((F1.1 _ _ (by omega)).trans r3)⟩
  obtain ⟨J3, e2, F3, N3⟩ := m_cropN (I := J2) hR hn n32 p42 ha w1 h1 hx hy (nI (a.2.1.filter (inT x y w h)).length) a.2.2.length 5000 0 J2 (by omega) (by have := ha.2.1.2; omega) ⟨fun _ _ _ => rfl, fun _ _ _ _ _ => rfl⟩ (fun j t hj => by simp at hj) (fun j t _ hj => N2 j t hj)
  have e2 : d_M_crop_304 oS 5000 J2 R 210 (nI x) (nI y) (nI w) (nI h) (nI (a.2.1.filter (inT x y w h)).length) 0 (nI (20 * now)) = _ := e2
  rw [e1, e2]
  obtain ⟨K, hK⟩ : ∃ K, K = ax_up (ax_up (ax_up J3 214 now (nI (a.2.2.filter (inN x y w h)).length)) 211 now (nI w)) 212 now (nI h) := ⟨_, rfl⟩
  rw [← hK]
  have k0 : ∀ i m, ¬ (i = 214 ∧ m = now) → ¬ (i = 211 ∧ m = now) → ¬ (i = 212 ∧ m = now) → K i m = J3 i m := fun i m z1 z2 z3 => by rw [hK, ax_up_ne z3, ax_up_ne z2, ax_up_ne z1]
  have k1 : ∀ i m, ¬ (i = 214 ∧ m = now) → ¬ (i = 211 ∧ m = now) → ¬ (i = 212 ∧ m = now) → i < 222 ∨ 224 < i → K i m = J2 i m := fun i m z1 z2 z3 z4 => (k0 i m z1 z2 z3).trans (F3.1 i m z4)
  have k2 : ∀ i m, ¬ (i = 214 ∧ m = now) → ¬ (i = 211 ∧ m = now) → ¬ (i = 212 ∧ m = now) → ¬ (i = 213 ∧ m = now) → i < 222 ∨ 224 < i → K i m = J1 i m := fun i m z1 z2 z3 z4 z5 => (k1 i m z1 z2 z3 z5).trans (g2 i m z4)
  have k3 : ∀ i m, ¬ (i = 214 ∧ m = now) → ¬ (i = 211 ∧ m = now) → ¬ (i = 212 ∧ m = now) → ¬ (i = 213 ∧ m = now) → i < 215 ∨ 224 < i → K i m = M1 i m := fun i m z1 z2 z3 z4 z5 => (k2 i m z1 z2 z3 z4 (by omega)).trans (F1.1 i m (by omega))
  refine ⟨_, _, rfl, (k3 _ _ (by omega) (by omega) (by omega) (by omega) (by omega)).trans c1, fun _ => rfl, MR_mk hR2 (fun k hk => k3 _ _ (by omega) (by omega) (by omega) (by omega) (by omega)) (fun k => k3 _ _ (by omega) (by omega) (by omega) (by omega) (by omega)) ⟨⟨?_, ?_, ?_, ?_⟩, fun j t hj => ?_, fun j n hj => ?_⟩ (MP_keep hb' hb (fun i z1 z2 => k3 _ _ (by omega) (by omega) (by omega) (by omega) (by omega)) (fun i m z1 z2 z3 z4 => ?_) (fun m z1 z2 => ?_) (fun i m z1 z2 z3 z4 => ?_))⟩
  · rw [hK, ax_up_ne (by omega), ax_up_self]; rfl
  · rw [hK, ax_up_self]; rfl
  · rw [k1 _ _ (by omega) (by omega) (by omega) (by omega), hJ2, ax_up_self]; unfold cropP; rw [List.length_map]
  · rw [hK, ax_up_ne (by omega), ax_up_ne (by omega), ax_up_self]; unfold cropP; rw [List.length_map]
  · exact MT_keep (T1 j t hj) (oC.2.2.1 t (List.mem_of_getElem? hj)).2.2.2.1 (fun i z1 z2 => k2 _ _ (by omega) (by omega) (by omega) (by omega) (by omega)) (fun i z => k2 _ _ (by omega) (by omega) (by omega) (by omega) (by omega))
  · obtain ⟨r1, r2, r3⟩ := N3 j n hj
    exact ⟨(k0 _ _ (by omega) (by omega) (by omega)).trans r1, (k0 _ _ (by omega) (by omega) (by omega)).trans r2, (k0 _ _ (by omega) (by omega) (by omega)).trans r3⟩
  · exact (k2 _ _ (by omega) (by omega) (by omega) (by omega) (by omega)).trans (F1.2.1 i m z1 z2 (by omega))
  · exact (k2 _ _ (by omega) (by omega) (by omega) (by omega) (by omega)).trans (F1.2.2 m (by omega))
  · exact (k0 _ _ (by omega) (by omega) (by omega)).trans ((F3.2 i m z1 z2 (by omega)).trans ((g2 _ _ (by omega)).trans (F1.1 i m (by omega))))
theorem M_crop (hR : mOk oS R) (hM : MR I now a b fw fh since st) (ha : okP a) (hb : okP b) (x y w h : Int32) : (noRect a.1.1 a.1.2 x y w h → mAns (d_M_crop oS I R 210 x y w h) 1 0 (fun J => MR J now a b fw fh since st)) ∧ (∀ x' y' w' h', x = nI x' → y = nI y' → w = nI w' → h = nI h' → 1 ≤ w' → 1 ≤ h' → x' + w' ≤ a.1.1 → y' + h' ≤ a.1.2 → (fitA a x' y' w' h' = false → mAns (d_M_crop oS I R 210 x y w h) 0 (-1) (fun J => MR J now a b fw fh since st)) ∧ (fitA a x' y' w' h' = true → mAns (d_M_crop oS I R 210 x y w h) 0 (nI (a.2.1.filter (inT x' y' w' h')).length) (fun J => MR J now (cropP a x' y' w' h') b fw fh since st))) := by
  refine ⟨fun z => ?_, fun x' y' w' h' ex ey ew eh w1 h1 hx hy => ?_⟩
  · unfold d_M_crop
    by_cases z1 : w < 1
    · rw [if_pos z1]; exact m_c24 hM _ _ _ _
    rw [if_neg z1]
    by_cases z2 : h < 1
    · rw [if_pos z2]; exact m_c24 hM _ _ _ _
    rw [if_neg z2, (m_lies hR hM x y w h).1 z z1 z2, ob, if_pos bF]
    exact m_c24 hM _ _ _ _
  · subst ex ey ew eh
    have hW := ha.1
    have hM0 : MR (ax_up I 210 0 0) now a b fw fh since st := MR_c hM 0
    have c0 : ax_up I 210 0 0 210 0 = 0 := ax_up_self _ _ _ _
    have e : d_M_crop oS I R 210 (nI x') (nI y') (nI w') (nI h') = if fitA a x' y' w' h' = true then d_M_crop_88 oS (ax_up I 210 0 0) R 210 (nI x') (nI y') (nI w') (nI h') 0 210 else d_M_crop_88 oS (ax_up I 210 0 0) R 210 (nI x') (nI y') (nI w') (nI h') 1 210 := by
      have f1 : d_M_fits oS (ax_up I 210 0 0) R 210 1 (nI x') = some (a.2.1.all (fitT true x')) := m_fits hR hM0 ha (by omega) true
      have f2 : d_M_fits oS (ax_up I 210 0 0) R 210 0 (nI y') = some (a.2.1.all (fitT false y')) := m_fits hR hM0 ha (by omega) false
      have f3 : d_M_fits oS (ax_up I 210 0 0) R 210 1 (nI x' + nI w') = some (a.2.1.all (fitT true (x' + w'))) := by rw [nI_add]; exact m_fits hR hM0 ha (by omega) true
      have f4 : d_M_fits oS (ax_up I 210 0 0) R 210 0 (nI y' + nI h') = some (a.2.1.all (fitT false (y' + h'))) := by rw [nI_add]; exact m_fits hR hM0 ha (by omega) false
      unfold d_M_crop
      rw [if_neg (show ¬ nI w' < (1 : Int32) from nI_nlt (a := w') (b := 1) w1 (by omega)), if_neg (show ¬ nI h' < (1 : Int32) from nI_nlt (a := h') (b := 1) h1 (by omega)), (m_lies hR hM _ _ _ _).2 (rect_no hW.2.1 hW.2.2.2 w1 h1 hx hy), ob, if_neg bT]
      unfold d_M_crop_29 d_M_crop_83
      rw [ob, if_pos (up_ge (by decide)), f1, f2, f3, f4, ob, ob, ob, ob]
      unfold fitA
      generalize a.2.1.all (fitT true x') = B1
      generalize a.2.1.all (fitT false y') = B2
      generalize a.2.1.all (fitT true (x' + w')) = B3
      generalize a.2.1.all (fitT false (y' + h')) = B4
      cases B1 with
      | false => rw [if_pos bF, if_neg (by simp)]
      | true =>
        rw [if_neg bT]
        cases B2 with
        | false => rw [if_pos bF, if_neg (by simp)]
        | true =>
          rw [if_neg bT]
          cases B3 with
          | false => rw [if_pos bF, if_neg (by simp)]
          | true =>
            rw [if_neg bT]
            cases B4 with
            | false => rw [if_pos bF, if_neg (by simp)]
            | true => rw [if_neg bT, if_pos (by simp)]
    rw [e]
    refine ⟨fun z => ?_, fun z => ?_⟩
    · rw [z, if_neg (by simp)]
      exact m_c88r hR hM0 ha c0 _ _ _ _
    · rw [if_pos z]
      exact m_c88d hR hM0 ha hb c0 w1 h1 hx hy z
end MC3
/-! the reference: turn -/
theorem n_rem {x d : Nat} (hx : x < 2 ^ 31) (h0 : 0 < d) (hd : d < 2 ^ 31) : nI x - nI x / nI d * nI d = nI (x % d) := by
  rw [pk_div hx h0 hd, nI_mul, nI_sub (Nat.div_mul_le_self x d)]
  congr 1
  have := Nat.div_add_mod x d
  rw [Nat.mul_comm] at this
  omega
theorem m_cq (S : ax_S) (K : ax_I) (R : ax_R) {v : Nat} (hv : v < 8) : ∀ (n f W H x y q : Nat), q + n = v % 4 → n < f → W ≤ 400 → H ≤ 400 → x < W → y < H → d_M_comes_29 S f K R (nI v) (nI x) (nI y) (nI W) (nI H) (nI q) = some (nI (1000 * (cq n W H x y).2 + (cq n W H x y).1)) := by
  intro n
  have e4 : nI v - nI v / 4 * 4 = nI (v % 4) := n_rem (d := 4) (by omega) (by omega) (by omega)
  induction n with
  | zero =>
    intro f W H x y q hq hf hW hH hx hy
    obtain ⟨f, rfl⟩ : ∃ f', f = f' + 1 := ⟨f - 1, by omega⟩
    rw [d_M_comes_29, e4, if_pos (nI_le (by omega) (by omega)), show (1000 : Int32) = nI 1000 from rfl, nI_mul, nI_add]
    rfl
  | succ n ih =>
    intro f W H x y q hq hf hW hH hx hy
    obtain ⟨f, rfl⟩ : ∃ f', f = f' + 1 := ⟨f - 1, by omega⟩
    have e1 : nI H - 1 = nI (H - 1) := nI_sub (b := 1) (by omega)
    rw [d_M_comes_29, e4, if_neg (nI_ge (by omega) (by omega)), e1, nI_sub (by omega), nI_1]
    exact ih f H W (H - 1 - y) x (q + 1) (by omega) (by omega) hH hW (by omega) hx
theorem m_come (S : ax_S) (K : ax_I) (R : ax_R) {v W H x y : Nat} (hv : v < 8) (hW : W ≤ 400) (hH : H ≤ 400) (hx : x < W) (hy : y < H) : d_M_comes S K R (nI v) (nI x) (nI y) (nI W) (nI H) = some (nI (1000 * (come v W H x y).2 + (come v W H x y).1)) := by
  unfold d_M_comes d_M_comes_14 come
  by_cases z : 4 ≤ v
  · have e1 : nI W - 1 = nI (W - 1) := nI_sub (b := 1) (by omega)
    rw [if_neg (show ¬ nI v < 4 from nI_nlt (b := 4) z (by omega)), e1, nI_sub (by omega), if_pos z]
    exact m_cq S K R hv (v % 4) 5000 W H (W - 1 - x) y 0 (by omega) (by omega) hW hH (by omega) hy
  · rw [if_pos (show nI v < 4 from nI_lt (b := 4) (by omega) (by decide)), if_neg z]
    exact m_cq S K R hv (v % 4) 5000 W H x y 0 (by omega) (by omega) hW hH hx hy
theorem MT_five {J : ax_I} {m : Nat} {t : Tl} (h : MT J m t) (X Y w' h' v' : Nat) : MT (ax_up (ax_up (ax_up (ax_up (ax_up J 215 m (nI X)) 216 m (nI Y)) 217 m (nI w')) 218 m (nI h')) 219 m (nI v')) m ((X, Y), (w', h'), v', t.2.2.2) := by
  obtain ⟨⟨q1, q2, q3, q4, q5, q6⟩, q7⟩ := h
  refine ⟨⟨?_, ?_, ?_, ?_, ?_, ?_⟩, fun j c hj => ?_⟩
  · rw [ax_up_ne (by omega), ax_up_ne (by omega), ax_up_ne (by omega), ax_up_ne (by omega), ax_up_self]
  · rw [ax_up_ne (by omega), ax_up_ne (by omega), ax_up_ne (by omega), ax_up_self]
  · rw [ax_up_ne (by omega), ax_up_ne (by omega), ax_up_self]
  · rw [ax_up_ne (by omega), ax_up_self]
  · rw [ax_up_self]
  · rw [ax_up_ne (by omega), ax_up_ne (by omega), ax_up_ne (by omega), ax_up_ne (by omega), ax_up_ne (by omega)]; exact q6
  · rw [ax_up_ne (by omega), ax_up_ne (by omega), ax_up_ne (by omega), ax_up_ne (by omega), ax_up_ne (by omega)]; exact q7 j c hj
section MTU
variable {I : ax_I} {R : ax_R} {now fw fh since : Nat} {a b : Pc} {st : List Nat}
theorem m_t173 (hR : mOk oS R) {f : ax_I → ax_R → Nat → Int32 → Int32 → Int32 → Int32 → Option (Int32 × ax_I)} {J : ax_I} {m : Nat} (hm : m < 80) {v w h s x1 y1 x2 y2 X : Nat} (hv : v < 8) (hs : s < 8) (g7 : J 217 m = nI w) (g8 : J 218 m = nI h) (g9 : J 219 m = nI s) (z1 : x1 < 1000) (z2 : y1 < 1000) (z3 : x2 < 1000) (z4 : y2 < 1000) (u2 u3 u4 : Int32) : d_M_turn_173 oS f J R 210 (nI v) u2 u3 u4 (nI m) (nI (1000 * y1 + x1)) (nI (1000 * y2 + x2)) (nI X) (nI m) 215 = f (ax_up (ax_up (ax_up (ax_up (ax_up J 215 m (nI X)) 216 m (nI (le2 y1 y2))) 217 m (nI (if v % 2 = 1 then h else w))) 218 m (nI (if v % 2 = 1 then w else h))) 219 m (nI (tog s v))) R 210 (nI v) u2 u3 (u4 + 1) := by
  obtain ⟨⟨t1, t2, t3⟩, t4, t5, t6⟩ := mxT hR hm rfl
  have d6 : nI (1000 * y1 + x1) / 1000 = nI y1 := (pk_div (d := 1000) (by omega) (by omega) (by omega)).trans (congrArg nI (by omega))
  have d7 : nI (1000 * y2 + x2) / 1000 = nI y2 := (pk_div (d := 1000) (by omega) (by omega) (by omega)).trans (congrArg nI (by omega))
  have g : ∀ Y : Nat, d_M_turn_210 oS f (ax_up J 215 m (nI X)) R 210 (nI v) u2 u3 u4 (nI m) (nI Y) (nI m) 216 = f (ax_up (ax_up (ax_up (ax_up (ax_up J 215 m (nI X)) 216 m (nI Y)) 217 m (nI (if v % 2 = 1 then h else w))) 218 m (nI (if v % 2 = 1 then w else h))) 219 m (nI (tog s v))) R 210 (nI v) u2 u3 (u4 + 1) := by
    intro Y
    unfold d_M_turn_210
    rw [t2, ob, ob]
    obtain ⟨J2, hJ2⟩ : ∃ J2, J2 = ax_up (ax_up J 215 m (nI X)) 216 m (nI Y) := ⟨_, rfl⟩
    have k7 : J2 217 m = nI w := by rw [hJ2, ax_up_ne (by omega), ax_up_ne (by omega)]; exact g7
    have k8 : J2 218 m = nI h := by rw [hJ2, ax_up_ne (by omega), ax_up_ne (by omega)]; exact g8
    have k9 : J2 219 m = nI s := by rw [hJ2, ax_up_ne (by omega), ax_up_ne (by omega)]; exact g9
    rw [← hJ2, mr_10 hR, ob, t3, ob, ob, m_turned oS _ R hv, ob]
    by_cases z : v % 2 = 1
    · rw [decide_eq_true z, if_neg bT, mr_11 hR, ob, t4, ob, k7, k8, if_pos z, if_pos z]
      unfold d_M_turn_245
      rw [t3, ob, ob, mr_11 hR, ob, m_turned oS _ R hv, ob, decide_eq_true z, if_neg bT]
      unfold d_M_turn_271
      have k9' : ax_up (ax_up J2 217 m (nI h)) 218 m (nI w) 219 m = nI s := by rw [ax_up_ne (by omega), ax_up_ne (by omega)]; exact k9
      rw [t4, ob, ob, mr_12 hR, ob, ob, t5, ob, k9', both_tog oS _ R hs hv, ob, ob, ob]
    · rw [decide_eq_false z, if_pos bF, k7, if_neg z, if_neg z]
      unfold d_M_turn_245
      rw [t3, ob, ob, mr_11 hR, ob, m_turned oS _ R hv, ob, decide_eq_false z, if_pos bF, ob, t4, ob, ax_up_ne (show ¬ (218 = 217 ∧ m = m) by omega), k8]
      unfold d_M_turn_271
      have k9' : ax_up (ax_up J2 217 m (nI w)) 218 m (nI h) 219 m = nI s := by rw [ax_up_ne (by omega), ax_up_ne (by omega)]; exact k9
      rw [t4, ob, ob, mr_12 hR, ob, ob, t5, ob, k9', both_tog oS _ R hs hv, ob, ob, ob]
  unfold d_M_turn_173
  rw [t1, ob, ob, mr_9 hR, ob, d6, d7]
  unfold le2
  by_cases z : y2 ≤ y1
  · rw [if_pos (nI_le z (by omega)), if_pos z]
    exact g y2
  · rw [if_neg (nI_ge (by omega) (by omega)), if_neg z]
    exact g y1
theorem m_turnT (hR : mOk oS R) (hM : MR I now a b fw fh since st) (ha : okP a) {v : Nat} (hv : v < 8) : ∀ (m n k : Nat) (J : ax_I), k + m = a.2.1.length → m < n → fTl now I J → (∀ j t, j < k → a.2.1[j]? = some t → MT J (40 * now + j) (turnT v a.1.1 a.1.2 t)) → (∀ j t, k ≤ j → a.2.1[j]? = some t → MT J (40 * now + j) t) → ∃ J', d_M_turn_51 oS n J R 210 (nI v) (nI a.1.1) (nI a.1.2) (nI k) = d_M_turn_305 oS 5000 J' R 210 (nI v) (nI a.1.1) (nI a.1.2) (nI (20 * now)) ∧ fTl now I J' ∧ ∀ j t, a.2.1[j]? = some t → MT J' (40 * now + j) (turnT v a.1.1 a.1.2 t) := by
  obtain ⟨hn, n3, ⟨⟨p1, p2, p3, p4⟩, pt, pn⟩, hb', -⟩ := hM
  obtain ⟨-, -, ix, -⟩ := mx2 hR hn
  have l40 := ha.2.1.1
  have oW := ha.1
  intro m
  induction m with
  | zero =>
    intro n k J hk hn' hF hA hB
    obtain ⟨n, rfl⟩ : ∃ n', n = n' + 1 := ⟨n - 1, by omega⟩
    have hk : k = a.2.1.length := by omega
    subst hk
    rw [d_M_turn_51, mr_6 hR, ob, hF.1 210 3 (by omega), n3, ix, ob, hF.1 213 now (by omega), p3, if_pos (nI_le (Nat.le_refl _) (by omega)), show (20 : Int32) = nI 20 from rfl, nI_mul]
    exact ⟨J, rfl, hF, fun j t hj => hA j t (List.getElem?_eq_some_iff.mp hj).1 hj⟩
  | succ m ih =>
    intro n k J hk hn' hF hA hB
    obtain ⟨n, rfl⟩ : ∃ n', n = n' + 1 := ⟨n - 1, by omega⟩
    have hlt : k < a.2.1.length := by omega
    obtain ⟨t, ht⟩ : ∃ t, a.2.1[k]? = some t := ⟨_, List.getElem?_eq_getElem hlt⟩
    have hT := hB k t (Nat.le_refl _) ht
    have hT' := hT
    obtain ⟨⟨q1, q2, q3, q4, q5, q6⟩, -⟩ := hT
    obtain ⟨⟨s1, s2, s3, s4⟩, ⟨o1, o2⟩, hw8, hbl, -⟩ := ha.2.2.1 t (List.mem_of_getElem? ht)
    have e40 : (40 : Int32) * nI now + nI k = nI (40 * now + k) := by rw [show (40 : Int32) = nI 40 from rfl, nI_mul, nI_add]
    have hm80 : 40 * now + k < 80 := by omega
    obtain ⟨⟨t1, t2, t3⟩, t4, t5, t6⟩ := mxT hR hm80 rfl
    have g3 := (hF.1 210 3 (by omega)).trans n3
    have c1 := come_lt (v := v) (W := a.1.1) (H := a.1.2) (x := t.1.1) (y := t.1.2) hv (by omega) (by omega)
    have c2 := come_lt (v := v) (W := a.1.1) (H := a.1.2) (x := t.1.1 + t.2.1.1 - 1) (y := t.1.2 + t.2.1.2 - 1) hv (by omega) (by omega)
    have b1 : (if v % 2 = 1 then a.1.2 else a.1.1) ≤ 400 := by split <;> omega
    have b2 : (if v % 2 = 1 then a.1.1 else a.1.2) ≤ 400 := by split <;> omega
    have ex : nI (t.1.1 + t.2.1.1) - 1 = nI (t.1.1 + t.2.1.1 - 1) := nI_sub (b := 1) (by omega)
    have ey : nI (t.1.2 + t.2.1.2) - 1 = nI (t.1.2 + t.2.1.2 - 1) := nI_sub (b := 1) (by omega)
    have M1 := m_come oS J R (v := v) (W := a.1.1) (H := a.1.2) (x := t.1.1) (y := t.1.2) hv (by omega) (by omega) (by omega) (by omega)
    have M2 := m_come oS J R (v := v) (W := a.1.1) (H := a.1.2) (x := t.1.1 + t.2.1.1 - 1) (y := t.1.2 + t.2.1.2 - 1) hv (by omega) (by omega) (by omega) (by omega)
    obtain ⟨x1, hx1⟩ : ∃ x1, x1 = (come v a.1.1 a.1.2 t.1.1 t.1.2).1 := ⟨_, rfl⟩
    obtain ⟨y1, hy1⟩ : ∃ y1, y1 = (come v a.1.1 a.1.2 t.1.1 t.1.2).2 := ⟨_, rfl⟩
    obtain ⟨x2, hx2⟩ : ∃ x2, x2 = (come v a.1.1 a.1.2 (t.1.1 + t.2.1.1 - 1) (t.1.2 + t.2.1.2 - 1)).1 := ⟨_, rfl⟩
    obtain ⟨y2, hy2⟩ : ∃ y2, y2 = (come v a.1.1 a.1.2 (t.1.1 + t.2.1.1 - 1) (t.1.2 + t.2.1.2 - 1)).2 := ⟨_, rfl⟩
    have eT : turnT v a.1.1 a.1.2 t = ((le2 x1 x2, le2 y1 y2), (if v % 2 = 1 then t.2.1.2 else t.2.1.1, if v % 2 = 1 then t.2.1.1 else t.2.1.2), tog t.2.2.1 v, t.2.2.2) := by unfold turnT; rw [hx1, hy1, hx2, hy2]
    rw [← hx1, ← hy1] at c1 M1
    rw [← hx2, ← hy2] at c2 M2
    have r1 : nI (1000 * y1 + x1) - nI (1000 * y1 + x1) / 1000 * 1000 = nI x1 := (n_rem (d := 1000) (by omega) (by omega) (by omega)).trans (congrArg nI (by omega))
    have r2 : nI (1000 * y2 + x2) - nI (1000 * y2 + x2) / 1000 * 1000 = nI x2 := (n_rem (d := 1000) (by omega) (by omega) (by omega)).trans (congrArg nI (by omega))
    rw [d_M_turn_51, mr_6 hR, ob, g3, ix, ob, hF.1 213 now (by omega), p3, if_neg (nI_ge hlt (by omega))]
    unfold d_M_tileAt
    rw [ob, g3, e40]
    simp only [mr_8 hR, mr_9 hR, mr_10 hR, mr_11 hR, ob, t1, t2, t3, t4, q1, q2, q3, q4, nI_add, ex, ey, M1, M2, r1, r2]
    have stp : ∀ X, (if nI x2 ≤ nI x1 then d_M_turn_173 oS (d_M_turn_51 oS n) J R 210 (nI v) (nI a.1.1) (nI a.1.2) (nI k) (nI (40 * now + k)) (nI (1000 * y1 + x1)) (nI (1000 * y2 + x2)) (nI x2) (nI (40 * now + k)) 215 else d_M_turn_173 oS (d_M_turn_51 oS n) J R 210 (nI v) (nI a.1.1) (nI a.1.2) (nI k) (nI (40 * now + k)) (nI (1000 * y1 + x1)) (nI (1000 * y2 + x2)) (nI x1) (nI (40 * now + k)) 215) = X → d_M_turn_51 oS n (ax_up (ax_up (ax_up (ax_up (ax_up J 215 (40 * now + k) (nI (le2 x1 x2))) 216 (40 * now + k) (nI (le2 y1 y2))) 217 (40 * now + k) (nI (if v % 2 = 1 then t.2.1.2 else t.2.1.1))) 218 (40 * now + k) (nI (if v % 2 = 1 then t.2.1.1 else t.2.1.2))) 219 (40 * now + k) (nI (tog t.2.2.1 v))) R 210 (nI v) (nI a.1.1) (nI a.1.2) (nI (k + 1)) = X := by
      intro X hX
      rw [← hX, ← nI_1]
      by_cases z : x2 ≤ x1
      · rw [if_pos (nI_le z (by omega)), m_t173 hR hm80 hv hw8 q3 q4 q5 (by omega) (by omega) (by omega) (by omega)]
        rw [show le2 x1 x2 = x2 from if_pos z]
      · rw [if_neg (nI_ge (by omega) (by omega)), m_t173 hR hm80 hv hw8 q3 q4 q5 (by omega) (by omega) (by omega) (by omega)]
        rw [show le2 x1 x2 = x1 from if_neg z]
    rw [← stp _ rfl]
    obtain ⟨J2, hJ2⟩ : ∃ J2, J2 = ax_up (ax_up (ax_up (ax_up (ax_up J 215 (40 * now + k) (nI (le2 x1 x2))) 216 (40 * now + k) (nI (le2 y1 y2))) 217 (40 * now + k) (nI (if v % 2 = 1 then t.2.1.2 else t.2.1.1))) 218 (40 * now + k) (nI (if v % 2 = 1 then t.2.1.1 else t.2.1.2))) 219 (40 * now + k) (nI (tog t.2.2.1 v)) := ⟨_, rfl⟩
    have kk : ∀ i m, ¬ (215 ≤ i ∧ i ≤ 219 ∧ m = 40 * now + k) → J2 i m = J i m := fun i m z => by rw [hJ2, ax_up_ne (by omega), ax_up_ne (by omega), ax_up_ne (by omega), ax_up_ne (by omega), ax_up_ne (by omega)]
    have hT2 : MT J2 (40 * now + k) (turnT v a.1.1 a.1.2 t) := by
      rw [hJ2, eT]
      exact MT_five hT' _ _ _ _ _
    rw [← hJ2]
    refine ih n (k + 1) J2 (by omega) (by omega) ⟨fun i m z => (kk _ _ (by omega)).trans (hF.1 i m z), fun i m z1 z2 z3 => (kk _ _ (by omega)).trans (hF.2.1 i m z1 z2 z3), fun m z => (kk _ _ (by omega)).trans (hF.2.2 m z)⟩ (fun j t' hj hj' => ?_) (fun j t' hj hj' => ?_)
    · by_cases e : j = k
      · subst e
        rw [ht] at hj'
        rw [← Option.some.inj hj']
        exact hT2
      · exact MT_keep (hA j t' (by omega) hj') (ha.2.2.1 t' (List.mem_of_getElem? hj')).2.2.2.1 (fun i z1 z2 => kk _ _ (by omega)) (fun i z => kk _ _ (by omega))
    · exact MT_keep (hB j t' (by omega) hj') (ha.2.2.1 t' (List.mem_of_getElem? hj')).2.2.2.1 (fun i z1 z2 => kk _ _ (by omega)) (fun i z => kk _ _ (by omega))
theorem m_t422 (hR : mOk oS R) (hn : now < 2) {J : ax_I} {v : Nat} (hv : v < 8) (hs : since < 8) (n3 : J 210 3 = nI now) (n18 : J 210 18 = nI since) (W H : Int32) : (d_M_isTurned oS J R (nI v)).bind (fun r162 => if ax_b r162 = 0 then d_M_turn_401 oS J R 210 (nI v) W H W (J 210 3) 211 else d_M_turn_401 oS J R 210 (nI v) W H H (J 210 3) 211) = some (nI (tog since v), ax_up (ax_up (ax_up (ax_up J 211 now (if v % 2 = 1 then H else W)) 212 now (if v % 2 = 1 then W else H)) 210 18 (nI (tog since v))) 210 19 0) := by
  obtain ⟨i1, i2, i3, i4⟩ := mx2 hR hn
  have e4 : ∀ K : ax_I, ∀ y, K 210 3 = nI now → K 210 18 = nI since → d_M_turn_422 oS K R 210 (nI v) y (nI now) 212 = some (nI (tog since v), ax_up (ax_up (ax_up K 212 now y) 210 18 (nI (tog since v))) 210 19 0) := by
    intro K y k3 k18
    unfold d_M_turn_422
    rw [i2, ob, ob, ax_up_ne (show ¬ (210 = 212 ∧ 18 = now) by omega), k18, both_tog oS _ R hs hv, ob, ob, ob, ax_up_ne (show ¬ (210 = 210 ∧ 18 = 19) by omega), ax_up_self]
  rw [m_turned oS _ R hv, ob, n3]
  by_cases z : v % 2 = 1
  · rw [decide_eq_true z, if_neg bT, if_pos z, if_pos z]
    unfold d_M_turn_401
    rw [i1, ob, ob, mr_5 hR, ob, m_turned oS _ R hv, ob, decide_eq_true z, if_neg bT, ax_up_ne (show ¬ (210 = 211 ∧ 3 = now) by omega), n3]
    exact e4 _ _ ((ax_up_ne (by omega)).trans n3) ((ax_up_ne (by omega)).trans n18)
  · rw [decide_eq_false z, if_pos bF, if_neg z, if_neg z]
    unfold d_M_turn_401
    rw [i1, ob, ob, mr_5 hR, ob, m_turned oS _ R hv, ob, decide_eq_false z, if_pos bF, ax_up_ne (show ¬ (210 = 211 ∧ 3 = now) by omega), n3]
    exact e4 _ _ ((ax_up_ne (by omega)).trans n3) ((ax_up_ne (by omega)).trans n18)
theorem m_turnN (hR : mOk oS R) (hn : now < 2) (n3 : I 210 3 = nI now) (n18 : I 210 18 = nI since) (hs : since < 8) (p4 : I 214 now = nI a.2.2.length) (ha : okP a) {v : Nat} (hv : v < 8) : ∀ (m n k : Nat) (J : ax_I), k + m = a.2.2.length → m < n → fNo now I J → (∀ j t, j < k → a.2.2[j]? = some t → MN J (20 * now + j) (turnN v a.1.1 a.1.2 t)) → (∀ j t, k ≤ j → a.2.2[j]? = some t → MN J (20 * now + j) t) → ∃ J', d_M_turn_305 oS n J R 210 (nI v) (nI a.1.1) (nI a.1.2) (nI (20 * now + k)) = some (nI (tog since v), ax_up (ax_up (ax_up (ax_up J' 211 now (if v % 2 = 1 then nI a.1.2 else nI a.1.1)) 212 now (if v % 2 = 1 then nI a.1.1 else nI a.1.2)) 210 18 (nI (tog since v))) 210 19 0) ∧ fNo now I J' ∧ ∀ j t, a.2.2[j]? = some t → MN J' (20 * now + j) (turnN v a.1.1 a.1.2 t) := by
  obtain ⟨i1, i2, i3, i4⟩ := mx2 hR hn
  have l20 := ha.2.1.2
  have oW := ha.1
  have e20 : ∀ v, (20 : Int32) * nI now + nI v = nI (20 * now + v) := fun v => by rw [show (20 : Int32) = nI 20 from rfl, nI_mul, nI_add]
  intro m
  induction m with
  | zero =>
    intro n k J hk hn' hF hA hB
    obtain ⟨n, rfl⟩ : ∃ n', n = n' + 1 := ⟨n - 1, by omega⟩
    have hk : k = a.2.2.length := by omega
    subst hk
    have g3 := (hF.1 210 3 (by omega)).trans n3
    rw [d_M_turn_305, mr_7 hR, ob, g3, i4, ob, hF.1 214 now (by omega), p4, e20, if_pos (nI_le (Nat.le_refl _) (by omega)), mr_4 hR, ob, ← g3, m_t422 hR hn hv hs g3 ((hF.1 210 18 (by omega)).trans n18)]
    exact ⟨J, rfl, hF, fun j t hj => hA j t (List.getElem?_eq_some_iff.mp hj).1 hj⟩
  | succ m ih =>
    intro n k J hk hn' hF hA hB
    obtain ⟨n, rfl⟩ : ∃ n', n = n' + 1 := ⟨n - 1, by omega⟩
    have hlt : k < a.2.2.length := by omega
    obtain ⟨t, ht⟩ : ∃ t, a.2.2[k]? = some t := ⟨_, List.getElem?_eq_getElem hlt⟩
    obtain ⟨q1, q2, q3⟩ := hB k t (Nat.le_refl _) ht
    obtain ⟨o1, o2, o3⟩ := ha.2.2.2.1 t (List.mem_of_getElem? ht)
    obtain ⟨t1, t2, t3⟩ := mxN hR (show 20 * now + k < 40 by omega) rfl
    have g3 := (hF.1 210 3 (by omega)).trans n3
    have c1 := come_lt (v := v) (W := a.1.1) (H := a.1.2) (x := t.1) (y := t.2.1) hv o1 o2
    have b1 : (if v % 2 = 1 then a.1.2 else a.1.1) ≤ 400 := by split <;> omega
    have b2 : (if v % 2 = 1 then a.1.1 else a.1.2) ≤ 400 := by split <;> omega
    have M1 := m_come oS J R (v := v) (W := a.1.1) (H := a.1.2) (x := t.1) (y := t.2.1) hv (by omega) (by omega) o1 o2
    obtain ⟨x1, hx1⟩ : ∃ x1, x1 = (come v a.1.1 a.1.2 t.1 t.2.1).1 := ⟨_, rfl⟩
    obtain ⟨y1, hy1⟩ : ∃ y1, y1 = (come v a.1.1 a.1.2 t.1 t.2.1).2 := ⟨_, rfl⟩
    have eN : turnN v a.1.1 a.1.2 t = (x1, y1, t.2.2) := by unfold turnN; rw [hx1, hy1]
    rw [← hx1, ← hy1] at c1 M1
    have r1 : nI (1000 * y1 + x1) - nI (1000 * y1 + x1) / 1000 * 1000 = nI x1 := (n_rem (d := 1000) (by omega) (by omega) (by omega)).trans (congrArg nI (by omega))
    have r2 : nI (1000 * y1 + x1) / 1000 = nI y1 := (pk_div (d := 1000) (by omega) (by omega) (by omega)).trans (congrArg nI (by omega))
    rw [d_M_turn_305, mr_7 hR, ob, g3, i4, ob, hF.1 214 now (by omega), p4, e20, if_neg (nI_ge (by omega) (by omega)), mr_15 hR, ob, t1, ob, mr_16 hR, ob, t2, ob, q1, q2, M1, ob, ob, t1, ob, ob, r1, ob, t2, ob, ob, r2, nI_1]
    obtain ⟨J2, hJ2⟩ : ∃ J2, J2 = ax_up (ax_up J 222 (20 * now + k) (nI x1)) 223 (20 * now + k) (nI y1) := ⟨_, rfl⟩
    have kk : ∀ i m, ¬ (222 ≤ i ∧ i ≤ 223 ∧ m = 20 * now + k) → J2 i m = J i m := fun i m z => by rw [hJ2, ax_up_ne (by omega), ax_up_ne (by omega)]
    rw [← hJ2]
    refine ih n (k + 1) J2 (by omega) (by omega) ⟨fun i m z => (kk _ _ (by omega)).trans (hF.1 i m z), fun i m z1 z2 z3 => (kk _ _ (by omega)).trans (hF.2 i m z1 z2 z3)⟩ (fun j t' hj hj' => ?_) (fun j t' hj hj' => ?_)
    · by_cases e : j = k
      · subst e
        rw [ht] at hj'
        rw [← Option.some.inj hj', eN]
        refine ⟨?_, ?_, ?_⟩
        · rw [hJ2, ax_up_ne (by omega), ax_up_self]
        · rw [hJ2, ax_up_self]
        · exact (kk _ _ (by omega)).trans q3
      · obtain ⟨r1, r2, r3⟩ := hA j t' (by omega) hj'
        exact ⟨(kk _ _ (by omega)).trans r1, (kk _ _ (by omega)).trans r2, (kk _ _ (by omega)).trans r3⟩
    · obtain ⟨r1, r2, r3⟩ := hB j t' (by omega) hj'
      exact ⟨(kk _ _ (by omega)).trans r1, (kk _ _ (by omega)).trans r2, (kk _ _ (by omega)).trans r3⟩
theorem M_turn (hR : mOk oS R) (hM : MR I now a b fw fh since st) (ha : okP a) (hb : okP b) (hs : since < 8) (x : Int32) : (x < 0 ∨ 7 < x → mAns (d_M_turn oS I R 210 x) 1 0 (fun J => MR J now a b fw fh since st)) ∧ (∀ v, v < 8 → x = nI v → mAns (d_M_turn oS I R 210 x) 0 (nI (tog since v)) (fun J => MR J now (turnP v a) b fw fh (tog since v) st)) := by
  refine ⟨fun z => ?_, fun v hv ex => ?_⟩
  · unfold d_M_turn
    rw [m_in_f z, ob, if_pos bF]
    unfold d_M_turn_16
    rw [ob, if_neg (up_le (by decide))]
    exact ⟨_, _, rfl, ax_up_self _ _ _ _, fun z => (by cases z), MR_c hM _⟩
  subst ex
  have nb : d_M_in oS I R (nI v) 0 7 = some true := m_in_t (lo := 0) (hi := 7) (nI_pos (by omega)) (nI_nlt (a := 7) (by omega) (by decide))
  have oT := okP_turn ha hv
  unfold d_M_turn
  rw [nb, ob, if_neg bT]
  unfold d_M_turn_16
  obtain ⟨M1, hM1⟩ : ∃ M1, M1 = ax_up I 210 0 0 := ⟨_, rfl⟩
  have hR1 : MR M1 now a b fw fh since st := by rw [hM1]; exact MR_c hM 0
  have c1 : M1 210 0 = 0 := by rw [hM1, ax_up_self]
  rw [ob, if_pos (up_ge (by decide)), ← hM1]
  clear hM1 hM
  have hR2 := hR1
  obtain ⟨hn, n3, ⟨⟨p1, p2, p3, p4⟩, pt, pn⟩, hb', n1, n2, n18, n22, nst⟩ := hR1
  obtain ⟨i1, i2, i3, i4⟩ := mx2 hR hn
  rw [mr_4 hR, ob, n3, i1, ob, mr_5 hR, ob, i2, ob, p1, p2]
  obtain ⟨J1, e1, F1, T1⟩ := m_turnT hR hR2 ha hv a.2.1.length 5000 0 M1 (by omega) (by have := ha.2.1.1; omega) ⟨fun _ _ _ => rfl, fun _ _ _ _ _ => rfl, fun _ _ => rfl⟩ (fun j t hj => by omega) (fun j t _ hj => pt j t hj)
  have e1 : d_M_turn_51 oS 5000 M1 R 210 (nI v) (nI a.1.1) (nI a.1.2) 0 = d_M_turn_305 oS 5000 J1 R 210 (nI v) (nI a.1.1) (nI a.1.2) (nI (20 * now)) := e1
  have N2 : ∀ j t, a.2.2[j]? = some t → MN J1 (20 * now + j) t := by
    intro j t hj
    obtain ⟨r1, r2, r3⟩ := pn j t hj
    exact ⟨(F1.1 _ _ (by omega)).trans r1, (F1.1 _ _ (by omega)).trans r2, (F1.1 _ _ (by omega)).trans r3⟩
  obtain ⟨J3, e2, F3, N3⟩ := m_turnN (I := J1) hR hn ((F1.1 _ _ (by omega)).trans n3) ((F1.1 _ _ (by omega)).trans n18) hs ((F1.1 _ _ (by omega)).trans p4) ha hv a.2.2.length 5000 0 J1 (by omega) (by have := ha.2.1.2; omega) ⟨fun _ _ _ => rfl, fun _ _ _ _ _ => rfl⟩ (fun j t hj => by omega) (fun j t _ hj => N2 j t hj)
  have e2 : d_M_turn_305 oS 5000 J1 R 210 (nI v) (nI a.1.1) (nI a.1.2) (nI (20 * now)) = _ := e2
  rw [e1, e2]
  obtain ⟨K, hK⟩ : ∃ K, K = ax_up (ax_up (ax_up (ax_up J3 211 now (if v % 2 = 1 then nI a.1.2 else nI a.1.1)) 212 now (if v % 2 = 1 then nI a.1.1 else nI a.1.2)) 210 18 (nI (tog since v))) 210 19 0 := ⟨_, rfl⟩
  rw [← hK]
  have k0 : ∀ i m, ¬ (i = 211 ∧ m = now) → ¬ (i = 212 ∧ m = now) → ¬ (i = 210 ∧ m = 18) → ¬ (i = 210 ∧ m = 19) → K i m = J3 i m := fun i m z1 z2 z3 z4 => by rw [hK, ax_up_ne z4, ax_up_ne z3, ax_up_ne z2, ax_up_ne z1]
  have k2 : ∀ i m, ¬ (i = 211 ∧ m = now) → ¬ (i = 212 ∧ m = now) → ¬ (i = 210 ∧ m = 18) → ¬ (i = 210 ∧ m = 19) → i < 222 ∨ 224 < i → K i m = J1 i m := fun i m z1 z2 z3 z4 z5 => (k0 i m z1 z2 z3 z4).trans (F3.1 i m z5)
  have k3 : ∀ i m, ¬ (i = 211 ∧ m = now) → ¬ (i = 212 ∧ m = now) → ¬ (i = 210 ∧ m = 18) → ¬ (i = 210 ∧ m = 19) → i < 215 ∨ 224 < i → K i m = M1 i m := fun i m z1 z2 z3 z4 z5 => (k2 i m z1 z2 z3 z4 (by omega)).trans (F1.1 i m (by omega))
  have w1 : K 211 now = nI (if v % 2 = 1 then a.1.2 else a.1.1) := by rw [hK, ax_up_ne (by omega), ax_up_ne (by omega), ax_up_ne (by omega), ax_up_self]; split <;> rfl
  have w2 : K 212 now = nI (if v % 2 = 1 then a.1.1 else a.1.2) := by rw [hK, ax_up_ne (by omega), ax_up_ne (by omega), ax_up_self]; split <;> rfl
  rw [turn_eq ha hv] at oT ⊢
  refine ⟨_, _, rfl, (k3 _ _ (by omega) (by omega) (by omega) (by omega) (by omega)).trans c1, fun _ => rfl, hn, (k3 _ _ (by omega) (by omega) (by omega) (by omega) (by omega)).trans n3, ⟨⟨w1, w2, ?_, ?_⟩, fun j t hj => ?_, fun j n hj => ?_⟩, MP_keep hb' hb (fun i z1 z2 => k3 _ _ (by omega) (by omega) (by omega) (by omega) (by omega)) (fun i m z1 z2 z3 z4 => ?_) (fun m z1 z2 => ?_) (fun i m z1 z2 z3 z4 => ?_), (k3 _ _ (by omega) (by omega) (by omega) (by omega) (by omega)).trans n1, (k3 _ _ (by omega) (by omega) (by omega) (by omega) (by omega)).trans n2, ?_, (k3 _ _ (by omega) (by omega) (by omega) (by omega) (by omega)).trans n22, fun j c hj => (k3 _ _ (by omega) (by omega) (by omega) (by omega) (by omega)).trans (nst j c hj)⟩
  · show K 213 now = nI (a.2.1.map _).length
    rw [List.length_map]
    exact (k3 _ _ (by omega) (by omega) (by omega) (by omega) (by omega)).trans p3
  · show K 214 now = nI (a.2.2.map _).length
    rw [List.length_map]
    exact (k3 _ _ (by omega) (by omega) (by omega) (by omega) (by omega)).trans p4
  · have hj' : (a.2.1.map (turnT v a.1.1 a.1.2))[j]? = some t := hj
    rw [List.getElem?_map] at hj'
    obtain ⟨t0, h0, rfl⟩ := Option.map_eq_some_iff.mp hj'
    exact MT_keep (T1 j t0 h0) (oT.2.2.1 _ (List.mem_of_getElem? hj)).2.2.2.1 (fun i z1 z2 => k2 _ _ (by omega) (by omega) (by omega) (by omega) (by omega)) (fun i z => k2 _ _ (by omega) (by omega) (by omega) (by omega) (by omega))
  · have hj' : (a.2.2.map (turnN v a.1.1 a.1.2))[j]? = some n := hj
    rw [List.getElem?_map] at hj'
    obtain ⟨t0, h0, rfl⟩ := Option.map_eq_some_iff.mp hj'
    obtain ⟨r1, r2, r3⟩ := N3 j t0 h0
    exact ⟨(k0 _ _ (by omega) (by omega) (by omega) (by omega)).trans r1, (k0 _ _ (by omega) (by omega) (by omega) (by omega)).trans r2, (k0 _ _ (by omega) (by omega) (by omega) (by omega)).trans r3⟩
  · exact (k2 _ _ (by omega) (by omega) (by omega) (by omega) (by omega)).trans (F1.2.1 i m z1 z2 (by omega))
  · exact (k2 _ _ (by omega) (by omega) (by omega) (by omega) (by omega)).trans (F1.2.2 m (by omega))
  · exact (k0 _ _ (by omega) (by omega) (by omega) (by omega)).trans ((F3.2 i m z1 z2 (by omega)).trans (F1.1 i m (by omega)))
  · rw [hK, ax_up_ne (by omega), ax_up_self]
end MTU
/-! the reference: join -/
/-- outside THIS one's tiles and their number nothing has changed -/
def fTq (now : Nat) (I J : ax_I) : Prop := (∀ i m, i < 215 ∨ 221 < i → ¬ (i = 213 ∧ m = now) → J i m = I i m) ∧ (∀ i m, 215 ≤ i → i ≤ 220 → ¬ (40 * now ≤ m ∧ m < 40 * now + 40) → J i m = I i m) ∧ ∀ m, ¬ (480 * now ≤ m ∧ m < 480 * now + 480) → J 221 m = I 221 m
def fNq (now : Nat) (I J : ax_I) : Prop := (∀ i m, i < 222 ∨ 224 < i → ¬ (i = 214 ∧ m = now) → J i m = I i m) ∧ ∀ i m, 222 ≤ i → i ≤ 224 → ¬ (20 * now ≤ m ∧ m < 20 * now + 20) → J i m = I i m
def smP (a b : Pc) (ac : Bool) : Nat := if ac then a.1.1 + b.1.1 else a.1.2 + b.1.2
def alP (a b : Pc) (ac : Bool) : Bool := if ac then decide (a.1.2 = b.1.2) else decide (a.1.1 = b.1.1)
def roP (a b : Pc) (ac : Bool) : Bool := decide (smP a b ac ≤ 400 ∧ a.2.1.length + b.2.1.length ≤ 40 ∧ a.2.2.length + b.2.2.length ≤ 20)
section MJ
variable {I : ax_I} {R : ax_R} {now fw fh since : Nat} {a b : Pc} {st : List Nat}
theorem m_joinT (hR : mOk oS R) (hM : MR I now a b fw fh since st) (ha : okP a) {X Y : Nat} (u2 u3 u4 u8 u9 : Int32) : ∀ (m n k : Nat) (J : ax_I), k + m = a.2.1.length → m < n → fTl now I J → (∀ j t, j < k → a.2.1[j]? = some t → MT J (40 * now + j) (moT X Y t)) → (∀ j t, k ≤ j → a.2.1[j]? = some t → MT J (40 * now + j) t) → ∃ J', d_M_join_284 oS n J R 210 u2 u3 u4 (nI X) (nI Y) u8 u9 (nI k) = d_M_join_345 oS 5000 J' R 210 u2 u3 u4 (nI X) (nI Y) u8 u9 (nI (20 * now)) ∧ fTl now I J' ∧ ∀ j t, a.2.1[j]? = some t → MT J' (40 * now + j) (moT X Y t) := by
  obtain ⟨hn, n3, ⟨⟨p1, p2, p3, p4⟩, pt, pn⟩, hb', -⟩ := hM
  obtain ⟨-, -, ix, -⟩ := mx2 hR hn
  have l40 := ha.2.1.1
  intro m
  induction m with
  | zero =>
    intro n k J hk hn' hF hA hB
    obtain ⟨n, rfl⟩ : ∃ n', n = n' + 1 := ⟨n - 1, by omega⟩
    have hk : k = a.2.1.length := by omega
    subst hk
    rw [d_M_join_284, mr_6 hR, ob, hF.1 210 3 (by omega), n3, ix, ob, hF.1 213 now (by omega), p3, if_pos (nI_le (Nat.le_refl _) (by omega)), show (20 : Int32) = nI 20 from rfl, nI_mul]
    exact ⟨J, rfl, hF, fun j t hj => hA j t (List.getElem?_eq_some_iff.mp hj).1 hj⟩
  | succ m ih =>
    intro n k J hk hn' hF hA hB
    obtain ⟨n, rfl⟩ : ∃ n', n = n' + 1 := ⟨n - 1, by omega⟩
    have hlt : k < a.2.1.length := by omega
    obtain ⟨t, ht⟩ : ∃ t, a.2.1[k]? = some t := ⟨_, List.getElem?_eq_getElem hlt⟩
    have hT' := hB k t (Nat.le_refl _) ht
    obtain ⟨⟨q1, q2, q3, q4, q5, q6⟩, -⟩ := hB k t (Nat.le_refl _) ht
    have e40 : (40 : Int32) * nI now + nI k = nI (40 * now + k) := by rw [show (40 : Int32) = nI 40 from rfl, nI_mul, nI_add]
    obtain ⟨⟨t1, t2, t3⟩, -⟩ := mxT hR (show 40 * now + k < 80 by omega) rfl
    have g3 := (hF.1 210 3 (by omega)).trans n3
    rw [d_M_join_284, mr_6 hR, ob, g3, ix, ob, hF.1 213 now (by omega), p3, if_neg (nI_ge hlt (by omega)), mr_8 hR, ob]
    unfold d_M_tileAt
    rw [ob, g3, e40, t1, ob, ob, ob, q1, nI_add, mr_9 hR, ob, ob, ax_up_ne (show ¬ (210 = 215 ∧ 3 = 40 * now + k) by omega), g3, e40, t2, ob, ob, ob, ax_up_ne (show ¬ (216 = 215 ∧ 40 * now + k = 40 * now + k) by omega), q2, nI_add, nI_1]
    obtain ⟨J2, hJ2⟩ : ∃ J2, J2 = ax_up (ax_up J 215 (40 * now + k) (nI (t.1.1 + X))) 216 (40 * now + k) (nI (t.1.2 + Y)) := ⟨_, rfl⟩
    have kk : ∀ i m, ¬ (215 ≤ i ∧ i ≤ 216 ∧ m = 40 * now + k) → J2 i m = J i m := fun i m z => by rw [hJ2, ax_up_ne (by omega), ax_up_ne (by omega)]
    rw [← hJ2]
    refine ih n (k + 1) J2 (by omega) (by omega) ⟨fun i m z => (kk _ _ (by omega)).trans (hF.1 i m z), fun i m z1 z2 z3 => (kk _ _ (by omega)).trans (hF.2.1 i m z1 z2 z3), fun m z => (kk _ _ (by omega)).trans (hF.2.2 m z)⟩ (fun j t' hj hj' => ?_) (fun j t' hj hj' => ?_)
    · by_cases e : j = k
      · subst e
        rw [ht] at hj'
        rw [← Option.some.inj hj', hJ2]
        exact MT_place hT' _ _
      · exact MT_keep (hA j t' (by omega) hj') (ha.2.2.1 t' (List.mem_of_getElem? hj')).2.2.2.1 (fun i z1 z2 => kk _ _ (by omega)) (fun i z => kk _ _ (by omega))
    · exact MT_keep (hB j t' (by omega) hj') (ha.2.2.1 t' (List.mem_of_getElem? hj')).2.2.2.1 (fun i z1 z2 => kk _ _ (by omega)) (fun i z => kk _ _ (by omega))
theorem m_joinN (hR : mOk oS R) (hn : now < 2) (n3 : I 210 3 = nI now) (p4 : I 214 now = nI a.2.2.length) (ha : okP a) {X Y : Nat} (u2 u3 u4 u8 u9 : Int32) : ∀ (m n k : Nat) (J : ax_I), k + m = a.2.2.length → m < n → fNo now I J → (∀ j t, j < k → a.2.2[j]? = some t → MN J (20 * now + j) (moN X Y t)) → (∀ j t, k ≤ j → a.2.2[j]? = some t → MN J (20 * now + j) t) → ∃ J', d_M_join_345 oS n J R 210 u2 u3 u4 (nI X) (nI Y) u8 u9 (nI (20 * now + k)) = d_M_join_400 oS 5000 J' R 210 u2 u3 u4 u8 u9 0 ∧ fNo now I J' ∧ ∀ j t, a.2.2[j]? = some t → MN J' (20 * now + j) (moN X Y t) := by
  obtain ⟨i1, i2, i3, i4⟩ := mx2 hR hn
  have l20 := ha.2.1.2
  have e20 : ∀ v, (20 : Int32) * nI now + nI v = nI (20 * now + v) := fun v => by rw [show (20 : Int32) = nI 20 from rfl, nI_mul, nI_add]
  intro m
  induction m with
  | zero =>
    intro n k J hk hn' hF hA hB
    obtain ⟨n, rfl⟩ : ∃ n', n = n' + 1 := ⟨n - 1, by omega⟩
    have hk : k = a.2.2.length := by omega
    subst hk
    have g3 := (hF.1 210 3 (by omega)).trans n3
    rw [d_M_join_345, mr_7 hR, ob, g3, i4, ob, hF.1 214 now (by omega), p4, e20, if_pos (nI_le (Nat.le_refl _) (by omega))]
    exact ⟨J, rfl, hF, fun j t hj => hA j t (List.getElem?_eq_some_iff.mp hj).1 hj⟩
  | succ m ih =>
    intro n k J hk hn' hF hA hB
    obtain ⟨n, rfl⟩ : ∃ n', n = n' + 1 := ⟨n - 1, by omega⟩
    have hlt : k < a.2.2.length := by omega
    obtain ⟨t, ht⟩ : ∃ t, a.2.2[k]? = some t := ⟨_, List.getElem?_eq_getElem hlt⟩
    obtain ⟨q1, q2, q3⟩ := hB k t (Nat.le_refl _) ht
    obtain ⟨t1, t2, t3⟩ := mxN hR (show 20 * now + k < 40 by omega) rfl
    have g3 := (hF.1 210 3 (by omega)).trans n3
    rw [d_M_join_345, mr_7 hR, ob, g3, i4, ob, hF.1 214 now (by omega), p4, e20, if_neg (nI_ge (by omega) (by omega)), mr_15 hR, ob, t1, ob, ob, ob, q1, nI_add, mr_16 hR, ob, t2, ob, ob, ob, ax_up_ne (show ¬ (223 = 222 ∧ 20 * now + k = 20 * now + k) by omega), q2, nI_add, nI_1]
    obtain ⟨J2, hJ2⟩ : ∃ J2, J2 = ax_up (ax_up J 222 (20 * now + k) (nI (t.1 + X))) 223 (20 * now + k) (nI (t.2.1 + Y)) := ⟨_, rfl⟩
    have kk : ∀ i m, ¬ (222 ≤ i ∧ i ≤ 223 ∧ m = 20 * now + k) → J2 i m = J i m := fun i m z => by rw [hJ2, ax_up_ne (by omega), ax_up_ne (by omega)]
    rw [← hJ2]
    refine ih n (k + 1) J2 (by omega) (by omega) ⟨fun i m z => (kk _ _ (by omega)).trans (hF.1 i m z), fun i m z1 z2 z3 => (kk _ _ (by omega)).trans (hF.2 i m z1 z2 z3)⟩ (fun j t' hj hj' => ?_) (fun j t' hj hj' => ?_)
    · by_cases e : j = k
      · subst e
        rw [ht] at hj'
        rw [← Option.some.inj hj']
        refine ⟨?_, ?_, ?_⟩
        · rw [hJ2, ax_up_ne (by omega), ax_up_self]; rfl
        · rw [hJ2, ax_up_self]; rfl
        · exact (kk _ _ (by omega)).trans q3
      · obtain ⟨r1, r2, r3⟩ := hA j t' (by omega) hj'
        exact ⟨(kk _ _ (by omega)).trans r1, (kk _ _ (by omega)).trans r2, (kk _ _ (by omega)).trans r3⟩
    · obtain ⟨r1, r2, r3⟩ := hB j t' (by omega) hj'
      exact ⟨(kk _ _ (by omega)).trans r1, (kk _ _ (by omega)).trans r2, (kk _ _ (by omega)).trans r3⟩
theorem m_joinB (hR : mOk oS R) (hn : now < 2) (n3 : I 210 3 = nI now) {Lb La : List Tl} (p3 : I 213 (1 - now) = nI Lb.length) (pt : ∀ j t, Lb[j]? = some t → MT I (40 * (1 - now) + j) t) (hlen : La.length + Lb.length ≤ 40) (ola : ∀ t ∈ La, t.2.2.2.length ≤ 12) (olb : ∀ t ∈ Lb, t.2.2.2.length ≤ 12) {X Y : Nat} (u3 u4 : Int32) : ∀ (m n k : Nat) (J : ax_I), k + m = Lb.length → m < n → fTq now I J → J 213 now = nI (La.length + k) → (∀ j t, (La ++ (Lb.take k).map (moT X Y))[j]? = some t → MT J (40 * now + j) t) → ∃ J', d_M_join_400 oS n J R 210 (nI (1 - now)) u3 u4 (nI X) (nI Y) (nI k) = d_M_join_485 oS 5000 J' R 210 (nI (1 - now)) u3 u4 (nI X) (nI Y) 0 ∧ fTq now I J' ∧ J' 213 now = nI (La.length + Lb.length) ∧ ∀ j t, (La ++ Lb.map (moT X Y))[j]? = some t → MT J' (40 * now + j) t := by
  obtain ⟨-, -, ix, -⟩ := mx2 hR hn
  obtain ⟨-, -, iy, -⟩ := mx2 hR (show 1 - now < 2 by omega)
  intro m
  induction m with
  | zero =>
    intro n k J hk hn' hF hN hA
    obtain ⟨n, rfl⟩ : ∃ n', n = n' + 1 := ⟨n - 1, by omega⟩
    have hk : k = Lb.length := by omega
    subst hk
    rw [List.take_length] at hA
    rw [d_M_join_400, mr_6 hR, ob, iy, ob, hF.1 213 (1 - now) (by omega) (by omega), p3, if_pos (nI_le (Nat.le_refl _) (by omega))]
    exact ⟨J, rfl, hF, hN, hA⟩
  | succ m ih =>
    intro n k J hk hn' hF hN hA
    obtain ⟨n, rfl⟩ : ∃ n', n = n' + 1 := ⟨n - 1, by omega⟩
    have hlt : k < Lb.length := by omega
    obtain ⟨t, ht⟩ : ∃ t, Lb[k]? = some t := ⟨_, List.getElem?_eq_getElem hlt⟩
    have hbl := olb t (List.mem_of_getElem? ht)
    have g3 := (hF.1 210 3 (by omega) (by omega)).trans n3
    have e40 : (40 : Int32) * nI now + nI (La.length + k) = nI (40 * now + (La.length + k)) := by rw [show (40 : Int32) = nI 40 from rfl, nI_mul, nI_add]
    have f40 : (40 : Int32) * nI (1 - now) + nI k = nI (40 * (1 - now) + k) := by rw [show (40 : Int32) = nI 40 from rfl, nI_mul, nI_add]
    have hg : 40 * now + (La.length + k) < 80 := by omega
    obtain ⟨⟨t1, t2, t3⟩, -⟩ := mxT hR hg rfl
    have hT : MT J (40 * (1 - now) + k) t := MT_keep (pt k t ht) hbl (fun i z1 z2 => hF.2.1 _ _ z1 z2 (by omega)) (fun i z => hF.2.2 _ (by omega))
    obtain ⟨J1, f1, m1, m2, m3⟩ := m_move hR J (show 40 * (1 - now) + k < 80 by omega) hg
    have hT1 : MT J1 (40 * now + (La.length + k)) t := MT_moved hT hbl m1 m2
    obtain ⟨⟨q1, q2, -⟩, -⟩ := hT1
    rw [d_M_join_400, mr_6 hR, ob, iy, ob, hF.1 213 (1 - now) (by omega) (by omega), p3, if_neg (nI_ge hlt (by omega)), ob, g3, ix, ob, hN]
    unfold d_M_tileAt
    rw [ob, g3, e40, f40, f1, ob, mr_8 hR, ob, t1, ob, ob, ob, q1, nI_add, mr_9 hR, ob, t2, ob, ob, ob, ax_up_ne (show ¬ (216 = 215 ∧ 40 * now + (La.length + k) = 40 * now + (La.length + k)) by omega), q2, nI_add]
    obtain ⟨J2, hJ2⟩ : ∃ J2, J2 = ax_up (ax_up J1 215 (40 * now + (La.length + k)) (nI (t.1.1 + X))) 216 (40 * now + (La.length + k)) (nI (t.1.2 + Y)) := ⟨_, rfl⟩
    rw [← hJ2]
    have k2 : ∀ i m, ¬ (215 ≤ i ∧ i ≤ 220 ∧ m = 40 * now + (La.length + k)) → ¬ (i = 221 ∧ 12 * (40 * now + (La.length + k)) ≤ m ∧ m < 12 * (40 * now + (La.length + k)) + 12) → J2 i m = J i m := fun i m z1 z2 => by rw [hJ2, ax_up_ne (by omega), ax_up_ne (by omega)]; exact m3 i m z1 z2
    have g32 : J2 210 3 = nI now := (k2 _ _ (by omega) (by omega)).trans g3
    have gN : J2 213 now = nI (La.length + k) := (k2 _ _ (by omega) (by omega)).trans hN
    have hT2 : MT J2 (40 * now + (La.length + k)) (moT X Y t) := by
      rw [hJ2]
      exact MT_place (MT_moved hT hbl m1 m2) _ _
    rw [ob, g32, ix, ob, ob, ob, gN, nI_1, nI_1]
    have hJ3 : ∀ i m, i ≠ 213 → ax_up J2 213 now (nI (La.length + k + 1)) i m = J2 i m := fun i m z => ax_up_ne (by omega)
    refine ih n (k + 1) _ (by omega) (by omega) ⟨fun i m z1 z2 => ?_, fun i m z1 z2 z3 => (hJ3 _ _ (by omega)).trans ((k2 _ _ (by omega) (by omega)).trans (hF.2.1 i m z1 z2 z3)), fun m z => (hJ3 _ _ (by omega)).trans ((k2 _ _ (by omega) (by omega)).trans (hF.2.2 m z))⟩ (ax_up_self _ _ _ _) (fun j t' hj => ?_)
    · rw [ax_up_ne z2]
      exact (k2 _ _ (by omega) (by omega)).trans (hF.1 i m z1 z2)
    · rw [take_succ_f ht, List.map_append, ← List.append_assoc] at hj
      have el : (La ++ (Lb.take k).map (moT X Y)).length = La.length + k := by rw [List.length_append, List.length_map, List.length_take]; omega
      refine MT_up (by omega) ?_
      by_cases hjl : j < La.length + k
      · rw [List.getElem?_append_left (by omega)] at hj
        have hbl' : t'.2.2.2.length ≤ 12 := by
          rcases List.mem_append.mp (List.mem_of_getElem? hj) with z | z
          · exact ola t' z
          · obtain ⟨t0, h0, rfl⟩ := List.mem_map.mp z
            exact olb t0 (List.mem_of_mem_take h0)
        exact MT_keep (hA j t' hj) hbl' (fun i z1 z2 => k2 _ _ (by omega) (by omega)) (fun i z => k2 _ _ (by omega) (by omega))
      · rw [List.getElem?_append_right (by omega), el] at hj
        have hzz : j - (La.length + k) < 1 := by
          have := (List.getElem?_eq_some_iff.mp hj).1
          simpa using this
        have hj2 : j = La.length + k := by omega
        subst hj2
        simp at hj
        subst hj
        exact hT2
theorem m_joinE (hR : mOk oS R) (hn : now < 2) {J : ax_I} (n3 : J 210 3 = nI now) {W H sm L : Nat} (p1 : J 211 now = nI W) (p2 : J 212 now = nI H) (p3 : J 213 now = nI L) (ac : Bool) : (R 210 6).bind (fun u234 => (ax_ix oS u234 (nI (1 - now))).bind fun j238 => (some (ax_up J u234 j238 0)).bind fun I240 => (R 210 7).bind fun u242 => (ax_ix oS u242 (nI (1 - now))).bind fun j246 => (some (ax_up I240 u242 j246 0)).bind fun I248 => (R 210 4).bind fun u250 => if ax_b ac = 0 then (R 210 4).bind fun u255 => (ax_ix oS u255 (I248 210 3)).bind fun j259 => d_M_join_611 oS I248 R 210 (ax_b ac) (nI sm) (I248 u255 j259) (I248 210 3) u250 else d_M_join_611 oS I248 R 210 (ax_b ac) (nI sm) (nI sm) (I248 210 3) u250) = some (nI L, ax_up (ax_up (ax_up (ax_up (ax_up (ax_up J 213 (1 - now) 0) 214 (1 - now) 0) 211 now (nI (if ac then sm else W))) 212 now (nI (if ac then H else sm))) 210 18 0) 210 19 0) := by
  obtain ⟨i1, i2, i3, i4⟩ := mx2 hR hn
  obtain ⟨j1, j2, j3, j4⟩ := mx2 hR (show 1 - now < 2 by omega)
  obtain ⟨K, hK⟩ : ∃ K, K = ax_up (ax_up J 213 (1 - now) 0) 214 (1 - now) 0 := ⟨_, rfl⟩
  have k3 : K 210 3 = nI now := by rw [hK, ax_up_ne (by omega), ax_up_ne (by omega)]; exact n3
  have k1 : K 211 now = nI W := by rw [hK, ax_up_ne (by omega), ax_up_ne (by omega)]; exact p1
  have k2 : K 212 now = nI H := by rw [hK, ax_up_ne (by omega), ax_up_ne (by omega)]; exact p2
  have kL : K 213 now = nI L := by rw [hK, ax_up_ne (by omega), ax_up_ne (by omega)]; exact p3
  rw [mr_6 hR, ob, j3, ob, ob, mr_7 hR, ob, j4, ob, ob, ← hK, mr_4 hR, ob, k3]
  cases ac with
  | false =>
    rw [if_pos bF, ob, i1, ob, k1]
    unfold d_M_join_611
    rw [i1, ob, ob, mr_5 hR, ob, if_pos bF, ax_up_ne (show ¬ (210 = 211 ∧ 3 = now) by omega), k3]
    unfold d_M_join_638
    rw [i2, ob, ob, ob, ob, mr_6 hR, ob, ax_up_ne (show ¬ (210 = 210 ∧ 3 = 19) by omega), ax_up_ne (show ¬ (210 = 210 ∧ 3 = 18) by omega), ax_up_ne (show ¬ (210 = 212 ∧ 3 = now) by omega), ax_up_ne (show ¬ (210 = 211 ∧ 3 = now) by omega), k3, i3, ob, ax_up_ne (show ¬ (213 = 210 ∧ now = 19) by omega), ax_up_ne (show ¬ (213 = 210 ∧ now = 18) by omega), ax_up_ne (show ¬ (213 = 212 ∧ now = now) by omega), ax_up_ne (show ¬ (213 = 211 ∧ now = now) by omega), kL]
    rfl
  | true =>
    rw [if_neg bT]
    unfold d_M_join_611
    rw [i1, ob, ob, mr_5 hR, ob, if_neg bT, ob, ax_up_ne (show ¬ (210 = 211 ∧ 3 = now) by omega), k3, i2, ob, ax_up_ne (show ¬ (212 = 211 ∧ now = now) by omega), k2]
    unfold d_M_join_638
    rw [i2, ob, ob, ob, ob, mr_6 hR, ob, ax_up_ne (show ¬ (210 = 210 ∧ 3 = 19) by omega), ax_up_ne (show ¬ (210 = 210 ∧ 3 = 18) by omega), ax_up_ne (show ¬ (210 = 212 ∧ 3 = now) by omega), ax_up_ne (show ¬ (210 = 211 ∧ 3 = now) by omega), k3, i3, ob, ax_up_ne (show ¬ (213 = 210 ∧ now = 19) by omega), ax_up_ne (show ¬ (213 = 210 ∧ now = 18) by omega), ax_up_ne (show ¬ (213 = 212 ∧ now = now) by omega), ax_up_ne (show ¬ (213 = 211 ∧ now = now) by omega), kL]
    rfl
theorem m_joinC (hR : mOk oS R) (hn : now < 2) (n3 : I 210 3 = nI now) {W H sm L : Nat} (p1 : I 211 now = nI W) (p2 : I 212 now = nI H) (p3 : I 213 now = nI L) {Lb La : List Nt} (p4 : I 214 (1 - now) = nI Lb.length) (pn : ∀ j t, Lb[j]? = some t → MN I (20 * (1 - now) + j) t) (hlen : La.length + Lb.length ≤ 20) (ac : Bool) {X Y : Nat} : ∀ (m n k : Nat) (J : ax_I), k + m = Lb.length → m < n → fNq now I J → J 214 now = nI (La.length + k) → (∀ j t, (La ++ (Lb.take k).map (moN X Y))[j]? = some t → MN J (20 * now + j) t) → ∃ J', d_M_join_485 oS n J R 210 (nI (1 - now)) (ax_b ac) (nI sm) (nI X) (nI Y) (nI k) = some (nI L, ax_up (ax_up (ax_up (ax_up (ax_up (ax_up J' 213 (1 - now) 0) 214 (1 - now) 0) 211 now (nI (if ac then sm else W))) 212 now (nI (if ac then H else sm))) 210 18 0) 210 19 0) ∧ fNq now I J' ∧ J' 214 now = nI (La.length + Lb.length) ∧ ∀ j t, (La ++ Lb.map (moN X Y))[j]? = some t → MN J' (20 * now + j) t := by
  obtain ⟨-, -, -, ix⟩ := mx2 hR hn
  obtain ⟨-, -, -, iy⟩ := mx2 hR (show 1 - now < 2 by omega)
  intro m
  induction m with
  | zero =>
    intro n k J hk hn' hF hN hA
    obtain ⟨n, rfl⟩ : ∃ n', n = n' + 1 := ⟨n - 1, by omega⟩
    have hk : k = Lb.length := by omega
    subst hk
    rw [List.take_length] at hA
    rw [d_M_join_485, mr_7 hR, ob, iy, ob, hF.1 214 (1 - now) (by omega) (by omega), p4, if_pos (nI_le (Nat.le_refl _) (by omega)), ← mr_7 hR]
    exact ⟨J, m_joinE hR hn ((hF.1 210 3 (by omega) (by omega)).trans n3) ((hF.1 211 now (by omega) (by omega)).trans p1) ((hF.1 212 now (by omega) (by omega)).trans p2) ((hF.1 213 now (by omega) (by omega)).trans p3) ac, hF, hN, hA⟩
  | succ m ih =>
    intro n k J hk hn' hF hN hA
    obtain ⟨n, rfl⟩ : ∃ n', n = n' + 1 := ⟨n - 1, by omega⟩
    have hlt : k < Lb.length := by omega
    obtain ⟨t, ht⟩ : ∃ t, Lb[k]? = some t := ⟨_, List.getElem?_eq_getElem hlt⟩
    have g3 := (hF.1 210 3 (by omega) (by omega)).trans n3
    have e20 : (20 : Int32) * nI now + nI (La.length + k) = nI (20 * now + (La.length + k)) := by rw [show (20 : Int32) = nI 20 from rfl, nI_mul, nI_add]
    have f20 : (20 : Int32) * nI (1 - now) + nI k = nI (20 * (1 - now) + k) := by rw [show (20 : Int32) = nI 20 from rfl, nI_mul, nI_add]
    have hg : 20 * now + (La.length + k) < 40 := by omega
    obtain ⟨t1, t2, t3⟩ := mxN hR hg rfl
    obtain ⟨r1, r2, r3⟩ := pn k t ht
    obtain ⟨J1, f1, m1, m3⟩ := m_moveN hR J (show 20 * (1 - now) + k < 40 by omega) hg
    have q1 : J1 222 (20 * now + (La.length + k)) = nI t.1 := (m1 _ (by omega) (by omega)).trans ((hF.2 _ _ (by omega) (by omega) (by omega)).trans r1)
    have q2 : J1 223 (20 * now + (La.length + k)) = nI t.2.1 := (m1 _ (by omega) (by omega)).trans ((hF.2 _ _ (by omega) (by omega) (by omega)).trans r2)
    have q3 : J1 224 (20 * now + (La.length + k)) = nI t.2.2 := (m1 _ (by omega) (by omega)).trans ((hF.2 _ _ (by omega) (by omega) (by omega)).trans r3)
    rw [d_M_join_485, mr_7 hR, ob, iy, ob, hF.1 214 (1 - now) (by omega) (by omega), p4, if_neg (nI_ge hlt (by omega)), ob, g3, ix, ob, hN, e20, f20, f1, ob, mr_15 hR, ob, t1, ob, ob, ob, q1, nI_add, mr_16 hR, ob, t2, ob, ob, ob, ax_up_ne (show ¬ (223 = 222 ∧ 20 * now + (La.length + k) = 20 * now + (La.length + k)) by omega), q2, nI_add]
    obtain ⟨J2, hJ2⟩ : ∃ J2, J2 = ax_up (ax_up J1 222 (20 * now + (La.length + k)) (nI (t.1 + X))) 223 (20 * now + (La.length + k)) (nI (t.2.1 + Y)) := ⟨_, rfl⟩
    rw [← hJ2]
    have k2 : ∀ i m, ¬ (222 ≤ i ∧ i ≤ 224 ∧ m = 20 * now + (La.length + k)) → J2 i m = J i m := fun i m z1 => by rw [hJ2, ax_up_ne (by omega), ax_up_ne (by omega)]; exact m3 i m z1
    have g32 : J2 210 3 = nI now := (k2 _ _ (by omega)).trans g3
    have gN : J2 214 now = nI (La.length + k) := (k2 _ _ (by omega)).trans hN
    rw [ob, g32, ix, ob, ob, ob, gN, nI_1, nI_1]
    have hJ3 : ∀ i m, i ≠ 214 → ax_up J2 214 now (nI (La.length + k + 1)) i m = J2 i m := fun i m z => ax_up_ne (by omega)
    refine ih n (k + 1) _ (by omega) (by omega) ⟨fun i m z1 z2 => ?_, fun i m z1 z2 z3 => (hJ3 _ _ (by omega)).trans ((k2 _ _ (by omega)).trans (hF.2 i m z1 z2 z3))⟩ (ax_up_self _ _ _ _) (fun j t' hj => ?_)
    · rw [ax_up_ne z2]
      exact (k2 _ _ (by omega)).trans (hF.1 i m z1 z2)
    · rw [take_succ_f ht, List.map_append, ← List.append_assoc] at hj
      have el : (La ++ (Lb.take k).map (moN X Y)).length = La.length + k := by rw [List.length_append, List.length_map, List.length_take]; omega
      refine MN_up (by omega) ?_
      by_cases hjl : j < La.length + k
      · rw [List.getElem?_append_left (by omega)] at hj
        obtain ⟨r1, r2, r3⟩ := hA j t' hj
        exact ⟨(k2 _ _ (by omega)).trans r1, (k2 _ _ (by omega)).trans r2, (k2 _ _ (by omega)).trans r3⟩
      · rw [List.getElem?_append_right (by omega), el] at hj
        have hzz : j - (La.length + k) < 1 := by
          have := (List.getElem?_eq_some_iff.mp hj).1
          simpa using this
        have hj2 : j = La.length + k := by omega
        subst hj2
        simp at hj
        subst hj
        refine ⟨?_, ?_, ?_⟩
        · rw [hJ2, ax_up_ne (by omega), ax_up_self]; rfl
        · rw [hJ2, ax_up_self]; rfl
        · rw [hJ2, ax_up_ne (by omega), ax_up_ne (by omega)]; exact q3
end MJ
/-! the reference: join, whole -/
section MJ2
variable {I : ax_I} {R : ax_R} {now fw fh since : Nat} {a b : Pc} {st : List Nat}
theorem mj_21 (hR : mOk oS R) (hM : MR I now a b fw fh since st) (ha : okP a) (hb : okP b) (x : Int32) (ac : Bool) : d_M_join_21 oS I R 210 x (nI (1 - now)) (ax_b ac) = d_M_join_116 oS I R 210 x (nI (1 - now)) (ax_b ac) (nI (smP a b ac)) (ax_b (alP a b ac)) := by
  obtain ⟨hn, n3, ⟨⟨p1, p2, p3, p4⟩, -⟩, ⟨⟨b1, b2, b3, b4⟩, -⟩, -⟩ := hM
  obtain ⟨i1, i2, i3, i4⟩ := mx2 hR hn
  obtain ⟨j1, j2, j3, j4⟩ := mx2 hR (show 1 - now < 2 by omega)
  have oa := ha.1
  have ob' := hb.1
  unfold d_M_join_21 d_M_join_61
  cases ac with
  | false =>
    rw [if_pos bF, mr_5 hR, ob, n3, i2, ob, ob, j2, ob, p2, b2, nI_add, if_pos bF, mr_4 hR, ob, i1, ob, ob, j1, ob, p1, b1]
    by_cases z : a.1.1 = b.1.1
    · rw [if_pos (by rw [z]), show alP a b false = true from decide_eq_true z]
      rfl
    · rw [if_neg (fun y => z ((nI_eq (by omega) (by omega)).mp y)), show alP a b false = false from decide_eq_false z]
      rfl
  | true =>
    rw [if_neg bT, mr_4 hR, ob, n3, i1, ob, ob, j1, ob, p1, b1, nI_add, if_neg bT, mr_5 hR, ob, i2, ob, ob, j2, ob, p2, b2]
    by_cases z : a.1.2 = b.1.2
    · rw [if_pos (by rw [z]), show alP a b true = true from decide_eq_true z]
      rfl
    · rw [if_neg (fun y => z ((nI_eq (by omega) (by omega)).mp y)), show alP a b true = false from decide_eq_false z]
      rfl
theorem mj_196x (u1 u2 u3 u4 : Int32) {c : Int32} (hc : ¬ c ≤ 0) : d_M_join_196 oS I R 210 u1 u2 u3 u4 c 210 = some (0, ax_up I 210 0 c) := by
  unfold d_M_join_196
  rw [ob, if_neg (up_le hc)]
theorem mj_116 (hR : mOk oS R) (hM : MR I now a b fw fh since st) (ha : okP a) (hb : okP b) {s : Nat} (hs : s < 4) (ac B : Bool) : (B = false → d_M_join_116 oS I R 210 (nI s) (nI (1 - now)) (ax_b ac) (nI (smP a b ac)) (ax_b B) = some (0, ax_up I 210 0 2)) ∧ (B = true → (roP a b ac = false → d_M_join_116 oS I R 210 (nI s) (nI (1 - now)) (ax_b ac) (nI (smP a b ac)) (ax_b B) = some (0, ax_up I 210 0 3)) ∧ (roP a b ac = true → d_M_join_116 oS I R 210 (nI s) (nI (1 - now)) (ax_b ac) (nI (smP a b ac)) (ax_b B) = d_M_join_196 oS I R 210 (nI s) (nI (1 - now)) (ax_b ac) (nI (smP a b ac)) 0 210)) := by
  obtain ⟨hn, n3, ⟨⟨p1, p2, p3, p4⟩, -⟩, ⟨⟨b1, b2, b3, b4⟩, -⟩, -⟩ := hM
  obtain ⟨i1, i2, i3, i4⟩ := mx2 hR hn
  obtain ⟨j1, j2, j3, j4⟩ := mx2 hR (show 1 - now < 2 by omega)
  have oa := ha.1
  have ob' := hb.1
  have la := ha.2.1
  have lb := hb.2.1
  have hsm : smP a b ac ≤ 800 := by unfold smP; split <;> omega
  have nb : d_M_in oS I R (nI s) 0 3 = some true := m_in_t (lo := 0) (hi := 3) (nI_pos (by omega)) (nI_nlt (a := 3) (by omega) (by decide))
  unfold d_M_join_116 d_M_join_191
  rw [nb, ob, if_neg bT]
  refine ⟨fun e => ?_, fun e => ?_⟩
  · rw [e, if_pos bF]
    exact mj_196x _ _ _ _ (by decide)
  rw [e, if_neg bT]
  by_cases z1 : 400 < smP a b ac
  · rw [if_pos (show (400 : Int32) < nI (smP a b ac) from nI_lt (a := 400) z1 (by omega))]
    refine ⟨fun _ => mj_196x _ _ _ _ (by decide), fun z => ?_⟩
    have := of_decide_eq_true z
    omega
  rw [if_neg (show ¬ (400 : Int32) < nI (smP a b ac) from nI_nlt (b := smP a b ac) (a := 400) (by omega) (by decide)), mr_6 hR, ob, n3, i3, ob, ob, j3, ob, p3, b3, nI_add]
  by_cases z2 : 40 < a.2.1.length + b.2.1.length
  · rw [if_pos (show (40 : Int32) < nI (a.2.1.length + b.2.1.length) from nI_lt (a := 40) z2 (by omega))]
    refine ⟨fun _ => mj_196x _ _ _ _ (by decide), fun z => ?_⟩
    have := of_decide_eq_true z
    omega
  rw [if_neg (show ¬ (40 : Int32) < nI (a.2.1.length + b.2.1.length) from nI_nlt (b := a.2.1.length + b.2.1.length) (a := 40) (by omega) (by decide)), mr_7 hR, ob, i4, ob, ob, j4, ob, p4, b4, nI_add]
  by_cases z3 : a.2.2.length + b.2.2.length ≤ 20
  · rw [if_pos (show nI (a.2.2.length + b.2.2.length) ≤ (20 : Int32) from nI_le (b := 20) z3 (by decide))]
    refine ⟨fun z => ?_, fun _ => rfl⟩
    have := of_decide_eq_false z
    omega
  · rw [if_neg (show ¬ nI (a.2.2.length + b.2.2.length) ≤ (20 : Int32) from nI_ge (a := 20) (by omega) (by omega))]
    refine ⟨fun _ => mj_196x _ _ _ _ (by decide), fun z => ?_⟩
    have := of_decide_eq_true z
    omega
theorem mj_196 (hR : mOk oS R) (hM : MR I now a b fw fh since st) {s : Nat} (hs : s < 4) (u3 u4 : Int32) : d_M_join_196 oS I R 210 (nI s) (nI (1 - now)) u3 u4 0 210 = d_M_join_284 oS 5000 (ax_up I 210 0 0) R 210 (nI (1 - now)) u3 u4 (nI (if s = 0 then b.1.1 else 0)) (nI (if s = 1 then b.1.2 else 0)) (nI (if s = 2 then a.1.1 else 0)) (nI (if s = 3 then a.1.2 else 0)) 0 := by
  unfold d_M_join_196
  rw [ob, if_pos (up_ge (by decide))]
  have hM1 := MR_c hM 0
  obtain ⟨M1, e1⟩ : ∃ M1, M1 = ax_up I 210 0 0 := ⟨_, rfl⟩
  rw [← e1] at hM1 ⊢
  obtain ⟨hn, n3, ⟨⟨p1, p2, p3, p4⟩, -⟩, ⟨⟨b1, b2, b3, b4⟩, -⟩, -⟩ := hM1
  obtain ⟨i1, i2, i3, i4⟩ := mx2 hR hn
  obtain ⟨j1, j2, j3, j4⟩ := mx2 hR (show 1 - now < 2 by omega)
  have hs' : s = 0 ∨ s = 1 ∨ s = 2 ∨ s = 3 := by omega
  rcases hs' with rfl | rfl | rfl | rfl
  · rw [if_pos (show nI 0 = 0 from rfl), mr_4 hR, ob, j1, ob, b1]
    unfold d_M_join_222
    rw [if_neg (show ¬ nI 0 = 1 by decide)]
    unfold d_M_join_239
    rw [if_neg (show ¬ nI 0 = 2 by decide)]
    unfold d_M_join_259
    rw [if_neg (show ¬ nI 0 = 3 by decide)]
    rfl
  · rw [if_neg (show ¬ nI 1 = 0 by decide)]
    unfold d_M_join_222
    rw [if_pos (show nI 1 = 1 from rfl), mr_5 hR, ob, j2, ob, b2]
    unfold d_M_join_239
    rw [if_neg (show ¬ nI 1 = 2 by decide)]
    unfold d_M_join_259
    rw [if_neg (show ¬ nI 1 = 3 by decide)]
    rfl
  · rw [if_neg (show ¬ nI 2 = 0 by decide)]
    unfold d_M_join_222
    rw [if_neg (show ¬ nI 2 = 1 by decide)]
    unfold d_M_join_239
    rw [if_pos (show nI 2 = 2 from rfl), mr_4 hR, ob, n3, i1, ob, p1]
    unfold d_M_join_259
    rw [if_neg (show ¬ nI 2 = 3 by decide)]
    rfl
  · rw [if_neg (show ¬ nI 3 = 0 by decide)]
    unfold d_M_join_222
    rw [if_neg (show ¬ nI 3 = 1 by decide)]
    unfold d_M_join_239
    rw [if_neg (show ¬ nI 3 = 2 by decide)]
    unfold d_M_join_259
    rw [if_pos (show nI 3 = 3 from rfl), mr_5 hR, ob, n3, i2, ob, p2]
    rfl
theorem m_joinD (hR : mOk oS R) (hM : MR I now a b fw fh since st) (ha : okP a) (hb : okP b) (c0 : I 210 0 = 0) {s : Nat} (ac : Bool) (hac : ac = decide (s % 2 = 0)) (h3 : a.2.1.length + b.2.1.length ≤ 40) (h4 : a.2.2.length + b.2.2.length ≤ 20) : mAns (d_M_join_284 oS 5000 I R 210 (nI (1 - now)) (ax_b ac) (nI (smP a b ac)) (nI (if s = 0 then b.1.1 else 0)) (nI (if s = 1 then b.1.2 else 0)) (nI (if s = 2 then a.1.1 else 0)) (nI (if s = 3 then a.1.2 else 0)) 0) 0 (nI (a.2.1.length + b.2.1.length)) (fun J => MR J now (joinP a b s) (emP b) fw fh 0 st) := by
  have hR1 := hM
  obtain ⟨hn, n3, ⟨⟨p1, p2, p3, p4⟩, pt, pn⟩, ⟨⟨b1, b2, b3, b4⟩, bt, bn⟩, n1, n2, n18, n22, nst⟩ := hM
  unfold joinP
  obtain ⟨X, hX⟩ : ∃ X, X = (if s = 0 then b.1.1 else 0) := ⟨_, rfl⟩
  obtain ⟨Y, hY⟩ : ∃ Y, Y = (if s = 1 then b.1.2 else 0) := ⟨_, rfl⟩
  obtain ⟨U, hU⟩ : ∃ U, U = (if s = 2 then a.1.1 else 0) := ⟨_, rfl⟩
  obtain ⟨V, hV⟩ : ∃ V, V = (if s = 3 then a.1.2 else 0) := ⟨_, rfl⟩
  rw [← hX, ← hY, ← hU, ← hV]
  clear hX hY hU hV
  obtain ⟨J1, e1, F1, T1⟩ := m_joinT (X := X) (Y := Y) hR hR1 ha (nI (1 - now)) (ax_b ac) (nI (smP a b ac)) (nI U) (nI V) a.2.1.length 5000 0 I (by omega) (by omega) ⟨fun _ _ _ => rfl, fun _ _ _ _ _ => rfl, fun _ _ => rfl⟩ (fun j t hj => by omega) (fun j t _ hj => pt j t hj)
  have e1 : d_M_join_284 oS 5000 I R 210 (nI (1 - now)) (ax_b ac) (nI (smP a b ac)) (nI X) (nI Y) (nI U) (nI V) 0 = d_M_join_345 oS 5000 J1 R 210 (nI (1 - now)) (ax_b ac) (nI (smP a b ac)) (nI X) (nI Y) (nI U) (nI V) (nI (20 * now)) := e1
  have N1 : ∀ j t, a.2.2[j]? = some t → MN J1 (20 * now + j) t := by
    intro j t hj
    obtain ⟨r1, r2, r3⟩ := pn j t hj
    exact ⟨(F1.1 _ _ (by omega)).trans r1, (F1.1 _ _ (by omega)).trans r2, (F1.1 _ _ (by omega)).trans r3⟩
  obtain ⟨J2, e2, F2, N2⟩ := m_joinN (I := J1) (X := X) (Y := Y) hR hn ((F1.1 _ _ (by omega)).trans n3) ((F1.1 _ _ (by omega)).trans p4) ha (nI (1 - now)) (ax_b ac) (nI (smP a b ac)) (nI U) (nI V) a.2.2.length 5000 0 J1 (by omega) (by omega) ⟨fun _ _ _ => rfl, fun _ _ _ _ _ => rfl⟩ (fun j t hj => by omega) (fun j t _ hj => N1 j t hj)
  have e2 : d_M_join_345 oS 5000 J1 R 210 (nI (1 - now)) (ax_b ac) (nI (smP a b ac)) (nI X) (nI Y) (nI U) (nI V) (nI (20 * now)) = d_M_join_400 oS 5000 J2 R 210 (nI (1 - now)) (ax_b ac) (nI (smP a b ac)) (nI U) (nI V) 0 := e2
  have f2 : ∀ i m, i < 215 ∨ 224 < i → J2 i m = I i m := fun i m z => (F2.1 i m (by omega)).trans (F1.1 i m (by omega))
  have oLa : ∀ t ∈ a.2.1.map (moT X Y), t.2.2.2.length ≤ 12 := by
    intro t ht
    obtain ⟨t0, h0, rfl⟩ := List.mem_map.mp ht
    exact (ha.2.2.1 t0 h0).2.2.2.1
  have oLb : ∀ t ∈ b.2.1, t.2.2.2.length ≤ 12 := fun t ht => (hb.2.2.1 t ht).2.2.2.1
  have T2 : ∀ j t, (a.2.1.map (moT X Y))[j]? = some t → MT J2 (40 * now + j) t := by
    intro j t hj
    have hl := oLa t (List.mem_of_getElem? hj)
    rw [List.getElem?_map] at hj
    obtain ⟨t0, h0, rfl⟩ := Option.map_eq_some_iff.mp hj
    exact MT_keep (T1 j t0 h0) hl (fun i z1 z2 => F2.1 _ _ (by omega)) (fun i z => F2.1 _ _ (by omega))
  have B2 : ∀ j t, b.2.1[j]? = some t → MT J2 (40 * (1 - now) + j) t := by
    intro j t hj
    have hl := oLb t (List.mem_of_getElem? hj)
    have hjl : j < b.2.1.length := (List.getElem?_eq_some_iff.mp hj).1
    exact MT_keep (bt j t hj) hl (fun i z1 z2 => (F2.1 _ _ (by omega)).trans (F1.2.1 _ _ z1 z2 (by omega))) (fun i z => (F2.1 _ _ (by omega)).trans (F1.2.2 _ (by omega)))
  have lT : (a.2.1.map (moT X Y)).length = a.2.1.length := List.length_map _
  have lN : (a.2.2.map (moN X Y)).length = a.2.2.length := List.length_map _
  obtain ⟨J3, e3, F3, L3, T3⟩ := m_joinB (I := J2) (X := U) (Y := V) (La := a.2.1.map (moT X Y)) (Lb := b.2.1) hR hn ((f2 _ _ (by omega)).trans n3) ((f2 _ _ (by omega)).trans b3) B2 (by omega) oLa oLb (ax_b ac) (nI (smP a b ac)) b.2.1.length 5000 0 J2 (by omega) (by omega) ⟨fun _ _ _ _ => rfl, fun _ _ _ _ _ => rfl, fun _ _ => rfl⟩ (by rw [lT]; exact (f2 _ _ (by omega)).trans p3) (fun j t hj => T2 j t (by simpa using hj))
  have e3 : d_M_join_400 oS 5000 J2 R 210 (nI (1 - now)) (ax_b ac) (nI (smP a b ac)) (nI U) (nI V) 0 = d_M_join_485 oS 5000 J3 R 210 (nI (1 - now)) (ax_b ac) (nI (smP a b ac)) (nI U) (nI V) 0 := e3
  have f3 : ∀ i m, i < 215 ∨ 224 < i → ¬ (i = 213 ∧ m = now) → J3 i m = I i m := fun i m z z' => (F3.1 i m (by omega) z').trans (f2 i m z)
  have N3 : ∀ j t, (a.2.2.map (moN X Y))[j]? = some t → MN J3 (20 * now + j) t := by
    intro j t hj
    rw [List.getElem?_map] at hj
    obtain ⟨t0, h0, rfl⟩ := Option.map_eq_some_iff.mp hj
    obtain ⟨r1, r2, r3⟩ := N2 j t0 h0
    exact ⟨(F3.1 _ _ (by omega) (by omega)).trans r1, (F3.1 _ _ (by omega) (by omega)).trans r2, (F3.1 _ _ (by omega) (by omega)).trans r3⟩
  have C3 : ∀ j t, b.2.2[j]? = some t → MN J3 (20 * (1 - now) + j) t := by
    intro j t hj
    have hjl : j < b.2.2.length := (List.getElem?_eq_some_iff.mp hj).1
    obtain ⟨r1, r2, r3⟩ := bn j t hj
    have g : ∀ i, 222 ≤ i → i ≤ 224 → J3 i (20 * (1 - now) + j) = I i (20 * (1 - now) + j) := fun i z1 z2 => (F3.1 _ _ (by omega) (by omega)).trans ((F2.2 _ _ z1 z2 (by omega)).trans (F1.1 _ _ (by omega)))
    exact ⟨(g _ (by omega) (by omega)).trans r1, (g _ (by omega) (by omega)).trans r2, (g _ (by omega) (by omega)).trans r3⟩
  rw [lT] at L3
  obtain ⟨J4, e4, F4, L4, N4⟩ := m_joinC (I := J3) (X := U) (Y := V) (La := a.2.2.map (moN X Y)) (Lb := b.2.2) (W := a.1.1) (H := a.1.2) (sm := smP a b ac) (L := a.2.1.length + b.2.1.length) hR hn ((f3 _ _ (by omega) (by omega)).trans n3) ((f3 _ _ (by omega) (by omega)).trans p1) ((f3 _ _ (by omega) (by omega)).trans p2) L3 ((f3 _ _ (by omega) (by omega)).trans b4) C3 (by omega) ac b.2.2.length 5000 0 J3 (by omega) (by omega) ⟨fun _ _ _ _ => rfl, fun _ _ _ _ _ => rfl⟩ (by rw [lN]; exact (f3 _ _ (by omega) (by omega)).trans p4) (fun j t hj => N3 j t (by simpa using hj))
  have e4 : d_M_join_485 oS 5000 J3 R 210 (nI (1 - now)) (ax_b ac) (nI (smP a b ac)) (nI U) (nI V) 0 = _ := e4
  rw [e1, e2, e3, e4]
  obtain ⟨K, hK⟩ : ∃ K, K = ax_up (ax_up (ax_up (ax_up (ax_up (ax_up J4 213 (1 - now) 0) 214 (1 - now) 0) 211 now (nI (if ac then smP a b ac else a.1.1))) 212 now (nI (if ac then a.1.2 else smP a b ac))) 210 18 0) 210 19 0 := ⟨_, rfl⟩
  rw [← hK]
  have k4 : ∀ i m, ¬ (i = 213 ∧ m = 1 - now) → ¬ (i = 214 ∧ m = 1 - now) → ¬ (i = 211 ∧ m = now) → ¬ (i = 212 ∧ m = now) → ¬ (i = 210 ∧ m = 18) → ¬ (i = 210 ∧ m = 19) → K i m = J4 i m := fun i m z1 z2 z3 z4 z5 z6 => by rw [hK, ax_up_ne z6, ax_up_ne z5, ax_up_ne z4, ax_up_ne z3, ax_up_ne z2, ax_up_ne z1]
  have k3 : ∀ i m, ¬ (i = 213 ∧ m = 1 - now) → ¬ (i = 214 ∧ m = 1 - now) → ¬ (i = 211 ∧ m = now) → ¬ (i = 212 ∧ m = now) → ¬ (i = 210 ∧ m = 18) → ¬ (i = 210 ∧ m = 19) → i < 222 ∨ 224 < i → ¬ (i = 214 ∧ m = now) → K i m = J3 i m := fun i m z1 z2 z3 z4 z5 z6 z7 z8 => (k4 i m z1 z2 z3 z4 z5 z6).trans (F4.1 i m z7 z8)
  have k0 : ∀ i m, ¬ (i = 213 ∧ m = 1 - now) → ¬ (i = 214 ∧ m = 1 - now) → ¬ (i = 211 ∧ m = now) → ¬ (i = 212 ∧ m = now) → ¬ (i = 210 ∧ m = 18) → ¬ (i = 210 ∧ m = 19) → i < 215 ∨ 224 < i → ¬ (i = 214 ∧ m = now) → ¬ (i = 213 ∧ m = now) → K i m = I i m := fun i m z1 z2 z3 z4 z5 z6 z7 z8 z9 => (k3 i m z1 z2 z3 z4 z5 z6 (by omega) z8).trans (f3 i m (by omega) z9)
  have q : ∀ i m, (i = 210 ∧ m ≠ 18 ∧ m ≠ 19) ∨ ((i = 211 ∨ i = 212) ∧ m = 1 - now) ∨ i = 226 → K i m = I i m := fun i m z => k0 i m (by omega) (by omega) (by omega) (by omega) (by omega) (by omega) (by omega) (by omega) (by omega)
  have w1 : K 211 now = nI (if s % 2 = 0 then a.1.1 + b.1.1 else a.1.1) := by
    rw [hK, ax_up_ne (by omega), ax_up_ne (by omega), ax_up_ne (by omega), ax_up_self]
    by_cases z : s % 2 = 0
    · rw [hac, decide_eq_true z, if_pos z]; rfl
    · rw [hac, decide_eq_false z, if_neg z]; rfl
  have w2 : K 212 now = nI (if s % 2 = 0 then a.1.2 else a.1.2 + b.1.2) := by
    rw [hK, ax_up_ne (by omega), ax_up_ne (by omega), ax_up_self]
    by_cases z : s % 2 = 0
    · rw [hac, decide_eq_true z, if_pos z]; rfl
    · rw [hac, decide_eq_false z, if_neg z]; rfl
  refine ⟨_, _, rfl, (q _ _ (by omega)).trans c0, fun _ => rfl, hn, (q _ _ (by omega)).trans n3, ⟨⟨w1, w2, ?_, ?_⟩, fun j t hj => ?_, fun j n hj => ?_⟩, ⟨⟨(q _ _ (by omega)).trans b1, (q _ _ (by omega)).trans b2, ?_, ?_⟩, fun j t hj => (by simp [emP] at hj), fun j n hj => by simp [emP] at hj⟩, (q _ _ (by omega)).trans n1, (q _ _ (by omega)).trans n2, ?_, (q _ _ (by omega)).trans n22, fun j c hj => (q _ _ (by omega)).trans (nst j c hj)⟩
  · show K 213 now = nI (a.2.1.map (moT X Y) ++ b.2.1.map (moT U V)).length
    rw [List.length_append, lT, List.length_map]
    exact (k3 _ _ (by omega) (by omega) (by omega) (by omega) (by omega) (by omega) (by omega) (by omega)).trans L3
  · show K 214 now = nI (a.2.2.map (moN X Y) ++ b.2.2.map (moN U V)).length
    rw [List.length_append, lN, List.length_map]
    rw [lN] at L4
    exact (k4 _ _ (by omega) (by omega) (by omega) (by omega) (by omega) (by omega)).trans L4
  · have hj' : (a.2.1.map (moT X Y) ++ b.2.1.map (moT U V))[j]? = some t := hj
    have hl : t.2.2.2.length ≤ 12 := by
      rcases List.mem_append.mp (List.mem_of_getElem? hj') with z | z
      · exact oLa t z
      · obtain ⟨t0, h0, rfl⟩ := List.mem_map.mp z
        exact oLb t0 h0
    exact MT_keep (T3 j t hj') hl (fun i z1 z2 => k3 _ _ (by omega) (by omega) (by omega) (by omega) (by omega) (by omega) (by omega) (by omega)) (fun i z => k3 _ _ (by omega) (by omega) (by omega) (by omega) (by omega) (by omega) (by omega) (by omega))
  · have hj' : (a.2.2.map (moN X Y) ++ b.2.2.map (moN U V))[j]? = some n := hj
    obtain ⟨r1, r2, r3⟩ := N4 j n hj'
    exact ⟨(k4 _ _ (by omega) (by omega) (by omega) (by omega) (by omega) (by omega)).trans r1, (k4 _ _ (by omega) (by omega) (by omega) (by omega) (by omega) (by omega)).trans r2, (k4 _ _ (by omega) (by omega) (by omega) (by omega) (by omega) (by omega)).trans r3⟩
  · rw [hK, ax_up_ne (by omega), ax_up_ne (by omega), ax_up_ne (by omega), ax_up_ne (by omega), ax_up_ne (by omega), ax_up_self]; rfl
  · rw [hK, ax_up_ne (by omega), ax_up_ne (by omega), ax_up_ne (by omega), ax_up_ne (by omega), ax_up_self]; rfl
  · rw [hK, ax_up_ne (by omega), ax_up_self]; rfl
theorem M_join (hR : mOk oS R) (hM : MR I now a b fw fh since st) (ha : okP a) (hb : okP b) (x : Int32) : (x < 0 ∨ 3 < x → mAns (d_M_join oS I R 210 x) 1 0 (fun J => MR J now a b fw fh since st)) ∧ (∀ s, s < 4 → x = nI s → (alP a b (decide (s % 2 = 0)) = false → mAns (d_M_join oS I R 210 x) 2 0 (fun J => MR J now a b fw fh since st)) ∧ (alP a b (decide (s % 2 = 0)) = true → (roP a b (decide (s % 2 = 0)) = false → mAns (d_M_join oS I R 210 x) 3 0 (fun J => MR J now a b fw fh since st)) ∧ (roP a b (decide (s % 2 = 0)) = true → mAns (d_M_join oS I R 210 x) 0 (nI (a.2.1.length + b.2.1.length)) (fun J => MR J now (joinP a b s) (emP b) fw fh 0 st)))) := by
  have n3 := hM.2.1
  have hn := hM.1
  have sub : (1 : Int32) - nI now = nI (1 - now) := nI_sub (a := 1) (by omega)
  refine ⟨fun z => ?_, fun s hs ex => ?_⟩
  · have e0 : d_M_join_21 oS I R 210 x (nI (1 - now)) 0 = _ := mj_21 hR hM ha hb x false
    unfold d_M_join
    rw [if_neg (fun e => by rw [e] at z; exact absurd z (by decide)), if_neg (fun e => by rw [e] at z; exact absurd z (by decide)), n3, sub, e0]
    unfold d_M_join_116
    rw [m_in_f z, ob, if_pos bF, mj_196x _ _ _ _ (by decide)]
    exact ⟨_, _, rfl, ax_up_self _ _ _ _, fun z => (by cases z), MR_c hM _⟩
  subst ex
  have e : d_M_join oS I R 210 (nI s) = d_M_join_21 oS I R 210 (nI s) (nI (1 - now)) (ax_b (decide (s % 2 = 0))) := by
    unfold d_M_join d_M_join_16
    rw [n3, sub]
    have hs' : s = 0 ∨ s = 1 ∨ s = 2 ∨ s = 3 := by omega
    rcases hs' with rfl | rfl | rfl | rfl
    · rw [if_pos (show nI 0 = 0 from rfl)]; rfl
    · rw [if_neg (show ¬ nI 1 = 0 by decide), if_neg (show ¬ nI 1 = 2 by decide)]; rfl
    · rw [if_neg (show ¬ nI 2 = 0 by decide), if_pos (show nI 2 = 2 from rfl)]; rfl
    · rw [if_neg (show ¬ nI 3 = 0 by decide), if_neg (show ¬ nI 3 = 2 by decide)]; rfl
  rw [e, mj_21 hR hM ha hb]
  obtain ⟨g1, g2⟩ := mj_116 hR hM ha hb hs (decide (s % 2 = 0)) (alP a b (decide (s % 2 = 0)))
  refine ⟨fun z => ?_, fun z => ⟨fun z2 => ?_, fun z2 => ?_⟩⟩
  · rw [g1 z]
    exact ⟨_, _, rfl, ax_up_self _ _ _ _, fun z => (by cases z), MR_c hM _⟩
  · rw [(g2 z).1 z2]
    exact ⟨_, _, rfl, ax_up_self _ _ _ _, fun z => (by cases z), MR_c hM _⟩
  · have z3 := of_decide_eq_true z2
    rw [(g2 z).2 z2, mj_196 hR hM hs]
    exact m_joinD hR (MR_c hM 0) ha hb (ax_up_self _ _ _ _) _ rfl z3.2.1 z3.2.2
end MJ2
/-! the stream, as lists -/
def two (v : Nat) : List Nat := [v % 256, v / 256]
def bef (s t : Tl) : Bool := decide (s.1.2 < t.1.2 ∨ (s.1.2 = t.1.2 ∧ s.1.1 < t.1.1))
def psz (t : Tl) : Nat := 12 + t.2.2.2.length
def sumB (t : Tl) (l : List Tl) : Nat := (l.map (fun s => if bef s t then psz s else 0)).sum
def baP (p : Pc) : Nat := 8 + 2 * p.2.1.length + 5 * p.2.2.length
def ptrP (p : Pc) (t : Tl) : Nat := baP p + sumB t p.2.1
def totP (p : Pc) : Nat := baP p + (p.2.1.map psz).sum
def hd10 (t : Tl) : List Nat := two t.1.1 ++ two t.1.2 ++ two t.2.1.1 ++ two t.2.1.2 ++ [t.2.2.1] ++ [t.2.2.2.length] ++ t.2.2.2
def sumL (s : Nat) (l : List Nat) : Nat := l.foldl (fun s c => (31 * s + c) % 65521) s
def part (t : Tl) : List Nat := hd10 t ++ two (sumL 1 (hd10 t))
def hdP (p : Pc) : List Nat := [76] ++ [70] ++ two p.1.1 ++ two p.1.2 ++ [p.2.1.length] ++ p.2.1.flatMap (fun t => two (ptrP p t)) ++ [p.2.2.length] ++ p.2.2.flatMap (fun n => two n.1 ++ two n.2.1 ++ [n.2.2])
def wIn (p : Pc) (l : List Tl) (st : List Nat) : List Nat := l.foldl (fun st t => if ptrP p t = st.length then st ++ part t else st) st
def wOut (p : Pc) : Nat → List Nat → List Nat
  | 0, st => st
  | n + 1, st => wOut p n (wIn p p.2.1 st)
def wrP (p : Pc) : List Nat := wOut p p.2.1.length (hdP p)
theorem bef_self (t : Tl) : bef t t = false := decide_eq_false (by omega)
theorem sumB_le (t : Tl) (l : List Tl) : sumB t l ≤ (l.map psz).sum := by
  unfold sumB
  induction l with
  | nil => exact Nat.le_refl _
  | cons s l ih =>
    rw [List.map_cons, List.map_cons, List.sum_cons, List.sum_cons]
    have : (if bef s t then psz s else 0) ≤ psz s := by split <;> omega
    omega
theorem sumB_mem {t : Tl} {l : List Tl} (h : t ∈ l) : sumB t l + psz t ≤ (l.map psz).sum := by
  induction l with
  | nil => cases h
  | cons s l ih =>
    have e : sumB t (s :: l) = (if bef s t then psz s else 0) + sumB t l := by unfold sumB; rw [List.map_cons, List.sum_cons]
    rw [e, List.map_cons, List.sum_cons]
    rcases List.mem_cons.mp h with z | z
    · rw [← z, bef_self]
      have := sumB_le t l
      simp
      omega
    · have := ih z
      have : (if bef s t then psz s else 0) ≤ psz s := by split <;> omega
      omega
theorem ptr_le {p : Pc} {t : Tl} (h : t ∈ p.2.1) : ptrP p t + psz t ≤ totP p := by
  have := sumB_mem h
  unfold ptrP totP
  omega
theorem psz_sum {l : List Tl} (h : ∀ t ∈ l, t.2.2.2.length ≤ 12) : (l.map psz).sum ≤ 24 * l.length := by
  induction l with
  | nil => exact Nat.le_refl _
  | cons s l ih =>
    rw [List.map_cons, List.sum_cons, List.length_cons]
    have := ih (fun t ht => h t (List.mem_cons_of_mem _ ht))
    have := h s List.mem_cons_self
    unfold psz at *
    omega
theorem tot_le {p : Pc} (hp : okP p) : totP p ≤ 1148 := by
  have h1 := psz_sum (fun t ht => (hp.2.2.1 t ht).2.2.2.1)
  have h2 := hp.2.1
  unfold totP baP
  omega
theorem two_len (v : Nat) : (two v).length = 2 := rfl
theorem hd10_len (t : Tl) : (hd10 t).length = 10 + t.2.2.2.length := by
  unfold hd10
  simp [two]
  omega
theorem part_len (t : Tl) : (part t).length = psz t := by
  unfold part
  rw [List.length_append, hd10_len, two_len]
  unfold psz
  omega
theorem hd10_lt {W H : Nat} (hW : W ≤ 400) (hH : H ≤ 400) {t : Tl} (ht : okT W H t) : ∀ c ∈ hd10 t, c < 256 := by
  obtain ⟨⟨a1, a2, a3, a4⟩, ⟨b1, b2⟩, c1, c2, c3⟩ := ht
  intro c hc
  unfold hd10 two at hc
  simp at hc
  rcases hc with h | h | h | h | h | h | h | h | h | h | h
  all_goals first | exact c3 c h | omega
theorem hdP_len (p : Pc) : (hdP p).length = baP p := by
  have e1 : ∀ (l : List Tl), (l.flatMap (fun t => two (ptrP p t))).length = 2 * l.length := by
    intro l
    induction l with
    | nil => rfl
    | cons s l ih => rw [List.flatMap_cons, List.length_append, ih, two_len, List.length_cons]; omega
  have e2 : ∀ (l : List Nt), (l.flatMap (fun n => two n.1 ++ two n.2.1 ++ [n.2.2])).length = 5 * l.length := by
    intro l
    induction l with
    | nil => rfl
    | cons s l ih => rw [List.flatMap_cons, List.length_append, ih, List.length_cons]; simp [two]; omega
  unfold hdP baP
  simp only [List.length_append, e1, e2, two_len, List.length_cons, List.length_nil]
  omega
theorem sumL_lt {s : Nat} (l : List Nat) (hs : s < 65521) : sumL s l < 65521 := by
  unfold sumL
  induction l generalizing s with
  | nil => exact hs
  | cons c l ih => exact ih (Nat.mod_lt _ (by omega))
theorem wIn_le {p : Pc} (l : List Tl) (hl : ∀ t ∈ l, t ∈ p.2.1) (st : List Nat) (hs : st.length ≤ totP p) : (wIn p l st).length ≤ totP p := by
  unfold wIn
  induction l generalizing st with
  | nil => exact hs
  | cons t l ih =>
    refine ih (fun s hs => hl s (List.mem_cons_of_mem _ hs)) _ ?_
    show (if ptrP p t = st.length then st ++ part t else st).length ≤ totP p
    split
    · rename_i e
      rw [List.length_append, part_len, ← e]
      exact ptr_le (hl t List.mem_cons_self)
    · exact hs
theorem wOut_le {p : Pc} (n : Nat) (st : List Nat) (hs : st.length ≤ totP p) : (wOut p n st).length ≤ totP p := by
  induction n generalizing st with
  | zero => exact hs
  | succ n ih => exact ih _ (wIn_le _ (fun t ht => ht) _ hs)
theorem wr_le {p : Pc} (hp : okP p) : (wrP p).length ≤ 1148 := Nat.le_trans (wOut_le _ _ (by rw [hdP_len]; unfold totP; omega)) (tot_le hp)
/-! the reference: what it tells into its stream; pointers -/
section MW
variable {I : ax_I} {R : ax_R} {now fw fh since : Nat} {a b : Pc} {st : List Nat}
theorem mp_tell (hR : mOk oS R) (hM : MR I now a b fw fh since st) (hl : st.length < 1200) {x : Int32} (c : Nat) (hx : x = nI c) : ∃ J, d_M_tell oS I R 210 x = some J ∧ J 210 0 = I 210 0 ∧ MR J now a b fw fh since (st ++ [c]) := by
  subst hx
  obtain ⟨hn, n3, ha, hb, n1, n2, n18, n22, nst⟩ := hM
  unfold d_M_tell
  rw [mr_21 hR, ob, n22, mxS hR hl rfl, ob, ob, ob, ax_up_ne (show ¬ (210 = 226 ∧ 22 = st.length) by omega), n22, nI_1]
  have k : ∀ i m, i ≠ 226 → ¬ (i = 210 ∧ m = 22) → ax_up (ax_up I 226 st.length (nI c)) 210 22 (nI (st.length + 1)) i m = I i m := fun i m z1 z2 => by rw [ax_up_ne z2, ax_up_ne (by omega)]
  refine ⟨_, rfl, k _ _ (by omega) (by omega), hn, (k _ _ (by omega) (by omega)).trans n3, MP_up (by omega) (MP_up (by omega) ha), MP_up (by omega) (MP_up (by omega) hb), (k _ _ (by omega) (by omega)).trans n1, (k _ _ (by omega) (by omega)).trans n2, (k _ _ (by omega) (by omega)).trans n18, ?_, fun j d hj => ?_⟩
  · rw [ax_up_self, List.length_append]; rfl
  · rw [ax_up_ne (by omega)]
    by_cases e : j < st.length
    · rw [List.getElem?_append_left e] at hj
      rw [ax_up_ne (by omega)]
      exact nst j d hj
    · rw [List.getElem?_append_right (by omega)] at hj
      have hz : j - st.length < 1 := (List.getElem?_eq_some_iff.mp hj).1
      have hj2 : j = st.length := by omega
      subst hj2
      simp at hj
      subst hj
      rw [ax_up_self]
theorem mp_two (hR : mOk oS R) (hM : MR I now a b fw fh since st) (hl : st.length + 2 ≤ 1200) {x : Int32} {v : Nat} (hv : v < 2 ^ 31) (hx : x = nI v) : ∃ J, d_M_tellTwo oS I R 210 x = some J ∧ J 210 0 = I 210 0 ∧ MR J now a b fw fh since (st ++ two v) := by
  subst hx
  obtain ⟨J1, e1, c1, M1⟩ := mp_tell hR hM (by omega) (v % 256) (n_rem (d := 256) hv (by omega) (by omega))
  obtain ⟨J2, e2, c2, M2⟩ := mp_tell hR M1 (by rw [List.length_append]; show st.length + 1 < 1200; omega) (v / 256) (pk_div (d := 256) hv (by omega) (by omega))
  have e1 : d_M_tell oS I R 210 (nI v - nI v / 256 * 256) = some J1 := e1
  have e2 : d_M_tell oS J1 R 210 (nI v / 256) = some J2 := e2
  unfold d_M_tellTwo
  rw [e1, ob, e2, ob]
  refine ⟨J2, rfl, c2.trans c1, ?_⟩
  rw [List.append_assoc] at M2
  exact M2
theorem m_isBefore (hR : mOk oS R) {m1 m2 : Nat} (h1 : m1 < 80) (h2 : m2 < 80) {s t : Tl} (hs : MT I m1 s) (ht : MT I m2 t) (b1 : s.1.1 ≤ 400) (b2 : s.1.2 ≤ 400) (b3 : t.1.1 ≤ 400) (b4 : t.1.2 ≤ 400) : d_M_isBefore oS I R 210 (nI m1) (nI m2) = some (bef s t) := by
  obtain ⟨⟨x1, x2, -⟩, -⟩ := mxT hR h1 rfl
  obtain ⟨⟨y1, y2, -⟩, -⟩ := mxT hR h2 rfl
  obtain ⟨⟨q1, q2, -⟩, -⟩ := hs
  obtain ⟨⟨r1, r2, -⟩, -⟩ := ht
  unfold d_M_isBefore d_M_isBefore_45
  simp only [mr_8 hR, mr_9 hR, ob, x1, x2, y1, y2, q1, q2, r1, r2]
  unfold bef
  by_cases z1 : s.1.2 < t.1.2
  · rw [if_pos (nI_lt z1 (by omega)), decide_eq_true (Or.inl z1)]
  rw [if_neg (nI_nlt (by omega) (by omega))]
  by_cases z2 : s.1.2 = t.1.2
  · rw [if_pos (by rw [z2])]
    by_cases z3 : t.1.1 ≤ s.1.1
    · rw [if_pos (nI_le z3 (by omega)), decide_eq_false (by omega)]
    · rw [if_neg (nI_ge (by omega) (by omega)), decide_eq_true (by omega)]
  · rw [if_neg (fun y => z2 ((nI_eq (by omega) (by omega)).mp y)), decide_eq_false (by omega)]
theorem m_ptrL (hR : mOk oS R) (hM : MR I now a b fw fh since st) (ha : okP a) {k : Nat} {t : Tl} (hk : a.2.1[k]? = some t) : ∀ (m n j acc : Nat), j + m = a.2.1.length → m < n → d_M_pointerOf_29 oS n I R 210 (nI k) (nI acc) (nI j) = some (nI (acc + sumB t (a.2.1.drop j))) := by
  obtain ⟨hn, n3, ⟨⟨p1, p2, p3, p4⟩, pt, pn⟩, hb', -⟩ := hM
  obtain ⟨-, -, ix, -⟩ := mx2 hR hn
  have l40 := ha.2.1.1
  have hkl : k < a.2.1.length := (List.getElem?_eq_some_iff.mp hk).1
  have oW := ha.1
  intro m
  induction m with
  | zero =>
    intro n j acc hj hn'
    obtain ⟨n, rfl⟩ : ∃ n', n = n' + 1 := ⟨n - 1, by omega⟩
    have hj : j = a.2.1.length := by omega
    subst hj
    rw [d_M_pointerOf_29, mr_6 hR, ob, n3, ix, ob, p3, if_pos (nI_le (Nat.le_refl _) (by omega)), List.drop_length]
    rfl
  | succ m ih =>
    intro n j acc hj hn'
    obtain ⟨n, rfl⟩ : ∃ n', n = n' + 1 := ⟨n - 1, by omega⟩
    have hlt : j < a.2.1.length := by omega
    obtain ⟨s, hs⟩ : ∃ s, a.2.1[j]? = some s := ⟨_, List.getElem?_eq_getElem hlt⟩
    have ed : a.2.1.drop j = s :: a.2.1.drop (j + 1) := by rw [List.drop_eq_getElem_cons hlt]; congr 1; rw [List.getElem?_eq_getElem hlt] at hs; exact Option.some.inj hs
    obtain ⟨os, ⟨os1, os2⟩, -⟩ := ha.2.2.1 s (List.mem_of_getElem? hs)
    obtain ⟨ot, ⟨ot1, ot2⟩, -⟩ := ha.2.2.1 t (List.mem_of_getElem? hk)
    have e40 : ∀ v, (40 : Int32) * nI now + nI v = nI (40 * now + v) := fun v => by rw [show (40 : Int32) = nI 40 from rfl, nI_mul, nI_add]
    obtain ⟨-, -, -, t6⟩ := mxT hR (show 40 * now + j < 80 by omega) rfl
    have q6 := (pt j s hs).1.2.2.2.2.2
    have esum : sumB t (s :: a.2.1.drop (j + 1)) = (if bef s t then psz s else 0) + sumB t (a.2.1.drop (j + 1)) := by unfold sumB; rw [List.map_cons, List.sum_cons]
    rw [d_M_pointerOf_29, mr_6 hR, ob, n3, ix, ob, p3, if_neg (nI_ge hlt (by omega))]
    unfold d_M_tileAt
    rw [ob, ob, n3, e40, e40, m_isBefore hR (by omega) (by omega) (pt j s hs) (pt k t hk) (by omega) (by omega) (by omega) (by omega), ob, ed, esum]
    unfold d_M_pointerOf_77
    cases hbf : bef s t with
    | false =>
      have h0 : nI acc + 0 = nI acc := nI_add acc 0
      rw [if_pos bF, h0, nI_1, ih n (j + 1) acc (by omega) (by omega)]
      congr 2
      simp
    | true =>
      unfold d_M_partSize
      rw [if_neg bT, mr_13 hR, ob, ob, t6, ob, ob, q6, show (12 : Int32) = nI 12 from rfl, nI_add, nI_add, nI_1, ih n (j + 1) _ (by omega) (by omega)]
      congr 2
      unfold psz
      simp
      omega
theorem m_ptr (hR : mOk oS R) (hM : MR I now a b fw fh since st) (ha : okP a) {k : Nat} {t : Tl} (hk : a.2.1[k]? = some t) : d_M_pointerOf oS I R 210 (nI k) = some (nI (ptrP a t)) := by
  have hM' := hM
  obtain ⟨hn, n3, ⟨⟨p1, p2, p3, p4⟩, pt, pn⟩, hb', -⟩ := hM
  obtain ⟨-, -, i3, i4⟩ := mx2 hR hn
  unfold d_M_pointerOf
  rw [mr_6 hR, ob, n3, i3, ob, mr_7 hR, ob, i4, ob, p3, p4, show (8 : Int32) = nI 8 from rfl, show (2 : Int32) = nI 2 from rfl, show (5 : Int32) = nI 5 from rfl, nI_mul, nI_mul, nI_add, nI_add]
  exact m_ptrL hR hM' ha hk a.2.1.length 5000 0 _ (by omega) (by have := ha.2.1.1; omega)
theorem M_pointer (hR : mOk oS R) (hM : MR I now a b fw fh since st) (ha : okP a) (x : Int32) : (noIx a.2.1.length x → mAns (d_M_pointer oS I R 210 x) 1 0 (fun J => MR J now a b fw fh since st)) ∧ (∀ k t, a.2.1[k]? = some t → x = nI k → mAns (d_M_pointer oS I R 210 x) 0 (nI (ptrP a t)) (fun J => MR J now a b fw fh since st)) := by
  have l := ha.2.1.1
  obtain ⟨s1, s2⟩ := m_isTile hR hM ha x
  unfold d_M_pointer d_M_pointer_14
  refine ⟨fun z => ?_, fun k t hk hx => ?_⟩
  · rw [s1 z, ob, if_pos bF, ob, if_neg (up_le (by decide))]
    exact ⟨_, _, rfl, ax_up_self _ _ _ _, fun z => (by cases z), MR_c hM _⟩
  · have hlt : k < a.2.1.length := (List.getElem?_eq_some_iff.mp hk).1
    have nx : ¬ noIx a.2.1.length x := by
      rw [hx]
      rintro (z | z)
      · exact (idx_no (by omega) hlt).1 z
      · exact (idx_no (by omega) hlt).2 z
    rw [s2 nx, ob, if_neg bT, ob, if_pos (up_ge (by decide)), hx, m_ptr hR (MR_c hM 0) ha hk, ob]
    exact ⟨_, _, rfl, ax_up_self _ _ _ _, fun _ => rfl, MR_c hM _⟩
theorem m_part103 (hR : mOk oS R) (hM : MR I now a b fw fh since st) (hl : st.length + 2 ≤ 1200) : ∀ (m n k s : Nat), k + m = st.length → m < n → s < 65521 → (∀ c ∈ st.drop k, c < 256) → ∃ J, d_M_tellPart_103 oS n I R 210 (nI s) (nI k) = some J ∧ J 210 0 = I 210 0 ∧ MR J now a b fw fh since (st ++ two (sumL s (st.drop k))) := by
  have hM' := hM
  obtain ⟨hn, n3, -, -, n1, n2, n18, n22, nst⟩ := hM
  intro m
  induction m with
  | zero =>
    intro n k s hk hn' hs hc
    obtain ⟨n, rfl⟩ : ∃ n', n = n' + 1 := ⟨n - 1, by omega⟩
    have hk : k = st.length := by omega
    subst hk
    rw [d_M_tellPart_103, n22, if_pos (nI_le (Nat.le_refl _) (by omega)), List.drop_length]
    obtain ⟨J, e, c, M⟩ := mp_two hR hM' hl (v := s) (by omega) rfl
    rw [e, ob]
    exact ⟨J, rfl, c, M⟩
  | succ m ih =>
    intro n k s hk hn' hs hc
    obtain ⟨n, rfl⟩ : ∃ n', n = n' + 1 := ⟨n - 1, by omega⟩
    have hlt : k < st.length := by omega
    obtain ⟨c, hc'⟩ : ∃ c, st[k]? = some c := ⟨_, List.getElem?_eq_getElem hlt⟩
    have ed : st.drop k = c :: st.drop (k + 1) := by rw [List.drop_eq_getElem_cons hlt]; congr 1; rw [List.getElem?_eq_getElem hlt] at hc'; exact Option.some.inj hc'
    have c256 : c < 256 := hc c (by rw [ed]; exact List.mem_cons_self)
    have er : nI (31 * s + c) - nI (31 * s + c) / 65521 * 65521 = nI ((31 * s + c) % 65521) := n_rem (d := 65521) (by omega) (by omega) (by omega)
    rw [d_M_tellPart_103, n22, if_neg (nI_ge hlt (by omega)), mr_21 hR, ob, mxS hR (show k < 1200 by omega) rfl, ob, nst k c hc', show (31 : Int32) = nI 31 from rfl, nI_mul, nI_add, er, nI_1, ed]
    exact ih n (k + 1) _ (by omega) (by omega) (Nat.mod_lt _ (by omega)) (fun d hd => hc d (by rw [ed]; exact List.mem_cons_of_mem _ hd))
theorem m_part67 (hR : mOk oS R) (ha : okP a) {k : Nat} {t : Tl} (hk : a.2.1[k]? = some t) (u2 : Int32) : ∀ (m n i : Nat) (J : ax_I) (st : List Nat), i + m = t.2.2.2.length → m < n → MR J now a b fw fh since st → st.length + m + 2 ≤ 1200 → ∃ J', d_M_tellPart_67 oS n J R 210 (nI (40 * now + k)) u2 (nI i) = d_M_tellPart_103 oS 5000 J' R 210 1 u2 ∧ J' 210 0 = J 210 0 ∧ MR J' now a b fw fh since (st ++ t.2.2.2.drop i) := by
  have l40 := ha.2.1.1
  have hkl : k < a.2.1.length := (List.getElem?_eq_some_iff.mp hk).1
  have hbl := (ha.2.2.1 t (List.mem_of_getElem? hk)).2.2.2.1
  intro m
  induction m with
  | zero =>
    intro n i J st hi hn' hM hl
    obtain ⟨n, rfl⟩ : ∃ n', n = n' + 1 := ⟨n - 1, by omega⟩
    have hi : i = t.2.2.2.length := by omega
    subst hi
    have hM' := hM
    obtain ⟨hn, n3, ⟨-, pt, -⟩, -⟩ := hM
    obtain ⟨-, -, -, t6⟩ := mxT hR (show 40 * now + k < 80 by omega) rfl
    rw [d_M_tellPart_67, mr_13 hR, ob, t6, ob, (pt k t hk).1.2.2.2.2.2, if_pos (nI_le (Nat.le_refl _) (by omega)), List.drop_length, List.append_nil]
    exact ⟨J, rfl, rfl, hM'⟩
  | succ m ih =>
    intro n i J st hi hn' hM hl
    obtain ⟨n, rfl⟩ : ∃ n', n = n' + 1 := ⟨n - 1, by omega⟩
    have hlt : i < t.2.2.2.length := by omega
    obtain ⟨c, hc⟩ : ∃ c, t.2.2.2[i]? = some c := ⟨_, List.getElem?_eq_getElem hlt⟩
    have ed : t.2.2.2.drop i = c :: t.2.2.2.drop (i + 1) := by rw [List.drop_eq_getElem_cons hlt]; congr 1; rw [List.getElem?_eq_getElem hlt] at hc; exact Option.some.inj hc
    have hM' := hM
    obtain ⟨hn, n3, ⟨-, pt, -⟩, -⟩ := hM
    obtain ⟨-, -, -, t6⟩ := mxT hR (show 40 * now + k < 80 by omega) rfl
    have e12 : (12 : Int32) * nI (40 * now + k) + nI i = nI (12 * (40 * now + k) + i) := by rw [show (12 : Int32) = nI 12 from rfl, nI_mul, nI_add]
    obtain ⟨J1, e1, c1, M1⟩ := mp_tell hR hM' (by omega) c ((pt k t hk).2 i c hc)
    rw [d_M_tellPart_67, mr_13 hR, ob, t6, ob, (pt k t hk).1.2.2.2.2.2, if_neg (nI_ge hlt (by omega)), mr_14 hR, ob, mxB hR (show 12 * (40 * now + k) + i < 960 by omega) e12, ob, e1, ob, nI_1]
    obtain ⟨J2, e2, c2, M2⟩ := ih n (i + 1) J1 (st ++ [c]) (by omega) (by omega) M1 (by rw [List.length_append]; show st.length + 1 + m + 2 ≤ 1200; omega)
    refine ⟨J2, e2, c2.trans c1, ?_⟩
    rw [ed]
    rw [List.append_assoc] at M2
    exact M2
theorem m_tellPart (hR : mOk oS R) (hM : MR I now a b fw fh since st) (ha : okP a) {k : Nat} {t : Tl} (hk : a.2.1[k]? = some t) (hl : st.length + psz t ≤ 1200) : ∃ J, d_M_tellPart oS I R 210 (nI (40 * now + k)) = some J ∧ J 210 0 = I 210 0 ∧ MR J now a b fw fh since (st ++ part t) := by
  have l40 := ha.2.1.1
  have oW := ha.1
  have hkl : k < a.2.1.length := (List.getElem?_eq_some_iff.mp hk).1
  have ot := ha.2.2.1 t (List.mem_of_getElem? hk)
  have h10 := hd10_lt oW.2.1 oW.2.2.2 ot
  obtain ⟨⟨z1, z2, z3, z4⟩, ⟨z5, z6⟩, z7, z8, z9⟩ := ot
  have hps : psz t = 12 + t.2.2.2.length := rfl
  have hn := hM.1
  obtain ⟨⟨t1, t2, t3⟩, t4, t5, t6⟩ := mxT hR (show 40 * now + k < 80 by omega) rfl
  have n22 : I 210 22 = nI st.length := hM.2.2.2.2.2.2.2.1
  unfold d_M_tellPart
  rw [n22]
  obtain ⟨J1, e1, c1, M1⟩ := mp_two hR hM (by omega) (v := t.1.1) (by omega) (hM.2.2.1.2.1 k t hk).1.1
  rw [mr_8 hR, ob, t1, ob, e1, ob]
  obtain ⟨J2, e2, c2, M2⟩ := mp_two hR M1 (by simp only [List.length_append, two_len]; omega) (v := t.1.2) (by omega) (M1.2.2.1.2.1 k t hk).1.2.1
  rw [mr_9 hR, ob, t2, ob, e2, ob]
  obtain ⟨J3, e3, c3, M3⟩ := mp_two hR M2 (by simp only [List.length_append, two_len]; omega) (v := t.2.1.1) (by omega) (M2.2.2.1.2.1 k t hk).1.2.2.1
  rw [mr_10 hR, ob, t3, ob, e3, ob]
  obtain ⟨J4, e4, c4, M4⟩ := mp_two hR M3 (by simp only [List.length_append, two_len]; omega) (v := t.2.1.2) (by omega) (M3.2.2.1.2.1 k t hk).1.2.2.2.1
  rw [mr_11 hR, ob, t4, ob, e4, ob]
  obtain ⟨J5, e5, c5, M5⟩ := mp_tell hR M4 (by simp only [List.length_append, two_len]; omega) t.2.2.1 (M4.2.2.1.2.1 k t hk).1.2.2.2.2.1
  rw [mr_12 hR, ob, t5, ob, e5, ob]
  obtain ⟨J6, e6, c6, M6⟩ := mp_tell hR M5 (by simp only [List.length_append, two_len, List.length_cons, List.length_nil]; omega) t.2.2.2.length (M5.2.2.1.2.1 k t hk).1.2.2.2.2.2
  rw [mr_13 hR, ob, t6, ob, e6, ob]
  obtain ⟨J7, e7, c7, M7⟩ := m_part67 hR ha hk (nI st.length) t.2.2.2.length 5000 0 J6 _ (by omega) (by omega) M6 (by simp only [List.length_append, two_len, List.length_cons, List.length_nil]; omega)
  have e7 : d_M_tellPart_67 oS 5000 J6 R 210 (nI (40 * now + k)) (nI st.length) 0 = d_M_tellPart_103 oS 5000 J7 R 210 1 (nI st.length) := e7
  rw [e7]
  have eM : st ++ two t.1.1 ++ two t.1.2 ++ two t.2.1.1 ++ two t.2.1.2 ++ [t.2.2.1] ++ [t.2.2.2.length] ++ t.2.2.2.drop 0 = st ++ hd10 t := by
    unfold hd10
    simp only [List.append_assoc, List.drop_zero]
  rw [eM] at M7
  obtain ⟨J8, e8, c8, M8⟩ := m_part103 hR M7 (by rw [List.length_append, hd10_len]; omega) (hd10 t).length 5000 st.length 1 (by rw [List.length_append]) (by rw [hd10_len]; omega) (by omega) (by rw [List.drop_left]; exact h10)
  have e8 : d_M_tellPart_103 oS 5000 J7 R 210 1 (nI st.length) = some J8 := e8
  refine ⟨J8, e8, ?_, ?_⟩
  · rw [c8, c7, c6, c5, c4, c3, c2, c1]
  · rw [List.drop_left, List.append_assoc] at M8
    exact M8
end MW
/-! the reference: write, shown -/
section MW2
variable {I : ax_I} {R : ax_R} {now fw fh since : Nat} {a b : Pc} {st : List Nat}
theorem m_w186 (hR : mOk oS R) (ha : okP a) (f : ax_I → ax_R → Nat → Int32 → Option (Int32 × ax_I)) (x1 : Int32) : ∀ (m n k : Nat) (J : ax_I) (st : List Nat), k + m = a.2.1.length → m < n → MR J now a b fw fh since st → st.length ≤ totP a → ∃ J', d_M_write_186 oS f n J R 210 x1 (nI k) = f J' R 210 (x1 + 1) ∧ J' 210 0 = J 210 0 ∧ MR J' now a b fw fh since (wIn a (a.2.1.drop k) st) := by
  have l40 := ha.2.1.1
  have tl := tot_le ha
  intro m
  induction m with
  | zero =>
    intro n k J st hk hn' hM hl
    obtain ⟨n, rfl⟩ : ∃ n', n = n' + 1 := ⟨n - 1, by omega⟩
    have hk : k = a.2.1.length := by omega
    subst hk
    have hM' := hM
    obtain ⟨hn, n3, ⟨⟨p1, p2, p3, p4⟩, pt, pn⟩, -⟩ := hM
    obtain ⟨-, -, i3, i4⟩ := mx2 hR hn
    rw [d_M_write_186, mr_6 hR, ob, n3, i3, ob, p3, if_pos (nI_le (Nat.le_refl _) (by omega)), List.drop_length]
    exact ⟨J, rfl, rfl, hM'⟩
  | succ m ih =>
    intro n k J st hk hn' hM hl
    obtain ⟨n, rfl⟩ : ∃ n', n = n' + 1 := ⟨n - 1, by omega⟩
    have hlt : k < a.2.1.length := by omega
    obtain ⟨t, ht⟩ : ∃ t, a.2.1[k]? = some t := ⟨_, List.getElem?_eq_getElem hlt⟩
    have ed : a.2.1.drop k = t :: a.2.1.drop (k + 1) := by rw [List.drop_eq_getElem_cons hlt]; congr 1; rw [List.getElem?_eq_getElem hlt] at ht; exact Option.some.inj ht
    have hp := ptr_le (List.mem_of_getElem? ht)
    have hM' := hM
    obtain ⟨hn, n3, ⟨⟨p1, p2, p3, p4⟩, pt, pn⟩, hb', n1, n2, n18, n22, nst⟩ := hM
    obtain ⟨-, -, i3, i4⟩ := mx2 hR hn
    have e40 : (40 : Int32) * nI now + nI k = nI (40 * now + k) := by rw [show (40 : Int32) = nI 40 from rfl, nI_mul, nI_add]
    have ew : wIn a (t :: a.2.1.drop (k + 1)) st = wIn a (a.2.1.drop (k + 1)) (if ptrP a t = st.length then st ++ part t else st) := rfl
    rw [d_M_write_186, mr_6 hR, ob, n3, i3, ob, p3, if_neg (nI_ge hlt (by omega)), m_ptr hR hM' ha ht, ob, n22, ed, ew]
    by_cases z : ptrP a t = st.length
    · obtain ⟨J1, e1, c1, M1⟩ := m_tellPart hR hM' ha ht (by omega)
      rw [if_pos (by rw [z]), if_pos z]
      unfold d_M_tileAt d_M_write_220
      rw [ob, n3, e40, e1, ob, nI_1]
      obtain ⟨J2, e2, c2, M2⟩ := ih n (k + 1) J1 (st ++ part t) (by omega) (by omega) M1 (by rw [List.length_append, part_len]; omega)
      exact ⟨J2, e2, c2.trans c1, M2⟩
    · rw [if_neg (fun y => z ((nI_eq (by omega) (by omega)).mp y)), if_neg z]
      unfold d_M_write_220
      rw [nI_1]
      exact ih n (k + 1) J st (by omega) (by omega) hM' hl
theorem m_w171 (hR : mOk oS R) (ha : okP a) : ∀ (m n d : Nat) (J : ax_I) (st : List Nat), d + m = a.2.1.length → m < n → MR J now a b fw fh since st → st.length ≤ totP a → ∃ J', d_M_write_171 oS n J R 210 (nI d) = some (nI (wOut a m st).length, J') ∧ J' 210 0 = J 210 0 ∧ MR J' now a b fw fh since (wOut a m st) := by
  have l40 := ha.2.1.1
  intro m
  induction m with
  | zero =>
    intro n d J st hd hn' hM hl
    obtain ⟨n, rfl⟩ : ∃ n', n = n' + 1 := ⟨n - 1, by omega⟩
    have hd : d = a.2.1.length := by omega
    subst hd
    have hM' := hM
    obtain ⟨hn, n3, ⟨⟨p1, p2, p3, p4⟩, pt, pn⟩, hb', n1, n2, n18, n22, nst⟩ := hM
    obtain ⟨-, -, i3, i4⟩ := mx2 hR hn
    rw [d_M_write_171, mr_6 hR, ob, n3, i3, ob, p3, if_pos (nI_le (Nat.le_refl _) (by omega)), n22]
    exact ⟨J, rfl, rfl, hM'⟩
  | succ m ih =>
    intro n d J st hd hn' hM hl
    obtain ⟨n, rfl⟩ : ∃ n', n = n' + 1 := ⟨n - 1, by omega⟩
    have hM' := hM
    obtain ⟨hn, n3, ⟨⟨p1, p2, p3, p4⟩, pt, pn⟩, hb', n1, n2, n18, n22, nst⟩ := hM
    obtain ⟨-, -, i3, i4⟩ := mx2 hR hn
    obtain ⟨J1, e1, c1, M1⟩ := m_w186 hR ha (d_M_write_171 oS n) (nI d) a.2.1.length 5000 0 J st (by omega) (by omega) hM' hl
    have e1 : d_M_write_186 oS (d_M_write_171 oS n) 5000 J R 210 (nI d) 0 = _ := e1
    rw [d_M_write_171, mr_6 hR, ob, n3, i3, ob, p3, if_neg (nI_ge (by omega) (by omega)), e1, nI_1]
    obtain ⟨J2, e2, c2, M2⟩ := ih n (d + 1) J1 _ (by omega) (by omega) M1 (wIn_le _ (fun t ht => List.mem_of_mem_drop ht) _ hl)
    exact ⟨J2, e2, c2.trans c1, M2⟩
theorem m_w112 (hR : mOk oS R) (ha : okP a) : ∀ (m n k : Nat) (J : ax_I) (st : List Nat), k + m = a.2.2.length → m < n → MR J now a b fw fh since st → st.length + 5 * m ≤ 1200 → ∃ J', d_M_write_112 oS n J R 210 (nI (20 * now + k)) = d_M_write_171 oS 5000 J' R 210 0 ∧ J' 210 0 = J 210 0 ∧ MR J' now a b fw fh since (st ++ (a.2.2.drop k).flatMap (fun n => two n.1 ++ two n.2.1 ++ [n.2.2])) := by
  have l20 := ha.2.1.2
  have oW := ha.1
  intro m
  induction m with
  | zero =>
    intro n k J st hk hn' hM hl
    obtain ⟨n, rfl⟩ : ∃ n', n = n' + 1 := ⟨n - 1, by omega⟩
    have hk : k = a.2.2.length := by omega
    subst hk
    have hM' := hM
    obtain ⟨hn, n3, ⟨⟨p1, p2, p3, p4⟩, pt, pn⟩, hb', n1, n2, n18, n22, nst⟩ := hM
    obtain ⟨-, -, i3, i4⟩ := mx2 hR hn
    have e20 : ∀ v, (20 : Int32) * nI now + nI v = nI (20 * now + v) := fun v => by rw [show (20 : Int32) = nI 20 from rfl, nI_mul, nI_add]
    rw [d_M_write_112, mr_7 hR, ob, n3, i4, ob, p4, e20, if_pos (nI_le (Nat.le_refl _) (by omega)), List.drop_length, List.flatMap_nil, List.append_nil]
    exact ⟨J, rfl, rfl, hM'⟩
  | succ m ih =>
    intro n k J st hk hn' hM hl
    obtain ⟨n, rfl⟩ : ∃ n', n = n' + 1 := ⟨n - 1, by omega⟩
    have hlt : k < a.2.2.length := by omega
    obtain ⟨t, ht⟩ : ∃ t, a.2.2[k]? = some t := ⟨_, List.getElem?_eq_getElem hlt⟩
    have ed : a.2.2.drop k = t :: a.2.2.drop (k + 1) := by rw [List.drop_eq_getElem_cons hlt]; congr 1; rw [List.getElem?_eq_getElem hlt] at ht; exact Option.some.inj ht
    obtain ⟨o1, o2, o3⟩ := ha.2.2.2.1 t (List.mem_of_getElem? ht)
    have hM' := hM
    obtain ⟨hn, n3, ⟨⟨p1, p2, p3, p4⟩, pt, pn⟩, hb', n1, n2, n18, n22, nst⟩ := hM
    obtain ⟨-, -, i3, i4⟩ := mx2 hR hn
    have e20 : ∀ v, (20 : Int32) * nI now + nI v = nI (20 * now + v) := fun v => by rw [show (20 : Int32) = nI 20 from rfl, nI_mul, nI_add]
    obtain ⟨t1, t2, t3⟩ := mxN hR (show 20 * now + k < 40 by omega) rfl
    rw [d_M_write_112, mr_7 hR, ob, n3, i4, ob, p4, e20, if_neg (nI_ge (by omega) (by omega))]
    obtain ⟨J1, e1, c1, M1⟩ := mp_two hR hM' (by omega) (v := t.1) (by omega) (pn k t ht).1
    rw [mr_15 hR, ob, t1, ob, e1, ob]
    obtain ⟨J2, e2, c2, M2⟩ := mp_two hR M1 (by simp only [List.length_append, two_len]; omega) (v := t.2.1) (by omega) (M1.2.2.1.2.2 k t ht).2.1
    rw [mr_16 hR, ob, t2, ob, e2, ob]
    obtain ⟨J3, e3, c3, M3⟩ := mp_tell hR M2 (by simp only [List.length_append, two_len]; omega) t.2.2 (M2.2.2.1.2.2 k t ht).2.2
    rw [mr_17 hR, ob, t3, ob, e3, ob, nI_1]
    obtain ⟨J4, e4, c4, M4⟩ := ih n (k + 1) J3 _ (by omega) (by omega) M3 (by simp only [List.length_append, two_len, List.length_cons, List.length_nil]; omega)
    refine ⟨J4, e4, by rw [c4, c3, c2, c1], ?_⟩
    rw [ed, List.flatMap_cons]
    have eL : st ++ two t.1 ++ two t.2.1 ++ [t.2.2] ++ (a.2.2.drop (k + 1)).flatMap (fun n => two n.1 ++ two n.2.1 ++ [n.2.2]) = st ++ (two t.1 ++ two t.2.1 ++ [t.2.2] ++ (a.2.2.drop (k + 1)).flatMap (fun n => two n.1 ++ two n.2.1 ++ [n.2.2])) := by simp only [List.append_assoc]
    rw [← eL]
    exact M4
theorem m_w63 (hR : mOk oS R) (ha : okP a) : ∀ (m n k : Nat) (J : ax_I) (st : List Nat), k + m = a.2.1.length → m < n → MR J now a b fw fh since st → st.length + 2 * m + 1 ≤ 1200 → ∃ J', d_M_write_63 oS n J R 210 (nI k) = d_M_write_112 oS 5000 J' R 210 (nI (20 * now)) ∧ J' 210 0 = J 210 0 ∧ MR J' now a b fw fh since (st ++ (a.2.1.drop k).flatMap (fun t => two (ptrP a t)) ++ [a.2.2.length]) := by
  have l40 := ha.2.1.1
  have tl := tot_le ha
  intro m
  induction m with
  | zero =>
    intro n k J st hk hn' hM hl
    obtain ⟨n, rfl⟩ : ∃ n', n = n' + 1 := ⟨n - 1, by omega⟩
    have hk : k = a.2.1.length := by omega
    subst hk
    have hM' := hM
    obtain ⟨hn, n3, ⟨⟨p1, p2, p3, p4⟩, pt, pn⟩, hb', n1, n2, n18, n22, nst⟩ := hM
    obtain ⟨-, -, i3, i4⟩ := mx2 hR hn
    obtain ⟨J1, e1, c1, M1⟩ := mp_tell hR hM' (by omega) a.2.2.length p4
    rw [d_M_write_63, mr_6 hR, ob, n3, i3, ob, p3, if_pos (nI_le (Nat.le_refl _) (by omega)), mr_7 hR, ob, i4, ob, e1, ob, M1.2.1, show (20 : Int32) = nI 20 from rfl, nI_mul, List.drop_length, List.flatMap_nil, List.append_nil]
    exact ⟨J1, rfl, c1, M1⟩
  | succ m ih =>
    intro n k J st hk hn' hM hl
    obtain ⟨n, rfl⟩ : ∃ n', n = n' + 1 := ⟨n - 1, by omega⟩
    have hlt : k < a.2.1.length := by omega
    obtain ⟨t, ht⟩ : ∃ t, a.2.1[k]? = some t := ⟨_, List.getElem?_eq_getElem hlt⟩
    have ed : a.2.1.drop k = t :: a.2.1.drop (k + 1) := by rw [List.drop_eq_getElem_cons hlt]; congr 1; rw [List.getElem?_eq_getElem hlt] at ht; exact Option.some.inj ht
    have hp := ptr_le (List.mem_of_getElem? ht)
    have hM' := hM
    obtain ⟨hn, n3, ⟨⟨p1, p2, p3, p4⟩, pt, pn⟩, hb', n1, n2, n18, n22, nst⟩ := hM
    obtain ⟨-, -, i3, i4⟩ := mx2 hR hn
    obtain ⟨J1, e1, c1, M1⟩ := mp_two hR hM' (by omega) (v := ptrP a t) (by omega) rfl
    rw [d_M_write_63, mr_6 hR, ob, n3, i3, ob, p3, if_neg (nI_ge hlt (by omega)), m_ptr hR hM' ha ht, ob, e1, ob, nI_1]
    obtain ⟨J2, e2, c2, M2⟩ := ih n (k + 1) J1 _ (by omega) (by omega) M1 (by simp only [List.length_append, two_len]; omega)
    refine ⟨J2, e2, c2.trans c1, ?_⟩
    rw [ed, List.flatMap_cons, ← List.append_assoc st]
    exact M2
theorem M_write (hR : mOk oS R) (hM : MR I now a b fw fh since st) (ha : okP a) : mAns (d_M_write oS I R 210) 0 (nI (wrP a).length) (fun J => MR J now a b fw fh since (wrP a)) := by
  have l := ha.2.1
  have oW := ha.1
  have hM0 : MR (ax_up (ax_up I 210 0 0) 210 22 0) now a b fw fh since [] := by
    obtain ⟨hn, n3, h1, h2, n1, n2, n18, n22, nst⟩ := MR_c hM 0
    refine ⟨hn, ?_, MP_up (by omega) h1, MP_up (by omega) h2, ?_, ?_, ?_, ax_up_self _ _ _ _, fun j c hj => by cases hj⟩
    · rw [ax_up_ne (by omega)]; exact n3
    · rw [ax_up_ne (by omega)]; exact n1
    · rw [ax_up_ne (by omega)]; exact n2
    · rw [ax_up_ne (by omega)]; exact n18
  have c0 : ax_up (ax_up I 210 0 0) 210 22 0 210 0 = 0 := by rw [ax_up_ne (by omega), ax_up_self]
  have hn := hM.1
  obtain ⟨i1, i2, i3, i4⟩ := mx2 hR hn
  unfold d_M_write
  rw [ob, ob]
  obtain ⟨J1, e1, c1, M1⟩ := mp_tell hR hM0 (x := 76) (by show 0 < 1200; omega) 76 rfl
  rw [e1, ob]
  obtain ⟨J2, e2, c2, M2⟩ := mp_tell hR M1 (x := 70) (by show 1 < 1200; omega) 70 rfl
  rw [e2, ob]
  obtain ⟨J3, e3, c3, M3⟩ := mp_two hR M2 (by show 2 + 2 ≤ 1200; omega) (v := a.1.1) (by omega) M2.2.2.1.1.1
  rw [mr_4 hR, ob, M2.2.1, i1, ob, e3, ob]
  obtain ⟨J4, e4, c4, M4⟩ := mp_two hR M3 (by show 4 + 2 ≤ 1200; omega) (v := a.1.2) (by omega) M3.2.2.1.1.2.1
  rw [mr_5 hR, ob, M3.2.1, i2, ob, e4, ob]
  obtain ⟨J5, e5, c5, M5⟩ := mp_tell hR M4 (by show 6 < 1200; omega) a.2.1.length M4.2.2.1.1.2.2.1
  rw [mr_6 hR, ob, M4.2.1, i3, ob, e5, ob]
  obtain ⟨J6, e6, c6, M6⟩ := m_w63 hR ha a.2.1.length 5000 0 J5 _ (by omega) (by omega) M5 (by show 7 + 2 * a.2.1.length + 1 ≤ 1200; omega)
  have e6 : d_M_write_63 oS 5000 J5 R 210 0 = d_M_write_112 oS 5000 J6 R 210 (nI (20 * now)) := e6
  rw [List.drop_zero] at M6
  obtain ⟨J7, e7, c7, M7⟩ := m_w112 hR ha a.2.2.length 5000 0 J6 _ (by omega) (by omega) M6 (by
    have := hdP_len a
    unfold hdP baP at this
    simp only [List.length_append, List.length_cons, List.length_nil, two_len] at this ⊢
    have hl : ∀ (l : List Tl), (l.flatMap (fun t => two (ptrP a t))).length = 2 * l.length := by
      intro l
      induction l with
      | nil => rfl
      | cons s l ih => rw [List.flatMap_cons, List.length_append, ih, two_len, List.length_cons]; omega
    rw [hl]
    omega)
  have e7 : d_M_write_112 oS 5000 J6 R 210 (nI (20 * now)) = d_M_write_171 oS 5000 J7 R 210 0 := e7
  rw [List.drop_zero] at M7
  have eH : [] ++ [76] ++ [70] ++ two a.1.1 ++ two a.1.2 ++ [a.2.1.length] ++ a.2.1.flatMap (fun t => two (ptrP a t)) ++ [a.2.2.length] ++ a.2.2.flatMap (fun n => two n.1 ++ two n.2.1 ++ [n.2.2]) = hdP a := by
    unfold hdP
    rw [List.nil_append]
  rw [eH] at M7
  obtain ⟨J8, e8, c8, M8⟩ := m_w171 hR ha a.2.1.length 5000 0 J7 _ (by omega) (by omega) M7 (by rw [hdP_len]; unfold totP; omega)
  have e8 : d_M_write_171 oS 5000 J7 R 210 0 = _ := e8
  rw [e6, e7, e8]
  refine ⟨_, _, rfl, ?_, fun _ => rfl, M8⟩
  rw [c8, c7, c6, c5, c4, c3, c2, c1]
  exact c0
/-- no border of the reference's shown is passed -/
theorem m_ownL (S : ax_S) (K : ax_I) (R : ax_R) {v w h : Nat} (hv : v < 8) (w1 : 1 ≤ w) (w2 : w ≤ 64) (h1 : 1 ≤ h) (h2 : h ≤ 64) (x y : Int32) : ∀ (m n k : Nat) (r : Int32), k + m = w * h → m < n → ∃ u, d_M_ownOf_6 S n K R (nI v) x y (nI w) (nI h) r (nI k) = some u := by
  have hwh : w * h ≤ 64 * 64 := Nat.mul_le_mul w2 h2
  intro m
  induction m with
  | zero =>
    intro n k r hk hn'
    obtain ⟨n, rfl⟩ : ∃ n', n = n' + 1 := ⟨n - 1, by omega⟩
    rw [d_M_ownOf_6, nI_mul, if_pos (nI_le (by omega) (by omega))]
    exact ⟨_, rfl⟩
  | succ m ih =>
    intro n k r hk hn'
    obtain ⟨n, rfl⟩ : ∃ n', n = n' + 1 := ⟨n - 1, by omega⟩
    have hx : k % w < w := Nat.mod_lt _ (by omega)
    have hy : k / w < h := Nat.div_lt_of_lt_mul (by omega)
    rw [d_M_ownOf_6, nI_mul, if_neg (nI_ge (by omega) (by omega)), if_neg (nI_ne0 (by omega) (by omega)), if_neg (nI_ne0 (by omega) (by omega)), n_rem (by omega) (by omega) (by omega), pk_div (by omega) (by omega) (by omega), m_come S K R hv (by omega) (by omega) hx hy, ob]
    unfold d_M_ownOf_57
    split
    · rw [if_neg (nI_ne0 (by omega) (by omega)), if_neg (nI_ne0 (by omega) (by omega)), nI_1]
      exact ih n (k + 1) _ (by omega) (by omega)
    · rw [nI_1]
      exact ih n (k + 1) _ (by omega) (by omega)
theorem m_own (S : ax_S) (K : ax_I) (R : ax_R) {v w h : Nat} (hv : v < 8) (w1 : 1 ≤ w) (w2 : w ≤ 64) (h1 : 1 ≤ h) (h2 : h ≤ 64) (x y : Int32) : ∃ u, d_M_ownOf S K R (nI v) x y (nI w) (nI h) = some u := by
  have hwh : w * h ≤ 64 * 64 := Nat.mul_le_mul w2 h2
  exact m_ownL S K R hv w1 w2 h1 h2 x y (w * h) 5000 0 (-1) (by omega) (by omega)
theorem m_shownL (hR : mOk oS R) (hM : MR I now a b fw fh since st) (ha : okP a) (x y : Int32) : ∀ (m n k : Nat), k + m = a.2.1.length → m < n → ∃ u, d_M_shown_20 oS n I R 210 x y (nI k) = some (u, I) := by
  obtain ⟨hn, n3, ⟨⟨p1, p2, p3, p4⟩, pt, pn⟩, hb', -⟩ := hM
  obtain ⟨-, -, ix, -⟩ := mx2 hR hn
  have l40 := ha.2.1.1
  have stop : ∃ u, d_M_shown_218 oS I R 210 = some (u, I) := by
    unfold d_M_shown_218
    split
    · exact ⟨_, rfl⟩
    · exact ⟨_, rfl⟩
  intro m
  induction m with
  | zero =>
    intro n k hk hn'
    obtain ⟨n, rfl⟩ : ∃ n', n = n' + 1 := ⟨n - 1, by omega⟩
    rw [d_M_shown_20, mr_6 hR, ob, n3, ix, ob, p3, if_pos (nI_le (by omega) (by omega))]
    exact stop
  | succ m ih =>
    intro n k hk hn'
    obtain ⟨n, rfl⟩ : ∃ n', n = n' + 1 := ⟨n - 1, by omega⟩
    have hlt : k < a.2.1.length := by omega
    obtain ⟨t, ht⟩ : ∃ t, a.2.1[k]? = some t := ⟨_, List.getElem?_eq_getElem hlt⟩
    obtain ⟨⟨q1, q2, q3, q4, q5, q6⟩, -⟩ := pt k t ht
    obtain ⟨⟨s1, s2, s3, s4⟩, ⟨o1, o2⟩, hw8, hbl, -⟩ := ha.2.2.1 t (List.mem_of_getElem? ht)
    have e40 : (40 : Int32) * nI now + nI k = nI (40 * now + k) := by rw [show (40 : Int32) = nI 40 from rfl, nI_mul, nI_add]
    obtain ⟨⟨t1, t2, t3⟩, t4, t5, t6⟩ := mxT hR (show 40 * now + k < 80 by omega) rfl
    rw [d_M_shown_20, mr_6 hR, ob, n3, ix, ob, p3, if_neg (nI_ge hlt (by omega))]
    by_cases z0 : I 210 0 = 0
    · rw [if_pos z0]
      unfold d_M_tileAt
      rw [ob, n3, e40, mr_8 hR, ob, t1, ob, ob, t1, ob, mr_10 hR, ob, t3, ob, q1, q3]
      have next : ∃ u, d_M_shown_212 oS (d_M_shown_20 oS n) I R 210 x y (nI k) = some (u, I) := by
        unfold d_M_shown_212
        rw [nI_1]
        exact ih n (k + 1) (by omega) (by omega)
      by_cases z1 : x < nI t.1.1 ∨ nI t.1.1 + nI t.2.1.1 - 1 < x
      · rw [m_in_f z1, ob, if_pos bF]
        exact next
      rw [m_in_t (fun y => z1 (Or.inl y)) (fun y => z1 (Or.inr y)), ob, if_neg bT, mr_9 hR, ob, t2, ob, ob, t2, ob, mr_11 hR, ob, t4, ob, q2, q4]
      by_cases z2 : y < nI t.1.2 ∨ nI t.1.2 + nI t.2.1.2 - 1 < y
      · rw [m_in_f z2, ob, if_pos bF]
        exact next
      rw [m_in_t (fun y => z2 (Or.inl y)) (fun y => z2 (Or.inr y)), ob, if_neg bT, mr_12 hR, ob, t5, ob, q5, m_turned oS _ R hw8, ob]
      by_cases z : t.2.2.1 % 2 = 1
      · rw [decide_eq_true z, if_neg bT, ob, t4, ob, q4]
        unfold d_M_shown_139 d_M_shown_171
        obtain ⟨u, hu⟩ := m_own oS I R hw8 s3 s4 s1 s2 (x - nI t.1.1) (y - nI t.1.2)
        rw [mr_12 hR, ob, t5, ob, q5, m_turned oS _ R hw8, ob, decide_eq_true z, if_neg bT, mr_10 hR, ob, t3, ob, q3, ob, t5, ob, q5, mr_8 hR, ob, t1, ob, q1, mr_9 hR, ob, t2, ob, q2, hu, ob]
        exact ⟨_, rfl⟩
      · rw [decide_eq_false z, if_pos bF, ob, t3, ob, q3]
        unfold d_M_shown_139 d_M_shown_171
        obtain ⟨u, hu⟩ := m_own oS I R hw8 s1 s2 s3 s4 (x - nI t.1.1) (y - nI t.1.2)
        rw [mr_12 hR, ob, t5, ob, q5, m_turned oS _ R hw8, ob, decide_eq_false z, if_pos bF, mr_11 hR, ob, t4, ob, q4, ob, t5, ob, q5, mr_8 hR, ob, t1, ob, q1, mr_9 hR, ob, t2, ob, q2, hu, ob]
        exact ⟨_, rfl⟩
    · rw [if_neg z0]
      exact stop
theorem M_shown0 (hR : mOk oS R) (hM : MR I now a b fw fh since st) (ha : okP a) (x y : Int32) : ∃ v J, d_M_shown oS I R 210 x y = some (v, J) ∧ MR J now a b fw fh since st := by
  have g : ∀ c, ∃ v J, d_M_shown_15 oS I R 210 x y c 210 = some (v, J) ∧ MR J now a b fw fh since st := by
    intro c
    obtain ⟨u, hu⟩ := m_shownL hR (MR_c hM c) ha x y a.2.1.length 5000 0 (by omega) (by have := ha.2.1.1; omega)
    have hu : d_M_shown_20 oS 5000 (ax_up I 210 0 c) R 210 x y 0 = _ := hu
    unfold d_M_shown_15
    rw [ob, hu]
    exact ⟨_, _, rfl, MR_c hM c⟩
  obtain ⟨s1, s2⟩ := m_isSample hR hM ha x y
  unfold d_M_shown
  by_cases z : noIx a.1.1 x ∨ noIx a.1.2 y
  · rw [s1 z, ob, if_pos bF]
    exact g 1
  · rw [s2 z, ob, if_neg bT]
    exact g 0
end MW2
