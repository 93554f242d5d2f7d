/-! numbers that stand in cells: Nat under 2^31; the mathematical state -/
theorem nI_sub {a b : Nat} (h : b ≤ a) : nI a - nI b = nI (a - b) := by
  obtain ⟨c, rfl⟩ : ∃ c, a = b + c := ⟨a - b, by omega⟩
  rw [Nat.add_sub_cancel_left, ← nI_add, Int32.add_comm, Int32.add_sub_cancel]
theorem nI_mul (a b : Nat) : nI a * nI b = nI (a * b) := (Int32.ofNat_mul a b).symm
theorem ax_up_up {α : Type} (f : Nat → Nat → α) (i k : Nat) (a b : α) : ax_up (ax_up f i k a) i k b = ax_up f i k b := by
  funext x y
  unfold ax_up
  by_cases h : x = i ∧ y = k
  · rw [if_pos h, if_pos h]
  · rw [if_neg h, if_neg h, if_neg h]
theorem ax_up_id {α : Type} {f : Nat → Nat → α} {i k : Nat} {a : α} (h : f i k = a) : ax_up f i k a = f := by
  funext x y
  unfold ax_up
  by_cases e : x = i ∧ y = k
  · rw [if_pos e, e.1, e.2, h]
  · rw [if_neg e]
/-- a tile: ((x, y), (w, h), way, bytes); a note: x, y, byte; a picture: (width, height), tiles, notes -/
abbrev Tl : Type := (Nat × Nat) × (Nat × Nat) × Nat × List Nat
abbrev Nt : Type := Nat × Nat × Nat
abbrev Pc : Type := (Nat × Nat) × List Tl × List Nt
def apart (s t : Tl) : Prop := s.1.1 + s.2.1.1 ≤ t.1.1 ∨ t.1.1 + t.2.1.1 ≤ s.1.1 ∨ s.1.2 + s.2.1.2 ≤ t.1.2 ∨ t.1.2 + t.2.1.2 ≤ s.1.2
def okT (W H : Nat) (t : Tl) : Prop := (1 ≤ t.2.1.1 ∧ t.2.1.1 ≤ 64 ∧ 1 ≤ t.2.1.2 ∧ t.2.1.2 ≤ 64) ∧ (t.1.1 + t.2.1.1 ≤ W ∧ t.1.2 + t.2.1.2 ≤ H) ∧ t.2.2.1 < 8 ∧ t.2.2.2.length ≤ 12 ∧ ∀ b ∈ t.2.2.2, b < 256
def okN (W H : Nat) (n : Nt) : Prop := n.1 < W ∧ n.2.1 < H ∧ n.2.2 < 256
def okP (p : Pc) : Prop := (1 ≤ p.1.1 ∧ p.1.1 ≤ 400 ∧ 1 ≤ p.1.2 ∧ p.1.2 ≤ 400) ∧ (p.2.1.length ≤ 40 ∧ p.2.2.length ≤ 20) ∧ (∀ t ∈ p.2.1, okT p.1.1 p.1.2 t) ∧ (∀ n ∈ p.2.2, okN p.1.1 p.1.2 n) ∧ p.2.1.Pairwise apart
/-- the reference's cells of a tile, a note, a picture -/
def MT (I : ax_I) (m : Nat) (t : Tl) : Prop := (I 215 m = nI t.1.1 ∧ I 216 m = nI t.1.2 ∧ I 217 m = nI t.2.1.1 ∧ I 218 m = nI t.2.1.2 ∧ I 219 m = nI t.2.2.1 ∧ I 220 m = nI t.2.2.2.length) ∧ ∀ j b, t.2.2.2[j]? = some b → I 221 (12 * m + j) = nI b
def MN (I : ax_I) (m : Nat) (n : Nt) : Prop := I 222 m = nI n.1 ∧ I 223 m = nI n.2.1 ∧ I 224 m = nI n.2.2
def MP (I : ax_I) (q : Nat) (p : Pc) : Prop := (I 211 q = nI p.1.1 ∧ I 212 q = nI p.1.2 ∧ I 213 q = nI p.2.1.length ∧ I 214 q = nI p.2.2.length) ∧ (∀ k t, p.2.1[k]? = some t → MT I (40 * q + k) t) ∧ ∀ k n, p.2.2[k]? = some n → MN I (20 * q + k) n
/-- the reference: THIS one stands at 'now' -/
def MR (I : ax_I) (now : Nat) (a b : Pc) (fw fh since : Nat) (st : List Nat) : Prop := now < 2 ∧ I 210 3 = nI now ∧ MP I now a ∧ MP I (1 - now) b ∧ I 210 1 = nI fw ∧ I 210 2 = nI fh ∧ I 210 18 = nI since ∧ I 210 22 = nI st.length ∧ ∀ j b, st[j]? = some b → I 226 j = nI b
/-- what only speaks of the code, of 'refused' and of 'nears' -/
def mFree (i k : Nat) : Prop := (i = 210 ∧ (k = 0 ∨ k = 19)) ∨ i = 225 ∨ i < 210 ∨ 227 ≤ i
theorem MT_up {I : ax_I} {m i k : Nat} {v : Int32} {t : Tl} (hi : i < 215 ∨ 221 < i) (h : MT I m t) : MT (ax_up I i k v) m t := by
  obtain ⟨⟨h1, h2, h3, h4, h5, h6⟩, h7⟩ := h
  refine ⟨⟨?_, ?_, ?_, ?_, ?_, ?_⟩, fun j b hj => ?_⟩
  · rw [ax_up_ne (by omega)]; exact h1
  · rw [ax_up_ne (by omega)]; exact h2
  · rw [ax_up_ne (by omega)]; exact h3
  · rw [ax_up_ne (by omega)]; exact h4
  · rw [ax_up_ne (by omega)]; exact h5
  · rw [ax_up_ne (by omega)]; exact h6
  · rw [ax_up_ne (by omega)]; exact h7 j b hj
theorem MN_up {I : ax_I} {m i k : Nat} {v : Int32} {n : Nt} (hi : i < 222 ∨ 224 < i) (h : MN I m n) : MN (ax_up I i k v) m n := by
  obtain ⟨h1, h2, h3⟩ := h
  refine ⟨?_, ?_, ?_⟩
  · rw [ax_up_ne (by omega)]; exact h1
  · rw [ax_up_ne (by omega)]; exact h2
  · rw [ax_up_ne (by omega)]; exact h3
theorem MP_up {I : ax_I} {q i k : Nat} {v : Int32} {p : Pc} (hi : i < 211 ∨ 224 < i) (h : MP I q p) : MP (ax_up I i k v) q p := by
  obtain ⟨⟨h1, h2, h3, h4⟩, h5, h6⟩ := h
  refine ⟨⟨?_, ?_, ?_, ?_⟩, fun k t hk => MT_up (by omega) (h5 k t hk), fun k n hk => MN_up (by omega) (h6 k n hk)⟩
  · rw [ax_up_ne (by omega)]; exact h1
  · rw [ax_up_ne (by omega)]; exact h2
  · rw [ax_up_ne (by omega)]; exact h3
  · rw [ax_up_ne (by omega)]; exact h4
theorem MR_up {I : ax_I} {i k now fw fh since : Nat} {v : Int32} {a b : Pc} {st : List Nat} (hi : mFree i k) (h : MR I now a b fw fh since st) : MR (ax_up I i k v) now a b fw fh since st := by
  unfold mFree at hi
  obtain ⟨h1, h2, h3, h4, h5, h6, h7, h8, h9⟩ := h
  refine ⟨h1, ?_, MP_up (by omega) h3, MP_up (by omega) h4, ?_, ?_, ?_, ?_, fun j b hj => ?_⟩
  · rw [ax_up_ne (by omega)]; exact h2
  · rw [ax_up_ne (by omega)]; exact h5
  · rw [ax_up_ne (by omega)]; exact h6
  · rw [ax_up_ne (by omega)]; exact h7
  · rw [ax_up_ne (by omega)]; exact h8
  · rw [ax_up_ne (by omega)]; exact h9 j b hj
/-- the reference's rows by their numbers -/
theorem mr_4 {S : ax_S} {R : ax_R} (h : mOk S R) : R 210 4 = some 211 := (h.2 0 (by omega)).1
theorem mr_5 {S : ax_S} {R : ax_R} (h : mOk S R) : R 210 5 = some 212 := (h.2 1 (by omega)).1
theorem mr_6 {S : ax_S} {R : ax_R} (h : mOk S R) : R 210 6 = some 213 := (h.2 2 (by omega)).1
theorem mr_7 {S : ax_S} {R : ax_R} (h : mOk S R) : R 210 7 = some 214 := (h.2 3 (by omega)).1
theorem mr_8 {S : ax_S} {R : ax_R} (h : mOk S R) : R 210 8 = some 215 := (h.2 4 (by omega)).1
theorem mr_9 {S : ax_S} {R : ax_R} (h : mOk S R) : R 210 9 = some 216 := (h.2 5 (by omega)).1
theorem mr_10 {S : ax_S} {R : ax_R} (h : mOk S R) : R 210 10 = some 217 := (h.2 6 (by omega)).1
theorem mr_11 {S : ax_S} {R : ax_R} (h : mOk S R) : R 210 11 = some 218 := (h.2 7 (by omega)).1
theorem mr_12 {S : ax_S} {R : ax_R} (h : mOk S R) : R 210 12 = some 219 := (h.2 8 (by omega)).1
theorem mr_13 {S : ax_S} {R : ax_R} (h : mOk S R) : R 210 13 = some 220 := (h.2 9 (by omega)).1
theorem mr_14 {S : ax_S} {R : ax_R} (h : mOk S R) : R 210 14 = some 221 := (h.2 10 (by omega)).1
theorem mr_15 {S : ax_S} {R : ax_R} (h : mOk S R) : R 210 15 = some 222 := (h.2 11 (by omega)).1
theorem mr_16 {S : ax_S} {R : ax_R} (h : mOk S R) : R 210 16 = some 223 := (h.2 12 (by omega)).1
theorem mr_17 {S : ax_S} {R : ax_R} (h : mOk S R) : R 210 17 = some 224 := (h.2 13 (by omega)).1
theorem mr_20 {S : ax_S} {R : ax_R} (h : mOk S R) : R 210 20 = some 225 := (h.2 14 (by omega)).1
theorem mr_21 {S : ax_S} {R : ax_R} (h : mOk S R) : R 210 21 = some 226 := (h.2 15 (by omega)).1
/-- an index of the n-th row -/
theorem mx {S : ax_S} {R : ax_R} (h : mOk S R) (n : Nat) (hn : n < 16) {x : Int32} (j : Nat) (hx : x = nI j) (hj : j < mLen n) : ax_ix S (211 + n) x = some j := ax_ix_k (h.2 n hn).2 hx hj (mLen_lt n)
theorem mx2 {S : ax_S} {R : ax_R} (h : mOk S R) {now : Nat} (hn : now < 2) : ax_ix S 211 (nI now) = some now ∧ ax_ix S 212 (nI now) = some now ∧ ax_ix S 213 (nI now) = some now ∧ ax_ix S 214 (nI now) = some now := ⟨mx h 0 (by omega) now rfl hn, mx h 1 (by omega) now rfl hn, mx h 2 (by omega) now rfl hn, mx h 3 (by omega) now rfl hn⟩
theorem mxT {S : ax_S} {R : ax_R} (h : mOk S R) {m : Nat} (hm : m < 80) {x : Int32} (hx : x = nI m) : (ax_ix S 215 x = some m ∧ ax_ix S 216 x = some m ∧ ax_ix S 217 x = some m) ∧ ax_ix S 218 x = some m ∧ ax_ix S 219 x = some m ∧ ax_ix S 220 x = some m := ⟨⟨mx h 4 (by omega) m hx hm, mx h 5 (by omega) m hx hm, mx h 6 (by omega) m hx hm⟩, mx h 7 (by omega) m hx hm, mx h 8 (by omega) m hx hm, mx h 9 (by omega) m hx hm⟩
theorem mxB {S : ax_S} {R : ax_R} (h : mOk S R) {m : Nat} (hm : m < 960) {x : Int32} (hx : x = nI m) : ax_ix S 221 x = some m := mx h 10 (by omega) m hx hm
theorem mxN {S : ax_S} {R : ax_R} (h : mOk S R) {m : Nat} (hm : m < 40) {x : Int32} (hx : x = nI m) : ax_ix S 222 x = some m ∧ ax_ix S 223 x = some m ∧ ax_ix S 224 x = some m := ⟨mx h 11 (by omega) m hx hm, mx h 12 (by omega) m hx hm, mx h 13 (by omega) m hx hm⟩
theorem mxS {S : ax_S} {R : ax_R} (h : mOk S R) {m : Nat} (hm : m < 1200) {x : Int32} (hx : x = nI m) : ax_ix S 226 x = some m := mx h 15 (by omega) m hx hm
/-- a picture stays where its own cells stay -/
theorem MP_keep {I J : ax_I} {q : Nat} {p : Pc} (h : MP I q p) (hp : okP p) (e1 : ∀ i, 211 ≤ i → i ≤ 214 → J i q = I i q) (e2 : ∀ i m, 215 ≤ i → i ≤ 220 → 40 * q ≤ m → m < 40 * q + 40 → J i m = I i m) (e3 : ∀ m, 480 * q ≤ m → m < 480 * q + 480 → J 221 m = I 221 m) (e4 : ∀ i m, 222 ≤ i → i ≤ 224 → 20 * q ≤ m → m < 20 * q + 20 → J i m = I i m) : MP J q p := by
  obtain ⟨⟨h1, h2, h3, h4⟩, h5, h6⟩ := h
  obtain ⟨-, ⟨l1, l2⟩, ht, -⟩ := hp
  refine ⟨⟨(e1 _ (by omega) (by omega)).trans h1, (e1 _ (by omega) (by omega)).trans h2, (e1 _ (by omega) (by omega)).trans h3, (e1 _ (by omega) (by omega)).trans h4⟩, fun k t hk => ?_, fun k n hk => ?_⟩
  · have hlt : k < p.2.1.length := (List.getElem?_eq_some_iff.mp hk).1
    obtain ⟨⟨q1, q2, q3, q4, q5, q6⟩, q7⟩ := h5 k t hk
    have hb := (ht t (List.mem_of_getElem? hk)).2.2.2.1
    refine ⟨⟨(e2 _ _ (by omega) (by omega) (by omega) (by omega)).trans q1, (e2 _ _ (by omega) (by omega) (by omega) (by omega)).trans q2, (e2 _ _ (by omega) (by omega) (by omega) (by omega)).trans q3, (e2 _ _ (by omega) (by omega) (by omega) (by omega)).trans q4, (e2 _ _ (by omega) (by omega) (by omega) (by omega)).trans q5, (e2 _ _ (by omega) (by omega) (by omega) (by omega)).trans q6⟩, fun j b hj => ?_⟩
    have hjl : j < t.2.2.2.length := (List.getElem?_eq_some_iff.mp hj).1
    exact (e3 _ (by omega) (by omega)).trans (q7 j b hj)
  · have hlt : k < p.2.2.length := (List.getElem?_eq_some_iff.mp hk).1
    obtain ⟨q1, q2, q3⟩ := h6 k n hk
    exact ⟨(e4 _ _ (by omega) (by omega) (by omega) (by omega)).trans q1, (e4 _ _ (by omega) (by omega) (by omega) (by omega)).trans q2, (e4 _ _ (by omega) (by omega) (by omega) (by omega)).trans q3⟩
theorem MR_mk {I J : ax_I} {now fw fh since : Nat} {a b a' b' : Pc} {st : List Nat} (h : MR I now a b fw fh since st) (e1 : ∀ k, k = 1 ∨ k = 2 ∨ k = 3 ∨ k = 18 ∨ k = 22 → J 210 k = I 210 k) (e2 : ∀ k, J 226 k = I 226 k) (ha : MP J now a') (hb : MP J (1 - now) b') : MR J now a' b' fw fh since st := by
  obtain ⟨h1, h2, -, -, h5, h6, h7, h8, h9⟩ := h
  exact ⟨h1, (e1 _ (by omega)).trans h2, ha, hb, (e1 _ (by omega)).trans h5, (e1 _ (by omega)).trans h6, (e1 _ (by omega)).trans h7, (e1 _ (by omega)).trans h8, fun j c hj => (e2 j).trans (h9 j c hj)⟩
