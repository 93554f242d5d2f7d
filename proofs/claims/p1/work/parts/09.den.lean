/-! AX, for the printed walks: what a memory's references are of; small steps of 'den = some out'; calls by their answers -/
def ax_rm (d mc ms : Nat) : Room := { frames := d, cells := mc, slots := ms, locals := 35 * d }
/-- what a reference field of class ci, number k, points to: an object of a class, or an array of a kind -/
def ax_dt (ci k : Nat) : Nat ⊕ Nat := match ci, k with
  | 4, 2 => .inl 2
  | 4, 3 => .inr 0
  | 4, 4 => .inl 1
  | 4, 5 => .inl 1
  | 1, 0 => .inr 2
  | 1, 1 => .inr 3
  | _, _ => .inr 0
def ax_is (S : ax_S) (u : Nat) (d : Nat ⊕ Nat) : Prop := match d with
  | .inl c => S u = some (.inl c)
  | .inr ai => ∃ n, S u = some (.inr (ai, n))
def ax_typ (S : ax_S) (R : ax_R) : Prop := (∀ a ci k u, S a = some (.inl ci) → R a k = some u → ax_is S u (ax_dt ci k)) ∧ (∀ a n k u, S a = some (.inr (2, n)) → R a k = some u → S u = some (.inl 3)) ∧ (∀ a n k u, S a = some (.inr (3, n)) → R a k = some u → S u = some (.inl 0)) ∧ ∀ a ai n, S a = some (.inr (ai, n)) → n < 2 ^ 31
def ax_len (S : ax_S) (a : Nat) : Nat := match S a with
  | some (.inr q) => q.2
  | _ => 0
/-- the place that an index names, if it is one of the array's -/
def ax_ix (S : ax_S) (a : Nat) (i : Int32) : Option Nat := if 0 ≤ i ∧ i.toNatClampNeg < ax_len S a then some i.toNatClampNeg else none
theorem ax_ix_s {S : ax_S} {R : ax_R} {a ai n j : Nat} {i : Int32} (ht : ax_typ S R) (hs : S a = some (.inr (ai, n))) (h : ax_ix S a i = some j) : i = nI j ∧ j < n ∧ n < 2 ^ 31 := by
  unfold ax_ix at h
  split at h
  · rename_i hc
    cases h
    have hl : ax_len S a = n := by unfold ax_len; rw [hs]
    obtain ⟨h1, h2⟩ := hc
    rw [hl] at h2
    refine ⟨?_, h2, ht.2.2.2 a ai n hs⟩
    obtain ⟨k, hk, e⟩ := nI_of (x := i) (fun z => by
      rw [Int32.le_iff_toInt_le] at h1
      rw [Int32.lt_iff_toInt_lt] at z
      omega)
    subst e
    rw [nI_clamp hk]
  · cases h
theorem ax_bd {α β : Type} {o : Option α} {f : α → Option β} {r : β} (h : o.bind f = some r) : ∃ a, o = some a ∧ f a = some r := by
  cases o with
  | none => cases h
  | some a => exact ⟨a, rfl, h⟩
theorem ax_bs {α β : Type} {x : α} {f : α → Option β} {r : β} (h : (some x).bind f = some r) : ∃ a, x = a ∧ f a = some r := ⟨x, rfl, h⟩
def ax_b (b : Bool) : Int32 := if b then 1 else 0
theorem ax_b_n (b : Bool) : narrow .boolean (.int (ax_b b)) = .int (ax_b b) := by cases b <;> rfl
/-- an int that is a boolean -/
def ax_bo (v : Int32) : Option Bool := if v = 0 then some false else if v = 1 then some true else none
theorem ax_bo_s {v : Int32} {b : Bool} (h : ax_bo v = some b) : v = ax_b b := by
  unfold ax_bo at h
  split at h
  · cases h; assumption
  · split at h
    · cases h; assumption
    · cases h
section AXD
variable {X : ax_X} {l : Launch} {own : String} {cc : ByteArray} {nL : Nat} {rm : Room} {pc q : Nat} {ls ls' : ax_Ls} {st : List Value} {S : ax_S} {I I' : ax_I} {R R' : ax_R} {L : ax_L} {cs ss mc ms : Nat} {ret : Option FieldType} {RX : ax_RX}
/-- fewer locals are asked for -/
def ax_few : ax_Ls → ax_Ls → Bool
  | [], [] => true
  | _ :: a, none :: b => ax_few a b
  | x :: a, y :: b => decide (x = y) && ax_few a b
  | _, _ => false
theorem ax_few_s : ∀ (ls ls' : ax_Ls), ax_few ls ls' = true → ls'.length = ls.length ∧ ∀ (k : Nat) (v : Value), ls'[k]? = some (some v) → ls[k]? = some (some v)
  | [], [], _ => ⟨rfl, fun k v h => h⟩
  | x :: a, none :: b, h => by
    obtain ⟨h1, h2⟩ := ax_few_s a b h
    refine ⟨by simp [h1], fun k v hk => ?_⟩
    cases k with
    | zero => simp at hk
    | succ k => simpa using h2 k v (by simpa using hk)
  | x :: a, some y :: b, h => by
    simp only [ax_few, Bool.and_eq_true, decide_eq_true_eq] at h
    obtain ⟨h1, h2⟩ := ax_few_s a b h.2
    refine ⟨by simp [h1], fun k v hk => ?_⟩
    cases k with
    | zero => simpa [h.1] using hk
    | succ k => simpa using h2 k v (by simpa using hk)
  | [], _ :: _, h => by simp [ax_few] at h
  | _ :: _, [], h => by simp [ax_few] at h
theorem ax_weak (hl : ls'.length = ls.length ∧ ∀ (k : Nat) (v : Value), ls'[k]? = some (some v) → ls[k]? = some (some v)) (kk : ax_W X nL pc ls' st S I R L cs ss) : ax_W X nL pc ls st S I R L cs ss := by
  obtain ⟨p, l1, e, Rm, s, m, args, below, meth, c, G, A, ad0, S0, Q⟩ := X
  intro ad H locs lsC h0 hAd hR hS hlo hlv
  have hm : ∀ v, some v ∈ ls' → some v ∈ ls := fun v hv => by
    obtain ⟨k, hk⟩ := List.getElem?_of_mem hv
    exact List.mem_of_getElem? (hl.2 k v hk)
  refine kk ad H locs lsC h0 hAd hR hS ⟨hl.1.trans hlo.1, fun v hv => hlo.2.1 v (hm v hv), hlo.2.2.1, hlo.2.2.2.1, fun z hz => ?_⟩ ⟨hlv.1, fun v hv => hlv.2 v (hm v hv)⟩
  obtain ⟨v, hv, e⟩ := ax_pr_of hz
  have := hlo.get (hl.2 _ _ hv)
  rw [e]
  exact this
theorem ax_kV {v : Option Value} (h : ax_ok X l own cc nL rm) {y : MethodName} {bytes : ByteArray} {maxL idx n b ci : Nat} {w : vw_C} {ret : Option FieldType} {rm' : Room} {vs rest st' : List Value} (hd : decode cc pc = .ok (.invokevirtual idx, 3)) (hq : pc + 3 = q) (hm : ax_mt y bytes maxL ret n) (hw : Cond.methodLink own idx y ∈ ax_tb) (hw2 : Cond.instanceMethod y ∈ ax_tb) (hw3 : Cond.selects w.1 y y ∈ ax_tb) (hSb : S b = some (.inl ci)) (hci : ax_cl[ci]? = some w) (hM : ax_Met l y bytes maxL ret rm' (.ref b :: vs) S I R L (ax_eq v S I' R' L)) (hn : vs.length = n) (hrm : ax_rmle rm' rm maxL) (hst : st = vs.reverse ++ .ref b :: rest) (hro : (rest.map fun v => v.category).sum ≤ 8) (hcs : rm'.cells = 0) (hss : rm'.slots = 0) (hc0 : cs ≤ rm.cells) (hs0 : ss ≤ rm.slots) (hst' : v.toList ++ rest = st')
    (kk : ax_W X nL q ls st' S I' R' L cs ss) : ax_W X nL pc ls st S I R L cs ss := by
  refine ax_callV h hd hq hm hw hw2 hw3 hSb hci hM hn hrm hst hro (by rw [hcs]; exact hc0) (by rw [hss]; exact hs0) (fun r S' I2 R2 L2 hr _ => ?_)
  obtain ⟨rfl, rfl, rfl, rfl, rfl⟩ := hr
  rw [hcs, hss, hst']
  exact kk
theorem ax_kS {v : Option Value} (h : ax_ok X l own cc nL rm) {y : MethodName} {bytes : ByteArray} {maxL idx n : Nat} {ret : Option FieldType} {rm' : Room} {vs rest st' : List Value} (hd : decode cc pc = .ok (.invokestatic idx, 3)) (hq : pc + 3 = q) (hm : ax_mt y bytes maxL ret n) (hw : Cond.methodLink own idx y ∈ ax_tb) (hw2 : Cond.static y ∈ ax_tb) (hM : ax_Met l y bytes maxL ret rm' vs S I R L (ax_eq v S I' R' L)) (hn : vs.length = n) (hrm : ax_rmle rm' rm maxL) (hst : st = vs.reverse ++ rest) (hro : (rest.map fun v => v.category).sum ≤ 8) (hcs : rm'.cells = 0) (hss : rm'.slots = 0) (hc0 : cs ≤ rm.cells) (hs0 : ss ≤ rm.slots) (hst' : v.toList ++ rest = st')
    (kk : ax_W X nL q ls st' S I' R' L cs ss) : ax_W X nL pc ls st S I R L cs ss := by
  refine ax_callS h hd hq hm hw hw2 hM hn hrm hst hro (by rw [hcs]; exact hc0) (by rw [hss]; exact hs0) (fun r S' I2 R2 L2 hr _ => ?_)
  obtain ⟨rfl, rfl, rfl, rfl, rfl⟩ := hr
  rw [hcs, hss, hst']
  exact kk
theorem ax_kN {v : Option Value} (h : ax_ok X l own cc nL rm) {y : MethodName} {host : String} {bytes : ByteArray} {maxL idx n : Nat} {ret : Option FieldType} {rm' : Room} {vs rest st' : List Value} (hd : decode cc pc = .ok (.invokestatic idx, 3)) (hq : pc + 3 = q) (hm : ax_mt y bytes maxL ret n) (hw : Cond.methodLinkNest own idx y host ∈ ax_nw) (hw2 : Cond.static y ∈ ax_tb) (hM : ax_Met l y bytes maxL ret rm' vs S I R L (ax_eq v S I' R' L)) (hn : vs.length = n) (hrm : ax_rmle rm' rm maxL) (hst : st = vs.reverse ++ rest) (hro : (rest.map fun v => v.category).sum ≤ 8) (hcs : rm'.cells = 0) (hss : rm'.slots = 0) (hc0 : cs ≤ rm.cells) (hs0 : ss ≤ rm.slots) (hst' : v.toList ++ rest = st')
    (kk : ax_W X nL q ls st' S I' R' L cs ss) : ax_W X nL pc ls st S I R L cs ss := by
  refine ax_callSN h hd hq hm hw hw2 hM hn hrm hst hro (by rw [hcs]; exact hc0) (by rw [hss]; exact hs0) (fun r S' I2 R2 L2 hr _ => ?_)
  obtain ⟨rfl, rfl, rfl, rfl, rfl⟩ := hr
  rw [hcs, hss, hst']
  exact kk
end AXD
theorem ax_b_f (b : Bool) : fits .boolean (.int (ax_b b)) = true := by cases b <;> rfl
theorem ax_cats {vs : List Value} (h : vs.all (fun v => v.category == 1) = true) : ∀ v ∈ vs, v.category = 1 := fun v hv => by simpa using List.all_eq_true.mp h v hv
theorem ax_len_s {S : ax_S} {a ai n : Nat} (h : S a = some (.inr (ai, n))) : ax_len S a = n := by unfold ax_len; rw [h]
def ax_fewP : ax_Ls → ax_Ls → Prop
  | [], [] => True
  | _ :: a, none :: b => ax_fewP a b
  | x :: a, some y :: b => x = some y ∧ ax_fewP a b
  | _, _ => False
theorem ax_fewP_s : ∀ (ls ls' : ax_Ls), ax_fewP ls ls' → ls'.length = ls.length ∧ ∀ (k : Nat) (v : Value), ls'[k]? = some (some v) → ls[k]? = some (some v)
  | [], [], _ => ⟨rfl, fun k v h => h⟩
  | x :: a, none :: b, h => by
    obtain ⟨h1, h2⟩ := ax_fewP_s a b h
    refine ⟨by simp [h1], fun k v hk => ?_⟩
    cases k with
    | zero => simp at hk
    | succ k => simpa using h2 k v (by simpa using hk)
  | x :: a, some y :: b, h => by
    obtain ⟨h0, h⟩ := h
    obtain ⟨h1, h2⟩ := ax_fewP_s a b h
    refine ⟨by simp [h1], fun k v hk => ?_⟩
    cases k with
    | zero => simpa [h0] using hk
    | succ k => simpa using h2 k v (by simpa using hk)
  | [], _ :: _, h => h.elim
  | _ :: _, [], h => h.elim
def ax_ox (o : Int32 ⊕ String) : Option Value ⊕ String := match o with
  | .inl v => .inl (some (.int v))
  | .inr E => .inr E
def ax_eqX (o : Int32 ⊕ String) (S : ax_S) (I : ax_I) (R : ax_R) (L : ax_L) : ax_RX := fun r' S' I' R' L' => r' = ax_ox o ∧ S' = S ∧ I' = I ∧ R' = R ∧ L' = L
theorem ax_typ_f {S : ax_S} {R : ax_R} {a ci k u : Nat} (h : ax_typ S R) (ha : S a = some (.inl ci)) (hu : ax_is S u (ax_dt ci k)) : ax_typ S (ax_up R a k (some u)) := by
  obtain ⟨h1, h2, h3, h4⟩ := h
  refine ⟨fun b cj j v hb hv => ?_, fun b n j v hb hv => ?_, fun b n j v hb hv => ?_, h4⟩
  · by_cases e : b = a ∧ j = k
    · obtain ⟨rfl, rfl⟩ := e
      rw [ax_up_self] at hv
      cases hv
      cases ha.symm.trans hb
      exact hu
    · rw [ax_up_ne e] at hv
      exact h1 b cj j v hb hv
  · rw [ax_up_ne (fun e => by rw [e.1, ha] at hb; cases hb)] at hv
    exact h2 b n j v hb hv
  · rw [ax_up_ne (fun e => by rw [e.1, ha] at hb; cases hb)] at hv
    exact h3 b n j v hb hv
theorem ax_typ_a2 {S : ax_S} {R : ax_R} {a n k u : Nat} (h : ax_typ S R) (ha : S a = some (.inr (2, n))) (hu : S u = some (.inl 3)) : ax_typ S (ax_up R a k (some u)) := by
  obtain ⟨h1, h2, h3, h4⟩ := h
  refine ⟨fun b cj j v hb hv => ?_, fun b n j v hb hv => ?_, fun b n j v hb hv => ?_, h4⟩
  · rw [ax_up_ne (fun e => by rw [e.1, ha] at hb; cases hb)] at hv
    exact h1 b cj j v hb hv
  · by_cases e : b = a ∧ j = k
    · obtain ⟨rfl, rfl⟩ := e
      rw [ax_up_self] at hv
      cases hv
      exact hu
    · rw [ax_up_ne e] at hv
      exact h2 b n j v hb hv
  · rw [ax_up_ne (fun e => by rw [e.1, ha] at hb; cases hb)] at hv
    exact h3 b n j v hb hv
theorem ax_typ_a3 {S : ax_S} {R : ax_R} {a n k u : Nat} (h : ax_typ S R) (ha : S a = some (.inr (3, n))) (hu : S u = some (.inl 0)) : ax_typ S (ax_up R a k (some u)) := by
  obtain ⟨h1, h2, h3, h4⟩ := h
  refine ⟨fun b cj j v hb hv => ?_, fun b n j v hb hv => ?_, fun b n j v hb hv => ?_, h4⟩
  · rw [ax_up_ne (fun e => by rw [e.1, ha] at hb; cases hb)] at hv
    exact h1 b cj j v hb hv
  · rw [ax_up_ne (fun e => by rw [e.1, ha] at hb; cases hb)] at hv
    exact h2 b n j v hb hv
  · by_cases e : b = a ∧ j = k
    · obtain ⟨rfl, rfl⟩ := e
      rw [ax_up_self] at hv
      cases hv
      exact hu
    · rw [ax_up_ne e] at hv
      exact h3 b n j v hb hv
theorem ax_out3 {x : Int32} (z0 : ¬ x = 0) (z1 : ¬ x = 1) (z2 : ¬ x = 2) : x.toInt < 0 ∨ 2 < x.toInt := by
  rcases Int.lt_or_le x.toInt 0 with h | h
  · exact Or.inl h
  · rcases Int.lt_or_le 2 x.toInt with g | g
    · exact Or.inr g
    · exfalso
      have e : x.toInt = 0 ∨ x.toInt = 1 ∨ x.toInt = 2 := by omega
      rcases e with e | e | e
      · exact z0 (Int32.toInt_inj.mp (by rw [e]; rfl))
      · exact z1 (Int32.toInt_inj.mp (by rw [e]; rfl))
      · exact z2 (Int32.toInt_inj.mp (by rw [e]; rfl))
theorem ax_out8 {x : Int32} (z0 : ¬ x = 0) (z1 : ¬ x = 1) (z2 : ¬ x = 2) (z3 : ¬ x = 3) (z4 : ¬ x = 4) (z5 : ¬ x = 5) (z6 : ¬ x = 6) (z7 : ¬ x = 7) : x.toInt < 0 ∨ 7 < x.toInt := by
  rcases Int.lt_or_le x.toInt 0 with h | h
  · exact Or.inl h
  · rcases Int.lt_or_le 7 x.toInt with g | g
    · exact Or.inr g
    · exfalso
      have e : x.toInt = 0 ∨ x.toInt = 1 ∨ x.toInt = 2 ∨ x.toInt = 3 ∨ x.toInt = 4 ∨ x.toInt = 5 ∨ x.toInt = 6 ∨ x.toInt = 7 := by omega
      rcases e with e | e | e | e | e | e | e | e
      · exact z0 (Int32.toInt_inj.mp (by rw [e]; rfl))
      · exact z1 (Int32.toInt_inj.mp (by rw [e]; rfl))
      · exact z2 (Int32.toInt_inj.mp (by rw [e]; rfl))
      · exact z3 (Int32.toInt_inj.mp (by rw [e]; rfl))
      · exact z4 (Int32.toInt_inj.mp (by rw [e]; rfl))
      · exact z5 (Int32.toInt_inj.mp (by rw [e]; rfl))
      · exact z6 (Int32.toInt_inj.mp (by rw [e]; rfl))
      · exact z7 (Int32.toInt_inj.mp (by rw [e]; rfl))
theorem ax_out9 {x : Int32} (z0 : ¬ x = 0) (z1 : ¬ x = 1) (z2 : ¬ x = 2) (z3 : ¬ x = 3) (z4 : ¬ x = 4) (z5 : ¬ x = 5) (z6 : ¬ x = 6) (z7 : ¬ x = 7) (z8 : ¬ x = 8) : x.toInt < 0 ∨ 8 < x.toInt := by
  rcases Int.lt_or_le x.toInt 0 with h | h
  · exact Or.inl h
  · rcases Int.lt_or_le 8 x.toInt with g | g
    · exact Or.inr g
    · exfalso
      have e : x.toInt = 0 ∨ x.toInt = 1 ∨ x.toInt = 2 ∨ x.toInt = 3 ∨ x.toInt = 4 ∨ x.toInt = 5 ∨ x.toInt = 6 ∨ x.toInt = 7 ∨ x.toInt = 8 := by omega
      rcases e with e | e | e | e | e | e | e | e | e
      · exact z0 (Int32.toInt_inj.mp (by rw [e]; rfl))
      · exact z1 (Int32.toInt_inj.mp (by rw [e]; rfl))
      · exact z2 (Int32.toInt_inj.mp (by rw [e]; rfl))
      · exact z3 (Int32.toInt_inj.mp (by rw [e]; rfl))
      · exact z4 (Int32.toInt_inj.mp (by rw [e]; rfl))
      · exact z5 (Int32.toInt_inj.mp (by rw [e]; rfl))
      · exact z6 (Int32.toInt_inj.mp (by rw [e]; rfl))
      · exact z7 (Int32.toInt_inj.mp (by rw [e]; rfl))
      · exact z8 (Int32.toInt_inj.mp (by rw [e]; rfl))
