/-! AX, the core. A typed memory over the machine: ids; shapes S (class or array), ints I, references R, longs L; 'ad' says where an id lies. The judgement ax_W: from this pc, these locals, this stack, this memory the machine comes to its end. -/
abbrev ax_Sh : Type := Nat ⊕ (Nat × Nat)
abbrev ax_S : Type := Nat → Option ax_Sh
abbrev ax_I : Type := Nat → Nat → Int32
abbrev ax_R : Type := Nat → Nat → Option Nat
abbrev ax_L : Type := Nat → Nat → Int64
def ax_up {α : Type} (f : Nat → Nat → α) (i k : Nat) (v : α) : Nat → Nat → α := fun a b => if a = i ∧ b = k then v else f a b
theorem ax_up_self {α : Type} (f : Nat → Nat → α) (i k : Nat) (v : α) : ax_up f i k v i k = v := by simp [ax_up]
theorem ax_up_ne {α : Type} {f : Nat → Nat → α} {i k a b : Nat} {v : α} (h : ¬ (a = i ∧ b = k)) : ax_up f i k v a b = f a b := by simp [ax_up, h]
/-- '.ref i' is the id i, where it lies; '.retAddr b' stands for the reference to b itself (the law's script), which is no id -/
def ax_tv (ad : Nat → Nat) (v : Value) : Value := match v with
  | .ref i => .ref (ad i)
  | .retAddr b => .ref b
  | w => w
theorem ax_tv_cat (ad : Nat → Nat) (v : Value) : (ax_tv ad v).category = v.category := by cases v <;> rfl
/-- the tables, the array classes, cells that nobody writes -/
abbrev ax_G : Type := va_G × List (ClassId × FieldType) × List (Nat × Cell)
def ax_ty (q : vw_C) (k : Nat) : FieldType := (parseFieldDescriptor (q.2.1 k).2.2.1).getD .int
def ax_v (ad : Nat → Nat) (ty : FieldType) (x : Int32) (r : Option Nat) (y : Int64) : Value := match ty with
  | .object _ => va_rf (r.map ad)
  | .array _ => va_rf (r.map ad)
  | .long => .long y
  | _ => .int x
def ax_at (G : ax_G) (ad : Nat → Nat) (I : ax_I) (R : ax_R) (L : ax_L) (i : Nat) (sh : ax_Sh) (H : Heap) : Prop := match sh with
  | .inl ci => ∃ q : vw_C, ax_cl[ci]? = some q ∧ t_OB (ad i) (G.1.1 ci) q.2.2 (G.1.2 ci) H (fun k => ax_v ad (ax_ty q k) (I i k) (R i k) (L i k))
  | .inr a => ∃ q : ClassId × FieldType, G.2.1[a.1]? = some q ∧ H[ad i]? = some (arrV q.1 a.2 (fun k => ax_v ad q.2 (I i k) (R i k) (L i k)))
theorem ax_at.kept {G : ax_G} {ad ad' : Nat → Nat} {I I' : ax_I} {R R' : ax_R} {L L' : ax_L} {i : Nat} {sh : ax_Sh} {H H' : Heap} (h : ax_at G ad I R L i sh H) (e0 : ad' i = ad i) (eI : ∀ k, I' i k = I i k) (eR : ∀ k, (R' i k).map ad' = (R i k).map ad) (eL : ∀ k, L' i k = L i k) (eH : H'[ad i]? = H[ad i]?) : ax_at G ad' I' R' L' i sh H' := by
  have ev : ∀ (ty : FieldType) (k : Nat), ax_v ad' ty (I' i k) (R' i k) (L' i k) = ax_v ad ty (I i k) (R i k) (L i k) := by
    intro ty k
    unfold ax_v
    rw [eI k, eL k, eR k]
  cases sh with
  | inl ci =>
    obtain ⟨q, h1, h2⟩ := h
    refine ⟨q, h1, ?_⟩
    rw [e0]
    exact (h2.kept eH).to (fun k _ => (ev _ k).symm)
  | inr a =>
    obtain ⟨q, h1, h2⟩ := h
    refine ⟨q, h1, ?_⟩
    rw [e0, eH, h2]
    congr 2
    funext k
    exact (ev _ k).symm
theorem ax_at.lt {G : ax_G} {ad : Nat → Nat} {I : ax_I} {R : ax_R} {L : ax_L} {i : Nat} {sh : ax_Sh} {H : Heap} (h : ax_at G ad I R L i sh H) : ad i < H.size := by
  cases sh with
  | inl ci =>
    obtain ⟨q, -, cell, h2, -⟩ := h
    exact (Array.getElem?_eq_some_iff.mp h2).1
  | inr a =>
    obtain ⟨q, -, h2⟩ := h
    exact (Array.getElem?_eq_some_iff.mp h2).1
def ax_Rep (G : ax_G) (ad : Nat → Nat) (S : ax_S) (I : ax_I) (R : ax_R) (L : ax_L) (H : Heap) : Prop :=
  (∀ i sh, S i = some sh → ax_at G ad I R L i sh H) ∧ (∀ i j, S i ≠ none → S j ≠ none → ad i = ad j → i = j) ∧ (∀ i k u, S i ≠ none → R i k = some u → S u ≠ none) ∧ ∀ z ∈ G.2.2, H[z.1]? = some z.2 ∧ ∀ i, S i ≠ none → ad i ≠ z.1
theorem ax_Rep.lt {G : ax_G} {ad : Nat → Nat} {S : ax_S} {I : ax_I} {R : ax_R} {L : ax_L} {H : Heap} (h : ax_Rep G ad S I R L H) {i : Nat} (hi : S i ≠ none) : ad i < H.size := by
  cases hs : S i with
  | none => exact absurd hs hi
  | some sh => exact (h.1 i sh hs).lt
/-- one cell is written: the others stay -/
theorem ax_Rep.set {G : ax_G} {ad : Nat → Nat} {S : ax_S} {I I' : ax_I} {R R' : ax_R} {L L' : ax_L} {H H' : Heap} (h : ax_Rep G ad S I R L H) {i : Nat} {sh : ax_Sh} (hi : S i = some sh) (h' : ax_at G ad I' R' L' i sh H')
    (eI : ∀ a, a ≠ i → ∀ k, I' a k = I a k) (eR : ∀ a, a ≠ i → ∀ k, R' a k = R a k) (eL : ∀ a, a ≠ i → ∀ k, L' a k = L a k) (hR : ∀ k u, R' i k = some u → S u ≠ none) (eH : ∀ q, q ≠ ad i → H'[q]? = H[q]?) : ax_Rep G ad S I' R' L' H' := by
  have hin : S i ≠ none := by rw [hi]; exact fun z => by cases z
  refine ⟨fun a s2 ha => ?_, h.2.1, fun a k u ha hu => ?_, fun z hz => ?_⟩
  · by_cases hai : a = i
    · subst hai
      cases hi.symm.trans ha
      exact h'
    · have han : S a ≠ none := by rw [ha]; exact fun z => by cases z
      exact (h.1 a s2 ha).kept rfl (eI a hai) (fun k => by rw [eR a hai k]) (eL a hai) (eH _ (fun z => hai (h.2.1 a i han hin z)))
  · by_cases hai : a = i
    · subst hai
      exact hR k u hu
    · exact h.2.2.1 a k u ha (by rw [← eR a hai k]; exact hu)
  · obtain ⟨h1, h2⟩ := h.2.2.2 z hz
    exact ⟨by rw [eH _ (fun e => h2 i hin e.symm)]; exact h1, h2⟩
/-- a cell more -/
theorem ax_Rep.new {G : ax_G} {ad : Nat → Nat} {S : ax_S} {I I' : ax_I} {R R' : ax_R} {L L' : ax_L} {H H' : Heap} (h : ax_Rep G ad S I R L H) {i : Nat} {sh : ax_Sh} (hi : S i = none) (a0 : Nat) (ha0 : a0 = H.size)
    (h' : ax_at G (fun j => if j = i then a0 else ad j) I' R' L' i sh H')
    (eI : ∀ a, a ≠ i → ∀ k, I' a k = I a k) (eR : ∀ a, a ≠ i → ∀ k, R' a k = R a k) (eL : ∀ a, a ≠ i → ∀ k, L' a k = L a k) (hR : ∀ k, R' i k = none) (eH : ∀ q, q < H.size → H'[q]? = H[q]?) :
    ax_Rep G (fun j => if j = i then a0 else ad j) (fun j => if j = i then some sh else S j) I' R' L' H' := by
  have old : ∀ a, a ≠ i → (fun j => if j = i then some sh else S j) a = S a := fun a hn => by simp [hn]
  have oldA : ∀ a, a ≠ i → (fun j => if j = i then a0 else ad j) a = ad a := fun a hn => by simp [hn]
  have oldN : ∀ a, a ≠ i → (fun j => if j = i then some sh else S j) a ≠ none → S a ≠ none := fun a hn hz => by rw [← old a hn]; exact hz
  refine ⟨fun a s2 ha => ?_, fun a b ha hb e => ?_, fun a k u ha hu => ?_, fun z hz => ?_⟩
  · by_cases hai : a = i
    · subst hai
      simp at ha
      subst ha
      exact h'
    · rw [old a hai] at ha
      have han : S a ≠ none := by rw [ha]; exact fun z => by cases z
      refine (h.1 a s2 ha).kept (oldA a hai) (eI a hai) (fun k => ?_) (eL a hai) (eH _ (h.lt han))
      rw [eR a hai k]
      cases hr : R a k with
      | none => rfl
      | some u =>
        have hu := h.2.2.1 a k u han hr
        have hui : u ≠ i := fun z => hu (by rw [z]; exact hi)
        simp [hui]
  · by_cases hai : a = i <;> by_cases hbi : b = i
    · rw [hai, hbi]
    · exfalso
      rw [oldA b hbi, hai] at e
      have := h.lt (oldN b hbi hb)
      simp at e
      omega
    · exfalso
      rw [oldA a hai, hbi] at e
      have := h.lt (oldN a hai ha)
      simp at e
      omega
    · rw [oldA a hai, oldA b hbi] at e
      exact h.2.1 a b (oldN a hai ha) (oldN b hbi hb) e
  · by_cases hai : a = i
    · subst hai
      rw [hR k] at hu
      cases hu
    · rw [eR a hai k] at hu
      have hu2 := h.2.2.1 a k u (oldN a hai ha) hu
      have hui : u ≠ i := fun z => hu2 (by rw [z]; exact hi)
      rw [old u hui]
      exact hu2
  · obtain ⟨h1, h2⟩ := h.2.2.2 z hz
    have hl : z.1 < H.size := (Array.getElem?_eq_some_iff.mp h1).1
    refine ⟨by rw [eH _ hl]; exact h1, fun a ha e => ?_⟩
    by_cases hai : a = i
    · rw [hai] at e
      simp at e
      omega
    · rw [oldA a hai] at e
      exact h2 a (oldN a hai ha) e
/-- what is given of Throwable's statics, wherever the cells that nobody writes stand -/
def ax_T4 (G : ax_G) (U : State) : Prop := ∀ (b : State) (args : Array Value), U.vm.Alike b.vm → (∀ z ∈ G.2.2, b.heap[z.1]? = some z.2) → ∀ w ∈ ax_t4, w.before args b = true
/-- what the tables say, at a state -/
def ax_K (G : ax_G) (U : State) : Prop := va_K G.1 ax_cl G.2.1 U ∧ G.2.1.map (fun q => q.2) = ax_ar ∧ (∀ w ∈ ax_nw, va_Nw w U) ∧ (∀ C ∈ ax_ao, va_AO C U) ∧ ax_T4 G U ∧ (∀ q ∈ ax_sr, ∃ a : Nat, vk_R q.1 q.2.1 q.2.2 a U) ∧ (∀ q ∈ ax_nc, va_Nc q.1 q.2 U) ∧ ∀ z, G.2.2[0]? = some z → U.isArrayOf z.2 .int
theorem ax_K.moved {G : ax_G} {s U : State} (hW : s.WarmedH U.vm) (h : ax_K G s) : ax_K G U :=
  ⟨va_K.moved hW.alike h.1, h.2.1, fun w hw => ax_nw_warm w hw hW (h.2.2.1 w hw), fun C hC => (h.2.2.2.1 C hC).moved hW.alike, fun b args hb hz w hw => h.2.2.2.2.1 b args (hW.alike.trans hb) hz w hw, fun q hq => by
    obtain ⟨a, ha⟩ := h.2.2.2.2.2.1 q hq
    exact ⟨a, vk_R.warm hW ha⟩, fun q hq => (h.2.2.2.2.2.2.1 q hq).moved hW.alike, fun z hz => State.isArrayOf_alike hW.alike (h.2.2.2.2.2.2.2 z hz)⟩
theorem ax_K.same {G : ax_G} {s U : State} (hW : s.vm = U.vm) (h : ax_K G s) : ax_K G U :=
  ⟨va_K.moved (by rw [hW]; exact Vm.Alike.refl _) h.1, h.2.1, fun w hw => va_Nw.same (ax_nw_ot w hw) hW (h.2.2.1 w hw), fun C hC => (h.2.2.2.1 C hC).moved (by rw [hW]; exact Vm.Alike.refl _), fun b args hb hz w hw => h.2.2.2.2.1 b args (by rw [hW]; exact hb) hz w hw, fun q hq => by
    obtain ⟨a, ha⟩ := h.2.2.2.2.2.1 q hq
    exact ⟨a, vk_R.same hW.symm ha⟩, fun q hq => (h.2.2.2.2.2.2.1 q hq).moved (by rw [hW]; exact Vm.Alike.refl _), fun z hz => State.isArrayOf_alike (by rw [hW]; exact Vm.Alike.refl _) (h.2.2.2.2.2.2.2 z hz)⟩
theorem ax_K.arr {G : ax_G} {s : State} (h : ax_K G s) {ai : Nat} {ty : FieldType} (ha : ax_ar[ai]? = some ty) : ∃ cA : ClassId, G.2.1[ai]? = some (cA, ty) ∧ ArrOfT s cA ty ∧ va_RA s cA ty := by
  have h1 := h.2.1
  have h2 : (G.2.1.map (fun q => q.2))[ai]? = some ty := by rw [h1]; exact ha
  rw [List.getElem?_map] at h2
  cases hq : G.2.1[ai]? with
  | none => rw [hq] at h2; cases h2
  | some q =>
    rw [hq] at h2
    obtain ⟨cA, t⟩ := q
    cases h2
    exact ⟨cA, rfl, (h.1.2 ai _ hq).1, (h.1.2 ai _ hq).2⟩
/-- the locals: their values in order, 'none' where nothing is known -/
abbrev ax_Ls : Type := List (Option Value)
def ax_pr (ad : Nat → Nat) (ls : ax_Ls) : List (Nat × Value) := (List.range ls.length).filterMap (fun k => (ls.getD k none).map (fun v => (k, ax_tv ad v)))
theorem ax_pr_mem {ad : Nat → Nat} {ls : ax_Ls} {k : Nat} {v : Value} (h : ls[k]? = some (some v)) : (k, ax_tv ad v) ∈ ax_pr ad ls := by
  have hl : k < ls.length := (List.getElem?_eq_some_iff.mp h).1
  refine List.mem_filterMap.mpr ⟨k, List.mem_range.mpr hl, ?_⟩
  simp [List.getD, h]
theorem ax_pr_of {ad : Nat → Nat} {ls : ax_Ls} {q : Nat × Value} (h : q ∈ ax_pr ad ls) : ∃ v, ls[q.1]? = some (some v) ∧ q.2 = ax_tv ad v := by
  obtain ⟨k, hk, hq⟩ := List.mem_filterMap.mp h
  have hl : k < ls.length := List.mem_range.mp hk
  cases hg : ls[k]? with
  | none => simp [List.getD, hg] at hq
  | some o =>
    cases o with
    | none => simp [List.getD, hg] at hq
    | some v =>
      simp [List.getD, hg] at hq
      subst hq
      exact ⟨v, hg, rfl⟩
def ax_loc (ad : Nat → Nat) (nL : Nat) (ls : ax_Ls) (lsC : Array Slot) : Prop := ls.length = nL ∧ (∀ v, some v ∈ ls → v.category = 1) ∧ lv_has lsC nL (ax_pr ad ls)
theorem ax_loc.get {ad : Nat → Nat} {nL : Nat} {ls : ax_Ls} {lsC : Array Slot} (h : ax_loc ad nL ls lsC) {k : Nat} {v : Value} (hk : ls[k]? = some (some v)) : lsC[k]? = some (.val (ax_tv ad v)) := h.2.2.2.2 _ (ax_pr_mem hk)
theorem ax_loc.set {ad : Nat → Nat} {nL : Nat} {ls : ax_Ls} {lsC lsD : Array Slot} (h : ax_loc ad nL ls lsC) {i : Nat} {v : Value} (hc : v.category = 1) (hl : lv_has lsD nL ((i, ax_tv ad v) :: (ax_pr ad ls).filter (fun q => !(q.1 == i) && !(q.1 + 1 == i && q.2.category == 2)))) : ax_loc ad nL (ls.set i (some v)) lsD := by
  refine ⟨by rw [List.length_set]; exact h.1, fun w hw => ?_, hl.1, hl.2.1, fun q hq => ?_⟩
  · rcases List.mem_or_eq_of_mem_set hw with h1 | h1
    · exact h.2.1 w h1
    · cases h1; exact hc
  · obtain ⟨w, hw, e⟩ := ax_pr_of hq
    rw [List.getElem?_set] at hw
    by_cases hi : i = q.1
    · rw [if_pos hi] at hw
      split at hw
      · cases hw
        refine hl.2.2 q ?_
        have : q = (i, ax_tv ad v) := by rw [hi, ← e]
        rw [this]
        exact List.mem_cons_self
      · cases hw
    · rw [if_neg hi] at hw
      refine hl.2.2 q (List.mem_cons_of_mem _ (List.mem_filter.mpr ⟨?_, ?_⟩))
      · have := ax_pr_mem (ad := ad) hw
        rw [← e] at this
        exact this
      · have hw1 : w.category = 1 := h.2.1 w (List.mem_of_getElem? hw)
        have h2 : q.2.category = 1 := by rw [e, ax_tv_cat]; exact hw1
        simp [h2]
        exact fun z => hi z.symm
theorem ax_loc.moved {ad ad' : Nat → Nat} {nL : Nat} {ls : ax_Ls} {lsC : Array Slot} (h : ax_loc ad nL ls lsC) (e : ∀ v, some v ∈ ls → ax_tv ad' v = ax_tv ad v) : ax_loc ad' nL ls lsC := by
  refine ⟨h.1, h.2.1, h.2.2.1, h.2.2.2.1, fun q hq => ?_⟩
  obtain ⟨v, hv, e2⟩ := ax_pr_of hq
  have h3 := h.2.2.2.2 _ (ax_pr_mem (ad := ad) hv)
  rw [e2, e v (List.mem_of_getElem? hv)]
  exact h3
/-- all references in hand are of ids that live -/
def ax_okv (S : ax_S) (v : Value) : Prop := ∀ u, v = .ref u → S u ≠ none
def ax_live (S : ax_S) (ls : ax_Ls) (st : List Value) : Prop := (∀ v ∈ st, ax_okv S v) ∧ ∀ v, some v ∈ ls → ax_okv S v
theorem ax_okv_i {S : ax_S} {x : Int32} : ax_okv S (.int x) := fun u h => by cases h
theorem ax_okv_l {S : ax_S} {x : Int64} : ax_okv S (.long x) := fun u h => by cases h
theorem ax_okv_n {S : ax_S} : ax_okv S .null := fun u h => by cases h
theorem ax_okv_r {S : ax_S} {a : Nat} (h : S a ≠ none) : ax_okv S (.ref a) := fun u e => by cases e; exact h
theorem ax_live.push {S : ax_S} {ls : ax_Ls} {st : List Value} {v : Value} (h : ax_live S ls st) (hv : ax_okv S v) : ax_live S ls (v :: st) := ⟨fun w hw => by
  rcases List.mem_cons.mp hw with rfl | h1
  · exact hv
  · exact h.1 w h1, h.2⟩
theorem ax_live.pop {S : ax_S} {ls : ax_Ls} {st : List Value} {v : Value} (h : ax_live S ls (v :: st)) : ax_live S ls st := ⟨fun w hw => h.1 w (List.mem_cons_of_mem _ hw), h.2⟩
theorem ax_live.top {S : ax_S} {ls : ax_Ls} {st : List Value} {v : Value} (h : ax_live S ls (v :: st)) : ax_okv S v := h.1 v List.mem_cons_self
theorem ax_live.sto {S : ax_S} {ls : ax_Ls} {st : List Value} {v : Value} (i : Nat) (h : ax_live S ls st) (hv : ax_okv S v) : ax_live S (ls.set i (some v)) st := ⟨h.1, fun w hw => by
  rcases List.mem_or_eq_of_mem_set hw with h1 | h1
  · exact h.2 w h1
  · cases h1; exact hv⟩
theorem ax_live.grow {S S' : ax_S} {ls : ax_Ls} {st : List Value} (h : ax_live S ls st) (e : ∀ i, S i ≠ none → S' i ≠ none) : ax_live S' ls st := ⟨fun v hv u hu => e u (h.1 v hv u hu), fun v hv u hu => e u (h.2 v hv u hu)⟩
/-- the fixed part of a walk: the machine and its launch, the method, the tables, what may change, the first ids and where they lay, the end -/
abbrev ax_X : Type := Program × Launch × Env × Room × State × MethodId × Array Value × List Frame × Method × Code × ax_G × (Nat → Prop) × (Nat → Nat) × ax_S × (State → Prop)
def ax_W (X : ax_X) (nL : Nat) (pc : Nat) (ls : ax_Ls) (st : List Value) (S : ax_S) (I : ax_I) (R : ax_R) (L : ax_L) (cs ss : Nat) : Prop := match X with
  | (p, l, e, Rm, s, m, args, below, meth, c, G, A, ad0, S0, Q) => ∀ (ad : Nat → Nat) (H : Heap) (locs : List Loc) (lsC : Array Slot), (∀ i, S0 i ≠ none → S i ≠ none ∧ ad i = ad0 i) → (∀ i, S i ≠ none → A (ad i)) → ax_Rep G ad S I R L H → va_S A s.heap H locs → ax_loc ad nL ls lsC → ax_live S ls st →
      W p l e Rm s m args below meth c H locs cs ss Q (F0 m pc lsC (st.map (ax_tv ad)))
def ax_ok (X : ax_X) (l0 : Launch) (own : String) (cc : ByteArray) (nL : Nat) (rm : Room) : Prop := match X with
  | (p, l, e, Rm, s, m, args, below, meth, c, G, A, ad0, S0, Q) => l = l0 ∧ Rm = rm ∧ p.tables.exec = Jvm.exec ∧ c.code = cc ∧ c.maxLocals = nL ∧ s.vm.findClass own = some m.cls ∧ (∀ w ∈ ax_tb, w.before args s = true) ∧ ax_K G s ∧ (∀ q, s.heap.size ≤ q → A q) ∧ meth.locks = false
def ax_ini (X : ax_X) : Prop := match X with
  | (_, _, _, _, _, _, _, _, meth, _, _, _, _, _, _) => meth.name = "<init>"
