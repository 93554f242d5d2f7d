/-! AX, memory: fields, arrays, new cells -/
section AXM
variable {X : ax_X} {l : Launch} {own : String} {cc : ByteArray} {nL : Nat} {rm : Room} {pc q : Nat} {ls ls' : ax_Ls} {st : List Value} {S : ax_S} {I : ax_I} {R : ax_R} {L : ax_L} {cs ss : Nat}
/-- entry idx of own's pool is field k of class ci, of type ty -/
def ax_fl (own : String) (idx ci k : Nat) (ty : FieldType) (fin : Bool) : Prop := ∃ q : vw_C, ax_cl[ci]? = some q ∧ k < q.2.2 ∧ Cond.fieldLink own idx (q.2.1 k).1 (q.2.1 k).2.1 (q.2.1 k).2.2.1 ∈ ax_tb ∧ parseFieldDescriptor (q.2.1 k).2.2.1 = some ty ∧ (q.2.1 k).2.2.2 = fin
theorem ax_ty_of {q : vw_C} {k : Nat} {ty : FieldType} (h : parseFieldDescriptor (q.2.1 k).2.2.1 = some ty) : ax_ty q k = ty := by unfold ax_ty; rw [h]; rfl
def ax_isI (ty : FieldType) : Bool := match ty with
  | .int => true
  | .boolean => true
  | _ => false
def ax_isR (ty : FieldType) : Bool := match ty with
  | .object _ => true
  | .array _ => true
  | _ => false
theorem ax_v_i {ad : Nat → Nat} {ty : FieldType} {x : Int32} {r : Option Nat} {y : Int64} (h : ax_isI ty = true) : ax_v ad ty x r y = .int x := by
  cases ty <;> first | rfl | (simp [ax_isI] at h)
theorem ax_v_r {ad : Nat → Nat} {ty : FieldType} {x : Int32} {r : Option Nat} {y : Int64} (h : ax_isR ty = true) : ax_v ad ty x r y = va_rf (r.map ad) := by
  cases ty <;> first | rfl | (simp [ax_isR] at h)
theorem ax_get (h : ax_ok X l own cc nL rm) {idx ci k a : Nat} {ty : FieldType} {fin : Bool} {v : Value} (hd : decode cc pc = .ok (.getfield idx, 3)) (hq : pc + 3 = q) (hF : ax_fl own idx ci k ty fin) (hSa : S a = some (.inl ci)) (hv : ∀ ad, ax_v ad ty (I a k) (R a k) (L a k) = ax_tv ad v) (hlv1 : ∀ u, v = .ref u → R a k = some u)
    (kk : ax_W X nL q ls (v :: st) S I R L cs ss) : ax_W X nL pc ls (.ref a :: st) S I R L cs ss := by
  obtain ⟨p, l1, e, Rm, s, m, args, below, meth, c, G, A, ad0, S0, Q⟩ := X
  obtain ⟨rfl, rfl, hx, hb, hml, hown, hts, hK, hA, hlk⟩ := h
  intro ad H locs lsC h0 hAd hR hS hl hlv
  subst hq
  obtain ⟨w, hc, hk, hw, hp, -⟩ := hF
  obtain ⟨w2, hc2, cell, q1, q2, q3, q4⟩ := hR.1 a _ hSa
  cases hc.symm.trans hc2
  obtain ⟨hSl, hfc, kC, hkC, hkind⟩ := hK.1.1 ci _ hc
  obtain ⟨cf, kf, fi, f, hi, hsl⟩ := hSl k hk
  have hlay := u_lays hts (ax_cls_ok ci w hc).1 hk
  have hlive : ax_okv S v := fun u hu => hR.2.2.1 a k u (by rw [hSa]; exact fun z => by cases z) (hlv1 u hu)
  refine W.getf hx hb hown (hts _ hw) hi (u_facts hfc hkC hlay hi).1 q1 (by rw [q3]; exact fun z => by cases z) (v := ax_tv ad v) ?_ rfl rfl hd (kk ad H locs lsC h0 hAd hR hS hl (hlv.pop.push hlive))
  rw [hsl, q4 k hk]
  show some (ax_v ad (ax_ty w k) (I a k) (R a k) (L a k)) = _
  rw [ax_ty_of hp, hv ad]
theorem ax_getI (h : ax_ok X l own cc nL rm) {idx ci k a : Nat} {ty : FieldType} {fin : Bool} (hd : decode cc pc = .ok (.getfield idx, 3)) (hq : pc + 3 = q) (hF : ax_fl own idx ci k ty fin) (hi : ax_isI ty = true) (hSa : S a = some (.inl ci))
    (kk : ax_W X nL q ls (.int (I a k) :: st) S I R L cs ss) : ax_W X nL pc ls (.ref a :: st) S I R L cs ss :=
  ax_get h hd hq hF hSa (fun _ => ax_v_i hi) (fun u hu => by cases hu) kk
theorem ax_getR (h : ax_ok X l own cc nL rm) {idx ci k a u : Nat} {ty : FieldType} {fin : Bool} (hd : decode cc pc = .ok (.getfield idx, 3)) (hq : pc + 3 = q) (hF : ax_fl own idx ci k ty fin) (hi : ax_isR ty = true) (hSa : S a = some (.inl ci)) (hr : R a k = some u)
    (kk : ax_W X nL q ls (.ref u :: st) S I R L cs ss) : ax_W X nL pc ls (.ref a :: st) S I R L cs ss :=
  ax_get h hd hq hF hSa (fun ad => by rw [ax_v_r hi, hr]; rfl) (fun u2 hu => by cases hu; exact hr) kk
/-- a field is written -/
theorem ax_put0 (h : ax_ok X l own cc nL rm) {idx ci k a : Nat} {ty : FieldType} {fin : Bool} {v : Value} {I' : ax_I} {R' : ax_R} (hd : decode cc pc = .ok (.putfield idx, 3)) (hq : pc + 3 = q) (hF : ax_fl own idx ci k ty fin) (hSa : S a = some (.inl ci)) (hini : fin = true → ax_ini X ∧ ∀ w, ax_cl[ci]? = some w → (w.2.1 k).1 = own)
    (hn : ∀ ad, narrow ty (ax_tv ad v) = ax_tv ad v) (hft : ∀ ad, fits ty (ax_tv ad v) = true) (hv : ∀ ad, ax_v ad ty (I' a k) (R' a k) (L a k) = ax_tv ad v) (eI : ∀ b j, ¬ (b = a ∧ j = k) → I' b j = I b j) (eR : ∀ b j, ¬ (b = a ∧ j = k) → R' b j = R b j) (hRv : ∀ u, R' a k = some u → R a k = some u ∨ v = .ref u)
    (kk : ax_W X nL q ls st S I' R' L cs ss) : ax_W X nL pc ls (v :: .ref a :: st) S I R L cs ss := by
  obtain ⟨p, l1, e, Rm, s, m, args, below, meth, c, G, A, ad0, S0, Q⟩ := X
  obtain ⟨rfl, rfl, hx, hb, hml, hown, hts, hK, hA, hlk⟩ := h
  intro ad H locs lsC h0 hAd hR hS hl hlv
  subst hq
  obtain ⟨w, hc, hk, hw, hp, hfin⟩ := hF
  obtain ⟨w2, hc2, cell, q1, q2, q3, q4⟩ := hR.1 a _ hSa
  cases hc.symm.trans hc2
  obtain ⟨hSl, hfc, kC, hkC, hkind⟩ := hK.1.1 ci _ hc
  obtain ⟨cf, kf, fi, f, hi, hsl⟩ := hSl k hk
  obtain ⟨hin, hty, hnm⟩ := ax_cls_ok ci w hc
  have hlay := u_lays hts hin hk
  have hst := (u_facts hfc hkC hlay hi).1
  have hap : ∀ x y, x < w.2.2 → y < w.2.2 → x ≠ y → (G.1.2 ci) x ≠ (G.1.2 ci) y := by
    intro x y h1 h2 hne
    obtain ⟨_, _, _, fa, hia, ea⟩ := hSl x h1
    obtain ⟨_, _, _, fb, hib, eb⟩ := hSl y h2
    rw [← ea, ← eb]
    obtain ⟨tx, htx⟩ := hty x h1
    obtain ⟨ty2, hty2⟩ := hty y h2
    refine u_apart (u_lays hts hin h1) (u_lays hts hin h2) hia hib ?_
    rw [(State.fieldFound?_type hia htx).1, (State.fieldFound?_type hib hty2).1]
    exact hnm x h1 y h2 hne
  have hnone : S a ≠ none := by rw [hSa]; exact fun z => by cases z
  have fin2 : ∀ (H' : Heap), H'[ad a]? = some (cell.setSlot f.slot (ax_tv ad v)) → H'.size = H.size → (∀ z, z ≠ ad a → H'[z]? = H[z]?) → W p l1 e Rm s m args below meth c H' (locs ++ [⟨ad a, f.slot⟩]) cs ss Q (F0 m (pc + 3) lsC (st.map (ax_tv ad))) := by
    intro H' e1 e2 e3
    refine kk ad H' _ lsC h0 hAd ?_ (hS.put e2 e3 (hAd a hnone)) hl hlv.pop.pop
    refine hR.set hSa ⟨w, hc, ?_⟩ (fun b hb2 j => eI b j (fun z => hb2 z.1)) (fun b hb2 j => eR b j (fun z => hb2 z.1)) (fun b _ j => rfl) (fun j u hu => ?_) e3
    · rw [hsl] at e1
      refine t_OB.to (V := updV (fun k => ax_v ad (ax_ty w k) (I a k) (R a k) (L a k)) k (ax_tv ad v)) ⟨_, e1, q2, q3, t_set q4 hap hk _⟩ (fun j hj => ?_)
      by_cases hjk : j = k
      · subst hjk
        simp only [updV, if_pos]
        rw [ax_ty_of hp, hv ad]
      · simp only [updV, if_neg hjk]
        rw [eI a j (fun z => hjk z.2), eR a j (fun z => hjk z.2)]
    · by_cases hjk : j = k
      · subst hjk
        rcases hRv u hu with h1 | h1
        · exact hR.2.2.1 a j u hnone h1
        · exact hlv.top u h1
      · exact hR.2.2.1 a j u hnone (by rw [← eR a j (fun z => hjk z.2)]; exact hu)
  cases fin with
  | false =>
    have hlay2 := hts _ (hin _ (u_in_lay hk))
    unfold u_lay at hlay2
    rw [if_neg (by rw [hfin]; decide)] at hlay2
    have h6 := u_store hfc hkC hkind hlay2 hi hp (hn ad) (hft ad)
    exact W.putK hx hb (f := f) ⟨hown, hts _ hw, ⟨_, _, _, hi⟩, hst⟩ (by rw [q2]; exact h6) q1 q3 (by rw [hsl]; exact k2_hasslot (q4 k hk)) rfl rfl hd fin2
  | true =>
    have hlay2 := hts _ (hin _ (u_in_lay hk))
    unfold u_lay at hlay2
    rw [if_pos hfin] at hlay2
    have hcf : m.cls = cf := by
      obtain ⟨_, _, c', _, _, _, -, -, hf', -, -, -, hown2, -⟩ := Cond.laysFinal_spec hlay2
      have e1 : c' = cf := by have := hi.symm.trans hf'; simp at this; exact this.1.symm
      rw [(hini rfl).2 w hc] at hown2
      rw [← e1]; exact Option.some.inj (hown.symm.trans hown2)
    have h6 := u_fits hfc hkC hkind (Or.inr hlay2) hi hp (hn ad) (hft ad)
    exact W.putFinK hx hb hown (hts _ hw) hi hst hcf (hini rfl).1 (by rw [q2]; exact h6) q1 q3 (by rw [hsl]; exact k2_hasslot (q4 k hk)) rfl rfl hd fin2
theorem ax_putI (h : ax_ok X l own cc nL rm) {idx ci k a : Nat} {ty : FieldType} {fin : Bool} {v : Int32} {I' : ax_I} (hd : decode cc pc = .ok (.putfield idx, 3)) (hq : pc + 3 = q) (hF : ax_fl own idx ci k ty fin) (hi : ax_isI ty = true) (hSa : S a = some (.inl ci)) (hini : fin = true → ax_ini X ∧ ∀ w, ax_cl[ci]? = some w → (w.2.1 k).1 = own) (hn : narrow ty (.int v) = .int v) (hft : fits ty (.int v) = true) (hI : ax_up I a k v = I')
    (kk : ax_W X nL q ls st S I' R L cs ss) : ax_W X nL pc ls (.int v :: .ref a :: st) S I R L cs ss := by
  subst hI
  exact ax_put0 (I' := ax_up I a k v) (R' := R) h hd hq hF hSa hini (fun _ => hn) (fun _ => hft) (fun ad => by rw [ax_v_i hi, ax_up_self]; rfl) (fun b j hz => ax_up_ne hz) (fun _ _ _ => rfl) (fun u hu => Or.inl hu) kk
theorem ax_putR (h : ax_ok X l own cc nL rm) {idx ci k a u : Nat} {ty : FieldType} {fin : Bool} {R' : ax_R} (hd : decode cc pc = .ok (.putfield idx, 3)) (hq : pc + 3 = q) (hF : ax_fl own idx ci k ty fin) (hi : ax_isR ty = true) (hSa : S a = some (.inl ci)) (hini : fin = true → ax_ini X ∧ ∀ w, ax_cl[ci]? = some w → (w.2.1 k).1 = own) (hRu : ax_up R a k (some u) = R')
    (kk : ax_W X nL q ls st S I R' L cs ss) : ax_W X nL pc ls (.ref u :: .ref a :: st) S I R L cs ss := by
  subst hRu
  exact ax_put0 (I' := I) (R' := ax_up R a k (some u)) h hd hq hF hSa hini (fun ad => by cases ty <;> first | rfl | (simp [ax_isR] at hi)) (fun ad => by cases ty <;> first | rfl | (simp [ax_isR] at hi)) (fun ad => by rw [ax_v_r hi, ax_up_self]; rfl) (fun _ _ _ => rfl) (fun b j hz => ax_up_ne hz) (fun w hw => Or.inr (by rw [ax_up_self] at hw; cases hw; rfl)) kk
/-- arrays: their length; the values at a place k -/
theorem ax_alen (h : ax_ok X l own cc nL rm) {ai len a : Nat} (hd : decode cc pc = .ok (.arraylength, 1)) (hq : pc + 1 = q) (hSa : S a = some (.inr (ai, len)))
    (kk : ax_W X nL q ls (.int (nI len) :: st) S I R L cs ss) : ax_W X nL pc ls (.ref a :: st) S I R L cs ss := by
  obtain ⟨p, l1, e, Rm, s, m, args, below, meth, c, G, A, ad0, S0, Q⟩ := X
  obtain ⟨rfl, rfl, hx, hb, hml, hown, hts, hK, hA, hlk⟩ := h
  intro ad H locs lsC h0 hAd hR hS hl hlv
  subst hq
  obtain ⟨⟨cA, ty⟩, hc, hcell⟩ := hR.1 a _ hSa
  refine W.alen hx hb hcell ((hK.1.2 ai _ hc).1 len _) (n := nI len) ?_ rfl rfl hd (kk ad H locs lsC h0 hAd hR hS hl (hlv.pop.push ax_okv_i))
  rw [arrV_size]
  rfl
theorem ax_vin {x : Int32} {k len : Nat} (hk : x = nI k) (hlt : k < len) (hlen : len < 2 ^ 31) : ¬ (x < 0 ∨ len ≤ x.toNatClampNeg) ∧ x.toNatClampNeg = k := by
  subst hk
  exact ⟨nI_in hlt hlen, nI_clamp (by omega)⟩
theorem ax_iald (h : ax_ok X l own cc nL rm) {len a : Nat} (k : Nat) {x : Int32} (hd : decode cc pc = .ok (.iaload, 1)) (hq : pc + 1 = q) (hSa : S a = some (.inr (0, len))) (hx0 : x = nI k) (hlt : k < len) (hlen : len < 2 ^ 31)
    (kk : ax_W X nL q ls (.int (I a k) :: st) S I R L cs ss) : ax_W X nL pc ls (.int x :: .ref a :: st) S I R L cs ss := by
  obtain ⟨p, l1, e, Rm, s, m, args, below, meth, c, G, A, ad0, S0, Q⟩ := X
  obtain ⟨rfl, rfl, hx, hb, hml, hown, hts, hK, hA, hlk⟩ := h
  intro ad H locs lsC h0 hAd hR hS hl hlv
  subst hq
  obtain ⟨⟨cA, ty⟩, hc, hcell⟩ := hR.1 a _ hSa
  obtain ⟨cA2, hc2, hAr, -⟩ := hK.arr (ai := 0) ax_ar_0
  cases hc.symm.trans hc2
  obtain ⟨hin, hcl⟩ := ax_vin hx0 hlt hlen
  refine W.iald hx hb hcell (hAr len _) (fun z => by cases z) (by rw [arrV_size]; exact hin) (v := .int (I a k)) ?_ rfl rfl hd (kk ad H locs lsC h0 hAd hR hS hl (hlv.pop.pop.push ax_okv_i))
  rw [hcl, arrV_read _ _ hlt]
  rfl
theorem ax_iast (h : ax_ok X l own cc nL rm) {len a : Nat} (k : Nat) {x v : Int32} {I' : ax_I} (hd : decode cc pc = .ok (.iastore, 1)) (hq : pc + 1 = q) (hSa : S a = some (.inr (0, len))) (hx0 : x = nI k) (hlt : k < len) (hlen : len < 2 ^ 31) (hI : ax_up I a k v = I')
    (kk : ax_W X nL q ls st S I' R L cs ss) : ax_W X nL pc ls (.int v :: .int x :: .ref a :: st) S I R L cs ss := by
  obtain ⟨p, l1, e, Rm, s, m, args, below, meth, c, G, A, ad0, S0, Q⟩ := X
  obtain ⟨rfl, rfl, hx, hb, hml, hown, hts, hK, hA, hlk⟩ := h
  intro ad H locs lsC h0 hAd hR hS hl hlv
  subst hq; subst hI
  obtain ⟨⟨cA, ty⟩, hc, hcell⟩ := hR.1 a _ hSa
  obtain ⟨cA2, hc2, hAr, -⟩ := hK.arr (ai := 0) ax_ar_0
  cases hc.symm.trans hc2
  obtain ⟨hin, hcl⟩ := ax_vin hx0 hlt hlen
  have hnone : S a ≠ none := by rw [hSa]; exact fun z => by cases z
  refine W.iast hx hb hcell (hAr len _) (fun z => by cases z) (by rw [arrV_size]; exact hin) rfl rfl hd fun H1 e1 z1 oq => ?_
  rw [hcl] at e1
  refine kk ad H1 _ lsC h0 hAd (hR.set hSa ⟨_, hc, ?_⟩ (fun b hb2 j => ax_up_ne (fun z => hb2 z.1)) (fun _ _ _ => rfl) (fun _ _ _ => rfl) (fun j u hu => hR.2.2.1 a j u hnone hu) oq) (hS.put z1 oq (hAd a hnone)) hl hlv.pop.pop.pop
  rw [e1, arrV_store]
  congr 2
  funext j
  by_cases hj : j = k
  · subst hj
    simp only [updV, if_pos, ax_up_self]
    rfl
  · simp only [updV, if_neg hj]
    rw [ax_up_ne (fun z => hj z.2)]
theorem ax_lald (h : ax_ok X l own cc nL rm) {len a : Nat} (k : Nat) {x : Int32} (hd : decode cc pc = .ok (.laload, 1)) (hq : pc + 1 = q) (hSa : S a = some (.inr (1, len))) (hx0 : x = nI k) (hlt : k < len) (hlen : len < 2 ^ 31)
    (kk : ax_W X nL q ls (.long (L a k) :: st) S I R L cs ss) : ax_W X nL pc ls (.int x :: .ref a :: st) S I R L cs ss := by
  obtain ⟨p, l1, e, Rm, s, m, args, below, meth, c, G, A, ad0, S0, Q⟩ := X
  obtain ⟨rfl, rfl, hx, hb, hml, hown, hts, hK, hA, hlk⟩ := h
  intro ad H locs lsC h0 hAd hR hS hl hlv
  subst hq
  obtain ⟨⟨cA, ty⟩, hc, hcell⟩ := hR.1 a _ hSa
  obtain ⟨cA2, hc2, hAr, -⟩ := hK.arr (ai := 1) ax_ar_1
  cases hc.symm.trans hc2
  obtain ⟨hin, hcl⟩ := ax_vin hx0 hlt hlen
  refine W.lald hx hb hcell (hAr len _) (fun z => by cases z) (by rw [arrV_size]; exact hin) (v := .long (L a k)) ?_ rfl rfl hd (kk ad H locs lsC h0 hAd hR hS hl (hlv.pop.pop.push ax_okv_l))
  rw [hcl, arrV_read _ _ hlt]
  rfl
theorem ax_last (h : ax_ok X l own cc nL rm) {len a : Nat} (k : Nat) {x : Int32} {v : Int64} {L' : ax_L} (hd : decode cc pc = .ok (.lastore, 1)) (hq : pc + 1 = q) (hSa : S a = some (.inr (1, len))) (hx0 : x = nI k) (hlt : k < len) (hlen : len < 2 ^ 31) (hI : ax_up L a k v = L')
    (kk : ax_W X nL q ls st S I R L' cs ss) : ax_W X nL pc ls (.long v :: .int x :: .ref a :: st) S I R L cs ss := by
  obtain ⟨p, l1, e, Rm, s, m, args, below, meth, c, G, A, ad0, S0, Q⟩ := X
  obtain ⟨rfl, rfl, hx, hb, hml, hown, hts, hK, hA, hlk⟩ := h
  intro ad H locs lsC h0 hAd hR hS hl hlv
  subst hq; subst hI
  obtain ⟨⟨cA, ty⟩, hc, hcell⟩ := hR.1 a _ hSa
  obtain ⟨cA2, hc2, hAr, -⟩ := hK.arr (ai := 1) ax_ar_1
  cases hc.symm.trans hc2
  obtain ⟨hin, hcl⟩ := ax_vin hx0 hlt hlen
  have hnone : S a ≠ none := by rw [hSa]; exact fun z => by cases z
  refine W.last hx hb hcell (hAr len _) (fun z => by cases z) (by rw [arrV_size]; exact hin) rfl rfl hd fun H1 e1 z1 oq => ?_
  rw [hcl] at e1
  refine kk ad H1 _ lsC h0 hAd (hR.set hSa ⟨_, hc, ?_⟩ (fun _ _ _ => rfl) (fun _ _ _ => rfl) (fun b hb2 j => ax_up_ne (fun z => hb2 z.1)) (fun j u hu => hR.2.2.1 a j u hnone hu) oq) (hS.put z1 oq (hAd a hnone)) hl hlv.pop.pop.pop
  rw [e1, arrV_store]
  congr 2
  funext j
  by_cases hj : j = k
  · subst hj
    simp only [updV, if_pos, ax_up_self]
    rfl
  · simp only [updV, if_neg hj]
    rw [ax_up_ne (fun z => hj z.2)]
theorem ax_aald (h : ax_ok X l own cc nL rm) {ai len a u : Nat} {ty : FieldType} (k : Nat) {x : Int32} (hd : decode cc pc = .ok (.aaload, 1)) (hq : pc + 1 = q) (hSa : S a = some (.inr (ai, len))) (hai : ax_ar[ai]? = some ty) (hty : ax_isR ty = true) (hx0 : x = nI k) (hlt : k < len) (hlen : len < 2 ^ 31) (hr : R a k = some u)
    (kk : ax_W X nL q ls (.ref u :: st) S I R L cs ss) : ax_W X nL pc ls (.int x :: .ref a :: st) S I R L cs ss := by
  obtain ⟨p, l1, e, Rm, s, m, args, below, meth, c, G, A, ad0, S0, Q⟩ := X
  obtain ⟨rfl, rfl, hx, hb, hml, hown, hts, hK, hA, hlk⟩ := h
  intro ad H locs lsC h0 hAd hR hS hl hlv
  subst hq
  obtain ⟨⟨cA, ty1⟩, hc, hcell⟩ := hR.1 a _ hSa
  obtain ⟨cA2, hc2, hAr, -⟩ := hK.arr hai
  cases hc.symm.trans hc2
  obtain ⟨hin, hcl⟩ := ax_vin hx0 hlt hlen
  have hnone : S a ≠ none := by rw [hSa]; exact fun z => by cases z
  refine W.aald (ty := ty) hx hb hcell (hAr len _) (by cases ty <;> first | rfl | (simp [ax_isR] at hty)) (fun z => by cases z) (by rw [arrV_size]; exact hin) (v := .ref (ad u)) ?_ rfl rfl hd (kk ad H locs lsC h0 hAd hR hS hl (hlv.pop.pop.push (ax_okv_r (hR.2.2.1 a k u hnone hr))))
  rw [hcl, arrV_read _ _ hlt, ax_v_r hty, hr]
  rfl
theorem ax_aast (h : ax_ok X l own cc nL rm) {ai ci len a u : Nat} {C : String} {w : vw_C} {R' : ax_R} (k : Nat) {x : Int32} (hd : decode cc pc = .ok (.aastore, 1)) (hq : pc + 1 = q) (hSa : S a = some (.inr (ai, len))) (hai : ax_ar[ai]? = some (.object C)) (hSu : S u = some (.inl ci)) (hci : ax_cl[ci]? = some w) (hC : w.1 = C) (hx0 : x = nI k) (hlt : k < len) (hlen : len < 2 ^ 31) (hRu : ax_up R a k (some u) = R')
    (kk : ax_W X nL q ls st S I R' L cs ss) : ax_W X nL pc ls (.ref u :: .int x :: .ref a :: st) S I R L cs ss := by
  obtain ⟨p, l1, e, Rm, s, m, args, below, meth, c, G, A, ad0, S0, Q⟩ := X
  obtain ⟨rfl, rfl, hx, hb, hml, hown, hts, hK, hA, hlk⟩ := h
  intro ad H locs lsC h0 hAd hR hS hl hlv
  subst hq; subst hRu; subst hC
  obtain ⟨⟨cA, ty1⟩, hc, hcell⟩ := hR.1 a _ hSa
  obtain ⟨cA2, hc2, hAr, kA, comp, k1, k2, k3, -⟩ := hK.arr hai
  cases hc.symm.trans hc2
  obtain ⟨hin, hcl⟩ := ax_vin hx0 hlt hlen
  have hnone : S a ≠ none := by rw [hSa]; exact fun z => by cases z
  obtain ⟨w2, hw2, cellV, g1, g2, g3, -⟩ := hR.1 u _ hSu
  have hcls := (hK.1.1 ci w hci).2
  have hcomp : comp = G.1.1 ci := Option.some.inj (k3.symm.trans hcls.1)
  subst hcomp
  obtain ⟨kC, hkC, -⟩ := hcls.2
  refine W.aast hx hb hcell (fun z h => by cases h) (fun h => by cases h) k1 k2 rfl hkC ⟨fun z => hin (Or.inl z), by rw [arrV_size, hcl]; exact hlt⟩ g1 (fun z h => by rw [g3] at h; cases h) (by rw [g2]; exact hkC) (by rw [g2]; exact va_assign hcls) rfl rfl hd fun H1 e1 z1 oq => ?_
  rw [hcl] at e1
  refine kk ad H1 _ lsC h0 hAd (hR.set hSa ⟨_, hc, ?_⟩ (fun _ _ _ => rfl) (fun b hb2 j => ax_up_ne (fun z => hb2 z.1)) (fun _ _ _ => rfl) (fun j v hv => ?_) oq) (hS.put z1 oq (hAd a hnone)) hl hlv.pop.pop.pop
  · rw [e1, arrV_store]
    congr 2
    funext j
    by_cases hj : j = k
    · subst hj
      simp only [updV, if_pos, ax_up_self]
      rfl
    · simp only [updV, if_neg hj]
      rw [ax_up_ne (fun z => hj z.2)]
  · by_cases hj : j = k
    · subst hj
      rw [ax_up_self] at hv
      cases hv
      rw [hSu]
      exact fun z => by cases z
    · rw [ax_up_ne (fun z => hj z.2)] at hv
      exact hR.2.2.1 a j v hnone hv
/-- new cells: their ids are the prover's to choose -/
def ax_add (S : ax_S) (i : Nat) (sh : ax_Sh) : ax_S := fun j => if j = i then some sh else S j
def ax_row {α : Type} (f : Nat → Nat → α) (i : Nat) (v : α) : Nat → Nat → α := fun a b => if a = i then v else f a b
theorem ax_fresh {X : ax_X} {l : Launch} {own : String} {cc : ByteArray} {rm : Room} (h : ax_ok X l own cc nL rm) {i : Nat} {sh : ax_Sh} (hi : S i = none) : ∀ (ad : Nat → Nat) (H H1 : Heap) (locs : List Loc) (lsC : Array Slot), ax_Rep X.2.2.2.2.2.2.2.2.2.2.1 ad S I R L H → ax_loc ad nL ls lsC → ax_live S ls st → ax_loc (fun j => if j = i then H.size else ad j) nL ls lsC ∧ st.map (ax_tv (fun j => if j = i then H.size else ad j)) = st.map (ax_tv ad) ∧ ax_live (ax_add S i sh) ls (.ref i :: st) := by
  intro ad H H1 locs lsC hR hl hlv
  have key : ∀ v, ax_okv S v → ax_tv (fun j => if j = i then H.size else ad j) v = ax_tv ad v := by
    intro v hv
    cases v with
    | ref u =>
      have := hv u rfl
      have hui : u ≠ i := fun z => this (by rw [z]; exact hi)
      simp [ax_tv, hui]
    | _ => rfl
  refine ⟨hl.moved (fun v hv => key v (hlv.2 v hv)), List.map_congr_left (fun v hv => key v (hlv.1 v hv)), ?_⟩
  refine (hlv.grow (fun j hj => ?_)).push (ax_okv_r ?_)
  · unfold ax_add
    split
    · exact fun z => by cases z
    · exact hj
  · simp [ax_add]
theorem ax_cls_sort : ∀ (ci : Nat) (w : vw_C), ax_cl[ci]? = some w → ∀ k, k < w.2.2 → (ax_isI (ax_ty w k) = true ∨ ax_isR (ax_ty w k) = true ∨ ax_ty w k = .long) := ax_cl_all (by decide +kernel) (by decide +kernel) (by decide +kernel) (by decide +kernel) (by decide +kernel) (by decide +kernel)
theorem ax_dv {ad : Nat → Nat} {ty : FieldType} (h : ax_isI ty = true ∨ ax_isR ty = true ∨ ty = .long) : defaultValue ty = ax_v ad ty 0 none 0 := by
  cases ty <;> first | rfl | (simp [ax_isI, ax_isR] at h)
theorem ax_new (h : ax_ok X l own cc nL rm) {idx ci N : Nat} {w : vw_C} (i : Nat) (hd : decode cc pc = .ok (.new idx, 3)) (hq : pc + 3 = q) (hci : ax_cl[ci]? = some w) (hN : w.2.2 = N) (hw1 : Cond.classLink own idx w.1 ∈ ax_tb) (hw2 : Cond.instantiable w.1 w.2.2 ∈ ax_tb) (hw3 : Cond.initialized w.1 ∈ ax_tb) (hi : S i = none) (hcs : cs + 1 ≤ rm.cells) (hss : ss + N ≤ rm.slots)
    (kk : ax_W X nL q ls (.ref i :: st) (ax_add S i (.inl ci)) (ax_row I i 0) (ax_row R i none) (ax_row L i 0) (cs + 1) (ss + N)) : ax_W X nL pc ls st S I R L cs ss := by
  have hfr := ax_fresh (st := st) (ls := ls) (I := I) (R := R) (L := L) h (sh := .inl ci) hi
  obtain ⟨p, l1, e, Rm, s, m, args, below, meth, c, G, A, ad0, S0, Q⟩ := X
  obtain ⟨rfl, rfl, hx, hb, hml, hown, hts, hK, hA, hlk⟩ := h
  intro ad H locs lsC h0 hAd hR hS hl hlv
  subst hq; subst hN
  have hKn := hK.1.1 ci _ hci
  refine W.newcK hx hb hown (hts _ hw1) (hts _ hw2) (hts _ hw3) rfl hd hcs hss hKn.2.1 rfl fun H1 kC hkC e1 z1 o1 => ?_
  obtain ⟨f1, f2, f3⟩ := hfr ad H H1 locs lsC hR hl hlv
  have hsi : ∀ j, S j ≠ none → j ≠ i := fun j hj z => hj (by rw [z]; exact hi)
  have hrep : ax_Rep G (fun j => if j = i then H.size else ad j) (ax_add S i (.inl ci)) (ax_row I i 0) (ax_row R i none) (ax_row L i 0) H1 := by
    refine hR.new hi H.size rfl ⟨w, hci, ?_⟩ (fun a ha k => by simp [ax_row, ha]) (fun a ha k => by simp [ax_row, ha]) (fun a ha k => by simp [ax_row, ha]) (fun k => by simp [ax_row]) o1
    simp only [if_pos]
    refine (u_born (ty := fun k => ax_ty w k) hts (ax_cls_ok ci w hci).1 hKn hkC e1 (fun k hk => ?_)).to (fun k hk => ?_)
    · obtain ⟨t, ht⟩ := (ax_cls_ok ci w hci).2.1 k hk
      rw [ax_ty_of ht]; exact ht
    · simp only [ax_row, if_pos]
      exact ax_dv (ax_cls_sort ci w hci k hk)
  have hz := kk (fun j => if j = i then H.size else ad j) H1 locs lsC (fun j hj => ?_) (fun j hj => ?_) hrep ⟨Nat.le_trans hS.1 (by omega), fun x h1 h2 => (o1 x (Nat.lt_of_lt_of_le h1 hS.1)).trans (hS.2.1 x h1 h2), hS.2.2⟩ f1 f3
  · rw [List.map_cons, f2] at hz
    simp only [ax_tv, if_pos] at hz
    exact hz
  · obtain ⟨h1, h2⟩ := h0 j hj
    exact ⟨by simp [ax_add, hsi j h1, h1], by simp [hsi j h1, h2]⟩
  · by_cases hji : j = i
    · simp only [hji, if_pos]
      exact hA _ hS.1
    · simp only [hji, if_neg, not_false_eq_true]
      exact hAd j (by simp only [ax_add, hji, if_neg, not_false_eq_true] at hj; exact hj)
theorem ax_newa (h : ax_ok X l own cc nL rm) {atype : ArrayType} {ty : FieldType} {ai len : Nat} {x : Int32} (i : Nat) (hd : decode cc pc = .ok (.newarray atype, 2)) (hq : pc + 2 = q) (hty : newarray.typeOf atype = ty) (hai : ax_ar[ai]? = some ty) (hprim : ty = .int ∨ ty = .long) (hw : Cond.arrayClass ty ∈ ax_tb) (hi : S i = none) (hx0 : x = nI len) (hlen : len < 100000) (hcs : cs + 1 ≤ rm.cells) (hss : ss + len ≤ rm.slots)
    (kk : ax_W X nL q ls (.ref i :: st) (ax_add S i (.inr (ai, len))) (ax_row I i 0) (ax_row R i none) (ax_row L i 0) (cs + 1) (ss + len)) : ax_W X nL pc ls (.int x :: st) S I R L cs ss := by
  have hfr := ax_fresh (st := st) (ls := ls) (I := I) (R := R) (L := L) h (sh := .inr (ai, len)) hi
  obtain ⟨p, l1, e, Rm, s, m, args, below, meth, c, G, A, ad0, S0, Q⟩ := X
  obtain ⟨rfl, rfl, hx, hb, hml, hown, hts, hK, hA, hlk⟩ := h
  intro ad H locs lsC h0 hAd hR hS hl hlv
  subst hq; subst hx0; subst hty
  obtain ⟨cA2, hc2, hAr, hRA⟩ := hK.arr hai
  have hcl : (nI len).toNatClampNeg = len := nI_clamp (by omega)
  refine va_newaK hx hb (hts _ hw) rfl hd (N := len) rfl (nI_pos (by omega)) hcl (by rcases hprim with z | z <;> rw [z] <;> simp only [componentBytes] <;> omega) hcs hss (h := H.size) rfl fun H1 cA e1 z1 o1 hAr1 hfc => ?_
  have hcc : cA = cA2 := by
    rcases hprim with z | z
    · rw [z] at hRA hfc; exact Option.some.inj (hfc.symm.trans hRA)
    · rw [z] at hRA hfc; exact Option.some.inj (hfc.symm.trans hRA)
  subst hcc
  obtain ⟨f1, f2, f3⟩ := hfr ad H H1 locs lsC hR hl hlv.pop
  have hsi : ∀ j, S j ≠ none → j ≠ i := fun j hj z => hj (by rw [z]; exact hi)
  have hrep : ax_Rep G (fun j => if j = i then H.size else ad j) (ax_add S i (.inr (ai, len))) (ax_row I i 0) (ax_row R i none) (ax_row L i 0) H1 := by
    refine hR.new hi H.size rfl ⟨_, hc2, ?_⟩ (fun a ha k => by simp [ax_row, ha]) (fun a ha k => by simp [ax_row, ha]) (fun a ha k => by simp [ax_row, ha]) (fun k => by simp [ax_row]) o1
    simp only [if_pos]
    rw [e1]
    congr 2
    funext k
    rcases hprim with z | z <;> rw [z] <;> simp [ax_row, ax_v, defaultValue]
  have hz := kk (fun j => if j = i then H.size else ad j) H1 locs lsC (fun j hj => ?_) (fun j hj => ?_) hrep ⟨Nat.le_trans hS.1 (by omega), fun x h1 h2 => (o1 x (Nat.lt_of_lt_of_le h1 hS.1)).trans (hS.2.1 x h1 h2), hS.2.2⟩ f1 f3
  · rw [List.map_cons, f2] at hz
    simp only [ax_tv, if_pos] at hz
    exact hz
  · obtain ⟨h1, h2⟩ := h0 j hj
    exact ⟨by simp [ax_add, hsi j h1, h1], by simp [hsi j h1, h2]⟩
  · by_cases hji : j = i
    · simp only [hji, if_pos]
      exact hA _ hS.1
    · simp only [hji, if_neg, not_false_eq_true]
      exact hAd j (by simp only [ax_add, hji, if_neg, not_false_eq_true] at hj; exact hj)
theorem ax_anew (h : ax_ok X l own cc nL rm) {C : String} {idx ai len : Nat} {x : Int32} (i : Nat) (hd : decode cc pc = .ok (.anewarray idx, 3)) (hq : pc + 3 = q) (hai : ax_ar[ai]? = some (.object C)) (hw : Cond.classLink own idx C ∈ ax_tb) (hao : C ∈ ax_ao) (hi : S i = none) (hx0 : x = nI len) (hlen : len < 100000) (hcs : cs + 1 ≤ rm.cells) (hss : ss + len ≤ rm.slots)
    (kk : ax_W X nL q ls (.ref i :: st) (ax_add S i (.inr (ai, len))) (ax_row I i 0) (ax_row R i none) (ax_row L i 0) (cs + 1) (ss + len)) : ax_W X nL pc ls (.int x :: st) S I R L cs ss := by
  have hfr := ax_fresh (st := st) (ls := ls) (I := I) (R := R) (L := L) h (sh := .inr (ai, len)) hi
  obtain ⟨p, l1, e, Rm, s, m, args, below, meth, c, G, A, ad0, S0, Q⟩ := X
  obtain ⟨rfl, rfl, hx, hb, hml, hown, hts, hK, hA, hlk⟩ := h
  intro ad H locs lsC h0 hAd hR hS hl hlv
  subst hq; subst hx0
  obtain ⟨cA2, hc2, hAr, kA2, comp2, k1, k2, k3, k4⟩ := hK.arr hai
  have hcl : (nI len).toNatClampNeg = len := nI_clamp (by omega)
  refine W.anew hx hb hown (hts _ hw) (va_AO.use (hK.2.2.2.1 C hao)) rfl hd rfl (nI_pos (by omega)) (by rw [hcl]; omega) hcs (by rw [hcl]; exact hss) fun cA kA comp g1 g2 g3 g4 => ?_
  cases k4.symm.trans g1
  rw [hcl]
  generalize hH1 : H.push ({ cls := cA2, slots := Array.replicate len .null, vm := .none } : Cell) = H1
  have z1 : H1.size = H.size + 1 := by rw [← hH1, Array.size_push]
  have e1 : H1[H.size]? = some (arrV cA2 len (fun _ => .null)) := by rw [← hH1, Array.getElem?_push_size, ← arrV_new]
  have o1 : ∀ q : Nat, q < H.size → H1[q]? = H[q]? := fun q hq => by rw [← hH1, Array.getElem?_push, if_neg (Nat.ne_of_lt hq)]
  obtain ⟨f1, f2, f3⟩ := hfr ad H H1 locs lsC hR hl hlv.pop
  have hsi : ∀ j, S j ≠ none → j ≠ i := fun j hj z => hj (by rw [z]; exact hi)
  have hrep : ax_Rep G (fun j => if j = i then H.size else ad j) (ax_add S i (.inr (ai, len))) (ax_row I i 0) (ax_row R i none) (ax_row L i 0) H1 := by
    refine hR.new hi H.size rfl ⟨_, hc2, ?_⟩ (fun a ha k => by simp [ax_row, ha]) (fun a ha k => by simp [ax_row, ha]) (fun a ha k => by simp [ax_row, ha]) (fun k => by simp [ax_row]) o1
    simp only [if_pos]
    rw [e1]
    congr 2
    funext k
    simp [ax_row, ax_v, va_rf]
  have hz := kk (fun j => if j = i then H.size else ad j) H1 locs lsC (fun j hj => ?_) (fun j hj => ?_) hrep ⟨Nat.le_trans hS.1 (by omega), fun x h1 h2 => (o1 x (Nat.lt_of_lt_of_le h1 hS.1)).trans (hS.2.1 x h1 h2), hS.2.2⟩ f1 f3
  · rw [List.map_cons, f2] at hz
    simp only [ax_tv, if_pos] at hz
    exact hz
  · obtain ⟨h1, h2⟩ := h0 j hj
    exact ⟨by simp [ax_add, hsi j h1, h1], by simp [hsi j h1, h2]⟩
  · by_cases hji : j = i
    · simp only [hji, if_pos]
      exact hA _ hS.1
    · simp only [hji, if_neg, not_false_eq_true]
      exact hAd j (by simp only [ax_add, hji, if_neg, not_false_eq_true] at hj; exact hj)
end AXM
