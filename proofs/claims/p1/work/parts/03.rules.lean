/-! AX, the rules: an instruction each (q: the next pc) -/
section AXR
variable {X : ax_X} {l : Launch} {own : String} {cc : ByteArray} {nL : Nat} {rm : Room} {pc q : Nat} {ls ls' : ax_Ls} {st : List Value} {S : ax_S} {I : ax_I} {R : ax_R} {L : ax_L} {cs ss : Nat}
theorem ax_iconst (h : ax_ok X l own cc nL rm) {n : Int} {v : Int32} (hd : decode cc pc = .ok (.iconst n, 1)) (hq : pc + 1 = q) (hv : Int32.ofInt n = v) (kk : ax_W X nL q ls (.int v :: st) S I R L cs ss) : ax_W X nL pc ls st S I R L cs ss := by
  obtain ⟨p, l1, e, Rm, s, m, args, below, meth, c, G, A, ad0, S0, Q⟩ := X
  obtain ⟨rfl, rfl, hx, hb, hml, hown, hts, hK, hA, hlk⟩ := h
  intro ad H locs lsC h0 hAd hR hS hl hlv
  subst hq
  exact lv_iconst hx hb hd hv (kk ad H locs lsC h0 hAd hR hS hl (hlv.push ax_okv_i))
theorem ax_bipush (h : ax_ok X l own cc nL rm) {n : Int} {v : Int32} (hd : decode cc pc = .ok (.bipush n, 2)) (hq : pc + 2 = q) (hv : (Int8.ofInt n).toInt32 = v) (kk : ax_W X nL q ls (.int v :: st) S I R L cs ss) : ax_W X nL pc ls st S I R L cs ss := by
  obtain ⟨p, l1, e, Rm, s, m, args, below, meth, c, G, A, ad0, S0, Q⟩ := X
  obtain ⟨rfl, rfl, hx, hb, hml, hown, hts, hK, hA, hlk⟩ := h
  intro ad H locs lsC h0 hAd hR hS hl hlv
  subst hq
  exact lv_bipush hx hb hd hv (kk ad H locs lsC h0 hAd hR hS hl (hlv.push ax_okv_i))
theorem ax_sipush (h : ax_ok X l own cc nL rm) {n : Int} {v : Int32} (hd : decode cc pc = .ok (.sipush n, 3)) (hq : pc + 3 = q) (hv : (Int16.ofInt n).toInt32 = v) (kk : ax_W X nL q ls (.int v :: st) S I R L cs ss) : ax_W X nL pc ls st S I R L cs ss := by
  obtain ⟨p, l1, e, Rm, s, m, args, below, meth, c, G, A, ad0, S0, Q⟩ := X
  obtain ⟨rfl, rfl, hx, hb, hml, hown, hts, hK, hA, hlk⟩ := h
  intro ad H locs lsC h0 hAd hR hS hl hlv
  subst hq
  exact lv_sipush hx hb hd hv (kk ad H locs lsC h0 hAd hR hS hl (hlv.push ax_okv_i))
theorem ax_ldc (h : ax_ok X l own cc nL rm) {idx : Nat} {v : Int32} (hd : decode cc pc = .ok (.ldc idx, 2)) (hq : pc + 2 = q) (hw : Cond.constant own idx v ∈ ax_tb) (kk : ax_W X nL q ls (.int v :: st) S I R L cs ss) : ax_W X nL pc ls st S I R L cs ss := by
  obtain ⟨p, l1, e, Rm, s, m, args, below, meth, c, G, A, ad0, S0, Q⟩ := X
  obtain ⟨rfl, rfl, hx, hb, hml, hown, hts, hK, hA, hlk⟩ := h
  intro ad H locs lsC h0 hAd hR hS hl hlv
  subst hq
  exact lv_ldc hx hb hown (hts _ hw) hd (kk ad H locs lsC h0 hAd hR hS hl (hlv.push ax_okv_i))
theorem ax_ldcw (h : ax_ok X l own cc nL rm) {idx : Nat} {v : Int32} (hd : decode cc pc = .ok (.ldc_w idx, 3)) (hq : pc + 3 = q) (hw : Cond.constant own idx v ∈ ax_tb) (kk : ax_W X nL q ls (.int v :: st) S I R L cs ss) : ax_W X nL pc ls st S I R L cs ss := by
  obtain ⟨p, l1, e, Rm, s, m, args, below, meth, c, G, A, ad0, S0, Q⟩ := X
  obtain ⟨rfl, rfl, hx, hb, hml, hown, hts, hK, hA, hlk⟩ := h
  intro ad H locs lsC h0 hAd hR hS hl hlv
  subst hq
  exact lv_ldcw hx hb hown (hts _ hw) hd (kk ad H locs lsC h0 hAd hR hS hl (hlv.push ax_okv_i))
theorem ax_iload_n (h : ax_ok X l own cc nL rm) {k : Fin 4} {i : Nat} {x : Int32} (hd : decode cc pc = .ok (.iload_n k, 1)) (hq : pc + 1 = q) (hi : (k : Nat) = i) (hl0 : ls[i]? = some (some (.int x))) (kk : ax_W X nL q ls (.int x :: st) S I R L cs ss) : ax_W X nL pc ls st S I R L cs ss := by
  obtain ⟨p, l1, e, Rm, s, m, args, below, meth, c, G, A, ad0, S0, Q⟩ := X
  obtain ⟨rfl, rfl, hx, hb, hml, hown, hts, hK, hA, hlk⟩ := h
  intro ad H locs lsC h0 hAd hR hS hl hlv
  subst hq
  exact lv_iload_n hx hb hd hi (hl.get hl0) (kk ad H locs lsC h0 hAd hR hS hl (hlv.push ax_okv_i))
theorem ax_iload (h : ax_ok X l own cc nL rm) {i : Nat} {x : Int32} (hd : decode cc pc = .ok (.iload i, 2)) (hq : pc + 2 = q) (hl0 : ls[i]? = some (some (.int x))) (kk : ax_W X nL q ls (.int x :: st) S I R L cs ss) : ax_W X nL pc ls st S I R L cs ss := by
  obtain ⟨p, l1, e, Rm, s, m, args, below, meth, c, G, A, ad0, S0, Q⟩ := X
  obtain ⟨rfl, rfl, hx, hb, hml, hown, hts, hK, hA, hlk⟩ := h
  intro ad H locs lsC h0 hAd hR hS hl hlv
  subst hq
  exact lv_iload hx hb hd (hl.get hl0) (kk ad H locs lsC h0 hAd hR hS hl (hlv.push ax_okv_i))
theorem ax_istore_n (h : ax_ok X l own cc nL rm) {k : Fin 4} {i : Nat} {x : Int32} (hd : decode cc pc = .ok (.istore_n k, 1)) (hq : pc + 1 = q) (hi : (k : Nat) = i) (hn : i < nL) (hls : ls.set i (some (.int x)) = ls') (kk : ax_W X nL q ls' st S I R L cs ss) : ax_W X nL pc ls (.int x :: st) S I R L cs ss := by
  obtain ⟨p, l1, e, Rm, s, m, args, below, meth, c, G, A, ad0, S0, Q⟩ := X
  obtain ⟨rfl, rfl, hx, hb, hml, hown, hts, hK, hA, hlk⟩ := h
  intro ad H locs lsC h0 hAd hR hS hl hlv
  subst hq; subst hls
  refine lv_istore_n hx hb hd hi hl.2.2 hn rfl (fun lsD hD => ?_)
  exact kk ad H locs lsD h0 hAd hR hS (hl.set rfl hD) (hlv.pop.sto i hlv.top)
theorem ax_istore (h : ax_ok X l own cc nL rm) {i : Nat} {x : Int32} (hd : decode cc pc = .ok (.istore i, 2)) (hq : pc + 2 = q) (hn : i < nL) (hls : ls.set i (some (.int x)) = ls') (kk : ax_W X nL q ls' st S I R L cs ss) : ax_W X nL pc ls (.int x :: st) S I R L cs ss := by
  obtain ⟨p, l1, e, Rm, s, m, args, below, meth, c, G, A, ad0, S0, Q⟩ := X
  obtain ⟨rfl, rfl, hx, hb, hml, hown, hts, hK, hA, hlk⟩ := h
  intro ad H locs lsC h0 hAd hR hS hl hlv
  subst hq; subst hls
  refine lv_istore hx hb hd hl.2.2 hn rfl (fun lsD hD => ?_)
  exact kk ad H locs lsD h0 hAd hR hS (hl.set rfl hD) (hlv.pop.sto i hlv.top)
theorem ax_aload_n (h : ax_ok X l own cc nL rm) {k : Fin 4} {i : Nat} {x : Nat} (hd : decode cc pc = .ok (.aload_n k, 1)) (hq : pc + 1 = q) (hi : (k : Nat) = i) (hl0 : ls[i]? = some (some (.ref x))) (kk : ax_W X nL q ls (.ref x :: st) S I R L cs ss) : ax_W X nL pc ls st S I R L cs ss := by
  obtain ⟨p, l1, e, Rm, s, m, args, below, meth, c, G, A, ad0, S0, Q⟩ := X
  obtain ⟨rfl, rfl, hx, hb, hml, hown, hts, hK, hA, hlk⟩ := h
  intro ad H locs lsC h0 hAd hR hS hl hlv
  subst hq
  exact lv_aload_n hx hb hd hi (hl.get hl0) (kk ad H locs lsC h0 hAd hR hS hl (hlv.push (hlv.2 _ (List.mem_of_getElem? hl0))))
theorem ax_aload (h : ax_ok X l own cc nL rm) {i : Nat} {x : Nat} (hd : decode cc pc = .ok (.aload i, 2)) (hq : pc + 2 = q) (hl0 : ls[i]? = some (some (.ref x))) (kk : ax_W X nL q ls (.ref x :: st) S I R L cs ss) : ax_W X nL pc ls st S I R L cs ss := by
  obtain ⟨p, l1, e, Rm, s, m, args, below, meth, c, G, A, ad0, S0, Q⟩ := X
  obtain ⟨rfl, rfl, hx, hb, hml, hown, hts, hK, hA, hlk⟩ := h
  intro ad H locs lsC h0 hAd hR hS hl hlv
  subst hq
  exact lv_aload hx hb hd (hl.get hl0) (kk ad H locs lsC h0 hAd hR hS hl (hlv.push (hlv.2 _ (List.mem_of_getElem? hl0))))
theorem ax_astore_n (h : ax_ok X l own cc nL rm) {k : Fin 4} {i : Nat} {x : Nat} (hd : decode cc pc = .ok (.astore_n k, 1)) (hq : pc + 1 = q) (hi : (k : Nat) = i) (hn : i < nL) (hls : ls.set i (some (.ref x)) = ls') (kk : ax_W X nL q ls' st S I R L cs ss) : ax_W X nL pc ls (.ref x :: st) S I R L cs ss := by
  obtain ⟨p, l1, e, Rm, s, m, args, below, meth, c, G, A, ad0, S0, Q⟩ := X
  obtain ⟨rfl, rfl, hx, hb, hml, hown, hts, hK, hA, hlk⟩ := h
  intro ad H locs lsC h0 hAd hR hS hl hlv
  subst hq; subst hls
  refine lv_astore_n hx hb hd hi hl.2.2 hn rfl (fun lsD hD => ?_)
  exact kk ad H locs lsD h0 hAd hR hS (hl.set rfl hD) (hlv.pop.sto i hlv.top)
theorem ax_astore (h : ax_ok X l own cc nL rm) {i : Nat} {x : Nat} (hd : decode cc pc = .ok (.astore i, 2)) (hq : pc + 2 = q) (hn : i < nL) (hls : ls.set i (some (.ref x)) = ls') (kk : ax_W X nL q ls' st S I R L cs ss) : ax_W X nL pc ls (.ref x :: st) S I R L cs ss := by
  obtain ⟨p, l1, e, Rm, s, m, args, below, meth, c, G, A, ad0, S0, Q⟩ := X
  obtain ⟨rfl, rfl, hx, hb, hml, hown, hts, hK, hA, hlk⟩ := h
  intro ad H locs lsC h0 hAd hR hS hl hlv
  subst hq; subst hls
  refine lv_astore hx hb hd hl.2.2 hn rfl (fun lsD hD => ?_)
  exact kk ad H locs lsD h0 hAd hR hS (hl.set rfl hD) (hlv.pop.sto i hlv.top)
theorem ax_iinc (h : ax_ok X l own cc nL rm) {i : Nat} {n : Int} {x v : Int32} (hd : decode cc pc = .ok (.iinc i n, 3)) (hq : pc + 3 = q) (hl0 : ls[i]? = some (some (.int x))) (hv : x + Int32.ofInt n = v) (hn : i < nL) (hls : ls.set i (some (.int v)) = ls') (kk : ax_W X nL q ls' st S I R L cs ss) : ax_W X nL pc ls st S I R L cs ss := by
  obtain ⟨p, l1, e, Rm, s, m, args, below, meth, c, G, A, ad0, S0, Q⟩ := X
  obtain ⟨rfl, rfl, hx, hb, hml, hown, hts, hK, hA, hlk⟩ := h
  intro ad H locs lsC h0 hAd hR hS hl hlv
  subst hq; subst hls
  obtain ⟨k, hk⟩ := List.getElem?_of_mem (ax_pr_mem (ad := ad) hl0)
  refine lv_iinc hx hb hd hl.2.2 hk hv hn rfl (fun lsD hD => ?_)
  exact kk ad H locs lsD h0 hAd hR hS (hl.set rfl hD) (hlv.sto i ax_okv_i)
theorem ax_iadd (h : ax_ok X l own cc nL rm) {x y : Int32} (hd : decode cc pc = .ok (.iadd, 1)) (hq : pc + 1 = q)  (kk : ax_W X nL q ls (.int (x + y) :: st) S I R L cs ss) : ax_W X nL pc ls (.int y :: .int x :: st) S I R L cs ss := by
  obtain ⟨p, l1, e, Rm, s, m, args, below, meth, c, G, A, ad0, S0, Q⟩ := X
  obtain ⟨rfl, rfl, hx, hb, hml, hown, hts, hK, hA, hlk⟩ := h
  intro ad H locs lsC h0 hAd hR hS hl hlv
  subst hq
  exact lv_iadd hx hb hd  (kk ad H locs lsC h0 hAd hR hS hl (hlv.pop.pop.push ax_okv_i))
theorem ax_isub (h : ax_ok X l own cc nL rm) {x y : Int32} (hd : decode cc pc = .ok (.isub, 1)) (hq : pc + 1 = q)  (kk : ax_W X nL q ls (.int (x - y) :: st) S I R L cs ss) : ax_W X nL pc ls (.int y :: .int x :: st) S I R L cs ss := by
  obtain ⟨p, l1, e, Rm, s, m, args, below, meth, c, G, A, ad0, S0, Q⟩ := X
  obtain ⟨rfl, rfl, hx, hb, hml, hown, hts, hK, hA, hlk⟩ := h
  intro ad H locs lsC h0 hAd hR hS hl hlv
  subst hq
  exact lv_isub hx hb hd  (kk ad H locs lsC h0 hAd hR hS hl (hlv.pop.pop.push ax_okv_i))
theorem ax_imul (h : ax_ok X l own cc nL rm) {x y : Int32} (hd : decode cc pc = .ok (.imul, 1)) (hq : pc + 1 = q)  (kk : ax_W X nL q ls (.int (x * y) :: st) S I R L cs ss) : ax_W X nL pc ls (.int y :: .int x :: st) S I R L cs ss := by
  obtain ⟨p, l1, e, Rm, s, m, args, below, meth, c, G, A, ad0, S0, Q⟩ := X
  obtain ⟨rfl, rfl, hx, hb, hml, hown, hts, hK, hA, hlk⟩ := h
  intro ad H locs lsC h0 hAd hR hS hl hlv
  subst hq
  exact lv_imul hx hb hd  (kk ad H locs lsC h0 hAd hR hS hl (hlv.pop.pop.push ax_okv_i))
theorem ax_iand (h : ax_ok X l own cc nL rm) {x y : Int32} (hd : decode cc pc = .ok (.iand, 1)) (hq : pc + 1 = q)  (kk : ax_W X nL q ls (.int (x &&& y) :: st) S I R L cs ss) : ax_W X nL pc ls (.int y :: .int x :: st) S I R L cs ss := by
  obtain ⟨p, l1, e, Rm, s, m, args, below, meth, c, G, A, ad0, S0, Q⟩ := X
  obtain ⟨rfl, rfl, hx, hb, hml, hown, hts, hK, hA, hlk⟩ := h
  intro ad H locs lsC h0 hAd hR hS hl hlv
  subst hq
  exact lv_iand hx hb hd  (kk ad H locs lsC h0 hAd hR hS hl (hlv.pop.pop.push ax_okv_i))
theorem ax_ior (h : ax_ok X l own cc nL rm) {x y : Int32} (hd : decode cc pc = .ok (.ior, 1)) (hq : pc + 1 = q)  (kk : ax_W X nL q ls (.int (x ||| y) :: st) S I R L cs ss) : ax_W X nL pc ls (.int y :: .int x :: st) S I R L cs ss := by
  obtain ⟨p, l1, e, Rm, s, m, args, below, meth, c, G, A, ad0, S0, Q⟩ := X
  obtain ⟨rfl, rfl, hx, hb, hml, hown, hts, hK, hA, hlk⟩ := h
  intro ad H locs lsC h0 hAd hR hS hl hlv
  subst hq
  exact lv_ior hx hb hd  (kk ad H locs lsC h0 hAd hR hS hl (hlv.pop.pop.push ax_okv_i))
theorem ax_ixor (h : ax_ok X l own cc nL rm) {x y : Int32} (hd : decode cc pc = .ok (.ixor, 1)) (hq : pc + 1 = q)  (kk : ax_W X nL q ls (.int (x ^^^ y) :: st) S I R L cs ss) : ax_W X nL pc ls (.int y :: .int x :: st) S I R L cs ss := by
  obtain ⟨p, l1, e, Rm, s, m, args, below, meth, c, G, A, ad0, S0, Q⟩ := X
  obtain ⟨rfl, rfl, hx, hb, hml, hown, hts, hK, hA, hlk⟩ := h
  intro ad H locs lsC h0 hAd hR hS hl hlv
  subst hq
  exact lv_ixor hx hb hd  (kk ad H locs lsC h0 hAd hR hS hl (hlv.pop.pop.push ax_okv_i))
theorem ax_ishl (h : ax_ok X l own cc nL rm) {x y : Int32} (hd : decode cc pc = .ok (.ishl, 1)) (hq : pc + 1 = q)  (kk : ax_W X nL q ls (.int (x <<< (y &&& 31)) :: st) S I R L cs ss) : ax_W X nL pc ls (.int y :: .int x :: st) S I R L cs ss := by
  obtain ⟨p, l1, e, Rm, s, m, args, below, meth, c, G, A, ad0, S0, Q⟩ := X
  obtain ⟨rfl, rfl, hx, hb, hml, hown, hts, hK, hA, hlk⟩ := h
  intro ad H locs lsC h0 hAd hR hS hl hlv
  subst hq
  exact lv_ishl hx hb hd  (kk ad H locs lsC h0 hAd hR hS hl (hlv.pop.pop.push ax_okv_i))
theorem ax_ishr (h : ax_ok X l own cc nL rm) {x y : Int32} (hd : decode cc pc = .ok (.ishr, 1)) (hq : pc + 1 = q)  (kk : ax_W X nL q ls (.int (x >>> (y &&& 31)) :: st) S I R L cs ss) : ax_W X nL pc ls (.int y :: .int x :: st) S I R L cs ss := by
  obtain ⟨p, l1, e, Rm, s, m, args, below, meth, c, G, A, ad0, S0, Q⟩ := X
  obtain ⟨rfl, rfl, hx, hb, hml, hown, hts, hK, hA, hlk⟩ := h
  intro ad H locs lsC h0 hAd hR hS hl hlv
  subst hq
  exact lv_ishr hx hb hd  (kk ad H locs lsC h0 hAd hR hS hl (hlv.pop.pop.push ax_okv_i))
theorem ax_irem (h : ax_ok X l own cc nL rm) {x y : Int32} (hd : decode cc pc = .ok (.irem, 1)) (hq : pc + 1 = q) (hne : ¬ y = 0) (kk : ax_W X nL q ls (.int (x - x / y * y) :: st) S I R L cs ss) : ax_W X nL pc ls (.int y :: .int x :: st) S I R L cs ss := by
  obtain ⟨p, l1, e, Rm, s, m, args, below, meth, c, G, A, ad0, S0, Q⟩ := X
  obtain ⟨rfl, rfl, hx, hb, hml, hown, hts, hK, hA, hlk⟩ := h
  intro ad H locs lsC h0 hAd hR hS hl hlv
  subst hq
  exact lv_irem hx hb hd hne (kk ad H locs lsC h0 hAd hR hS hl (hlv.pop.pop.push ax_okv_i))
theorem ax_idiv (h : ax_ok X l own cc nL rm) {x y : Int32} (hd : decode cc pc = .ok (.idiv, 1)) (hq : pc + 1 = q) (hne : ¬ y = 0) (kk : ax_W X nL q ls (.int (x / y) :: st) S I R L cs ss) : ax_W X nL pc ls (.int y :: .int x :: st) S I R L cs ss := by
  obtain ⟨p, l1, e, Rm, s, m, args, below, meth, c, G, A, ad0, S0, Q⟩ := X
  obtain ⟨rfl, rfl, hx, hb, hml, hown, hts, hK, hA, hlk⟩ := h
  intro ad H locs lsC h0 hAd hR hS hl hlv
  subst hq
  exact lv_idiv hx hb hd hne (kk ad H locs lsC h0 hAd hR hS hl (hlv.pop.pop.push ax_okv_i))
theorem ax_ineg (h : ax_ok X l own cc nL rm) {x : Int32} (hd : decode cc pc = .ok (.ineg, 1)) (hq : pc + 1 = q) (kk : ax_W X nL q ls (.int (-x) :: st) S I R L cs ss) : ax_W X nL pc ls (.int x :: st) S I R L cs ss := by
  obtain ⟨p, l1, e, Rm, s, m, args, below, meth, c, G, A, ad0, S0, Q⟩ := X
  obtain ⟨rfl, rfl, hx, hb, hml, hown, hts, hK, hA, hlk⟩ := h
  intro ad H locs lsC h0 hAd hR hS hl hlv
  subst hq
  exact lv_ineg hx hb hd (kk ad H locs lsC h0 hAd hR hS hl (hlv.pop.push ax_okv_i))
theorem ax_i2l (h : ax_ok X l own cc nL rm) {x : Int32} {v : Int64} (hd : decode cc pc = .ok (.i2l, 1)) (hq : pc + 1 = q) (hv : x.toInt64 = v) (kk : ax_W X nL q ls (.long v :: st) S I R L cs ss) : ax_W X nL pc ls (.int x :: st) S I R L cs ss := by
  obtain ⟨p, l1, e, Rm, s, m, args, below, meth, c, G, A, ad0, S0, Q⟩ := X
  obtain ⟨rfl, rfl, hx, hb, hml, hown, hts, hK, hA, hlk⟩ := h
  intro ad H locs lsC h0 hAd hR hS hl hlv
  subst hq
  exact lv_i2l hx hb hd hv (kk ad H locs lsC h0 hAd hR hS hl (hlv.pop.push ax_okv_l))
theorem ax_lcmp (h : ax_ok X l own cc nL rm) {x y : Int64} (hd : decode cc pc = .ok (.lcmp, 1)) (hq : pc + 1 = q) (kk : ax_W X nL q ls (.int (lg_cmp x y) :: st) S I R L cs ss) : ax_W X nL pc ls (.long y :: .long x :: st) S I R L cs ss := by
  obtain ⟨p, l1, e, Rm, s, m, args, below, meth, c, G, A, ad0, S0, Q⟩ := X
  obtain ⟨rfl, rfl, hx, hb, hml, hown, hts, hK, hA, hlk⟩ := h
  intro ad H locs lsC h0 hAd hR hS hl hlv
  subst hq
  exact W.lcmp hx hb hd (kk ad H locs lsC h0 hAd hR hS hl (hlv.pop.pop.push ax_okv_i))
theorem ax_dup (h : ax_ok X l own cc nL rm) {v : Value} (hd : decode cc pc = .ok (.dup, 1)) (hq : pc + 1 = q) (hc : v.category = 1) (kk : ax_W X nL q ls (v :: v :: st) S I R L cs ss) : ax_W X nL pc ls (v :: st) S I R L cs ss := by
  obtain ⟨p, l1, e, Rm, s, m, args, below, meth, c, G, A, ad0, S0, Q⟩ := X
  obtain ⟨rfl, rfl, hx, hb, hml, hown, hts, hK, hA, hlk⟩ := h
  intro ad H locs lsC h0 hAd hR hS hl hlv
  subst hq
  exact lv_dup hx hb hd ((ax_tv_cat ad v).trans hc) (kk ad H locs lsC h0 hAd hR hS hl (hlv.push hlv.top))
theorem ax_pop (h : ax_ok X l own cc nL rm) {v : Value} (hd : decode cc pc = .ok (.pop, 1)) (hq : pc + 1 = q) (hc : v.category = 1) (kk : ax_W X nL q ls st S I R L cs ss) : ax_W X nL pc ls (v :: st) S I R L cs ss := by
  obtain ⟨p, l1, e, Rm, s, m, args, below, meth, c, G, A, ad0, S0, Q⟩ := X
  obtain ⟨rfl, rfl, hx, hb, hml, hown, hts, hK, hA, hlk⟩ := h
  intro ad H locs lsC h0 hAd hR hS hl hlv
  subst hq
  exact lv_pop hx hb hd ((ax_tv_cat ad v).trans hc) (kk ad H locs lsC h0 hAd hR hS hl hlv.pop)
theorem ax_dup_x1 (h : ax_ok X l own cc nL rm) {v w : Value} (hd : decode cc pc = .ok (.dup_x1, 1)) (hq : pc + 1 = q) (hc : v.category = 1) (hc2 : w.category = 1) (kk : ax_W X nL q ls (v :: w :: v :: st) S I R L cs ss) : ax_W X nL pc ls (v :: w :: st) S I R L cs ss := by
  obtain ⟨p, l1, e, Rm, s, m, args, below, meth, c, G, A, ad0, S0, Q⟩ := X
  obtain ⟨rfl, rfl, hx, hb, hml, hown, hts, hK, hA, hlk⟩ := h
  intro ad H locs lsC h0 hAd hR hS hl hlv
  subst hq
  exact lv_dup_x1 hx hb hd ((ax_tv_cat ad v).trans hc) ((ax_tv_cat ad w).trans hc2) (kk ad H locs lsC h0 hAd hR hS hl (((hlv.pop.pop.push hlv.top).push hlv.pop.top).push hlv.top))
theorem ax_dup2 (h : ax_ok X l own cc nL rm) {v w : Value} (hd : decode cc pc = .ok (.dup2, 1)) (hq : pc + 1 = q) (hc : v.category = 1) (hc2 : w.category = 1) (kk : ax_W X nL q ls (v :: w :: v :: w :: st) S I R L cs ss) : ax_W X nL pc ls (v :: w :: st) S I R L cs ss := by
  obtain ⟨p, l1, e, Rm, s, m, args, below, meth, c, G, A, ad0, S0, Q⟩ := X
  obtain ⟨rfl, rfl, hx, hb, hml, hown, hts, hK, hA, hlk⟩ := h
  intro ad H locs lsC h0 hAd hR hS hl hlv
  subst hq
  exact lv_dup2_11 hx hb hd ((ax_tv_cat ad v).trans hc) ((ax_tv_cat ad w).trans hc2) (kk ad H locs lsC h0 hAd hR hS hl ((hlv.push hlv.pop.top).push hlv.top))
theorem ax_if_eq (h : ax_ok X l own cc nL rm) {x : Int32} {off : Int} {tgt : Nat} (hd : decode cc pc = .ok (.ifCond .eq off, 3)) (hq : pc + 3 = q) (ht : (pc : Int) + off = (tgt : Int)) (kt : x = 0 → ax_W X nL tgt ls st S I R L cs ss) (kf : ¬ x = 0 → ax_W X nL q ls st S I R L cs ss) : ax_W X nL pc ls (.int x :: st) S I R L cs ss := by
  obtain ⟨p, l1, e, Rm, s, m, args, below, meth, c, G, A, ad0, S0, Q⟩ := X
  obtain ⟨rfl, rfl, hx, hb, hml, hown, hts, hK, hA, hlk⟩ := h
  intro ad H locs lsC h0 hAd hR hS hl hlv
  subst hq
  exact lv_if_eq hx hb hd ht (fun z => kt z ad H locs lsC h0 hAd hR hS hl hlv.pop) (fun z => kf z ad H locs lsC h0 hAd hR hS hl hlv.pop)
theorem ax_icmp_eq (h : ax_ok X l own cc nL rm) {x y : Int32} {off : Int} {tgt : Nat} (hd : decode cc pc = .ok (.if_icmp .eq off, 3)) (hq : pc + 3 = q) (ht : (pc : Int) + off = (tgt : Int)) (kt : x = y → ax_W X nL tgt ls st S I R L cs ss) (kf : ¬ x = y → ax_W X nL q ls st S I R L cs ss) : ax_W X nL pc ls (.int y :: .int x :: st) S I R L cs ss := by
  obtain ⟨p, l1, e, Rm, s, m, args, below, meth, c, G, A, ad0, S0, Q⟩ := X
  obtain ⟨rfl, rfl, hx, hb, hml, hown, hts, hK, hA, hlk⟩ := h
  intro ad H locs lsC h0 hAd hR hS hl hlv
  subst hq
  exact lv_icmp_eq hx hb hd ht (fun z => kt z ad H locs lsC h0 hAd hR hS hl hlv.pop.pop) (fun z => kf z ad H locs lsC h0 hAd hR hS hl hlv.pop.pop)
theorem ax_if_ne (h : ax_ok X l own cc nL rm) {x : Int32} {off : Int} {tgt : Nat} (hd : decode cc pc = .ok (.ifCond .ne off, 3)) (hq : pc + 3 = q) (ht : (pc : Int) + off = (tgt : Int)) (kt : ¬ x = 0 → ax_W X nL tgt ls st S I R L cs ss) (kf : x = 0 → ax_W X nL q ls st S I R L cs ss) : ax_W X nL pc ls (.int x :: st) S I R L cs ss := by
  obtain ⟨p, l1, e, Rm, s, m, args, below, meth, c, G, A, ad0, S0, Q⟩ := X
  obtain ⟨rfl, rfl, hx, hb, hml, hown, hts, hK, hA, hlk⟩ := h
  intro ad H locs lsC h0 hAd hR hS hl hlv
  subst hq
  exact lv_if_ne hx hb hd ht (fun z => kt z ad H locs lsC h0 hAd hR hS hl hlv.pop) (fun z => kf z ad H locs lsC h0 hAd hR hS hl hlv.pop)
theorem ax_icmp_ne (h : ax_ok X l own cc nL rm) {x y : Int32} {off : Int} {tgt : Nat} (hd : decode cc pc = .ok (.if_icmp .ne off, 3)) (hq : pc + 3 = q) (ht : (pc : Int) + off = (tgt : Int)) (kt : ¬ x = y → ax_W X nL tgt ls st S I R L cs ss) (kf : x = y → ax_W X nL q ls st S I R L cs ss) : ax_W X nL pc ls (.int y :: .int x :: st) S I R L cs ss := by
  obtain ⟨p, l1, e, Rm, s, m, args, below, meth, c, G, A, ad0, S0, Q⟩ := X
  obtain ⟨rfl, rfl, hx, hb, hml, hown, hts, hK, hA, hlk⟩ := h
  intro ad H locs lsC h0 hAd hR hS hl hlv
  subst hq
  exact lv_icmp_ne hx hb hd ht (fun z => kt z ad H locs lsC h0 hAd hR hS hl hlv.pop.pop) (fun z => kf z ad H locs lsC h0 hAd hR hS hl hlv.pop.pop)
theorem ax_if_lt (h : ax_ok X l own cc nL rm) {x : Int32} {off : Int} {tgt : Nat} (hd : decode cc pc = .ok (.ifCond .lt off, 3)) (hq : pc + 3 = q) (ht : (pc : Int) + off = (tgt : Int)) (kt : x < 0 → ax_W X nL tgt ls st S I R L cs ss) (kf : ¬ x < 0 → ax_W X nL q ls st S I R L cs ss) : ax_W X nL pc ls (.int x :: st) S I R L cs ss := by
  obtain ⟨p, l1, e, Rm, s, m, args, below, meth, c, G, A, ad0, S0, Q⟩ := X
  obtain ⟨rfl, rfl, hx, hb, hml, hown, hts, hK, hA, hlk⟩ := h
  intro ad H locs lsC h0 hAd hR hS hl hlv
  subst hq
  exact lv_if_lt hx hb hd ht (fun z => kt z ad H locs lsC h0 hAd hR hS hl hlv.pop) (fun z => kf z ad H locs lsC h0 hAd hR hS hl hlv.pop)
theorem ax_icmp_lt (h : ax_ok X l own cc nL rm) {x y : Int32} {off : Int} {tgt : Nat} (hd : decode cc pc = .ok (.if_icmp .lt off, 3)) (hq : pc + 3 = q) (ht : (pc : Int) + off = (tgt : Int)) (kt : x < y → ax_W X nL tgt ls st S I R L cs ss) (kf : ¬ x < y → ax_W X nL q ls st S I R L cs ss) : ax_W X nL pc ls (.int y :: .int x :: st) S I R L cs ss := by
  obtain ⟨p, l1, e, Rm, s, m, args, below, meth, c, G, A, ad0, S0, Q⟩ := X
  obtain ⟨rfl, rfl, hx, hb, hml, hown, hts, hK, hA, hlk⟩ := h
  intro ad H locs lsC h0 hAd hR hS hl hlv
  subst hq
  exact lv_icmp_lt hx hb hd ht (fun z => kt z ad H locs lsC h0 hAd hR hS hl hlv.pop.pop) (fun z => kf z ad H locs lsC h0 hAd hR hS hl hlv.pop.pop)
theorem ax_if_ge (h : ax_ok X l own cc nL rm) {x : Int32} {off : Int} {tgt : Nat} (hd : decode cc pc = .ok (.ifCond .ge off, 3)) (hq : pc + 3 = q) (ht : (pc : Int) + off = (tgt : Int)) (kt : 0 ≤ x → ax_W X nL tgt ls st S I R L cs ss) (kf : ¬ 0 ≤ x → ax_W X nL q ls st S I R L cs ss) : ax_W X nL pc ls (.int x :: st) S I R L cs ss := by
  obtain ⟨p, l1, e, Rm, s, m, args, below, meth, c, G, A, ad0, S0, Q⟩ := X
  obtain ⟨rfl, rfl, hx, hb, hml, hown, hts, hK, hA, hlk⟩ := h
  intro ad H locs lsC h0 hAd hR hS hl hlv
  subst hq
  exact lv_if_ge hx hb hd ht (fun z => kt z ad H locs lsC h0 hAd hR hS hl hlv.pop) (fun z => kf z ad H locs lsC h0 hAd hR hS hl hlv.pop)
theorem ax_icmp_ge (h : ax_ok X l own cc nL rm) {x y : Int32} {off : Int} {tgt : Nat} (hd : decode cc pc = .ok (.if_icmp .ge off, 3)) (hq : pc + 3 = q) (ht : (pc : Int) + off = (tgt : Int)) (kt : y ≤ x → ax_W X nL tgt ls st S I R L cs ss) (kf : ¬ y ≤ x → ax_W X nL q ls st S I R L cs ss) : ax_W X nL pc ls (.int y :: .int x :: st) S I R L cs ss := by
  obtain ⟨p, l1, e, Rm, s, m, args, below, meth, c, G, A, ad0, S0, Q⟩ := X
  obtain ⟨rfl, rfl, hx, hb, hml, hown, hts, hK, hA, hlk⟩ := h
  intro ad H locs lsC h0 hAd hR hS hl hlv
  subst hq
  exact lv_icmp_ge hx hb hd ht (fun z => kt z ad H locs lsC h0 hAd hR hS hl hlv.pop.pop) (fun z => kf z ad H locs lsC h0 hAd hR hS hl hlv.pop.pop)
theorem ax_if_gt (h : ax_ok X l own cc nL rm) {x : Int32} {off : Int} {tgt : Nat} (hd : decode cc pc = .ok (.ifCond .gt off, 3)) (hq : pc + 3 = q) (ht : (pc : Int) + off = (tgt : Int)) (kt : 0 < x → ax_W X nL tgt ls st S I R L cs ss) (kf : ¬ 0 < x → ax_W X nL q ls st S I R L cs ss) : ax_W X nL pc ls (.int x :: st) S I R L cs ss := by
  obtain ⟨p, l1, e, Rm, s, m, args, below, meth, c, G, A, ad0, S0, Q⟩ := X
  obtain ⟨rfl, rfl, hx, hb, hml, hown, hts, hK, hA, hlk⟩ := h
  intro ad H locs lsC h0 hAd hR hS hl hlv
  subst hq
  exact lv_if_gt hx hb hd ht (fun z => kt z ad H locs lsC h0 hAd hR hS hl hlv.pop) (fun z => kf z ad H locs lsC h0 hAd hR hS hl hlv.pop)
theorem ax_icmp_gt (h : ax_ok X l own cc nL rm) {x y : Int32} {off : Int} {tgt : Nat} (hd : decode cc pc = .ok (.if_icmp .gt off, 3)) (hq : pc + 3 = q) (ht : (pc : Int) + off = (tgt : Int)) (kt : y < x → ax_W X nL tgt ls st S I R L cs ss) (kf : ¬ y < x → ax_W X nL q ls st S I R L cs ss) : ax_W X nL pc ls (.int y :: .int x :: st) S I R L cs ss := by
  obtain ⟨p, l1, e, Rm, s, m, args, below, meth, c, G, A, ad0, S0, Q⟩ := X
  obtain ⟨rfl, rfl, hx, hb, hml, hown, hts, hK, hA, hlk⟩ := h
  intro ad H locs lsC h0 hAd hR hS hl hlv
  subst hq
  exact lv_icmp_gt hx hb hd ht (fun z => kt z ad H locs lsC h0 hAd hR hS hl hlv.pop.pop) (fun z => kf z ad H locs lsC h0 hAd hR hS hl hlv.pop.pop)
theorem ax_if_le (h : ax_ok X l own cc nL rm) {x : Int32} {off : Int} {tgt : Nat} (hd : decode cc pc = .ok (.ifCond .le off, 3)) (hq : pc + 3 = q) (ht : (pc : Int) + off = (tgt : Int)) (kt : x ≤ 0 → ax_W X nL tgt ls st S I R L cs ss) (kf : ¬ x ≤ 0 → ax_W X nL q ls st S I R L cs ss) : ax_W X nL pc ls (.int x :: st) S I R L cs ss := by
  obtain ⟨p, l1, e, Rm, s, m, args, below, meth, c, G, A, ad0, S0, Q⟩ := X
  obtain ⟨rfl, rfl, hx, hb, hml, hown, hts, hK, hA, hlk⟩ := h
  intro ad H locs lsC h0 hAd hR hS hl hlv
  subst hq
  exact lv_if_le hx hb hd ht (fun z => kt z ad H locs lsC h0 hAd hR hS hl hlv.pop) (fun z => kf z ad H locs lsC h0 hAd hR hS hl hlv.pop)
theorem ax_icmp_le (h : ax_ok X l own cc nL rm) {x y : Int32} {off : Int} {tgt : Nat} (hd : decode cc pc = .ok (.if_icmp .le off, 3)) (hq : pc + 3 = q) (ht : (pc : Int) + off = (tgt : Int)) (kt : x ≤ y → ax_W X nL tgt ls st S I R L cs ss) (kf : ¬ x ≤ y → ax_W X nL q ls st S I R L cs ss) : ax_W X nL pc ls (.int y :: .int x :: st) S I R L cs ss := by
  obtain ⟨p, l1, e, Rm, s, m, args, below, meth, c, G, A, ad0, S0, Q⟩ := X
  obtain ⟨rfl, rfl, hx, hb, hml, hown, hts, hK, hA, hlk⟩ := h
  intro ad H locs lsC h0 hAd hR hS hl hlv
  subst hq
  exact lv_icmp_le hx hb hd ht (fun z => kt z ad H locs lsC h0 hAd hR hS hl hlv.pop.pop) (fun z => kf z ad H locs lsC h0 hAd hR hS hl hlv.pop.pop)
theorem ax_goto (h : ax_ok X l own cc nL rm) {off : Int} {tgt : Nat} (hd : decode cc pc = .ok (.goto off, 3)) (ht : (pc : Int) + off = (tgt : Int)) (kk : ax_W X nL tgt ls st S I R L cs ss) : ax_W X nL pc ls st S I R L cs ss := by
  obtain ⟨p, l1, e, Rm, s, m, args, below, meth, c, G, A, ad0, S0, Q⟩ := X
  obtain ⟨rfl, rfl, hx, hb, hml, hown, hts, hK, hA, hlk⟩ := h
  intro ad H locs lsC h0 hAd hR hS hl hlv
  exact lv_goto hx hb hd ht (kk ad H locs lsC h0 hAd hR hS hl hlv)
theorem ax_tsOut (h : ax_ok X l own cc nL rm) {dflt lo hi : Int} {offs : Array Int} {len : Nat} {x : Int32} {tgt : Nat} (hd : decode cc pc = .ok (.tableswitch dflt lo hi offs, len)) (hz : x.toInt < lo ∨ hi < x.toInt) (ht : (pc : Int) + dflt = (tgt : Int)) (kk : ax_W X nL tgt ls st S I R L cs ss) : ax_W X nL pc ls (.int x :: st) S I R L cs ss := by
  obtain ⟨p, l1, e, Rm, s, m, args, below, meth, c, G, A, ad0, S0, Q⟩ := X
  obtain ⟨rfl, rfl, hx, hb, hml, hown, hts, hK, hA, hlk⟩ := h
  intro ad H locs lsC h0 hAd hR hS hl hlv
  exact lv_tableOut hx hb hd hz ht (kk ad H locs lsC h0 hAd hR hS hl hlv.pop)
theorem ax_tsIn (h : ax_ok X l own cc nL rm) {dflt lo hi : Int} {offs : Array Int} {len : Nat} {x : Int32} {off : Int} {tgt : Nat} (hd : decode cc pc = .ok (.tableswitch dflt lo hi offs, len)) (h1 : ¬ x.toInt < lo) (h2 : ¬ hi < x.toInt) (ho : offs[(x.toInt - lo).toNat]? = some off) (ht : (pc : Int) + off = (tgt : Int)) (kk : ax_W X nL tgt ls st S I R L cs ss) : ax_W X nL pc ls (.int x :: st) S I R L cs ss := by
  obtain ⟨p, l1, e, Rm, s, m, args, below, meth, c, G, A, ad0, S0, Q⟩ := X
  obtain ⟨rfl, rfl, hx, hb, hml, hown, hts, hK, hA, hlk⟩ := h
  intro ad H locs lsC h0 hAd hR hS hl hlv
  exact lv_tableIn hx hb hd h1 h2 ho ht (kk ad H locs lsC h0 hAd hR hS hl hlv.pop)
end AXR
