/-! the reference writes into its own cells alone -/
def low (I0 J : ax_I) : Prop := ∀ i m, i < 210 → J i m = I0 i m
def frG {β : Type} (pr : β → ax_I) (I0 : ax_I) (r : Option β) : Prop := ∀ o, r = some o → low I0 (pr o)
section FRM
variable {β : Type} {pr : β → ax_I} {I0 : ax_I}
theorem fr_none : frG pr I0 none := fun o h => (by cases h)
theorem fr_ite {c : Prop} [Decidable c] {a b : Option β} (ha : frG pr I0 a) (hb : frG pr I0 b) : frG pr I0 (if c then a else b) := by
  split
  · exact ha
  · exact hb
theorem fr_b {γ : Type} {x : Option γ} {K : γ → Option β} (h : ∀ a, frG pr I0 (K a)) : frG pr I0 (x.bind K) := by
  cases x with
  | none => exact fr_none
  | some a => rw [ob]; exact h a
theorem fr_set {J : ax_I} {u k : Nat} {v : Int32} {K : ax_I → Option β} (hu : 210 ≤ u) (hJ : low I0 J) (h : ∀ J', low I0 J' → frG pr I0 (K J')) : frG pr I0 ((some (ax_up J u k v)).bind K) := by
  rw [ob]
  exact h _ (fun i m hi => by rw [ax_up_ne (by omega)]; exact hJ i m hi)
theorem fr_R {R : ax_R} (hR : mOk oS R) {k : Nat} (hk : (4 ≤ k ∧ k ≤ 17) ∨ k = 20 ∨ k = 21) {K : Nat → Option β} (h : ∀ u, 210 ≤ u → frG pr I0 (K u)) : frG pr I0 ((R 210 k).bind K) := by
  obtain ⟨u, hu, hg⟩ : ∃ u, R 210 k = some u ∧ 210 ≤ u := by
    rcases hk with hk | rfl | rfl
    · have := (hR.2 (k - 4) (by omega)).1
      unfold mFld at this
      rw [if_pos (by omega), show k - 4 + 4 = k by omega] at this
      exact ⟨_, this, by omega⟩
    · exact ⟨_, mr_20 hR, by omega⟩
    · exact ⟨_, mr_21 hR, by omega⟩
  rw [hu, ob]
  exact h u hg
theorem fr_cP {x : Option (Int32 × ax_I)} {K : Int32 × ax_I → Option β} (hx : frG Prod.snd I0 x) (h : ∀ o, low I0 o.2 → frG pr I0 (K o)) : frG pr I0 (x.bind K) := by
  cases x with
  | none => exact fr_none
  | some a => rw [ob]; exact h a (hx a rfl)
theorem fr_cI {x : Option ax_I} {K : ax_I → Option β} (hx : frG id I0 x) (h : ∀ o, low I0 o → frG pr I0 (K o)) : frG pr I0 (x.bind K) := by
  cases x with
  | none => exact fr_none
  | some a => rw [ob]; exact h a (hx a rfl)
theorem fr_ret {v : Int32} {J : ax_I} (h : low I0 J) : frG Prod.snd I0 (some (v, J)) := fun o e => (by cases e; exact h)
theorem fr_retI {J : ax_I} (h : low I0 J) : frG id I0 (some J) := fun o e => (by cases e; exact h)
end FRM
theorem f_M_clear_12 {R : ax_R} (hR : mOk oS R) {I0 : ax_I} : ∀ (n : Nat) (I : ax_I) (x1 : Int32), low I0 I → frG id I0 (d_M_clear_12 oS n I R 210 x1) := by
  intro n
  induction n with
  | zero => intros; exact fr_none
  | succ n ih =>
    intro I x1 hI
    rw [d_M_clear_12]
    refine fr_ite ?_ ?_
    · skip
      refine fr_set (by omega) (by assumption) (fun I6 hI6 => ?_)
      refine fr_set (by omega) (by assumption) (fun I8 hI8 => ?_)
      refine fr_set (by omega) (by assumption) (fun I10 hI10 => ?_)
      exact fr_retI (by assumption)
    · skip
      refine fr_R hR (by decide) (fun u12 hu12 => ?_)
      refine fr_b (fun j16 => ?_)
      refine fr_set (by omega) (by assumption) (fun I18 hI18 => ?_)
      refine fr_R hR (by decide) (fun u20 hu20 => ?_)
      refine fr_b (fun j24 => ?_)
      refine fr_set (by omega) (by assumption) (fun I26 hI26 => ?_)
      refine fr_R hR (by decide) (fun u28 hu28 => ?_)
      refine fr_b (fun j32 => ?_)
      refine fr_set (by omega) (by assumption) (fun I34 hI34 => ?_)
      refine fr_R hR (by decide) (fun u36 hu36 => ?_)
      refine fr_b (fun j40 => ?_)
      refine fr_set (by omega) (by assumption) (fun I42 hI42 => ?_)
      apply ih <;> assumption
theorem f_M_clear {R : ax_R} (hR : mOk oS R) {I0 : ax_I} (I : ax_I) (hI : low I0 I) : frG id I0 (d_M_clear oS I R 210 ) := by
  unfold d_M_clear
  refine fr_set (by omega) (by assumption) (fun I1 hI1 => ?_)
  refine fr_set (by omega) (by assumption) (fun I3 hI3 => ?_)
  apply f_M_clear_12 hR <;> first | assumption | omega
theorem f_M_move_74 {R : ax_R} (hR : mOk oS R) {I0 : ax_I} : ∀ (n : Nat) (I : ax_I) (x1 x2 x3 : Int32), low I0 I → frG id I0 (d_M_move_74 oS n I R 210 x1 x2 x3) := by
  intro n
  induction n with
  | zero => intros; exact fr_none
  | succ n ih =>
    intro I x1 x2 x3 hI
    rw [d_M_move_74]
    refine fr_ite ?_ ?_
    · skip
      exact fr_retI (by assumption)
    · skip
      refine fr_R hR (by decide) (fun u86 hu86 => ?_)
      refine fr_R hR (by decide) (fun u90 hu90 => ?_)
      refine fr_b (fun j94 => ?_)
      refine fr_b (fun j96 => ?_)
      refine fr_set (by omega) (by assumption) (fun I98 hI98 => ?_)
      apply ih <;> assumption
theorem f_M_move {R : ax_R} (hR : mOk oS R) {I0 : ax_I} (I : ax_I) (x1 : Int32) (x2 : Int32) (hI : low I0 I) : frG id I0 (d_M_move oS I R 210 x1 x2) := by
  unfold d_M_move
  refine fr_R hR (by decide) (fun u1 hu1 => ?_)
  refine fr_R hR (by decide) (fun u5 hu5 => ?_)
  refine fr_b (fun j9 => ?_)
  refine fr_b (fun j11 => ?_)
  refine fr_set (by omega) (by assumption) (fun I13 hI13 => ?_)
  refine fr_R hR (by decide) (fun u15 hu15 => ?_)
  refine fr_R hR (by decide) (fun u19 hu19 => ?_)
  refine fr_b (fun j23 => ?_)
  refine fr_b (fun j25 => ?_)
  refine fr_set (by omega) (by assumption) (fun I27 hI27 => ?_)
  refine fr_R hR (by decide) (fun u29 hu29 => ?_)
  refine fr_R hR (by decide) (fun u33 hu33 => ?_)
  refine fr_b (fun j37 => ?_)
  refine fr_b (fun j39 => ?_)
  refine fr_set (by omega) (by assumption) (fun I41 hI41 => ?_)
  refine fr_R hR (by decide) (fun u43 hu43 => ?_)
  refine fr_R hR (by decide) (fun u47 hu47 => ?_)
  refine fr_b (fun j51 => ?_)
  refine fr_b (fun j53 => ?_)
  refine fr_set (by omega) (by assumption) (fun I55 hI55 => ?_)
  refine fr_R hR (by decide) (fun u57 hu57 => ?_)
  refine fr_R hR (by decide) (fun u61 hu61 => ?_)
  refine fr_b (fun j65 => ?_)
  refine fr_b (fun j67 => ?_)
  refine fr_set (by omega) (by assumption) (fun I69 hI69 => ?_)
  refine fr_R hR (by decide) (fun u71 hu71 => ?_)
  refine fr_R hR (by decide) (fun u75 hu75 => ?_)
  refine fr_b (fun j79 => ?_)
  refine fr_b (fun j81 => ?_)
  refine fr_set (by omega) (by assumption) (fun I83 hI83 => ?_)
  apply f_M_move_74 hR <;> first | assumption | omega
theorem f_M_moveNote {R : ax_R} (hR : mOk oS R) {I0 : ax_I} (I : ax_I) (x1 : Int32) (x2 : Int32) (hI : low I0 I) : frG id I0 (d_M_moveNote oS I R 210 x1 x2) := by
  unfold d_M_moveNote
  refine fr_R hR (by decide) (fun u1 hu1 => ?_)
  refine fr_R hR (by decide) (fun u5 hu5 => ?_)
  refine fr_b (fun j9 => ?_)
  refine fr_b (fun j11 => ?_)
  refine fr_set (by omega) (by assumption) (fun I13 hI13 => ?_)
  refine fr_R hR (by decide) (fun u15 hu15 => ?_)
  refine fr_R hR (by decide) (fun u19 hu19 => ?_)
  refine fr_b (fun j23 => ?_)
  refine fr_b (fun j25 => ?_)
  refine fr_set (by omega) (by assumption) (fun I27 hI27 => ?_)
  refine fr_R hR (by decide) (fun u29 hu29 => ?_)
  refine fr_R hR (by decide) (fun u33 hu33 => ?_)
  refine fr_b (fun j37 => ?_)
  refine fr_b (fun j39 => ?_)
  refine fr_set (by omega) (by assumption) (fun I41 hI41 => ?_)
  exact fr_retI (by assumption)
theorem f_M_swap {R : ax_R} (hR : mOk oS R) {I0 : ax_I} (I : ax_I) (hI : low I0 I) : frG Prod.snd I0 (d_M_swap oS I R 210 ) := by
  unfold d_M_swap
  refine fr_set (by omega) (by assumption) (fun I1 hI1 => ?_)
  refine fr_set (by omega) (by assumption) (fun I3 hI3 => ?_)
  refine fr_set (by omega) (by assumption) (fun I5 hI5 => ?_)
  refine fr_set (by omega) (by assumption) (fun I7 hI7 => ?_)
  refine fr_R hR (by decide) (fun u9 hu9 => ?_)
  refine fr_b (fun j13 => ?_)
  exact fr_ret (by assumption)
theorem f_M_tell {R : ax_R} (hR : mOk oS R) {I0 : ax_I} (I : ax_I) (x1 : Int32) (hI : low I0 I) : frG id I0 (d_M_tell oS I R 210 x1) := by
  unfold d_M_tell
  refine fr_R hR (by decide) (fun u1 hu1 => ?_)
  refine fr_b (fun j5 => ?_)
  refine fr_set (by omega) (by assumption) (fun I7 hI7 => ?_)
  refine fr_set (by omega) (by assumption) (fun I9 hI9 => ?_)
  exact fr_retI (by assumption)
theorem f_M_told {R : ax_R} (hR : mOk oS R) {I0 : ax_I} (I : ax_I) (x1 : Int32) (hI : low I0 I) : frG Prod.snd I0 (d_M_told oS I R 210 x1) := by
  unfold d_M_told
  refine fr_set (by omega) (by assumption) (fun I1 hI1 => ?_)
  refine fr_ite ?_ ?_
  · skip
    refine fr_R hR (by decide) (fun u4 hu4 => ?_)
    refine fr_b (fun j8 => ?_)
    exact fr_ret (by assumption)
  · skip
    refine fr_ite ?_ ?_
    · skip
      refine fr_R hR (by decide) (fun u11 hu11 => ?_)
      refine fr_b (fun j15 => ?_)
      exact fr_ret (by assumption)
    · skip
      refine fr_ite ?_ ?_
      · skip
        refine fr_R hR (by decide) (fun u18 hu18 => ?_)
        refine fr_b (fun j22 => ?_)
        exact fr_ret (by assumption)
      · skip
        refine fr_ite ?_ ?_
        · skip
          refine fr_R hR (by decide) (fun u25 hu25 => ?_)
          refine fr_b (fun j29 => ?_)
          exact fr_ret (by assumption)
        · skip
          refine fr_ite ?_ ?_
          · skip
            exact fr_ret (by assumption)
          · skip
            refine fr_ite ?_ ?_
            · skip
              refine fr_R hR (by decide) (fun u33 hu33 => ?_)
              refine fr_b (fun j37 => ?_)
              exact fr_ret (by assumption)
            · skip
              refine fr_ite ?_ ?_
              · skip
                refine fr_R hR (by decide) (fun u40 hu40 => ?_)
                refine fr_b (fun j44 => ?_)
                exact fr_ret (by assumption)
              · skip
                refine fr_ite ?_ ?_
                · skip
                  refine fr_R hR (by decide) (fun u47 hu47 => ?_)
                  refine fr_b (fun j51 => ?_)
                  exact fr_ret (by assumption)
                · skip
                  refine fr_ite ?_ ?_
                  · skip
                    refine fr_R hR (by decide) (fun u54 hu54 => ?_)
                    refine fr_b (fun j58 => ?_)
                    exact fr_ret (by assumption)
                  · skip
                    exact fr_ret (by assumption)
theorem f_M_tile_196 {R : ax_R} (hR : mOk oS R) {I0 : ax_I} (I : ax_I) (x1 : Int32) (x2 : Int32) (x3 : Int32) (x4 : Int32) (y0 : Int32) (w1 : Nat) (hw1 : 210 ≤ w1) (hI : low I0 I) : frG Prod.snd I0 (d_M_tile_196 oS I R 210 x1 x2 x3 x4 y0 w1) := by
  unfold d_M_tile_196
  refine fr_set (by omega) (by assumption) (fun I77 hI77 => ?_)
  refine fr_ite ?_ ?_
  · skip
    refine fr_R hR (by decide) (fun u80 hu80 => ?_)
    refine fr_b (fun j84 => ?_)
    refine fr_b (fun r88 => ?_)
    refine fr_R hR (by decide) (fun u89 hu89 => ?_)
    refine fr_b (fun j93 => ?_)
    refine fr_set (by omega) (by assumption) (fun I95 hI95 => ?_)
    refine fr_R hR (by decide) (fun u97 hu97 => ?_)
    refine fr_b (fun j101 => ?_)
    refine fr_set (by omega) (by assumption) (fun I103 hI103 => ?_)
    refine fr_R hR (by decide) (fun u105 hu105 => ?_)
    refine fr_b (fun j109 => ?_)
    refine fr_set (by omega) (by assumption) (fun I111 hI111 => ?_)
    refine fr_R hR (by decide) (fun u113 hu113 => ?_)
    refine fr_b (fun j117 => ?_)
    refine fr_set (by omega) (by assumption) (fun I119 hI119 => ?_)
    refine fr_R hR (by decide) (fun u121 hu121 => ?_)
    refine fr_b (fun j125 => ?_)
    refine fr_set (by omega) (by assumption) (fun I127 hI127 => ?_)
    refine fr_R hR (by decide) (fun u129 hu129 => ?_)
    refine fr_b (fun j133 => ?_)
    refine fr_set (by omega) (by assumption) (fun I135 hI135 => ?_)
    refine fr_R hR (by decide) (fun u137 hu137 => ?_)
    refine fr_b (fun j141 => ?_)
    refine fr_b (fun j143 => ?_)
    refine fr_set (by omega) (by assumption) (fun I145 hI145 => ?_)
    refine fr_set (by omega) (by assumption) (fun I147 hI147 => ?_)
    refine fr_R hR (by decide) (fun u149 hu149 => ?_)
    refine fr_b (fun j153 => ?_)
    exact fr_ret (by assumption)
  · skip
    exact fr_ret (by assumption)
theorem f_M_tile_192 {R : ax_R} (hR : mOk oS R) {I0 : ax_I} (I : ax_I) (x1 : Int32) (x2 : Int32) (x3 : Int32) (x4 : Int32) (w0 : Nat) (hw0 : 210 ≤ w0) (hI : low I0 I) : frG Prod.snd I0 (d_M_tile_192 oS I R 210 x1 x2 x3 x4 w0) := by
  unfold d_M_tile_192
  apply f_M_tile_196 hR <;> first | assumption | omega
theorem f_M_tile_166 {R : ax_R} (hR : mOk oS R) {I0 : ax_I} (I : ax_I) (x1 : Int32) (x2 : Int32) (x3 : Int32) (x4 : Int32) (hI : low I0 I) : frG Prod.snd I0 (d_M_tile_166 oS I R 210 x1 x2 x3 x4) := by
  unfold d_M_tile_166
  refine fr_ite ?_ ?_
  · skip
    refine fr_R hR (by decide) (fun u70 hu70 => ?_)
    refine fr_b (fun j74 => ?_)
    refine fr_ite ?_ ?_
    · skip
      apply f_M_tile_196 hR <;> first | assumption | omega
    · skip
      apply f_M_tile_192 hR <;> first | assumption | omega
  · skip
    apply f_M_tile_192 hR <;> first | assumption | omega
theorem f_M_tile_157 {R : ax_R} (hR : mOk oS R) {I0 : ax_I} (rec45 : ax_I → ax_R → Nat → Int32 → Int32 → Int32 → Int32 → Int32 → Option (Int32 × ax_I)) (hrec45 : ∀ (I : ax_I) (z0 z1 z2 z3 z4 : Int32), low I0 I → frG Prod.snd I0 (rec45 I R 210 z0 z1 z2 z3 z4)) (I : ax_I) (x1 : Int32) (x2 : Int32) (x3 : Int32) (x4 : Int32) (x5 : Int32) (y0 : Int32) (w1 : Nat) (hw1 : 210 ≤ w1) (hI : low I0 I) : frG Prod.snd I0 (d_M_tile_157 oS rec45 I R 210 x1 x2 x3 x4 x5 y0 w1) := by
  unfold d_M_tile_157
  refine fr_set (by omega) (by assumption) (fun I67 hI67 => ?_)
  apply hrec45 <;> assumption
theorem f_M_tile_144 {R : ax_R} (hR : mOk oS R) {I0 : ax_I} (rec45 : ax_I → ax_R → Nat → Int32 → Int32 → Int32 → Int32 → Int32 → Option (Int32 × ax_I)) (hrec45 : ∀ (I : ax_I) (z0 z1 z2 z3 z4 : Int32), low I0 I → frG Prod.snd I0 (rec45 I R 210 z0 z1 z2 z3 z4)) (I : ax_I) (x1 : Int32) (x2 : Int32) (x3 : Int32) (x4 : Int32) (x5 : Int32) (y0 : Int32) (hI : low I0 I) : frG Prod.snd I0 (d_M_tile_144 oS rec45 I R 210 x1 x2 x3 x4 x5 y0) := by
  unfold d_M_tile_144
  refine fr_ite ?_ ?_
  · skip
    apply f_M_tile_157 hR <;> first | assumption | omega
  · skip
    apply f_M_tile_157 hR <;> first | assumption | omega
theorem f_M_tile_139 {R : ax_R} (hR : mOk oS R) {I0 : ax_I} (rec45 : ax_I → ax_R → Nat → Int32 → Int32 → Int32 → Int32 → Int32 → Option (Int32 × ax_I)) (hrec45 : ∀ (I : ax_I) (z0 z1 z2 z3 z4 : Int32), low I0 I → frG Prod.snd I0 (rec45 I R 210 z0 z1 z2 z3 z4)) (I : ax_I) (x1 : Int32) (x2 : Int32) (x3 : Int32) (x4 : Int32) (x5 : Int32) (hI : low I0 I) : frG Prod.snd I0 (d_M_tile_139 oS rec45 I R 210 x1 x2 x3 x4 x5) := by
  unfold d_M_tile_139
  apply f_M_tile_144 hR <;> first | assumption | omega
theorem f_M_tile_45 {R : ax_R} (hR : mOk oS R) {I0 : ax_I} : ∀ (n : Nat) (I : ax_I) (x1 x2 x3 x4 x5 : Int32), low I0 I → frG Prod.snd I0 (d_M_tile_45 oS n I R 210 x1 x2 x3 x4 x5) := by
  intro n
  induction n with
  | zero => intros; exact fr_none
  | succ n ih =>
    intro I x1 x2 x3 x4 x5 hI
    rw [d_M_tile_45]
    refine fr_R hR (by decide) (fun u15 hu15 => ?_)
    refine fr_b (fun j19 => ?_)
    refine fr_ite ?_ ?_
    · skip
      apply f_M_tile_166 hR <;> first | assumption | omega
    · skip
      refine fr_ite ?_ ?_
      · skip
        refine fr_b (fun r25 => ?_)
        refine fr_R hR (by decide) (fun u26 hu26 => ?_)
        refine fr_b (fun j30 => ?_)
        refine fr_ite ?_ ?_
        · skip
          apply f_M_tile_139 hR <;> first | assumption | omega
        · skip
          refine fr_R hR (by decide) (fun u33 hu33 => ?_)
          refine fr_b (fun j37 => ?_)
          refine fr_R hR (by decide) (fun u39 hu39 => ?_)
          refine fr_b (fun j43 => ?_)
          refine fr_ite ?_ ?_
          · skip
            apply f_M_tile_139 hR <;> first | assumption | omega
          · skip
            refine fr_R hR (by decide) (fun u46 hu46 => ?_)
            refine fr_b (fun j50 => ?_)
            refine fr_ite ?_ ?_
            · skip
              apply f_M_tile_139 hR <;> first | assumption | omega
            · skip
              refine fr_R hR (by decide) (fun u53 hu53 => ?_)
              refine fr_b (fun j57 => ?_)
              refine fr_R hR (by decide) (fun u59 hu59 => ?_)
              refine fr_b (fun j63 => ?_)
              refine fr_ite ?_ ?_
              · skip
                apply f_M_tile_144 hR <;> first | assumption | omega
              · skip
                apply f_M_tile_139 hR <;> first | assumption | omega
      · skip
        apply f_M_tile_166 hR <;> first | assumption | omega
theorem f_M_tile_39 {R : ax_R} (hR : mOk oS R) {I0 : ax_I} (I : ax_I) (x1 : Int32) (x2 : Int32) (x3 : Int32) (x4 : Int32) (y0 : Int32) (w1 : Nat) (hw1 : 210 ≤ w1) (hI : low I0 I) : frG Prod.snd I0 (d_M_tile_39 oS I R 210 x1 x2 x3 x4 y0 w1) := by
  unfold d_M_tile_39
  refine fr_set (by omega) (by assumption) (fun I13 hI13 => ?_)
  apply f_M_tile_45 hR <;> first | assumption | omega
theorem f_M_tile_34 {R : ax_R} (hR : mOk oS R) {I0 : ax_I} (I : ax_I) (x1 : Int32) (x2 : Int32) (x3 : Int32) (x4 : Int32) (w0 : Nat) (hw0 : 210 ≤ w0) (hI : low I0 I) : frG Prod.snd I0 (d_M_tile_34 oS I R 210 x1 x2 x3 x4 w0) := by
  unfold d_M_tile_34
  apply f_M_tile_39 hR <;> first | assumption | omega
theorem f_M_tile {R : ax_R} (hR : mOk oS R) {I0 : ax_I} (I : ax_I) (x1 : Int32) (x2 : Int32) (x3 : Int32) (x4 : Int32) (hI : low I0 I) : frG Prod.snd I0 (d_M_tile oS I R 210 x1 x2 x3 x4) := by
  unfold d_M_tile
  refine fr_b (fun r3 => ?_)
  refine fr_ite ?_ ?_
  · skip
    apply f_M_tile_34 hR <;> first | assumption | omega
  · skip
    refine fr_b (fun r7 => ?_)
    refine fr_ite ?_ ?_
    · skip
      apply f_M_tile_34 hR <;> first | assumption | omega
    · skip
      refine fr_b (fun r11 => ?_)
      refine fr_ite ?_ ?_
      · skip
        apply f_M_tile_34 hR <;> first | assumption | omega
      · skip
        apply f_M_tile_39 hR <;> first | assumption | omega
theorem f_M_near_26 {R : ax_R} (hR : mOk oS R) {I0 : ax_I} (I : ax_I) (x1 : Int32) (y0 : Int32) (w1 : Nat) (hw1 : 210 ≤ w1) (hI : low I0 I) : frG Prod.snd I0 (d_M_near_26 oS I R 210 x1 y0 w1) := by
  unfold d_M_near_26
  refine fr_set (by omega) (by assumption) (fun I6 hI6 => ?_)
  refine fr_ite ?_ ?_
  · skip
    refine fr_R hR (by decide) (fun u9 hu9 => ?_)
    refine fr_b (fun j13 => ?_)
    exact fr_ret (by assumption)
  · skip
    exact fr_ret (by assumption)
theorem f_M_near {R : ax_R} (hR : mOk oS R) {I0 : ax_I} (I : ax_I) (x1 : Int32) (hI : low I0 I) : frG Prod.snd I0 (d_M_near oS I R 210 x1) := by
  unfold d_M_near
  refine fr_b (fun r3 => ?_)
  refine fr_ite ?_ ?_
  · skip
    apply f_M_near_26 hR <;> first | assumption | omega
  · skip
    refine fr_ite ?_ ?_
    · skip
      apply f_M_near_26 hR <;> first | assumption | omega
    · skip
      apply f_M_near_26 hR <;> first | assumption | omega
theorem f_M_join_638 {R : ax_R} (hR : mOk oS R) {I0 : ax_I} (I : ax_I) (y0 : Int32) (y1 : Int32) (w2 : Nat) (hw2 : 210 ≤ w2) (hI : low I0 I) : frG Prod.snd I0 (d_M_join_638 oS I R 210 y0 y1 w2) := by
  unfold d_M_join_638
  refine fr_b (fun j315 => ?_)
  refine fr_set (by omega) (by assumption) (fun I317 hI317 => ?_)
  refine fr_set (by omega) (by assumption) (fun I319 hI319 => ?_)
  refine fr_set (by omega) (by assumption) (fun I321 hI321 => ?_)
  refine fr_R hR (by decide) (fun u323 hu323 => ?_)
  refine fr_b (fun j327 => ?_)
  exact fr_ret (by assumption)
theorem f_M_join_611 {R : ax_R} (hR : mOk oS R) {I0 : ax_I} (I : ax_I) (x3 : Int32) (x4 : Int32) (y0 : Int32) (y1 : Int32) (w2 : Nat) (hw2 : 210 ≤ w2) (hI : low I0 I) : frG Prod.snd I0 (d_M_join_611 oS I R 210 x3 x4 y0 y1 w2) := by
  unfold d_M_join_611
  refine fr_b (fun j300 => ?_)
  refine fr_set (by omega) (by assumption) (fun I302 hI302 => ?_)
  refine fr_R hR (by decide) (fun u304 hu304 => ?_)
  refine fr_ite ?_ ?_
  · skip
    apply f_M_join_638 hR <;> first | assumption | omega
  · skip
    refine fr_R hR (by decide) (fun u309 hu309 => ?_)
    refine fr_b (fun j313 => ?_)
    apply f_M_join_638 hR <;> first | assumption | omega
theorem f_M_join_485 {R : ax_R} (hR : mOk oS R) {I0 : ax_I} : ∀ (n : Nat) (I : ax_I) (x2 x3 x4 x8 x9 x10 : Int32), low I0 I → frG Prod.snd I0 (d_M_join_485 oS n I R 210 x2 x3 x4 x8 x9 x10) := by
  intro n
  induction n with
  | zero => intros; exact fr_none
  | succ n ih =>
    intro I x2 x3 x4 x8 x9 x10 hI
    rw [d_M_join_485]
    refine fr_R hR (by decide) (fun u227 hu227 => ?_)
    refine fr_b (fun j231 => ?_)
    refine fr_ite ?_ ?_
    · skip
      refine fr_R hR (by decide) (fun u234 hu234 => ?_)
      refine fr_b (fun j238 => ?_)
      refine fr_set (by omega) (by assumption) (fun I240 hI240 => ?_)
      refine fr_R hR (by decide) (fun u242 hu242 => ?_)
      refine fr_b (fun j246 => ?_)
      refine fr_set (by omega) (by assumption) (fun I248 hI248 => ?_)
      refine fr_R hR (by decide) (fun u250 hu250 => ?_)
      refine fr_ite ?_ ?_
      · skip
        refine fr_R hR (by decide) (fun u255 hu255 => ?_)
        refine fr_b (fun j259 => ?_)
        apply f_M_join_611 hR <;> first | assumption | omega
      · skip
        apply f_M_join_611 hR <;> first | assumption | omega
    · skip
      refine fr_R hR (by decide) (fun u261 hu261 => ?_)
      refine fr_b (fun j265 => ?_)
      refine fr_cI (pr := Prod.snd) ?_ (fun I269 hI269 => ?_)
      · apply f_M_moveNote hR <;> first | assumption | omega
      refine fr_R hR (by decide) (fun u270 hu270 => ?_)
      refine fr_b (fun j274 => ?_)
      refine fr_b (fun j276 => ?_)
      refine fr_set (by omega) (by assumption) (fun I278 hI278 => ?_)
      refine fr_R hR (by decide) (fun u280 hu280 => ?_)
      refine fr_b (fun j284 => ?_)
      refine fr_b (fun j286 => ?_)
      refine fr_set (by omega) (by assumption) (fun I288 hI288 => ?_)
      refine fr_R hR (by decide) (fun u290 hu290 => ?_)
      refine fr_b (fun j294 => ?_)
      refine fr_b (fun j296 => ?_)
      refine fr_set (by omega) (by assumption) (fun I298 hI298 => ?_)
      apply ih <;> assumption
theorem f_M_join_400 {R : ax_R} (hR : mOk oS R) {I0 : ax_I} : ∀ (n : Nat) (I : ax_I) (x2 x3 x4 x8 x9 x10 : Int32), low I0 I → frG Prod.snd I0 (d_M_join_400 oS n I R 210 x2 x3 x4 x8 x9 x10) := by
  intro n
  induction n with
  | zero => intros; exact fr_none
  | succ n ih =>
    intro I x2 x3 x4 x8 x9 x10 hI
    rw [d_M_join_400]
    refine fr_R hR (by decide) (fun u178 hu178 => ?_)
    refine fr_b (fun j182 => ?_)
    refine fr_ite ?_ ?_
    · skip
      apply f_M_join_485 hR <;> first | assumption | omega
    · skip
      refine fr_R hR (by decide) (fun u185 hu185 => ?_)
      refine fr_b (fun j189 => ?_)
      refine fr_b (fun r193 => ?_)
      refine fr_cI (pr := Prod.snd) ?_ (fun I196 hI196 => ?_)
      · apply f_M_move hR <;> first | assumption | omega
      refine fr_R hR (by decide) (fun u197 hu197 => ?_)
      refine fr_b (fun j201 => ?_)
      refine fr_b (fun j203 => ?_)
      refine fr_set (by omega) (by assumption) (fun I205 hI205 => ?_)
      refine fr_R hR (by decide) (fun u207 hu207 => ?_)
      refine fr_b (fun j211 => ?_)
      refine fr_b (fun j213 => ?_)
      refine fr_set (by omega) (by assumption) (fun I215 hI215 => ?_)
      refine fr_R hR (by decide) (fun u217 hu217 => ?_)
      refine fr_b (fun j221 => ?_)
      refine fr_b (fun j223 => ?_)
      refine fr_set (by omega) (by assumption) (fun I225 hI225 => ?_)
      apply ih <;> assumption
theorem f_M_join_345 {R : ax_R} (hR : mOk oS R) {I0 : ax_I} : ∀ (n : Nat) (I : ax_I) (x2 x3 x4 x6 x7 x8 x9 x10 : Int32), low I0 I → frG Prod.snd I0 (d_M_join_345 oS n I R 210 x2 x3 x4 x6 x7 x8 x9 x10) := by
  intro n
  induction n with
  | zero => intros; exact fr_none
  | succ n ih =>
    intro I x2 x3 x4 x6 x7 x8 x9 x10 hI
    rw [d_M_join_345]
    refine fr_R hR (by decide) (fun u151 hu151 => ?_)
    refine fr_b (fun j155 => ?_)
    refine fr_ite ?_ ?_
    · skip
      apply f_M_join_400 hR <;> first | assumption | omega
    · skip
      refine fr_R hR (by decide) (fun u158 hu158 => ?_)
      refine fr_b (fun j162 => ?_)
      refine fr_b (fun j164 => ?_)
      refine fr_set (by omega) (by assumption) (fun I166 hI166 => ?_)
      refine fr_R hR (by decide) (fun u168 hu168 => ?_)
      refine fr_b (fun j172 => ?_)
      refine fr_b (fun j174 => ?_)
      refine fr_set (by omega) (by assumption) (fun I176 hI176 => ?_)
      apply ih <;> assumption
theorem f_M_join_284 {R : ax_R} (hR : mOk oS R) {I0 : ax_I} : ∀ (n : Nat) (I : ax_I) (x2 x3 x4 x6 x7 x8 x9 x10 : Int32), low I0 I → frG Prod.snd I0 (d_M_join_284 oS n I R 210 x2 x3 x4 x6 x7 x8 x9 x10) := by
  intro n
  induction n with
  | zero => intros; exact fr_none
  | succ n ih =>
    intro I x2 x3 x4 x6 x7 x8 x9 x10 hI
    rw [d_M_join_284]
    refine fr_R hR (by decide) (fun u118 hu118 => ?_)
    refine fr_b (fun j122 => ?_)
    refine fr_ite ?_ ?_
    · skip
      apply f_M_join_345 hR <;> first | assumption | omega
    · skip
      refine fr_R hR (by decide) (fun u125 hu125 => ?_)
      refine fr_b (fun r131 => ?_)
      refine fr_b (fun j132 => ?_)
      refine fr_b (fun j134 => ?_)
      refine fr_set (by omega) (by assumption) (fun I136 hI136 => ?_)
      refine fr_R hR (by decide) (fun u138 hu138 => ?_)
      refine fr_b (fun r144 => ?_)
      refine fr_b (fun j145 => ?_)
      refine fr_b (fun j147 => ?_)
      refine fr_set (by omega) (by assumption) (fun I149 hI149 => ?_)
      apply ih <;> assumption
theorem f_M_join_279 {R : ax_R} (hR : mOk oS R) {I0 : ax_I} (I : ax_I) (x2 : Int32) (x3 : Int32) (x4 : Int32) (x6 : Int32) (x7 : Int32) (x8 : Int32) (y0 : Int32) (hI : low I0 I) : frG Prod.snd I0 (d_M_join_279 oS I R 210 x2 x3 x4 x6 x7 x8 y0) := by
  unfold d_M_join_279
  apply f_M_join_284 hR <;> first | assumption | omega
theorem f_M_join_259 {R : ax_R} (hR : mOk oS R) {I0 : ax_I} (I : ax_I) (x1 : Int32) (x2 : Int32) (x3 : Int32) (x4 : Int32) (x6 : Int32) (x7 : Int32) (y0 : Int32) (hI : low I0 I) : frG Prod.snd I0 (d_M_join_259 oS I R 210 x1 x2 x3 x4 x6 x7 y0) := by
  unfold d_M_join_259
  refine fr_ite ?_ ?_
  · skip
    refine fr_R hR (by decide) (fun u112 hu112 => ?_)
    refine fr_b (fun j116 => ?_)
    apply f_M_join_279 hR <;> first | assumption | omega
  · skip
    apply f_M_join_279 hR <;> first | assumption | omega
theorem f_M_join_239 {R : ax_R} (hR : mOk oS R) {I0 : ax_I} (I : ax_I) (x1 : Int32) (x2 : Int32) (x3 : Int32) (x4 : Int32) (x6 : Int32) (y0 : Int32) (hI : low I0 I) : frG Prod.snd I0 (d_M_join_239 oS I R 210 x1 x2 x3 x4 x6 y0) := by
  unfold d_M_join_239
  refine fr_ite ?_ ?_
  · skip
    refine fr_R hR (by decide) (fun u105 hu105 => ?_)
    refine fr_b (fun j109 => ?_)
    apply f_M_join_259 hR <;> first | assumption | omega
  · skip
    apply f_M_join_259 hR <;> first | assumption | omega
theorem f_M_join_222 {R : ax_R} (hR : mOk oS R) {I0 : ax_I} (I : ax_I) (x1 : Int32) (x2 : Int32) (x3 : Int32) (x4 : Int32) (y0 : Int32) (hI : low I0 I) : frG Prod.snd I0 (d_M_join_222 oS I R 210 x1 x2 x3 x4 y0) := by
  unfold d_M_join_222
  refine fr_ite ?_ ?_
  · skip
    refine fr_R hR (by decide) (fun u98 hu98 => ?_)
    refine fr_b (fun j102 => ?_)
    apply f_M_join_239 hR <;> first | assumption | omega
  · skip
    apply f_M_join_239 hR <;> first | assumption | omega
theorem f_M_join_196 {R : ax_R} (hR : mOk oS R) {I0 : ax_I} (I : ax_I) (x1 : Int32) (x2 : Int32) (x3 : Int32) (x4 : Int32) (y0 : Int32) (w1 : Nat) (hw1 : 210 ≤ w1) (hI : low I0 I) : frG Prod.snd I0 (d_M_join_196 oS I R 210 x1 x2 x3 x4 y0 w1) := by
  unfold d_M_join_196
  refine fr_set (by omega) (by assumption) (fun I87 hI87 => ?_)
  refine fr_ite ?_ ?_
  · skip
    refine fr_ite ?_ ?_
    · skip
      refine fr_R hR (by decide) (fun u91 hu91 => ?_)
      refine fr_b (fun j95 => ?_)
      apply f_M_join_222 hR <;> first | assumption | omega
    · skip
      apply f_M_join_222 hR <;> first | assumption | omega
  · skip
    exact fr_ret (by assumption)
theorem f_M_join_191 {R : ax_R} (hR : mOk oS R) {I0 : ax_I} (I : ax_I) (x1 : Int32) (x2 : Int32) (x3 : Int32) (x4 : Int32) (w0 : Nat) (hw0 : 210 ≤ w0) (hI : low I0 I) : frG Prod.snd I0 (d_M_join_191 oS I R 210 x1 x2 x3 x4 w0) := by
  unfold d_M_join_191
  apply f_M_join_196 hR <;> first | assumption | omega
theorem f_M_join_116 {R : ax_R} (hR : mOk oS R) {I0 : ax_I} (I : ax_I) (x1 : Int32) (x2 : Int32) (x3 : Int32) (x4 : Int32) (y0 : Int32) (hI : low I0 I) : frG Prod.snd I0 (d_M_join_116 oS I R 210 x1 x2 x3 x4 y0) := by
  unfold d_M_join_116
  refine fr_b (fun r57 => ?_)
  refine fr_ite ?_ ?_
  · skip
    apply f_M_join_196 hR <;> first | assumption | omega
  · skip
    refine fr_ite ?_ ?_
    · skip
      apply f_M_join_196 hR <;> first | assumption | omega
    · skip
      refine fr_ite ?_ ?_
      · skip
        apply f_M_join_191 hR <;> first | assumption | omega
      · skip
        refine fr_R hR (by decide) (fun u61 hu61 => ?_)
        refine fr_b (fun j65 => ?_)
        refine fr_R hR (by decide) (fun u67 hu67 => ?_)
        refine fr_b (fun j71 => ?_)
        refine fr_ite ?_ ?_
        · skip
          apply f_M_join_191 hR <;> first | assumption | omega
        · skip
          refine fr_R hR (by decide) (fun u74 hu74 => ?_)
          refine fr_b (fun j78 => ?_)
          refine fr_R hR (by decide) (fun u80 hu80 => ?_)
          refine fr_b (fun j84 => ?_)
          refine fr_ite ?_ ?_
          · skip
            apply f_M_join_196 hR <;> first | assumption | omega
          · skip
            apply f_M_join_191 hR <;> first | assumption | omega
theorem f_M_join_61 {R : ax_R} (hR : mOk oS R) {I0 : ax_I} (I : ax_I) (x1 : Int32) (x2 : Int32) (x3 : Int32) (y0 : Int32) (hI : low I0 I) : frG Prod.snd I0 (d_M_join_61 oS I R 210 x1 x2 x3 y0) := by
  unfold d_M_join_61
  refine fr_ite ?_ ?_
  · skip
    refine fr_R hR (by decide) (fun u29 hu29 => ?_)
    refine fr_b (fun j33 => ?_)
    refine fr_R hR (by decide) (fun u35 hu35 => ?_)
    refine fr_b (fun j39 => ?_)
    refine fr_ite ?_ ?_
    · skip
      apply f_M_join_116 hR <;> first | assumption | omega
    · skip
      apply f_M_join_116 hR <;> first | assumption | omega
  · skip
    refine fr_R hR (by decide) (fun u42 hu42 => ?_)
    refine fr_b (fun j46 => ?_)
    refine fr_R hR (by decide) (fun u48 hu48 => ?_)
    refine fr_b (fun j52 => ?_)
    refine fr_ite ?_ ?_
    · skip
      apply f_M_join_116 hR <;> first | assumption | omega
    · skip
      apply f_M_join_116 hR <;> first | assumption | omega
theorem f_M_join_21 {R : ax_R} (hR : mOk oS R) {I0 : ax_I} (I : ax_I) (x1 : Int32) (x2 : Int32) (y0 : Int32) (hI : low I0 I) : frG Prod.snd I0 (d_M_join_21 oS I R 210 x1 x2 y0) := by
  unfold d_M_join_21
  refine fr_ite ?_ ?_
  · skip
    refine fr_R hR (by decide) (fun u4 hu4 => ?_)
    refine fr_b (fun j8 => ?_)
    refine fr_R hR (by decide) (fun u10 hu10 => ?_)
    refine fr_b (fun j14 => ?_)
    apply f_M_join_61 hR <;> first | assumption | omega
  · skip
    refine fr_R hR (by decide) (fun u16 hu16 => ?_)
    refine fr_b (fun j20 => ?_)
    refine fr_R hR (by decide) (fun u22 hu22 => ?_)
    refine fr_b (fun j26 => ?_)
    apply f_M_join_61 hR <;> first | assumption | omega
theorem f_M_join_16 {R : ax_R} (hR : mOk oS R) {I0 : ax_I} (I : ax_I) (x1 : Int32) (x2 : Int32) (hI : low I0 I) : frG Prod.snd I0 (d_M_join_16 oS I R 210 x1 x2) := by
  unfold d_M_join_16
  apply f_M_join_21 hR <;> first | assumption | omega
theorem f_M_join {R : ax_R} (hR : mOk oS R) {I0 : ax_I} (I : ax_I) (x1 : Int32) (hI : low I0 I) : frG Prod.snd I0 (d_M_join oS I R 210 x1) := by
  unfold d_M_join
  refine fr_ite ?_ ?_
  · skip
    apply f_M_join_16 hR <;> first | assumption | omega
  · skip
    refine fr_ite ?_ ?_
    · skip
      apply f_M_join_16 hR <;> first | assumption | omega
    · skip
      apply f_M_join_21 hR <;> first | assumption | omega
theorem f_M_noteAt_25 {R : ax_R} (hR : mOk oS R) {I0 : ax_I} (I : ax_I) (x1 : Int32) (x2 : Int32) (y0 : Int32) (w1 : Nat) (hw1 : 210 ≤ w1) (hI : low I0 I) : frG Prod.snd I0 (d_M_noteAt_25 oS I R 210 x1 x2 y0 w1) := by
  unfold d_M_noteAt_25
  refine fr_set (by omega) (by assumption) (fun I11 hI11 => ?_)
  refine fr_ite ?_ ?_
  · skip
    refine fr_ite ?_ ?_
    · skip
      refine fr_R hR (by decide) (fun u29 hu29 => ?_)
      refine fr_b (fun j33 => ?_)
      exact fr_ret (by assumption)
    · skip
      refine fr_ite ?_ ?_
      · skip
        refine fr_R hR (by decide) (fun u23 hu23 => ?_)
        refine fr_b (fun j27 => ?_)
        exact fr_ret (by assumption)
      · skip
        refine fr_ite ?_ ?_
        · skip
          refine fr_R hR (by decide) (fun u17 hu17 => ?_)
          refine fr_b (fun j21 => ?_)
          exact fr_ret (by assumption)
        · skip
          exact fr_ret (by assumption)
  · skip
    exact fr_ret (by assumption)
theorem f_M_noteAt {R : ax_R} (hR : mOk oS R) {I0 : ax_I} (I : ax_I) (x1 : Int32) (x2 : Int32) (hI : low I0 I) : frG Prod.snd I0 (d_M_noteAt oS I R 210 x1 x2) := by
  unfold d_M_noteAt
  refine fr_R hR (by decide) (fun u1 hu1 => ?_)
  refine fr_b (fun j5 => ?_)
  refine fr_b (fun r9 => ?_)
  refine fr_ite ?_ ?_
  · skip
    apply f_M_noteAt_25 hR <;> first | assumption | omega
  · skip
    apply f_M_noteAt_25 hR <;> first | assumption | omega
theorem f_M_tellTwo {R : ax_R} (hR : mOk oS R) {I0 : ax_I} (I : ax_I) (x1 : Int32) (hI : low I0 I) : frG id I0 (d_M_tellTwo oS I R 210 x1) := by
  unfold d_M_tellTwo
  refine fr_cI (pr := id) ?_ (fun I3 hI3 => ?_)
  · apply f_M_tell hR <;> first | assumption | omega
  refine fr_cI (pr := id) ?_ (fun I6 hI6 => ?_)
  · apply f_M_tell hR <;> first | assumption | omega
  exact fr_retI (by assumption)
theorem f_M_streamAt_20 {R : ax_R} (hR : mOk oS R) {I0 : ax_I} (I : ax_I) (x1 : Int32) (y0 : Int32) (w1 : Nat) (hw1 : 210 ≤ w1) (hI : low I0 I) : frG Prod.snd I0 (d_M_streamAt_20 oS I R 210 x1 y0 w1) := by
  unfold d_M_streamAt_20
  refine fr_set (by omega) (by assumption) (fun I5 hI5 => ?_)
  refine fr_ite ?_ ?_
  · skip
    refine fr_R hR (by decide) (fun u8 hu8 => ?_)
    refine fr_b (fun j12 => ?_)
    exact fr_ret (by assumption)
  · skip
    exact fr_ret (by assumption)
theorem f_M_streamAt {R : ax_R} (hR : mOk oS R) {I0 : ax_I} (I : ax_I) (x1 : Int32) (hI : low I0 I) : frG Prod.snd I0 (d_M_streamAt oS I R 210 x1) := by
  unfold d_M_streamAt
  refine fr_b (fun r3 => ?_)
  refine fr_ite ?_ ?_
  · skip
    apply f_M_streamAt_20 hR <;> first | assumption | omega
  · skip
    apply f_M_streamAt_20 hR <;> first | assumption | omega
theorem f_M_byteOf_48 {R : ax_R} (hR : mOk oS R) {I0 : ax_I} (I : ax_I) (x1 : Int32) (x2 : Int32) (y0 : Int32) (w1 : Nat) (hw1 : 210 ≤ w1) (hI : low I0 I) : frG Prod.snd I0 (d_M_byteOf_48 oS I R 210 x1 x2 y0 w1) := by
  unfold d_M_byteOf_48
  refine fr_set (by omega) (by assumption) (fun I19 hI19 => ?_)
  refine fr_ite ?_ ?_
  · skip
    refine fr_b (fun r24 => ?_)
    refine fr_R hR (by decide) (fun u25 hu25 => ?_)
    refine fr_R hR (by decide) (fun u29 hu29 => ?_)
    refine fr_b (fun j33 => ?_)
    refine fr_b (fun j35 => ?_)
    refine fr_set (by omega) (by assumption) (fun I37 hI37 => ?_)
    refine fr_R hR (by decide) (fun u39 hu39 => ?_)
    refine fr_b (fun j43 => ?_)
    refine fr_b (fun j45 => ?_)
    refine fr_set (by omega) (by assumption) (fun I47 hI47 => ?_)
    refine fr_R hR (by decide) (fun u49 hu49 => ?_)
    refine fr_b (fun j53 => ?_)
    exact fr_ret (by assumption)
  · skip
    exact fr_ret (by assumption)
theorem f_M_byteOf {R : ax_R} (hR : mOk oS R) {I0 : ax_I} (I : ax_I) (x1 : Int32) (x2 : Int32) (hI : low I0 I) : frG Prod.snd I0 (d_M_byteOf oS I R 210 x1 x2) := by
  unfold d_M_byteOf
  refine fr_b (fun r3 => ?_)
  refine fr_ite ?_ ?_
  · skip
    apply f_M_byteOf_48 hR <;> first | assumption | omega
  · skip
    refine fr_b (fun r7 => ?_)
    refine fr_ite ?_ ?_
    · skip
      apply f_M_byteOf_48 hR <;> first | assumption | omega
    · skip
      refine fr_R hR (by decide) (fun u9 hu9 => ?_)
      refine fr_b (fun r15 => ?_)
      refine fr_b (fun j16 => ?_)
      refine fr_ite ?_ ?_
      · skip
        apply f_M_byteOf_48 hR <;> first | assumption | omega
      · skip
        apply f_M_byteOf_48 hR <;> first | assumption | omega
theorem f_M_note_48 {R : ax_R} (hR : mOk oS R) {I0 : ax_I} (I : ax_I) (x1 : Int32) (x2 : Int32) (x3 : Int32) (y0 : Int32) (w1 : Nat) (hw1 : 210 ≤ w1) (hI : low I0 I) : frG Prod.snd I0 (d_M_note_48 oS I R 210 x1 x2 x3 y0 w1) := by
  unfold d_M_note_48
  refine fr_set (by omega) (by assumption) (fun I16 hI16 => ?_)
  refine fr_ite ?_ ?_
  · skip
    refine fr_R hR (by decide) (fun u19 hu19 => ?_)
    refine fr_b (fun j23 => ?_)
    refine fr_R hR (by decide) (fun u25 hu25 => ?_)
    refine fr_b (fun j29 => ?_)
    refine fr_set (by omega) (by assumption) (fun I31 hI31 => ?_)
    refine fr_R hR (by decide) (fun u33 hu33 => ?_)
    refine fr_b (fun j37 => ?_)
    refine fr_set (by omega) (by assumption) (fun I39 hI39 => ?_)
    refine fr_R hR (by decide) (fun u41 hu41 => ?_)
    refine fr_b (fun j45 => ?_)
    refine fr_set (by omega) (by assumption) (fun I47 hI47 => ?_)
    refine fr_R hR (by decide) (fun u49 hu49 => ?_)
    refine fr_b (fun j53 => ?_)
    refine fr_b (fun j55 => ?_)
    refine fr_set (by omega) (by assumption) (fun I57 hI57 => ?_)
    refine fr_R hR (by decide) (fun u59 hu59 => ?_)
    refine fr_b (fun j63 => ?_)
    exact fr_ret (by assumption)
  · skip
    exact fr_ret (by assumption)
theorem f_M_note {R : ax_R} (hR : mOk oS R) {I0 : ax_I} (I : ax_I) (x1 : Int32) (x2 : Int32) (x3 : Int32) (hI : low I0 I) : frG Prod.snd I0 (d_M_note oS I R 210 x1 x2 x3) := by
  unfold d_M_note
  refine fr_b (fun r3 => ?_)
  refine fr_ite ?_ ?_
  · skip
    apply f_M_note_48 hR <;> first | assumption | omega
  · skip
    refine fr_b (fun r7 => ?_)
    refine fr_ite ?_ ?_
    · skip
      apply f_M_note_48 hR <;> first | assumption | omega
    · skip
      refine fr_R hR (by decide) (fun u9 hu9 => ?_)
      refine fr_b (fun j13 => ?_)
      refine fr_ite ?_ ?_
      · skip
        apply f_M_note_48 hR <;> first | assumption | omega
      · skip
        apply f_M_note_48 hR <;> first | assumption | omega
theorem f_M_turn_422 {R : ax_R} (hR : mOk oS R) {I0 : ax_I} (I : ax_I) (x1 : Int32) (y0 : Int32) (y1 : Int32) (w2 : Nat) (hw2 : 210 ≤ w2) (hI : low I0 I) : frG Prod.snd I0 (d_M_turn_422 oS I R 210 x1 y0 y1 w2) := by
  unfold d_M_turn_422
  refine fr_b (fun j207 => ?_)
  refine fr_set (by omega) (by assumption) (fun I209 hI209 => ?_)
  refine fr_b (fun r213 => ?_)
  refine fr_set (by omega) (by assumption) (fun I214 hI214 => ?_)
  refine fr_set (by omega) (by assumption) (fun I216 hI216 => ?_)
  exact fr_ret (by assumption)
theorem f_M_turn_401 {R : ax_R} (hR : mOk oS R) {I0 : ax_I} (I : ax_I) (x1 : Int32) (x2 : Int32) (x3 : Int32) (y0 : Int32) (y1 : Int32) (w2 : Nat) (hw2 : 210 ≤ w2) (hI : low I0 I) : frG Prod.snd I0 (d_M_turn_401 oS I R 210 x1 x2 x3 y0 y1 w2) := by
  unfold d_M_turn_401
  refine fr_b (fun j195 => ?_)
  refine fr_set (by omega) (by assumption) (fun I197 hI197 => ?_)
  refine fr_R hR (by decide) (fun u199 hu199 => ?_)
  refine fr_b (fun r205 => ?_)
  refine fr_ite ?_ ?_
  · skip
    apply f_M_turn_422 hR <;> first | assumption | omega
  · skip
    apply f_M_turn_422 hR <;> first | assumption | omega
theorem f_M_turn_305 {R : ax_R} (hR : mOk oS R) {I0 : ax_I} : ∀ (n : Nat) (I : ax_I) (x1 x2 x3 x4 : Int32), low I0 I → frG Prod.snd I0 (d_M_turn_305 oS n I R 210 x1 x2 x3 x4) := by
  intro n
  induction n with
  | zero => intros; exact fr_none
  | succ n ih =>
    intro I x1 x2 x3 x4 hI
    rw [d_M_turn_305]
    refine fr_R hR (by decide) (fun u149 hu149 => ?_)
    refine fr_b (fun j153 => ?_)
    refine fr_ite ?_ ?_
    · skip
      refine fr_R hR (by decide) (fun u156 hu156 => ?_)
      refine fr_b (fun r162 => ?_)
      refine fr_ite ?_ ?_
      · skip
        apply f_M_turn_401 hR <;> first | assumption | omega
      · skip
        apply f_M_turn_401 hR <;> first | assumption | omega
    · skip
      refine fr_R hR (by decide) (fun u164 hu164 => ?_)
      refine fr_b (fun j168 => ?_)
      refine fr_R hR (by decide) (fun u170 hu170 => ?_)
      refine fr_b (fun j174 => ?_)
      refine fr_b (fun r178 => ?_)
      refine fr_R hR (by decide) (fun u179 hu179 => ?_)
      refine fr_b (fun j183 => ?_)
      refine fr_set (by omega) (by assumption) (fun I185 hI185 => ?_)
      refine fr_R hR (by decide) (fun u187 hu187 => ?_)
      refine fr_b (fun j191 => ?_)
      refine fr_set (by omega) (by assumption) (fun I193 hI193 => ?_)
      apply ih <;> assumption
theorem f_M_turn_271 {R : ax_R} (hR : mOk oS R) {I0 : ax_I} (rec51 : ax_I → ax_R → Nat → Int32 → Int32 → Int32 → Int32 → Option (Int32 × ax_I)) (hrec51 : ∀ (I : ax_I) (z0 z1 z2 z3 : Int32), low I0 I → frG Prod.snd I0 (rec51 I R 210 z0 z1 z2 z3)) (I : ax_I) (x1 : Int32) (x2 : Int32) (x3 : Int32) (x4 : Int32) (x5 : Int32) (y0 : Int32) (y1 : Int32) (w2 : Nat) (hw2 : 210 ≤ w2) (hI : low I0 I) : frG Prod.snd I0 (d_M_turn_271 oS rec51 I R 210 x1 x2 x3 x4 x5 y0 y1 w2) := by
  unfold d_M_turn_271
  refine fr_b (fun j128 => ?_)
  refine fr_set (by omega) (by assumption) (fun I130 hI130 => ?_)
  refine fr_R hR (by decide) (fun u132 hu132 => ?_)
  refine fr_R hR (by decide) (fun u136 hu136 => ?_)
  refine fr_b (fun j140 => ?_)
  refine fr_b (fun r144 => ?_)
  refine fr_b (fun j145 => ?_)
  refine fr_set (by omega) (by assumption) (fun I147 hI147 => ?_)
  apply hrec51 <;> assumption
theorem f_M_turn_245 {R : ax_R} (hR : mOk oS R) {I0 : ax_I} (rec51 : ax_I → ax_R → Nat → Int32 → Int32 → Int32 → Int32 → Option (Int32 × ax_I)) (hrec51 : ∀ (I : ax_I) (z0 z1 z2 z3 : Int32), low I0 I → frG Prod.snd I0 (rec51 I R 210 z0 z1 z2 z3)) (I : ax_I) (x1 : Int32) (x2 : Int32) (x3 : Int32) (x4 : Int32) (x5 : Int32) (x8 : Int32) (y0 : Int32) (y1 : Int32) (w2 : Nat) (hw2 : 210 ≤ w2) (hI : low I0 I) : frG Prod.snd I0 (d_M_turn_245 oS rec51 I R 210 x1 x2 x3 x4 x5 x8 y0 y1 w2) := by
  unfold d_M_turn_245
  refine fr_b (fun j110 => ?_)
  refine fr_set (by omega) (by assumption) (fun I112 hI112 => ?_)
  refine fr_R hR (by decide) (fun u114 hu114 => ?_)
  refine fr_b (fun r120 => ?_)
  refine fr_ite ?_ ?_
  · skip
    refine fr_R hR (by decide) (fun u122 hu122 => ?_)
    refine fr_b (fun j126 => ?_)
    apply f_M_turn_271 hR <;> first | assumption | omega
  · skip
    apply f_M_turn_271 hR <;> first | assumption | omega
theorem f_M_turn_210 {R : ax_R} (hR : mOk oS R) {I0 : ax_I} (rec51 : ax_I → ax_R → Nat → Int32 → Int32 → Int32 → Int32 → Option (Int32 × ax_I)) (hrec51 : ∀ (I : ax_I) (z0 z1 z2 z3 : Int32), low I0 I → frG Prod.snd I0 (rec51 I R 210 z0 z1 z2 z3)) (I : ax_I) (x1 : Int32) (x2 : Int32) (x3 : Int32) (x4 : Int32) (x5 : Int32) (y0 : Int32) (y1 : Int32) (w2 : Nat) (hw2 : 210 ≤ w2) (hI : low I0 I) : frG Prod.snd I0 (d_M_turn_210 oS rec51 I R 210 x1 x2 x3 x4 x5 y0 y1 w2) := by
  unfold d_M_turn_210
  refine fr_b (fun j86 => ?_)
  refine fr_set (by omega) (by assumption) (fun I88 hI88 => ?_)
  refine fr_R hR (by decide) (fun u90 hu90 => ?_)
  refine fr_b (fun j94 => ?_)
  refine fr_R hR (by decide) (fun u96 hu96 => ?_)
  refine fr_b (fun r102 => ?_)
  refine fr_ite ?_ ?_
  · skip
    apply f_M_turn_245 hR <;> first | assumption | omega
  · skip
    refine fr_R hR (by decide) (fun u104 hu104 => ?_)
    refine fr_b (fun j108 => ?_)
    apply f_M_turn_245 hR <;> first | assumption | omega
theorem f_M_turn_173 {R : ax_R} (hR : mOk oS R) {I0 : ax_I} (rec51 : ax_I → ax_R → Nat → Int32 → Int32 → Int32 → Int32 → Option (Int32 × ax_I)) (hrec51 : ∀ (I : ax_I) (z0 z1 z2 z3 : Int32), low I0 I → frG Prod.snd I0 (rec51 I R 210 z0 z1 z2 z3)) (I : ax_I) (x1 : Int32) (x2 : Int32) (x3 : Int32) (x4 : Int32) (x5 : Int32) (x6 : Int32) (x7 : Int32) (y0 : Int32) (y1 : Int32) (w2 : Nat) (hw2 : 210 ≤ w2) (hI : low I0 I) : frG Prod.snd I0 (d_M_turn_173 oS rec51 I R 210 x1 x2 x3 x4 x5 x6 x7 y0 y1 w2) := by
  unfold d_M_turn_173
  refine fr_b (fun j77 => ?_)
  refine fr_set (by omega) (by assumption) (fun I79 hI79 => ?_)
  refine fr_R hR (by decide) (fun u81 hu81 => ?_)
  refine fr_ite ?_ ?_
  · skip
    apply f_M_turn_210 hR <;> first | assumption | omega
  · skip
    apply f_M_turn_210 hR <;> first | assumption | omega
theorem f_M_turn_51 {R : ax_R} (hR : mOk oS R) {I0 : ax_I} : ∀ (n : Nat) (I : ax_I) (x1 x2 x3 x4 : Int32), low I0 I → frG Prod.snd I0 (d_M_turn_51 oS n I R 210 x1 x2 x3 x4) := by
  intro n
  induction n with
  | zero => intros; exact fr_none
  | succ n ih =>
    intro I x1 x2 x3 x4 hI
    rw [d_M_turn_51]
    refine fr_R hR (by decide) (fun u20 hu20 => ?_)
    refine fr_b (fun j24 => ?_)
    refine fr_ite ?_ ?_
    · skip
      apply f_M_turn_305 hR <;> first | assumption | omega
    · skip
      refine fr_b (fun r29 => ?_)
      refine fr_R hR (by decide) (fun u30 hu30 => ?_)
      refine fr_b (fun j34 => ?_)
      refine fr_R hR (by decide) (fun u36 hu36 => ?_)
      refine fr_b (fun j40 => ?_)
      refine fr_b (fun r44 => ?_)
      refine fr_R hR (by decide) (fun u45 hu45 => ?_)
      refine fr_b (fun j49 => ?_)
      refine fr_R hR (by decide) (fun u51 hu51 => ?_)
      refine fr_b (fun j55 => ?_)
      refine fr_R hR (by decide) (fun u57 hu57 => ?_)
      refine fr_b (fun j61 => ?_)
      refine fr_R hR (by decide) (fun u63 hu63 => ?_)
      refine fr_b (fun j67 => ?_)
      refine fr_b (fun r71 => ?_)
      refine fr_R hR (by decide) (fun u72 hu72 => ?_)
      refine fr_ite ?_ ?_
      · skip
        apply f_M_turn_173 hR <;> first | assumption | omega
      · skip
        apply f_M_turn_173 hR <;> first | assumption | omega
theorem f_M_turn_16 {R : ax_R} (hR : mOk oS R) {I0 : ax_I} (I : ax_I) (x1 : Int32) (y0 : Int32) (w1 : Nat) (hw1 : 210 ≤ w1) (hI : low I0 I) : frG Prod.snd I0 (d_M_turn_16 oS I R 210 x1 y0 w1) := by
  unfold d_M_turn_16
  refine fr_set (by omega) (by assumption) (fun I5 hI5 => ?_)
  refine fr_ite ?_ ?_
  · skip
    refine fr_R hR (by decide) (fun u8 hu8 => ?_)
    refine fr_b (fun j12 => ?_)
    refine fr_R hR (by decide) (fun u14 hu14 => ?_)
    refine fr_b (fun j18 => ?_)
    apply f_M_turn_51 hR <;> first | assumption | omega
  · skip
    exact fr_ret (by assumption)
theorem f_M_turn {R : ax_R} (hR : mOk oS R) {I0 : ax_I} (I : ax_I) (x1 : Int32) (hI : low I0 I) : frG Prod.snd I0 (d_M_turn oS I R 210 x1) := by
  unfold d_M_turn
  refine fr_b (fun r3 => ?_)
  refine fr_ite ?_ ?_
  · skip
    apply f_M_turn_16 hR <;> first | assumption | omega
  · skip
    apply f_M_turn_16 hR <;> first | assumption | omega
theorem f_M_at_14 {R : ax_R} (hR : mOk oS R) {I0 : ax_I} (I : ax_I) (x1 : Int32) (x2 : Int32) (y0 : Int32) (w1 : Nat) (hw1 : 210 ≤ w1) (hI : low I0 I) : frG Prod.snd I0 (d_M_at_14 oS I R 210 x1 x2 y0 w1) := by
  unfold d_M_at_14
  refine fr_set (by omega) (by assumption) (fun I5 hI5 => ?_)
  refine fr_ite ?_ ?_
  · skip
    refine fr_b (fun r10 => ?_)
    refine fr_R hR (by decide) (fun u11 hu11 => ?_)
    refine fr_b (fun j15 => ?_)
    refine fr_b (fun r19 => ?_)
    refine fr_ite ?_ ?_
    · skip
      refine fr_R hR (by decide) (fun u21 hu21 => ?_)
      refine fr_b (fun j25 => ?_)
      exact fr_ret (by assumption)
    · skip
      refine fr_ite ?_ ?_
      · skip
        refine fr_R hR (by decide) (fun u28 hu28 => ?_)
        refine fr_b (fun j32 => ?_)
        exact fr_ret (by assumption)
      · skip
        refine fr_ite ?_ ?_
        · skip
          refine fr_R hR (by decide) (fun u35 hu35 => ?_)
          refine fr_b (fun j39 => ?_)
          exact fr_ret (by assumption)
        · skip
          refine fr_ite ?_ ?_
          · skip
            refine fr_R hR (by decide) (fun u42 hu42 => ?_)
            refine fr_b (fun j46 => ?_)
            exact fr_ret (by assumption)
          · skip
            refine fr_ite ?_ ?_
            · skip
              refine fr_R hR (by decide) (fun u49 hu49 => ?_)
              refine fr_b (fun j53 => ?_)
              exact fr_ret (by assumption)
            · skip
              refine fr_ite ?_ ?_
              · skip
                refine fr_R hR (by decide) (fun u56 hu56 => ?_)
                refine fr_b (fun j60 => ?_)
                exact fr_ret (by assumption)
              · skip
                refine fr_ite ?_ ?_
                · skip
                  refine fr_ite ?_ ?_
                  · skip
                    refine fr_R hR (by decide) (fun u64 hu64 => ?_)
                    refine fr_b (fun j68 => ?_)
                    exact fr_ret (by assumption)
                  · skip
                    refine fr_R hR (by decide) (fun u70 hu70 => ?_)
                    refine fr_b (fun j74 => ?_)
                    exact fr_ret (by assumption)
                · skip
                  refine fr_ite ?_ ?_
                  · skip
                    refine fr_ite ?_ ?_
                    · skip
                      refine fr_R hR (by decide) (fun u78 hu78 => ?_)
                      refine fr_b (fun j82 => ?_)
                      exact fr_ret (by assumption)
                    · skip
                      refine fr_R hR (by decide) (fun u84 hu84 => ?_)
                      refine fr_b (fun j88 => ?_)
                      exact fr_ret (by assumption)
                  · skip
                    exact fr_ret (by assumption)
  · skip
    exact fr_ret (by assumption)
theorem f_M_at {R : ax_R} (hR : mOk oS R) {I0 : ax_I} (I : ax_I) (x1 : Int32) (x2 : Int32) (hI : low I0 I) : frG Prod.snd I0 (d_M_at oS I R 210 x1 x2) := by
  unfold d_M_at
  refine fr_b (fun r3 => ?_)
  refine fr_ite ?_ ?_
  · skip
    apply f_M_at_14 hR <;> first | assumption | omega
  · skip
    apply f_M_at_14 hR <;> first | assumption | omega
theorem f_M_byteAt_34 {R : ax_R} (hR : mOk oS R) {I0 : ax_I} (I : ax_I) (x1 : Int32) (x2 : Int32) (y0 : Int32) (w1 : Nat) (hw1 : 210 ≤ w1) (hI : low I0 I) : frG Prod.snd I0 (d_M_byteAt_34 oS I R 210 x1 x2 y0 w1) := by
  unfold d_M_byteAt_34
  refine fr_set (by omega) (by assumption) (fun I18 hI18 => ?_)
  refine fr_ite ?_ ?_
  · skip
    refine fr_R hR (by decide) (fun u21 hu21 => ?_)
    refine fr_b (fun r27 => ?_)
    refine fr_b (fun j28 => ?_)
    exact fr_ret (by assumption)
  · skip
    exact fr_ret (by assumption)
theorem f_M_byteAt_29 {R : ax_R} (hR : mOk oS R) {I0 : ax_I} (I : ax_I) (x1 : Int32) (x2 : Int32) (w0 : Nat) (hw0 : 210 ≤ w0) (hI : low I0 I) : frG Prod.snd I0 (d_M_byteAt_29 oS I R 210 x1 x2 w0) := by
  unfold d_M_byteAt_29
  apply f_M_byteAt_34 hR <;> first | assumption | omega
theorem f_M_byteAt {R : ax_R} (hR : mOk oS R) {I0 : ax_I} (I : ax_I) (x1 : Int32) (x2 : Int32) (hI : low I0 I) : frG Prod.snd I0 (d_M_byteAt oS I R 210 x1 x2) := by
  unfold d_M_byteAt
  refine fr_b (fun r3 => ?_)
  refine fr_ite ?_ ?_
  · skip
    apply f_M_byteAt_29 hR <;> first | assumption | omega
  · skip
    refine fr_R hR (by decide) (fun u5 hu5 => ?_)
    refine fr_b (fun r11 => ?_)
    refine fr_b (fun j12 => ?_)
    refine fr_b (fun r16 => ?_)
    refine fr_ite ?_ ?_
    · skip
      apply f_M_byteAt_29 hR <;> first | assumption | omega
    · skip
      apply f_M_byteAt_34 hR <;> first | assumption | omega
theorem f_M_shown_218 {R : ax_R} (hR : mOk oS R) {I0 : ax_I} (I : ax_I) (hI : low I0 I) : frG Prod.snd I0 (d_M_shown_218 oS I R 210 ) := by
  unfold d_M_shown_218
  refine fr_ite ?_ ?_
  · skip
    exact fr_ret (by assumption)
  · skip
    exact fr_ret (by assumption)
theorem f_M_shown_212 {R : ax_R} (hR : mOk oS R) {I0 : ax_I} (rec20 : ax_I → ax_R → Nat → Int32 → Int32 → Int32 → Option (Int32 × ax_I)) (hrec20 : ∀ (I : ax_I) (z0 z1 z2 : Int32), low I0 I → frG Prod.snd I0 (rec20 I R 210 z0 z1 z2)) (I : ax_I) (x1 : Int32) (x2 : Int32) (x3 : Int32) (hI : low I0 I) : frG Prod.snd I0 (d_M_shown_212 oS rec20 I R 210 x1 x2 x3) := by
  unfold d_M_shown_212
  apply hrec20 <;> assumption
theorem f_M_shown_171 {R : ax_R} (hR : mOk oS R) {I0 : ax_I} (I : ax_I) (x1 : Int32) (x2 : Int32) (x3 : Int32) (x4 : Int32) (x5 : Int32) (y0 : Int32) (hI : low I0 I) : frG Prod.snd I0 (d_M_shown_171 oS I R 210 x1 x2 x3 x4 x5 y0) := by
  unfold d_M_shown_171
  refine fr_R hR (by decide) (fun u106 hu106 => ?_)
  refine fr_b (fun j110 => ?_)
  refine fr_R hR (by decide) (fun u112 hu112 => ?_)
  refine fr_b (fun j116 => ?_)
  refine fr_R hR (by decide) (fun u118 hu118 => ?_)
  refine fr_b (fun j122 => ?_)
  refine fr_b (fun r126 => ?_)
  exact fr_ret (by assumption)
theorem f_M_shown_139 {R : ax_R} (hR : mOk oS R) {I0 : ax_I} (I : ax_I) (x1 : Int32) (x2 : Int32) (x3 : Int32) (x4 : Int32) (y0 : Int32) (hI : low I0 I) : frG Prod.snd I0 (d_M_shown_139 oS I R 210 x1 x2 x3 x4 y0) := by
  unfold d_M_shown_139
  refine fr_R hR (by decide) (fun u84 hu84 => ?_)
  refine fr_b (fun j88 => ?_)
  refine fr_b (fun r92 => ?_)
  refine fr_ite ?_ ?_
  · skip
    refine fr_R hR (by decide) (fun u94 hu94 => ?_)
    refine fr_b (fun j98 => ?_)
    apply f_M_shown_171 hR <;> first | assumption | omega
  · skip
    refine fr_R hR (by decide) (fun u100 hu100 => ?_)
    refine fr_b (fun j104 => ?_)
    apply f_M_shown_171 hR <;> first | assumption | omega
theorem f_M_shown_20 {R : ax_R} (hR : mOk oS R) {I0 : ax_I} : ∀ (n : Nat) (I : ax_I) (x1 x2 x3 : Int32), low I0 I → frG Prod.snd I0 (d_M_shown_20 oS n I R 210 x1 x2 x3) := by
  intro n
  induction n with
  | zero => intros; exact fr_none
  | succ n ih =>
    intro I x1 x2 x3 hI
    rw [d_M_shown_20]
    refine fr_R hR (by decide) (fun u7 hu7 => ?_)
    refine fr_b (fun j11 => ?_)
    refine fr_ite ?_ ?_
    · skip
      apply f_M_shown_218 hR <;> first | assumption | omega
    · skip
      refine fr_ite ?_ ?_
      · skip
        refine fr_b (fun r17 => ?_)
        refine fr_R hR (by decide) (fun u18 hu18 => ?_)
        refine fr_b (fun j22 => ?_)
        refine fr_R hR (by decide) (fun u24 hu24 => ?_)
        refine fr_b (fun j28 => ?_)
        refine fr_R hR (by decide) (fun u30 hu30 => ?_)
        refine fr_b (fun j34 => ?_)
        refine fr_b (fun r38 => ?_)
        refine fr_ite ?_ ?_
        · skip
          apply f_M_shown_212 hR <;> first | assumption | omega
        · skip
          refine fr_R hR (by decide) (fun u40 hu40 => ?_)
          refine fr_b (fun j44 => ?_)
          refine fr_R hR (by decide) (fun u46 hu46 => ?_)
          refine fr_b (fun j50 => ?_)
          refine fr_R hR (by decide) (fun u52 hu52 => ?_)
          refine fr_b (fun j56 => ?_)
          refine fr_b (fun r60 => ?_)
          refine fr_ite ?_ ?_
          · skip
            apply f_M_shown_212 hR <;> first | assumption | omega
          · skip
            refine fr_R hR (by decide) (fun u62 hu62 => ?_)
            refine fr_b (fun j66 => ?_)
            refine fr_b (fun r70 => ?_)
            refine fr_ite ?_ ?_
            · skip
              refine fr_R hR (by decide) (fun u72 hu72 => ?_)
              refine fr_b (fun j76 => ?_)
              apply f_M_shown_139 hR <;> first | assumption | omega
            · skip
              refine fr_R hR (by decide) (fun u78 hu78 => ?_)
              refine fr_b (fun j82 => ?_)
              apply f_M_shown_139 hR <;> first | assumption | omega
      · skip
        apply f_M_shown_218 hR <;> first | assumption | omega
theorem f_M_shown_15 {R : ax_R} (hR : mOk oS R) {I0 : ax_I} (I : ax_I) (x1 : Int32) (x2 : Int32) (y0 : Int32) (w1 : Nat) (hw1 : 210 ≤ w1) (hI : low I0 I) : frG Prod.snd I0 (d_M_shown_15 oS I R 210 x1 x2 y0 w1) := by
  unfold d_M_shown_15
  refine fr_set (by omega) (by assumption) (fun I5 hI5 => ?_)
  apply f_M_shown_20 hR <;> first | assumption | omega
theorem f_M_shown {R : ax_R} (hR : mOk oS R) {I0 : ax_I} (I : ax_I) (x1 : Int32) (x2 : Int32) (hI : low I0 I) : frG Prod.snd I0 (d_M_shown oS I R 210 x1 x2) := by
  unfold d_M_shown
  refine fr_b (fun r3 => ?_)
  refine fr_ite ?_ ?_
  · skip
    apply f_M_shown_15 hR <;> first | assumption | omega
  · skip
    apply f_M_shown_15 hR <;> first | assumption | omega
theorem f_M_pointer_14 {R : ax_R} (hR : mOk oS R) {I0 : ax_I} (I : ax_I) (x1 : Int32) (y0 : Int32) (w1 : Nat) (hw1 : 210 ≤ w1) (hI : low I0 I) : frG Prod.snd I0 (d_M_pointer_14 oS I R 210 x1 y0 w1) := by
  unfold d_M_pointer_14
  refine fr_set (by omega) (by assumption) (fun I5 hI5 => ?_)
  refine fr_ite ?_ ?_
  · skip
    refine fr_b (fun r10 => ?_)
    exact fr_ret (by assumption)
  · skip
    exact fr_ret (by assumption)
theorem f_M_pointer {R : ax_R} (hR : mOk oS R) {I0 : ax_I} (I : ax_I) (x1 : Int32) (hI : low I0 I) : frG Prod.snd I0 (d_M_pointer oS I R 210 x1) := by
  unfold d_M_pointer
  refine fr_b (fun r3 => ?_)
  refine fr_ite ?_ ?_
  · skip
    apply f_M_pointer_14 hR <;> first | assumption | omega
  · skip
    apply f_M_pointer_14 hR <;> first | assumption | omega
theorem f_M_tellPart_103 {R : ax_R} (hR : mOk oS R) {I0 : ax_I} : ∀ (n : Nat) (I : ax_I) (x3 x4 : Int32), low I0 I → frG id I0 (d_M_tellPart_103 oS n I R 210 x3 x4) := by
  intro n
  induction n with
  | zero => intros; exact fr_none
  | succ n ih =>
    intro I x3 x4 hI
    rw [d_M_tellPart_103]
    refine fr_ite ?_ ?_
    · skip
      refine fr_cI (pr := id) ?_ (fun I74 hI74 => ?_)
      · apply f_M_tellTwo hR <;> first | assumption | omega
      exact fr_retI (by assumption)
    · skip
      refine fr_R hR (by decide) (fun u75 hu75 => ?_)
      refine fr_b (fun j79 => ?_)
      apply ih <;> assumption
theorem f_M_tellPart_67 {R : ax_R} (hR : mOk oS R) {I0 : ax_I} : ∀ (n : Nat) (I : ax_I) (x1 x2 x3 : Int32), low I0 I → frG id I0 (d_M_tellPart_67 oS n I R 210 x1 x2 x3) := by
  intro n
  induction n with
  | zero => intros; exact fr_none
  | succ n ih =>
    intro I x1 x2 x3 hI
    rw [d_M_tellPart_67]
    refine fr_R hR (by decide) (fun u55 hu55 => ?_)
    refine fr_b (fun j59 => ?_)
    refine fr_ite ?_ ?_
    · skip
      apply f_M_tellPart_103 hR <;> first | assumption | omega
    · skip
      refine fr_R hR (by decide) (fun u62 hu62 => ?_)
      refine fr_b (fun j66 => ?_)
      refine fr_cI (pr := id) ?_ (fun I70 hI70 => ?_)
      · apply f_M_tell hR <;> first | assumption | omega
      apply ih <;> assumption
theorem f_M_tellPart {R : ax_R} (hR : mOk oS R) {I0 : ax_I} (I : ax_I) (x1 : Int32) (hI : low I0 I) : frG id I0 (d_M_tellPart oS I R 210 x1) := by
  unfold d_M_tellPart
  refine fr_R hR (by decide) (fun u1 hu1 => ?_)
  refine fr_b (fun j5 => ?_)
  refine fr_cI (pr := id) ?_ (fun I9 hI9 => ?_)
  · apply f_M_tellTwo hR <;> first | assumption | omega
  refine fr_R hR (by decide) (fun u10 hu10 => ?_)
  refine fr_b (fun j14 => ?_)
  refine fr_cI (pr := id) ?_ (fun I18 hI18 => ?_)
  · apply f_M_tellTwo hR <;> first | assumption | omega
  refine fr_R hR (by decide) (fun u19 hu19 => ?_)
  refine fr_b (fun j23 => ?_)
  refine fr_cI (pr := id) ?_ (fun I27 hI27 => ?_)
  · apply f_M_tellTwo hR <;> first | assumption | omega
  refine fr_R hR (by decide) (fun u28 hu28 => ?_)
  refine fr_b (fun j32 => ?_)
  refine fr_cI (pr := id) ?_ (fun I36 hI36 => ?_)
  · apply f_M_tellTwo hR <;> first | assumption | omega
  refine fr_R hR (by decide) (fun u37 hu37 => ?_)
  refine fr_b (fun j41 => ?_)
  refine fr_cI (pr := id) ?_ (fun I45 hI45 => ?_)
  · apply f_M_tell hR <;> first | assumption | omega
  refine fr_R hR (by decide) (fun u46 hu46 => ?_)
  refine fr_b (fun j50 => ?_)
  refine fr_cI (pr := id) ?_ (fun I54 hI54 => ?_)
  · apply f_M_tell hR <;> first | assumption | omega
  apply f_M_tellPart_67 hR <;> first | assumption | omega
theorem f_M_crop_422 {R : ax_R} (hR : mOk oS R) {I0 : ax_I} (rec304 : ax_I → ax_R → Nat → Int32 → Int32 → Int32 → Int32 → Int32 → Int32 → Int32 → Option (Int32 × ax_I)) (hrec304 : ∀ (I : ax_I) (z0 z1 z2 z3 z4 z5 z6 : Int32), low I0 I → frG Prod.snd I0 (rec304 I R 210 z0 z1 z2 z3 z4 z5 z6)) (I : ax_I) (x1 : Int32) (x2 : Int32) (x3 : Int32) (x4 : Int32) (x5 : Int32) (x6 : Int32) (x7 : Int32) (hI : low I0 I) : frG Prod.snd I0 (d_M_crop_422 oS rec304 I R 210 x1 x2 x3 x4 x5 x6 x7) := by
  unfold d_M_crop_422
  apply hrec304 <;> assumption
theorem f_M_crop_304 {R : ax_R} (hR : mOk oS R) {I0 : ax_I} : ∀ (n : Nat) (I : ax_I) (x1 x2 x3 x4 x5 x6 x7 : Int32), low I0 I → frG Prod.snd I0 (d_M_crop_304 oS n I R 210 x1 x2 x3 x4 x5 x6 x7) := by
  intro n
  induction n with
  | zero => intros; exact fr_none
  | succ n ih =>
    intro I x1 x2 x3 x4 x5 x6 x7 hI
    rw [d_M_crop_304]
    refine fr_R hR (by decide) (fun u153 hu153 => ?_)
    refine fr_b (fun j157 => ?_)
    refine fr_ite ?_ ?_
    · skip
      refine fr_R hR (by decide) (fun u160 hu160 => ?_)
      refine fr_b (fun j164 => ?_)
      refine fr_set (by omega) (by assumption) (fun I166 hI166 => ?_)
      refine fr_R hR (by decide) (fun u168 hu168 => ?_)
      refine fr_b (fun j172 => ?_)
      refine fr_set (by omega) (by assumption) (fun I174 hI174 => ?_)
      refine fr_R hR (by decide) (fun u176 hu176 => ?_)
      refine fr_b (fun j180 => ?_)
      refine fr_set (by omega) (by assumption) (fun I182 hI182 => ?_)
      exact fr_ret (by assumption)
    · skip
      refine fr_R hR (by decide) (fun u184 hu184 => ?_)
      refine fr_b (fun j188 => ?_)
      refine fr_b (fun r192 => ?_)
      refine fr_ite ?_ ?_
      · skip
        apply f_M_crop_422 hR <;> first | assumption | omega
      · skip
        refine fr_R hR (by decide) (fun u194 hu194 => ?_)
        refine fr_b (fun j198 => ?_)
        refine fr_b (fun r202 => ?_)
        refine fr_ite ?_ ?_
        · skip
          apply f_M_crop_422 hR <;> first | assumption | omega
        · skip
          refine fr_cI (pr := Prod.snd) ?_ (fun I206 hI206 => ?_)
          · apply f_M_moveNote hR <;> first | assumption | omega
          refine fr_R hR (by decide) (fun u207 hu207 => ?_)
          refine fr_b (fun j211 => ?_)
          refine fr_b (fun j213 => ?_)
          refine fr_set (by omega) (by assumption) (fun I215 hI215 => ?_)
          refine fr_R hR (by decide) (fun u217 hu217 => ?_)
          refine fr_b (fun j221 => ?_)
          refine fr_b (fun j223 => ?_)
          refine fr_set (by omega) (by assumption) (fun I225 hI225 => ?_)
          apply f_M_crop_422 hR <;> first | assumption | omega
theorem f_M_crop_275 {R : ax_R} (hR : mOk oS R) {I0 : ax_I} (rec159 : ax_I → ax_R → Nat → Int32 → Int32 → Int32 → Int32 → Int32 → Int32 → Option (Int32 × ax_I)) (hrec159 : ∀ (I : ax_I) (z0 z1 z2 z3 z4 z5 : Int32), low I0 I → frG Prod.snd I0 (rec159 I R 210 z0 z1 z2 z3 z4 z5)) (I : ax_I) (x1 : Int32) (x2 : Int32) (x3 : Int32) (x4 : Int32) (x5 : Int32) (x6 : Int32) (hI : low I0 I) : frG Prod.snd I0 (d_M_crop_275 oS rec159 I R 210 x1 x2 x3 x4 x5 x6) := by
  unfold d_M_crop_275
  apply hrec159 <;> assumption
theorem f_M_crop_159 {R : ax_R} (hR : mOk oS R) {I0 : ax_I} : ∀ (n : Nat) (I : ax_I) (x1 x2 x3 x4 x5 x6 : Int32), low I0 I → frG Prod.snd I0 (d_M_crop_159 oS n I R 210 x1 x2 x3 x4 x5 x6) := by
  intro n
  induction n with
  | zero => intros; exact fr_none
  | succ n ih =>
    intro I x1 x2 x3 x4 x5 x6 hI
    rw [d_M_crop_159]
    refine fr_R hR (by decide) (fun u75 hu75 => ?_)
    refine fr_b (fun j79 => ?_)
    refine fr_ite ?_ ?_
    · skip
      refine fr_R hR (by decide) (fun u82 hu82 => ?_)
      refine fr_b (fun j86 => ?_)
      refine fr_set (by omega) (by assumption) (fun I88 hI88 => ?_)
      apply f_M_crop_304 hR <;> first | assumption | omega
    · skip
      refine fr_b (fun r92 => ?_)
      refine fr_R hR (by decide) (fun u93 hu93 => ?_)
      refine fr_b (fun j97 => ?_)
      refine fr_ite ?_ ?_
      · skip
        apply f_M_crop_275 hR <;> first | assumption | omega
      · skip
        refine fr_R hR (by decide) (fun u100 hu100 => ?_)
        refine fr_b (fun j104 => ?_)
        refine fr_ite ?_ ?_
        · skip
          apply f_M_crop_275 hR <;> first | assumption | omega
        · skip
          refine fr_R hR (by decide) (fun u107 hu107 => ?_)
          refine fr_b (fun j111 => ?_)
          refine fr_ite ?_ ?_
          · skip
            apply f_M_crop_275 hR <;> first | assumption | omega
          · skip
            refine fr_R hR (by decide) (fun u114 hu114 => ?_)
            refine fr_b (fun j118 => ?_)
            refine fr_ite ?_ ?_
            · skip
              apply f_M_crop_275 hR <;> first | assumption | omega
            · skip
              refine fr_b (fun r123 => ?_)
              refine fr_cI (pr := Prod.snd) ?_ (fun I126 hI126 => ?_)
              · apply f_M_move hR <;> first | assumption | omega
              refine fr_R hR (by decide) (fun u127 hu127 => ?_)
              refine fr_b (fun r133 => ?_)
              refine fr_b (fun j134 => ?_)
              refine fr_b (fun j136 => ?_)
              refine fr_set (by omega) (by assumption) (fun I138 hI138 => ?_)
              refine fr_R hR (by decide) (fun u140 hu140 => ?_)
              refine fr_b (fun r146 => ?_)
              refine fr_b (fun j147 => ?_)
              refine fr_b (fun j149 => ?_)
              refine fr_set (by omega) (by assumption) (fun I151 hI151 => ?_)
              apply f_M_crop_275 hR <;> first | assumption | omega
theorem f_M_crop_88 {R : ax_R} (hR : mOk oS R) {I0 : ax_I} (I : ax_I) (x1 : Int32) (x2 : Int32) (x3 : Int32) (x4 : Int32) (y0 : Int32) (w1 : Nat) (hw1 : 210 ≤ w1) (hI : low I0 I) : frG Prod.snd I0 (d_M_crop_88 oS I R 210 x1 x2 x3 x4 y0 w1) := by
  unfold d_M_crop_88
  refine fr_b (fun b26 => ?_)
  refine fr_set (by omega) (by assumption) (fun I28 hI28 => ?_)
  refine fr_ite ?_ ?_
  · skip
    apply f_M_crop_159 hR <;> first | assumption | omega
  · skip
    refine fr_R hR (by decide) (fun u31 hu31 => ?_)
    refine fr_b (fun r37 => ?_)
    refine fr_b (fun j38 => ?_)
    refine fr_set (by omega) (by assumption) (fun I40 hI40 => ?_)
    refine fr_R hR (by decide) (fun u42 hu42 => ?_)
    refine fr_b (fun r48 => ?_)
    refine fr_b (fun j49 => ?_)
    refine fr_set (by omega) (by assumption) (fun I51 hI51 => ?_)
    refine fr_R hR (by decide) (fun u53 hu53 => ?_)
    refine fr_b (fun r59 => ?_)
    refine fr_b (fun j60 => ?_)
    refine fr_set (by omega) (by assumption) (fun I62 hI62 => ?_)
    refine fr_R hR (by decide) (fun u64 hu64 => ?_)
    refine fr_b (fun r70 => ?_)
    refine fr_b (fun j71 => ?_)
    refine fr_set (by omega) (by assumption) (fun I73 hI73 => ?_)
    exact fr_ret (by assumption)
theorem f_M_crop_83 {R : ax_R} (hR : mOk oS R) {I0 : ax_I} (I : ax_I) (x1 : Int32) (x2 : Int32) (x3 : Int32) (x4 : Int32) (w0 : Nat) (hw0 : 210 ≤ w0) (hI : low I0 I) : frG Prod.snd I0 (d_M_crop_83 oS I R 210 x1 x2 x3 x4 w0) := by
  unfold d_M_crop_83
  apply f_M_crop_88 hR <;> first | assumption | omega
theorem f_M_crop_29 {R : ax_R} (hR : mOk oS R) {I0 : ax_I} (I : ax_I) (x1 : Int32) (x2 : Int32) (x3 : Int32) (x4 : Int32) (y0 : Int32) (w1 : Nat) (hw1 : 210 ≤ w1) (hI : low I0 I) : frG Prod.snd I0 (d_M_crop_29 oS I R 210 x1 x2 x3 x4 y0 w1) := by
  unfold d_M_crop_29
  refine fr_set (by omega) (by assumption) (fun I7 hI7 => ?_)
  refine fr_ite ?_ ?_
  · skip
    refine fr_b (fun r12 => ?_)
    refine fr_ite ?_ ?_
    · skip
      apply f_M_crop_83 hR <;> first | assumption | omega
    · skip
      refine fr_b (fun r16 => ?_)
      refine fr_ite ?_ ?_
      · skip
        apply f_M_crop_83 hR <;> first | assumption | omega
      · skip
        refine fr_b (fun r20 => ?_)
        refine fr_ite ?_ ?_
        · skip
          apply f_M_crop_83 hR <;> first | assumption | omega
        · skip
          refine fr_b (fun r24 => ?_)
          refine fr_ite ?_ ?_
          · skip
            apply f_M_crop_83 hR <;> first | assumption | omega
          · skip
            apply f_M_crop_88 hR <;> first | assumption | omega
  · skip
    exact fr_ret (by assumption)
theorem f_M_crop_24 {R : ax_R} (hR : mOk oS R) {I0 : ax_I} (I : ax_I) (x1 : Int32) (x2 : Int32) (x3 : Int32) (x4 : Int32) (w0 : Nat) (hw0 : 210 ≤ w0) (hI : low I0 I) : frG Prod.snd I0 (d_M_crop_24 oS I R 210 x1 x2 x3 x4 w0) := by
  unfold d_M_crop_24
  apply f_M_crop_29 hR <;> first | assumption | omega
theorem f_M_crop {R : ax_R} (hR : mOk oS R) {I0 : ax_I} (I : ax_I) (x1 : Int32) (x2 : Int32) (x3 : Int32) (x4 : Int32) (hI : low I0 I) : frG Prod.snd I0 (d_M_crop oS I R 210 x1 x2 x3 x4) := by
  unfold d_M_crop
  refine fr_ite ?_ ?_
  · skip
    apply f_M_crop_24 hR <;> first | assumption | omega
  · skip
    refine fr_ite ?_ ?_
    · skip
      apply f_M_crop_24 hR <;> first | assumption | omega
    · skip
      refine fr_b (fun r5 => ?_)
      refine fr_ite ?_ ?_
      · skip
        apply f_M_crop_24 hR <;> first | assumption | omega
      · skip
        apply f_M_crop_29 hR <;> first | assumption | omega
theorem f_M_write_220 {R : ax_R} (hR : mOk oS R) {I0 : ax_I} (rec171 : ax_I → ax_R → Nat → Int32 → Option (Int32 × ax_I)) (hrec171 : ∀ (I : ax_I) (z0 : Int32), low I0 I → frG Prod.snd I0 (rec171 I R 210 z0)) (rec186 : ax_I → ax_R → Nat → Int32 → Int32 → Option (Int32 × ax_I)) (hrec186 : ∀ (I : ax_I) (z0 z1 : Int32), low I0 I → frG Prod.snd I0 (rec186 I R 210 z0 z1)) (I : ax_I) (x1 : Int32) (x2 : Int32) (hI : low I0 I) : frG Prod.snd I0 (d_M_write_220 oS rec171 rec186 I R 210 x1 x2) := by
  unfold d_M_write_220
  apply hrec186 <;> assumption
theorem f_M_write_186 {R : ax_R} (hR : mOk oS R) {I0 : ax_I} (rec171 : ax_I → ax_R → Nat → Int32 → Option (Int32 × ax_I)) (hrec171 : ∀ (I : ax_I) (z0 : Int32), low I0 I → frG Prod.snd I0 (rec171 I R 210 z0)) : ∀ (n : Nat) (I : ax_I) (x1 x2 : Int32), low I0 I → frG Prod.snd I0 (d_M_write_186 oS rec171 n I R 210 x1 x2) := by
  intro n
  induction n with
  | zero => intros; exact fr_none
  | succ n ih =>
    intro I x1 x2 hI
    rw [d_M_write_186]
    refine fr_R hR (by decide) (fun u101 hu101 => ?_)
    refine fr_b (fun j105 => ?_)
    refine fr_ite ?_ ?_
    · skip
      apply hrec171 <;> assumption
    · skip
      refine fr_b (fun r110 => ?_)
      refine fr_ite ?_ ?_
      · skip
        refine fr_b (fun r114 => ?_)
        refine fr_cI (pr := Prod.snd) ?_ (fun I117 hI117 => ?_)
        · apply f_M_tellPart hR <;> first | assumption | omega
        apply f_M_write_220 hR <;> first | assumption | omega
      · skip
        apply f_M_write_220 hR <;> first | assumption | omega
theorem f_M_write_171 {R : ax_R} (hR : mOk oS R) {I0 : ax_I} : ∀ (n : Nat) (I : ax_I) (x1 : Int32), low I0 I → frG Prod.snd I0 (d_M_write_171 oS n I R 210 x1) := by
  intro n
  induction n with
  | zero => intros; exact fr_none
  | succ n ih =>
    intro I x1 hI
    rw [d_M_write_171]
    refine fr_R hR (by decide) (fun u94 hu94 => ?_)
    refine fr_b (fun j98 => ?_)
    refine fr_ite ?_ ?_
    · skip
      exact fr_ret (by assumption)
    · skip
      apply f_M_write_186 hR <;> first | assumption | omega
theorem f_M_write_112 {R : ax_R} (hR : mOk oS R) {I0 : ax_I} : ∀ (n : Nat) (I : ax_I) (x1 : Int32), low I0 I → frG Prod.snd I0 (d_M_write_112 oS n I R 210 x1) := by
  intro n
  induction n with
  | zero => intros; exact fr_none
  | succ n ih =>
    intro I x1 hI
    rw [d_M_write_112]
    refine fr_R hR (by decide) (fun u60 hu60 => ?_)
    refine fr_b (fun j64 => ?_)
    refine fr_ite ?_ ?_
    · skip
      apply f_M_write_171 hR <;> first | assumption | omega
    · skip
      refine fr_R hR (by decide) (fun u67 hu67 => ?_)
      refine fr_b (fun j71 => ?_)
      refine fr_cI (pr := Prod.snd) ?_ (fun I75 hI75 => ?_)
      · apply f_M_tellTwo hR <;> first | assumption | omega
      refine fr_R hR (by decide) (fun u76 hu76 => ?_)
      refine fr_b (fun j80 => ?_)
      refine fr_cI (pr := Prod.snd) ?_ (fun I84 hI84 => ?_)
      · apply f_M_tellTwo hR <;> first | assumption | omega
      refine fr_R hR (by decide) (fun u85 hu85 => ?_)
      refine fr_b (fun j89 => ?_)
      refine fr_cI (pr := Prod.snd) ?_ (fun I93 hI93 => ?_)
      · apply f_M_tell hR <;> first | assumption | omega
      apply ih <;> assumption
theorem f_M_write_63 {R : ax_R} (hR : mOk oS R) {I0 : ax_I} : ∀ (n : Nat) (I : ax_I) (x1 : Int32), low I0 I → frG Prod.snd I0 (d_M_write_63 oS n I R 210 x1) := by
  intro n
  induction n with
  | zero => intros; exact fr_none
  | succ n ih =>
    intro I x1 hI
    rw [d_M_write_63]
    refine fr_R hR (by decide) (fun u38 hu38 => ?_)
    refine fr_b (fun j42 => ?_)
    refine fr_ite ?_ ?_
    · skip
      refine fr_R hR (by decide) (fun u45 hu45 => ?_)
      refine fr_b (fun j49 => ?_)
      refine fr_cI (pr := Prod.snd) ?_ (fun I53 hI53 => ?_)
      · apply f_M_tell hR <;> first | assumption | omega
      apply f_M_write_112 hR <;> first | assumption | omega
    · skip
      refine fr_b (fun r56 => ?_)
      refine fr_cI (pr := Prod.snd) ?_ (fun I59 hI59 => ?_)
      · apply f_M_tellTwo hR <;> first | assumption | omega
      apply ih <;> assumption
theorem f_M_write {R : ax_R} (hR : mOk oS R) {I0 : ax_I} (I : ax_I) (hI : low I0 I) : frG Prod.snd I0 (d_M_write oS I R 210 ) := by
  unfold d_M_write
  refine fr_set (by omega) (by assumption) (fun I1 hI1 => ?_)
  refine fr_set (by omega) (by assumption) (fun I3 hI3 => ?_)
  refine fr_cI (pr := Prod.snd) ?_ (fun I7 hI7 => ?_)
  · apply f_M_tell hR <;> first | assumption | omega
  refine fr_cI (pr := Prod.snd) ?_ (fun I10 hI10 => ?_)
  · apply f_M_tell hR <;> first | assumption | omega
  refine fr_R hR (by decide) (fun u11 hu11 => ?_)
  refine fr_b (fun j15 => ?_)
  refine fr_cI (pr := Prod.snd) ?_ (fun I19 hI19 => ?_)
  · apply f_M_tellTwo hR <;> first | assumption | omega
  refine fr_R hR (by decide) (fun u20 hu20 => ?_)
  refine fr_b (fun j24 => ?_)
  refine fr_cI (pr := Prod.snd) ?_ (fun I28 hI28 => ?_)
  · apply f_M_tellTwo hR <;> first | assumption | omega
  refine fr_R hR (by decide) (fun u29 hu29 => ?_)
  refine fr_b (fun j33 => ?_)
  refine fr_cI (pr := Prod.snd) ?_ (fun I37 hI37 => ?_)
  · apply f_M_tell hR <;> first | assumption | omega
  apply f_M_write_63 hR <;> first | assumption | omega
