/-! the reference writes into its own cells alone -/
def low (I0 J : ax_I) : Prop := ∀ i m, i < 210 → J i m = I0 i m
def frG {β : Type} (pr : β → ax_I) (I0 : ax_I) (r : Option β) : Prop := ∀ o, r = some o → low I0 (pr o)
section FRM
variable {β : Type} {pr : β → ax_I} {I0 : ax_I}
theorem fr_none : frG pr I0 none := fun o h => (by cases h)
theorem fr_ite {c : Prop} [Decidable c] {a b : Option β} (ha : frG pr I0 a) (hb : frG pr I0 b) : frG pr I0 (if c then a else b) := by
  split
  · exact ha
  · exact hb
theorem fr_b {γ : Type} {x : Option γ} {K : γ → Option β} (h : ∀ a, frG pr I0 (K a)) : frG pr I0 (x.bind K) := by
  cases x with
  | none => exact fr_none
  | some a => rw [ob]; exact h a
theorem fr_set {J : ax_I} {u k : Nat} {v : Int32} {K : ax_I → Option β} (hu : 210 ≤ u) (hJ : low I0 J) (h : ∀ J', low I0 J' → frG pr I0 (K J')) : frG pr I0 ((some (ax_up J u k v)).bind K) := by
  rw [ob]
  exact h _ (fun i m hi => by rw [ax_up_ne (by omega)]; exact hJ i m hi)
theorem fr_R {R : ax_R} (hR : mOk oS R) {k : Nat} (hk : (4 ≤ k ∧ k ≤ 17) ∨ k = 20 ∨ k = 21) {K : Nat → Option β} (h : ∀ u, 210 ≤ u → frG pr I0 (K u)) : frG pr I0 ((R 210 k).bind K) := by
  obtain ⟨u, hu, hg⟩ : ∃ u, R 210 k = some u ∧ 210 ≤ u := by
    rcases hk with hk | rfl | rfl
    · have := (hR.2 (k - 4) (by omega)).1
      unfold mFld at this
      rw [if_pos (by omega), show k - 4 + 4 = k by omega] at this
      exact ⟨_, this, by omega⟩
    · exact ⟨_, mr_20 hR, by omega⟩
    · exact ⟨_, mr_21 hR, by omega⟩
  rw [hu, ob]
  exact h u hg
theorem fr_cP {x : Option (Int32 × ax_I)} {K : Int32 × ax_I → Option β} (hx : frG Prod.snd I0 x) (h : ∀ o, low I0 o.2 → frG pr I0 (K o)) : frG pr I0 (x.bind K) := by
  cases x with
  | none => exact fr_none
  | some a => rw [ob]; exact h a (hx a rfl)
theorem fr_cI {x : Option ax_I} {K : ax_I → Option β} (hx : frG id I0 x) (h : ∀ o, low I0 o → frG pr I0 (K o)) : frG pr I0 (x.bind K) := by
  cases x with
  | none => exact fr_none
  | some a => rw [ob]; exact h a (hx a rfl)
theorem fr_ret {v : Int32} {J : ax_I} (h : low I0 J) : frG Prod.snd I0 (some (v, J)) := fun o e => (by cases e; exact h)
theorem fr_retI {J : ax_I} (h : low I0 J) : frG id I0 (some J) := fun o e => (by cases e; exact h)
end FRM
theorem f_M_clear_12 {R : ax_R} (hR : mOk oS R) {I0 : ax_I} : ∀ (n : Nat) (I : ax_I) (x0 : Int32), low I0 I → frG id I0 (d_M_clear_12 oS n I R 210 x0) := by
  intro n
  induction n with
  | zero => intros; exact fr_none
  | succ n ih =>
    intros
    rw [d_M_clear_12]
    all_goals
      repeat' first
        | exact fr_ret (by assumption)
        | exact fr_retI (by assumption)
        | refine fr_ite ?_ ?_
        | refine fr_R hR (by decide) (fun _ _ => ?_)
        | refine fr_set (by omega) (by assumption) (fun _ _ => ?_)
        | (apply ih <;> assumption)
        | refine fr_b (fun _ => ?_)
theorem f_M_clear {R : ax_R} (hR : mOk oS R) {I0 : ax_I} (I : ax_I) (hI : low I0 I) : frG id I0 (d_M_clear oS I R 210 ) := by
  unfold d_M_clear
  all_goals
      repeat' first
        | exact fr_ret (by assumption)
        | exact fr_retI (by assumption)
        | refine fr_ite ?_ ?_
        | refine fr_R hR (by decide) (fun _ _ => ?_)
        | refine fr_set (by omega) (by assumption) (fun _ _ => ?_)
        | (apply f_M_clear_12 hR <;> first | assumption | omega)
        | (refine fr_cI (pr := id) ?_ (fun _ _ => ?_); (apply f_M_clear_12 hR <;> first | assumption | omega))
        | refine fr_b (fun _ => ?_)
theorem f_M_move_74 {R : ax_R} (hR : mOk oS R) {I0 : ax_I} : ∀ (n : Nat) (I : ax_I) (x0 x1 x2 : Int32), low I0 I → frG id I0 (d_M_move_74 oS n I R 210 x0 x1 x2) := by
  intro n
  induction n with
  | zero => intros; exact fr_none
  | succ n ih =>
    intros
    rw [d_M_move_74]
    all_goals
      repeat' first
        | exact fr_ret (by assumption)
        | exact fr_retI (by assumption)
        | refine fr_ite ?_ ?_
        | refine fr_R hR (by decide) (fun _ _ => ?_)
        | refine fr_set (by omega) (by assumption) (fun _ _ => ?_)
        | (apply ih <;> assumption)
        | refine fr_b (fun _ => ?_)
theorem f_M_move {R : ax_R} (hR : mOk oS R) {I0 : ax_I} (I : ax_I) (x1 : Int32) (x2 : Int32) (hI : low I0 I) : frG id I0 (d_M_move oS I R 210 x1 x2) := by
  unfold d_M_move
  all_goals
      repeat' first
        | exact fr_ret (by assumption)
        | exact fr_retI (by assumption)
        | refine fr_ite ?_ ?_
        | refine fr_R hR (by decide) (fun _ _ => ?_)
        | refine fr_set (by omega) (by assumption) (fun _ _ => ?_)
        | (apply f_M_move_74 hR <;> first | assumption | omega)
        | (refine fr_cI (pr := id) ?_ (fun _ _ => ?_); (apply f_M_move_74 hR <;> first | assumption | omega))
        | refine fr_b (fun _ => ?_)
theorem f_M_moveNote {R : ax_R} (hR : mOk oS R) {I0 : ax_I} (I : ax_I) (x1 : Int32) (x2 : Int32) (hI : low I0 I) : frG id I0 (d_M_moveNote oS I R 210 x1 x2) := by
  unfold d_M_moveNote
  all_goals
      repeat' first
        | exact fr_ret (by assumption)
        | exact fr_retI (by assumption)
        | refine fr_ite ?_ ?_
        | refine fr_R hR (by decide) (fun _ _ => ?_)
        | refine fr_set (by omega) (by assumption) (fun _ _ => ?_)
        | refine fr_b (fun _ => ?_)
theorem f_M_swap {R : ax_R} (hR : mOk oS R) {I0 : ax_I} (I : ax_I) (hI : low I0 I) : frG Prod.snd I0 (d_M_swap oS I R 210 ) := by
  unfold d_M_swap
  all_goals
      repeat' first
        | exact fr_ret (by assumption)
        | exact fr_retI (by assumption)
        | refine fr_ite ?_ ?_
        | refine fr_R hR (by decide) (fun _ _ => ?_)
        | refine fr_set (by omega) (by assumption) (fun _ _ => ?_)
        | refine fr_b (fun _ => ?_)
theorem f_M_tell {R : ax_R} (hR : mOk oS R) {I0 : ax_I} (I : ax_I) (x1 : Int32) (hI : low I0 I) : frG id I0 (d_M_tell oS I R 210 x1) := by
  unfold d_M_tell
  all_goals
      repeat' first
        | exact fr_ret (by assumption)
        | exact fr_retI (by assumption)
        | refine fr_ite ?_ ?_
        | refine fr_R hR (by decide) (fun _ _ => ?_)
        | refine fr_set (by omega) (by assumption) (fun _ _ => ?_)
        | refine fr_b (fun _ => ?_)
theorem f_M_told {R : ax_R} (hR : mOk oS R) {I0 : ax_I} (I : ax_I) (x1 : Int32) (hI : low I0 I) : frG Prod.snd I0 (d_M_told oS I R 210 x1) := by
  unfold d_M_told
  all_goals
      repeat' first
        | exact fr_ret (by assumption)
        | exact fr_retI (by assumption)
        | refine fr_ite ?_ ?_
        | refine fr_R hR (by decide) (fun _ _ => ?_)
        | refine fr_set (by omega) (by assumption) (fun _ _ => ?_)
        | refine fr_b (fun _ => ?_)
theorem f_M_tile_196 {R : ax_R} (hR : mOk oS R) {I0 : ax_I} (I : ax_I) (x1 : Int32) (x2 : Int32) (x3 : Int32) (x4 : Int32) (y0 : Int32) (w1 : Nat) (hw1 : 210 ≤ w1) (hI : low I0 I) : frG Prod.snd I0 (d_M_tile_196 oS I R 210 x1 x2 x3 x4 y0 w1) := by
  unfold d_M_tile_196
  all_goals
      repeat' first
        | exact fr_ret (by assumption)
        | exact fr_retI (by assumption)
        | refine fr_ite ?_ ?_
        | refine fr_R hR (by decide) (fun _ _ => ?_)
        | refine fr_set (by omega) (by assumption) (fun _ _ => ?_)
        | refine fr_b (fun _ => ?_)
theorem f_M_tile_192 {R : ax_R} (hR : mOk oS R) {I0 : ax_I} (I : ax_I) (x1 : Int32) (x2 : Int32) (x3 : Int32) (x4 : Int32) (w0 : Nat) (hw0 : 210 ≤ w0) (hI : low I0 I) : frG Prod.snd I0 (d_M_tile_192 oS I R 210 x1 x2 x3 x4 w0) := by
  unfold d_M_tile_192
  all_goals
      repeat' first
        | exact fr_ret (by assumption)
        | exact fr_retI (by assumption)
        | refine fr_ite ?_ ?_
        | refine fr_R hR (by decide) (fun _ _ => ?_)
        | refine fr_set (by omega) (by assumption) (fun _ _ => ?_)
        | (apply f_M_tile_196 hR <;> first | assumption | omega)
        | (refine fr_cP (pr := Prod.snd) ?_ (fun _ _ => ?_); (apply f_M_tile_196 hR <;> first | assumption | omega))
        | refine fr_b (fun _ => ?_)
theorem f_M_tile_166 {R : ax_R} (hR : mOk oS R) {I0 : ax_I} (I : ax_I) (x1 : Int32) (x2 : Int32) (x3 : Int32) (x4 : Int32) (hI : low I0 I) : frG Prod.snd I0 (d_M_tile_166 oS I R 210 x1 x2 x3 x4) := by
  unfold d_M_tile_166
  all_goals
      repeat' first
        | exact fr_ret (by assumption)
        | exact fr_retI (by assumption)
        | refine fr_ite ?_ ?_
        | refine fr_R hR (by decide) (fun _ _ => ?_)
        | refine fr_set (by omega) (by assumption) (fun _ _ => ?_)
        | (apply f_M_tile_196 hR <;> first | assumption | omega)
        | (refine fr_cP (pr := Prod.snd) ?_ (fun _ _ => ?_); (apply f_M_tile_196 hR <;> first | assumption | omega))
        | (apply f_M_tile_192 hR <;> first | assumption | omega)
        | (refine fr_cP (pr := Prod.snd) ?_ (fun _ _ => ?_); (apply f_M_tile_192 hR <;> first | assumption | omega))
        | refine fr_b (fun _ => ?_)
theorem f_M_tile_157 {R : ax_R} (hR : mOk oS R) {I0 : ax_I} (rec45 : ax_I → ax_R → Nat → Int32 → Int32 → Int32 → Int32 → Int32 → Option (Int32 × ax_I)) (hrec45 : ∀ (I : ax_I) (z0 z1 z2 z3 z4 : Int32), low I0 I → frG Prod.snd I0 (rec45 I R 210 z0 z1 z2 z3 z4)) (I : ax_I) (x1 : Int32) (x2 : Int32) (x3 : Int32) (x4 : Int32) (x5 : Int32) (y0 : Int32) (w1 : Nat) (hw1 : 210 ≤ w1) (hI : low I0 I) : frG Prod.snd I0 (d_M_tile_157 oS rec45 I R 210 x1 x2 x3 x4 x5 y0 w1) := by
  unfold d_M_tile_157
  all_goals
      repeat' first
        | exact fr_ret (by assumption)
        | exact fr_retI (by assumption)
        | refine fr_ite ?_ ?_
        | refine fr_R hR (by decide) (fun _ _ => ?_)
        | refine fr_set (by omega) (by assumption) (fun _ _ => ?_)
        | (apply hrec45 <;> assumption)
        | refine fr_b (fun _ => ?_)
theorem f_M_tile_144 {R : ax_R} (hR : mOk oS R) {I0 : ax_I} (rec45 : ax_I → ax_R → Nat → Int32 → Int32 → Int32 → Int32 → Int32 → Option (Int32 × ax_I)) (hrec45 : ∀ (I : ax_I) (z0 z1 z2 z3 z4 : Int32), low I0 I → frG Prod.snd I0 (rec45 I R 210 z0 z1 z2 z3 z4)) (I : ax_I) (x1 : Int32) (x2 : Int32) (x3 : Int32) (x4 : Int32) (x5 : Int32) (y0 : Int32) (hI : low I0 I) : frG Prod.snd I0 (d_M_tile_144 oS rec45 I R 210 x1 x2 x3 x4 x5 y0) := by
  unfold d_M_tile_144
  all_goals
      repeat' first
        | exact fr_ret (by assumption)
        | exact fr_retI (by assumption)
        | refine fr_ite ?_ ?_
        | refine fr_R hR (by decide) (fun _ _ => ?_)
        | refine fr_set (by omega) (by assumption) (fun _ _ => ?_)
        | (apply hrec45 <;> assumption)
        | (apply f_M_tile_157 hR <;> first | assumption | omega)
        | (refine fr_cP (pr := Prod.snd) ?_ (fun _ _ => ?_); (apply f_M_tile_157 hR <;> first | assumption | omega))
        | refine fr_b (fun _ => ?_)
theorem f_M_tile_139 {R : ax_R} (hR : mOk oS R) {I0 : ax_I} (rec45 : ax_I → ax_R → Nat → Int32 → Int32 → Int32 → Int32 → Int32 → Option (Int32 × ax_I)) (hrec45 : ∀ (I : ax_I) (z0 z1 z2 z3 z4 : Int32), low I0 I → frG Prod.snd I0 (rec45 I R 210 z0 z1 z2 z3 z4)) (I : ax_I) (x1 : Int32) (x2 : Int32) (x3 : Int32) (x4 : Int32) (x5 : Int32) (hI : low I0 I) : frG Prod.snd I0 (d_M_tile_139 oS rec45 I R 210 x1 x2 x3 x4 x5) := by
  unfold d_M_tile_139
  all_goals
      repeat' first
        | exact fr_ret (by assumption)
        | exact fr_retI (by assumption)
        | refine fr_ite ?_ ?_
        | refine fr_R hR (by decide) (fun _ _ => ?_)
        | refine fr_set (by omega) (by assumption) (fun _ _ => ?_)
        | (apply hrec45 <;> assumption)
        | (apply f_M_tile_144 hR <;> first | assumption | omega)
        | (refine fr_cP (pr := Prod.snd) ?_ (fun _ _ => ?_); (apply f_M_tile_144 hR <;> first | assumption | omega))
        | refine fr_b (fun _ => ?_)
theorem f_M_tile_45 {R : ax_R} (hR : mOk oS R) {I0 : ax_I} : ∀ (n : Nat) (I : ax_I) (x0 x1 x2 x3 x4 : Int32), low I0 I → frG Prod.snd I0 (d_M_tile_45 oS n I R 210 x0 x1 x2 x3 x4) := by
  intro n
  induction n with
  | zero => intros; exact fr_none
  | succ n ih =>
    intros
    rw [d_M_tile_45]
    all_goals
      repeat' first
        | exact fr_ret (by assumption)
        | exact fr_retI (by assumption)
        | refine fr_ite ?_ ?_
        | refine fr_R hR (by decide) (fun _ _ => ?_)
        | refine fr_set (by omega) (by assumption) (fun _ _ => ?_)
        | (apply ih <;> assumption)
        | (apply f_M_tile_166 hR <;> first | assumption | omega)
        | (refine fr_cP (pr := Prod.snd) ?_ (fun _ _ => ?_); (apply f_M_tile_166 hR <;> first | assumption | omega))
        | (apply f_M_tile_139 hR <;> first | assumption | omega)
        | (refine fr_cP (pr := Prod.snd) ?_ (fun _ _ => ?_); (apply f_M_tile_139 hR <;> first | assumption | omega))
        | (apply f_M_tile_144 hR <;> first | assumption | omega)
        | (refine fr_cP (pr := Prod.snd) ?_ (fun _ _ => ?_); (apply f_M_tile_144 hR <;> first | assumption | omega))
        | refine fr_b (fun _ => ?_)
theorem f_M_tile_39 {R : ax_R} (hR : mOk oS R) {I0 : ax_I} (I : ax_I) (x1 : Int32) (x2 : Int32) (x3 : Int32) (x4 : Int32) (y0 : Int32) (w1 : Nat) (hw1 : 210 ≤ w1) (hI : low I0 I) : frG Prod.snd I0 (d_M_tile_39 oS I R 210 x1 x2 x3 x4 y0 w1) := by
  unfold d_M_tile_39
  all_goals
      repeat' first
        | exact fr_ret (by assumption)
        | exact fr_retI (by assumption)
        | refine fr_ite ?_ ?_
        | refine fr_R hR (by decide) (fun _ _ => ?_)
        | refine fr_set (by omega) (by assumption) (fun _ _ => ?_)
        | (apply f_M_tile_45 hR <;> first | assumption | omega)
        | (refine fr_cP (pr := Prod.snd) ?_ (fun _ _ => ?_); (apply f_M_tile_45 hR <;> first | assumption | omega))
        | refine fr_b (fun _ => ?_)
theorem f_M_tile_34 {R : ax_R} (hR : mOk oS R) {I0 : ax_I} (I : ax_I) (x1 : Int32) (x2 : Int32) (x3 : Int32) (x4 : Int32) (w0 : Nat) (hw0 : 210 ≤ w0) (hI : low I0 I) : frG Prod.snd I0 (d_M_tile_34 oS I R 210 x1 x2 x3 x4 w0) := by
  unfold d_M_tile_34
  all_goals
      repeat' first
        | exact fr_ret (by assumption)
        | exact fr_retI (by assumption)
        | refine fr_ite ?_ ?_
        | refine fr_R hR (by decide) (fun _ _ => ?_)
        | refine fr_set (by omega) (by assumption) (fun _ _ => ?_)
        | (apply f_M_tile_39 hR <;> first | assumption | omega)
        | (refine fr_cP (pr := Prod.snd) ?_ (fun _ _ => ?_); (apply f_M_tile_39 hR <;> first | assumption | omega))
        | refine fr_b (fun _ => ?_)
theorem f_M_tile {R : ax_R} (hR : mOk oS R) {I0 : ax_I} (I : ax_I) (x1 : Int32) (x2 : Int32) (x3 : Int32) (x4 : Int32) (hI : low I0 I) : frG Prod.snd I0 (d_M_tile oS I R 210 x1 x2 x3 x4) := by
  unfold d_M_tile
  all_goals
      repeat' first
        | exact fr_ret (by assumption)
        | exact fr_retI (by assumption)
        | refine fr_ite ?_ ?_
        | refine fr_R hR (by decide) (fun _ _ => ?_)
        | refine fr_set (by omega) (by assumption) (fun _ _ => ?_)
        | (apply f_M_tile_34 hR <;> first | assumption | omega)
        | (refine fr_cP (pr := Prod.snd) ?_ (fun _ _ => ?_); (apply f_M_tile_34 hR <;> first | assumption | omega))
        | (apply f_M_tile_39 hR <;> first | assumption | omega)
        | (refine fr_cP (pr := Prod.snd) ?_ (fun _ _ => ?_); (apply f_M_tile_39 hR <;> first | assumption | omega))
        | refine fr_b (fun _ => ?_)
theorem f_M_near_26 {R : ax_R} (hR : mOk oS R) {I0 : ax_I} (I : ax_I) (x1 : Int32) (y0 : Int32) (w1 : Nat) (hw1 : 210 ≤ w1) (hI : low I0 I) : frG Prod.snd I0 (d_M_near_26 oS I R 210 x1 y0 w1) := by
  unfold d_M_near_26
  all_goals
      repeat' first
        | exact fr_ret (by assumption)
        | exact fr_retI (by assumption)
        | refine fr_ite ?_ ?_
        | refine fr_R hR (by decide) (fun _ _ => ?_)
        | refine fr_set (by omega) (by assumption) (fun _ _ => ?_)
        | refine fr_b (fun _ => ?_)
theorem f_M_near {R : ax_R} (hR : mOk oS R) {I0 : ax_I} (I : ax_I) (x1 : Int32) (hI : low I0 I) : frG Prod.snd I0 (d_M_near oS I R 210 x1) := by
  unfold d_M_near
  all_goals
      repeat' first
        | exact fr_ret (by assumption)
        | exact fr_retI (by assumption)
        | refine fr_ite ?_ ?_
        | refine fr_R hR (by decide) (fun _ _ => ?_)
        | refine fr_set (by omega) (by assumption) (fun _ _ => ?_)
        | (apply f_M_near_26 hR <;> first | assumption | omega)
        | (refine fr_cP (pr := Prod.snd) ?_ (fun _ _ => ?_); (apply f_M_near_26 hR <;> first | assumption | omega))
        | refine fr_b (fun _ => ?_)
theorem f_M_join_638 {R : ax_R} (hR : mOk oS R) {I0 : ax_I} (I : ax_I) (y0 : Int32) (y1 : Int32) (w2 : Nat) (hw2 : 210 ≤ w2) (hI : low I0 I) : frG Prod.snd I0 (d_M_join_638 oS I R 210 y0 y1 w2) := by
  unfold d_M_join_638
  all_goals
      repeat' first
        | exact fr_ret (by assumption)
        | exact fr_retI (by assumption)
        | refine fr_ite ?_ ?_
        | refine fr_R hR (by decide) (fun _ _ => ?_)
        | refine fr_set (by omega) (by assumption) (fun _ _ => ?_)
        | refine fr_b (fun _ => ?_)
theorem f_M_join_611 {R : ax_R} (hR : mOk oS R) {I0 : ax_I} (I : ax_I) (x3 : Int32) (x4 : Int32) (y0 : Int32) (y1 : Int32) (w2 : Nat) (hw2 : 210 ≤ w2) (hI : low I0 I) : frG Prod.snd I0 (d_M_join_611 oS I R 210 x3 x4 y0 y1 w2) := by
  unfold d_M_join_611
  all_goals
      repeat' first
        | exact fr_ret (by assumption)
        | exact fr_retI (by assumption)
        | refine fr_ite ?_ ?_
        | refine fr_R hR (by decide) (fun _ _ => ?_)
        | refine fr_set (by omega) (by assumption) (fun _ _ => ?_)
        | (apply f_M_join_638 hR <;> first | assumption | omega)
        | (refine fr_cP (pr := Prod.snd) ?_ (fun _ _ => ?_); (apply f_M_join_638 hR <;> first | assumption | omega))
        | refine fr_b (fun _ => ?_)
theorem f_M_join_485 {R : ax_R} (hR : mOk oS R) {I0 : ax_I} : ∀ (n : Nat) (I : ax_I) (x0 x1 x2 x3 x4 x5 : Int32), low I0 I → frG Prod.snd I0 (d_M_join_485 oS n I R 210 x0 x1 x2 x3 x4 x5) := by
  intro n
  induction n with
  | zero => intros; exact fr_none
  | succ n ih =>
    intros
    rw [d_M_join_485]
    all_goals
      repeat' first
        | exact fr_ret (by assumption)
        | exact fr_retI (by assumption)
        | refine fr_ite ?_ ?_
        | refine fr_R hR (by decide) (fun _ _ => ?_)
        | refine fr_set (by omega) (by assumption) (fun _ _ => ?_)
        | (apply ih <;> assumption)
        | (apply f_M_join_611 hR <;> first | assumption | omega)
        | (refine fr_cP (pr := Prod.snd) ?_ (fun _ _ => ?_); (apply f_M_join_611 hR <;> first | assumption | omega))
        | (apply f_M_moveNote hR <;> first | assumption | omega)
        | (refine fr_cI (pr := Prod.snd) ?_ (fun _ _ => ?_); (apply f_M_moveNote hR <;> first | assumption | omega))
        | refine fr_b (fun _ => ?_)
theorem f_M_join_400 {R : ax_R} (hR : mOk oS R) {I0 : ax_I} : ∀ (n : Nat) (I : ax_I) (x0 x1 x2 x3 x4 x5 : Int32), low I0 I → frG Prod.snd I0 (d_M_join_400 oS n I R 210 x0 x1 x2 x3 x4 x5) := by
  intro n
  induction n with
  | zero => intros; exact fr_none
  | succ n ih =>
    intros
    rw [d_M_join_400]
    all_goals
      repeat' first
        | exact fr_ret (by assumption)
        | exact fr_retI (by assumption)
        | refine fr_ite ?_ ?_
        | refine fr_R hR (by decide) (fun _ _ => ?_)
        | refine fr_set (by omega) (by assumption) (fun _ _ => ?_)
        | (apply ih <;> assumption)
        | (apply f_M_join_485 hR <;> first | assumption | omega)
        | (refine fr_cP (pr := Prod.snd) ?_ (fun _ _ => ?_); (apply f_M_join_485 hR <;> first | assumption | omega))
        | (apply f_M_move hR <;> first | assumption | omega)
        | (refine fr_cI (pr := Prod.snd) ?_ (fun _ _ => ?_); (apply f_M_move hR <;> first | assumption | omega))
        | refine fr_b (fun _ => ?_)
theorem f_M_join_345 {R : ax_R} (hR : mOk oS R) {I0 : ax_I} : ∀ (n : Nat) (I : ax_I) (x0 x1 x2 x3 x4 x5 x6 x7 : Int32), low I0 I → frG Prod.snd I0 (d_M_join_345 oS n I R 210 x0 x1 x2 x3 x4 x5 x6 x7) := by
  intro n
  induction n with
  | zero => intros; exact fr_none
  | succ n ih =>
    intros
    rw [d_M_join_345]
    all_goals
      repeat' first
        | exact fr_ret (by assumption)
        | exact fr_retI (by assumption)
        | refine fr_ite ?_ ?_
        | refine fr_R hR (by decide) (fun _ _ => ?_)
        | refine fr_set (by omega) (by assumption) (fun _ _ => ?_)
        | (apply ih <;> assumption)
        | (apply f_M_join_400 hR <;> first | assumption | omega)
        | (refine fr_cP (pr := Prod.snd) ?_ (fun _ _ => ?_); (apply f_M_join_400 hR <;> first | assumption | omega))
        | refine fr_b (fun _ => ?_)
theorem f_M_join_284 {R : ax_R} (hR : mOk oS R) {I0 : ax_I} : ∀ (n : Nat) (I : ax_I) (x0 x1 x2 x3 x4 x5 x6 x7 : Int32), low I0 I → frG Prod.snd I0 (d_M_join_284 oS n I R 210 x0 x1 x2 x3 x4 x5 x6 x7) := by
  intro n
  induction n with
  | zero => intros; exact fr_none
  | succ n ih =>
    intros
    rw [d_M_join_284]
    all_goals
      repeat' first
        | exact fr_ret (by assumption)
        | exact fr_retI (by assumption)
        | refine fr_ite ?_ ?_
        | refine fr_R hR (by decide) (fun _ _ => ?_)
        | refine fr_set (by omega) (by assumption) (fun _ _ => ?_)
        | (apply ih <;> assumption)
        | (apply f_M_join_345 hR <;> first | assumption | omega)
        | (refine fr_cP (pr := Prod.snd) ?_ (fun _ _ => ?_); (apply f_M_join_345 hR <;> first | assumption | omega))
        | refine fr_b (fun _ => ?_)
theorem f_M_join_279 {R : ax_R} (hR : mOk oS R) {I0 : ax_I} (I : ax_I) (x2 : Int32) (x3 : Int32) (x4 : Int32) (x6 : Int32) (x7 : Int32) (x8 : Int32) (y0 : Int32) (hI : low I0 I) : frG Prod.snd I0 (d_M_join_279 oS I R 210 x2 x3 x4 x6 x7 x8 y0) := by
  unfold d_M_join_279
  all_goals
      repeat' first
        | exact fr_ret (by assumption)
        | exact fr_retI (by assumption)
        | refine fr_ite ?_ ?_
        | refine fr_R hR (by decide) (fun _ _ => ?_)
        | refine fr_set (by omega) (by assumption) (fun _ _ => ?_)
        | (apply f_M_join_284 hR <;> first | assumption | omega)
        | (refine fr_cP (pr := Prod.snd) ?_ (fun _ _ => ?_); (apply f_M_join_284 hR <;> first | assumption | omega))
        | refine fr_b (fun _ => ?_)
theorem f_M_join_259 {R : ax_R} (hR : mOk oS R) {I0 : ax_I} (I : ax_I) (x1 : Int32) (x2 : Int32) (x3 : Int32) (x4 : Int32) (x6 : Int32) (x7 : Int32) (y0 : Int32) (hI : low I0 I) : frG Prod.snd I0 (d_M_join_259 oS I R 210 x1 x2 x3 x4 x6 x7 y0) := by
  unfold d_M_join_259
  all_goals
      repeat' first
        | exact fr_ret (by assumption)
        | exact fr_retI (by assumption)
        | refine fr_ite ?_ ?_
        | refine fr_R hR (by decide) (fun _ _ => ?_)
        | refine fr_set (by omega) (by assumption) (fun _ _ => ?_)
        | (apply f_M_join_279 hR <;> first | assumption | omega)
        | (refine fr_cP (pr := Prod.snd) ?_ (fun _ _ => ?_); (apply f_M_join_279 hR <;> first | assumption | omega))
        | refine fr_b (fun _ => ?_)
theorem f_M_join_239 {R : ax_R} (hR : mOk oS R) {I0 : ax_I} (I : ax_I) (x1 : Int32) (x2 : Int32) (x3 : Int32) (x4 : Int32) (x6 : Int32) (y0 : Int32) (hI : low I0 I) : frG Prod.snd I0 (d_M_join_239 oS I R 210 x1 x2 x3 x4 x6 y0) := by
  unfold d_M_join_239
  all_goals
      repeat' first
        | exact fr_ret (by assumption)
        | exact fr_retI (by assumption)
        | refine fr_ite ?_ ?_
        | refine fr_R hR (by decide) (fun _ _ => ?_)
        | refine fr_set (by omega) (by assumption) (fun _ _ => ?_)
        | (apply f_M_join_259 hR <;> first | assumption | omega)
        | (refine fr_cP (pr := Prod.snd) ?_ (fun _ _ => ?_); (apply f_M_join_259 hR <;> first | assumption | omega))
        | refine fr_b (fun _ => ?_)
theorem f_M_join_222 {R : ax_R} (hR : mOk oS R) {I0 : ax_I} (I : ax_I) (x1 : Int32) (x2 : Int32) (x3 : Int32) (x4 : Int32) (y0 : Int32) (hI : low I0 I) : frG Prod.snd I0 (d_M_join_222 oS I R 210 x1 x2 x3 x4 y0) := by
  unfold d_M_join_222
  all_goals
      repeat' first
        | exact fr_ret (by assumption)
        | exact fr_retI (by assumption)
        | refine fr_ite ?_ ?_
        | refine fr_R hR (by decide) (fun _ _ => ?_)
        | refine fr_set (by omega) (by assumption) (fun _ _ => ?_)
        | (apply f_M_join_239 hR <;> first | assumption | omega)
        | (refine fr_cP (pr := Prod.snd) ?_ (fun _ _ => ?_); (apply f_M_join_239 hR <;> first | assumption | omega))
        | refine fr_b (fun _ => ?_)
theorem f_M_join_196 {R : ax_R} (hR : mOk oS R) {I0 : ax_I} (I : ax_I) (x1 : Int32) (x2 : Int32) (x3 : Int32) (x4 : Int32) (y0 : Int32) (w1 : Nat) (hw1 : 210 ≤ w1) (hI : low I0 I) : frG Prod.snd I0 (d_M_join_196 oS I R 210 x1 x2 x3 x4 y0 w1) := by
  unfold d_M_join_196
  all_goals
      repeat' first
        | exact fr_ret (by assumption)
        | exact fr_retI (by assumption)
        | refine fr_ite ?_ ?_
        | refine fr_R hR (by decide) (fun _ _ => ?_)
        | refine fr_set (by omega) (by assumption) (fun _ _ => ?_)
        | (apply f_M_join_222 hR <;> first | assumption | omega)
        | (refine fr_cP (pr := Prod.snd) ?_ (fun _ _ => ?_); (apply f_M_join_222 hR <;> first | assumption | omega))
        | refine fr_b (fun _ => ?_)
theorem f_M_join_191 {R : ax_R} (hR : mOk oS R) {I0 : ax_I} (I : ax_I) (x1 : Int32) (x2 : Int32) (x3 : Int32) (x4 : Int32) (w0 : Nat) (hw0 : 210 ≤ w0) (hI : low I0 I) : frG Prod.snd I0 (d_M_join_191 oS I R 210 x1 x2 x3 x4 w0) := by
  unfold d_M_join_191
  all_goals
      repeat' first
        | exact fr_ret (by assumption)
        | exact fr_retI (by assumption)
        | refine fr_ite ?_ ?_
        | refine fr_R hR (by decide) (fun _ _ => ?_)
        | refine fr_set (by omega) (by assumption) (fun _ _ => ?_)
        | (apply f_M_join_196 hR <;> first | assumption | omega)
        | (refine fr_cP (pr := Prod.snd) ?_ (fun _ _ => ?_); (apply f_M_join_196 hR <;> first | assumption | omega))
        | refine fr_b (fun _ => ?_)
theorem f_M_join_116 {R : ax_R} (hR : mOk oS R) {I0 : ax_I} (I : ax_I) (x1 : Int32) (x2 : Int32) (x3 : Int32) (x4 : Int32) (y0 : Int32) (hI : low I0 I) : frG Prod.snd I0 (d_M_join_116 oS I R 210 x1 x2 x3 x4 y0) := by
  unfold d_M_join_116
  all_goals
      repeat' first
        | exact fr_ret (by assumption)
        | exact fr_retI (by assumption)
        | refine fr_ite ?_ ?_
        | refine fr_R hR (by decide) (fun _ _ => ?_)
        | refine fr_set (by omega) (by assumption) (fun _ _ => ?_)
        | (apply f_M_join_196 hR <;> first | assumption | omega)
        | (refine fr_cP (pr := Prod.snd) ?_ (fun _ _ => ?_); (apply f_M_join_196 hR <;> first | assumption | omega))
        | (apply f_M_join_191 hR <;> first | assumption | omega)
        | (refine fr_cP (pr := Prod.snd) ?_ (fun _ _ => ?_); (apply f_M_join_191 hR <;> first | assumption | omega))
        | refine fr_b (fun _ => ?_)
theorem f_M_join_61 {R : ax_R} (hR : mOk oS R) {I0 : ax_I} (I : ax_I) (x1 : Int32) (x2 : Int32) (x3 : Int32) (y0 : Int32) (hI : low I0 I) : frG Prod.snd I0 (d_M_join_61 oS I R 210 x1 x2 x3 y0) := by
  unfold d_M_join_61
  all_goals
      repeat' first
        | exact fr_ret (by assumption)
        | exact fr_retI (by assumption)
        | refine fr_ite ?_ ?_
        | refine fr_R hR (by decide) (fun _ _ => ?_)
        | refine fr_set (by omega) (by assumption) (fun _ _ => ?_)
        | (apply f_M_join_116 hR <;> first | assumption | omega)
        | (refine fr_cP (pr := Prod.snd) ?_ (fun _ _ => ?_); (apply f_M_join_116 hR <;> first | assumption | omega))
        | refine fr_b (fun _ => ?_)
theorem f_M_join_21 {R : ax_R} (hR : mOk oS R) {I0 : ax_I} (I : ax_I) (x1 : Int32) (x2 : Int32) (y0 : Int32) (hI : low I0 I) : frG Prod.snd I0 (d_M_join_21 oS I R 210 x1 x2 y0) := by
  unfold d_M_join_21
  all_goals
      repeat' first
        | exact fr_ret (by assumption)
        | exact fr_retI (by assumption)
        | refine fr_ite ?_ ?_
        | refine fr_R hR (by decide) (fun _ _ => ?_)
        | refine fr_set (by omega) (by assumption) (fun _ _ => ?_)
        | (apply f_M_join_61 hR <;> first | assumption | omega)
        | (refine fr_cP (pr := Prod.snd) ?_ (fun _ _ => ?_); (apply f_M_join_61 hR <;> first | assumption | omega))
        | refine fr_b (fun _ => ?_)
theorem f_M_join_16 {R : ax_R} (hR : mOk oS R) {I0 : ax_I} (I : ax_I) (x1 : Int32) (x2 : Int32) (hI : low I0 I) : frG Prod.snd I0 (d_M_join_16 oS I R 210 x1 x2) := by
  unfold d_M_join_16
  all_goals
      repeat' first
        | exact fr_ret (by assumption)
        | exact fr_retI (by assumption)
        | refine fr_ite ?_ ?_
        | refine fr_R hR (by decide) (fun _ _ => ?_)
        | refine fr_set (by omega) (by assumption) (fun _ _ => ?_)
        | (apply f_M_join_21 hR <;> first | assumption | omega)
        | (refine fr_cP (pr := Prod.snd) ?_ (fun _ _ => ?_); (apply f_M_join_21 hR <;> first | assumption | omega))
        | refine fr_b (fun _ => ?_)
theorem f_M_join {R : ax_R} (hR : mOk oS R) {I0 : ax_I} (I : ax_I) (x1 : Int32) (hI : low I0 I) : frG Prod.snd I0 (d_M_join oS I R 210 x1) := by
  unfold d_M_join
  all_goals
      repeat' first
        | exact fr_ret (by assumption)
        | exact fr_retI (by assumption)
        | refine fr_ite ?_ ?_
        | refine fr_R hR (by decide) (fun _ _ => ?_)
        | refine fr_set (by omega) (by assumption) (fun _ _ => ?_)
        | (apply f_M_join_16 hR <;> first | assumption | omega)
        | (refine fr_cP (pr := Prod.snd) ?_ (fun _ _ => ?_); (apply f_M_join_16 hR <;> first | assumption | omega))
        | (apply f_M_join_21 hR <;> first | assumption | omega)
        | (refine fr_cP (pr := Prod.snd) ?_ (fun _ _ => ?_); (apply f_M_join_21 hR <;> first | assumption | omega))
        | refine fr_b (fun _ => ?_)
theorem f_M_noteAt_25 {R : ax_R} (hR : mOk oS R) {I0 : ax_I} (I : ax_I) (x1 : Int32) (x2 : Int32) (y0 : Int32) (w1 : Nat) (hw1 : 210 ≤ w1) (hI : low I0 I) : frG Prod.snd I0 (d_M_noteAt_25 oS I R 210 x1 x2 y0 w1) := by
  unfold d_M_noteAt_25
  all_goals
      repeat' first
        | exact fr_ret (by assumption)
        | exact fr_retI (by assumption)
        | refine fr_ite ?_ ?_
        | refine fr_R hR (by decide) (fun _ _ => ?_)
        | refine fr_set (by omega) (by assumption) (fun _ _ => ?_)
        | refine fr_b (fun _ => ?_)
theorem f_M_noteAt {R : ax_R} (hR : mOk oS R) {I0 : ax_I} (I : ax_I) (x1 : Int32) (x2 : Int32) (hI : low I0 I) : frG Prod.snd I0 (d_M_noteAt oS I R 210 x1 x2) := by
  unfold d_M_noteAt
  all_goals
      repeat' first
        | exact fr_ret (by assumption)
        | exact fr_retI (by assumption)
        | refine fr_ite ?_ ?_
        | refine fr_R hR (by decide) (fun _ _ => ?_)
        | refine fr_set (by omega) (by assumption) (fun _ _ => ?_)
        | (apply f_M_noteAt_25 hR <;> first | assumption | omega)
        | (refine fr_cP (pr := Prod.snd) ?_ (fun _ _ => ?_); (apply f_M_noteAt_25 hR <;> first | assumption | omega))
        | refine fr_b (fun _ => ?_)
theorem f_M_tellTwo {R : ax_R} (hR : mOk oS R) {I0 : ax_I} (I : ax_I) (x1 : Int32) (hI : low I0 I) : frG id I0 (d_M_tellTwo oS I R 210 x1) := by
  unfold d_M_tellTwo
  all_goals
      repeat' first
        | exact fr_ret (by assumption)
        | exact fr_retI (by assumption)
        | refine fr_ite ?_ ?_
        | refine fr_R hR (by decide) (fun _ _ => ?_)
        | refine fr_set (by omega) (by assumption) (fun _ _ => ?_)
        | (apply f_M_tell hR <;> first | assumption | omega)
        | (refine fr_cI (pr := id) ?_ (fun _ _ => ?_); (apply f_M_tell hR <;> first | assumption | omega))
        | refine fr_b (fun _ => ?_)
theorem f_M_streamAt_20 {R : ax_R} (hR : mOk oS R) {I0 : ax_I} (I : ax_I) (x1 : Int32) (y0 : Int32) (w1 : Nat) (hw1 : 210 ≤ w1) (hI : low I0 I) : frG Prod.snd I0 (d_M_streamAt_20 oS I R 210 x1 y0 w1) := by
  unfold d_M_streamAt_20
  all_goals
      repeat' first
        | exact fr_ret (by assumption)
        | exact fr_retI (by assumption)
        | refine fr_ite ?_ ?_
        | refine fr_R hR (by decide) (fun _ _ => ?_)
        | refine fr_set (by omega) (by assumption) (fun _ _ => ?_)
        | refine fr_b (fun _ => ?_)
theorem f_M_streamAt {R : ax_R} (hR : mOk oS R) {I0 : ax_I} (I : ax_I) (x1 : Int32) (hI : low I0 I) : frG Prod.snd I0 (d_M_streamAt oS I R 210 x1) := by
  unfold d_M_streamAt
  all_goals
      repeat' first
        | exact fr_ret (by assumption)
        | exact fr_retI (by assumption)
        | refine fr_ite ?_ ?_
        | refine fr_R hR (by decide) (fun _ _ => ?_)
        | refine fr_set (by omega) (by assumption) (fun _ _ => ?_)
        | (apply f_M_streamAt_20 hR <;> first | assumption | omega)
        | (refine fr_cP (pr := Prod.snd) ?_ (fun _ _ => ?_); (apply f_M_streamAt_20 hR <;> first | assumption | omega))
        | refine fr_b (fun _ => ?_)
theorem f_M_byteOf_48 {R : ax_R} (hR : mOk oS R) {I0 : ax_I} (I : ax_I) (x1 : Int32) (x2 : Int32) (y0 : Int32) (w1 : Nat) (hw1 : 210 ≤ w1) (hI : low I0 I) : frG Prod.snd I0 (d_M_byteOf_48 oS I R 210 x1 x2 y0 w1) := by
  unfold d_M_byteOf_48
  all_goals
      repeat' first
        | exact fr_ret (by assumption)
        | exact fr_retI (by assumption)
        | refine fr_ite ?_ ?_
        | refine fr_R hR (by decide) (fun _ _ => ?_)
        | refine fr_set (by omega) (by assumption) (fun _ _ => ?_)
        | refine fr_b (fun _ => ?_)
theorem f_M_byteOf {R : ax_R} (hR : mOk oS R) {I0 : ax_I} (I : ax_I) (x1 : Int32) (x2 : Int32) (hI : low I0 I) : frG Prod.snd I0 (d_M_byteOf oS I R 210 x1 x2) := by
  unfold d_M_byteOf
  all_goals
      repeat' first
        | exact fr_ret (by assumption)
        | exact fr_retI (by assumption)
        | refine fr_ite ?_ ?_
        | refine fr_R hR (by decide) (fun _ _ => ?_)
        | refine fr_set (by omega) (by assumption) (fun _ _ => ?_)
        | (apply f_M_byteOf_48 hR <;> first | assumption | omega)
        | (refine fr_cP (pr := Prod.snd) ?_ (fun _ _ => ?_); (apply f_M_byteOf_48 hR <;> first | assumption | omega))
        | refine fr_b (fun _ => ?_)
theorem f_M_note_48 {R : ax_R} (hR : mOk oS R) {I0 : ax_I} (I : ax_I) (x1 : Int32) (x2 : Int32) (x3 : Int32) (y0 : Int32) (w1 : Nat) (hw1 : 210 ≤ w1) (hI : low I0 I) : frG Prod.snd I0 (d_M_note_48 oS I R 210 x1 x2 x3 y0 w1) := by
  unfold d_M_note_48
  all_goals
      repeat' first
        | exact fr_ret (by assumption)
        | exact fr_retI (by assumption)
        | refine fr_ite ?_ ?_
        | refine fr_R hR (by decide) (fun _ _ => ?_)
        | refine fr_set (by omega) (by assumption) (fun _ _ => ?_)
        | refine fr_b (fun _ => ?_)
theorem f_M_note {R : ax_R} (hR : mOk oS R) {I0 : ax_I} (I : ax_I) (x1 : Int32) (x2 : Int32) (x3 : Int32) (hI : low I0 I) : frG Prod.snd I0 (d_M_note oS I R 210 x1 x2 x3) := by
  unfold d_M_note
  all_goals
      repeat' first
        | exact fr_ret (by assumption)
        | exact fr_retI (by assumption)
        | refine fr_ite ?_ ?_
        | refine fr_R hR (by decide) (fun _ _ => ?_)
        | refine fr_set (by omega) (by assumption) (fun _ _ => ?_)
        | (apply f_M_note_48 hR <;> first | assumption | omega)
        | (refine fr_cP (pr := Prod.snd) ?_ (fun _ _ => ?_); (apply f_M_note_48 hR <;> first | assumption | omega))
        | refine fr_b (fun _ => ?_)
theorem f_M_turn_422 {R : ax_R} (hR : mOk oS R) {I0 : ax_I} (I : ax_I) (x1 : Int32) (y0 : Int32) (y1 : Int32) (w2 : Nat) (hw2 : 210 ≤ w2) (hI : low I0 I) : frG Prod.snd I0 (d_M_turn_422 oS I R 210 x1 y0 y1 w2) := by
  unfold d_M_turn_422
  all_goals
      repeat' first
        | exact fr_ret (by assumption)
        | exact fr_retI (by assumption)
        | refine fr_ite ?_ ?_
        | refine fr_R hR (by decide) (fun _ _ => ?_)
        | refine fr_set (by omega) (by assumption) (fun _ _ => ?_)
        | refine fr_b (fun _ => ?_)
theorem f_M_turn_401 {R : ax_R} (hR : mOk oS R) {I0 : ax_I} (I : ax_I) (x1 : Int32) (x2 : Int32) (x3 : Int32) (y0 : Int32) (y1 : Int32) (w2 : Nat) (hw2 : 210 ≤ w2) (hI : low I0 I) : frG Prod.snd I0 (d_M_turn_401 oS I R 210 x1 x2 x3 y0 y1 w2) := by
  unfold d_M_turn_401
  all_goals
      repeat' first
        | exact fr_ret (by assumption)
        | exact fr_retI (by assumption)
        | refine fr_ite ?_ ?_
        | refine fr_R hR (by decide) (fun _ _ => ?_)
        | refine fr_set (by omega) (by assumption) (fun _ _ => ?_)
        | (apply f_M_turn_422 hR <;> first | assumption | omega)
        | (refine fr_cP (pr := Prod.snd) ?_ (fun _ _ => ?_); (apply f_M_turn_422 hR <;> first | assumption | omega))
        | refine fr_b (fun _ => ?_)
theorem f_M_turn_305 {R : ax_R} (hR : mOk oS R) {I0 : ax_I} : ∀ (n : Nat) (I : ax_I) (x0 x1 x2 x3 : Int32), low I0 I → frG Prod.snd I0 (d_M_turn_305 oS n I R 210 x0 x1 x2 x3) := by
  intro n
  induction n with
  | zero => intros; exact fr_none
  | succ n ih =>
    intros
    rw [d_M_turn_305]
    all_goals
      repeat' first
        | exact fr_ret (by assumption)
        | exact fr_retI (by assumption)
        | refine fr_ite ?_ ?_
        | refine fr_R hR (by decide) (fun _ _ => ?_)
        | refine fr_set (by omega) (by assumption) (fun _ _ => ?_)
        | (apply ih <;> assumption)
        | (apply f_M_turn_401 hR <;> first | assumption | omega)
        | (refine fr_cP (pr := Prod.snd) ?_ (fun _ _ => ?_); (apply f_M_turn_401 hR <;> first | assumption | omega))
        | refine fr_b (fun _ => ?_)
theorem f_M_turn_271 {R : ax_R} (hR : mOk oS R) {I0 : ax_I} (rec51 : ax_I → ax_R → Nat → Int32 → Int32 → Int32 → Int32 → Option (Int32 × ax_I)) (hrec51 : ∀ (I : ax_I) (z0 z1 z2 z3 : Int32), low I0 I → frG Prod.snd I0 (rec51 I R 210 z0 z1 z2 z3)) (I : ax_I) (x1 : Int32) (x2 : Int32) (x3 : Int32) (x4 : Int32) (x5 : Int32) (y0 : Int32) (y1 : Int32) (w2 : Nat) (hw2 : 210 ≤ w2) (hI : low I0 I) : frG Prod.snd I0 (d_M_turn_271 oS rec51 I R 210 x1 x2 x3 x4 x5 y0 y1 w2) := by
  unfold d_M_turn_271
  all_goals
      repeat' first
        | exact fr_ret (by assumption)
        | exact fr_retI (by assumption)
        | refine fr_ite ?_ ?_
        | refine fr_R hR (by decide) (fun _ _ => ?_)
        | refine fr_set (by omega) (by assumption) (fun _ _ => ?_)
        | (apply hrec51 <;> assumption)
        | refine fr_b (fun _ => ?_)
theorem f_M_turn_245 {R : ax_R} (hR : mOk oS R) {I0 : ax_I} (rec51 : ax_I → ax_R → Nat → Int32 → Int32 → Int32 → Int32 → Option (Int32 × ax_I)) (hrec51 : ∀ (I : ax_I) (z0 z1 z2 z3 : Int32), low I0 I → frG Prod.snd I0 (rec51 I R 210 z0 z1 z2 z3)) (I : ax_I) (x1 : Int32) (x2 : Int32) (x3 : Int32) (x4 : Int32) (x5 : Int32) (x8 : Int32) (y0 : Int32) (y1 : Int32) (w2 : Nat) (hw2 : 210 ≤ w2) (hI : low I0 I) : frG Prod.snd I0 (d_M_turn_245 oS rec51 I R 210 x1 x2 x3 x4 x5 x8 y0 y1 w2) := by
  unfold d_M_turn_245
  all_goals
      repeat' first
        | exact fr_ret (by assumption)
        | exact fr_retI (by assumption)
        | refine fr_ite ?_ ?_
        | refine fr_R hR (by decide) (fun _ _ => ?_)
        | refine fr_set (by omega) (by assumption) (fun _ _ => ?_)
        | (apply hrec51 <;> assumption)
        | (apply f_M_turn_271 hR <;> first | assumption | omega)
        | (refine fr_cP (pr := Prod.snd) ?_ (fun _ _ => ?_); (apply f_M_turn_271 hR <;> first | assumption | omega))
        | refine fr_b (fun _ => ?_)
theorem f_M_turn_210 {R : ax_R} (hR : mOk oS R) {I0 : ax_I} (rec51 : ax_I → ax_R → Nat → Int32 → Int32 → Int32 → Int32 → Option (Int32 × ax_I)) (hrec51 : ∀ (I : ax_I) (z0 z1 z2 z3 : Int32), low I0 I → frG Prod.snd I0 (rec51 I R 210 z0 z1 z2 z3)) (I : ax_I) (x1 : Int32) (x2 : Int32) (x3 : Int32) (x4 : Int32) (x5 : Int32) (y0 : Int32) (y1 : Int32) (w2 : Nat) (hw2 : 210 ≤ w2) (hI : low I0 I) : frG Prod.snd I0 (d_M_turn_210 oS rec51 I R 210 x1 x2 x3 x4 x5 y0 y1 w2) := by
  unfold d_M_turn_210
  all_goals
      repeat' first
        | exact fr_ret (by assumption)
        | exact fr_retI (by assumption)
        | refine fr_ite ?_ ?_
        | refine fr_R hR (by decide) (fun _ _ => ?_)
        | refine fr_set (by omega) (by assumption) (fun _ _ => ?_)
        | (apply hrec51 <;> assumption)
        | (apply f_M_turn_245 hR <;> first | assumption | omega)
        | (refine fr_cP (pr := Prod.snd) ?_ (fun _ _ => ?_); (apply f_M_turn_245 hR <;> first | assumption | omega))
        | refine fr_b (fun _ => ?_)
theorem f_M_turn_173 {R : ax_R} (hR : mOk oS R) {I0 : ax_I} (rec51 : ax_I → ax_R → Nat → Int32 → Int32 → Int32 → Int32 → Option (Int32 × ax_I)) (hrec51 : ∀ (I : ax_I) (z0 z1 z2 z3 : Int32), low I0 I → frG Prod.snd I0 (rec51 I R 210 z0 z1 z2 z3)) (I : ax_I) (x1 : Int32) (x2 : Int32) (x3 : Int32) (x4 : Int32) (x5 : Int32) (x6 : Int32) (x7 : Int32) (y0 : Int32) (y1 : Int32) (w2 : Nat) (hw2 : 210 ≤ w2) (hI : low I0 I) : frG Prod.snd I0 (d_M_turn_173 oS rec51 I R 210 x1 x2 x3 x4 x5 x6 x7 y0 y1 w2) := by
  unfold d_M_turn_173
  all_goals
      repeat' first
        | exact fr_ret (by assumption)
        | exact fr_retI (by assumption)
        | refine fr_ite ?_ ?_
        | refine fr_R hR (by decide) (fun _ _ => ?_)
        | refine fr_set (by omega) (by assumption) (fun _ _ => ?_)
        | (apply hrec51 <;> assumption)
        | (apply f_M_turn_210 hR <;> first | assumption | omega)
        | (refine fr_cP (pr := Prod.snd) ?_ (fun _ _ => ?_); (apply f_M_turn_210 hR <;> first | assumption | omega))
        | refine fr_b (fun _ => ?_)
theorem f_M_turn_51 {R : ax_R} (hR : mOk oS R) {I0 : ax_I} : ∀ (n : Nat) (I : ax_I) (x0 x1 x2 x3 : Int32), low I0 I → frG Prod.snd I0 (d_M_turn_51 oS n I R 210 x0 x1 x2 x3) := by
  intro n
  induction n with
  | zero => intros; exact fr_none
  | succ n ih =>
    intros
    rw [d_M_turn_51]
    all_goals
      repeat' first
        | exact fr_ret (by assumption)
        | exact fr_retI (by assumption)
        | refine fr_ite ?_ ?_
        | refine fr_R hR (by decide) (fun _ _ => ?_)
        | refine fr_set (by omega) (by assumption) (fun _ _ => ?_)
        | (apply ih <;> assumption)
        | (apply f_M_turn_305 hR <;> first | assumption | omega)
        | (refine fr_cP (pr := Prod.snd) ?_ (fun _ _ => ?_); (apply f_M_turn_305 hR <;> first | assumption | omega))
        | (apply f_M_turn_173 hR <;> first | assumption | omega)
        | (refine fr_cP (pr := Prod.snd) ?_ (fun _ _ => ?_); (apply f_M_turn_173 hR <;> first | assumption | omega))
        | refine fr_b (fun _ => ?_)
theorem f_M_turn_16 {R : ax_R} (hR : mOk oS R) {I0 : ax_I} (I : ax_I) (x1 : Int32) (y0 : Int32) (w1 : Nat) (hw1 : 210 ≤ w1) (hI : low I0 I) : frG Prod.snd I0 (d_M_turn_16 oS I R 210 x1 y0 w1) := by
  unfold d_M_turn_16
  all_goals
      repeat' first
        | exact fr_ret (by assumption)
        | exact fr_retI (by assumption)
        | refine fr_ite ?_ ?_
        | refine fr_R hR (by decide) (fun _ _ => ?_)
        | refine fr_set (by omega) (by assumption) (fun _ _ => ?_)
        | (apply f_M_turn_51 hR <;> first | assumption | omega)
        | (refine fr_cP (pr := Prod.snd) ?_ (fun _ _ => ?_); (apply f_M_turn_51 hR <;> first | assumption | omega))
        | refine fr_b (fun _ => ?_)
theorem f_M_turn {R : ax_R} (hR : mOk oS R) {I0 : ax_I} (I : ax_I) (x1 : Int32) (hI : low I0 I) : frG Prod.snd I0 (d_M_turn oS I R 210 x1) := by
  unfold d_M_turn
  all_goals
      repeat' first
        | exact fr_ret (by assumption)
        | exact fr_retI (by assumption)
        | refine fr_ite ?_ ?_
        | refine fr_R hR (by decide) (fun _ _ => ?_)
        | refine fr_set (by omega) (by assumption) (fun _ _ => ?_)
        | (apply f_M_turn_16 hR <;> first | assumption | omega)
        | (refine fr_cP (pr := Prod.snd) ?_ (fun _ _ => ?_); (apply f_M_turn_16 hR <;> first | assumption | omega))
        | refine fr_b (fun _ => ?_)
theorem f_M_at_14 {R : ax_R} (hR : mOk oS R) {I0 : ax_I} (I : ax_I) (x1 : Int32) (x2 : Int32) (y0 : Int32) (w1 : Nat) (hw1 : 210 ≤ w1) (hI : low I0 I) : frG Prod.snd I0 (d_M_at_14 oS I R 210 x1 x2 y0 w1) := by
  unfold d_M_at_14
  all_goals
      repeat' first
        | exact fr_ret (by assumption)
        | exact fr_retI (by assumption)
        | refine fr_ite ?_ ?_
        | refine fr_R hR (by decide) (fun _ _ => ?_)
        | refine fr_set (by omega) (by assumption) (fun _ _ => ?_)
        | refine fr_b (fun _ => ?_)
theorem f_M_at {R : ax_R} (hR : mOk oS R) {I0 : ax_I} (I : ax_I) (x1 : Int32) (x2 : Int32) (hI : low I0 I) : frG Prod.snd I0 (d_M_at oS I R 210 x1 x2) := by
  unfold d_M_at
  all_goals
      repeat' first
        | exact fr_ret (by assumption)
        | exact fr_retI (by assumption)
        | refine fr_ite ?_ ?_
        | refine fr_R hR (by decide) (fun _ _ => ?_)
        | refine fr_set (by omega) (by assumption) (fun _ _ => ?_)
        | (apply f_M_at_14 hR <;> first | assumption | omega)
        | (refine fr_cP (pr := Prod.snd) ?_ (fun _ _ => ?_); (apply f_M_at_14 hR <;> first | assumption | omega))
        | refine fr_b (fun _ => ?_)
theorem f_M_byteAt_34 {R : ax_R} (hR : mOk oS R) {I0 : ax_I} (I : ax_I) (x1 : Int32) (x2 : Int32) (y0 : Int32) (w1 : Nat) (hw1 : 210 ≤ w1) (hI : low I0 I) : frG Prod.snd I0 (d_M_byteAt_34 oS I R 210 x1 x2 y0 w1) := by
  unfold d_M_byteAt_34
  all_goals
      repeat' first
        | exact fr_ret (by assumption)
        | exact fr_retI (by assumption)
        | refine fr_ite ?_ ?_
        | refine fr_R hR (by decide) (fun _ _ => ?_)
        | refine fr_set (by omega) (by assumption) (fun _ _ => ?_)
        | refine fr_b (fun _ => ?_)
theorem f_M_byteAt_29 {R : ax_R} (hR : mOk oS R) {I0 : ax_I} (I : ax_I) (x1 : Int32) (x2 : Int32) (w0 : Nat) (hw0 : 210 ≤ w0) (hI : low I0 I) : frG Prod.snd I0 (d_M_byteAt_29 oS I R 210 x1 x2 w0) := by
  unfold d_M_byteAt_29
  all_goals
      repeat' first
        | exact fr_ret (by assumption)
        | exact fr_retI (by assumption)
        | refine fr_ite ?_ ?_
        | refine fr_R hR (by decide) (fun _ _ => ?_)
        | refine fr_set (by omega) (by assumption) (fun _ _ => ?_)
        | (apply f_M_byteAt_34 hR <;> first | assumption | omega)
        | (refine fr_cP (pr := Prod.snd) ?_ (fun _ _ => ?_); (apply f_M_byteAt_34 hR <;> first | assumption | omega))
        | refine fr_b (fun _ => ?_)
theorem f_M_byteAt {R : ax_R} (hR : mOk oS R) {I0 : ax_I} (I : ax_I) (x1 : Int32) (x2 : Int32) (hI : low I0 I) : frG Prod.snd I0 (d_M_byteAt oS I R 210 x1 x2) := by
  unfold d_M_byteAt
  all_goals
      repeat' first
        | exact fr_ret (by assumption)
        | exact fr_retI (by assumption)
        | refine fr_ite ?_ ?_
        | refine fr_R hR (by decide) (fun _ _ => ?_)
        | refine fr_set (by omega) (by assumption) (fun _ _ => ?_)
        | (apply f_M_byteAt_29 hR <;> first | assumption | omega)
        | (refine fr_cP (pr := Prod.snd) ?_ (fun _ _ => ?_); (apply f_M_byteAt_29 hR <;> first | assumption | omega))
        | (apply f_M_byteAt_34 hR <;> first | assumption | omega)
        | (refine fr_cP (pr := Prod.snd) ?_ (fun _ _ => ?_); (apply f_M_byteAt_34 hR <;> first | assumption | omega))
        | refine fr_b (fun _ => ?_)
theorem f_M_shown_218 {R : ax_R} (hR : mOk oS R) {I0 : ax_I} (I : ax_I) (hI : low I0 I) : frG Prod.snd I0 (d_M_shown_218 oS I R 210 ) := by
  unfold d_M_shown_218
  all_goals
      repeat' first
        | exact fr_ret (by assumption)
        | exact fr_retI (by assumption)
        | refine fr_ite ?_ ?_
        | refine fr_R hR (by decide) (fun _ _ => ?_)
        | refine fr_set (by omega) (by assumption) (fun _ _ => ?_)
        | refine fr_b (fun _ => ?_)
theorem f_M_shown_212 {R : ax_R} (hR : mOk oS R) {I0 : ax_I} (rec20 : ax_I → ax_R → Nat → Int32 → Int32 → Int32 → Option (Int32 × ax_I)) (hrec20 : ∀ (I : ax_I) (z0 z1 z2 : Int32), low I0 I → frG Prod.snd I0 (rec20 I R 210 z0 z1 z2)) (I : ax_I) (x1 : Int32) (x2 : Int32) (x3 : Int32) (hI : low I0 I) : frG Prod.snd I0 (d_M_shown_212 oS rec20 I R 210 x1 x2 x3) := by
  unfold d_M_shown_212
  all_goals
      repeat' first
        | exact fr_ret (by assumption)
        | exact fr_retI (by assumption)
        | refine fr_ite ?_ ?_
        | refine fr_R hR (by decide) (fun _ _ => ?_)
        | refine fr_set (by omega) (by assumption) (fun _ _ => ?_)
        | (apply hrec20 <;> assumption)
        | refine fr_b (fun _ => ?_)
theorem f_M_shown_171 {R : ax_R} (hR : mOk oS R) {I0 : ax_I} (I : ax_I) (x1 : Int32) (x2 : Int32) (x3 : Int32) (x4 : Int32) (x5 : Int32) (y0 : Int32) (hI : low I0 I) : frG Prod.snd I0 (d_M_shown_171 oS I R 210 x1 x2 x3 x4 x5 y0) := by
  unfold d_M_shown_171
  all_goals
      repeat' first
        | exact fr_ret (by assumption)
        | exact fr_retI (by assumption)
        | refine fr_ite ?_ ?_
        | refine fr_R hR (by decide) (fun _ _ => ?_)
        | refine fr_set (by omega) (by assumption) (fun _ _ => ?_)
        | refine fr_b (fun _ => ?_)
theorem f_M_shown_139 {R : ax_R} (hR : mOk oS R) {I0 : ax_I} (I : ax_I) (x1 : Int32) (x2 : Int32) (x3 : Int32) (x4 : Int32) (y0 : Int32) (hI : low I0 I) : frG Prod.snd I0 (d_M_shown_139 oS I R 210 x1 x2 x3 x4 y0) := by
  unfold d_M_shown_139
  all_goals
      repeat' first
        | exact fr_ret (by assumption)
        | exact fr_retI (by assumption)
        | refine fr_ite ?_ ?_
        | refine fr_R hR (by decide) (fun _ _ => ?_)
        | refine fr_set (by omega) (by assumption) (fun _ _ => ?_)
        | (apply f_M_shown_171 hR <;> first | assumption | omega)
        | (refine fr_cP (pr := Prod.snd) ?_ (fun _ _ => ?_); (apply f_M_shown_171 hR <;> first | assumption | omega))
        | refine fr_b (fun _ => ?_)
theorem f_M_shown_20 {R : ax_R} (hR : mOk oS R) {I0 : ax_I} : ∀ (n : Nat) (I : ax_I) (x0 x1 x2 : Int32), low I0 I → frG Prod.snd I0 (d_M_shown_20 oS n I R 210 x0 x1 x2) := by
  intro n
  induction n with
  | zero => intros; exact fr_none
  | succ n ih =>
    intros
    rw [d_M_shown_20]
    all_goals
      repeat' first
        | exact fr_ret (by assumption)
        | exact fr_retI (by assumption)
        | refine fr_ite ?_ ?_
        | refine fr_R hR (by decide) (fun _ _ => ?_)
        | refine fr_set (by omega) (by assumption) (fun _ _ => ?_)
        | (apply ih <;> assumption)
        | (apply f_M_shown_218 hR <;> first | assumption | omega)
        | (refine fr_cP (pr := Prod.snd) ?_ (fun _ _ => ?_); (apply f_M_shown_218 hR <;> first | assumption | omega))
        | (apply f_M_shown_212 hR <;> first | assumption | omega)
        | (refine fr_cP (pr := Prod.snd) ?_ (fun _ _ => ?_); (apply f_M_shown_212 hR <;> first | assumption | omega))
        | (apply f_M_shown_139 hR <;> first | assumption | omega)
        | (refine fr_cP (pr := Prod.snd) ?_ (fun _ _ => ?_); (apply f_M_shown_139 hR <;> first | assumption | omega))
        | refine fr_b (fun _ => ?_)
theorem f_M_shown_15 {R : ax_R} (hR : mOk oS R) {I0 : ax_I} (I : ax_I) (x1 : Int32) (x2 : Int32) (y0 : Int32) (w1 : Nat) (hw1 : 210 ≤ w1) (hI : low I0 I) : frG Prod.snd I0 (d_M_shown_15 oS I R 210 x1 x2 y0 w1) := by
  unfold d_M_shown_15
  all_goals
      repeat' first
        | exact fr_ret (by assumption)
        | exact fr_retI (by assumption)
        | refine fr_ite ?_ ?_
        | refine fr_R hR (by decide) (fun _ _ => ?_)
        | refine fr_set (by omega) (by assumption) (fun _ _ => ?_)
        | (apply f_M_shown_20 hR <;> first | assumption | omega)
        | (refine fr_cP (pr := Prod.snd) ?_ (fun _ _ => ?_); (apply f_M_shown_20 hR <;> first | assumption | omega))
        | refine fr_b (fun _ => ?_)
theorem f_M_shown {R : ax_R} (hR : mOk oS R) {I0 : ax_I} (I : ax_I) (x1 : Int32) (x2 : Int32) (hI : low I0 I) : frG Prod.snd I0 (d_M_shown oS I R 210 x1 x2) := by
  unfold d_M_shown
  all_goals
      repeat' first
        | exact fr_ret (by assumption)
        | exact fr_retI (by assumption)
        | refine fr_ite ?_ ?_
        | refine fr_R hR (by decide) (fun _ _ => ?_)
        | refine fr_set (by omega) (by assumption) (fun _ _ => ?_)
        | (apply f_M_shown_15 hR <;> first | assumption | omega)
        | (refine fr_cP (pr := Prod.snd) ?_ (fun _ _ => ?_); (apply f_M_shown_15 hR <;> first | assumption | omega))
        | refine fr_b (fun _ => ?_)
theorem f_M_pointer_14 {R : ax_R} (hR : mOk oS R) {I0 : ax_I} (I : ax_I) (x1 : Int32) (y0 : Int32) (w1 : Nat) (hw1 : 210 ≤ w1) (hI : low I0 I) : frG Prod.snd I0 (d_M_pointer_14 oS I R 210 x1 y0 w1) := by
  unfold d_M_pointer_14
  all_goals
      repeat' first
        | exact fr_ret (by assumption)
        | exact fr_retI (by assumption)
        | refine fr_ite ?_ ?_
        | refine fr_R hR (by decide) (fun _ _ => ?_)
        | refine fr_set (by omega) (by assumption) (fun _ _ => ?_)
        | refine fr_b (fun _ => ?_)
theorem f_M_pointer {R : ax_R} (hR : mOk oS R) {I0 : ax_I} (I : ax_I) (x1 : Int32) (hI : low I0 I) : frG Prod.snd I0 (d_M_pointer oS I R 210 x1) := by
  unfold d_M_pointer
  all_goals
      repeat' first
        | exact fr_ret (by assumption)
        | exact fr_retI (by assumption)
        | refine fr_ite ?_ ?_
        | refine fr_R hR (by decide) (fun _ _ => ?_)
        | refine fr_set (by omega) (by assumption) (fun _ _ => ?_)
        | (apply f_M_pointer_14 hR <;> first | assumption | omega)
        | (refine fr_cP (pr := Prod.snd) ?_ (fun _ _ => ?_); (apply f_M_pointer_14 hR <;> first | assumption | omega))
        | refine fr_b (fun _ => ?_)
theorem f_M_tellPart_103 {R : ax_R} (hR : mOk oS R) {I0 : ax_I} : ∀ (n : Nat) (I : ax_I) (x0 x1 : Int32), low I0 I → frG id I0 (d_M_tellPart_103 oS n I R 210 x0 x1) := by
  intro n
  induction n with
  | zero => intros; exact fr_none
  | succ n ih =>
    intros
    rw [d_M_tellPart_103]
    all_goals
      repeat' first
        | exact fr_ret (by assumption)
        | exact fr_retI (by assumption)
        | refine fr_ite ?_ ?_
        | refine fr_R hR (by decide) (fun _ _ => ?_)
        | refine fr_set (by omega) (by assumption) (fun _ _ => ?_)
        | (apply ih <;> assumption)
        | (apply f_M_tellTwo hR <;> first | assumption | omega)
        | (refine fr_cI (pr := id) ?_ (fun _ _ => ?_); (apply f_M_tellTwo hR <;> first | assumption | omega))
        | refine fr_b (fun _ => ?_)
theorem f_M_tellPart_67 {R : ax_R} (hR : mOk oS R) {I0 : ax_I} : ∀ (n : Nat) (I : ax_I) (x0 x1 x2 : Int32), low I0 I → frG id I0 (d_M_tellPart_67 oS n I R 210 x0 x1 x2) := by
  intro n
  induction n with
  | zero => intros; exact fr_none
  | succ n ih =>
    intros
    rw [d_M_tellPart_67]
    all_goals
      repeat' first
        | exact fr_ret (by assumption)
        | exact fr_retI (by assumption)
        | refine fr_ite ?_ ?_
        | refine fr_R hR (by decide) (fun _ _ => ?_)
        | refine fr_set (by omega) (by assumption) (fun _ _ => ?_)
        | (apply ih <;> assumption)
        | (apply f_M_tellPart_103 hR <;> first | assumption | omega)
        | (refine fr_cI (pr := id) ?_ (fun _ _ => ?_); (apply f_M_tellPart_103 hR <;> first | assumption | omega))
        | (apply f_M_tell hR <;> first | assumption | omega)
        | (refine fr_cI (pr := id) ?_ (fun _ _ => ?_); (apply f_M_tell hR <;> first | assumption | omega))
        | refine fr_b (fun _ => ?_)
theorem f_M_tellPart {R : ax_R} (hR : mOk oS R) {I0 : ax_I} (I : ax_I) (x1 : Int32) (hI : low I0 I) : frG id I0 (d_M_tellPart oS I R 210 x1) := by
  unfold d_M_tellPart
  all_goals
      repeat' first
        | exact fr_ret (by assumption)
        | exact fr_retI (by assumption)
        | refine fr_ite ?_ ?_
        | refine fr_R hR (by decide) (fun _ _ => ?_)
        | refine fr_set (by omega) (by assumption) (fun _ _ => ?_)
        | (apply f_M_tellTwo hR <;> first | assumption | omega)
        | (refine fr_cI (pr := id) ?_ (fun _ _ => ?_); (apply f_M_tellTwo hR <;> first | assumption | omega))
        | (apply f_M_tell hR <;> first | assumption | omega)
        | (refine fr_cI (pr := id) ?_ (fun _ _ => ?_); (apply f_M_tell hR <;> first | assumption | omega))
        | (apply f_M_tellPart_67 hR <;> first | assumption | omega)
        | (refine fr_cI (pr := id) ?_ (fun _ _ => ?_); (apply f_M_tellPart_67 hR <;> first | assumption | omega))
        | refine fr_b (fun _ => ?_)
theorem f_M_crop_422 {R : ax_R} (hR : mOk oS R) {I0 : ax_I} (rec304 : ax_I → ax_R → Nat → Int32 → Int32 → Int32 → Int32 → Int32 → Int32 → Int32 → Option (Int32 × ax_I)) (hrec304 : ∀ (I : ax_I) (z0 z1 z2 z3 z4 z5 z6 : Int32), low I0 I → frG Prod.snd I0 (rec304 I R 210 z0 z1 z2 z3 z4 z5 z6)) (I : ax_I) (x1 : Int32) (x2 : Int32) (x3 : Int32) (x4 : Int32) (x5 : Int32) (x6 : Int32) (x7 : Int32) (hI : low I0 I) : frG Prod.snd I0 (d_M_crop_422 oS rec304 I R 210 x1 x2 x3 x4 x5 x6 x7) := by
  unfold d_M_crop_422
  all_goals
      repeat' first
        | exact fr_ret (by assumption)
        | exact fr_retI (by assumption)
        | refine fr_ite ?_ ?_
        | refine fr_R hR (by decide) (fun _ _ => ?_)
        | refine fr_set (by omega) (by assumption) (fun _ _ => ?_)
        | (apply hrec304 <;> assumption)
        | refine fr_b (fun _ => ?_)
theorem f_M_crop_304 {R : ax_R} (hR : mOk oS R) {I0 : ax_I} : ∀ (n : Nat) (I : ax_I) (x0 x1 x2 x3 x4 x5 x6 : Int32), low I0 I → frG Prod.snd I0 (d_M_crop_304 oS n I R 210 x0 x1 x2 x3 x4 x5 x6) := by
  intro n
  induction n with
  | zero => intros; exact fr_none
  | succ n ih =>
    intros
    rw [d_M_crop_304]
    all_goals
      repeat' first
        | exact fr_ret (by assumption)
        | exact fr_retI (by assumption)
        | refine fr_ite ?_ ?_
        | refine fr_R hR (by decide) (fun _ _ => ?_)
        | refine fr_set (by omega) (by assumption) (fun _ _ => ?_)
        | (apply ih <;> assumption)
        | (apply f_M_crop_422 hR <;> first | assumption | omega)
        | (refine fr_cP (pr := Prod.snd) ?_ (fun _ _ => ?_); (apply f_M_crop_422 hR <;> first | assumption | omega))
        | (apply f_M_moveNote hR <;> first | assumption | omega)
        | (refine fr_cI (pr := Prod.snd) ?_ (fun _ _ => ?_); (apply f_M_moveNote hR <;> first | assumption | omega))
        | refine fr_b (fun _ => ?_)
theorem f_M_crop_275 {R : ax_R} (hR : mOk oS R) {I0 : ax_I} (rec159 : ax_I → ax_R → Nat → Int32 → Int32 → Int32 → Int32 → Int32 → Int32 → Option (Int32 × ax_I)) (hrec159 : ∀ (I : ax_I) (z0 z1 z2 z3 z4 z5 : Int32), low I0 I → frG Prod.snd I0 (rec159 I R 210 z0 z1 z2 z3 z4 z5)) (I : ax_I) (x1 : Int32) (x2 : Int32) (x3 : Int32) (x4 : Int32) (x5 : Int32) (x6 : Int32) (hI : low I0 I) : frG Prod.snd I0 (d_M_crop_275 oS rec159 I R 210 x1 x2 x3 x4 x5 x6) := by
  unfold d_M_crop_275
  all_goals
      repeat' first
        | exact fr_ret (by assumption)
        | exact fr_retI (by assumption)
        | refine fr_ite ?_ ?_
        | refine fr_R hR (by decide) (fun _ _ => ?_)
        | refine fr_set (by omega) (by assumption) (fun _ _ => ?_)
        | (apply hrec159 <;> assumption)
        | refine fr_b (fun _ => ?_)
theorem f_M_crop_159 {R : ax_R} (hR : mOk oS R) {I0 : ax_I} : ∀ (n : Nat) (I : ax_I) (x0 x1 x2 x3 x4 x5 : Int32), low I0 I → frG Prod.snd I0 (d_M_crop_159 oS n I R 210 x0 x1 x2 x3 x4 x5) := by
  intro n
  induction n with
  | zero => intros; exact fr_none
  | succ n ih =>
    intros
    rw [d_M_crop_159]
    all_goals
      repeat' first
        | exact fr_ret (by assumption)
        | exact fr_retI (by assumption)
        | refine fr_ite ?_ ?_
        | refine fr_R hR (by decide) (fun _ _ => ?_)
        | refine fr_set (by omega) (by assumption) (fun _ _ => ?_)
        | (apply ih <;> assumption)
        | (apply f_M_crop_304 hR <;> first | assumption | omega)
        | (refine fr_cP (pr := Prod.snd) ?_ (fun _ _ => ?_); (apply f_M_crop_304 hR <;> first | assumption | omega))
        | (apply f_M_crop_275 hR <;> first | assumption | omega)
        | (refine fr_cP (pr := Prod.snd) ?_ (fun _ _ => ?_); (apply f_M_crop_275 hR <;> first | assumption | omega))
        | (apply f_M_move hR <;> first | assumption | omega)
        | (refine fr_cI (pr := Prod.snd) ?_ (fun _ _ => ?_); (apply f_M_move hR <;> first | assumption | omega))
        | refine fr_b (fun _ => ?_)
theorem f_M_crop_88 {R : ax_R} (hR : mOk oS R) {I0 : ax_I} (I : ax_I) (x1 : Int32) (x2 : Int32) (x3 : Int32) (x4 : Int32) (y0 : Int32) (w1 : Nat) (hw1 : 210 ≤ w1) (hI : low I0 I) : frG Prod.snd I0 (d_M_crop_88 oS I R 210 x1 x2 x3 x4 y0 w1) := by
  unfold d_M_crop_88
  all_goals
      repeat' first
        | exact fr_ret (by assumption)
        | exact fr_retI (by assumption)
        | refine fr_ite ?_ ?_
        | refine fr_R hR (by decide) (fun _ _ => ?_)
        | refine fr_set (by omega) (by assumption) (fun _ _ => ?_)
        | (apply f_M_crop_159 hR <;> first | assumption | omega)
        | (refine fr_cP (pr := Prod.snd) ?_ (fun _ _ => ?_); (apply f_M_crop_159 hR <;> first | assumption | omega))
        | refine fr_b (fun _ => ?_)
theorem f_M_crop_83 {R : ax_R} (hR : mOk oS R) {I0 : ax_I} (I : ax_I) (x1 : Int32) (x2 : Int32) (x3 : Int32) (x4 : Int32) (w0 : Nat) (hw0 : 210 ≤ w0) (hI : low I0 I) : frG Prod.snd I0 (d_M_crop_83 oS I R 210 x1 x2 x3 x4 w0) := by
  unfold d_M_crop_83
  all_goals
      repeat' first
        | exact fr_ret (by assumption)
        | exact fr_retI (by assumption)
        | refine fr_ite ?_ ?_
        | refine fr_R hR (by decide) (fun _ _ => ?_)
        | refine fr_set (by omega) (by assumption) (fun _ _ => ?_)
        | (apply f_M_crop_88 hR <;> first | assumption | omega)
        | (refine fr_cP (pr := Prod.snd) ?_ (fun _ _ => ?_); (apply f_M_crop_88 hR <;> first | assumption | omega))
        | refine fr_b (fun _ => ?_)
theorem f_M_crop_29 {R : ax_R} (hR : mOk oS R) {I0 : ax_I} (I : ax_I) (x1 : Int32) (x2 : Int32) (x3 : Int32) (x4 : Int32) (y0 : Int32) (w1 : Nat) (hw1 : 210 ≤ w1) (hI : low I0 I) : frG Prod.snd I0 (d_M_crop_29 oS I R 210 x1 x2 x3 x4 y0 w1) := by
  unfold d_M_crop_29
  all_goals
      repeat' first
        | exact fr_ret (by assumption)
        | exact fr_retI (by assumption)
        | refine fr_ite ?_ ?_
        | refine fr_R hR (by decide) (fun _ _ => ?_)
        | refine fr_set (by omega) (by assumption) (fun _ _ => ?_)
        | (apply f_M_crop_83 hR <;> first | assumption | omega)
        | (refine fr_cP (pr := Prod.snd) ?_ (fun _ _ => ?_); (apply f_M_crop_83 hR <;> first | assumption | omega))
        | (apply f_M_crop_88 hR <;> first | assumption | omega)
        | (refine fr_cP (pr := Prod.snd) ?_ (fun _ _ => ?_); (apply f_M_crop_88 hR <;> first | assumption | omega))
        | refine fr_b (fun _ => ?_)
theorem f_M_crop_24 {R : ax_R} (hR : mOk oS R) {I0 : ax_I} (I : ax_I) (x1 : Int32) (x2 : Int32) (x3 : Int32) (x4 : Int32) (w0 : Nat) (hw0 : 210 ≤ w0) (hI : low I0 I) : frG Prod.snd I0 (d_M_crop_24 oS I R 210 x1 x2 x3 x4 w0) := by
  unfold d_M_crop_24
  all_goals
      repeat' first
        | exact fr_ret (by assumption)
        | exact fr_retI (by assumption)
        | refine fr_ite ?_ ?_
        | refine fr_R hR (by decide) (fun _ _ => ?_)
        | refine fr_set (by omega) (by assumption) (fun _ _ => ?_)
        | (apply f_M_crop_29 hR <;> first | assumption | omega)
        | (refine fr_cP (pr := Prod.snd) ?_ (fun _ _ => ?_); (apply f_M_crop_29 hR <;> first | assumption | omega))
        | refine fr_b (fun _ => ?_)
theorem f_M_crop {R : ax_R} (hR : mOk oS R) {I0 : ax_I} (I : ax_I) (x1 : Int32) (x2 : Int32) (x3 : Int32) (x4 : Int32) (hI : low I0 I) : frG Prod.snd I0 (d_M_crop oS I R 210 x1 x2 x3 x4) := by
  unfold d_M_crop
  all_goals
      repeat' first
        | exact fr_ret (by assumption)
        | exact fr_retI (by assumption)
        | refine fr_ite ?_ ?_
        | refine fr_R hR (by decide) (fun _ _ => ?_)
        | refine fr_set (by omega) (by assumption) (fun _ _ => ?_)
        | (apply f_M_crop_24 hR <;> first | assumption | omega)
        | (refine fr_cP (pr := Prod.snd) ?_ (fun _ _ => ?_); (apply f_M_crop_24 hR <;> first | assumption | omega))
        | (apply f_M_crop_29 hR <;> first | assumption | omega)
        | (refine fr_cP (pr := Prod.snd) ?_ (fun _ _ => ?_); (apply f_M_crop_29 hR <;> first | assumption | omega))
        | refine fr_b (fun _ => ?_)
theorem f_M_write_220 {R : ax_R} (hR : mOk oS R) {I0 : ax_I} (rec171 : ax_I → ax_R → Nat → Int32 → Option (Int32 × ax_I)) (hrec171 : ∀ (I : ax_I) (z0 : Int32), low I0 I → frG Prod.snd I0 (rec171 I R 210 z0)) (rec186 : ax_I → ax_R → Nat → Int32 → Int32 → Option (Int32 × ax_I)) (hrec186 : ∀ (I : ax_I) (z0 z1 : Int32), low I0 I → frG Prod.snd I0 (rec186 I R 210 z0 z1)) (I : ax_I) (x1 : Int32) (x2 : Int32) (hI : low I0 I) : frG Prod.snd I0 (d_M_write_220 oS rec171 rec186 I R 210 x1 x2) := by
  unfold d_M_write_220
  all_goals
      repeat' first
        | exact fr_ret (by assumption)
        | exact fr_retI (by assumption)
        | refine fr_ite ?_ ?_
        | refine fr_R hR (by decide) (fun _ _ => ?_)
        | refine fr_set (by omega) (by assumption) (fun _ _ => ?_)
        | (apply hrec171 <;> assumption)
        | (apply hrec186 <;> assumption)
        | refine fr_b (fun _ => ?_)
theorem f_M_write_186 {R : ax_R} (hR : mOk oS R) {I0 : ax_I} (rec171 : ax_I → ax_R → Nat → Int32 → Option (Int32 × ax_I)) (hrec171 : ∀ (I : ax_I) (z0 : Int32), low I0 I → frG Prod.snd I0 (rec171 I R 210 z0)) : ∀ (n : Nat) (I : ax_I) (x0 x1 : Int32), low I0 I → frG Prod.snd I0 (d_M_write_186 oS rec171 n I R 210 x0 x1) := by
  intro n
  induction n with
  | zero => intros; exact fr_none
  | succ n ih =>
    intros
    rw [d_M_write_186]
    all_goals
      repeat' first
        | exact fr_ret (by assumption)
        | exact fr_retI (by assumption)
        | refine fr_ite ?_ ?_
        | refine fr_R hR (by decide) (fun _ _ => ?_)
        | refine fr_set (by omega) (by assumption) (fun _ _ => ?_)
        | (apply hrec171 <;> assumption)
        | (apply ih <;> assumption)
        | (apply f_M_tellPart hR <;> first | assumption | omega)
        | (refine fr_cI (pr := Prod.snd) ?_ (fun _ _ => ?_); (apply f_M_tellPart hR <;> first | assumption | omega))
        | (apply f_M_write_220 hR <;> first | assumption | omega)
        | (refine fr_cP (pr := Prod.snd) ?_ (fun _ _ => ?_); (apply f_M_write_220 hR <;> first | assumption | omega))
        | refine fr_b (fun _ => ?_)
theorem f_M_write_171 {R : ax_R} (hR : mOk oS R) {I0 : ax_I} : ∀ (n : Nat) (I : ax_I) (x0 : Int32), low I0 I → frG Prod.snd I0 (d_M_write_171 oS n I R 210 x0) := by
  intro n
  induction n with
  | zero => intros; exact fr_none
  | succ n ih =>
    intros
    rw [d_M_write_171]
    all_goals
      repeat' first
        | exact fr_ret (by assumption)
        | exact fr_retI (by assumption)
        | refine fr_ite ?_ ?_
        | refine fr_R hR (by decide) (fun _ _ => ?_)
        | refine fr_set (by omega) (by assumption) (fun _ _ => ?_)
        | (apply ih <;> assumption)
        | (apply f_M_write_186 hR <;> first | assumption | omega)
        | (refine fr_cP (pr := Prod.snd) ?_ (fun _ _ => ?_); (apply f_M_write_186 hR <;> first | assumption | omega))
        | refine fr_b (fun _ => ?_)
theorem f_M_write_112 {R : ax_R} (hR : mOk oS R) {I0 : ax_I} : ∀ (n : Nat) (I : ax_I) (x0 : Int32), low I0 I → frG Prod.snd I0 (d_M_write_112 oS n I R 210 x0) := by
  intro n
  induction n with
  | zero => intros; exact fr_none
  | succ n ih =>
    intros
    rw [d_M_write_112]
    all_goals
      repeat' first
        | exact fr_ret (by assumption)
        | exact fr_retI (by assumption)
        | refine fr_ite ?_ ?_
        | refine fr_R hR (by decide) (fun _ _ => ?_)
        | refine fr_set (by omega) (by assumption) (fun _ _ => ?_)
        | (apply ih <;> assumption)
        | (apply f_M_write_171 hR <;> first | assumption | omega)
        | (refine fr_cP (pr := Prod.snd) ?_ (fun _ _ => ?_); (apply f_M_write_171 hR <;> first | assumption | omega))
        | (apply f_M_tellTwo hR <;> first | assumption | omega)
        | (refine fr_cI (pr := Prod.snd) ?_ (fun _ _ => ?_); (apply f_M_tellTwo hR <;> first | assumption | omega))
        | (apply f_M_tell hR <;> first | assumption | omega)
        | (refine fr_cI (pr := Prod.snd) ?_ (fun _ _ => ?_); (apply f_M_tell hR <;> first | assumption | omega))
        | refine fr_b (fun _ => ?_)
theorem f_M_write_63 {R : ax_R} (hR : mOk oS R) {I0 : ax_I} : ∀ (n : Nat) (I : ax_I) (x0 : Int32), low I0 I → frG Prod.snd I0 (d_M_write_63 oS n I R 210 x0) := by
  intro n
  induction n with
  | zero => intros; exact fr_none
  | succ n ih =>
    intros
    rw [d_M_write_63]
    all_goals
      repeat' first
        | exact fr_ret (by assumption)
        | exact fr_retI (by assumption)
        | refine fr_ite ?_ ?_
        | refine fr_R hR (by decide) (fun _ _ => ?_)
        | refine fr_set (by omega) (by assumption) (fun _ _ => ?_)
        | (apply ih <;> assumption)
        | (apply f_M_tell hR <;> first | assumption | omega)
        | (refine fr_cI (pr := Prod.snd) ?_ (fun _ _ => ?_); (apply f_M_tell hR <;> first | assumption | omega))
        | (apply f_M_write_112 hR <;> first | assumption | omega)
        | (refine fr_cP (pr := Prod.snd) ?_ (fun _ _ => ?_); (apply f_M_write_112 hR <;> first | assumption | omega))
        | (apply f_M_tellTwo hR <;> first | assumption | omega)
        | (refine fr_cI (pr := Prod.snd) ?_ (fun _ _ => ?_); (apply f_M_tellTwo hR <;> first | assumption | omega))
        | refine fr_b (fun _ => ?_)
theorem f_M_write {R : ax_R} (hR : mOk oS R) {I0 : ax_I} (I : ax_I) (hI : low I0 I) : frG Prod.snd I0 (d_M_write oS I R 210 ) := by
  unfold d_M_write
  all_goals
      repeat' first
        | exact fr_ret (by assumption)
        | exact fr_retI (by assumption)
        | refine fr_ite ?_ ?_
        | refine fr_R hR (by decide) (fun _ _ => ?_)
        | refine fr_set (by omega) (by assumption) (fun _ _ => ?_)
        | (apply f_M_tell hR <;> first | assumption | omega)
        | (refine fr_cI (pr := Prod.snd) ?_ (fun _ _ => ?_); (apply f_M_tell hR <;> first | assumption | omega))
        | (apply f_M_tellTwo hR <;> first | assumption | omega)
        | (refine fr_cI (pr := Prod.snd) ?_ (fun _ _ => ?_); (apply f_M_tellTwo hR <;> first | assumption | omega))
        | (apply f_M_write_63 hR <;> first | assumption | omega)
        | (refine fr_cP (pr := Prod.snd) ?_ (fun _ _ => ?_); (apply f_M_write_63 hR <;> first | assumption | omega))
        | refine fr_b (fun _ => ?_)
