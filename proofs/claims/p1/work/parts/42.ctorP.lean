/-! the constructor of a picture: its id is b, its cells have the ids b + 1 .. b + 102 -/
def p1S (S : ax_S) (b i : Nat) : ax_S := fun j => if j = b + 1 then some (.inr (2, 40)) else if b + 2 ≤ j ∧ j < b + 2 + 2 * i then (if (j - b) % 2 = 0 then some (.inl 3) else some (.inr (0, 12))) else S j
def p1R (R : ax_R) (b i : Nat) : ax_R := fun a k => if a = b ∧ k = 0 then some (b + 1) else if a = b + 1 ∧ k < i then some (b + 2 + 2 * k) else if (b + 2 ≤ a ∧ a < b + 2 + 2 * i) ∧ (a - b) % 2 = 0 ∧ k = 0 then some (a + 1) else R a k
def p2S (S : ax_S) (b i : Nat) : ax_S := fun j => if j = b + 82 then some (.inr (3, 20)) else if b + 83 ≤ j ∧ j < b + 83 + i then some (.inl 0) else S j
def p2R (R : ax_R) (b i : Nat) : ax_R := fun a k => if a = b ∧ k = 1 then some (b + 82) else if a = b + 82 ∧ k < i then some (b + 83 + k) else R a k
theorem p1S_0 (S : ax_S) (b : Nat) : ax_add S (b + 1) (.inr (2, 40)) = p1S S b 0 := by
  funext j
  unfold ax_add p1S
  by_cases h : j = b + 1
  · rw [if_pos h, if_pos h]
  · rw [if_neg h, if_neg h, if_neg (by omega)]
theorem p1S_s (S : ax_S) (b i : Nat) : ax_add (ax_add (p1S S b i) (b + 2 + 2 * i) (.inl 3)) (b + 3 + 2 * i) (.inr (0, 12)) = p1S S b (i + 1) := by
  funext j
  unfold ax_add p1S
  by_cases h0 : j = b + 3 + 2 * i
  · rw [if_pos h0, if_neg (by omega), if_pos (by omega), if_neg (by omega)]
  · rw [if_neg h0]
    by_cases h1 : j = b + 2 + 2 * i
    · rw [if_pos h1, if_neg (by omega), if_pos (by omega), if_pos (by omega)]
    · rw [if_neg h1]
      by_cases h2 : j = b + 1
      · rw [if_pos h2, if_pos h2]
      · rw [if_neg h2, if_neg h2]
        by_cases h3 : b + 2 ≤ j ∧ j < b + 2 + 2 * i
        · rw [if_pos h3, if_pos (show b + 2 ≤ j ∧ j < b + 2 + 2 * (i + 1) by omega)]
        · rw [if_neg h3, if_neg (show ¬ (b + 2 ≤ j ∧ j < b + 2 + 2 * (i + 1)) by omega)]
theorem p1R_0 (R : ax_R) (b : Nat) : ax_up R b 0 (some (b + 1)) = p1R R b 0 := by
  funext a k
  unfold ax_up p1R
  by_cases h : a = b ∧ k = 0
  · rw [if_pos h, if_pos h]
  · rw [if_neg h, if_neg h, if_neg (by omega), if_neg (by omega)]
theorem p1R_s (R : ax_R) (b i : Nat) : ax_up (ax_up (p1R R b i) (b + 2 + 2 * i) 0 (some (b + 3 + 2 * i))) (b + 1) i (some (b + 2 + 2 * i)) = p1R R b (i + 1) := by
  funext a k
  unfold ax_up p1R
  by_cases h0 : a = b + 1 ∧ k = i
  · rw [if_pos h0, if_neg (show ¬ (a = b ∧ k = 0) by omega), if_pos (show a = b + 1 ∧ k < i + 1 by omega), h0.2]
  · rw [if_neg h0]
    by_cases h1 : a = b + 2 + 2 * i ∧ k = 0
    · rw [if_pos h1, if_neg (show ¬ (a = b ∧ k = 0) by omega), if_neg (show ¬ (a = b + 1 ∧ k < i + 1) by omega), if_pos (show (b + 2 ≤ a ∧ a < b + 2 + 2 * (i + 1)) ∧ (a - b) % 2 = 0 ∧ k = 0 by omega)]
      congr 1
      omega
    · rw [if_neg h1]
      by_cases h2 : a = b ∧ k = 0
      · rw [if_pos h2, if_pos h2]
      · rw [if_neg h2, if_neg h2]
        by_cases h3 : a = b + 1 ∧ k < i
        · rw [if_pos h3, if_pos (show a = b + 1 ∧ k < i + 1 by omega)]
        · rw [if_neg h3, if_neg (show ¬ (a = b + 1 ∧ k < i + 1) by omega)]
          by_cases h4 : (b + 2 ≤ a ∧ a < b + 2 + 2 * i) ∧ (a - b) % 2 = 0 ∧ k = 0
          · rw [if_pos h4, if_pos (show (b + 2 ≤ a ∧ a < b + 2 + 2 * (i + 1)) ∧ (a - b) % 2 = 0 ∧ k = 0 by omega)]
          · rw [if_neg h4, if_neg (show ¬ ((b + 2 ≤ a ∧ a < b + 2 + 2 * (i + 1)) ∧ (a - b) % 2 = 0 ∧ k = 0) by omega)]
theorem p2S_0 (S : ax_S) (b : Nat) : ax_add S (b + 82) (.inr (3, 20)) = p2S S b 0 := by
  funext j
  unfold ax_add p2S
  by_cases h : j = b + 82
  · rw [if_pos h, if_pos h]
  · rw [if_neg h, if_neg h, if_neg (by omega)]
theorem p2S_s (S : ax_S) (b i : Nat) : ax_add (p2S S b i) (b + 83 + i) (.inl 0) = p2S S b (i + 1) := by
  funext j
  unfold ax_add p2S
  by_cases h1 : j = b + 83 + i
  · rw [if_pos h1, if_neg (by omega), if_pos (by omega)]
  · rw [if_neg h1]
    by_cases h2 : j = b + 82
    · rw [if_pos h2, if_pos h2]
    · rw [if_neg h2, if_neg h2]
      by_cases h3 : b + 83 ≤ j ∧ j < b + 83 + i
      · rw [if_pos h3, if_pos (by omega)]
      · rw [if_neg h3, if_neg (by omega)]
theorem p2R_0 (R : ax_R) (b : Nat) : ax_up R b 1 (some (b + 82)) = p2R R b 0 := by
  funext a k
  unfold ax_up p2R
  by_cases h : a = b ∧ k = 1
  · rw [if_pos h, if_pos h]
  · rw [if_neg h, if_neg h, if_neg (by omega)]
theorem p2R_s (R : ax_R) (b i : Nat) : ax_up (p2R R b i) (b + 82) i (some (b + 83 + i)) = p2R R b (i + 1) := by
  funext a k
  unfold ax_up p2R
  by_cases h0 : a = b + 82 ∧ k = i
  · rw [if_pos h0, if_neg (by omega), if_pos (by omega), h0.2]
  · rw [if_neg h0]
    by_cases h2 : a = b ∧ k = 1
    · rw [if_pos h2, if_pos h2]
    · rw [if_neg h2, if_neg h2]
      by_cases h3 : a = b + 82 ∧ k < i
      · rw [if_pos h3, if_pos (by omega)]
      · rw [if_neg h3, if_neg (by omega)]
theorem p1S_at {S : ax_S} {b i j : Nat} (h : j = b ∨ b + 2 + 2 * i ≤ j) : p1S S b i j = S j := by unfold p1S; rw [if_neg (by omega), if_neg (by omega)]
theorem p1R_at {R : ax_R} {b i a k : Nat} (h : b + 2 + 2 * i ≤ a) : p1R R b i a k = R a k := by unfold p1R; rw [if_neg (by omega), if_neg (by omega), if_neg (by omega)]
theorem p2S_at {S : ax_S} {b i j : Nat} (h : j ≤ b + 81 ∨ b + 83 + i ≤ j) : p2S S b i j = S j := by unfold p2S; rw [if_neg (by omega), if_neg (by omega)]
theorem p2R_at {R : ax_R} {b i a k : Nat} (h : (a ≠ b ∧ a ≤ b + 81) ∨ b + 83 + i ≤ a) : p2R R b i a k = R a k := by unfold p2R; rw [if_neg (by omega), if_neg (by omega)]
/-- from here on all is blank -/
def ax_blank (S : ax_S) (I : ax_I) (R : ax_R) (L : ax_L) (n : Nat) : Prop := ∀ j, n ≤ j → S j = none ∧ ax_bl I R L j
section PIC
variable {l : Launch} {X : ax_X} {S : ax_S} {I : ax_I} {R : ax_R} {L : ax_L} {b : Nat} {x1 x2 : Int32} {RX : ax_RX}
set_option maxHeartbeats 1000000 in
theorem p_loop1 (hX : ax_ok X l "LossFreeTools$Picture" b_P_init 4 (ax_rm 2 102 880)) (hbl : ax_blank S I R L (b + 1)) (hs0 : S b = some (.inl 1))
    (kk : ax_W X 4 40 [some (.ref b), some (.int x1), some (.int x2), none] [] (p1S S b 40) I (p1R R b 40) L 81 800) :
    ∀ n i : Nat, i + n = 40 → ax_W X 4 15 [some (.ref b), some (.int x1), some (.int x2), some (.int (nI i))] [] (p1S S b i) I (p1R R b i) L (1 + 2 * i) (40 + 19 * i) := by
  intro n
  induction n with
  | zero =>
    intro i hi
    have e : i = 40 := by omega
    subst e
    refine ax_iload_n (q := 16) hX dc_P_init_15 rfl rfl rfl ?_
    refine ax_bipush (q := 18) (v := 40) hX dc_P_init_16 rfl (by decide) ?_
    refine ax_icmp_ge (q := 21) (tgt := 40) hX dc_P_init_18 rfl (by decide) (fun _ => ?_) (fun z => ?_)
    · exact ax_weak (ax_fewP_s _ _ (by repeat (first | exact trivial | (refine And.intro rfl ?_)))) kk
    · exact absurd (by decide : (40 : Int32) ≤ nI 40) z
  | succ n ih =>
    intro i hi
    refine ax_iload_n (q := 16) hX dc_P_init_15 rfl rfl rfl ?_
    refine ax_bipush (q := 18) (v := 40) hX dc_P_init_16 rfl (by decide) ?_
    refine ax_icmp_ge (q := 21) (tgt := 40) hX dc_P_init_18 rfl (by decide) (fun z => ?_) (fun _ => ?_)
    · exact absurd z (nI_ge (a := i) (b := 40) (by omega) (by decide))
    have hsb : p1S S b i b = some (.inl 1) := by rw [p1S_at (Or.inl rfl)]; exact hs0
    have hsa : p1S S b i (b + 1) = some (.inr (2, 40)) := by unfold p1S; rw [if_pos rfl]
    have hr0 : p1R R b i b 0 = some (b + 1) := by unfold p1R; rw [if_pos ⟨rfl, rfl⟩]
    have hu : p1S S b i (b + 2 + 2 * i) = none := by rw [p1S_at (Or.inr (Nat.le_refl _))]; exact (hbl _ (by omega)).1
    have hv : ax_add (p1S S b i) (b + 2 + 2 * i) (.inl 3) (b + 3 + 2 * i) = none := by rw [ax_add_ne (by omega), p1S_at (Or.inr (by omega))]; exact (hbl _ (by omega)).1
    have hbu : ax_bl I (p1R R b i) L (b + 2 + 2 * i) := by
      obtain ⟨h1, h2, h3⟩ := (hbl (b + 2 + 2 * i) (by omega)).2
      exact ⟨h1, fun k => by rw [p1R_at (by omega)]; exact h2 k, h3⟩
    have hbv : ax_bl I (p1R R b i) L (b + 3 + 2 * i) := by
      obtain ⟨h1, h2, h3⟩ := (hbl (b + 3 + 2 * i) (by omega)).2
      exact ⟨h1, fun k => by rw [p1R_at (by omega)]; exact h2 k, h3⟩
    refine ax_aload_n (q := 22) hX dc_P_init_21 rfl rfl rfl ?_
    refine ax_getR (q := 25) hX dc_P_init_22 rfl fl_P_11 rfl hsb hr0 ?_
    refine ax_iload_n (q := 26) hX dc_P_init_25 rfl rfl rfl ?_
    refine ax_newB (q := 29) (ci := 3) (N := 7) hX (b + 2 + 2 * i) dc_P_init_26 rfl rfl rfl wq_P_9 wz_T wn_LossFreeTools_Tile hu hbu (by show 1 + 2 * i + 1 ≤ 102; omega) (by show 40 + 19 * i + 7 ≤ 880; omega) rfl rfl rfl ?_
    refine ax_dup (q := 30) hX dc_P_init_29 rfl rfl ?_
    refine ax_kI (q := 33) (vs := []) (rest := [.ref (b + 2 + 2 * i), .int (nI i), .ref (b + 1)]) hX dc_P_init_30 rfl mt_T_init wl_P_17 wi_T_init rfl (c_T_init l (b + 3 + 2 * i) (ax_add_self _ _ _) hv hbv) rfl (by decide) rfl (Nat.le_of_ble_eq_true rfl) (by show 1 + 2 * i + 1 + 1 ≤ 102; omega) (by show 40 + 19 * i + 7 + 12 ≤ 880; omega) rfl rfl ?_
    have hsa2 : ax_add (ax_add (p1S S b i) (b + 2 + 2 * i) (.inl 3)) (b + 3 + 2 * i) (.inr (0, 12)) (b + 1) = some (.inr (2, 40)) := by rw [ax_add_ne (by omega), ax_add_ne (by omega)]; exact hsa
    have hsu2 : ax_add (ax_add (p1S S b i) (b + 2 + 2 * i) (.inl 3)) (b + 3 + 2 * i) (.inr (0, 12)) (b + 2 + 2 * i) = some (.inl 3) := by rw [ax_add_ne (by omega), ax_add_self]
    refine ax_aast (q := 34) hX i dc_P_init_33 rfl hsa2 rfl hsu2 rfl rfl rfl (by omega) (by decide) rfl ?_
    refine ax_iinc (q := 37) (v := nI (i + 1)) (ls' := [some (.ref b), some (.int x1), some (.int x2), some (.int (nI (i + 1)))]) hX dc_P_init_34 rfl rfl (nI_1 i) (by decide) rfl ?_
    refine ax_goto (tgt := 15) hX dc_P_init_37 (by decide) ?_
    have := ih (i + 1) (by omega)
    rw [p1S_s, p1R_s]
    rw [show 1 + 2 * i + 1 + (ax_rm 1 1 12).cells = 1 + 2 * (i + 1) by show 1 + 2 * i + 1 + 1 = _; omega, show 40 + 19 * i + 7 + (ax_rm 1 1 12).slots = 40 + 19 * (i + 1) by show 40 + 19 * i + 7 + 12 = _; omega]
    exact this
set_option maxHeartbeats 1000000 in
theorem p_loop2 (hX : ax_ok X l "LossFreeTools$Picture" b_P_init 4 (ax_rm 2 102 880)) (hbl : ax_blank S I R L (b + 82)) (hs0 : S b = some (.inl 1))
    (kk : ax_W X 4 76 [some (.ref b), some (.int x1), some (.int x2), none] [] (p2S S b 20) I (p2R R b 20) L 102 880) :
    ∀ n i : Nat, i + n = 20 → ax_W X 4 51 [some (.ref b), some (.int x1), some (.int x2), some (.int (nI i))] [] (p2S S b i) I (p2R R b i) L (82 + i) (820 + 3 * i) := by
  intro n
  induction n with
  | zero =>
    intro i hi
    have e : i = 20 := by omega
    subst e
    refine ax_iload_n (q := 52) hX dc_P_init_51 rfl rfl rfl ?_
    refine ax_bipush (q := 54) (v := 20) hX dc_P_init_52 rfl (by decide) ?_
    refine ax_icmp_ge (q := 57) (tgt := 76) hX dc_P_init_54 rfl (by decide) (fun _ => ?_) (fun z => ?_)
    · exact ax_weak (ax_fewP_s _ _ (by repeat (first | exact trivial | (refine And.intro rfl ?_)))) kk
    · exact absurd (by decide : (20 : Int32) ≤ nI 20) z
  | succ n ih =>
    intro i hi
    refine ax_iload_n (q := 52) hX dc_P_init_51 rfl rfl rfl ?_
    refine ax_bipush (q := 54) (v := 20) hX dc_P_init_52 rfl (by decide) ?_
    refine ax_icmp_ge (q := 57) (tgt := 76) hX dc_P_init_54 rfl (by decide) (fun z => ?_) (fun _ => ?_)
    · exact absurd z (nI_ge (a := i) (b := 20) (by omega) (by decide))
    have hsb : p2S S b i b = some (.inl 1) := by rw [p2S_at (Or.inl (by omega))]; exact hs0
    have hsa : p2S S b i (b + 82) = some (.inr (3, 20)) := by unfold p2S; rw [if_pos rfl]
    have hr0 : p2R R b i b 1 = some (b + 82) := by unfold p2R; rw [if_pos ⟨rfl, rfl⟩]
    have hu : p2S S b i (b + 83 + i) = none := by rw [p2S_at (Or.inr (Nat.le_refl _))]; exact (hbl _ (by omega)).1
    have hbu : ax_bl I (p2R R b i) L (b + 83 + i) := by
      obtain ⟨h1, h2, h3⟩ := (hbl (b + 83 + i) (by omega)).2
      exact ⟨h1, fun k => by rw [p2R_at (Or.inr (by omega))]; exact h2 k, h3⟩
    refine ax_aload_n (q := 58) hX dc_P_init_57 rfl rfl rfl ?_
    refine ax_getR (q := 61) hX dc_P_init_58 rfl fl_P_20 rfl hsb hr0 ?_
    refine ax_iload_n (q := 62) hX dc_P_init_61 rfl rfl rfl ?_
    refine ax_newB (q := 65) (ci := 0) (N := 3) hX (b + 83 + i) dc_P_init_62 rfl rfl rfl wq_P_18 wz_N wn_LossFreeTools_Note hu hbu (by show 82 + i + 1 ≤ 102; omega) (by show 820 + 3 * i + 3 ≤ 880; omega) rfl rfl rfl ?_
    refine ax_dup (q := 66) hX dc_P_init_65 rfl rfl ?_
    refine ax_callIN (q := 69) (host := "LossFreeTools") (vs := []) (rest := [.ref (b + 83 + i), .int (nI i), .ref (b + 82)]) hX dc_P_init_66 rfl mt_N_init (by decide +kernel) wi_N_init rfl (c_N_init l) rfl (by decide) rfl (Nat.le_of_ble_eq_true rfl) (by show 82 + i + 1 + 0 ≤ 102; omega) (by show 820 + 3 * i + 3 + 0 ≤ 880; omega) (fun r S2 I2 R2 L2 hr _ => ?_)
    obtain ⟨rfl, rfl, rfl, rfl, rfl⟩ := hr
    have hsa2 : ax_add (p2S S b i) (b + 83 + i) (.inl 0) (b + 82) = some (.inr (3, 20)) := by rw [ax_add_ne (by omega)]; exact hsa
    show ax_W X 4 69 [some (.ref b), some (.int x1), some (.int x2), some (.int (nI i))] [.ref (b + 83 + i), .int (nI i), .ref (b + 82)] _ _ _ _ _ _
    refine ax_aast (q := 70) hX i dc_P_init_69 rfl hsa2 rfl (ax_add_self _ _ _) rfl rfl rfl (by omega) (by decide) rfl ?_
    refine ax_iinc (q := 73) (v := nI (i + 1)) (ls' := [some (.ref b), some (.int x1), some (.int x2), some (.int (nI (i + 1)))]) hX dc_P_init_70 rfl rfl (nI_1 i) (by decide) rfl ?_
    refine ax_goto (tgt := 51) hX dc_P_init_73 (by decide) ?_
    have := ih (i + 1) (by omega)
    rw [p2S_s, p2R_s]
    rw [show 82 + i + 1 + (ax_rm 1 0 0).cells = 82 + (i + 1) by show 82 + i + 1 + 0 = _; omega, show 820 + 3 * i + 3 + (ax_rm 1 0 0).slots = 820 + 3 * (i + 1) by show 820 + 3 * i + 3 + 0 = _; omega]
    exact this
end PIC
def pS (S : ax_S) (b : Nat) : ax_S := p2S (p1S S b 40) b 20
def pR (R : ax_R) (b : Nat) : ax_R := p2R (p1R R b 40) b 20
set_option maxHeartbeats 1000000 in
theorem c_P_init (l : Launch) {S : ax_S} {I : ax_I} {R : ax_R} {L : ax_L} {b : Nat} {x1 x2 : Int32} (hs0 : S b = some (.inl 1)) (hbl : ax_blank S I R L (b + 1)) : ax_Met l y_P_init b_P_init 4 none (ax_rm 2 102 880) [.ref b, .int x1, .int x2] S I R L (ax_eq none (pS S b) (ax_up (ax_up I b 4 x1) b 5 x2) (pR R b) L) := by
  refine ax_enter (own := "LossFreeTools$Picture") (by decide +kernel) rfl (ax_cats rfl) (Nat.le_of_ble_eq_true rfl) (fun X hX hF hini hS0 => ?_)
  show ax_W X 4 0 [some (.ref b), some (.int x1), some (.int x2), none] [] S I R L 0 0
  refine ax_aload_n (q := 1) hX dc_P_init_0 rfl rfl rfl ?_
  refine ax_obj (q := 4) hX dc_P_init_1 rfl wl_P_3 wi_obj wc_obj (by decide) (by decide) (Nat.le_of_ble_eq_true rfl) ?_
  refine ax_aload_n (q := 5) hX dc_P_init_4 rfl rfl rfl ?_
  refine ax_bipush (q := 7) (v := 40) hX dc_P_init_5 rfl (by decide) ?_
  have h1 := hbl (b + 1) (Nat.le_refl _)
  refine ax_anewB (q := 10) (len := 40) (ai := 2) hX (b + 1) dc_P_init_7 rfl rfl wq_P_9 (by decide) h1.1 h1.2 rfl (by decide) (by decide) (by decide) (p1S_0 S b) rfl rfl ?_
  have hsb : p1S S b 0 b = some (.inl 1) := by rw [p1S_at (Or.inl rfl)]; exact hs0
  refine ax_putR (q := 13) hX dc_P_init_10 rfl fl_P_11 rfl hsb (fun _ => ⟨hini rfl, fun w hw => by cases hw; rfl⟩) (p1R_0 R b) ?_
  refine ax_iconst (q := 14) (v := 0) hX dc_P_init_13 rfl (by decide) ?_
  refine ax_istore_n (q := 15) (ls' := [some (.ref b), some (.int x1), some (.int x2), some (.int 0)]) hX dc_P_init_14 rfl rfl (by decide) rfl ?_
  refine p_loop1 hX hbl hs0 ?_ 40 0 rfl
  refine ax_aload_n (q := 41) hX dc_P_init_40 rfl rfl rfl ?_
  refine ax_bipush (q := 43) (v := 20) hX dc_P_init_41 rfl (by decide) ?_
  have hbl2 : ax_blank (p1S S b 40) I (p1R R b 40) L (b + 82) := fun j hj => by
    obtain ⟨h1, h2, h3, h4⟩ := hbl j (by omega)
    exact ⟨by rw [p1S_at (Or.inr (by omega))]; exact h1, h2, fun k => by rw [p1R_at (by omega)]; exact h3 k, h4⟩
  have h2 := hbl2 (b + 82) (Nat.le_refl _)
  have hsb2 : p1S S b 40 b = some (.inl 1) := by rw [p1S_at (Or.inl rfl)]; exact hs0
  refine ax_anewB (q := 46) (len := 20) (ai := 3) hX (b + 82) dc_P_init_43 rfl rfl wq_P_18 (by decide) h2.1 h2.2 rfl (by decide) (by decide) (by decide) (p2S_0 _ b) rfl rfl ?_
  have hsb3 : p2S (p1S S b 40) b 0 b = some (.inl 1) := by rw [p2S_at (Or.inl (by omega))]; exact hsb2
  refine ax_putR (q := 49) hX dc_P_init_46 rfl fl_P_20 rfl hsb3 (fun _ => ⟨hini rfl, fun w hw => by cases hw; rfl⟩) (p2R_0 _ b) ?_
  refine ax_iconst (q := 50) (v := 0) hX dc_P_init_49 rfl (by decide) ?_
  refine ax_istore_n (q := 51) (ls' := [some (.ref b), some (.int x1), some (.int x2), some (.int 0)]) hX dc_P_init_50 rfl rfl (by decide) rfl ?_
  refine p_loop2 hX hbl2 hsb2 ?_ 20 0 rfl
  have hsb4 : pS S b b = some (.inl 1) := by unfold pS; rw [p2S_at (Or.inl (by omega))]; exact hsb2
  refine ax_aload_n (q := 77) hX dc_P_init_76 rfl rfl rfl ?_
  refine ax_iload_n (q := 78) hX dc_P_init_77 rfl rfl rfl ?_
  refine ax_putI (q := 81) hX dc_P_init_78 rfl fl_P_25 rfl hsb4 (fun z => by cases z) rfl rfl rfl ?_
  refine ax_aload_n (q := 82) hX dc_P_init_81 rfl rfl rfl ?_
  refine ax_iload_n (q := 83) hX dc_P_init_82 rfl rfl rfl ?_
  refine ax_putI (q := 86) hX dc_P_init_83 rfl fl_P_29 rfl hsb4 (fun z => by cases z) rfl rfl rfl ?_
  refine ax_vret hX hF dc_P_init_86 (by decide) (by decide) ax_eq.mk (by
    rw [hS0]
    intro j s hj
    have hjb : j ≤ b := by
      rcases Nat.lt_or_ge b j with h | h
      · rw [(hbl j h).1] at hj; cases hj
      · exact h
    show pS S b j = some s
    unfold pS
    rw [p2S_at (Or.inl (by omega))]
    unfold p1S
    rw [if_neg (by omega), if_neg (by omega)]
    exact hj)
