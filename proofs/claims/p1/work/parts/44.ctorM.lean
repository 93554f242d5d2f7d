/-! the reference's constructor: its id is 210, its arrays 211 .. 226 -/
def mLen : Nat → Nat
  | 0 => 2
  | 1 => 2
  | 2 => 2
  | 3 => 2
  | 4 => 80
  | 5 => 80
  | 6 => 80
  | 7 => 80
  | 8 => 80
  | 9 => 80
  | 10 => 960
  | 11 => 40
  | 12 => 40
  | 13 => 40
  | 14 => 4
  | 15 => 1200
  | _ => 0
def mFld (n : Nat) : Nat := if n < 14 then n + 4 else n + 6
def mS : Nat → ax_S
  | 0 => ax_add kS 210 (.inl 5)
  | n + 1 => ax_add (mS n) (211 + n) (.inr (0, mLen n))
def mR : Nat → ax_R
  | 0 => kR
  | n + 1 => ax_up (mR n) 210 (mFld n) (some (211 + n))
theorem ax_typ_add {S : ax_S} {R : ax_R} {i : Nat} {sh : ax_Sh} (h : ax_typ S R) (hi : S i = none) (hr : ∀ k, R i k = none) (hn : ∀ ai n, sh = .inr (ai, n) → n < 2 ^ 31) : ax_typ (ax_add S i sh) R := by
  obtain ⟨h1, h2, h3, h4⟩ := h
  have old := @ax_add_old S i sh hi
  refine ⟨fun a ci k u ha hu => ?_, fun a n k u ha hu => ?_, fun a n k u ha hu => ?_, fun a ai n ha => ?_⟩
  · by_cases e : a = i
    · subst e; rw [hr k] at hu; cases hu
    · rw [ax_add_ne e] at ha
      have := h1 a ci k u ha hu
      revert this
      unfold ax_is
      cases ax_dt ci k with
      | inl c => exact fun h => old u _ h
      | inr c => exact fun ⟨n, h⟩ => ⟨n, old u _ h⟩
  · by_cases e : a = i
    · subst e; rw [hr k] at hu; cases hu
    · rw [ax_add_ne e] at ha
      exact old u _ (h2 a n k u ha hu)
  · by_cases e : a = i
    · subst e; rw [hr k] at hu; cases hu
    · rw [ax_add_ne e] at ha
      exact old u _ (h3 a n k u ha hu)
  · by_cases e : a = i
    · subst e; rw [ax_add_self] at ha; cases ha; exact hn ai n rfl
    · rw [ax_add_ne e] at ha
      exact h4 a ai n ha
theorem ax_typ_p1 {S : ax_S} {I : ax_I} {R : ax_R} {L : ax_L} {b : Nat} (h : ax_typ S R) (hb : S b = some (.inl 1)) (hbl : ax_blank S I R L (b + 1)) : ∀ i, i ≤ 40 → ax_typ (p1S S b i) (p1R R b i) := by
  intro i
  induction i with
  | zero =>
    intro _
    have h0 := hbl (b + 1) (Nat.le_refl _)
    rw [← p1S_0, ← p1R_0]
    refine ax_typ_f (ci := 1) (ax_typ_add h h0.1 h0.2.2.1 (fun ai n z => by cases z; decide)) (by rw [ax_add_ne (by omega)]; exact hb) ?_
    exact ⟨40, ax_add_self _ _ _⟩
  | succ i ih =>
    intro hi
    have hu : p1S S b i (b + 2 + 2 * i) = none := by rw [p1S_at (Or.inr (Nat.le_refl _))]; exact (hbl _ (by omega)).1
    have hv : ax_add (p1S S b i) (b + 2 + 2 * i) (.inl 3) (b + 3 + 2 * i) = none := by rw [ax_add_ne (by omega), p1S_at (Or.inr (by omega))]; exact (hbl _ (by omega)).1
    have r1 : ∀ k, p1R R b i (b + 2 + 2 * i) k = none := fun k => by rw [p1R_at (by omega)]; exact (hbl _ (by omega)).2.2.1 k
    have r2 : ∀ k, p1R R b i (b + 3 + 2 * i) k = none := fun k => by rw [p1R_at (by omega)]; exact (hbl _ (by omega)).2.2.1 k
    have hsa : p1S S b i (b + 1) = some (.inr (2, 40)) := by unfold p1S; rw [if_pos rfl]
    have t1 := ax_typ_add (sh := .inl 3) (ih (by omega)) hu r1 (fun ai n z => by cases z)
    have t2 := ax_typ_add (sh := .inr (0, 12)) t1 hv r2 (fun ai n z => by cases z; decide)
    have e1 : ax_add (ax_add (p1S S b i) (b + 2 + 2 * i) (.inl 3)) (b + 3 + 2 * i) (.inr (0, 12)) (b + 2 + 2 * i) = some (.inl 3) := by rw [ax_add_ne (by omega), ax_add_self]
    have e2 : ax_add (ax_add (p1S S b i) (b + 2 + 2 * i) (.inl 3)) (b + 3 + 2 * i) (.inr (0, 12)) (b + 1) = some (.inr (2, 40)) := by rw [ax_add_ne (by omega), ax_add_ne (by omega)]; exact hsa
    rw [← p1S_s, ← p1R_s]
    refine ax_typ_a2 (ax_typ_f (ci := 3) t2 e1 ?_) e2 e1
    exact ⟨12, ax_add_self _ _ _⟩
theorem ax_typ_p2 {S : ax_S} {I : ax_I} {R : ax_R} {L : ax_L} {b : Nat} (h : ax_typ S R) (hb : S b = some (.inl 1)) (hbl : ax_blank S I R L (b + 82)) : ∀ i, i ≤ 20 → ax_typ (p2S S b i) (p2R R b i) := by
  intro i
  induction i with
  | zero =>
    intro _
    have h0 := hbl (b + 82) (Nat.le_refl _)
    rw [← p2S_0, ← p2R_0]
    refine ax_typ_f (ci := 1) (ax_typ_add h h0.1 h0.2.2.1 (fun ai n z => by cases z; decide)) (by rw [ax_add_ne (by omega)]; exact hb) ?_
    exact ⟨20, ax_add_self _ _ _⟩
  | succ i ih =>
    intro hi
    have hu : p2S S b i (b + 83 + i) = none := by rw [p2S_at (Or.inr (Nat.le_refl _))]; exact (hbl _ (by omega)).1
    have r1 : ∀ k, p2R R b i (b + 83 + i) k = none := fun k => by rw [p2R_at (Or.inr (by omega))]; exact (hbl _ (by omega)).2.2.1 k
    have hsa : p2S S b i (b + 82) = some (.inr (3, 20)) := by unfold p2S; rw [if_pos rfl]
    have t1 := ax_typ_add (sh := .inl 0) (ih (by omega)) hu r1 (fun ai n z => by cases z)
    rw [← p2S_s, ← p2R_s]
    refine ax_typ_a3 t1 (by rw [ax_add_ne (by omega)]; exact hsa) (ax_add_self _ _ _)
theorem ax_typ_pic {S : ax_S} {I : ax_I} {R : ax_R} {L : ax_L} {b : Nat} (h : ax_typ S R) (hb : S b = some (.inl 1)) (hbl : ax_blank S I R L (b + 1)) : ax_typ (pS S b) (pR R b) := by
  refine ax_typ_p2 (I := I) (L := L) (ax_typ_p1 h hb hbl 40 (Nat.le_refl _)) (by rw [p1S_at (Or.inl rfl)]; exact hb) (fun j hj => ?_) 20 (Nat.le_refl _)
  obtain ⟨h1, h2, h3, h4⟩ := hbl j (by omega)
  exact ⟨by rw [p1S_at (Or.inr (by omega))]; exact h1, h2, fun k => by rw [p1R_at (by omega)]; exact h3 k, h4⟩
theorem kS_typ : ax_typ kS kR := by
  have t2 : ax_typ k2S k0R := ax_typ_add k1_typ rfl (fun _ => rfl) (fun ai n z => by cases z)
  have t3 : ax_typ k3S k0R := ax_typ_add t2 rfl (fun _ => rfl) (fun ai n z => by cases z; decide)
  have t4 : ax_typ k3S k2R := ax_typ_f (ci := 4) (ax_typ_f (ci := 2) t3 rfl ⟨1148, rfl⟩) rfl rfl
  have t5 : ax_typ k4S k3R := ax_typ_f (ci := 4) (ax_typ_add t4 rfl (fun k => ((kb3_blank 0 0) 3 (by omega)).2.2.1 k) (fun ai n z => by cases z; decide)) rfl ⟨4, rfl⟩
  have b4 : ax_blank k4S (k1I 0 0) k3R k0L 4 := ax_blank_add (ax_blank_R (ax_blank_mono (kb3_blank _ _) (by omega)) (by omega)) (by omega)
  have t6 : ax_typ k5S k3R := ax_typ_add t5 rfl (fun k => (b4 4 (by omega)).2.2.1 k) (fun ai n z => by cases z)
  have e4 : pS k5S 4 4 = some (.inl 1) := by rw [pS_lo (by omega)]; rfl
  have t7 : ax_typ (pS k5S 4) k4R := ax_typ_f (ci := 4) (ax_typ_pic t6 rfl (kb5_blank 0 0)) k5S_0 e4
  have t8 : ax_typ k6S k4R := ax_typ_add t7 ((kbp_blank 0 0) 107 (by omega)).1 (fun k => ((kbp_blank 0 0) 107 (by omega)).2.2.1 k) (fun ai n z => by cases z)
  exact ax_typ_f (ci := 4) (ax_typ_pic t8 (ax_add_self _ _ _) (kb6_blank 0 0)) kS_0 (by show pS k6S 107 107 = _; rw [pS_lo (by omega)]; exact ax_add_self _ _ _)
theorem mB (w h : Int32) : ∀ n, ax_blank (mS n) (kI w h) (mR n) k0L (211 + n)
  | 0 => ax_blank_add (ax_blank_mono (kbk_blank w h) (by omega)) (by omega)
  | n + 1 => ax_blank_add (ax_blank_R (ax_blank_mono (mB w h n) (by omega)) (by omega)) (by omega)
theorem mS_210 : ∀ n, mS n 210 = some (.inl 5)
  | 0 => ax_add_self _ _ _
  | n + 1 => by show ax_add (mS n) (211 + n) _ 210 = _; rw [ax_add_ne (by omega)]; exact mS_210 n
theorem mLen_lt (n : Nat) : mLen n < 2 ^ 31 := by
  unfold mLen
  split <;> decide
theorem mS_typ : ∀ n, n ≤ 16 → ax_typ (mS n) (mR n)
  | 0, _ => ax_typ_add kS_typ ((kbk_blank 0 0) 210 (by omega)).1 (fun k => ((kbk_blank 0 0) 210 (by omega)).2.2.1 k) (fun ai n z => by cases z)
  | n + 1, h => by
    refine ax_typ_f (ci := 5) (ax_typ_add (mS_typ n (by omega)) ((mB 0 0 n) (211 + n) (Nat.le_refl _)).1 (fun k => ((mB 0 0 n) (211 + n) (Nat.le_refl _)).2.2.1 k) (fun ai m z => by cases z; exact mLen_lt n)) (mS_210 (n + 1)) ?_
    exact ⟨mLen n, ax_add_self _ _ _⟩
theorem mS_old : ∀ n j s, mS 0 j = some s → mS n j = some s
  | 0, _, _, h => h
  | n + 1, j, s, h => ax_add_old ((mB 0 0 n) (211 + n) (Nat.le_refl _)).1 j s (mS_old n j s h)
def fm (x : Int32) : Int32 := if 1 ≤ x then (if x ≤ 200 then x else 200) else 1
def mI (w h : Int32) (v1 v2 : Int32) : ax_I := ax_up (ax_up (kI w h) 210 1 v1) 210 2 v2
set_option maxHeartbeats 2000000 in
theorem c_M_init (l : Launch) {w h x1 x2 : Int32} {out : ax_I} (hout : d_M_clear (mS 16) (mI w h (fm x1) (fm x2)) (mR 16) 210 = some out) : ax_Met l y_M_init b_M_init 3 none (ax_rm 2 16 2772) [.ref 210, .int x1, .int x2] (mS 0) (kI w h) (mR 0) k0L (ax_eq none (mS 16) out (mR 16) k0L) := by
  refine ax_enter (own := "LossFreeToolsModel") (by decide +kernel) rfl (ax_cats rfl) (Nat.le_of_ble_eq_true rfl) (fun X hX hF hini hS0 => ?_)
  show ax_W X 3 0 [some (.ref 210), some (.int x1), some (.int x2)] [] (mS 0) (kI w h) (mR 0) k0L 0 0
  refine ax_aload_n (q := 1) hX dc_M_init_0 rfl rfl rfl ?_
  refine ax_obj (q := 4) hX dc_M_init_1 rfl wl_M_1 wi_obj wc_obj (by decide) (by decide) (Nat.le_of_ble_eq_true rfl) ?_
  refine ax_aload_n (q := 5) hX dc_M_init_4 rfl rfl rfl ?_
  refine ax_iconst (q := 6) (v := 2) hX dc_M_init_5 rfl (by decide) ?_
  refine ax_newaB (q := 8) (len := 2) (S' := mS 1) (c1 := 1) (s1 := 2) hX 211 dc_M_init_6 rfl ((mB w h 0) 211 (Nat.le_refl _)).1 ((mB w h 0) 211 (Nat.le_refl _)).2 rfl (by decide) (by decide) (by decide) rfl rfl rfl ?_
  refine ax_putR (q := 11) (R' := mR 1) hX dc_M_init_8 rfl fl_M_7 rfl (mS_210 1) (fun _ => ⟨hini rfl, fun w hw => by cases hw; rfl⟩) rfl ?_
  refine ax_aload_n (q := 12) hX dc_M_init_11 rfl rfl rfl ?_
  refine ax_iconst (q := 13) (v := 2) hX dc_M_init_12 rfl (by decide) ?_
  refine ax_newaB (q := 15) (len := 2) (S' := mS 2) (c1 := 2) (s1 := 4) hX 212 dc_M_init_13 rfl ((mB w h 1) 212 (Nat.le_refl _)).1 ((mB w h 1) 212 (Nat.le_refl _)).2 rfl (by decide) (by decide) (by decide) rfl rfl rfl ?_
  refine ax_putR (q := 18) (R' := mR 2) hX dc_M_init_15 rfl fl_M_13 rfl (mS_210 2) (fun _ => ⟨hini rfl, fun w hw => by cases hw; rfl⟩) rfl ?_
  refine ax_aload_n (q := 19) hX dc_M_init_18 rfl rfl rfl ?_
  refine ax_iconst (q := 20) (v := 2) hX dc_M_init_19 rfl (by decide) ?_
  refine ax_newaB (q := 22) (len := 2) (S' := mS 3) (c1 := 3) (s1 := 6) hX 213 dc_M_init_20 rfl ((mB w h 2) 213 (Nat.le_refl _)).1 ((mB w h 2) 213 (Nat.le_refl _)).2 rfl (by decide) (by decide) (by decide) rfl rfl rfl ?_
  refine ax_putR (q := 25) (R' := mR 3) hX dc_M_init_22 rfl fl_M_16 rfl (mS_210 3) (fun _ => ⟨hini rfl, fun w hw => by cases hw; rfl⟩) rfl ?_
  refine ax_aload_n (q := 26) hX dc_M_init_25 rfl rfl rfl ?_
  refine ax_iconst (q := 27) (v := 2) hX dc_M_init_26 rfl (by decide) ?_
  refine ax_newaB (q := 29) (len := 2) (S' := mS 4) (c1 := 4) (s1 := 8) hX 214 dc_M_init_27 rfl ((mB w h 3) 214 (Nat.le_refl _)).1 ((mB w h 3) 214 (Nat.le_refl _)).2 rfl (by decide) (by decide) (by decide) rfl rfl rfl ?_
  refine ax_putR (q := 32) (R' := mR 4) hX dc_M_init_29 rfl fl_M_19 rfl (mS_210 4) (fun _ => ⟨hini rfl, fun w hw => by cases hw; rfl⟩) rfl ?_
  refine ax_aload_n (q := 33) hX dc_M_init_32 rfl rfl rfl ?_
  refine ax_bipush (q := 35) (v := 80) hX dc_M_init_33 rfl (by decide) ?_
  refine ax_newaB (q := 37) (len := 80) (S' := mS 5) (c1 := 5) (s1 := 88) hX 215 dc_M_init_35 rfl ((mB w h 4) 215 (Nat.le_refl _)).1 ((mB w h 4) 215 (Nat.le_refl _)).2 rfl (by decide) (by decide) (by decide) rfl rfl rfl ?_
  refine ax_putR (q := 40) (R' := mR 5) hX dc_M_init_37 rfl fl_M_22 rfl (mS_210 5) (fun _ => ⟨hini rfl, fun w hw => by cases hw; rfl⟩) rfl ?_
  refine ax_aload_n (q := 41) hX dc_M_init_40 rfl rfl rfl ?_
  refine ax_bipush (q := 43) (v := 80) hX dc_M_init_41 rfl (by decide) ?_
  refine ax_newaB (q := 45) (len := 80) (S' := mS 6) (c1 := 6) (s1 := 168) hX 216 dc_M_init_43 rfl ((mB w h 5) 216 (Nat.le_refl _)).1 ((mB w h 5) 216 (Nat.le_refl _)).2 rfl (by decide) (by decide) (by decide) rfl rfl rfl ?_
  refine ax_putR (q := 48) (R' := mR 6) hX dc_M_init_45 rfl fl_M_25 rfl (mS_210 6) (fun _ => ⟨hini rfl, fun w hw => by cases hw; rfl⟩) rfl ?_
  refine ax_aload_n (q := 49) hX dc_M_init_48 rfl rfl rfl ?_
  refine ax_bipush (q := 51) (v := 80) hX dc_M_init_49 rfl (by decide) ?_
  refine ax_newaB (q := 53) (len := 80) (S' := mS 7) (c1 := 7) (s1 := 248) hX 217 dc_M_init_51 rfl ((mB w h 6) 217 (Nat.le_refl _)).1 ((mB w h 6) 217 (Nat.le_refl _)).2 rfl (by decide) (by decide) (by decide) rfl rfl rfl ?_
  refine ax_putR (q := 56) (R' := mR 7) hX dc_M_init_53 rfl fl_M_28 rfl (mS_210 7) (fun _ => ⟨hini rfl, fun w hw => by cases hw; rfl⟩) rfl ?_
  refine ax_aload_n (q := 57) hX dc_M_init_56 rfl rfl rfl ?_
  refine ax_bipush (q := 59) (v := 80) hX dc_M_init_57 rfl (by decide) ?_
  refine ax_newaB (q := 61) (len := 80) (S' := mS 8) (c1 := 8) (s1 := 328) hX 218 dc_M_init_59 rfl ((mB w h 7) 218 (Nat.le_refl _)).1 ((mB w h 7) 218 (Nat.le_refl _)).2 rfl (by decide) (by decide) (by decide) rfl rfl rfl ?_
  refine ax_putR (q := 64) (R' := mR 8) hX dc_M_init_61 rfl fl_M_31 rfl (mS_210 8) (fun _ => ⟨hini rfl, fun w hw => by cases hw; rfl⟩) rfl ?_
  refine ax_aload_n (q := 65) hX dc_M_init_64 rfl rfl rfl ?_
  refine ax_bipush (q := 67) (v := 80) hX dc_M_init_65 rfl (by decide) ?_
  refine ax_newaB (q := 69) (len := 80) (S' := mS 9) (c1 := 9) (s1 := 408) hX 219 dc_M_init_67 rfl ((mB w h 8) 219 (Nat.le_refl _)).1 ((mB w h 8) 219 (Nat.le_refl _)).2 rfl (by decide) (by decide) (by decide) rfl rfl rfl ?_
  refine ax_putR (q := 72) (R' := mR 9) hX dc_M_init_69 rfl fl_M_34 rfl (mS_210 9) (fun _ => ⟨hini rfl, fun w hw => by cases hw; rfl⟩) rfl ?_
  refine ax_aload_n (q := 73) hX dc_M_init_72 rfl rfl rfl ?_
  refine ax_bipush (q := 75) (v := 80) hX dc_M_init_73 rfl (by decide) ?_
  refine ax_newaB (q := 77) (len := 80) (S' := mS 10) (c1 := 10) (s1 := 488) hX 220 dc_M_init_75 rfl ((mB w h 9) 220 (Nat.le_refl _)).1 ((mB w h 9) 220 (Nat.le_refl _)).2 rfl (by decide) (by decide) (by decide) rfl rfl rfl ?_
  refine ax_putR (q := 80) (R' := mR 10) hX dc_M_init_77 rfl fl_M_37 rfl (mS_210 10) (fun _ => ⟨hini rfl, fun w hw => by cases hw; rfl⟩) rfl ?_
  refine ax_aload_n (q := 81) hX dc_M_init_80 rfl rfl rfl ?_
  refine ax_sipush (q := 84) (v := 960) hX dc_M_init_81 rfl (by decide) ?_
  refine ax_newaB (q := 86) (len := 960) (S' := mS 11) (c1 := 11) (s1 := 1448) hX 221 dc_M_init_84 rfl ((mB w h 10) 221 (Nat.le_refl _)).1 ((mB w h 10) 221 (Nat.le_refl _)).2 rfl (by decide) (by decide) (by decide) rfl rfl rfl ?_
  refine ax_putR (q := 89) (R' := mR 11) hX dc_M_init_86 rfl fl_M_40 rfl (mS_210 11) (fun _ => ⟨hini rfl, fun w hw => by cases hw; rfl⟩) rfl ?_
  refine ax_aload_n (q := 90) hX dc_M_init_89 rfl rfl rfl ?_
  refine ax_bipush (q := 92) (v := 40) hX dc_M_init_90 rfl (by decide) ?_
  refine ax_newaB (q := 94) (len := 40) (S' := mS 12) (c1 := 12) (s1 := 1488) hX 222 dc_M_init_92 rfl ((mB w h 11) 222 (Nat.le_refl _)).1 ((mB w h 11) 222 (Nat.le_refl _)).2 rfl (by decide) (by decide) (by decide) rfl rfl rfl ?_
  refine ax_putR (q := 97) (R' := mR 12) hX dc_M_init_94 rfl fl_M_43 rfl (mS_210 12) (fun _ => ⟨hini rfl, fun w hw => by cases hw; rfl⟩) rfl ?_
  refine ax_aload_n (q := 98) hX dc_M_init_97 rfl rfl rfl ?_
  refine ax_bipush (q := 100) (v := 40) hX dc_M_init_98 rfl (by decide) ?_
  refine ax_newaB (q := 102) (len := 40) (S' := mS 13) (c1 := 13) (s1 := 1528) hX 223 dc_M_init_100 rfl ((mB w h 12) 223 (Nat.le_refl _)).1 ((mB w h 12) 223 (Nat.le_refl _)).2 rfl (by decide) (by decide) (by decide) rfl rfl rfl ?_
  refine ax_putR (q := 105) (R' := mR 13) hX dc_M_init_102 rfl fl_M_46 rfl (mS_210 13) (fun _ => ⟨hini rfl, fun w hw => by cases hw; rfl⟩) rfl ?_
  refine ax_aload_n (q := 106) hX dc_M_init_105 rfl rfl rfl ?_
  refine ax_bipush (q := 108) (v := 40) hX dc_M_init_106 rfl (by decide) ?_
  refine ax_newaB (q := 110) (len := 40) (S' := mS 14) (c1 := 14) (s1 := 1568) hX 224 dc_M_init_108 rfl ((mB w h 13) 224 (Nat.le_refl _)).1 ((mB w h 13) 224 (Nat.le_refl _)).2 rfl (by decide) (by decide) (by decide) rfl rfl rfl ?_
  refine ax_putR (q := 113) (R' := mR 14) hX dc_M_init_110 rfl fl_M_49 rfl (mS_210 14) (fun _ => ⟨hini rfl, fun w hw => by cases hw; rfl⟩) rfl ?_
  refine ax_aload_n (q := 114) hX dc_M_init_113 rfl rfl rfl ?_
  refine ax_iconst (q := 115) (v := 4) hX dc_M_init_114 rfl (by decide) ?_
  refine ax_newaB (q := 117) (len := 4) (S' := mS 15) (c1 := 15) (s1 := 1572) hX 225 dc_M_init_115 rfl ((mB w h 14) 225 (Nat.le_refl _)).1 ((mB w h 14) 225 (Nat.le_refl _)).2 rfl (by decide) (by decide) (by decide) rfl rfl rfl ?_
  refine ax_putR (q := 120) (R' := mR 15) hX dc_M_init_117 rfl fl_M_52 rfl (mS_210 15) (fun _ => ⟨hini rfl, fun w hw => by cases hw; rfl⟩) rfl ?_
  refine ax_aload_n (q := 121) hX dc_M_init_120 rfl rfl rfl ?_
  refine ax_sipush (q := 124) (v := 1200) hX dc_M_init_121 rfl (by decide) ?_
  refine ax_newaB (q := 126) (len := 1200) (S' := mS 16) (c1 := 16) (s1 := 2772) hX 226 dc_M_init_124 rfl ((mB w h 15) 226 (Nat.le_refl _)).1 ((mB w h 15) 226 (Nat.le_refl _)).2 rfl (by decide) (by decide) (by decide) rfl rfl rfl ?_
  refine ax_putR (q := 129) (R' := mR 16) hX dc_M_init_126 rfl fl_M_55 rfl (mS_210 16) (fun _ => ⟨hini rfl, fun w hw => by cases hw; rfl⟩) rfl ?_
  refine ax_aload_n (q := 130) hX dc_M_init_129 rfl rfl rfl ?_
  have j1 : ax_W X 3 153 [some (.ref 210), some (.int x1), some (.int x2)] [.int (fm x1), .ref 210] (mS 16) (kI w h) (mR 16) k0L 16 2772 := by
    refine ax_putI (q := 156) hX dc_M_init_153 rfl fl_M_58 rfl (mS_210 16) (fun _ => ⟨hini rfl, fun w hw => by cases hw; rfl⟩) rfl rfl rfl ?_
    refine ax_aload_n (q := 157) hX dc_M_init_156 rfl rfl rfl ?_
    have j2 : ax_W X 3 180 [some (.ref 210), some (.int x1), some (.int x2)] [.int (fm x2), .ref 210] (mS 16) (ax_up (kI w h) 210 1 (fm x1)) (mR 16) k0L 16 2772 := by
      refine ax_putI (q := 183) hX dc_M_init_180 rfl fl_M_62 rfl (mS_210 16) (fun _ => ⟨hini rfl, fun w hw => by cases hw; rfl⟩) rfl rfl rfl ?_
      refine ax_aload_n (q := 184) hX dc_M_init_183 rfl rfl rfl ?_
      refine ax_kV (vs := []) (rest := []) (v := none) (q := 187) hX dc_M_init_184 rfl mt_M_clear wl_M_65 wi_M_clear ws_M_clear (mS_210 16) rfl (c_M_clear l (mS_typ 16 (Nat.le_refl _)) (mS_210 16) hout) rfl (by decide) rfl (Nat.le_of_ble_eq_true rfl) rfl rfl (by decide) (by decide) rfl ?_
      exact ax_vret hX hF dc_M_init_187 (by decide) (by decide) ax_eq.mk (by rw [hS0]; exact mS_old 16)
    refine ax_iload_n (q := 158) hX dc_M_init_157 rfl rfl rfl ?_
    refine ax_iconst (q := 159) (v := 1) hX dc_M_init_158 rfl (by decide) ?_
    refine ax_icmp_ge (tgt := 166) (q := 162) hX dc_M_init_159 rfl (by decide) (fun z => ?_) (fun z => ?_)
    · refine ax_iload_n (q := 167) hX dc_M_init_166 rfl rfl rfl ?_
      refine ax_sipush (q := 170) (v := 200) hX dc_M_init_167 rfl (by decide) ?_
      refine ax_icmp_le (tgt := 179) (q := 173) hX dc_M_init_170 rfl (by decide) (fun y => ?_) (fun y => ?_)
      · refine ax_iload_n (q := 180) hX dc_M_init_179 rfl rfl rfl ?_
        have e : fm x2 = x2 := by unfold fm; rw [if_pos z, if_pos y]
        rw [e] at j2
        exact j2
      · refine ax_sipush (q := 176) (v := 200) hX dc_M_init_173 rfl (by decide) ?_
        refine ax_goto (tgt := 180) hX dc_M_init_176 (by decide) ?_
        have e : fm x2 = 200 := by unfold fm; rw [if_pos z, if_neg y]
        rw [e] at j2
        exact j2
    · refine ax_iconst (q := 163) (v := 1) hX dc_M_init_162 rfl (by decide) ?_
      refine ax_goto (tgt := 180) hX dc_M_init_163 (by decide) ?_
      have e : fm x2 = 1 := by unfold fm; rw [if_neg z]
      rw [e] at j2
      exact j2
  refine ax_iload_n (q := 131) hX dc_M_init_130 rfl rfl rfl ?_
  refine ax_iconst (q := 132) (v := 1) hX dc_M_init_131 rfl (by decide) ?_
  refine ax_icmp_ge (tgt := 139) (q := 135) hX dc_M_init_132 rfl (by decide) (fun z => ?_) (fun z => ?_)
  · refine ax_iload_n (q := 140) hX dc_M_init_139 rfl rfl rfl ?_
    refine ax_sipush (q := 143) (v := 200) hX dc_M_init_140 rfl (by decide) ?_
    refine ax_icmp_le (tgt := 152) (q := 146) hX dc_M_init_143 rfl (by decide) (fun y => ?_) (fun y => ?_)
    · refine ax_iload_n (q := 153) hX dc_M_init_152 rfl rfl rfl ?_
      have e : fm x1 = x1 := by unfold fm; rw [if_pos z, if_pos y]
      rw [e] at j1
      exact j1
    · refine ax_sipush (q := 149) (v := 200) hX dc_M_init_146 rfl (by decide) ?_
      refine ax_goto (tgt := 153) hX dc_M_init_149 (by decide) ?_
      have e : fm x1 = 200 := by unfold fm; rw [if_pos z, if_neg y]
      rw [e] at j1
      exact j1
  · refine ax_iconst (q := 136) (v := 1) hX dc_M_init_135 rfl (by decide) ?_
    refine ax_goto (tgt := 153) hX dc_M_init_136 (by decide) ?_
    have e : fm x1 = 1 := by unfold fm; rw [if_neg z]
    rw [e] at j1
    exact j1
