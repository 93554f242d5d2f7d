/-- what a helper of the law leaves in its row of one long -/
def hcL (o : Int32 ⊕ String) (L : ax_L) (ob : Nat) : ax_L := match o with
  | .inl v => ax_up L ob 0 v.toInt64
  | .inr _ => L
def hc_tile (o : Int32 ⊕ String) : Option Int32 := match o with
  | .inl _ => some 0
  | .inr E => if E = "java/lang/IllegalArgumentException" then some 1 else if E = "java/lang/IllegalStateException" then some 2 else if E = "java/lang/UnsupportedOperationException" then some 3 else none
set_option maxHeartbeats 1000000 in
theorem c_L_tile (l : Launch) {S : ax_S} {I : ax_I} {R : ax_R} {L : ax_L} {u ob : Nat} {x1 x2 x3 x4 : Int32} {o : Int32 ⊕ String} {I' : ax_I} {R' : ax_R} {k : Int32} (hu : S u = some (.inl 4)) (ho : S ob = some (.inr (1, 1))) (hM : ax_MetX l y_K_tile b_K_tile 5 (some .int) (ax_rm 6 1 6) [.ref u, .int x1, .int x2, .int x3, .int x4] S I R L (ax_eqX o S I' R' L)) (hk : hc_tile o = some k) : ax_MetW l y_L_tile b_L_tile 7 (some .int) hh_tile (ax_rm 7 1 6) [.ref u, .int x1, .int x2, .int x3, .int x4, .ref ob] S I R L (ax_eq (some (.int k)) S I' R' (hcL o L ob)) := by
  refine ax_enterW (own := "LossFreeToolsLaw") (by decide +kernel) rfl (ax_cats rfl) (Nat.le_of_ble_eq_true rfl) (fun X hX hF hh hS0 => ?_)
  show ax_W X 7 0 [some (.ref u), some (.int x1), some (.int x2), some (.int x3), some (.int x4), some (.ref ob), none] [] S I R L 0 0
  refine ax_aload (q := 2) hX dc_L_tile_0 rfl rfl ?_
  refine ax_iconst (v := 0) (q := 3) hX dc_L_tile_2 rfl (by decide) ?_
  refine ax_aload_n (q := 4) hX dc_L_tile_3 rfl rfl rfl ?_
  refine ax_iload_n (q := 5) hX dc_L_tile_4 rfl rfl rfl ?_
  refine ax_iload_n (q := 6) hX dc_L_tile_5 rfl rfl rfl ?_
  refine ax_iload_n (q := 7) hX dc_L_tile_6 rfl rfl rfl ?_
  refine ax_iload (q := 9) hX dc_L_tile_7 rfl rfl ?_
  refine ax_callVX (q := 12) (vs := [.int x1, .int x2, .int x3, .int x4]) (rest := [.int 0, .ref ob]) hX dc_L_tile_9 rfl mt_K_tile wl_L_7 wi_K_tile ws_K_tile hu rfl hM rfl (by decide) rfl (Nat.le_of_ble_eq_true rfl) (by decide) (by decide) (fun r S2 I2 R2 L2 hr hold => ?_) (fun E S2 I2 R2 L2 hr hold => ?_)
  · obtain ⟨e, e2, e3, e4, e5⟩ := hr
    rw [e2, e3, e4, e5]
    cases o with
    | inr E => cases e
    | inl v =>
      cases e
      cases hk
      show ax_W X 7 12 [some (.ref u), some (.int x1), some (.int x2), some (.int x3), some (.int x4), some (.ref ob), none] [.int v, .int 0, .ref ob] S I' R' L _ _
      refine ax_i2l (q := 13) hX dc_L_tile_12 rfl rfl ?_
      refine ax_last (q := 14) hX 0 dc_L_tile_13 rfl ho rfl (by decide) (by decide) rfl ?_
      refine ax_goto (tgt := 29) hX dc_L_tile_14 (by decide) ?_
      refine ax_iconst (v := 0) (q := 30) hX dc_L_tile_29 rfl (by decide) ?_
      exact ax_iret hX hF dc_L_tile_30 rfl rfl (by decide) (by decide) ax_eq.mk (by rw [hS0]; exact fun _ _ z => z)
  · obtain ⟨e, e2, e3, e4, e5⟩ := hr
    rw [e2, e3, e4, e5]
    cases o with
    | inl v => cases e
    | inr E =>
      cases e
      unfold hc_tile at hk
      dsimp only at hk
      by_cases z0 : E = "java/lang/IllegalArgumentException"
      · rw [if_pos z0] at hk
        cases hk
        subst z0
        refine ax_catch (q := 19) hX hh [] [(0, 14, 21, 15), (0, 14, 25, 17)] rfl ⟨by decide, by decide⟩ (by decide) wq_L_13 (by decide +kernel) (fun _ h => absurd h List.not_mem_nil) (k := 6) (by decide) (Or.inl ⟨dc_L_tile_17, rfl⟩) rfl ?_
        refine ax_iconst (v := 1) (q := 20) hX dc_L_tile_19 rfl (by decide) ?_
        exact ax_iret hX hF dc_L_tile_20 rfl rfl (by decide) (by decide) ax_eq.mk (by rw [hS0]; exact fun _ _ z => z)
      rw [if_neg z0] at hk
      by_cases z1 : E = "java/lang/IllegalStateException"
      · rw [if_pos z1] at hk
        cases hk
        subst z1
        refine ax_catch (q := 23) hX hh [(0, 14, 17, 13)] [(0, 14, 25, 17)] rfl ⟨by decide, by decide⟩ (by decide) wq_L_15 (by decide +kernel) (List.forall_mem_cons.mpr ⟨⟨by decide, by decide, by decide, "java/lang/IllegalArgumentException", wq_L_13, by decide +kernel⟩, fun _ h => absurd h List.not_mem_nil⟩) (k := 6) (by decide) (Or.inl ⟨dc_L_tile_21, rfl⟩) rfl ?_
        refine ax_iconst (v := 2) (q := 24) hX dc_L_tile_23 rfl (by decide) ?_
        exact ax_iret hX hF dc_L_tile_24 rfl rfl (by decide) (by decide) ax_eq.mk (by rw [hS0]; exact fun _ _ z => z)
      rw [if_neg z1] at hk
      by_cases z2 : E = "java/lang/UnsupportedOperationException"
      · rw [if_pos z2] at hk
        cases hk
        subst z2
        refine ax_catch (q := 27) hX hh [(0, 14, 17, 13), (0, 14, 21, 15)] [] rfl ⟨by decide, by decide⟩ (by decide) wq_L_17 (by decide +kernel) (List.forall_mem_cons.mpr ⟨⟨by decide, by decide, by decide, "java/lang/IllegalArgumentException", wq_L_13, by decide +kernel⟩, List.forall_mem_cons.mpr ⟨⟨by decide, by decide, by decide, "java/lang/IllegalStateException", wq_L_15, by decide +kernel⟩, fun _ h => absurd h List.not_mem_nil⟩⟩) (k := 6) (by decide) (Or.inl ⟨dc_L_tile_25, rfl⟩) rfl ?_
        refine ax_iconst (v := 3) (q := 28) hX dc_L_tile_27 rfl (by decide) ?_
        exact ax_iret hX hF dc_L_tile_28 rfl rfl (by decide) (by decide) ax_eq.mk (by rw [hS0]; exact fun _ _ z => z)
      rw [if_neg z2] at hk
      cases hk
def hc_byteOf (o : Int32 ⊕ String) : Option Int32 := match o with
  | .inl _ => some 0
  | .inr E => if E = "java/lang/IndexOutOfBoundsException" then some 1 else if E = "java/lang/IllegalArgumentException" then some 2 else if E = "java/lang/UnsupportedOperationException" then some 3 else none
set_option maxHeartbeats 1000000 in
theorem c_L_byteOf (l : Launch) {S : ax_S} {I : ax_I} {R : ax_R} {L : ax_L} {u ob : Nat} {x1 x2 : Int32} {o : Int32 ⊕ String} {I' : ax_I} {R' : ax_R} {k : Int32} (hu : S u = some (.inl 4)) (ho : S ob = some (.inr (1, 1))) (hM : ax_MetX l y_K_byteOf b_K_byteOf 4 (some .int) (ax_rm 6 1 6) [.ref u, .int x1, .int x2] S I R L (ax_eqX o S I' R' L)) (hk : hc_byteOf o = some k) : ax_MetW l y_L_byteOf b_L_byteOf 5 (some .int) hh_byteOf (ax_rm 7 1 6) [.ref u, .int x1, .int x2, .ref ob] S I R L (ax_eq (some (.int k)) S I' R' (hcL o L ob)) := by
  refine ax_enterW (own := "LossFreeToolsLaw") (by decide +kernel) rfl (ax_cats rfl) (Nat.le_of_ble_eq_true rfl) (fun X hX hF hh hS0 => ?_)
  show ax_W X 5 0 [some (.ref u), some (.int x1), some (.int x2), some (.ref ob), none] [] S I R L 0 0
  refine ax_aload_n (q := 1) hX dc_L_byteOf_0 rfl rfl rfl ?_
  refine ax_iconst (v := 0) (q := 2) hX dc_L_byteOf_1 rfl (by decide) ?_
  refine ax_aload_n (q := 3) hX dc_L_byteOf_2 rfl rfl rfl ?_
  refine ax_iload_n (q := 4) hX dc_L_byteOf_3 rfl rfl rfl ?_
  refine ax_iload_n (q := 5) hX dc_L_byteOf_4 rfl rfl rfl ?_
  refine ax_callVX (q := 8) (vs := [.int x1, .int x2]) (rest := [.int 0, .ref ob]) hX dc_L_byteOf_5 rfl mt_K_byteOf wl_L_19 wi_K_byteOf ws_K_byteOf hu rfl hM rfl (by decide) rfl (Nat.le_of_ble_eq_true rfl) (by decide) (by decide) (fun r S2 I2 R2 L2 hr hold => ?_) (fun E S2 I2 R2 L2 hr hold => ?_)
  · obtain ⟨e, e2, e3, e4, e5⟩ := hr
    rw [e2, e3, e4, e5]
    cases o with
    | inr E => cases e
    | inl v =>
      cases e
      cases hk
      show ax_W X 5 8 [some (.ref u), some (.int x1), some (.int x2), some (.ref ob), none] [.int v, .int 0, .ref ob] S I' R' L _ _
      refine ax_i2l (q := 9) hX dc_L_byteOf_8 rfl rfl ?_
      refine ax_last (q := 10) hX 0 dc_L_byteOf_9 rfl ho rfl (by decide) (by decide) rfl ?_
      refine ax_goto (tgt := 25) hX dc_L_byteOf_10 (by decide) ?_
      refine ax_iconst (v := 0) (q := 26) hX dc_L_byteOf_25 rfl (by decide) ?_
      exact ax_iret hX hF dc_L_byteOf_26 rfl rfl (by decide) (by decide) ax_eq.mk (by rw [hS0]; exact fun _ _ z => z)
  · obtain ⟨e, e2, e3, e4, e5⟩ := hr
    rw [e2, e3, e4, e5]
    cases o with
    | inl v => cases e
    | inr E =>
      cases e
      unfold hc_byteOf at hk
      dsimp only at hk
      by_cases z0 : E = "java/lang/IndexOutOfBoundsException"
      · rw [if_pos z0] at hk
        cases hk
        subst z0
        refine ax_catch (q := 15) hX hh [] [(0, 10, 17, 13), (0, 10, 21, 17)] rfl ⟨by decide, by decide⟩ (by decide) wq_L_23 (by decide +kernel) (fun _ h => absurd h List.not_mem_nil) (k := 4) (by decide) (Or.inl ⟨dc_L_byteOf_13, rfl⟩) rfl ?_
        refine ax_iconst (v := 1) (q := 16) hX dc_L_byteOf_15 rfl (by decide) ?_
        exact ax_iret hX hF dc_L_byteOf_16 rfl rfl (by decide) (by decide) ax_eq.mk (by rw [hS0]; exact fun _ _ z => z)
      rw [if_neg z0] at hk
      by_cases z1 : E = "java/lang/IllegalArgumentException"
      · rw [if_pos z1] at hk
        cases hk
        subst z1
        refine ax_catch (q := 19) hX hh [(0, 10, 13, 23)] [(0, 10, 21, 17)] rfl ⟨by decide, by decide⟩ (by decide) wq_L_13 (by decide +kernel) (List.forall_mem_cons.mpr ⟨⟨by decide, by decide, by decide, "java/lang/IndexOutOfBoundsException", wq_L_23, by decide +kernel⟩, fun _ h => absurd h List.not_mem_nil⟩) (k := 4) (by decide) (Or.inl ⟨dc_L_byteOf_17, rfl⟩) rfl ?_
        refine ax_iconst (v := 2) (q := 20) hX dc_L_byteOf_19 rfl (by decide) ?_
        exact ax_iret hX hF dc_L_byteOf_20 rfl rfl (by decide) (by decide) ax_eq.mk (by rw [hS0]; exact fun _ _ z => z)
      rw [if_neg z1] at hk
      by_cases z2 : E = "java/lang/UnsupportedOperationException"
      · rw [if_pos z2] at hk
        cases hk
        subst z2
        refine ax_catch (q := 23) hX hh [(0, 10, 13, 23), (0, 10, 17, 13)] [] rfl ⟨by decide, by decide⟩ (by decide) wq_L_17 (by decide +kernel) (List.forall_mem_cons.mpr ⟨⟨by decide, by decide, by decide, "java/lang/IndexOutOfBoundsException", wq_L_23, by decide +kernel⟩, List.forall_mem_cons.mpr ⟨⟨by decide, by decide, by decide, "java/lang/IllegalArgumentException", wq_L_13, by decide +kernel⟩, fun _ h => absurd h List.not_mem_nil⟩⟩) (k := 4) (by decide) (Or.inl ⟨dc_L_byteOf_21, rfl⟩) rfl ?_
        refine ax_iconst (v := 3) (q := 24) hX dc_L_byteOf_23 rfl (by decide) ?_
        exact ax_iret hX hF dc_L_byteOf_24 rfl rfl (by decide) (by decide) ax_eq.mk (by rw [hS0]; exact fun _ _ z => z)
      rw [if_neg z2] at hk
      cases hk
def hc_note (o : Int32 ⊕ String) : Option Int32 := match o with
  | .inl _ => some 0
  | .inr E => if E = "java/lang/IndexOutOfBoundsException" then some 1 else if E = "java/lang/IllegalArgumentException" then some 2 else if E = "java/lang/UnsupportedOperationException" then some 3 else none
set_option maxHeartbeats 1000000 in
theorem c_L_note (l : Launch) {S : ax_S} {I : ax_I} {R : ax_R} {L : ax_L} {u ob : Nat} {x1 x2 x3 : Int32} {o : Int32 ⊕ String} {I' : ax_I} {R' : ax_R} {k : Int32} (hu : S u = some (.inl 4)) (ho : S ob = some (.inr (1, 1))) (hM : ax_MetX l y_K_note b_K_note 4 (some .int) (ax_rm 6 1 6) [.ref u, .int x1, .int x2, .int x3] S I R L (ax_eqX o S I' R' L)) (hk : hc_note o = some k) : ax_MetW l y_L_note b_L_note 6 (some .int) hh_note (ax_rm 7 1 6) [.ref u, .int x1, .int x2, .int x3, .ref ob] S I R L (ax_eq (some (.int k)) S I' R' (hcL o L ob)) := by
  refine ax_enterW (own := "LossFreeToolsLaw") (by decide +kernel) rfl (ax_cats rfl) (Nat.le_of_ble_eq_true rfl) (fun X hX hF hh hS0 => ?_)
  show ax_W X 6 0 [some (.ref u), some (.int x1), some (.int x2), some (.int x3), some (.ref ob), none] [] S I R L 0 0
  refine ax_aload (q := 2) hX dc_L_note_0 rfl rfl ?_
  refine ax_iconst (v := 0) (q := 3) hX dc_L_note_2 rfl (by decide) ?_
  refine ax_aload_n (q := 4) hX dc_L_note_3 rfl rfl rfl ?_
  refine ax_iload_n (q := 5) hX dc_L_note_4 rfl rfl rfl ?_
  refine ax_iload_n (q := 6) hX dc_L_note_5 rfl rfl rfl ?_
  refine ax_iload_n (q := 7) hX dc_L_note_6 rfl rfl rfl ?_
  refine ax_callVX (q := 10) (vs := [.int x1, .int x2, .int x3]) (rest := [.int 0, .ref ob]) hX dc_L_note_7 rfl mt_K_note wl_L_25 wi_K_note ws_K_note hu rfl hM rfl (by decide) rfl (Nat.le_of_ble_eq_true rfl) (by decide) (by decide) (fun r S2 I2 R2 L2 hr hold => ?_) (fun E S2 I2 R2 L2 hr hold => ?_)
  · obtain ⟨e, e2, e3, e4, e5⟩ := hr
    rw [e2, e3, e4, e5]
    cases o with
    | inr E => cases e
    | inl v =>
      cases e
      cases hk
      show ax_W X 6 10 [some (.ref u), some (.int x1), some (.int x2), some (.int x3), some (.ref ob), none] [.int v, .int 0, .ref ob] S I' R' L _ _
      refine ax_i2l (q := 11) hX dc_L_note_10 rfl rfl ?_
      refine ax_last (q := 12) hX 0 dc_L_note_11 rfl ho rfl (by decide) (by decide) rfl ?_
      refine ax_goto (tgt := 27) hX dc_L_note_12 (by decide) ?_
      refine ax_iconst (v := 0) (q := 28) hX dc_L_note_27 rfl (by decide) ?_
      exact ax_iret hX hF dc_L_note_28 rfl rfl (by decide) (by decide) ax_eq.mk (by rw [hS0]; exact fun _ _ z => z)
  · obtain ⟨e, e2, e3, e4, e5⟩ := hr
    rw [e2, e3, e4, e5]
    cases o with
    | inl v => cases e
    | inr E =>
      cases e
      unfold hc_note at hk
      dsimp only at hk
      by_cases z0 : E = "java/lang/IndexOutOfBoundsException"
      · rw [if_pos z0] at hk
        cases hk
        subst z0
        refine ax_catch (q := 17) hX hh [] [(0, 12, 19, 13), (0, 12, 23, 17)] rfl ⟨by decide, by decide⟩ (by decide) wq_L_23 (by decide +kernel) (fun _ h => absurd h List.not_mem_nil) (k := 5) (by decide) (Or.inl ⟨dc_L_note_15, rfl⟩) rfl ?_
        refine ax_iconst (v := 1) (q := 18) hX dc_L_note_17 rfl (by decide) ?_
        exact ax_iret hX hF dc_L_note_18 rfl rfl (by decide) (by decide) ax_eq.mk (by rw [hS0]; exact fun _ _ z => z)
      rw [if_neg z0] at hk
      by_cases z1 : E = "java/lang/IllegalArgumentException"
      · rw [if_pos z1] at hk
        cases hk
        subst z1
        refine ax_catch (q := 21) hX hh [(0, 12, 15, 23)] [(0, 12, 23, 17)] rfl ⟨by decide, by decide⟩ (by decide) wq_L_13 (by decide +kernel) (List.forall_mem_cons.mpr ⟨⟨by decide, by decide, by decide, "java/lang/IndexOutOfBoundsException", wq_L_23, by decide +kernel⟩, fun _ h => absurd h List.not_mem_nil⟩) (k := 5) (by decide) (Or.inl ⟨dc_L_note_19, rfl⟩) rfl ?_
        refine ax_iconst (v := 2) (q := 22) hX dc_L_note_21 rfl (by decide) ?_
        exact ax_iret hX hF dc_L_note_22 rfl rfl (by decide) (by decide) ax_eq.mk (by rw [hS0]; exact fun _ _ z => z)
      rw [if_neg z1] at hk
      by_cases z2 : E = "java/lang/UnsupportedOperationException"
      · rw [if_pos z2] at hk
        cases hk
        subst z2
        refine ax_catch (q := 25) hX hh [(0, 12, 15, 23), (0, 12, 19, 13)] [] rfl ⟨by decide, by decide⟩ (by decide) wq_L_17 (by decide +kernel) (List.forall_mem_cons.mpr ⟨⟨by decide, by decide, by decide, "java/lang/IndexOutOfBoundsException", wq_L_23, by decide +kernel⟩, List.forall_mem_cons.mpr ⟨⟨by decide, by decide, by decide, "java/lang/IllegalArgumentException", wq_L_13, by decide +kernel⟩, fun _ h => absurd h List.not_mem_nil⟩⟩) (k := 5) (by decide) (Or.inl ⟨dc_L_note_23, rfl⟩) rfl ?_
        refine ax_iconst (v := 3) (q := 26) hX dc_L_note_25 rfl (by decide) ?_
        exact ax_iret hX hF dc_L_note_26 rfl rfl (by decide) (by decide) ax_eq.mk (by rw [hS0]; exact fun _ _ z => z)
      rw [if_neg z2] at hk
      cases hk
def hc_crop (o : Int32 ⊕ String) : Option Int32 := match o with
  | .inl _ => some 0
  | .inr E => if E = "java/lang/IllegalArgumentException" then some 1 else none
set_option maxHeartbeats 1000000 in
theorem c_L_crop (l : Launch) {S : ax_S} {I : ax_I} {R : ax_R} {L : ax_L} {u ob : Nat} {x1 x2 x3 x4 : Int32} {o : Int32 ⊕ String} {I' : ax_I} {R' : ax_R} {k : Int32} (hu : S u = some (.inl 4)) (ho : S ob = some (.inr (1, 1))) (hM : ax_MetX l y_K_crop b_K_crop 5 (some .int) (ax_rm 6 1 6) [.ref u, .int x1, .int x2, .int x3, .int x4] S I R L (ax_eqX o S I' R' L)) (hk : hc_crop o = some k) : ax_MetW l y_L_crop b_L_crop 7 (some .int) hh_crop (ax_rm 7 1 6) [.ref u, .int x1, .int x2, .int x3, .int x4, .ref ob] S I R L (ax_eq (some (.int k)) S I' R' (hcL o L ob)) := by
  refine ax_enterW (own := "LossFreeToolsLaw") (by decide +kernel) rfl (ax_cats rfl) (Nat.le_of_ble_eq_true rfl) (fun X hX hF hh hS0 => ?_)
  show ax_W X 7 0 [some (.ref u), some (.int x1), some (.int x2), some (.int x3), some (.int x4), some (.ref ob), none] [] S I R L 0 0
  refine ax_aload (q := 2) hX dc_L_crop_0 rfl rfl ?_
  refine ax_iconst (v := 0) (q := 3) hX dc_L_crop_2 rfl (by decide) ?_
  refine ax_aload_n (q := 4) hX dc_L_crop_3 rfl rfl rfl ?_
  refine ax_iload_n (q := 5) hX dc_L_crop_4 rfl rfl rfl ?_
  refine ax_iload_n (q := 6) hX dc_L_crop_5 rfl rfl rfl ?_
  refine ax_iload_n (q := 7) hX dc_L_crop_6 rfl rfl rfl ?_
  refine ax_iload (q := 9) hX dc_L_crop_7 rfl rfl ?_
  refine ax_callVX (q := 12) (vs := [.int x1, .int x2, .int x3, .int x4]) (rest := [.int 0, .ref ob]) hX dc_L_crop_9 rfl mt_K_crop wl_L_29 wi_K_crop ws_K_crop hu rfl hM rfl (by decide) rfl (Nat.le_of_ble_eq_true rfl) (by decide) (by decide) (fun r S2 I2 R2 L2 hr hold => ?_) (fun E S2 I2 R2 L2 hr hold => ?_)
  · obtain ⟨e, e2, e3, e4, e5⟩ := hr
    rw [e2, e3, e4, e5]
    cases o with
    | inr E => cases e
    | inl v =>
      cases e
      cases hk
      show ax_W X 7 12 [some (.ref u), some (.int x1), some (.int x2), some (.int x3), some (.int x4), some (.ref ob), none] [.int v, .int 0, .ref ob] S I' R' L _ _
      refine ax_i2l (q := 13) hX dc_L_crop_12 rfl rfl ?_
      refine ax_last (q := 14) hX 0 dc_L_crop_13 rfl ho rfl (by decide) (by decide) rfl ?_
      refine ax_goto (tgt := 21) hX dc_L_crop_14 (by decide) ?_
      refine ax_iconst (v := 0) (q := 22) hX dc_L_crop_21 rfl (by decide) ?_
      exact ax_iret hX hF dc_L_crop_22 rfl rfl (by decide) (by decide) ax_eq.mk (by rw [hS0]; exact fun _ _ z => z)
  · obtain ⟨e, e2, e3, e4, e5⟩ := hr
    rw [e2, e3, e4, e5]
    cases o with
    | inl v => cases e
    | inr E =>
      cases e
      unfold hc_crop at hk
      dsimp only at hk
      by_cases z0 : E = "java/lang/IllegalArgumentException"
      · rw [if_pos z0] at hk
        cases hk
        subst z0
        refine ax_catch (q := 19) hX hh [] [] rfl ⟨by decide, by decide⟩ (by decide) wq_L_13 (by decide +kernel) (fun _ h => absurd h List.not_mem_nil) (k := 6) (by decide) (Or.inl ⟨dc_L_crop_17, rfl⟩) rfl ?_
        refine ax_iconst (v := 1) (q := 20) hX dc_L_crop_19 rfl (by decide) ?_
        exact ax_iret hX hF dc_L_crop_20 rfl rfl (by decide) (by decide) ax_eq.mk (by rw [hS0]; exact fun _ _ z => z)
      rw [if_neg z0] at hk
      cases hk
def hc_near (o : Int32 ⊕ String) : Option Int32 := match o with
  | .inl _ => some 0
  | .inr E => if E = "java/lang/IndexOutOfBoundsException" then some 1 else if E = "java/lang/IllegalStateException" then some 2 else none
set_option maxHeartbeats 1000000 in
theorem c_L_near (l : Launch) {S : ax_S} {I : ax_I} {R : ax_R} {L : ax_L} {u ob : Nat} {x1 : Int32} {o : Int32 ⊕ String} {I' : ax_I} {R' : ax_R} {k : Int32} (hu : S u = some (.inl 4)) (ho : S ob = some (.inr (1, 1))) (hM : ax_MetX l y_K_near b_K_near 2 (some .int) (ax_rm 6 1 6) [.ref u, .int x1] S I R L (ax_eqX o S I' R' L)) (hk : hc_near o = some k) : ax_MetW l y_L_near b_L_near 4 (some .int) hh_near (ax_rm 7 1 6) [.ref u, .int x1, .ref ob] S I R L (ax_eq (some (.int k)) S I' R' (hcL o L ob)) := by
  refine ax_enterW (own := "LossFreeToolsLaw") (by decide +kernel) rfl (ax_cats rfl) (Nat.le_of_ble_eq_true rfl) (fun X hX hF hh hS0 => ?_)
  show ax_W X 4 0 [some (.ref u), some (.int x1), some (.ref ob), none] [] S I R L 0 0
  refine ax_aload_n (q := 1) hX dc_L_near_0 rfl rfl rfl ?_
  refine ax_iconst (v := 0) (q := 2) hX dc_L_near_1 rfl (by decide) ?_
  refine ax_aload_n (q := 3) hX dc_L_near_2 rfl rfl rfl ?_
  refine ax_iload_n (q := 4) hX dc_L_near_3 rfl rfl rfl ?_
  refine ax_callVX (q := 7) (vs := [.int x1]) (rest := [.int 0, .ref ob]) hX dc_L_near_4 rfl mt_K_near wl_L_32 wi_K_near ws_K_near hu rfl hM rfl (by decide) rfl (Nat.le_of_ble_eq_true rfl) (by decide) (by decide) (fun r S2 I2 R2 L2 hr hold => ?_) (fun E S2 I2 R2 L2 hr hold => ?_)
  · obtain ⟨e, e2, e3, e4, e5⟩ := hr
    rw [e2, e3, e4, e5]
    cases o with
    | inr E => cases e
    | inl v =>
      cases e
      cases hk
      show ax_W X 4 7 [some (.ref u), some (.int x1), some (.ref ob), none] [.int v, .int 0, .ref ob] S I' R' L _ _
      refine ax_i2l (q := 8) hX dc_L_near_7 rfl rfl ?_
      refine ax_last (q := 9) hX 0 dc_L_near_8 rfl ho rfl (by decide) (by decide) rfl ?_
      refine ax_goto (tgt := 18) hX dc_L_near_9 (by decide) ?_
      refine ax_iconst (v := 0) (q := 19) hX dc_L_near_18 rfl (by decide) ?_
      exact ax_iret hX hF dc_L_near_19 rfl rfl (by decide) (by decide) ax_eq.mk (by rw [hS0]; exact fun _ _ z => z)
  · obtain ⟨e, e2, e3, e4, e5⟩ := hr
    rw [e2, e3, e4, e5]
    cases o with
    | inl v => cases e
    | inr E =>
      cases e
      unfold hc_near at hk
      dsimp only at hk
      by_cases z0 : E = "java/lang/IndexOutOfBoundsException"
      · rw [if_pos z0] at hk
        cases hk
        subst z0
        refine ax_catch (q := 13) hX hh [] [(0, 9, 15, 15)] rfl ⟨by decide, by decide⟩ (by decide) wq_L_23 (by decide +kernel) (fun _ h => absurd h List.not_mem_nil) (k := 3) (by decide) (Or.inr ⟨⟨_, dc_L_near_12, rfl⟩, rfl⟩) rfl ?_
        refine ax_iconst (v := 1) (q := 14) hX dc_L_near_13 rfl (by decide) ?_
        exact ax_iret hX hF dc_L_near_14 rfl rfl (by decide) (by decide) ax_eq.mk (by rw [hS0]; exact fun _ _ z => z)
      rw [if_neg z0] at hk
      by_cases z1 : E = "java/lang/IllegalStateException"
      · rw [if_pos z1] at hk
        cases hk
        subst z1
        refine ax_catch (q := 16) hX hh [(0, 9, 12, 23)] [] rfl ⟨by decide, by decide⟩ (by decide) wq_L_15 (by decide +kernel) (List.forall_mem_cons.mpr ⟨⟨by decide, by decide, by decide, "java/lang/IndexOutOfBoundsException", wq_L_23, by decide +kernel⟩, fun _ h => absurd h List.not_mem_nil⟩) (k := 3) (by decide) (Or.inr ⟨⟨_, dc_L_near_15, rfl⟩, rfl⟩) rfl ?_
        refine ax_iconst (v := 2) (q := 17) hX dc_L_near_16 rfl (by decide) ?_
        exact ax_iret hX hF dc_L_near_17 rfl rfl (by decide) (by decide) ax_eq.mk (by rw [hS0]; exact fun _ _ z => z)
      rw [if_neg z1] at hk
      cases hk
def hc_turn (o : Int32 ⊕ String) : Option Int32 := match o with
  | .inl _ => some 0
  | .inr E => if E = "java/lang/IllegalArgumentException" then some 1 else none
set_option maxHeartbeats 1000000 in
theorem c_L_turn (l : Launch) {S : ax_S} {I : ax_I} {R : ax_R} {L : ax_L} {u ob : Nat} {x1 : Int32} {o : Int32 ⊕ String} {I' : ax_I} {R' : ax_R} {k : Int32} (hu : S u = some (.inl 4)) (ho : S ob = some (.inr (1, 1))) (hM : ax_MetX l y_K_turn b_K_turn 2 (some .int) (ax_rm 6 1 6) [.ref u, .int x1] S I R L (ax_eqX o S I' R' L)) (hk : hc_turn o = some k) : ax_MetW l y_L_turn b_L_turn 4 (some .int) hh_turn (ax_rm 7 1 6) [.ref u, .int x1, .ref ob] S I R L (ax_eq (some (.int k)) S I' R' (hcL o L ob)) := by
  refine ax_enterW (own := "LossFreeToolsLaw") (by decide +kernel) rfl (ax_cats rfl) (Nat.le_of_ble_eq_true rfl) (fun X hX hF hh hS0 => ?_)
  show ax_W X 4 0 [some (.ref u), some (.int x1), some (.ref ob), none] [] S I R L 0 0
  refine ax_aload_n (q := 1) hX dc_L_turn_0 rfl rfl rfl ?_
  refine ax_iconst (v := 0) (q := 2) hX dc_L_turn_1 rfl (by decide) ?_
  refine ax_aload_n (q := 3) hX dc_L_turn_2 rfl rfl rfl ?_
  refine ax_iload_n (q := 4) hX dc_L_turn_3 rfl rfl rfl ?_
  refine ax_callVX (q := 7) (vs := [.int x1]) (rest := [.int 0, .ref ob]) hX dc_L_turn_4 rfl mt_K_turn wl_L_36 wi_K_turn ws_K_turn hu rfl hM rfl (by decide) rfl (Nat.le_of_ble_eq_true rfl) (by decide) (by decide) (fun r S2 I2 R2 L2 hr hold => ?_) (fun E S2 I2 R2 L2 hr hold => ?_)
  · obtain ⟨e, e2, e3, e4, e5⟩ := hr
    rw [e2, e3, e4, e5]
    cases o with
    | inr E => cases e
    | inl v =>
      cases e
      cases hk
      show ax_W X 4 7 [some (.ref u), some (.int x1), some (.ref ob), none] [.int v, .int 0, .ref ob] S I' R' L _ _
      refine ax_i2l (q := 8) hX dc_L_turn_7 rfl rfl ?_
      refine ax_last (q := 9) hX 0 dc_L_turn_8 rfl ho rfl (by decide) (by decide) rfl ?_
      refine ax_goto (tgt := 15) hX dc_L_turn_9 (by decide) ?_
      refine ax_iconst (v := 0) (q := 16) hX dc_L_turn_15 rfl (by decide) ?_
      exact ax_iret hX hF dc_L_turn_16 rfl rfl (by decide) (by decide) ax_eq.mk (by rw [hS0]; exact fun _ _ z => z)
  · obtain ⟨e, e2, e3, e4, e5⟩ := hr
    rw [e2, e3, e4, e5]
    cases o with
    | inl v => cases e
    | inr E =>
      cases e
      unfold hc_turn at hk
      dsimp only at hk
      by_cases z0 : E = "java/lang/IllegalArgumentException"
      · rw [if_pos z0] at hk
        cases hk
        subst z0
        refine ax_catch (q := 13) hX hh [] [] rfl ⟨by decide, by decide⟩ (by decide) wq_L_13 (by decide +kernel) (fun _ h => absurd h List.not_mem_nil) (k := 3) (by decide) (Or.inr ⟨⟨_, dc_L_turn_12, rfl⟩, rfl⟩) rfl ?_
        refine ax_iconst (v := 1) (q := 14) hX dc_L_turn_13 rfl (by decide) ?_
        exact ax_iret hX hF dc_L_turn_14 rfl rfl (by decide) (by decide) ax_eq.mk (by rw [hS0]; exact fun _ _ z => z)
      rw [if_neg z0] at hk
      cases hk
def hc_join (o : Int32 ⊕ String) : Option Int32 := match o with
  | .inl _ => some 0
  | .inr E => if E = "java/lang/IndexOutOfBoundsException" then some 1 else if E = "java/lang/IllegalStateException" then some 2 else if E = "java/lang/UnsupportedOperationException" then some 3 else none
set_option maxHeartbeats 1000000 in
theorem c_L_join (l : Launch) {S : ax_S} {I : ax_I} {R : ax_R} {L : ax_L} {u ob : Nat} {x1 : Int32} {o : Int32 ⊕ String} {I' : ax_I} {R' : ax_R} {k : Int32} (hu : S u = some (.inl 4)) (ho : S ob = some (.inr (1, 1))) (hM : ax_MetX l y_K_join b_K_join 3 (some .int) (ax_rm 6 1 6) [.ref u, .int x1] S I R L (ax_eqX o S I' R' L)) (hk : hc_join o = some k) : ax_MetW l y_L_join b_L_join 4 (some .int) hh_join (ax_rm 7 1 6) [.ref u, .int x1, .ref ob] S I R L (ax_eq (some (.int k)) S I' R' (hcL o L ob)) := by
  refine ax_enterW (own := "LossFreeToolsLaw") (by decide +kernel) rfl (ax_cats rfl) (Nat.le_of_ble_eq_true rfl) (fun X hX hF hh hS0 => ?_)
  show ax_W X 4 0 [some (.ref u), some (.int x1), some (.ref ob), none] [] S I R L 0 0
  refine ax_aload_n (q := 1) hX dc_L_join_0 rfl rfl rfl ?_
  refine ax_iconst (v := 0) (q := 2) hX dc_L_join_1 rfl (by decide) ?_
  refine ax_aload_n (q := 3) hX dc_L_join_2 rfl rfl rfl ?_
  refine ax_iload_n (q := 4) hX dc_L_join_3 rfl rfl rfl ?_
  refine ax_callVX (q := 7) (vs := [.int x1]) (rest := [.int 0, .ref ob]) hX dc_L_join_4 rfl mt_K_join wl_L_39 wi_K_join ws_K_join hu rfl hM rfl (by decide) rfl (Nat.le_of_ble_eq_true rfl) (by decide) (by decide) (fun r S2 I2 R2 L2 hr hold => ?_) (fun E S2 I2 R2 L2 hr hold => ?_)
  · obtain ⟨e, e2, e3, e4, e5⟩ := hr
    rw [e2, e3, e4, e5]
    cases o with
    | inr E => cases e
    | inl v =>
      cases e
      cases hk
      show ax_W X 4 7 [some (.ref u), some (.int x1), some (.ref ob), none] [.int v, .int 0, .ref ob] S I' R' L _ _
      refine ax_i2l (q := 8) hX dc_L_join_7 rfl rfl ?_
      refine ax_last (q := 9) hX 0 dc_L_join_8 rfl ho rfl (by decide) (by decide) rfl ?_
      refine ax_goto (tgt := 21) hX dc_L_join_9 (by decide) ?_
      refine ax_iconst (v := 0) (q := 22) hX dc_L_join_21 rfl (by decide) ?_
      exact ax_iret hX hF dc_L_join_22 rfl rfl (by decide) (by decide) ax_eq.mk (by rw [hS0]; exact fun _ _ z => z)
  · obtain ⟨e, e2, e3, e4, e5⟩ := hr
    rw [e2, e3, e4, e5]
    cases o with
    | inl v => cases e
    | inr E =>
      cases e
      unfold hc_join at hk
      dsimp only at hk
      by_cases z0 : E = "java/lang/IndexOutOfBoundsException"
      · rw [if_pos z0] at hk
        cases hk
        subst z0
        refine ax_catch (q := 13) hX hh [] [(0, 9, 15, 15), (0, 9, 18, 17)] rfl ⟨by decide, by decide⟩ (by decide) wq_L_23 (by decide +kernel) (fun _ h => absurd h List.not_mem_nil) (k := 3) (by decide) (Or.inr ⟨⟨_, dc_L_join_12, rfl⟩, rfl⟩) rfl ?_
        refine ax_iconst (v := 1) (q := 14) hX dc_L_join_13 rfl (by decide) ?_
        exact ax_iret hX hF dc_L_join_14 rfl rfl (by decide) (by decide) ax_eq.mk (by rw [hS0]; exact fun _ _ z => z)
      rw [if_neg z0] at hk
      by_cases z1 : E = "java/lang/IllegalStateException"
      · rw [if_pos z1] at hk
        cases hk
        subst z1
        refine ax_catch (q := 16) hX hh [(0, 9, 12, 23)] [(0, 9, 18, 17)] rfl ⟨by decide, by decide⟩ (by decide) wq_L_15 (by decide +kernel) (List.forall_mem_cons.mpr ⟨⟨by decide, by decide, by decide, "java/lang/IndexOutOfBoundsException", wq_L_23, by decide +kernel⟩, fun _ h => absurd h List.not_mem_nil⟩) (k := 3) (by decide) (Or.inr ⟨⟨_, dc_L_join_15, rfl⟩, rfl⟩) rfl ?_
        refine ax_iconst (v := 2) (q := 17) hX dc_L_join_16 rfl (by decide) ?_
        exact ax_iret hX hF dc_L_join_17 rfl rfl (by decide) (by decide) ax_eq.mk (by rw [hS0]; exact fun _ _ z => z)
      rw [if_neg z1] at hk
      by_cases z2 : E = "java/lang/UnsupportedOperationException"
      · rw [if_pos z2] at hk
        cases hk
        subst z2
        refine ax_catch (q := 19) hX hh [(0, 9, 12, 23), (0, 9, 15, 15)] [] rfl ⟨by decide, by decide⟩ (by decide) wq_L_17 (by decide +kernel) (List.forall_mem_cons.mpr ⟨⟨by decide, by decide, by decide, "java/lang/IndexOutOfBoundsException", wq_L_23, by decide +kernel⟩, List.forall_mem_cons.mpr ⟨⟨by decide, by decide, by decide, "java/lang/IllegalStateException", wq_L_15, by decide +kernel⟩, fun _ h => absurd h List.not_mem_nil⟩⟩) (k := 3) (by decide) (Or.inr ⟨⟨_, dc_L_join_18, rfl⟩, rfl⟩) rfl ?_
        refine ax_iconst (v := 3) (q := 20) hX dc_L_join_19 rfl (by decide) ?_
        exact ax_iret hX hF dc_L_join_20 rfl rfl (by decide) (by decide) ax_eq.mk (by rw [hS0]; exact fun _ _ z => z)
      rw [if_neg z2] at hk
      cases hk
def hc_at (o : Int32 ⊕ String) : Option Int32 := match o with
  | .inl _ => some 0
  | .inr E => if E = "java/lang/IndexOutOfBoundsException" then some 1 else none
set_option maxHeartbeats 1000000 in
theorem c_L_at (l : Launch) {S : ax_S} {I : ax_I} {R : ax_R} {L : ax_L} {u ob : Nat} {x1 x2 : Int32} {o : Int32 ⊕ String} {I' : ax_I} {R' : ax_R} {k : Int32} (hu : S u = some (.inl 4)) (ho : S ob = some (.inr (1, 1))) (hM : ax_MetX l y_K_at b_K_at 4 (some .int) (ax_rm 6 1 6) [.ref u, .int x1, .int x2] S I R L (ax_eqX o S I' R' L)) (hk : hc_at o = some k) : ax_MetW l y_L_at b_L_at 5 (some .int) hh_at (ax_rm 7 1 6) [.ref u, .int x1, .int x2, .ref ob] S I R L (ax_eq (some (.int k)) S I' R' (hcL o L ob)) := by
  refine ax_enterW (own := "LossFreeToolsLaw") (by decide +kernel) rfl (ax_cats rfl) (Nat.le_of_ble_eq_true rfl) (fun X hX hF hh hS0 => ?_)
  show ax_W X 5 0 [some (.ref u), some (.int x1), some (.int x2), some (.ref ob), none] [] S I R L 0 0
  refine ax_aload_n (q := 1) hX dc_L_at_0 rfl rfl rfl ?_
  refine ax_iconst (v := 0) (q := 2) hX dc_L_at_1 rfl (by decide) ?_
  refine ax_aload_n (q := 3) hX dc_L_at_2 rfl rfl rfl ?_
  refine ax_iload_n (q := 4) hX dc_L_at_3 rfl rfl rfl ?_
  refine ax_iload_n (q := 5) hX dc_L_at_4 rfl rfl rfl ?_
  refine ax_callVX (q := 8) (vs := [.int x1, .int x2]) (rest := [.int 0, .ref ob]) hX dc_L_at_5 rfl mt_K_at wl_L_42 wi_K_at ws_K_at hu rfl hM rfl (by decide) rfl (Nat.le_of_ble_eq_true rfl) (by decide) (by decide) (fun r S2 I2 R2 L2 hr hold => ?_) (fun E S2 I2 R2 L2 hr hold => ?_)
  · obtain ⟨e, e2, e3, e4, e5⟩ := hr
    rw [e2, e3, e4, e5]
    cases o with
    | inr E => cases e
    | inl v =>
      cases e
      cases hk
      show ax_W X 5 8 [some (.ref u), some (.int x1), some (.int x2), some (.ref ob), none] [.int v, .int 0, .ref ob] S I' R' L _ _
      refine ax_i2l (q := 9) hX dc_L_at_8 rfl rfl ?_
      refine ax_last (q := 10) hX 0 dc_L_at_9 rfl ho rfl (by decide) (by decide) rfl ?_
      refine ax_goto (tgt := 17) hX dc_L_at_10 (by decide) ?_
      refine ax_iconst (v := 0) (q := 18) hX dc_L_at_17 rfl (by decide) ?_
      exact ax_iret hX hF dc_L_at_18 rfl rfl (by decide) (by decide) ax_eq.mk (by rw [hS0]; exact fun _ _ z => z)
  · obtain ⟨e, e2, e3, e4, e5⟩ := hr
    rw [e2, e3, e4, e5]
    cases o with
    | inl v => cases e
    | inr E =>
      cases e
      unfold hc_at at hk
      dsimp only at hk
      by_cases z0 : E = "java/lang/IndexOutOfBoundsException"
      · rw [if_pos z0] at hk
        cases hk
        subst z0
        refine ax_catch (q := 15) hX hh [] [] rfl ⟨by decide, by decide⟩ (by decide) wq_L_23 (by decide +kernel) (fun _ h => absurd h List.not_mem_nil) (k := 4) (by decide) (Or.inl ⟨dc_L_at_13, rfl⟩) rfl ?_
        refine ax_iconst (v := 1) (q := 16) hX dc_L_at_15 rfl (by decide) ?_
        exact ax_iret hX hF dc_L_at_16 rfl rfl (by decide) (by decide) ax_eq.mk (by rw [hS0]; exact fun _ _ z => z)
      rw [if_neg z0] at hk
      cases hk
def hc_byteAt (o : Int32 ⊕ String) : Option Int32 := match o with
  | .inl _ => some 0
  | .inr E => if E = "java/lang/IndexOutOfBoundsException" then some 1 else none
set_option maxHeartbeats 1000000 in
theorem c_L_byteAt (l : Launch) {S : ax_S} {I : ax_I} {R : ax_R} {L : ax_L} {u ob : Nat} {x1 x2 : Int32} {o : Int32 ⊕ String} {I' : ax_I} {R' : ax_R} {k : Int32} (hu : S u = some (.inl 4)) (ho : S ob = some (.inr (1, 1))) (hM : ax_MetX l y_K_byteAt b_K_byteAt 4 (some .int) (ax_rm 6 1 6) [.ref u, .int x1, .int x2] S I R L (ax_eqX o S I' R' L)) (hk : hc_byteAt o = some k) : ax_MetW l y_L_byteAt b_L_byteAt 5 (some .int) hh_byteAt (ax_rm 7 1 6) [.ref u, .int x1, .int x2, .ref ob] S I R L (ax_eq (some (.int k)) S I' R' (hcL o L ob)) := by
  refine ax_enterW (own := "LossFreeToolsLaw") (by decide +kernel) rfl (ax_cats rfl) (Nat.le_of_ble_eq_true rfl) (fun X hX hF hh hS0 => ?_)
  show ax_W X 5 0 [some (.ref u), some (.int x1), some (.int x2), some (.ref ob), none] [] S I R L 0 0
  refine ax_aload_n (q := 1) hX dc_L_byteAt_0 rfl rfl rfl ?_
  refine ax_iconst (v := 0) (q := 2) hX dc_L_byteAt_1 rfl (by decide) ?_
  refine ax_aload_n (q := 3) hX dc_L_byteAt_2 rfl rfl rfl ?_
  refine ax_iload_n (q := 4) hX dc_L_byteAt_3 rfl rfl rfl ?_
  refine ax_iload_n (q := 5) hX dc_L_byteAt_4 rfl rfl rfl ?_
  refine ax_callVX (q := 8) (vs := [.int x1, .int x2]) (rest := [.int 0, .ref ob]) hX dc_L_byteAt_5 rfl mt_K_byteAt wl_L_45 wi_K_byteAt ws_K_byteAt hu rfl hM rfl (by decide) rfl (Nat.le_of_ble_eq_true rfl) (by decide) (by decide) (fun r S2 I2 R2 L2 hr hold => ?_) (fun E S2 I2 R2 L2 hr hold => ?_)
  · obtain ⟨e, e2, e3, e4, e5⟩ := hr
    rw [e2, e3, e4, e5]
    cases o with
    | inr E => cases e
    | inl v =>
      cases e
      cases hk
      show ax_W X 5 8 [some (.ref u), some (.int x1), some (.int x2), some (.ref ob), none] [.int v, .int 0, .ref ob] S I' R' L _ _
      refine ax_i2l (q := 9) hX dc_L_byteAt_8 rfl rfl ?_
      refine ax_last (q := 10) hX 0 dc_L_byteAt_9 rfl ho rfl (by decide) (by decide) rfl ?_
      refine ax_goto (tgt := 17) hX dc_L_byteAt_10 (by decide) ?_
      refine ax_iconst (v := 0) (q := 18) hX dc_L_byteAt_17 rfl (by decide) ?_
      exact ax_iret hX hF dc_L_byteAt_18 rfl rfl (by decide) (by decide) ax_eq.mk (by rw [hS0]; exact fun _ _ z => z)
  · obtain ⟨e, e2, e3, e4, e5⟩ := hr
    rw [e2, e3, e4, e5]
    cases o with
    | inl v => cases e
    | inr E =>
      cases e
      unfold hc_byteAt at hk
      dsimp only at hk
      by_cases z0 : E = "java/lang/IndexOutOfBoundsException"
      · rw [if_pos z0] at hk
        cases hk
        subst z0
        refine ax_catch (q := 15) hX hh [] [] rfl ⟨by decide, by decide⟩ (by decide) wq_L_23 (by decide +kernel) (fun _ h => absurd h List.not_mem_nil) (k := 4) (by decide) (Or.inl ⟨dc_L_byteAt_13, rfl⟩) rfl ?_
        refine ax_iconst (v := 1) (q := 16) hX dc_L_byteAt_15 rfl (by decide) ?_
        exact ax_iret hX hF dc_L_byteAt_16 rfl rfl (by decide) (by decide) ax_eq.mk (by rw [hS0]; exact fun _ _ z => z)
      rw [if_neg z0] at hk
      cases hk
def hc_shown (o : Int32 ⊕ String) : Option Int32 := match o with
  | .inl _ => some 0
  | .inr E => if E = "java/lang/IndexOutOfBoundsException" then some 1 else none
set_option maxHeartbeats 1000000 in
theorem c_L_shown (l : Launch) {S : ax_S} {I : ax_I} {R : ax_R} {L : ax_L} {u ob : Nat} {x1 x2 : Int32} {o : Int32 ⊕ String} {I' : ax_I} {R' : ax_R} {k : Int32} (hu : S u = some (.inl 4)) (ho : S ob = some (.inr (1, 1))) (hM : ax_MetX l y_K_shown b_K_shown 4 (some .int) (ax_rm 6 1 6) [.ref u, .int x1, .int x2] S I R L (ax_eqX o S I' R' L)) (hk : hc_shown o = some k) : ax_MetW l y_L_shown b_L_shown 5 (some .int) hh_shown (ax_rm 7 1 6) [.ref u, .int x1, .int x2, .ref ob] S I R L (ax_eq (some (.int k)) S I' R' (hcL o L ob)) := by
  refine ax_enterW (own := "LossFreeToolsLaw") (by decide +kernel) rfl (ax_cats rfl) (Nat.le_of_ble_eq_true rfl) (fun X hX hF hh hS0 => ?_)
  show ax_W X 5 0 [some (.ref u), some (.int x1), some (.int x2), some (.ref ob), none] [] S I R L 0 0
  refine ax_aload_n (q := 1) hX dc_L_shown_0 rfl rfl rfl ?_
  refine ax_iconst (v := 0) (q := 2) hX dc_L_shown_1 rfl (by decide) ?_
  refine ax_aload_n (q := 3) hX dc_L_shown_2 rfl rfl rfl ?_
  refine ax_iload_n (q := 4) hX dc_L_shown_3 rfl rfl rfl ?_
  refine ax_iload_n (q := 5) hX dc_L_shown_4 rfl rfl rfl ?_
  refine ax_callVX (q := 8) (vs := [.int x1, .int x2]) (rest := [.int 0, .ref ob]) hX dc_L_shown_5 rfl mt_K_shown wl_L_48 wi_K_shown ws_K_shown hu rfl hM rfl (by decide) rfl (Nat.le_of_ble_eq_true rfl) (by decide) (by decide) (fun r S2 I2 R2 L2 hr hold => ?_) (fun E S2 I2 R2 L2 hr hold => ?_)
  · obtain ⟨e, e2, e3, e4, e5⟩ := hr
    rw [e2, e3, e4, e5]
    cases o with
    | inr E => cases e
    | inl v =>
      cases e
      cases hk
      show ax_W X 5 8 [some (.ref u), some (.int x1), some (.int x2), some (.ref ob), none] [.int v, .int 0, .ref ob] S I' R' L _ _
      refine ax_i2l (q := 9) hX dc_L_shown_8 rfl rfl ?_
      refine ax_last (q := 10) hX 0 dc_L_shown_9 rfl ho rfl (by decide) (by decide) rfl ?_
      refine ax_goto (tgt := 17) hX dc_L_shown_10 (by decide) ?_
      refine ax_iconst (v := 0) (q := 18) hX dc_L_shown_17 rfl (by decide) ?_
      exact ax_iret hX hF dc_L_shown_18 rfl rfl (by decide) (by decide) ax_eq.mk (by rw [hS0]; exact fun _ _ z => z)
  · obtain ⟨e, e2, e3, e4, e5⟩ := hr
    rw [e2, e3, e4, e5]
    cases o with
    | inl v => cases e
    | inr E =>
      cases e
      unfold hc_shown at hk
      dsimp only at hk
      by_cases z0 : E = "java/lang/IndexOutOfBoundsException"
      · rw [if_pos z0] at hk
        cases hk
        subst z0
        refine ax_catch (q := 15) hX hh [] [] rfl ⟨by decide, by decide⟩ (by decide) wq_L_23 (by decide +kernel) (fun _ h => absurd h List.not_mem_nil) (k := 4) (by decide) (Or.inl ⟨dc_L_shown_13, rfl⟩) rfl ?_
        refine ax_iconst (v := 1) (q := 16) hX dc_L_shown_15 rfl (by decide) ?_
        exact ax_iret hX hF dc_L_shown_16 rfl rfl (by decide) (by decide) ax_eq.mk (by rw [hS0]; exact fun _ _ z => z)
      rw [if_neg z0] at hk
      cases hk
def hc_noteAt (o : Int32 ⊕ String) : Option Int32 := match o with
  | .inl _ => some 0
  | .inr E => if E = "java/lang/IndexOutOfBoundsException" then some 1 else none
set_option maxHeartbeats 1000000 in
theorem c_L_noteAt (l : Launch) {S : ax_S} {I : ax_I} {R : ax_R} {L : ax_L} {u ob : Nat} {x1 x2 : Int32} {o : Int32 ⊕ String} {I' : ax_I} {R' : ax_R} {k : Int32} (hu : S u = some (.inl 4)) (ho : S ob = some (.inr (1, 1))) (hM : ax_MetX l y_K_noteAt b_K_noteAt 4 (some .int) (ax_rm 6 1 6) [.ref u, .int x1, .int x2] S I R L (ax_eqX o S I' R' L)) (hk : hc_noteAt o = some k) : ax_MetW l y_L_noteAt b_L_noteAt 5 (some .int) hh_noteAt (ax_rm 7 1 6) [.ref u, .int x1, .int x2, .ref ob] S I R L (ax_eq (some (.int k)) S I' R' (hcL o L ob)) := by
  refine ax_enterW (own := "LossFreeToolsLaw") (by decide +kernel) rfl (ax_cats rfl) (Nat.le_of_ble_eq_true rfl) (fun X hX hF hh hS0 => ?_)
  show ax_W X 5 0 [some (.ref u), some (.int x1), some (.int x2), some (.ref ob), none] [] S I R L 0 0
  refine ax_aload_n (q := 1) hX dc_L_noteAt_0 rfl rfl rfl ?_
  refine ax_iconst (v := 0) (q := 2) hX dc_L_noteAt_1 rfl (by decide) ?_
  refine ax_aload_n (q := 3) hX dc_L_noteAt_2 rfl rfl rfl ?_
  refine ax_iload_n (q := 4) hX dc_L_noteAt_3 rfl rfl rfl ?_
  refine ax_iload_n (q := 5) hX dc_L_noteAt_4 rfl rfl rfl ?_
  refine ax_callVX (q := 8) (vs := [.int x1, .int x2]) (rest := [.int 0, .ref ob]) hX dc_L_noteAt_5 rfl mt_K_noteAt wl_L_51 wi_K_noteAt ws_K_noteAt hu rfl hM rfl (by decide) rfl (Nat.le_of_ble_eq_true rfl) (by decide) (by decide) (fun r S2 I2 R2 L2 hr hold => ?_) (fun E S2 I2 R2 L2 hr hold => ?_)
  · obtain ⟨e, e2, e3, e4, e5⟩ := hr
    rw [e2, e3, e4, e5]
    cases o with
    | inr E => cases e
    | inl v =>
      cases e
      cases hk
      show ax_W X 5 8 [some (.ref u), some (.int x1), some (.int x2), some (.ref ob), none] [.int v, .int 0, .ref ob] S I' R' L _ _
      refine ax_i2l (q := 9) hX dc_L_noteAt_8 rfl rfl ?_
      refine ax_last (q := 10) hX 0 dc_L_noteAt_9 rfl ho rfl (by decide) (by decide) rfl ?_
      refine ax_goto (tgt := 17) hX dc_L_noteAt_10 (by decide) ?_
      refine ax_iconst (v := 0) (q := 18) hX dc_L_noteAt_17 rfl (by decide) ?_
      exact ax_iret hX hF dc_L_noteAt_18 rfl rfl (by decide) (by decide) ax_eq.mk (by rw [hS0]; exact fun _ _ z => z)
  · obtain ⟨e, e2, e3, e4, e5⟩ := hr
    rw [e2, e3, e4, e5]
    cases o with
    | inl v => cases e
    | inr E =>
      cases e
      unfold hc_noteAt at hk
      dsimp only at hk
      by_cases z0 : E = "java/lang/IndexOutOfBoundsException"
      · rw [if_pos z0] at hk
        cases hk
        subst z0
        refine ax_catch (q := 15) hX hh [] [] rfl ⟨by decide, by decide⟩ (by decide) wq_L_23 (by decide +kernel) (fun _ h => absurd h List.not_mem_nil) (k := 4) (by decide) (Or.inl ⟨dc_L_noteAt_13, rfl⟩) rfl ?_
        refine ax_iconst (v := 1) (q := 16) hX dc_L_noteAt_15 rfl (by decide) ?_
        exact ax_iret hX hF dc_L_noteAt_16 rfl rfl (by decide) (by decide) ax_eq.mk (by rw [hS0]; exact fun _ _ z => z)
      rw [if_neg z0] at hk
      cases hk
def hc_streamAt (o : Int32 ⊕ String) : Option Int32 := match o with
  | .inl _ => some 0
  | .inr E => if E = "java/lang/IndexOutOfBoundsException" then some 1 else none
set_option maxHeartbeats 1000000 in
theorem c_L_streamAt (l : Launch) {S : ax_S} {I : ax_I} {R : ax_R} {L : ax_L} {u ob : Nat} {x1 : Int32} {o : Int32 ⊕ String} {I' : ax_I} {R' : ax_R} {k : Int32} (hu : S u = some (.inl 4)) (ho : S ob = some (.inr (1, 1))) (hM : ax_MetX l y_K_streamAt b_K_streamAt 2 (some .int) (ax_rm 6 1 6) [.ref u, .int x1] S I R L (ax_eqX o S I' R' L)) (hk : hc_streamAt o = some k) : ax_MetW l y_L_streamAt b_L_streamAt 4 (some .int) hh_streamAt (ax_rm 7 1 6) [.ref u, .int x1, .ref ob] S I R L (ax_eq (some (.int k)) S I' R' (hcL o L ob)) := by
  refine ax_enterW (own := "LossFreeToolsLaw") (by decide +kernel) rfl (ax_cats rfl) (Nat.le_of_ble_eq_true rfl) (fun X hX hF hh hS0 => ?_)
  show ax_W X 4 0 [some (.ref u), some (.int x1), some (.ref ob), none] [] S I R L 0 0
  refine ax_aload_n (q := 1) hX dc_L_streamAt_0 rfl rfl rfl ?_
  refine ax_iconst (v := 0) (q := 2) hX dc_L_streamAt_1 rfl (by decide) ?_
  refine ax_aload_n (q := 3) hX dc_L_streamAt_2 rfl rfl rfl ?_
  refine ax_iload_n (q := 4) hX dc_L_streamAt_3 rfl rfl rfl ?_
  refine ax_callVX (q := 7) (vs := [.int x1]) (rest := [.int 0, .ref ob]) hX dc_L_streamAt_4 rfl mt_K_streamAt wl_L_54 wi_K_streamAt ws_K_streamAt hu rfl hM rfl (by decide) rfl (Nat.le_of_ble_eq_true rfl) (by decide) (by decide) (fun r S2 I2 R2 L2 hr hold => ?_) (fun E S2 I2 R2 L2 hr hold => ?_)
  · obtain ⟨e, e2, e3, e4, e5⟩ := hr
    rw [e2, e3, e4, e5]
    cases o with
    | inr E => cases e
    | inl v =>
      cases e
      cases hk
      show ax_W X 4 7 [some (.ref u), some (.int x1), some (.ref ob), none] [.int v, .int 0, .ref ob] S I' R' L _ _
      refine ax_i2l (q := 8) hX dc_L_streamAt_7 rfl rfl ?_
      refine ax_last (q := 9) hX 0 dc_L_streamAt_8 rfl ho rfl (by decide) (by decide) rfl ?_
      refine ax_goto (tgt := 15) hX dc_L_streamAt_9 (by decide) ?_
      refine ax_iconst (v := 0) (q := 16) hX dc_L_streamAt_15 rfl (by decide) ?_
      exact ax_iret hX hF dc_L_streamAt_16 rfl rfl (by decide) (by decide) ax_eq.mk (by rw [hS0]; exact fun _ _ z => z)
  · obtain ⟨e, e2, e3, e4, e5⟩ := hr
    rw [e2, e3, e4, e5]
    cases o with
    | inl v => cases e
    | inr E =>
      cases e
      unfold hc_streamAt at hk
      dsimp only at hk
      by_cases z0 : E = "java/lang/IndexOutOfBoundsException"
      · rw [if_pos z0] at hk
        cases hk
        subst z0
        refine ax_catch (q := 13) hX hh [] [] rfl ⟨by decide, by decide⟩ (by decide) wq_L_23 (by decide +kernel) (fun _ h => absurd h List.not_mem_nil) (k := 3) (by decide) (Or.inr ⟨⟨_, dc_L_streamAt_12, rfl⟩, rfl⟩) rfl ?_
        refine ax_iconst (v := 1) (q := 14) hX dc_L_streamAt_13 rfl (by decide) ?_
        exact ax_iret hX hF dc_L_streamAt_14 rfl rfl (by decide) (by decide) ax_eq.mk (by rw [hS0]; exact fun _ _ z => z)
      rw [if_neg z0] at hk
      cases hk
def hc_pointer (o : Int32 ⊕ String) : Option Int32 := match o with
  | .inl _ => some 0
  | .inr E => if E = "java/lang/IndexOutOfBoundsException" then some 1 else none
set_option maxHeartbeats 1000000 in
theorem c_L_pointer (l : Launch) {S : ax_S} {I : ax_I} {R : ax_R} {L : ax_L} {u ob : Nat} {x1 : Int32} {o : Int32 ⊕ String} {I' : ax_I} {R' : ax_R} {k : Int32} (hu : S u = some (.inl 4)) (ho : S ob = some (.inr (1, 1))) (hM : ax_MetX l y_K_pointer b_K_pointer 2 (some .int) (ax_rm 6 1 6) [.ref u, .int x1] S I R L (ax_eqX o S I' R' L)) (hk : hc_pointer o = some k) : ax_MetW l y_L_pointer b_L_pointer 4 (some .int) hh_pointer (ax_rm 7 1 6) [.ref u, .int x1, .ref ob] S I R L (ax_eq (some (.int k)) S I' R' (hcL o L ob)) := by
  refine ax_enterW (own := "LossFreeToolsLaw") (by decide +kernel) rfl (ax_cats rfl) (Nat.le_of_ble_eq_true rfl) (fun X hX hF hh hS0 => ?_)
  show ax_W X 4 0 [some (.ref u), some (.int x1), some (.ref ob), none] [] S I R L 0 0
  refine ax_aload_n (q := 1) hX dc_L_pointer_0 rfl rfl rfl ?_
  refine ax_iconst (v := 0) (q := 2) hX dc_L_pointer_1 rfl (by decide) ?_
  refine ax_aload_n (q := 3) hX dc_L_pointer_2 rfl rfl rfl ?_
  refine ax_iload_n (q := 4) hX dc_L_pointer_3 rfl rfl rfl ?_
  refine ax_callVX (q := 7) (vs := [.int x1]) (rest := [.int 0, .ref ob]) hX dc_L_pointer_4 rfl mt_K_pointer wl_L_57 wi_K_pointer ws_K_pointer hu rfl hM rfl (by decide) rfl (Nat.le_of_ble_eq_true rfl) (by decide) (by decide) (fun r S2 I2 R2 L2 hr hold => ?_) (fun E S2 I2 R2 L2 hr hold => ?_)
  · obtain ⟨e, e2, e3, e4, e5⟩ := hr
    rw [e2, e3, e4, e5]
    cases o with
    | inr E => cases e
    | inl v =>
      cases e
      cases hk
      show ax_W X 4 7 [some (.ref u), some (.int x1), some (.ref ob), none] [.int v, .int 0, .ref ob] S I' R' L _ _
      refine ax_i2l (q := 8) hX dc_L_pointer_7 rfl rfl ?_
      refine ax_last (q := 9) hX 0 dc_L_pointer_8 rfl ho rfl (by decide) (by decide) rfl ?_
      refine ax_goto (tgt := 15) hX dc_L_pointer_9 (by decide) ?_
      refine ax_iconst (v := 0) (q := 16) hX dc_L_pointer_15 rfl (by decide) ?_
      exact ax_iret hX hF dc_L_pointer_16 rfl rfl (by decide) (by decide) ax_eq.mk (by rw [hS0]; exact fun _ _ z => z)
  · obtain ⟨e, e2, e3, e4, e5⟩ := hr
    rw [e2, e3, e4, e5]
    cases o with
    | inl v => cases e
    | inr E =>
      cases e
      unfold hc_pointer at hk
      dsimp only at hk
      by_cases z0 : E = "java/lang/IndexOutOfBoundsException"
      · rw [if_pos z0] at hk
        cases hk
        subst z0
        refine ax_catch (q := 13) hX hh [] [] rfl ⟨by decide, by decide⟩ (by decide) wq_L_23 (by decide +kernel) (fun _ h => absurd h List.not_mem_nil) (k := 3) (by decide) (Or.inr ⟨⟨_, dc_L_pointer_12, rfl⟩, rfl⟩) rfl ?_
        refine ax_iconst (v := 1) (q := 14) hX dc_L_pointer_13 rfl (by decide) ?_
        exact ax_iret hX hF dc_L_pointer_14 rfl rfl (by decide) (by decide) ax_eq.mk (by rw [hS0]; exact fun _ _ z => z)
      rw [if_neg z0] at hk
      cases hk
def scv (n : Nat) (sc : Nat → Int32) (k : Nat) : Int32 := if k < n then sc k else 0
theorem c_L_cell (l : Launch) {G : ax_G} {S : ax_S} {I : ax_I} {R : ax_R} {L : ax_L} {b n k : Nat} {sc : Nat → Int32} (hs : ax_scrG G b n sc) (hn : n < 2 ^ 31) (hk : k < 2 ^ 31) : ax_Met1 G l y_L_cell b_L_cell 2 (some .int) (ax_rm 1 0 0) [.retAddr b, .int (nI k)] S I R L (ax_eq (some (.int (scv n sc k))) S I R L) := by
  refine ax_enter1 (own := "LossFreeToolsLaw") (by decide +kernel) rfl (ax_cats rfl) (Nat.le_of_ble_eq_true rfl) (fun X hX hF hG hS0 => ?_)
  rw [← hG] at hs
  show ax_W X 2 0 [some (.retAddr b), some (.int (nI k))] [] S I R L 0 0
  refine ax_iload_n (q := 1) hX dc_L_cell_0 rfl rfl rfl ?_
  refine ax_saload_n (q := 2) hX dc_L_cell_1 rfl rfl rfl ?_
  refine ax_slen (q := 3) hX hs dc_L_cell_2 rfl ?_
  refine ax_icmp_ge (tgt := 12) (q := 6) hX dc_L_cell_3 rfl (by decide) (fun z => ?_) (fun z => ?_)
  · have e : scv n sc k = 0 := by
      unfold scv
      rw [if_neg (fun h => nI_ge h hn z)]
    rw [e] at hF
    refine ax_iconst (v := 0) (q := 13) hX dc_L_cell_12 rfl (by decide) ?_
    exact ax_iret hX hF dc_L_cell_13 rfl rfl (by decide) (by decide) ax_eq.mk (by rw [hS0]; exact fun _ _ z => z)
  · have hlt : k < n := by
      rcases Nat.lt_or_ge k n with h | h
      · exact h
      · exact absurd (nI_le h hk) z
    have e : scv n sc k = sc k := by
      unfold scv
      rw [if_pos hlt]
    rw [e] at hF
    refine ax_saload_n (q := 7) hX dc_L_cell_6 rfl rfl rfl ?_
    refine ax_iload_n (q := 8) hX dc_L_cell_7 rfl rfl rfl ?_
    refine ax_sld (q := 9) hX hs k dc_L_cell_8 rfl rfl hlt hn ?_
    refine ax_goto (tgt := 13) hX dc_L_cell_9 (by decide) ?_
    exact ax_iret hX hF dc_L_cell_13 rfl rfl (by decide) (by decide) ax_eq.mk (by rw [hS0]; exact fun _ _ z => z)
