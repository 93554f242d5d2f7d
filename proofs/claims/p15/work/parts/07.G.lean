/-- what a helper of the law leaves in its row of one long -/
def hcL (o : Int32 ⊕ String) (L : ax_L) (ob : Nat) : ax_L := match o with
  | .inl v => ax_up L ob 0 v.toInt64
  | .inr _ => L
def hc_tile (o : Int32 ⊕ String) : Option Int32 := match o with
  | .inl _ => some 0
  | .inr E => if E = "java/lang/IllegalArgumentException" then some 1 else if E = "java/lang/IllegalStateException" then some 2 else if E = "java/lang/UnsupportedOperationException" then some 3 else none
set_option maxHeartbeats 1000000 in
theorem c_L_tile (l : Launch) {S : ax_S} {I : ax_I} {R : ax_R} {L : ax_L} {u ob : Nat} {x1 x2 x3 x4 : Int32} {o : Int32 ⊕ String} {I' : ax_I} {R' : ax_R} {k : Int32} (hu : S u = some (.inl 4)) (ho : S ob = some (.inr (1, 1))) (hM : ax_MetX l y_K_tile b_K_tile 5 (some .int) (ax_rm 6 1 6) [.ref u, .int x1, .int x2, .int x3, .int x4] S I R L (ax_eqX o S I' R' L)) (hk : hc_tile o = some k) : ax_MetW l y_L_tile b_L_tile 7 (some .int) hh_tile (ax_rm 7 1 6) [.ref u, .int x1, .int x2, .int x3, .int x4, .ref ob] S I R L (ax_eq (some (.int k)) S I' R' (hcL o L ob)) := by
  refine ax_enterW (own := "LossFreeToolsLaw") (by decide +kernel) rfl (ax_cats rfl) (Nat.le_of_ble_eq_true rfl) (fun X hX hF hh hS0 => ?_)
  show ax_W X 7 0 [some (.ref u), some (.int x1), some (.int x2), some (.int x3), some (.int x4), some (.ref ob), none] [] S I R L 0 0
  refine ax_aload (q := 2) hX dc_L_tile_0 rfl rfl ?_
  refine ax_iconst (v := 0) (q := 3) hX dc_L_tile_2 rfl (by decide) ?_
  refine ax_aload_n (q := 4) hX dc_L_tile_3 rfl rfl rfl ?_
  refine ax_iload_n (q := 5) hX dc_L_tile_4 rfl rfl rfl ?_
  refine ax_iload_n (q := 6) hX dc_L_tile_5 rfl rfl rfl ?_
  refine ax_iload_n (q := 7) hX dc_L_tile_6 rfl rfl rfl ?_
  refine ax_iload (q := 9) hX dc_L_tile_7 rfl rfl ?_
  refine ax_callVX (q := 12) (vs := [.int x1, .int x2, .int x3, .int x4]) (rest := [.int 0, .ref ob]) hX dc_L_tile_9 rfl mt_K_tile wl_L_7 wi_K_tile ws_K_tile hu rfl hM rfl (by decide) rfl (Nat.le_of_ble_eq_true rfl) (by decide) (by decide) (fun r S2 I2 R2 L2 hr hold => ?_) (fun E S2 I2 R2 L2 hr hold => ?_)
  · obtain ⟨e, e2, e3, e4, e5⟩ := hr
    rw [e2, e3, e4, e5]
    cases o with
    | inr E => cases e
    | inl v =>
      cases e
      cases hk
      show ax_W X 7 12 [some (.ref u), some (.int x1), some (.int x2), some (.int x3), some (.int x4), some (.ref ob), none] [.int v, .int 0, .ref ob] S I' R' L _ _
      refine ax_i2l (q := 13) hX dc_L_tile_12 rfl rfl ?_
      refine ax_last (q := 14) hX 0 dc_L_tile_13 rfl ho rfl (by decide) (by decide) rfl ?_
      refine ax_goto (tgt := 29) hX dc_L_tile_14 (by decide) ?_
      refine ax_iconst (v := 0) (q := 30) hX dc_L_tile_29 rfl (by decide) ?_
      exact ax_iret hX hF dc_L_tile_30 rfl rfl (by decide) (by decide) ax_eq.mk (by rw [hS0]; exact fun _ _ z => z)
  · obtain ⟨e, e2, e3, e4, e5⟩ := hr
    rw [e2, e3, e4, e5]
    cases o with
    | inl v => cases e
    | inr E =>
      cases e
      unfold hc_tile at hk
      dsimp only at hk
      by_cases z0 : E = "java/lang/IllegalArgumentException"
      · rw [if_pos z0] at hk
        cases hk
        subst z0
        refine ax_catch (q := 19) hX hh [] [(0, 14, 21, 15), (0, 14, 25, 17)] rfl ⟨by decide, by decide⟩ (by decide) wq_L_13 (by decide +kernel) (fun _ h => absurd h List.not_mem_nil) (k := 6) (by decide) (Or.inl ⟨dc_L_tile_17, rfl⟩) rfl ?_
        refine ax_iconst (v := 1) (q := 20) hX dc_L_tile_19 rfl (by decide) ?_
        exact ax_iret hX hF dc_L_tile_20 rfl rfl (by decide) (by decide) ax_eq.mk (by rw [hS0]; exact fun _ _ z => z)
      rw [if_neg z0] at hk
      by_cases z1 : E = "java/lang/IllegalStateException"
      · rw [if_pos z1] at hk
        cases hk
        subst z1
        refine ax_catch (q := 23) hX hh [(0, 14, 17, 13)] [(0, 14, 25, 17)] rfl ⟨by decide, by decide⟩ (by decide) wq_L_15 (by decide +kernel) (List.forall_mem_cons.mpr ⟨⟨by decide, by decide, by decide, "java/lang/IllegalArgumentException", wq_L_13, by decide +kernel⟩, fun _ h => absurd h List.not_mem_nil⟩) (k := 6) (by decide) (Or.inl ⟨dc_L_tile_21, rfl⟩) rfl ?_
        refine ax_iconst (v := 2) (q := 24) hX dc_L_tile_23 rfl (by decide) ?_
        exact ax_iret hX hF dc_L_tile_24 rfl rfl (by decide) (by decide) ax_eq.mk (by rw [hS0]; exact fun _ _ z => z)
      rw [if_neg z1] at hk
      by_cases z2 : E = "java/lang/UnsupportedOperationException"
      · rw [if_pos z2] at hk
        cases hk
        subst z2
        refine ax_catch (q := 27) hX hh [(0, 14, 17, 13), (0, 14, 21, 15)] [] rfl ⟨by decide, by decide⟩ (by decide) wq_L_17 (by decide +kernel) (List.forall_mem_cons.mpr ⟨⟨by decide, by decide, by decide, "java/lang/IllegalArgumentException", wq_L_13, by decide +kernel⟩, List.forall_mem_cons.mpr ⟨⟨by decide, by decide, by decide, "java/lang/IllegalStateException", wq_L_15, by decide +kernel⟩, fun _ h => absurd h List.not_mem_nil⟩⟩) (k := 6) (by decide) (Or.inl ⟨dc_L_tile_25, rfl⟩) rfl ?_
        refine ax_iconst (v := 3) (q := 28) hX dc_L_tile_27 rfl (by decide) ?_
        exact ax_iret hX hF dc_L_tile_28 rfl rfl (by decide) (by decide) ax_eq.mk (by rw [hS0]; exact fun _ _ z => z)
      rw [if_neg z2] at hk
      cases hk
def hc_byteOf (o : Int32 ⊕ String) : Option Int32 := match o with
  | .inl _ => some 0
  | .inr E => if E = "java/lang/IndexOutOfBoundsException" then some 1 else if E = "java/lang/IllegalArgumentException" then some 2 else if E = "java/lang/UnsupportedOperationException" then some 3 else none
set_option maxHeartbeats 1000000 in
theorem c_L_byteOf (l : Launch) {S : ax_S} {I : ax_I} {R : ax_R} {L : ax_L} {u ob : Nat} {x1 x2 : Int32} {o : Int32 ⊕ String} {I' : ax_I} {R' : ax_R} {k : Int32} (hu : S u = some (.inl 4)) (ho : S ob = some (.inr (1, 1))) (hM : ax_MetX l y_K_byteOf b_K_byteOf 4 (some .int) (ax_rm 6 1 6) [.ref u, .int x1, .int x2] S I R L (ax_eqX o S I' R' L)) (hk : hc_byteOf o = some k) : ax_MetW l y_L_byteOf b_L_byteOf 5 (some .int) hh_byteOf (ax_rm 7 1 6) [.ref u, .int x1, .int x2, .ref ob] S I R L (ax_eq (some (.int k)) S I' R' (hcL o L ob)) := by
  refine ax_enterW (own := "LossFreeToolsLaw") (by decide +kernel) rfl (ax_cats rfl) (Nat.le_of_ble_eq_true rfl) (fun X hX hF hh hS0 => ?_)
  show ax_W X 5 0 [some (.ref u), some (.int x1), some (.int x2), some (.ref ob), none] [] S I R L 0 0
  refine ax_aload_n (q := 1) hX dc_L_byteOf_0 rfl rfl rfl ?_
  refine ax_iconst (v := 0) (q := 2) hX dc_L_byteOf_1 rfl (by decide) ?_
  refine ax_aload_n (q := 3) hX dc_L_byteOf_2 rfl rfl rfl ?_
  refine ax_iload_n (q := 4) hX dc_L_byteOf_3 rfl rfl rfl ?_
  refine ax_iload_n (q := 5) hX dc_L_byteOf_4 rfl rfl rfl ?_
  refine ax_callVX (q := 8) (vs := [.int x1, .int x2]) (rest := [.int 0, .ref ob]) hX dc_L_byteOf_5 rfl mt_K_byteOf wl_L_19 wi_K_byteOf ws_K_byteOf hu rfl hM rfl (by decide) rfl (Nat.le_of_ble_eq_true rfl) (by decide) (by decide) (fun r S2 I2 R2 L2 hr hold => ?_) (fun E S2 I2 R2 L2 hr hold => ?_)
  · obtain ⟨e, e2, e3, e4, e5⟩ := hr
    rw [e2, e3, e4, e5]
    cases o with
    | inr E => cases e
    | inl v =>
      cases e
      cases hk
      show ax_W X 5 8 [some (.ref u), some (.int x1), some (.int x2), some (.ref ob), none] [.int v, .int 0, .ref ob] S I' R' L _ _
      refine ax_i2l (q := 9) hX dc_L_byteOf_8 rfl rfl ?_
      refine ax_last (q := 10) hX 0 dc_L_byteOf_9 rfl ho rfl (by decide) (by decide) rfl ?_
      refine ax_goto (tgt := 25) hX dc_L_byteOf_10 (by decide) ?_
      refine ax_iconst (v := 0) (q := 26) hX dc_L_byteOf_25 rfl (by decide) ?_
      exact ax_iret hX hF dc_L_byteOf_26 rfl rfl (by decide) (by decide) ax_eq.mk (by rw [hS0]; exact fun _ _ z => z)
  · obtain ⟨e, e2, e3, e4, e5⟩ := hr
    rw [e2, e3, e4, e5]
    cases o with
    | inl v => cases e
    | inr E =>
      cases e
      unfold hc_byteOf at hk
      dsimp only at hk
      by_cases z0 : E = "java/lang/IndexOutOfBoundsException"
      · rw [if_pos z0] at hk
        cases hk
        subst z0
        refine ax_catch (q := 15) hX hh [] [(0, 10, 17, 13), (0, 10, 21, 17)] rfl ⟨by decide, by decide⟩ (by decide) wq_L_23 (by decide +kernel) (fun _ h => absurd h List.not_mem_nil) (k := 4) (by decide) (Or.inl ⟨dc_L_byteOf_13, rfl⟩) rfl ?_
        refine ax_iconst (v := 1) (q := 16) hX dc_L_byteOf_15 rfl (by decide) ?_
        exact ax_iret hX hF dc_L_byteOf_16 rfl rfl (by decide) (by decide) ax_eq.mk (by rw [hS0]; exact fun _ _ z => z)
      rw [if_neg z0] at hk
      by_cases z1 : E = "java/lang/IllegalArgumentException"
      · rw [if_pos z1] at hk
        cases hk
        subst z1
        refine ax_catch (q := 19) hX hh [(0, 10, 13, 23)] [(0, 10, 21, 17)] rfl ⟨by decide, by decide⟩ (by decide) wq_L_13 (by decide +kernel) (List.forall_mem_cons.mpr ⟨⟨by decide, by decide, by decide, "java/lang/IndexOutOfBoundsException", wq_L_23, by decide +kernel⟩, fun _ h => absurd h List.not_mem_nil⟩) (k := 4) (by decide) (Or.inl ⟨dc_L_byteOf_17, rfl⟩) rfl ?_
        refine ax_iconst (v := 2) (q := 20) hX dc_L_byteOf_19 rfl (by decide) ?_
        exact ax_iret hX hF dc_L_byteOf_20 rfl rfl (by decide) (by decide) ax_eq.mk (by rw [hS0]; exact fun _ _ z => z)
      rw [if_neg z1] at hk
      by_cases z2 : E = "java/lang/UnsupportedOperationException"
      · rw [if_pos z2] at hk
        cases hk
        subst z2
        refine ax_catch (q := 23) hX hh [(0, 10, 13, 23), (0, 10, 17, 13)] [] rfl ⟨by decide, by decide⟩ (by decide) wq_L_17 (by decide +kernel) (List.forall_mem_cons.mpr ⟨⟨by decide, by decide, by decide, "java/lang/IndexOutOfBoundsException", wq_L_23, by decide +kernel⟩, List.forall_mem_cons.mpr ⟨⟨by decide, by decide, by decide, "java/lang/IllegalArgumentException", wq_L_13, by decide +kernel⟩, fun _ h => absurd h List.not_mem_nil⟩⟩) (k := 4) (by decide) (Or.inl ⟨dc_L_byteOf_21, rfl⟩) rfl ?_
        refine ax_iconst (v := 3) (q := 24) hX dc_L_byteOf_23 rfl (by decide) ?_
        exact ax_iret hX hF dc_L_byteOf_24 rfl rfl (by decide) (by decide) ax_eq.mk (by rw [hS0]; exact fun _ _ z => z)
      rw [if_neg z2] at hk
      cases hk
def hc_note (o : Int32 ⊕ String) : Option Int32 := match o with
  | .inl _ => some 0
  | .inr E => if E = "java/lang/IndexOutOfBoundsException" then some 1 else if E = "java/lang/IllegalArgumentException" then some 2 else if E = "java/lang/UnsupportedOperationException" then some 3 else none
set_option maxHeartbeats 1000000 in
theorem c_L_note (l : Launch) {S : ax_S} {I : ax_I} {R : ax_R} {L : ax_L} {u ob : Nat} {x1 x2 x3 : Int32} {o : Int32 ⊕ String} {I' : ax_I} {R' : ax_R} {k : Int32} (hu : S u = some (.inl 4)) (ho : S ob = some (.inr (1, 1))) (hM : ax_MetX l y_K_note b_K_note 4 (some .int) (ax_rm 6 1 6) [.ref u, .int x1, .int x2, .int x3] S I R L (ax_eqX o S I' R' L)) (hk : hc_note o = some k) : ax_MetW l y_L_note b_L_note 6 (some .int) hh_note (ax_rm 7 1 6) [.ref u, .int x1, .int x2, .int x3, .ref ob] S I R L (ax_eq (some (.int k)) S I' R' (hcL o L ob)) := by
  refine ax_enterW (own := "LossFreeToolsLaw") (by decide +kernel) rfl (ax_cats rfl) (Nat.le_of_ble_eq_true rfl) (fun X hX hF hh hS0 => ?_)
  show ax_W X 6 0 [some (.ref u), some (.int x1), some (.int x2), some (.int x3), some (.ref ob), none] [] S I R L 0 0
  refine ax_aload (q := 2) hX dc_L_note_0 rfl rfl ?_
  refine ax_iconst (v := 0) (q := 3) hX dc_L_note_2 rfl (by decide) ?_
  refine ax_aload_n (q := 4) hX dc_L_note_3 rfl rfl rfl ?_
  refine ax_iload_n (q := 5) hX dc_L_note_4 rfl rfl rfl ?_
  refine ax_iload_n (q := 6) hX dc_L_note_5 rfl rfl rfl ?_
  refine ax_iload_n (q := 7) hX dc_L_note_6 rfl rfl rfl ?_
  refine ax_callVX (q := 10) (vs := [.int x1, .int x2, .int x3]) (rest := [.int 0, .ref ob]) hX dc_L_note_7 rfl mt_K_note wl_L_25 wi_K_note ws_K_note hu rfl hM rfl (by decide) rfl (Nat.le_of_ble_eq_true rfl) (by decide) (by decide) (fun r S2 I2 R2 L2 hr hold => ?_) (fun E S2 I2 R2 L2 hr hold => ?_)
  · obtain ⟨e, e2, e3, e4, e5⟩ := hr
    rw [e2, e3, e4, e5]
    cases o with
    | inr E => cases e
    | inl v =>
      cases e
      cases hk
      show ax_W X 6 10 [some (.ref u), some (.int x1), some (.int x2), some (.int x3), some (.ref ob), none] [.int v, .int 0, .ref ob] S I' R' L _ _
      refine ax_i2l (q := 11) hX dc_L_note_10 rfl rfl ?_
      refine ax_last (q := 12) hX 0 dc_L_note_11 rfl ho rfl (by decide) (by decide) rfl ?_
      refine ax_goto (tgt := 27) hX dc_L_note_12 (by decide) ?_
      refine ax_iconst (v := 0) (q := 28) hX dc_L_note_27 rfl (by decide) ?_
      exact ax_iret hX hF dc_L_note_28 rfl rfl (by decide) (by decide) ax_eq.mk (by rw [hS0]; exact fun _ _ z => z)
  · obtain ⟨e, e2, e3, e4, e5⟩ := hr
    rw [e2, e3, e4, e5]
    cases o with
    | inl v => cases e
    | inr E =>
      cases e
      unfold hc_note at hk
      dsimp only at hk
      by_cases z0 : E = "java/lang/IndexOutOfBoundsException"
      · rw [if_pos z0] at hk
        cases hk
        subst z0
        refine ax_catch (q := 17) hX hh [] [(0, 12, 19, 13), (0, 12, 23, 17)] rfl ⟨by decide, by decide⟩ (by decide) wq_L_23 (by decide +kernel) (fun _ h => absurd h List.not_mem_nil) (k := 5) (by decide) (Or.inl ⟨dc_L_note_15, rfl⟩) rfl ?_
        refine ax_iconst (v := 1) (q := 18) hX dc_L_note_17 rfl (by decide) ?_
        exact ax_iret hX hF dc_L_note_18 rfl rfl (by decide) (by decide) ax_eq.mk (by rw [hS0]; exact fun _ _ z => z)
      rw [if_neg z0] at hk
      by_cases z1 : E = "java/lang/IllegalArgumentException"
      · rw [if_pos z1] at hk
        cases hk
        subst z1
        refine ax_catch (q := 21) hX hh [(0, 12, 15, 23)] [(0, 12, 23, 17)] rfl ⟨by decide, by decide⟩ (by decide) wq_L_13 (by decide +kernel) (List.forall_mem_cons.mpr ⟨⟨by decide, by decide, by decide, "java/lang/IndexOutOfBoundsException", wq_L_23, by decide +kernel⟩, fun _ h => absurd h List.not_mem_nil⟩) (k := 5) (by decide) (Or.inl ⟨dc_L_note_19, rfl⟩) rfl ?_
        refine ax_iconst (v := 2) (q := 22) hX dc_L_note_21 rfl (by decide) ?_
        exact ax_iret hX hF dc_L_note_22 rfl rfl (by decide) (by decide) ax_eq.mk (by rw [hS0]; exact fun _ _ z => z)
      rw [if_neg z1] at hk
      by_cases z2 : E = "java/lang/UnsupportedOperationException"
      · rw [if_pos z2] at hk
        cases hk
        subst z2
        refine ax_catch (q := 25) hX hh [(0, 12, 15, 23), (0, 12, 19, 13)] [] rfl ⟨by decide, by decide⟩ (by decide) wq_L_17 (by decide +kernel) (List.forall_mem_cons.mpr ⟨⟨by decide, by decide, by decide, "java/lang/IndexOutOfBoundsException", wq_L_23, by decide +kernel⟩, List.forall_mem_cons.mpr ⟨⟨by decide, by decide, by decide, "java/lang/IllegalArgumentException", wq_L_13, by decide +kernel⟩, fun _ h => absurd h List.not_mem_nil⟩⟩) (k := 5) (by decide) (Or.inl ⟨dc_L_note_23, rfl⟩) rfl ?_
        refine ax_iconst (v := 3) (q := 26) hX dc_L_note_25 rfl (by decide) ?_
        exact ax_iret hX hF dc_L_note_26 rfl rfl (by decide) (by decide) ax_eq.mk (by rw [hS0]; exact fun _ _ z => z)
      rw [if_neg z2] at hk
      cases hk
def hc_crop (o : Int32 ⊕ String) : Option Int32 := match o with
  | .inl _ => some 0
  | .inr E => if E = "java/lang/IllegalArgumentException" then some 1 else none
set_option maxHeartbeats 1000000 in
theorem c_L_crop (l : Launch) {S : ax_S} {I : ax_I} {R : ax_R} {L : ax_L} {u ob : Nat} {x1 x2 x3 x4 : Int32} {o : Int32 ⊕ String} {I' : ax_I} {R' : ax_R} {k : Int32} (hu : S u = some (.inl 4)) (ho : S ob = some (.inr (1, 1))) (hM : ax_MetX l y_K_crop b_K_crop 5 (some .int) (ax_rm 6 1 6) [.ref u, .int x1, .int x2, .int x3, .int x4] S I R L (ax_eqX o S I' R' L)) (hk : hc_crop o = some k) : ax_MetW l y_L_crop b_L_crop 7 (some .int) hh_crop (ax_rm 7 1 6) [.ref u, .int x1, .int x2, .int x3, .int x4, .ref ob] S I R L (ax_eq (some (.int k)) S I' R' (hcL o L ob)) := by
  refine ax_enterW (own := "LossFreeToolsLaw") (by decide +kernel) rfl (ax_cats rfl) (Nat.le_of_ble_eq_true rfl) (fun X hX hF hh hS0 => ?_)
  show ax_W X 7 0 [some (.ref u), some (.int x1), some (.int x2), some (.int x3), some (.int x4), some (.ref ob), none] [] S I R L 0 0
  refine ax_aload (q := 2) hX dc_L_crop_0 rfl rfl ?_
  refine ax_iconst (v := 0) (q := 3) hX dc_L_crop_2 rfl (by decide) ?_
  refine ax_aload_n (q := 4) hX dc_L_crop_3 rfl rfl rfl ?_
  refine ax_iload_n (q := 5) hX dc_L_crop_4 rfl rfl rfl ?_
  refine ax_iload_n (q := 6) hX dc_L_crop_5 rfl rfl rfl ?_
  refine ax_iload_n (q := 7) hX dc_L_crop_6 rfl rfl rfl ?_
  refine ax_iload (q := 9) hX dc_L_crop_7 rfl rfl ?_
  refine ax_callVX (q := 12) (vs := [.int x1, .int x2, .int x3, .int x4]) (rest := [.int 0, .ref ob]) hX dc_L_crop_9 rfl mt_K_crop wl_L_29 wi_K_crop ws_K_crop hu rfl hM rfl (by decide) rfl (Nat.le_of_ble_eq_true rfl) (by decide) (by decide) (fun r S2 I2 R2 L2 hr hold => ?_) (fun E S2 I2 R2 L2 hr hold => ?_)
  · obtain ⟨e, e2, e3, e4, e5⟩ := hr
    rw [e2, e3, e4, e5]
    cases o with
    | inr E => cases e
    | inl v =>
      cases e
      cases hk
      show ax_W X 7 12 [some (.ref u), some (.int x1), some (.int x2), some (.int x3), some (.int x4), some (.ref ob), none] [.int v, .int 0, .ref ob] S I' R' L _ _
      refine ax_i2l (q := 13) hX dc_L_crop_12 rfl rfl ?_
      refine ax_last (q := 14) hX 0 dc_L_crop_13 rfl ho rfl (by decide) (by decide) rfl ?_
      refine ax_goto (tgt := 21) hX dc_L_crop_14 (by decide) ?_
      refine ax_iconst (v := 0) (q := 22) hX dc_L_crop_21 rfl (by decide) ?_
      exact ax_iret hX hF dc_L_crop_22 rfl rfl (by decide) (by decide) ax_eq.mk (by rw [hS0]; exact fun _ _ z => z)
  · obtain ⟨e, e2, e3, e4, e5⟩ := hr
    rw [e2, e3, e4, e5]
    cases o with
    | inl v => cases e
    | inr E =>
      cases e
      unfold hc_crop at hk
      dsimp only at hk
      by_cases z0 : E = "java/lang/IllegalArgumentException"
      · rw [if_pos z0] at hk
        cases hk
        subst z0
        refine ax_catch (q := 19) hX hh [] [] rfl ⟨by decide, by decide⟩ (by decide) wq_L_13 (by decide +kernel) (fun _ h => absurd h List.not_mem_nil) (k := 6) (by decide) (Or.inl ⟨dc_L_crop_17, rfl⟩) rfl ?_
        refine ax_iconst (v := 1) (q := 20) hX dc_L_crop_19 rfl (by decide) ?_
        exact ax_iret hX hF dc_L_crop_20 rfl rfl (by decide) (by decide) ax_eq.mk (by rw [hS0]; exact fun _ _ z => z)
      rw [if_neg z0] at hk
      cases hk
def hc_near (o : Int32 ⊕ String) : Option Int32 := match o with
  | .inl _ => some 0
  | .inr E => if E = "java/lang/IndexOutOfBoundsException" then some 1 else if E = "java/lang/IllegalStateException" then some 2 else none
set_option maxHeartbeats 1000000 in
theorem c_L_near (l : Launch) {S : ax_S} {I : ax_I} {R : ax_R} {L : ax_L} {u ob : Nat} {x1 : Int32} {o : Int32 ⊕ String} {I' : ax_I} {R' : ax_R} {k : Int32} (hu : S u = some (.inl 4)) (ho : S ob = some (.inr (1, 1))) (hM : ax_MetX l y_K_near b_K_near 2 (some .int) (ax_rm 6 1 6) [.ref u, .int x1] S I R L (ax_eqX o S I' R' L)) (hk : hc_near o = some k) : ax_MetW l y_L_near b_L_near 4 (some .int) hh_near (ax_rm 7 1 6) [.ref u, .int x1, .ref ob] S I R L (ax_eq (some (.int k)) S I' R' (hcL o L ob)) := by
  refine ax_enterW (own := "LossFreeToolsLaw") (by decide +kernel) rfl (ax_cats rfl) (Nat.le_of_ble_eq_true rfl) (fun X hX hF hh hS0 => ?_)
  show ax_W X 4 0 [some (.ref u), some (.int x1), some (.ref ob), none] [] S I R L 0 0
  refine ax_aload_n (q := 1) hX dc_L_near_0 rfl rfl rfl ?_
  refine ax_iconst (v := 0) (q := 2) hX dc_L_near_1 rfl (by decide) ?_
  refine ax_aload_n (q := 3) hX dc_L_near_2 rfl rfl rfl ?_
  refine ax_iload_n (q := 4) hX dc_L_near_3 rfl rfl rfl ?_
  refine ax_callVX (q := 7) (vs := [.int x1]) (rest := [.int 0, .ref ob]) hX dc_L_near_4 rfl mt_K_near wl_L_32 wi_K_near ws_K_near hu rfl hM rfl (by decide) rfl (Nat.le_of_ble_eq_true rfl) (by decide) (by decide) (fun r S2 I2 R2 L2 hr hold => ?_) (fun E S2 I2 R2 L2 hr hold => ?_)
  · obtain ⟨e, e2, e3, e4, e5⟩ := hr
    rw [e2, e3, e4, e5]
    cases o with
    | inr E => cases e
    | inl v =>
      cases e
      cases hk
      show ax_W X 4 7 [some (.ref u), some (.int x1), some (.ref ob), none] [.int v, .int 0, .ref ob] S I' R' L _ _
      refine ax_i2l (q := 8) hX dc_L_near_7 rfl rfl ?_
      refine ax_last (q := 9) hX 0 dc_L_near_8 rfl ho rfl (by decide) (by decide) rfl ?_
      refine ax_goto (tgt := 18) hX dc_L_near_9 (by decide) ?_
      refine ax_iconst (v := 0) (q := 19) hX dc_L_near_18 rfl (by decide) ?_
      exact ax_iret hX hF dc_L_near_19 rfl rfl (by decide) (by decide) ax_eq.mk (by rw [hS0]; exact fun _ _ z => z)
  · obtain ⟨e, e2, e3, e4, e5⟩ := hr
    rw [e2, e3, e4, e5]
    cases o with
    | inl v => cases e
    | inr E =>
      cases e
      unfold hc_near at hk
      dsimp only at hk
      by_cases z0 : E = "java/lang/IndexOutOfBoundsException"
      · rw [if_pos z0] at hk
        cases hk
        subst z0
        refine ax_catch (q := 13) hX hh [] [(0, 9, 15, 15)] rfl ⟨by decide, by decide⟩ (by decide) wq_L_23 (by decide +kernel) (fun _ h => absurd h List.not_mem_nil) (k := 3) (by decide) (Or.inr ⟨⟨_, dc_L_near_12, rfl⟩, rfl⟩) rfl ?_
        refine ax_iconst (v := 1) (q := 14) hX dc_L_near_13 rfl (by decide) ?_
        exact ax_iret hX hF dc_L_near_14 rfl rfl (by decide) (by decide) ax_eq.mk (by rw [hS0]; exact fun _ _ z => z)
      rw [if_neg z0] at hk
      by_cases z1 : E = "java/lang/IllegalStateException"
      · rw [if_pos z1] at hk
        cases hk
        subst z1
        refine ax_catch (q := 16) hX hh [(0, 9, 12, 23)] [] rfl ⟨by decide, by decide⟩ (by decide) wq_L_15 (by decide +kernel) (List.forall_mem_cons.mpr ⟨⟨by decide, by decide, by decide, "java/lang/IndexOutOfBoundsException", wq_L_23, by decide +kernel⟩, fun _ h => absurd h List.not_mem_nil⟩) (k := 3) (by decide) (Or.inr ⟨⟨_, dc_L_near_15, rfl⟩, rfl⟩) rfl ?_
        refine ax_iconst (v := 2) (q := 17) hX dc_L_near_16 rfl (by decide) ?_
        exact ax_iret hX hF dc_L_near_17 rfl rfl (by decide) (by decide) ax_eq.mk (by rw [hS0]; exact fun _ _ z => z)
      rw [if_neg z1] at hk
      cases hk
def hc_turn (o : Int32 ⊕ String) : Option Int32 := match o with
  | .inl _ => some 0
  | .inr E => if E = "java/lang/IllegalArgumentException" then some 1 else none
set_option maxHeartbeats 1000000 in
theorem c_L_turn (l : Launch) {S : ax_S} {I : ax_I} {R : ax_R} {L : ax_L} {u ob : Nat} {x1 : Int32} {o : Int32 ⊕ String} {I' : ax_I} {R' : ax_R} {k : Int32} (hu : S u = some (.inl 4)) (ho : S ob = some (.inr (1, 1))) (hM : ax_MetX l y_K_turn b_K_turn 2 (some .int) (ax_rm 6 1 6) [.ref u, .int x1] S I R L (ax_eqX o S I' R' L)) (hk : hc_turn o = some k) : ax_MetW l y_L_turn b_L_turn 4 (some .int) hh_turn (ax_rm 7 1 6) [.ref u, .int x1, .ref ob] S I R L (ax_eq (some (.int k)) S I' R' (hcL o L ob)) := by
  refine ax_enterW (own := "LossFreeToolsLaw") (by decide +kernel) rfl (ax_cats rfl) (Nat.le_of_ble_eq_true rfl) (fun X hX hF hh hS0 => ?_)
  show ax_W X 4 0 [some (.ref u), some (.int x1), some (.ref ob), none] [] S I R L 0 0
  refine ax_aload_n (q := 1) hX dc_L_turn_0 rfl rfl rfl ?_
  refine ax_iconst (v := 0) (q := 2) hX dc_L_turn_1 rfl (by decide) ?_
  refine ax_aload_n (q := 3) hX dc_L_turn_2 rfl rfl rfl ?_
  refine ax_iload_n (q := 4) hX dc_L_turn_3 rfl rfl rfl ?_
  refine ax_callVX (q := 7) (vs := [.int x1]) (rest := [.int 0, .ref ob]) hX dc_L_turn_4 rfl mt_K_turn wl_L_36 wi_K_turn ws_K_turn hu rfl hM rfl (by decide) rfl (Nat.le_of_ble_eq_true rfl) (by decide) (by decide) (fun r S2 I2 R2 L2 hr hold => ?_) (fun E S2 I2 R2 L2 hr hold => ?_)
  · obtain ⟨e, e2, e3, e4, e5⟩ := hr
    rw [e2, e3, e4, e5]
    cases o with
    | inr E => cases e
    | inl v =>
      cases e
      cases hk
      show ax_W X 4 7 [some (.ref u), some (.int x1), some (.ref ob), none] [.int v, .int 0, .ref ob] S I' R' L _ _
      refine ax_i2l (q := 8) hX dc_L_turn_7 rfl rfl ?_
      refine ax_last (q := 9) hX 0 dc_L_turn_8 rfl ho rfl (by decide) (by decide) rfl ?_
      refine ax_goto (tgt := 15) hX dc_L_turn_9 (by decide) ?_
      refine ax_iconst (v := 0) (q := 16) hX dc_L_turn_15 rfl (by decide) ?_
      exact ax_iret hX hF dc_L_turn_16 rfl rfl (by decide) (by decide) ax_eq.mk (by rw [hS0]; exact fun _ _ z => z)
  · obtain ⟨e, e2, e3, e4, e5⟩ := hr
    rw [e2, e3, e4, e5]
    cases o with
    | inl v => cases e
    | inr E =>
      cases e
      unfold hc_turn at hk
      dsimp only at hk
      by_cases z0 : E = "java/lang/IllegalArgumentException"
      · rw [if_pos z0] at hk
        cases hk
        subst z0
        refine ax_catch (q := 13) hX hh [] [] rfl ⟨by decide, by decide⟩ (by decide) wq_L_13 (by decide +kernel) (fun _ h => absurd h List.not_mem_nil) (k := 3) (by decide) (Or.inr ⟨⟨_, dc_L_turn_12, rfl⟩, rfl⟩) rfl ?_
        refine ax_iconst (v := 1) (q := 14) hX dc_L_turn_13 rfl (by decide) ?_
        exact ax_iret hX hF dc_L_turn_14 rfl rfl (by decide) (by decide) ax_eq.mk (by rw [hS0]; exact fun _ _ z => z)
      rw [if_neg z0] at hk
      cases hk
def hc_join (o : Int32 ⊕ String) : Option Int32 := match o with
  | .inl _ => some 0
  | .inr E => if E = "java/lang/IndexOutOfBoundsException" then some 1 else if E = "java/lang/IllegalStateException" then some 2 else if E = "java/lang/UnsupportedOperationException" then some 3 else none
set_option maxHeartbeats 1000000 in
theorem c_L_join (l : Launch) {S : ax_S} {I : ax_I} {R : ax_R} {L : ax_L} {u ob : Nat} {x1 : Int32} {o : Int32 ⊕ String} {I' : ax_I} {R' : ax_R} {k : Int32} (hu : S u = some (.inl 4)) (ho : S ob = some (.inr (1, 1))) (hM : ax_MetX l y_K_join b_K_join 3 (some .int) (ax_rm 6 1 6) [.ref u, .int x1] S I R L (ax_eqX o S I' R' L)) (hk : hc_join o = some k) : ax_MetW l y_L_join b_L_join 4 (some .int) hh_join (ax_rm 7 1 6) [.ref u, .int x1, .ref ob] S I R L (ax_eq (some (.int k)) S I' R' (hcL o L ob)) := by
  refine ax_enterW (own := "LossFreeToolsLaw") (by decide +kernel) rfl (ax_cats rfl) (Nat.le_of_ble_eq_true rfl) (fun X hX hF hh hS0 => ?_)
  show ax_W X 4 0 [some (.ref u), some (.int x1), some (.ref ob), none] [] S I R L 0 0
  refine ax_aload_n (q := 1) hX dc_L_join_0 rfl rfl rfl ?_
  refine ax_iconst (v := 0) (q := 2) hX dc_L_join_1 rfl (by decide) ?_
  refine ax_aload_n (q := 3) hX dc_L_join_2 rfl rfl rfl ?_
  refine ax_iload_n (q := 4) hX dc_L_join_3 rfl rfl rfl ?_
  refine ax_callVX (q := 7) (vs := [.int x1]) (rest := [.int 0, .ref ob]) hX dc_L_join_4 rfl mt_K_join wl_L_39 wi_K_join ws_K_join hu rfl hM rfl (by decide) rfl (Nat.le_of_ble_eq_true rfl) (by decide) (by decide) (fun r S2 I2 R2 L2 hr hold => ?_) (fun E S2 I2 R2 L2 hr hold => ?_)
  · obtain ⟨e, e2, e3, e4, e5⟩ := hr
    rw [e2, e3, e4, e5]
    cases o with
    | inr E => cases e
    | inl v =>
      cases e
      cases hk
      show ax_W X 4 7 [some (.ref u), some (.int x1), some (.ref ob), none] [.int v, .int 0, .ref ob] S I' R' L _ _
      refine ax_i2l (q := 8) hX dc_L_join_7 rfl rfl ?_
      refine ax_last (q := 9) hX 0 dc_L_join_8 rfl ho rfl (by decide) (by decide) rfl ?_
      refine ax_goto (tgt := 21) hX dc_L_join_9 (by decide) ?_
      refine ax_iconst (v := 0) (q := 22) hX dc_L_join_21 rfl (by decide) ?_
      exact ax_iret hX hF dc_L_join_22 rfl rfl (by decide) (by decide) ax_eq.mk (by rw [hS0]; exact fun _ _ z => z)
  · obtain ⟨e, e2, e3, e4, e5⟩ := hr
    rw [e2, e3, e4, e5]
    cases o with
    | inl v => cases e
    | inr E =>
      cases e
      unfold hc_join at hk
      dsimp only at hk
      by_cases z0 : E = "java/lang/IndexOutOfBoundsException"
      · rw [if_pos z0] at hk
        cases hk
        subst z0
        refine ax_catch (q := 13) hX hh [] [(0, 9, 15, 15), (0, 9, 18, 17)] rfl ⟨by decide, by decide⟩ (by decide) wq_L_23 (by decide +kernel) (fun _ h => absurd h List.not_mem_nil) (k := 3) (by decide) (Or.inr ⟨⟨_, dc_L_join_12, rfl⟩, rfl⟩) rfl ?_
        refine ax_iconst (v := 1) (q := 14) hX dc_L_join_13 rfl (by decide) ?_
        exact ax_iret hX hF dc_L_join_14 rfl rfl (by decide) (by decide) ax_eq.mk (by rw [hS0]; exact fun _ _ z => z)
      rw [if_neg z0] at hk
      by_cases z1 : E = "java/lang/IllegalStateException"
      · rw [if_pos z1] at hk
        cases hk
        subst z1
        refine ax_catch (q := 16) hX hh [(0, 9, 12, 23)] [(0, 9, 18, 17)] rfl ⟨by decide, by decide⟩ (by decide) wq_L_15 (by decide +kernel) (List.forall_mem_cons.mpr ⟨⟨by decide, by decide, by decide, "java/lang/IndexOutOfBoundsException", wq_L_23, by decide +kernel⟩, fun _ h => absurd h List.not_mem_nil⟩) (k := 3) (by decide) (Or.inr ⟨⟨_, dc_L_join_15, rfl⟩, rfl⟩) rfl ?_
        refine ax_iconst (v := 2) (q := 17) hX dc_L_join_16 rfl (by decide) ?_
        exact ax_iret hX hF dc_L_join_17 rfl rfl (by decide) (by decide) ax_eq.mk (by rw [hS0]; exact fun _ _ z => z)
      rw [if_neg z1] at hk
      by_cases z2 : E = "java/lang/UnsupportedOperationException"
      · rw [if_pos z2] at hk
        cases hk
        subst z2
        refine ax_catch (q := 19) hX hh [(0, 9, 12, 23), (0, 9, 15, 15)] [] rfl ⟨by decide, by decide⟩ (by decide) wq_L_17 (by decide +kernel) (List.forall_mem_cons.mpr ⟨⟨by decide, by decide, by decide, "java/lang/IndexOutOfBoundsException", wq_L_23, by decide +kernel⟩, List.forall_mem_cons.mpr ⟨⟨by decide, by decide, by decide, "java/lang/IllegalStateException", wq_L_15, by decide +kernel⟩, fun _ h => absurd h List.not_mem_nil⟩⟩) (k := 3) (by decide) (Or.inr ⟨⟨_, dc_L_join_18, rfl⟩, rfl⟩) rfl ?_
        refine ax_iconst (v := 3) (q := 20) hX dc_L_join_19 rfl (by decide) ?_
        exact ax_iret hX hF dc_L_join_20 rfl rfl (by decide) (by decide) ax_eq.mk (by rw [hS0]; exact fun _ _ z => z)
      rw [if_neg z2] at hk
      cases hk
def hc_at (o : Int32 ⊕ String) : Option Int32 := match o with
  | .inl _ => some 0
  | .inr E => if E = "java/lang/IndexOutOfBoundsException" then some 1 else none
set_option maxHeartbeats 1000000 in
theorem c_L_at (l : Launch) {S : ax_S} {I : ax_I} {R : ax_R} {L : ax_L} {u ob : Nat} {x1 x2 : Int32} {o : Int32 ⊕ String} {I' : ax_I} {R' : ax_R} {k : Int32} (hu : S u = some (.inl 4)) (ho : S ob = some (.inr (1, 1))) (hM : ax_MetX l y_K_at b_K_at 4 (some .int) (ax_rm 6 1 6) [.ref u, .int x1, .int x2] S I R L (ax_eqX o S I' R' L)) (hk : hc_at o = some k) : ax_MetW l y_L_at b_L_at 5 (some .int) hh_at (ax_rm 7 1 6) [.ref u, .int x1, .int x2, .ref ob] S I R L (ax_eq (some (.int k)) S I' R' (hcL o L ob)) := by
  refine ax_enterW (own := "LossFreeToolsLaw") (by decide +kernel) rfl (ax_cats rfl) (Nat.le_of_ble_eq_true rfl) (fun X hX hF hh hS0 => ?_)
  show ax_W X 5 0 [some (.ref u), some (.int x1), some (.int x2), some (.ref ob), none] [] S I R L 0 0
  refine ax_aload_n (q := 1) hX dc_L_at_0 rfl rfl rfl ?_
  refine ax_iconst (v := 0) (q := 2) hX dc_L_at_1 rfl (by decide) ?_
  refine ax_aload_n (q := 3) hX dc_L_at_2 rfl rfl rfl ?_
  refine ax_iload_n (q := 4) hX dc_L_at_3 rfl rfl rfl ?_
  refine ax_iload_n (q := 5) hX dc_L_at_4 rfl rfl rfl ?_
  refine ax_callVX (q := 8) (vs := [.int x1, .int x2]) (rest := [.int 0, .ref ob]) hX dc_L_at_5 rfl mt_K_at wl_L_42 wi_K_at ws_K_at hu rfl hM rfl (by decide) rfl (Nat.le_of_ble_eq_true rfl) (by decide) (by decide) (fun r S2 I2 R2 L2 hr hold => ?_) (fun E S2 I2 R2 L2 hr hold => ?_)
  · obtain ⟨e, e2, e3, e4, e5⟩ := hr
    rw [e2, e3, e4, e5]
    cases o with
    | inr E => cases e
    | inl v =>
      cases e
      cases hk
      show ax_W X 5 8 [some (.ref u), some (.int x1), some (.int x2), some (.ref ob), none] [.int v, .int 0, .ref ob] S I' R' L _ _
      refine ax_i2l (q := 9) hX dc_L_at_8 rfl rfl ?_
      refine ax_last (q := 10) hX 0 dc_L_at_9 rfl ho rfl (by decide) (by decide) rfl ?_
      refine ax_goto (tgt := 17) hX dc_L_at_10 (by decide) ?_
      refine ax_iconst (v := 0) (q := 18) hX dc_L_at_17 rfl (by decide) ?_
      exact ax_iret hX hF dc_L_at_18 rfl rfl (by decide) (by decide) ax_eq.mk (by rw [hS0]; exact fun _ _ z => z)
  · obtain ⟨e, e2, e3, e4, e5⟩ := hr
    rw [e2, e3, e4, e5]
    cases o with
    | inl v => cases e
    | inr E =>
      cases e
      unfold hc_at at hk
      dsimp only at hk
      by_cases z0 : E = "java/lang/IndexOutOfBoundsException"
      · rw [if_pos z0] at hk
        cases hk
        subst z0
        refine ax_catch (q := 15) hX hh [] [] rfl ⟨by decide, by decide⟩ (by decide) wq_L_23 (by decide +kernel) (fun _ h => absurd h List.not_mem_nil) (k := 4) (by decide) (Or.inl ⟨dc_L_at_13, rfl⟩) rfl ?_
        refine ax_iconst (v := 1) (q := 16) hX dc_L_at_15 rfl (by decide) ?_
        exact ax_iret hX hF dc_L_at_16 rfl rfl (by decide) (by decide) ax_eq.mk (by rw [hS0]; exact fun _ _ z => z)
      rw [if_neg z0] at hk
      cases hk
def hc_byteAt (o : Int32 ⊕ String) : Option Int32 := match o with
  | .inl _ => some 0
  | .inr E => if E = "java/lang/IndexOutOfBoundsException" then some 1 else none
set_option maxHeartbeats 1000000 in
theorem c_L_byteAt (l : Launch) {S : ax_S} {I : ax_I} {R : ax_R} {L : ax_L} {u ob : Nat} {x1 x2 : Int32} {o : Int32 ⊕ String} {I' : ax_I} {R' : ax_R} {k : Int32} (hu : S u = some (.inl 4)) (ho : S ob = some (.inr (1, 1))) (hM : ax_MetX l y_K_byteAt b_K_byteAt 4 (some .int) (ax_rm 6 1 6) [.ref u, .int x1, .int x2] S I R L (ax_eqX o S I' R' L)) (hk : hc_byteAt o = some k) : ax_MetW l y_L_byteAt b_L_byteAt 5 (some .int) hh_byteAt (ax_rm 7 1 6) [.ref u, .int x1, .int x2, .ref ob] S I R L (ax_eq (some (.int k)) S I' R' (hcL o L ob)) := by
  refine ax_enterW (own := "LossFreeToolsLaw") (by decide +kernel) rfl (ax_cats rfl) (Nat.le_of_ble_eq_true rfl) (fun X hX hF hh hS0 => ?_)
  show ax_W X 5 0 [some (.ref u), some (.int x1), some (.int x2), some (.ref ob), none] [] S I R L 0 0
  refine ax_aload_n (q := 1) hX dc_L_byteAt_0 rfl rfl rfl ?_
  refine ax_iconst (v := 0) (q := 2) hX dc_L_byteAt_1 rfl (by decide) ?_
  refine ax_aload_n (q := 3) hX dc_L_byteAt_2 rfl rfl rfl ?_
  refine ax_iload_n (q := 4) hX dc_L_byteAt_3 rfl rfl rfl ?_
  refine ax_iload_n (q := 5) hX dc_L_byteAt_4 rfl rfl rfl ?_
  refine ax_callVX (q := 8) (vs := [.int x1, .int x2]) (rest := [.int 0, .ref ob]) hX dc_L_byteAt_5 rfl mt_K_byteAt wl_L_45 wi_K_byteAt ws_K_byteAt hu rfl hM rfl (by decide) rfl (Nat.le_of_ble_eq_true rfl) (by decide) (by decide) (fun r S2 I2 R2 L2 hr hold => ?_) (fun E S2 I2 R2 L2 hr hold => ?_)
  · obtain ⟨e, e2, e3, e4, e5⟩ := hr
    rw [e2, e3, e4, e5]
    cases o with
    | inr E => cases e
    | inl v =>
      cases e
      cases hk
      show ax_W X 5 8 [some (.ref u), some (.int x1), some (.int x2), some (.ref ob), none] [.int v, .int 0, .ref ob] S I' R' L _ _
      refine ax_i2l (q := 9) hX dc_L_byteAt_8 rfl rfl ?_
      refine ax_last (q := 10) hX 0 dc_L_byteAt_9 rfl ho rfl (by decide) (by decide) rfl ?_
      refine ax_goto (tgt := 17) hX dc_L_byteAt_10 (by decide) ?_
      refine ax_iconst (v := 0) (q := 18) hX dc_L_byteAt_17 rfl (by decide) ?_
      exact ax_iret hX hF dc_L_byteAt_18 rfl rfl (by decide) (by decide) ax_eq.mk (by rw [hS0]; exact fun _ _ z => z)
  · obtain ⟨e, e2, e3, e4, e5⟩ := hr
    rw [e2, e3, e4, e5]
    cases o with
    | inl v => cases e
    | inr E =>
      cases e
      unfold hc_byteAt at hk
      dsimp only at hk
      by_cases z0 : E = "java/lang/IndexOutOfBoundsException"
      · rw [if_pos z0] at hk
        cases hk
        subst z0
        refine ax_catch (q := 15) hX hh [] [] rfl ⟨by decide, by decide⟩ (by decide) wq_L_23 (by decide +kernel) (fun _ h => absurd h List.not_mem_nil) (k := 4) (by decide) (Or.inl ⟨dc_L_byteAt_13, rfl⟩) rfl ?_
        refine ax_iconst (v := 1) (q := 16) hX dc_L_byteAt_15 rfl (by decide) ?_
        exact ax_iret hX hF dc_L_byteAt_16 rfl rfl (by decide) (by decide) ax_eq.mk (by rw [hS0]; exact fun _ _ z => z)
      rw [if_neg z0] at hk
      cases hk
def hc_shown (o : Int32 ⊕ String) : Option Int32 := match o with
  | .inl _ => some 0
  | .inr E => if E = "java/lang/IndexOutOfBoundsException" then some 1 else none
set_option maxHeartbeats 1000000 in
theorem c_L_shown (l : Launch) {S : ax_S} {I : ax_I} {R : ax_R} {L : ax_L} {u ob : Nat} {x1 x2 : Int32} {o : Int32 ⊕ String} {I' : ax_I} {R' : ax_R} {k : Int32} (hu : S u = some (.inl 4)) (ho : S ob = some (.inr (1, 1))) (hM : ax_MetX l y_K_shown b_K_shown 4 (some .int) (ax_rm 6 1 6) [.ref u, .int x1, .int x2] S I R L (ax_eqX o S I' R' L)) (hk : hc_shown o = some k) : ax_MetW l y_L_shown b_L_shown 5 (some .int) hh_shown (ax_rm 7 1 6) [.ref u, .int x1, .int x2, .ref ob] S I R L (ax_eq (some (.int k)) S I' R' (hcL o L ob)) := by
  refine ax_enterW (own := "LossFreeToolsLaw") (by decide +kernel) rfl (ax_cats rfl) (Nat.le_of_ble_eq_true rfl) (fun X hX hF hh hS0 => ?_)
  show ax_W X 5 0 [some (.ref u), some (.int x1), some (.int x2), some (.ref ob), none] [] S I R L 0 0
  refine ax_aload_n (q := 1) hX dc_L_shown_0 rfl rfl rfl ?_
  refine ax_iconst (v := 0) (q := 2) hX dc_L_shown_1 rfl (by decide) ?_
  refine ax_aload_n (q := 3) hX dc_L_shown_2 rfl rfl rfl ?_
  refine ax_iload_n (q := 4) hX dc_L_shown_3 rfl rfl rfl ?_
  refine ax_iload_n (q := 5) hX dc_L_shown_4 rfl rfl rfl ?_
  refine ax_callVX (q := 8) (vs := [.int x1, .int x2]) (rest := [.int 0, .ref ob]) hX dc_L_shown_5 rfl mt_K_shown wl_L_48 wi_K_shown ws_K_shown hu rfl hM rfl (by decide) rfl (Nat.le_of_ble_eq_true rfl) (by decide) (by decide) (fun r S2 I2 R2 L2 hr hold => ?_) (fun E S2 I2 R2 L2 hr hold => ?_)
  · obtain ⟨e, e2, e3, e4, e5⟩ := hr
    rw [e2, e3, e4, e5]
    cases o with
    | inr E => cases e
    | inl v =>
      cases e
      cases hk
      show ax_W X 5 8 [some (.ref u), some (.int x1), some (.int x2), some (.ref ob), none] [.int v, .int 0, .ref ob] S I' R' L _ _
      refine ax_i2l (q := 9) hX dc_L_shown_8 rfl rfl ?_
      refine ax_last (q := 10) hX 0 dc_L_shown_9 rfl ho rfl (by decide) (by decide) rfl ?_
      refine ax_goto (tgt := 17) hX dc_L_shown_10 (by decide) ?_
      refine ax_iconst (v := 0) (q := 18) hX dc_L_shown_17 rfl (by decide) ?_
      exact ax_iret hX hF dc_L_shown_18 rfl rfl (by decide) (by decide) ax_eq.mk (by rw [hS0]; exact fun _ _ z => z)
  · obtain ⟨e, e2, e3, e4, e5⟩ := hr
    rw [e2, e3, e4, e5]
    cases o with
    | inl v => cases e
    | inr E =>
      cases e
      unfold hc_shown at hk
      dsimp only at hk
      by_cases z0 : E = "java/lang/IndexOutOfBoundsException"
      · rw [if_pos z0] at hk
        cases hk
        subst z0
        refine ax_catch (q := 15) hX hh [] [] rfl ⟨by decide, by decide⟩ (by decide) wq_L_23 (by decide +kernel) (fun _ h => absurd h List.not_mem_nil) (k := 4) (by decide) (Or.inl ⟨dc_L_shown_13, rfl⟩) rfl ?_
        refine ax_iconst (v := 1) (q := 16) hX dc_L_shown_15 rfl (by decide) ?_
        exact ax_iret hX hF dc_L_shown_16 rfl rfl (by decide) (by decide) ax_eq.mk (by rw [hS0]; exact fun _ _ z => z)
      rw [if_neg z0] at hk
      cases hk
def hc_noteAt (o : Int32 ⊕ String) : Option Int32 := match o with
  | .inl _ => some 0
  | .inr E => if E = "java/lang/IndexOutOfBoundsException" then some 1 else none
set_option maxHeartbeats 1000000 in
theorem c_L_noteAt (l : Launch) {S : ax_S} {I : ax_I} {R : ax_R} {L : ax_L} {u ob : Nat} {x1 x2 : Int32} {o : Int32 ⊕ String} {I' : ax_I} {R' : ax_R} {k : Int32} (hu : S u = some (.inl 4)) (ho : S ob = some (.inr (1, 1))) (hM : ax_MetX l y_K_noteAt b_K_noteAt 4 (some .int) (ax_rm 6 1 6) [.ref u, .int x1, .int x2] S I R L (ax_eqX o S I' R' L)) (hk : hc_noteAt o = some k) : ax_MetW l y_L_noteAt b_L_noteAt 5 (some .int) hh_noteAt (ax_rm 7 1 6) [.ref u, .int x1, .int x2, .ref ob] S I R L (ax_eq (some (.int k)) S I' R' (hcL o L ob)) := by
  refine ax_enterW (own := "LossFreeToolsLaw") (by decide +kernel) rfl (ax_cats rfl) (Nat.le_of_ble_eq_true rfl) (fun X hX hF hh hS0 => ?_)
  show ax_W X 5 0 [some (.ref u), some (.int x1), some (.int x2), some (.ref ob), none] [] S I R L 0 0
  refine ax_aload_n (q := 1) hX dc_L_noteAt_0 rfl rfl rfl ?_
  refine ax_iconst (v := 0) (q := 2) hX dc_L_noteAt_1 rfl (by decide) ?_
  refine ax_aload_n (q := 3) hX dc_L_noteAt_2 rfl rfl rfl ?_
  refine ax_iload_n (q := 4) hX dc_L_noteAt_3 rfl rfl rfl ?_
  refine ax_iload_n (q := 5) hX dc_L_noteAt_4 rfl rfl rfl ?_
  refine ax_callVX (q := 8) (vs := [.int x1, .int x2]) (rest := [.int 0, .ref ob]) hX dc_L_noteAt_5 rfl mt_K_noteAt wl_L_51 wi_K_noteAt ws_K_noteAt hu rfl hM rfl (by decide) rfl (Nat.le_of_ble_eq_true rfl) (by decide) (by decide) (fun r S2 I2 R2 L2 hr hold => ?_) (fun E S2 I2 R2 L2 hr hold => ?_)
  · obtain ⟨e, e2, e3, e4, e5⟩ := hr
    rw [e2, e3, e4, e5]
    cases o with
    | inr E => cases e
    | inl v =>
      cases e
      cases hk
      show ax_W X 5 8 [some (.ref u), some (.int x1), some (.int x2), some (.ref ob), none] [.int v, .int 0, .ref ob] S I' R' L _ _
      refine ax_i2l (q := 9) hX dc_L_noteAt_8 rfl rfl ?_
      refine ax_last (q := 10) hX 0 dc_L_noteAt_9 rfl ho rfl (by decide) (by decide) rfl ?_
      refine ax_goto (tgt := 17) hX dc_L_noteAt_10 (by decide) ?_
      refine ax_iconst (v := 0) (q := 18) hX dc_L_noteAt_17 rfl (by decide) ?_
      exact ax_iret hX hF dc_L_noteAt_18 rfl rfl (by decide) (by decide) ax_eq.mk (by rw [hS0]; exact fun _ _ z => z)
  · obtain ⟨e, e2, e3, e4, e5⟩ := hr
    rw [e2, e3, e4, e5]
    cases o with
    | inl v => cases e
    | inr E =>
      cases e
      unfold hc_noteAt at hk
      dsimp only at hk
      by_cases z0 : E = "java/lang/IndexOutOfBoundsException"
      · rw [if_pos z0] at hk
        cases hk
        subst z0
        refine ax_catch (q := 15) hX hh [] [] rfl ⟨by decide, by decide⟩ (by decide) wq_L_23 (by decide +kernel) (fun _ h => absurd h List.not_mem_nil) (k := 4) (by decide) (Or.inl ⟨dc_L_noteAt_13, rfl⟩) rfl ?_
        refine ax_iconst (v := 1) (q := 16) hX dc_L_noteAt_15 rfl (by decide) ?_
        exact ax_iret hX hF dc_L_noteAt_16 rfl rfl (by decide) (by decide) ax_eq.mk (by rw [hS0]; exact fun _ _ z => z)
      rw [if_neg z0] at hk
      cases hk
def hc_streamAt (o : Int32 ⊕ String) : Option Int32 := match o with
  | .inl _ => some 0
  | .inr E => if E = "java/lang/IndexOutOfBoundsException" then some 1 else none
set_option maxHeartbeats 1000000 in
theorem c_L_streamAt (l : Launch) {S : ax_S} {I : ax_I} {R : ax_R} {L : ax_L} {u ob : Nat} {x1 : Int32} {o : Int32 ⊕ String} {I' : ax_I} {R' : ax_R} {k : Int32} (hu : S u = some (.inl 4)) (ho : S ob = some (.inr (1, 1))) (hM : ax_MetX l y_K_streamAt b_K_streamAt 2 (some .int) (ax_rm 6 1 6) [.ref u, .int x1] S I R L (ax_eqX o S I' R' L)) (hk : hc_streamAt o = some k) : ax_MetW l y_L_streamAt b_L_streamAt 4 (some .int) hh_streamAt (ax_rm 7 1 6) [.ref u, .int x1, .ref ob] S I R L (ax_eq (some (.int k)) S I' R' (hcL o L ob)) := by
  refine ax_enterW (own := "LossFreeToolsLaw") (by decide +kernel) rfl (ax_cats rfl) (Nat.le_of_ble_eq_true rfl) (fun X hX hF hh hS0 => ?_)
  show ax_W X 4 0 [some (.ref u), some (.int x1), some (.ref ob), none] [] S I R L 0 0
  refine ax_aload_n (q := 1) hX dc_L_streamAt_0 rfl rfl rfl ?_
  refine ax_iconst (v := 0) (q := 2) hX dc_L_streamAt_1 rfl (by decide) ?_
  refine ax_aload_n (q := 3) hX dc_L_streamAt_2 rfl rfl rfl ?_
  refine ax_iload_n (q := 4) hX dc_L_streamAt_3 rfl rfl rfl ?_
  refine ax_callVX (q := 7) (vs := [.int x1]) (rest := [.int 0, .ref ob]) hX dc_L_streamAt_4 rfl mt_K_streamAt wl_L_54 wi_K_streamAt ws_K_streamAt hu rfl hM rfl (by decide) rfl (Nat.le_of_ble_eq_true rfl) (by decide) (by decide) (fun r S2 I2 R2 L2 hr hold => ?_) (fun E S2 I2 R2 L2 hr hold => ?_)
  · obtain ⟨e, e2, e3, e4, e5⟩ := hr
    rw [e2, e3, e4, e5]
    cases o with
    | inr E => cases e
    | inl v =>
      cases e
      cases hk
      show ax_W X 4 7 [some (.ref u), some (.int x1), some (.ref ob), none] [.int v, .int 0, .ref ob] S I' R' L _ _
      refine ax_i2l (q := 8) hX dc_L_streamAt_7 rfl rfl ?_
      refine ax_last (q := 9) hX 0 dc_L_streamAt_8 rfl ho rfl (by decide) (by decide) rfl ?_
      refine ax_goto (tgt := 15) hX dc_L_streamAt_9 (by decide) ?_
      refine ax_iconst (v := 0) (q := 16) hX dc_L_streamAt_15 rfl (by decide) ?_
      exact ax_iret hX hF dc_L_streamAt_16 rfl rfl (by decide) (by decide) ax_eq.mk (by rw [hS0]; exact fun _ _ z => z)
  · obtain ⟨e, e2, e3, e4, e5⟩ := hr
    rw [e2, e3, e4, e5]
    cases o with
    | inl v => cases e
    | inr E =>
      cases e
      unfold hc_streamAt at hk
      dsimp only at hk
      by_cases z0 : E = "java/lang/IndexOutOfBoundsException"
      · rw [if_pos z0] at hk
        cases hk
        subst z0
        refine ax_catch (q := 13) hX hh [] [] rfl ⟨by decide, by decide⟩ (by decide) wq_L_23 (by decide +kernel) (fun _ h => absurd h List.not_mem_nil) (k := 3) (by decide) (Or.inr ⟨⟨_, dc_L_streamAt_12, rfl⟩, rfl⟩) rfl ?_
        refine ax_iconst (v := 1) (q := 14) hX dc_L_streamAt_13 rfl (by decide) ?_
        exact ax_iret hX hF dc_L_streamAt_14 rfl rfl (by decide) (by decide) ax_eq.mk (by rw [hS0]; exact fun _ _ z => z)
      rw [if_neg z0] at hk
      cases hk
def hc_pointer (o : Int32 ⊕ String) : Option Int32 := match o with
  | .inl _ => some 0
  | .inr E => if E = "java/lang/IndexOutOfBoundsException" then some 1 else none
set_option maxHeartbeats 1000000 in
theorem c_L_pointer (l : Launch) {S : ax_S} {I : ax_I} {R : ax_R} {L : ax_L} {u ob : Nat} {x1 : Int32} {o : Int32 ⊕ String} {I' : ax_I} {R' : ax_R} {k : Int32} (hu : S u = some (.inl 4)) (ho : S ob = some (.inr (1, 1))) (hM : ax_MetX l y_K_pointer b_K_pointer 2 (some .int) (ax_rm 6 1 6) [.ref u, .int x1] S I R L (ax_eqX o S I' R' L)) (hk : hc_pointer o = some k) : ax_MetW l y_L_pointer b_L_pointer 4 (some .int) hh_pointer (ax_rm 7 1 6) [.ref u, .int x1, .ref ob] S I R L (ax_eq (some (.int k)) S I' R' (hcL o L ob)) := by
  refine ax_enterW (own := "LossFreeToolsLaw") (by decide +kernel) rfl (ax_cats rfl) (Nat.le_of_ble_eq_true rfl) (fun X hX hF hh hS0 => ?_)
  show ax_W X 4 0 [some (.ref u), some (.int x1), some (.ref ob), none] [] S I R L 0 0
  refine ax_aload_n (q := 1) hX dc_L_pointer_0 rfl rfl rfl ?_
  refine ax_iconst (v := 0) (q := 2) hX dc_L_pointer_1 rfl (by decide) ?_
  refine ax_aload_n (q := 3) hX dc_L_pointer_2 rfl rfl rfl ?_
  refine ax_iload_n (q := 4) hX dc_L_pointer_3 rfl rfl rfl ?_
  refine ax_callVX (q := 7) (vs := [.int x1]) (rest := [.int 0, .ref ob]) hX dc_L_pointer_4 rfl mt_K_pointer wl_L_57 wi_K_pointer ws_K_pointer hu rfl hM rfl (by decide) rfl (Nat.le_of_ble_eq_true rfl) (by decide) (by decide) (fun r S2 I2 R2 L2 hr hold => ?_) (fun E S2 I2 R2 L2 hr hold => ?_)
  · obtain ⟨e, e2, e3, e4, e5⟩ := hr
    rw [e2, e3, e4, e5]
    cases o with
    | inr E => cases e
    | inl v =>
      cases e
      cases hk
      show ax_W X 4 7 [some (.ref u), some (.int x1), some (.ref ob), none] [.int v, .int 0, .ref ob] S I' R' L _ _
      refine ax_i2l (q := 8) hX dc_L_pointer_7 rfl rfl ?_
      refine ax_last (q := 9) hX 0 dc_L_pointer_8 rfl ho rfl (by decide) (by decide) rfl ?_
      refine ax_goto (tgt := 15) hX dc_L_pointer_9 (by decide) ?_
      refine ax_iconst (v := 0) (q := 16) hX dc_L_pointer_15 rfl (by decide) ?_
      exact ax_iret hX hF dc_L_pointer_16 rfl rfl (by decide) (by decide) ax_eq.mk (by rw [hS0]; exact fun _ _ z => z)
  · obtain ⟨e, e2, e3, e4, e5⟩ := hr
    rw [e2, e3, e4, e5]
    cases o with
    | inl v => cases e
    | inr E =>
      cases e
      unfold hc_pointer at hk
      dsimp only at hk
      by_cases z0 : E = "java/lang/IndexOutOfBoundsException"
      · rw [if_pos z0] at hk
        cases hk
        subst z0
        refine ax_catch (q := 13) hX hh [] [] rfl ⟨by decide, by decide⟩ (by decide) wq_L_23 (by decide +kernel) (fun _ h => absurd h List.not_mem_nil) (k := 3) (by decide) (Or.inr ⟨⟨_, dc_L_pointer_12, rfl⟩, rfl⟩) rfl ?_
        refine ax_iconst (v := 1) (q := 14) hX dc_L_pointer_13 rfl (by decide) ?_
        exact ax_iret hX hF dc_L_pointer_14 rfl rfl (by decide) (by decide) ax_eq.mk (by rw [hS0]; exact fun _ _ z => z)
      rw [if_neg z0] at hk
      cases hk
def scv (n : Nat) (sc : Nat → Int32) (k : Nat) : Int32 := if k < n then sc k else 0
theorem c_L_cell (l : Launch) {G : ax_G} {S : ax_S} {I : ax_I} {R : ax_R} {L : ax_L} {b n k : Nat} {sc : Nat → Int32} (hs : ax_scrG G b n sc) (hn : n < 2 ^ 31) (hk : k < 2 ^ 31) : ax_Met1 G l y_L_cell b_L_cell 2 (some .int) (ax_rm 1 0 0) [.retAddr b, .int (nI k)] S I R L (ax_eq (some (.int (scv n sc k))) S I R L) := by
  refine ax_enter1 (own := "LossFreeToolsLaw") (by decide +kernel) rfl (ax_cats rfl) (Nat.le_of_ble_eq_true rfl) (fun X hX hF hG hS0 => ?_)
  rw [← hG] at hs
  show ax_W X 2 0 [some (.retAddr b), some (.int (nI k))] [] S I R L 0 0
  refine ax_iload_n (q := 1) hX dc_L_cell_0 rfl rfl rfl ?_
  refine ax_saload_n (q := 2) hX dc_L_cell_1 rfl rfl rfl ?_
  refine ax_slen (q := 3) hX hs dc_L_cell_2 rfl ?_
  refine ax_icmp_ge (tgt := 12) (q := 6) hX dc_L_cell_3 rfl (by decide) (fun z => ?_) (fun z => ?_)
  · have e : scv n sc k = 0 := by
      unfold scv
      rw [if_neg (fun h => nI_ge h hn z)]
    rw [e] at hF
    refine ax_iconst (v := 0) (q := 13) hX dc_L_cell_12 rfl (by decide) ?_
    exact ax_iret hX hF dc_L_cell_13 rfl rfl (by decide) (by decide) ax_eq.mk (by rw [hS0]; exact fun _ _ z => z)
  · have hlt : k < n := by
      rcases Nat.lt_or_ge k n with h | h
      · exact h
      · exact absurd (nI_le h hk) z
    have e : scv n sc k = sc k := by
      unfold scv
      rw [if_pos hlt]
    rw [e] at hF
    refine ax_saload_n (q := 7) hX dc_L_cell_6 rfl rfl rfl ?_
    refine ax_iload_n (q := 8) hX dc_L_cell_7 rfl rfl rfl ?_
    refine ax_sld (q := 9) hX hs k dc_L_cell_8 rfl rfl hlt hn ?_
    refine ax_goto (tgt := 13) hX dc_L_cell_9 (by decide) ?_
    exact ax_iret hX hF dc_L_cell_13 rfl rfl (by decide) (by decide) ax_eq.mk (by rw [hS0]; exact fun _ _ z => z)
def d_L_140 (S : ax_S) (sc : Nat → Int32) (i : Nat) (I : ax_I) (R : ax_R) (L : ax_L) : Option (ax_I × ax_R × ax_L) :=
  (d_K_tile S I R 0 (sc (i + 1)) (sc (i + 2)) (sc (i + 3)) (sc (i + 4))).bind fun r1 =>
  (hc_tile r1.1).bind fun k3 =>
  (d_M_tile S r1.2 R 210 (sc (i + 1)) (sc (i + 2)) (sc (i + 3)) (sc (i + 4))).bind fun r5 =>
  some (r5.2, R, (hcL r1.1 L 227))
set_option maxHeartbeats 1000000 in
theorem e_L_140 {X : ax_X} {l : Launch} (hl0 : l.stackTraces = false) (hX : ax_ok X l "LossFreeToolsLaw" code 7 (ax_rm 10 601024 7292999)) {b n : Nat} {sc : Nat → Int32} (hscr : ax_scrG (ax_GX X) b n sc) (hn31 : n < 2 ^ 31) {S : ax_S} (hs0 : S 0 = some (.inl 4)) (hs5 : S 210 = some (.inl 5)) (hso : S 227 = some (.inr (1, 1))) {i : Nat} (hi : i + 5 ≤ n) {I : ax_I} {R : ax_R} {L : ax_L} (hty : ax_typ S R) {out : ax_I × ax_R × ax_L} (h : d_L_140 S sc i I R L = some out) {cs ss : Nat} (hc1 : cs + 1 ≤ 601024) (hs1 : ss + 6 ≤ 7292999) (kk : ∀ cs2, cs2 ≤ cs + 1 → ∀ ss2, ss2 ≤ ss + 6 → ax_W X 7 750 [some (.retAddr b), some (.ref 0), some (.ref 210), some (.ref 227), some (.int (nI i)), none, none] [] S out.1 out.2.1 out.2.2 cs2 ss2) : ax_W X 7 140 [some (.retAddr b), some (.ref 0), some (.ref 210), some (.ref 227), some (.int (nI i)), none, none] [] S I R L cs ss := by
  have hc0 : cs ≤ 601024 := Nat.le_of_succ_le hc1
  have hss0 : ss ≤ 7292999 := Nat.le_trans (Nat.le_add_right _ _) hs1
  unfold d_L_140 at h
  refine ax_aload_n (q := 141) hX dc_L_law_140 rfl rfl rfl ?_
  refine ax_saload_n (q := 142) hX dc_L_law_141 rfl rfl rfl ?_
  refine ax_iload (q := 144) hX dc_L_law_142 rfl rfl ?_
  refine ax_iconst (v := 1) (q := 145) hX dc_L_law_144 rfl (by decide) ?_
  refine ax_iadd (q := 146) hX dc_L_law_145 rfl ?_
  refine ax_sld (q := 147) hX hscr (i + 1) dc_L_law_146 rfl (nI_add i 1) (by omega) hn31 ?_
  refine ax_saload_n (q := 148) hX dc_L_law_147 rfl rfl rfl ?_
  refine ax_iload (q := 150) hX dc_L_law_148 rfl rfl ?_
  refine ax_iconst (v := 2) (q := 151) hX dc_L_law_150 rfl (by decide) ?_
  refine ax_iadd (q := 152) hX dc_L_law_151 rfl ?_
  refine ax_sld (q := 153) hX hscr (i + 2) dc_L_law_152 rfl (nI_add i 2) (by omega) hn31 ?_
  refine ax_saload_n (q := 154) hX dc_L_law_153 rfl rfl rfl ?_
  refine ax_iload (q := 156) hX dc_L_law_154 rfl rfl ?_
  refine ax_iconst (v := 3) (q := 157) hX dc_L_law_156 rfl (by decide) ?_
  refine ax_iadd (q := 158) hX dc_L_law_157 rfl ?_
  refine ax_sld (q := 159) hX hscr (i + 3) dc_L_law_158 rfl (nI_add i 3) (by omega) hn31 ?_
  refine ax_saload_n (q := 160) hX dc_L_law_159 rfl rfl rfl ?_
  refine ax_iload (q := 162) hX dc_L_law_160 rfl rfl ?_
  refine ax_iconst (v := 4) (q := 163) hX dc_L_law_162 rfl (by decide) ?_
  refine ax_iadd (q := 164) hX dc_L_law_163 rfl ?_
  refine ax_sld (q := 165) hX hscr (i + 4) dc_L_law_164 rfl (nI_add i 4) (by omega) hn31 ?_
  refine ax_aload_n (q := 166) hX dc_L_law_165 rfl rfl rfl ?_
  obtain ⟨r1, hr2, h⟩ := ax_bd h
  obtain ⟨k3, hk4, h⟩ := ax_bd h
  refine ax_callSW (q := 169) (n := 6) (vs := [.ref 0, .int (sc (i + 1)), .int (sc (i + 2)), .int (sc (i + 3)), .int (sc (i + 4)), .ref 227]) (rest := []) hX dc_L_law_166 rfl wcw_L_tile wn_LossFreeToolsLaw ⟨by decide +kernel, by decide +kernel⟩ (by decide +kernel) wl_L_72 wt_L_tile (c_L_tile l hs0 hso (c_K_tile l hl0 hty hs0 hr2) hk4) rfl (by decide) rfl (Nat.le_of_ble_eq_true rfl) hc1 hs1 (fun q0 S2 I2 R2 L2 hq0 _ => ?_)
  obtain ⟨q1, q2, q3, q4, q5⟩ := hq0
  rw [q1, q2, q3, q4, q5]
  clear q1 q2 q3 q4 q5
  show ax_W X 7 169 [some (.retAddr b), some (.ref 0), some (.ref 210), some (.ref 227), some (.int (nI i)), none, none] [.int (k3)] S r1.2 R (hcL r1.1 L 227) (cs + 1) (ss + 6)
  refine ax_istore (ls' := [some (.retAddr b), some (.ref 0), some (.ref 210), some (.ref 227), some (.int (nI i)), some (.int (k3)), none]) (q := 171) hX dc_L_law_169 rfl (by decide) rfl ?_
  refine ax_aload_n (q := 172) hX dc_L_law_171 rfl rfl rfl ?_
  refine ax_saload_n (q := 173) hX dc_L_law_172 rfl rfl rfl ?_
  refine ax_iload (q := 175) hX dc_L_law_173 rfl rfl ?_
  refine ax_iconst (v := 1) (q := 176) hX dc_L_law_175 rfl (by decide) ?_
  refine ax_iadd (q := 177) hX dc_L_law_176 rfl ?_
  refine ax_sld (q := 178) hX hscr (i + 1) dc_L_law_177 rfl (nI_add i 1) (by omega) hn31 ?_
  refine ax_saload_n (q := 179) hX dc_L_law_178 rfl rfl rfl ?_
  refine ax_iload (q := 181) hX dc_L_law_179 rfl rfl ?_
  refine ax_iconst (v := 2) (q := 182) hX dc_L_law_181 rfl (by decide) ?_
  refine ax_iadd (q := 183) hX dc_L_law_182 rfl ?_
  refine ax_sld (q := 184) hX hscr (i + 2) dc_L_law_183 rfl (nI_add i 2) (by omega) hn31 ?_
  refine ax_saload_n (q := 185) hX dc_L_law_184 rfl rfl rfl ?_
  refine ax_iload (q := 187) hX dc_L_law_185 rfl rfl ?_
  refine ax_iconst (v := 3) (q := 188) hX dc_L_law_187 rfl (by decide) ?_
  refine ax_iadd (q := 189) hX dc_L_law_188 rfl ?_
  refine ax_sld (q := 190) hX hscr (i + 3) dc_L_law_189 rfl (nI_add i 3) (by omega) hn31 ?_
  refine ax_saload_n (q := 191) hX dc_L_law_190 rfl rfl rfl ?_
  refine ax_iload (q := 193) hX dc_L_law_191 rfl rfl ?_
  refine ax_iconst (v := 4) (q := 194) hX dc_L_law_193 rfl (by decide) ?_
  refine ax_iadd (q := 195) hX dc_L_law_194 rfl ?_
  refine ax_sld (q := 196) hX hscr (i + 4) dc_L_law_195 rfl (nI_add i 4) (by omega) hn31 ?_
  obtain ⟨r5, hr6, h⟩ := ax_bd h
  refine ax_kV (vs := [.int (sc (i + 1)), .int (sc (i + 2)), .int (sc (i + 3)), .int (sc (i + 4))]) (rest := []) (q := 199) hX dc_L_law_196 rfl mt_M_tile wl_L_75 wi_M_tile ws_M_tile hs5 rfl (c_M_tile l hty hs5 hr6) rfl (by decide) rfl (Nat.le_of_ble_eq_true rfl) rfl rfl hc1 hs1 rfl ?_
  refine ax_istore (ls' := [some (.retAddr b), some (.ref 0), some (.ref 210), some (.ref 227), some (.int (nI i)), some (.int (k3)), some (.int (r5.1))]) (q := 201) hX dc_L_law_199 rfl (by decide) rfl ?_
  refine ax_goto (tgt := 750) hX dc_L_law_201 (by decide) ?_
  cases h
  exact ax_weak (ls' := [some (.retAddr b), some (.ref 0), some (.ref 210), some (.ref 227), some (.int (nI i)), none, none]) (ax_fewP_s _ _ (by repeat (first | exact trivial | (refine And.intro rfl ?_)))) (kk _ (by first | exact Nat.le_refl _ | exact Nat.le_succ _) _ (by first | exact Nat.le_refl _ | exact Nat.le_add_right _ _))
def d_L_204 (S : ax_S) (sc : Nat → Int32) (i : Nat) (I : ax_I) (R : ax_R) (L : ax_L) : Option (ax_I × ax_R × ax_L) :=
  (d_K_byteOf S I R 0 (sc (i + 1)) (sc (i + 2))).bind fun r7 =>
  (hc_byteOf r7.1).bind fun k9 =>
  (d_M_byteOf S r7.2 R 210 (sc (i + 1)) (sc (i + 2))).bind fun r11 =>
  some (r11.2, R, (hcL r7.1 L 227))
set_option maxHeartbeats 1000000 in
theorem e_L_204 {X : ax_X} {l : Launch} (hl0 : l.stackTraces = false) (hX : ax_ok X l "LossFreeToolsLaw" code 7 (ax_rm 10 601024 7292999)) {b n : Nat} {sc : Nat → Int32} (hscr : ax_scrG (ax_GX X) b n sc) (hn31 : n < 2 ^ 31) {S : ax_S} (hs0 : S 0 = some (.inl 4)) (hs5 : S 210 = some (.inl 5)) (hso : S 227 = some (.inr (1, 1))) {i : Nat} (hi : i + 5 ≤ n) {I : ax_I} {R : ax_R} {L : ax_L} (hty : ax_typ S R) {out : ax_I × ax_R × ax_L} (h : d_L_204 S sc i I R L = some out) {cs ss : Nat} (hc1 : cs + 1 ≤ 601024) (hs1 : ss + 6 ≤ 7292999) (kk : ∀ cs2, cs2 ≤ cs + 1 → ∀ ss2, ss2 ≤ ss + 6 → ax_W X 7 750 [some (.retAddr b), some (.ref 0), some (.ref 210), some (.ref 227), some (.int (nI i)), none, none] [] S out.1 out.2.1 out.2.2 cs2 ss2) : ax_W X 7 204 [some (.retAddr b), some (.ref 0), some (.ref 210), some (.ref 227), some (.int (nI i)), none, none] [] S I R L cs ss := by
  have hc0 : cs ≤ 601024 := Nat.le_of_succ_le hc1
  have hss0 : ss ≤ 7292999 := Nat.le_trans (Nat.le_add_right _ _) hs1
  unfold d_L_204 at h
  refine ax_aload_n (q := 205) hX dc_L_law_204 rfl rfl rfl ?_
  refine ax_saload_n (q := 206) hX dc_L_law_205 rfl rfl rfl ?_
  refine ax_iload (q := 208) hX dc_L_law_206 rfl rfl ?_
  refine ax_iconst (v := 1) (q := 209) hX dc_L_law_208 rfl (by decide) ?_
  refine ax_iadd (q := 210) hX dc_L_law_209 rfl ?_
  refine ax_sld (q := 211) hX hscr (i + 1) dc_L_law_210 rfl (nI_add i 1) (by omega) hn31 ?_
  refine ax_saload_n (q := 212) hX dc_L_law_211 rfl rfl rfl ?_
  refine ax_iload (q := 214) hX dc_L_law_212 rfl rfl ?_
  refine ax_iconst (v := 2) (q := 215) hX dc_L_law_214 rfl (by decide) ?_
  refine ax_iadd (q := 216) hX dc_L_law_215 rfl ?_
  refine ax_sld (q := 217) hX hscr (i + 2) dc_L_law_216 rfl (nI_add i 2) (by omega) hn31 ?_
  refine ax_aload_n (q := 218) hX dc_L_law_217 rfl rfl rfl ?_
  obtain ⟨r7, hr8, h⟩ := ax_bd h
  obtain ⟨k9, hk10, h⟩ := ax_bd h
  refine ax_callSW (q := 221) (n := 4) (vs := [.ref 0, .int (sc (i + 1)), .int (sc (i + 2)), .ref 227]) (rest := []) hX dc_L_law_218 rfl wcw_L_byteOf wn_LossFreeToolsLaw ⟨by decide +kernel, by decide +kernel⟩ (by decide +kernel) wl_L_76 wt_L_byteOf (c_L_byteOf l hs0 hso (c_K_byteOf l hl0 hty hs0 hr8) hk10) rfl (by decide) rfl (Nat.le_of_ble_eq_true rfl) hc1 hs1 (fun q0 S2 I2 R2 L2 hq0 _ => ?_)
  obtain ⟨q1, q2, q3, q4, q5⟩ := hq0
  rw [q1, q2, q3, q4, q5]
  clear q1 q2 q3 q4 q5
  show ax_W X 7 221 [some (.retAddr b), some (.ref 0), some (.ref 210), some (.ref 227), some (.int (nI i)), none, none] [.int (k9)] S r7.2 R (hcL r7.1 L 227) (cs + 1) (ss + 6)
  refine ax_istore (ls' := [some (.retAddr b), some (.ref 0), some (.ref 210), some (.ref 227), some (.int (nI i)), some (.int (k9)), none]) (q := 223) hX dc_L_law_221 rfl (by decide) rfl ?_
  refine ax_aload_n (q := 224) hX dc_L_law_223 rfl rfl rfl ?_
  refine ax_saload_n (q := 225) hX dc_L_law_224 rfl rfl rfl ?_
  refine ax_iload (q := 227) hX dc_L_law_225 rfl rfl ?_
  refine ax_iconst (v := 1) (q := 228) hX dc_L_law_227 rfl (by decide) ?_
  refine ax_iadd (q := 229) hX dc_L_law_228 rfl ?_
  refine ax_sld (q := 230) hX hscr (i + 1) dc_L_law_229 rfl (nI_add i 1) (by omega) hn31 ?_
  refine ax_saload_n (q := 231) hX dc_L_law_230 rfl rfl rfl ?_
  refine ax_iload (q := 233) hX dc_L_law_231 rfl rfl ?_
  refine ax_iconst (v := 2) (q := 234) hX dc_L_law_233 rfl (by decide) ?_
  refine ax_iadd (q := 235) hX dc_L_law_234 rfl ?_
  refine ax_sld (q := 236) hX hscr (i + 2) dc_L_law_235 rfl (nI_add i 2) (by omega) hn31 ?_
  obtain ⟨r11, hr12, h⟩ := ax_bd h
  refine ax_kV (vs := [.int (sc (i + 1)), .int (sc (i + 2))]) (rest := []) (q := 239) hX dc_L_law_236 rfl mt_M_byteOf wl_L_79 wi_M_byteOf ws_M_byteOf hs5 rfl (c_M_byteOf l hty hs5 hr12) rfl (by decide) rfl (Nat.le_of_ble_eq_true rfl) rfl rfl hc1 hs1 rfl ?_
  refine ax_istore (ls' := [some (.retAddr b), some (.ref 0), some (.ref 210), some (.ref 227), some (.int (nI i)), some (.int (k9)), some (.int (r11.1))]) (q := 241) hX dc_L_law_239 rfl (by decide) rfl ?_
  refine ax_goto (tgt := 750) hX dc_L_law_241 (by decide) ?_
  cases h
  exact ax_weak (ls' := [some (.retAddr b), some (.ref 0), some (.ref 210), some (.ref 227), some (.int (nI i)), none, none]) (ax_fewP_s _ _ (by repeat (first | exact trivial | (refine And.intro rfl ?_)))) (kk _ (by first | exact Nat.le_refl _ | exact Nat.le_succ _) _ (by first | exact Nat.le_refl _ | exact Nat.le_add_right _ _))
def d_L_244 (S : ax_S) (sc : Nat → Int32) (i : Nat) (I : ax_I) (R : ax_R) (L : ax_L) : Option (ax_I × ax_R × ax_L) :=
  (d_K_note S I R 0 (sc (i + 1)) (sc (i + 2)) (sc (i + 3))).bind fun r13 =>
  (hc_note r13.1).bind fun k15 =>
  (d_M_note S r13.2 R 210 (sc (i + 1)) (sc (i + 2)) (sc (i + 3))).bind fun r17 =>
  some (r17.2, R, (hcL r13.1 L 227))
set_option maxHeartbeats 1000000 in
theorem e_L_244 {X : ax_X} {l : Launch} (hl0 : l.stackTraces = false) (hX : ax_ok X l "LossFreeToolsLaw" code 7 (ax_rm 10 601024 7292999)) {b n : Nat} {sc : Nat → Int32} (hscr : ax_scrG (ax_GX X) b n sc) (hn31 : n < 2 ^ 31) {S : ax_S} (hs0 : S 0 = some (.inl 4)) (hs5 : S 210 = some (.inl 5)) (hso : S 227 = some (.inr (1, 1))) {i : Nat} (hi : i + 5 ≤ n) {I : ax_I} {R : ax_R} {L : ax_L} (hty : ax_typ S R) {out : ax_I × ax_R × ax_L} (h : d_L_244 S sc i I R L = some out) {cs ss : Nat} (hc1 : cs + 1 ≤ 601024) (hs1 : ss + 6 ≤ 7292999) (kk : ∀ cs2, cs2 ≤ cs + 1 → ∀ ss2, ss2 ≤ ss + 6 → ax_W X 7 750 [some (.retAddr b), some (.ref 0), some (.ref 210), some (.ref 227), some (.int (nI i)), none, none] [] S out.1 out.2.1 out.2.2 cs2 ss2) : ax_W X 7 244 [some (.retAddr b), some (.ref 0), some (.ref 210), some (.ref 227), some (.int (nI i)), none, none] [] S I R L cs ss := by
  have hc0 : cs ≤ 601024 := Nat.le_of_succ_le hc1
  have hss0 : ss ≤ 7292999 := Nat.le_trans (Nat.le_add_right _ _) hs1
  unfold d_L_244 at h
  refine ax_aload_n (q := 245) hX dc_L_law_244 rfl rfl rfl ?_
  refine ax_saload_n (q := 246) hX dc_L_law_245 rfl rfl rfl ?_
  refine ax_iload (q := 248) hX dc_L_law_246 rfl rfl ?_
  refine ax_iconst (v := 1) (q := 249) hX dc_L_law_248 rfl (by decide) ?_
  refine ax_iadd (q := 250) hX dc_L_law_249 rfl ?_
  refine ax_sld (q := 251) hX hscr (i + 1) dc_L_law_250 rfl (nI_add i 1) (by omega) hn31 ?_
  refine ax_saload_n (q := 252) hX dc_L_law_251 rfl rfl rfl ?_
  refine ax_iload (q := 254) hX dc_L_law_252 rfl rfl ?_
  refine ax_iconst (v := 2) (q := 255) hX dc_L_law_254 rfl (by decide) ?_
  refine ax_iadd (q := 256) hX dc_L_law_255 rfl ?_
  refine ax_sld (q := 257) hX hscr (i + 2) dc_L_law_256 rfl (nI_add i 2) (by omega) hn31 ?_
  refine ax_saload_n (q := 258) hX dc_L_law_257 rfl rfl rfl ?_
  refine ax_iload (q := 260) hX dc_L_law_258 rfl rfl ?_
  refine ax_iconst (v := 3) (q := 261) hX dc_L_law_260 rfl (by decide) ?_
  refine ax_iadd (q := 262) hX dc_L_law_261 rfl ?_
  refine ax_sld (q := 263) hX hscr (i + 3) dc_L_law_262 rfl (nI_add i 3) (by omega) hn31 ?_
  refine ax_aload_n (q := 264) hX dc_L_law_263 rfl rfl rfl ?_
  obtain ⟨r13, hr14, h⟩ := ax_bd h
  obtain ⟨k15, hk16, h⟩ := ax_bd h
  refine ax_callSW (q := 267) (n := 5) (vs := [.ref 0, .int (sc (i + 1)), .int (sc (i + 2)), .int (sc (i + 3)), .ref 227]) (rest := []) hX dc_L_law_264 rfl wcw_L_note wn_LossFreeToolsLaw ⟨by decide +kernel, by decide +kernel⟩ (by decide +kernel) wl_L_80 wt_L_note (c_L_note l hs0 hso (c_K_note l hl0 hty hs0 hr14) hk16) rfl (by decide) rfl (Nat.le_of_ble_eq_true rfl) hc1 hs1 (fun q0 S2 I2 R2 L2 hq0 _ => ?_)
  obtain ⟨q1, q2, q3, q4, q5⟩ := hq0
  rw [q1, q2, q3, q4, q5]
  clear q1 q2 q3 q4 q5
  show ax_W X 7 267 [some (.retAddr b), some (.ref 0), some (.ref 210), some (.ref 227), some (.int (nI i)), none, none] [.int (k15)] S r13.2 R (hcL r13.1 L 227) (cs + 1) (ss + 6)
  refine ax_istore (ls' := [some (.retAddr b), some (.ref 0), some (.ref 210), some (.ref 227), some (.int (nI i)), some (.int (k15)), none]) (q := 269) hX dc_L_law_267 rfl (by decide) rfl ?_
  refine ax_aload_n (q := 270) hX dc_L_law_269 rfl rfl rfl ?_
  refine ax_saload_n (q := 271) hX dc_L_law_270 rfl rfl rfl ?_
  refine ax_iload (q := 273) hX dc_L_law_271 rfl rfl ?_
  refine ax_iconst (v := 1) (q := 274) hX dc_L_law_273 rfl (by decide) ?_
  refine ax_iadd (q := 275) hX dc_L_law_274 rfl ?_
  refine ax_sld (q := 276) hX hscr (i + 1) dc_L_law_275 rfl (nI_add i 1) (by omega) hn31 ?_
  refine ax_saload_n (q := 277) hX dc_L_law_276 rfl rfl rfl ?_
  refine ax_iload (q := 279) hX dc_L_law_277 rfl rfl ?_
  refine ax_iconst (v := 2) (q := 280) hX dc_L_law_279 rfl (by decide) ?_
  refine ax_iadd (q := 281) hX dc_L_law_280 rfl ?_
  refine ax_sld (q := 282) hX hscr (i + 2) dc_L_law_281 rfl (nI_add i 2) (by omega) hn31 ?_
  refine ax_saload_n (q := 283) hX dc_L_law_282 rfl rfl rfl ?_
  refine ax_iload (q := 285) hX dc_L_law_283 rfl rfl ?_
  refine ax_iconst (v := 3) (q := 286) hX dc_L_law_285 rfl (by decide) ?_
  refine ax_iadd (q := 287) hX dc_L_law_286 rfl ?_
  refine ax_sld (q := 288) hX hscr (i + 3) dc_L_law_287 rfl (nI_add i 3) (by omega) hn31 ?_
  obtain ⟨r17, hr18, h⟩ := ax_bd h
  refine ax_kV (vs := [.int (sc (i + 1)), .int (sc (i + 2)), .int (sc (i + 3))]) (rest := []) (q := 291) hX dc_L_law_288 rfl mt_M_note wl_L_83 wi_M_note ws_M_note hs5 rfl (c_M_note l hty hs5 hr18) rfl (by decide) rfl (Nat.le_of_ble_eq_true rfl) rfl rfl hc1 hs1 rfl ?_
  refine ax_istore (ls' := [some (.retAddr b), some (.ref 0), some (.ref 210), some (.ref 227), some (.int (nI i)), some (.int (k15)), some (.int (r17.1))]) (q := 293) hX dc_L_law_291 rfl (by decide) rfl ?_
  refine ax_goto (tgt := 750) hX dc_L_law_293 (by decide) ?_
  cases h
  exact ax_weak (ls' := [some (.retAddr b), some (.ref 0), some (.ref 210), some (.ref 227), some (.int (nI i)), none, none]) (ax_fewP_s _ _ (by repeat (first | exact trivial | (refine And.intro rfl ?_)))) (kk _ (by first | exact Nat.le_refl _ | exact Nat.le_succ _) _ (by first | exact Nat.le_refl _ | exact Nat.le_add_right _ _))
def d_L_296 (S : ax_S) (sc : Nat → Int32) (i : Nat) (I : ax_I) (R : ax_R) (L : ax_L) : Option (ax_I × ax_R × ax_L) :=
  (d_K_crop S I R 0 (sc (i + 1)) (sc (i + 2)) (sc (i + 3)) (sc (i + 4))).bind fun r19 =>
  (hc_crop r19.1).bind fun k21 =>
  (d_M_crop S r19.2.1 r19.2.2 210 (sc (i + 1)) (sc (i + 2)) (sc (i + 3)) (sc (i + 4))).bind fun r24 =>
  some (r24.2, r19.2.2, (hcL r19.1 L 227))
set_option maxHeartbeats 1000000 in
theorem e_L_296 {X : ax_X} {l : Launch} (hl0 : l.stackTraces = false) (hX : ax_ok X l "LossFreeToolsLaw" code 7 (ax_rm 10 601024 7292999)) {b n : Nat} {sc : Nat → Int32} (hscr : ax_scrG (ax_GX X) b n sc) (hn31 : n < 2 ^ 31) {S : ax_S} (hs0 : S 0 = some (.inl 4)) (hs5 : S 210 = some (.inl 5)) (hso : S 227 = some (.inr (1, 1))) {i : Nat} (hi : i + 5 ≤ n) {I : ax_I} {R : ax_R} {L : ax_L} (hty : ax_typ S R) {out : ax_I × ax_R × ax_L} (h : d_L_296 S sc i I R L = some out) {cs ss : Nat} (hc1 : cs + 1 ≤ 601024) (hs1 : ss + 6 ≤ 7292999) (kk : ∀ cs2, cs2 ≤ cs + 1 → ∀ ss2, ss2 ≤ ss + 6 → ax_W X 7 750 [some (.retAddr b), some (.ref 0), some (.ref 210), some (.ref 227), some (.int (nI i)), none, none] [] S out.1 out.2.1 out.2.2 cs2 ss2) : ax_W X 7 296 [some (.retAddr b), some (.ref 0), some (.ref 210), some (.ref 227), some (.int (nI i)), none, none] [] S I R L cs ss := by
  have hc0 : cs ≤ 601024 := Nat.le_of_succ_le hc1
  have hss0 : ss ≤ 7292999 := Nat.le_trans (Nat.le_add_right _ _) hs1
  unfold d_L_296 at h
  refine ax_aload_n (q := 297) hX dc_L_law_296 rfl rfl rfl ?_
  refine ax_saload_n (q := 298) hX dc_L_law_297 rfl rfl rfl ?_
  refine ax_iload (q := 300) hX dc_L_law_298 rfl rfl ?_
  refine ax_iconst (v := 1) (q := 301) hX dc_L_law_300 rfl (by decide) ?_
  refine ax_iadd (q := 302) hX dc_L_law_301 rfl ?_
  refine ax_sld (q := 303) hX hscr (i + 1) dc_L_law_302 rfl (nI_add i 1) (by omega) hn31 ?_
  refine ax_saload_n (q := 304) hX dc_L_law_303 rfl rfl rfl ?_
  refine ax_iload (q := 306) hX dc_L_law_304 rfl rfl ?_
  refine ax_iconst (v := 2) (q := 307) hX dc_L_law_306 rfl (by decide) ?_
  refine ax_iadd (q := 308) hX dc_L_law_307 rfl ?_
  refine ax_sld (q := 309) hX hscr (i + 2) dc_L_law_308 rfl (nI_add i 2) (by omega) hn31 ?_
  refine ax_saload_n (q := 310) hX dc_L_law_309 rfl rfl rfl ?_
  refine ax_iload (q := 312) hX dc_L_law_310 rfl rfl ?_
  refine ax_iconst (v := 3) (q := 313) hX dc_L_law_312 rfl (by decide) ?_
  refine ax_iadd (q := 314) hX dc_L_law_313 rfl ?_
  refine ax_sld (q := 315) hX hscr (i + 3) dc_L_law_314 rfl (nI_add i 3) (by omega) hn31 ?_
  refine ax_saload_n (q := 316) hX dc_L_law_315 rfl rfl rfl ?_
  refine ax_iload (q := 318) hX dc_L_law_316 rfl rfl ?_
  refine ax_iconst (v := 4) (q := 319) hX dc_L_law_318 rfl (by decide) ?_
  refine ax_iadd (q := 320) hX dc_L_law_319 rfl ?_
  refine ax_sld (q := 321) hX hscr (i + 4) dc_L_law_320 rfl (nI_add i 4) (by omega) hn31 ?_
  refine ax_aload_n (q := 322) hX dc_L_law_321 rfl rfl rfl ?_
  obtain ⟨r19, hr20, h⟩ := ax_bd h
  obtain ⟨k21, hk22, h⟩ := ax_bd h
  refine ax_callSW (q := 325) (n := 6) (vs := [.ref 0, .int (sc (i + 1)), .int (sc (i + 2)), .int (sc (i + 3)), .int (sc (i + 4)), .ref 227]) (rest := []) hX dc_L_law_322 rfl wcw_L_crop wn_LossFreeToolsLaw ⟨by decide +kernel, by decide +kernel⟩ (by decide +kernel) wl_L_84 wt_L_crop (c_L_crop l hs0 hso (c_K_crop l hl0 hty hs0 hr20) hk22) rfl (by decide) rfl (Nat.le_of_ble_eq_true rfl) hc1 hs1 (fun q0 S2 I2 R2 L2 hq0 _ => ?_)
  obtain ⟨q1, q2, q3, q4, q5⟩ := hq0
  rw [q1, q2, q3, q4, q5]
  clear q1 q2 q3 q4 q5
  show ax_W X 7 325 [some (.retAddr b), some (.ref 0), some (.ref 210), some (.ref 227), some (.int (nI i)), none, none] [.int (k21)] S r19.2.1 r19.2.2 (hcL r19.1 L 227) (cs + 1) (ss + 6)
  have ht23 : ax_typ S r19.2.2 := t_K_crop hty hs0 hr20
  refine ax_istore (ls' := [some (.retAddr b), some (.ref 0), some (.ref 210), some (.ref 227), some (.int (nI i)), some (.int (k21)), none]) (q := 327) hX dc_L_law_325 rfl (by decide) rfl ?_
  refine ax_aload_n (q := 328) hX dc_L_law_327 rfl rfl rfl ?_
  refine ax_saload_n (q := 329) hX dc_L_law_328 rfl rfl rfl ?_
  refine ax_iload (q := 331) hX dc_L_law_329 rfl rfl ?_
  refine ax_iconst (v := 1) (q := 332) hX dc_L_law_331 rfl (by decide) ?_
  refine ax_iadd (q := 333) hX dc_L_law_332 rfl ?_
  refine ax_sld (q := 334) hX hscr (i + 1) dc_L_law_333 rfl (nI_add i 1) (by omega) hn31 ?_
  refine ax_saload_n (q := 335) hX dc_L_law_334 rfl rfl rfl ?_
  refine ax_iload (q := 337) hX dc_L_law_335 rfl rfl ?_
  refine ax_iconst (v := 2) (q := 338) hX dc_L_law_337 rfl (by decide) ?_
  refine ax_iadd (q := 339) hX dc_L_law_338 rfl ?_
  refine ax_sld (q := 340) hX hscr (i + 2) dc_L_law_339 rfl (nI_add i 2) (by omega) hn31 ?_
  refine ax_saload_n (q := 341) hX dc_L_law_340 rfl rfl rfl ?_
  refine ax_iload (q := 343) hX dc_L_law_341 rfl rfl ?_
  refine ax_iconst (v := 3) (q := 344) hX dc_L_law_343 rfl (by decide) ?_
  refine ax_iadd (q := 345) hX dc_L_law_344 rfl ?_
  refine ax_sld (q := 346) hX hscr (i + 3) dc_L_law_345 rfl (nI_add i 3) (by omega) hn31 ?_
  refine ax_saload_n (q := 347) hX dc_L_law_346 rfl rfl rfl ?_
  refine ax_iload (q := 349) hX dc_L_law_347 rfl rfl ?_
  refine ax_iconst (v := 4) (q := 350) hX dc_L_law_349 rfl (by decide) ?_
  refine ax_iadd (q := 351) hX dc_L_law_350 rfl ?_
  refine ax_sld (q := 352) hX hscr (i + 4) dc_L_law_351 rfl (nI_add i 4) (by omega) hn31 ?_
  obtain ⟨r24, hr25, h⟩ := ax_bd h
  refine ax_kV (vs := [.int (sc (i + 1)), .int (sc (i + 2)), .int (sc (i + 3)), .int (sc (i + 4))]) (rest := []) (q := 355) hX dc_L_law_352 rfl mt_M_crop wl_L_86 wi_M_crop ws_M_crop hs5 rfl (c_M_crop l ht23 hs5 hr25) rfl (by decide) rfl (Nat.le_of_ble_eq_true rfl) rfl rfl hc1 hs1 rfl ?_
  refine ax_istore (ls' := [some (.retAddr b), some (.ref 0), some (.ref 210), some (.ref 227), some (.int (nI i)), some (.int (k21)), some (.int (r24.1))]) (q := 357) hX dc_L_law_355 rfl (by decide) rfl ?_
  refine ax_goto (tgt := 750) hX dc_L_law_357 (by decide) ?_
  cases h
  exact ax_weak (ls' := [some (.retAddr b), some (.ref 0), some (.ref 210), some (.ref 227), some (.int (nI i)), none, none]) (ax_fewP_s _ _ (by repeat (first | exact trivial | (refine And.intro rfl ?_)))) (kk _ (by first | exact Nat.le_refl _ | exact Nat.le_succ _) _ (by first | exact Nat.le_refl _ | exact Nat.le_add_right _ _))
def d_L_360 (S : ax_S) (sc : Nat → Int32) (i : Nat) (I : ax_I) (R : ax_R) (L : ax_L) : Option (ax_I × ax_R × ax_L) :=
  (d_K_near S I R 0 (sc (i + 1))).bind fun r26 =>
  (hc_near r26).bind fun k28 =>
  (d_M_near S I R 210 (sc (i + 1))).bind fun r30 =>
  some (r30.2, R, (hcL r26 L 227))
set_option maxHeartbeats 1000000 in
theorem e_L_360 {X : ax_X} {l : Launch} (hl0 : l.stackTraces = false) (hX : ax_ok X l "LossFreeToolsLaw" code 7 (ax_rm 10 601024 7292999)) {b n : Nat} {sc : Nat → Int32} (hscr : ax_scrG (ax_GX X) b n sc) (hn31 : n < 2 ^ 31) {S : ax_S} (hs0 : S 0 = some (.inl 4)) (hs5 : S 210 = some (.inl 5)) (hso : S 227 = some (.inr (1, 1))) {i : Nat} (hi : i + 5 ≤ n) {I : ax_I} {R : ax_R} {L : ax_L} (hty : ax_typ S R) {out : ax_I × ax_R × ax_L} (h : d_L_360 S sc i I R L = some out) {cs ss : Nat} (hc1 : cs + 1 ≤ 601024) (hs1 : ss + 6 ≤ 7292999) (kk : ∀ cs2, cs2 ≤ cs + 1 → ∀ ss2, ss2 ≤ ss + 6 → ax_W X 7 750 [some (.retAddr b), some (.ref 0), some (.ref 210), some (.ref 227), some (.int (nI i)), none, none] [] S out.1 out.2.1 out.2.2 cs2 ss2) : ax_W X 7 360 [some (.retAddr b), some (.ref 0), some (.ref 210), some (.ref 227), some (.int (nI i)), none, none] [] S I R L cs ss := by
  have hc0 : cs ≤ 601024 := Nat.le_of_succ_le hc1
  have hss0 : ss ≤ 7292999 := Nat.le_trans (Nat.le_add_right _ _) hs1
  unfold d_L_360 at h
  refine ax_aload_n (q := 361) hX dc_L_law_360 rfl rfl rfl ?_
  refine ax_saload_n (q := 362) hX dc_L_law_361 rfl rfl rfl ?_
  refine ax_iload (q := 364) hX dc_L_law_362 rfl rfl ?_
  refine ax_iconst (v := 1) (q := 365) hX dc_L_law_364 rfl (by decide) ?_
  refine ax_iadd (q := 366) hX dc_L_law_365 rfl ?_
  refine ax_sld (q := 367) hX hscr (i + 1) dc_L_law_366 rfl (nI_add i 1) (by omega) hn31 ?_
  refine ax_aload_n (q := 368) hX dc_L_law_367 rfl rfl rfl ?_
  obtain ⟨r26, hr27, h⟩ := ax_bd h
  obtain ⟨k28, hk29, h⟩ := ax_bd h
  refine ax_callSW (q := 371) (n := 3) (vs := [.ref 0, .int (sc (i + 1)), .ref 227]) (rest := []) hX dc_L_law_368 rfl wcw_L_near wn_LossFreeToolsLaw ⟨by decide +kernel, by decide +kernel⟩ (by decide +kernel) wl_L_87 wt_L_near (c_L_near l hs0 hso (c_K_near l hl0 hty hs0 hr27) hk29) rfl (by decide) rfl (Nat.le_of_ble_eq_true rfl) hc1 hs1 (fun q0 S2 I2 R2 L2 hq0 _ => ?_)
  obtain ⟨q1, q2, q3, q4, q5⟩ := hq0
  rw [q1, q2, q3, q4, q5]
  clear q1 q2 q3 q4 q5
  show ax_W X 7 371 [some (.retAddr b), some (.ref 0), some (.ref 210), some (.ref 227), some (.int (nI i)), none, none] [.int (k28)] S I R (hcL r26 L 227) (cs + 1) (ss + 6)
  refine ax_istore (ls' := [some (.retAddr b), some (.ref 0), some (.ref 210), some (.ref 227), some (.int (nI i)), some (.int (k28)), none]) (q := 373) hX dc_L_law_371 rfl (by decide) rfl ?_
  refine ax_aload_n (q := 374) hX dc_L_law_373 rfl rfl rfl ?_
  refine ax_saload_n (q := 375) hX dc_L_law_374 rfl rfl rfl ?_
  refine ax_iload (q := 377) hX dc_L_law_375 rfl rfl ?_
  refine ax_iconst (v := 1) (q := 378) hX dc_L_law_377 rfl (by decide) ?_
  refine ax_iadd (q := 379) hX dc_L_law_378 rfl ?_
  refine ax_sld (q := 380) hX hscr (i + 1) dc_L_law_379 rfl (nI_add i 1) (by omega) hn31 ?_
  obtain ⟨r30, hr31, h⟩ := ax_bd h
  refine ax_kV (vs := [.int (sc (i + 1))]) (rest := []) (q := 383) hX dc_L_law_380 rfl mt_M_near wl_L_90 wi_M_near ws_M_near hs5 rfl (c_M_near l hty hs5 hr31) rfl (by decide) rfl (Nat.le_of_ble_eq_true rfl) rfl rfl hc1 hs1 rfl ?_
  refine ax_istore (ls' := [some (.retAddr b), some (.ref 0), some (.ref 210), some (.ref 227), some (.int (nI i)), some (.int (k28)), some (.int (r30.1))]) (q := 385) hX dc_L_law_383 rfl (by decide) rfl ?_
  refine ax_goto (tgt := 750) hX dc_L_law_385 (by decide) ?_
  cases h
  exact ax_weak (ls' := [some (.retAddr b), some (.ref 0), some (.ref 210), some (.ref 227), some (.int (nI i)), none, none]) (ax_fewP_s _ _ (by repeat (first | exact trivial | (refine And.intro rfl ?_)))) (kk _ (by first | exact Nat.le_refl _ | exact Nat.le_succ _) _ (by first | exact Nat.le_refl _ | exact Nat.le_add_right _ _))
def d_L_388 (S : ax_S) (sc : Nat → Int32) (i : Nat) (I : ax_I) (R : ax_R) (L : ax_L) : Option (ax_I × ax_R × ax_L) :=
  (d_K_turn S I R 0 (sc (i + 1))).bind fun r32 =>
  (hc_turn r32.1).bind fun k34 =>
  (d_M_turn S r32.2 R 210 (sc (i + 1))).bind fun r36 =>
  some (r36.2, R, (hcL r32.1 L 227))
set_option maxHeartbeats 1000000 in
theorem e_L_388 {X : ax_X} {l : Launch} (hl0 : l.stackTraces = false) (hX : ax_ok X l "LossFreeToolsLaw" code 7 (ax_rm 10 601024 7292999)) {b n : Nat} {sc : Nat → Int32} (hscr : ax_scrG (ax_GX X) b n sc) (hn31 : n < 2 ^ 31) {S : ax_S} (hs0 : S 0 = some (.inl 4)) (hs5 : S 210 = some (.inl 5)) (hso : S 227 = some (.inr (1, 1))) {i : Nat} (hi : i + 5 ≤ n) {I : ax_I} {R : ax_R} {L : ax_L} (hty : ax_typ S R) {out : ax_I × ax_R × ax_L} (h : d_L_388 S sc i I R L = some out) {cs ss : Nat} (hc1 : cs + 1 ≤ 601024) (hs1 : ss + 6 ≤ 7292999) (kk : ∀ cs2, cs2 ≤ cs + 1 → ∀ ss2, ss2 ≤ ss + 6 → ax_W X 7 750 [some (.retAddr b), some (.ref 0), some (.ref 210), some (.ref 227), some (.int (nI i)), none, none] [] S out.1 out.2.1 out.2.2 cs2 ss2) : ax_W X 7 388 [some (.retAddr b), some (.ref 0), some (.ref 210), some (.ref 227), some (.int (nI i)), none, none] [] S I R L cs ss := by
  have hc0 : cs ≤ 601024 := Nat.le_of_succ_le hc1
  have hss0 : ss ≤ 7292999 := Nat.le_trans (Nat.le_add_right _ _) hs1
  unfold d_L_388 at h
  refine ax_aload_n (q := 389) hX dc_L_law_388 rfl rfl rfl ?_
  refine ax_saload_n (q := 390) hX dc_L_law_389 rfl rfl rfl ?_
  refine ax_iload (q := 392) hX dc_L_law_390 rfl rfl ?_
  refine ax_iconst (v := 1) (q := 393) hX dc_L_law_392 rfl (by decide) ?_
  refine ax_iadd (q := 394) hX dc_L_law_393 rfl ?_
  refine ax_sld (q := 395) hX hscr (i + 1) dc_L_law_394 rfl (nI_add i 1) (by omega) hn31 ?_
  refine ax_aload_n (q := 396) hX dc_L_law_395 rfl rfl rfl ?_
  obtain ⟨r32, hr33, h⟩ := ax_bd h
  obtain ⟨k34, hk35, h⟩ := ax_bd h
  refine ax_callSW (q := 399) (n := 3) (vs := [.ref 0, .int (sc (i + 1)), .ref 227]) (rest := []) hX dc_L_law_396 rfl wcw_L_turn wn_LossFreeToolsLaw ⟨by decide +kernel, by decide +kernel⟩ (by decide +kernel) wl_L_91 wt_L_turn (c_L_turn l hs0 hso (c_K_turn l hl0 hty hs0 hr33) hk35) rfl (by decide) rfl (Nat.le_of_ble_eq_true rfl) hc1 hs1 (fun q0 S2 I2 R2 L2 hq0 _ => ?_)
  obtain ⟨q1, q2, q3, q4, q5⟩ := hq0
  rw [q1, q2, q3, q4, q5]
  clear q1 q2 q3 q4 q5
  show ax_W X 7 399 [some (.retAddr b), some (.ref 0), some (.ref 210), some (.ref 227), some (.int (nI i)), none, none] [.int (k34)] S r32.2 R (hcL r32.1 L 227) (cs + 1) (ss + 6)
  refine ax_istore (ls' := [some (.retAddr b), some (.ref 0), some (.ref 210), some (.ref 227), some (.int (nI i)), some (.int (k34)), none]) (q := 401) hX dc_L_law_399 rfl (by decide) rfl ?_
  refine ax_aload_n (q := 402) hX dc_L_law_401 rfl rfl rfl ?_
  refine ax_saload_n (q := 403) hX dc_L_law_402 rfl rfl rfl ?_
  refine ax_iload (q := 405) hX dc_L_law_403 rfl rfl ?_
  refine ax_iconst (v := 1) (q := 406) hX dc_L_law_405 rfl (by decide) ?_
  refine ax_iadd (q := 407) hX dc_L_law_406 rfl ?_
  refine ax_sld (q := 408) hX hscr (i + 1) dc_L_law_407 rfl (nI_add i 1) (by omega) hn31 ?_
  obtain ⟨r36, hr37, h⟩ := ax_bd h
  refine ax_kV (vs := [.int (sc (i + 1))]) (rest := []) (q := 411) hX dc_L_law_408 rfl mt_M_turn wl_L_93 wi_M_turn ws_M_turn hs5 rfl (c_M_turn l hty hs5 hr37) rfl (by decide) rfl (Nat.le_of_ble_eq_true rfl) rfl rfl hc1 hs1 rfl ?_
  refine ax_istore (ls' := [some (.retAddr b), some (.ref 0), some (.ref 210), some (.ref 227), some (.int (nI i)), some (.int (k34)), some (.int (r36.1))]) (q := 413) hX dc_L_law_411 rfl (by decide) rfl ?_
  refine ax_goto (tgt := 750) hX dc_L_law_413 (by decide) ?_
  cases h
  exact ax_weak (ls' := [some (.retAddr b), some (.ref 0), some (.ref 210), some (.ref 227), some (.int (nI i)), none, none]) (ax_fewP_s _ _ (by repeat (first | exact trivial | (refine And.intro rfl ?_)))) (kk _ (by first | exact Nat.le_refl _ | exact Nat.le_succ _) _ (by first | exact Nat.le_refl _ | exact Nat.le_add_right _ _))
def d_L_416 (S : ax_S) (sc : Nat → Int32) (i : Nat) (I : ax_I) (R : ax_R) (L : ax_L) : Option (ax_I × ax_R × ax_L) :=
  (d_K_swap S I R 0 ).bind fun r38 =>
  (d_M_swap S r38.2.1 r38.2.2 210 ).bind fun r41 =>
  some (r41.2, r38.2.2, L)
set_option maxHeartbeats 1000000 in
theorem e_L_416 {X : ax_X} {l : Launch} (hl0 : l.stackTraces = false) (hX : ax_ok X l "LossFreeToolsLaw" code 7 (ax_rm 10 601024 7292999)) {b n : Nat} {sc : Nat → Int32} (hscr : ax_scrG (ax_GX X) b n sc) (hn31 : n < 2 ^ 31) {S : ax_S} (hs0 : S 0 = some (.inl 4)) (hs5 : S 210 = some (.inl 5)) (hso : S 227 = some (.inr (1, 1))) {i : Nat} (hi : i + 5 ≤ n) {I : ax_I} {R : ax_R} {L : ax_L} (hty : ax_typ S R) {out : ax_I × ax_R × ax_L} (h : d_L_416 S sc i I R L = some out) {cs ss : Nat} (hc1 : cs + 1 ≤ 601024) (hs1 : ss + 6 ≤ 7292999) (kk : ∀ cs2, cs2 ≤ cs + 1 → ∀ ss2, ss2 ≤ ss + 6 → ax_W X 7 750 [some (.retAddr b), some (.ref 0), some (.ref 210), some (.ref 227), some (.int (nI i)), none, none] [] S out.1 out.2.1 out.2.2 cs2 ss2) : ax_W X 7 416 [some (.retAddr b), some (.ref 0), some (.ref 210), some (.ref 227), some (.int (nI i)), none, none] [] S I R L cs ss := by
  have hc0 : cs ≤ 601024 := Nat.le_of_succ_le hc1
  have hss0 : ss ≤ 7292999 := Nat.le_trans (Nat.le_add_right _ _) hs1
  unfold d_L_416 at h
  refine ax_aload_n (q := 417) hX dc_L_law_416 rfl rfl rfl ?_
  obtain ⟨r38, hr39, h⟩ := ax_bd h
  refine ax_kV (vs := []) (rest := []) (q := 420) hX dc_L_law_417 rfl mt_K_swap wl_L_94 wi_K_swap ws_K_swap hs0 rfl (c_K_swap l hty hs0 hr39) rfl (by decide) rfl (Nat.le_of_ble_eq_true rfl) rfl rfl hc0 hss0 rfl ?_
  have ht40 : ax_typ S r38.2.2 := t_K_swap hty hs0 hr39
  refine ax_pop (q := 421) hX dc_L_law_420 rfl rfl ?_
  refine ax_aload_n (q := 422) hX dc_L_law_421 rfl rfl rfl ?_
  obtain ⟨r41, hr42, h⟩ := ax_bd h
  refine ax_kV (vs := []) (rest := []) (q := 425) hX dc_L_law_422 rfl mt_M_swap wl_L_98 wi_M_swap ws_M_swap hs5 rfl (c_M_swap l ht40 hs5 hr42) rfl (by decide) rfl (Nat.le_of_ble_eq_true rfl) rfl rfl hc0 hss0 rfl ?_
  refine ax_pop (q := 426) hX dc_L_law_425 rfl rfl ?_
  refine ax_goto (tgt := 750) hX dc_L_law_426 (by decide) ?_
  cases h
  exact kk _ (by first | exact Nat.le_refl _ | exact Nat.le_succ _) _ (by first | exact Nat.le_refl _ | exact Nat.le_add_right _ _)
def d_L_429 (S : ax_S) (sc : Nat → Int32) (i : Nat) (I : ax_I) (R : ax_R) (L : ax_L) : Option (ax_I × ax_R × ax_L) :=
  (d_K_join S I R 0 (sc (i + 1))).bind fun r43 =>
  (hc_join r43.1).bind fun k45 =>
  (d_M_join S r43.2.1 r43.2.2 210 (sc (i + 1))).bind fun r48 =>
  some (r48.2, r43.2.2, (hcL r43.1 L 227))
set_option maxHeartbeats 1000000 in
theorem e_L_429 {X : ax_X} {l : Launch} (hl0 : l.stackTraces = false) (hX : ax_ok X l "LossFreeToolsLaw" code 7 (ax_rm 10 601024 7292999)) {b n : Nat} {sc : Nat → Int32} (hscr : ax_scrG (ax_GX X) b n sc) (hn31 : n < 2 ^ 31) {S : ax_S} (hs0 : S 0 = some (.inl 4)) (hs5 : S 210 = some (.inl 5)) (hso : S 227 = some (.inr (1, 1))) {i : Nat} (hi : i + 5 ≤ n) {I : ax_I} {R : ax_R} {L : ax_L} (hty : ax_typ S R) {out : ax_I × ax_R × ax_L} (h : d_L_429 S sc i I R L = some out) {cs ss : Nat} (hc1 : cs + 1 ≤ 601024) (hs1 : ss + 6 ≤ 7292999) (kk : ∀ cs2, cs2 ≤ cs + 1 → ∀ ss2, ss2 ≤ ss + 6 → ax_W X 7 750 [some (.retAddr b), some (.ref 0), some (.ref 210), some (.ref 227), some (.int (nI i)), none, none] [] S out.1 out.2.1 out.2.2 cs2 ss2) : ax_W X 7 429 [some (.retAddr b), some (.ref 0), some (.ref 210), some (.ref 227), some (.int (nI i)), none, none] [] S I R L cs ss := by
  have hc0 : cs ≤ 601024 := Nat.le_of_succ_le hc1
  have hss0 : ss ≤ 7292999 := Nat.le_trans (Nat.le_add_right _ _) hs1
  unfold d_L_429 at h
  refine ax_aload_n (q := 430) hX dc_L_law_429 rfl rfl rfl ?_
  refine ax_saload_n (q := 431) hX dc_L_law_430 rfl rfl rfl ?_
  refine ax_iload (q := 433) hX dc_L_law_431 rfl rfl ?_
  refine ax_iconst (v := 1) (q := 434) hX dc_L_law_433 rfl (by decide) ?_
  refine ax_iadd (q := 435) hX dc_L_law_434 rfl ?_
  refine ax_sld (q := 436) hX hscr (i + 1) dc_L_law_435 rfl (nI_add i 1) (by omega) hn31 ?_
  refine ax_aload_n (q := 437) hX dc_L_law_436 rfl rfl rfl ?_
  obtain ⟨r43, hr44, h⟩ := ax_bd h
  obtain ⟨k45, hk46, h⟩ := ax_bd h
  refine ax_callSW (q := 440) (n := 3) (vs := [.ref 0, .int (sc (i + 1)), .ref 227]) (rest := []) hX dc_L_law_437 rfl wcw_L_join wn_LossFreeToolsLaw ⟨by decide +kernel, by decide +kernel⟩ (by decide +kernel) wl_L_99 wt_L_join (c_L_join l hs0 hso (c_K_join l hl0 hty hs0 hr44) hk46) rfl (by decide) rfl (Nat.le_of_ble_eq_true rfl) hc1 hs1 (fun q0 S2 I2 R2 L2 hq0 _ => ?_)
  obtain ⟨q1, q2, q3, q4, q5⟩ := hq0
  rw [q1, q2, q3, q4, q5]
  clear q1 q2 q3 q4 q5
  show ax_W X 7 440 [some (.retAddr b), some (.ref 0), some (.ref 210), some (.ref 227), some (.int (nI i)), none, none] [.int (k45)] S r43.2.1 r43.2.2 (hcL r43.1 L 227) (cs + 1) (ss + 6)
  have ht47 : ax_typ S r43.2.2 := t_K_join hty hs0 hr44
  refine ax_istore (ls' := [some (.retAddr b), some (.ref 0), some (.ref 210), some (.ref 227), some (.int (nI i)), some (.int (k45)), none]) (q := 442) hX dc_L_law_440 rfl (by decide) rfl ?_
  refine ax_aload_n (q := 443) hX dc_L_law_442 rfl rfl rfl ?_
  refine ax_saload_n (q := 444) hX dc_L_law_443 rfl rfl rfl ?_
  refine ax_iload (q := 446) hX dc_L_law_444 rfl rfl ?_
  refine ax_iconst (v := 1) (q := 447) hX dc_L_law_446 rfl (by decide) ?_
  refine ax_iadd (q := 448) hX dc_L_law_447 rfl ?_
  refine ax_sld (q := 449) hX hscr (i + 1) dc_L_law_448 rfl (nI_add i 1) (by omega) hn31 ?_
  obtain ⟨r48, hr49, h⟩ := ax_bd h
  refine ax_kV (vs := [.int (sc (i + 1))]) (rest := []) (q := 452) hX dc_L_law_449 rfl mt_M_join wl_L_101 wi_M_join ws_M_join hs5 rfl (c_M_join l ht47 hs5 hr49) rfl (by decide) rfl (Nat.le_of_ble_eq_true rfl) rfl rfl hc1 hs1 rfl ?_
  refine ax_istore (ls' := [some (.retAddr b), some (.ref 0), some (.ref 210), some (.ref 227), some (.int (nI i)), some (.int (k45)), some (.int (r48.1))]) (q := 454) hX dc_L_law_452 rfl (by decide) rfl ?_
  refine ax_goto (tgt := 750) hX dc_L_law_454 (by decide) ?_
  cases h
  exact ax_weak (ls' := [some (.retAddr b), some (.ref 0), some (.ref 210), some (.ref 227), some (.int (nI i)), none, none]) (ax_fewP_s _ _ (by repeat (first | exact trivial | (refine And.intro rfl ?_)))) (kk _ (by first | exact Nat.le_refl _ | exact Nat.le_succ _) _ (by first | exact Nat.le_refl _ | exact Nat.le_add_right _ _))
def d_L_457 (S : ax_S) (sc : Nat → Int32) (i : Nat) (I : ax_I) (R : ax_R) (L : ax_L) : Option (ax_I × ax_R × ax_L) :=
  (d_K_at S I R 0 (sc (i + 1)) (sc (i + 2))).bind fun r50 =>
  (hc_at r50).bind fun k52 =>
  (d_M_at S I R 210 (sc (i + 1)) (sc (i + 2))).bind fun r54 =>
  some (r54.2, R, (hcL r50 L 227))
set_option maxHeartbeats 1000000 in
theorem e_L_457 {X : ax_X} {l : Launch} (hl0 : l.stackTraces = false) (hX : ax_ok X l "LossFreeToolsLaw" code 7 (ax_rm 10 601024 7292999)) {b n : Nat} {sc : Nat → Int32} (hscr : ax_scrG (ax_GX X) b n sc) (hn31 : n < 2 ^ 31) {S : ax_S} (hs0 : S 0 = some (.inl 4)) (hs5 : S 210 = some (.inl 5)) (hso : S 227 = some (.inr (1, 1))) {i : Nat} (hi : i + 5 ≤ n) {I : ax_I} {R : ax_R} {L : ax_L} (hty : ax_typ S R) {out : ax_I × ax_R × ax_L} (h : d_L_457 S sc i I R L = some out) {cs ss : Nat} (hc1 : cs + 1 ≤ 601024) (hs1 : ss + 6 ≤ 7292999) (kk : ∀ cs2, cs2 ≤ cs + 1 → ∀ ss2, ss2 ≤ ss + 6 → ax_W X 7 750 [some (.retAddr b), some (.ref 0), some (.ref 210), some (.ref 227), some (.int (nI i)), none, none] [] S out.1 out.2.1 out.2.2 cs2 ss2) : ax_W X 7 457 [some (.retAddr b), some (.ref 0), some (.ref 210), some (.ref 227), some (.int (nI i)), none, none] [] S I R L cs ss := by
  have hc0 : cs ≤ 601024 := Nat.le_of_succ_le hc1
  have hss0 : ss ≤ 7292999 := Nat.le_trans (Nat.le_add_right _ _) hs1
  unfold d_L_457 at h
  refine ax_aload_n (q := 458) hX dc_L_law_457 rfl rfl rfl ?_
  refine ax_saload_n (q := 459) hX dc_L_law_458 rfl rfl rfl ?_
  refine ax_iload (q := 461) hX dc_L_law_459 rfl rfl ?_
  refine ax_iconst (v := 1) (q := 462) hX dc_L_law_461 rfl (by decide) ?_
  refine ax_iadd (q := 463) hX dc_L_law_462 rfl ?_
  refine ax_sld (q := 464) hX hscr (i + 1) dc_L_law_463 rfl (nI_add i 1) (by omega) hn31 ?_
  refine ax_saload_n (q := 465) hX dc_L_law_464 rfl rfl rfl ?_
  refine ax_iload (q := 467) hX dc_L_law_465 rfl rfl ?_
  refine ax_iconst (v := 2) (q := 468) hX dc_L_law_467 rfl (by decide) ?_
  refine ax_iadd (q := 469) hX dc_L_law_468 rfl ?_
  refine ax_sld (q := 470) hX hscr (i + 2) dc_L_law_469 rfl (nI_add i 2) (by omega) hn31 ?_
  refine ax_aload_n (q := 471) hX dc_L_law_470 rfl rfl rfl ?_
  obtain ⟨r50, hr51, h⟩ := ax_bd h
  obtain ⟨k52, hk53, h⟩ := ax_bd h
  refine ax_callSW (q := 474) (n := 4) (vs := [.ref 0, .int (sc (i + 1)), .int (sc (i + 2)), .ref 227]) (rest := []) hX dc_L_law_471 rfl wcw_L_at wn_LossFreeToolsLaw ⟨by decide +kernel, by decide +kernel⟩ (by decide +kernel) wl_L_102 wt_L_at (c_L_at l hs0 hso (c_K_at l hl0 hty hs0 hr51) hk53) rfl (by decide) rfl (Nat.le_of_ble_eq_true rfl) hc1 hs1 (fun q0 S2 I2 R2 L2 hq0 _ => ?_)
  obtain ⟨q1, q2, q3, q4, q5⟩ := hq0
  rw [q1, q2, q3, q4, q5]
  clear q1 q2 q3 q4 q5
  show ax_W X 7 474 [some (.retAddr b), some (.ref 0), some (.ref 210), some (.ref 227), some (.int (nI i)), none, none] [.int (k52)] S I R (hcL r50 L 227) (cs + 1) (ss + 6)
  refine ax_istore (ls' := [some (.retAddr b), some (.ref 0), some (.ref 210), some (.ref 227), some (.int (nI i)), some (.int (k52)), none]) (q := 476) hX dc_L_law_474 rfl (by decide) rfl ?_
  refine ax_aload_n (q := 477) hX dc_L_law_476 rfl rfl rfl ?_
  refine ax_saload_n (q := 478) hX dc_L_law_477 rfl rfl rfl ?_
  refine ax_iload (q := 480) hX dc_L_law_478 rfl rfl ?_
  refine ax_iconst (v := 1) (q := 481) hX dc_L_law_480 rfl (by decide) ?_
  refine ax_iadd (q := 482) hX dc_L_law_481 rfl ?_
  refine ax_sld (q := 483) hX hscr (i + 1) dc_L_law_482 rfl (nI_add i 1) (by omega) hn31 ?_
  refine ax_saload_n (q := 484) hX dc_L_law_483 rfl rfl rfl ?_
  refine ax_iload (q := 486) hX dc_L_law_484 rfl rfl ?_
  refine ax_iconst (v := 2) (q := 487) hX dc_L_law_486 rfl (by decide) ?_
  refine ax_iadd (q := 488) hX dc_L_law_487 rfl ?_
  refine ax_sld (q := 489) hX hscr (i + 2) dc_L_law_488 rfl (nI_add i 2) (by omega) hn31 ?_
  obtain ⟨r54, hr55, h⟩ := ax_bd h
  refine ax_kV (vs := [.int (sc (i + 1)), .int (sc (i + 2))]) (rest := []) (q := 492) hX dc_L_law_489 rfl mt_M_at wl_L_104 wi_M_at ws_M_at hs5 rfl (c_M_at l hty hs5 hr55) rfl (by decide) rfl (Nat.le_of_ble_eq_true rfl) rfl rfl hc1 hs1 rfl ?_
  refine ax_istore (ls' := [some (.retAddr b), some (.ref 0), some (.ref 210), some (.ref 227), some (.int (nI i)), some (.int (k52)), some (.int (r54.1))]) (q := 494) hX dc_L_law_492 rfl (by decide) rfl ?_
  refine ax_goto (tgt := 750) hX dc_L_law_494 (by decide) ?_
  cases h
  exact ax_weak (ls' := [some (.retAddr b), some (.ref 0), some (.ref 210), some (.ref 227), some (.int (nI i)), none, none]) (ax_fewP_s _ _ (by repeat (first | exact trivial | (refine And.intro rfl ?_)))) (kk _ (by first | exact Nat.le_refl _ | exact Nat.le_succ _) _ (by first | exact Nat.le_refl _ | exact Nat.le_add_right _ _))
def d_L_497 (S : ax_S) (sc : Nat → Int32) (i : Nat) (I : ax_I) (R : ax_R) (L : ax_L) : Option (ax_I × ax_R × ax_L) :=
  (d_K_byteAt S I R 0 (sc (i + 1)) (sc (i + 2))).bind fun r56 =>
  (hc_byteAt r56).bind fun k58 =>
  (d_M_byteAt S I R 210 (sc (i + 1)) (sc (i + 2))).bind fun r60 =>
  some (r60.2, R, (hcL r56 L 227))
set_option maxHeartbeats 1000000 in
theorem e_L_497 {X : ax_X} {l : Launch} (hl0 : l.stackTraces = false) (hX : ax_ok X l "LossFreeToolsLaw" code 7 (ax_rm 10 601024 7292999)) {b n : Nat} {sc : Nat → Int32} (hscr : ax_scrG (ax_GX X) b n sc) (hn31 : n < 2 ^ 31) {S : ax_S} (hs0 : S 0 = some (.inl 4)) (hs5 : S 210 = some (.inl 5)) (hso : S 227 = some (.inr (1, 1))) {i : Nat} (hi : i + 5 ≤ n) {I : ax_I} {R : ax_R} {L : ax_L} (hty : ax_typ S R) {out : ax_I × ax_R × ax_L} (h : d_L_497 S sc i I R L = some out) {cs ss : Nat} (hc1 : cs + 1 ≤ 601024) (hs1 : ss + 6 ≤ 7292999) (kk : ∀ cs2, cs2 ≤ cs + 1 → ∀ ss2, ss2 ≤ ss + 6 → ax_W X 7 750 [some (.retAddr b), some (.ref 0), some (.ref 210), some (.ref 227), some (.int (nI i)), none, none] [] S out.1 out.2.1 out.2.2 cs2 ss2) : ax_W X 7 497 [some (.retAddr b), some (.ref 0), some (.ref 210), some (.ref 227), some (.int (nI i)), none, none] [] S I R L cs ss := by
  have hc0 : cs ≤ 601024 := Nat.le_of_succ_le hc1
  have hss0 : ss ≤ 7292999 := Nat.le_trans (Nat.le_add_right _ _) hs1
  unfold d_L_497 at h
  refine ax_aload_n (q := 498) hX dc_L_law_497 rfl rfl rfl ?_
  refine ax_saload_n (q := 499) hX dc_L_law_498 rfl rfl rfl ?_
  refine ax_iload (q := 501) hX dc_L_law_499 rfl rfl ?_
  refine ax_iconst (v := 1) (q := 502) hX dc_L_law_501 rfl (by decide) ?_
  refine ax_iadd (q := 503) hX dc_L_law_502 rfl ?_
  refine ax_sld (q := 504) hX hscr (i + 1) dc_L_law_503 rfl (nI_add i 1) (by omega) hn31 ?_
  refine ax_saload_n (q := 505) hX dc_L_law_504 rfl rfl rfl ?_
  refine ax_iload (q := 507) hX dc_L_law_505 rfl rfl ?_
  refine ax_iconst (v := 2) (q := 508) hX dc_L_law_507 rfl (by decide) ?_
  refine ax_iadd (q := 509) hX dc_L_law_508 rfl ?_
  refine ax_sld (q := 510) hX hscr (i + 2) dc_L_law_509 rfl (nI_add i 2) (by omega) hn31 ?_
  refine ax_aload_n (q := 511) hX dc_L_law_510 rfl rfl rfl ?_
  obtain ⟨r56, hr57, h⟩ := ax_bd h
  obtain ⟨k58, hk59, h⟩ := ax_bd h
  refine ax_callSW (q := 514) (n := 4) (vs := [.ref 0, .int (sc (i + 1)), .int (sc (i + 2)), .ref 227]) (rest := []) hX dc_L_law_511 rfl wcw_L_byteAt wn_LossFreeToolsLaw ⟨by decide +kernel, by decide +kernel⟩ (by decide +kernel) wl_L_105 wt_L_byteAt (c_L_byteAt l hs0 hso (c_K_byteAt l hl0 hty hs0 hr57) hk59) rfl (by decide) rfl (Nat.le_of_ble_eq_true rfl) hc1 hs1 (fun q0 S2 I2 R2 L2 hq0 _ => ?_)
  obtain ⟨q1, q2, q3, q4, q5⟩ := hq0
  rw [q1, q2, q3, q4, q5]
  clear q1 q2 q3 q4 q5
  show ax_W X 7 514 [some (.retAddr b), some (.ref 0), some (.ref 210), some (.ref 227), some (.int (nI i)), none, none] [.int (k58)] S I R (hcL r56 L 227) (cs + 1) (ss + 6)
  refine ax_istore (ls' := [some (.retAddr b), some (.ref 0), some (.ref 210), some (.ref 227), some (.int (nI i)), some (.int (k58)), none]) (q := 516) hX dc_L_law_514 rfl (by decide) rfl ?_
  refine ax_aload_n (q := 517) hX dc_L_law_516 rfl rfl rfl ?_
  refine ax_saload_n (q := 518) hX dc_L_law_517 rfl rfl rfl ?_
  refine ax_iload (q := 520) hX dc_L_law_518 rfl rfl ?_
  refine ax_iconst (v := 1) (q := 521) hX dc_L_law_520 rfl (by decide) ?_
  refine ax_iadd (q := 522) hX dc_L_law_521 rfl ?_
  refine ax_sld (q := 523) hX hscr (i + 1) dc_L_law_522 rfl (nI_add i 1) (by omega) hn31 ?_
  refine ax_saload_n (q := 524) hX dc_L_law_523 rfl rfl rfl ?_
  refine ax_iload (q := 526) hX dc_L_law_524 rfl rfl ?_
  refine ax_iconst (v := 2) (q := 527) hX dc_L_law_526 rfl (by decide) ?_
  refine ax_iadd (q := 528) hX dc_L_law_527 rfl ?_
  refine ax_sld (q := 529) hX hscr (i + 2) dc_L_law_528 rfl (nI_add i 2) (by omega) hn31 ?_
  obtain ⟨r60, hr61, h⟩ := ax_bd h
  refine ax_kV (vs := [.int (sc (i + 1)), .int (sc (i + 2))]) (rest := []) (q := 532) hX dc_L_law_529 rfl mt_M_byteAt wl_L_107 wi_M_byteAt ws_M_byteAt hs5 rfl (c_M_byteAt l hty hs5 hr61) rfl (by decide) rfl (Nat.le_of_ble_eq_true rfl) rfl rfl hc1 hs1 rfl ?_
  refine ax_istore (ls' := [some (.retAddr b), some (.ref 0), some (.ref 210), some (.ref 227), some (.int (nI i)), some (.int (k58)), some (.int (r60.1))]) (q := 534) hX dc_L_law_532 rfl (by decide) rfl ?_
  refine ax_goto (tgt := 750) hX dc_L_law_534 (by decide) ?_
  cases h
  exact ax_weak (ls' := [some (.retAddr b), some (.ref 0), some (.ref 210), some (.ref 227), some (.int (nI i)), none, none]) (ax_fewP_s _ _ (by repeat (first | exact trivial | (refine And.intro rfl ?_)))) (kk _ (by first | exact Nat.le_refl _ | exact Nat.le_succ _) _ (by first | exact Nat.le_refl _ | exact Nat.le_add_right _ _))
def d_L_537 (S : ax_S) (sc : Nat → Int32) (i : Nat) (I : ax_I) (R : ax_R) (L : ax_L) : Option (ax_I × ax_R × ax_L) :=
  (d_K_shown S I R 0 (sc (i + 1)) (sc (i + 2))).bind fun r62 =>
  (hc_shown r62).bind fun k64 =>
  (d_M_shown S I R 210 (sc (i + 1)) (sc (i + 2))).bind fun r66 =>
  some (r66.2, R, (hcL r62 L 227))
set_option maxHeartbeats 1000000 in
theorem e_L_537 {X : ax_X} {l : Launch} (hl0 : l.stackTraces = false) (hX : ax_ok X l "LossFreeToolsLaw" code 7 (ax_rm 10 601024 7292999)) {b n : Nat} {sc : Nat → Int32} (hscr : ax_scrG (ax_GX X) b n sc) (hn31 : n < 2 ^ 31) {S : ax_S} (hs0 : S 0 = some (.inl 4)) (hs5 : S 210 = some (.inl 5)) (hso : S 227 = some (.inr (1, 1))) {i : Nat} (hi : i + 5 ≤ n) {I : ax_I} {R : ax_R} {L : ax_L} (hty : ax_typ S R) {out : ax_I × ax_R × ax_L} (h : d_L_537 S sc i I R L = some out) {cs ss : Nat} (hc1 : cs + 1 ≤ 601024) (hs1 : ss + 6 ≤ 7292999) (kk : ∀ cs2, cs2 ≤ cs + 1 → ∀ ss2, ss2 ≤ ss + 6 → ax_W X 7 750 [some (.retAddr b), some (.ref 0), some (.ref 210), some (.ref 227), some (.int (nI i)), none, none] [] S out.1 out.2.1 out.2.2 cs2 ss2) : ax_W X 7 537 [some (.retAddr b), some (.ref 0), some (.ref 210), some (.ref 227), some (.int (nI i)), none, none] [] S I R L cs ss := by
  have hc0 : cs ≤ 601024 := Nat.le_of_succ_le hc1
  have hss0 : ss ≤ 7292999 := Nat.le_trans (Nat.le_add_right _ _) hs1
  unfold d_L_537 at h
  refine ax_aload_n (q := 538) hX dc_L_law_537 rfl rfl rfl ?_
  refine ax_saload_n (q := 539) hX dc_L_law_538 rfl rfl rfl ?_
  refine ax_iload (q := 541) hX dc_L_law_539 rfl rfl ?_
  refine ax_iconst (v := 1) (q := 542) hX dc_L_law_541 rfl (by decide) ?_
  refine ax_iadd (q := 543) hX dc_L_law_542 rfl ?_
  refine ax_sld (q := 544) hX hscr (i + 1) dc_L_law_543 rfl (nI_add i 1) (by omega) hn31 ?_
  refine ax_saload_n (q := 545) hX dc_L_law_544 rfl rfl rfl ?_
  refine ax_iload (q := 547) hX dc_L_law_545 rfl rfl ?_
  refine ax_iconst (v := 2) (q := 548) hX dc_L_law_547 rfl (by decide) ?_
  refine ax_iadd (q := 549) hX dc_L_law_548 rfl ?_
  refine ax_sld (q := 550) hX hscr (i + 2) dc_L_law_549 rfl (nI_add i 2) (by omega) hn31 ?_
  refine ax_aload_n (q := 551) hX dc_L_law_550 rfl rfl rfl ?_
  obtain ⟨r62, hr63, h⟩ := ax_bd h
  obtain ⟨k64, hk65, h⟩ := ax_bd h
  refine ax_callSW (q := 554) (n := 4) (vs := [.ref 0, .int (sc (i + 1)), .int (sc (i + 2)), .ref 227]) (rest := []) hX dc_L_law_551 rfl wcw_L_shown wn_LossFreeToolsLaw ⟨by decide +kernel, by decide +kernel⟩ (by decide +kernel) wl_L_108 wt_L_shown (c_L_shown l hs0 hso (c_K_shown l hl0 hty hs0 hr63) hk65) rfl (by decide) rfl (Nat.le_of_ble_eq_true rfl) hc1 hs1 (fun q0 S2 I2 R2 L2 hq0 _ => ?_)
  obtain ⟨q1, q2, q3, q4, q5⟩ := hq0
  rw [q1, q2, q3, q4, q5]
  clear q1 q2 q3 q4 q5
  show ax_W X 7 554 [some (.retAddr b), some (.ref 0), some (.ref 210), some (.ref 227), some (.int (nI i)), none, none] [.int (k64)] S I R (hcL r62 L 227) (cs + 1) (ss + 6)
  refine ax_istore (ls' := [some (.retAddr b), some (.ref 0), some (.ref 210), some (.ref 227), some (.int (nI i)), some (.int (k64)), none]) (q := 556) hX dc_L_law_554 rfl (by decide) rfl ?_
  refine ax_aload_n (q := 557) hX dc_L_law_556 rfl rfl rfl ?_
  refine ax_saload_n (q := 558) hX dc_L_law_557 rfl rfl rfl ?_
  refine ax_iload (q := 560) hX dc_L_law_558 rfl rfl ?_
  refine ax_iconst (v := 1) (q := 561) hX dc_L_law_560 rfl (by decide) ?_
  refine ax_iadd (q := 562) hX dc_L_law_561 rfl ?_
  refine ax_sld (q := 563) hX hscr (i + 1) dc_L_law_562 rfl (nI_add i 1) (by omega) hn31 ?_
  refine ax_saload_n (q := 564) hX dc_L_law_563 rfl rfl rfl ?_
  refine ax_iload (q := 566) hX dc_L_law_564 rfl rfl ?_
  refine ax_iconst (v := 2) (q := 567) hX dc_L_law_566 rfl (by decide) ?_
  refine ax_iadd (q := 568) hX dc_L_law_567 rfl ?_
  refine ax_sld (q := 569) hX hscr (i + 2) dc_L_law_568 rfl (nI_add i 2) (by omega) hn31 ?_
  obtain ⟨r66, hr67, h⟩ := ax_bd h
  refine ax_kV (vs := [.int (sc (i + 1)), .int (sc (i + 2))]) (rest := []) (q := 572) hX dc_L_law_569 rfl mt_M_shown wl_L_110 wi_M_shown ws_M_shown hs5 rfl (c_M_shown l hty hs5 hr67) rfl (by decide) rfl (Nat.le_of_ble_eq_true rfl) rfl rfl hc1 hs1 rfl ?_
  refine ax_istore (ls' := [some (.retAddr b), some (.ref 0), some (.ref 210), some (.ref 227), some (.int (nI i)), some (.int (k64)), some (.int (r66.1))]) (q := 574) hX dc_L_law_572 rfl (by decide) rfl ?_
  refine ax_goto (tgt := 750) hX dc_L_law_574 (by decide) ?_
  cases h
  exact ax_weak (ls' := [some (.retAddr b), some (.ref 0), some (.ref 210), some (.ref 227), some (.int (nI i)), none, none]) (ax_fewP_s _ _ (by repeat (first | exact trivial | (refine And.intro rfl ?_)))) (kk _ (by first | exact Nat.le_refl _ | exact Nat.le_succ _) _ (by first | exact Nat.le_refl _ | exact Nat.le_add_right _ _))
def d_L_577 (S : ax_S) (sc : Nat → Int32) (i : Nat) (I : ax_I) (R : ax_R) (L : ax_L) : Option (ax_I × ax_R × ax_L) :=
  (d_K_noteAt S I R 0 (sc (i + 1)) (sc (i + 2))).bind fun r68 =>
  (hc_noteAt r68).bind fun k70 =>
  (d_M_noteAt S I R 210 (sc (i + 1)) (sc (i + 2))).bind fun r72 =>
  some (r72.2, R, (hcL r68 L 227))
set_option maxHeartbeats 1000000 in
theorem e_L_577 {X : ax_X} {l : Launch} (hl0 : l.stackTraces = false) (hX : ax_ok X l "LossFreeToolsLaw" code 7 (ax_rm 10 601024 7292999)) {b n : Nat} {sc : Nat → Int32} (hscr : ax_scrG (ax_GX X) b n sc) (hn31 : n < 2 ^ 31) {S : ax_S} (hs0 : S 0 = some (.inl 4)) (hs5 : S 210 = some (.inl 5)) (hso : S 227 = some (.inr (1, 1))) {i : Nat} (hi : i + 5 ≤ n) {I : ax_I} {R : ax_R} {L : ax_L} (hty : ax_typ S R) {out : ax_I × ax_R × ax_L} (h : d_L_577 S sc i I R L = some out) {cs ss : Nat} (hc1 : cs + 1 ≤ 601024) (hs1 : ss + 6 ≤ 7292999) (kk : ∀ cs2, cs2 ≤ cs + 1 → ∀ ss2, ss2 ≤ ss + 6 → ax_W X 7 750 [some (.retAddr b), some (.ref 0), some (.ref 210), some (.ref 227), some (.int (nI i)), none, none] [] S out.1 out.2.1 out.2.2 cs2 ss2) : ax_W X 7 577 [some (.retAddr b), some (.ref 0), some (.ref 210), some (.ref 227), some (.int (nI i)), none, none] [] S I R L cs ss := by
  have hc0 : cs ≤ 601024 := Nat.le_of_succ_le hc1
  have hss0 : ss ≤ 7292999 := Nat.le_trans (Nat.le_add_right _ _) hs1
  unfold d_L_577 at h
  refine ax_aload_n (q := 578) hX dc_L_law_577 rfl rfl rfl ?_
  refine ax_saload_n (q := 579) hX dc_L_law_578 rfl rfl rfl ?_
  refine ax_iload (q := 581) hX dc_L_law_579 rfl rfl ?_
  refine ax_iconst (v := 1) (q := 582) hX dc_L_law_581 rfl (by decide) ?_
  refine ax_iadd (q := 583) hX dc_L_law_582 rfl ?_
  refine ax_sld (q := 584) hX hscr (i + 1) dc_L_law_583 rfl (nI_add i 1) (by omega) hn31 ?_
  refine ax_saload_n (q := 585) hX dc_L_law_584 rfl rfl rfl ?_
  refine ax_iload (q := 587) hX dc_L_law_585 rfl rfl ?_
  refine ax_iconst (v := 2) (q := 588) hX dc_L_law_587 rfl (by decide) ?_
  refine ax_iadd (q := 589) hX dc_L_law_588 rfl ?_
  refine ax_sld (q := 590) hX hscr (i + 2) dc_L_law_589 rfl (nI_add i 2) (by omega) hn31 ?_
  refine ax_aload_n (q := 591) hX dc_L_law_590 rfl rfl rfl ?_
  obtain ⟨r68, hr69, h⟩ := ax_bd h
  obtain ⟨k70, hk71, h⟩ := ax_bd h
  refine ax_callSW (q := 594) (n := 4) (vs := [.ref 0, .int (sc (i + 1)), .int (sc (i + 2)), .ref 227]) (rest := []) hX dc_L_law_591 rfl wcw_L_noteAt wn_LossFreeToolsLaw ⟨by decide +kernel, by decide +kernel⟩ (by decide +kernel) wl_L_111 wt_L_noteAt (c_L_noteAt l hs0 hso (c_K_noteAt l hl0 hty hs0 hr69) hk71) rfl (by decide) rfl (Nat.le_of_ble_eq_true rfl) hc1 hs1 (fun q0 S2 I2 R2 L2 hq0 _ => ?_)
  obtain ⟨q1, q2, q3, q4, q5⟩ := hq0
  rw [q1, q2, q3, q4, q5]
  clear q1 q2 q3 q4 q5
  show ax_W X 7 594 [some (.retAddr b), some (.ref 0), some (.ref 210), some (.ref 227), some (.int (nI i)), none, none] [.int (k70)] S I R (hcL r68 L 227) (cs + 1) (ss + 6)
  refine ax_istore (ls' := [some (.retAddr b), some (.ref 0), some (.ref 210), some (.ref 227), some (.int (nI i)), some (.int (k70)), none]) (q := 596) hX dc_L_law_594 rfl (by decide) rfl ?_
  refine ax_aload_n (q := 597) hX dc_L_law_596 rfl rfl rfl ?_
  refine ax_saload_n (q := 598) hX dc_L_law_597 rfl rfl rfl ?_
  refine ax_iload (q := 600) hX dc_L_law_598 rfl rfl ?_
  refine ax_iconst (v := 1) (q := 601) hX dc_L_law_600 rfl (by decide) ?_
  refine ax_iadd (q := 602) hX dc_L_law_601 rfl ?_
  refine ax_sld (q := 603) hX hscr (i + 1) dc_L_law_602 rfl (nI_add i 1) (by omega) hn31 ?_
  refine ax_saload_n (q := 604) hX dc_L_law_603 rfl rfl rfl ?_
  refine ax_iload (q := 606) hX dc_L_law_604 rfl rfl ?_
  refine ax_iconst (v := 2) (q := 607) hX dc_L_law_606 rfl (by decide) ?_
  refine ax_iadd (q := 608) hX dc_L_law_607 rfl ?_
  refine ax_sld (q := 609) hX hscr (i + 2) dc_L_law_608 rfl (nI_add i 2) (by omega) hn31 ?_
  obtain ⟨r72, hr73, h⟩ := ax_bd h
  refine ax_kV (vs := [.int (sc (i + 1)), .int (sc (i + 2))]) (rest := []) (q := 612) hX dc_L_law_609 rfl mt_M_noteAt wl_L_113 wi_M_noteAt ws_M_noteAt hs5 rfl (c_M_noteAt l hty hs5 hr73) rfl (by decide) rfl (Nat.le_of_ble_eq_true rfl) rfl rfl hc1 hs1 rfl ?_
  refine ax_istore (ls' := [some (.retAddr b), some (.ref 0), some (.ref 210), some (.ref 227), some (.int (nI i)), some (.int (k70)), some (.int (r72.1))]) (q := 614) hX dc_L_law_612 rfl (by decide) rfl ?_
  refine ax_goto (tgt := 750) hX dc_L_law_614 (by decide) ?_
  cases h
  exact ax_weak (ls' := [some (.retAddr b), some (.ref 0), some (.ref 210), some (.ref 227), some (.int (nI i)), none, none]) (ax_fewP_s _ _ (by repeat (first | exact trivial | (refine And.intro rfl ?_)))) (kk _ (by first | exact Nat.le_refl _ | exact Nat.le_succ _) _ (by first | exact Nat.le_refl _ | exact Nat.le_add_right _ _))
def d_L_617 (S : ax_S) (sc : Nat → Int32) (i : Nat) (I : ax_I) (R : ax_R) (L : ax_L) : Option (ax_I × ax_R × ax_L) :=
  (d_K_write S I R 0 ).bind fun r74 =>
  (d_M_write S r74.2 R 210 ).bind fun r76 =>
  some (r76.2, R, L)
set_option maxHeartbeats 1000000 in
theorem e_L_617 {X : ax_X} {l : Launch} (hl0 : l.stackTraces = false) (hX : ax_ok X l "LossFreeToolsLaw" code 7 (ax_rm 10 601024 7292999)) {b n : Nat} {sc : Nat → Int32} (hscr : ax_scrG (ax_GX X) b n sc) (hn31 : n < 2 ^ 31) {S : ax_S} (hs0 : S 0 = some (.inl 4)) (hs5 : S 210 = some (.inl 5)) (hso : S 227 = some (.inr (1, 1))) {i : Nat} (hi : i + 5 ≤ n) {I : ax_I} {R : ax_R} {L : ax_L} (hty : ax_typ S R) {out : ax_I × ax_R × ax_L} (h : d_L_617 S sc i I R L = some out) {cs ss : Nat} (hc1 : cs + 1 ≤ 601024) (hs1 : ss + 6 ≤ 7292999) (kk : ∀ cs2, cs2 ≤ cs + 1 → ∀ ss2, ss2 ≤ ss + 6 → ax_W X 7 750 [some (.retAddr b), some (.ref 0), some (.ref 210), some (.ref 227), some (.int (nI i)), none, none] [] S out.1 out.2.1 out.2.2 cs2 ss2) : ax_W X 7 617 [some (.retAddr b), some (.ref 0), some (.ref 210), some (.ref 227), some (.int (nI i)), none, none] [] S I R L cs ss := by
  have hc0 : cs ≤ 601024 := Nat.le_of_succ_le hc1
  have hss0 : ss ≤ 7292999 := Nat.le_trans (Nat.le_add_right _ _) hs1
  unfold d_L_617 at h
  refine ax_aload_n (q := 618) hX dc_L_law_617 rfl rfl rfl ?_
  obtain ⟨r74, hr75, h⟩ := ax_bd h
  refine ax_kV (vs := []) (rest := []) (q := 621) hX dc_L_law_618 rfl mt_K_write wl_L_114 wi_K_write ws_K_write hs0 rfl (c_K_write l hty hs0 hr75) rfl (by decide) rfl (Nat.le_of_ble_eq_true rfl) rfl rfl hc0 hss0 rfl ?_
  refine ax_pop (q := 622) hX dc_L_law_621 rfl rfl ?_
  refine ax_aload_n (q := 623) hX dc_L_law_622 rfl rfl rfl ?_
  obtain ⟨r76, hr77, h⟩ := ax_bd h
  refine ax_kV (vs := []) (rest := []) (q := 626) hX dc_L_law_623 rfl mt_M_write wl_L_117 wi_M_write ws_M_write hs5 rfl (c_M_write l hty hs5 hr77) rfl (by decide) rfl (Nat.le_of_ble_eq_true rfl) rfl rfl hc0 hss0 rfl ?_
  refine ax_pop (q := 627) hX dc_L_law_626 rfl rfl ?_
  refine ax_goto (tgt := 750) hX dc_L_law_627 (by decide) ?_
  cases h
  exact kk _ (by first | exact Nat.le_refl _ | exact Nat.le_succ _) _ (by first | exact Nat.le_refl _ | exact Nat.le_add_right _ _)
def d_L_630 (S : ax_S) (sc : Nat → Int32) (i : Nat) (I : ax_I) (R : ax_R) (L : ax_L) : Option (ax_I × ax_R × ax_L) :=
  (d_K_streamAt S I R 0 (sc (i + 1))).bind fun r78 =>
  (hc_streamAt r78).bind fun k80 =>
  (d_M_streamAt S I R 210 (sc (i + 1))).bind fun r82 =>
  (d_M_thrown S r82.2 R 210 ).bind fun r84 =>
  if r84 = k80 then
    if k80 = 0 then
      if (lg_cmp ((hcL r78 L 227) 227 0) ((r82.1).toInt64)) = 0 then
        some (r82.2, R, (hcL r78 L 227))
      else
        none
    else
      some (r82.2, R, (hcL r78 L 227))
  else
    none
set_option maxHeartbeats 1000000 in
theorem e_L_630 {X : ax_X} {l : Launch} (hl0 : l.stackTraces = false) (hX : ax_ok X l "LossFreeToolsLaw" code 7 (ax_rm 10 601024 7292999)) {b n : Nat} {sc : Nat → Int32} (hscr : ax_scrG (ax_GX X) b n sc) (hn31 : n < 2 ^ 31) {S : ax_S} (hs0 : S 0 = some (.inl 4)) (hs5 : S 210 = some (.inl 5)) (hso : S 227 = some (.inr (1, 1))) {i : Nat} (hi : i + 5 ≤ n) {I : ax_I} {R : ax_R} {L : ax_L} (hty : ax_typ S R) {out : ax_I × ax_R × ax_L} (h : d_L_630 S sc i I R L = some out) {cs ss : Nat} (hc1 : cs + 1 ≤ 601024) (hs1 : ss + 6 ≤ 7292999) (kk : ∀ cs2, cs2 ≤ cs + 1 → ∀ ss2, ss2 ≤ ss + 6 → ax_W X 7 750 [some (.retAddr b), some (.ref 0), some (.ref 210), some (.ref 227), some (.int (nI i)), none, none] [] S out.1 out.2.1 out.2.2 cs2 ss2) : ax_W X 7 630 [some (.retAddr b), some (.ref 0), some (.ref 210), some (.ref 227), some (.int (nI i)), none, none] [] S I R L cs ss := by
  have hc0 : cs ≤ 601024 := Nat.le_of_succ_le hc1
  have hss0 : ss ≤ 7292999 := Nat.le_trans (Nat.le_add_right _ _) hs1
  unfold d_L_630 at h
  refine ax_aload_n (q := 631) hX dc_L_law_630 rfl rfl rfl ?_
  refine ax_saload_n (q := 632) hX dc_L_law_631 rfl rfl rfl ?_
  refine ax_iload (q := 634) hX dc_L_law_632 rfl rfl ?_
  refine ax_iconst (v := 1) (q := 635) hX dc_L_law_634 rfl (by decide) ?_
  refine ax_iadd (q := 636) hX dc_L_law_635 rfl ?_
  refine ax_sld (q := 637) hX hscr (i + 1) dc_L_law_636 rfl (nI_add i 1) (by omega) hn31 ?_
  refine ax_aload_n (q := 638) hX dc_L_law_637 rfl rfl rfl ?_
  obtain ⟨r78, hr79, h⟩ := ax_bd h
  obtain ⟨k80, hk81, h⟩ := ax_bd h
  refine ax_callSW (q := 641) (n := 3) (vs := [.ref 0, .int (sc (i + 1)), .ref 227]) (rest := []) hX dc_L_law_638 rfl wcw_L_streamAt wn_LossFreeToolsLaw ⟨by decide +kernel, by decide +kernel⟩ (by decide +kernel) wl_L_118 wt_L_streamAt (c_L_streamAt l hs0 hso (c_K_streamAt l hl0 hty hs0 hr79) hk81) rfl (by decide) rfl (Nat.le_of_ble_eq_true rfl) hc1 hs1 (fun q0 S2 I2 R2 L2 hq0 _ => ?_)
  obtain ⟨q1, q2, q3, q4, q5⟩ := hq0
  rw [q1, q2, q3, q4, q5]
  clear q1 q2 q3 q4 q5
  show ax_W X 7 641 [some (.retAddr b), some (.ref 0), some (.ref 210), some (.ref 227), some (.int (nI i)), none, none] [.int (k80)] S I R (hcL r78 L 227) (cs + 1) (ss + 6)
  refine ax_istore (ls' := [some (.retAddr b), some (.ref 0), some (.ref 210), some (.ref 227), some (.int (nI i)), some (.int (k80)), none]) (q := 643) hX dc_L_law_641 rfl (by decide) rfl ?_
  refine ax_aload_n (q := 644) hX dc_L_law_643 rfl rfl rfl ?_
  refine ax_saload_n (q := 645) hX dc_L_law_644 rfl rfl rfl ?_
  refine ax_iload (q := 647) hX dc_L_law_645 rfl rfl ?_
  refine ax_iconst (v := 1) (q := 648) hX dc_L_law_647 rfl (by decide) ?_
  refine ax_iadd (q := 649) hX dc_L_law_648 rfl ?_
  refine ax_sld (q := 650) hX hscr (i + 1) dc_L_law_649 rfl (nI_add i 1) (by omega) hn31 ?_
  obtain ⟨r82, hr83, h⟩ := ax_bd h
  refine ax_kV (vs := [.int (sc (i + 1))]) (rest := []) (q := 653) hX dc_L_law_650 rfl mt_M_streamAt wl_L_120 wi_M_streamAt ws_M_streamAt hs5 rfl (c_M_streamAt l hty hs5 hr83) rfl (by decide) rfl (Nat.le_of_ble_eq_true rfl) rfl rfl hc1 hs1 rfl ?_
  refine ax_istore (ls' := [some (.retAddr b), some (.ref 0), some (.ref 210), some (.ref 227), some (.int (nI i)), some (.int (k80)), some (.int (r82.1))]) (q := 655) hX dc_L_law_653 rfl (by decide) rfl ?_
  refine ax_aload_n (q := 656) hX dc_L_law_655 rfl rfl rfl ?_
  obtain ⟨r84, hr85, h⟩ := ax_bd h
  refine ax_kV (vs := []) (rest := []) (q := 659) hX dc_L_law_656 rfl mt_M_thrown wl_L_121 wi_M_thrown ws_M_thrown hs5 rfl (c_M_thrown l hty hs5 hr85) rfl (by decide) rfl (Nat.le_of_ble_eq_true rfl) rfl rfl hc1 hs1 rfl ?_
  refine ax_iload (q := 661) hX dc_L_law_659 rfl rfl ?_
  refine ax_icmp_eq (tgt := 666) (q := 664) hX dc_L_law_661 rfl (by decide) (fun z86 => ?_) (fun z86 => ?_)
  · rw [if_pos z86] at h
    refine ax_iload (q := 668) hX dc_L_law_666 rfl rfl ?_
    refine ax_if_ne (tgt := 683) (q := 671) hX dc_L_law_668 rfl (by decide) (fun z87 => ?_) (fun z87 => ?_)
    · rw [if_neg z87] at h
      refine ax_goto (tgt := 750) hX dc_L_law_683 (by decide) ?_
      cases h
      exact ax_weak (ls' := [some (.retAddr b), some (.ref 0), some (.ref 210), some (.ref 227), some (.int (nI i)), none, none]) (ax_fewP_s _ _ (by repeat (first | exact trivial | (refine And.intro rfl ?_)))) (kk _ (by first | exact Nat.le_refl _ | exact Nat.le_succ _) _ (by first | exact Nat.le_refl _ | exact Nat.le_add_right _ _))
    · rw [if_pos z87] at h
      refine ax_aload_n (q := 672) hX dc_L_law_671 rfl rfl rfl ?_
      refine ax_iconst (v := 0) (q := 673) hX dc_L_law_672 rfl (by decide) ?_
      refine ax_lald (q := 674) hX 0 dc_L_law_673 rfl hso rfl (by decide) (by decide) ?_
      refine ax_iload (q := 676) hX dc_L_law_674 rfl rfl ?_
      refine ax_i2l (q := 677) hX dc_L_law_676 rfl rfl ?_
      refine ax_lcmp (q := 678) hX dc_L_law_677 rfl ?_
      refine ax_if_eq (tgt := 683) (q := 681) hX dc_L_law_678 rfl (by decide) (fun z88 => ?_) (fun z88 => ?_)
      · rw [if_pos z88] at h
        refine ax_goto (tgt := 750) hX dc_L_law_683 (by decide) ?_
        cases h
        exact ax_weak (ls' := [some (.retAddr b), some (.ref 0), some (.ref 210), some (.ref 227), some (.int (nI i)), none, none]) (ax_fewP_s _ _ (by repeat (first | exact trivial | (refine And.intro rfl ?_)))) (kk _ (by first | exact Nat.le_refl _ | exact Nat.le_succ _) _ (by first | exact Nat.le_refl _ | exact Nat.le_add_right _ _))
      · rw [if_neg z88] at h
        cases h
  · rw [if_neg z86] at h
    cases h
def d_L_686 (S : ax_S) (sc : Nat → Int32) (i : Nat) (I : ax_I) (R : ax_R) (L : ax_L) : Option (ax_I × ax_R × ax_L) :=
  (d_K_pointer S I R 0 (sc (i + 1))).bind fun r89 =>
  (hc_pointer r89).bind fun k91 =>
  (d_M_pointer S I R 210 (sc (i + 1))).bind fun r93 =>
  some (r93.2, R, (hcL r89 L 227))
set_option maxHeartbeats 1000000 in
theorem e_L_686 {X : ax_X} {l : Launch} (hl0 : l.stackTraces = false) (hX : ax_ok X l "LossFreeToolsLaw" code 7 (ax_rm 10 601024 7292999)) {b n : Nat} {sc : Nat → Int32} (hscr : ax_scrG (ax_GX X) b n sc) (hn31 : n < 2 ^ 31) {S : ax_S} (hs0 : S 0 = some (.inl 4)) (hs5 : S 210 = some (.inl 5)) (hso : S 227 = some (.inr (1, 1))) {i : Nat} (hi : i + 5 ≤ n) {I : ax_I} {R : ax_R} {L : ax_L} (hty : ax_typ S R) {out : ax_I × ax_R × ax_L} (h : d_L_686 S sc i I R L = some out) {cs ss : Nat} (hc1 : cs + 1 ≤ 601024) (hs1 : ss + 6 ≤ 7292999) (kk : ∀ cs2, cs2 ≤ cs + 1 → ∀ ss2, ss2 ≤ ss + 6 → ax_W X 7 750 [some (.retAddr b), some (.ref 0), some (.ref 210), some (.ref 227), some (.int (nI i)), none, none] [] S out.1 out.2.1 out.2.2 cs2 ss2) : ax_W X 7 686 [some (.retAddr b), some (.ref 0), some (.ref 210), some (.ref 227), some (.int (nI i)), none, none] [] S I R L cs ss := by
  have hc0 : cs ≤ 601024 := Nat.le_of_succ_le hc1
  have hss0 : ss ≤ 7292999 := Nat.le_trans (Nat.le_add_right _ _) hs1
  unfold d_L_686 at h
  refine ax_aload_n (q := 687) hX dc_L_law_686 rfl rfl rfl ?_
  refine ax_saload_n (q := 688) hX dc_L_law_687 rfl rfl rfl ?_
  refine ax_iload (q := 690) hX dc_L_law_688 rfl rfl ?_
  refine ax_iconst (v := 1) (q := 691) hX dc_L_law_690 rfl (by decide) ?_
  refine ax_iadd (q := 692) hX dc_L_law_691 rfl ?_
  refine ax_sld (q := 693) hX hscr (i + 1) dc_L_law_692 rfl (nI_add i 1) (by omega) hn31 ?_
  refine ax_aload_n (q := 694) hX dc_L_law_693 rfl rfl rfl ?_
  obtain ⟨r89, hr90, h⟩ := ax_bd h
  obtain ⟨k91, hk92, h⟩ := ax_bd h
  refine ax_callSW (q := 697) (n := 3) (vs := [.ref 0, .int (sc (i + 1)), .ref 227]) (rest := []) hX dc_L_law_694 rfl wcw_L_pointer wn_LossFreeToolsLaw ⟨by decide +kernel, by decide +kernel⟩ (by decide +kernel) wl_L_124 wt_L_pointer (c_L_pointer l hs0 hso (c_K_pointer l hl0 hty hs0 hr90) hk92) rfl (by decide) rfl (Nat.le_of_ble_eq_true rfl) hc1 hs1 (fun q0 S2 I2 R2 L2 hq0 _ => ?_)
  obtain ⟨q1, q2, q3, q4, q5⟩ := hq0
  rw [q1, q2, q3, q4, q5]
  clear q1 q2 q3 q4 q5
  show ax_W X 7 697 [some (.retAddr b), some (.ref 0), some (.ref 210), some (.ref 227), some (.int (nI i)), none, none] [.int (k91)] S I R (hcL r89 L 227) (cs + 1) (ss + 6)
  refine ax_istore (ls' := [some (.retAddr b), some (.ref 0), some (.ref 210), some (.ref 227), some (.int (nI i)), some (.int (k91)), none]) (q := 699) hX dc_L_law_697 rfl (by decide) rfl ?_
  refine ax_aload_n (q := 700) hX dc_L_law_699 rfl rfl rfl ?_
  refine ax_saload_n (q := 701) hX dc_L_law_700 rfl rfl rfl ?_
  refine ax_iload (q := 703) hX dc_L_law_701 rfl rfl ?_
  refine ax_iconst (v := 1) (q := 704) hX dc_L_law_703 rfl (by decide) ?_
  refine ax_iadd (q := 705) hX dc_L_law_704 rfl ?_
  refine ax_sld (q := 706) hX hscr (i + 1) dc_L_law_705 rfl (nI_add i 1) (by omega) hn31 ?_
  obtain ⟨r93, hr94, h⟩ := ax_bd h
  refine ax_kV (vs := [.int (sc (i + 1))]) (rest := []) (q := 709) hX dc_L_law_706 rfl mt_M_pointer wl_L_126 wi_M_pointer ws_M_pointer hs5 rfl (c_M_pointer l hty hs5 hr94) rfl (by decide) rfl (Nat.le_of_ble_eq_true rfl) rfl rfl hc1 hs1 rfl ?_
  refine ax_istore (ls' := [some (.retAddr b), some (.ref 0), some (.ref 210), some (.ref 227), some (.int (nI i)), some (.int (k91)), some (.int (r93.1))]) (q := 711) hX dc_L_law_709 rfl (by decide) rfl ?_
  refine ax_goto (tgt := 750) hX dc_L_law_711 (by decide) ?_
  cases h
  exact ax_weak (ls' := [some (.retAddr b), some (.ref 0), some (.ref 210), some (.ref 227), some (.int (nI i)), none, none]) (ax_fewP_s _ _ (by repeat (first | exact trivial | (refine And.intro rfl ?_)))) (kk _ (by first | exact Nat.le_refl _ | exact Nat.le_succ _) _ (by first | exact Nat.le_refl _ | exact Nat.le_add_right _ _))
def d_L_714 (S : ax_S) (sc : Nat → Int32) (i : Nat) (I : ax_I) (R : ax_R) (L : ax_L) : Option (ax_I × ax_R × ax_L) :=
  (d_K_told S I R 0 (sc (i + 1))).bind fun r95 =>
  (d_M_told S I R 210 (sc (i + 1))).bind fun r97 =>
  some (r97.2, R, L)
set_option maxHeartbeats 1000000 in
theorem e_L_714 {X : ax_X} {l : Launch} (hl0 : l.stackTraces = false) (hX : ax_ok X l "LossFreeToolsLaw" code 7 (ax_rm 10 601024 7292999)) {b n : Nat} {sc : Nat → Int32} (hscr : ax_scrG (ax_GX X) b n sc) (hn31 : n < 2 ^ 31) {S : ax_S} (hs0 : S 0 = some (.inl 4)) (hs5 : S 210 = some (.inl 5)) (hso : S 227 = some (.inr (1, 1))) {i : Nat} (hi : i + 5 ≤ n) {I : ax_I} {R : ax_R} {L : ax_L} (hty : ax_typ S R) {out : ax_I × ax_R × ax_L} (h : d_L_714 S sc i I R L = some out) {cs ss : Nat} (hc1 : cs + 1 ≤ 601024) (hs1 : ss + 6 ≤ 7292999) (kk : ∀ cs2, cs2 ≤ cs + 1 → ∀ ss2, ss2 ≤ ss + 6 → ax_W X 7 750 [some (.retAddr b), some (.ref 0), some (.ref 210), some (.ref 227), some (.int (nI i)), none, none] [] S out.1 out.2.1 out.2.2 cs2 ss2) : ax_W X 7 714 [some (.retAddr b), some (.ref 0), some (.ref 210), some (.ref 227), some (.int (nI i)), none, none] [] S I R L cs ss := by
  have hc0 : cs ≤ 601024 := Nat.le_of_succ_le hc1
  have hss0 : ss ≤ 7292999 := Nat.le_trans (Nat.le_add_right _ _) hs1
  unfold d_L_714 at h
  refine ax_aload_n (q := 715) hX dc_L_law_714 rfl rfl rfl ?_
  refine ax_saload_n (q := 716) hX dc_L_law_715 rfl rfl rfl ?_
  refine ax_iload (q := 718) hX dc_L_law_716 rfl rfl ?_
  refine ax_iconst (v := 1) (q := 719) hX dc_L_law_718 rfl (by decide) ?_
  refine ax_iadd (q := 720) hX dc_L_law_719 rfl ?_
  refine ax_sld (q := 721) hX hscr (i + 1) dc_L_law_720 rfl (nI_add i 1) (by omega) hn31 ?_
  obtain ⟨r95, hr96, h⟩ := ax_bd h
  refine ax_kV (vs := [.int (sc (i + 1))]) (rest := []) (q := 724) hX dc_L_law_721 rfl mt_K_told wl_L_127 wi_K_told ws_K_told hs0 rfl (c_K_told l hty hs0 hr96) rfl (by decide) rfl (Nat.le_of_ble_eq_true rfl) rfl rfl hc0 hss0 rfl ?_
  refine ax_pop (q := 725) hX dc_L_law_724 rfl rfl ?_
  refine ax_aload_n (q := 726) hX dc_L_law_725 rfl rfl rfl ?_
  refine ax_saload_n (q := 727) hX dc_L_law_726 rfl rfl rfl ?_
  refine ax_iload (q := 729) hX dc_L_law_727 rfl rfl ?_
  refine ax_iconst (v := 1) (q := 730) hX dc_L_law_729 rfl (by decide) ?_
  refine ax_iadd (q := 731) hX dc_L_law_730 rfl ?_
  refine ax_sld (q := 732) hX hscr (i + 1) dc_L_law_731 rfl (nI_add i 1) (by omega) hn31 ?_
  obtain ⟨r97, hr98, h⟩ := ax_bd h
  refine ax_kV (vs := [.int (sc (i + 1))]) (rest := []) (q := 735) hX dc_L_law_732 rfl mt_M_told wl_L_130 wi_M_told ws_M_told hs5 rfl (c_M_told l hty hs5 hr98) rfl (by decide) rfl (Nat.le_of_ble_eq_true rfl) rfl rfl hc0 hss0 rfl ?_
  refine ax_pop (q := 736) hX dc_L_law_735 rfl rfl ?_
  refine ax_goto (tgt := 750) hX dc_L_law_736 (by decide) ?_
  cases h
  exact kk _ (by first | exact Nat.le_refl _ | exact Nat.le_succ _) _ (by first | exact Nat.le_refl _ | exact Nat.le_add_right _ _)
def d_L_739 (S : ax_S) (sc : Nat → Int32) (i : Nat) (I : ax_I) (R : ax_R) (L : ax_L) : Option (ax_I × ax_R × ax_L) :=
  (d_K_clear S I R 0 ).bind fun r99 =>
  (d_M_clear S r99 R 210 ).bind fun r101 =>
  some (r101, R, L)
set_option maxHeartbeats 1000000 in
theorem e_L_739 {X : ax_X} {l : Launch} (hl0 : l.stackTraces = false) (hX : ax_ok X l "LossFreeToolsLaw" code 7 (ax_rm 10 601024 7292999)) {b n : Nat} {sc : Nat → Int32} (hscr : ax_scrG (ax_GX X) b n sc) (hn31 : n < 2 ^ 31) {S : ax_S} (hs0 : S 0 = some (.inl 4)) (hs5 : S 210 = some (.inl 5)) (hso : S 227 = some (.inr (1, 1))) {i : Nat} (hi : i + 5 ≤ n) {I : ax_I} {R : ax_R} {L : ax_L} (hty : ax_typ S R) {out : ax_I × ax_R × ax_L} (h : d_L_739 S sc i I R L = some out) {cs ss : Nat} (hc1 : cs + 1 ≤ 601024) (hs1 : ss + 6 ≤ 7292999) (kk : ∀ cs2, cs2 ≤ cs + 1 → ∀ ss2, ss2 ≤ ss + 6 → ax_W X 7 750 [some (.retAddr b), some (.ref 0), some (.ref 210), some (.ref 227), some (.int (nI i)), none, none] [] S out.1 out.2.1 out.2.2 cs2 ss2) : ax_W X 7 739 [some (.retAddr b), some (.ref 0), some (.ref 210), some (.ref 227), some (.int (nI i)), none, none] [] S I R L cs ss := by
  have hc0 : cs ≤ 601024 := Nat.le_of_succ_le hc1
  have hss0 : ss ≤ 7292999 := Nat.le_trans (Nat.le_add_right _ _) hs1
  unfold d_L_739 at h
  refine ax_aload_n (q := 740) hX dc_L_law_739 rfl rfl rfl ?_
  obtain ⟨r99, hr100, h⟩ := ax_bd h
  refine ax_kV (vs := []) (rest := []) (q := 743) hX dc_L_law_740 rfl mt_K_clear wl_L_131 wi_K_clear ws_K_clear hs0 rfl (c_K_clear l hty hs0 hr100) rfl (by decide) rfl (Nat.le_of_ble_eq_true rfl) rfl rfl hc0 hss0 rfl ?_
  refine ax_aload_n (q := 744) hX dc_L_law_743 rfl rfl rfl ?_
  obtain ⟨r101, hr102, h⟩ := ax_bd h
  refine ax_kV (vs := []) (rest := []) (q := 747) hX dc_L_law_744 rfl mt_M_clear wl_L_134 wi_M_clear ws_M_clear hs5 rfl (c_M_clear l hty hs5 hr102) rfl (by decide) rfl (Nat.le_of_ble_eq_true rfl) rfl rfl hc0 hss0 rfl ?_
  refine ax_goto (tgt := 750) hX dc_L_law_747 (by decide) ?_
  cases h
  exact kk _ (by first | exact Nat.le_refl _ | exact Nat.le_succ _) _ (by first | exact Nat.le_refl _ | exact Nat.le_add_right _ _)
def d_L_step (S : ax_S) (sc : Nat → Int32) (i : Nat) (I : ax_I) (R : ax_R) (L : ax_L) : Option (ax_I × ax_R × ax_L) :=
  if sc i &&& 31 = 0 then d_L_140 S sc i I R L else
  if sc i &&& 31 = 1 then d_L_204 S sc i I R L else
  if sc i &&& 31 = 2 then d_L_244 S sc i I R L else
  if sc i &&& 31 = 3 then d_L_296 S sc i I R L else
  if sc i &&& 31 = 4 then d_L_360 S sc i I R L else
  if sc i &&& 31 = 5 then d_L_388 S sc i I R L else
  if sc i &&& 31 = 6 then d_L_416 S sc i I R L else
  if sc i &&& 31 = 7 then d_L_429 S sc i I R L else
  if sc i &&& 31 = 8 then d_L_457 S sc i I R L else
  if sc i &&& 31 = 9 then d_L_497 S sc i I R L else
  if sc i &&& 31 = 10 then d_L_537 S sc i I R L else
  if sc i &&& 31 = 11 then d_L_577 S sc i I R L else
  if sc i &&& 31 = 12 then d_L_617 S sc i I R L else
  if sc i &&& 31 = 13 then d_L_630 S sc i I R L else
  if sc i &&& 31 = 14 then d_L_686 S sc i I R L else
  if sc i &&& 31 = 15 then d_L_714 S sc i I R L else
  if sc i &&& 31 = 16 then d_L_739 S sc i I R L else
  some (I, R, L)
theorem lw_gt {n i : Nat} (hn : n < 100000) (hi : i < 200000) : nI n - 5 < nI i ↔ n < i + 5 := by
  have h5 : (5 : Int32) = nI 5 := by decide
  have e : (nI n - 5).toInt = (n : Int) - 5 := by
    rw [h5, Int32.toInt_sub, nI_toInt (by omega), nI_toInt (by omega)]
    exact Int.bmod_eq_of_le (by omega) (by omega)
  rw [Int32.lt_iff_toInt_lt, e, nI_toInt (by omega)]
  omega
theorem ax_outL {x : Int32} (z0 : ¬ x = 0) (z1 : ¬ x = 1) (z2 : ¬ x = 2) (z3 : ¬ x = 3) (z4 : ¬ x = 4) (z5 : ¬ x = 5) (z6 : ¬ x = 6) (z7 : ¬ x = 7) (z8 : ¬ x = 8) (z9 : ¬ x = 9) (z10 : ¬ x = 10) (z11 : ¬ x = 11) (z12 : ¬ x = 12) (z13 : ¬ x = 13) (z14 : ¬ x = 14) (z15 : ¬ x = 15) (z16 : ¬ x = 16) : x.toInt < 0 ∨ 16 < x.toInt := by
  rcases Int.lt_or_le x.toInt 0 with h | h
  · exact Or.inl h
  · rcases Int.lt_or_le 16 x.toInt with g | g
    · exact Or.inr g
    · exfalso
      have e : x.toInt = 0 ∨ x.toInt = 1 ∨ x.toInt = 2 ∨ x.toInt = 3 ∨ x.toInt = 4 ∨ x.toInt = 5 ∨ x.toInt = 6 ∨ x.toInt = 7 ∨ x.toInt = 8 ∨ x.toInt = 9 ∨ x.toInt = 10 ∨ x.toInt = 11 ∨ x.toInt = 12 ∨ x.toInt = 13 ∨ x.toInt = 14 ∨ x.toInt = 15 ∨ x.toInt = 16 := by omega
      rcases e with e | e | e | e | e | e | e | e | e | e | e | e | e | e | e | e | e
      · exact z0 (Int32.toInt_inj.mp (by rw [e]; rfl))
      · exact z1 (Int32.toInt_inj.mp (by rw [e]; rfl))
      · exact z2 (Int32.toInt_inj.mp (by rw [e]; rfl))
      · exact z3 (Int32.toInt_inj.mp (by rw [e]; rfl))
      · exact z4 (Int32.toInt_inj.mp (by rw [e]; rfl))
      · exact z5 (Int32.toInt_inj.mp (by rw [e]; rfl))
      · exact z6 (Int32.toInt_inj.mp (by rw [e]; rfl))
      · exact z7 (Int32.toInt_inj.mp (by rw [e]; rfl))
      · exact z8 (Int32.toInt_inj.mp (by rw [e]; rfl))
      · exact z9 (Int32.toInt_inj.mp (by rw [e]; rfl))
      · exact z10 (Int32.toInt_inj.mp (by rw [e]; rfl))
      · exact z11 (Int32.toInt_inj.mp (by rw [e]; rfl))
      · exact z12 (Int32.toInt_inj.mp (by rw [e]; rfl))
      · exact z13 (Int32.toInt_inj.mp (by rw [e]; rfl))
      · exact z14 (Int32.toInt_inj.mp (by rw [e]; rfl))
      · exact z15 (Int32.toInt_inj.mp (by rw [e]; rfl))
      · exact z16 (Int32.toInt_inj.mp (by rw [e]; rfl))
set_option maxHeartbeats 2000000 in
theorem lw_loop {X : ax_X} {l : Launch} (hl0 : l.stackTraces = false) (hX : ax_ok X l "LossFreeToolsLaw" code 7 (ax_rm 10 601024 7292999)) {b n : Nat} {sc : Nat → Int32} (hscr : ax_scrG (ax_GX X) b n sc) (hn : n ≤ 3000) {S : ax_S} (hs0 : S 0 = some (.inl 4)) (hs5 : S 210 = some (.inl 5)) (hso : S 227 = some (.inr (1, 1)))
    (P : Nat → ax_I → ax_R → ax_L → Prop) (hP : ∀ i I R L, i + 5 ≤ n → P i I R L → ax_typ S R ∧ ∃ out, d_L_step S sc i I R L = some out ∧ P (i + 5) out.1 out.2.1 out.2.2)
    (fin : ∀ (i : Nat) (I : ax_I) (R : ax_R) (L : ax_L) (cs ss : Nat), cs ≤ 601024 → ss ≤ 7292999 → ax_W X 7 756 [some (.retAddr b), some (.ref 0), some (.ref 210), some (.ref 227), some (.int (nI i)), none, none] [] S I R L cs ss) :
    ∀ (f i : Nat) (I : ax_I) (R : ax_R) (L : ax_L) (cs ss : Nat), i ≤ 6000 → n ≤ i + 5 * f → P i I R L → cs + f ≤ 601024 → ss + 6 * f ≤ 7292999 → ax_W X 7 43 [some (.retAddr b), some (.ref 0), some (.ref 210), some (.ref 227), some (.int (nI i)), none, none] [] S I R L cs ss := by
  have hn31 : n < 2 ^ 31 := by omega
  intro f
  induction f with
  | zero =>
    intro i I R L cs ss hi hf hp hc hs
    refine ax_iload (q := 45) hX dc_L_law_43 rfl rfl ?_
    refine ax_saload_n (q := 46) hX dc_L_law_45 rfl rfl rfl ?_
    refine ax_slen (q := 47) hX hscr dc_L_law_46 rfl ?_
    refine ax_iconst (v := 5) (q := 48) hX dc_L_law_47 rfl (by decide) ?_
    refine ax_isub (q := 49) hX dc_L_law_48 rfl ?_
    refine ax_icmp_gt (tgt := 756) (q := 52) hX dc_L_law_49 rfl (by decide) (fun z => ?_) (fun z => ?_)
    · exact fin i I R L cs ss (by omega) (by omega)
    · exact absurd ((lw_gt (by omega) (by omega)).mpr (by omega)) z
  | succ f ih =>
    intro i I R L cs ss hi hf hp hc hs
    refine ax_iload (q := 45) hX dc_L_law_43 rfl rfl ?_
    refine ax_saload_n (q := 46) hX dc_L_law_45 rfl rfl rfl ?_
    refine ax_slen (q := 47) hX hscr dc_L_law_46 rfl ?_
    refine ax_iconst (v := 5) (q := 48) hX dc_L_law_47 rfl (by decide) ?_
    refine ax_isub (q := 49) hX dc_L_law_48 rfl ?_
    refine ax_icmp_gt (tgt := 756) (q := 52) hX dc_L_law_49 rfl (by decide) (fun z => ?_) (fun z => ?_)
    · exact fin i I R L cs ss (by omega) (by omega)
    have hi5 : i + 5 ≤ n := by
      rcases Nat.lt_or_ge n (i + 5) with h | h
      · exact absurd ((lw_gt (by omega) (by omega)).mpr h) z
      · exact h
    obtain ⟨hty, out, hd, hp2⟩ := hP i I R L hi5 hp
    have next : ∀ cs2, cs2 ≤ cs + 1 → ∀ ss2, ss2 ≤ ss + 6 → ax_W X 7 750 [some (.retAddr b), some (.ref 0), some (.ref 210), some (.ref 227), some (.int (nI i)), none, none] [] S out.1 out.2.1 out.2.2 cs2 ss2 := by
      intro cs2 h1 ss2 h2
      refine ax_iinc (v := nI (i + 5)) (ls' := [some (.retAddr b), some (.ref 0), some (.ref 210), some (.ref 227), some (.int (nI (i + 5))), none, none]) (q := 753) hX dc_L_law_750 rfl rfl (nI_add i 5) (by decide) rfl ?_
      refine ax_goto (tgt := 43) hX dc_L_law_753 (by decide) ?_
      exact ih (i + 5) out.1 out.2.1 out.2.2 cs2 ss2 (by omega) (by omega) hp2 (by omega) (by omega)
    refine ax_saload_n (q := 53) hX dc_L_law_52 rfl rfl rfl ?_
    refine ax_iload (q := 55) hX dc_L_law_53 rfl rfl ?_
    refine ax_sld (q := 56) hX hscr i dc_L_law_55 rfl rfl (by omega) hn31 ?_
    refine ax_bipush (v := 31) (q := 58) hX dc_L_law_56 rfl (by decide) ?_
    refine ax_iand (q := 59) hX dc_L_law_58 rfl ?_
    have hc1 : cs + 1 ≤ 601024 := by omega
    have hs1 : ss + 6 ≤ 7292999 := by omega
    unfold d_L_step at hd
    by_cases y0 : sc i &&& 31 = 0
    · rw [if_pos y0] at hd
      refine ax_tsIn (tgt := 140) hX dc_L_law_59 (by rw [y0]; decide) (by rw [y0]; decide) (by rw [y0]; rfl) (by decide) ?_
      exact e_L_140 hl0 hX hscr hn31 hs0 hs5 hso hi5 hty hd hc1 hs1 next
    rw [if_neg y0] at hd
    by_cases y1 : sc i &&& 31 = 1
    · rw [if_pos y1] at hd
      refine ax_tsIn (tgt := 204) hX dc_L_law_59 (by rw [y1]; decide) (by rw [y1]; decide) (by rw [y1]; rfl) (by decide) ?_
      exact e_L_204 hl0 hX hscr hn31 hs0 hs5 hso hi5 hty hd hc1 hs1 next
    rw [if_neg y1] at hd
    by_cases y2 : sc i &&& 31 = 2
    · rw [if_pos y2] at hd
      refine ax_tsIn (tgt := 244) hX dc_L_law_59 (by rw [y2]; decide) (by rw [y2]; decide) (by rw [y2]; rfl) (by decide) ?_
      exact e_L_244 hl0 hX hscr hn31 hs0 hs5 hso hi5 hty hd hc1 hs1 next
    rw [if_neg y2] at hd
    by_cases y3 : sc i &&& 31 = 3
    · rw [if_pos y3] at hd
      refine ax_tsIn (tgt := 296) hX dc_L_law_59 (by rw [y3]; decide) (by rw [y3]; decide) (by rw [y3]; rfl) (by decide) ?_
      exact e_L_296 hl0 hX hscr hn31 hs0 hs5 hso hi5 hty hd hc1 hs1 next
    rw [if_neg y3] at hd
    by_cases y4 : sc i &&& 31 = 4
    · rw [if_pos y4] at hd
      refine ax_tsIn (tgt := 360) hX dc_L_law_59 (by rw [y4]; decide) (by rw [y4]; decide) (by rw [y4]; rfl) (by decide) ?_
      exact e_L_360 hl0 hX hscr hn31 hs0 hs5 hso hi5 hty hd hc1 hs1 next
    rw [if_neg y4] at hd
    by_cases y5 : sc i &&& 31 = 5
    · rw [if_pos y5] at hd
      refine ax_tsIn (tgt := 388) hX dc_L_law_59 (by rw [y5]; decide) (by rw [y5]; decide) (by rw [y5]; rfl) (by decide) ?_
      exact e_L_388 hl0 hX hscr hn31 hs0 hs5 hso hi5 hty hd hc1 hs1 next
    rw [if_neg y5] at hd
    by_cases y6 : sc i &&& 31 = 6
    · rw [if_pos y6] at hd
      refine ax_tsIn (tgt := 416) hX dc_L_law_59 (by rw [y6]; decide) (by rw [y6]; decide) (by rw [y6]; rfl) (by decide) ?_
      exact e_L_416 hl0 hX hscr hn31 hs0 hs5 hso hi5 hty hd hc1 hs1 next
    rw [if_neg y6] at hd
    by_cases y7 : sc i &&& 31 = 7
    · rw [if_pos y7] at hd
      refine ax_tsIn (tgt := 429) hX dc_L_law_59 (by rw [y7]; decide) (by rw [y7]; decide) (by rw [y7]; rfl) (by decide) ?_
      exact e_L_429 hl0 hX hscr hn31 hs0 hs5 hso hi5 hty hd hc1 hs1 next
    rw [if_neg y7] at hd
    by_cases y8 : sc i &&& 31 = 8
    · rw [if_pos y8] at hd
      refine ax_tsIn (tgt := 457) hX dc_L_law_59 (by rw [y8]; decide) (by rw [y8]; decide) (by rw [y8]; rfl) (by decide) ?_
      exact e_L_457 hl0 hX hscr hn31 hs0 hs5 hso hi5 hty hd hc1 hs1 next
    rw [if_neg y8] at hd
    by_cases y9 : sc i &&& 31 = 9
    · rw [if_pos y9] at hd
      refine ax_tsIn (tgt := 497) hX dc_L_law_59 (by rw [y9]; decide) (by rw [y9]; decide) (by rw [y9]; rfl) (by decide) ?_
      exact e_L_497 hl0 hX hscr hn31 hs0 hs5 hso hi5 hty hd hc1 hs1 next
    rw [if_neg y9] at hd
    by_cases y10 : sc i &&& 31 = 10
    · rw [if_pos y10] at hd
      refine ax_tsIn (tgt := 537) hX dc_L_law_59 (by rw [y10]; decide) (by rw [y10]; decide) (by rw [y10]; rfl) (by decide) ?_
      exact e_L_537 hl0 hX hscr hn31 hs0 hs5 hso hi5 hty hd hc1 hs1 next
    rw [if_neg y10] at hd
    by_cases y11 : sc i &&& 31 = 11
    · rw [if_pos y11] at hd
      refine ax_tsIn (tgt := 577) hX dc_L_law_59 (by rw [y11]; decide) (by rw [y11]; decide) (by rw [y11]; rfl) (by decide) ?_
      exact e_L_577 hl0 hX hscr hn31 hs0 hs5 hso hi5 hty hd hc1 hs1 next
    rw [if_neg y11] at hd
    by_cases y12 : sc i &&& 31 = 12
    · rw [if_pos y12] at hd
      refine ax_tsIn (tgt := 617) hX dc_L_law_59 (by rw [y12]; decide) (by rw [y12]; decide) (by rw [y12]; rfl) (by decide) ?_
      exact e_L_617 hl0 hX hscr hn31 hs0 hs5 hso hi5 hty hd hc1 hs1 next
    rw [if_neg y12] at hd
    by_cases y13 : sc i &&& 31 = 13
    · rw [if_pos y13] at hd
      refine ax_tsIn (tgt := 630) hX dc_L_law_59 (by rw [y13]; decide) (by rw [y13]; decide) (by rw [y13]; rfl) (by decide) ?_
      exact e_L_630 hl0 hX hscr hn31 hs0 hs5 hso hi5 hty hd hc1 hs1 next
    rw [if_neg y13] at hd
    by_cases y14 : sc i &&& 31 = 14
    · rw [if_pos y14] at hd
      refine ax_tsIn (tgt := 686) hX dc_L_law_59 (by rw [y14]; decide) (by rw [y14]; decide) (by rw [y14]; rfl) (by decide) ?_
      exact e_L_686 hl0 hX hscr hn31 hs0 hs5 hso hi5 hty hd hc1 hs1 next
    rw [if_neg y14] at hd
    by_cases y15 : sc i &&& 31 = 15
    · rw [if_pos y15] at hd
      refine ax_tsIn (tgt := 714) hX dc_L_law_59 (by rw [y15]; decide) (by rw [y15]; decide) (by rw [y15]; rfl) (by decide) ?_
      exact e_L_714 hl0 hX hscr hn31 hs0 hs5 hso hi5 hty hd hc1 hs1 next
    rw [if_neg y15] at hd
    by_cases y16 : sc i &&& 31 = 16
    · rw [if_pos y16] at hd
      refine ax_tsIn (tgt := 739) hX dc_L_law_59 (by rw [y16]; decide) (by rw [y16]; decide) (by rw [y16]; rfl) (by decide) ?_
      exact e_L_739 hl0 hX hscr hn31 hs0 hs5 hso hi5 hty hd hc1 hs1 next
    rw [if_neg y16] at hd
    refine ax_tsOut (tgt := 750) hX dc_L_law_59 (ax_outL y0 y1 y2 y3 y4 y5 y6 y7 y8 y9 y10 y11 y12 y13 y14 y15 y16) (by decide) ?_
    cases hd
    exact next cs (by omega) ss (by omega)
/-! the law's start -/
theorem st_lay {s : State} {args0 : Array Value} {o nm ds : String} (h1 : (Cond.laysStatic o nm ds).before args0 s = true) (h2 : (Cond.isRef (.static o nm ds)).before args0 s = true) :
    ∃ z : Nat × Cell, s.heap[z.1]? = some z.2 ∧ ∀ (b : State) (args : Array Value), s.vm.Alike b.vm → b.heap[z.1]? = some z.2 → (Cond.laysStatic o nm ds).before args b = true ∧ (Cond.isRef (.static o nm ds)).before args b = true := by
  obtain ⟨c, k, i, f, a, cell, hc, hi, hst, ha, hcell, hs, hcls, hlt, hty⟩ := Cond.laysStatic_spec h1
  obtain ⟨v, hv, hvr⟩ := Cond.isRef_spec h2
  have hslot : cell.slots[f.slot]? = some v := by
    simpa [Term.eval, State.fieldNamed?, hi, hst, ha, hcell, hs] using hv
  refine ⟨(a, cell), hcell, fun b args hal hb => ?_⟩
  obtain ⟨k', hi', hek⟩ := State.fieldFound?_setVm hal hi
  have hi2 : b.fieldFound? o nm ds = some (c, k', i, f) := hi'
  have ha2 : k'.statics = some a := by rw [hek]; exact ha
  refine ⟨Cond.laysStatic_of (by rw [hal.findClass]; exact hc) hi2 hst ha2 hb hs hcls hlt (by rw [hek]; exact hty), ?_⟩
  have he : (Term.static o nm ds).eval args b none [] b = some v := Term.static_eval hi2 hst ha2 hb hs hslot
  simp only [Cond.before, Cond.holds, Cond.value, he]
  cases v <;> first | rfl | (simp [Value.isRef] at hvr)
theorem st_nw : ∀ w ∈ ax_nw, w ∈ lw_tbl := by decide +kernel
theorem st_sr : ∀ q ∈ ax_sr, Cond.stringRef q.1 q.2.1 q.2.2 ∈ lw_tbl ∧ q.1 = "LossFreeTools" := by decide +kernel
theorem st_nc : ∀ q ∈ ax_nc, Cond.not (.castable q.1 q.2) ∈ flatC (Jvm.Cond.and given_1 narrow_1) := by decide +kernel
theorem st_arr {s : State} {A : Array Value} {ty : FieldType} (h : (Cond.arrayClass ty).before A s = true) : ∃ c, ArrOfT s c ty ∧ s.vm.findClass ("[" ++ ty.toString) = some c := by
  obtain ⟨c, k, comp, h1, h2, h3⟩ := Cond.arrayClass_spec h
  exact ⟨c, fun n z => ⟨fun k h => (by cases h), k, h2, comp, h3⟩, h1⟩
theorem st_over {s : State} {A : Array Value} {C : String} (h : (Cond.arrayOver (.object C)).before A s = true) : ∃ c, ArrOfT s c (.object C) ∧ va_RA s c (.object C) := by
  obtain ⟨comp, c, k, h1, h2, h3, h4, h5⟩ := Cond.arrayOver_spec h
  exact ⟨c, fun n z => ⟨fun k h => (by cases h), k, h3, comp, h4⟩, k, comp, h3, h4, h1, h5⟩
def R_law : String := "LossFreeToolsLaw"
def lw_At (p : Program) (s : State) (m : MethodId) (meth : Method) (c : Code) (b L : Nat) (xs : Nat → Int32) : Prop :=
  p.tables.exec = Jvm.exec ∧ c.code = code ∧ meth.sig.returnType = ret ∧ c.maxLocals = 7 ∧ s.vm.findClass R_law = some m.cls ∧ (∀ w ∈ lw_tbl, w.before #[Value.ref b] s = true) ∧ va_X b L xs s s.heap ∧ b < s.heap.size ∧ meth.locks = false ∧ (Jvm.Cond.and given_1 narrow_1).before #[Value.ref b] s = true
theorem st_K {p : Program} {s : State} {m : MethodId} {meth : Method} {c : Code} {b L : Nat} {xs : Nat → Int32} (C0 : lw_At p s m meth c b L xs) : ∃ G : ax_G, ax_K G s ∧ ax_scrG G b L xs ∧ ∀ z ∈ G.2.2, s.heap[z.1]? = some z.2 := by
  obtain ⟨hx, hb, hr, hml, hown, hts, ⟨scr, hcb, hof, hkn, hsz, hval⟩, hbl, hlocks, hgv⟩ := C0
  have hs := flat_of_before _ hgv
  have htb : ∀ w ∈ ax_tb, w.before #[Value.ref b] s = true := fun w hw => hts w (List.mem_filter.mp hw).1
  obtain ⟨z1, hz1, hw1⟩ := st_lay (hts (.laysStatic "java/lang/Throwable" "UNASSIGNED_STACK" "[Ljava/lang/StackTraceElement;") (by decide +kernel)) (hs (.isRef (.static "java/lang/Throwable" "UNASSIGNED_STACK" "[Ljava/lang/StackTraceElement;")) (by decide +kernel))
  obtain ⟨z2, hz2, hw2⟩ := st_lay (hts (.laysStatic "java/lang/Throwable" "SUPPRESSED_SENTINEL" "Ljava/util/List;") (by decide +kernel)) (hs (.isRef (.static "java/lang/Throwable" "SUPPRESSED_SENTINEL" "Ljava/util/List;")) (by decide +kernel))
  obtain ⟨a0, ha0, hn0⟩ := st_arr (htb _ wa_int)
  obtain ⟨a1, ha1, hn1⟩ := st_arr (htb _ wa_long)
  have ho2 := hts (.arrayOver (.object "LossFreeTools$Tile")) (by decide +kernel)
  have ho3 := hts (.arrayOver (.object "LossFreeTools$Note")) (by decide +kernel)
  obtain ⟨a2, ha2, hn2⟩ := st_over ho2
  obtain ⟨a3, ha3, hn3⟩ := st_over ho3
  obtain ⟨c0, i0, k0⟩ := u_known (C := R_N) (T := F_N) (N := 3) (n := 3) htb ax_cls_N.1 (htb _ wz_N)
  obtain ⟨c1, i1, k1⟩ := u_known (C := R_P) (T := F_P) (N := 6) (n := 6) htb ax_cls_P.1 (htb _ wz_P)
  obtain ⟨c2, i2, k2⟩ := u_known (C := R_S) (T := F_S) (N := 3) (n := 3) htb ax_cls_S.1 (htb _ wz_S)
  obtain ⟨c3, i3, k3⟩ := u_known (C := R_T) (T := F_T) (N := 7) (n := 7) htb ax_cls_T.1 (htb _ wz_T)
  obtain ⟨c4, i4, k4⟩ := u_known (C := R_K) (T := F_K) (N := 8) (n := 8) htb ax_cls_K.1 (htb _ wz_K)
  obtain ⟨c5, i5, k5⟩ := u_known (C := R_M) (T := F_M) (N := 23) (n := 23) htb ax_cls_M.1 (htb _ wz_M)
  refine ⟨((fun k => if k = 0 then c0 else if k = 1 then c1 else if k = 2 then c2 else if k = 3 then c3 else if k = 4 then c4 else c5, fun k => if k = 0 then i0 else if k = 1 then i1 else if k = 2 then i2 else if k = 3 then i3 else if k = 4 then i4 else i5), [(a0, .int), (a1, .long), (a2, .object "LossFreeTools$Tile"), (a3, .object "LossFreeTools$Note")], [(b, scr), z1, z2]), ⟨⟨?_, ?_⟩, rfl, ?_, ?_, ?_, ?_, ?_, ?_⟩, ⟨scr, rfl, hkn, hsz, hval⟩, ?_⟩
  · intro k q hq
    match k, hq with
    | 0, hq => cases hq; exact k0
    | 1, hq => cases hq; exact k1
    | 2, hq => cases hq; exact k2
    | 3, hq => cases hq; exact k3
    | 4, hq => cases hq; exact k4
    | 5, hq => cases hq; exact k5
    | k + 6, hq => simp [ax_cl] at hq
  · intro k q hq
    match k, hq with
    | 0, hq => cases hq; exact ⟨ha0, hn0⟩
    | 1, hq => cases hq; exact ⟨ha1, hn1⟩
    | 2, hq => cases hq; exact ⟨ha2, hn2⟩
    | 3, hq => cases hq; exact ⟨ha3, hn3⟩
    | k + 4, hq => simp at hq
  · exact fun w hw => va_Nw.of (ax_nw_ot w hw) (hts w (st_nw w hw))
  · intro C hC
    have : C = "LossFreeTools$Tile" ∨ C = "LossFreeTools$Note" := by simpa [ax_ao] using hC
    rcases this with rfl | rfl
    · exact va_AO.of ho2
    · exact va_AO.of ho3
  · intro t args hal hz w hw
    have e1 := hw1 t args hal (hz z1 (by simp))
    have e2 := hw2 t args hal (hz z2 (by simp))
    have : w = .isRef (.static "java/lang/Throwable" "UNASSIGNED_STACK" "[Ljava/lang/StackTraceElement;") ∨ w = .isRef (.static "java/lang/Throwable" "SUPPRESSED_SENTINEL" "Ljava/util/List;") ∨ w = .laysStatic "java/lang/Throwable" "UNASSIGNED_STACK" "[Ljava/lang/StackTraceElement;" ∨ w = .laysStatic "java/lang/Throwable" "SUPPRESSED_SENTINEL" "Ljava/util/List;" := by simpa [ax_t4] using hw
    rcases this with rfl | rfl | rfl | rfl
    · exact e1.2
    · exact e2.2
    · exact e1.1
    · exact e2.1
  · intro q hq
    obtain ⟨h1, h2⟩ := st_sr q hq
    have h1 := hts _ h1
    have hcur : s.vm.findClass q.1 = some c4 := by rw [h2]; exact k4.2.1
    obtain ⟨-, -, -, a, -, -, -, -, -, hev⟩ := Cond.stringRef_spec hcur h1
    exact ⟨a, vk_R.of h1 hev⟩
  · exact fun q hq => va_Nc.of (hs _ (st_nc q hq))
  · intro z hz
    cases hz
    exact hof
  · intro z hz
    have : z = (b, scr) ∨ z = z1 ∨ z = z2 := by simpa using hz
    rcases this with rfl | rfl | rfl
    · exact hcb
    · exact hz1
    · exact hz2
/-! the law, from its entry to its loop -/
theorem ax_ix_k {S : ax_S} {a ai n j : Nat} {x : Int32} (hs : S a = some (.inr (ai, n))) (hx : x = nI j) (hj : j < n) (hn : n < 2 ^ 31) : ax_ix S a x = some j := by
  subst hx
  unfold ax_ix
  rw [ax_len_s hs, nI_clamp (by omega), if_pos ⟨nI_pos' (by omega), hj⟩]
/-- the reference's own cells -/
def mOk (S : ax_S) (R : ax_R) : Prop := S 210 = some (.inl 5) ∧ ∀ n, n < 16 → R 210 (mFld n) = some (211 + n) ∧ S (211 + n) = some (.inr (0, mLen n))
def clr (I : ax_I) : ax_I :=
  ax_up (ax_up (ax_up (ax_up (ax_up (ax_up (ax_up (ax_up (ax_up (ax_up (ax_up (ax_up (ax_up I 210 0 0) 210 3 0) 211 0 (I 210 1)) 212 0 (I 210 2)) 213 0 0) 214 0 0) 211 1 (I 210 1)) 212 1 (I 210 2)) 213 1 0) 214 1 0) 210 18 0) 210 19 0) 210 22 0
theorem m_clear {S : ax_S} {I : ax_I} {R : ax_R} (h : mOk S R) : d_M_clear S I R 210 = some (clr I) := by
  obtain ⟨-, h⟩ := h
  obtain ⟨r0, s0⟩ := h 0 (by omega)
  obtain ⟨r1, s1⟩ := h 1 (by omega)
  obtain ⟨r2, s2⟩ := h 2 (by omega)
  obtain ⟨r3, s3⟩ := h 3 (by omega)
  have r0 : R 210 4 = some 211 := r0
  have r1 : R 210 5 = some 212 := r1
  have r2 : R 210 6 = some 213 := r2
  have r3 : R 210 7 = some 214 := r3
  have e0 : ∀ a, S a = some (.inr (0, 2)) → ax_ix S a 0 = some 0 ∧ ax_ix S a 1 = some 1 := fun a ha => ⟨ax_ix_k (j := 0) ha rfl (by omega) (by omega), ax_ix_k (j := 1) ha rfl (by omega) (by omega)⟩
  obtain ⟨x0, y0⟩ := e0 211 s0
  obtain ⟨x1, y1⟩ := e0 212 s1
  obtain ⟨x2, y2⟩ := e0 213 s2
  obtain ⟨x3, y3⟩ := e0 214 s3
  unfold d_M_clear
  rw [Option.bind_some, Option.bind_some, show (5000 : Nat) = 4997 + 1 + 1 + 1 from rfl, d_M_clear_12, if_neg (by decide)]
  rw [r0, Option.bind_some, x0, Option.bind_some, Option.bind_some, r1, Option.bind_some, x1, Option.bind_some, Option.bind_some, r2, Option.bind_some, x2, Option.bind_some, Option.bind_some, r3, Option.bind_some, x3, Option.bind_some, Option.bind_some]
  rw [show (0 : Int32) + 1 = 1 from rfl, d_M_clear_12, if_neg (by decide)]
  rw [r0, Option.bind_some, y0, Option.bind_some, Option.bind_some, r1, Option.bind_some, y1, Option.bind_some, Option.bind_some, r2, Option.bind_some, y2, Option.bind_some, Option.bind_some, r3, Option.bind_some, y3, Option.bind_some, Option.bind_some]
  rw [show (1 : Int32) + 1 = 2 from rfl, d_M_clear_12, if_pos (by decide)]
  rfl
theorem mS_at : ∀ n k, k < n → mS n (211 + k) = some (.inr (0, mLen k))
  | 0, k, h => absurd h (by omega)
  | n + 1, k, h => by
    show ax_add (mS n) (211 + n) _ (211 + k) = _
    by_cases e : k = n
    · subst e
      exact ax_add_self _ _ _
    · rw [ax_add_ne (by omega)]
      exact mS_at n k (by omega)
theorem mFld_inj {a b : Nat} (h : mFld a = mFld b) (ha : a < 16) (hb : b < 16) : a = b := by
  unfold mFld at h
  split at h <;> split at h <;> omega
theorem mR_at : ∀ n k, n ≤ 16 → k < n → mR n 210 (mFld k) = some (211 + k)
  | 0, k, _, h => absurd h (by omega)
  | n + 1, k, hn, h => by
    show ax_up (mR n) 210 (mFld n) _ 210 (mFld k) = _
    by_cases e : k = n
    · subst e
      exact ax_up_self _ _ _ _
    · rw [ax_up_ne (fun z => e (mFld_inj z.2 (by omega) (by omega)))]
      exact mR_at n k (by omega) (by omega)
/-- the law's ids -/
def oS : ax_S := ax_add (mS 16) 227 (.inr (1, 1))
def oI (x1 x2 : Int32) : ax_I := clr (mI (fs x1) (fs x2) (fm x1) (fm x2))
theorem mOk_16 : mOk (mS 16) (mR 16) := ⟨mS_210 16, fun n hn => ⟨mR_at 16 n (by omega) hn, mS_at 16 n hn⟩⟩
theorem mOk_o : mOk oS (mR 16) := ⟨by unfold oS; rw [ax_add_ne (by omega)]; exact mS_210 16, fun n hn => ⟨mR_at 16 n (by omega) hn, by unfold oS; rw [ax_add_ne (by omega)]; exact mS_at 16 n hn⟩⟩
theorem oB (x1 x2 : Int32) : ax_blank (mS 16) (oI x1 x2) (mR 16) k0L 227 := by
  unfold oI clr mI
  refine ax_blank_I (ax_blank_I (ax_blank_I (ax_blank_I (ax_blank_I (ax_blank_I (ax_blank_I (ax_blank_I (ax_blank_I (ax_blank_I (ax_blank_I (ax_blank_I (ax_blank_I (ax_blank_I (ax_blank_I (mB _ _ 16) ?_) ?_) ?_) ?_) ?_) ?_) ?_) ?_) ?_) ?_) ?_) ?_) ?_) ?_) ?_ <;> decide
theorem oS_typ : ax_typ oS (mR 16) := ax_typ_add (mS_typ 16 (Nat.le_refl _)) ((oB 0 0) 227 (by omega)).1 (fun k => ((oB 0 0) 227 (by omega)).2.2.1 k) (fun ai n z => by cases z; decide)
theorem oS_0 : oS 0 = some (.inl 4) := by
  unfold oS
  rw [ax_add_ne (by omega)]
  refine mS_old 16 0 _ ?_
  show ax_add kS 210 _ 0 = _
  rw [ax_add_ne (by omega)]
  exact kS_0
theorem oS_227 : oS 227 = some (.inr (1, 1)) := ax_add_self _ _ _
def lw_Q (_ : Array Value) (s : State) (o : Outcome) (t : State) : Prop := o = .returned (some (.int 1)) ∧ Framed s o t [] 601024 7292999
def lw_Z (below : List Frame) (a : Array Value) (s : State) : State → Prop := fun t => ∃ o, t.status = .running ∧ Ended t below o ∧ lw_Q a s o t
theorem lw_ret {p : Program} {l : Launch} {e : Env} {s : State} {m : MethodId} {below : List Frame} {meth : Method} {c : Code} {b : Nat} (hx : p.tables.exec = Jvm.exec) (hb : c.code = code) (hr : meth.sig.returnType = ret) (hlocks : meth.locks = false) {pc : Nat} {H : Heap} {ls : Array Slot} (hdg : decode code pc = .ok (.ireturn, 1)) : W p l e room_1 s m #[Value.ref b] below meth c H [] 601024 7292999 (lw_Z below #[Value.ref b] s) (F0 m pc ls [.int 1]) := by
  intro T hT X
  obtain ⟨fs, hret, hrun, hended, hW, hframe⟩ := X.leave (v := some (.int 1)) (hlocks := hlocks) (fun h => by rw [hr] at h; cases h)
  have hmeth' : T.vm.method? m = some meth := X.method'
  refine ⟨T.setFrames fs, ?_, .returned (some (.int 1)), hrun, hended, rfl, ⟨_, rfl⟩, hW, hframe⟩
  jvm_step X.here [X.here.top, hx, hb, hdg, hmeth', hr, ret, narrow_b1]
  (try refine ⟨rfl, ?_⟩); (try refine ⟨rfl, ?_⟩)
  first | (intro acts; rw [hret _ acts rfl rfl rfl]) | rw [hret _ _ rfl rfl rfl]
  exact Steps.refl _
set_option maxHeartbeats 2000000 in
/-- the law's walk, by an invariant of its loop -/
theorem lw_whole {p : Program} {e : Env} {s : State} {m : MethodId} {below : List Frame} {meth : Method} {c : Code} (l : Launch) (hl0 : l.stackTraces = false) {b L : Nat} {xs : Nat → Int32} (hL : L ≤ 3000) (C0 : lw_At p s m meth c b L xs)
    (P : Nat → ax_I → ax_R → ax_L → Prop) (hP0 : P 2 (oI (scv L xs 0) (scv L xs 1)) (mR 16) k0L)
    (hP : ∀ i I R L0, i + 5 ≤ L → P i I R L0 → ax_typ oS R ∧ ∃ out, d_L_step oS xs i I R L0 = some out ∧ P (i + 5) out.1 out.2.1 out.2.2) :
    W p l e room_1 s m #[Value.ref b] below meth c s.heap [] 0 0 (lw_Z below #[Value.ref b] s) (entryFrame m ([Value.ref b] : List Value).toArray 7) := by
  obtain ⟨G, hK, hscr, hz⟩ := st_K C0
  obtain ⟨hx, hb, hr, hml, hown, hts, -, hbl, hlocks, hgv⟩ := C0
  have hn31 : L < 2 ^ 31 := by omega
  obtain ⟨X, hXe⟩ : ∃ X : ax_X, X = (p, l, e, room_1, s, m, #[Value.ref b], below, meth, c, G, (fun q => s.heap.size ≤ q), (fun _ => 0), (fun _ => none), lw_Z below #[Value.ref b] s) := ⟨_, rfl⟩
  have hX : ax_ok X l "LossFreeToolsLaw" code 7 (ax_rm 10 601024 7292999) := by
    rw [hXe]
    exact ⟨rfl, rfl, hx, hb, hml, hown, fun w hw => hts w (List.mem_filter.mp hw).1, hK, fun q h => h, hlocks⟩
  have hscr : ax_scrG (ax_GX X) b L xs := by rw [hXe]; exact hscr
  have fin : ∀ (i : Nat) (I : ax_I) (R : ax_R) (L0 : ax_L) (cs ss : Nat), cs ≤ 601024 → ss ≤ 7292999 → ax_W X 7 756 [some (.retAddr b), some (.ref 0), some (.ref 210), some (.ref 227), some (.int (nI i)), none, none] [] oS I R L0 cs ss := by
    intro i I R L0 cs ss hc hs
    refine ax_iconst (v := 1) (q := 757) hX dc_L_law_756 rfl (by decide) ?_
    rw [hXe]
    intro ad H locs lsC h0 hAd hR hS hl hlv
    refine va_forget (fun q hq => hS.2.2 q hq) ?_
    refine W.widen (k := 601024) (n := 7292999) hc hs ?_
    exact lw_ret hx hb hr hlocks dc_L_law_757
  have body : ax_W X 7 0 [some (.retAddr b), none, none, none, none, none, none] [] k0S k0I k0R k0L 0 0 := by
    refine ax_newB (q := 3) (ci := 4) (N := 8) (S' := k1S) hX 0 dc_L_law_0 rfl rfl rfl wq_L_8 wz_K wn_LossFreeTools rfl (kb0_blank 0 (by omega)).2 (by decide) (by decide) rfl rfl rfl ?_
    refine ax_dup (q := 4) hX dc_L_law_3 rfl rfl ?_
    refine ax_saload_n (q := 5) hX dc_L_law_4 rfl rfl rfl ?_
    refine ax_iconst (v := nI 0) (q := 6) hX dc_L_law_5 rfl (by decide) ?_
    refine ax_callS1 (q := 9) (vs := [.retAddr b, .int (nI 0)]) (rest := [.ref 0, .ref 0]) hX dc_L_law_6 rfl mt_L_cell wl_L_60 wt_L_cell (c_L_cell l hscr hn31 (by decide)) rfl (by decide) rfl (Nat.le_of_ble_eq_true rfl) rfl rfl (by decide) (by decide) rfl ?_
    refine ax_saload_n (q := 10) hX dc_L_law_9 rfl rfl rfl ?_
    refine ax_iconst (v := nI 1) (q := 11) hX dc_L_law_10 rfl (by decide) ?_
    refine ax_callS1 (q := 14) (vs := [.retAddr b, .int (nI 1)]) (rest := [.int (scv L xs 0), .ref 0, .ref 0]) hX dc_L_law_11 rfl mt_L_cell wl_L_60 wt_L_cell (c_L_cell l hscr hn31 (by decide)) rfl (by decide) rfl (Nat.le_of_ble_eq_true rfl) rfl rfl (by decide) (by decide) rfl ?_
    refine ax_kI (q := 17) (vs := [.int (scv L xs 0), .int (scv L xs 1)]) (rest := [.ref 0]) (c1 := 210) (s1 := 2935) hX dc_L_law_14 rfl mt_K_init wl_L_66 wi_K_init rfl (c_K_init l) rfl (by decide) rfl (Nat.le_of_ble_eq_true rfl) (by decide) (by decide) rfl rfl ?_
    refine ax_astore_n (ls' := [some (.retAddr b), some (.ref 0), none, none, none, none, none]) (q := 18) hX dc_L_law_17 rfl rfl (by decide) rfl ?_
    refine ax_newB (q := 21) (ci := 5) (N := 23) (S' := mS 0) (c1 := 211) (s1 := 2958) hX 210 dc_L_law_18 rfl rfl rfl wq_L_69 wz_M wn_LossFreeToolsModel ((kbk_blank (fs (scv L xs 0)) (fs (scv L xs 1))) 210 (by omega)).1 ((kbk_blank (fs (scv L xs 0)) (fs (scv L xs 1))) 210 (by omega)).2 (by decide) (by decide) rfl rfl rfl ?_
    refine ax_dup (q := 22) hX dc_L_law_21 rfl rfl ?_
    refine ax_saload_n (q := 23) hX dc_L_law_22 rfl rfl rfl ?_
    refine ax_iconst (v := nI 0) (q := 24) hX dc_L_law_23 rfl (by decide) ?_
    refine ax_callS1 (q := 27) (vs := [.retAddr b, .int (nI 0)]) (rest := [.ref 210, .ref 210]) hX dc_L_law_24 rfl mt_L_cell wl_L_60 wt_L_cell (c_L_cell l hscr hn31 (by decide)) rfl (by decide) rfl (Nat.le_of_ble_eq_true rfl) rfl rfl (by decide) (by decide) rfl ?_
    refine ax_saload_n (q := 28) hX dc_L_law_27 rfl rfl rfl ?_
    refine ax_iconst (v := nI 1) (q := 29) hX dc_L_law_28 rfl (by decide) ?_
    refine ax_callS1 (q := 32) (vs := [.retAddr b, .int (nI 1)]) (rest := [.int (scv L xs 0), .ref 210, .ref 210]) hX dc_L_law_29 rfl mt_L_cell wl_L_60 wt_L_cell (c_L_cell l hscr hn31 (by decide)) rfl (by decide) rfl (Nat.le_of_ble_eq_true rfl) rfl rfl (by decide) (by decide) rfl ?_
    refine ax_kI (q := 35) (vs := [.int (scv L xs 0), .int (scv L xs 1)]) (rest := [.ref 210]) (c1 := 227) (s1 := 5730) hX dc_L_law_32 rfl mt_M_init wl_L_71 wi_M_init rfl (c_M_init l (m_clear mOk_16)) rfl (by decide) rfl (Nat.le_of_ble_eq_true rfl) (by decide) (by decide) rfl rfl ?_
    refine ax_astore_n (ls' := [some (.retAddr b), some (.ref 0), some (.ref 210), none, none, none, none]) (q := 36) hX dc_L_law_35 rfl rfl (by decide) rfl ?_
    refine ax_iconst (v := 1) (q := 37) hX dc_L_law_36 rfl (by decide) ?_
    refine ax_newlB (q := 39) (len := 1) (S' := oS) (c1 := 228) (s1 := 5731) hX 227 dc_L_law_37 rfl ((oB (scv L xs 0) (scv L xs 1)) 227 (by omega)).1 ((oB (scv L xs 0) (scv L xs 1)) 227 (by omega)).2 rfl (by decide) (by decide) (by decide) rfl rfl rfl ?_
    refine ax_astore_n (ls' := [some (.retAddr b), some (.ref 0), some (.ref 210), some (.ref 227), none, none, none]) (q := 40) hX dc_L_law_39 rfl rfl (by decide) rfl ?_
    refine ax_iconst (v := nI 2) (q := 41) hX dc_L_law_40 rfl (by decide) ?_
    refine ax_istore (ls' := [some (.retAddr b), some (.ref 0), some (.ref 210), some (.ref 227), some (.int (nI 2)), none, none]) (q := 43) hX dc_L_law_41 rfl (by decide) rfl ?_
    exact lw_loop hl0 hX hscr hL oS_0 mOk_o.1 oS_227 P hP fin 1000 2 _ _ _ 228 5731 (by omega) (by omega) hP0 (by omega) (by omega)
  rw [hXe] at body
  have hcat : ∀ v ∈ ([Value.ref b] : List Value), v.category = 1 := fun v hv => by
    cases List.mem_singleton.mp hv
    rfl
  rw [entry_eq m _ hcat]
  exact body (fun _ => 0) s.heap [] _ (fun i h => absurd rfl h) (fun i h => absurd rfl h) ⟨fun i sh h => (by cases h), fun i j h => absurd rfl h, fun i k u h => absurd rfl h, fun z hz2 => ⟨hz z hz2, fun i h => absurd rfl h⟩⟩ va_S.rf (ax_entry_loc (fun _ => 0) [.retAddr b] (fun v hv => by cases List.mem_singleton.mp hv; rfl) (Nat.le_of_ble_eq_true rfl)) ⟨fun v hv => (by cases hv), fun v hv u hu => by
    subst hu
    simp at hv⟩
