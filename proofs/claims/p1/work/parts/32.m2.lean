def d_M_isTile (S : ax_S) (I : ax_I) (R : ax_R) (u0 : Nat) (x1 : Int32) : Option (Bool) :=
  (R u0 6).bind fun u1 =>
  (ax_ix S u1 (I u0 3)).bind fun j5 =>
  (d_M_in S I R (x1) (0) ((I u1 j5) - 1)).bind fun r9 =>
  some (r9)
set_option maxHeartbeats 1000000 in
theorem c_M_isTile (l : Launch) {S : ax_S} {I : ax_I} {R : ax_R} {L : ax_L} {u0 : Nat} {x1 : Int32} {out : Bool} (hty : ax_typ S R) (hs0 : S u0 = some (.inl 5)) (h : d_M_isTile S I R u0 x1 = some out) : ax_Met l y_M_isTile b_M_isTile 2 (some .boolean) (ax_rm 2 0 0) [.ref u0, .int x1] S I R L (ax_eq (some (.int (ax_b out))) S I R L) := by
  refine ax_enter (own := "LossFreeToolsModel") (by decide +kernel) rfl (ax_cats rfl) (Nat.le_of_ble_eq_true rfl) (fun X hX hF _ hS0 => ?_)
  show ax_W X 2 0 [some (.ref u0), some (.int (x1))] [] S I R L 0 0
  unfold d_M_isTile at h
  refine ax_iload_n (q := 1) hX dc_M_isTile_0 rfl rfl rfl ?_
  refine ax_iconst (v := 0) (q := 2) hX dc_M_isTile_1 rfl (by decide) ?_
  refine ax_aload_n (q := 3) hX dc_M_isTile_2 rfl rfl rfl ?_
  obtain ⟨u1, hu2, h⟩ := ax_bd h
  obtain ⟨n4, hs3⟩ : ∃ n, S u1 = some (.inr (0, n)) := hty.1 _ _ _ _ hs0 hu2
  refine ax_getR (q := 6) hX dc_M_isTile_3 rfl fl_M_16 rfl hs0 hu2 ?_
  refine ax_aload_n (q := 7) hX dc_M_isTile_6 rfl rfl rfl ?_
  refine ax_getI (q := 10) hX dc_M_isTile_7 rfl fl_M_71 rfl hs0 ?_
  obtain ⟨j5, hj6, h⟩ := ax_bd h
  have hj6 := ax_ix_s hty hs3 hj6
  refine ax_iald (q := 11) hX j5 dc_M_isTile_10 rfl hs3 hj6.1 hj6.2.1 hj6.2.2 ?_
  refine ax_iconst (v := 1) (q := 12) hX dc_M_isTile_11 rfl (by decide) ?_
  refine ax_isub (q := 13) hX dc_M_isTile_12 rfl ?_
  obtain ⟨r9, hr7, h⟩ := ax_bd h
  refine ax_kS (vs := [.int (x1), .int (0), .int ((I u1 j5) - 1)]) (rest := []) (q := 16) hX dc_M_isTile_13 rfl mt_M_in wl_M_84 wt_M_in (c_M_in l hty  hr7) rfl (by decide) rfl (Nat.le_of_ble_eq_true rfl) rfl rfl (by decide) (by decide) rfl ?_
  cases h
  exact ax_iret hX hF dc_M_isTile_16 rfl (ax_b_n _) (by decide) (by decide) ax_eq.mk (by rw [hS0]; exact fun _ _ z => z)
def d_M_isSample (S : ax_S) (I : ax_I) (R : ax_R) (u0 : Nat) (x1 : Int32) (x2 : Int32) : Option (Bool) :=
  (R u0 4).bind fun u1 =>
  (ax_ix S u1 (I u0 3)).bind fun j5 =>
  (d_M_in S I R (x1) (0) ((I u1 j5) - 1)).bind fun r9 =>
  if (ax_b r9) = 0 then
    some (false)
  else
    (R u0 5).bind fun u11 =>
    (ax_ix S u11 (I u0 3)).bind fun j15 =>
    (d_M_in S I R (x2) (0) ((I u11 j15) - 1)).bind fun r19 =>
    if (ax_b r19) = 0 then
      some (false)
    else
      some (true)
set_option maxHeartbeats 1000000 in
theorem c_M_isSample (l : Launch) {S : ax_S} {I : ax_I} {R : ax_R} {L : ax_L} {u0 : Nat} {x1 : Int32} {x2 : Int32} {out : Bool} (hty : ax_typ S R) (hs0 : S u0 = some (.inl 5)) (h : d_M_isSample S I R u0 x1 x2 = some out) : ax_Met l y_M_isSample b_M_isSample 3 (some .boolean) (ax_rm 2 0 0) [.ref u0, .int x1, .int x2] S I R L (ax_eq (some (.int (ax_b out))) S I R L) := by
  refine ax_enter (own := "LossFreeToolsModel") (by decide +kernel) rfl (ax_cats rfl) (Nat.le_of_ble_eq_true rfl) (fun X hX hF _ hS0 => ?_)
  show ax_W X 3 0 [some (.ref u0), some (.int (x1)), some (.int (x2))] [] S I R L 0 0
  unfold d_M_isSample at h
  refine ax_iload_n (q := 1) hX dc_M_isSample_0 rfl rfl rfl ?_
  refine ax_iconst (v := 0) (q := 2) hX dc_M_isSample_1 rfl (by decide) ?_
  refine ax_aload_n (q := 3) hX dc_M_isSample_2 rfl rfl rfl ?_
  obtain ⟨u1, hu2, h⟩ := ax_bd h
  obtain ⟨n4, hs3⟩ : ∃ n, S u1 = some (.inr (0, n)) := hty.1 _ _ _ _ hs0 hu2
  refine ax_getR (q := 6) hX dc_M_isSample_3 rfl fl_M_7 rfl hs0 hu2 ?_
  refine ax_aload_n (q := 7) hX dc_M_isSample_6 rfl rfl rfl ?_
  refine ax_getI (q := 10) hX dc_M_isSample_7 rfl fl_M_71 rfl hs0 ?_
  obtain ⟨j5, hj6, h⟩ := ax_bd h
  have hj6 := ax_ix_s hty hs3 hj6
  refine ax_iald (q := 11) hX j5 dc_M_isSample_10 rfl hs3 hj6.1 hj6.2.1 hj6.2.2 ?_
  refine ax_iconst (v := 1) (q := 12) hX dc_M_isSample_11 rfl (by decide) ?_
  refine ax_isub (q := 13) hX dc_M_isSample_12 rfl ?_
  obtain ⟨r9, hr7, h⟩ := ax_bd h
  refine ax_kS (vs := [.int (x1), .int (0), .int ((I u1 j5) - 1)]) (rest := []) (q := 16) hX dc_M_isSample_13 rfl mt_M_in wl_M_84 wt_M_in (c_M_in l hty  hr7) rfl (by decide) rfl (Nat.le_of_ble_eq_true rfl) rfl rfl (by decide) (by decide) rfl ?_
  refine ax_if_eq (tgt := 42) (q := 19) hX dc_M_isSample_16 rfl (by decide) (fun z10 => ?_) (fun z10 => ?_)
  · rw [if_pos z10] at h
    refine ax_iconst (v := 0) (q := 43) hX dc_M_isSample_42 rfl (by decide) ?_
    cases h
    exact ax_iret hX hF dc_M_isSample_43 rfl rfl (by decide) (by decide) ax_eq.mk (by rw [hS0]; exact fun _ _ z => z)
  · rw [if_neg z10] at h
    refine ax_iload_n (q := 20) hX dc_M_isSample_19 rfl rfl rfl ?_
    refine ax_iconst (v := 0) (q := 21) hX dc_M_isSample_20 rfl (by decide) ?_
    refine ax_aload_n (q := 22) hX dc_M_isSample_21 rfl rfl rfl ?_
    obtain ⟨u11, hu12, h⟩ := ax_bd h
    obtain ⟨n14, hs13⟩ : ∃ n, S u11 = some (.inr (0, n)) := hty.1 _ _ _ _ hs0 hu12
    refine ax_getR (q := 25) hX dc_M_isSample_22 rfl fl_M_13 rfl hs0 hu12 ?_
    refine ax_aload_n (q := 26) hX dc_M_isSample_25 rfl rfl rfl ?_
    refine ax_getI (q := 29) hX dc_M_isSample_26 rfl fl_M_71 rfl hs0 ?_
    obtain ⟨j15, hj16, h⟩ := ax_bd h
    have hj16 := ax_ix_s hty hs13 hj16
    refine ax_iald (q := 30) hX j15 dc_M_isSample_29 rfl hs13 hj16.1 hj16.2.1 hj16.2.2 ?_
    refine ax_iconst (v := 1) (q := 31) hX dc_M_isSample_30 rfl (by decide) ?_
    refine ax_isub (q := 32) hX dc_M_isSample_31 rfl ?_
    obtain ⟨r19, hr17, h⟩ := ax_bd h
    refine ax_kS (vs := [.int (x2), .int (0), .int ((I u11 j15) - 1)]) (rest := []) (q := 35) hX dc_M_isSample_32 rfl mt_M_in wl_M_84 wt_M_in (c_M_in l hty  hr17) rfl (by decide) rfl (Nat.le_of_ble_eq_true rfl) rfl rfl (by decide) (by decide) rfl ?_
    refine ax_if_eq (tgt := 42) (q := 38) hX dc_M_isSample_35 rfl (by decide) (fun z20 => ?_) (fun z20 => ?_)
    · rw [if_pos z20] at h
      refine ax_iconst (v := 0) (q := 43) hX dc_M_isSample_42 rfl (by decide) ?_
      cases h
      exact ax_iret hX hF dc_M_isSample_43 rfl rfl (by decide) (by decide) ax_eq.mk (by rw [hS0]; exact fun _ _ z => z)
    · rw [if_neg z20] at h
      refine ax_iconst (v := 1) (q := 39) hX dc_M_isSample_38 rfl (by decide) ?_
      refine ax_goto (tgt := 43) hX dc_M_isSample_39 (by decide) ?_
      cases h
      exact ax_iret hX hF dc_M_isSample_43 rfl rfl (by decide) (by decide) ax_eq.mk (by rw [hS0]; exact fun _ _ z => z)
def d_M_tile_196 (S : ax_S) (I : ax_I) (R : ax_R) (u0 : Nat) (x1 : Int32) (x2 : Int32) (x3 : Int32) (x4 : Int32) (y0 : Int32) (w1 : Nat) : Option (Int32 × ax_I) :=
  (some (ax_up I w1 0 (y0))).bind fun I77 =>
  if (I77 u0 0) ≤ 0 then
    (R u0 6).bind fun u80 =>
    (ax_ix S u80 (I77 u0 3)).bind fun j84 =>
    (d_M_tileAt S I77 R u0 (I77 u80 j84)).bind fun r88 =>
    (R u0 8).bind fun u89 =>
    (ax_ix S u89 (r88)).bind fun j93 =>
    (some (ax_up I77 u89 j93 (x1))).bind fun I95 =>
    (R u0 9).bind fun u97 =>
    (ax_ix S u97 (r88)).bind fun j101 =>
    (some (ax_up I95 u97 j101 (x2))).bind fun I103 =>
    (R u0 10).bind fun u105 =>
    (ax_ix S u105 (r88)).bind fun j109 =>
    (some (ax_up I103 u105 j109 (x3))).bind fun I111 =>
    (R u0 11).bind fun u113 =>
    (ax_ix S u113 (r88)).bind fun j117 =>
    (some (ax_up I111 u113 j117 (x4))).bind fun I119 =>
    (R u0 12).bind fun u121 =>
    (ax_ix S u121 (r88)).bind fun j125 =>
    (some (ax_up I119 u121 j125 (0))).bind fun I127 =>
    (R u0 13).bind fun u129 =>
    (ax_ix S u129 (r88)).bind fun j133 =>
    (some (ax_up I127 u129 j133 (0))).bind fun I135 =>
    (R u0 6).bind fun u137 =>
    (ax_ix S u137 (I135 u0 3)).bind fun j141 =>
    (ax_ix S u137 (I135 u0 3)).bind fun j143 =>
    (some (ax_up I135 u137 j143 ((I135 u137 j141) + 1))).bind fun I145 =>
    (some (ax_up I145 u0 19 (0))).bind fun I147 =>
    (R u0 6).bind fun u149 =>
    (ax_ix S u149 (I147 u0 3)).bind fun j153 =>
    some ((I147 u149 j153) - 1, I147)
  else
    some (0, I77)
set_option maxHeartbeats 1000000 in
theorem e_M_tile_196 {l : Launch} {X : ax_X} {S : ax_S} {L : ax_L} {R0 : ax_R} {out : Int32 × ax_I} (hX : ax_ok X l "LossFreeToolsModel" b_M_tile 8 (ax_rm 2 0 0)) (hF : ax_fin X (some .int) 0 0 (ax_of (ax_eq (some (.int out.1)) S out.2 R0 L))) (hS0 : ax_S0 X = S) : ∀ (I : ax_I) (R : ax_R) (u0 : Nat) (x1 : Int32) (x2 : Int32) (x3 : Int32) (x4 : Int32) (y0 : Int32) (w1 : Nat), ax_typ S R → (S u0 = some (.inl 5)) → (S w1 = some (.inl 5)) → R = R0 → d_M_tile_196 S  I R u0 x1 x2 x3 x4 y0 w1 = some out → ax_W X 8 196 [some (.ref u0), some (.int (x1)), some (.int (x2)), some (.int (x3)), some (.int (x4)), none, none, none] [.int (y0), .ref w1] S I R L 0 0 := by
  rintro I R u0 x1 x2 x3 x4 y0 w1 hty hs0_ hw1_ hR0 h
  subst hR0
  unfold d_M_tile_196 at h
  obtain ⟨I77, e78, h⟩ := ax_bs h
  refine ax_putI (q := 199) hX dc_M_tile_196 rfl fl_M_68 rfl hw1_ (fun z => by cases z) rfl rfl e78 ?_
  refine ax_aload_n (q := 200) hX dc_M_tile_199 rfl rfl rfl ?_
  refine ax_getI (q := 203) hX dc_M_tile_200 rfl fl_M_68 rfl hs0_ ?_
  refine ax_if_le (tgt := 208) (q := 206) hX dc_M_tile_203 rfl (by decide) (fun z79 => ?_) (fun z79 => ?_)
  · rw [if_pos z79] at h
    refine ax_aload_n (q := 209) hX dc_M_tile_208 rfl rfl rfl ?_
    refine ax_aload_n (q := 210) hX dc_M_tile_209 rfl rfl rfl ?_
    obtain ⟨u80, hu81, h⟩ := ax_bd h
    obtain ⟨n83, hs82⟩ : ∃ n, S u80 = some (.inr (0, n)) := hty.1 _ _ _ _ hs0_ hu81
    refine ax_getR (q := 213) hX dc_M_tile_210 rfl fl_M_16 rfl hs0_ hu81 ?_
    refine ax_aload_n (q := 214) hX dc_M_tile_213 rfl rfl rfl ?_
    refine ax_getI (q := 217) hX dc_M_tile_214 rfl fl_M_71 rfl hs0_ ?_
    obtain ⟨j84, hj85, h⟩ := ax_bd h
    have hj85 := ax_ix_s hty hs82 hj85
    refine ax_iald (q := 218) hX j84 dc_M_tile_217 rfl hs82 hj85.1 hj85.2.1 hj85.2.2 ?_
    obtain ⟨r88, hr86, h⟩ := ax_bd h
    refine ax_kV (vs := [.int (I77 u80 j84)]) (rest := []) (q := 221) hX dc_M_tile_218 rfl mt_M_tileAt wl_M_92 wi_M_tileAt ws_M_tileAt hs0_ rfl (c_M_tileAt l hty hs0_ hr86) rfl (by decide) rfl (Nat.le_of_ble_eq_true rfl) rfl rfl (by decide) (by decide) rfl ?_
    refine ax_istore (ls' := [some (.ref u0), some (.int (x1)), some (.int (x2)), some (.int (x3)), some (.int (x4)), some (.int (r88)), none, none]) (q := 223) hX dc_M_tile_221 rfl (by decide) rfl ?_
    refine ax_aload_n (q := 224) hX dc_M_tile_223 rfl rfl rfl ?_
    obtain ⟨u89, hu90, h⟩ := ax_bd h
    obtain ⟨n92, hs91⟩ : ∃ n, S u89 = some (.inr (0, n)) := hty.1 _ _ _ _ hs0_ hu90
    refine ax_getR (q := 227) hX dc_M_tile_224 rfl fl_M_22 rfl hs0_ hu90 ?_
    refine ax_iload (q := 229) hX dc_M_tile_227 rfl rfl ?_
    refine ax_iload_n (q := 230) hX dc_M_tile_229 rfl rfl rfl ?_
    obtain ⟨j93, hj94, h⟩ := ax_bd h
    have hj94 := ax_ix_s hty hs91 hj94
    obtain ⟨I95, e96, h⟩ := ax_bs h
    refine ax_iast (q := 231) hX j93 dc_M_tile_230 rfl hs91 hj94.1 hj94.2.1 hj94.2.2 e96 ?_
    refine ax_aload_n (q := 232) hX dc_M_tile_231 rfl rfl rfl ?_
    obtain ⟨u97, hu98, h⟩ := ax_bd h
    obtain ⟨n100, hs99⟩ : ∃ n, S u97 = some (.inr (0, n)) := hty.1 _ _ _ _ hs0_ hu98
    refine ax_getR (q := 235) hX dc_M_tile_232 rfl fl_M_25 rfl hs0_ hu98 ?_
    refine ax_iload (q := 237) hX dc_M_tile_235 rfl rfl ?_
    refine ax_iload_n (q := 238) hX dc_M_tile_237 rfl rfl rfl ?_
    obtain ⟨j101, hj102, h⟩ := ax_bd h
    have hj102 := ax_ix_s hty hs99 hj102
    obtain ⟨I103, e104, h⟩ := ax_bs h
    refine ax_iast (q := 239) hX j101 dc_M_tile_238 rfl hs99 hj102.1 hj102.2.1 hj102.2.2 e104 ?_
    refine ax_aload_n (q := 240) hX dc_M_tile_239 rfl rfl rfl ?_
    obtain ⟨u105, hu106, h⟩ := ax_bd h
    obtain ⟨n108, hs107⟩ : ∃ n, S u105 = some (.inr (0, n)) := hty.1 _ _ _ _ hs0_ hu106
    refine ax_getR (q := 243) hX dc_M_tile_240 rfl fl_M_28 rfl hs0_ hu106 ?_
    refine ax_iload (q := 245) hX dc_M_tile_243 rfl rfl ?_
    refine ax_iload_n (q := 246) hX dc_M_tile_245 rfl rfl rfl ?_
    obtain ⟨j109, hj110, h⟩ := ax_bd h
    have hj110 := ax_ix_s hty hs107 hj110
    obtain ⟨I111, e112, h⟩ := ax_bs h
    refine ax_iast (q := 247) hX j109 dc_M_tile_246 rfl hs107 hj110.1 hj110.2.1 hj110.2.2 e112 ?_
    refine ax_aload_n (q := 248) hX dc_M_tile_247 rfl rfl rfl ?_
    obtain ⟨u113, hu114, h⟩ := ax_bd h
    obtain ⟨n116, hs115⟩ : ∃ n, S u113 = some (.inr (0, n)) := hty.1 _ _ _ _ hs0_ hu114
    refine ax_getR (q := 251) hX dc_M_tile_248 rfl fl_M_31 rfl hs0_ hu114 ?_
    refine ax_iload (q := 253) hX dc_M_tile_251 rfl rfl ?_
    refine ax_iload (q := 255) hX dc_M_tile_253 rfl rfl ?_
    obtain ⟨j117, hj118, h⟩ := ax_bd h
    have hj118 := ax_ix_s hty hs115 hj118
    obtain ⟨I119, e120, h⟩ := ax_bs h
    refine ax_iast (q := 256) hX j117 dc_M_tile_255 rfl hs115 hj118.1 hj118.2.1 hj118.2.2 e120 ?_
    refine ax_aload_n (q := 257) hX dc_M_tile_256 rfl rfl rfl ?_
    obtain ⟨u121, hu122, h⟩ := ax_bd h
    obtain ⟨n124, hs123⟩ : ∃ n, S u121 = some (.inr (0, n)) := hty.1 _ _ _ _ hs0_ hu122
    refine ax_getR (q := 260) hX dc_M_tile_257 rfl fl_M_34 rfl hs0_ hu122 ?_
    refine ax_iload (q := 262) hX dc_M_tile_260 rfl rfl ?_
    refine ax_iconst (v := 0) (q := 263) hX dc_M_tile_262 rfl (by decide) ?_
    obtain ⟨j125, hj126, h⟩ := ax_bd h
    have hj126 := ax_ix_s hty hs123 hj126
    obtain ⟨I127, e128, h⟩ := ax_bs h
    refine ax_iast (q := 264) hX j125 dc_M_tile_263 rfl hs123 hj126.1 hj126.2.1 hj126.2.2 e128 ?_
    refine ax_aload_n (q := 265) hX dc_M_tile_264 rfl rfl rfl ?_
    obtain ⟨u129, hu130, h⟩ := ax_bd h
    obtain ⟨n132, hs131⟩ : ∃ n, S u129 = some (.inr (0, n)) := hty.1 _ _ _ _ hs0_ hu130
    refine ax_getR (q := 268) hX dc_M_tile_265 rfl fl_M_37 rfl hs0_ hu130 ?_
    refine ax_iload (q := 270) hX dc_M_tile_268 rfl rfl ?_
    refine ax_iconst (v := 0) (q := 271) hX dc_M_tile_270 rfl (by decide) ?_
    obtain ⟨j133, hj134, h⟩ := ax_bd h
    have hj134 := ax_ix_s hty hs131 hj134
    obtain ⟨I135, e136, h⟩ := ax_bs h
    refine ax_iast (q := 272) hX j133 dc_M_tile_271 rfl hs131 hj134.1 hj134.2.1 hj134.2.2 e136 ?_
    refine ax_aload_n (q := 273) hX dc_M_tile_272 rfl rfl rfl ?_
    obtain ⟨u137, hu138, h⟩ := ax_bd h
    obtain ⟨n140, hs139⟩ : ∃ n, S u137 = some (.inr (0, n)) := hty.1 _ _ _ _ hs0_ hu138
    refine ax_getR (q := 276) hX dc_M_tile_273 rfl fl_M_16 rfl hs0_ hu138 ?_
    refine ax_aload_n (q := 277) hX dc_M_tile_276 rfl rfl rfl ?_
    refine ax_getI (q := 280) hX dc_M_tile_277 rfl fl_M_71 rfl hs0_ ?_
    refine ax_dup2 (q := 281) hX dc_M_tile_280 rfl rfl rfl ?_
    obtain ⟨j141, hj142, h⟩ := ax_bd h
    have hj142 := ax_ix_s hty hs139 hj142
    refine ax_iald (q := 282) hX j141 dc_M_tile_281 rfl hs139 hj142.1 hj142.2.1 hj142.2.2 ?_
    refine ax_iconst (v := 1) (q := 283) hX dc_M_tile_282 rfl (by decide) ?_
    refine ax_iadd (q := 284) hX dc_M_tile_283 rfl ?_
    obtain ⟨j143, hj144, h⟩ := ax_bd h
    have hj144 := ax_ix_s hty hs139 hj144
    obtain ⟨I145, e146, h⟩ := ax_bs h
    refine ax_iast (q := 285) hX j143 dc_M_tile_284 rfl hs139 hj144.1 hj144.2.1 hj144.2.2 e146 ?_
    refine ax_aload_n (q := 286) hX dc_M_tile_285 rfl rfl rfl ?_
    refine ax_iconst (v := 0) (q := 287) hX dc_M_tile_286 rfl (by decide) ?_
    obtain ⟨I147, e148, h⟩ := ax_bs h
    refine ax_putI (q := 290) hX dc_M_tile_287 rfl fl_M_77 rfl hs0_ (fun z => by cases z) rfl rfl e148 ?_
    refine ax_aload_n (q := 291) hX dc_M_tile_290 rfl rfl rfl ?_
    obtain ⟨u149, hu150, h⟩ := ax_bd h
    obtain ⟨n152, hs151⟩ : ∃ n, S u149 = some (.inr (0, n)) := hty.1 _ _ _ _ hs0_ hu150
    refine ax_getR (q := 294) hX dc_M_tile_291 rfl fl_M_16 rfl hs0_ hu150 ?_
    refine ax_aload_n (q := 295) hX dc_M_tile_294 rfl rfl rfl ?_
    refine ax_getI (q := 298) hX dc_M_tile_295 rfl fl_M_71 rfl hs0_ ?_
    obtain ⟨j153, hj154, h⟩ := ax_bd h
    have hj154 := ax_ix_s hty hs151 hj154
    refine ax_iald (q := 299) hX j153 dc_M_tile_298 rfl hs151 hj154.1 hj154.2.1 hj154.2.2 ?_
    refine ax_iconst (v := 1) (q := 300) hX dc_M_tile_299 rfl (by decide) ?_
    refine ax_isub (q := 301) hX dc_M_tile_300 rfl ?_
    cases h
    exact ax_iret hX hF dc_M_tile_301 rfl rfl (by decide) (by decide) ax_eq.mk (by rw [hS0]; exact fun _ _ z => z)
  · rw [if_neg z79] at h
    refine ax_iconst (v := 0) (q := 207) hX dc_M_tile_206 rfl (by decide) ?_
    cases h
    exact ax_iret hX hF dc_M_tile_207 rfl rfl (by decide) (by decide) ax_eq.mk (by rw [hS0]; exact fun _ _ z => z)
def d_M_tile_192 (S : ax_S) (I : ax_I) (R : ax_R) (u0 : Nat) (x1 : Int32) (x2 : Int32) (x3 : Int32) (x4 : Int32) (w0 : Nat) : Option (Int32 × ax_I) :=
  d_M_tile_196 S  I R u0 (x1) (x2) (x3) (x4) (I u0 0) w0
set_option maxHeartbeats 1000000 in
theorem e_M_tile_192 {l : Launch} {X : ax_X} {S : ax_S} {L : ax_L} {R0 : ax_R} {out : Int32 × ax_I} (hX : ax_ok X l "LossFreeToolsModel" b_M_tile 8 (ax_rm 2 0 0)) (hF : ax_fin X (some .int) 0 0 (ax_of (ax_eq (some (.int out.1)) S out.2 R0 L))) (hS0 : ax_S0 X = S) : ∀ (I : ax_I) (R : ax_R) (u0 : Nat) (x1 : Int32) (x2 : Int32) (x3 : Int32) (x4 : Int32) (w0 : Nat), ax_typ S R → (S u0 = some (.inl 5)) → (S w0 = some (.inl 5)) → R = R0 → d_M_tile_192 S  I R u0 x1 x2 x3 x4 w0 = some out → ax_W X 8 192 [some (.ref u0), some (.int (x1)), some (.int (x2)), some (.int (x3)), some (.int (x4)), none, none, none] [.ref w0] S I R L 0 0 := by
  rintro I R u0 x1 x2 x3 x4 w0 hty hs0_ hw0_ hR0 h
  subst hR0
  unfold d_M_tile_192 at h
  refine ax_aload_n (q := 193) hX dc_M_tile_192 rfl rfl rfl ?_
  refine ax_getI (q := 196) hX dc_M_tile_193 rfl fl_M_68 rfl hs0_ ?_
  exact (e_M_tile_196 hX hF hS0  I R u0 (x1) (x2) (x3) (x4) (I u0 0) w0 hty hs0_ hw0_ rfl h)
def d_M_tile_166 (S : ax_S) (I : ax_I) (R : ax_R) (u0 : Nat) (x1 : Int32) (x2 : Int32) (x3 : Int32) (x4 : Int32) : Option (Int32 × ax_I) :=
  if (I u0 0) = 0 then
    (R u0 6).bind fun u70 =>
    (ax_ix S u70 (I u0 3)).bind fun j74 =>
    if (I u70 j74) = 40 then
      d_M_tile_196 S  I R u0 (x1) (x2) (x3) (x4) (3) u0
    else
      d_M_tile_192 S  I R u0 (x1) (x2) (x3) (x4) u0
  else
    d_M_tile_192 S  I R u0 (x1) (x2) (x3) (x4) u0
set_option maxHeartbeats 1000000 in
theorem e_M_tile_166 {l : Launch} {X : ax_X} {S : ax_S} {L : ax_L} {R0 : ax_R} {out : Int32 × ax_I} (hX : ax_ok X l "LossFreeToolsModel" b_M_tile 8 (ax_rm 2 0 0)) (hF : ax_fin X (some .int) 0 0 (ax_of (ax_eq (some (.int out.1)) S out.2 R0 L))) (hS0 : ax_S0 X = S) : ∀ (I : ax_I) (R : ax_R) (u0 : Nat) (x1 : Int32) (x2 : Int32) (x3 : Int32) (x4 : Int32), ax_typ S R → (S u0 = some (.inl 5)) → R = R0 → d_M_tile_166 S  I R u0 x1 x2 x3 x4 = some out → ax_W X 8 166 [some (.ref u0), some (.int (x1)), some (.int (x2)), some (.int (x3)), some (.int (x4)), none, none, none] [] S I R L 0 0 := by
  rintro I R u0 x1 x2 x3 x4 hty hs0_ hR0 h
  subst hR0
  unfold d_M_tile_166 at h
  refine ax_aload_n (q := 167) hX dc_M_tile_166 rfl rfl rfl ?_
  refine ax_aload_n (q := 168) hX dc_M_tile_167 rfl rfl rfl ?_
  refine ax_getI (q := 171) hX dc_M_tile_168 rfl fl_M_68 rfl hs0_ ?_
  refine ax_if_ne (tgt := 192) (q := 174) hX dc_M_tile_171 rfl (by decide) (fun z69 => ?_) (fun z69 => ?_)
  · rw [if_neg z69] at h
    exact (e_M_tile_192 hX hF hS0  I R u0 (x1) (x2) (x3) (x4) u0 hty hs0_ hs0_ rfl h)
  · rw [if_pos z69] at h
    refine ax_aload_n (q := 175) hX dc_M_tile_174 rfl rfl rfl ?_
    obtain ⟨u70, hu71, h⟩ := ax_bd h
    obtain ⟨n73, hs72⟩ : ∃ n, S u70 = some (.inr (0, n)) := hty.1 _ _ _ _ hs0_ hu71
    refine ax_getR (q := 178) hX dc_M_tile_175 rfl fl_M_16 rfl hs0_ hu71 ?_
    refine ax_aload_n (q := 179) hX dc_M_tile_178 rfl rfl rfl ?_
    refine ax_getI (q := 182) hX dc_M_tile_179 rfl fl_M_71 rfl hs0_ ?_
    obtain ⟨j74, hj75, h⟩ := ax_bd h
    have hj75 := ax_ix_s hty hs72 hj75
    refine ax_iald (q := 183) hX j74 dc_M_tile_182 rfl hs72 hj75.1 hj75.2.1 hj75.2.2 ?_
    refine ax_bipush (v := 40) (q := 185) hX dc_M_tile_183 rfl (by decide) ?_
    refine ax_icmp_ne (tgt := 192) (q := 188) hX dc_M_tile_185 rfl (by decide) (fun z76 => ?_) (fun z76 => ?_)
    · rw [if_neg z76] at h
      exact (e_M_tile_192 hX hF hS0  I R u0 (x1) (x2) (x3) (x4) u0 hty hs0_ hs0_ rfl h)
    · rw [if_pos z76] at h
      refine ax_iconst (v := 3) (q := 189) hX dc_M_tile_188 rfl (by decide) ?_
      refine ax_goto (tgt := 196) hX dc_M_tile_189 (by decide) ?_
      exact (e_M_tile_196 hX hF hS0  I R u0 (x1) (x2) (x3) (x4) (3) u0 hty hs0_ hs0_ rfl h)
def d_M_tile_157 (S : ax_S) (rec45 : ax_I → ax_R → Nat → Int32 → Int32 → Int32 → Int32 → Int32 → Option (Int32 × ax_I)) (I : ax_I) (R : ax_R) (u0 : Nat) (x1 : Int32) (x2 : Int32) (x3 : Int32) (x4 : Int32) (x5 : Int32) (y0 : Int32) (w1 : Nat) : Option (Int32 × ax_I) :=
  (some (ax_up I w1 0 (y0))).bind fun I67 =>
  rec45 I67 R u0 (x1) (x2) (x3) (x4) (x5 + 1)
set_option maxHeartbeats 1000000 in
theorem e_M_tile_157 {l : Launch} {X : ax_X} {S : ax_S} {L : ax_L} {R0 : ax_R} {out : Int32 × ax_I} (hX : ax_ok X l "LossFreeToolsModel" b_M_tile 8 (ax_rm 2 0 0)) (hF : ax_fin X (some .int) 0 0 (ax_of (ax_eq (some (.int out.1)) S out.2 R0 L))) (hS0 : ax_S0 X = S) (rec45 : ax_I → ax_R → Nat → Int32 → Int32 → Int32 → Int32 → Int32 → Option (Int32 × ax_I)) (hrec45 : ∀ (I : ax_I) (R : ax_R) (u0 : Nat) (x1 : Int32) (x2 : Int32) (x3 : Int32) (x4 : Int32) (x5 : Int32), ax_typ S R → (S u0 = some (.inl 5)) → R = R0 → rec45 I R u0 x1 x2 x3 x4 x5 = some out → ax_W X 8 45 [some (.ref u0), some (.int (x1)), some (.int (x2)), some (.int (x3)), some (.int (x4)), some (.int (x5)), none, none] [] S I R L 0 0) : ∀ (I : ax_I) (R : ax_R) (u0 : Nat) (x1 : Int32) (x2 : Int32) (x3 : Int32) (x4 : Int32) (x5 : Int32) (y0 : Int32) (w1 : Nat), ax_typ S R → (S u0 = some (.inl 5)) → (S w1 = some (.inl 5)) → R = R0 → d_M_tile_157 S rec45 I R u0 x1 x2 x3 x4 x5 y0 w1 = some out → ax_W X 8 157 [some (.ref u0), some (.int (x1)), some (.int (x2)), some (.int (x3)), some (.int (x4)), some (.int (x5)), none, none] [.int (y0), .ref w1] S I R L 0 0 := by
  rintro I R u0 x1 x2 x3 x4 x5 y0 w1 hty hs0_ hw1_ hR0 h
  subst hR0
  unfold d_M_tile_157 at h
  obtain ⟨I67, e68, h⟩ := ax_bs h
  refine ax_putI (q := 160) hX dc_M_tile_157 rfl fl_M_68 rfl hw1_ (fun z => by cases z) rfl rfl e68 ?_
  refine ax_iinc (v := x5 + 1) (ls' := [some (.ref u0), some (.int (x1)), some (.int (x2)), some (.int (x3)), some (.int (x4)), some (.int (x5 + 1)), none, none]) (q := 163) hX dc_M_tile_160 rfl rfl rfl (by decide) rfl ?_
  refine ax_goto (tgt := 45) hX dc_M_tile_163 (by decide) ?_
  exact (hrec45 I67 R u0 (x1) (x2) (x3) (x4) (x5 + 1) hty hs0_ rfl h)
def d_M_tile_144 (S : ax_S) (rec45 : ax_I → ax_R → Nat → Int32 → Int32 → Int32 → Int32 → Int32 → Option (Int32 × ax_I)) (I : ax_I) (R : ax_R) (u0 : Nat) (x1 : Int32) (x2 : Int32) (x3 : Int32) (x4 : Int32) (x5 : Int32) (y0 : Int32) : Option (Int32 × ax_I) :=
  if y0 = 0 then
    d_M_tile_157 S (rec45) I R u0 (x1) (x2) (x3) (x4) (x5) (2) u0
  else
    d_M_tile_157 S (rec45) I R u0 (x1) (x2) (x3) (x4) (x5) (0) u0
set_option maxHeartbeats 1000000 in
theorem e_M_tile_144 {l : Launch} {X : ax_X} {S : ax_S} {L : ax_L} {R0 : ax_R} {out : Int32 × ax_I} (hX : ax_ok X l "LossFreeToolsModel" b_M_tile 8 (ax_rm 2 0 0)) (hF : ax_fin X (some .int) 0 0 (ax_of (ax_eq (some (.int out.1)) S out.2 R0 L))) (hS0 : ax_S0 X = S) (rec45 : ax_I → ax_R → Nat → Int32 → Int32 → Int32 → Int32 → Int32 → Option (Int32 × ax_I)) (hrec45 : ∀ (I : ax_I) (R : ax_R) (u0 : Nat) (x1 : Int32) (x2 : Int32) (x3 : Int32) (x4 : Int32) (x5 : Int32), ax_typ S R → (S u0 = some (.inl 5)) → R = R0 → rec45 I R u0 x1 x2 x3 x4 x5 = some out → ax_W X 8 45 [some (.ref u0), some (.int (x1)), some (.int (x2)), some (.int (x3)), some (.int (x4)), some (.int (x5)), none, none] [] S I R L 0 0) : ∀ (I : ax_I) (R : ax_R) (u0 : Nat) (x1 : Int32) (x2 : Int32) (x3 : Int32) (x4 : Int32) (x5 : Int32) (y0 : Int32), ax_typ S R → (S u0 = some (.inl 5)) → R = R0 → d_M_tile_144 S rec45 I R u0 x1 x2 x3 x4 x5 y0 = some out → ax_W X 8 144 [some (.ref u0), some (.int (x1)), some (.int (x2)), some (.int (x3)), some (.int (x4)), some (.int (x5)), none, none] [.int (y0)] S I R L 0 0 := by
  rintro I R u0 x1 x2 x3 x4 x5 y0 hty hs0_ hR0 h
  subst hR0
  unfold d_M_tile_144 at h
  refine ax_istore (ls' := [some (.ref u0), some (.int (x1)), some (.int (x2)), some (.int (x3)), some (.int (x4)), some (.int (x5)), none, some (.int (y0))]) (q := 146) hX dc_M_tile_144 rfl (by decide) rfl ?_
  refine ax_aload_n (q := 147) hX dc_M_tile_146 rfl rfl rfl ?_
  refine ax_iload (q := 149) hX dc_M_tile_147 rfl rfl ?_
  refine ax_if_eq (tgt := 156) (q := 152) hX dc_M_tile_149 rfl (by decide) (fun z66 => ?_) (fun z66 => ?_)
  · rw [if_pos z66] at h
    refine ax_iconst (v := 2) (q := 157) hX dc_M_tile_156 rfl (by decide) ?_
    exact ax_weak (ls' := [some (.ref u0), some (.int (x1)), some (.int (x2)), some (.int (x3)), some (.int (x4)), some (.int (x5)), none, none]) (ax_fewP_s _ _ (by repeat (first | exact trivial | (refine And.intro rfl ?_)))) (e_M_tile_157 hX hF hS0 (rec45) (hrec45) I R u0 (x1) (x2) (x3) (x4) (x5) (2) u0 hty hs0_ hs0_ rfl h)
  · rw [if_neg z66] at h
    refine ax_iconst (v := 0) (q := 153) hX dc_M_tile_152 rfl (by decide) ?_
    refine ax_goto (tgt := 157) hX dc_M_tile_153 (by decide) ?_
    exact ax_weak (ls' := [some (.ref u0), some (.int (x1)), some (.int (x2)), some (.int (x3)), some (.int (x4)), some (.int (x5)), none, none]) (ax_fewP_s _ _ (by repeat (first | exact trivial | (refine And.intro rfl ?_)))) (e_M_tile_157 hX hF hS0 (rec45) (hrec45) I R u0 (x1) (x2) (x3) (x4) (x5) (0) u0 hty hs0_ hs0_ rfl h)
def d_M_tile_139 (S : ax_S) (rec45 : ax_I → ax_R → Nat → Int32 → Int32 → Int32 → Int32 → Int32 → Option (Int32 × ax_I)) (I : ax_I) (R : ax_R) (u0 : Nat) (x1 : Int32) (x2 : Int32) (x3 : Int32) (x4 : Int32) (x5 : Int32) : Option (Int32 × ax_I) :=
  d_M_tile_144 S (rec45) I R u0 (x1) (x2) (x3) (x4) (x5) (1)
set_option maxHeartbeats 1000000 in
theorem e_M_tile_139 {l : Launch} {X : ax_X} {S : ax_S} {L : ax_L} {R0 : ax_R} {out : Int32 × ax_I} (hX : ax_ok X l "LossFreeToolsModel" b_M_tile 8 (ax_rm 2 0 0)) (hF : ax_fin X (some .int) 0 0 (ax_of (ax_eq (some (.int out.1)) S out.2 R0 L))) (hS0 : ax_S0 X = S) (rec45 : ax_I → ax_R → Nat → Int32 → Int32 → Int32 → Int32 → Int32 → Option (Int32 × ax_I)) (hrec45 : ∀ (I : ax_I) (R : ax_R) (u0 : Nat) (x1 : Int32) (x2 : Int32) (x3 : Int32) (x4 : Int32) (x5 : Int32), ax_typ S R → (S u0 = some (.inl 5)) → R = R0 → rec45 I R u0 x1 x2 x3 x4 x5 = some out → ax_W X 8 45 [some (.ref u0), some (.int (x1)), some (.int (x2)), some (.int (x3)), some (.int (x4)), some (.int (x5)), none, none] [] S I R L 0 0) : ∀ (I : ax_I) (R : ax_R) (u0 : Nat) (x1 : Int32) (x2 : Int32) (x3 : Int32) (x4 : Int32) (x5 : Int32), ax_typ S R → (S u0 = some (.inl 5)) → R = R0 → d_M_tile_139 S rec45 I R u0 x1 x2 x3 x4 x5 = some out → ax_W X 8 139 [some (.ref u0), some (.int (x1)), some (.int (x2)), some (.int (x3)), some (.int (x4)), some (.int (x5)), none, none] [] S I R L 0 0 := by
  rintro I R u0 x1 x2 x3 x4 x5 hty hs0_ hR0 h
  subst hR0
  unfold d_M_tile_139 at h
  refine ax_iconst (v := 1) (q := 140) hX dc_M_tile_139 rfl (by decide) ?_
  refine ax_goto (tgt := 144) hX dc_M_tile_140 (by decide) ?_
  exact (e_M_tile_144 hX hF hS0 (rec45) (hrec45) I R u0 (x1) (x2) (x3) (x4) (x5) (1) hty hs0_ rfl h)
def d_M_tile_45 (S : ax_S) : Nat → ax_I → ax_R → Nat → Int32 → Int32 → Int32 → Int32 → Int32 → Option (Int32 × ax_I)
  | 0, _, _, _, _, _, _, _, _ => none
  | n + 1, I, R, u0, x1, x2, x3, x4, x5 =>
    (R u0 6).bind fun u15 =>
    (ax_ix S u15 (I u0 3)).bind fun j19 =>
    if (I u15 j19) ≤ x5 then
      d_M_tile_166 S  I R u0 (x1) (x2) (x3) (x4)
    else
      if (I u0 0) = 0 then
        (d_M_tileAt S I R u0 (x5)).bind fun r25 =>
        (R u0 8).bind fun u26 =>
        (ax_ix S u26 (r25)).bind fun j30 =>
        if (x1 + x3) ≤ (I u26 j30) then
          d_M_tile_139 S (d_M_tile_45 S  n) I R u0 (x1) (x2) (x3) (x4) (x5)
        else
          (R u0 8).bind fun u33 =>
          (ax_ix S u33 (r25)).bind fun j37 =>
          (R u0 10).bind fun u39 =>
          (ax_ix S u39 (r25)).bind fun j43 =>
          if ((I u33 j37) + (I u39 j43)) ≤ x1 then
            d_M_tile_139 S (d_M_tile_45 S  n) I R u0 (x1) (x2) (x3) (x4) (x5)
          else
            (R u0 9).bind fun u46 =>
            (ax_ix S u46 (r25)).bind fun j50 =>
            if (x2 + x4) ≤ (I u46 j50) then
              d_M_tile_139 S (d_M_tile_45 S  n) I R u0 (x1) (x2) (x3) (x4) (x5)
            else
              (R u0 9).bind fun u53 =>
              (ax_ix S u53 (r25)).bind fun j57 =>
              (R u0 11).bind fun u59 =>
              (ax_ix S u59 (r25)).bind fun j63 =>
              if x2 < ((I u53 j57) + (I u59 j63)) then
                d_M_tile_144 S (d_M_tile_45 S  n) I R u0 (x1) (x2) (x3) (x4) (x5) (0)
              else
                d_M_tile_139 S (d_M_tile_45 S  n) I R u0 (x1) (x2) (x3) (x4) (x5)
      else
        d_M_tile_166 S  I R u0 (x1) (x2) (x3) (x4)
set_option maxHeartbeats 1000000 in
theorem e_M_tile_45 {l : Launch} {X : ax_X} {S : ax_S} {L : ax_L} {R0 : ax_R} {out : Int32 × ax_I} (hX : ax_ok X l "LossFreeToolsModel" b_M_tile 8 (ax_rm 2 0 0)) (hF : ax_fin X (some .int) 0 0 (ax_of (ax_eq (some (.int out.1)) S out.2 R0 L))) (hS0 : ax_S0 X = S) : ∀ (n : Nat), ∀ (I : ax_I) (R : ax_R) (u0 : Nat) (x1 : Int32) (x2 : Int32) (x3 : Int32) (x4 : Int32) (x5 : Int32), ax_typ S R → (S u0 = some (.inl 5)) → R = R0 → d_M_tile_45 S  n I R u0 x1 x2 x3 x4 x5 = some out → ax_W X 8 45 [some (.ref u0), some (.int (x1)), some (.int (x2)), some (.int (x3)), some (.int (x4)), some (.int (x5)), none, none] [] S I R L 0 0 := by
  intro n
  induction n with
  | zero =>
    rintro I R u0 x1 x2 x3 x4 x5 hty hs0_ hR0 h
    cases h
  | succ n ih =>
    rintro I R u0 x1 x2 x3 x4 x5 hty hs0_ hR0 h
    subst hR0
    unfold d_M_tile_45 at h
    refine ax_iload (q := 47) hX dc_M_tile_45 rfl rfl ?_
    refine ax_aload_n (q := 48) hX dc_M_tile_47 rfl rfl rfl ?_
    obtain ⟨u15, hu16, h⟩ := ax_bd h
    obtain ⟨n18, hs17⟩ : ∃ n, S u15 = some (.inr (0, n)) := hty.1 _ _ _ _ hs0_ hu16
    refine ax_getR (q := 51) hX dc_M_tile_48 rfl fl_M_16 rfl hs0_ hu16 ?_
    refine ax_aload_n (q := 52) hX dc_M_tile_51 rfl rfl rfl ?_
    refine ax_getI (q := 55) hX dc_M_tile_52 rfl fl_M_71 rfl hs0_ ?_
    obtain ⟨j19, hj20, h⟩ := ax_bd h
    have hj20 := ax_ix_s hty hs17 hj20
    refine ax_iald (q := 56) hX j19 dc_M_tile_55 rfl hs17 hj20.1 hj20.2.1 hj20.2.2 ?_
    refine ax_icmp_ge (tgt := 166) (q := 59) hX dc_M_tile_56 rfl (by decide) (fun z21 => ?_) (fun z21 => ?_)
    · rw [if_pos z21] at h
      exact ax_weak (ls' := [some (.ref u0), some (.int (x1)), some (.int (x2)), some (.int (x3)), some (.int (x4)), none, none, none]) (ax_fewP_s _ _ (by repeat (first | exact trivial | (refine And.intro rfl ?_)))) (e_M_tile_166 hX hF hS0  I R u0 (x1) (x2) (x3) (x4) hty hs0_ rfl h)
    · rw [if_neg z21] at h
      refine ax_aload_n (q := 60) hX dc_M_tile_59 rfl rfl rfl ?_
      refine ax_getI (q := 63) hX dc_M_tile_60 rfl fl_M_68 rfl hs0_ ?_
      refine ax_if_ne (tgt := 166) (q := 66) hX dc_M_tile_63 rfl (by decide) (fun z22 => ?_) (fun z22 => ?_)
      · rw [if_neg z22] at h
        exact ax_weak (ls' := [some (.ref u0), some (.int (x1)), some (.int (x2)), some (.int (x3)), some (.int (x4)), none, none, none]) (ax_fewP_s _ _ (by repeat (first | exact trivial | (refine And.intro rfl ?_)))) (e_M_tile_166 hX hF hS0  I R u0 (x1) (x2) (x3) (x4) hty hs0_ rfl h)
      · rw [if_pos z22] at h
        refine ax_aload_n (q := 67) hX dc_M_tile_66 rfl rfl rfl ?_
        refine ax_iload (q := 69) hX dc_M_tile_67 rfl rfl ?_
        obtain ⟨r25, hr23, h⟩ := ax_bd h
        refine ax_kV (vs := [.int (x5)]) (rest := []) (q := 72) hX dc_M_tile_69 rfl mt_M_tileAt wl_M_92 wi_M_tileAt ws_M_tileAt hs0_ rfl (c_M_tileAt l hty hs0_ hr23) rfl (by decide) rfl (Nat.le_of_ble_eq_true rfl) rfl rfl (by decide) (by decide) rfl ?_
        refine ax_istore (ls' := [some (.ref u0), some (.int (x1)), some (.int (x2)), some (.int (x3)), some (.int (x4)), some (.int (x5)), some (.int (r25)), none]) (q := 74) hX dc_M_tile_72 rfl (by decide) rfl ?_
        refine ax_iload_n (q := 75) hX dc_M_tile_74 rfl rfl rfl ?_
        refine ax_iload_n (q := 76) hX dc_M_tile_75 rfl rfl rfl ?_
        refine ax_iadd (q := 77) hX dc_M_tile_76 rfl ?_
        refine ax_aload_n (q := 78) hX dc_M_tile_77 rfl rfl rfl ?_
        obtain ⟨u26, hu27, h⟩ := ax_bd h
        obtain ⟨n29, hs28⟩ : ∃ n, S u26 = some (.inr (0, n)) := hty.1 _ _ _ _ hs0_ hu27
        refine ax_getR (q := 81) hX dc_M_tile_78 rfl fl_M_22 rfl hs0_ hu27 ?_
        refine ax_iload (q := 83) hX dc_M_tile_81 rfl rfl ?_
        obtain ⟨j30, hj31, h⟩ := ax_bd h
        have hj31 := ax_ix_s hty hs28 hj31
        refine ax_iald (q := 84) hX j30 dc_M_tile_83 rfl hs28 hj31.1 hj31.2.1 hj31.2.2 ?_
        refine ax_icmp_le (tgt := 139) (q := 87) hX dc_M_tile_84 rfl (by decide) (fun z32 => ?_) (fun z32 => ?_)
        · rw [if_pos z32] at h
          exact ax_weak (ls' := [some (.ref u0), some (.int (x1)), some (.int (x2)), some (.int (x3)), some (.int (x4)), some (.int (x5)), none, none]) (ax_fewP_s _ _ (by repeat (first | exact trivial | (refine And.intro rfl ?_)))) (e_M_tile_139 hX hF hS0 (d_M_tile_45 S  n) (ih) I R u0 (x1) (x2) (x3) (x4) (x5) hty hs0_ rfl h)
        · rw [if_neg z32] at h
          refine ax_aload_n (q := 88) hX dc_M_tile_87 rfl rfl rfl ?_
          obtain ⟨u33, hu34, h⟩ := ax_bd h
          obtain ⟨n36, hs35⟩ : ∃ n, S u33 = some (.inr (0, n)) := hty.1 _ _ _ _ hs0_ hu34
          refine ax_getR (q := 91) hX dc_M_tile_88 rfl fl_M_22 rfl hs0_ hu34 ?_
          refine ax_iload (q := 93) hX dc_M_tile_91 rfl rfl ?_
          obtain ⟨j37, hj38, h⟩ := ax_bd h
          have hj38 := ax_ix_s hty hs35 hj38
          refine ax_iald (q := 94) hX j37 dc_M_tile_93 rfl hs35 hj38.1 hj38.2.1 hj38.2.2 ?_
          refine ax_aload_n (q := 95) hX dc_M_tile_94 rfl rfl rfl ?_
          obtain ⟨u39, hu40, h⟩ := ax_bd h
          obtain ⟨n42, hs41⟩ : ∃ n, S u39 = some (.inr (0, n)) := hty.1 _ _ _ _ hs0_ hu40
          refine ax_getR (q := 98) hX dc_M_tile_95 rfl fl_M_28 rfl hs0_ hu40 ?_
          refine ax_iload (q := 100) hX dc_M_tile_98 rfl rfl ?_
          obtain ⟨j43, hj44, h⟩ := ax_bd h
          have hj44 := ax_ix_s hty hs41 hj44
          refine ax_iald (q := 101) hX j43 dc_M_tile_100 rfl hs41 hj44.1 hj44.2.1 hj44.2.2 ?_
          refine ax_iadd (q := 102) hX dc_M_tile_101 rfl ?_
          refine ax_iload_n (q := 103) hX dc_M_tile_102 rfl rfl rfl ?_
          refine ax_icmp_le (tgt := 139) (q := 106) hX dc_M_tile_103 rfl (by decide) (fun z45 => ?_) (fun z45 => ?_)
          · rw [if_pos z45] at h
            exact ax_weak (ls' := [some (.ref u0), some (.int (x1)), some (.int (x2)), some (.int (x3)), some (.int (x4)), some (.int (x5)), none, none]) (ax_fewP_s _ _ (by repeat (first | exact trivial | (refine And.intro rfl ?_)))) (e_M_tile_139 hX hF hS0 (d_M_tile_45 S  n) (ih) I R u0 (x1) (x2) (x3) (x4) (x5) hty hs0_ rfl h)
          · rw [if_neg z45] at h
            refine ax_iload_n (q := 107) hX dc_M_tile_106 rfl rfl rfl ?_
            refine ax_iload (q := 109) hX dc_M_tile_107 rfl rfl ?_
            refine ax_iadd (q := 110) hX dc_M_tile_109 rfl ?_
            refine ax_aload_n (q := 111) hX dc_M_tile_110 rfl rfl rfl ?_
            obtain ⟨u46, hu47, h⟩ := ax_bd h
            obtain ⟨n49, hs48⟩ : ∃ n, S u46 = some (.inr (0, n)) := hty.1 _ _ _ _ hs0_ hu47
            refine ax_getR (q := 114) hX dc_M_tile_111 rfl fl_M_25 rfl hs0_ hu47 ?_
            refine ax_iload (q := 116) hX dc_M_tile_114 rfl rfl ?_
            obtain ⟨j50, hj51, h⟩ := ax_bd h
            have hj51 := ax_ix_s hty hs48 hj51
            refine ax_iald (q := 117) hX j50 dc_M_tile_116 rfl hs48 hj51.1 hj51.2.1 hj51.2.2 ?_
            refine ax_icmp_le (tgt := 139) (q := 120) hX dc_M_tile_117 rfl (by decide) (fun z52 => ?_) (fun z52 => ?_)
            · rw [if_pos z52] at h
              exact ax_weak (ls' := [some (.ref u0), some (.int (x1)), some (.int (x2)), some (.int (x3)), some (.int (x4)), some (.int (x5)), none, none]) (ax_fewP_s _ _ (by repeat (first | exact trivial | (refine And.intro rfl ?_)))) (e_M_tile_139 hX hF hS0 (d_M_tile_45 S  n) (ih) I R u0 (x1) (x2) (x3) (x4) (x5) hty hs0_ rfl h)
            · rw [if_neg z52] at h
              refine ax_aload_n (q := 121) hX dc_M_tile_120 rfl rfl rfl ?_
              obtain ⟨u53, hu54, h⟩ := ax_bd h
              obtain ⟨n56, hs55⟩ : ∃ n, S u53 = some (.inr (0, n)) := hty.1 _ _ _ _ hs0_ hu54
              refine ax_getR (q := 124) hX dc_M_tile_121 rfl fl_M_25 rfl hs0_ hu54 ?_
              refine ax_iload (q := 126) hX dc_M_tile_124 rfl rfl ?_
              obtain ⟨j57, hj58, h⟩ := ax_bd h
              have hj58 := ax_ix_s hty hs55 hj58
              refine ax_iald (q := 127) hX j57 dc_M_tile_126 rfl hs55 hj58.1 hj58.2.1 hj58.2.2 ?_
              refine ax_aload_n (q := 128) hX dc_M_tile_127 rfl rfl rfl ?_
              obtain ⟨u59, hu60, h⟩ := ax_bd h
              obtain ⟨n62, hs61⟩ : ∃ n, S u59 = some (.inr (0, n)) := hty.1 _ _ _ _ hs0_ hu60
              refine ax_getR (q := 131) hX dc_M_tile_128 rfl fl_M_31 rfl hs0_ hu60 ?_
              refine ax_iload (q := 133) hX dc_M_tile_131 rfl rfl ?_
              obtain ⟨j63, hj64, h⟩ := ax_bd h
              have hj64 := ax_ix_s hty hs61 hj64
              refine ax_iald (q := 134) hX j63 dc_M_tile_133 rfl hs61 hj64.1 hj64.2.1 hj64.2.2 ?_
              refine ax_iadd (q := 135) hX dc_M_tile_134 rfl ?_
              refine ax_iload_n (q := 136) hX dc_M_tile_135 rfl rfl rfl ?_
              refine ax_icmp_gt (tgt := 143) (q := 139) hX dc_M_tile_136 rfl (by decide) (fun z65 => ?_) (fun z65 => ?_)
              · rw [if_pos z65] at h
                refine ax_iconst (v := 0) (q := 144) hX dc_M_tile_143 rfl (by decide) ?_
                exact ax_weak (ls' := [some (.ref u0), some (.int (x1)), some (.int (x2)), some (.int (x3)), some (.int (x4)), some (.int (x5)), none, none]) (ax_fewP_s _ _ (by repeat (first | exact trivial | (refine And.intro rfl ?_)))) (e_M_tile_144 hX hF hS0 (d_M_tile_45 S  n) (ih) I R u0 (x1) (x2) (x3) (x4) (x5) (0) hty hs0_ rfl h)
              · rw [if_neg z65] at h
                exact ax_weak (ls' := [some (.ref u0), some (.int (x1)), some (.int (x2)), some (.int (x3)), some (.int (x4)), some (.int (x5)), none, none]) (ax_fewP_s _ _ (by repeat (first | exact trivial | (refine And.intro rfl ?_)))) (e_M_tile_139 hX hF hS0 (d_M_tile_45 S  n) (ih) I R u0 (x1) (x2) (x3) (x4) (x5) hty hs0_ rfl h)
def d_M_tile_39 (S : ax_S) (I : ax_I) (R : ax_R) (u0 : Nat) (x1 : Int32) (x2 : Int32) (x3 : Int32) (x4 : Int32) (y0 : Int32) (w1 : Nat) : Option (Int32 × ax_I) :=
  (some (ax_up I w1 0 (y0))).bind fun I13 =>
  d_M_tile_45 S  5000 I13 R u0 (x1) (x2) (x3) (x4) (0)
set_option maxHeartbeats 1000000 in
theorem e_M_tile_39 {l : Launch} {X : ax_X} {S : ax_S} {L : ax_L} {R0 : ax_R} {out : Int32 × ax_I} (hX : ax_ok X l "LossFreeToolsModel" b_M_tile 8 (ax_rm 2 0 0)) (hF : ax_fin X (some .int) 0 0 (ax_of (ax_eq (some (.int out.1)) S out.2 R0 L))) (hS0 : ax_S0 X = S) : ∀ (I : ax_I) (R : ax_R) (u0 : Nat) (x1 : Int32) (x2 : Int32) (x3 : Int32) (x4 : Int32) (y0 : Int32) (w1 : Nat), ax_typ S R → (S u0 = some (.inl 5)) → (S w1 = some (.inl 5)) → R = R0 → d_M_tile_39 S  I R u0 x1 x2 x3 x4 y0 w1 = some out → ax_W X 8 39 [some (.ref u0), some (.int (x1)), some (.int (x2)), some (.int (x3)), some (.int (x4)), none, none, none] [.int (y0), .ref w1] S I R L 0 0 := by
  rintro I R u0 x1 x2 x3 x4 y0 w1 hty hs0_ hw1_ hR0 h
  subst hR0
  unfold d_M_tile_39 at h
  obtain ⟨I13, e14, h⟩ := ax_bs h
  refine ax_putI (q := 42) hX dc_M_tile_39 rfl fl_M_68 rfl hw1_ (fun z => by cases z) rfl rfl e14 ?_
  refine ax_iconst (v := 0) (q := 43) hX dc_M_tile_42 rfl (by decide) ?_
  refine ax_istore (ls' := [some (.ref u0), some (.int (x1)), some (.int (x2)), some (.int (x3)), some (.int (x4)), some (.int (0)), none, none]) (q := 45) hX dc_M_tile_43 rfl (by decide) rfl ?_
  exact (e_M_tile_45 hX hF hS0  5000 I13 R u0 (x1) (x2) (x3) (x4) (0) hty hs0_ rfl h)
def d_M_tile_34 (S : ax_S) (I : ax_I) (R : ax_R) (u0 : Nat) (x1 : Int32) (x2 : Int32) (x3 : Int32) (x4 : Int32) (w0 : Nat) : Option (Int32 × ax_I) :=
  d_M_tile_39 S  I R u0 (x1) (x2) (x3) (x4) (1) w0
set_option maxHeartbeats 1000000 in
theorem e_M_tile_34 {l : Launch} {X : ax_X} {S : ax_S} {L : ax_L} {R0 : ax_R} {out : Int32 × ax_I} (hX : ax_ok X l "LossFreeToolsModel" b_M_tile 8 (ax_rm 2 0 0)) (hF : ax_fin X (some .int) 0 0 (ax_of (ax_eq (some (.int out.1)) S out.2 R0 L))) (hS0 : ax_S0 X = S) : ∀ (I : ax_I) (R : ax_R) (u0 : Nat) (x1 : Int32) (x2 : Int32) (x3 : Int32) (x4 : Int32) (w0 : Nat), ax_typ S R → (S u0 = some (.inl 5)) → (S w0 = some (.inl 5)) → R = R0 → d_M_tile_34 S  I R u0 x1 x2 x3 x4 w0 = some out → ax_W X 8 34 [some (.ref u0), some (.int (x1)), some (.int (x2)), some (.int (x3)), some (.int (x4)), none, none, none] [.ref w0] S I R L 0 0 := by
  rintro I R u0 x1 x2 x3 x4 w0 hty hs0_ hw0_ hR0 h
  subst hR0
  unfold d_M_tile_34 at h
  refine ax_iconst (v := 1) (q := 35) hX dc_M_tile_34 rfl (by decide) ?_
  refine ax_goto (tgt := 39) hX dc_M_tile_35 (by decide) ?_
  exact (e_M_tile_39 hX hF hS0  I R u0 (x1) (x2) (x3) (x4) (1) w0 hty hs0_ hw0_ rfl h)
def d_M_tile (S : ax_S) (I : ax_I) (R : ax_R) (u0 : Nat) (x1 : Int32) (x2 : Int32) (x3 : Int32) (x4 : Int32) : Option (Int32 × ax_I) :=
  (d_M_in S I R (x3) (1) (64)).bind fun r3 =>
  if (ax_b r3) = 0 then
    d_M_tile_34 S  I R u0 (x1) (x2) (x3) (x4) u0
  else
    (d_M_in S I R (x4) (1) (64)).bind fun r7 =>
    if (ax_b r7) = 0 then
      d_M_tile_34 S  I R u0 (x1) (x2) (x3) (x4) u0
    else
      (d_M_lies S I R u0 (x1) (x2) (x3) (x4)).bind fun r11 =>
      if (ax_b r11) = 0 then
        d_M_tile_34 S  I R u0 (x1) (x2) (x3) (x4) u0
      else
        d_M_tile_39 S  I R u0 (x1) (x2) (x3) (x4) (0) u0
set_option maxHeartbeats 1000000 in
theorem c_M_tile (l : Launch) {S : ax_S} {I : ax_I} {R : ax_R} {L : ax_L} {u0 : Nat} {x1 : Int32} {x2 : Int32} {x3 : Int32} {x4 : Int32} {out : Int32 × ax_I} (hty : ax_typ S R) (hs0 : S u0 = some (.inl 5)) (h : d_M_tile S I R u0 x1 x2 x3 x4 = some out) : ax_Met l y_M_tile b_M_tile 8 (some .int) (ax_rm 2 0 0) [.ref u0, .int x1, .int x2, .int x3, .int x4] S I R L (ax_eq (some (.int out.1)) S out.2 R L) := by
  refine ax_enter (own := "LossFreeToolsModel") (by decide +kernel) rfl (ax_cats rfl) (Nat.le_of_ble_eq_true rfl) (fun X hX hF _ hS0 => ?_)
  show ax_W X 8 0 [some (.ref u0), some (.int (x1)), some (.int (x2)), some (.int (x3)), some (.int (x4)), none, none, none] [] S I R L 0 0
  unfold d_M_tile at h
  refine ax_aload_n (q := 1) hX dc_M_tile_0 rfl rfl rfl ?_
  refine ax_iload_n (q := 2) hX dc_M_tile_1 rfl rfl rfl ?_
  refine ax_iconst (v := 1) (q := 3) hX dc_M_tile_2 rfl (by decide) ?_
  refine ax_bipush (v := 64) (q := 5) hX dc_M_tile_3 rfl (by decide) ?_
  obtain ⟨r3, hr1, h⟩ := ax_bd h
  refine ax_kS (vs := [.int (x3), .int (1), .int (64)]) (rest := [.ref u0]) (q := 8) hX dc_M_tile_5 rfl mt_M_in wl_M_84 wt_M_in (c_M_in l hty  hr1) rfl (by decide) rfl (Nat.le_of_ble_eq_true rfl) rfl rfl (by decide) (by decide) rfl ?_
  refine ax_if_eq (tgt := 34) (q := 11) hX dc_M_tile_8 rfl (by decide) (fun z4 => ?_) (fun z4 => ?_)
  · rw [if_pos z4] at h
    exact (e_M_tile_34 hX hF hS0  I R u0 (x1) (x2) (x3) (x4) u0 hty hs0 hs0 rfl h)
  · rw [if_neg z4] at h
    refine ax_iload (q := 13) hX dc_M_tile_11 rfl rfl ?_
    refine ax_iconst (v := 1) (q := 14) hX dc_M_tile_13 rfl (by decide) ?_
    refine ax_bipush (v := 64) (q := 16) hX dc_M_tile_14 rfl (by decide) ?_
    obtain ⟨r7, hr5, h⟩ := ax_bd h
    refine ax_kS (vs := [.int (x4), .int (1), .int (64)]) (rest := [.ref u0]) (q := 19) hX dc_M_tile_16 rfl mt_M_in wl_M_84 wt_M_in (c_M_in l hty  hr5) rfl (by decide) rfl (Nat.le_of_ble_eq_true rfl) rfl rfl (by decide) (by decide) rfl ?_
    refine ax_if_eq (tgt := 34) (q := 22) hX dc_M_tile_19 rfl (by decide) (fun z8 => ?_) (fun z8 => ?_)
    · rw [if_pos z8] at h
      exact (e_M_tile_34 hX hF hS0  I R u0 (x1) (x2) (x3) (x4) u0 hty hs0 hs0 rfl h)
    · rw [if_neg z8] at h
      refine ax_aload_n (q := 23) hX dc_M_tile_22 rfl rfl rfl ?_
      refine ax_iload_n (q := 24) hX dc_M_tile_23 rfl rfl rfl ?_
      refine ax_iload_n (q := 25) hX dc_M_tile_24 rfl rfl rfl ?_
      refine ax_iload_n (q := 26) hX dc_M_tile_25 rfl rfl rfl ?_
      refine ax_iload (q := 28) hX dc_M_tile_26 rfl rfl ?_
      obtain ⟨r11, hr9, h⟩ := ax_bd h
      refine ax_kV (vs := [.int (x1), .int (x2), .int (x3), .int (x4)]) (rest := [.ref u0]) (q := 31) hX dc_M_tile_28 rfl mt_M_lies wl_M_88 wi_M_lies ws_M_lies hs0 rfl (c_M_lies l hty hs0 hr9) rfl (by decide) rfl (Nat.le_of_ble_eq_true rfl) rfl rfl (by decide) (by decide) rfl ?_
      refine ax_if_ne (tgt := 38) (q := 34) hX dc_M_tile_31 rfl (by decide) (fun z12 => ?_) (fun z12 => ?_)
      · rw [if_neg z12] at h
        refine ax_iconst (v := 0) (q := 39) hX dc_M_tile_38 rfl (by decide) ?_
        exact (e_M_tile_39 hX hF hS0  I R u0 (x1) (x2) (x3) (x4) (0) u0 hty hs0 hs0 rfl h)
      · rw [if_pos z12] at h
        exact (e_M_tile_34 hX hF hS0  I R u0 (x1) (x2) (x3) (x4) u0 hty hs0 hs0 rfl h)
def d_M_fits_97 (S : ax_S) (rec5 : ax_I → ax_R → Nat → Int32 → Int32 → Int32 → Int32 → Option (Bool)) (I : ax_I) (R : ax_R) (u0 : Nat) (x1 : Int32) (x2 : Int32) (x4 : Int32) (y0 : Int32) : Option (Bool) :=
  rec5 I R u0 (x1) (x2) (y0) (x4 + 1)
set_option maxHeartbeats 1000000 in
theorem e_M_fits_97 {l : Launch} {X : ax_X} {S : ax_S} {L : ax_L} {I0 : ax_I} {R0 : ax_R} {out : Bool} (hX : ax_ok X l "LossFreeToolsModel" b_M_fits 8 (ax_rm 2 0 0)) (hF : ax_fin X (some .boolean) 0 0 (ax_of (ax_eq (some (.int (ax_b out))) S I0 R0 L))) (hS0 : ax_S0 X = S) (rec5 : ax_I → ax_R → Nat → Int32 → Int32 → Int32 → Int32 → Option (Bool)) (hrec5 : ∀ (I : ax_I) (R : ax_R) (u0 : Nat) (x1 : Int32) (x2 : Int32) (x3 : Int32) (x4 : Int32), ax_typ S R → (S u0 = some (.inl 5)) → I = I0 → R = R0 → rec5 I R u0 x1 x2 x3 x4 = some out → ax_W X 8 5 [some (.ref u0), some (.int (x1)), some (.int (x2)), some (.int (x3)), some (.int (x4)), none, none, none] [] S I R L 0 0) : ∀ (I : ax_I) (R : ax_R) (u0 : Nat) (x1 : Int32) (x2 : Int32) (x4 : Int32) (y0 : Int32), ax_typ S R → (S u0 = some (.inl 5)) → I = I0 → R = R0 → d_M_fits_97 S rec5 I R u0 x1 x2 x4 y0 = some out → ax_W X 8 97 [some (.ref u0), some (.int (x1)), some (.int (x2)), none, some (.int (x4)), none, none, none] [.int (y0)] S I R L 0 0 := by
  rintro I R u0 x1 x2 x4 y0 hty hs0_ hI0 hR0 h
  subst hI0
  subst hR0
  unfold d_M_fits_97 at h
  refine ax_istore_n (ls' := [some (.ref u0), some (.int (x1)), some (.int (x2)), some (.int (y0)), some (.int (x4)), none, none, none]) (q := 98) hX dc_M_fits_97 rfl rfl (by decide) rfl ?_
  refine ax_iinc (v := x4 + 1) (ls' := [some (.ref u0), some (.int (x1)), some (.int (x2)), some (.int (y0)), some (.int (x4 + 1)), none, none, none]) (q := 101) hX dc_M_fits_98 rfl rfl rfl (by decide) rfl ?_
  refine ax_goto (tgt := 5) hX dc_M_fits_101 (by decide) ?_
  exact (hrec5 I R u0 (x1) (x2) (y0) (x4 + 1) hty hs0_ rfl rfl h)
def d_M_fits_96 (S : ax_S) (rec5 : ax_I → ax_R → Nat → Int32 → Int32 → Int32 → Int32 → Option (Bool)) (I : ax_I) (R : ax_R) (u0 : Nat) (x1 : Int32) (x2 : Int32) (x4 : Int32) : Option (Bool) :=
  d_M_fits_97 S (rec5) I R u0 (x1) (x2) (x4) (0)
set_option maxHeartbeats 1000000 in
theorem e_M_fits_96 {l : Launch} {X : ax_X} {S : ax_S} {L : ax_L} {I0 : ax_I} {R0 : ax_R} {out : Bool} (hX : ax_ok X l "LossFreeToolsModel" b_M_fits 8 (ax_rm 2 0 0)) (hF : ax_fin X (some .boolean) 0 0 (ax_of (ax_eq (some (.int (ax_b out))) S I0 R0 L))) (hS0 : ax_S0 X = S) (rec5 : ax_I → ax_R → Nat → Int32 → Int32 → Int32 → Int32 → Option (Bool)) (hrec5 : ∀ (I : ax_I) (R : ax_R) (u0 : Nat) (x1 : Int32) (x2 : Int32) (x3 : Int32) (x4 : Int32), ax_typ S R → (S u0 = some (.inl 5)) → I = I0 → R = R0 → rec5 I R u0 x1 x2 x3 x4 = some out → ax_W X 8 5 [some (.ref u0), some (.int (x1)), some (.int (x2)), some (.int (x3)), some (.int (x4)), none, none, none] [] S I R L 0 0) : ∀ (I : ax_I) (R : ax_R) (u0 : Nat) (x1 : Int32) (x2 : Int32) (x4 : Int32), ax_typ S R → (S u0 = some (.inl 5)) → I = I0 → R = R0 → d_M_fits_96 S rec5 I R u0 x1 x2 x4 = some out → ax_W X 8 96 [some (.ref u0), some (.int (x1)), some (.int (x2)), none, some (.int (x4)), none, none, none] [] S I R L 0 0 := by
  rintro I R u0 x1 x2 x4 hty hs0_ hI0 hR0 h
  subst hI0
  subst hR0
  unfold d_M_fits_96 at h
  refine ax_iconst (v := 0) (q := 97) hX dc_M_fits_96 rfl (by decide) ?_
  exact (e_M_fits_97 hX hF hS0 (rec5) (hrec5) I R u0 (x1) (x2) (x4) (0) hty hs0_ rfl rfl h)
def d_M_fits_92 (S : ax_S) (rec5 : ax_I → ax_R → Nat → Int32 → Int32 → Int32 → Int32 → Option (Bool)) (I : ax_I) (R : ax_R) (u0 : Nat) (x1 : Int32) (x2 : Int32) (x4 : Int32) : Option (Bool) :=
  d_M_fits_97 S (rec5) I R u0 (x1) (x2) (x4) (1)
set_option maxHeartbeats 1000000 in
theorem e_M_fits_92 {l : Launch} {X : ax_X} {S : ax_S} {L : ax_L} {I0 : ax_I} {R0 : ax_R} {out : Bool} (hX : ax_ok X l "LossFreeToolsModel" b_M_fits 8 (ax_rm 2 0 0)) (hF : ax_fin X (some .boolean) 0 0 (ax_of (ax_eq (some (.int (ax_b out))) S I0 R0 L))) (hS0 : ax_S0 X = S) (rec5 : ax_I → ax_R → Nat → Int32 → Int32 → Int32 → Int32 → Option (Bool)) (hrec5 : ∀ (I : ax_I) (R : ax_R) (u0 : Nat) (x1 : Int32) (x2 : Int32) (x3 : Int32) (x4 : Int32), ax_typ S R → (S u0 = some (.inl 5)) → I = I0 → R = R0 → rec5 I R u0 x1 x2 x3 x4 = some out → ax_W X 8 5 [some (.ref u0), some (.int (x1)), some (.int (x2)), some (.int (x3)), some (.int (x4)), none, none, none] [] S I R L 0 0) : ∀ (I : ax_I) (R : ax_R) (u0 : Nat) (x1 : Int32) (x2 : Int32) (x4 : Int32), ax_typ S R → (S u0 = some (.inl 5)) → I = I0 → R = R0 → d_M_fits_92 S rec5 I R u0 x1 x2 x4 = some out → ax_W X 8 92 [some (.ref u0), some (.int (x1)), some (.int (x2)), none, some (.int (x4)), none, none, none] [] S I R L 0 0 := by
  rintro I R u0 x1 x2 x4 hty hs0_ hI0 hR0 h
  subst hI0
  subst hR0
  unfold d_M_fits_92 at h
  refine ax_iconst (v := 1) (q := 93) hX dc_M_fits_92 rfl (by decide) ?_
  refine ax_goto (tgt := 97) hX dc_M_fits_93 (by decide) ?_
  exact (e_M_fits_97 hX hF hS0 (rec5) (hrec5) I R u0 (x1) (x2) (x4) (1) hty hs0_ rfl rfl h)
def d_M_fits_73 (S : ax_S) (rec5 : ax_I → ax_R → Nat → Int32 → Int32 → Int32 → Int32 → Option (Bool)) (I : ax_I) (R : ax_R) (u0 : Nat) (x1 : Int32) (x2 : Int32) (x3 : Int32) (x4 : Int32) (x6 : Int32) (y0 : Int32) (y1 : Int32) : Option (Bool) :=
  if x3 = 0 then
    d_M_fits_96 S (rec5) I R u0 (x1) (x2) (x4)
  else
    if (y1 + y0) ≤ x2 then
      d_M_fits_92 S (rec5) I R u0 (x1) (x2) (x4)
    else
      if x6 < x2 then
        d_M_fits_96 S (rec5) I R u0 (x1) (x2) (x4)
      else
        d_M_fits_92 S (rec5) I R u0 (x1) (x2) (x4)
set_option maxHeartbeats 1000000 in
theorem e_M_fits_73 {l : Launch} {X : ax_X} {S : ax_S} {L : ax_L} {I0 : ax_I} {R0 : ax_R} {out : Bool} (hX : ax_ok X l "LossFreeToolsModel" b_M_fits 8 (ax_rm 2 0 0)) (hF : ax_fin X (some .boolean) 0 0 (ax_of (ax_eq (some (.int (ax_b out))) S I0 R0 L))) (hS0 : ax_S0 X = S) (rec5 : ax_I → ax_R → Nat → Int32 → Int32 → Int32 → Int32 → Option (Bool)) (hrec5 : ∀ (I : ax_I) (R : ax_R) (u0 : Nat) (x1 : Int32) (x2 : Int32) (x3 : Int32) (x4 : Int32), ax_typ S R → (S u0 = some (.inl 5)) → I = I0 → R = R0 → rec5 I R u0 x1 x2 x3 x4 = some out → ax_W X 8 5 [some (.ref u0), some (.int (x1)), some (.int (x2)), some (.int (x3)), some (.int (x4)), none, none, none] [] S I R L 0 0) : ∀ (I : ax_I) (R : ax_R) (u0 : Nat) (x1 : Int32) (x2 : Int32) (x3 : Int32) (x4 : Int32) (x6 : Int32) (y0 : Int32) (y1 : Int32), ax_typ S R → (S u0 = some (.inl 5)) → I = I0 → R = R0 → d_M_fits_73 S rec5 I R u0 x1 x2 x3 x4 x6 y0 y1 = some out → ax_W X 8 73 [some (.ref u0), some (.int (x1)), some (.int (x2)), some (.int (x3)), some (.int (x4)), none, some (.int (x6)), none] [.int (y0), .int (y1)] S I R L 0 0 := by
  rintro I R u0 x1 x2 x3 x4 x6 y0 y1 hty hs0_ hI0 hR0 h
  subst hI0
  subst hR0
  unfold d_M_fits_73 at h
  refine ax_iadd (q := 74) hX dc_M_fits_73 rfl ?_
  refine ax_istore (ls' := [some (.ref u0), some (.int (x1)), some (.int (x2)), some (.int (x3)), some (.int (x4)), none, some (.int (x6)), some (.int (y1 + y0))]) (q := 76) hX dc_M_fits_74 rfl (by decide) rfl ?_
  refine ax_iload_n (q := 77) hX dc_M_fits_76 rfl rfl rfl ?_
  refine ax_if_eq (tgt := 96) (q := 80) hX dc_M_fits_77 rfl (by decide) (fun z39 => ?_) (fun z39 => ?_)
  · rw [if_pos z39] at h
    exact ax_weak (ls' := [some (.ref u0), some (.int (x1)), some (.int (x2)), none, some (.int (x4)), none, none, none]) (ax_fewP_s _ _ (by repeat (first | exact trivial | (refine And.intro rfl ?_)))) (e_M_fits_96 hX hF hS0 (rec5) (hrec5) I R u0 (x1) (x2) (x4) hty hs0_ rfl rfl h)
  · rw [if_neg z39] at h
    refine ax_iload (q := 82) hX dc_M_fits_80 rfl rfl ?_
    refine ax_iload_n (q := 83) hX dc_M_fits_82 rfl rfl rfl ?_
    refine ax_icmp_le (tgt := 92) (q := 86) hX dc_M_fits_83 rfl (by decide) (fun z40 => ?_) (fun z40 => ?_)
    · rw [if_pos z40] at h
      exact ax_weak (ls' := [some (.ref u0), some (.int (x1)), some (.int (x2)), none, some (.int (x4)), none, none, none]) (ax_fewP_s _ _ (by repeat (first | exact trivial | (refine And.intro rfl ?_)))) (e_M_fits_92 hX hF hS0 (rec5) (hrec5) I R u0 (x1) (x2) (x4) hty hs0_ rfl rfl h)
    · rw [if_neg z40] at h
      refine ax_iload (q := 88) hX dc_M_fits_86 rfl rfl ?_
      refine ax_iload_n (q := 89) hX dc_M_fits_88 rfl rfl rfl ?_
      refine ax_icmp_lt (tgt := 96) (q := 92) hX dc_M_fits_89 rfl (by decide) (fun z41 => ?_) (fun z41 => ?_)
      · rw [if_pos z41] at h
        exact ax_weak (ls' := [some (.ref u0), some (.int (x1)), some (.int (x2)), none, some (.int (x4)), none, none, none]) (ax_fewP_s _ _ (by repeat (first | exact trivial | (refine And.intro rfl ?_)))) (e_M_fits_96 hX hF hS0 (rec5) (hrec5) I R u0 (x1) (x2) (x4) hty hs0_ rfl rfl h)
      · rw [if_neg z41] at h
        exact ax_weak (ls' := [some (.ref u0), some (.int (x1)), some (.int (x2)), none, some (.int (x4)), none, none, none]) (ax_fewP_s _ _ (by repeat (first | exact trivial | (refine And.intro rfl ?_)))) (e_M_fits_92 hX hF hS0 (rec5) (hrec5) I R u0 (x1) (x2) (x4) hty hs0_ rfl rfl h)
def d_M_fits_48 (S : ax_S) (rec5 : ax_I → ax_R → Nat → Int32 → Int32 → Int32 → Int32 → Option (Bool)) (I : ax_I) (R : ax_R) (u0 : Nat) (x1 : Int32) (x2 : Int32) (x3 : Int32) (x4 : Int32) (x5 : Int32) (y0 : Int32) : Option (Bool) :=
  if x1 = 0 then
    (R u0 11).bind fun u27 =>
    (ax_ix S u27 (x5)).bind fun j31 =>
    d_M_fits_73 S (rec5) I R u0 (x1) (x2) (x3) (x4) (y0) (I u27 j31) (y0)
  else
    (R u0 10).bind fun u33 =>
    (ax_ix S u33 (x5)).bind fun j37 =>
    d_M_fits_73 S (rec5) I R u0 (x1) (x2) (x3) (x4) (y0) (I u33 j37) (y0)
set_option maxHeartbeats 1000000 in
theorem e_M_fits_48 {l : Launch} {X : ax_X} {S : ax_S} {L : ax_L} {I0 : ax_I} {R0 : ax_R} {out : Bool} (hX : ax_ok X l "LossFreeToolsModel" b_M_fits 8 (ax_rm 2 0 0)) (hF : ax_fin X (some .boolean) 0 0 (ax_of (ax_eq (some (.int (ax_b out))) S I0 R0 L))) (hS0 : ax_S0 X = S) (rec5 : ax_I → ax_R → Nat → Int32 → Int32 → Int32 → Int32 → Option (Bool)) (hrec5 : ∀ (I : ax_I) (R : ax_R) (u0 : Nat) (x1 : Int32) (x2 : Int32) (x3 : Int32) (x4 : Int32), ax_typ S R → (S u0 = some (.inl 5)) → I = I0 → R = R0 → rec5 I R u0 x1 x2 x3 x4 = some out → ax_W X 8 5 [some (.ref u0), some (.int (x1)), some (.int (x2)), some (.int (x3)), some (.int (x4)), none, none, none] [] S I R L 0 0) : ∀ (I : ax_I) (R : ax_R) (u0 : Nat) (x1 : Int32) (x2 : Int32) (x3 : Int32) (x4 : Int32) (x5 : Int32) (y0 : Int32), ax_typ S R → (S u0 = some (.inl 5)) → I = I0 → R = R0 → d_M_fits_48 S rec5 I R u0 x1 x2 x3 x4 x5 y0 = some out → ax_W X 8 48 [some (.ref u0), some (.int (x1)), some (.int (x2)), some (.int (x3)), some (.int (x4)), some (.int (x5)), none, none] [.int (y0)] S I R L 0 0 := by
  rintro I R u0 x1 x2 x3 x4 x5 y0 hty hs0_ hI0 hR0 h
  subst hI0
  subst hR0
  unfold d_M_fits_48 at h
  refine ax_istore (ls' := [some (.ref u0), some (.int (x1)), some (.int (x2)), some (.int (x3)), some (.int (x4)), some (.int (x5)), some (.int (y0)), none]) (q := 50) hX dc_M_fits_48 rfl (by decide) rfl ?_
  refine ax_iload (q := 52) hX dc_M_fits_50 rfl rfl ?_
  refine ax_iload_n (q := 53) hX dc_M_fits_52 rfl rfl rfl ?_
  refine ax_if_eq (tgt := 66) (q := 56) hX dc_M_fits_53 rfl (by decide) (fun z26 => ?_) (fun z26 => ?_)
  · rw [if_pos z26] at h
    refine ax_aload_n (q := 67) hX dc_M_fits_66 rfl rfl rfl ?_
    obtain ⟨u27, hu28, h⟩ := ax_bd h
    obtain ⟨n30, hs29⟩ : ∃ n, S u27 = some (.inr (0, n)) := hty.1 _ _ _ _ hs0_ hu28
    refine ax_getR (q := 70) hX dc_M_fits_67 rfl fl_M_31 rfl hs0_ hu28 ?_
    refine ax_iload (q := 72) hX dc_M_fits_70 rfl rfl ?_
    obtain ⟨j31, hj32, h⟩ := ax_bd h
    have hj32 := ax_ix_s hty hs29 hj32
    refine ax_iald (q := 73) hX j31 dc_M_fits_72 rfl hs29 hj32.1 hj32.2.1 hj32.2.2 ?_
    exact ax_weak (ls' := [some (.ref u0), some (.int (x1)), some (.int (x2)), some (.int (x3)), some (.int (x4)), none, some (.int (y0)), none]) (ax_fewP_s _ _ (by repeat (first | exact trivial | (refine And.intro rfl ?_)))) (e_M_fits_73 hX hF hS0 (rec5) (hrec5) I R u0 (x1) (x2) (x3) (x4) (y0) (I u27 j31) (y0) hty hs0_ rfl rfl h)
  · rw [if_neg z26] at h
    refine ax_aload_n (q := 57) hX dc_M_fits_56 rfl rfl rfl ?_
    obtain ⟨u33, hu34, h⟩ := ax_bd h
    obtain ⟨n36, hs35⟩ : ∃ n, S u33 = some (.inr (0, n)) := hty.1 _ _ _ _ hs0_ hu34
    refine ax_getR (q := 60) hX dc_M_fits_57 rfl fl_M_28 rfl hs0_ hu34 ?_
    refine ax_iload (q := 62) hX dc_M_fits_60 rfl rfl ?_
    obtain ⟨j37, hj38, h⟩ := ax_bd h
    have hj38 := ax_ix_s hty hs35 hj38
    refine ax_iald (q := 63) hX j37 dc_M_fits_62 rfl hs35 hj38.1 hj38.2.1 hj38.2.2 ?_
    refine ax_goto (tgt := 73) hX dc_M_fits_63 (by decide) ?_
    exact ax_weak (ls' := [some (.ref u0), some (.int (x1)), some (.int (x2)), some (.int (x3)), some (.int (x4)), none, some (.int (y0)), none]) (ax_fewP_s _ _ (by repeat (first | exact trivial | (refine And.intro rfl ?_)))) (e_M_fits_73 hX hF hS0 (rec5) (hrec5) I R u0 (x1) (x2) (x3) (x4) (y0) (I u33 j37) (y0) hty hs0_ rfl rfl h)
def d_M_fits_5 (S : ax_S) : Nat → ax_I → ax_R → Nat → Int32 → Int32 → Int32 → Int32 → Option (Bool)
  | 0, _, _, _, _, _, _, _ => none
  | n + 1, I, R, u0, x1, x2, x3, x4 =>
    (R u0 6).bind fun u1 =>
    (ax_ix S u1 (I u0 3)).bind fun j5 =>
    if (I u1 j5) ≤ x4 then
      (ax_bo (x3)).bind fun b8 =>
      some (b8)
    else
      (d_M_tileAt S I R u0 (x4)).bind fun r12 =>
      if x1 = 0 then
        (R u0 9).bind fun u14 =>
        (ax_ix S u14 (r12)).bind fun j18 =>
        d_M_fits_48 S (d_M_fits_5 S  n) I R u0 (x1) (x2) (x3) (x4) (r12) (I u14 j18)
      else
        (R u0 8).bind fun u20 =>
        (ax_ix S u20 (r12)).bind fun j24 =>
        d_M_fits_48 S (d_M_fits_5 S  n) I R u0 (x1) (x2) (x3) (x4) (r12) (I u20 j24)
set_option maxHeartbeats 1000000 in
theorem e_M_fits_5 {l : Launch} {X : ax_X} {S : ax_S} {L : ax_L} {I0 : ax_I} {R0 : ax_R} {out : Bool} (hX : ax_ok X l "LossFreeToolsModel" b_M_fits 8 (ax_rm 2 0 0)) (hF : ax_fin X (some .boolean) 0 0 (ax_of (ax_eq (some (.int (ax_b out))) S I0 R0 L))) (hS0 : ax_S0 X = S) : ∀ (n : Nat), ∀ (I : ax_I) (R : ax_R) (u0 : Nat) (x1 : Int32) (x2 : Int32) (x3 : Int32) (x4 : Int32), ax_typ S R → (S u0 = some (.inl 5)) → I = I0 → R = R0 → d_M_fits_5 S  n I R u0 x1 x2 x3 x4 = some out → ax_W X 8 5 [some (.ref u0), some (.int (x1)), some (.int (x2)), some (.int (x3)), some (.int (x4)), none, none, none] [] S I R L 0 0 := by
  intro n
  induction n with
  | zero =>
    rintro I R u0 x1 x2 x3 x4 hty hs0_ hI0 hR0 h
    cases h
  | succ n ih =>
    rintro I R u0 x1 x2 x3 x4 hty hs0_ hI0 hR0 h
    subst hI0
    subst hR0
    unfold d_M_fits_5 at h
    refine ax_iload (q := 7) hX dc_M_fits_5 rfl rfl ?_
    refine ax_aload_n (q := 8) hX dc_M_fits_7 rfl rfl rfl ?_
    obtain ⟨u1, hu2, h⟩ := ax_bd h
    obtain ⟨n4, hs3⟩ : ∃ n, S u1 = some (.inr (0, n)) := hty.1 _ _ _ _ hs0_ hu2
    refine ax_getR (q := 11) hX dc_M_fits_8 rfl fl_M_16 rfl hs0_ hu2 ?_
    refine ax_aload_n (q := 12) hX dc_M_fits_11 rfl rfl rfl ?_
    refine ax_getI (q := 15) hX dc_M_fits_12 rfl fl_M_71 rfl hs0_ ?_
    obtain ⟨j5, hj6, h⟩ := ax_bd h
    have hj6 := ax_ix_s hty hs3 hj6
    refine ax_iald (q := 16) hX j5 dc_M_fits_15 rfl hs3 hj6.1 hj6.2.1 hj6.2.2 ?_
    refine ax_icmp_ge (tgt := 104) (q := 19) hX dc_M_fits_16 rfl (by decide) (fun z7 => ?_) (fun z7 => ?_)
    · rw [if_pos z7] at h
      refine ax_iload_n (q := 105) hX dc_M_fits_104 rfl rfl rfl ?_
      obtain ⟨b8, hb9, h⟩ := ax_bd h
      rw [ax_bo_s hb9]
      cases h
      exact ax_iret hX hF dc_M_fits_105 rfl (ax_b_n _) (by decide) (by decide) ax_eq.mk (by rw [hS0]; exact fun _ _ z => z)
    · rw [if_neg z7] at h
      refine ax_aload_n (q := 20) hX dc_M_fits_19 rfl rfl rfl ?_
      refine ax_iload (q := 22) hX dc_M_fits_20 rfl rfl ?_
      obtain ⟨r12, hr10, h⟩ := ax_bd h
      refine ax_kV (vs := [.int (x4)]) (rest := []) (q := 25) hX dc_M_fits_22 rfl mt_M_tileAt wl_M_92 wi_M_tileAt ws_M_tileAt hs0_ rfl (c_M_tileAt l hty hs0_ hr10) rfl (by decide) rfl (Nat.le_of_ble_eq_true rfl) rfl rfl (by decide) (by decide) rfl ?_
      refine ax_istore (ls' := [some (.ref u0), some (.int (x1)), some (.int (x2)), some (.int (x3)), some (.int (x4)), some (.int (r12)), none, none]) (q := 27) hX dc_M_fits_25 rfl (by decide) rfl ?_
      refine ax_iload_n (q := 28) hX dc_M_fits_27 rfl rfl rfl ?_
      refine ax_if_eq (tgt := 41) (q := 31) hX dc_M_fits_28 rfl (by decide) (fun z13 => ?_) (fun z13 => ?_)
      · rw [if_pos z13] at h
        refine ax_aload_n (q := 42) hX dc_M_fits_41 rfl rfl rfl ?_
        obtain ⟨u14, hu15, h⟩ := ax_bd h
        obtain ⟨n17, hs16⟩ : ∃ n, S u14 = some (.inr (0, n)) := hty.1 _ _ _ _ hs0_ hu15
        refine ax_getR (q := 45) hX dc_M_fits_42 rfl fl_M_25 rfl hs0_ hu15 ?_
        refine ax_iload (q := 47) hX dc_M_fits_45 rfl rfl ?_
        obtain ⟨j18, hj19, h⟩ := ax_bd h
        have hj19 := ax_ix_s hty hs16 hj19
        refine ax_iald (q := 48) hX j18 dc_M_fits_47 rfl hs16 hj19.1 hj19.2.1 hj19.2.2 ?_
        exact (e_M_fits_48 hX hF hS0 (d_M_fits_5 S  n) (ih) I R u0 (x1) (x2) (x3) (x4) (r12) (I u14 j18) hty hs0_ rfl rfl h)
      · rw [if_neg z13] at h
        refine ax_aload_n (q := 32) hX dc_M_fits_31 rfl rfl rfl ?_
        obtain ⟨u20, hu21, h⟩ := ax_bd h
        obtain ⟨n23, hs22⟩ : ∃ n, S u20 = some (.inr (0, n)) := hty.1 _ _ _ _ hs0_ hu21
        refine ax_getR (q := 35) hX dc_M_fits_32 rfl fl_M_22 rfl hs0_ hu21 ?_
        refine ax_iload (q := 37) hX dc_M_fits_35 rfl rfl ?_
        obtain ⟨j24, hj25, h⟩ := ax_bd h
        have hj25 := ax_ix_s hty hs22 hj25
        refine ax_iald (q := 38) hX j24 dc_M_fits_37 rfl hs22 hj25.1 hj25.2.1 hj25.2.2 ?_
        refine ax_goto (tgt := 48) hX dc_M_fits_38 (by decide) ?_
        exact (e_M_fits_48 hX hF hS0 (d_M_fits_5 S  n) (ih) I R u0 (x1) (x2) (x3) (x4) (r12) (I u20 j24) hty hs0_ rfl rfl h)
def d_M_fits (S : ax_S) (I : ax_I) (R : ax_R) (u0 : Nat) (x1 : Int32) (x2 : Int32) : Option (Bool) :=
  d_M_fits_5 S  5000 I R u0 (x1) (x2) (1) (0)
set_option maxHeartbeats 1000000 in
theorem c_M_fits (l : Launch) {S : ax_S} {I : ax_I} {R : ax_R} {L : ax_L} {u0 : Nat} {x1 : Int32} {x2 : Int32} {out : Bool} (hty : ax_typ S R) (hs0 : S u0 = some (.inl 5)) (h : d_M_fits S I R u0 x1 x2 = some out) : ax_Met l y_M_fits b_M_fits 8 (some .boolean) (ax_rm 2 0 0) [.ref u0, .int x1, .int x2] S I R L (ax_eq (some (.int (ax_b out))) S I R L) := by
  refine ax_enter (own := "LossFreeToolsModel") (by decide +kernel) rfl (ax_cats rfl) (Nat.le_of_ble_eq_true rfl) (fun X hX hF _ hS0 => ?_)
  show ax_W X 8 0 [some (.ref u0), some (.int (x1)), some (.int (x2)), none, none, none, none, none] [] S I R L 0 0
  unfold d_M_fits at h
  refine ax_iconst (v := 1) (q := 1) hX dc_M_fits_0 rfl (by decide) ?_
  refine ax_istore_n (ls' := [some (.ref u0), some (.int (x1)), some (.int (x2)), some (.int (1)), none, none, none, none]) (q := 2) hX dc_M_fits_1 rfl rfl (by decide) rfl ?_
  refine ax_iconst (v := 0) (q := 3) hX dc_M_fits_2 rfl (by decide) ?_
  refine ax_istore (ls' := [some (.ref u0), some (.int (x1)), some (.int (x2)), some (.int (1)), some (.int (0)), none, none, none]) (q := 5) hX dc_M_fits_3 rfl (by decide) rfl ?_
  exact (e_M_fits_5 hX hF hS0  5000 I R u0 (x1) (x2) (1) (0) hty hs0 rfl rfl h)
def d_M_near_26 (S : ax_S) (I : ax_I) (R : ax_R) (u0 : Nat) (x1 : Int32) (y0 : Int32) (w1 : Nat) : Option (Int32 × ax_I) :=
  (some (ax_up I w1 0 (y0))).bind fun I6 =>
  if (I6 u0 0) ≤ 0 then
    (R u0 20).bind fun u9 =>
    (ax_ix S u9 (x1)).bind fun j13 =>
    some (I6 u9 j13, I6)
  else
    some (0, I6)
set_option maxHeartbeats 1000000 in
theorem e_M_near_26 {l : Launch} {X : ax_X} {S : ax_S} {L : ax_L} {R0 : ax_R} {out : Int32 × ax_I} (hX : ax_ok X l "LossFreeToolsModel" b_M_near 2 (ax_rm 2 0 0)) (hF : ax_fin X (some .int) 0 0 (ax_of (ax_eq (some (.int out.1)) S out.2 R0 L))) (hS0 : ax_S0 X = S) : ∀ (I : ax_I) (R : ax_R) (u0 : Nat) (x1 : Int32) (y0 : Int32) (w1 : Nat), ax_typ S R → (S u0 = some (.inl 5)) → (S w1 = some (.inl 5)) → R = R0 → d_M_near_26 S  I R u0 x1 y0 w1 = some out → ax_W X 2 26 [some (.ref u0), some (.int (x1))] [.int (y0), .ref w1] S I R L 0 0 := by
  rintro I R u0 x1 y0 w1 hty hs0_ hw1_ hR0 h
  subst hR0
  unfold d_M_near_26 at h
  obtain ⟨I6, e7, h⟩ := ax_bs h
  refine ax_putI (q := 29) hX dc_M_near_26 rfl fl_M_68 rfl hw1_ (fun z => by cases z) rfl rfl e7 ?_
  refine ax_aload_n (q := 30) hX dc_M_near_29 rfl rfl rfl ?_
  refine ax_getI (q := 33) hX dc_M_near_30 rfl fl_M_68 rfl hs0_ ?_
  refine ax_if_le (tgt := 40) (q := 36) hX dc_M_near_33 rfl (by decide) (fun z8 => ?_) (fun z8 => ?_)
  · rw [if_pos z8] at h
    refine ax_aload_n (q := 41) hX dc_M_near_40 rfl rfl rfl ?_
    obtain ⟨u9, hu10, h⟩ := ax_bd h
    obtain ⟨n12, hs11⟩ : ∃ n, S u9 = some (.inr (0, n)) := hty.1 _ _ _ _ hs0_ hu10
    refine ax_getR (q := 44) hX dc_M_near_41 rfl fl_M_52 rfl hs0_ hu10 ?_
    refine ax_iload_n (q := 45) hX dc_M_near_44 rfl rfl rfl ?_
    obtain ⟨j13, hj14, h⟩ := ax_bd h
    have hj14 := ax_ix_s hty hs11 hj14
    refine ax_iald (q := 46) hX j13 dc_M_near_45 rfl hs11 hj14.1 hj14.2.1 hj14.2.2 ?_
    cases h
    exact ax_iret hX hF dc_M_near_46 rfl rfl (by decide) (by decide) ax_eq.mk (by rw [hS0]; exact fun _ _ z => z)
  · rw [if_neg z8] at h
    refine ax_iconst (v := 0) (q := 37) hX dc_M_near_36 rfl (by decide) ?_
    refine ax_goto (tgt := 46) hX dc_M_near_37 (by decide) ?_
    cases h
    exact ax_iret hX hF dc_M_near_46 rfl rfl (by decide) (by decide) ax_eq.mk (by rw [hS0]; exact fun _ _ z => z)
def d_M_near (S : ax_S) (I : ax_I) (R : ax_R) (u0 : Nat) (x1 : Int32) : Option (Int32 × ax_I) :=
  (d_M_in S I R (x1) (0) (3)).bind fun r3 =>
  if (ax_b r3) = 0 then
    d_M_near_26 S  I R u0 (x1) (1) u0
  else
    if (I u0 19) = 0 then
      d_M_near_26 S  I R u0 (x1) (2) u0
    else
      d_M_near_26 S  I R u0 (x1) (0) u0
set_option maxHeartbeats 1000000 in
theorem c_M_near (l : Launch) {S : ax_S} {I : ax_I} {R : ax_R} {L : ax_L} {u0 : Nat} {x1 : Int32} {out : Int32 × ax_I} (hty : ax_typ S R) (hs0 : S u0 = some (.inl 5)) (h : d_M_near S I R u0 x1 = some out) : ax_Met l y_M_near b_M_near 2 (some .int) (ax_rm 2 0 0) [.ref u0, .int x1] S I R L (ax_eq (some (.int out.1)) S out.2 R L) := by
  refine ax_enter (own := "LossFreeToolsModel") (by decide +kernel) rfl (ax_cats rfl) (Nat.le_of_ble_eq_true rfl) (fun X hX hF _ hS0 => ?_)
  show ax_W X 2 0 [some (.ref u0), some (.int (x1))] [] S I R L 0 0
  unfold d_M_near at h
  refine ax_aload_n (q := 1) hX dc_M_near_0 rfl rfl rfl ?_
  refine ax_iload_n (q := 2) hX dc_M_near_1 rfl rfl rfl ?_
  refine ax_iconst (v := 0) (q := 3) hX dc_M_near_2 rfl (by decide) ?_
  refine ax_iconst (v := 3) (q := 4) hX dc_M_near_3 rfl (by decide) ?_
  obtain ⟨r3, hr1, h⟩ := ax_bd h
  refine ax_kS (vs := [.int (x1), .int (0), .int (3)]) (rest := [.ref u0]) (q := 7) hX dc_M_near_4 rfl mt_M_in wl_M_84 wt_M_in (c_M_in l hty  hr1) rfl (by decide) rfl (Nat.le_of_ble_eq_true rfl) rfl rfl (by decide) (by decide) rfl ?_
  refine ax_if_ne (tgt := 14) (q := 10) hX dc_M_near_7 rfl (by decide) (fun z4 => ?_) (fun z4 => ?_)
  · rw [if_neg z4] at h
    refine ax_aload_n (q := 15) hX dc_M_near_14 rfl rfl rfl ?_
    refine ax_getI (q := 18) hX dc_M_near_15 rfl fl_M_77 rfl hs0 ?_
    refine ax_if_ne (tgt := 25) (q := 21) hX dc_M_near_18 rfl (by decide) (fun z5 => ?_) (fun z5 => ?_)
    · rw [if_neg z5] at h
      refine ax_iconst (v := 0) (q := 26) hX dc_M_near_25 rfl (by decide) ?_
      exact (e_M_near_26 hX hF hS0  I R u0 (x1) (0) u0 hty hs0 hs0 rfl h)
    · rw [if_pos z5] at h
      refine ax_iconst (v := 2) (q := 22) hX dc_M_near_21 rfl (by decide) ?_
      refine ax_goto (tgt := 26) hX dc_M_near_22 (by decide) ?_
      exact (e_M_near_26 hX hF hS0  I R u0 (x1) (2) u0 hty hs0 hs0 rfl h)
  · rw [if_pos z4] at h
    refine ax_iconst (v := 1) (q := 11) hX dc_M_near_10 rfl (by decide) ?_
    refine ax_goto (tgt := 26) hX dc_M_near_11 (by decide) ?_
    exact (e_M_near_26 hX hF hS0  I R u0 (x1) (1) u0 hty hs0 hs0 rfl h)
def d_M_both_151 (S : ax_S) (rec4 : ax_I → ax_R → Int32 → Int32 → Int32 → Int32 → Option (Int32)) (I : ax_I) (R : ax_R) (x0 : Int32) (x1 : Int32) (x3 : Int32) (y0 : Int32) : Option (Int32) :=
  rec4 I R (x0) (x1) (y0) (x3 + 1)
set_option maxHeartbeats 1000000 in
theorem e_M_both_151 {l : Launch} {X : ax_X} {S : ax_S} {L : ax_L} {I0 : ax_I} {R0 : ax_R} {out : Int32} (hX : ax_ok X l "LossFreeToolsModel" b_M_both 8 (ax_rm 2 0 0)) (hF : ax_fin X (some .int) 0 0 (ax_of (ax_eq (some (.int out)) S I0 R0 L))) (hS0 : ax_S0 X = S) (rec4 : ax_I → ax_R → Int32 → Int32 → Int32 → Int32 → Option (Int32)) (hrec4 : ∀ (I : ax_I) (R : ax_R) (x0 : Int32) (x1 : Int32) (x2 : Int32) (x3 : Int32), ax_typ S R → I = I0 → R = R0 → rec4 I R x0 x1 x2 x3 = some out → ax_W X 8 4 [some (.int (x0)), some (.int (x1)), some (.int (x2)), some (.int (x3)), none, none, none, none] [] S I R L 0 0) : ∀ (I : ax_I) (R : ax_R) (x0 : Int32) (x1 : Int32) (x3 : Int32) (y0 : Int32), ax_typ S R → I = I0 → R = R0 → d_M_both_151 S rec4 I R x0 x1 x3 y0 = some out → ax_W X 8 151 [some (.int (x0)), some (.int (x1)), none, some (.int (x3)), none, none, none, none] [.int (y0)] S I R L 0 0 := by
  rintro I R x0 x1 x3 y0 hty hI0 hR0 h
  subst hI0
  subst hR0
  unfold d_M_both_151 at h
  refine ax_istore_n (ls' := [some (.int (x0)), some (.int (x1)), some (.int (y0)), some (.int (x3)), none, none, none, none]) (q := 152) hX dc_M_both_151 rfl rfl (by decide) rfl ?_
  refine ax_iinc (v := x3 + 1) (ls' := [some (.int (x0)), some (.int (x1)), some (.int (y0)), some (.int (x3 + 1)), none, none, none, none]) (q := 155) hX dc_M_both_152 rfl rfl rfl (by decide) rfl ?_
  refine ax_goto (tgt := 4) hX dc_M_both_155 (by decide) ?_
  exact (hrec4 I R (x0) (x1) (y0) (x3 + 1) hty  rfl rfl h)
def d_M_both_150 (S : ax_S) (rec4 : ax_I → ax_R → Int32 → Int32 → Int32 → Int32 → Option (Int32)) (I : ax_I) (R : ax_R) (x0 : Int32) (x1 : Int32) (x2 : Int32) (x3 : Int32) : Option (Int32) :=
  d_M_both_151 S (rec4) I R (x0) (x1) (x3) (x2)
set_option maxHeartbeats 1000000 in
theorem e_M_both_150 {l : Launch} {X : ax_X} {S : ax_S} {L : ax_L} {I0 : ax_I} {R0 : ax_R} {out : Int32} (hX : ax_ok X l "LossFreeToolsModel" b_M_both 8 (ax_rm 2 0 0)) (hF : ax_fin X (some .int) 0 0 (ax_of (ax_eq (some (.int out)) S I0 R0 L))) (hS0 : ax_S0 X = S) (rec4 : ax_I → ax_R → Int32 → Int32 → Int32 → Int32 → Option (Int32)) (hrec4 : ∀ (I : ax_I) (R : ax_R) (x0 : Int32) (x1 : Int32) (x2 : Int32) (x3 : Int32), ax_typ S R → I = I0 → R = R0 → rec4 I R x0 x1 x2 x3 = some out → ax_W X 8 4 [some (.int (x0)), some (.int (x1)), some (.int (x2)), some (.int (x3)), none, none, none, none] [] S I R L 0 0) : ∀ (I : ax_I) (R : ax_R) (x0 : Int32) (x1 : Int32) (x2 : Int32) (x3 : Int32), ax_typ S R → I = I0 → R = R0 → d_M_both_150 S rec4 I R x0 x1 x2 x3 = some out → ax_W X 8 150 [some (.int (x0)), some (.int (x1)), some (.int (x2)), some (.int (x3)), none, none, none, none] [] S I R L 0 0 := by
  rintro I R x0 x1 x2 x3 hty hI0 hR0 h
  subst hI0
  subst hR0
  unfold d_M_both_150 at h
  refine ax_iload_n (q := 151) hX dc_M_both_150 rfl rfl rfl ?_
  exact ax_weak (ls' := [some (.int (x0)), some (.int (x1)), none, some (.int (x3)), none, none, none, none]) (ax_fewP_s _ _ (by repeat (first | exact trivial | (refine And.intro rfl ?_)))) (e_M_both_151 hX hF hS0 (rec4) (hrec4) I R (x0) (x1) (x3) (x2) hty  rfl rfl h)
def d_M_both_139 (S : ax_S) (rec4 : ax_I → ax_R → Int32 → Int32 → Int32 → Int32 → Option (Int32)) (I : ax_I) (R : ax_R) (x0 : Int32) (x1 : Int32) (x2 : Int32) (x3 : Int32) (y0 : Int32) : Option (Int32) :=
  (d_M_isTurned S I R (x3)).bind fun r32 =>
  if y0 = (ax_b r32) then
    d_M_both_151 S (rec4) I R (x0) (x1) (x3) (x3)
  else
    d_M_both_150 S (rec4) I R (x0) (x1) (x2) (x3)
set_option maxHeartbeats 1000000 in
theorem e_M_both_139 {l : Launch} {X : ax_X} {S : ax_S} {L : ax_L} {I0 : ax_I} {R0 : ax_R} {out : Int32} (hX : ax_ok X l "LossFreeToolsModel" b_M_both 8 (ax_rm 2 0 0)) (hF : ax_fin X (some .int) 0 0 (ax_of (ax_eq (some (.int out)) S I0 R0 L))) (hS0 : ax_S0 X = S) (rec4 : ax_I → ax_R → Int32 → Int32 → Int32 → Int32 → Option (Int32)) (hrec4 : ∀ (I : ax_I) (R : ax_R) (x0 : Int32) (x1 : Int32) (x2 : Int32) (x3 : Int32), ax_typ S R → I = I0 → R = R0 → rec4 I R x0 x1 x2 x3 = some out → ax_W X 8 4 [some (.int (x0)), some (.int (x1)), some (.int (x2)), some (.int (x3)), none, none, none, none] [] S I R L 0 0) : ∀ (I : ax_I) (R : ax_R) (x0 : Int32) (x1 : Int32) (x2 : Int32) (x3 : Int32) (y0 : Int32), ax_typ S R → I = I0 → R = R0 → d_M_both_139 S rec4 I R x0 x1 x2 x3 y0 = some out → ax_W X 8 139 [some (.int (x0)), some (.int (x1)), some (.int (x2)), some (.int (x3)), none, none, none, none] [.int (y0)] S I R L 0 0 := by
  rintro I R x0 x1 x2 x3 y0 hty hI0 hR0 h
  subst hI0
  subst hR0
  unfold d_M_both_139 at h
  refine ax_iload_n (q := 140) hX dc_M_both_139 rfl rfl rfl ?_
  obtain ⟨r32, hr30, h⟩ := ax_bd h
  refine ax_kS (vs := [.int (x3)]) (rest := [.int (y0)]) (q := 143) hX dc_M_both_140 rfl mt_M_isTurned wl_M_123 wt_M_isTurned (c_M_isTurned l hty  hr30) rfl (by decide) rfl (Nat.le_of_ble_eq_true rfl) rfl rfl (by decide) (by decide) rfl ?_
  refine ax_icmp_ne (tgt := 150) (q := 146) hX dc_M_both_143 rfl (by decide) (fun z33 => ?_) (fun z33 => ?_)
  · rw [if_neg z33] at h
    exact (e_M_both_150 hX hF hS0 (rec4) (hrec4) I R (x0) (x1) (x2) (x3) hty  rfl rfl h)
  · rw [if_pos z33] at h
    refine ax_iload_n (q := 147) hX dc_M_both_146 rfl rfl rfl ?_
    refine ax_goto (tgt := 151) hX dc_M_both_147 (by decide) ?_
    exact ax_weak (ls' := [some (.int (x0)), some (.int (x1)), none, some (.int (x3)), none, none, none, none]) (ax_fewP_s _ _ (by repeat (first | exact trivial | (refine And.intro rfl ?_)))) (e_M_both_151 hX hF hS0 (rec4) (hrec4) I R (x0) (x1) (x3) (x3) hty  rfl rfl h)
def d_M_both_110 (S : ax_S) (rec4 : ax_I → ax_R → Int32 → Int32 → Int32 → Int32 → Option (Int32)) (rec16 : ax_I → ax_R → Int32 → Int32 → Int32 → Int32 → Int32 → Int32 → Option (Int32)) (I : ax_I) (R : ax_R) (x0 : Int32) (x1 : Int32) (x2 : Int32) (x3 : Int32) (x5 : Int32) (y0 : Int32) : Option (Int32) :=
  rec16 I R (x0) (x1) (x2) (x3) (y0) (x5 + 1)
set_option maxHeartbeats 1000000 in
theorem e_M_both_110 {l : Launch} {X : ax_X} {S : ax_S} {L : ax_L} {I0 : ax_I} {R0 : ax_R} {out : Int32} (hX : ax_ok X l "LossFreeToolsModel" b_M_both 8 (ax_rm 2 0 0)) (hF : ax_fin X (some .int) 0 0 (ax_of (ax_eq (some (.int out)) S I0 R0 L))) (hS0 : ax_S0 X = S) (rec4 : ax_I → ax_R → Int32 → Int32 → Int32 → Int32 → Option (Int32)) (rec16 : ax_I → ax_R → Int32 → Int32 → Int32 → Int32 → Int32 → Int32 → Option (Int32)) (hrec4 : ∀ (I : ax_I) (R : ax_R) (x0 : Int32) (x1 : Int32) (x2 : Int32) (x3 : Int32), ax_typ S R → I = I0 → R = R0 → rec4 I R x0 x1 x2 x3 = some out → ax_W X 8 4 [some (.int (x0)), some (.int (x1)), some (.int (x2)), some (.int (x3)), none, none, none, none] [] S I R L 0 0) (hrec16 : ∀ (I : ax_I) (R : ax_R) (x0 : Int32) (x1 : Int32) (x2 : Int32) (x3 : Int32) (x4 : Int32) (x5 : Int32), ax_typ S R → I = I0 → R = R0 → rec16 I R x0 x1 x2 x3 x4 x5 = some out → ax_W X 8 16 [some (.int (x0)), some (.int (x1)), some (.int (x2)), some (.int (x3)), some (.int (x4)), some (.int (x5)), none, none] [] S I R L 0 0) : ∀ (I : ax_I) (R : ax_R) (x0 : Int32) (x1 : Int32) (x2 : Int32) (x3 : Int32) (x5 : Int32) (y0 : Int32), ax_typ S R → I = I0 → R = R0 → d_M_both_110 S rec4 rec16 I R x0 x1 x2 x3 x5 y0 = some out → ax_W X 8 110 [some (.int (x0)), some (.int (x1)), some (.int (x2)), some (.int (x3)), none, some (.int (x5)), none, none] [.int (y0)] S I R L 0 0 := by
  rintro I R x0 x1 x2 x3 x5 y0 hty hI0 hR0 h
  subst hI0
  subst hR0
  unfold d_M_both_110 at h
  refine ax_istore (ls' := [some (.int (x0)), some (.int (x1)), some (.int (x2)), some (.int (x3)), some (.int (y0)), some (.int (x5)), none, none]) (q := 112) hX dc_M_both_110 rfl (by decide) rfl ?_
  refine ax_iinc (v := x5 + 1) (ls' := [some (.int (x0)), some (.int (x1)), some (.int (x2)), some (.int (x3)), some (.int (y0)), some (.int (x5 + 1)), none, none]) (q := 115) hX dc_M_both_112 rfl rfl rfl (by decide) rfl ?_
  refine ax_goto (tgt := 16) hX dc_M_both_115 (by decide) ?_
  exact (hrec16 I R (x0) (x1) (x2) (x3) (y0) (x5 + 1) hty  rfl rfl h)
def d_M_both_109 (S : ax_S) (rec4 : ax_I → ax_R → Int32 → Int32 → Int32 → Int32 → Option (Int32)) (rec16 : ax_I → ax_R → Int32 → Int32 → Int32 → Int32 → Int32 → Int32 → Option (Int32)) (I : ax_I) (R : ax_R) (x0 : Int32) (x1 : Int32) (x2 : Int32) (x3 : Int32) (x5 : Int32) : Option (Int32) :=
  d_M_both_110 S (rec4) (rec16) I R (x0) (x1) (x2) (x3) (x5) (0)
set_option maxHeartbeats 1000000 in
theorem e_M_both_109 {l : Launch} {X : ax_X} {S : ax_S} {L : ax_L} {I0 : ax_I} {R0 : ax_R} {out : Int32} (hX : ax_ok X l "LossFreeToolsModel" b_M_both 8 (ax_rm 2 0 0)) (hF : ax_fin X (some .int) 0 0 (ax_of (ax_eq (some (.int out)) S I0 R0 L))) (hS0 : ax_S0 X = S) (rec4 : ax_I → ax_R → Int32 → Int32 → Int32 → Int32 → Option (Int32)) (rec16 : ax_I → ax_R → Int32 → Int32 → Int32 → Int32 → Int32 → Int32 → Option (Int32)) (hrec4 : ∀ (I : ax_I) (R : ax_R) (x0 : Int32) (x1 : Int32) (x2 : Int32) (x3 : Int32), ax_typ S R → I = I0 → R = R0 → rec4 I R x0 x1 x2 x3 = some out → ax_W X 8 4 [some (.int (x0)), some (.int (x1)), some (.int (x2)), some (.int (x3)), none, none, none, none] [] S I R L 0 0) (hrec16 : ∀ (I : ax_I) (R : ax_R) (x0 : Int32) (x1 : Int32) (x2 : Int32) (x3 : Int32) (x4 : Int32) (x5 : Int32), ax_typ S R → I = I0 → R = R0 → rec16 I R x0 x1 x2 x3 x4 x5 = some out → ax_W X 8 16 [some (.int (x0)), some (.int (x1)), some (.int (x2)), some (.int (x3)), some (.int (x4)), some (.int (x5)), none, none] [] S I R L 0 0) : ∀ (I : ax_I) (R : ax_R) (x0 : Int32) (x1 : Int32) (x2 : Int32) (x3 : Int32) (x5 : Int32), ax_typ S R → I = I0 → R = R0 → d_M_both_109 S rec4 rec16 I R x0 x1 x2 x3 x5 = some out → ax_W X 8 109 [some (.int (x0)), some (.int (x1)), some (.int (x2)), some (.int (x3)), none, some (.int (x5)), none, none] [] S I R L 0 0 := by
  rintro I R x0 x1 x2 x3 x5 hty hI0 hR0 h
  subst hI0
  subst hR0
  unfold d_M_both_109 at h
  refine ax_iconst (v := 0) (q := 110) hX dc_M_both_109 rfl (by decide) ?_
  exact (e_M_both_110 hX hF hS0 (rec4) (rec16) (hrec4) (hrec16) I R (x0) (x1) (x2) (x3) (x5) (0) hty  rfl rfl h)
def d_M_both_76 (S : ax_S) (rec4 : ax_I → ax_R → Int32 → Int32 → Int32 → Int32 → Option (Int32)) (rec16 : ax_I → ax_R → Int32 → Int32 → Int32 → Int32 → Int32 → Int32 → Option (Int32)) (I : ax_I) (R : ax_R) (x0 : Int32) (x1 : Int32) (x2 : Int32) (x3 : Int32) (x4 : Int32) (x5 : Int32) (y0 : Int32) (y1 : Int32) (y2 : Int32) (y3 : Int32) (y4 : Int32) : Option (Int32) :=
  (d_M_comes S I R (y4) (y3) (y2) (y1) (y0)).bind fun r24 =>
  if x4 = 0 then
    d_M_both_109 S (rec4) (rec16) I R (x0) (x1) (x2) (x3) (x5)
  else
    (d_M_comes S I R (x3) (x5 - x5 / 2 * 2) (x5 / 2) (2) (3)).bind fun r28 =>
    if r24 = r28 then
      d_M_both_110 S (rec4) (rec16) I R (x0) (x1) (x2) (x3) (x5) (1)
    else
      d_M_both_109 S (rec4) (rec16) I R (x0) (x1) (x2) (x3) (x5)
set_option maxHeartbeats 1000000 in
theorem e_M_both_76 {l : Launch} {X : ax_X} {S : ax_S} {L : ax_L} {I0 : ax_I} {R0 : ax_R} {out : Int32} (hX : ax_ok X l "LossFreeToolsModel" b_M_both 8 (ax_rm 2 0 0)) (hF : ax_fin X (some .int) 0 0 (ax_of (ax_eq (some (.int out)) S I0 R0 L))) (hS0 : ax_S0 X = S) (rec4 : ax_I → ax_R → Int32 → Int32 → Int32 → Int32 → Option (Int32)) (rec16 : ax_I → ax_R → Int32 → Int32 → Int32 → Int32 → Int32 → Int32 → Option (Int32)) (hrec4 : ∀ (I : ax_I) (R : ax_R) (x0 : Int32) (x1 : Int32) (x2 : Int32) (x3 : Int32), ax_typ S R → I = I0 → R = R0 → rec4 I R x0 x1 x2 x3 = some out → ax_W X 8 4 [some (.int (x0)), some (.int (x1)), some (.int (x2)), some (.int (x3)), none, none, none, none] [] S I R L 0 0) (hrec16 : ∀ (I : ax_I) (R : ax_R) (x0 : Int32) (x1 : Int32) (x2 : Int32) (x3 : Int32) (x4 : Int32) (x5 : Int32), ax_typ S R → I = I0 → R = R0 → rec16 I R x0 x1 x2 x3 x4 x5 = some out → ax_W X 8 16 [some (.int (x0)), some (.int (x1)), some (.int (x2)), some (.int (x3)), some (.int (x4)), some (.int (x5)), none, none] [] S I R L 0 0) : ∀ (I : ax_I) (R : ax_R) (x0 : Int32) (x1 : Int32) (x2 : Int32) (x3 : Int32) (x4 : Int32) (x5 : Int32) (y0 : Int32) (y1 : Int32) (y2 : Int32) (y3 : Int32) (y4 : Int32), ax_typ S R → I = I0 → R = R0 → d_M_both_76 S rec4 rec16 I R x0 x1 x2 x3 x4 x5 y0 y1 y2 y3 y4 = some out → ax_W X 8 76 [some (.int (x0)), some (.int (x1)), some (.int (x2)), some (.int (x3)), some (.int (x4)), some (.int (x5)), none, none] [.int (y0), .int (y1), .int (y2), .int (y3), .int (y4)] S I R L 0 0 := by
  rintro I R x0 x1 x2 x3 x4 x5 y0 y1 y2 y3 y4 hty hI0 hR0 h
  subst hI0
  subst hR0
  unfold d_M_both_76 at h
  obtain ⟨r24, hr22, h⟩ := ax_bd h
  refine ax_kS (vs := [.int (y4), .int (y3), .int (y2), .int (y1), .int (y0)]) (rest := []) (q := 79) hX dc_M_both_76 rfl mt_M_comes wl_M_119 wt_M_comes (c_M_comes l hty  hr22) rfl (by decide) rfl (Nat.le_of_ble_eq_true rfl) rfl rfl (by decide) (by decide) rfl ?_
  refine ax_istore (ls' := [some (.int (x0)), some (.int (x1)), some (.int (x2)), some (.int (x3)), some (.int (x4)), some (.int (x5)), none, some (.int (r24))]) (q := 81) hX dc_M_both_79 rfl (by decide) rfl ?_
  refine ax_iload (q := 83) hX dc_M_both_81 rfl rfl ?_
  refine ax_if_eq (tgt := 109) (q := 86) hX dc_M_both_83 rfl (by decide) (fun z25 => ?_) (fun z25 => ?_)
  · rw [if_pos z25] at h
    exact ax_weak (ls' := [some (.int (x0)), some (.int (x1)), some (.int (x2)), some (.int (x3)), none, some (.int (x5)), none, none]) (ax_fewP_s _ _ (by repeat (first | exact trivial | (refine And.intro rfl ?_)))) (e_M_both_109 hX hF hS0 (rec4) (rec16) (hrec4) (hrec16) I R (x0) (x1) (x2) (x3) (x5) hty  rfl rfl h)
  · rw [if_neg z25] at h
    refine ax_iload (q := 88) hX dc_M_both_86 rfl rfl ?_
    refine ax_iload_n (q := 89) hX dc_M_both_88 rfl rfl rfl ?_
    refine ax_iload (q := 91) hX dc_M_both_89 rfl rfl ?_
    refine ax_iconst (v := 2) (q := 92) hX dc_M_both_91 rfl (by decide) ?_
    refine ax_irem (q := 93) hX dc_M_both_92 rfl (by decide) ?_
    refine ax_iload (q := 95) hX dc_M_both_93 rfl rfl ?_
    refine ax_iconst (v := 2) (q := 96) hX dc_M_both_95 rfl (by decide) ?_
    refine ax_idiv (q := 97) hX dc_M_both_96 rfl (by decide) ?_
    refine ax_iconst (v := 2) (q := 98) hX dc_M_both_97 rfl (by decide) ?_
    refine ax_iconst (v := 3) (q := 99) hX dc_M_both_98 rfl (by decide) ?_
    obtain ⟨r28, hr26, h⟩ := ax_bd h
    refine ax_kS (vs := [.int (x3), .int (x5 - x5 / 2 * 2), .int (x5 / 2), .int (2), .int (3)]) (rest := [.int (r24)]) (q := 102) hX dc_M_both_99 rfl mt_M_comes wl_M_119 wt_M_comes (c_M_comes l hty  hr26) rfl (by decide) rfl (Nat.le_of_ble_eq_true rfl) rfl rfl (by decide) (by decide) rfl ?_
    refine ax_icmp_ne (tgt := 109) (q := 105) hX dc_M_both_102 rfl (by decide) (fun z29 => ?_) (fun z29 => ?_)
    · rw [if_neg z29] at h
      exact ax_weak (ls' := [some (.int (x0)), some (.int (x1)), some (.int (x2)), some (.int (x3)), none, some (.int (x5)), none, none]) (ax_fewP_s _ _ (by repeat (first | exact trivial | (refine And.intro rfl ?_)))) (e_M_both_109 hX hF hS0 (rec4) (rec16) (hrec4) (hrec16) I R (x0) (x1) (x2) (x3) (x5) hty  rfl rfl h)
    · rw [if_pos z29] at h
      refine ax_iconst (v := 1) (q := 106) hX dc_M_both_105 rfl (by decide) ?_
      refine ax_goto (tgt := 110) hX dc_M_both_106 (by decide) ?_
      exact ax_weak (ls' := [some (.int (x0)), some (.int (x1)), some (.int (x2)), some (.int (x3)), none, some (.int (x5)), none, none]) (ax_fewP_s _ _ (by repeat (first | exact trivial | (refine And.intro rfl ?_)))) (e_M_both_110 hX hF hS0 (rec4) (rec16) (hrec4) (hrec16) I R (x0) (x1) (x2) (x3) (x5) (1) hty  rfl rfl h)
def d_M_both_64 (S : ax_S) (rec4 : ax_I → ax_R → Int32 → Int32 → Int32 → Int32 → Option (Int32)) (rec16 : ax_I → ax_R → Int32 → Int32 → Int32 → Int32 → Int32 → Int32 → Option (Int32)) (I : ax_I) (R : ax_R) (x0 : Int32) (x1 : Int32) (x2 : Int32) (x3 : Int32) (x4 : Int32) (x5 : Int32) (y0 : Int32) (y1 : Int32) (y2 : Int32) (y3 : Int32) : Option (Int32) :=
  (d_M_isTurned S I R (x0)).bind fun r20 =>
  if (ax_b r20) = 0 then
    d_M_both_76 S (rec4) (rec16) I R (x0) (x1) (x2) (x3) (x4) (x5) (3) (y0) (y1) (y2) (y3)
  else
    d_M_both_76 S (rec4) (rec16) I R (x0) (x1) (x2) (x3) (x4) (x5) (2) (y0) (y1) (y2) (y3)
set_option maxHeartbeats 1000000 in
theorem e_M_both_64 {l : Launch} {X : ax_X} {S : ax_S} {L : ax_L} {I0 : ax_I} {R0 : ax_R} {out : Int32} (hX : ax_ok X l "LossFreeToolsModel" b_M_both 8 (ax_rm 2 0 0)) (hF : ax_fin X (some .int) 0 0 (ax_of (ax_eq (some (.int out)) S I0 R0 L))) (hS0 : ax_S0 X = S) (rec4 : ax_I → ax_R → Int32 → Int32 → Int32 → Int32 → Option (Int32)) (rec16 : ax_I → ax_R → Int32 → Int32 → Int32 → Int32 → Int32 → Int32 → Option (Int32)) (hrec4 : ∀ (I : ax_I) (R : ax_R) (x0 : Int32) (x1 : Int32) (x2 : Int32) (x3 : Int32), ax_typ S R → I = I0 → R = R0 → rec4 I R x0 x1 x2 x3 = some out → ax_W X 8 4 [some (.int (x0)), some (.int (x1)), some (.int (x2)), some (.int (x3)), none, none, none, none] [] S I R L 0 0) (hrec16 : ∀ (I : ax_I) (R : ax_R) (x0 : Int32) (x1 : Int32) (x2 : Int32) (x3 : Int32) (x4 : Int32) (x5 : Int32), ax_typ S R → I = I0 → R = R0 → rec16 I R x0 x1 x2 x3 x4 x5 = some out → ax_W X 8 16 [some (.int (x0)), some (.int (x1)), some (.int (x2)), some (.int (x3)), some (.int (x4)), some (.int (x5)), none, none] [] S I R L 0 0) : ∀ (I : ax_I) (R : ax_R) (x0 : Int32) (x1 : Int32) (x2 : Int32) (x3 : Int32) (x4 : Int32) (x5 : Int32) (y0 : Int32) (y1 : Int32) (y2 : Int32) (y3 : Int32), ax_typ S R → I = I0 → R = R0 → d_M_both_64 S rec4 rec16 I R x0 x1 x2 x3 x4 x5 y0 y1 y2 y3 = some out → ax_W X 8 64 [some (.int (x0)), some (.int (x1)), some (.int (x2)), some (.int (x3)), some (.int (x4)), some (.int (x5)), none, none] [.int (y0), .int (y1), .int (y2), .int (y3)] S I R L 0 0 := by
  rintro I R x0 x1 x2 x3 x4 x5 y0 y1 y2 y3 hty hI0 hR0 h
  subst hI0
  subst hR0
  unfold d_M_both_64 at h
  refine ax_iload_n (q := 65) hX dc_M_both_64 rfl rfl rfl ?_
  obtain ⟨r20, hr18, h⟩ := ax_bd h
  refine ax_kS (vs := [.int (x0)]) (rest := [.int (y0), .int (y1), .int (y2), .int (y3)]) (q := 68) hX dc_M_both_65 rfl mt_M_isTurned wl_M_123 wt_M_isTurned (c_M_isTurned l hty  hr18) rfl (by decide) rfl (Nat.le_of_ble_eq_true rfl) rfl rfl (by decide) (by decide) rfl ?_
  refine ax_if_eq (tgt := 75) (q := 71) hX dc_M_both_68 rfl (by decide) (fun z21 => ?_) (fun z21 => ?_)
  · rw [if_pos z21] at h
    refine ax_iconst (v := 3) (q := 76) hX dc_M_both_75 rfl (by decide) ?_
    exact (e_M_both_76 hX hF hS0 (rec4) (rec16) (hrec4) (hrec16) I R (x0) (x1) (x2) (x3) (x4) (x5) (3) (y0) (y1) (y2) (y3) hty  rfl rfl h)
  · rw [if_neg z21] at h
    refine ax_iconst (v := 2) (q := 72) hX dc_M_both_71 rfl (by decide) ?_
    refine ax_goto (tgt := 76) hX dc_M_both_72 (by decide) ?_
    exact (e_M_both_76 hX hF hS0 (rec4) (rec16) (hrec4) (hrec16) I R (x0) (x1) (x2) (x3) (x4) (x5) (2) (y0) (y1) (y2) (y3) hty  rfl rfl h)
def d_M_both_16 (S : ax_S) (rec4 : ax_I → ax_R → Int32 → Int32 → Int32 → Int32 → Option (Int32)) : Nat → ax_I → ax_R → Int32 → Int32 → Int32 → Int32 → Int32 → Int32 → Option (Int32)
  | 0, _, _, _, _, _, _, _, _ => none
  | n + 1, I, R, x0, x1, x2, x3, x4, x5 =>
    if 6 ≤ x5 then
      if x4 = 0 then
        d_M_both_150 S (rec4) I R (x0) (x1) (x2) (x3)
      else
        (d_M_isTurned S I R (x0)).bind fun r6 =>
        (d_M_isTurned S I R (x1)).bind fun r9 =>
        if (ax_b r6) = (ax_b r9) then
          d_M_both_139 S (rec4) I R (x0) (x1) (x2) (x3) (0)
        else
          d_M_both_139 S (rec4) I R (x0) (x1) (x2) (x3) (1)
    else
      (d_M_comes S I R (x0) (x5 - x5 / 2 * 2) (x5 / 2) (2) (3)).bind fun r13 =>
      (d_M_isTurned S I R (x0)).bind fun r16 =>
      if (ax_b r16) = 0 then
        d_M_both_64 S (rec4) (d_M_both_16 S rec4 n) I R (x0) (x1) (x2) (x3) (x4) (x5) (2) (r13 / 1000) (r13 - r13 / 1000 * 1000) (x1)
      else
        d_M_both_64 S (rec4) (d_M_both_16 S rec4 n) I R (x0) (x1) (x2) (x3) (x4) (x5) (3) (r13 / 1000) (r13 - r13 / 1000 * 1000) (x1)
set_option maxHeartbeats 1000000 in
theorem e_M_both_16 {l : Launch} {X : ax_X} {S : ax_S} {L : ax_L} {I0 : ax_I} {R0 : ax_R} {out : Int32} (hX : ax_ok X l "LossFreeToolsModel" b_M_both 8 (ax_rm 2 0 0)) (hF : ax_fin X (some .int) 0 0 (ax_of (ax_eq (some (.int out)) S I0 R0 L))) (hS0 : ax_S0 X = S) (rec4 : ax_I → ax_R → Int32 → Int32 → Int32 → Int32 → Option (Int32)) (hrec4 : ∀ (I : ax_I) (R : ax_R) (x0 : Int32) (x1 : Int32) (x2 : Int32) (x3 : Int32), ax_typ S R → I = I0 → R = R0 → rec4 I R x0 x1 x2 x3 = some out → ax_W X 8 4 [some (.int (x0)), some (.int (x1)), some (.int (x2)), some (.int (x3)), none, none, none, none] [] S I R L 0 0) : ∀ (n : Nat), ∀ (I : ax_I) (R : ax_R) (x0 : Int32) (x1 : Int32) (x2 : Int32) (x3 : Int32) (x4 : Int32) (x5 : Int32), ax_typ S R → I = I0 → R = R0 → d_M_both_16 S rec4 n I R x0 x1 x2 x3 x4 x5 = some out → ax_W X 8 16 [some (.int (x0)), some (.int (x1)), some (.int (x2)), some (.int (x3)), some (.int (x4)), some (.int (x5)), none, none] [] S I R L 0 0 := by
  intro n
  induction n with
  | zero =>
    rintro I R x0 x1 x2 x3 x4 x5 hty hI0 hR0 h
    cases h
  | succ n ih =>
    rintro I R x0 x1 x2 x3 x4 x5 hty hI0 hR0 h
    subst hI0
    subst hR0
    unfold d_M_both_16 at h
    refine ax_iload (q := 18) hX dc_M_both_16 rfl rfl ?_
    refine ax_bipush (v := 6) (q := 20) hX dc_M_both_18 rfl (by decide) ?_
    refine ax_icmp_ge (tgt := 118) (q := 23) hX dc_M_both_20 rfl (by decide) (fun z2 => ?_) (fun z2 => ?_)
    · rw [if_pos z2] at h
      refine ax_iload (q := 120) hX dc_M_both_118 rfl rfl ?_
      refine ax_if_eq (tgt := 150) (q := 123) hX dc_M_both_120 rfl (by decide) (fun z3 => ?_) (fun z3 => ?_)
      · rw [if_pos z3] at h
        exact ax_weak (ls' := [some (.int (x0)), some (.int (x1)), some (.int (x2)), some (.int (x3)), none, none, none, none]) (ax_fewP_s _ _ (by repeat (first | exact trivial | (refine And.intro rfl ?_)))) (e_M_both_150 hX hF hS0 (rec4) (hrec4) I R (x0) (x1) (x2) (x3) hty  rfl rfl h)
      · rw [if_neg z3] at h
        refine ax_iload_n (q := 124) hX dc_M_both_123 rfl rfl rfl ?_
        obtain ⟨r6, hr4, h⟩ := ax_bd h
        refine ax_kS (vs := [.int (x0)]) (rest := []) (q := 127) hX dc_M_both_124 rfl mt_M_isTurned wl_M_123 wt_M_isTurned (c_M_isTurned l hty  hr4) rfl (by decide) rfl (Nat.le_of_ble_eq_true rfl) rfl rfl (by decide) (by decide) rfl ?_
        refine ax_iload_n (q := 128) hX dc_M_both_127 rfl rfl rfl ?_
        obtain ⟨r9, hr7, h⟩ := ax_bd h
        refine ax_kS (vs := [.int (x1)]) (rest := [.int (ax_b r6)]) (q := 131) hX dc_M_both_128 rfl mt_M_isTurned wl_M_123 wt_M_isTurned (c_M_isTurned l hty  hr7) rfl (by decide) rfl (Nat.le_of_ble_eq_true rfl) rfl rfl (by decide) (by decide) rfl ?_
        refine ax_icmp_eq (tgt := 138) (q := 134) hX dc_M_both_131 rfl (by decide) (fun z10 => ?_) (fun z10 => ?_)
        · rw [if_pos z10] at h
          refine ax_iconst (v := 0) (q := 139) hX dc_M_both_138 rfl (by decide) ?_
          exact ax_weak (ls' := [some (.int (x0)), some (.int (x1)), some (.int (x2)), some (.int (x3)), none, none, none, none]) (ax_fewP_s _ _ (by repeat (first | exact trivial | (refine And.intro rfl ?_)))) (e_M_both_139 hX hF hS0 (rec4) (hrec4) I R (x0) (x1) (x2) (x3) (0) hty  rfl rfl h)
        · rw [if_neg z10] at h
          refine ax_iconst (v := 1) (q := 135) hX dc_M_both_134 rfl (by decide) ?_
          refine ax_goto (tgt := 139) hX dc_M_both_135 (by decide) ?_
          exact ax_weak (ls' := [some (.int (x0)), some (.int (x1)), some (.int (x2)), some (.int (x3)), none, none, none, none]) (ax_fewP_s _ _ (by repeat (first | exact trivial | (refine And.intro rfl ?_)))) (e_M_both_139 hX hF hS0 (rec4) (hrec4) I R (x0) (x1) (x2) (x3) (1) hty  rfl rfl h)
    · rw [if_neg z2] at h
      refine ax_iload_n (q := 24) hX dc_M_both_23 rfl rfl rfl ?_
      refine ax_iload (q := 26) hX dc_M_both_24 rfl rfl ?_
      refine ax_iconst (v := 2) (q := 27) hX dc_M_both_26 rfl (by decide) ?_
      refine ax_irem (q := 28) hX dc_M_both_27 rfl (by decide) ?_
      refine ax_iload (q := 30) hX dc_M_both_28 rfl rfl ?_
      refine ax_iconst (v := 2) (q := 31) hX dc_M_both_30 rfl (by decide) ?_
      refine ax_idiv (q := 32) hX dc_M_both_31 rfl (by decide) ?_
      refine ax_iconst (v := 2) (q := 33) hX dc_M_both_32 rfl (by decide) ?_
      refine ax_iconst (v := 3) (q := 34) hX dc_M_both_33 rfl (by decide) ?_
      obtain ⟨r13, hr11, h⟩ := ax_bd h
      refine ax_kS (vs := [.int (x0), .int (x5 - x5 / 2 * 2), .int (x5 / 2), .int (2), .int (3)]) (rest := []) (q := 37) hX dc_M_both_34 rfl mt_M_comes wl_M_119 wt_M_comes (c_M_comes l hty  hr11) rfl (by decide) rfl (Nat.le_of_ble_eq_true rfl) rfl rfl (by decide) (by decide) rfl ?_
      refine ax_istore (ls' := [some (.int (x0)), some (.int (x1)), some (.int (x2)), some (.int (x3)), some (.int (x4)), some (.int (x5)), some (.int (r13)), none]) (q := 39) hX dc_M_both_37 rfl (by decide) rfl ?_
      refine ax_iload_n (q := 40) hX dc_M_both_39 rfl rfl rfl ?_
      refine ax_iload (q := 42) hX dc_M_both_40 rfl rfl ?_
      refine ax_sipush (v := 1000) (q := 45) hX dc_M_both_42 rfl (by decide) ?_
      refine ax_irem (q := 46) hX dc_M_both_45 rfl (by decide) ?_
      refine ax_iload (q := 48) hX dc_M_both_46 rfl rfl ?_
      refine ax_sipush (v := 1000) (q := 51) hX dc_M_both_48 rfl (by decide) ?_
      refine ax_idiv (q := 52) hX dc_M_both_51 rfl (by decide) ?_
      refine ax_iload_n (q := 53) hX dc_M_both_52 rfl rfl rfl ?_
      obtain ⟨r16, hr14, h⟩ := ax_bd h
      refine ax_kS (vs := [.int (x0)]) (rest := [.int (r13 / 1000), .int (r13 - r13 / 1000 * 1000), .int (x1)]) (q := 56) hX dc_M_both_53 rfl mt_M_isTurned wl_M_123 wt_M_isTurned (c_M_isTurned l hty  hr14) rfl (by decide) rfl (Nat.le_of_ble_eq_true rfl) rfl rfl (by decide) (by decide) rfl ?_
      refine ax_if_eq (tgt := 63) (q := 59) hX dc_M_both_56 rfl (by decide) (fun z17 => ?_) (fun z17 => ?_)
      · rw [if_pos z17] at h
        refine ax_iconst (v := 2) (q := 64) hX dc_M_both_63 rfl (by decide) ?_
        exact ax_weak (ls' := [some (.int (x0)), some (.int (x1)), some (.int (x2)), some (.int (x3)), some (.int (x4)), some (.int (x5)), none, none]) (ax_fewP_s _ _ (by repeat (first | exact trivial | (refine And.intro rfl ?_)))) (e_M_both_64 hX hF hS0 (rec4) (d_M_both_16 S rec4 n) (hrec4) (ih) I R (x0) (x1) (x2) (x3) (x4) (x5) (2) (r13 / 1000) (r13 - r13 / 1000 * 1000) (x1) hty  rfl rfl h)
      · rw [if_neg z17] at h
        refine ax_iconst (v := 3) (q := 60) hX dc_M_both_59 rfl (by decide) ?_
        refine ax_goto (tgt := 64) hX dc_M_both_60 (by decide) ?_
        exact ax_weak (ls' := [some (.int (x0)), some (.int (x1)), some (.int (x2)), some (.int (x3)), some (.int (x4)), some (.int (x5)), none, none]) (ax_fewP_s _ _ (by repeat (first | exact trivial | (refine And.intro rfl ?_)))) (e_M_both_64 hX hF hS0 (rec4) (d_M_both_16 S rec4 n) (hrec4) (ih) I R (x0) (x1) (x2) (x3) (x4) (x5) (3) (r13 / 1000) (r13 - r13 / 1000 * 1000) (x1) hty  rfl rfl h)
def d_M_both_4 (S : ax_S) : Nat → ax_I → ax_R → Int32 → Int32 → Int32 → Int32 → Option (Int32)
  | 0, _, _, _, _, _, _ => none
  | n + 1, I, R, x0, x1, x2, x3 =>
    if 8 ≤ x3 then
      some (x2)
    else
      d_M_both_16 S (d_M_both_4 S  n) 5000 I R (x0) (x1) (x2) (x3) (1) (0)
set_option maxHeartbeats 1000000 in
theorem e_M_both_4 {l : Launch} {X : ax_X} {S : ax_S} {L : ax_L} {I0 : ax_I} {R0 : ax_R} {out : Int32} (hX : ax_ok X l "LossFreeToolsModel" b_M_both 8 (ax_rm 2 0 0)) (hF : ax_fin X (some .int) 0 0 (ax_of (ax_eq (some (.int out)) S I0 R0 L))) (hS0 : ax_S0 X = S) : ∀ (n : Nat), ∀ (I : ax_I) (R : ax_R) (x0 : Int32) (x1 : Int32) (x2 : Int32) (x3 : Int32), ax_typ S R → I = I0 → R = R0 → d_M_both_4 S  n I R x0 x1 x2 x3 = some out → ax_W X 8 4 [some (.int (x0)), some (.int (x1)), some (.int (x2)), some (.int (x3)), none, none, none, none] [] S I R L 0 0 := by
  intro n
  induction n with
  | zero =>
    rintro I R x0 x1 x2 x3 hty hI0 hR0 h
    cases h
  | succ n ih =>
    rintro I R x0 x1 x2 x3 hty hI0 hR0 h
    subst hI0
    subst hR0
    unfold d_M_both_4 at h
    refine ax_iload_n (q := 5) hX dc_M_both_4 rfl rfl rfl ?_
    refine ax_bipush (v := 8) (q := 7) hX dc_M_both_5 rfl (by decide) ?_
    refine ax_icmp_ge (tgt := 158) (q := 10) hX dc_M_both_7 rfl (by decide) (fun z1 => ?_) (fun z1 => ?_)
    · rw [if_pos z1] at h
      refine ax_iload_n (q := 159) hX dc_M_both_158 rfl rfl rfl ?_
      cases h
      exact ax_iret hX hF dc_M_both_159 rfl rfl (by decide) (by decide) ax_eq.mk (by rw [hS0]; exact fun _ _ z => z)
    · rw [if_neg z1] at h
      refine ax_iconst (v := 1) (q := 11) hX dc_M_both_10 rfl (by decide) ?_
      refine ax_istore (ls' := [some (.int (x0)), some (.int (x1)), some (.int (x2)), some (.int (x3)), some (.int (1)), none, none, none]) (q := 13) hX dc_M_both_11 rfl (by decide) rfl ?_
      refine ax_iconst (v := 0) (q := 14) hX dc_M_both_13 rfl (by decide) ?_
      refine ax_istore (ls' := [some (.int (x0)), some (.int (x1)), some (.int (x2)), some (.int (x3)), some (.int (1)), some (.int (0)), none, none]) (q := 16) hX dc_M_both_14 rfl (by decide) rfl ?_
      exact (e_M_both_16 hX hF hS0 (d_M_both_4 S  n) (ih) 5000 I R (x0) (x1) (x2) (x3) (1) (0) hty  rfl rfl h)
def d_M_both (S : ax_S) (I : ax_I) (R : ax_R) (x0 : Int32) (x1 : Int32) : Option (Int32) :=
  d_M_both_4 S  5000 I R (x0) (x1) ((-1)) (0)
set_option maxHeartbeats 1000000 in
theorem c_M_both (l : Launch) {S : ax_S} {I : ax_I} {R : ax_R} {L : ax_L} {x0 : Int32} {x1 : Int32} {out : Int32} (hty : ax_typ S R) (h : d_M_both S I R x0 x1 = some out) : ax_Met l y_M_both b_M_both 8 (some .int) (ax_rm 2 0 0) [.int x0, .int x1] S I R L (ax_eq (some (.int out)) S I R L) := by
  refine ax_enter (own := "LossFreeToolsModel") (by decide +kernel) rfl (ax_cats rfl) (Nat.le_of_ble_eq_true rfl) (fun X hX hF _ hS0 => ?_)
  show ax_W X 8 0 [some (.int (x0)), some (.int (x1)), none, none, none, none, none, none] [] S I R L 0 0
  unfold d_M_both at h
  refine ax_iconst (v := (-1)) (q := 1) hX dc_M_both_0 rfl (by decide) ?_
  refine ax_istore_n (ls' := [some (.int (x0)), some (.int (x1)), some (.int ((-1))), none, none, none, none, none]) (q := 2) hX dc_M_both_1 rfl rfl (by decide) rfl ?_
  refine ax_iconst (v := 0) (q := 3) hX dc_M_both_2 rfl (by decide) ?_
  refine ax_istore_n (ls' := [some (.int (x0)), some (.int (x1)), some (.int ((-1))), some (.int (0)), none, none, none, none]) (q := 4) hX dc_M_both_3 rfl rfl (by decide) rfl ?_
  exact (e_M_both_4 hX hF hS0  5000 I R (x0) (x1) ((-1)) (0) hty  rfl rfl h)
def d_M_join_638 (S : ax_S) (I : ax_I) (R : ax_R) (u0 : Nat) (y0 : Int32) (y1 : Int32) (w2 : Nat) : Option (Int32 × ax_I) :=
  (ax_ix S w2 (y1)).bind fun j315 =>
  (some (ax_up I w2 j315 (y0))).bind fun I317 =>
  (some (ax_up I317 u0 18 (0))).bind fun I319 =>
  (some (ax_up I319 u0 19 (0))).bind fun I321 =>
  (R u0 6).bind fun u323 =>
  (ax_ix S u323 (I321 u0 3)).bind fun j327 =>
  some (I321 u323 j327, I321)
set_option maxHeartbeats 1000000 in
theorem e_M_join_638 {l : Launch} {X : ax_X} {S : ax_S} {L : ax_L} {R0 : ax_R} {out : Int32 × ax_I} (hX : ax_ok X l "LossFreeToolsModel" b_M_join 12 (ax_rm 2 0 0)) (hF : ax_fin X (some .int) 0 0 (ax_of (ax_eq (some (.int out.1)) S out.2 R0 L))) (hS0 : ax_S0 X = S) : ∀ (I : ax_I) (R : ax_R) (u0 : Nat) (y0 : Int32) (y1 : Int32) (w2 : Nat), ax_typ S R → (S u0 = some (.inl 5)) → (∃ n, S w2 = some (.inr (0, n))) → R = R0 → d_M_join_638 S  I R u0 y0 y1 w2 = some out → ax_W X 12 638 [some (.ref u0), none, none, none, none, none, none, none, none, none, none, none] [.int (y0), .int (y1), .ref w2] S I R L 0 0 := by
  rintro I R u0 y0 y1 w2 hty hs0_ ⟨nw2_, hw2_⟩ hR0 h
  subst hR0
  unfold d_M_join_638 at h
  obtain ⟨j315, hj316, h⟩ := ax_bd h
  have hj316 := ax_ix_s hty hw2_ hj316
  obtain ⟨I317, e318, h⟩ := ax_bs h
  refine ax_iast (q := 639) hX j315 dc_M_join_638 rfl hw2_ hj316.1 hj316.2.1 hj316.2.2 e318 ?_
  refine ax_aload_n (q := 640) hX dc_M_join_639 rfl rfl rfl ?_
  refine ax_iconst (v := 0) (q := 641) hX dc_M_join_640 rfl (by decide) ?_
  obtain ⟨I319, e320, h⟩ := ax_bs h
  refine ax_putI (q := 644) hX dc_M_join_641 rfl fl_M_74 rfl hs0_ (fun z => by cases z) rfl rfl e320 ?_
  refine ax_aload_n (q := 645) hX dc_M_join_644 rfl rfl rfl ?_
  refine ax_iconst (v := 0) (q := 646) hX dc_M_join_645 rfl (by decide) ?_
  obtain ⟨I321, e322, h⟩ := ax_bs h
  refine ax_putI (q := 649) hX dc_M_join_646 rfl fl_M_77 rfl hs0_ (fun z => by cases z) rfl rfl e322 ?_
  refine ax_aload_n (q := 650) hX dc_M_join_649 rfl rfl rfl ?_
  obtain ⟨u323, hu324, h⟩ := ax_bd h
  obtain ⟨n326, hs325⟩ : ∃ n, S u323 = some (.inr (0, n)) := hty.1 _ _ _ _ hs0_ hu324
  refine ax_getR (q := 653) hX dc_M_join_650 rfl fl_M_16 rfl hs0_ hu324 ?_
  refine ax_aload_n (q := 654) hX dc_M_join_653 rfl rfl rfl ?_
  refine ax_getI (q := 657) hX dc_M_join_654 rfl fl_M_71 rfl hs0_ ?_
  obtain ⟨j327, hj328, h⟩ := ax_bd h
  have hj328 := ax_ix_s hty hs325 hj328
  refine ax_iald (q := 658) hX j327 dc_M_join_657 rfl hs325 hj328.1 hj328.2.1 hj328.2.2 ?_
  cases h
  exact ax_iret hX hF dc_M_join_658 rfl rfl (by decide) (by decide) ax_eq.mk (by rw [hS0]; exact fun _ _ z => z)
def d_M_join_611 (S : ax_S) (I : ax_I) (R : ax_R) (u0 : Nat) (x3 : Int32) (x4 : Int32) (y0 : Int32) (y1 : Int32) (w2 : Nat) : Option (Int32 × ax_I) :=
  (ax_ix S w2 (y1)).bind fun j300 =>
  (some (ax_up I w2 j300 (y0))).bind fun I302 =>
  (R u0 5).bind fun u304 =>
  if x3 = 0 then
    d_M_join_638 S  I302 R u0 (x4) (I302 u0 3) u304
  else
    (R u0 5).bind fun u309 =>
    (ax_ix S u309 (I302 u0 3)).bind fun j313 =>
    d_M_join_638 S  I302 R u0 (I302 u309 j313) (I302 u0 3) u304
set_option maxHeartbeats 1000000 in
theorem e_M_join_611 {l : Launch} {X : ax_X} {S : ax_S} {L : ax_L} {R0 : ax_R} {out : Int32 × ax_I} (hX : ax_ok X l "LossFreeToolsModel" b_M_join 12 (ax_rm 2 0 0)) (hF : ax_fin X (some .int) 0 0 (ax_of (ax_eq (some (.int out.1)) S out.2 R0 L))) (hS0 : ax_S0 X = S) : ∀ (I : ax_I) (R : ax_R) (u0 : Nat) (x3 : Int32) (x4 : Int32) (y0 : Int32) (y1 : Int32) (w2 : Nat), ax_typ S R → (S u0 = some (.inl 5)) → (∃ n, S w2 = some (.inr (0, n))) → R = R0 → d_M_join_611 S  I R u0 x3 x4 y0 y1 w2 = some out → ax_W X 12 611 [some (.ref u0), none, none, some (.int (x3)), some (.int (x4)), none, none, none, none, none, none, none] [.int (y0), .int (y1), .ref w2] S I R L 0 0 := by
  rintro I R u0 x3 x4 y0 y1 w2 hty hs0_ ⟨nw2_, hw2_⟩ hR0 h
  subst hR0
  unfold d_M_join_611 at h
  obtain ⟨j300, hj301, h⟩ := ax_bd h
  have hj301 := ax_ix_s hty hw2_ hj301
  obtain ⟨I302, e303, h⟩ := ax_bs h
  refine ax_iast (q := 612) hX j300 dc_M_join_611 rfl hw2_ hj301.1 hj301.2.1 hj301.2.2 e303 ?_
  refine ax_aload_n (q := 613) hX dc_M_join_612 rfl rfl rfl ?_
  obtain ⟨u304, hu305, h⟩ := ax_bd h
  obtain ⟨n307, hs306⟩ : ∃ n, S u304 = some (.inr (0, n)) := hty.1 _ _ _ _ hs0_ hu305
  refine ax_getR (q := 616) hX dc_M_join_613 rfl fl_M_13 rfl hs0_ hu305 ?_
  refine ax_aload_n (q := 617) hX dc_M_join_616 rfl rfl rfl ?_
  refine ax_getI (q := 620) hX dc_M_join_617 rfl fl_M_71 rfl hs0_ ?_
  refine ax_iload_n (q := 621) hX dc_M_join_620 rfl rfl rfl ?_
  refine ax_if_eq (tgt := 636) (q := 624) hX dc_M_join_621 rfl (by decide) (fun z308 => ?_) (fun z308 => ?_)
  · rw [if_pos z308] at h
    refine ax_iload (q := 638) hX dc_M_join_636 rfl rfl ?_
    exact ax_weak (ls' := [some (.ref u0), none, none, none, none, none, none, none, none, none, none, none]) (ax_fewP_s _ _ (by repeat (first | exact trivial | (refine And.intro rfl ?_)))) (e_M_join_638 hX hF hS0  I302 R u0 (x4) (I302 u0 3) u304 hty hs0_ ⟨n307, hs306⟩ rfl h)
  · rw [if_neg z308] at h
    refine ax_aload_n (q := 625) hX dc_M_join_624 rfl rfl rfl ?_
    obtain ⟨u309, hu310, h⟩ := ax_bd h
    obtain ⟨n312, hs311⟩ : ∃ n, S u309 = some (.inr (0, n)) := hty.1 _ _ _ _ hs0_ hu310
    refine ax_getR (q := 628) hX dc_M_join_625 rfl fl_M_13 rfl hs0_ hu310 ?_
    refine ax_aload_n (q := 629) hX dc_M_join_628 rfl rfl rfl ?_
    refine ax_getI (q := 632) hX dc_M_join_629 rfl fl_M_71 rfl hs0_ ?_
    obtain ⟨j313, hj314, h⟩ := ax_bd h
    have hj314 := ax_ix_s hty hs311 hj314
    refine ax_iald (q := 633) hX j313 dc_M_join_632 rfl hs311 hj314.1 hj314.2.1 hj314.2.2 ?_
    refine ax_goto (tgt := 638) hX dc_M_join_633 (by decide) ?_
    exact ax_weak (ls' := [some (.ref u0), none, none, none, none, none, none, none, none, none, none, none]) (ax_fewP_s _ _ (by repeat (first | exact trivial | (refine And.intro rfl ?_)))) (e_M_join_638 hX hF hS0  I302 R u0 (I302 u309 j313) (I302 u0 3) u304 hty hs0_ ⟨n307, hs306⟩ rfl h)
def d_M_join_485 (S : ax_S) : Nat → ax_I → ax_R → Nat → Int32 → Int32 → Int32 → Int32 → Int32 → Int32 → Option (Int32 × ax_I)
  | 0, _, _, _, _, _, _, _, _, _ => none
  | n + 1, I, R, u0, x2, x3, x4, x8, x9, x10 =>
    (R u0 7).bind fun u227 =>
    (ax_ix S u227 (x2)).bind fun j231 =>
    if (I u227 j231) ≤ x10 then
      (R u0 6).bind fun u234 =>
      (ax_ix S u234 (x2)).bind fun j238 =>
      (some (ax_up I u234 j238 (0))).bind fun I240 =>
      (R u0 7).bind fun u242 =>
      (ax_ix S u242 (x2)).bind fun j246 =>
      (some (ax_up I240 u242 j246 (0))).bind fun I248 =>
      (R u0 4).bind fun u250 =>
      if x3 = 0 then
        (R u0 4).bind fun u255 =>
        (ax_ix S u255 (I248 u0 3)).bind fun j259 =>
        d_M_join_611 S  I248 R u0 (x3) (x4) (I248 u255 j259) (I248 u0 3) u250
      else
        d_M_join_611 S  I248 R u0 (x3) (x4) (x4) (I248 u0 3) u250
    else
      (R u0 7).bind fun u261 =>
      (ax_ix S u261 (I u0 3)).bind fun j265 =>
      (d_M_moveNote S I R u0 ((20 * x2) + x10) ((20 * (I u0 3)) + (I u261 j265))).bind fun I269 =>
      (R u0 15).bind fun u270 =>
      (ax_ix S u270 ((20 * (I u0 3)) + (I u261 j265))).bind fun j274 =>
      (ax_ix S u270 ((20 * (I u0 3)) + (I u261 j265))).bind fun j276 =>
      (some (ax_up I269 u270 j276 ((I269 u270 j274) + x8))).bind fun I278 =>
      (R u0 16).bind fun u280 =>
      (ax_ix S u280 ((20 * (I u0 3)) + (I u261 j265))).bind fun j284 =>
      (ax_ix S u280 ((20 * (I u0 3)) + (I u261 j265))).bind fun j286 =>
      (some (ax_up I278 u280 j286 ((I278 u280 j284) + x9))).bind fun I288 =>
      (R u0 7).bind fun u290 =>
      (ax_ix S u290 (I288 u0 3)).bind fun j294 =>
      (ax_ix S u290 (I288 u0 3)).bind fun j296 =>
      (some (ax_up I288 u290 j296 ((I288 u290 j294) + 1))).bind fun I298 =>
      d_M_join_485 S  n I298 R u0 (x2) (x3) (x4) (x8) (x9) (x10 + 1)
set_option maxHeartbeats 1000000 in
theorem e_M_join_485 {l : Launch} {X : ax_X} {S : ax_S} {L : ax_L} {R0 : ax_R} {out : Int32 × ax_I} (hX : ax_ok X l "LossFreeToolsModel" b_M_join 12 (ax_rm 2 0 0)) (hF : ax_fin X (some .int) 0 0 (ax_of (ax_eq (some (.int out.1)) S out.2 R0 L))) (hS0 : ax_S0 X = S) : ∀ (n : Nat), ∀ (I : ax_I) (R : ax_R) (u0 : Nat) (x2 : Int32) (x3 : Int32) (x4 : Int32) (x8 : Int32) (x9 : Int32) (x10 : Int32), ax_typ S R → (S u0 = some (.inl 5)) → R = R0 → d_M_join_485 S  n I R u0 x2 x3 x4 x8 x9 x10 = some out → ax_W X 12 485 [some (.ref u0), none, some (.int (x2)), some (.int (x3)), some (.int (x4)), none, none, none, some (.int (x8)), some (.int (x9)), some (.int (x10)), none] [] S I R L 0 0 := by
  intro n
  induction n with
  | zero =>
    rintro I R u0 x2 x3 x4 x8 x9 x10 hty hs0_ hR0 h
    cases h
  | succ n ih =>
    rintro I R u0 x2 x3 x4 x8 x9 x10 hty hs0_ hR0 h
    subst hR0
    unfold d_M_join_485 at h
    refine ax_iload (q := 487) hX dc_M_join_485 rfl rfl ?_
    refine ax_aload_n (q := 488) hX dc_M_join_487 rfl rfl rfl ?_
    obtain ⟨u227, hu228, h⟩ := ax_bd h
    obtain ⟨n230, hs229⟩ : ∃ n, S u227 = some (.inr (0, n)) := hty.1 _ _ _ _ hs0_ hu228
    refine ax_getR (q := 491) hX dc_M_join_488 rfl fl_M_19 rfl hs0_ hu228 ?_
    refine ax_iload_n (q := 492) hX dc_M_join_491 rfl rfl rfl ?_
    obtain ⟨j231, hj232, h⟩ := ax_bd h
    have hj232 := ax_ix_s hty hs229 hj232
    refine ax_iald (q := 493) hX j231 dc_M_join_492 rfl hs229 hj232.1 hj232.2.1 hj232.2.2 ?_
    refine ax_icmp_ge (tgt := 571) (q := 496) hX dc_M_join_493 rfl (by decide) (fun z233 => ?_) (fun z233 => ?_)
    · rw [if_pos z233] at h
      refine ax_aload_n (q := 572) hX dc_M_join_571 rfl rfl rfl ?_
      obtain ⟨u234, hu235, h⟩ := ax_bd h
      obtain ⟨n237, hs236⟩ : ∃ n, S u234 = some (.inr (0, n)) := hty.1 _ _ _ _ hs0_ hu235
      refine ax_getR (q := 575) hX dc_M_join_572 rfl fl_M_16 rfl hs0_ hu235 ?_
      refine ax_iload_n (q := 576) hX dc_M_join_575 rfl rfl rfl ?_
      refine ax_iconst (v := 0) (q := 577) hX dc_M_join_576 rfl (by decide) ?_
      obtain ⟨j238, hj239, h⟩ := ax_bd h
      have hj239 := ax_ix_s hty hs236 hj239
      obtain ⟨I240, e241, h⟩ := ax_bs h
      refine ax_iast (q := 578) hX j238 dc_M_join_577 rfl hs236 hj239.1 hj239.2.1 hj239.2.2 e241 ?_
      refine ax_aload_n (q := 579) hX dc_M_join_578 rfl rfl rfl ?_
      obtain ⟨u242, hu243, h⟩ := ax_bd h
      obtain ⟨n245, hs244⟩ : ∃ n, S u242 = some (.inr (0, n)) := hty.1 _ _ _ _ hs0_ hu243
      refine ax_getR (q := 582) hX dc_M_join_579 rfl fl_M_19 rfl hs0_ hu243 ?_
      refine ax_iload_n (q := 583) hX dc_M_join_582 rfl rfl rfl ?_
      refine ax_iconst (v := 0) (q := 584) hX dc_M_join_583 rfl (by decide) ?_
      obtain ⟨j246, hj247, h⟩ := ax_bd h
      have hj247 := ax_ix_s hty hs244 hj247
      obtain ⟨I248, e249, h⟩ := ax_bs h
      refine ax_iast (q := 585) hX j246 dc_M_join_584 rfl hs244 hj247.1 hj247.2.1 hj247.2.2 e249 ?_
      refine ax_aload_n (q := 586) hX dc_M_join_585 rfl rfl rfl ?_
      obtain ⟨u250, hu251, h⟩ := ax_bd h
      obtain ⟨n253, hs252⟩ : ∃ n, S u250 = some (.inr (0, n)) := hty.1 _ _ _ _ hs0_ hu251
      refine ax_getR (q := 589) hX dc_M_join_586 rfl fl_M_7 rfl hs0_ hu251 ?_
      refine ax_aload_n (q := 590) hX dc_M_join_589 rfl rfl rfl ?_
      refine ax_getI (q := 593) hX dc_M_join_590 rfl fl_M_71 rfl hs0_ ?_
      refine ax_iload_n (q := 594) hX dc_M_join_593 rfl rfl rfl ?_
      refine ax_if_eq (tgt := 602) (q := 597) hX dc_M_join_594 rfl (by decide) (fun z254 => ?_) (fun z254 => ?_)
      · rw [if_pos z254] at h
        refine ax_aload_n (q := 603) hX dc_M_join_602 rfl rfl rfl ?_
        obtain ⟨u255, hu256, h⟩ := ax_bd h
        obtain ⟨n258, hs257⟩ : ∃ n, S u255 = some (.inr (0, n)) := hty.1 _ _ _ _ hs0_ hu256
        refine ax_getR (q := 606) hX dc_M_join_603 rfl fl_M_7 rfl hs0_ hu256 ?_
        refine ax_aload_n (q := 607) hX dc_M_join_606 rfl rfl rfl ?_
        refine ax_getI (q := 610) hX dc_M_join_607 rfl fl_M_71 rfl hs0_ ?_
        obtain ⟨j259, hj260, h⟩ := ax_bd h
        have hj260 := ax_ix_s hty hs257 hj260
        refine ax_iald (q := 611) hX j259 dc_M_join_610 rfl hs257 hj260.1 hj260.2.1 hj260.2.2 ?_
        exact ax_weak (ls' := [some (.ref u0), none, none, some (.int (x3)), some (.int (x4)), none, none, none, none, none, none, none]) (ax_fewP_s _ _ (by repeat (first | exact trivial | (refine And.intro rfl ?_)))) (e_M_join_611 hX hF hS0  I248 R u0 (x3) (x4) (I248 u255 j259) (I248 u0 3) u250 hty hs0_ ⟨n253, hs252⟩ rfl h)
      · rw [if_neg z254] at h
        refine ax_iload (q := 599) hX dc_M_join_597 rfl rfl ?_
        refine ax_goto (tgt := 611) hX dc_M_join_599 (by decide) ?_
        exact ax_weak (ls' := [some (.ref u0), none, none, some (.int (x3)), some (.int (x4)), none, none, none, none, none, none, none]) (ax_fewP_s _ _ (by repeat (first | exact trivial | (refine And.intro rfl ?_)))) (e_M_join_611 hX hF hS0  I248 R u0 (x3) (x4) (x4) (I248 u0 3) u250 hty hs0_ ⟨n253, hs252⟩ rfl h)
    · rw [if_neg z233] at h
      refine ax_bipush (v := 20) (q := 498) hX dc_M_join_496 rfl (by decide) ?_
      refine ax_aload_n (q := 499) hX dc_M_join_498 rfl rfl rfl ?_
      refine ax_getI (q := 502) hX dc_M_join_499 rfl fl_M_71 rfl hs0_ ?_
      refine ax_imul (q := 503) hX dc_M_join_502 rfl ?_
      refine ax_aload_n (q := 504) hX dc_M_join_503 rfl rfl rfl ?_
      obtain ⟨u261, hu262, h⟩ := ax_bd h
      obtain ⟨n264, hs263⟩ : ∃ n, S u261 = some (.inr (0, n)) := hty.1 _ _ _ _ hs0_ hu262
      refine ax_getR (q := 507) hX dc_M_join_504 rfl fl_M_19 rfl hs0_ hu262 ?_
      refine ax_aload_n (q := 508) hX dc_M_join_507 rfl rfl rfl ?_
      refine ax_getI (q := 511) hX dc_M_join_508 rfl fl_M_71 rfl hs0_ ?_
      obtain ⟨j265, hj266, h⟩ := ax_bd h
      have hj266 := ax_ix_s hty hs263 hj266
      refine ax_iald (q := 512) hX j265 dc_M_join_511 rfl hs263 hj266.1 hj266.2.1 hj266.2.2 ?_
      refine ax_iadd (q := 513) hX dc_M_join_512 rfl ?_
      refine ax_istore (ls' := [some (.ref u0), none, some (.int (x2)), some (.int (x3)), some (.int (x4)), none, none, none, some (.int (x8)), some (.int (x9)), some (.int (x10)), some (.int ((20 * (I u0 3)) + (I u261 j265)))]) (q := 515) hX dc_M_join_513 rfl (by decide) rfl ?_
      refine ax_aload_n (q := 516) hX dc_M_join_515 rfl rfl rfl ?_
      refine ax_bipush (v := 20) (q := 518) hX dc_M_join_516 rfl (by decide) ?_
      refine ax_iload_n (q := 519) hX dc_M_join_518 rfl rfl rfl ?_
      refine ax_imul (q := 520) hX dc_M_join_519 rfl ?_
      refine ax_iload (q := 522) hX dc_M_join_520 rfl rfl ?_
      refine ax_iadd (q := 523) hX dc_M_join_522 rfl ?_
      refine ax_iload (q := 525) hX dc_M_join_523 rfl rfl ?_
      obtain ⟨I269, hr267, h⟩ := ax_bd h
      refine ax_kV (vs := [.int ((20 * x2) + x10), .int ((20 * (I u0 3)) + (I u261 j265))]) (rest := []) (q := 528) hX dc_M_join_525 rfl mt_M_moveNote wl_M_116 wi_M_moveNote ws_M_moveNote hs0_ rfl (c_M_moveNote l hty hs0_ hr267) rfl (by decide) rfl (Nat.le_of_ble_eq_true rfl) rfl rfl (by decide) (by decide) rfl ?_
      refine ax_aload_n (q := 529) hX dc_M_join_528 rfl rfl rfl ?_
      obtain ⟨u270, hu271, h⟩ := ax_bd h
      obtain ⟨n273, hs272⟩ : ∃ n, S u270 = some (.inr (0, n)) := hty.1 _ _ _ _ hs0_ hu271
      refine ax_getR (q := 532) hX dc_M_join_529 rfl fl_M_43 rfl hs0_ hu271 ?_
      refine ax_iload (q := 534) hX dc_M_join_532 rfl rfl ?_
      refine ax_dup2 (q := 535) hX dc_M_join_534 rfl rfl rfl ?_
      obtain ⟨j274, hj275, h⟩ := ax_bd h
      have hj275 := ax_ix_s hty hs272 hj275
      refine ax_iald (q := 536) hX j274 dc_M_join_535 rfl hs272 hj275.1 hj275.2.1 hj275.2.2 ?_
      refine ax_iload (q := 538) hX dc_M_join_536 rfl rfl ?_
      refine ax_iadd (q := 539) hX dc_M_join_538 rfl ?_
      obtain ⟨j276, hj277, h⟩ := ax_bd h
      have hj277 := ax_ix_s hty hs272 hj277
      obtain ⟨I278, e279, h⟩ := ax_bs h
      refine ax_iast (q := 540) hX j276 dc_M_join_539 rfl hs272 hj277.1 hj277.2.1 hj277.2.2 e279 ?_
      refine ax_aload_n (q := 541) hX dc_M_join_540 rfl rfl rfl ?_
      obtain ⟨u280, hu281, h⟩ := ax_bd h
      obtain ⟨n283, hs282⟩ : ∃ n, S u280 = some (.inr (0, n)) := hty.1 _ _ _ _ hs0_ hu281
      refine ax_getR (q := 544) hX dc_M_join_541 rfl fl_M_46 rfl hs0_ hu281 ?_
      refine ax_iload (q := 546) hX dc_M_join_544 rfl rfl ?_
      refine ax_dup2 (q := 547) hX dc_M_join_546 rfl rfl rfl ?_
      obtain ⟨j284, hj285, h⟩ := ax_bd h
      have hj285 := ax_ix_s hty hs282 hj285
      refine ax_iald (q := 548) hX j284 dc_M_join_547 rfl hs282 hj285.1 hj285.2.1 hj285.2.2 ?_
      refine ax_iload (q := 550) hX dc_M_join_548 rfl rfl ?_
      refine ax_iadd (q := 551) hX dc_M_join_550 rfl ?_
      obtain ⟨j286, hj287, h⟩ := ax_bd h
      have hj287 := ax_ix_s hty hs282 hj287
      obtain ⟨I288, e289, h⟩ := ax_bs h
      refine ax_iast (q := 552) hX j286 dc_M_join_551 rfl hs282 hj287.1 hj287.2.1 hj287.2.2 e289 ?_
      refine ax_aload_n (q := 553) hX dc_M_join_552 rfl rfl rfl ?_
      obtain ⟨u290, hu291, h⟩ := ax_bd h
      obtain ⟨n293, hs292⟩ : ∃ n, S u290 = some (.inr (0, n)) := hty.1 _ _ _ _ hs0_ hu291
      refine ax_getR (q := 556) hX dc_M_join_553 rfl fl_M_19 rfl hs0_ hu291 ?_
      refine ax_aload_n (q := 557) hX dc_M_join_556 rfl rfl rfl ?_
      refine ax_getI (q := 560) hX dc_M_join_557 rfl fl_M_71 rfl hs0_ ?_
      refine ax_dup2 (q := 561) hX dc_M_join_560 rfl rfl rfl ?_
      obtain ⟨j294, hj295, h⟩ := ax_bd h
      have hj295 := ax_ix_s hty hs292 hj295
      refine ax_iald (q := 562) hX j294 dc_M_join_561 rfl hs292 hj295.1 hj295.2.1 hj295.2.2 ?_
      refine ax_iconst (v := 1) (q := 563) hX dc_M_join_562 rfl (by decide) ?_
      refine ax_iadd (q := 564) hX dc_M_join_563 rfl ?_
      obtain ⟨j296, hj297, h⟩ := ax_bd h
      have hj297 := ax_ix_s hty hs292 hj297
      obtain ⟨I298, e299, h⟩ := ax_bs h
      refine ax_iast (q := 565) hX j296 dc_M_join_564 rfl hs292 hj297.1 hj297.2.1 hj297.2.2 e299 ?_
      refine ax_iinc (v := x10 + 1) (ls' := [some (.ref u0), none, some (.int (x2)), some (.int (x3)), some (.int (x4)), none, none, none, some (.int (x8)), some (.int (x9)), some (.int (x10 + 1)), some (.int ((20 * (I u0 3)) + (I u261 j265)))]) (q := 568) hX dc_M_join_565 rfl rfl rfl (by decide) rfl ?_
      refine ax_goto (tgt := 485) hX dc_M_join_568 (by decide) ?_
      exact ax_weak (ls' := [some (.ref u0), none, some (.int (x2)), some (.int (x3)), some (.int (x4)), none, none, none, some (.int (x8)), some (.int (x9)), some (.int (x10 + 1)), none]) (ax_fewP_s _ _ (by repeat (first | exact trivial | (refine And.intro rfl ?_)))) (ih I298 R u0 (x2) (x3) (x4) (x8) (x9) (x10 + 1) hty hs0_ rfl h)
def d_M_join_400 (S : ax_S) : Nat → ax_I → ax_R → Nat → Int32 → Int32 → Int32 → Int32 → Int32 → Int32 → Option (Int32 × ax_I)
  | 0, _, _, _, _, _, _, _, _, _ => none
  | n + 1, I, R, u0, x2, x3, x4, x8, x9, x10 =>
    (R u0 6).bind fun u178 =>
    (ax_ix S u178 (x2)).bind fun j182 =>
    if (I u178 j182) ≤ x10 then
      d_M_join_485 S  5000 I R u0 (x2) (x3) (x4) (x8) (x9) (0)
    else
      (R u0 6).bind fun u185 =>
      (ax_ix S u185 (I u0 3)).bind fun j189 =>
      (d_M_tileAt S I R u0 (I u185 j189)).bind fun r193 =>
      (d_M_move S I R u0 ((40 * x2) + x10) (r193)).bind fun I196 =>
      (R u0 8).bind fun u197 =>
      (ax_ix S u197 (r193)).bind fun j201 =>
      (ax_ix S u197 (r193)).bind fun j203 =>
      (some (ax_up I196 u197 j203 ((I196 u197 j201) + x8))).bind fun I205 =>
      (R u0 9).bind fun u207 =>
      (ax_ix S u207 (r193)).bind fun j211 =>
      (ax_ix S u207 (r193)).bind fun j213 =>
      (some (ax_up I205 u207 j213 ((I205 u207 j211) + x9))).bind fun I215 =>
      (R u0 6).bind fun u217 =>
      (ax_ix S u217 (I215 u0 3)).bind fun j221 =>
      (ax_ix S u217 (I215 u0 3)).bind fun j223 =>
      (some (ax_up I215 u217 j223 ((I215 u217 j221) + 1))).bind fun I225 =>
      d_M_join_400 S  n I225 R u0 (x2) (x3) (x4) (x8) (x9) (x10 + 1)
set_option maxHeartbeats 1000000 in
theorem e_M_join_400 {l : Launch} {X : ax_X} {S : ax_S} {L : ax_L} {R0 : ax_R} {out : Int32 × ax_I} (hX : ax_ok X l "LossFreeToolsModel" b_M_join 12 (ax_rm 2 0 0)) (hF : ax_fin X (some .int) 0 0 (ax_of (ax_eq (some (.int out.1)) S out.2 R0 L))) (hS0 : ax_S0 X = S) : ∀ (n : Nat), ∀ (I : ax_I) (R : ax_R) (u0 : Nat) (x2 : Int32) (x3 : Int32) (x4 : Int32) (x8 : Int32) (x9 : Int32) (x10 : Int32), ax_typ S R → (S u0 = some (.inl 5)) → R = R0 → d_M_join_400 S  n I R u0 x2 x3 x4 x8 x9 x10 = some out → ax_W X 12 400 [some (.ref u0), none, some (.int (x2)), some (.int (x3)), some (.int (x4)), none, none, none, some (.int (x8)), some (.int (x9)), some (.int (x10)), none] [] S I R L 0 0 := by
  intro n
  induction n with
  | zero =>
    rintro I R u0 x2 x3 x4 x8 x9 x10 hty hs0_ hR0 h
    cases h
  | succ n ih =>
    rintro I R u0 x2 x3 x4 x8 x9 x10 hty hs0_ hR0 h
    subst hR0
    unfold d_M_join_400 at h
    refine ax_iload (q := 402) hX dc_M_join_400 rfl rfl ?_
    refine ax_aload_n (q := 403) hX dc_M_join_402 rfl rfl rfl ?_
    obtain ⟨u178, hu179, h⟩ := ax_bd h
    obtain ⟨n181, hs180⟩ : ∃ n, S u178 = some (.inr (0, n)) := hty.1 _ _ _ _ hs0_ hu179
    refine ax_getR (q := 406) hX dc_M_join_403 rfl fl_M_16 rfl hs0_ hu179 ?_
    refine ax_iload_n (q := 407) hX dc_M_join_406 rfl rfl rfl ?_
    obtain ⟨j182, hj183, h⟩ := ax_bd h
    have hj183 := ax_ix_s hty hs180 hj183
    refine ax_iald (q := 408) hX j182 dc_M_join_407 rfl hs180 hj183.1 hj183.2.1 hj183.2.2 ?_
    refine ax_icmp_ge (tgt := 482) (q := 411) hX dc_M_join_408 rfl (by decide) (fun z184 => ?_) (fun z184 => ?_)
    · rw [if_pos z184] at h
      refine ax_iconst (v := 0) (q := 483) hX dc_M_join_482 rfl (by decide) ?_
      refine ax_istore (ls' := [some (.ref u0), none, some (.int (x2)), some (.int (x3)), some (.int (x4)), none, none, none, some (.int (x8)), some (.int (x9)), some (.int (0)), none]) (q := 485) hX dc_M_join_483 rfl (by decide) rfl ?_
      exact (e_M_join_485 hX hF hS0  5000 I R u0 (x2) (x3) (x4) (x8) (x9) (0) hty hs0_ rfl h)
    · rw [if_neg z184] at h
      refine ax_aload_n (q := 412) hX dc_M_join_411 rfl rfl rfl ?_
      refine ax_aload_n (q := 413) hX dc_M_join_412 rfl rfl rfl ?_
      obtain ⟨u185, hu186, h⟩ := ax_bd h
      obtain ⟨n188, hs187⟩ : ∃ n, S u185 = some (.inr (0, n)) := hty.1 _ _ _ _ hs0_ hu186
      refine ax_getR (q := 416) hX dc_M_join_413 rfl fl_M_16 rfl hs0_ hu186 ?_
      refine ax_aload_n (q := 417) hX dc_M_join_416 rfl rfl rfl ?_
      refine ax_getI (q := 420) hX dc_M_join_417 rfl fl_M_71 rfl hs0_ ?_
      obtain ⟨j189, hj190, h⟩ := ax_bd h
      have hj190 := ax_ix_s hty hs187 hj190
      refine ax_iald (q := 421) hX j189 dc_M_join_420 rfl hs187 hj190.1 hj190.2.1 hj190.2.2 ?_
      obtain ⟨r193, hr191, h⟩ := ax_bd h
      refine ax_kV (vs := [.int (I u185 j189)]) (rest := []) (q := 424) hX dc_M_join_421 rfl mt_M_tileAt wl_M_92 wi_M_tileAt ws_M_tileAt hs0_ rfl (c_M_tileAt l hty hs0_ hr191) rfl (by decide) rfl (Nat.le_of_ble_eq_true rfl) rfl rfl (by decide) (by decide) rfl ?_
      refine ax_istore (ls' := [some (.ref u0), none, some (.int (x2)), some (.int (x3)), some (.int (x4)), none, none, none, some (.int (x8)), some (.int (x9)), some (.int (x10)), some (.int (r193))]) (q := 426) hX dc_M_join_424 rfl (by decide) rfl ?_
      refine ax_aload_n (q := 427) hX dc_M_join_426 rfl rfl rfl ?_
      refine ax_bipush (v := 40) (q := 429) hX dc_M_join_427 rfl (by decide) ?_
      refine ax_iload_n (q := 430) hX dc_M_join_429 rfl rfl rfl ?_
      refine ax_imul (q := 431) hX dc_M_join_430 rfl ?_
      refine ax_iload (q := 433) hX dc_M_join_431 rfl rfl ?_
      refine ax_iadd (q := 434) hX dc_M_join_433 rfl ?_
      refine ax_iload (q := 436) hX dc_M_join_434 rfl rfl ?_
      obtain ⟨I196, hr194, h⟩ := ax_bd h
      refine ax_kV (vs := [.int ((40 * x2) + x10), .int (r193)]) (rest := []) (q := 439) hX dc_M_join_436 rfl mt_M_move wl_M_112 wi_M_move ws_M_move hs0_ rfl (c_M_move l hty hs0_ hr194) rfl (by decide) rfl (Nat.le_of_ble_eq_true rfl) rfl rfl (by decide) (by decide) rfl ?_
      refine ax_aload_n (q := 440) hX dc_M_join_439 rfl rfl rfl ?_
      obtain ⟨u197, hu198, h⟩ := ax_bd h
      obtain ⟨n200, hs199⟩ : ∃ n, S u197 = some (.inr (0, n)) := hty.1 _ _ _ _ hs0_ hu198
      refine ax_getR (q := 443) hX dc_M_join_440 rfl fl_M_22 rfl hs0_ hu198 ?_
      refine ax_iload (q := 445) hX dc_M_join_443 rfl rfl ?_
      refine ax_dup2 (q := 446) hX dc_M_join_445 rfl rfl rfl ?_
      obtain ⟨j201, hj202, h⟩ := ax_bd h
      have hj202 := ax_ix_s hty hs199 hj202
      refine ax_iald (q := 447) hX j201 dc_M_join_446 rfl hs199 hj202.1 hj202.2.1 hj202.2.2 ?_
      refine ax_iload (q := 449) hX dc_M_join_447 rfl rfl ?_
      refine ax_iadd (q := 450) hX dc_M_join_449 rfl ?_
      obtain ⟨j203, hj204, h⟩ := ax_bd h
      have hj204 := ax_ix_s hty hs199 hj204
      obtain ⟨I205, e206, h⟩ := ax_bs h
      refine ax_iast (q := 451) hX j203 dc_M_join_450 rfl hs199 hj204.1 hj204.2.1 hj204.2.2 e206 ?_
      refine ax_aload_n (q := 452) hX dc_M_join_451 rfl rfl rfl ?_
      obtain ⟨u207, hu208, h⟩ := ax_bd h
      obtain ⟨n210, hs209⟩ : ∃ n, S u207 = some (.inr (0, n)) := hty.1 _ _ _ _ hs0_ hu208
      refine ax_getR (q := 455) hX dc_M_join_452 rfl fl_M_25 rfl hs0_ hu208 ?_
      refine ax_iload (q := 457) hX dc_M_join_455 rfl rfl ?_
      refine ax_dup2 (q := 458) hX dc_M_join_457 rfl rfl rfl ?_
      obtain ⟨j211, hj212, h⟩ := ax_bd h
      have hj212 := ax_ix_s hty hs209 hj212
      refine ax_iald (q := 459) hX j211 dc_M_join_458 rfl hs209 hj212.1 hj212.2.1 hj212.2.2 ?_
      refine ax_iload (q := 461) hX dc_M_join_459 rfl rfl ?_
      refine ax_iadd (q := 462) hX dc_M_join_461 rfl ?_
      obtain ⟨j213, hj214, h⟩ := ax_bd h
      have hj214 := ax_ix_s hty hs209 hj214
      obtain ⟨I215, e216, h⟩ := ax_bs h
      refine ax_iast (q := 463) hX j213 dc_M_join_462 rfl hs209 hj214.1 hj214.2.1 hj214.2.2 e216 ?_
      refine ax_aload_n (q := 464) hX dc_M_join_463 rfl rfl rfl ?_
      obtain ⟨u217, hu218, h⟩ := ax_bd h
      obtain ⟨n220, hs219⟩ : ∃ n, S u217 = some (.inr (0, n)) := hty.1 _ _ _ _ hs0_ hu218
      refine ax_getR (q := 467) hX dc_M_join_464 rfl fl_M_16 rfl hs0_ hu218 ?_
      refine ax_aload_n (q := 468) hX dc_M_join_467 rfl rfl rfl ?_
      refine ax_getI (q := 471) hX dc_M_join_468 rfl fl_M_71 rfl hs0_ ?_
      refine ax_dup2 (q := 472) hX dc_M_join_471 rfl rfl rfl ?_
      obtain ⟨j221, hj222, h⟩ := ax_bd h
      have hj222 := ax_ix_s hty hs219 hj222
      refine ax_iald (q := 473) hX j221 dc_M_join_472 rfl hs219 hj222.1 hj222.2.1 hj222.2.2 ?_
      refine ax_iconst (v := 1) (q := 474) hX dc_M_join_473 rfl (by decide) ?_
      refine ax_iadd (q := 475) hX dc_M_join_474 rfl ?_
      obtain ⟨j223, hj224, h⟩ := ax_bd h
      have hj224 := ax_ix_s hty hs219 hj224
      obtain ⟨I225, e226, h⟩ := ax_bs h
      refine ax_iast (q := 476) hX j223 dc_M_join_475 rfl hs219 hj224.1 hj224.2.1 hj224.2.2 e226 ?_
      refine ax_iinc (v := x10 + 1) (ls' := [some (.ref u0), none, some (.int (x2)), some (.int (x3)), some (.int (x4)), none, none, none, some (.int (x8)), some (.int (x9)), some (.int (x10 + 1)), some (.int (r193))]) (q := 479) hX dc_M_join_476 rfl rfl rfl (by decide) rfl ?_
      refine ax_goto (tgt := 400) hX dc_M_join_479 (by decide) ?_
      exact ax_weak (ls' := [some (.ref u0), none, some (.int (x2)), some (.int (x3)), some (.int (x4)), none, none, none, some (.int (x8)), some (.int (x9)), some (.int (x10 + 1)), none]) (ax_fewP_s _ _ (by repeat (first | exact trivial | (refine And.intro rfl ?_)))) (ih I225 R u0 (x2) (x3) (x4) (x8) (x9) (x10 + 1) hty hs0_ rfl h)
def d_M_join_345 (S : ax_S) : Nat → ax_I → ax_R → Nat → Int32 → Int32 → Int32 → Int32 → Int32 → Int32 → Int32 → Int32 → Option (Int32 × ax_I)
  | 0, _, _, _, _, _, _, _, _, _, _, _ => none
  | n + 1, I, R, u0, x2, x3, x4, x6, x7, x8, x9, x10 =>
    (R u0 7).bind fun u151 =>
    (ax_ix S u151 (I u0 3)).bind fun j155 =>
    if ((20 * (I u0 3)) + (I u151 j155)) ≤ x10 then
      d_M_join_400 S  5000 I R u0 (x2) (x3) (x4) (x8) (x9) (0)
    else
      (R u0 15).bind fun u158 =>
      (ax_ix S u158 (x10)).bind fun j162 =>
      (ax_ix S u158 (x10)).bind fun j164 =>
      (some (ax_up I u158 j164 ((I u158 j162) + x6))).bind fun I166 =>
      (R u0 16).bind fun u168 =>
      (ax_ix S u168 (x10)).bind fun j172 =>
      (ax_ix S u168 (x10)).bind fun j174 =>
      (some (ax_up I166 u168 j174 ((I166 u168 j172) + x7))).bind fun I176 =>
      d_M_join_345 S  n I176 R u0 (x2) (x3) (x4) (x6) (x7) (x8) (x9) (x10 + 1)
set_option maxHeartbeats 1000000 in
theorem e_M_join_345 {l : Launch} {X : ax_X} {S : ax_S} {L : ax_L} {R0 : ax_R} {out : Int32 × ax_I} (hX : ax_ok X l "LossFreeToolsModel" b_M_join 12 (ax_rm 2 0 0)) (hF : ax_fin X (some .int) 0 0 (ax_of (ax_eq (some (.int out.1)) S out.2 R0 L))) (hS0 : ax_S0 X = S) : ∀ (n : Nat), ∀ (I : ax_I) (R : ax_R) (u0 : Nat) (x2 : Int32) (x3 : Int32) (x4 : Int32) (x6 : Int32) (x7 : Int32) (x8 : Int32) (x9 : Int32) (x10 : Int32), ax_typ S R → (S u0 = some (.inl 5)) → R = R0 → d_M_join_345 S  n I R u0 x2 x3 x4 x6 x7 x8 x9 x10 = some out → ax_W X 12 345 [some (.ref u0), none, some (.int (x2)), some (.int (x3)), some (.int (x4)), none, some (.int (x6)), some (.int (x7)), some (.int (x8)), some (.int (x9)), some (.int (x10)), none] [] S I R L 0 0 := by
  intro n
  induction n with
  | zero =>
    rintro I R u0 x2 x3 x4 x6 x7 x8 x9 x10 hty hs0_ hR0 h
    cases h
  | succ n ih =>
    rintro I R u0 x2 x3 x4 x6 x7 x8 x9 x10 hty hs0_ hR0 h
    subst hR0
    unfold d_M_join_345 at h
    refine ax_iload (q := 347) hX dc_M_join_345 rfl rfl ?_
    refine ax_bipush (v := 20) (q := 349) hX dc_M_join_347 rfl (by decide) ?_
    refine ax_aload_n (q := 350) hX dc_M_join_349 rfl rfl rfl ?_
    refine ax_getI (q := 353) hX dc_M_join_350 rfl fl_M_71 rfl hs0_ ?_
    refine ax_imul (q := 354) hX dc_M_join_353 rfl ?_
    refine ax_aload_n (q := 355) hX dc_M_join_354 rfl rfl rfl ?_
    obtain ⟨u151, hu152, h⟩ := ax_bd h
    obtain ⟨n154, hs153⟩ : ∃ n, S u151 = some (.inr (0, n)) := hty.1 _ _ _ _ hs0_ hu152
    refine ax_getR (q := 358) hX dc_M_join_355 rfl fl_M_19 rfl hs0_ hu152 ?_
    refine ax_aload_n (q := 359) hX dc_M_join_358 rfl rfl rfl ?_
    refine ax_getI (q := 362) hX dc_M_join_359 rfl fl_M_71 rfl hs0_ ?_
    obtain ⟨j155, hj156, h⟩ := ax_bd h
    have hj156 := ax_ix_s hty hs153 hj156
    refine ax_iald (q := 363) hX j155 dc_M_join_362 rfl hs153 hj156.1 hj156.2.1 hj156.2.2 ?_
    refine ax_iadd (q := 364) hX dc_M_join_363 rfl ?_
    refine ax_icmp_ge (tgt := 397) (q := 367) hX dc_M_join_364 rfl (by decide) (fun z157 => ?_) (fun z157 => ?_)
    · rw [if_pos z157] at h
      refine ax_iconst (v := 0) (q := 398) hX dc_M_join_397 rfl (by decide) ?_
      refine ax_istore (ls' := [some (.ref u0), none, some (.int (x2)), some (.int (x3)), some (.int (x4)), none, some (.int (x6)), some (.int (x7)), some (.int (x8)), some (.int (x9)), some (.int (0)), none]) (q := 400) hX dc_M_join_398 rfl (by decide) rfl ?_
      exact ax_weak (ls' := [some (.ref u0), none, some (.int (x2)), some (.int (x3)), some (.int (x4)), none, none, none, some (.int (x8)), some (.int (x9)), some (.int (0)), none]) (ax_fewP_s _ _ (by repeat (first | exact trivial | (refine And.intro rfl ?_)))) (e_M_join_400 hX hF hS0  5000 I R u0 (x2) (x3) (x4) (x8) (x9) (0) hty hs0_ rfl h)
    · rw [if_neg z157] at h
      refine ax_aload_n (q := 368) hX dc_M_join_367 rfl rfl rfl ?_
      obtain ⟨u158, hu159, h⟩ := ax_bd h
      obtain ⟨n161, hs160⟩ : ∃ n, S u158 = some (.inr (0, n)) := hty.1 _ _ _ _ hs0_ hu159
      refine ax_getR (q := 371) hX dc_M_join_368 rfl fl_M_43 rfl hs0_ hu159 ?_
      refine ax_iload (q := 373) hX dc_M_join_371 rfl rfl ?_
      refine ax_dup2 (q := 374) hX dc_M_join_373 rfl rfl rfl ?_
      obtain ⟨j162, hj163, h⟩ := ax_bd h
      have hj163 := ax_ix_s hty hs160 hj163
      refine ax_iald (q := 375) hX j162 dc_M_join_374 rfl hs160 hj163.1 hj163.2.1 hj163.2.2 ?_
      refine ax_iload (q := 377) hX dc_M_join_375 rfl rfl ?_
      refine ax_iadd (q := 378) hX dc_M_join_377 rfl ?_
      obtain ⟨j164, hj165, h⟩ := ax_bd h
      have hj165 := ax_ix_s hty hs160 hj165
      obtain ⟨I166, e167, h⟩ := ax_bs h
      refine ax_iast (q := 379) hX j164 dc_M_join_378 rfl hs160 hj165.1 hj165.2.1 hj165.2.2 e167 ?_
      refine ax_aload_n (q := 380) hX dc_M_join_379 rfl rfl rfl ?_
      obtain ⟨u168, hu169, h⟩ := ax_bd h
      obtain ⟨n171, hs170⟩ : ∃ n, S u168 = some (.inr (0, n)) := hty.1 _ _ _ _ hs0_ hu169
      refine ax_getR (q := 383) hX dc_M_join_380 rfl fl_M_46 rfl hs0_ hu169 ?_
      refine ax_iload (q := 385) hX dc_M_join_383 rfl rfl ?_
      refine ax_dup2 (q := 386) hX dc_M_join_385 rfl rfl rfl ?_
      obtain ⟨j172, hj173, h⟩ := ax_bd h
      have hj173 := ax_ix_s hty hs170 hj173
      refine ax_iald (q := 387) hX j172 dc_M_join_386 rfl hs170 hj173.1 hj173.2.1 hj173.2.2 ?_
      refine ax_iload (q := 389) hX dc_M_join_387 rfl rfl ?_
      refine ax_iadd (q := 390) hX dc_M_join_389 rfl ?_
      obtain ⟨j174, hj175, h⟩ := ax_bd h
      have hj175 := ax_ix_s hty hs170 hj175
      obtain ⟨I176, e177, h⟩ := ax_bs h
      refine ax_iast (q := 391) hX j174 dc_M_join_390 rfl hs170 hj175.1 hj175.2.1 hj175.2.2 e177 ?_
      refine ax_iinc (v := x10 + 1) (ls' := [some (.ref u0), none, some (.int (x2)), some (.int (x3)), some (.int (x4)), none, some (.int (x6)), some (.int (x7)), some (.int (x8)), some (.int (x9)), some (.int (x10 + 1)), none]) (q := 394) hX dc_M_join_391 rfl rfl rfl (by decide) rfl ?_
      refine ax_goto (tgt := 345) hX dc_M_join_394 (by decide) ?_
      exact (ih I176 R u0 (x2) (x3) (x4) (x6) (x7) (x8) (x9) (x10 + 1) hty hs0_ rfl h)
def d_M_join_284 (S : ax_S) : Nat → ax_I → ax_R → Nat → Int32 → Int32 → Int32 → Int32 → Int32 → Int32 → Int32 → Int32 → Option (Int32 × ax_I)
  | 0, _, _, _, _, _, _, _, _, _, _, _ => none
  | n + 1, I, R, u0, x2, x3, x4, x6, x7, x8, x9, x10 =>
    (R u0 6).bind fun u118 =>
    (ax_ix S u118 (I u0 3)).bind fun j122 =>
    if (I u118 j122) ≤ x10 then
      d_M_join_345 S  5000 I R u0 (x2) (x3) (x4) (x6) (x7) (x8) (x9) (20 * (I u0 3))
    else
      (R u0 8).bind fun u125 =>
      (d_M_tileAt S I R u0 (x10)).bind fun r131 =>
      (ax_ix S u125 (r131)).bind fun j132 =>
      (ax_ix S u125 (r131)).bind fun j134 =>
      (some (ax_up I u125 j134 ((I u125 j132) + x6))).bind fun I136 =>
      (R u0 9).bind fun u138 =>
      (d_M_tileAt S I136 R u0 (x10)).bind fun r144 =>
      (ax_ix S u138 (r144)).bind fun j145 =>
      (ax_ix S u138 (r144)).bind fun j147 =>
      (some (ax_up I136 u138 j147 ((I136 u138 j145) + x7))).bind fun I149 =>
      d_M_join_284 S  n I149 R u0 (x2) (x3) (x4) (x6) (x7) (x8) (x9) (x10 + 1)
set_option maxHeartbeats 1000000 in
theorem e_M_join_284 {l : Launch} {X : ax_X} {S : ax_S} {L : ax_L} {R0 : ax_R} {out : Int32 × ax_I} (hX : ax_ok X l "LossFreeToolsModel" b_M_join 12 (ax_rm 2 0 0)) (hF : ax_fin X (some .int) 0 0 (ax_of (ax_eq (some (.int out.1)) S out.2 R0 L))) (hS0 : ax_S0 X = S) : ∀ (n : Nat), ∀ (I : ax_I) (R : ax_R) (u0 : Nat) (x2 : Int32) (x3 : Int32) (x4 : Int32) (x6 : Int32) (x7 : Int32) (x8 : Int32) (x9 : Int32) (x10 : Int32), ax_typ S R → (S u0 = some (.inl 5)) → R = R0 → d_M_join_284 S  n I R u0 x2 x3 x4 x6 x7 x8 x9 x10 = some out → ax_W X 12 284 [some (.ref u0), none, some (.int (x2)), some (.int (x3)), some (.int (x4)), none, some (.int (x6)), some (.int (x7)), some (.int (x8)), some (.int (x9)), some (.int (x10)), none] [] S I R L 0 0 := by
  intro n
  induction n with
  | zero =>
    rintro I R u0 x2 x3 x4 x6 x7 x8 x9 x10 hty hs0_ hR0 h
    cases h
  | succ n ih =>
    rintro I R u0 x2 x3 x4 x6 x7 x8 x9 x10 hty hs0_ hR0 h
    subst hR0
    unfold d_M_join_284 at h
    refine ax_iload (q := 286) hX dc_M_join_284 rfl rfl ?_
    refine ax_aload_n (q := 287) hX dc_M_join_286 rfl rfl rfl ?_
    obtain ⟨u118, hu119, h⟩ := ax_bd h
    obtain ⟨n121, hs120⟩ : ∃ n, S u118 = some (.inr (0, n)) := hty.1 _ _ _ _ hs0_ hu119
    refine ax_getR (q := 290) hX dc_M_join_287 rfl fl_M_16 rfl hs0_ hu119 ?_
    refine ax_aload_n (q := 291) hX dc_M_join_290 rfl rfl rfl ?_
    refine ax_getI (q := 294) hX dc_M_join_291 rfl fl_M_71 rfl hs0_ ?_
    obtain ⟨j122, hj123, h⟩ := ax_bd h
    have hj123 := ax_ix_s hty hs120 hj123
    refine ax_iald (q := 295) hX j122 dc_M_join_294 rfl hs120 hj123.1 hj123.2.1 hj123.2.2 ?_
    refine ax_icmp_ge (tgt := 336) (q := 298) hX dc_M_join_295 rfl (by decide) (fun z124 => ?_) (fun z124 => ?_)
    · rw [if_pos z124] at h
      refine ax_bipush (v := 20) (q := 338) hX dc_M_join_336 rfl (by decide) ?_
      refine ax_aload_n (q := 339) hX dc_M_join_338 rfl rfl rfl ?_
      refine ax_getI (q := 342) hX dc_M_join_339 rfl fl_M_71 rfl hs0_ ?_
      refine ax_imul (q := 343) hX dc_M_join_342 rfl ?_
      refine ax_istore (ls' := [some (.ref u0), none, some (.int (x2)), some (.int (x3)), some (.int (x4)), none, some (.int (x6)), some (.int (x7)), some (.int (x8)), some (.int (x9)), some (.int (20 * (I u0 3))), none]) (q := 345) hX dc_M_join_343 rfl (by decide) rfl ?_
      exact (e_M_join_345 hX hF hS0  5000 I R u0 (x2) (x3) (x4) (x6) (x7) (x8) (x9) (20 * (I u0 3)) hty hs0_ rfl h)
    · rw [if_neg z124] at h
      refine ax_aload_n (q := 299) hX dc_M_join_298 rfl rfl rfl ?_
      obtain ⟨u125, hu126, h⟩ := ax_bd h
      obtain ⟨n128, hs127⟩ : ∃ n, S u125 = some (.inr (0, n)) := hty.1 _ _ _ _ hs0_ hu126
      refine ax_getR (q := 302) hX dc_M_join_299 rfl fl_M_22 rfl hs0_ hu126 ?_
      refine ax_aload_n (q := 303) hX dc_M_join_302 rfl rfl rfl ?_
      refine ax_iload (q := 305) hX dc_M_join_303 rfl rfl ?_
      obtain ⟨r131, hr129, h⟩ := ax_bd h
      refine ax_kV (vs := [.int (x10)]) (rest := [.ref u125]) (q := 308) hX dc_M_join_305 rfl mt_M_tileAt wl_M_92 wi_M_tileAt ws_M_tileAt hs0_ rfl (c_M_tileAt l hty hs0_ hr129) rfl (by decide) rfl (Nat.le_of_ble_eq_true rfl) rfl rfl (by decide) (by decide) rfl ?_
      refine ax_dup2 (q := 309) hX dc_M_join_308 rfl rfl rfl ?_
      obtain ⟨j132, hj133, h⟩ := ax_bd h
      have hj133 := ax_ix_s hty hs127 hj133
      refine ax_iald (q := 310) hX j132 dc_M_join_309 rfl hs127 hj133.1 hj133.2.1 hj133.2.2 ?_
      refine ax_iload (q := 312) hX dc_M_join_310 rfl rfl ?_
      refine ax_iadd (q := 313) hX dc_M_join_312 rfl ?_
      obtain ⟨j134, hj135, h⟩ := ax_bd h
      have hj135 := ax_ix_s hty hs127 hj135
      obtain ⟨I136, e137, h⟩ := ax_bs h
      refine ax_iast (q := 314) hX j134 dc_M_join_313 rfl hs127 hj135.1 hj135.2.1 hj135.2.2 e137 ?_
      refine ax_aload_n (q := 315) hX dc_M_join_314 rfl rfl rfl ?_
      obtain ⟨u138, hu139, h⟩ := ax_bd h
      obtain ⟨n141, hs140⟩ : ∃ n, S u138 = some (.inr (0, n)) := hty.1 _ _ _ _ hs0_ hu139
      refine ax_getR (q := 318) hX dc_M_join_315 rfl fl_M_25 rfl hs0_ hu139 ?_
      refine ax_aload_n (q := 319) hX dc_M_join_318 rfl rfl rfl ?_
      refine ax_iload (q := 321) hX dc_M_join_319 rfl rfl ?_
      obtain ⟨r144, hr142, h⟩ := ax_bd h
      refine ax_kV (vs := [.int (x10)]) (rest := [.ref u138]) (q := 324) hX dc_M_join_321 rfl mt_M_tileAt wl_M_92 wi_M_tileAt ws_M_tileAt hs0_ rfl (c_M_tileAt l hty hs0_ hr142) rfl (by decide) rfl (Nat.le_of_ble_eq_true rfl) rfl rfl (by decide) (by decide) rfl ?_
      refine ax_dup2 (q := 325) hX dc_M_join_324 rfl rfl rfl ?_
      obtain ⟨j145, hj146, h⟩ := ax_bd h
      have hj146 := ax_ix_s hty hs140 hj146
      refine ax_iald (q := 326) hX j145 dc_M_join_325 rfl hs140 hj146.1 hj146.2.1 hj146.2.2 ?_
      refine ax_iload (q := 328) hX dc_M_join_326 rfl rfl ?_
      refine ax_iadd (q := 329) hX dc_M_join_328 rfl ?_
      obtain ⟨j147, hj148, h⟩ := ax_bd h
      have hj148 := ax_ix_s hty hs140 hj148
      obtain ⟨I149, e150, h⟩ := ax_bs h
      refine ax_iast (q := 330) hX j147 dc_M_join_329 rfl hs140 hj148.1 hj148.2.1 hj148.2.2 e150 ?_
      refine ax_iinc (v := x10 + 1) (ls' := [some (.ref u0), none, some (.int (x2)), some (.int (x3)), some (.int (x4)), none, some (.int (x6)), some (.int (x7)), some (.int (x8)), some (.int (x9)), some (.int (x10 + 1)), none]) (q := 333) hX dc_M_join_330 rfl rfl rfl (by decide) rfl ?_
      refine ax_goto (tgt := 284) hX dc_M_join_333 (by decide) ?_
      exact (ih I149 R u0 (x2) (x3) (x4) (x6) (x7) (x8) (x9) (x10 + 1) hty hs0_ rfl h)
def d_M_join_279 (S : ax_S) (I : ax_I) (R : ax_R) (u0 : Nat) (x2 : Int32) (x3 : Int32) (x4 : Int32) (x6 : Int32) (x7 : Int32) (x8 : Int32) (y0 : Int32) : Option (Int32 × ax_I) :=
  d_M_join_284 S  5000 I R u0 (x2) (x3) (x4) (x6) (x7) (x8) (y0) (0)
set_option maxHeartbeats 1000000 in
theorem e_M_join_279 {l : Launch} {X : ax_X} {S : ax_S} {L : ax_L} {R0 : ax_R} {out : Int32 × ax_I} (hX : ax_ok X l "LossFreeToolsModel" b_M_join 12 (ax_rm 2 0 0)) (hF : ax_fin X (some .int) 0 0 (ax_of (ax_eq (some (.int out.1)) S out.2 R0 L))) (hS0 : ax_S0 X = S) : ∀ (I : ax_I) (R : ax_R) (u0 : Nat) (x2 : Int32) (x3 : Int32) (x4 : Int32) (x6 : Int32) (x7 : Int32) (x8 : Int32) (y0 : Int32), ax_typ S R → (S u0 = some (.inl 5)) → R = R0 → d_M_join_279 S  I R u0 x2 x3 x4 x6 x7 x8 y0 = some out → ax_W X 12 279 [some (.ref u0), none, some (.int (x2)), some (.int (x3)), some (.int (x4)), none, some (.int (x6)), some (.int (x7)), some (.int (x8)), none, none, none] [.int (y0)] S I R L 0 0 := by
  rintro I R u0 x2 x3 x4 x6 x7 x8 y0 hty hs0_ hR0 h
  subst hR0
  unfold d_M_join_279 at h
  refine ax_istore (ls' := [some (.ref u0), none, some (.int (x2)), some (.int (x3)), some (.int (x4)), none, some (.int (x6)), some (.int (x7)), some (.int (x8)), some (.int (y0)), none, none]) (q := 281) hX dc_M_join_279 rfl (by decide) rfl ?_
  refine ax_iconst (v := 0) (q := 282) hX dc_M_join_281 rfl (by decide) ?_
  refine ax_istore (ls' := [some (.ref u0), none, some (.int (x2)), some (.int (x3)), some (.int (x4)), none, some (.int (x6)), some (.int (x7)), some (.int (x8)), some (.int (y0)), some (.int (0)), none]) (q := 284) hX dc_M_join_282 rfl (by decide) rfl ?_
  exact (e_M_join_284 hX hF hS0  5000 I R u0 (x2) (x3) (x4) (x6) (x7) (x8) (y0) (0) hty hs0_ rfl h)
def d_M_join_259 (S : ax_S) (I : ax_I) (R : ax_R) (u0 : Nat) (x1 : Int32) (x2 : Int32) (x3 : Int32) (x4 : Int32) (x6 : Int32) (x7 : Int32) (y0 : Int32) : Option (Int32 × ax_I) :=
  if x1 = 3 then
    (R u0 5).bind fun u112 =>
    (ax_ix S u112 (I u0 3)).bind fun j116 =>
    d_M_join_279 S  I R u0 (x2) (x3) (x4) (x6) (x7) (y0) (I u112 j116)
  else
    d_M_join_279 S  I R u0 (x2) (x3) (x4) (x6) (x7) (y0) (0)
set_option maxHeartbeats 1000000 in
theorem e_M_join_259 {l : Launch} {X : ax_X} {S : ax_S} {L : ax_L} {R0 : ax_R} {out : Int32 × ax_I} (hX : ax_ok X l "LossFreeToolsModel" b_M_join 12 (ax_rm 2 0 0)) (hF : ax_fin X (some .int) 0 0 (ax_of (ax_eq (some (.int out.1)) S out.2 R0 L))) (hS0 : ax_S0 X = S) : ∀ (I : ax_I) (R : ax_R) (u0 : Nat) (x1 : Int32) (x2 : Int32) (x3 : Int32) (x4 : Int32) (x6 : Int32) (x7 : Int32) (y0 : Int32), ax_typ S R → (S u0 = some (.inl 5)) → R = R0 → d_M_join_259 S  I R u0 x1 x2 x3 x4 x6 x7 y0 = some out → ax_W X 12 259 [some (.ref u0), some (.int (x1)), some (.int (x2)), some (.int (x3)), some (.int (x4)), none, some (.int (x6)), some (.int (x7)), none, none, none, none] [.int (y0)] S I R L 0 0 := by
  rintro I R u0 x1 x2 x3 x4 x6 x7 y0 hty hs0_ hR0 h
  subst hR0
  unfold d_M_join_259 at h
  refine ax_istore (ls' := [some (.ref u0), some (.int (x1)), some (.int (x2)), some (.int (x3)), some (.int (x4)), none, some (.int (x6)), some (.int (x7)), some (.int (y0)), none, none, none]) (q := 261) hX dc_M_join_259 rfl (by decide) rfl ?_
  refine ax_iload_n (q := 262) hX dc_M_join_261 rfl rfl rfl ?_
  refine ax_iconst (v := 3) (q := 263) hX dc_M_join_262 rfl (by decide) ?_
  refine ax_icmp_ne (tgt := 278) (q := 266) hX dc_M_join_263 rfl (by decide) (fun z111 => ?_) (fun z111 => ?_)
  · rw [if_neg z111] at h
    refine ax_iconst (v := 0) (q := 279) hX dc_M_join_278 rfl (by decide) ?_
    exact ax_weak (ls' := [some (.ref u0), none, some (.int (x2)), some (.int (x3)), some (.int (x4)), none, some (.int (x6)), some (.int (x7)), some (.int (y0)), none, none, none]) (ax_fewP_s _ _ (by repeat (first | exact trivial | (refine And.intro rfl ?_)))) (e_M_join_279 hX hF hS0  I R u0 (x2) (x3) (x4) (x6) (x7) (y0) (0) hty hs0_ rfl h)
  · rw [if_pos z111] at h
    refine ax_aload_n (q := 267) hX dc_M_join_266 rfl rfl rfl ?_
    obtain ⟨u112, hu113, h⟩ := ax_bd h
    obtain ⟨n115, hs114⟩ : ∃ n, S u112 = some (.inr (0, n)) := hty.1 _ _ _ _ hs0_ hu113
    refine ax_getR (q := 270) hX dc_M_join_267 rfl fl_M_13 rfl hs0_ hu113 ?_
    refine ax_aload_n (q := 271) hX dc_M_join_270 rfl rfl rfl ?_
    refine ax_getI (q := 274) hX dc_M_join_271 rfl fl_M_71 rfl hs0_ ?_
    obtain ⟨j116, hj117, h⟩ := ax_bd h
    have hj117 := ax_ix_s hty hs114 hj117
    refine ax_iald (q := 275) hX j116 dc_M_join_274 rfl hs114 hj117.1 hj117.2.1 hj117.2.2 ?_
    refine ax_goto (tgt := 279) hX dc_M_join_275 (by decide) ?_
    exact ax_weak (ls' := [some (.ref u0), none, some (.int (x2)), some (.int (x3)), some (.int (x4)), none, some (.int (x6)), some (.int (x7)), some (.int (y0)), none, none, none]) (ax_fewP_s _ _ (by repeat (first | exact trivial | (refine And.intro rfl ?_)))) (e_M_join_279 hX hF hS0  I R u0 (x2) (x3) (x4) (x6) (x7) (y0) (I u112 j116) hty hs0_ rfl h)
def d_M_join_239 (S : ax_S) (I : ax_I) (R : ax_R) (u0 : Nat) (x1 : Int32) (x2 : Int32) (x3 : Int32) (x4 : Int32) (x6 : Int32) (y0 : Int32) : Option (Int32 × ax_I) :=
  if x1 = 2 then
    (R u0 4).bind fun u105 =>
    (ax_ix S u105 (I u0 3)).bind fun j109 =>
    d_M_join_259 S  I R u0 (x1) (x2) (x3) (x4) (x6) (y0) (I u105 j109)
  else
    d_M_join_259 S  I R u0 (x1) (x2) (x3) (x4) (x6) (y0) (0)
set_option maxHeartbeats 1000000 in
theorem e_M_join_239 {l : Launch} {X : ax_X} {S : ax_S} {L : ax_L} {R0 : ax_R} {out : Int32 × ax_I} (hX : ax_ok X l "LossFreeToolsModel" b_M_join 12 (ax_rm 2 0 0)) (hF : ax_fin X (some .int) 0 0 (ax_of (ax_eq (some (.int out.1)) S out.2 R0 L))) (hS0 : ax_S0 X = S) : ∀ (I : ax_I) (R : ax_R) (u0 : Nat) (x1 : Int32) (x2 : Int32) (x3 : Int32) (x4 : Int32) (x6 : Int32) (y0 : Int32), ax_typ S R → (S u0 = some (.inl 5)) → R = R0 → d_M_join_239 S  I R u0 x1 x2 x3 x4 x6 y0 = some out → ax_W X 12 239 [some (.ref u0), some (.int (x1)), some (.int (x2)), some (.int (x3)), some (.int (x4)), none, some (.int (x6)), none, none, none, none, none] [.int (y0)] S I R L 0 0 := by
  rintro I R u0 x1 x2 x3 x4 x6 y0 hty hs0_ hR0 h
  subst hR0
  unfold d_M_join_239 at h
  refine ax_istore (ls' := [some (.ref u0), some (.int (x1)), some (.int (x2)), some (.int (x3)), some (.int (x4)), none, some (.int (x6)), some (.int (y0)), none, none, none, none]) (q := 241) hX dc_M_join_239 rfl (by decide) rfl ?_
  refine ax_iload_n (q := 242) hX dc_M_join_241 rfl rfl rfl ?_
  refine ax_iconst (v := 2) (q := 243) hX dc_M_join_242 rfl (by decide) ?_
  refine ax_icmp_ne (tgt := 258) (q := 246) hX dc_M_join_243 rfl (by decide) (fun z104 => ?_) (fun z104 => ?_)
  · rw [if_neg z104] at h
    refine ax_iconst (v := 0) (q := 259) hX dc_M_join_258 rfl (by decide) ?_
    exact (e_M_join_259 hX hF hS0  I R u0 (x1) (x2) (x3) (x4) (x6) (y0) (0) hty hs0_ rfl h)
  · rw [if_pos z104] at h
    refine ax_aload_n (q := 247) hX dc_M_join_246 rfl rfl rfl ?_
    obtain ⟨u105, hu106, h⟩ := ax_bd h
    obtain ⟨n108, hs107⟩ : ∃ n, S u105 = some (.inr (0, n)) := hty.1 _ _ _ _ hs0_ hu106
    refine ax_getR (q := 250) hX dc_M_join_247 rfl fl_M_7 rfl hs0_ hu106 ?_
    refine ax_aload_n (q := 251) hX dc_M_join_250 rfl rfl rfl ?_
    refine ax_getI (q := 254) hX dc_M_join_251 rfl fl_M_71 rfl hs0_ ?_
    obtain ⟨j109, hj110, h⟩ := ax_bd h
    have hj110 := ax_ix_s hty hs107 hj110
    refine ax_iald (q := 255) hX j109 dc_M_join_254 rfl hs107 hj110.1 hj110.2.1 hj110.2.2 ?_
    refine ax_goto (tgt := 259) hX dc_M_join_255 (by decide) ?_
    exact (e_M_join_259 hX hF hS0  I R u0 (x1) (x2) (x3) (x4) (x6) (y0) (I u105 j109) hty hs0_ rfl h)
def d_M_join_222 (S : ax_S) (I : ax_I) (R : ax_R) (u0 : Nat) (x1 : Int32) (x2 : Int32) (x3 : Int32) (x4 : Int32) (y0 : Int32) : Option (Int32 × ax_I) :=
  if x1 = 1 then
    (R u0 5).bind fun u98 =>
    (ax_ix S u98 (x2)).bind fun j102 =>
    d_M_join_239 S  I R u0 (x1) (x2) (x3) (x4) (y0) (I u98 j102)
  else
    d_M_join_239 S  I R u0 (x1) (x2) (x3) (x4) (y0) (0)
set_option maxHeartbeats 1000000 in
theorem e_M_join_222 {l : Launch} {X : ax_X} {S : ax_S} {L : ax_L} {R0 : ax_R} {out : Int32 × ax_I} (hX : ax_ok X l "LossFreeToolsModel" b_M_join 12 (ax_rm 2 0 0)) (hF : ax_fin X (some .int) 0 0 (ax_of (ax_eq (some (.int out.1)) S out.2 R0 L))) (hS0 : ax_S0 X = S) : ∀ (I : ax_I) (R : ax_R) (u0 : Nat) (x1 : Int32) (x2 : Int32) (x3 : Int32) (x4 : Int32) (y0 : Int32), ax_typ S R → (S u0 = some (.inl 5)) → R = R0 → d_M_join_222 S  I R u0 x1 x2 x3 x4 y0 = some out → ax_W X 12 222 [some (.ref u0), some (.int (x1)), some (.int (x2)), some (.int (x3)), some (.int (x4)), none, none, none, none, none, none, none] [.int (y0)] S I R L 0 0 := by
  rintro I R u0 x1 x2 x3 x4 y0 hty hs0_ hR0 h
  subst hR0
  unfold d_M_join_222 at h
  refine ax_istore (ls' := [some (.ref u0), some (.int (x1)), some (.int (x2)), some (.int (x3)), some (.int (x4)), none, some (.int (y0)), none, none, none, none, none]) (q := 224) hX dc_M_join_222 rfl (by decide) rfl ?_
  refine ax_iload_n (q := 225) hX dc_M_join_224 rfl rfl rfl ?_
  refine ax_iconst (v := 1) (q := 226) hX dc_M_join_225 rfl (by decide) ?_
  refine ax_icmp_ne (tgt := 238) (q := 229) hX dc_M_join_226 rfl (by decide) (fun z97 => ?_) (fun z97 => ?_)
  · rw [if_neg z97] at h
    refine ax_iconst (v := 0) (q := 239) hX dc_M_join_238 rfl (by decide) ?_
    exact (e_M_join_239 hX hF hS0  I R u0 (x1) (x2) (x3) (x4) (y0) (0) hty hs0_ rfl h)
  · rw [if_pos z97] at h
    refine ax_aload_n (q := 230) hX dc_M_join_229 rfl rfl rfl ?_
    obtain ⟨u98, hu99, h⟩ := ax_bd h
    obtain ⟨n101, hs100⟩ : ∃ n, S u98 = some (.inr (0, n)) := hty.1 _ _ _ _ hs0_ hu99
    refine ax_getR (q := 233) hX dc_M_join_230 rfl fl_M_13 rfl hs0_ hu99 ?_
    refine ax_iload_n (q := 234) hX dc_M_join_233 rfl rfl rfl ?_
    obtain ⟨j102, hj103, h⟩ := ax_bd h
    have hj103 := ax_ix_s hty hs100 hj103
    refine ax_iald (q := 235) hX j102 dc_M_join_234 rfl hs100 hj103.1 hj103.2.1 hj103.2.2 ?_
    refine ax_goto (tgt := 239) hX dc_M_join_235 (by decide) ?_
    exact (e_M_join_239 hX hF hS0  I R u0 (x1) (x2) (x3) (x4) (y0) (I u98 j102) hty hs0_ rfl h)
def d_M_join_196 (S : ax_S) (I : ax_I) (R : ax_R) (u0 : Nat) (x1 : Int32) (x2 : Int32) (x3 : Int32) (x4 : Int32) (y0 : Int32) (w1 : Nat) : Option (Int32 × ax_I) :=
  (some (ax_up I w1 0 (y0))).bind fun I87 =>
  if (I87 u0 0) ≤ 0 then
    if x1 = 0 then
      (R u0 4).bind fun u91 =>
      (ax_ix S u91 (x2)).bind fun j95 =>
      d_M_join_222 S  I87 R u0 (x1) (x2) (x3) (x4) (I87 u91 j95)
    else
      d_M_join_222 S  I87 R u0 (x1) (x2) (x3) (x4) (0)
  else
    some (0, I87)
set_option maxHeartbeats 1000000 in
theorem e_M_join_196 {l : Launch} {X : ax_X} {S : ax_S} {L : ax_L} {R0 : ax_R} {out : Int32 × ax_I} (hX : ax_ok X l "LossFreeToolsModel" b_M_join 12 (ax_rm 2 0 0)) (hF : ax_fin X (some .int) 0 0 (ax_of (ax_eq (some (.int out.1)) S out.2 R0 L))) (hS0 : ax_S0 X = S) : ∀ (I : ax_I) (R : ax_R) (u0 : Nat) (x1 : Int32) (x2 : Int32) (x3 : Int32) (x4 : Int32) (y0 : Int32) (w1 : Nat), ax_typ S R → (S u0 = some (.inl 5)) → (S w1 = some (.inl 5)) → R = R0 → d_M_join_196 S  I R u0 x1 x2 x3 x4 y0 w1 = some out → ax_W X 12 196 [some (.ref u0), some (.int (x1)), some (.int (x2)), some (.int (x3)), some (.int (x4)), none, none, none, none, none, none, none] [.int (y0), .ref w1] S I R L 0 0 := by
  rintro I R u0 x1 x2 x3 x4 y0 w1 hty hs0_ hw1_ hR0 h
  subst hR0
  unfold d_M_join_196 at h
  obtain ⟨I87, e88, h⟩ := ax_bs h
  refine ax_putI (q := 199) hX dc_M_join_196 rfl fl_M_68 rfl hw1_ (fun z => by cases z) rfl rfl e88 ?_
  refine ax_aload_n (q := 200) hX dc_M_join_199 rfl rfl rfl ?_
  refine ax_getI (q := 203) hX dc_M_join_200 rfl fl_M_68 rfl hs0_ ?_
  refine ax_if_le (tgt := 208) (q := 206) hX dc_M_join_203 rfl (by decide) (fun z89 => ?_) (fun z89 => ?_)
  · rw [if_pos z89] at h
    refine ax_iload_n (q := 209) hX dc_M_join_208 rfl rfl rfl ?_
    refine ax_if_ne (tgt := 221) (q := 212) hX dc_M_join_209 rfl (by decide) (fun z90 => ?_) (fun z90 => ?_)
    · rw [if_neg z90] at h
      refine ax_iconst (v := 0) (q := 222) hX dc_M_join_221 rfl (by decide) ?_
      exact (e_M_join_222 hX hF hS0  I87 R u0 (x1) (x2) (x3) (x4) (0) hty hs0_ rfl h)
    · rw [if_pos z90] at h
      refine ax_aload_n (q := 213) hX dc_M_join_212 rfl rfl rfl ?_
      obtain ⟨u91, hu92, h⟩ := ax_bd h
      obtain ⟨n94, hs93⟩ : ∃ n, S u91 = some (.inr (0, n)) := hty.1 _ _ _ _ hs0_ hu92
      refine ax_getR (q := 216) hX dc_M_join_213 rfl fl_M_7 rfl hs0_ hu92 ?_
      refine ax_iload_n (q := 217) hX dc_M_join_216 rfl rfl rfl ?_
      obtain ⟨j95, hj96, h⟩ := ax_bd h
      have hj96 := ax_ix_s hty hs93 hj96
      refine ax_iald (q := 218) hX j95 dc_M_join_217 rfl hs93 hj96.1 hj96.2.1 hj96.2.2 ?_
      refine ax_goto (tgt := 222) hX dc_M_join_218 (by decide) ?_
      exact (e_M_join_222 hX hF hS0  I87 R u0 (x1) (x2) (x3) (x4) (I87 u91 j95) hty hs0_ rfl h)
  · rw [if_neg z89] at h
    refine ax_iconst (v := 0) (q := 207) hX dc_M_join_206 rfl (by decide) ?_
    cases h
    exact ax_iret hX hF dc_M_join_207 rfl rfl (by decide) (by decide) ax_eq.mk (by rw [hS0]; exact fun _ _ z => z)
def d_M_join_191 (S : ax_S) (I : ax_I) (R : ax_R) (u0 : Nat) (x1 : Int32) (x2 : Int32) (x3 : Int32) (x4 : Int32) (w0 : Nat) : Option (Int32 × ax_I) :=
  d_M_join_196 S  I R u0 (x1) (x2) (x3) (x4) (3) w0
set_option maxHeartbeats 1000000 in
theorem e_M_join_191 {l : Launch} {X : ax_X} {S : ax_S} {L : ax_L} {R0 : ax_R} {out : Int32 × ax_I} (hX : ax_ok X l "LossFreeToolsModel" b_M_join 12 (ax_rm 2 0 0)) (hF : ax_fin X (some .int) 0 0 (ax_of (ax_eq (some (.int out.1)) S out.2 R0 L))) (hS0 : ax_S0 X = S) : ∀ (I : ax_I) (R : ax_R) (u0 : Nat) (x1 : Int32) (x2 : Int32) (x3 : Int32) (x4 : Int32) (w0 : Nat), ax_typ S R → (S u0 = some (.inl 5)) → (S w0 = some (.inl 5)) → R = R0 → d_M_join_191 S  I R u0 x1 x2 x3 x4 w0 = some out → ax_W X 12 191 [some (.ref u0), some (.int (x1)), some (.int (x2)), some (.int (x3)), some (.int (x4)), none, none, none, none, none, none, none] [.ref w0] S I R L 0 0 := by
  rintro I R u0 x1 x2 x3 x4 w0 hty hs0_ hw0_ hR0 h
  subst hR0
  unfold d_M_join_191 at h
  refine ax_iconst (v := 3) (q := 192) hX dc_M_join_191 rfl (by decide) ?_
  refine ax_goto (tgt := 196) hX dc_M_join_192 (by decide) ?_
  exact (e_M_join_196 hX hF hS0  I R u0 (x1) (x2) (x3) (x4) (3) w0 hty hs0_ hw0_ rfl h)
def d_M_join_116 (S : ax_S) (I : ax_I) (R : ax_R) (u0 : Nat) (x1 : Int32) (x2 : Int32) (x3 : Int32) (x4 : Int32) (y0 : Int32) : Option (Int32 × ax_I) :=
  (d_M_in S I R (x1) (0) (3)).bind fun r57 =>
  if (ax_b r57) = 0 then
    d_M_join_196 S  I R u0 (x1) (x2) (x3) (x4) (1) u0
  else
    if y0 = 0 then
      d_M_join_196 S  I R u0 (x1) (x2) (x3) (x4) (2) u0
    else
      if 400 < x4 then
        d_M_join_191 S  I R u0 (x1) (x2) (x3) (x4) u0
      else
        (R u0 6).bind fun u61 =>
        (ax_ix S u61 (I u0 3)).bind fun j65 =>
        (R u0 6).bind fun u67 =>
        (ax_ix S u67 (x2)).bind fun j71 =>
        if 40 < ((I u61 j65) + (I u67 j71)) then
          d_M_join_191 S  I R u0 (x1) (x2) (x3) (x4) u0
        else
          (R u0 7).bind fun u74 =>
          (ax_ix S u74 (I u0 3)).bind fun j78 =>
          (R u0 7).bind fun u80 =>
          (ax_ix S u80 (x2)).bind fun j84 =>
          if ((I u74 j78) + (I u80 j84)) ≤ 20 then
            d_M_join_196 S  I R u0 (x1) (x2) (x3) (x4) (0) u0
          else
            d_M_join_191 S  I R u0 (x1) (x2) (x3) (x4) u0
set_option maxHeartbeats 1000000 in
theorem e_M_join_116 {l : Launch} {X : ax_X} {S : ax_S} {L : ax_L} {R0 : ax_R} {out : Int32 × ax_I} (hX : ax_ok X l "LossFreeToolsModel" b_M_join 12 (ax_rm 2 0 0)) (hF : ax_fin X (some .int) 0 0 (ax_of (ax_eq (some (.int out.1)) S out.2 R0 L))) (hS0 : ax_S0 X = S) : ∀ (I : ax_I) (R : ax_R) (u0 : Nat) (x1 : Int32) (x2 : Int32) (x3 : Int32) (x4 : Int32) (y0 : Int32), ax_typ S R → (S u0 = some (.inl 5)) → R = R0 → d_M_join_116 S  I R u0 x1 x2 x3 x4 y0 = some out → ax_W X 12 116 [some (.ref u0), some (.int (x1)), some (.int (x2)), some (.int (x3)), some (.int (x4)), none, none, none, none, none, none, none] [.int (y0)] S I R L 0 0 := by
  rintro I R u0 x1 x2 x3 x4 y0 hty hs0_ hR0 h
  subst hR0
  unfold d_M_join_116 at h
  refine ax_istore (ls' := [some (.ref u0), some (.int (x1)), some (.int (x2)), some (.int (x3)), some (.int (x4)), some (.int (y0)), none, none, none, none, none, none]) (q := 118) hX dc_M_join_116 rfl (by decide) rfl ?_
  refine ax_aload_n (q := 119) hX dc_M_join_118 rfl rfl rfl ?_
  refine ax_iload_n (q := 120) hX dc_M_join_119 rfl rfl rfl ?_
  refine ax_iconst (v := 0) (q := 121) hX dc_M_join_120 rfl (by decide) ?_
  refine ax_iconst (v := 3) (q := 122) hX dc_M_join_121 rfl (by decide) ?_
  obtain ⟨r57, hr55, h⟩ := ax_bd h
  refine ax_kS (vs := [.int (x1), .int (0), .int (3)]) (rest := [.ref u0]) (q := 125) hX dc_M_join_122 rfl mt_M_in wl_M_84 wt_M_in (c_M_in l hty  hr55) rfl (by decide) rfl (Nat.le_of_ble_eq_true rfl) rfl rfl (by decide) (by decide) rfl ?_
  refine ax_if_ne (tgt := 132) (q := 128) hX dc_M_join_125 rfl (by decide) (fun z58 => ?_) (fun z58 => ?_)
  · rw [if_neg z58] at h
    refine ax_iload (q := 134) hX dc_M_join_132 rfl rfl ?_
    refine ax_if_ne (tgt := 141) (q := 137) hX dc_M_join_134 rfl (by decide) (fun z59 => ?_) (fun z59 => ?_)
    · rw [if_neg z59] at h
      refine ax_iload (q := 143) hX dc_M_join_141 rfl rfl ?_
      refine ax_sipush (v := 400) (q := 146) hX dc_M_join_143 rfl (by decide) ?_
      refine ax_icmp_gt (tgt := 191) (q := 149) hX dc_M_join_146 rfl (by decide) (fun z60 => ?_) (fun z60 => ?_)
      · rw [if_pos z60] at h
        exact ax_weak (ls' := [some (.ref u0), some (.int (x1)), some (.int (x2)), some (.int (x3)), some (.int (x4)), none, none, none, none, none, none, none]) (ax_fewP_s _ _ (by repeat (first | exact trivial | (refine And.intro rfl ?_)))) (e_M_join_191 hX hF hS0  I R u0 (x1) (x2) (x3) (x4) u0 hty hs0_ hs0_ rfl h)
      · rw [if_neg z60] at h
        refine ax_aload_n (q := 150) hX dc_M_join_149 rfl rfl rfl ?_
        obtain ⟨u61, hu62, h⟩ := ax_bd h
        obtain ⟨n64, hs63⟩ : ∃ n, S u61 = some (.inr (0, n)) := hty.1 _ _ _ _ hs0_ hu62
        refine ax_getR (q := 153) hX dc_M_join_150 rfl fl_M_16 rfl hs0_ hu62 ?_
        refine ax_aload_n (q := 154) hX dc_M_join_153 rfl rfl rfl ?_
        refine ax_getI (q := 157) hX dc_M_join_154 rfl fl_M_71 rfl hs0_ ?_
        obtain ⟨j65, hj66, h⟩ := ax_bd h
        have hj66 := ax_ix_s hty hs63 hj66
        refine ax_iald (q := 158) hX j65 dc_M_join_157 rfl hs63 hj66.1 hj66.2.1 hj66.2.2 ?_
        refine ax_aload_n (q := 159) hX dc_M_join_158 rfl rfl rfl ?_
        obtain ⟨u67, hu68, h⟩ := ax_bd h
        obtain ⟨n70, hs69⟩ : ∃ n, S u67 = some (.inr (0, n)) := hty.1 _ _ _ _ hs0_ hu68
        refine ax_getR (q := 162) hX dc_M_join_159 rfl fl_M_16 rfl hs0_ hu68 ?_
        refine ax_iload_n (q := 163) hX dc_M_join_162 rfl rfl rfl ?_
        obtain ⟨j71, hj72, h⟩ := ax_bd h
        have hj72 := ax_ix_s hty hs69 hj72
        refine ax_iald (q := 164) hX j71 dc_M_join_163 rfl hs69 hj72.1 hj72.2.1 hj72.2.2 ?_
        refine ax_iadd (q := 165) hX dc_M_join_164 rfl ?_
        refine ax_bipush (v := 40) (q := 167) hX dc_M_join_165 rfl (by decide) ?_
        refine ax_icmp_gt (tgt := 191) (q := 170) hX dc_M_join_167 rfl (by decide) (fun z73 => ?_) (fun z73 => ?_)
        · rw [if_pos z73] at h
          exact ax_weak (ls' := [some (.ref u0), some (.int (x1)), some (.int (x2)), some (.int (x3)), some (.int (x4)), none, none, none, none, none, none, none]) (ax_fewP_s _ _ (by repeat (first | exact trivial | (refine And.intro rfl ?_)))) (e_M_join_191 hX hF hS0  I R u0 (x1) (x2) (x3) (x4) u0 hty hs0_ hs0_ rfl h)
        · rw [if_neg z73] at h
          refine ax_aload_n (q := 171) hX dc_M_join_170 rfl rfl rfl ?_
          obtain ⟨u74, hu75, h⟩ := ax_bd h
          obtain ⟨n77, hs76⟩ : ∃ n, S u74 = some (.inr (0, n)) := hty.1 _ _ _ _ hs0_ hu75
          refine ax_getR (q := 174) hX dc_M_join_171 rfl fl_M_19 rfl hs0_ hu75 ?_
          refine ax_aload_n (q := 175) hX dc_M_join_174 rfl rfl rfl ?_
          refine ax_getI (q := 178) hX dc_M_join_175 rfl fl_M_71 rfl hs0_ ?_
          obtain ⟨j78, hj79, h⟩ := ax_bd h
          have hj79 := ax_ix_s hty hs76 hj79
          refine ax_iald (q := 179) hX j78 dc_M_join_178 rfl hs76 hj79.1 hj79.2.1 hj79.2.2 ?_
          refine ax_aload_n (q := 180) hX dc_M_join_179 rfl rfl rfl ?_
          obtain ⟨u80, hu81, h⟩ := ax_bd h
          obtain ⟨n83, hs82⟩ : ∃ n, S u80 = some (.inr (0, n)) := hty.1 _ _ _ _ hs0_ hu81
          refine ax_getR (q := 183) hX dc_M_join_180 rfl fl_M_19 rfl hs0_ hu81 ?_
          refine ax_iload_n (q := 184) hX dc_M_join_183 rfl rfl rfl ?_
          obtain ⟨j84, hj85, h⟩ := ax_bd h
          have hj85 := ax_ix_s hty hs82 hj85
          refine ax_iald (q := 185) hX j84 dc_M_join_184 rfl hs82 hj85.1 hj85.2.1 hj85.2.2 ?_
          refine ax_iadd (q := 186) hX dc_M_join_185 rfl ?_
          refine ax_bipush (v := 20) (q := 188) hX dc_M_join_186 rfl (by decide) ?_
          refine ax_icmp_le (tgt := 195) (q := 191) hX dc_M_join_188 rfl (by decide) (fun z86 => ?_) (fun z86 => ?_)
          · rw [if_pos z86] at h
            refine ax_iconst (v := 0) (q := 196) hX dc_M_join_195 rfl (by decide) ?_
            exact ax_weak (ls' := [some (.ref u0), some (.int (x1)), some (.int (x2)), some (.int (x3)), some (.int (x4)), none, none, none, none, none, none, none]) (ax_fewP_s _ _ (by repeat (first | exact trivial | (refine And.intro rfl ?_)))) (e_M_join_196 hX hF hS0  I R u0 (x1) (x2) (x3) (x4) (0) u0 hty hs0_ hs0_ rfl h)
          · rw [if_neg z86] at h
            exact ax_weak (ls' := [some (.ref u0), some (.int (x1)), some (.int (x2)), some (.int (x3)), some (.int (x4)), none, none, none, none, none, none, none]) (ax_fewP_s _ _ (by repeat (first | exact trivial | (refine And.intro rfl ?_)))) (e_M_join_191 hX hF hS0  I R u0 (x1) (x2) (x3) (x4) u0 hty hs0_ hs0_ rfl h)
    · rw [if_pos z59] at h
      refine ax_iconst (v := 2) (q := 138) hX dc_M_join_137 rfl (by decide) ?_
      refine ax_goto (tgt := 196) hX dc_M_join_138 (by decide) ?_
      exact ax_weak (ls' := [some (.ref u0), some (.int (x1)), some (.int (x2)), some (.int (x3)), some (.int (x4)), none, none, none, none, none, none, none]) (ax_fewP_s _ _ (by repeat (first | exact trivial | (refine And.intro rfl ?_)))) (e_M_join_196 hX hF hS0  I R u0 (x1) (x2) (x3) (x4) (2) u0 hty hs0_ hs0_ rfl h)
  · rw [if_pos z58] at h
    refine ax_iconst (v := 1) (q := 129) hX dc_M_join_128 rfl (by decide) ?_
    refine ax_goto (tgt := 196) hX dc_M_join_129 (by decide) ?_
    exact ax_weak (ls' := [some (.ref u0), some (.int (x1)), some (.int (x2)), some (.int (x3)), some (.int (x4)), none, none, none, none, none, none, none]) (ax_fewP_s _ _ (by repeat (first | exact trivial | (refine And.intro rfl ?_)))) (e_M_join_196 hX hF hS0  I R u0 (x1) (x2) (x3) (x4) (1) u0 hty hs0_ hs0_ rfl h)
def d_M_join_61 (S : ax_S) (I : ax_I) (R : ax_R) (u0 : Nat) (x1 : Int32) (x2 : Int32) (x3 : Int32) (y0 : Int32) : Option (Int32 × ax_I) :=
  if x3 = 0 then
    (R u0 4).bind fun u29 =>
    (ax_ix S u29 (I u0 3)).bind fun j33 =>
    (R u0 4).bind fun u35 =>
    (ax_ix S u35 (x2)).bind fun j39 =>
    if (I u29 j33) = (I u35 j39) then
      d_M_join_116 S  I R u0 (x1) (x2) (x3) (y0) (1)
    else
      d_M_join_116 S  I R u0 (x1) (x2) (x3) (y0) (0)
  else
    (R u0 5).bind fun u42 =>
    (ax_ix S u42 (I u0 3)).bind fun j46 =>
    (R u0 5).bind fun u48 =>
    (ax_ix S u48 (x2)).bind fun j52 =>
    if (I u42 j46) = (I u48 j52) then
      d_M_join_116 S  I R u0 (x1) (x2) (x3) (y0) (1)
    else
      d_M_join_116 S  I R u0 (x1) (x2) (x3) (y0) (0)
set_option maxHeartbeats 1000000 in
theorem e_M_join_61 {l : Launch} {X : ax_X} {S : ax_S} {L : ax_L} {R0 : ax_R} {out : Int32 × ax_I} (hX : ax_ok X l "LossFreeToolsModel" b_M_join 12 (ax_rm 2 0 0)) (hF : ax_fin X (some .int) 0 0 (ax_of (ax_eq (some (.int out.1)) S out.2 R0 L))) (hS0 : ax_S0 X = S) : ∀ (I : ax_I) (R : ax_R) (u0 : Nat) (x1 : Int32) (x2 : Int32) (x3 : Int32) (y0 : Int32), ax_typ S R → (S u0 = some (.inl 5)) → R = R0 → d_M_join_61 S  I R u0 x1 x2 x3 y0 = some out → ax_W X 12 61 [some (.ref u0), some (.int (x1)), some (.int (x2)), some (.int (x3)), none, none, none, none, none, none, none, none] [.int (y0)] S I R L 0 0 := by
  rintro I R u0 x1 x2 x3 y0 hty hs0_ hR0 h
  subst hR0
  unfold d_M_join_61 at h
  refine ax_istore (ls' := [some (.ref u0), some (.int (x1)), some (.int (x2)), some (.int (x3)), some (.int (y0)), none, none, none, none, none, none, none]) (q := 63) hX dc_M_join_61 rfl (by decide) rfl ?_
  refine ax_iload_n (q := 64) hX dc_M_join_63 rfl rfl rfl ?_
  refine ax_if_eq (tgt := 93) (q := 67) hX dc_M_join_64 rfl (by decide) (fun z28 => ?_) (fun z28 => ?_)
  · rw [if_pos z28] at h
    refine ax_aload_n (q := 94) hX dc_M_join_93 rfl rfl rfl ?_
    obtain ⟨u29, hu30, h⟩ := ax_bd h
    obtain ⟨n32, hs31⟩ : ∃ n, S u29 = some (.inr (0, n)) := hty.1 _ _ _ _ hs0_ hu30
    refine ax_getR (q := 97) hX dc_M_join_94 rfl fl_M_7 rfl hs0_ hu30 ?_
    refine ax_aload_n (q := 98) hX dc_M_join_97 rfl rfl rfl ?_
    refine ax_getI (q := 101) hX dc_M_join_98 rfl fl_M_71 rfl hs0_ ?_
    obtain ⟨j33, hj34, h⟩ := ax_bd h
    have hj34 := ax_ix_s hty hs31 hj34
    refine ax_iald (q := 102) hX j33 dc_M_join_101 rfl hs31 hj34.1 hj34.2.1 hj34.2.2 ?_
    refine ax_aload_n (q := 103) hX dc_M_join_102 rfl rfl rfl ?_
    obtain ⟨u35, hu36, h⟩ := ax_bd h
    obtain ⟨n38, hs37⟩ : ∃ n, S u35 = some (.inr (0, n)) := hty.1 _ _ _ _ hs0_ hu36
    refine ax_getR (q := 106) hX dc_M_join_103 rfl fl_M_7 rfl hs0_ hu36 ?_
    refine ax_iload_n (q := 107) hX dc_M_join_106 rfl rfl rfl ?_
    obtain ⟨j39, hj40, h⟩ := ax_bd h
    have hj40 := ax_ix_s hty hs37 hj40
    refine ax_iald (q := 108) hX j39 dc_M_join_107 rfl hs37 hj40.1 hj40.2.1 hj40.2.2 ?_
    refine ax_icmp_ne (tgt := 115) (q := 111) hX dc_M_join_108 rfl (by decide) (fun z41 => ?_) (fun z41 => ?_)
    · rw [if_neg z41] at h
      refine ax_iconst (v := 0) (q := 116) hX dc_M_join_115 rfl (by decide) ?_
      exact (e_M_join_116 hX hF hS0  I R u0 (x1) (x2) (x3) (y0) (0) hty hs0_ rfl h)
    · rw [if_pos z41] at h
      refine ax_iconst (v := 1) (q := 112) hX dc_M_join_111 rfl (by decide) ?_
      refine ax_goto (tgt := 116) hX dc_M_join_112 (by decide) ?_
      exact (e_M_join_116 hX hF hS0  I R u0 (x1) (x2) (x3) (y0) (1) hty hs0_ rfl h)
  · rw [if_neg z28] at h
    refine ax_aload_n (q := 68) hX dc_M_join_67 rfl rfl rfl ?_
    obtain ⟨u42, hu43, h⟩ := ax_bd h
    obtain ⟨n45, hs44⟩ : ∃ n, S u42 = some (.inr (0, n)) := hty.1 _ _ _ _ hs0_ hu43
    refine ax_getR (q := 71) hX dc_M_join_68 rfl fl_M_13 rfl hs0_ hu43 ?_
    refine ax_aload_n (q := 72) hX dc_M_join_71 rfl rfl rfl ?_
    refine ax_getI (q := 75) hX dc_M_join_72 rfl fl_M_71 rfl hs0_ ?_
    obtain ⟨j46, hj47, h⟩ := ax_bd h
    have hj47 := ax_ix_s hty hs44 hj47
    refine ax_iald (q := 76) hX j46 dc_M_join_75 rfl hs44 hj47.1 hj47.2.1 hj47.2.2 ?_
    refine ax_aload_n (q := 77) hX dc_M_join_76 rfl rfl rfl ?_
    obtain ⟨u48, hu49, h⟩ := ax_bd h
    obtain ⟨n51, hs50⟩ : ∃ n, S u48 = some (.inr (0, n)) := hty.1 _ _ _ _ hs0_ hu49
    refine ax_getR (q := 80) hX dc_M_join_77 rfl fl_M_13 rfl hs0_ hu49 ?_
    refine ax_iload_n (q := 81) hX dc_M_join_80 rfl rfl rfl ?_
    obtain ⟨j52, hj53, h⟩ := ax_bd h
    have hj53 := ax_ix_s hty hs50 hj53
    refine ax_iald (q := 82) hX j52 dc_M_join_81 rfl hs50 hj53.1 hj53.2.1 hj53.2.2 ?_
    refine ax_icmp_ne (tgt := 89) (q := 85) hX dc_M_join_82 rfl (by decide) (fun z54 => ?_) (fun z54 => ?_)
    · rw [if_neg z54] at h
      refine ax_iconst (v := 0) (q := 90) hX dc_M_join_89 rfl (by decide) ?_
      refine ax_goto (tgt := 116) hX dc_M_join_90 (by decide) ?_
      exact (e_M_join_116 hX hF hS0  I R u0 (x1) (x2) (x3) (y0) (0) hty hs0_ rfl h)
    · rw [if_pos z54] at h
      refine ax_iconst (v := 1) (q := 86) hX dc_M_join_85 rfl (by decide) ?_
      refine ax_goto (tgt := 116) hX dc_M_join_86 (by decide) ?_
      exact (e_M_join_116 hX hF hS0  I R u0 (x1) (x2) (x3) (y0) (1) hty hs0_ rfl h)
def d_M_join_21 (S : ax_S) (I : ax_I) (R : ax_R) (u0 : Nat) (x1 : Int32) (x2 : Int32) (y0 : Int32) : Option (Int32 × ax_I) :=
  if y0 = 0 then
    (R u0 5).bind fun u4 =>
    (ax_ix S u4 (I u0 3)).bind fun j8 =>
    (R u0 5).bind fun u10 =>
    (ax_ix S u10 (x2)).bind fun j14 =>
    d_M_join_61 S  I R u0 (x1) (x2) (y0) ((I u4 j8) + (I u10 j14))
  else
    (R u0 4).bind fun u16 =>
    (ax_ix S u16 (I u0 3)).bind fun j20 =>
    (R u0 4).bind fun u22 =>
    (ax_ix S u22 (x2)).bind fun j26 =>
    d_M_join_61 S  I R u0 (x1) (x2) (y0) ((I u16 j20) + (I u22 j26))
set_option maxHeartbeats 1000000 in
theorem e_M_join_21 {l : Launch} {X : ax_X} {S : ax_S} {L : ax_L} {R0 : ax_R} {out : Int32 × ax_I} (hX : ax_ok X l "LossFreeToolsModel" b_M_join 12 (ax_rm 2 0 0)) (hF : ax_fin X (some .int) 0 0 (ax_of (ax_eq (some (.int out.1)) S out.2 R0 L))) (hS0 : ax_S0 X = S) : ∀ (I : ax_I) (R : ax_R) (u0 : Nat) (x1 : Int32) (x2 : Int32) (y0 : Int32), ax_typ S R → (S u0 = some (.inl 5)) → R = R0 → d_M_join_21 S  I R u0 x1 x2 y0 = some out → ax_W X 12 21 [some (.ref u0), some (.int (x1)), some (.int (x2)), none, none, none, none, none, none, none, none, none] [.int (y0)] S I R L 0 0 := by
  rintro I R u0 x1 x2 y0 hty hs0_ hR0 h
  subst hR0
  unfold d_M_join_21 at h
  refine ax_istore_n (ls' := [some (.ref u0), some (.int (x1)), some (.int (x2)), some (.int (y0)), none, none, none, none, none, none, none, none]) (q := 22) hX dc_M_join_21 rfl rfl (by decide) rfl ?_
  refine ax_iload_n (q := 23) hX dc_M_join_22 rfl rfl rfl ?_
  refine ax_if_eq (tgt := 45) (q := 26) hX dc_M_join_23 rfl (by decide) (fun z3 => ?_) (fun z3 => ?_)
  · rw [if_pos z3] at h
    refine ax_aload_n (q := 46) hX dc_M_join_45 rfl rfl rfl ?_
    obtain ⟨u4, hu5, h⟩ := ax_bd h
    obtain ⟨n7, hs6⟩ : ∃ n, S u4 = some (.inr (0, n)) := hty.1 _ _ _ _ hs0_ hu5
    refine ax_getR (q := 49) hX dc_M_join_46 rfl fl_M_13 rfl hs0_ hu5 ?_
    refine ax_aload_n (q := 50) hX dc_M_join_49 rfl rfl rfl ?_
    refine ax_getI (q := 53) hX dc_M_join_50 rfl fl_M_71 rfl hs0_ ?_
    obtain ⟨j8, hj9, h⟩ := ax_bd h
    have hj9 := ax_ix_s hty hs6 hj9
    refine ax_iald (q := 54) hX j8 dc_M_join_53 rfl hs6 hj9.1 hj9.2.1 hj9.2.2 ?_
    refine ax_aload_n (q := 55) hX dc_M_join_54 rfl rfl rfl ?_
    obtain ⟨u10, hu11, h⟩ := ax_bd h
    obtain ⟨n13, hs12⟩ : ∃ n, S u10 = some (.inr (0, n)) := hty.1 _ _ _ _ hs0_ hu11
    refine ax_getR (q := 58) hX dc_M_join_55 rfl fl_M_13 rfl hs0_ hu11 ?_
    refine ax_iload_n (q := 59) hX dc_M_join_58 rfl rfl rfl ?_
    obtain ⟨j14, hj15, h⟩ := ax_bd h
    have hj15 := ax_ix_s hty hs12 hj15
    refine ax_iald (q := 60) hX j14 dc_M_join_59 rfl hs12 hj15.1 hj15.2.1 hj15.2.2 ?_
    refine ax_iadd (q := 61) hX dc_M_join_60 rfl ?_
    exact (e_M_join_61 hX hF hS0  I R u0 (x1) (x2) (y0) ((I u4 j8) + (I u10 j14)) hty hs0_ rfl h)
  · rw [if_neg z3] at h
    refine ax_aload_n (q := 27) hX dc_M_join_26 rfl rfl rfl ?_
    obtain ⟨u16, hu17, h⟩ := ax_bd h
    obtain ⟨n19, hs18⟩ : ∃ n, S u16 = some (.inr (0, n)) := hty.1 _ _ _ _ hs0_ hu17
    refine ax_getR (q := 30) hX dc_M_join_27 rfl fl_M_7 rfl hs0_ hu17 ?_
    refine ax_aload_n (q := 31) hX dc_M_join_30 rfl rfl rfl ?_
    refine ax_getI (q := 34) hX dc_M_join_31 rfl fl_M_71 rfl hs0_ ?_
    obtain ⟨j20, hj21, h⟩ := ax_bd h
    have hj21 := ax_ix_s hty hs18 hj21
    refine ax_iald (q := 35) hX j20 dc_M_join_34 rfl hs18 hj21.1 hj21.2.1 hj21.2.2 ?_
    refine ax_aload_n (q := 36) hX dc_M_join_35 rfl rfl rfl ?_
    obtain ⟨u22, hu23, h⟩ := ax_bd h
    obtain ⟨n25, hs24⟩ : ∃ n, S u22 = some (.inr (0, n)) := hty.1 _ _ _ _ hs0_ hu23
    refine ax_getR (q := 39) hX dc_M_join_36 rfl fl_M_7 rfl hs0_ hu23 ?_
    refine ax_iload_n (q := 40) hX dc_M_join_39 rfl rfl rfl ?_
    obtain ⟨j26, hj27, h⟩ := ax_bd h
    have hj27 := ax_ix_s hty hs24 hj27
    refine ax_iald (q := 41) hX j26 dc_M_join_40 rfl hs24 hj27.1 hj27.2.1 hj27.2.2 ?_
    refine ax_iadd (q := 42) hX dc_M_join_41 rfl ?_
    refine ax_goto (tgt := 61) hX dc_M_join_42 (by decide) ?_
    exact (e_M_join_61 hX hF hS0  I R u0 (x1) (x2) (y0) ((I u16 j20) + (I u22 j26)) hty hs0_ rfl h)
def d_M_join_16 (S : ax_S) (I : ax_I) (R : ax_R) (u0 : Nat) (x1 : Int32) (x2 : Int32) : Option (Int32 × ax_I) :=
  d_M_join_21 S  I R u0 (x1) (x2) (1)
set_option maxHeartbeats 1000000 in
theorem e_M_join_16 {l : Launch} {X : ax_X} {S : ax_S} {L : ax_L} {R0 : ax_R} {out : Int32 × ax_I} (hX : ax_ok X l "LossFreeToolsModel" b_M_join 12 (ax_rm 2 0 0)) (hF : ax_fin X (some .int) 0 0 (ax_of (ax_eq (some (.int out.1)) S out.2 R0 L))) (hS0 : ax_S0 X = S) : ∀ (I : ax_I) (R : ax_R) (u0 : Nat) (x1 : Int32) (x2 : Int32), ax_typ S R → (S u0 = some (.inl 5)) → R = R0 → d_M_join_16 S  I R u0 x1 x2 = some out → ax_W X 12 16 [some (.ref u0), some (.int (x1)), some (.int (x2)), none, none, none, none, none, none, none, none, none] [] S I R L 0 0 := by
  rintro I R u0 x1 x2 hty hs0_ hR0 h
  subst hR0
  unfold d_M_join_16 at h
  refine ax_iconst (v := 1) (q := 17) hX dc_M_join_16 rfl (by decide) ?_
  refine ax_goto (tgt := 21) hX dc_M_join_17 (by decide) ?_
  exact (e_M_join_21 hX hF hS0  I R u0 (x1) (x2) (1) hty hs0_ rfl h)
def d_M_join (S : ax_S) (I : ax_I) (R : ax_R) (u0 : Nat) (x1 : Int32) : Option (Int32 × ax_I) :=
  if x1 = 0 then
    d_M_join_16 S  I R u0 (x1) (1 - (I u0 3))
  else
    if x1 = 2 then
      d_M_join_16 S  I R u0 (x1) (1 - (I u0 3))
    else
      d_M_join_21 S  I R u0 (x1) (1 - (I u0 3)) (0)
set_option maxHeartbeats 1000000 in
theorem c_M_join (l : Launch) {S : ax_S} {I : ax_I} {R : ax_R} {L : ax_L} {u0 : Nat} {x1 : Int32} {out : Int32 × ax_I} (hty : ax_typ S R) (hs0 : S u0 = some (.inl 5)) (h : d_M_join S I R u0 x1 = some out) : ax_Met l y_M_join b_M_join 12 (some .int) (ax_rm 2 0 0) [.ref u0, .int x1] S I R L (ax_eq (some (.int out.1)) S out.2 R L) := by
  refine ax_enter (own := "LossFreeToolsModel") (by decide +kernel) rfl (ax_cats rfl) (Nat.le_of_ble_eq_true rfl) (fun X hX hF _ hS0 => ?_)
  show ax_W X 12 0 [some (.ref u0), some (.int (x1)), none, none, none, none, none, none, none, none, none, none] [] S I R L 0 0
  unfold d_M_join at h
  refine ax_iconst (v := 1) (q := 1) hX dc_M_join_0 rfl (by decide) ?_
  refine ax_aload_n (q := 2) hX dc_M_join_1 rfl rfl rfl ?_
  refine ax_getI (q := 5) hX dc_M_join_2 rfl fl_M_71 rfl hs0 ?_
  refine ax_isub (q := 6) hX dc_M_join_5 rfl ?_
  refine ax_istore_n (ls' := [some (.ref u0), some (.int (x1)), some (.int (1 - (I u0 3))), none, none, none, none, none, none, none, none, none]) (q := 7) hX dc_M_join_6 rfl rfl (by decide) rfl ?_
  refine ax_iload_n (q := 8) hX dc_M_join_7 rfl rfl rfl ?_
  refine ax_if_eq (tgt := 16) (q := 11) hX dc_M_join_8 rfl (by decide) (fun z1 => ?_) (fun z1 => ?_)
  · rw [if_pos z1] at h
    exact (e_M_join_16 hX hF hS0  I R u0 (x1) (1 - (I u0 3)) hty hs0 rfl h)
  · rw [if_neg z1] at h
    refine ax_iload_n (q := 12) hX dc_M_join_11 rfl rfl rfl ?_
    refine ax_iconst (v := 2) (q := 13) hX dc_M_join_12 rfl (by decide) ?_
    refine ax_icmp_ne (tgt := 20) (q := 16) hX dc_M_join_13 rfl (by decide) (fun z2 => ?_) (fun z2 => ?_)
    · rw [if_neg z2] at h
      refine ax_iconst (v := 0) (q := 21) hX dc_M_join_20 rfl (by decide) ?_
      exact (e_M_join_21 hX hF hS0  I R u0 (x1) (1 - (I u0 3)) (0) hty hs0 rfl h)
    · rw [if_pos z2] at h
      exact (e_M_join_16 hX hF hS0  I R u0 (x1) (1 - (I u0 3)) hty hs0 rfl h)
def d_M_ownOf_57 (S : ax_S) (rec6 : ax_I → ax_R → Int32 → Int32 → Int32 → Int32 → Int32 → Int32 → Int32 → Option (Int32)) (I : ax_I) (R : ax_R) (x0 : Int32) (x1 : Int32) (x2 : Int32) (x3 : Int32) (x4 : Int32) (x6 : Int32) (y0 : Int32) : Option (Int32) :=
  rec6 I R (x0) (x1) (x2) (x3) (x4) (y0) (x6 + 1)
set_option maxHeartbeats 1000000 in
theorem e_M_ownOf_57 {l : Launch} {X : ax_X} {S : ax_S} {L : ax_L} {I0 : ax_I} {R0 : ax_R} {out : Int32} (hX : ax_ok X l "LossFreeToolsModel" b_M_ownOf 7 (ax_rm 2 0 0)) (hF : ax_fin X (some .int) 0 0 (ax_of (ax_eq (some (.int out)) S I0 R0 L))) (hS0 : ax_S0 X = S) (rec6 : ax_I → ax_R → Int32 → Int32 → Int32 → Int32 → Int32 → Int32 → Int32 → Option (Int32)) (hrec6 : ∀ (I : ax_I) (R : ax_R) (x0 : Int32) (x1 : Int32) (x2 : Int32) (x3 : Int32) (x4 : Int32) (x5 : Int32) (x6 : Int32), ax_typ S R → I = I0 → R = R0 → rec6 I R x0 x1 x2 x3 x4 x5 x6 = some out → ax_W X 7 6 [some (.int (x0)), some (.int (x1)), some (.int (x2)), some (.int (x3)), some (.int (x4)), some (.int (x5)), some (.int (x6))] [] S I R L 0 0) : ∀ (I : ax_I) (R : ax_R) (x0 : Int32) (x1 : Int32) (x2 : Int32) (x3 : Int32) (x4 : Int32) (x6 : Int32) (y0 : Int32), ax_typ S R → I = I0 → R = R0 → d_M_ownOf_57 S rec6 I R x0 x1 x2 x3 x4 x6 y0 = some out → ax_W X 7 57 [some (.int (x0)), some (.int (x1)), some (.int (x2)), some (.int (x3)), some (.int (x4)), none, some (.int (x6))] [.int (y0)] S I R L 0 0 := by
  rintro I R x0 x1 x2 x3 x4 x6 y0 hty hI0 hR0 h
  subst hI0
  subst hR0
  unfold d_M_ownOf_57 at h
  refine ax_istore (ls' := [some (.int (x0)), some (.int (x1)), some (.int (x2)), some (.int (x3)), some (.int (x4)), some (.int (y0)), some (.int (x6))]) (q := 59) hX dc_M_ownOf_57 rfl (by decide) rfl ?_
  refine ax_iinc (v := x6 + 1) (ls' := [some (.int (x0)), some (.int (x1)), some (.int (x2)), some (.int (x3)), some (.int (x4)), some (.int (y0)), some (.int (x6 + 1))]) (q := 62) hX dc_M_ownOf_59 rfl rfl rfl (by decide) rfl ?_
  refine ax_goto (tgt := 6) hX dc_M_ownOf_62 (by decide) ?_
  exact (hrec6 I R (x0) (x1) (x2) (x3) (x4) (y0) (x6 + 1) hty  rfl rfl h)
def d_M_ownOf_6 (S : ax_S) : Nat → ax_I → ax_R → Int32 → Int32 → Int32 → Int32 → Int32 → Int32 → Int32 → Option (Int32)
  | 0, _, _, _, _, _, _, _, _, _ => none
  | n + 1, I, R, x0, x1, x2, x3, x4, x5, x6 =>
    if (x3 * x4) ≤ x6 then
      some (x5)
    else
      if x3 = 0 then none else
      if x3 = 0 then none else
      (d_M_comes S I R (x0) (x6 - x6 / x3 * x3) (x6 / x3) (x3) (x4)).bind fun r6 =>
      if r6 = ((1000 * x2) + x1) then
        if x3 = 0 then none else
        if x3 = 0 then none else
        d_M_ownOf_57 S (d_M_ownOf_6 S  n) I R (x0) (x1) (x2) (x3) (x4) (x6) ((64 * (x6 / x3)) + (x6 - x6 / x3 * x3))
      else
        d_M_ownOf_57 S (d_M_ownOf_6 S  n) I R (x0) (x1) (x2) (x3) (x4) (x6) (x5)
set_option maxHeartbeats 1000000 in
theorem e_M_ownOf_6 {l : Launch} {X : ax_X} {S : ax_S} {L : ax_L} {I0 : ax_I} {R0 : ax_R} {out : Int32} (hX : ax_ok X l "LossFreeToolsModel" b_M_ownOf 7 (ax_rm 2 0 0)) (hF : ax_fin X (some .int) 0 0 (ax_of (ax_eq (some (.int out)) S I0 R0 L))) (hS0 : ax_S0 X = S) : ∀ (n : Nat), ∀ (I : ax_I) (R : ax_R) (x0 : Int32) (x1 : Int32) (x2 : Int32) (x3 : Int32) (x4 : Int32) (x5 : Int32) (x6 : Int32), ax_typ S R → I = I0 → R = R0 → d_M_ownOf_6 S  n I R x0 x1 x2 x3 x4 x5 x6 = some out → ax_W X 7 6 [some (.int (x0)), some (.int (x1)), some (.int (x2)), some (.int (x3)), some (.int (x4)), some (.int (x5)), some (.int (x6))] [] S I R L 0 0 := by
  intro n
  induction n with
  | zero =>
    rintro I R x0 x1 x2 x3 x4 x5 x6 hty hI0 hR0 h
    cases h
  | succ n ih =>
    rintro I R x0 x1 x2 x3 x4 x5 x6 hty hI0 hR0 h
    subst hI0
    subst hR0
    unfold d_M_ownOf_6 at h
    refine ax_iload (q := 8) hX dc_M_ownOf_6 rfl rfl ?_
    refine ax_iload_n (q := 9) hX dc_M_ownOf_8 rfl rfl rfl ?_
    refine ax_iload (q := 11) hX dc_M_ownOf_9 rfl rfl ?_
    refine ax_imul (q := 12) hX dc_M_ownOf_11 rfl ?_
    refine ax_icmp_ge (tgt := 65) (q := 15) hX dc_M_ownOf_12 rfl (by decide) (fun z1 => ?_) (fun z1 => ?_)
    · rw [if_pos z1] at h
      refine ax_iload (q := 67) hX dc_M_ownOf_65 rfl rfl ?_
      cases h
      exact ax_iret hX hF dc_M_ownOf_67 rfl rfl (by decide) (by decide) ax_eq.mk (by rw [hS0]; exact fun _ _ z => z)
    · rw [if_neg z1] at h
      refine ax_iload_n (q := 16) hX dc_M_ownOf_15 rfl rfl rfl ?_
      refine ax_iload (q := 18) hX dc_M_ownOf_16 rfl rfl ?_
      refine ax_iload_n (q := 19) hX dc_M_ownOf_18 rfl rfl rfl ?_
      have z2 : ¬ x3 = 0 := fun hz => by rw [if_pos hz] at h; cases h
      rw [if_neg z2] at h
      refine ax_irem (q := 20) hX dc_M_ownOf_19 rfl z2 ?_
      refine ax_iload (q := 22) hX dc_M_ownOf_20 rfl rfl ?_
      refine ax_iload_n (q := 23) hX dc_M_ownOf_22 rfl rfl rfl ?_
      have z3 : ¬ x3 = 0 := fun hz => by rw [if_pos hz] at h; cases h
      rw [if_neg z3] at h
      refine ax_idiv (q := 24) hX dc_M_ownOf_23 rfl z3 ?_
      refine ax_iload_n (q := 25) hX dc_M_ownOf_24 rfl rfl rfl ?_
      refine ax_iload (q := 27) hX dc_M_ownOf_25 rfl rfl ?_
      obtain ⟨r6, hr4, h⟩ := ax_bd h
      refine ax_kS (vs := [.int (x0), .int (x6 - x6 / x3 * x3), .int (x6 / x3), .int (x3), .int (x4)]) (rest := []) (q := 30) hX dc_M_ownOf_27 rfl mt_M_comes wl_M_119 wt_M_comes (c_M_comes l hty  hr4) rfl (by decide) rfl (Nat.le_of_ble_eq_true rfl) rfl rfl (by decide) (by decide) rfl ?_
      refine ax_sipush (v := 1000) (q := 33) hX dc_M_ownOf_30 rfl (by decide) ?_
      refine ax_iload_n (q := 34) hX dc_M_ownOf_33 rfl rfl rfl ?_
      refine ax_imul (q := 35) hX dc_M_ownOf_34 rfl ?_
      refine ax_iload_n (q := 36) hX dc_M_ownOf_35 rfl rfl rfl ?_
      refine ax_iadd (q := 37) hX dc_M_ownOf_36 rfl ?_
      refine ax_icmp_ne (tgt := 55) (q := 40) hX dc_M_ownOf_37 rfl (by decide) (fun z7 => ?_) (fun z7 => ?_)
      · rw [if_neg z7] at h
        refine ax_iload (q := 57) hX dc_M_ownOf_55 rfl rfl ?_
        exact ax_weak (ls' := [some (.int (x0)), some (.int (x1)), some (.int (x2)), some (.int (x3)), some (.int (x4)), none, some (.int (x6))]) (ax_fewP_s _ _ (by repeat (first | exact trivial | (refine And.intro rfl ?_)))) (e_M_ownOf_57 hX hF hS0 (d_M_ownOf_6 S  n) (ih) I R (x0) (x1) (x2) (x3) (x4) (x6) (x5) hty  rfl rfl h)
      · rw [if_pos z7] at h
        refine ax_bipush (v := 64) (q := 42) hX dc_M_ownOf_40 rfl (by decide) ?_
        refine ax_iload (q := 44) hX dc_M_ownOf_42 rfl rfl ?_
        refine ax_iload_n (q := 45) hX dc_M_ownOf_44 rfl rfl rfl ?_
        have z8 : ¬ x3 = 0 := fun hz => by rw [if_pos hz] at h; cases h
        rw [if_neg z8] at h
        refine ax_idiv (q := 46) hX dc_M_ownOf_45 rfl z8 ?_
        refine ax_imul (q := 47) hX dc_M_ownOf_46 rfl ?_
        refine ax_iload (q := 49) hX dc_M_ownOf_47 rfl rfl ?_
        refine ax_iload_n (q := 50) hX dc_M_ownOf_49 rfl rfl rfl ?_
        have z9 : ¬ x3 = 0 := fun hz => by rw [if_pos hz] at h; cases h
        rw [if_neg z9] at h
        refine ax_irem (q := 51) hX dc_M_ownOf_50 rfl z9 ?_
        refine ax_iadd (q := 52) hX dc_M_ownOf_51 rfl ?_
        refine ax_goto (tgt := 57) hX dc_M_ownOf_52 (by decide) ?_
        exact ax_weak (ls' := [some (.int (x0)), some (.int (x1)), some (.int (x2)), some (.int (x3)), some (.int (x4)), none, some (.int (x6))]) (ax_fewP_s _ _ (by repeat (first | exact trivial | (refine And.intro rfl ?_)))) (e_M_ownOf_57 hX hF hS0 (d_M_ownOf_6 S  n) (ih) I R (x0) (x1) (x2) (x3) (x4) (x6) ((64 * (x6 / x3)) + (x6 - x6 / x3 * x3)) hty  rfl rfl h)
def d_M_ownOf (S : ax_S) (I : ax_I) (R : ax_R) (x0 : Int32) (x1 : Int32) (x2 : Int32) (x3 : Int32) (x4 : Int32) : Option (Int32) :=
  d_M_ownOf_6 S  5000 I R (x0) (x1) (x2) (x3) (x4) ((-1)) (0)
set_option maxHeartbeats 1000000 in
theorem c_M_ownOf (l : Launch) {S : ax_S} {I : ax_I} {R : ax_R} {L : ax_L} {x0 : Int32} {x1 : Int32} {x2 : Int32} {x3 : Int32} {x4 : Int32} {out : Int32} (hty : ax_typ S R) (h : d_M_ownOf S I R x0 x1 x2 x3 x4 = some out) : ax_Met l y_M_ownOf b_M_ownOf 7 (some .int) (ax_rm 2 0 0) [.int x0, .int x1, .int x2, .int x3, .int x4] S I R L (ax_eq (some (.int out)) S I R L) := by
  refine ax_enter (own := "LossFreeToolsModel") (by decide +kernel) rfl (ax_cats rfl) (Nat.le_of_ble_eq_true rfl) (fun X hX hF _ hS0 => ?_)
  show ax_W X 7 0 [some (.int (x0)), some (.int (x1)), some (.int (x2)), some (.int (x3)), some (.int (x4)), none, none] [] S I R L 0 0
  unfold d_M_ownOf at h
  refine ax_iconst (v := (-1)) (q := 1) hX dc_M_ownOf_0 rfl (by decide) ?_
  refine ax_istore (ls' := [some (.int (x0)), some (.int (x1)), some (.int (x2)), some (.int (x3)), some (.int (x4)), some (.int ((-1))), none]) (q := 3) hX dc_M_ownOf_1 rfl (by decide) rfl ?_
  refine ax_iconst (v := 0) (q := 4) hX dc_M_ownOf_3 rfl (by decide) ?_
  refine ax_istore (ls' := [some (.int (x0)), some (.int (x1)), some (.int (x2)), some (.int (x3)), some (.int (x4)), some (.int ((-1))), some (.int (0))]) (q := 6) hX dc_M_ownOf_4 rfl (by decide) rfl ?_
  exact (e_M_ownOf_6 hX hF hS0  5000 I R (x0) (x1) (x2) (x3) (x4) ((-1)) (0) hty  rfl rfl h)
def d_M_noteAt_25 (S : ax_S) (I : ax_I) (R : ax_R) (u0 : Nat) (x1 : Int32) (x2 : Int32) (y0 : Int32) (w1 : Nat) : Option (Int32 × ax_I) :=
  (some (ax_up I w1 0 (y0))).bind fun I11 =>
  if (I11 u0 0) ≤ 0 then
    if x2 = 0 then
      (R u0 15).bind fun u29 =>
      (ax_ix S u29 ((20 * (I11 u0 3)) + x1)).bind fun j33 =>
      some (I11 u29 j33, I11)
    else
      if x2 = 1 then
        (R u0 16).bind fun u23 =>
        (ax_ix S u23 ((20 * (I11 u0 3)) + x1)).bind fun j27 =>
        some (I11 u23 j27, I11)
      else
        if x2 = 2 then
          (R u0 17).bind fun u17 =>
          (ax_ix S u17 ((20 * (I11 u0 3)) + x1)).bind fun j21 =>
          some (I11 u17 j21, I11)
        else
          some ((-1), I11)
  else
    some (0, I11)
set_option maxHeartbeats 1000000 in
theorem e_M_noteAt_25 {l : Launch} {X : ax_X} {S : ax_S} {L : ax_L} {R0 : ax_R} {out : Int32 × ax_I} (hX : ax_ok X l "LossFreeToolsModel" b_M_noteAt 4 (ax_rm 2 0 0)) (hF : ax_fin X (some .int) 0 0 (ax_of (ax_eq (some (.int out.1)) S out.2 R0 L))) (hS0 : ax_S0 X = S) : ∀ (I : ax_I) (R : ax_R) (u0 : Nat) (x1 : Int32) (x2 : Int32) (y0 : Int32) (w1 : Nat), ax_typ S R → (S u0 = some (.inl 5)) → (S w1 = some (.inl 5)) → R = R0 → d_M_noteAt_25 S  I R u0 x1 x2 y0 w1 = some out → ax_W X 4 25 [some (.ref u0), some (.int (x1)), some (.int (x2)), none] [.int (y0), .ref w1] S I R L 0 0 := by
  rintro I R u0 x1 x2 y0 w1 hty hs0_ hw1_ hR0 h
  subst hR0
  unfold d_M_noteAt_25 at h
  obtain ⟨I11, e12, h⟩ := ax_bs h
  refine ax_putI (q := 28) hX dc_M_noteAt_25 rfl fl_M_68 rfl hw1_ (fun z => by cases z) rfl rfl e12 ?_
  refine ax_bipush (v := 20) (q := 30) hX dc_M_noteAt_28 rfl (by decide) ?_
  refine ax_aload_n (q := 31) hX dc_M_noteAt_30 rfl rfl rfl ?_
  refine ax_getI (q := 34) hX dc_M_noteAt_31 rfl fl_M_71 rfl hs0_ ?_
  refine ax_imul (q := 35) hX dc_M_noteAt_34 rfl ?_
  refine ax_iload_n (q := 36) hX dc_M_noteAt_35 rfl rfl rfl ?_
  refine ax_iadd (q := 37) hX dc_M_noteAt_36 rfl ?_
  refine ax_istore_n (ls' := [some (.ref u0), some (.int (x1)), some (.int (x2)), some (.int ((20 * (I11 u0 3)) + x1))]) (q := 38) hX dc_M_noteAt_37 rfl rfl (by decide) rfl ?_
  refine ax_aload_n (q := 39) hX dc_M_noteAt_38 rfl rfl rfl ?_
  refine ax_getI (q := 42) hX dc_M_noteAt_39 rfl fl_M_68 rfl hs0_ ?_
  refine ax_if_le (tgt := 49) (q := 45) hX dc_M_noteAt_42 rfl (by decide) (fun z13 => ?_) (fun z13 => ?_)
  · rw [if_pos z13] at h
    refine ax_iload_n (q := 50) hX dc_M_noteAt_49 rfl rfl rfl ?_
    refine ax_if_ne (tgt := 62) (q := 53) hX dc_M_noteAt_50 rfl (by decide) (fun z14 => ?_) (fun z14 => ?_)
    · rw [if_neg z14] at h
      refine ax_iload_n (q := 63) hX dc_M_noteAt_62 rfl rfl rfl ?_
      refine ax_iconst (v := 1) (q := 64) hX dc_M_noteAt_63 rfl (by decide) ?_
      refine ax_icmp_ne (tgt := 76) (q := 67) hX dc_M_noteAt_64 rfl (by decide) (fun z15 => ?_) (fun z15 => ?_)
      · rw [if_neg z15] at h
        refine ax_iload_n (q := 77) hX dc_M_noteAt_76 rfl rfl rfl ?_
        refine ax_iconst (v := 2) (q := 78) hX dc_M_noteAt_77 rfl (by decide) ?_
        refine ax_icmp_ne (tgt := 90) (q := 81) hX dc_M_noteAt_78 rfl (by decide) (fun z16 => ?_) (fun z16 => ?_)
        · rw [if_neg z16] at h
          refine ax_iconst (v := (-1)) (q := 91) hX dc_M_noteAt_90 rfl (by decide) ?_
          cases h
          exact ax_iret hX hF dc_M_noteAt_91 rfl rfl (by decide) (by decide) ax_eq.mk (by rw [hS0]; exact fun _ _ z => z)
        · rw [if_pos z16] at h
          refine ax_aload_n (q := 82) hX dc_M_noteAt_81 rfl rfl rfl ?_
          obtain ⟨u17, hu18, h⟩ := ax_bd h
          obtain ⟨n20, hs19⟩ : ∃ n, S u17 = some (.inr (0, n)) := hty.1 _ _ _ _ hs0_ hu18
          refine ax_getR (q := 85) hX dc_M_noteAt_82 rfl fl_M_49 rfl hs0_ hu18 ?_
          refine ax_iload_n (q := 86) hX dc_M_noteAt_85 rfl rfl rfl ?_
          obtain ⟨j21, hj22, h⟩ := ax_bd h
          have hj22 := ax_ix_s hty hs19 hj22
          refine ax_iald (q := 87) hX j21 dc_M_noteAt_86 rfl hs19 hj22.1 hj22.2.1 hj22.2.2 ?_
          refine ax_goto (tgt := 91) hX dc_M_noteAt_87 (by decide) ?_
          cases h
          exact ax_iret hX hF dc_M_noteAt_91 rfl rfl (by decide) (by decide) ax_eq.mk (by rw [hS0]; exact fun _ _ z => z)
      · rw [if_pos z15] at h
        refine ax_aload_n (q := 68) hX dc_M_noteAt_67 rfl rfl rfl ?_
        obtain ⟨u23, hu24, h⟩ := ax_bd h
        obtain ⟨n26, hs25⟩ : ∃ n, S u23 = some (.inr (0, n)) := hty.1 _ _ _ _ hs0_ hu24
        refine ax_getR (q := 71) hX dc_M_noteAt_68 rfl fl_M_46 rfl hs0_ hu24 ?_
        refine ax_iload_n (q := 72) hX dc_M_noteAt_71 rfl rfl rfl ?_
        obtain ⟨j27, hj28, h⟩ := ax_bd h
        have hj28 := ax_ix_s hty hs25 hj28
        refine ax_iald (q := 73) hX j27 dc_M_noteAt_72 rfl hs25 hj28.1 hj28.2.1 hj28.2.2 ?_
        refine ax_goto (tgt := 91) hX dc_M_noteAt_73 (by decide) ?_
        cases h
        exact ax_iret hX hF dc_M_noteAt_91 rfl rfl (by decide) (by decide) ax_eq.mk (by rw [hS0]; exact fun _ _ z => z)
    · rw [if_pos z14] at h
      refine ax_aload_n (q := 54) hX dc_M_noteAt_53 rfl rfl rfl ?_
      obtain ⟨u29, hu30, h⟩ := ax_bd h
      obtain ⟨n32, hs31⟩ : ∃ n, S u29 = some (.inr (0, n)) := hty.1 _ _ _ _ hs0_ hu30
      refine ax_getR (q := 57) hX dc_M_noteAt_54 rfl fl_M_43 rfl hs0_ hu30 ?_
      refine ax_iload_n (q := 58) hX dc_M_noteAt_57 rfl rfl rfl ?_
      obtain ⟨j33, hj34, h⟩ := ax_bd h
      have hj34 := ax_ix_s hty hs31 hj34
      refine ax_iald (q := 59) hX j33 dc_M_noteAt_58 rfl hs31 hj34.1 hj34.2.1 hj34.2.2 ?_
      refine ax_goto (tgt := 91) hX dc_M_noteAt_59 (by decide) ?_
      cases h
      exact ax_iret hX hF dc_M_noteAt_91 rfl rfl (by decide) (by decide) ax_eq.mk (by rw [hS0]; exact fun _ _ z => z)
  · rw [if_neg z13] at h
    refine ax_iconst (v := 0) (q := 46) hX dc_M_noteAt_45 rfl (by decide) ?_
    refine ax_goto (tgt := 91) hX dc_M_noteAt_46 (by decide) ?_
    cases h
    exact ax_iret hX hF dc_M_noteAt_91 rfl rfl (by decide) (by decide) ax_eq.mk (by rw [hS0]; exact fun _ _ z => z)
def d_M_noteAt (S : ax_S) (I : ax_I) (R : ax_R) (u0 : Nat) (x1 : Int32) (x2 : Int32) : Option (Int32 × ax_I) :=
  (R u0 7).bind fun u1 =>
  (ax_ix S u1 (I u0 3)).bind fun j5 =>
  (d_M_in S I R (x1) (0) ((I u1 j5) - 1)).bind fun r9 =>
  if (ax_b r9) = 0 then
    d_M_noteAt_25 S  I R u0 (x1) (x2) (1) u0
  else
    d_M_noteAt_25 S  I R u0 (x1) (x2) (0) u0
set_option maxHeartbeats 1000000 in
theorem c_M_noteAt (l : Launch) {S : ax_S} {I : ax_I} {R : ax_R} {L : ax_L} {u0 : Nat} {x1 : Int32} {x2 : Int32} {out : Int32 × ax_I} (hty : ax_typ S R) (hs0 : S u0 = some (.inl 5)) (h : d_M_noteAt S I R u0 x1 x2 = some out) : ax_Met l y_M_noteAt b_M_noteAt 4 (some .int) (ax_rm 2 0 0) [.ref u0, .int x1, .int x2] S I R L (ax_eq (some (.int out.1)) S out.2 R L) := by
  refine ax_enter (own := "LossFreeToolsModel") (by decide +kernel) rfl (ax_cats rfl) (Nat.le_of_ble_eq_true rfl) (fun X hX hF _ hS0 => ?_)
  show ax_W X 4 0 [some (.ref u0), some (.int (x1)), some (.int (x2)), none] [] S I R L 0 0
  unfold d_M_noteAt at h
  refine ax_aload_n (q := 1) hX dc_M_noteAt_0 rfl rfl rfl ?_
  refine ax_iload_n (q := 2) hX dc_M_noteAt_1 rfl rfl rfl ?_
  refine ax_iconst (v := 0) (q := 3) hX dc_M_noteAt_2 rfl (by decide) ?_
  refine ax_aload_n (q := 4) hX dc_M_noteAt_3 rfl rfl rfl ?_
  obtain ⟨u1, hu2, h⟩ := ax_bd h
  obtain ⟨n4, hs3⟩ : ∃ n, S u1 = some (.inr (0, n)) := hty.1 _ _ _ _ hs0 hu2
  refine ax_getR (q := 7) hX dc_M_noteAt_4 rfl fl_M_19 rfl hs0 hu2 ?_
  refine ax_aload_n (q := 8) hX dc_M_noteAt_7 rfl rfl rfl ?_
  refine ax_getI (q := 11) hX dc_M_noteAt_8 rfl fl_M_71 rfl hs0 ?_
  obtain ⟨j5, hj6, h⟩ := ax_bd h
  have hj6 := ax_ix_s hty hs3 hj6
  refine ax_iald (q := 12) hX j5 dc_M_noteAt_11 rfl hs3 hj6.1 hj6.2.1 hj6.2.2 ?_
  refine ax_iconst (v := 1) (q := 13) hX dc_M_noteAt_12 rfl (by decide) ?_
  refine ax_isub (q := 14) hX dc_M_noteAt_13 rfl ?_
  obtain ⟨r9, hr7, h⟩ := ax_bd h
  refine ax_kS (vs := [.int (x1), .int (0), .int ((I u1 j5) - 1)]) (rest := [.ref u0]) (q := 17) hX dc_M_noteAt_14 rfl mt_M_in wl_M_84 wt_M_in (c_M_in l hty  hr7) rfl (by decide) rfl (Nat.le_of_ble_eq_true rfl) rfl rfl (by decide) (by decide) rfl ?_
  refine ax_if_eq (tgt := 24) (q := 20) hX dc_M_noteAt_17 rfl (by decide) (fun z10 => ?_) (fun z10 => ?_)
  · rw [if_pos z10] at h
    refine ax_iconst (v := 1) (q := 25) hX dc_M_noteAt_24 rfl (by decide) ?_
    exact (e_M_noteAt_25 hX hF hS0  I R u0 (x1) (x2) (1) u0 hty hs0 hs0 rfl h)
  · rw [if_neg z10] at h
    refine ax_iconst (v := 0) (q := 21) hX dc_M_noteAt_20 rfl (by decide) ?_
    refine ax_goto (tgt := 25) hX dc_M_noteAt_21 (by decide) ?_
    exact (e_M_noteAt_25 hX hF hS0  I R u0 (x1) (x2) (0) u0 hty hs0 hs0 rfl h)
def d_M_tellTwo (S : ax_S) (I : ax_I) (R : ax_R) (u0 : Nat) (x1 : Int32) : Option (ax_I) :=
  (d_M_tell S I R u0 (x1 - x1 / 256 * 256)).bind fun I3 =>
  (d_M_tell S I3 R u0 (x1 / 256)).bind fun I6 =>
  some (I6)
set_option maxHeartbeats 1000000 in
theorem c_M_tellTwo (l : Launch) {S : ax_S} {I : ax_I} {R : ax_R} {L : ax_L} {u0 : Nat} {x1 : Int32} {out : ax_I} (hty : ax_typ S R) (hs0 : S u0 = some (.inl 5)) (h : d_M_tellTwo S I R u0 x1 = some out) : ax_Met l y_M_tellTwo b_M_tellTwo 2 none (ax_rm 2 0 0) [.ref u0, .int x1] S I R L (ax_eq none S out R L) := by
  refine ax_enter (own := "LossFreeToolsModel") (by decide +kernel) rfl (ax_cats rfl) (Nat.le_of_ble_eq_true rfl) (fun X hX hF _ hS0 => ?_)
  show ax_W X 2 0 [some (.ref u0), some (.int (x1))] [] S I R L 0 0
  unfold d_M_tellTwo at h
  refine ax_aload_n (q := 1) hX dc_M_tellTwo_0 rfl rfl rfl ?_
  refine ax_iload_n (q := 2) hX dc_M_tellTwo_1 rfl rfl rfl ?_
  refine ax_sipush (v := 256) (q := 5) hX dc_M_tellTwo_2 rfl (by decide) ?_
  refine ax_irem (q := 6) hX dc_M_tellTwo_5 rfl (by decide) ?_
  obtain ⟨I3, hr1, h⟩ := ax_bd h
  refine ax_kV (vs := [.int (x1 - x1 / 256 * 256)]) (rest := []) (q := 9) hX dc_M_tellTwo_6 rfl mt_M_tell wl_M_133 wi_M_tell ws_M_tell hs0 rfl (c_M_tell l hty hs0 hr1) rfl (by decide) rfl (Nat.le_of_ble_eq_true rfl) rfl rfl (by decide) (by decide) rfl ?_
  refine ax_aload_n (q := 10) hX dc_M_tellTwo_9 rfl rfl rfl ?_
  refine ax_iload_n (q := 11) hX dc_M_tellTwo_10 rfl rfl rfl ?_
  refine ax_sipush (v := 256) (q := 14) hX dc_M_tellTwo_11 rfl (by decide) ?_
  refine ax_idiv (q := 15) hX dc_M_tellTwo_14 rfl (by decide) ?_
  obtain ⟨I6, hr4, h⟩ := ax_bd h
  refine ax_kV (vs := [.int (x1 / 256)]) (rest := []) (q := 18) hX dc_M_tellTwo_15 rfl mt_M_tell wl_M_133 wi_M_tell ws_M_tell hs0 rfl (c_M_tell l hty hs0 hr4) rfl (by decide) rfl (Nat.le_of_ble_eq_true rfl) rfl rfl (by decide) (by decide) rfl ?_
  cases h
  exact ax_vret hX hF dc_M_tellTwo_18 (by decide) (by decide) ax_eq.mk (by rw [hS0]; exact fun _ _ z => z)
def d_M_pointerOf_77 (S : ax_S) (rec29 : ax_I → ax_R → Nat → Int32 → Int32 → Int32 → Option (Int32)) (I : ax_I) (R : ax_R) (u0 : Nat) (x1 : Int32) (x3 : Int32) (y0 : Int32) (y1 : Int32) : Option (Int32) :=
  rec29 I R u0 (x1) (y1 + y0) (x3 + 1)
set_option maxHeartbeats 1000000 in
theorem e_M_pointerOf_77 {l : Launch} {X : ax_X} {S : ax_S} {L : ax_L} {I0 : ax_I} {R0 : ax_R} {out : Int32} (hX : ax_ok X l "LossFreeToolsModel" b_M_pointerOf 4 (ax_rm 2 0 0)) (hF : ax_fin X (some .int) 0 0 (ax_of (ax_eq (some (.int out)) S I0 R0 L))) (hS0 : ax_S0 X = S) (rec29 : ax_I → ax_R → Nat → Int32 → Int32 → Int32 → Option (Int32)) (hrec29 : ∀ (I : ax_I) (R : ax_R) (u0 : Nat) (x1 : Int32) (x2 : Int32) (x3 : Int32), ax_typ S R → (S u0 = some (.inl 5)) → I = I0 → R = R0 → rec29 I R u0 x1 x2 x3 = some out → ax_W X 4 29 [some (.ref u0), some (.int (x1)), some (.int (x2)), some (.int (x3))] [] S I R L 0 0) : ∀ (I : ax_I) (R : ax_R) (u0 : Nat) (x1 : Int32) (x3 : Int32) (y0 : Int32) (y1 : Int32), ax_typ S R → (S u0 = some (.inl 5)) → I = I0 → R = R0 → d_M_pointerOf_77 S rec29 I R u0 x1 x3 y0 y1 = some out → ax_W X 4 77 [some (.ref u0), some (.int (x1)), none, some (.int (x3))] [.int (y0), .int (y1)] S I R L 0 0 := by
  rintro I R u0 x1 x3 y0 y1 hty hs0_ hI0 hR0 h
  subst hI0
  subst hR0
  unfold d_M_pointerOf_77 at h
  refine ax_iadd (q := 78) hX dc_M_pointerOf_77 rfl ?_
  refine ax_istore_n (ls' := [some (.ref u0), some (.int (x1)), some (.int (y1 + y0)), some (.int (x3))]) (q := 79) hX dc_M_pointerOf_78 rfl rfl (by decide) rfl ?_
  refine ax_iinc (v := x3 + 1) (ls' := [some (.ref u0), some (.int (x1)), some (.int (y1 + y0)), some (.int (x3 + 1))]) (q := 82) hX dc_M_pointerOf_79 rfl rfl rfl (by decide) rfl ?_
  refine ax_goto (tgt := 29) hX dc_M_pointerOf_82 (by decide) ?_
  exact (hrec29 I R u0 (x1) (y1 + y0) (x3 + 1) hty hs0_ rfl rfl h)
def d_M_pointerOf_29 (S : ax_S) : Nat → ax_I → ax_R → Nat → Int32 → Int32 → Int32 → Option (Int32)
  | 0, _, _, _, _, _, _ => none
  | n + 1, I, R, u0, x1, x2, x3 =>
    (R u0 6).bind fun u13 =>
    (ax_ix S u13 (I u0 3)).bind fun j17 =>
    if (I u13 j17) ≤ x3 then
      some (x2)
    else
      (d_M_tileAt S I R u0 (x3)).bind fun r22 =>
      (d_M_tileAt S I R u0 (x1)).bind fun r25 =>
      (d_M_isBefore S I R u0 (r22) (r25)).bind fun r28 =>
      if (ax_b r28) = 0 then
        d_M_pointerOf_77 S (d_M_pointerOf_29 S  n) I R u0 (x1) (x3) (0) (x2)
      else
        (R u0 13).bind fun u30 =>
        (d_M_tileAt S I R u0 (x3)).bind fun r36 =>
        (ax_ix S u30 (r36)).bind fun j37 =>
        (d_M_partSize S I R (I u30 j37)).bind fun r41 =>
        d_M_pointerOf_77 S (d_M_pointerOf_29 S  n) I R u0 (x1) (x3) (r41) (x2)
set_option maxHeartbeats 1000000 in
theorem e_M_pointerOf_29 {l : Launch} {X : ax_X} {S : ax_S} {L : ax_L} {I0 : ax_I} {R0 : ax_R} {out : Int32} (hX : ax_ok X l "LossFreeToolsModel" b_M_pointerOf 4 (ax_rm 2 0 0)) (hF : ax_fin X (some .int) 0 0 (ax_of (ax_eq (some (.int out)) S I0 R0 L))) (hS0 : ax_S0 X = S) : ∀ (n : Nat), ∀ (I : ax_I) (R : ax_R) (u0 : Nat) (x1 : Int32) (x2 : Int32) (x3 : Int32), ax_typ S R → (S u0 = some (.inl 5)) → I = I0 → R = R0 → d_M_pointerOf_29 S  n I R u0 x1 x2 x3 = some out → ax_W X 4 29 [some (.ref u0), some (.int (x1)), some (.int (x2)), some (.int (x3))] [] S I R L 0 0 := by
  intro n
  induction n with
  | zero =>
    rintro I R u0 x1 x2 x3 hty hs0_ hI0 hR0 h
    cases h
  | succ n ih =>
    rintro I R u0 x1 x2 x3 hty hs0_ hI0 hR0 h
    subst hI0
    subst hR0
    unfold d_M_pointerOf_29 at h
    refine ax_iload_n (q := 30) hX dc_M_pointerOf_29 rfl rfl rfl ?_
    refine ax_aload_n (q := 31) hX dc_M_pointerOf_30 rfl rfl rfl ?_
    obtain ⟨u13, hu14, h⟩ := ax_bd h
    obtain ⟨n16, hs15⟩ : ∃ n, S u13 = some (.inr (0, n)) := hty.1 _ _ _ _ hs0_ hu14
    refine ax_getR (q := 34) hX dc_M_pointerOf_31 rfl fl_M_16 rfl hs0_ hu14 ?_
    refine ax_aload_n (q := 35) hX dc_M_pointerOf_34 rfl rfl rfl ?_
    refine ax_getI (q := 38) hX dc_M_pointerOf_35 rfl fl_M_71 rfl hs0_ ?_
    obtain ⟨j17, hj18, h⟩ := ax_bd h
    have hj18 := ax_ix_s hty hs15 hj18
    refine ax_iald (q := 39) hX j17 dc_M_pointerOf_38 rfl hs15 hj18.1 hj18.2.1 hj18.2.2 ?_
    refine ax_icmp_ge (tgt := 85) (q := 42) hX dc_M_pointerOf_39 rfl (by decide) (fun z19 => ?_) (fun z19 => ?_)
    · rw [if_pos z19] at h
      refine ax_iload_n (q := 86) hX dc_M_pointerOf_85 rfl rfl rfl ?_
      cases h
      exact ax_iret hX hF dc_M_pointerOf_86 rfl rfl (by decide) (by decide) ax_eq.mk (by rw [hS0]; exact fun _ _ z => z)
    · rw [if_neg z19] at h
      refine ax_iload_n (q := 43) hX dc_M_pointerOf_42 rfl rfl rfl ?_
      refine ax_aload_n (q := 44) hX dc_M_pointerOf_43 rfl rfl rfl ?_
      refine ax_aload_n (q := 45) hX dc_M_pointerOf_44 rfl rfl rfl ?_
      refine ax_iload_n (q := 46) hX dc_M_pointerOf_45 rfl rfl rfl ?_
      obtain ⟨r22, hr20, h⟩ := ax_bd h
      refine ax_kV (vs := [.int (x3)]) (rest := [.ref u0, .int (x2)]) (q := 49) hX dc_M_pointerOf_46 rfl mt_M_tileAt wl_M_92 wi_M_tileAt ws_M_tileAt hs0_ rfl (c_M_tileAt l hty hs0_ hr20) rfl (by decide) rfl (Nat.le_of_ble_eq_true rfl) rfl rfl (by decide) (by decide) rfl ?_
      refine ax_aload_n (q := 50) hX dc_M_pointerOf_49 rfl rfl rfl ?_
      refine ax_iload_n (q := 51) hX dc_M_pointerOf_50 rfl rfl rfl ?_
      obtain ⟨r25, hr23, h⟩ := ax_bd h
      refine ax_kV (vs := [.int (x1)]) (rest := [.int (r22), .ref u0, .int (x2)]) (q := 54) hX dc_M_pointerOf_51 rfl mt_M_tileAt wl_M_92 wi_M_tileAt ws_M_tileAt hs0_ rfl (c_M_tileAt l hty hs0_ hr23) rfl (by decide) rfl (Nat.le_of_ble_eq_true rfl) rfl rfl (by decide) (by decide) rfl ?_
      obtain ⟨r28, hr26, h⟩ := ax_bd h
      refine ax_kV (vs := [.int (r22), .int (r25)]) (rest := [.int (x2)]) (q := 57) hX dc_M_pointerOf_54 rfl mt_M_isBefore wl_M_137 wi_M_isBefore ws_M_isBefore hs0_ rfl (c_M_isBefore l hty hs0_ hr26) rfl (by decide) rfl (Nat.le_of_ble_eq_true rfl) rfl rfl (by decide) (by decide) rfl ?_
      refine ax_if_eq (tgt := 76) (q := 60) hX dc_M_pointerOf_57 rfl (by decide) (fun z29 => ?_) (fun z29 => ?_)
      · rw [if_pos z29] at h
        refine ax_iconst (v := 0) (q := 77) hX dc_M_pointerOf_76 rfl (by decide) ?_
        exact ax_weak (ls' := [some (.ref u0), some (.int (x1)), none, some (.int (x3))]) (ax_fewP_s _ _ (by repeat (first | exact trivial | (refine And.intro rfl ?_)))) (e_M_pointerOf_77 hX hF hS0 (d_M_pointerOf_29 S  n) (ih) I R u0 (x1) (x3) (0) (x2) hty hs0_ rfl rfl h)
      · rw [if_neg z29] at h
        refine ax_aload_n (q := 61) hX dc_M_pointerOf_60 rfl rfl rfl ?_
        obtain ⟨u30, hu31, h⟩ := ax_bd h
        obtain ⟨n33, hs32⟩ : ∃ n, S u30 = some (.inr (0, n)) := hty.1 _ _ _ _ hs0_ hu31
        refine ax_getR (q := 64) hX dc_M_pointerOf_61 rfl fl_M_37 rfl hs0_ hu31 ?_
        refine ax_aload_n (q := 65) hX dc_M_pointerOf_64 rfl rfl rfl ?_
        refine ax_iload_n (q := 66) hX dc_M_pointerOf_65 rfl rfl rfl ?_
        obtain ⟨r36, hr34, h⟩ := ax_bd h
        refine ax_kV (vs := [.int (x3)]) (rest := [.ref u30, .int (x2)]) (q := 69) hX dc_M_pointerOf_66 rfl mt_M_tileAt wl_M_92 wi_M_tileAt ws_M_tileAt hs0_ rfl (c_M_tileAt l hty hs0_ hr34) rfl (by decide) rfl (Nat.le_of_ble_eq_true rfl) rfl rfl (by decide) (by decide) rfl ?_
        obtain ⟨j37, hj38, h⟩ := ax_bd h
        have hj38 := ax_ix_s hty hs32 hj38
        refine ax_iald (q := 70) hX j37 dc_M_pointerOf_69 rfl hs32 hj38.1 hj38.2.1 hj38.2.2 ?_
        obtain ⟨r41, hr39, h⟩ := ax_bd h
        refine ax_kS (vs := [.int (I u30 j37)]) (rest := [.int (x2)]) (q := 73) hX dc_M_pointerOf_70 rfl mt_M_partSize wl_M_140 wt_M_partSize (c_M_partSize l hty  hr39) rfl (by decide) rfl (Nat.le_of_ble_eq_true rfl) rfl rfl (by decide) (by decide) rfl ?_
        refine ax_goto (tgt := 77) hX dc_M_pointerOf_73 (by decide) ?_
        exact ax_weak (ls' := [some (.ref u0), some (.int (x1)), none, some (.int (x3))]) (ax_fewP_s _ _ (by repeat (first | exact trivial | (refine And.intro rfl ?_)))) (e_M_pointerOf_77 hX hF hS0 (d_M_pointerOf_29 S  n) (ih) I R u0 (x1) (x3) (r41) (x2) hty hs0_ rfl rfl h)
def d_M_pointerOf (S : ax_S) (I : ax_I) (R : ax_R) (u0 : Nat) (x1 : Int32) : Option (Int32) :=
  (R u0 6).bind fun u1 =>
  (ax_ix S u1 (I u0 3)).bind fun j5 =>
  (R u0 7).bind fun u7 =>
  (ax_ix S u7 (I u0 3)).bind fun j11 =>
  d_M_pointerOf_29 S  5000 I R u0 (x1) ((8 + (2 * (I u1 j5))) + (5 * (I u7 j11))) (0)
set_option maxHeartbeats 1000000 in
theorem c_M_pointerOf (l : Launch) {S : ax_S} {I : ax_I} {R : ax_R} {L : ax_L} {u0 : Nat} {x1 : Int32} {out : Int32} (hty : ax_typ S R) (hs0 : S u0 = some (.inl 5)) (h : d_M_pointerOf S I R u0 x1 = some out) : ax_Met l y_M_pointerOf b_M_pointerOf 4 (some .int) (ax_rm 2 0 0) [.ref u0, .int x1] S I R L (ax_eq (some (.int out)) S I R L) := by
  refine ax_enter (own := "LossFreeToolsModel") (by decide +kernel) rfl (ax_cats rfl) (Nat.le_of_ble_eq_true rfl) (fun X hX hF _ hS0 => ?_)
  show ax_W X 4 0 [some (.ref u0), some (.int (x1)), none, none] [] S I R L 0 0
  unfold d_M_pointerOf at h
  refine ax_bipush (v := 8) (q := 2) hX dc_M_pointerOf_0 rfl (by decide) ?_
  refine ax_iconst (v := 2) (q := 3) hX dc_M_pointerOf_2 rfl (by decide) ?_
  refine ax_aload_n (q := 4) hX dc_M_pointerOf_3 rfl rfl rfl ?_
  obtain ⟨u1, hu2, h⟩ := ax_bd h
  obtain ⟨n4, hs3⟩ : ∃ n, S u1 = some (.inr (0, n)) := hty.1 _ _ _ _ hs0 hu2
  refine ax_getR (q := 7) hX dc_M_pointerOf_4 rfl fl_M_16 rfl hs0 hu2 ?_
  refine ax_aload_n (q := 8) hX dc_M_pointerOf_7 rfl rfl rfl ?_
  refine ax_getI (q := 11) hX dc_M_pointerOf_8 rfl fl_M_71 rfl hs0 ?_
  obtain ⟨j5, hj6, h⟩ := ax_bd h
  have hj6 := ax_ix_s hty hs3 hj6
  refine ax_iald (q := 12) hX j5 dc_M_pointerOf_11 rfl hs3 hj6.1 hj6.2.1 hj6.2.2 ?_
  refine ax_imul (q := 13) hX dc_M_pointerOf_12 rfl ?_
  refine ax_iadd (q := 14) hX dc_M_pointerOf_13 rfl ?_
  refine ax_iconst (v := 5) (q := 15) hX dc_M_pointerOf_14 rfl (by decide) ?_
  refine ax_aload_n (q := 16) hX dc_M_pointerOf_15 rfl rfl rfl ?_
  obtain ⟨u7, hu8, h⟩ := ax_bd h
  obtain ⟨n10, hs9⟩ : ∃ n, S u7 = some (.inr (0, n)) := hty.1 _ _ _ _ hs0 hu8
  refine ax_getR (q := 19) hX dc_M_pointerOf_16 rfl fl_M_19 rfl hs0 hu8 ?_
  refine ax_aload_n (q := 20) hX dc_M_pointerOf_19 rfl rfl rfl ?_
  refine ax_getI (q := 23) hX dc_M_pointerOf_20 rfl fl_M_71 rfl hs0 ?_
  obtain ⟨j11, hj12, h⟩ := ax_bd h
  have hj12 := ax_ix_s hty hs9 hj12
  refine ax_iald (q := 24) hX j11 dc_M_pointerOf_23 rfl hs9 hj12.1 hj12.2.1 hj12.2.2 ?_
  refine ax_imul (q := 25) hX dc_M_pointerOf_24 rfl ?_
  refine ax_iadd (q := 26) hX dc_M_pointerOf_25 rfl ?_
  refine ax_istore_n (ls' := [some (.ref u0), some (.int (x1)), some (.int ((8 + (2 * (I u1 j5))) + (5 * (I u7 j11)))), none]) (q := 27) hX dc_M_pointerOf_26 rfl rfl (by decide) rfl ?_
  refine ax_iconst (v := 0) (q := 28) hX dc_M_pointerOf_27 rfl (by decide) ?_
  refine ax_istore_n (ls' := [some (.ref u0), some (.int (x1)), some (.int ((8 + (2 * (I u1 j5))) + (5 * (I u7 j11)))), some (.int (0))]) (q := 29) hX dc_M_pointerOf_28 rfl rfl (by decide) rfl ?_
  exact (e_M_pointerOf_29 hX hF hS0  5000 I R u0 (x1) ((8 + (2 * (I u1 j5))) + (5 * (I u7 j11))) (0) hty hs0 rfl rfl h)
def d_M_streamAt_20 (S : ax_S) (I : ax_I) (R : ax_R) (u0 : Nat) (x1 : Int32) (y0 : Int32) (w1 : Nat) : Option (Int32 × ax_I) :=
  (some (ax_up I w1 0 (y0))).bind fun I5 =>
  if (I5 u0 0) ≤ 0 then
    (R u0 21).bind fun u8 =>
    (ax_ix S u8 (x1)).bind fun j12 =>
    some (I5 u8 j12, I5)
  else
    some (0, I5)
set_option maxHeartbeats 1000000 in
theorem e_M_streamAt_20 {l : Launch} {X : ax_X} {S : ax_S} {L : ax_L} {R0 : ax_R} {out : Int32 × ax_I} (hX : ax_ok X l "LossFreeToolsModel" b_M_streamAt 2 (ax_rm 2 0 0)) (hF : ax_fin X (some .int) 0 0 (ax_of (ax_eq (some (.int out.1)) S out.2 R0 L))) (hS0 : ax_S0 X = S) : ∀ (I : ax_I) (R : ax_R) (u0 : Nat) (x1 : Int32) (y0 : Int32) (w1 : Nat), ax_typ S R → (S u0 = some (.inl 5)) → (S w1 = some (.inl 5)) → R = R0 → d_M_streamAt_20 S  I R u0 x1 y0 w1 = some out → ax_W X 2 20 [some (.ref u0), some (.int (x1))] [.int (y0), .ref w1] S I R L 0 0 := by
  rintro I R u0 x1 y0 w1 hty hs0_ hw1_ hR0 h
  subst hR0
  unfold d_M_streamAt_20 at h
  obtain ⟨I5, e6, h⟩ := ax_bs h
  refine ax_putI (q := 23) hX dc_M_streamAt_20 rfl fl_M_68 rfl hw1_ (fun z => by cases z) rfl rfl e6 ?_
  refine ax_aload_n (q := 24) hX dc_M_streamAt_23 rfl rfl rfl ?_
  refine ax_getI (q := 27) hX dc_M_streamAt_24 rfl fl_M_68 rfl hs0_ ?_
  refine ax_if_le (tgt := 34) (q := 30) hX dc_M_streamAt_27 rfl (by decide) (fun z7 => ?_) (fun z7 => ?_)
  · rw [if_pos z7] at h
    refine ax_aload_n (q := 35) hX dc_M_streamAt_34 rfl rfl rfl ?_
    obtain ⟨u8, hu9, h⟩ := ax_bd h
    obtain ⟨n11, hs10⟩ : ∃ n, S u8 = some (.inr (0, n)) := hty.1 _ _ _ _ hs0_ hu9
    refine ax_getR (q := 38) hX dc_M_streamAt_35 rfl fl_M_55 rfl hs0_ hu9 ?_
    refine ax_iload_n (q := 39) hX dc_M_streamAt_38 rfl rfl rfl ?_
    obtain ⟨j12, hj13, h⟩ := ax_bd h
    have hj13 := ax_ix_s hty hs10 hj13
    refine ax_iald (q := 40) hX j12 dc_M_streamAt_39 rfl hs10 hj13.1 hj13.2.1 hj13.2.2 ?_
    cases h
    exact ax_iret hX hF dc_M_streamAt_40 rfl rfl (by decide) (by decide) ax_eq.mk (by rw [hS0]; exact fun _ _ z => z)
  · rw [if_neg z7] at h
    refine ax_iconst (v := 0) (q := 31) hX dc_M_streamAt_30 rfl (by decide) ?_
    refine ax_goto (tgt := 40) hX dc_M_streamAt_31 (by decide) ?_
    cases h
    exact ax_iret hX hF dc_M_streamAt_40 rfl rfl (by decide) (by decide) ax_eq.mk (by rw [hS0]; exact fun _ _ z => z)
def d_M_streamAt (S : ax_S) (I : ax_I) (R : ax_R) (u0 : Nat) (x1 : Int32) : Option (Int32 × ax_I) :=
  (d_M_in S I R (x1) (0) ((I u0 22) - 1)).bind fun r3 =>
  if (ax_b r3) = 0 then
    d_M_streamAt_20 S  I R u0 (x1) (1) u0
  else
    d_M_streamAt_20 S  I R u0 (x1) (0) u0
set_option maxHeartbeats 1000000 in
theorem c_M_streamAt (l : Launch) {S : ax_S} {I : ax_I} {R : ax_R} {L : ax_L} {u0 : Nat} {x1 : Int32} {out : Int32 × ax_I} (hty : ax_typ S R) (hs0 : S u0 = some (.inl 5)) (h : d_M_streamAt S I R u0 x1 = some out) : ax_Met l y_M_streamAt b_M_streamAt 2 (some .int) (ax_rm 2 0 0) [.ref u0, .int x1] S I R L (ax_eq (some (.int out.1)) S out.2 R L) := by
  refine ax_enter (own := "LossFreeToolsModel") (by decide +kernel) rfl (ax_cats rfl) (Nat.le_of_ble_eq_true rfl) (fun X hX hF _ hS0 => ?_)
  show ax_W X 2 0 [some (.ref u0), some (.int (x1))] [] S I R L 0 0
  unfold d_M_streamAt at h
  refine ax_aload_n (q := 1) hX dc_M_streamAt_0 rfl rfl rfl ?_
  refine ax_iload_n (q := 2) hX dc_M_streamAt_1 rfl rfl rfl ?_
  refine ax_iconst (v := 0) (q := 3) hX dc_M_streamAt_2 rfl (by decide) ?_
  refine ax_aload_n (q := 4) hX dc_M_streamAt_3 rfl rfl rfl ?_
  refine ax_getI (q := 7) hX dc_M_streamAt_4 rfl fl_M_81 rfl hs0 ?_
  refine ax_iconst (v := 1) (q := 8) hX dc_M_streamAt_7 rfl (by decide) ?_
  refine ax_isub (q := 9) hX dc_M_streamAt_8 rfl ?_
  obtain ⟨r3, hr1, h⟩ := ax_bd h
  refine ax_kS (vs := [.int (x1), .int (0), .int ((I u0 22) - 1)]) (rest := [.ref u0]) (q := 12) hX dc_M_streamAt_9 rfl mt_M_in wl_M_84 wt_M_in (c_M_in l hty  hr1) rfl (by decide) rfl (Nat.le_of_ble_eq_true rfl) rfl rfl (by decide) (by decide) rfl ?_
  refine ax_if_eq (tgt := 19) (q := 15) hX dc_M_streamAt_12 rfl (by decide) (fun z4 => ?_) (fun z4 => ?_)
  · rw [if_pos z4] at h
    refine ax_iconst (v := 1) (q := 20) hX dc_M_streamAt_19 rfl (by decide) ?_
    exact (e_M_streamAt_20 hX hF hS0  I R u0 (x1) (1) u0 hty hs0 hs0 rfl h)
  · rw [if_neg z4] at h
    refine ax_iconst (v := 0) (q := 16) hX dc_M_streamAt_15 rfl (by decide) ?_
    refine ax_goto (tgt := 20) hX dc_M_streamAt_16 (by decide) ?_
    exact (e_M_streamAt_20 hX hF hS0  I R u0 (x1) (0) u0 hty hs0 hs0 rfl h)
