def d_M_crop_422 (S : ax_S) (rec304 : ax_I → ax_R → Nat → Int32 → Int32 → Int32 → Int32 → Int32 → Int32 → Int32 → Option (Int32 × ax_I)) (I : ax_I) (R : ax_R) (u0 : Nat) (x1 : Int32) (x2 : Int32) (x3 : Int32) (x4 : Int32) (x5 : Int32) (x6 : Int32) (x7 : Int32) : Option (Int32 × ax_I) :=
  rec304 I R u0 (x1) (x2) (x3) (x4) (x5) (x6) (x7 + 1)
set_option maxHeartbeats 1000000 in
theorem e_M_crop_422 {l : Launch} {X : ax_X} {S : ax_S} {L : ax_L} {R0 : ax_R} {out : Int32 × ax_I} (hX : ax_ok X l "LossFreeToolsModel" b_M_crop 8 (ax_rm 4 0 0)) (hF : ax_fin X (some .int) 0 0 (ax_of (ax_eq (some (.int out.1)) S out.2 R0 L))) (hS0 : ax_S0 X = S) (rec304 : ax_I → ax_R → Nat → Int32 → Int32 → Int32 → Int32 → Int32 → Int32 → Int32 → Option (Int32 × ax_I)) (hrec304 : ∀ (I : ax_I) (R : ax_R) (u0 : Nat) (x1 : Int32) (x2 : Int32) (x3 : Int32) (x4 : Int32) (x5 : Int32) (x6 : Int32) (x7 : Int32), ax_typ S R → (S u0 = some (.inl 5)) → R = R0 → rec304 I R u0 x1 x2 x3 x4 x5 x6 x7 = some out → ax_W X 8 304 [some (.ref u0), some (.int (x1)), some (.int (x2)), some (.int (x3)), some (.int (x4)), some (.int (x5)), some (.int (x6)), some (.int (x7))] [] S I R L 0 0) : ∀ (I : ax_I) (R : ax_R) (u0 : Nat) (x1 : Int32) (x2 : Int32) (x3 : Int32) (x4 : Int32) (x5 : Int32) (x6 : Int32) (x7 : Int32), ax_typ S R → (S u0 = some (.inl 5)) → R = R0 → d_M_crop_422 S rec304 I R u0 x1 x2 x3 x4 x5 x6 x7 = some out → ax_W X 8 422 [some (.ref u0), some (.int (x1)), some (.int (x2)), some (.int (x3)), some (.int (x4)), some (.int (x5)), some (.int (x6)), some (.int (x7))] [] S I R L 0 0 := by
  rintro I R u0 x1 x2 x3 x4 x5 x6 x7 hty hs0_ hR0 h
  subst hR0
  unfold d_M_crop_422 at h
  refine ax_iinc (v := x7 + 1) (ls' := [some (.ref u0), some (.int (x1)), some (.int (x2)), some (.int (x3)), some (.int (x4)), some (.int (x5)), some (.int (x6)), some (.int (x7 + 1))]) (q := 425) hX dc_M_crop_422 rfl rfl rfl (by decide) rfl ?_
  refine ax_goto (tgt := 304) hX dc_M_crop_425 (by decide) ?_
  exact (hrec304 I R u0 (x1) (x2) (x3) (x4) (x5) (x6) (x7 + 1) hty hs0_ rfl h)
def d_M_crop_304 (S : ax_S) : Nat → ax_I → ax_R → Nat → Int32 → Int32 → Int32 → Int32 → Int32 → Int32 → Int32 → Option (Int32 × ax_I)
  | 0, _, _, _, _, _, _, _, _, _, _ => none
  | n + 1, I, R, u0, x1, x2, x3, x4, x5, x6, x7 =>
    (R u0 7).bind fun u153 =>
    (ax_ix S u153 (I u0 3)).bind fun j157 =>
    if ((20 * (I u0 3)) + (I u153 j157)) ≤ x7 then
      (R u0 7).bind fun u160 =>
      (ax_ix S u160 (I u0 3)).bind fun j164 =>
      (some (ax_up I u160 j164 (x6))).bind fun I166 =>
      (R u0 4).bind fun u168 =>
      (ax_ix S u168 (I166 u0 3)).bind fun j172 =>
      (some (ax_up I166 u168 j172 (x3))).bind fun I174 =>
      (R u0 5).bind fun u176 =>
      (ax_ix S u176 (I174 u0 3)).bind fun j180 =>
      (some (ax_up I174 u176 j180 (x4))).bind fun I182 =>
      some (x5, I182)
    else
      (R u0 15).bind fun u184 =>
      (ax_ix S u184 (x7)).bind fun j188 =>
      (d_M_in S I R (I u184 j188) (x1) ((x1 + x3) - 1)).bind fun r192 =>
      if (ax_b r192) = 0 then
        d_M_crop_422 S (d_M_crop_304 S  n) I R u0 (x1) (x2) (x3) (x4) (x5) (x6) (x7)
      else
        (R u0 16).bind fun u194 =>
        (ax_ix S u194 (x7)).bind fun j198 =>
        (d_M_in S I R (I u194 j198) (x2) ((x2 + x4) - 1)).bind fun r202 =>
        if (ax_b r202) = 0 then
          d_M_crop_422 S (d_M_crop_304 S  n) I R u0 (x1) (x2) (x3) (x4) (x5) (x6) (x7)
        else
          (d_M_moveNote S I R u0 (x7) ((20 * (I u0 3)) + x6)).bind fun I206 =>
          (R u0 15).bind fun u207 =>
          (ax_ix S u207 ((20 * (I206 u0 3)) + x6)).bind fun j211 =>
          (ax_ix S u207 ((20 * (I206 u0 3)) + x6)).bind fun j213 =>
          (some (ax_up I206 u207 j213 ((I206 u207 j211) - x1))).bind fun I215 =>
          (R u0 16).bind fun u217 =>
          (ax_ix S u217 ((20 * (I215 u0 3)) + x6)).bind fun j221 =>
          (ax_ix S u217 ((20 * (I215 u0 3)) + x6)).bind fun j223 =>
          (some (ax_up I215 u217 j223 ((I215 u217 j221) - x2))).bind fun I225 =>
          d_M_crop_422 S (d_M_crop_304 S  n) I225 R u0 (x1) (x2) (x3) (x4) (x5) (x6 + 1) (x7)
set_option maxHeartbeats 1000000 in
theorem e_M_crop_304 {l : Launch} {X : ax_X} {S : ax_S} {L : ax_L} {R0 : ax_R} {out : Int32 × ax_I} (hX : ax_ok X l "LossFreeToolsModel" b_M_crop 8 (ax_rm 4 0 0)) (hF : ax_fin X (some .int) 0 0 (ax_of (ax_eq (some (.int out.1)) S out.2 R0 L))) (hS0 : ax_S0 X = S) : ∀ (n : Nat), ∀ (I : ax_I) (R : ax_R) (u0 : Nat) (x1 : Int32) (x2 : Int32) (x3 : Int32) (x4 : Int32) (x5 : Int32) (x6 : Int32) (x7 : Int32), ax_typ S R → (S u0 = some (.inl 5)) → R = R0 → d_M_crop_304 S  n I R u0 x1 x2 x3 x4 x5 x6 x7 = some out → ax_W X 8 304 [some (.ref u0), some (.int (x1)), some (.int (x2)), some (.int (x3)), some (.int (x4)), some (.int (x5)), some (.int (x6)), some (.int (x7))] [] S I R L 0 0 := by
  intro n
  induction n with
  | zero =>
    rintro I R u0 x1 x2 x3 x4 x5 x6 x7 hty hs0_ hR0 h
    cases h
  | succ n ih =>
    rintro I R u0 x1 x2 x3 x4 x5 x6 x7 hty hs0_ hR0 h
    subst hR0
    unfold d_M_crop_304 at h
    refine ax_iload (q := 306) hX dc_M_crop_304 rfl rfl ?_
    refine ax_bipush (v := 20) (q := 308) hX dc_M_crop_306 rfl (by decide) ?_
    refine ax_aload_n (q := 309) hX dc_M_crop_308 rfl rfl rfl ?_
    refine ax_getI (q := 312) hX dc_M_crop_309 rfl fl_M_71 rfl hs0_ ?_
    refine ax_imul (q := 313) hX dc_M_crop_312 rfl ?_
    refine ax_aload_n (q := 314) hX dc_M_crop_313 rfl rfl rfl ?_
    obtain ⟨u153, hu154, h⟩ := ax_bd h
    obtain ⟨n156, hs155⟩ : ∃ n, S u153 = some (.inr (0, n)) := hty.1 _ _ _ _ hs0_ hu154
    refine ax_getR (q := 317) hX dc_M_crop_314 rfl fl_M_19 rfl hs0_ hu154 ?_
    refine ax_aload_n (q := 318) hX dc_M_crop_317 rfl rfl rfl ?_
    refine ax_getI (q := 321) hX dc_M_crop_318 rfl fl_M_71 rfl hs0_ ?_
    obtain ⟨j157, hj158, h⟩ := ax_bd h
    have hj158 := ax_ix_s hty hs155 hj158
    refine ax_iald (q := 322) hX j157 dc_M_crop_321 rfl hs155 hj158.1 hj158.2.1 hj158.2.2 ?_
    refine ax_iadd (q := 323) hX dc_M_crop_322 rfl ?_
    refine ax_icmp_ge (tgt := 428) (q := 326) hX dc_M_crop_323 rfl (by decide) (fun z159 => ?_) (fun z159 => ?_)
    · rw [if_pos z159] at h
      refine ax_aload_n (q := 429) hX dc_M_crop_428 rfl rfl rfl ?_
      obtain ⟨u160, hu161, h⟩ := ax_bd h
      obtain ⟨n163, hs162⟩ : ∃ n, S u160 = some (.inr (0, n)) := hty.1 _ _ _ _ hs0_ hu161
      refine ax_getR (q := 432) hX dc_M_crop_429 rfl fl_M_19 rfl hs0_ hu161 ?_
      refine ax_aload_n (q := 433) hX dc_M_crop_432 rfl rfl rfl ?_
      refine ax_getI (q := 436) hX dc_M_crop_433 rfl fl_M_71 rfl hs0_ ?_
      refine ax_iload (q := 438) hX dc_M_crop_436 rfl rfl ?_
      obtain ⟨j164, hj165, h⟩ := ax_bd h
      have hj165 := ax_ix_s hty hs162 hj165
      obtain ⟨I166, e167, h⟩ := ax_bs h
      refine ax_iast (q := 439) hX j164 dc_M_crop_438 rfl hs162 hj165.1 hj165.2.1 hj165.2.2 e167 ?_
      refine ax_aload_n (q := 440) hX dc_M_crop_439 rfl rfl rfl ?_
      obtain ⟨u168, hu169, h⟩ := ax_bd h
      obtain ⟨n171, hs170⟩ : ∃ n, S u168 = some (.inr (0, n)) := hty.1 _ _ _ _ hs0_ hu169
      refine ax_getR (q := 443) hX dc_M_crop_440 rfl fl_M_7 rfl hs0_ hu169 ?_
      refine ax_aload_n (q := 444) hX dc_M_crop_443 rfl rfl rfl ?_
      refine ax_getI (q := 447) hX dc_M_crop_444 rfl fl_M_71 rfl hs0_ ?_
      refine ax_iload_n (q := 448) hX dc_M_crop_447 rfl rfl rfl ?_
      obtain ⟨j172, hj173, h⟩ := ax_bd h
      have hj173 := ax_ix_s hty hs170 hj173
      obtain ⟨I174, e175, h⟩ := ax_bs h
      refine ax_iast (q := 449) hX j172 dc_M_crop_448 rfl hs170 hj173.1 hj173.2.1 hj173.2.2 e175 ?_
      refine ax_aload_n (q := 450) hX dc_M_crop_449 rfl rfl rfl ?_
      obtain ⟨u176, hu177, h⟩ := ax_bd h
      obtain ⟨n179, hs178⟩ : ∃ n, S u176 = some (.inr (0, n)) := hty.1 _ _ _ _ hs0_ hu177
      refine ax_getR (q := 453) hX dc_M_crop_450 rfl fl_M_13 rfl hs0_ hu177 ?_
      refine ax_aload_n (q := 454) hX dc_M_crop_453 rfl rfl rfl ?_
      refine ax_getI (q := 457) hX dc_M_crop_454 rfl fl_M_71 rfl hs0_ ?_
      refine ax_iload (q := 459) hX dc_M_crop_457 rfl rfl ?_
      obtain ⟨j180, hj181, h⟩ := ax_bd h
      have hj181 := ax_ix_s hty hs178 hj181
      obtain ⟨I182, e183, h⟩ := ax_bs h
      refine ax_iast (q := 460) hX j180 dc_M_crop_459 rfl hs178 hj181.1 hj181.2.1 hj181.2.2 e183 ?_
      refine ax_iload (q := 462) hX dc_M_crop_460 rfl rfl ?_
      cases h
      exact ax_iret hX hF dc_M_crop_462 rfl rfl (by decide) (by decide) ax_eq.mk (by rw [hS0]; exact fun _ _ z => z)
    · rw [if_neg z159] at h
      refine ax_aload_n (q := 327) hX dc_M_crop_326 rfl rfl rfl ?_
      obtain ⟨u184, hu185, h⟩ := ax_bd h
      obtain ⟨n187, hs186⟩ : ∃ n, S u184 = some (.inr (0, n)) := hty.1 _ _ _ _ hs0_ hu185
      refine ax_getR (q := 330) hX dc_M_crop_327 rfl fl_M_43 rfl hs0_ hu185 ?_
      refine ax_iload (q := 332) hX dc_M_crop_330 rfl rfl ?_
      obtain ⟨j188, hj189, h⟩ := ax_bd h
      have hj189 := ax_ix_s hty hs186 hj189
      refine ax_iald (q := 333) hX j188 dc_M_crop_332 rfl hs186 hj189.1 hj189.2.1 hj189.2.2 ?_
      refine ax_iload_n (q := 334) hX dc_M_crop_333 rfl rfl rfl ?_
      refine ax_iload_n (q := 335) hX dc_M_crop_334 rfl rfl rfl ?_
      refine ax_iload_n (q := 336) hX dc_M_crop_335 rfl rfl rfl ?_
      refine ax_iadd (q := 337) hX dc_M_crop_336 rfl ?_
      refine ax_iconst (v := 1) (q := 338) hX dc_M_crop_337 rfl (by decide) ?_
      refine ax_isub (q := 339) hX dc_M_crop_338 rfl ?_
      obtain ⟨r192, hr190, h⟩ := ax_bd h
      refine ax_kS (vs := [.int (I u184 j188), .int (x1), .int ((x1 + x3) - 1)]) (rest := []) (q := 342) hX dc_M_crop_339 rfl mt_M_in wl_M_84 wt_M_in (c_M_in l hty  hr190) rfl (by decide) rfl (Nat.le_of_ble_eq_true rfl) rfl rfl (by decide) (by decide) rfl ?_
      refine ax_if_eq (tgt := 422) (q := 345) hX dc_M_crop_342 rfl (by decide) (fun z193 => ?_) (fun z193 => ?_)
      · rw [if_pos z193] at h
        exact (e_M_crop_422 hX hF hS0 (d_M_crop_304 S  n) (ih) I R u0 (x1) (x2) (x3) (x4) (x5) (x6) (x7) hty hs0_ rfl h)
      · rw [if_neg z193] at h
        refine ax_aload_n (q := 346) hX dc_M_crop_345 rfl rfl rfl ?_
        obtain ⟨u194, hu195, h⟩ := ax_bd h
        obtain ⟨n197, hs196⟩ : ∃ n, S u194 = some (.inr (0, n)) := hty.1 _ _ _ _ hs0_ hu195
        refine ax_getR (q := 349) hX dc_M_crop_346 rfl fl_M_46 rfl hs0_ hu195 ?_
        refine ax_iload (q := 351) hX dc_M_crop_349 rfl rfl ?_
        obtain ⟨j198, hj199, h⟩ := ax_bd h
        have hj199 := ax_ix_s hty hs196 hj199
        refine ax_iald (q := 352) hX j198 dc_M_crop_351 rfl hs196 hj199.1 hj199.2.1 hj199.2.2 ?_
        refine ax_iload_n (q := 353) hX dc_M_crop_352 rfl rfl rfl ?_
        refine ax_iload_n (q := 354) hX dc_M_crop_353 rfl rfl rfl ?_
        refine ax_iload (q := 356) hX dc_M_crop_354 rfl rfl ?_
        refine ax_iadd (q := 357) hX dc_M_crop_356 rfl ?_
        refine ax_iconst (v := 1) (q := 358) hX dc_M_crop_357 rfl (by decide) ?_
        refine ax_isub (q := 359) hX dc_M_crop_358 rfl ?_
        obtain ⟨r202, hr200, h⟩ := ax_bd h
        refine ax_kS (vs := [.int (I u194 j198), .int (x2), .int ((x2 + x4) - 1)]) (rest := []) (q := 362) hX dc_M_crop_359 rfl mt_M_in wl_M_84 wt_M_in (c_M_in l hty  hr200) rfl (by decide) rfl (Nat.le_of_ble_eq_true rfl) rfl rfl (by decide) (by decide) rfl ?_
        refine ax_if_eq (tgt := 422) (q := 365) hX dc_M_crop_362 rfl (by decide) (fun z203 => ?_) (fun z203 => ?_)
        · rw [if_pos z203] at h
          exact (e_M_crop_422 hX hF hS0 (d_M_crop_304 S  n) (ih) I R u0 (x1) (x2) (x3) (x4) (x5) (x6) (x7) hty hs0_ rfl h)
        · rw [if_neg z203] at h
          refine ax_aload_n (q := 366) hX dc_M_crop_365 rfl rfl rfl ?_
          refine ax_iload (q := 368) hX dc_M_crop_366 rfl rfl ?_
          refine ax_bipush (v := 20) (q := 370) hX dc_M_crop_368 rfl (by decide) ?_
          refine ax_aload_n (q := 371) hX dc_M_crop_370 rfl rfl rfl ?_
          refine ax_getI (q := 374) hX dc_M_crop_371 rfl fl_M_71 rfl hs0_ ?_
          refine ax_imul (q := 375) hX dc_M_crop_374 rfl ?_
          refine ax_iload (q := 377) hX dc_M_crop_375 rfl rfl ?_
          refine ax_iadd (q := 378) hX dc_M_crop_377 rfl ?_
          obtain ⟨I206, hr204, h⟩ := ax_bd h
          refine ax_kV (vs := [.int (x7), .int ((20 * (I u0 3)) + x6)]) (rest := []) (q := 381) hX dc_M_crop_378 rfl mt_M_moveNote wl_M_116 wi_M_moveNote ws_M_moveNote hs0_ rfl (c_M_moveNote l hty hs0_ hr204) rfl (by decide) rfl (Nat.le_of_ble_eq_true rfl) rfl rfl (by decide) (by decide) rfl ?_
          refine ax_aload_n (q := 382) hX dc_M_crop_381 rfl rfl rfl ?_
          obtain ⟨u207, hu208, h⟩ := ax_bd h
          obtain ⟨n210, hs209⟩ : ∃ n, S u207 = some (.inr (0, n)) := hty.1 _ _ _ _ hs0_ hu208
          refine ax_getR (q := 385) hX dc_M_crop_382 rfl fl_M_43 rfl hs0_ hu208 ?_
          refine ax_bipush (v := 20) (q := 387) hX dc_M_crop_385 rfl (by decide) ?_
          refine ax_aload_n (q := 388) hX dc_M_crop_387 rfl rfl rfl ?_
          refine ax_getI (q := 391) hX dc_M_crop_388 rfl fl_M_71 rfl hs0_ ?_
          refine ax_imul (q := 392) hX dc_M_crop_391 rfl ?_
          refine ax_iload (q := 394) hX dc_M_crop_392 rfl rfl ?_
          refine ax_iadd (q := 395) hX dc_M_crop_394 rfl ?_
          refine ax_dup2 (q := 396) hX dc_M_crop_395 rfl rfl rfl ?_
          obtain ⟨j211, hj212, h⟩ := ax_bd h
          have hj212 := ax_ix_s hty hs209 hj212
          refine ax_iald (q := 397) hX j211 dc_M_crop_396 rfl hs209 hj212.1 hj212.2.1 hj212.2.2 ?_
          refine ax_iload_n (q := 398) hX dc_M_crop_397 rfl rfl rfl ?_
          refine ax_isub (q := 399) hX dc_M_crop_398 rfl ?_
          obtain ⟨j213, hj214, h⟩ := ax_bd h
          have hj214 := ax_ix_s hty hs209 hj214
          obtain ⟨I215, e216, h⟩ := ax_bs h
          refine ax_iast (q := 400) hX j213 dc_M_crop_399 rfl hs209 hj214.1 hj214.2.1 hj214.2.2 e216 ?_
          refine ax_aload_n (q := 401) hX dc_M_crop_400 rfl rfl rfl ?_
          obtain ⟨u217, hu218, h⟩ := ax_bd h
          obtain ⟨n220, hs219⟩ : ∃ n, S u217 = some (.inr (0, n)) := hty.1 _ _ _ _ hs0_ hu218
          refine ax_getR (q := 404) hX dc_M_crop_401 rfl fl_M_46 rfl hs0_ hu218 ?_
          refine ax_bipush (v := 20) (q := 406) hX dc_M_crop_404 rfl (by decide) ?_
          refine ax_aload_n (q := 407) hX dc_M_crop_406 rfl rfl rfl ?_
          refine ax_getI (q := 410) hX dc_M_crop_407 rfl fl_M_71 rfl hs0_ ?_
          refine ax_imul (q := 411) hX dc_M_crop_410 rfl ?_
          refine ax_iload (q := 413) hX dc_M_crop_411 rfl rfl ?_
          refine ax_iadd (q := 414) hX dc_M_crop_413 rfl ?_
          refine ax_dup2 (q := 415) hX dc_M_crop_414 rfl rfl rfl ?_
          obtain ⟨j221, hj222, h⟩ := ax_bd h
          have hj222 := ax_ix_s hty hs219 hj222
          refine ax_iald (q := 416) hX j221 dc_M_crop_415 rfl hs219 hj222.1 hj222.2.1 hj222.2.2 ?_
          refine ax_iload_n (q := 417) hX dc_M_crop_416 rfl rfl rfl ?_
          refine ax_isub (q := 418) hX dc_M_crop_417 rfl ?_
          obtain ⟨j223, hj224, h⟩ := ax_bd h
          have hj224 := ax_ix_s hty hs219 hj224
          obtain ⟨I225, e226, h⟩ := ax_bs h
          refine ax_iast (q := 419) hX j223 dc_M_crop_418 rfl hs219 hj224.1 hj224.2.1 hj224.2.2 e226 ?_
          refine ax_iinc (v := x6 + 1) (ls' := [some (.ref u0), some (.int (x1)), some (.int (x2)), some (.int (x3)), some (.int (x4)), some (.int (x5)), some (.int (x6 + 1)), some (.int (x7))]) (q := 422) hX dc_M_crop_419 rfl rfl rfl (by decide) rfl ?_
          exact (e_M_crop_422 hX hF hS0 (d_M_crop_304 S  n) (ih) I225 R u0 (x1) (x2) (x3) (x4) (x5) (x6 + 1) (x7) hty hs0_ rfl h)
def d_M_crop_275 (S : ax_S) (rec159 : ax_I → ax_R → Nat → Int32 → Int32 → Int32 → Int32 → Int32 → Int32 → Option (Int32 × ax_I)) (I : ax_I) (R : ax_R) (u0 : Nat) (x1 : Int32) (x2 : Int32) (x3 : Int32) (x4 : Int32) (x5 : Int32) (x6 : Int32) : Option (Int32 × ax_I) :=
  rec159 I R u0 (x1) (x2) (x3) (x4) (x5) (x6 + 1)
set_option maxHeartbeats 1000000 in
theorem e_M_crop_275 {l : Launch} {X : ax_X} {S : ax_S} {L : ax_L} {R0 : ax_R} {out : Int32 × ax_I} (hX : ax_ok X l "LossFreeToolsModel" b_M_crop 8 (ax_rm 4 0 0)) (hF : ax_fin X (some .int) 0 0 (ax_of (ax_eq (some (.int out.1)) S out.2 R0 L))) (hS0 : ax_S0 X = S) (rec159 : ax_I → ax_R → Nat → Int32 → Int32 → Int32 → Int32 → Int32 → Int32 → Option (Int32 × ax_I)) (hrec159 : ∀ (I : ax_I) (R : ax_R) (u0 : Nat) (x1 : Int32) (x2 : Int32) (x3 : Int32) (x4 : Int32) (x5 : Int32) (x6 : Int32), ax_typ S R → (S u0 = some (.inl 5)) → R = R0 → rec159 I R u0 x1 x2 x3 x4 x5 x6 = some out → ax_W X 8 159 [some (.ref u0), some (.int (x1)), some (.int (x2)), some (.int (x3)), some (.int (x4)), some (.int (x5)), some (.int (x6)), none] [] S I R L 0 0) : ∀ (I : ax_I) (R : ax_R) (u0 : Nat) (x1 : Int32) (x2 : Int32) (x3 : Int32) (x4 : Int32) (x5 : Int32) (x6 : Int32), ax_typ S R → (S u0 = some (.inl 5)) → R = R0 → d_M_crop_275 S rec159 I R u0 x1 x2 x3 x4 x5 x6 = some out → ax_W X 8 275 [some (.ref u0), some (.int (x1)), some (.int (x2)), some (.int (x3)), some (.int (x4)), some (.int (x5)), some (.int (x6)), none] [] S I R L 0 0 := by
  rintro I R u0 x1 x2 x3 x4 x5 x6 hty hs0_ hR0 h
  subst hR0
  unfold d_M_crop_275 at h
  refine ax_iinc (v := x6 + 1) (ls' := [some (.ref u0), some (.int (x1)), some (.int (x2)), some (.int (x3)), some (.int (x4)), some (.int (x5)), some (.int (x6 + 1)), none]) (q := 278) hX dc_M_crop_275 rfl rfl rfl (by decide) rfl ?_
  refine ax_goto (tgt := 159) hX dc_M_crop_278 (by decide) ?_
  exact (hrec159 I R u0 (x1) (x2) (x3) (x4) (x5) (x6 + 1) hty hs0_ rfl h)
def d_M_crop_159 (S : ax_S) : Nat → ax_I → ax_R → Nat → Int32 → Int32 → Int32 → Int32 → Int32 → Int32 → Option (Int32 × ax_I)
  | 0, _, _, _, _, _, _, _, _, _ => none
  | n + 1, I, R, u0, x1, x2, x3, x4, x5, x6 =>
    (R u0 6).bind fun u75 =>
    (ax_ix S u75 (I u0 3)).bind fun j79 =>
    if (I u75 j79) ≤ x6 then
      (R u0 6).bind fun u82 =>
      (ax_ix S u82 (I u0 3)).bind fun j86 =>
      (some (ax_up I u82 j86 (x5))).bind fun I88 =>
      d_M_crop_304 S  5000 I88 R u0 (x1) (x2) (x3) (x4) (x5) (0) (20 * (I88 u0 3))
    else
      (d_M_tileAt S I R u0 (x6)).bind fun r92 =>
      (R u0 8).bind fun u93 =>
      (ax_ix S u93 (r92)).bind fun j97 =>
      if (I u93 j97) < x1 then
        d_M_crop_275 S (d_M_crop_159 S  n) I R u0 (x1) (x2) (x3) (x4) (x5) (x6)
      else
        (R u0 8).bind fun u100 =>
        (ax_ix S u100 (r92)).bind fun j104 =>
        if (x1 + x3) ≤ (I u100 j104) then
          d_M_crop_275 S (d_M_crop_159 S  n) I R u0 (x1) (x2) (x3) (x4) (x5) (x6)
        else
          (R u0 9).bind fun u107 =>
          (ax_ix S u107 (r92)).bind fun j111 =>
          if (I u107 j111) < x2 then
            d_M_crop_275 S (d_M_crop_159 S  n) I R u0 (x1) (x2) (x3) (x4) (x5) (x6)
          else
            (R u0 9).bind fun u114 =>
            (ax_ix S u114 (r92)).bind fun j118 =>
            if (x2 + x4) ≤ (I u114 j118) then
              d_M_crop_275 S (d_M_crop_159 S  n) I R u0 (x1) (x2) (x3) (x4) (x5) (x6)
            else
              (d_M_tileAt S I R u0 (x5)).bind fun r123 =>
              (d_M_move S I R u0 (r92) (r123)).bind fun I126 =>
              (R u0 8).bind fun u127 =>
              (d_M_tileAt S I126 R u0 (x5)).bind fun r133 =>
              (ax_ix S u127 (r133)).bind fun j134 =>
              (ax_ix S u127 (r133)).bind fun j136 =>
              (some (ax_up I126 u127 j136 ((I126 u127 j134) - x1))).bind fun I138 =>
              (R u0 9).bind fun u140 =>
              (d_M_tileAt S I138 R u0 (x5)).bind fun r146 =>
              (ax_ix S u140 (r146)).bind fun j147 =>
              (ax_ix S u140 (r146)).bind fun j149 =>
              (some (ax_up I138 u140 j149 ((I138 u140 j147) - x2))).bind fun I151 =>
              d_M_crop_275 S (d_M_crop_159 S  n) I151 R u0 (x1) (x2) (x3) (x4) (x5 + 1) (x6)
set_option maxHeartbeats 1000000 in
theorem e_M_crop_159 {l : Launch} {X : ax_X} {S : ax_S} {L : ax_L} {R0 : ax_R} {out : Int32 × ax_I} (hX : ax_ok X l "LossFreeToolsModel" b_M_crop 8 (ax_rm 4 0 0)) (hF : ax_fin X (some .int) 0 0 (ax_of (ax_eq (some (.int out.1)) S out.2 R0 L))) (hS0 : ax_S0 X = S) : ∀ (n : Nat), ∀ (I : ax_I) (R : ax_R) (u0 : Nat) (x1 : Int32) (x2 : Int32) (x3 : Int32) (x4 : Int32) (x5 : Int32) (x6 : Int32), ax_typ S R → (S u0 = some (.inl 5)) → R = R0 → d_M_crop_159 S  n I R u0 x1 x2 x3 x4 x5 x6 = some out → ax_W X 8 159 [some (.ref u0), some (.int (x1)), some (.int (x2)), some (.int (x3)), some (.int (x4)), some (.int (x5)), some (.int (x6)), none] [] S I R L 0 0 := by
  intro n
  induction n with
  | zero =>
    rintro I R u0 x1 x2 x3 x4 x5 x6 hty hs0_ hR0 h
    cases h
  | succ n ih =>
    rintro I R u0 x1 x2 x3 x4 x5 x6 hty hs0_ hR0 h
    subst hR0
    unfold d_M_crop_159 at h
    refine ax_iload (q := 161) hX dc_M_crop_159 rfl rfl ?_
    refine ax_aload_n (q := 162) hX dc_M_crop_161 rfl rfl rfl ?_
    obtain ⟨u75, hu76, h⟩ := ax_bd h
    obtain ⟨n78, hs77⟩ : ∃ n, S u75 = some (.inr (0, n)) := hty.1 _ _ _ _ hs0_ hu76
    refine ax_getR (q := 165) hX dc_M_crop_162 rfl fl_M_16 rfl hs0_ hu76 ?_
    refine ax_aload_n (q := 166) hX dc_M_crop_165 rfl rfl rfl ?_
    refine ax_getI (q := 169) hX dc_M_crop_166 rfl fl_M_71 rfl hs0_ ?_
    obtain ⟨j79, hj80, h⟩ := ax_bd h
    have hj80 := ax_ix_s hty hs77 hj80
    refine ax_iald (q := 170) hX j79 dc_M_crop_169 rfl hs77 hj80.1 hj80.2.1 hj80.2.2 ?_
    refine ax_icmp_ge (tgt := 281) (q := 173) hX dc_M_crop_170 rfl (by decide) (fun z81 => ?_) (fun z81 => ?_)
    · rw [if_pos z81] at h
      refine ax_aload_n (q := 282) hX dc_M_crop_281 rfl rfl rfl ?_
      obtain ⟨u82, hu83, h⟩ := ax_bd h
      obtain ⟨n85, hs84⟩ : ∃ n, S u82 = some (.inr (0, n)) := hty.1 _ _ _ _ hs0_ hu83
      refine ax_getR (q := 285) hX dc_M_crop_282 rfl fl_M_16 rfl hs0_ hu83 ?_
      refine ax_aload_n (q := 286) hX dc_M_crop_285 rfl rfl rfl ?_
      refine ax_getI (q := 289) hX dc_M_crop_286 rfl fl_M_71 rfl hs0_ ?_
      refine ax_iload (q := 291) hX dc_M_crop_289 rfl rfl ?_
      obtain ⟨j86, hj87, h⟩ := ax_bd h
      have hj87 := ax_ix_s hty hs84 hj87
      obtain ⟨I88, e89, h⟩ := ax_bs h
      refine ax_iast (q := 292) hX j86 dc_M_crop_291 rfl hs84 hj87.1 hj87.2.1 hj87.2.2 e89 ?_
      refine ax_iconst (v := 0) (q := 293) hX dc_M_crop_292 rfl (by decide) ?_
      refine ax_istore (ls' := [some (.ref u0), some (.int (x1)), some (.int (x2)), some (.int (x3)), some (.int (x4)), some (.int (x5)), some (.int (0)), none]) (q := 295) hX dc_M_crop_293 rfl (by decide) rfl ?_
      refine ax_bipush (v := 20) (q := 297) hX dc_M_crop_295 rfl (by decide) ?_
      refine ax_aload_n (q := 298) hX dc_M_crop_297 rfl rfl rfl ?_
      refine ax_getI (q := 301) hX dc_M_crop_298 rfl fl_M_71 rfl hs0_ ?_
      refine ax_imul (q := 302) hX dc_M_crop_301 rfl ?_
      refine ax_istore (ls' := [some (.ref u0), some (.int (x1)), some (.int (x2)), some (.int (x3)), some (.int (x4)), some (.int (x5)), some (.int (0)), some (.int (20 * (I88 u0 3)))]) (q := 304) hX dc_M_crop_302 rfl (by decide) rfl ?_
      exact (e_M_crop_304 hX hF hS0  5000 I88 R u0 (x1) (x2) (x3) (x4) (x5) (0) (20 * (I88 u0 3)) hty hs0_ rfl h)
    · rw [if_neg z81] at h
      refine ax_aload_n (q := 174) hX dc_M_crop_173 rfl rfl rfl ?_
      refine ax_iload (q := 176) hX dc_M_crop_174 rfl rfl ?_
      obtain ⟨r92, hr90, h⟩ := ax_bd h
      refine ax_kV (vs := [.int (x6)]) (rest := []) (q := 179) hX dc_M_crop_176 rfl mt_M_tileAt wl_M_92 wi_M_tileAt ws_M_tileAt hs0_ rfl (c_M_tileAt l hty hs0_ hr90) rfl (by decide) rfl (Nat.le_of_ble_eq_true rfl) rfl rfl (by decide) (by decide) rfl ?_
      refine ax_istore (ls' := [some (.ref u0), some (.int (x1)), some (.int (x2)), some (.int (x3)), some (.int (x4)), some (.int (x5)), some (.int (x6)), some (.int (r92))]) (q := 181) hX dc_M_crop_179 rfl (by decide) rfl ?_
      refine ax_aload_n (q := 182) hX dc_M_crop_181 rfl rfl rfl ?_
      obtain ⟨u93, hu94, h⟩ := ax_bd h
      obtain ⟨n96, hs95⟩ : ∃ n, S u93 = some (.inr (0, n)) := hty.1 _ _ _ _ hs0_ hu94
      refine ax_getR (q := 185) hX dc_M_crop_182 rfl fl_M_22 rfl hs0_ hu94 ?_
      refine ax_iload (q := 187) hX dc_M_crop_185 rfl rfl ?_
      obtain ⟨j97, hj98, h⟩ := ax_bd h
      have hj98 := ax_ix_s hty hs95 hj98
      refine ax_iald (q := 188) hX j97 dc_M_crop_187 rfl hs95 hj98.1 hj98.2.1 hj98.2.2 ?_
      refine ax_iload_n (q := 189) hX dc_M_crop_188 rfl rfl rfl ?_
      refine ax_icmp_lt (tgt := 275) (q := 192) hX dc_M_crop_189 rfl (by decide) (fun z99 => ?_) (fun z99 => ?_)
      · rw [if_pos z99] at h
        exact ax_weak (ls' := [some (.ref u0), some (.int (x1)), some (.int (x2)), some (.int (x3)), some (.int (x4)), some (.int (x5)), some (.int (x6)), none]) (ax_fewP_s _ _ (by repeat (first | exact trivial | (refine And.intro rfl ?_)))) (e_M_crop_275 hX hF hS0 (d_M_crop_159 S  n) (ih) I R u0 (x1) (x2) (x3) (x4) (x5) (x6) hty hs0_ rfl h)
      · rw [if_neg z99] at h
        refine ax_aload_n (q := 193) hX dc_M_crop_192 rfl rfl rfl ?_
        obtain ⟨u100, hu101, h⟩ := ax_bd h
        obtain ⟨n103, hs102⟩ : ∃ n, S u100 = some (.inr (0, n)) := hty.1 _ _ _ _ hs0_ hu101
        refine ax_getR (q := 196) hX dc_M_crop_193 rfl fl_M_22 rfl hs0_ hu101 ?_
        refine ax_iload (q := 198) hX dc_M_crop_196 rfl rfl ?_
        obtain ⟨j104, hj105, h⟩ := ax_bd h
        have hj105 := ax_ix_s hty hs102 hj105
        refine ax_iald (q := 199) hX j104 dc_M_crop_198 rfl hs102 hj105.1 hj105.2.1 hj105.2.2 ?_
        refine ax_iload_n (q := 200) hX dc_M_crop_199 rfl rfl rfl ?_
        refine ax_iload_n (q := 201) hX dc_M_crop_200 rfl rfl rfl ?_
        refine ax_iadd (q := 202) hX dc_M_crop_201 rfl ?_
        refine ax_icmp_ge (tgt := 275) (q := 205) hX dc_M_crop_202 rfl (by decide) (fun z106 => ?_) (fun z106 => ?_)
        · rw [if_pos z106] at h
          exact ax_weak (ls' := [some (.ref u0), some (.int (x1)), some (.int (x2)), some (.int (x3)), some (.int (x4)), some (.int (x5)), some (.int (x6)), none]) (ax_fewP_s _ _ (by repeat (first | exact trivial | (refine And.intro rfl ?_)))) (e_M_crop_275 hX hF hS0 (d_M_crop_159 S  n) (ih) I R u0 (x1) (x2) (x3) (x4) (x5) (x6) hty hs0_ rfl h)
        · rw [if_neg z106] at h
          refine ax_aload_n (q := 206) hX dc_M_crop_205 rfl rfl rfl ?_
          obtain ⟨u107, hu108, h⟩ := ax_bd h
          obtain ⟨n110, hs109⟩ : ∃ n, S u107 = some (.inr (0, n)) := hty.1 _ _ _ _ hs0_ hu108
          refine ax_getR (q := 209) hX dc_M_crop_206 rfl fl_M_25 rfl hs0_ hu108 ?_
          refine ax_iload (q := 211) hX dc_M_crop_209 rfl rfl ?_
          obtain ⟨j111, hj112, h⟩ := ax_bd h
          have hj112 := ax_ix_s hty hs109 hj112
          refine ax_iald (q := 212) hX j111 dc_M_crop_211 rfl hs109 hj112.1 hj112.2.1 hj112.2.2 ?_
          refine ax_iload_n (q := 213) hX dc_M_crop_212 rfl rfl rfl ?_
          refine ax_icmp_lt (tgt := 275) (q := 216) hX dc_M_crop_213 rfl (by decide) (fun z113 => ?_) (fun z113 => ?_)
          · rw [if_pos z113] at h
            exact ax_weak (ls' := [some (.ref u0), some (.int (x1)), some (.int (x2)), some (.int (x3)), some (.int (x4)), some (.int (x5)), some (.int (x6)), none]) (ax_fewP_s _ _ (by repeat (first | exact trivial | (refine And.intro rfl ?_)))) (e_M_crop_275 hX hF hS0 (d_M_crop_159 S  n) (ih) I R u0 (x1) (x2) (x3) (x4) (x5) (x6) hty hs0_ rfl h)
          · rw [if_neg z113] at h
            refine ax_aload_n (q := 217) hX dc_M_crop_216 rfl rfl rfl ?_
            obtain ⟨u114, hu115, h⟩ := ax_bd h
            obtain ⟨n117, hs116⟩ : ∃ n, S u114 = some (.inr (0, n)) := hty.1 _ _ _ _ hs0_ hu115
            refine ax_getR (q := 220) hX dc_M_crop_217 rfl fl_M_25 rfl hs0_ hu115 ?_
            refine ax_iload (q := 222) hX dc_M_crop_220 rfl rfl ?_
            obtain ⟨j118, hj119, h⟩ := ax_bd h
            have hj119 := ax_ix_s hty hs116 hj119
            refine ax_iald (q := 223) hX j118 dc_M_crop_222 rfl hs116 hj119.1 hj119.2.1 hj119.2.2 ?_
            refine ax_iload_n (q := 224) hX dc_M_crop_223 rfl rfl rfl ?_
            refine ax_iload (q := 226) hX dc_M_crop_224 rfl rfl ?_
            refine ax_iadd (q := 227) hX dc_M_crop_226 rfl ?_
            refine ax_icmp_ge (tgt := 275) (q := 230) hX dc_M_crop_227 rfl (by decide) (fun z120 => ?_) (fun z120 => ?_)
            · rw [if_pos z120] at h
              exact ax_weak (ls' := [some (.ref u0), some (.int (x1)), some (.int (x2)), some (.int (x3)), some (.int (x4)), some (.int (x5)), some (.int (x6)), none]) (ax_fewP_s _ _ (by repeat (first | exact trivial | (refine And.intro rfl ?_)))) (e_M_crop_275 hX hF hS0 (d_M_crop_159 S  n) (ih) I R u0 (x1) (x2) (x3) (x4) (x5) (x6) hty hs0_ rfl h)
            · rw [if_neg z120] at h
              refine ax_aload_n (q := 231) hX dc_M_crop_230 rfl rfl rfl ?_
              refine ax_iload (q := 233) hX dc_M_crop_231 rfl rfl ?_
              refine ax_aload_n (q := 234) hX dc_M_crop_233 rfl rfl rfl ?_
              refine ax_iload (q := 236) hX dc_M_crop_234 rfl rfl ?_
              obtain ⟨r123, hr121, h⟩ := ax_bd h
              refine ax_kV (vs := [.int (x5)]) (rest := [.int (r92), .ref u0]) (q := 239) hX dc_M_crop_236 rfl mt_M_tileAt wl_M_92 wi_M_tileAt ws_M_tileAt hs0_ rfl (c_M_tileAt l hty hs0_ hr121) rfl (by decide) rfl (Nat.le_of_ble_eq_true rfl) rfl rfl (by decide) (by decide) rfl ?_
              obtain ⟨I126, hr124, h⟩ := ax_bd h
              refine ax_kV (vs := [.int (r92), .int (r123)]) (rest := []) (q := 242) hX dc_M_crop_239 rfl mt_M_move wl_M_112 wi_M_move ws_M_move hs0_ rfl (c_M_move l hty hs0_ hr124) rfl (by decide) rfl (Nat.le_of_ble_eq_true rfl) rfl rfl (by decide) (by decide) rfl ?_
              refine ax_aload_n (q := 243) hX dc_M_crop_242 rfl rfl rfl ?_
              obtain ⟨u127, hu128, h⟩ := ax_bd h
              obtain ⟨n130, hs129⟩ : ∃ n, S u127 = some (.inr (0, n)) := hty.1 _ _ _ _ hs0_ hu128
              refine ax_getR (q := 246) hX dc_M_crop_243 rfl fl_M_22 rfl hs0_ hu128 ?_
              refine ax_aload_n (q := 247) hX dc_M_crop_246 rfl rfl rfl ?_
              refine ax_iload (q := 249) hX dc_M_crop_247 rfl rfl ?_
              obtain ⟨r133, hr131, h⟩ := ax_bd h
              refine ax_kV (vs := [.int (x5)]) (rest := [.ref u127]) (q := 252) hX dc_M_crop_249 rfl mt_M_tileAt wl_M_92 wi_M_tileAt ws_M_tileAt hs0_ rfl (c_M_tileAt l hty hs0_ hr131) rfl (by decide) rfl (Nat.le_of_ble_eq_true rfl) rfl rfl (by decide) (by decide) rfl ?_
              refine ax_dup2 (q := 253) hX dc_M_crop_252 rfl rfl rfl ?_
              obtain ⟨j134, hj135, h⟩ := ax_bd h
              have hj135 := ax_ix_s hty hs129 hj135
              refine ax_iald (q := 254) hX j134 dc_M_crop_253 rfl hs129 hj135.1 hj135.2.1 hj135.2.2 ?_
              refine ax_iload_n (q := 255) hX dc_M_crop_254 rfl rfl rfl ?_
              refine ax_isub (q := 256) hX dc_M_crop_255 rfl ?_
              obtain ⟨j136, hj137, h⟩ := ax_bd h
              have hj137 := ax_ix_s hty hs129 hj137
              obtain ⟨I138, e139, h⟩ := ax_bs h
              refine ax_iast (q := 257) hX j136 dc_M_crop_256 rfl hs129 hj137.1 hj137.2.1 hj137.2.2 e139 ?_
              refine ax_aload_n (q := 258) hX dc_M_crop_257 rfl rfl rfl ?_
              obtain ⟨u140, hu141, h⟩ := ax_bd h
              obtain ⟨n143, hs142⟩ : ∃ n, S u140 = some (.inr (0, n)) := hty.1 _ _ _ _ hs0_ hu141
              refine ax_getR (q := 261) hX dc_M_crop_258 rfl fl_M_25 rfl hs0_ hu141 ?_
              refine ax_aload_n (q := 262) hX dc_M_crop_261 rfl rfl rfl ?_
              refine ax_iload (q := 264) hX dc_M_crop_262 rfl rfl ?_
              obtain ⟨r146, hr144, h⟩ := ax_bd h
              refine ax_kV (vs := [.int (x5)]) (rest := [.ref u140]) (q := 267) hX dc_M_crop_264 rfl mt_M_tileAt wl_M_92 wi_M_tileAt ws_M_tileAt hs0_ rfl (c_M_tileAt l hty hs0_ hr144) rfl (by decide) rfl (Nat.le_of_ble_eq_true rfl) rfl rfl (by decide) (by decide) rfl ?_
              refine ax_dup2 (q := 268) hX dc_M_crop_267 rfl rfl rfl ?_
              obtain ⟨j147, hj148, h⟩ := ax_bd h
              have hj148 := ax_ix_s hty hs142 hj148
              refine ax_iald (q := 269) hX j147 dc_M_crop_268 rfl hs142 hj148.1 hj148.2.1 hj148.2.2 ?_
              refine ax_iload_n (q := 270) hX dc_M_crop_269 rfl rfl rfl ?_
              refine ax_isub (q := 271) hX dc_M_crop_270 rfl ?_
              obtain ⟨j149, hj150, h⟩ := ax_bd h
              have hj150 := ax_ix_s hty hs142 hj150
              obtain ⟨I151, e152, h⟩ := ax_bs h
              refine ax_iast (q := 272) hX j149 dc_M_crop_271 rfl hs142 hj150.1 hj150.2.1 hj150.2.2 e152 ?_
              refine ax_iinc (v := x5 + 1) (ls' := [some (.ref u0), some (.int (x1)), some (.int (x2)), some (.int (x3)), some (.int (x4)), some (.int (x5 + 1)), some (.int (x6)), some (.int (r92))]) (q := 275) hX dc_M_crop_272 rfl rfl rfl (by decide) rfl ?_
              exact ax_weak (ls' := [some (.ref u0), some (.int (x1)), some (.int (x2)), some (.int (x3)), some (.int (x4)), some (.int (x5 + 1)), some (.int (x6)), none]) (ax_fewP_s _ _ (by repeat (first | exact trivial | (refine And.intro rfl ?_)))) (e_M_crop_275 hX hF hS0 (d_M_crop_159 S  n) (ih) I151 R u0 (x1) (x2) (x3) (x4) (x5 + 1) (x6) hty hs0_ rfl h)
def d_M_crop_88 (S : ax_S) (I : ax_I) (R : ax_R) (u0 : Nat) (x1 : Int32) (x2 : Int32) (x3 : Int32) (x4 : Int32) (y0 : Int32) (w1 : Nat) : Option (Int32 × ax_I) :=
  (ax_bo (y0)).bind fun b26 =>
  (some (ax_up I w1 19 (ax_b b26))).bind fun I28 =>
  if (I28 u0 19) = 0 then
    d_M_crop_159 S  5000 I28 R u0 (x1) (x2) (x3) (x4) (0) (0)
  else
    (R u0 20).bind fun u31 =>
    (d_M_nearest S I28 R u0 (1) (x1)).bind fun r37 =>
    (ax_ix S u31 (0)).bind fun j38 =>
    (some (ax_up I28 u31 j38 (r37))).bind fun I40 =>
    (R u0 20).bind fun u42 =>
    (d_M_nearest S I40 R u0 (0) (x2)).bind fun r48 =>
    (ax_ix S u42 (1)).bind fun j49 =>
    (some (ax_up I40 u42 j49 (r48))).bind fun I51 =>
    (R u0 20).bind fun u53 =>
    (d_M_nearest S I51 R u0 (1) (x1 + x3)).bind fun r59 =>
    (ax_ix S u53 (2)).bind fun j60 =>
    (some (ax_up I51 u53 j60 (r59))).bind fun I62 =>
    (R u0 20).bind fun u64 =>
    (d_M_nearest S I62 R u0 (0) (x2 + x4)).bind fun r70 =>
    (ax_ix S u64 (3)).bind fun j71 =>
    (some (ax_up I62 u64 j71 (r70))).bind fun I73 =>
    some ((-1), I73)
set_option maxHeartbeats 1000000 in
theorem e_M_crop_88 {l : Launch} {X : ax_X} {S : ax_S} {L : ax_L} {R0 : ax_R} {out : Int32 × ax_I} (hX : ax_ok X l "LossFreeToolsModel" b_M_crop 8 (ax_rm 4 0 0)) (hF : ax_fin X (some .int) 0 0 (ax_of (ax_eq (some (.int out.1)) S out.2 R0 L))) (hS0 : ax_S0 X = S) : ∀ (I : ax_I) (R : ax_R) (u0 : Nat) (x1 : Int32) (x2 : Int32) (x3 : Int32) (x4 : Int32) (y0 : Int32) (w1 : Nat), ax_typ S R → (S u0 = some (.inl 5)) → (S w1 = some (.inl 5)) → R = R0 → d_M_crop_88 S  I R u0 x1 x2 x3 x4 y0 w1 = some out → ax_W X 8 88 [some (.ref u0), some (.int (x1)), some (.int (x2)), some (.int (x3)), some (.int (x4)), none, none, none] [.int (y0), .ref w1] S I R L 0 0 := by
  rintro I R u0 x1 x2 x3 x4 y0 w1 hty hs0_ hw1_ hR0 h
  subst hR0
  unfold d_M_crop_88 at h
  obtain ⟨b26, hb27, h⟩ := ax_bd h
  rw [ax_bo_s hb27]
  obtain ⟨I28, e29, h⟩ := ax_bs h
  refine ax_putI (q := 91) hX dc_M_crop_88 rfl fl_M_77 rfl hw1_ (fun z => by cases z) (ax_b_n _) (ax_b_f _) e29 ?_
  refine ax_aload_n (q := 92) hX dc_M_crop_91 rfl rfl rfl ?_
  refine ax_getI (q := 95) hX dc_M_crop_92 rfl fl_M_77 rfl hs0_ ?_
  refine ax_if_eq (tgt := 153) (q := 98) hX dc_M_crop_95 rfl (by decide) (fun z30 => ?_) (fun z30 => ?_)
  · rw [if_pos z30] at h
    refine ax_iconst (v := 0) (q := 154) hX dc_M_crop_153 rfl (by decide) ?_
    refine ax_istore (ls' := [some (.ref u0), some (.int (x1)), some (.int (x2)), some (.int (x3)), some (.int (x4)), some (.int (0)), none, none]) (q := 156) hX dc_M_crop_154 rfl (by decide) rfl ?_
    refine ax_iconst (v := 0) (q := 157) hX dc_M_crop_156 rfl (by decide) ?_
    refine ax_istore (ls' := [some (.ref u0), some (.int (x1)), some (.int (x2)), some (.int (x3)), some (.int (x4)), some (.int (0)), some (.int (0)), none]) (q := 159) hX dc_M_crop_157 rfl (by decide) rfl ?_
    exact (e_M_crop_159 hX hF hS0  5000 I28 R u0 (x1) (x2) (x3) (x4) (0) (0) hty hs0_ rfl h)
  · rw [if_neg z30] at h
    refine ax_aload_n (q := 99) hX dc_M_crop_98 rfl rfl rfl ?_
    obtain ⟨u31, hu32, h⟩ := ax_bd h
    obtain ⟨n34, hs33⟩ : ∃ n, S u31 = some (.inr (0, n)) := hty.1 _ _ _ _ hs0_ hu32
    refine ax_getR (q := 102) hX dc_M_crop_99 rfl fl_M_52 rfl hs0_ hu32 ?_
    refine ax_iconst (v := 0) (q := 103) hX dc_M_crop_102 rfl (by decide) ?_
    refine ax_aload_n (q := 104) hX dc_M_crop_103 rfl rfl rfl ?_
    refine ax_iconst (v := 1) (q := 105) hX dc_M_crop_104 rfl (by decide) ?_
    refine ax_iload_n (q := 106) hX dc_M_crop_105 rfl rfl rfl ?_
    obtain ⟨r37, hr35, h⟩ := ax_bd h
    refine ax_kV (vs := [.int (1), .int (x1)]) (rest := [.int (0), .ref u31]) (q := 109) hX dc_M_crop_106 rfl mt_M_nearest wl_M_108 wi_M_nearest ws_M_nearest hs0_ rfl (c_M_nearest l hty hs0_ hr35) rfl (by decide) rfl (Nat.le_of_ble_eq_true rfl) rfl rfl (by decide) (by decide) rfl ?_
    obtain ⟨j38, hj39, h⟩ := ax_bd h
    have hj39 := ax_ix_s hty hs33 hj39
    obtain ⟨I40, e41, h⟩ := ax_bs h
    refine ax_iast (q := 110) hX j38 dc_M_crop_109 rfl hs33 hj39.1 hj39.2.1 hj39.2.2 e41 ?_
    refine ax_aload_n (q := 111) hX dc_M_crop_110 rfl rfl rfl ?_
    obtain ⟨u42, hu43, h⟩ := ax_bd h
    obtain ⟨n45, hs44⟩ : ∃ n, S u42 = some (.inr (0, n)) := hty.1 _ _ _ _ hs0_ hu43
    refine ax_getR (q := 114) hX dc_M_crop_111 rfl fl_M_52 rfl hs0_ hu43 ?_
    refine ax_iconst (v := 1) (q := 115) hX dc_M_crop_114 rfl (by decide) ?_
    refine ax_aload_n (q := 116) hX dc_M_crop_115 rfl rfl rfl ?_
    refine ax_iconst (v := 0) (q := 117) hX dc_M_crop_116 rfl (by decide) ?_
    refine ax_iload_n (q := 118) hX dc_M_crop_117 rfl rfl rfl ?_
    obtain ⟨r48, hr46, h⟩ := ax_bd h
    refine ax_kV (vs := [.int (0), .int (x2)]) (rest := [.int (1), .ref u42]) (q := 121) hX dc_M_crop_118 rfl mt_M_nearest wl_M_108 wi_M_nearest ws_M_nearest hs0_ rfl (c_M_nearest l hty hs0_ hr46) rfl (by decide) rfl (Nat.le_of_ble_eq_true rfl) rfl rfl (by decide) (by decide) rfl ?_
    obtain ⟨j49, hj50, h⟩ := ax_bd h
    have hj50 := ax_ix_s hty hs44 hj50
    obtain ⟨I51, e52, h⟩ := ax_bs h
    refine ax_iast (q := 122) hX j49 dc_M_crop_121 rfl hs44 hj50.1 hj50.2.1 hj50.2.2 e52 ?_
    refine ax_aload_n (q := 123) hX dc_M_crop_122 rfl rfl rfl ?_
    obtain ⟨u53, hu54, h⟩ := ax_bd h
    obtain ⟨n56, hs55⟩ : ∃ n, S u53 = some (.inr (0, n)) := hty.1 _ _ _ _ hs0_ hu54
    refine ax_getR (q := 126) hX dc_M_crop_123 rfl fl_M_52 rfl hs0_ hu54 ?_
    refine ax_iconst (v := 2) (q := 127) hX dc_M_crop_126 rfl (by decide) ?_
    refine ax_aload_n (q := 128) hX dc_M_crop_127 rfl rfl rfl ?_
    refine ax_iconst (v := 1) (q := 129) hX dc_M_crop_128 rfl (by decide) ?_
    refine ax_iload_n (q := 130) hX dc_M_crop_129 rfl rfl rfl ?_
    refine ax_iload_n (q := 131) hX dc_M_crop_130 rfl rfl rfl ?_
    refine ax_iadd (q := 132) hX dc_M_crop_131 rfl ?_
    obtain ⟨r59, hr57, h⟩ := ax_bd h
    refine ax_kV (vs := [.int (1), .int (x1 + x3)]) (rest := [.int (2), .ref u53]) (q := 135) hX dc_M_crop_132 rfl mt_M_nearest wl_M_108 wi_M_nearest ws_M_nearest hs0_ rfl (c_M_nearest l hty hs0_ hr57) rfl (by decide) rfl (Nat.le_of_ble_eq_true rfl) rfl rfl (by decide) (by decide) rfl ?_
    obtain ⟨j60, hj61, h⟩ := ax_bd h
    have hj61 := ax_ix_s hty hs55 hj61
    obtain ⟨I62, e63, h⟩ := ax_bs h
    refine ax_iast (q := 136) hX j60 dc_M_crop_135 rfl hs55 hj61.1 hj61.2.1 hj61.2.2 e63 ?_
    refine ax_aload_n (q := 137) hX dc_M_crop_136 rfl rfl rfl ?_
    obtain ⟨u64, hu65, h⟩ := ax_bd h
    obtain ⟨n67, hs66⟩ : ∃ n, S u64 = some (.inr (0, n)) := hty.1 _ _ _ _ hs0_ hu65
    refine ax_getR (q := 140) hX dc_M_crop_137 rfl fl_M_52 rfl hs0_ hu65 ?_
    refine ax_iconst (v := 3) (q := 141) hX dc_M_crop_140 rfl (by decide) ?_
    refine ax_aload_n (q := 142) hX dc_M_crop_141 rfl rfl rfl ?_
    refine ax_iconst (v := 0) (q := 143) hX dc_M_crop_142 rfl (by decide) ?_
    refine ax_iload_n (q := 144) hX dc_M_crop_143 rfl rfl rfl ?_
    refine ax_iload (q := 146) hX dc_M_crop_144 rfl rfl ?_
    refine ax_iadd (q := 147) hX dc_M_crop_146 rfl ?_
    obtain ⟨r70, hr68, h⟩ := ax_bd h
    refine ax_kV (vs := [.int (0), .int (x2 + x4)]) (rest := [.int (3), .ref u64]) (q := 150) hX dc_M_crop_147 rfl mt_M_nearest wl_M_108 wi_M_nearest ws_M_nearest hs0_ rfl (c_M_nearest l hty hs0_ hr68) rfl (by decide) rfl (Nat.le_of_ble_eq_true rfl) rfl rfl (by decide) (by decide) rfl ?_
    obtain ⟨j71, hj72, h⟩ := ax_bd h
    have hj72 := ax_ix_s hty hs66 hj72
    obtain ⟨I73, e74, h⟩ := ax_bs h
    refine ax_iast (q := 151) hX j71 dc_M_crop_150 rfl hs66 hj72.1 hj72.2.1 hj72.2.2 e74 ?_
    refine ax_iconst (v := (-1)) (q := 152) hX dc_M_crop_151 rfl (by decide) ?_
    cases h
    exact ax_iret hX hF dc_M_crop_152 rfl rfl (by decide) (by decide) ax_eq.mk (by rw [hS0]; exact fun _ _ z => z)
def d_M_crop_83 (S : ax_S) (I : ax_I) (R : ax_R) (u0 : Nat) (x1 : Int32) (x2 : Int32) (x3 : Int32) (x4 : Int32) (w0 : Nat) : Option (Int32 × ax_I) :=
  d_M_crop_88 S  I R u0 (x1) (x2) (x3) (x4) (1) w0
set_option maxHeartbeats 1000000 in
theorem e_M_crop_83 {l : Launch} {X : ax_X} {S : ax_S} {L : ax_L} {R0 : ax_R} {out : Int32 × ax_I} (hX : ax_ok X l "LossFreeToolsModel" b_M_crop 8 (ax_rm 4 0 0)) (hF : ax_fin X (some .int) 0 0 (ax_of (ax_eq (some (.int out.1)) S out.2 R0 L))) (hS0 : ax_S0 X = S) : ∀ (I : ax_I) (R : ax_R) (u0 : Nat) (x1 : Int32) (x2 : Int32) (x3 : Int32) (x4 : Int32) (w0 : Nat), ax_typ S R → (S u0 = some (.inl 5)) → (S w0 = some (.inl 5)) → R = R0 → d_M_crop_83 S  I R u0 x1 x2 x3 x4 w0 = some out → ax_W X 8 83 [some (.ref u0), some (.int (x1)), some (.int (x2)), some (.int (x3)), some (.int (x4)), none, none, none] [.ref w0] S I R L 0 0 := by
  rintro I R u0 x1 x2 x3 x4 w0 hty hs0_ hw0_ hR0 h
  subst hR0
  unfold d_M_crop_83 at h
  refine ax_iconst (v := 1) (q := 84) hX dc_M_crop_83 rfl (by decide) ?_
  refine ax_goto (tgt := 88) hX dc_M_crop_84 (by decide) ?_
  exact (e_M_crop_88 hX hF hS0  I R u0 (x1) (x2) (x3) (x4) (1) w0 hty hs0_ hw0_ rfl h)
def d_M_crop_29 (S : ax_S) (I : ax_I) (R : ax_R) (u0 : Nat) (x1 : Int32) (x2 : Int32) (x3 : Int32) (x4 : Int32) (y0 : Int32) (w1 : Nat) : Option (Int32 × ax_I) :=
  (some (ax_up I w1 0 (y0))).bind fun I7 =>
  if (I7 u0 0) ≤ 0 then
    (d_M_fits S I7 R u0 (1) (x1)).bind fun r12 =>
    if (ax_b r12) = 0 then
      d_M_crop_83 S  I7 R u0 (x1) (x2) (x3) (x4) u0
    else
      (d_M_fits S I7 R u0 (0) (x2)).bind fun r16 =>
      if (ax_b r16) = 0 then
        d_M_crop_83 S  I7 R u0 (x1) (x2) (x3) (x4) u0
      else
        (d_M_fits S I7 R u0 (1) (x1 + x3)).bind fun r20 =>
        if (ax_b r20) = 0 then
          d_M_crop_83 S  I7 R u0 (x1) (x2) (x3) (x4) u0
        else
          (d_M_fits S I7 R u0 (0) (x2 + x4)).bind fun r24 =>
          if (ax_b r24) = 0 then
            d_M_crop_83 S  I7 R u0 (x1) (x2) (x3) (x4) u0
          else
            d_M_crop_88 S  I7 R u0 (x1) (x2) (x3) (x4) (0) u0
  else
    some (0, I7)
set_option maxHeartbeats 1000000 in
theorem e_M_crop_29 {l : Launch} {X : ax_X} {S : ax_S} {L : ax_L} {R0 : ax_R} {out : Int32 × ax_I} (hX : ax_ok X l "LossFreeToolsModel" b_M_crop 8 (ax_rm 4 0 0)) (hF : ax_fin X (some .int) 0 0 (ax_of (ax_eq (some (.int out.1)) S out.2 R0 L))) (hS0 : ax_S0 X = S) : ∀ (I : ax_I) (R : ax_R) (u0 : Nat) (x1 : Int32) (x2 : Int32) (x3 : Int32) (x4 : Int32) (y0 : Int32) (w1 : Nat), ax_typ S R → (S u0 = some (.inl 5)) → (S w1 = some (.inl 5)) → R = R0 → d_M_crop_29 S  I R u0 x1 x2 x3 x4 y0 w1 = some out → ax_W X 8 29 [some (.ref u0), some (.int (x1)), some (.int (x2)), some (.int (x3)), some (.int (x4)), none, none, none] [.int (y0), .ref w1] S I R L 0 0 := by
  rintro I R u0 x1 x2 x3 x4 y0 w1 hty hs0_ hw1_ hR0 h
  subst hR0
  unfold d_M_crop_29 at h
  obtain ⟨I7, e8, h⟩ := ax_bs h
  refine ax_putI (q := 32) hX dc_M_crop_29 rfl fl_M_68 rfl hw1_ (fun z => by cases z) rfl rfl e8 ?_
  refine ax_aload_n (q := 33) hX dc_M_crop_32 rfl rfl rfl ?_
  refine ax_getI (q := 36) hX dc_M_crop_33 rfl fl_M_68 rfl hs0_ ?_
  refine ax_if_le (tgt := 41) (q := 39) hX dc_M_crop_36 rfl (by decide) (fun z9 => ?_) (fun z9 => ?_)
  · rw [if_pos z9] at h
    refine ax_aload_n (q := 42) hX dc_M_crop_41 rfl rfl rfl ?_
    refine ax_aload_n (q := 43) hX dc_M_crop_42 rfl rfl rfl ?_
    refine ax_iconst (v := 1) (q := 44) hX dc_M_crop_43 rfl (by decide) ?_
    refine ax_iload_n (q := 45) hX dc_M_crop_44 rfl rfl rfl ?_
    obtain ⟨r12, hr10, h⟩ := ax_bd h
    refine ax_kV (vs := [.int (1), .int (x1)]) (rest := [.ref u0]) (q := 48) hX dc_M_crop_45 rfl mt_M_fits wl_M_104 wi_M_fits ws_M_fits hs0_ rfl (c_M_fits l hty hs0_ hr10) rfl (by decide) rfl (Nat.le_of_ble_eq_true rfl) rfl rfl (by decide) (by decide) rfl ?_
    refine ax_if_eq (tgt := 83) (q := 51) hX dc_M_crop_48 rfl (by decide) (fun z13 => ?_) (fun z13 => ?_)
    · rw [if_pos z13] at h
      exact (e_M_crop_83 hX hF hS0  I7 R u0 (x1) (x2) (x3) (x4) u0 hty hs0_ hs0_ rfl h)
    · rw [if_neg z13] at h
      refine ax_aload_n (q := 52) hX dc_M_crop_51 rfl rfl rfl ?_
      refine ax_iconst (v := 0) (q := 53) hX dc_M_crop_52 rfl (by decide) ?_
      refine ax_iload_n (q := 54) hX dc_M_crop_53 rfl rfl rfl ?_
      obtain ⟨r16, hr14, h⟩ := ax_bd h
      refine ax_kV (vs := [.int (0), .int (x2)]) (rest := [.ref u0]) (q := 57) hX dc_M_crop_54 rfl mt_M_fits wl_M_104 wi_M_fits ws_M_fits hs0_ rfl (c_M_fits l hty hs0_ hr14) rfl (by decide) rfl (Nat.le_of_ble_eq_true rfl) rfl rfl (by decide) (by decide) rfl ?_
      refine ax_if_eq (tgt := 83) (q := 60) hX dc_M_crop_57 rfl (by decide) (fun z17 => ?_) (fun z17 => ?_)
      · rw [if_pos z17] at h
        exact (e_M_crop_83 hX hF hS0  I7 R u0 (x1) (x2) (x3) (x4) u0 hty hs0_ hs0_ rfl h)
      · rw [if_neg z17] at h
        refine ax_aload_n (q := 61) hX dc_M_crop_60 rfl rfl rfl ?_
        refine ax_iconst (v := 1) (q := 62) hX dc_M_crop_61 rfl (by decide) ?_
        refine ax_iload_n (q := 63) hX dc_M_crop_62 rfl rfl rfl ?_
        refine ax_iload_n (q := 64) hX dc_M_crop_63 rfl rfl rfl ?_
        refine ax_iadd (q := 65) hX dc_M_crop_64 rfl ?_
        obtain ⟨r20, hr18, h⟩ := ax_bd h
        refine ax_kV (vs := [.int (1), .int (x1 + x3)]) (rest := [.ref u0]) (q := 68) hX dc_M_crop_65 rfl mt_M_fits wl_M_104 wi_M_fits ws_M_fits hs0_ rfl (c_M_fits l hty hs0_ hr18) rfl (by decide) rfl (Nat.le_of_ble_eq_true rfl) rfl rfl (by decide) (by decide) rfl ?_
        refine ax_if_eq (tgt := 83) (q := 71) hX dc_M_crop_68 rfl (by decide) (fun z21 => ?_) (fun z21 => ?_)
        · rw [if_pos z21] at h
          exact (e_M_crop_83 hX hF hS0  I7 R u0 (x1) (x2) (x3) (x4) u0 hty hs0_ hs0_ rfl h)
        · rw [if_neg z21] at h
          refine ax_aload_n (q := 72) hX dc_M_crop_71 rfl rfl rfl ?_
          refine ax_iconst (v := 0) (q := 73) hX dc_M_crop_72 rfl (by decide) ?_
          refine ax_iload_n (q := 74) hX dc_M_crop_73 rfl rfl rfl ?_
          refine ax_iload (q := 76) hX dc_M_crop_74 rfl rfl ?_
          refine ax_iadd (q := 77) hX dc_M_crop_76 rfl ?_
          obtain ⟨r24, hr22, h⟩ := ax_bd h
          refine ax_kV (vs := [.int (0), .int (x2 + x4)]) (rest := [.ref u0]) (q := 80) hX dc_M_crop_77 rfl mt_M_fits wl_M_104 wi_M_fits ws_M_fits hs0_ rfl (c_M_fits l hty hs0_ hr22) rfl (by decide) rfl (Nat.le_of_ble_eq_true rfl) rfl rfl (by decide) (by decide) rfl ?_
          refine ax_if_ne (tgt := 87) (q := 83) hX dc_M_crop_80 rfl (by decide) (fun z25 => ?_) (fun z25 => ?_)
          · rw [if_neg z25] at h
            refine ax_iconst (v := 0) (q := 88) hX dc_M_crop_87 rfl (by decide) ?_
            exact (e_M_crop_88 hX hF hS0  I7 R u0 (x1) (x2) (x3) (x4) (0) u0 hty hs0_ hs0_ rfl h)
          · rw [if_pos z25] at h
            exact (e_M_crop_83 hX hF hS0  I7 R u0 (x1) (x2) (x3) (x4) u0 hty hs0_ hs0_ rfl h)
  · rw [if_neg z9] at h
    refine ax_iconst (v := 0) (q := 40) hX dc_M_crop_39 rfl (by decide) ?_
    cases h
    exact ax_iret hX hF dc_M_crop_40 rfl rfl (by decide) (by decide) ax_eq.mk (by rw [hS0]; exact fun _ _ z => z)
def d_M_crop_24 (S : ax_S) (I : ax_I) (R : ax_R) (u0 : Nat) (x1 : Int32) (x2 : Int32) (x3 : Int32) (x4 : Int32) (w0 : Nat) : Option (Int32 × ax_I) :=
  d_M_crop_29 S  I R u0 (x1) (x2) (x3) (x4) (1) w0
set_option maxHeartbeats 1000000 in
theorem e_M_crop_24 {l : Launch} {X : ax_X} {S : ax_S} {L : ax_L} {R0 : ax_R} {out : Int32 × ax_I} (hX : ax_ok X l "LossFreeToolsModel" b_M_crop 8 (ax_rm 4 0 0)) (hF : ax_fin X (some .int) 0 0 (ax_of (ax_eq (some (.int out.1)) S out.2 R0 L))) (hS0 : ax_S0 X = S) : ∀ (I : ax_I) (R : ax_R) (u0 : Nat) (x1 : Int32) (x2 : Int32) (x3 : Int32) (x4 : Int32) (w0 : Nat), ax_typ S R → (S u0 = some (.inl 5)) → (S w0 = some (.inl 5)) → R = R0 → d_M_crop_24 S  I R u0 x1 x2 x3 x4 w0 = some out → ax_W X 8 24 [some (.ref u0), some (.int (x1)), some (.int (x2)), some (.int (x3)), some (.int (x4)), none, none, none] [.ref w0] S I R L 0 0 := by
  rintro I R u0 x1 x2 x3 x4 w0 hty hs0_ hw0_ hR0 h
  subst hR0
  unfold d_M_crop_24 at h
  refine ax_iconst (v := 1) (q := 25) hX dc_M_crop_24 rfl (by decide) ?_
  refine ax_goto (tgt := 29) hX dc_M_crop_25 (by decide) ?_
  exact (e_M_crop_29 hX hF hS0  I R u0 (x1) (x2) (x3) (x4) (1) w0 hty hs0_ hw0_ rfl h)
def d_M_crop (S : ax_S) (I : ax_I) (R : ax_R) (u0 : Nat) (x1 : Int32) (x2 : Int32) (x3 : Int32) (x4 : Int32) : Option (Int32 × ax_I) :=
  if x3 < 1 then
    d_M_crop_24 S  I R u0 (x1) (x2) (x3) (x4) u0
  else
    if x4 < 1 then
      d_M_crop_24 S  I R u0 (x1) (x2) (x3) (x4) u0
    else
      (d_M_lies S I R u0 (x1) (x2) (x3) (x4)).bind fun r5 =>
      if (ax_b r5) = 0 then
        d_M_crop_24 S  I R u0 (x1) (x2) (x3) (x4) u0
      else
        d_M_crop_29 S  I R u0 (x1) (x2) (x3) (x4) (0) u0
set_option maxHeartbeats 1000000 in
theorem c_M_crop (l : Launch) {S : ax_S} {I : ax_I} {R : ax_R} {L : ax_L} {u0 : Nat} {x1 : Int32} {x2 : Int32} {x3 : Int32} {x4 : Int32} {out : Int32 × ax_I} (hty : ax_typ S R) (hs0 : S u0 = some (.inl 5)) (h : d_M_crop S I R u0 x1 x2 x3 x4 = some out) : ax_Met l y_M_crop b_M_crop 8 (some .int) (ax_rm 4 0 0) [.ref u0, .int x1, .int x2, .int x3, .int x4] S I R L (ax_eq (some (.int out.1)) S out.2 R L) := by
  refine ax_enter (own := "LossFreeToolsModel") (by decide +kernel) rfl (ax_cats rfl) (Nat.le_of_ble_eq_true rfl) (fun X hX hF _ hS0 => ?_)
  show ax_W X 8 0 [some (.ref u0), some (.int (x1)), some (.int (x2)), some (.int (x3)), some (.int (x4)), none, none, none] [] S I R L 0 0
  unfold d_M_crop at h
  refine ax_aload_n (q := 1) hX dc_M_crop_0 rfl rfl rfl ?_
  refine ax_iload_n (q := 2) hX dc_M_crop_1 rfl rfl rfl ?_
  refine ax_iconst (v := 1) (q := 3) hX dc_M_crop_2 rfl (by decide) ?_
  refine ax_icmp_lt (tgt := 24) (q := 6) hX dc_M_crop_3 rfl (by decide) (fun z1 => ?_) (fun z1 => ?_)
  · rw [if_pos z1] at h
    exact (e_M_crop_24 hX hF hS0  I R u0 (x1) (x2) (x3) (x4) u0 hty hs0 hs0 rfl h)
  · rw [if_neg z1] at h
    refine ax_iload (q := 8) hX dc_M_crop_6 rfl rfl ?_
    refine ax_iconst (v := 1) (q := 9) hX dc_M_crop_8 rfl (by decide) ?_
    refine ax_icmp_lt (tgt := 24) (q := 12) hX dc_M_crop_9 rfl (by decide) (fun z2 => ?_) (fun z2 => ?_)
    · rw [if_pos z2] at h
      exact (e_M_crop_24 hX hF hS0  I R u0 (x1) (x2) (x3) (x4) u0 hty hs0 hs0 rfl h)
    · rw [if_neg z2] at h
      refine ax_aload_n (q := 13) hX dc_M_crop_12 rfl rfl rfl ?_
      refine ax_iload_n (q := 14) hX dc_M_crop_13 rfl rfl rfl ?_
      refine ax_iload_n (q := 15) hX dc_M_crop_14 rfl rfl rfl ?_
      refine ax_iload_n (q := 16) hX dc_M_crop_15 rfl rfl rfl ?_
      refine ax_iload (q := 18) hX dc_M_crop_16 rfl rfl ?_
      obtain ⟨r5, hr3, h⟩ := ax_bd h
      refine ax_kV (vs := [.int (x1), .int (x2), .int (x3), .int (x4)]) (rest := [.ref u0]) (q := 21) hX dc_M_crop_18 rfl mt_M_lies wl_M_88 wi_M_lies ws_M_lies hs0 rfl (c_M_lies l hty hs0 hr3) rfl (by decide) rfl (Nat.le_of_ble_eq_true rfl) rfl rfl (by decide) (by decide) rfl ?_
      refine ax_if_ne (tgt := 28) (q := 24) hX dc_M_crop_21 rfl (by decide) (fun z6 => ?_) (fun z6 => ?_)
      · rw [if_neg z6] at h
        refine ax_iconst (v := 0) (q := 29) hX dc_M_crop_28 rfl (by decide) ?_
        exact (e_M_crop_29 hX hF hS0  I R u0 (x1) (x2) (x3) (x4) (0) u0 hty hs0 hs0 rfl h)
      · rw [if_pos z6] at h
        exact (e_M_crop_24 hX hF hS0  I R u0 (x1) (x2) (x3) (x4) u0 hty hs0 hs0 rfl h)
def d_M_write_220 (S : ax_S) (rec171 : ax_I → ax_R → Nat → Int32 → Option (Int32 × ax_I)) (rec186 : ax_I → ax_R → Nat → Int32 → Int32 → Option (Int32 × ax_I)) (I : ax_I) (R : ax_R) (u0 : Nat) (x1 : Int32) (x2 : Int32) : Option (Int32 × ax_I) :=
  rec186 I R u0 (x1) (x2 + 1)
set_option maxHeartbeats 1000000 in
theorem e_M_write_220 {l : Launch} {X : ax_X} {S : ax_S} {L : ax_L} {R0 : ax_R} {out : Int32 × ax_I} (hX : ax_ok X l "LossFreeToolsModel" b_M_write 3 (ax_rm 4 0 0)) (hF : ax_fin X (some .int) 0 0 (ax_of (ax_eq (some (.int out.1)) S out.2 R0 L))) (hS0 : ax_S0 X = S) (rec171 : ax_I → ax_R → Nat → Int32 → Option (Int32 × ax_I)) (rec186 : ax_I → ax_R → Nat → Int32 → Int32 → Option (Int32 × ax_I)) (hrec171 : ∀ (I : ax_I) (R : ax_R) (u0 : Nat) (x1 : Int32), ax_typ S R → (S u0 = some (.inl 5)) → R = R0 → rec171 I R u0 x1 = some out → ax_W X 3 171 [some (.ref u0), some (.int (x1)), none] [] S I R L 0 0) (hrec186 : ∀ (I : ax_I) (R : ax_R) (u0 : Nat) (x1 : Int32) (x2 : Int32), ax_typ S R → (S u0 = some (.inl 5)) → R = R0 → rec186 I R u0 x1 x2 = some out → ax_W X 3 186 [some (.ref u0), some (.int (x1)), some (.int (x2))] [] S I R L 0 0) : ∀ (I : ax_I) (R : ax_R) (u0 : Nat) (x1 : Int32) (x2 : Int32), ax_typ S R → (S u0 = some (.inl 5)) → R = R0 → d_M_write_220 S rec171 rec186 I R u0 x1 x2 = some out → ax_W X 3 220 [some (.ref u0), some (.int (x1)), some (.int (x2))] [] S I R L 0 0 := by
  rintro I R u0 x1 x2 hty hs0_ hR0 h
  subst hR0
  unfold d_M_write_220 at h
  refine ax_iinc (v := x2 + 1) (ls' := [some (.ref u0), some (.int (x1)), some (.int (x2 + 1))]) (q := 223) hX dc_M_write_220 rfl rfl rfl (by decide) rfl ?_
  refine ax_goto (tgt := 186) hX dc_M_write_223 (by decide) ?_
  exact (hrec186 I R u0 (x1) (x2 + 1) hty hs0_ rfl h)
def d_M_write_186 (S : ax_S) (rec171 : ax_I → ax_R → Nat → Int32 → Option (Int32 × ax_I)) : Nat → ax_I → ax_R → Nat → Int32 → Int32 → Option (Int32 × ax_I)
  | 0, _, _, _, _, _ => none
  | n + 1, I, R, u0, x1, x2 =>
    (R u0 6).bind fun u101 =>
    (ax_ix S u101 (I u0 3)).bind fun j105 =>
    if (I u101 j105) ≤ x2 then
      rec171 I R u0 (x1 + 1)
    else
      (d_M_pointerOf S I R u0 (x2)).bind fun r110 =>
      if r110 = (I u0 22) then
        (d_M_tileAt S I R u0 (x2)).bind fun r114 =>
        (d_M_tellPart S I R u0 (r114)).bind fun I117 =>
        d_M_write_220 S (rec171) (d_M_write_186 S rec171 n) I117 R u0 (x1) (x2)
      else
        d_M_write_220 S (rec171) (d_M_write_186 S rec171 n) I R u0 (x1) (x2)
set_option maxHeartbeats 1000000 in
theorem e_M_write_186 {l : Launch} {X : ax_X} {S : ax_S} {L : ax_L} {R0 : ax_R} {out : Int32 × ax_I} (hX : ax_ok X l "LossFreeToolsModel" b_M_write 3 (ax_rm 4 0 0)) (hF : ax_fin X (some .int) 0 0 (ax_of (ax_eq (some (.int out.1)) S out.2 R0 L))) (hS0 : ax_S0 X = S) (rec171 : ax_I → ax_R → Nat → Int32 → Option (Int32 × ax_I)) (hrec171 : ∀ (I : ax_I) (R : ax_R) (u0 : Nat) (x1 : Int32), ax_typ S R → (S u0 = some (.inl 5)) → R = R0 → rec171 I R u0 x1 = some out → ax_W X 3 171 [some (.ref u0), some (.int (x1)), none] [] S I R L 0 0) : ∀ (n : Nat), ∀ (I : ax_I) (R : ax_R) (u0 : Nat) (x1 : Int32) (x2 : Int32), ax_typ S R → (S u0 = some (.inl 5)) → R = R0 → d_M_write_186 S rec171 n I R u0 x1 x2 = some out → ax_W X 3 186 [some (.ref u0), some (.int (x1)), some (.int (x2))] [] S I R L 0 0 := by
  intro n
  induction n with
  | zero =>
    rintro I R u0 x1 x2 hty hs0_ hR0 h
    cases h
  | succ n ih =>
    rintro I R u0 x1 x2 hty hs0_ hR0 h
    subst hR0
    unfold d_M_write_186 at h
    refine ax_iload_n (q := 187) hX dc_M_write_186 rfl rfl rfl ?_
    refine ax_aload_n (q := 188) hX dc_M_write_187 rfl rfl rfl ?_
    obtain ⟨u101, hu102, h⟩ := ax_bd h
    obtain ⟨n104, hs103⟩ : ∃ n, S u101 = some (.inr (0, n)) := hty.1 _ _ _ _ hs0_ hu102
    refine ax_getR (q := 191) hX dc_M_write_188 rfl fl_M_16 rfl hs0_ hu102 ?_
    refine ax_aload_n (q := 192) hX dc_M_write_191 rfl rfl rfl ?_
    refine ax_getI (q := 195) hX dc_M_write_192 rfl fl_M_71 rfl hs0_ ?_
    obtain ⟨j105, hj106, h⟩ := ax_bd h
    have hj106 := ax_ix_s hty hs103 hj106
    refine ax_iald (q := 196) hX j105 dc_M_write_195 rfl hs103 hj106.1 hj106.2.1 hj106.2.2 ?_
    refine ax_icmp_ge (tgt := 226) (q := 199) hX dc_M_write_196 rfl (by decide) (fun z107 => ?_) (fun z107 => ?_)
    · rw [if_pos z107] at h
      refine ax_iinc (v := x1 + 1) (ls' := [some (.ref u0), some (.int (x1 + 1)), some (.int (x2))]) (q := 229) hX dc_M_write_226 rfl rfl rfl (by decide) rfl ?_
      refine ax_goto (tgt := 171) hX dc_M_write_229 (by decide) ?_
      exact ax_weak (ls' := [some (.ref u0), some (.int (x1 + 1)), none]) (ax_fewP_s _ _ (by repeat (first | exact trivial | (refine And.intro rfl ?_)))) (hrec171 I R u0 (x1 + 1) hty hs0_ rfl h)
    · rw [if_neg z107] at h
      refine ax_aload_n (q := 200) hX dc_M_write_199 rfl rfl rfl ?_
      refine ax_iload_n (q := 201) hX dc_M_write_200 rfl rfl rfl ?_
      obtain ⟨r110, hr108, h⟩ := ax_bd h
      refine ax_kV (vs := [.int (x2)]) (rest := []) (q := 204) hX dc_M_write_201 rfl mt_M_pointerOf wl_M_143 wi_M_pointerOf ws_M_pointerOf hs0_ rfl (c_M_pointerOf l hty hs0_ hr108) rfl (by decide) rfl (Nat.le_of_ble_eq_true rfl) rfl rfl (by decide) (by decide) rfl ?_
      refine ax_aload_n (q := 205) hX dc_M_write_204 rfl rfl rfl ?_
      refine ax_getI (q := 208) hX dc_M_write_205 rfl fl_M_81 rfl hs0_ ?_
      refine ax_icmp_ne (tgt := 220) (q := 211) hX dc_M_write_208 rfl (by decide) (fun z111 => ?_) (fun z111 => ?_)
      · rw [if_neg z111] at h
        exact (e_M_write_220 hX hF hS0 (rec171) (d_M_write_186 S rec171 n) (hrec171) (ih) I R u0 (x1) (x2) hty hs0_ rfl h)
      · rw [if_pos z111] at h
        refine ax_aload_n (q := 212) hX dc_M_write_211 rfl rfl rfl ?_
        refine ax_aload_n (q := 213) hX dc_M_write_212 rfl rfl rfl ?_
        refine ax_iload_n (q := 214) hX dc_M_write_213 rfl rfl rfl ?_
        obtain ⟨r114, hr112, h⟩ := ax_bd h
        refine ax_kV (vs := [.int (x2)]) (rest := [.ref u0]) (q := 217) hX dc_M_write_214 rfl mt_M_tileAt wl_M_92 wi_M_tileAt ws_M_tileAt hs0_ rfl (c_M_tileAt l hty hs0_ hr112) rfl (by decide) rfl (Nat.le_of_ble_eq_true rfl) rfl rfl (by decide) (by decide) rfl ?_
        obtain ⟨I117, hr115, h⟩ := ax_bd h
        refine ax_kV (vs := [.int (r114)]) (rest := []) (q := 220) hX dc_M_write_217 rfl mt_M_tellPart wl_M_150 wi_M_tellPart ws_M_tellPart hs0_ rfl (c_M_tellPart l hty hs0_ hr115) rfl (by decide) rfl (Nat.le_of_ble_eq_true rfl) rfl rfl (by decide) (by decide) rfl ?_
        exact (e_M_write_220 hX hF hS0 (rec171) (d_M_write_186 S rec171 n) (hrec171) (ih) I117 R u0 (x1) (x2) hty hs0_ rfl h)
def d_M_write_171 (S : ax_S) : Nat → ax_I → ax_R → Nat → Int32 → Option (Int32 × ax_I)
  | 0, _, _, _, _ => none
  | n + 1, I, R, u0, x1 =>
    (R u0 6).bind fun u94 =>
    (ax_ix S u94 (I u0 3)).bind fun j98 =>
    if (I u94 j98) ≤ x1 then
      some (I u0 22, I)
    else
      d_M_write_186 S (d_M_write_171 S  n) 5000 I R u0 (x1) (0)
set_option maxHeartbeats 1000000 in
theorem e_M_write_171 {l : Launch} {X : ax_X} {S : ax_S} {L : ax_L} {R0 : ax_R} {out : Int32 × ax_I} (hX : ax_ok X l "LossFreeToolsModel" b_M_write 3 (ax_rm 4 0 0)) (hF : ax_fin X (some .int) 0 0 (ax_of (ax_eq (some (.int out.1)) S out.2 R0 L))) (hS0 : ax_S0 X = S) : ∀ (n : Nat), ∀ (I : ax_I) (R : ax_R) (u0 : Nat) (x1 : Int32), ax_typ S R → (S u0 = some (.inl 5)) → R = R0 → d_M_write_171 S  n I R u0 x1 = some out → ax_W X 3 171 [some (.ref u0), some (.int (x1)), none] [] S I R L 0 0 := by
  intro n
  induction n with
  | zero =>
    rintro I R u0 x1 hty hs0_ hR0 h
    cases h
  | succ n ih =>
    rintro I R u0 x1 hty hs0_ hR0 h
    subst hR0
    unfold d_M_write_171 at h
    refine ax_iload_n (q := 172) hX dc_M_write_171 rfl rfl rfl ?_
    refine ax_aload_n (q := 173) hX dc_M_write_172 rfl rfl rfl ?_
    obtain ⟨u94, hu95, h⟩ := ax_bd h
    obtain ⟨n97, hs96⟩ : ∃ n, S u94 = some (.inr (0, n)) := hty.1 _ _ _ _ hs0_ hu95
    refine ax_getR (q := 176) hX dc_M_write_173 rfl fl_M_16 rfl hs0_ hu95 ?_
    refine ax_aload_n (q := 177) hX dc_M_write_176 rfl rfl rfl ?_
    refine ax_getI (q := 180) hX dc_M_write_177 rfl fl_M_71 rfl hs0_ ?_
    obtain ⟨j98, hj99, h⟩ := ax_bd h
    have hj99 := ax_ix_s hty hs96 hj99
    refine ax_iald (q := 181) hX j98 dc_M_write_180 rfl hs96 hj99.1 hj99.2.1 hj99.2.2 ?_
    refine ax_icmp_ge (tgt := 232) (q := 184) hX dc_M_write_181 rfl (by decide) (fun z100 => ?_) (fun z100 => ?_)
    · rw [if_pos z100] at h
      refine ax_aload_n (q := 233) hX dc_M_write_232 rfl rfl rfl ?_
      refine ax_getI (q := 236) hX dc_M_write_233 rfl fl_M_81 rfl hs0_ ?_
      cases h
      exact ax_iret hX hF dc_M_write_236 rfl rfl (by decide) (by decide) ax_eq.mk (by rw [hS0]; exact fun _ _ z => z)
    · rw [if_neg z100] at h
      refine ax_iconst (v := 0) (q := 185) hX dc_M_write_184 rfl (by decide) ?_
      refine ax_istore_n (ls' := [some (.ref u0), some (.int (x1)), some (.int (0))]) (q := 186) hX dc_M_write_185 rfl rfl (by decide) rfl ?_
      exact (e_M_write_186 hX hF hS0 (d_M_write_171 S  n) (ih) 5000 I R u0 (x1) (0) hty hs0_ rfl h)
def d_M_write_112 (S : ax_S) : Nat → ax_I → ax_R → Nat → Int32 → Option (Int32 × ax_I)
  | 0, _, _, _, _ => none
  | n + 1, I, R, u0, x1 =>
    (R u0 7).bind fun u60 =>
    (ax_ix S u60 (I u0 3)).bind fun j64 =>
    if ((20 * (I u0 3)) + (I u60 j64)) ≤ x1 then
      d_M_write_171 S  5000 I R u0 (0)
    else
      (R u0 15).bind fun u67 =>
      (ax_ix S u67 (x1)).bind fun j71 =>
      (d_M_tellTwo S I R u0 (I u67 j71)).bind fun I75 =>
      (R u0 16).bind fun u76 =>
      (ax_ix S u76 (x1)).bind fun j80 =>
      (d_M_tellTwo S I75 R u0 (I75 u76 j80)).bind fun I84 =>
      (R u0 17).bind fun u85 =>
      (ax_ix S u85 (x1)).bind fun j89 =>
      (d_M_tell S I84 R u0 (I84 u85 j89)).bind fun I93 =>
      d_M_write_112 S  n I93 R u0 (x1 + 1)
set_option maxHeartbeats 1000000 in
theorem e_M_write_112 {l : Launch} {X : ax_X} {S : ax_S} {L : ax_L} {R0 : ax_R} {out : Int32 × ax_I} (hX : ax_ok X l "LossFreeToolsModel" b_M_write 3 (ax_rm 4 0 0)) (hF : ax_fin X (some .int) 0 0 (ax_of (ax_eq (some (.int out.1)) S out.2 R0 L))) (hS0 : ax_S0 X = S) : ∀ (n : Nat), ∀ (I : ax_I) (R : ax_R) (u0 : Nat) (x1 : Int32), ax_typ S R → (S u0 = some (.inl 5)) → R = R0 → d_M_write_112 S  n I R u0 x1 = some out → ax_W X 3 112 [some (.ref u0), some (.int (x1)), none] [] S I R L 0 0 := by
  intro n
  induction n with
  | zero =>
    rintro I R u0 x1 hty hs0_ hR0 h
    cases h
  | succ n ih =>
    rintro I R u0 x1 hty hs0_ hR0 h
    subst hR0
    unfold d_M_write_112 at h
    refine ax_iload_n (q := 113) hX dc_M_write_112 rfl rfl rfl ?_
    refine ax_bipush (v := 20) (q := 115) hX dc_M_write_113 rfl (by decide) ?_
    refine ax_aload_n (q := 116) hX dc_M_write_115 rfl rfl rfl ?_
    refine ax_getI (q := 119) hX dc_M_write_116 rfl fl_M_71 rfl hs0_ ?_
    refine ax_imul (q := 120) hX dc_M_write_119 rfl ?_
    refine ax_aload_n (q := 121) hX dc_M_write_120 rfl rfl rfl ?_
    obtain ⟨u60, hu61, h⟩ := ax_bd h
    obtain ⟨n63, hs62⟩ : ∃ n, S u60 = some (.inr (0, n)) := hty.1 _ _ _ _ hs0_ hu61
    refine ax_getR (q := 124) hX dc_M_write_121 rfl fl_M_19 rfl hs0_ hu61 ?_
    refine ax_aload_n (q := 125) hX dc_M_write_124 rfl rfl rfl ?_
    refine ax_getI (q := 128) hX dc_M_write_125 rfl fl_M_71 rfl hs0_ ?_
    obtain ⟨j64, hj65, h⟩ := ax_bd h
    have hj65 := ax_ix_s hty hs62 hj65
    refine ax_iald (q := 129) hX j64 dc_M_write_128 rfl hs62 hj65.1 hj65.2.1 hj65.2.2 ?_
    refine ax_iadd (q := 130) hX dc_M_write_129 rfl ?_
    refine ax_icmp_ge (tgt := 169) (q := 133) hX dc_M_write_130 rfl (by decide) (fun z66 => ?_) (fun z66 => ?_)
    · rw [if_pos z66] at h
      refine ax_iconst (v := 0) (q := 170) hX dc_M_write_169 rfl (by decide) ?_
      refine ax_istore_n (ls' := [some (.ref u0), some (.int (0)), none]) (q := 171) hX dc_M_write_170 rfl rfl (by decide) rfl ?_
      exact (e_M_write_171 hX hF hS0  5000 I R u0 (0) hty hs0_ rfl h)
    · rw [if_neg z66] at h
      refine ax_aload_n (q := 134) hX dc_M_write_133 rfl rfl rfl ?_
      refine ax_aload_n (q := 135) hX dc_M_write_134 rfl rfl rfl ?_
      obtain ⟨u67, hu68, h⟩ := ax_bd h
      obtain ⟨n70, hs69⟩ : ∃ n, S u67 = some (.inr (0, n)) := hty.1 _ _ _ _ hs0_ hu68
      refine ax_getR (q := 138) hX dc_M_write_135 rfl fl_M_43 rfl hs0_ hu68 ?_
      refine ax_iload_n (q := 139) hX dc_M_write_138 rfl rfl rfl ?_
      obtain ⟨j71, hj72, h⟩ := ax_bd h
      have hj72 := ax_ix_s hty hs69 hj72
      refine ax_iald (q := 140) hX j71 dc_M_write_139 rfl hs69 hj72.1 hj72.2.1 hj72.2.2 ?_
      obtain ⟨I75, hr73, h⟩ := ax_bd h
      refine ax_kV (vs := [.int (I u67 j71)]) (rest := []) (q := 143) hX dc_M_write_140 rfl mt_M_tellTwo wl_M_146 wi_M_tellTwo ws_M_tellTwo hs0_ rfl (c_M_tellTwo l hty hs0_ hr73) rfl (by decide) rfl (Nat.le_of_ble_eq_true rfl) rfl rfl (by decide) (by decide) rfl ?_
      refine ax_aload_n (q := 144) hX dc_M_write_143 rfl rfl rfl ?_
      refine ax_aload_n (q := 145) hX dc_M_write_144 rfl rfl rfl ?_
      obtain ⟨u76, hu77, h⟩ := ax_bd h
      obtain ⟨n79, hs78⟩ : ∃ n, S u76 = some (.inr (0, n)) := hty.1 _ _ _ _ hs0_ hu77
      refine ax_getR (q := 148) hX dc_M_write_145 rfl fl_M_46 rfl hs0_ hu77 ?_
      refine ax_iload_n (q := 149) hX dc_M_write_148 rfl rfl rfl ?_
      obtain ⟨j80, hj81, h⟩ := ax_bd h
      have hj81 := ax_ix_s hty hs78 hj81
      refine ax_iald (q := 150) hX j80 dc_M_write_149 rfl hs78 hj81.1 hj81.2.1 hj81.2.2 ?_
      obtain ⟨I84, hr82, h⟩ := ax_bd h
      refine ax_kV (vs := [.int (I75 u76 j80)]) (rest := []) (q := 153) hX dc_M_write_150 rfl mt_M_tellTwo wl_M_146 wi_M_tellTwo ws_M_tellTwo hs0_ rfl (c_M_tellTwo l hty hs0_ hr82) rfl (by decide) rfl (Nat.le_of_ble_eq_true rfl) rfl rfl (by decide) (by decide) rfl ?_
      refine ax_aload_n (q := 154) hX dc_M_write_153 rfl rfl rfl ?_
      refine ax_aload_n (q := 155) hX dc_M_write_154 rfl rfl rfl ?_
      obtain ⟨u85, hu86, h⟩ := ax_bd h
      obtain ⟨n88, hs87⟩ : ∃ n, S u85 = some (.inr (0, n)) := hty.1 _ _ _ _ hs0_ hu86
      refine ax_getR (q := 158) hX dc_M_write_155 rfl fl_M_49 rfl hs0_ hu86 ?_
      refine ax_iload_n (q := 159) hX dc_M_write_158 rfl rfl rfl ?_
      obtain ⟨j89, hj90, h⟩ := ax_bd h
      have hj90 := ax_ix_s hty hs87 hj90
      refine ax_iald (q := 160) hX j89 dc_M_write_159 rfl hs87 hj90.1 hj90.2.1 hj90.2.2 ?_
      obtain ⟨I93, hr91, h⟩ := ax_bd h
      refine ax_kV (vs := [.int (I84 u85 j89)]) (rest := []) (q := 163) hX dc_M_write_160 rfl mt_M_tell wl_M_133 wi_M_tell ws_M_tell hs0_ rfl (c_M_tell l hty hs0_ hr91) rfl (by decide) rfl (Nat.le_of_ble_eq_true rfl) rfl rfl (by decide) (by decide) rfl ?_
      refine ax_iinc (v := x1 + 1) (ls' := [some (.ref u0), some (.int (x1 + 1)), none]) (q := 166) hX dc_M_write_163 rfl rfl rfl (by decide) rfl ?_
      refine ax_goto (tgt := 112) hX dc_M_write_166 (by decide) ?_
      exact (ih I93 R u0 (x1 + 1) hty hs0_ rfl h)
def d_M_write_63 (S : ax_S) : Nat → ax_I → ax_R → Nat → Int32 → Option (Int32 × ax_I)
  | 0, _, _, _, _ => none
  | n + 1, I, R, u0, x1 =>
    (R u0 6).bind fun u38 =>
    (ax_ix S u38 (I u0 3)).bind fun j42 =>
    if (I u38 j42) ≤ x1 then
      (R u0 7).bind fun u45 =>
      (ax_ix S u45 (I u0 3)).bind fun j49 =>
      (d_M_tell S I R u0 (I u45 j49)).bind fun I53 =>
      d_M_write_112 S  5000 I53 R u0 (20 * (I53 u0 3))
    else
      (d_M_pointerOf S I R u0 (x1)).bind fun r56 =>
      (d_M_tellTwo S I R u0 (r56)).bind fun I59 =>
      d_M_write_63 S  n I59 R u0 (x1 + 1)
set_option maxHeartbeats 1000000 in
theorem e_M_write_63 {l : Launch} {X : ax_X} {S : ax_S} {L : ax_L} {R0 : ax_R} {out : Int32 × ax_I} (hX : ax_ok X l "LossFreeToolsModel" b_M_write 3 (ax_rm 4 0 0)) (hF : ax_fin X (some .int) 0 0 (ax_of (ax_eq (some (.int out.1)) S out.2 R0 L))) (hS0 : ax_S0 X = S) : ∀ (n : Nat), ∀ (I : ax_I) (R : ax_R) (u0 : Nat) (x1 : Int32), ax_typ S R → (S u0 = some (.inl 5)) → R = R0 → d_M_write_63 S  n I R u0 x1 = some out → ax_W X 3 63 [some (.ref u0), some (.int (x1)), none] [] S I R L 0 0 := by
  intro n
  induction n with
  | zero =>
    rintro I R u0 x1 hty hs0_ hR0 h
    cases h
  | succ n ih =>
    rintro I R u0 x1 hty hs0_ hR0 h
    subst hR0
    unfold d_M_write_63 at h
    refine ax_iload_n (q := 64) hX dc_M_write_63 rfl rfl rfl ?_
    refine ax_aload_n (q := 65) hX dc_M_write_64 rfl rfl rfl ?_
    obtain ⟨u38, hu39, h⟩ := ax_bd h
    obtain ⟨n41, hs40⟩ : ∃ n, S u38 = some (.inr (0, n)) := hty.1 _ _ _ _ hs0_ hu39
    refine ax_getR (q := 68) hX dc_M_write_65 rfl fl_M_16 rfl hs0_ hu39 ?_
    refine ax_aload_n (q := 69) hX dc_M_write_68 rfl rfl rfl ?_
    refine ax_getI (q := 72) hX dc_M_write_69 rfl fl_M_71 rfl hs0_ ?_
    obtain ⟨j42, hj43, h⟩ := ax_bd h
    have hj43 := ax_ix_s hty hs40 hj43
    refine ax_iald (q := 73) hX j42 dc_M_write_72 rfl hs40 hj43.1 hj43.2.1 hj43.2.2 ?_
    refine ax_icmp_ge (tgt := 91) (q := 76) hX dc_M_write_73 rfl (by decide) (fun z44 => ?_) (fun z44 => ?_)
    · rw [if_pos z44] at h
      refine ax_aload_n (q := 92) hX dc_M_write_91 rfl rfl rfl ?_
      refine ax_aload_n (q := 93) hX dc_M_write_92 rfl rfl rfl ?_
      obtain ⟨u45, hu46, h⟩ := ax_bd h
      obtain ⟨n48, hs47⟩ : ∃ n, S u45 = some (.inr (0, n)) := hty.1 _ _ _ _ hs0_ hu46
      refine ax_getR (q := 96) hX dc_M_write_93 rfl fl_M_19 rfl hs0_ hu46 ?_
      refine ax_aload_n (q := 97) hX dc_M_write_96 rfl rfl rfl ?_
      refine ax_getI (q := 100) hX dc_M_write_97 rfl fl_M_71 rfl hs0_ ?_
      obtain ⟨j49, hj50, h⟩ := ax_bd h
      have hj50 := ax_ix_s hty hs47 hj50
      refine ax_iald (q := 101) hX j49 dc_M_write_100 rfl hs47 hj50.1 hj50.2.1 hj50.2.2 ?_
      obtain ⟨I53, hr51, h⟩ := ax_bd h
      refine ax_kV (vs := [.int (I u45 j49)]) (rest := []) (q := 104) hX dc_M_write_101 rfl mt_M_tell wl_M_133 wi_M_tell ws_M_tell hs0_ rfl (c_M_tell l hty hs0_ hr51) rfl (by decide) rfl (Nat.le_of_ble_eq_true rfl) rfl rfl (by decide) (by decide) rfl ?_
      refine ax_bipush (v := 20) (q := 106) hX dc_M_write_104 rfl (by decide) ?_
      refine ax_aload_n (q := 107) hX dc_M_write_106 rfl rfl rfl ?_
      refine ax_getI (q := 110) hX dc_M_write_107 rfl fl_M_71 rfl hs0_ ?_
      refine ax_imul (q := 111) hX dc_M_write_110 rfl ?_
      refine ax_istore_n (ls' := [some (.ref u0), some (.int (20 * (I53 u0 3))), none]) (q := 112) hX dc_M_write_111 rfl rfl (by decide) rfl ?_
      exact (e_M_write_112 hX hF hS0  5000 I53 R u0 (20 * (I53 u0 3)) hty hs0_ rfl h)
    · rw [if_neg z44] at h
      refine ax_aload_n (q := 77) hX dc_M_write_76 rfl rfl rfl ?_
      refine ax_aload_n (q := 78) hX dc_M_write_77 rfl rfl rfl ?_
      refine ax_iload_n (q := 79) hX dc_M_write_78 rfl rfl rfl ?_
      obtain ⟨r56, hr54, h⟩ := ax_bd h
      refine ax_kV (vs := [.int (x1)]) (rest := [.ref u0]) (q := 82) hX dc_M_write_79 rfl mt_M_pointerOf wl_M_143 wi_M_pointerOf ws_M_pointerOf hs0_ rfl (c_M_pointerOf l hty hs0_ hr54) rfl (by decide) rfl (Nat.le_of_ble_eq_true rfl) rfl rfl (by decide) (by decide) rfl ?_
      obtain ⟨I59, hr57, h⟩ := ax_bd h
      refine ax_kV (vs := [.int (r56)]) (rest := []) (q := 85) hX dc_M_write_82 rfl mt_M_tellTwo wl_M_146 wi_M_tellTwo ws_M_tellTwo hs0_ rfl (c_M_tellTwo l hty hs0_ hr57) rfl (by decide) rfl (Nat.le_of_ble_eq_true rfl) rfl rfl (by decide) (by decide) rfl ?_
      refine ax_iinc (v := x1 + 1) (ls' := [some (.ref u0), some (.int (x1 + 1)), none]) (q := 88) hX dc_M_write_85 rfl rfl rfl (by decide) rfl ?_
      refine ax_goto (tgt := 63) hX dc_M_write_88 (by decide) ?_
      exact (ih I59 R u0 (x1 + 1) hty hs0_ rfl h)
def d_M_write (S : ax_S) (I : ax_I) (R : ax_R) (u0 : Nat) : Option (Int32 × ax_I) :=
  (some (ax_up I u0 0 (0))).bind fun I1 =>
  (some (ax_up I1 u0 22 (0))).bind fun I3 =>
  (d_M_tell S I3 R u0 (76)).bind fun I7 =>
  (d_M_tell S I7 R u0 (70)).bind fun I10 =>
  (R u0 4).bind fun u11 =>
  (ax_ix S u11 (I10 u0 3)).bind fun j15 =>
  (d_M_tellTwo S I10 R u0 (I10 u11 j15)).bind fun I19 =>
  (R u0 5).bind fun u20 =>
  (ax_ix S u20 (I19 u0 3)).bind fun j24 =>
  (d_M_tellTwo S I19 R u0 (I19 u20 j24)).bind fun I28 =>
  (R u0 6).bind fun u29 =>
  (ax_ix S u29 (I28 u0 3)).bind fun j33 =>
  (d_M_tell S I28 R u0 (I28 u29 j33)).bind fun I37 =>
  d_M_write_63 S  5000 I37 R u0 (0)
set_option maxHeartbeats 1000000 in
theorem c_M_write (l : Launch) {S : ax_S} {I : ax_I} {R : ax_R} {L : ax_L} {u0 : Nat} {out : Int32 × ax_I} (hty : ax_typ S R) (hs0 : S u0 = some (.inl 5)) (h : d_M_write S I R u0 = some out) : ax_Met l y_M_write b_M_write 3 (some .int) (ax_rm 4 0 0) [.ref u0] S I R L (ax_eq (some (.int out.1)) S out.2 R L) := by
  refine ax_enter (own := "LossFreeToolsModel") (by decide +kernel) rfl (ax_cats rfl) (Nat.le_of_ble_eq_true rfl) (fun X hX hF _ hS0 => ?_)
  show ax_W X 3 0 [some (.ref u0), none, none] [] S I R L 0 0
  unfold d_M_write at h
  refine ax_aload_n (q := 1) hX dc_M_write_0 rfl rfl rfl ?_
  refine ax_iconst (v := 0) (q := 2) hX dc_M_write_1 rfl (by decide) ?_
  obtain ⟨I1, e2, h⟩ := ax_bs h
  refine ax_putI (q := 5) hX dc_M_write_2 rfl fl_M_68 rfl hs0 (fun z => by cases z) rfl rfl e2 ?_
  refine ax_aload_n (q := 6) hX dc_M_write_5 rfl rfl rfl ?_
  refine ax_iconst (v := 0) (q := 7) hX dc_M_write_6 rfl (by decide) ?_
  obtain ⟨I3, e4, h⟩ := ax_bs h
  refine ax_putI (q := 10) hX dc_M_write_7 rfl fl_M_81 rfl hs0 (fun z => by cases z) rfl rfl e4 ?_
  refine ax_aload_n (q := 11) hX dc_M_write_10 rfl rfl rfl ?_
  refine ax_bipush (v := 76) (q := 13) hX dc_M_write_11 rfl (by decide) ?_
  obtain ⟨I7, hr5, h⟩ := ax_bd h
  refine ax_kV (vs := [.int (76)]) (rest := []) (q := 16) hX dc_M_write_13 rfl mt_M_tell wl_M_133 wi_M_tell ws_M_tell hs0 rfl (c_M_tell l hty hs0 hr5) rfl (by decide) rfl (Nat.le_of_ble_eq_true rfl) rfl rfl (by decide) (by decide) rfl ?_
  refine ax_aload_n (q := 17) hX dc_M_write_16 rfl rfl rfl ?_
  refine ax_bipush (v := 70) (q := 19) hX dc_M_write_17 rfl (by decide) ?_
  obtain ⟨I10, hr8, h⟩ := ax_bd h
  refine ax_kV (vs := [.int (70)]) (rest := []) (q := 22) hX dc_M_write_19 rfl mt_M_tell wl_M_133 wi_M_tell ws_M_tell hs0 rfl (c_M_tell l hty hs0 hr8) rfl (by decide) rfl (Nat.le_of_ble_eq_true rfl) rfl rfl (by decide) (by decide) rfl ?_
  refine ax_aload_n (q := 23) hX dc_M_write_22 rfl rfl rfl ?_
  refine ax_aload_n (q := 24) hX dc_M_write_23 rfl rfl rfl ?_
  obtain ⟨u11, hu12, h⟩ := ax_bd h
  obtain ⟨n14, hs13⟩ : ∃ n, S u11 = some (.inr (0, n)) := hty.1 _ _ _ _ hs0 hu12
  refine ax_getR (q := 27) hX dc_M_write_24 rfl fl_M_7 rfl hs0 hu12 ?_
  refine ax_aload_n (q := 28) hX dc_M_write_27 rfl rfl rfl ?_
  refine ax_getI (q := 31) hX dc_M_write_28 rfl fl_M_71 rfl hs0 ?_
  obtain ⟨j15, hj16, h⟩ := ax_bd h
  have hj16 := ax_ix_s hty hs13 hj16
  refine ax_iald (q := 32) hX j15 dc_M_write_31 rfl hs13 hj16.1 hj16.2.1 hj16.2.2 ?_
  obtain ⟨I19, hr17, h⟩ := ax_bd h
  refine ax_kV (vs := [.int (I10 u11 j15)]) (rest := []) (q := 35) hX dc_M_write_32 rfl mt_M_tellTwo wl_M_146 wi_M_tellTwo ws_M_tellTwo hs0 rfl (c_M_tellTwo l hty hs0 hr17) rfl (by decide) rfl (Nat.le_of_ble_eq_true rfl) rfl rfl (by decide) (by decide) rfl ?_
  refine ax_aload_n (q := 36) hX dc_M_write_35 rfl rfl rfl ?_
  refine ax_aload_n (q := 37) hX dc_M_write_36 rfl rfl rfl ?_
  obtain ⟨u20, hu21, h⟩ := ax_bd h
  obtain ⟨n23, hs22⟩ : ∃ n, S u20 = some (.inr (0, n)) := hty.1 _ _ _ _ hs0 hu21
  refine ax_getR (q := 40) hX dc_M_write_37 rfl fl_M_13 rfl hs0 hu21 ?_
  refine ax_aload_n (q := 41) hX dc_M_write_40 rfl rfl rfl ?_
  refine ax_getI (q := 44) hX dc_M_write_41 rfl fl_M_71 rfl hs0 ?_
  obtain ⟨j24, hj25, h⟩ := ax_bd h
  have hj25 := ax_ix_s hty hs22 hj25
  refine ax_iald (q := 45) hX j24 dc_M_write_44 rfl hs22 hj25.1 hj25.2.1 hj25.2.2 ?_
  obtain ⟨I28, hr26, h⟩ := ax_bd h
  refine ax_kV (vs := [.int (I19 u20 j24)]) (rest := []) (q := 48) hX dc_M_write_45 rfl mt_M_tellTwo wl_M_146 wi_M_tellTwo ws_M_tellTwo hs0 rfl (c_M_tellTwo l hty hs0 hr26) rfl (by decide) rfl (Nat.le_of_ble_eq_true rfl) rfl rfl (by decide) (by decide) rfl ?_
  refine ax_aload_n (q := 49) hX dc_M_write_48 rfl rfl rfl ?_
  refine ax_aload_n (q := 50) hX dc_M_write_49 rfl rfl rfl ?_
  obtain ⟨u29, hu30, h⟩ := ax_bd h
  obtain ⟨n32, hs31⟩ : ∃ n, S u29 = some (.inr (0, n)) := hty.1 _ _ _ _ hs0 hu30
  refine ax_getR (q := 53) hX dc_M_write_50 rfl fl_M_16 rfl hs0 hu30 ?_
  refine ax_aload_n (q := 54) hX dc_M_write_53 rfl rfl rfl ?_
  refine ax_getI (q := 57) hX dc_M_write_54 rfl fl_M_71 rfl hs0 ?_
  obtain ⟨j33, hj34, h⟩ := ax_bd h
  have hj34 := ax_ix_s hty hs31 hj34
  refine ax_iald (q := 58) hX j33 dc_M_write_57 rfl hs31 hj34.1 hj34.2.1 hj34.2.2 ?_
  obtain ⟨I37, hr35, h⟩ := ax_bd h
  refine ax_kV (vs := [.int (I28 u29 j33)]) (rest := []) (q := 61) hX dc_M_write_58 rfl mt_M_tell wl_M_133 wi_M_tell ws_M_tell hs0 rfl (c_M_tell l hty hs0 hr35) rfl (by decide) rfl (Nat.le_of_ble_eq_true rfl) rfl rfl (by decide) (by decide) rfl ?_
  refine ax_iconst (v := 0) (q := 62) hX dc_M_write_61 rfl (by decide) ?_
  refine ax_istore_n (ls' := [some (.ref u0), some (.int (0)), none]) (q := 63) hX dc_M_write_62 rfl rfl (by decide) rfl ?_
  exact (e_M_write_63 hX hF hS0  5000 I37 R u0 (0) hty hs0 rfl h)
