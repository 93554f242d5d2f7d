theorem lw_gt {n i : Nat} (hn : n < 100000) (hi : i < 200000) : nI n - 5 < nI i ↔ n < i + 5 := by
  have h5 : (5 : Int32) = nI 5 := by decide
  have e : (nI n - 5).toInt = (n : Int) - 5 := by
    rw [h5, Int32.toInt_sub, nI_toInt (by omega), nI_toInt (by omega)]
    exact Int.bmod_eq_of_le (by omega) (by omega)
  rw [Int32.lt_iff_toInt_lt, e, nI_toInt (by omega)]
  omega
theorem ax_outL {x : Int32} (z0 : ¬ x = 0) (z1 : ¬ x = 1) (z2 : ¬ x = 2) (z3 : ¬ x = 3) (z4 : ¬ x = 4) (z5 : ¬ x = 5) (z6 : ¬ x = 6) (z7 : ¬ x = 7) (z8 : ¬ x = 8) (z9 : ¬ x = 9) (z10 : ¬ x = 10) (z11 : ¬ x = 11) (z12 : ¬ x = 12) (z13 : ¬ x = 13) (z14 : ¬ x = 14) (z15 : ¬ x = 15) (z16 : ¬ x = 16) : x.toInt < 0 ∨ 16 < x.toInt := by
  rcases Int.lt_or_le x.toInt 0 with h | h
  · exact Or.inl h
  · rcases Int.lt_or_le 16 x.toInt with g | g
    · exact Or.inr g
    · exfalso
      have e : x.toInt = 0 ∨ x.toInt = 1 ∨ x.toInt = 2 ∨ x.toInt = 3 ∨ x.toInt = 4 ∨ x.toInt = 5 ∨ x.toInt = 6 ∨ x.toInt = 7 ∨ x.toInt = 8 ∨ x.toInt = 9 ∨ x.toInt = 10 ∨ x.toInt = 11 ∨ x.toInt = 12 ∨ x.toInt = 13 ∨ x.toInt = 14 ∨ x.toInt = 15 ∨ x.toInt = 16 := by omega
      rcases e with e | e | e | e | e | e | e | e | e | e | e | e | e | e | e | e | e
      · exact z0 (Int32.toInt_inj.mp (by rw [e]; rfl))
      · exact z1 (Int32.toInt_inj.mp (by rw [e]; rfl))
      · exact z2 (Int32.toInt_inj.mp (by rw [e]; rfl))
      · exact z3 (Int32.toInt_inj.mp (by rw [e]; rfl))
      · exact z4 (Int32.toInt_inj.mp (by rw [e]; rfl))
      · exact z5 (Int32.toInt_inj.mp (by rw [e]; rfl))
      · exact z6 (Int32.toInt_inj.mp (by rw [e]; rfl))
      · exact z7 (Int32.toInt_inj.mp (by rw [e]; rfl))
      · exact z8 (Int32.toInt_inj.mp (by rw [e]; rfl))
      · exact z9 (Int32.toInt_inj.mp (by rw [e]; rfl))
      · exact z10 (Int32.toInt_inj.mp (by rw [e]; rfl))
      · exact z11 (Int32.toInt_inj.mp (by rw [e]; rfl))
      · exact z12 (Int32.toInt_inj.mp (by rw [e]; rfl))
      · exact z13 (Int32.toInt_inj.mp (by rw [e]; rfl))
      · exact z14 (Int32.toInt_inj.mp (by rw [e]; rfl))
      · exact z15 (Int32.toInt_inj.mp (by rw [e]; rfl))
      · exact z16 (Int32.toInt_inj.mp (by rw [e]; rfl))
set_option maxHeartbeats 2000000 in
theorem lw_loop {X : ax_X} {l : Launch} (hl0 : l.stackTraces = false) (hX : ax_ok X l "LossFreeToolsLaw" code 7 (ax_rm 10 600002 7302197)) {b n : Nat} {sc : Nat → Int32} (hscr : ax_scrG (ax_GX X) b n sc) (hn : n ≤ 3000) {S : ax_S} (hs0 : S 0 = some (.inl 4)) (hs5 : S 210 = some (.inl 5)) (hso : S 227 = some (.inr (1, 1)))
    (P : Nat → ax_I → ax_R → ax_L → Prop) (hP : ∀ i I R L, i + 5 ≤ n → P i I R L → ax_typ S R ∧ ∃ out, d_L_step S sc i I R L = some out ∧ P (i + 5) out.1 out.2.1 out.2.2)
    (fin : ∀ (i : Nat) (I : ax_I) (R : ax_R) (L : ax_L) (cs ss : Nat), cs ≤ 600002 → ss ≤ 7302197 → ax_W X 7 1092 [some (.retAddr b), some (.ref 0), some (.ref 210), some (.ref 227), some (.int (nI i)), none, none] [] S I R L cs ss) :
    ∀ (f i : Nat) (I : ax_I) (R : ax_R) (L : ax_L) (cs ss : Nat), i ≤ 6000 → n ≤ i + 5 * f → P i I R L → cs + f ≤ 600002 → ss + 6 * f ≤ 7302197 → ax_W X 7 43 [some (.retAddr b), some (.ref 0), some (.ref 210), some (.ref 227), some (.int (nI i)), none, none] [] S I R L cs ss := by
  have hn31 : n < 2 ^ 31 := by omega
  intro f
  induction f with
  | zero =>
    intro i I R L cs ss hi hf hp hc hs
    refine ax_iload (q := 45) hX dc_L_law_43 rfl rfl ?_
    refine ax_saload_n (q := 46) hX dc_L_law_45 rfl rfl rfl ?_
    refine ax_slen (q := 47) hX hscr dc_L_law_46 rfl ?_
    refine ax_iconst (v := 5) (q := 48) hX dc_L_law_47 rfl (by decide) ?_
    refine ax_isub (q := 49) hX dc_L_law_48 rfl ?_
    refine ax_icmp_gt (tgt := 1092) (q := 52) hX dc_L_law_49 rfl (by decide) (fun z => ?_) (fun z => ?_)
    · exact fin i I R L cs ss (by omega) (by omega)
    · exact absurd ((lw_gt (by omega) (by omega)).mpr (by omega)) z
  | succ f ih =>
    intro i I R L cs ss hi hf hp hc hs
    refine ax_iload (q := 45) hX dc_L_law_43 rfl rfl ?_
    refine ax_saload_n (q := 46) hX dc_L_law_45 rfl rfl rfl ?_
    refine ax_slen (q := 47) hX hscr dc_L_law_46 rfl ?_
    refine ax_iconst (v := 5) (q := 48) hX dc_L_law_47 rfl (by decide) ?_
    refine ax_isub (q := 49) hX dc_L_law_48 rfl ?_
    refine ax_icmp_gt (tgt := 1092) (q := 52) hX dc_L_law_49 rfl (by decide) (fun z => ?_) (fun z => ?_)
    · exact fin i I R L cs ss (by omega) (by omega)
    have hi5 : i + 5 ≤ n := by
      rcases Nat.lt_or_ge n (i + 5) with h | h
      · exact absurd ((lw_gt (by omega) (by omega)).mpr h) z
      · exact h
    obtain ⟨hty, out, hd, hp2⟩ := hP i I R L hi5 hp
    have next : ∀ cs2, cs2 ≤ cs + 1 → ∀ ss2, ss2 ≤ ss + 6 → ax_W X 7 1086 [some (.retAddr b), some (.ref 0), some (.ref 210), some (.ref 227), some (.int (nI i)), none, none] [] S out.1 out.2.1 out.2.2 cs2 ss2 := by
      intro cs2 h1 ss2 h2
      refine ax_iinc (v := nI (i + 5)) (ls' := [some (.retAddr b), some (.ref 0), some (.ref 210), some (.ref 227), some (.int (nI (i + 5))), none, none]) (q := 1089) hX dc_L_law_1086 rfl rfl (nI_add i 5) (by decide) rfl ?_
      refine ax_goto (tgt := 43) hX dc_L_law_1089 (by decide) ?_
      exact ih (i + 5) out.1 out.2.1 out.2.2 cs2 ss2 (by omega) (by omega) hp2 (by omega) (by omega)
    refine ax_saload_n (q := 53) hX dc_L_law_52 rfl rfl rfl ?_
    refine ax_iload (q := 55) hX dc_L_law_53 rfl rfl ?_
    refine ax_sld (q := 56) hX hscr i dc_L_law_55 rfl rfl (by omega) hn31 ?_
    refine ax_bipush (v := 31) (q := 58) hX dc_L_law_56 rfl (by decide) ?_
    refine ax_iand (q := 59) hX dc_L_law_58 rfl ?_
    have hc1 : cs + 1 ≤ 600002 := by omega
    have hs1 : ss + 6 ≤ 7302197 := by omega
    unfold d_L_step at hd
    by_cases y0 : sc i &&& 31 = 0
    · rw [if_pos y0] at hd
      refine ax_tsIn (tgt := 140) hX dc_L_law_59 (by rw [y0]; decide) (by rw [y0]; decide) (by rw [y0]; rfl) (by decide) ?_
      exact e_L_140 hl0 hX hscr hn31 hs0 hs5 hso hi5 hty hd hc1 hs1 next
    rw [if_neg y0] at hd
    by_cases y1 : sc i &&& 31 = 1
    · rw [if_pos y1] at hd
      refine ax_tsIn (tgt := 232) hX dc_L_law_59 (by rw [y1]; decide) (by rw [y1]; decide) (by rw [y1]; rfl) (by decide) ?_
      exact e_L_232 hl0 hX hscr hn31 hs0 hs5 hso hi5 hty hd hc1 hs1 next
    rw [if_neg y1] at hd
    by_cases y2 : sc i &&& 31 = 2
    · rw [if_pos y2] at hd
      refine ax_tsIn (tgt := 300) hX dc_L_law_59 (by rw [y2]; decide) (by rw [y2]; decide) (by rw [y2]; rfl) (by decide) ?_
      exact e_L_300 hl0 hX hscr hn31 hs0 hs5 hso hi5 hty hd hc1 hs1 next
    rw [if_neg y2] at hd
    by_cases y3 : sc i &&& 31 = 3
    · rw [if_pos y3] at hd
      refine ax_tsIn (tgt := 380) hX dc_L_law_59 (by rw [y3]; decide) (by rw [y3]; decide) (by rw [y3]; rfl) (by decide) ?_
      exact e_L_380 hl0 hX hscr hn31 hs0 hs5 hso hi5 hty hd hc1 hs1 next
    rw [if_neg y3] at hd
    by_cases y4 : sc i &&& 31 = 4
    · rw [if_pos y4] at hd
      refine ax_tsIn (tgt := 472) hX dc_L_law_59 (by rw [y4]; decide) (by rw [y4]; decide) (by rw [y4]; rfl) (by decide) ?_
      exact e_L_472 hl0 hX hscr hn31 hs0 hs5 hso hi5 hty hd hc1 hs1 next
    rw [if_neg y4] at hd
    by_cases y5 : sc i &&& 31 = 5
    · rw [if_pos y5] at hd
      refine ax_tsIn (tgt := 528) hX dc_L_law_59 (by rw [y5]; decide) (by rw [y5]; decide) (by rw [y5]; rfl) (by decide) ?_
      exact e_L_528 hl0 hX hscr hn31 hs0 hs5 hso hi5 hty hd hc1 hs1 next
    rw [if_neg y5] at hd
    by_cases y6 : sc i &&& 31 = 6
    · rw [if_pos y6] at hd
      refine ax_tsIn (tgt := 584) hX dc_L_law_59 (by rw [y6]; decide) (by rw [y6]; decide) (by rw [y6]; rfl) (by decide) ?_
      exact e_L_584 hl0 hX hscr hn31 hs0 hs5 hso hi5 hty hd hc1 hs1 next
    rw [if_neg y6] at hd
    by_cases y7 : sc i &&& 31 = 7
    · rw [if_pos y7] at hd
      refine ax_tsIn (tgt := 597) hX dc_L_law_59 (by rw [y7]; decide) (by rw [y7]; decide) (by rw [y7]; rfl) (by decide) ?_
      exact e_L_597 hl0 hX hscr hn31 hs0 hs5 hso hi5 hty hd hc1 hs1 next
    rw [if_neg y7] at hd
    by_cases y8 : sc i &&& 31 = 8
    · rw [if_pos y8] at hd
      refine ax_tsIn (tgt := 653) hX dc_L_law_59 (by rw [y8]; decide) (by rw [y8]; decide) (by rw [y8]; rfl) (by decide) ?_
      exact e_L_653 hl0 hX hscr hn31 hs0 hs5 hso hi5 hty hd hc1 hs1 next
    rw [if_neg y8] at hd
    by_cases y9 : sc i &&& 31 = 9
    · rw [if_pos y9] at hd
      refine ax_tsIn (tgt := 721) hX dc_L_law_59 (by rw [y9]; decide) (by rw [y9]; decide) (by rw [y9]; rfl) (by decide) ?_
      exact e_L_721 hl0 hX hscr hn31 hs0 hs5 hso hi5 hty hd hc1 hs1 next
    rw [if_neg y9] at hd
    by_cases y10 : sc i &&& 31 = 10
    · rw [if_pos y10] at hd
      refine ax_tsIn (tgt := 789) hX dc_L_law_59 (by rw [y10]; decide) (by rw [y10]; decide) (by rw [y10]; rfl) (by decide) ?_
      exact e_L_789 hl0 hX hscr hn31 hs0 hs5 hso hi5 hty hd hc1 hs1 next
    rw [if_neg y10] at hd
    by_cases y11 : sc i &&& 31 = 11
    · rw [if_pos y11] at hd
      refine ax_tsIn (tgt := 857) hX dc_L_law_59 (by rw [y11]; decide) (by rw [y11]; decide) (by rw [y11]; rfl) (by decide) ?_
      exact e_L_857 hl0 hX hscr hn31 hs0 hs5 hso hi5 hty hd hc1 hs1 next
    rw [if_neg y11] at hd
    by_cases y12 : sc i &&& 31 = 12
    · rw [if_pos y12] at hd
      refine ax_tsIn (tgt := 925) hX dc_L_law_59 (by rw [y12]; decide) (by rw [y12]; decide) (by rw [y12]; rfl) (by decide) ?_
      exact e_L_925 hl0 hX hscr hn31 hs0 hs5 hso hi5 hty hd hc1 hs1 next
    rw [if_neg y12] at hd
    by_cases y13 : sc i &&& 31 = 13
    · rw [if_pos y13] at hd
      refine ax_tsIn (tgt := 938) hX dc_L_law_59 (by rw [y13]; decide) (by rw [y13]; decide) (by rw [y13]; rfl) (by decide) ?_
      exact e_L_938 hl0 hX hscr hn31 hs0 hs5 hso hi5 hty hd hc1 hs1 next
    rw [if_neg y13] at hd
    by_cases y14 : sc i &&& 31 = 14
    · rw [if_pos y14] at hd
      refine ax_tsIn (tgt := 994) hX dc_L_law_59 (by rw [y14]; decide) (by rw [y14]; decide) (by rw [y14]; rfl) (by decide) ?_
      exact e_L_994 hl0 hX hscr hn31 hs0 hs5 hso hi5 hty hd hc1 hs1 next
    rw [if_neg y14] at hd
    by_cases y15 : sc i &&& 31 = 15
    · rw [if_pos y15] at hd
      refine ax_tsIn (tgt := 1050) hX dc_L_law_59 (by rw [y15]; decide) (by rw [y15]; decide) (by rw [y15]; rfl) (by decide) ?_
      exact e_L_1050 hl0 hX hscr hn31 hs0 hs5 hso hi5 hty hd hc1 hs1 next
    rw [if_neg y15] at hd
    by_cases y16 : sc i &&& 31 = 16
    · rw [if_pos y16] at hd
      refine ax_tsIn (tgt := 1075) hX dc_L_law_59 (by rw [y16]; decide) (by rw [y16]; decide) (by rw [y16]; rfl) (by decide) ?_
      exact e_L_1075 hl0 hX hscr hn31 hs0 hs5 hso hi5 hty hd hc1 hs1 next
    rw [if_neg y16] at hd
    refine ax_tsOut (tgt := 1086) hX dc_L_law_59 (ax_outL y0 y1 y2 y3 y4 y5 y6 y7 y8 y9 y10 y11 y12 y13 y14 y15 y16) (by decide) ?_
    cases hd
    exact next cs (by omega) ss (by omega)
