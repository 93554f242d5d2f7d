def d_L_140 (S : ax_S) (sc : Nat → Int32) (i : Nat) (I : ax_I) (R : ax_R) (L : ax_L) : Option (ax_I × ax_R × ax_L) :=
  (d_K_tile S I R 0 (sc (i + 1)) (sc (i + 2)) (sc (i + 3)) (sc (i + 4))).bind fun r1 =>
  (hc_tile r1.1).bind fun k3 =>
  (d_M_tile S r1.2 R 210 (sc (i + 1)) (sc (i + 2)) (sc (i + 3)) (sc (i + 4))).bind fun r5 =>
  (d_M_thrown S r5.2 R 210 ).bind fun r7 =>
  if r7 = k3 then
    if k3 = 0 then
      if (lg_cmp ((hcL r1.1 L 227) 227 0) ((r5.1).toInt64)) = 0 then
        some (r5.2, R, (hcL r1.1 L 227))
      else
        none
    else
      some (r5.2, R, (hcL r1.1 L 227))
  else
    none
set_option maxHeartbeats 1000000 in
theorem e_L_140 {X : ax_X} {l : Launch} (hl0 : l.stackTraces = false) (hX : ax_ok X l "LossFreeToolsLaw" code 7 (ax_rm 10 600002 7302197)) {b n : Nat} {sc : Nat → Int32} (hscr : ax_scrG (ax_GX X) b n sc) (hn31 : n < 2 ^ 31) {S : ax_S} (hs0 : S 0 = some (.inl 4)) (hs5 : S 210 = some (.inl 5)) (hso : S 227 = some (.inr (1, 1))) {i : Nat} (hi : i + 5 ≤ n) {I : ax_I} {R : ax_R} {L : ax_L} (hty : ax_typ S R) {out : ax_I × ax_R × ax_L} (h : d_L_140 S sc i I R L = some out) {cs ss : Nat} (hc1 : cs + 1 ≤ 600002) (hs1 : ss + 6 ≤ 7302197) (kk : ∀ cs2, cs2 ≤ cs + 1 → ∀ ss2, ss2 ≤ ss + 6 → ax_W X 7 1086 [some (.retAddr b), some (.ref 0), some (.ref 210), some (.ref 227), some (.int (nI i)), none, none] [] S out.1 out.2.1 out.2.2 cs2 ss2) : ax_W X 7 140 [some (.retAddr b), some (.ref 0), some (.ref 210), some (.ref 227), some (.int (nI i)), none, none] [] S I R L cs ss := by
  have hc0 : cs ≤ 600002 := Nat.le_of_succ_le hc1
  have hss0 : ss ≤ 7302197 := Nat.le_trans (Nat.le_add_right _ _) hs1
  unfold d_L_140 at h
  refine ax_aload_n (q := 141) hX dc_L_law_140 rfl rfl rfl ?_
  refine ax_saload_n (q := 142) hX dc_L_law_141 rfl rfl rfl ?_
  refine ax_iload (q := 144) hX dc_L_law_142 rfl rfl ?_
  refine ax_iconst (v := 1) (q := 145) hX dc_L_law_144 rfl (by decide) ?_
  refine ax_iadd (q := 146) hX dc_L_law_145 rfl ?_
  refine ax_sld (q := 147) hX hscr (i + 1) dc_L_law_146 rfl (nI_add i 1) (by omega) hn31 ?_
  refine ax_saload_n (q := 148) hX dc_L_law_147 rfl rfl rfl ?_
  refine ax_iload (q := 150) hX dc_L_law_148 rfl rfl ?_
  refine ax_iconst (v := 2) (q := 151) hX dc_L_law_150 rfl (by decide) ?_
  refine ax_iadd (q := 152) hX dc_L_law_151 rfl ?_
  refine ax_sld (q := 153) hX hscr (i + 2) dc_L_law_152 rfl (nI_add i 2) (by omega) hn31 ?_
  refine ax_saload_n (q := 154) hX dc_L_law_153 rfl rfl rfl ?_
  refine ax_iload (q := 156) hX dc_L_law_154 rfl rfl ?_
  refine ax_iconst (v := 3) (q := 157) hX dc_L_law_156 rfl (by decide) ?_
  refine ax_iadd (q := 158) hX dc_L_law_157 rfl ?_
  refine ax_sld (q := 159) hX hscr (i + 3) dc_L_law_158 rfl (nI_add i 3) (by omega) hn31 ?_
  refine ax_saload_n (q := 160) hX dc_L_law_159 rfl rfl rfl ?_
  refine ax_iload (q := 162) hX dc_L_law_160 rfl rfl ?_
  refine ax_iconst (v := 4) (q := 163) hX dc_L_law_162 rfl (by decide) ?_
  refine ax_iadd (q := 164) hX dc_L_law_163 rfl ?_
  refine ax_sld (q := 165) hX hscr (i + 4) dc_L_law_164 rfl (nI_add i 4) (by omega) hn31 ?_
  refine ax_aload_n (q := 166) hX dc_L_law_165 rfl rfl rfl ?_
  obtain ⟨r1, hr2, h⟩ := ax_bd h
  obtain ⟨k3, hk4, h⟩ := ax_bd h
  refine ax_callSW (q := 169) (n := 6) (vs := [.ref 0, .int (sc (i + 1)), .int (sc (i + 2)), .int (sc (i + 3)), .int (sc (i + 4)), .ref 227]) (rest := []) hX dc_L_law_166 rfl wcw_L_tile wn_LossFreeToolsLaw ⟨by decide +kernel, by decide +kernel⟩ (by decide +kernel) wl_L_72 wt_L_tile (c_L_tile l hs0 hso (c_K_tile l hl0 hty hs0 hr2) hk4) rfl (by decide) rfl (Nat.le_of_ble_eq_true rfl) hc1 hs1 (fun q0 S2 I2 R2 L2 hq0 _ => ?_)
  obtain ⟨q1, q2, q3, q4, q5⟩ := hq0
  rw [q1, q2, q3, q4, q5]
  clear q1 q2 q3 q4 q5
  show ax_W X 7 169 [some (.retAddr b), some (.ref 0), some (.ref 210), some (.ref 227), some (.int (nI i)), none, none] [.int (k3)] S r1.2 R (hcL r1.1 L 227) (cs + 1) (ss + 6)
  refine ax_istore (ls' := [some (.retAddr b), some (.ref 0), some (.ref 210), some (.ref 227), some (.int (nI i)), some (.int (k3)), none]) (q := 171) hX dc_L_law_169 rfl (by decide) rfl ?_
  refine ax_aload_n (q := 172) hX dc_L_law_171 rfl rfl rfl ?_
  refine ax_saload_n (q := 173) hX dc_L_law_172 rfl rfl rfl ?_
  refine ax_iload (q := 175) hX dc_L_law_173 rfl rfl ?_
  refine ax_iconst (v := 1) (q := 176) hX dc_L_law_175 rfl (by decide) ?_
  refine ax_iadd (q := 177) hX dc_L_law_176 rfl ?_
  refine ax_sld (q := 178) hX hscr (i + 1) dc_L_law_177 rfl (nI_add i 1) (by omega) hn31 ?_
  refine ax_saload_n (q := 179) hX dc_L_law_178 rfl rfl rfl ?_
  refine ax_iload (q := 181) hX dc_L_law_179 rfl rfl ?_
  refine ax_iconst (v := 2) (q := 182) hX dc_L_law_181 rfl (by decide) ?_
  refine ax_iadd (q := 183) hX dc_L_law_182 rfl ?_
  refine ax_sld (q := 184) hX hscr (i + 2) dc_L_law_183 rfl (nI_add i 2) (by omega) hn31 ?_
  refine ax_saload_n (q := 185) hX dc_L_law_184 rfl rfl rfl ?_
  refine ax_iload (q := 187) hX dc_L_law_185 rfl rfl ?_
  refine ax_iconst (v := 3) (q := 188) hX dc_L_law_187 rfl (by decide) ?_
  refine ax_iadd (q := 189) hX dc_L_law_188 rfl ?_
  refine ax_sld (q := 190) hX hscr (i + 3) dc_L_law_189 rfl (nI_add i 3) (by omega) hn31 ?_
  refine ax_saload_n (q := 191) hX dc_L_law_190 rfl rfl rfl ?_
  refine ax_iload (q := 193) hX dc_L_law_191 rfl rfl ?_
  refine ax_iconst (v := 4) (q := 194) hX dc_L_law_193 rfl (by decide) ?_
  refine ax_iadd (q := 195) hX dc_L_law_194 rfl ?_
  refine ax_sld (q := 196) hX hscr (i + 4) dc_L_law_195 rfl (nI_add i 4) (by omega) hn31 ?_
  obtain ⟨r5, hr6, h⟩ := ax_bd h
  refine ax_kV (vs := [.int (sc (i + 1)), .int (sc (i + 2)), .int (sc (i + 3)), .int (sc (i + 4))]) (rest := []) (q := 199) hX dc_L_law_196 rfl mt_M_tile wl_L_75 wi_M_tile ws_M_tile hs5 rfl (c_M_tile l hty hs5 hr6) rfl (by decide) rfl (Nat.le_of_ble_eq_true rfl) rfl rfl hc1 hs1 rfl ?_
  refine ax_istore (ls' := [some (.retAddr b), some (.ref 0), some (.ref 210), some (.ref 227), some (.int (nI i)), some (.int (k3)), some (.int (r5.1))]) (q := 201) hX dc_L_law_199 rfl (by decide) rfl ?_
  refine ax_aload_n (q := 202) hX dc_L_law_201 rfl rfl rfl ?_
  obtain ⟨r7, hr8, h⟩ := ax_bd h
  refine ax_kV (vs := []) (rest := []) (q := 205) hX dc_L_law_202 rfl mt_M_thrown wl_L_76 wi_M_thrown ws_M_thrown hs5 rfl (c_M_thrown l hty hs5 hr8) rfl (by decide) rfl (Nat.le_of_ble_eq_true rfl) rfl rfl hc1 hs1 rfl ?_
  refine ax_iload (q := 207) hX dc_L_law_205 rfl rfl ?_
  refine ax_icmp_eq (tgt := 212) (q := 210) hX dc_L_law_207 rfl (by decide) (fun z9 => ?_) (fun z9 => ?_)
  · rw [if_pos z9] at h
    refine ax_iload (q := 214) hX dc_L_law_212 rfl rfl ?_
    refine ax_if_ne (tgt := 229) (q := 217) hX dc_L_law_214 rfl (by decide) (fun z10 => ?_) (fun z10 => ?_)
    · rw [if_neg z10] at h
      refine ax_goto (tgt := 1086) hX dc_L_law_229 (by decide) ?_
      cases h
      exact ax_weak (ls' := [some (.retAddr b), some (.ref 0), some (.ref 210), some (.ref 227), some (.int (nI i)), none, none]) (ax_fewP_s _ _ (by repeat (first | exact trivial | (refine And.intro rfl ?_)))) (kk _ (by first | exact Nat.le_refl _ | exact Nat.le_succ _) _ (by first | exact Nat.le_refl _ | exact Nat.le_add_right _ _))
    · rw [if_pos z10] at h
      refine ax_aload_n (q := 218) hX dc_L_law_217 rfl rfl rfl ?_
      refine ax_iconst (v := 0) (q := 219) hX dc_L_law_218 rfl (by decide) ?_
      refine ax_lald (q := 220) hX 0 dc_L_law_219 rfl hso rfl (by decide) (by decide) ?_
      refine ax_iload (q := 222) hX dc_L_law_220 rfl rfl ?_
      refine ax_i2l (q := 223) hX dc_L_law_222 rfl rfl ?_
      refine ax_lcmp (q := 224) hX dc_L_law_223 rfl ?_
      refine ax_if_eq (tgt := 229) (q := 227) hX dc_L_law_224 rfl (by decide) (fun z11 => ?_) (fun z11 => ?_)
      · rw [if_pos z11] at h
        refine ax_goto (tgt := 1086) hX dc_L_law_229 (by decide) ?_
        cases h
        exact ax_weak (ls' := [some (.retAddr b), some (.ref 0), some (.ref 210), some (.ref 227), some (.int (nI i)), none, none]) (ax_fewP_s _ _ (by repeat (first | exact trivial | (refine And.intro rfl ?_)))) (kk _ (by first | exact Nat.le_refl _ | exact Nat.le_succ _) _ (by first | exact Nat.le_refl _ | exact Nat.le_add_right _ _))
      · rw [if_neg z11] at h
        cases h
  · rw [if_neg z9] at h
    cases h
def d_L_232 (S : ax_S) (sc : Nat → Int32) (i : Nat) (I : ax_I) (R : ax_R) (L : ax_L) : Option (ax_I × ax_R × ax_L) :=
  (d_K_byteOf S I R 0 (sc (i + 1)) (sc (i + 2))).bind fun r12 =>
  (hc_byteOf r12.1).bind fun k14 =>
  (d_M_byteOf S r12.2 R 210 (sc (i + 1)) (sc (i + 2))).bind fun r16 =>
  (d_M_thrown S r16.2 R 210 ).bind fun r18 =>
  if r18 = k14 then
    if k14 = 0 then
      if (lg_cmp ((hcL r12.1 L 227) 227 0) ((r16.1).toInt64)) = 0 then
        some (r16.2, R, (hcL r12.1 L 227))
      else
        none
    else
      some (r16.2, R, (hcL r12.1 L 227))
  else
    none
set_option maxHeartbeats 1000000 in
theorem e_L_232 {X : ax_X} {l : Launch} (hl0 : l.stackTraces = false) (hX : ax_ok X l "LossFreeToolsLaw" code 7 (ax_rm 10 600002 7302197)) {b n : Nat} {sc : Nat → Int32} (hscr : ax_scrG (ax_GX X) b n sc) (hn31 : n < 2 ^ 31) {S : ax_S} (hs0 : S 0 = some (.inl 4)) (hs5 : S 210 = some (.inl 5)) (hso : S 227 = some (.inr (1, 1))) {i : Nat} (hi : i + 5 ≤ n) {I : ax_I} {R : ax_R} {L : ax_L} (hty : ax_typ S R) {out : ax_I × ax_R × ax_L} (h : d_L_232 S sc i I R L = some out) {cs ss : Nat} (hc1 : cs + 1 ≤ 600002) (hs1 : ss + 6 ≤ 7302197) (kk : ∀ cs2, cs2 ≤ cs + 1 → ∀ ss2, ss2 ≤ ss + 6 → ax_W X 7 1086 [some (.retAddr b), some (.ref 0), some (.ref 210), some (.ref 227), some (.int (nI i)), none, none] [] S out.1 out.2.1 out.2.2 cs2 ss2) : ax_W X 7 232 [some (.retAddr b), some (.ref 0), some (.ref 210), some (.ref 227), some (.int (nI i)), none, none] [] S I R L cs ss := by
  have hc0 : cs ≤ 600002 := Nat.le_of_succ_le hc1
  have hss0 : ss ≤ 7302197 := Nat.le_trans (Nat.le_add_right _ _) hs1
  unfold d_L_232 at h
  refine ax_aload_n (q := 233) hX dc_L_law_232 rfl rfl rfl ?_
  refine ax_saload_n (q := 234) hX dc_L_law_233 rfl rfl rfl ?_
  refine ax_iload (q := 236) hX dc_L_law_234 rfl rfl ?_
  refine ax_iconst (v := 1) (q := 237) hX dc_L_law_236 rfl (by decide) ?_
  refine ax_iadd (q := 238) hX dc_L_law_237 rfl ?_
  refine ax_sld (q := 239) hX hscr (i + 1) dc_L_law_238 rfl (nI_add i 1) (by omega) hn31 ?_
  refine ax_saload_n (q := 240) hX dc_L_law_239 rfl rfl rfl ?_
  refine ax_iload (q := 242) hX dc_L_law_240 rfl rfl ?_
  refine ax_iconst (v := 2) (q := 243) hX dc_L_law_242 rfl (by decide) ?_
  refine ax_iadd (q := 244) hX dc_L_law_243 rfl ?_
  refine ax_sld (q := 245) hX hscr (i + 2) dc_L_law_244 rfl (nI_add i 2) (by omega) hn31 ?_
  refine ax_aload_n (q := 246) hX dc_L_law_245 rfl rfl rfl ?_
  obtain ⟨r12, hr13, h⟩ := ax_bd h
  obtain ⟨k14, hk15, h⟩ := ax_bd h
  refine ax_callSW (q := 249) (n := 4) (vs := [.ref 0, .int (sc (i + 1)), .int (sc (i + 2)), .ref 227]) (rest := []) hX dc_L_law_246 rfl wcw_L_byteOf wn_LossFreeToolsLaw ⟨by decide +kernel, by decide +kernel⟩ (by decide +kernel) wl_L_80 wt_L_byteOf (c_L_byteOf l hs0 hso (c_K_byteOf l hl0 hty hs0 hr13) hk15) rfl (by decide) rfl (Nat.le_of_ble_eq_true rfl) hc1 hs1 (fun q0 S2 I2 R2 L2 hq0 _ => ?_)
  obtain ⟨q1, q2, q3, q4, q5⟩ := hq0
  rw [q1, q2, q3, q4, q5]
  clear q1 q2 q3 q4 q5
  show ax_W X 7 249 [some (.retAddr b), some (.ref 0), some (.ref 210), some (.ref 227), some (.int (nI i)), none, none] [.int (k14)] S r12.2 R (hcL r12.1 L 227) (cs + 1) (ss + 6)
  refine ax_istore (ls' := [some (.retAddr b), some (.ref 0), some (.ref 210), some (.ref 227), some (.int (nI i)), some (.int (k14)), none]) (q := 251) hX dc_L_law_249 rfl (by decide) rfl ?_
  refine ax_aload_n (q := 252) hX dc_L_law_251 rfl rfl rfl ?_
  refine ax_saload_n (q := 253) hX dc_L_law_252 rfl rfl rfl ?_
  refine ax_iload (q := 255) hX dc_L_law_253 rfl rfl ?_
  refine ax_iconst (v := 1) (q := 256) hX dc_L_law_255 rfl (by decide) ?_
  refine ax_iadd (q := 257) hX dc_L_law_256 rfl ?_
  refine ax_sld (q := 258) hX hscr (i + 1) dc_L_law_257 rfl (nI_add i 1) (by omega) hn31 ?_
  refine ax_saload_n (q := 259) hX dc_L_law_258 rfl rfl rfl ?_
  refine ax_iload (q := 261) hX dc_L_law_259 rfl rfl ?_
  refine ax_iconst (v := 2) (q := 262) hX dc_L_law_261 rfl (by decide) ?_
  refine ax_iadd (q := 263) hX dc_L_law_262 rfl ?_
  refine ax_sld (q := 264) hX hscr (i + 2) dc_L_law_263 rfl (nI_add i 2) (by omega) hn31 ?_
  obtain ⟨r16, hr17, h⟩ := ax_bd h
  refine ax_kV (vs := [.int (sc (i + 1)), .int (sc (i + 2))]) (rest := []) (q := 267) hX dc_L_law_264 rfl mt_M_byteOf wl_L_83 wi_M_byteOf ws_M_byteOf hs5 rfl (c_M_byteOf l hty hs5 hr17) rfl (by decide) rfl (Nat.le_of_ble_eq_true rfl) rfl rfl hc1 hs1 rfl ?_
  refine ax_istore (ls' := [some (.retAddr b), some (.ref 0), some (.ref 210), some (.ref 227), some (.int (nI i)), some (.int (k14)), some (.int (r16.1))]) (q := 269) hX dc_L_law_267 rfl (by decide) rfl ?_
  refine ax_aload_n (q := 270) hX dc_L_law_269 rfl rfl rfl ?_
  obtain ⟨r18, hr19, h⟩ := ax_bd h
  refine ax_kV (vs := []) (rest := []) (q := 273) hX dc_L_law_270 rfl mt_M_thrown wl_L_76 wi_M_thrown ws_M_thrown hs5 rfl (c_M_thrown l hty hs5 hr19) rfl (by decide) rfl (Nat.le_of_ble_eq_true rfl) rfl rfl hc1 hs1 rfl ?_
  refine ax_iload (q := 275) hX dc_L_law_273 rfl rfl ?_
  refine ax_icmp_eq (tgt := 280) (q := 278) hX dc_L_law_275 rfl (by decide) (fun z20 => ?_) (fun z20 => ?_)
  · rw [if_pos z20] at h
    refine ax_iload (q := 282) hX dc_L_law_280 rfl rfl ?_
    refine ax_if_ne (tgt := 297) (q := 285) hX dc_L_law_282 rfl (by decide) (fun z21 => ?_) (fun z21 => ?_)
    · rw [if_neg z21] at h
      refine ax_goto (tgt := 1086) hX dc_L_law_297 (by decide) ?_
      cases h
      exact ax_weak (ls' := [some (.retAddr b), some (.ref 0), some (.ref 210), some (.ref 227), some (.int (nI i)), none, none]) (ax_fewP_s _ _ (by repeat (first | exact trivial | (refine And.intro rfl ?_)))) (kk _ (by first | exact Nat.le_refl _ | exact Nat.le_succ _) _ (by first | exact Nat.le_refl _ | exact Nat.le_add_right _ _))
    · rw [if_pos z21] at h
      refine ax_aload_n (q := 286) hX dc_L_law_285 rfl rfl rfl ?_
      refine ax_iconst (v := 0) (q := 287) hX dc_L_law_286 rfl (by decide) ?_
      refine ax_lald (q := 288) hX 0 dc_L_law_287 rfl hso rfl (by decide) (by decide) ?_
      refine ax_iload (q := 290) hX dc_L_law_288 rfl rfl ?_
      refine ax_i2l (q := 291) hX dc_L_law_290 rfl rfl ?_
      refine ax_lcmp (q := 292) hX dc_L_law_291 rfl ?_
      refine ax_if_eq (tgt := 297) (q := 295) hX dc_L_law_292 rfl (by decide) (fun z22 => ?_) (fun z22 => ?_)
      · rw [if_pos z22] at h
        refine ax_goto (tgt := 1086) hX dc_L_law_297 (by decide) ?_
        cases h
        exact ax_weak (ls' := [some (.retAddr b), some (.ref 0), some (.ref 210), some (.ref 227), some (.int (nI i)), none, none]) (ax_fewP_s _ _ (by repeat (first | exact trivial | (refine And.intro rfl ?_)))) (kk _ (by first | exact Nat.le_refl _ | exact Nat.le_succ _) _ (by first | exact Nat.le_refl _ | exact Nat.le_add_right _ _))
      · rw [if_neg z22] at h
        cases h
  · rw [if_neg z20] at h
    cases h
def d_L_300 (S : ax_S) (sc : Nat → Int32) (i : Nat) (I : ax_I) (R : ax_R) (L : ax_L) : Option (ax_I × ax_R × ax_L) :=
  (d_K_note S I R 0 (sc (i + 1)) (sc (i + 2)) (sc (i + 3))).bind fun r23 =>
  (hc_note r23.1).bind fun k25 =>
  (d_M_note S r23.2 R 210 (sc (i + 1)) (sc (i + 2)) (sc (i + 3))).bind fun r27 =>
  (d_M_thrown S r27.2 R 210 ).bind fun r29 =>
  if r29 = k25 then
    if k25 = 0 then
      if (lg_cmp ((hcL r23.1 L 227) 227 0) ((r27.1).toInt64)) = 0 then
        some (r27.2, R, (hcL r23.1 L 227))
      else
        none
    else
      some (r27.2, R, (hcL r23.1 L 227))
  else
    none
set_option maxHeartbeats 1000000 in
theorem e_L_300 {X : ax_X} {l : Launch} (hl0 : l.stackTraces = false) (hX : ax_ok X l "LossFreeToolsLaw" code 7 (ax_rm 10 600002 7302197)) {b n : Nat} {sc : Nat → Int32} (hscr : ax_scrG (ax_GX X) b n sc) (hn31 : n < 2 ^ 31) {S : ax_S} (hs0 : S 0 = some (.inl 4)) (hs5 : S 210 = some (.inl 5)) (hso : S 227 = some (.inr (1, 1))) {i : Nat} (hi : i + 5 ≤ n) {I : ax_I} {R : ax_R} {L : ax_L} (hty : ax_typ S R) {out : ax_I × ax_R × ax_L} (h : d_L_300 S sc i I R L = some out) {cs ss : Nat} (hc1 : cs + 1 ≤ 600002) (hs1 : ss + 6 ≤ 7302197) (kk : ∀ cs2, cs2 ≤ cs + 1 → ∀ ss2, ss2 ≤ ss + 6 → ax_W X 7 1086 [some (.retAddr b), some (.ref 0), some (.ref 210), some (.ref 227), some (.int (nI i)), none, none] [] S out.1 out.2.1 out.2.2 cs2 ss2) : ax_W X 7 300 [some (.retAddr b), some (.ref 0), some (.ref 210), some (.ref 227), some (.int (nI i)), none, none] [] S I R L cs ss := by
  have hc0 : cs ≤ 600002 := Nat.le_of_succ_le hc1
  have hss0 : ss ≤ 7302197 := Nat.le_trans (Nat.le_add_right _ _) hs1
  unfold d_L_300 at h
  refine ax_aload_n (q := 301) hX dc_L_law_300 rfl rfl rfl ?_
  refine ax_saload_n (q := 302) hX dc_L_law_301 rfl rfl rfl ?_
  refine ax_iload (q := 304) hX dc_L_law_302 rfl rfl ?_
  refine ax_iconst (v := 1) (q := 305) hX dc_L_law_304 rfl (by decide) ?_
  refine ax_iadd (q := 306) hX dc_L_law_305 rfl ?_
  refine ax_sld (q := 307) hX hscr (i + 1) dc_L_law_306 rfl (nI_add i 1) (by omega) hn31 ?_
  refine ax_saload_n (q := 308) hX dc_L_law_307 rfl rfl rfl ?_
  refine ax_iload (q := 310) hX dc_L_law_308 rfl rfl ?_
  refine ax_iconst (v := 2) (q := 311) hX dc_L_law_310 rfl (by decide) ?_
  refine ax_iadd (q := 312) hX dc_L_law_311 rfl ?_
  refine ax_sld (q := 313) hX hscr (i + 2) dc_L_law_312 rfl (nI_add i 2) (by omega) hn31 ?_
  refine ax_saload_n (q := 314) hX dc_L_law_313 rfl rfl rfl ?_
  refine ax_iload (q := 316) hX dc_L_law_314 rfl rfl ?_
  refine ax_iconst (v := 3) (q := 317) hX dc_L_law_316 rfl (by decide) ?_
  refine ax_iadd (q := 318) hX dc_L_law_317 rfl ?_
  refine ax_sld (q := 319) hX hscr (i + 3) dc_L_law_318 rfl (nI_add i 3) (by omega) hn31 ?_
  refine ax_aload_n (q := 320) hX dc_L_law_319 rfl rfl rfl ?_
  obtain ⟨r23, hr24, h⟩ := ax_bd h
  obtain ⟨k25, hk26, h⟩ := ax_bd h
  refine ax_callSW (q := 323) (n := 5) (vs := [.ref 0, .int (sc (i + 1)), .int (sc (i + 2)), .int (sc (i + 3)), .ref 227]) (rest := []) hX dc_L_law_320 rfl wcw_L_note wn_LossFreeToolsLaw ⟨by decide +kernel, by decide +kernel⟩ (by decide +kernel) wl_L_84 wt_L_note (c_L_note l hs0 hso (c_K_note l hl0 hty hs0 hr24) hk26) rfl (by decide) rfl (Nat.le_of_ble_eq_true rfl) hc1 hs1 (fun q0 S2 I2 R2 L2 hq0 _ => ?_)
  obtain ⟨q1, q2, q3, q4, q5⟩ := hq0
  rw [q1, q2, q3, q4, q5]
  clear q1 q2 q3 q4 q5
  show ax_W X 7 323 [some (.retAddr b), some (.ref 0), some (.ref 210), some (.ref 227), some (.int (nI i)), none, none] [.int (k25)] S r23.2 R (hcL r23.1 L 227) (cs + 1) (ss + 6)
  refine ax_istore (ls' := [some (.retAddr b), some (.ref 0), some (.ref 210), some (.ref 227), some (.int (nI i)), some (.int (k25)), none]) (q := 325) hX dc_L_law_323 rfl (by decide) rfl ?_
  refine ax_aload_n (q := 326) hX dc_L_law_325 rfl rfl rfl ?_
  refine ax_saload_n (q := 327) hX dc_L_law_326 rfl rfl rfl ?_
  refine ax_iload (q := 329) hX dc_L_law_327 rfl rfl ?_
  refine ax_iconst (v := 1) (q := 330) hX dc_L_law_329 rfl (by decide) ?_
  refine ax_iadd (q := 331) hX dc_L_law_330 rfl ?_
  refine ax_sld (q := 332) hX hscr (i + 1) dc_L_law_331 rfl (nI_add i 1) (by omega) hn31 ?_
  refine ax_saload_n (q := 333) hX dc_L_law_332 rfl rfl rfl ?_
  refine ax_iload (q := 335) hX dc_L_law_333 rfl rfl ?_
  refine ax_iconst (v := 2) (q := 336) hX dc_L_law_335 rfl (by decide) ?_
  refine ax_iadd (q := 337) hX dc_L_law_336 rfl ?_
  refine ax_sld (q := 338) hX hscr (i + 2) dc_L_law_337 rfl (nI_add i 2) (by omega) hn31 ?_
  refine ax_saload_n (q := 339) hX dc_L_law_338 rfl rfl rfl ?_
  refine ax_iload (q := 341) hX dc_L_law_339 rfl rfl ?_
  refine ax_iconst (v := 3) (q := 342) hX dc_L_law_341 rfl (by decide) ?_
  refine ax_iadd (q := 343) hX dc_L_law_342 rfl ?_
  refine ax_sld (q := 344) hX hscr (i + 3) dc_L_law_343 rfl (nI_add i 3) (by omega) hn31 ?_
  obtain ⟨r27, hr28, h⟩ := ax_bd h
  refine ax_kV (vs := [.int (sc (i + 1)), .int (sc (i + 2)), .int (sc (i + 3))]) (rest := []) (q := 347) hX dc_L_law_344 rfl mt_M_note wl_L_87 wi_M_note ws_M_note hs5 rfl (c_M_note l hty hs5 hr28) rfl (by decide) rfl (Nat.le_of_ble_eq_true rfl) rfl rfl hc1 hs1 rfl ?_
  refine ax_istore (ls' := [some (.retAddr b), some (.ref 0), some (.ref 210), some (.ref 227), some (.int (nI i)), some (.int (k25)), some (.int (r27.1))]) (q := 349) hX dc_L_law_347 rfl (by decide) rfl ?_
  refine ax_aload_n (q := 350) hX dc_L_law_349 rfl rfl rfl ?_
  obtain ⟨r29, hr30, h⟩ := ax_bd h
  refine ax_kV (vs := []) (rest := []) (q := 353) hX dc_L_law_350 rfl mt_M_thrown wl_L_76 wi_M_thrown ws_M_thrown hs5 rfl (c_M_thrown l hty hs5 hr30) rfl (by decide) rfl (Nat.le_of_ble_eq_true rfl) rfl rfl hc1 hs1 rfl ?_
  refine ax_iload (q := 355) hX dc_L_law_353 rfl rfl ?_
  refine ax_icmp_eq (tgt := 360) (q := 358) hX dc_L_law_355 rfl (by decide) (fun z31 => ?_) (fun z31 => ?_)
  · rw [if_pos z31] at h
    refine ax_iload (q := 362) hX dc_L_law_360 rfl rfl ?_
    refine ax_if_ne (tgt := 377) (q := 365) hX dc_L_law_362 rfl (by decide) (fun z32 => ?_) (fun z32 => ?_)
    · rw [if_neg z32] at h
      refine ax_goto (tgt := 1086) hX dc_L_law_377 (by decide) ?_
      cases h
      exact ax_weak (ls' := [some (.retAddr b), some (.ref 0), some (.ref 210), some (.ref 227), some (.int (nI i)), none, none]) (ax_fewP_s _ _ (by repeat (first | exact trivial | (refine And.intro rfl ?_)))) (kk _ (by first | exact Nat.le_refl _ | exact Nat.le_succ _) _ (by first | exact Nat.le_refl _ | exact Nat.le_add_right _ _))
    · rw [if_pos z32] at h
      refine ax_aload_n (q := 366) hX dc_L_law_365 rfl rfl rfl ?_
      refine ax_iconst (v := 0) (q := 367) hX dc_L_law_366 rfl (by decide) ?_
      refine ax_lald (q := 368) hX 0 dc_L_law_367 rfl hso rfl (by decide) (by decide) ?_
      refine ax_iload (q := 370) hX dc_L_law_368 rfl rfl ?_
      refine ax_i2l (q := 371) hX dc_L_law_370 rfl rfl ?_
      refine ax_lcmp (q := 372) hX dc_L_law_371 rfl ?_
      refine ax_if_eq (tgt := 377) (q := 375) hX dc_L_law_372 rfl (by decide) (fun z33 => ?_) (fun z33 => ?_)
      · rw [if_pos z33] at h
        refine ax_goto (tgt := 1086) hX dc_L_law_377 (by decide) ?_
        cases h
        exact ax_weak (ls' := [some (.retAddr b), some (.ref 0), some (.ref 210), some (.ref 227), some (.int (nI i)), none, none]) (ax_fewP_s _ _ (by repeat (first | exact trivial | (refine And.intro rfl ?_)))) (kk _ (by first | exact Nat.le_refl _ | exact Nat.le_succ _) _ (by first | exact Nat.le_refl _ | exact Nat.le_add_right _ _))
      · rw [if_neg z33] at h
        cases h
  · rw [if_neg z31] at h
    cases h
def d_L_380 (S : ax_S) (sc : Nat → Int32) (i : Nat) (I : ax_I) (R : ax_R) (L : ax_L) : Option (ax_I × ax_R × ax_L) :=
  (d_K_crop S I R 0 (sc (i + 1)) (sc (i + 2)) (sc (i + 3)) (sc (i + 4))).bind fun r34 =>
  (hc_crop r34.1).bind fun k36 =>
  (d_M_crop S r34.2.1 r34.2.2 210 (sc (i + 1)) (sc (i + 2)) (sc (i + 3)) (sc (i + 4))).bind fun r39 =>
  (d_M_thrown S r39.2 r34.2.2 210 ).bind fun r41 =>
  if r41 = k36 then
    if k36 = 0 then
      if (lg_cmp ((hcL r34.1 L 227) 227 0) ((r39.1).toInt64)) = 0 then
        some (r39.2, r34.2.2, (hcL r34.1 L 227))
      else
        none
    else
      some (r39.2, r34.2.2, (hcL r34.1 L 227))
  else
    none
set_option maxHeartbeats 1000000 in
theorem e_L_380 {X : ax_X} {l : Launch} (hl0 : l.stackTraces = false) (hX : ax_ok X l "LossFreeToolsLaw" code 7 (ax_rm 10 600002 7302197)) {b n : Nat} {sc : Nat → Int32} (hscr : ax_scrG (ax_GX X) b n sc) (hn31 : n < 2 ^ 31) {S : ax_S} (hs0 : S 0 = some (.inl 4)) (hs5 : S 210 = some (.inl 5)) (hso : S 227 = some (.inr (1, 1))) {i : Nat} (hi : i + 5 ≤ n) {I : ax_I} {R : ax_R} {L : ax_L} (hty : ax_typ S R) {out : ax_I × ax_R × ax_L} (h : d_L_380 S sc i I R L = some out) {cs ss : Nat} (hc1 : cs + 1 ≤ 600002) (hs1 : ss + 6 ≤ 7302197) (kk : ∀ cs2, cs2 ≤ cs + 1 → ∀ ss2, ss2 ≤ ss + 6 → ax_W X 7 1086 [some (.retAddr b), some (.ref 0), some (.ref 210), some (.ref 227), some (.int (nI i)), none, none] [] S out.1 out.2.1 out.2.2 cs2 ss2) : ax_W X 7 380 [some (.retAddr b), some (.ref 0), some (.ref 210), some (.ref 227), some (.int (nI i)), none, none] [] S I R L cs ss := by
  have hc0 : cs ≤ 600002 := Nat.le_of_succ_le hc1
  have hss0 : ss ≤ 7302197 := Nat.le_trans (Nat.le_add_right _ _) hs1
  unfold d_L_380 at h
  refine ax_aload_n (q := 381) hX dc_L_law_380 rfl rfl rfl ?_
  refine ax_saload_n (q := 382) hX dc_L_law_381 rfl rfl rfl ?_
  refine ax_iload (q := 384) hX dc_L_law_382 rfl rfl ?_
  refine ax_iconst (v := 1) (q := 385) hX dc_L_law_384 rfl (by decide) ?_
  refine ax_iadd (q := 386) hX dc_L_law_385 rfl ?_
  refine ax_sld (q := 387) hX hscr (i + 1) dc_L_law_386 rfl (nI_add i 1) (by omega) hn31 ?_
  refine ax_saload_n (q := 388) hX dc_L_law_387 rfl rfl rfl ?_
  refine ax_iload (q := 390) hX dc_L_law_388 rfl rfl ?_
  refine ax_iconst (v := 2) (q := 391) hX dc_L_law_390 rfl (by decide) ?_
  refine ax_iadd (q := 392) hX dc_L_law_391 rfl ?_
  refine ax_sld (q := 393) hX hscr (i + 2) dc_L_law_392 rfl (nI_add i 2) (by omega) hn31 ?_
  refine ax_saload_n (q := 394) hX dc_L_law_393 rfl rfl rfl ?_
  refine ax_iload (q := 396) hX dc_L_law_394 rfl rfl ?_
  refine ax_iconst (v := 3) (q := 397) hX dc_L_law_396 rfl (by decide) ?_
  refine ax_iadd (q := 398) hX dc_L_law_397 rfl ?_
  refine ax_sld (q := 399) hX hscr (i + 3) dc_L_law_398 rfl (nI_add i 3) (by omega) hn31 ?_
  refine ax_saload_n (q := 400) hX dc_L_law_399 rfl rfl rfl ?_
  refine ax_iload (q := 402) hX dc_L_law_400 rfl rfl ?_
  refine ax_iconst (v := 4) (q := 403) hX dc_L_law_402 rfl (by decide) ?_
  refine ax_iadd (q := 404) hX dc_L_law_403 rfl ?_
  refine ax_sld (q := 405) hX hscr (i + 4) dc_L_law_404 rfl (nI_add i 4) (by omega) hn31 ?_
  refine ax_aload_n (q := 406) hX dc_L_law_405 rfl rfl rfl ?_
  obtain ⟨r34, hr35, h⟩ := ax_bd h
  obtain ⟨k36, hk37, h⟩ := ax_bd h
  refine ax_callSW (q := 409) (n := 6) (vs := [.ref 0, .int (sc (i + 1)), .int (sc (i + 2)), .int (sc (i + 3)), .int (sc (i + 4)), .ref 227]) (rest := []) hX dc_L_law_406 rfl wcw_L_crop wn_LossFreeToolsLaw ⟨by decide +kernel, by decide +kernel⟩ (by decide +kernel) wl_L_88 wt_L_crop (c_L_crop l hs0 hso (c_K_crop l hl0 hty hs0 hr35) hk37) rfl (by decide) rfl (Nat.le_of_ble_eq_true rfl) hc1 hs1 (fun q0 S2 I2 R2 L2 hq0 _ => ?_)
  obtain ⟨q1, q2, q3, q4, q5⟩ := hq0
  rw [q1, q2, q3, q4, q5]
  clear q1 q2 q3 q4 q5
  show ax_W X 7 409 [some (.retAddr b), some (.ref 0), some (.ref 210), some (.ref 227), some (.int (nI i)), none, none] [.int (k36)] S r34.2.1 r34.2.2 (hcL r34.1 L 227) (cs + 1) (ss + 6)
  have ht38 : ax_typ S r34.2.2 := t_K_crop hty hs0 hr35
  refine ax_istore (ls' := [some (.retAddr b), some (.ref 0), some (.ref 210), some (.ref 227), some (.int (nI i)), some (.int (k36)), none]) (q := 411) hX dc_L_law_409 rfl (by decide) rfl ?_
  refine ax_aload_n (q := 412) hX dc_L_law_411 rfl rfl rfl ?_
  refine ax_saload_n (q := 413) hX dc_L_law_412 rfl rfl rfl ?_
  refine ax_iload (q := 415) hX dc_L_law_413 rfl rfl ?_
  refine ax_iconst (v := 1) (q := 416) hX dc_L_law_415 rfl (by decide) ?_
  refine ax_iadd (q := 417) hX dc_L_law_416 rfl ?_
  refine ax_sld (q := 418) hX hscr (i + 1) dc_L_law_417 rfl (nI_add i 1) (by omega) hn31 ?_
  refine ax_saload_n (q := 419) hX dc_L_law_418 rfl rfl rfl ?_
  refine ax_iload (q := 421) hX dc_L_law_419 rfl rfl ?_
  refine ax_iconst (v := 2) (q := 422) hX dc_L_law_421 rfl (by decide) ?_
  refine ax_iadd (q := 423) hX dc_L_law_422 rfl ?_
  refine ax_sld (q := 424) hX hscr (i + 2) dc_L_law_423 rfl (nI_add i 2) (by omega) hn31 ?_
  refine ax_saload_n (q := 425) hX dc_L_law_424 rfl rfl rfl ?_
  refine ax_iload (q := 427) hX dc_L_law_425 rfl rfl ?_
  refine ax_iconst (v := 3) (q := 428) hX dc_L_law_427 rfl (by decide) ?_
  refine ax_iadd (q := 429) hX dc_L_law_428 rfl ?_
  refine ax_sld (q := 430) hX hscr (i + 3) dc_L_law_429 rfl (nI_add i 3) (by omega) hn31 ?_
  refine ax_saload_n (q := 431) hX dc_L_law_430 rfl rfl rfl ?_
  refine ax_iload (q := 433) hX dc_L_law_431 rfl rfl ?_
  refine ax_iconst (v := 4) (q := 434) hX dc_L_law_433 rfl (by decide) ?_
  refine ax_iadd (q := 435) hX dc_L_law_434 rfl ?_
  refine ax_sld (q := 436) hX hscr (i + 4) dc_L_law_435 rfl (nI_add i 4) (by omega) hn31 ?_
  obtain ⟨r39, hr40, h⟩ := ax_bd h
  refine ax_kV (vs := [.int (sc (i + 1)), .int (sc (i + 2)), .int (sc (i + 3)), .int (sc (i + 4))]) (rest := []) (q := 439) hX dc_L_law_436 rfl mt_M_crop wl_L_90 wi_M_crop ws_M_crop hs5 rfl (c_M_crop l ht38 hs5 hr40) rfl (by decide) rfl (Nat.le_of_ble_eq_true rfl) rfl rfl hc1 hs1 rfl ?_
  refine ax_istore (ls' := [some (.retAddr b), some (.ref 0), some (.ref 210), some (.ref 227), some (.int (nI i)), some (.int (k36)), some (.int (r39.1))]) (q := 441) hX dc_L_law_439 rfl (by decide) rfl ?_
  refine ax_aload_n (q := 442) hX dc_L_law_441 rfl rfl rfl ?_
  obtain ⟨r41, hr42, h⟩ := ax_bd h
  refine ax_kV (vs := []) (rest := []) (q := 445) hX dc_L_law_442 rfl mt_M_thrown wl_L_76 wi_M_thrown ws_M_thrown hs5 rfl (c_M_thrown l ht38 hs5 hr42) rfl (by decide) rfl (Nat.le_of_ble_eq_true rfl) rfl rfl hc1 hs1 rfl ?_
  refine ax_iload (q := 447) hX dc_L_law_445 rfl rfl ?_
  refine ax_icmp_eq (tgt := 452) (q := 450) hX dc_L_law_447 rfl (by decide) (fun z43 => ?_) (fun z43 => ?_)
  · rw [if_pos z43] at h
    refine ax_iload (q := 454) hX dc_L_law_452 rfl rfl ?_
    refine ax_if_ne (tgt := 469) (q := 457) hX dc_L_law_454 rfl (by decide) (fun z44 => ?_) (fun z44 => ?_)
    · rw [if_neg z44] at h
      refine ax_goto (tgt := 1086) hX dc_L_law_469 (by decide) ?_
      cases h
      exact ax_weak (ls' := [some (.retAddr b), some (.ref 0), some (.ref 210), some (.ref 227), some (.int (nI i)), none, none]) (ax_fewP_s _ _ (by repeat (first | exact trivial | (refine And.intro rfl ?_)))) (kk _ (by first | exact Nat.le_refl _ | exact Nat.le_succ _) _ (by first | exact Nat.le_refl _ | exact Nat.le_add_right _ _))
    · rw [if_pos z44] at h
      refine ax_aload_n (q := 458) hX dc_L_law_457 rfl rfl rfl ?_
      refine ax_iconst (v := 0) (q := 459) hX dc_L_law_458 rfl (by decide) ?_
      refine ax_lald (q := 460) hX 0 dc_L_law_459 rfl hso rfl (by decide) (by decide) ?_
      refine ax_iload (q := 462) hX dc_L_law_460 rfl rfl ?_
      refine ax_i2l (q := 463) hX dc_L_law_462 rfl rfl ?_
      refine ax_lcmp (q := 464) hX dc_L_law_463 rfl ?_
      refine ax_if_eq (tgt := 469) (q := 467) hX dc_L_law_464 rfl (by decide) (fun z45 => ?_) (fun z45 => ?_)
      · rw [if_pos z45] at h
        refine ax_goto (tgt := 1086) hX dc_L_law_469 (by decide) ?_
        cases h
        exact ax_weak (ls' := [some (.retAddr b), some (.ref 0), some (.ref 210), some (.ref 227), some (.int (nI i)), none, none]) (ax_fewP_s _ _ (by repeat (first | exact trivial | (refine And.intro rfl ?_)))) (kk _ (by first | exact Nat.le_refl _ | exact Nat.le_succ _) _ (by first | exact Nat.le_refl _ | exact Nat.le_add_right _ _))
      · rw [if_neg z45] at h
        cases h
  · rw [if_neg z43] at h
    cases h
def d_L_472 (S : ax_S) (sc : Nat → Int32) (i : Nat) (I : ax_I) (R : ax_R) (L : ax_L) : Option (ax_I × ax_R × ax_L) :=
  (d_K_near S I R 0 (sc (i + 1))).bind fun r46 =>
  (hc_near r46).bind fun k48 =>
  (d_M_near S I R 210 (sc (i + 1))).bind fun r50 =>
  (d_M_thrown S r50.2 R 210 ).bind fun r52 =>
  if r52 = k48 then
    if k48 = 0 then
      if (lg_cmp ((hcL r46 L 227) 227 0) ((r50.1).toInt64)) = 0 then
        some (r50.2, R, (hcL r46 L 227))
      else
        none
    else
      some (r50.2, R, (hcL r46 L 227))
  else
    none
set_option maxHeartbeats 1000000 in
theorem e_L_472 {X : ax_X} {l : Launch} (hl0 : l.stackTraces = false) (hX : ax_ok X l "LossFreeToolsLaw" code 7 (ax_rm 10 600002 7302197)) {b n : Nat} {sc : Nat → Int32} (hscr : ax_scrG (ax_GX X) b n sc) (hn31 : n < 2 ^ 31) {S : ax_S} (hs0 : S 0 = some (.inl 4)) (hs5 : S 210 = some (.inl 5)) (hso : S 227 = some (.inr (1, 1))) {i : Nat} (hi : i + 5 ≤ n) {I : ax_I} {R : ax_R} {L : ax_L} (hty : ax_typ S R) {out : ax_I × ax_R × ax_L} (h : d_L_472 S sc i I R L = some out) {cs ss : Nat} (hc1 : cs + 1 ≤ 600002) (hs1 : ss + 6 ≤ 7302197) (kk : ∀ cs2, cs2 ≤ cs + 1 → ∀ ss2, ss2 ≤ ss + 6 → ax_W X 7 1086 [some (.retAddr b), some (.ref 0), some (.ref 210), some (.ref 227), some (.int (nI i)), none, none] [] S out.1 out.2.1 out.2.2 cs2 ss2) : ax_W X 7 472 [some (.retAddr b), some (.ref 0), some (.ref 210), some (.ref 227), some (.int (nI i)), none, none] [] S I R L cs ss := by
  have hc0 : cs ≤ 600002 := Nat.le_of_succ_le hc1
  have hss0 : ss ≤ 7302197 := Nat.le_trans (Nat.le_add_right _ _) hs1
  unfold d_L_472 at h
  refine ax_aload_n (q := 473) hX dc_L_law_472 rfl rfl rfl ?_
  refine ax_saload_n (q := 474) hX dc_L_law_473 rfl rfl rfl ?_
  refine ax_iload (q := 476) hX dc_L_law_474 rfl rfl ?_
  refine ax_iconst (v := 1) (q := 477) hX dc_L_law_476 rfl (by decide) ?_
  refine ax_iadd (q := 478) hX dc_L_law_477 rfl ?_
  refine ax_sld (q := 479) hX hscr (i + 1) dc_L_law_478 rfl (nI_add i 1) (by omega) hn31 ?_
  refine ax_aload_n (q := 480) hX dc_L_law_479 rfl rfl rfl ?_
  obtain ⟨r46, hr47, h⟩ := ax_bd h
  obtain ⟨k48, hk49, h⟩ := ax_bd h
  refine ax_callSW (q := 483) (n := 3) (vs := [.ref 0, .int (sc (i + 1)), .ref 227]) (rest := []) hX dc_L_law_480 rfl wcw_L_near wn_LossFreeToolsLaw ⟨by decide +kernel, by decide +kernel⟩ (by decide +kernel) wl_L_91 wt_L_near (c_L_near l hs0 hso (c_K_near l hl0 hty hs0 hr47) hk49) rfl (by decide) rfl (Nat.le_of_ble_eq_true rfl) hc1 hs1 (fun q0 S2 I2 R2 L2 hq0 _ => ?_)
  obtain ⟨q1, q2, q3, q4, q5⟩ := hq0
  rw [q1, q2, q3, q4, q5]
  clear q1 q2 q3 q4 q5
  show ax_W X 7 483 [some (.retAddr b), some (.ref 0), some (.ref 210), some (.ref 227), some (.int (nI i)), none, none] [.int (k48)] S I R (hcL r46 L 227) (cs + 1) (ss + 6)
  refine ax_istore (ls' := [some (.retAddr b), some (.ref 0), some (.ref 210), some (.ref 227), some (.int (nI i)), some (.int (k48)), none]) (q := 485) hX dc_L_law_483 rfl (by decide) rfl ?_
  refine ax_aload_n (q := 486) hX dc_L_law_485 rfl rfl rfl ?_
  refine ax_saload_n (q := 487) hX dc_L_law_486 rfl rfl rfl ?_
  refine ax_iload (q := 489) hX dc_L_law_487 rfl rfl ?_
  refine ax_iconst (v := 1) (q := 490) hX dc_L_law_489 rfl (by decide) ?_
  refine ax_iadd (q := 491) hX dc_L_law_490 rfl ?_
  refine ax_sld (q := 492) hX hscr (i + 1) dc_L_law_491 rfl (nI_add i 1) (by omega) hn31 ?_
  obtain ⟨r50, hr51, h⟩ := ax_bd h
  refine ax_kV (vs := [.int (sc (i + 1))]) (rest := []) (q := 495) hX dc_L_law_492 rfl mt_M_near wl_L_94 wi_M_near ws_M_near hs5 rfl (c_M_near l hty hs5 hr51) rfl (by decide) rfl (Nat.le_of_ble_eq_true rfl) rfl rfl hc1 hs1 rfl ?_
  refine ax_istore (ls' := [some (.retAddr b), some (.ref 0), some (.ref 210), some (.ref 227), some (.int (nI i)), some (.int (k48)), some (.int (r50.1))]) (q := 497) hX dc_L_law_495 rfl (by decide) rfl ?_
  refine ax_aload_n (q := 498) hX dc_L_law_497 rfl rfl rfl ?_
  obtain ⟨r52, hr53, h⟩ := ax_bd h
  refine ax_kV (vs := []) (rest := []) (q := 501) hX dc_L_law_498 rfl mt_M_thrown wl_L_76 wi_M_thrown ws_M_thrown hs5 rfl (c_M_thrown l hty hs5 hr53) rfl (by decide) rfl (Nat.le_of_ble_eq_true rfl) rfl rfl hc1 hs1 rfl ?_
  refine ax_iload (q := 503) hX dc_L_law_501 rfl rfl ?_
  refine ax_icmp_eq (tgt := 508) (q := 506) hX dc_L_law_503 rfl (by decide) (fun z54 => ?_) (fun z54 => ?_)
  · rw [if_pos z54] at h
    refine ax_iload (q := 510) hX dc_L_law_508 rfl rfl ?_
    refine ax_if_ne (tgt := 525) (q := 513) hX dc_L_law_510 rfl (by decide) (fun z55 => ?_) (fun z55 => ?_)
    · rw [if_neg z55] at h
      refine ax_goto (tgt := 1086) hX dc_L_law_525 (by decide) ?_
      cases h
      exact ax_weak (ls' := [some (.retAddr b), some (.ref 0), some (.ref 210), some (.ref 227), some (.int (nI i)), none, none]) (ax_fewP_s _ _ (by repeat (first | exact trivial | (refine And.intro rfl ?_)))) (kk _ (by first | exact Nat.le_refl _ | exact Nat.le_succ _) _ (by first | exact Nat.le_refl _ | exact Nat.le_add_right _ _))
    · rw [if_pos z55] at h
      refine ax_aload_n (q := 514) hX dc_L_law_513 rfl rfl rfl ?_
      refine ax_iconst (v := 0) (q := 515) hX dc_L_law_514 rfl (by decide) ?_
      refine ax_lald (q := 516) hX 0 dc_L_law_515 rfl hso rfl (by decide) (by decide) ?_
      refine ax_iload (q := 518) hX dc_L_law_516 rfl rfl ?_
      refine ax_i2l (q := 519) hX dc_L_law_518 rfl rfl ?_
      refine ax_lcmp (q := 520) hX dc_L_law_519 rfl ?_
      refine ax_if_eq (tgt := 525) (q := 523) hX dc_L_law_520 rfl (by decide) (fun z56 => ?_) (fun z56 => ?_)
      · rw [if_pos z56] at h
        refine ax_goto (tgt := 1086) hX dc_L_law_525 (by decide) ?_
        cases h
        exact ax_weak (ls' := [some (.retAddr b), some (.ref 0), some (.ref 210), some (.ref 227), some (.int (nI i)), none, none]) (ax_fewP_s _ _ (by repeat (first | exact trivial | (refine And.intro rfl ?_)))) (kk _ (by first | exact Nat.le_refl _ | exact Nat.le_succ _) _ (by first | exact Nat.le_refl _ | exact Nat.le_add_right _ _))
      · rw [if_neg z56] at h
        cases h
  · rw [if_neg z54] at h
    cases h
def d_L_528 (S : ax_S) (sc : Nat → Int32) (i : Nat) (I : ax_I) (R : ax_R) (L : ax_L) : Option (ax_I × ax_R × ax_L) :=
  (d_K_turn S I R 0 (sc (i + 1))).bind fun r57 =>
  (hc_turn r57.1).bind fun k59 =>
  (d_M_turn S r57.2 R 210 (sc (i + 1))).bind fun r61 =>
  (d_M_thrown S r61.2 R 210 ).bind fun r63 =>
  if r63 = k59 then
    if k59 = 0 then
      if (lg_cmp ((hcL r57.1 L 227) 227 0) ((r61.1).toInt64)) = 0 then
        some (r61.2, R, (hcL r57.1 L 227))
      else
        none
    else
      some (r61.2, R, (hcL r57.1 L 227))
  else
    none
set_option maxHeartbeats 1000000 in
theorem e_L_528 {X : ax_X} {l : Launch} (hl0 : l.stackTraces = false) (hX : ax_ok X l "LossFreeToolsLaw" code 7 (ax_rm 10 600002 7302197)) {b n : Nat} {sc : Nat → Int32} (hscr : ax_scrG (ax_GX X) b n sc) (hn31 : n < 2 ^ 31) {S : ax_S} (hs0 : S 0 = some (.inl 4)) (hs5 : S 210 = some (.inl 5)) (hso : S 227 = some (.inr (1, 1))) {i : Nat} (hi : i + 5 ≤ n) {I : ax_I} {R : ax_R} {L : ax_L} (hty : ax_typ S R) {out : ax_I × ax_R × ax_L} (h : d_L_528 S sc i I R L = some out) {cs ss : Nat} (hc1 : cs + 1 ≤ 600002) (hs1 : ss + 6 ≤ 7302197) (kk : ∀ cs2, cs2 ≤ cs + 1 → ∀ ss2, ss2 ≤ ss + 6 → ax_W X 7 1086 [some (.retAddr b), some (.ref 0), some (.ref 210), some (.ref 227), some (.int (nI i)), none, none] [] S out.1 out.2.1 out.2.2 cs2 ss2) : ax_W X 7 528 [some (.retAddr b), some (.ref 0), some (.ref 210), some (.ref 227), some (.int (nI i)), none, none] [] S I R L cs ss := by
  have hc0 : cs ≤ 600002 := Nat.le_of_succ_le hc1
  have hss0 : ss ≤ 7302197 := Nat.le_trans (Nat.le_add_right _ _) hs1
  unfold d_L_528 at h
  refine ax_aload_n (q := 529) hX dc_L_law_528 rfl rfl rfl ?_
  refine ax_saload_n (q := 530) hX dc_L_law_529 rfl rfl rfl ?_
  refine ax_iload (q := 532) hX dc_L_law_530 rfl rfl ?_
  refine ax_iconst (v := 1) (q := 533) hX dc_L_law_532 rfl (by decide) ?_
  refine ax_iadd (q := 534) hX dc_L_law_533 rfl ?_
  refine ax_sld (q := 535) hX hscr (i + 1) dc_L_law_534 rfl (nI_add i 1) (by omega) hn31 ?_
  refine ax_aload_n (q := 536) hX dc_L_law_535 rfl rfl rfl ?_
  obtain ⟨r57, hr58, h⟩ := ax_bd h
  obtain ⟨k59, hk60, h⟩ := ax_bd h
  refine ax_callSW (q := 539) (n := 3) (vs := [.ref 0, .int (sc (i + 1)), .ref 227]) (rest := []) hX dc_L_law_536 rfl wcw_L_turn wn_LossFreeToolsLaw ⟨by decide +kernel, by decide +kernel⟩ (by decide +kernel) wl_L_95 wt_L_turn (c_L_turn l hs0 hso (c_K_turn l hl0 hty hs0 hr58) hk60) rfl (by decide) rfl (Nat.le_of_ble_eq_true rfl) hc1 hs1 (fun q0 S2 I2 R2 L2 hq0 _ => ?_)
  obtain ⟨q1, q2, q3, q4, q5⟩ := hq0
  rw [q1, q2, q3, q4, q5]
  clear q1 q2 q3 q4 q5
  show ax_W X 7 539 [some (.retAddr b), some (.ref 0), some (.ref 210), some (.ref 227), some (.int (nI i)), none, none] [.int (k59)] S r57.2 R (hcL r57.1 L 227) (cs + 1) (ss + 6)
  refine ax_istore (ls' := [some (.retAddr b), some (.ref 0), some (.ref 210), some (.ref 227), some (.int (nI i)), some (.int (k59)), none]) (q := 541) hX dc_L_law_539 rfl (by decide) rfl ?_
  refine ax_aload_n (q := 542) hX dc_L_law_541 rfl rfl rfl ?_
  refine ax_saload_n (q := 543) hX dc_L_law_542 rfl rfl rfl ?_
  refine ax_iload (q := 545) hX dc_L_law_543 rfl rfl ?_
  refine ax_iconst (v := 1) (q := 546) hX dc_L_law_545 rfl (by decide) ?_
  refine ax_iadd (q := 547) hX dc_L_law_546 rfl ?_
  refine ax_sld (q := 548) hX hscr (i + 1) dc_L_law_547 rfl (nI_add i 1) (by omega) hn31 ?_
  obtain ⟨r61, hr62, h⟩ := ax_bd h
  refine ax_kV (vs := [.int (sc (i + 1))]) (rest := []) (q := 551) hX dc_L_law_548 rfl mt_M_turn wl_L_97 wi_M_turn ws_M_turn hs5 rfl (c_M_turn l hty hs5 hr62) rfl (by decide) rfl (Nat.le_of_ble_eq_true rfl) rfl rfl hc1 hs1 rfl ?_
  refine ax_istore (ls' := [some (.retAddr b), some (.ref 0), some (.ref 210), some (.ref 227), some (.int (nI i)), some (.int (k59)), some (.int (r61.1))]) (q := 553) hX dc_L_law_551 rfl (by decide) rfl ?_
  refine ax_aload_n (q := 554) hX dc_L_law_553 rfl rfl rfl ?_
  obtain ⟨r63, hr64, h⟩ := ax_bd h
  refine ax_kV (vs := []) (rest := []) (q := 557) hX dc_L_law_554 rfl mt_M_thrown wl_L_76 wi_M_thrown ws_M_thrown hs5 rfl (c_M_thrown l hty hs5 hr64) rfl (by decide) rfl (Nat.le_of_ble_eq_true rfl) rfl rfl hc1 hs1 rfl ?_
  refine ax_iload (q := 559) hX dc_L_law_557 rfl rfl ?_
  refine ax_icmp_eq (tgt := 564) (q := 562) hX dc_L_law_559 rfl (by decide) (fun z65 => ?_) (fun z65 => ?_)
  · rw [if_pos z65] at h
    refine ax_iload (q := 566) hX dc_L_law_564 rfl rfl ?_
    refine ax_if_ne (tgt := 581) (q := 569) hX dc_L_law_566 rfl (by decide) (fun z66 => ?_) (fun z66 => ?_)
    · rw [if_neg z66] at h
      refine ax_goto (tgt := 1086) hX dc_L_law_581 (by decide) ?_
      cases h
      exact ax_weak (ls' := [some (.retAddr b), some (.ref 0), some (.ref 210), some (.ref 227), some (.int (nI i)), none, none]) (ax_fewP_s _ _ (by repeat (first | exact trivial | (refine And.intro rfl ?_)))) (kk _ (by first | exact Nat.le_refl _ | exact Nat.le_succ _) _ (by first | exact Nat.le_refl _ | exact Nat.le_add_right _ _))
    · rw [if_pos z66] at h
      refine ax_aload_n (q := 570) hX dc_L_law_569 rfl rfl rfl ?_
      refine ax_iconst (v := 0) (q := 571) hX dc_L_law_570 rfl (by decide) ?_
      refine ax_lald (q := 572) hX 0 dc_L_law_571 rfl hso rfl (by decide) (by decide) ?_
      refine ax_iload (q := 574) hX dc_L_law_572 rfl rfl ?_
      refine ax_i2l (q := 575) hX dc_L_law_574 rfl rfl ?_
      refine ax_lcmp (q := 576) hX dc_L_law_575 rfl ?_
      refine ax_if_eq (tgt := 581) (q := 579) hX dc_L_law_576 rfl (by decide) (fun z67 => ?_) (fun z67 => ?_)
      · rw [if_pos z67] at h
        refine ax_goto (tgt := 1086) hX dc_L_law_581 (by decide) ?_
        cases h
        exact ax_weak (ls' := [some (.retAddr b), some (.ref 0), some (.ref 210), some (.ref 227), some (.int (nI i)), none, none]) (ax_fewP_s _ _ (by repeat (first | exact trivial | (refine And.intro rfl ?_)))) (kk _ (by first | exact Nat.le_refl _ | exact Nat.le_succ _) _ (by first | exact Nat.le_refl _ | exact Nat.le_add_right _ _))
      · rw [if_neg z67] at h
        cases h
  · rw [if_neg z65] at h
    cases h
def d_L_584 (S : ax_S) (sc : Nat → Int32) (i : Nat) (I : ax_I) (R : ax_R) (L : ax_L) : Option (ax_I × ax_R × ax_L) :=
  (d_K_swap S I R 0 ).bind fun r68 =>
  (d_M_swap S r68.2.1 r68.2.2 210 ).bind fun r71 =>
  if r68.1 = r71.1 then
    some (r71.2, r68.2.2, L)
  else
    none
set_option maxHeartbeats 1000000 in
theorem e_L_584 {X : ax_X} {l : Launch} (hl0 : l.stackTraces = false) (hX : ax_ok X l "LossFreeToolsLaw" code 7 (ax_rm 10 600002 7302197)) {b n : Nat} {sc : Nat → Int32} (hscr : ax_scrG (ax_GX X) b n sc) (hn31 : n < 2 ^ 31) {S : ax_S} (hs0 : S 0 = some (.inl 4)) (hs5 : S 210 = some (.inl 5)) (hso : S 227 = some (.inr (1, 1))) {i : Nat} (hi : i + 5 ≤ n) {I : ax_I} {R : ax_R} {L : ax_L} (hty : ax_typ S R) {out : ax_I × ax_R × ax_L} (h : d_L_584 S sc i I R L = some out) {cs ss : Nat} (hc1 : cs + 1 ≤ 600002) (hs1 : ss + 6 ≤ 7302197) (kk : ∀ cs2, cs2 ≤ cs + 1 → ∀ ss2, ss2 ≤ ss + 6 → ax_W X 7 1086 [some (.retAddr b), some (.ref 0), some (.ref 210), some (.ref 227), some (.int (nI i)), none, none] [] S out.1 out.2.1 out.2.2 cs2 ss2) : ax_W X 7 584 [some (.retAddr b), some (.ref 0), some (.ref 210), some (.ref 227), some (.int (nI i)), none, none] [] S I R L cs ss := by
  have hc0 : cs ≤ 600002 := Nat.le_of_succ_le hc1
  have hss0 : ss ≤ 7302197 := Nat.le_trans (Nat.le_add_right _ _) hs1
  unfold d_L_584 at h
  refine ax_aload_n (q := 585) hX dc_L_law_584 rfl rfl rfl ?_
  obtain ⟨r68, hr69, h⟩ := ax_bd h
  refine ax_kV (vs := []) (rest := []) (q := 588) hX dc_L_law_585 rfl mt_K_swap wl_L_98 wi_K_swap ws_K_swap hs0 rfl (c_K_swap l hty hs0 hr69) rfl (by decide) rfl (Nat.le_of_ble_eq_true rfl) rfl rfl hc0 hss0 rfl ?_
  have ht70 : ax_typ S r68.2.2 := t_K_swap hty hs0 hr69
  refine ax_aload_n (q := 589) hX dc_L_law_588 rfl rfl rfl ?_
  obtain ⟨r71, hr72, h⟩ := ax_bd h
  refine ax_kV (vs := []) (rest := [.int (r68.1)]) (q := 592) hX dc_L_law_589 rfl mt_M_swap wl_L_101 wi_M_swap ws_M_swap hs5 rfl (c_M_swap l ht70 hs5 hr72) rfl (by decide) rfl (Nat.le_of_ble_eq_true rfl) rfl rfl hc0 hss0 rfl ?_
  refine ax_icmp_eq (tgt := 1086) (q := 595) hX dc_L_law_592 rfl (by decide) (fun z73 => ?_) (fun z73 => ?_)
  · rw [if_pos z73] at h
    cases h
    exact kk _ (by first | exact Nat.le_refl _ | exact Nat.le_succ _) _ (by first | exact Nat.le_refl _ | exact Nat.le_add_right _ _)
  · rw [if_neg z73] at h
    cases h
def d_L_597 (S : ax_S) (sc : Nat → Int32) (i : Nat) (I : ax_I) (R : ax_R) (L : ax_L) : Option (ax_I × ax_R × ax_L) :=
  (d_K_join S I R 0 (sc (i + 1))).bind fun r74 =>
  (hc_join r74.1).bind fun k76 =>
  (d_M_join S r74.2.1 r74.2.2 210 (sc (i + 1))).bind fun r79 =>
  (d_M_thrown S r79.2 r74.2.2 210 ).bind fun r81 =>
  if r81 = k76 then
    if k76 = 0 then
      if (lg_cmp ((hcL r74.1 L 227) 227 0) ((r79.1).toInt64)) = 0 then
        some (r79.2, r74.2.2, (hcL r74.1 L 227))
      else
        none
    else
      some (r79.2, r74.2.2, (hcL r74.1 L 227))
  else
    none
set_option maxHeartbeats 1000000 in
theorem e_L_597 {X : ax_X} {l : Launch} (hl0 : l.stackTraces = false) (hX : ax_ok X l "LossFreeToolsLaw" code 7 (ax_rm 10 600002 7302197)) {b n : Nat} {sc : Nat → Int32} (hscr : ax_scrG (ax_GX X) b n sc) (hn31 : n < 2 ^ 31) {S : ax_S} (hs0 : S 0 = some (.inl 4)) (hs5 : S 210 = some (.inl 5)) (hso : S 227 = some (.inr (1, 1))) {i : Nat} (hi : i + 5 ≤ n) {I : ax_I} {R : ax_R} {L : ax_L} (hty : ax_typ S R) {out : ax_I × ax_R × ax_L} (h : d_L_597 S sc i I R L = some out) {cs ss : Nat} (hc1 : cs + 1 ≤ 600002) (hs1 : ss + 6 ≤ 7302197) (kk : ∀ cs2, cs2 ≤ cs + 1 → ∀ ss2, ss2 ≤ ss + 6 → ax_W X 7 1086 [some (.retAddr b), some (.ref 0), some (.ref 210), some (.ref 227), some (.int (nI i)), none, none] [] S out.1 out.2.1 out.2.2 cs2 ss2) : ax_W X 7 597 [some (.retAddr b), some (.ref 0), some (.ref 210), some (.ref 227), some (.int (nI i)), none, none] [] S I R L cs ss := by
  have hc0 : cs ≤ 600002 := Nat.le_of_succ_le hc1
  have hss0 : ss ≤ 7302197 := Nat.le_trans (Nat.le_add_right _ _) hs1
  unfold d_L_597 at h
  refine ax_aload_n (q := 598) hX dc_L_law_597 rfl rfl rfl ?_
  refine ax_saload_n (q := 599) hX dc_L_law_598 rfl rfl rfl ?_
  refine ax_iload (q := 601) hX dc_L_law_599 rfl rfl ?_
  refine ax_iconst (v := 1) (q := 602) hX dc_L_law_601 rfl (by decide) ?_
  refine ax_iadd (q := 603) hX dc_L_law_602 rfl ?_
  refine ax_sld (q := 604) hX hscr (i + 1) dc_L_law_603 rfl (nI_add i 1) (by omega) hn31 ?_
  refine ax_aload_n (q := 605) hX dc_L_law_604 rfl rfl rfl ?_
  obtain ⟨r74, hr75, h⟩ := ax_bd h
  obtain ⟨k76, hk77, h⟩ := ax_bd h
  refine ax_callSW (q := 608) (n := 3) (vs := [.ref 0, .int (sc (i + 1)), .ref 227]) (rest := []) hX dc_L_law_605 rfl wcw_L_join wn_LossFreeToolsLaw ⟨by decide +kernel, by decide +kernel⟩ (by decide +kernel) wl_L_102 wt_L_join (c_L_join l hs0 hso (c_K_join l hl0 hty hs0 hr75) hk77) rfl (by decide) rfl (Nat.le_of_ble_eq_true rfl) hc1 hs1 (fun q0 S2 I2 R2 L2 hq0 _ => ?_)
  obtain ⟨q1, q2, q3, q4, q5⟩ := hq0
  rw [q1, q2, q3, q4, q5]
  clear q1 q2 q3 q4 q5
  show ax_W X 7 608 [some (.retAddr b), some (.ref 0), some (.ref 210), some (.ref 227), some (.int (nI i)), none, none] [.int (k76)] S r74.2.1 r74.2.2 (hcL r74.1 L 227) (cs + 1) (ss + 6)
  have ht78 : ax_typ S r74.2.2 := t_K_join hty hs0 hr75
  refine ax_istore (ls' := [some (.retAddr b), some (.ref 0), some (.ref 210), some (.ref 227), some (.int (nI i)), some (.int (k76)), none]) (q := 610) hX dc_L_law_608 rfl (by decide) rfl ?_
  refine ax_aload_n (q := 611) hX dc_L_law_610 rfl rfl rfl ?_
  refine ax_saload_n (q := 612) hX dc_L_law_611 rfl rfl rfl ?_
  refine ax_iload (q := 614) hX dc_L_law_612 rfl rfl ?_
  refine ax_iconst (v := 1) (q := 615) hX dc_L_law_614 rfl (by decide) ?_
  refine ax_iadd (q := 616) hX dc_L_law_615 rfl ?_
  refine ax_sld (q := 617) hX hscr (i + 1) dc_L_law_616 rfl (nI_add i 1) (by omega) hn31 ?_
  obtain ⟨r79, hr80, h⟩ := ax_bd h
  refine ax_kV (vs := [.int (sc (i + 1))]) (rest := []) (q := 620) hX dc_L_law_617 rfl mt_M_join wl_L_104 wi_M_join ws_M_join hs5 rfl (c_M_join l ht78 hs5 hr80) rfl (by decide) rfl (Nat.le_of_ble_eq_true rfl) rfl rfl hc1 hs1 rfl ?_
  refine ax_istore (ls' := [some (.retAddr b), some (.ref 0), some (.ref 210), some (.ref 227), some (.int (nI i)), some (.int (k76)), some (.int (r79.1))]) (q := 622) hX dc_L_law_620 rfl (by decide) rfl ?_
  refine ax_aload_n (q := 623) hX dc_L_law_622 rfl rfl rfl ?_
  obtain ⟨r81, hr82, h⟩ := ax_bd h
  refine ax_kV (vs := []) (rest := []) (q := 626) hX dc_L_law_623 rfl mt_M_thrown wl_L_76 wi_M_thrown ws_M_thrown hs5 rfl (c_M_thrown l ht78 hs5 hr82) rfl (by decide) rfl (Nat.le_of_ble_eq_true rfl) rfl rfl hc1 hs1 rfl ?_
  refine ax_iload (q := 628) hX dc_L_law_626 rfl rfl ?_
  refine ax_icmp_eq (tgt := 633) (q := 631) hX dc_L_law_628 rfl (by decide) (fun z83 => ?_) (fun z83 => ?_)
  · rw [if_pos z83] at h
    refine ax_iload (q := 635) hX dc_L_law_633 rfl rfl ?_
    refine ax_if_ne (tgt := 650) (q := 638) hX dc_L_law_635 rfl (by decide) (fun z84 => ?_) (fun z84 => ?_)
    · rw [if_neg z84] at h
      refine ax_goto (tgt := 1086) hX dc_L_law_650 (by decide) ?_
      cases h
      exact ax_weak (ls' := [some (.retAddr b), some (.ref 0), some (.ref 210), some (.ref 227), some (.int (nI i)), none, none]) (ax_fewP_s _ _ (by repeat (first | exact trivial | (refine And.intro rfl ?_)))) (kk _ (by first | exact Nat.le_refl _ | exact Nat.le_succ _) _ (by first | exact Nat.le_refl _ | exact Nat.le_add_right _ _))
    · rw [if_pos z84] at h
      refine ax_aload_n (q := 639) hX dc_L_law_638 rfl rfl rfl ?_
      refine ax_iconst (v := 0) (q := 640) hX dc_L_law_639 rfl (by decide) ?_
      refine ax_lald (q := 641) hX 0 dc_L_law_640 rfl hso rfl (by decide) (by decide) ?_
      refine ax_iload (q := 643) hX dc_L_law_641 rfl rfl ?_
      refine ax_i2l (q := 644) hX dc_L_law_643 rfl rfl ?_
      refine ax_lcmp (q := 645) hX dc_L_law_644 rfl ?_
      refine ax_if_eq (tgt := 650) (q := 648) hX dc_L_law_645 rfl (by decide) (fun z85 => ?_) (fun z85 => ?_)
      · rw [if_pos z85] at h
        refine ax_goto (tgt := 1086) hX dc_L_law_650 (by decide) ?_
        cases h
        exact ax_weak (ls' := [some (.retAddr b), some (.ref 0), some (.ref 210), some (.ref 227), some (.int (nI i)), none, none]) (ax_fewP_s _ _ (by repeat (first | exact trivial | (refine And.intro rfl ?_)))) (kk _ (by first | exact Nat.le_refl _ | exact Nat.le_succ _) _ (by first | exact Nat.le_refl _ | exact Nat.le_add_right _ _))
      · rw [if_neg z85] at h
        cases h
  · rw [if_neg z83] at h
    cases h
def d_L_653 (S : ax_S) (sc : Nat → Int32) (i : Nat) (I : ax_I) (R : ax_R) (L : ax_L) : Option (ax_I × ax_R × ax_L) :=
  (d_K_at S I R 0 (sc (i + 1)) (sc (i + 2))).bind fun r86 =>
  (hc_at r86).bind fun k88 =>
  (d_M_at S I R 210 (sc (i + 1)) (sc (i + 2))).bind fun r90 =>
  (d_M_thrown S r90.2 R 210 ).bind fun r92 =>
  if r92 = k88 then
    if k88 = 0 then
      if (lg_cmp ((hcL r86 L 227) 227 0) ((r90.1).toInt64)) = 0 then
        some (r90.2, R, (hcL r86 L 227))
      else
        none
    else
      some (r90.2, R, (hcL r86 L 227))
  else
    none
set_option maxHeartbeats 1000000 in
theorem e_L_653 {X : ax_X} {l : Launch} (hl0 : l.stackTraces = false) (hX : ax_ok X l "LossFreeToolsLaw" code 7 (ax_rm 10 600002 7302197)) {b n : Nat} {sc : Nat → Int32} (hscr : ax_scrG (ax_GX X) b n sc) (hn31 : n < 2 ^ 31) {S : ax_S} (hs0 : S 0 = some (.inl 4)) (hs5 : S 210 = some (.inl 5)) (hso : S 227 = some (.inr (1, 1))) {i : Nat} (hi : i + 5 ≤ n) {I : ax_I} {R : ax_R} {L : ax_L} (hty : ax_typ S R) {out : ax_I × ax_R × ax_L} (h : d_L_653 S sc i I R L = some out) {cs ss : Nat} (hc1 : cs + 1 ≤ 600002) (hs1 : ss + 6 ≤ 7302197) (kk : ∀ cs2, cs2 ≤ cs + 1 → ∀ ss2, ss2 ≤ ss + 6 → ax_W X 7 1086 [some (.retAddr b), some (.ref 0), some (.ref 210), some (.ref 227), some (.int (nI i)), none, none] [] S out.1 out.2.1 out.2.2 cs2 ss2) : ax_W X 7 653 [some (.retAddr b), some (.ref 0), some (.ref 210), some (.ref 227), some (.int (nI i)), none, none] [] S I R L cs ss := by
  have hc0 : cs ≤ 600002 := Nat.le_of_succ_le hc1
  have hss0 : ss ≤ 7302197 := Nat.le_trans (Nat.le_add_right _ _) hs1
  unfold d_L_653 at h
  refine ax_aload_n (q := 654) hX dc_L_law_653 rfl rfl rfl ?_
  refine ax_saload_n (q := 655) hX dc_L_law_654 rfl rfl rfl ?_
  refine ax_iload (q := 657) hX dc_L_law_655 rfl rfl ?_
  refine ax_iconst (v := 1) (q := 658) hX dc_L_law_657 rfl (by decide) ?_
  refine ax_iadd (q := 659) hX dc_L_law_658 rfl ?_
  refine ax_sld (q := 660) hX hscr (i + 1) dc_L_law_659 rfl (nI_add i 1) (by omega) hn31 ?_
  refine ax_saload_n (q := 661) hX dc_L_law_660 rfl rfl rfl ?_
  refine ax_iload (q := 663) hX dc_L_law_661 rfl rfl ?_
  refine ax_iconst (v := 2) (q := 664) hX dc_L_law_663 rfl (by decide) ?_
  refine ax_iadd (q := 665) hX dc_L_law_664 rfl ?_
  refine ax_sld (q := 666) hX hscr (i + 2) dc_L_law_665 rfl (nI_add i 2) (by omega) hn31 ?_
  refine ax_aload_n (q := 667) hX dc_L_law_666 rfl rfl rfl ?_
  obtain ⟨r86, hr87, h⟩ := ax_bd h
  obtain ⟨k88, hk89, h⟩ := ax_bd h
  refine ax_callSW (q := 670) (n := 4) (vs := [.ref 0, .int (sc (i + 1)), .int (sc (i + 2)), .ref 227]) (rest := []) hX dc_L_law_667 rfl wcw_L_at wn_LossFreeToolsLaw ⟨by decide +kernel, by decide +kernel⟩ (by decide +kernel) wl_L_105 wt_L_at (c_L_at l hs0 hso (c_K_at l hl0 hty hs0 hr87) hk89) rfl (by decide) rfl (Nat.le_of_ble_eq_true rfl) hc1 hs1 (fun q0 S2 I2 R2 L2 hq0 _ => ?_)
  obtain ⟨q1, q2, q3, q4, q5⟩ := hq0
  rw [q1, q2, q3, q4, q5]
  clear q1 q2 q3 q4 q5
  show ax_W X 7 670 [some (.retAddr b), some (.ref 0), some (.ref 210), some (.ref 227), some (.int (nI i)), none, none] [.int (k88)] S I R (hcL r86 L 227) (cs + 1) (ss + 6)
  refine ax_istore (ls' := [some (.retAddr b), some (.ref 0), some (.ref 210), some (.ref 227), some (.int (nI i)), some (.int (k88)), none]) (q := 672) hX dc_L_law_670 rfl (by decide) rfl ?_
  refine ax_aload_n (q := 673) hX dc_L_law_672 rfl rfl rfl ?_
  refine ax_saload_n (q := 674) hX dc_L_law_673 rfl rfl rfl ?_
  refine ax_iload (q := 676) hX dc_L_law_674 rfl rfl ?_
  refine ax_iconst (v := 1) (q := 677) hX dc_L_law_676 rfl (by decide) ?_
  refine ax_iadd (q := 678) hX dc_L_law_677 rfl ?_
  refine ax_sld (q := 679) hX hscr (i + 1) dc_L_law_678 rfl (nI_add i 1) (by omega) hn31 ?_
  refine ax_saload_n (q := 680) hX dc_L_law_679 rfl rfl rfl ?_
  refine ax_iload (q := 682) hX dc_L_law_680 rfl rfl ?_
  refine ax_iconst (v := 2) (q := 683) hX dc_L_law_682 rfl (by decide) ?_
  refine ax_iadd (q := 684) hX dc_L_law_683 rfl ?_
  refine ax_sld (q := 685) hX hscr (i + 2) dc_L_law_684 rfl (nI_add i 2) (by omega) hn31 ?_
  obtain ⟨r90, hr91, h⟩ := ax_bd h
  refine ax_kV (vs := [.int (sc (i + 1)), .int (sc (i + 2))]) (rest := []) (q := 688) hX dc_L_law_685 rfl mt_M_at wl_L_107 wi_M_at ws_M_at hs5 rfl (c_M_at l hty hs5 hr91) rfl (by decide) rfl (Nat.le_of_ble_eq_true rfl) rfl rfl hc1 hs1 rfl ?_
  refine ax_istore (ls' := [some (.retAddr b), some (.ref 0), some (.ref 210), some (.ref 227), some (.int (nI i)), some (.int (k88)), some (.int (r90.1))]) (q := 690) hX dc_L_law_688 rfl (by decide) rfl ?_
  refine ax_aload_n (q := 691) hX dc_L_law_690 rfl rfl rfl ?_
  obtain ⟨r92, hr93, h⟩ := ax_bd h
  refine ax_kV (vs := []) (rest := []) (q := 694) hX dc_L_law_691 rfl mt_M_thrown wl_L_76 wi_M_thrown ws_M_thrown hs5 rfl (c_M_thrown l hty hs5 hr93) rfl (by decide) rfl (Nat.le_of_ble_eq_true rfl) rfl rfl hc1 hs1 rfl ?_
  refine ax_iload (q := 696) hX dc_L_law_694 rfl rfl ?_
  refine ax_icmp_eq (tgt := 701) (q := 699) hX dc_L_law_696 rfl (by decide) (fun z94 => ?_) (fun z94 => ?_)
  · rw [if_pos z94] at h
    refine ax_iload (q := 703) hX dc_L_law_701 rfl rfl ?_
    refine ax_if_ne (tgt := 718) (q := 706) hX dc_L_law_703 rfl (by decide) (fun z95 => ?_) (fun z95 => ?_)
    · rw [if_neg z95] at h
      refine ax_goto (tgt := 1086) hX dc_L_law_718 (by decide) ?_
      cases h
      exact ax_weak (ls' := [some (.retAddr b), some (.ref 0), some (.ref 210), some (.ref 227), some (.int (nI i)), none, none]) (ax_fewP_s _ _ (by repeat (first | exact trivial | (refine And.intro rfl ?_)))) (kk _ (by first | exact Nat.le_refl _ | exact Nat.le_succ _) _ (by first | exact Nat.le_refl _ | exact Nat.le_add_right _ _))
    · rw [if_pos z95] at h
      refine ax_aload_n (q := 707) hX dc_L_law_706 rfl rfl rfl ?_
      refine ax_iconst (v := 0) (q := 708) hX dc_L_law_707 rfl (by decide) ?_
      refine ax_lald (q := 709) hX 0 dc_L_law_708 rfl hso rfl (by decide) (by decide) ?_
      refine ax_iload (q := 711) hX dc_L_law_709 rfl rfl ?_
      refine ax_i2l (q := 712) hX dc_L_law_711 rfl rfl ?_
      refine ax_lcmp (q := 713) hX dc_L_law_712 rfl ?_
      refine ax_if_eq (tgt := 718) (q := 716) hX dc_L_law_713 rfl (by decide) (fun z96 => ?_) (fun z96 => ?_)
      · rw [if_pos z96] at h
        refine ax_goto (tgt := 1086) hX dc_L_law_718 (by decide) ?_
        cases h
        exact ax_weak (ls' := [some (.retAddr b), some (.ref 0), some (.ref 210), some (.ref 227), some (.int (nI i)), none, none]) (ax_fewP_s _ _ (by repeat (first | exact trivial | (refine And.intro rfl ?_)))) (kk _ (by first | exact Nat.le_refl _ | exact Nat.le_succ _) _ (by first | exact Nat.le_refl _ | exact Nat.le_add_right _ _))
      · rw [if_neg z96] at h
        cases h
  · rw [if_neg z94] at h
    cases h
def d_L_721 (S : ax_S) (sc : Nat → Int32) (i : Nat) (I : ax_I) (R : ax_R) (L : ax_L) : Option (ax_I × ax_R × ax_L) :=
  (d_K_byteAt S I R 0 (sc (i + 1)) (sc (i + 2))).bind fun r97 =>
  (hc_byteAt r97).bind fun k99 =>
  (d_M_byteAt S I R 210 (sc (i + 1)) (sc (i + 2))).bind fun r101 =>
  (d_M_thrown S r101.2 R 210 ).bind fun r103 =>
  if r103 = k99 then
    if k99 = 0 then
      if (lg_cmp ((hcL r97 L 227) 227 0) ((r101.1).toInt64)) = 0 then
        some (r101.2, R, (hcL r97 L 227))
      else
        none
    else
      some (r101.2, R, (hcL r97 L 227))
  else
    none
set_option maxHeartbeats 1000000 in
theorem e_L_721 {X : ax_X} {l : Launch} (hl0 : l.stackTraces = false) (hX : ax_ok X l "LossFreeToolsLaw" code 7 (ax_rm 10 600002 7302197)) {b n : Nat} {sc : Nat → Int32} (hscr : ax_scrG (ax_GX X) b n sc) (hn31 : n < 2 ^ 31) {S : ax_S} (hs0 : S 0 = some (.inl 4)) (hs5 : S 210 = some (.inl 5)) (hso : S 227 = some (.inr (1, 1))) {i : Nat} (hi : i + 5 ≤ n) {I : ax_I} {R : ax_R} {L : ax_L} (hty : ax_typ S R) {out : ax_I × ax_R × ax_L} (h : d_L_721 S sc i I R L = some out) {cs ss : Nat} (hc1 : cs + 1 ≤ 600002) (hs1 : ss + 6 ≤ 7302197) (kk : ∀ cs2, cs2 ≤ cs + 1 → ∀ ss2, ss2 ≤ ss + 6 → ax_W X 7 1086 [some (.retAddr b), some (.ref 0), some (.ref 210), some (.ref 227), some (.int (nI i)), none, none] [] S out.1 out.2.1 out.2.2 cs2 ss2) : ax_W X 7 721 [some (.retAddr b), some (.ref 0), some (.ref 210), some (.ref 227), some (.int (nI i)), none, none] [] S I R L cs ss := by
  have hc0 : cs ≤ 600002 := Nat.le_of_succ_le hc1
  have hss0 : ss ≤ 7302197 := Nat.le_trans (Nat.le_add_right _ _) hs1
  unfold d_L_721 at h
  refine ax_aload_n (q := 722) hX dc_L_law_721 rfl rfl rfl ?_
  refine ax_saload_n (q := 723) hX dc_L_law_722 rfl rfl rfl ?_
  refine ax_iload (q := 725) hX dc_L_law_723 rfl rfl ?_
  refine ax_iconst (v := 1) (q := 726) hX dc_L_law_725 rfl (by decide) ?_
  refine ax_iadd (q := 727) hX dc_L_law_726 rfl ?_
  refine ax_sld (q := 728) hX hscr (i + 1) dc_L_law_727 rfl (nI_add i 1) (by omega) hn31 ?_
  refine ax_saload_n (q := 729) hX dc_L_law_728 rfl rfl rfl ?_
  refine ax_iload (q := 731) hX dc_L_law_729 rfl rfl ?_
  refine ax_iconst (v := 2) (q := 732) hX dc_L_law_731 rfl (by decide) ?_
  refine ax_iadd (q := 733) hX dc_L_law_732 rfl ?_
  refine ax_sld (q := 734) hX hscr (i + 2) dc_L_law_733 rfl (nI_add i 2) (by omega) hn31 ?_
  refine ax_aload_n (q := 735) hX dc_L_law_734 rfl rfl rfl ?_
  obtain ⟨r97, hr98, h⟩ := ax_bd h
  obtain ⟨k99, hk100, h⟩ := ax_bd h
  refine ax_callSW (q := 738) (n := 4) (vs := [.ref 0, .int (sc (i + 1)), .int (sc (i + 2)), .ref 227]) (rest := []) hX dc_L_law_735 rfl wcw_L_byteAt wn_LossFreeToolsLaw ⟨by decide +kernel, by decide +kernel⟩ (by decide +kernel) wl_L_108 wt_L_byteAt (c_L_byteAt l hs0 hso (c_K_byteAt l hl0 hty hs0 hr98) hk100) rfl (by decide) rfl (Nat.le_of_ble_eq_true rfl) hc1 hs1 (fun q0 S2 I2 R2 L2 hq0 _ => ?_)
  obtain ⟨q1, q2, q3, q4, q5⟩ := hq0
  rw [q1, q2, q3, q4, q5]
  clear q1 q2 q3 q4 q5
  show ax_W X 7 738 [some (.retAddr b), some (.ref 0), some (.ref 210), some (.ref 227), some (.int (nI i)), none, none] [.int (k99)] S I R (hcL r97 L 227) (cs + 1) (ss + 6)
  refine ax_istore (ls' := [some (.retAddr b), some (.ref 0), some (.ref 210), some (.ref 227), some (.int (nI i)), some (.int (k99)), none]) (q := 740) hX dc_L_law_738 rfl (by decide) rfl ?_
  refine ax_aload_n (q := 741) hX dc_L_law_740 rfl rfl rfl ?_
  refine ax_saload_n (q := 742) hX dc_L_law_741 rfl rfl rfl ?_
  refine ax_iload (q := 744) hX dc_L_law_742 rfl rfl ?_
  refine ax_iconst (v := 1) (q := 745) hX dc_L_law_744 rfl (by decide) ?_
  refine ax_iadd (q := 746) hX dc_L_law_745 rfl ?_
  refine ax_sld (q := 747) hX hscr (i + 1) dc_L_law_746 rfl (nI_add i 1) (by omega) hn31 ?_
  refine ax_saload_n (q := 748) hX dc_L_law_747 rfl rfl rfl ?_
  refine ax_iload (q := 750) hX dc_L_law_748 rfl rfl ?_
  refine ax_iconst (v := 2) (q := 751) hX dc_L_law_750 rfl (by decide) ?_
  refine ax_iadd (q := 752) hX dc_L_law_751 rfl ?_
  refine ax_sld (q := 753) hX hscr (i + 2) dc_L_law_752 rfl (nI_add i 2) (by omega) hn31 ?_
  obtain ⟨r101, hr102, h⟩ := ax_bd h
  refine ax_kV (vs := [.int (sc (i + 1)), .int (sc (i + 2))]) (rest := []) (q := 756) hX dc_L_law_753 rfl mt_M_byteAt wl_L_110 wi_M_byteAt ws_M_byteAt hs5 rfl (c_M_byteAt l hty hs5 hr102) rfl (by decide) rfl (Nat.le_of_ble_eq_true rfl) rfl rfl hc1 hs1 rfl ?_
  refine ax_istore (ls' := [some (.retAddr b), some (.ref 0), some (.ref 210), some (.ref 227), some (.int (nI i)), some (.int (k99)), some (.int (r101.1))]) (q := 758) hX dc_L_law_756 rfl (by decide) rfl ?_
  refine ax_aload_n (q := 759) hX dc_L_law_758 rfl rfl rfl ?_
  obtain ⟨r103, hr104, h⟩ := ax_bd h
  refine ax_kV (vs := []) (rest := []) (q := 762) hX dc_L_law_759 rfl mt_M_thrown wl_L_76 wi_M_thrown ws_M_thrown hs5 rfl (c_M_thrown l hty hs5 hr104) rfl (by decide) rfl (Nat.le_of_ble_eq_true rfl) rfl rfl hc1 hs1 rfl ?_
  refine ax_iload (q := 764) hX dc_L_law_762 rfl rfl ?_
  refine ax_icmp_eq (tgt := 769) (q := 767) hX dc_L_law_764 rfl (by decide) (fun z105 => ?_) (fun z105 => ?_)
  · rw [if_pos z105] at h
    refine ax_iload (q := 771) hX dc_L_law_769 rfl rfl ?_
    refine ax_if_ne (tgt := 786) (q := 774) hX dc_L_law_771 rfl (by decide) (fun z106 => ?_) (fun z106 => ?_)
    · rw [if_neg z106] at h
      refine ax_goto (tgt := 1086) hX dc_L_law_786 (by decide) ?_
      cases h
      exact ax_weak (ls' := [some (.retAddr b), some (.ref 0), some (.ref 210), some (.ref 227), some (.int (nI i)), none, none]) (ax_fewP_s _ _ (by repeat (first | exact trivial | (refine And.intro rfl ?_)))) (kk _ (by first | exact Nat.le_refl _ | exact Nat.le_succ _) _ (by first | exact Nat.le_refl _ | exact Nat.le_add_right _ _))
    · rw [if_pos z106] at h
      refine ax_aload_n (q := 775) hX dc_L_law_774 rfl rfl rfl ?_
      refine ax_iconst (v := 0) (q := 776) hX dc_L_law_775 rfl (by decide) ?_
      refine ax_lald (q := 777) hX 0 dc_L_law_776 rfl hso rfl (by decide) (by decide) ?_
      refine ax_iload (q := 779) hX dc_L_law_777 rfl rfl ?_
      refine ax_i2l (q := 780) hX dc_L_law_779 rfl rfl ?_
      refine ax_lcmp (q := 781) hX dc_L_law_780 rfl ?_
      refine ax_if_eq (tgt := 786) (q := 784) hX dc_L_law_781 rfl (by decide) (fun z107 => ?_) (fun z107 => ?_)
      · rw [if_pos z107] at h
        refine ax_goto (tgt := 1086) hX dc_L_law_786 (by decide) ?_
        cases h
        exact ax_weak (ls' := [some (.retAddr b), some (.ref 0), some (.ref 210), some (.ref 227), some (.int (nI i)), none, none]) (ax_fewP_s _ _ (by repeat (first | exact trivial | (refine And.intro rfl ?_)))) (kk _ (by first | exact Nat.le_refl _ | exact Nat.le_succ _) _ (by first | exact Nat.le_refl _ | exact Nat.le_add_right _ _))
      · rw [if_neg z107] at h
        cases h
  · rw [if_neg z105] at h
    cases h
def d_L_789 (S : ax_S) (sc : Nat → Int32) (i : Nat) (I : ax_I) (R : ax_R) (L : ax_L) : Option (ax_I × ax_R × ax_L) :=
  (d_K_shown S I R 0 (sc (i + 1)) (sc (i + 2))).bind fun r108 =>
  (hc_shown r108).bind fun k110 =>
  (d_M_shown S I R 210 (sc (i + 1)) (sc (i + 2))).bind fun r112 =>
  (d_M_thrown S r112.2 R 210 ).bind fun r114 =>
  if r114 = k110 then
    if k110 = 0 then
      if (lg_cmp ((hcL r108 L 227) 227 0) ((r112.1).toInt64)) = 0 then
        some (r112.2, R, (hcL r108 L 227))
      else
        none
    else
      some (r112.2, R, (hcL r108 L 227))
  else
    none
set_option maxHeartbeats 1000000 in
theorem e_L_789 {X : ax_X} {l : Launch} (hl0 : l.stackTraces = false) (hX : ax_ok X l "LossFreeToolsLaw" code 7 (ax_rm 10 600002 7302197)) {b n : Nat} {sc : Nat → Int32} (hscr : ax_scrG (ax_GX X) b n sc) (hn31 : n < 2 ^ 31) {S : ax_S} (hs0 : S 0 = some (.inl 4)) (hs5 : S 210 = some (.inl 5)) (hso : S 227 = some (.inr (1, 1))) {i : Nat} (hi : i + 5 ≤ n) {I : ax_I} {R : ax_R} {L : ax_L} (hty : ax_typ S R) {out : ax_I × ax_R × ax_L} (h : d_L_789 S sc i I R L = some out) {cs ss : Nat} (hc1 : cs + 1 ≤ 600002) (hs1 : ss + 6 ≤ 7302197) (kk : ∀ cs2, cs2 ≤ cs + 1 → ∀ ss2, ss2 ≤ ss + 6 → ax_W X 7 1086 [some (.retAddr b), some (.ref 0), some (.ref 210), some (.ref 227), some (.int (nI i)), none, none] [] S out.1 out.2.1 out.2.2 cs2 ss2) : ax_W X 7 789 [some (.retAddr b), some (.ref 0), some (.ref 210), some (.ref 227), some (.int (nI i)), none, none] [] S I R L cs ss := by
  have hc0 : cs ≤ 600002 := Nat.le_of_succ_le hc1
  have hss0 : ss ≤ 7302197 := Nat.le_trans (Nat.le_add_right _ _) hs1
  unfold d_L_789 at h
  refine ax_aload_n (q := 790) hX dc_L_law_789 rfl rfl rfl ?_
  refine ax_saload_n (q := 791) hX dc_L_law_790 rfl rfl rfl ?_
  refine ax_iload (q := 793) hX dc_L_law_791 rfl rfl ?_
  refine ax_iconst (v := 1) (q := 794) hX dc_L_law_793 rfl (by decide) ?_
  refine ax_iadd (q := 795) hX dc_L_law_794 rfl ?_
  refine ax_sld (q := 796) hX hscr (i + 1) dc_L_law_795 rfl (nI_add i 1) (by omega) hn31 ?_
  refine ax_saload_n (q := 797) hX dc_L_law_796 rfl rfl rfl ?_
  refine ax_iload (q := 799) hX dc_L_law_797 rfl rfl ?_
  refine ax_iconst (v := 2) (q := 800) hX dc_L_law_799 rfl (by decide) ?_
  refine ax_iadd (q := 801) hX dc_L_law_800 rfl ?_
  refine ax_sld (q := 802) hX hscr (i + 2) dc_L_law_801 rfl (nI_add i 2) (by omega) hn31 ?_
  refine ax_aload_n (q := 803) hX dc_L_law_802 rfl rfl rfl ?_
  obtain ⟨r108, hr109, h⟩ := ax_bd h
  obtain ⟨k110, hk111, h⟩ := ax_bd h
  refine ax_callSW (q := 806) (n := 4) (vs := [.ref 0, .int (sc (i + 1)), .int (sc (i + 2)), .ref 227]) (rest := []) hX dc_L_law_803 rfl wcw_L_shown wn_LossFreeToolsLaw ⟨by decide +kernel, by decide +kernel⟩ (by decide +kernel) wl_L_111 wt_L_shown (c_L_shown l hs0 hso (c_K_shown l hl0 hty hs0 hr109) hk111) rfl (by decide) rfl (Nat.le_of_ble_eq_true rfl) hc1 hs1 (fun q0 S2 I2 R2 L2 hq0 _ => ?_)
  obtain ⟨q1, q2, q3, q4, q5⟩ := hq0
  rw [q1, q2, q3, q4, q5]
  clear q1 q2 q3 q4 q5
  show ax_W X 7 806 [some (.retAddr b), some (.ref 0), some (.ref 210), some (.ref 227), some (.int (nI i)), none, none] [.int (k110)] S I R (hcL r108 L 227) (cs + 1) (ss + 6)
  refine ax_istore (ls' := [some (.retAddr b), some (.ref 0), some (.ref 210), some (.ref 227), some (.int (nI i)), some (.int (k110)), none]) (q := 808) hX dc_L_law_806 rfl (by decide) rfl ?_
  refine ax_aload_n (q := 809) hX dc_L_law_808 rfl rfl rfl ?_
  refine ax_saload_n (q := 810) hX dc_L_law_809 rfl rfl rfl ?_
  refine ax_iload (q := 812) hX dc_L_law_810 rfl rfl ?_
  refine ax_iconst (v := 1) (q := 813) hX dc_L_law_812 rfl (by decide) ?_
  refine ax_iadd (q := 814) hX dc_L_law_813 rfl ?_
  refine ax_sld (q := 815) hX hscr (i + 1) dc_L_law_814 rfl (nI_add i 1) (by omega) hn31 ?_
  refine ax_saload_n (q := 816) hX dc_L_law_815 rfl rfl rfl ?_
  refine ax_iload (q := 818) hX dc_L_law_816 rfl rfl ?_
  refine ax_iconst (v := 2) (q := 819) hX dc_L_law_818 rfl (by decide) ?_
  refine ax_iadd (q := 820) hX dc_L_law_819 rfl ?_
  refine ax_sld (q := 821) hX hscr (i + 2) dc_L_law_820 rfl (nI_add i 2) (by omega) hn31 ?_
  obtain ⟨r112, hr113, h⟩ := ax_bd h
  refine ax_kV (vs := [.int (sc (i + 1)), .int (sc (i + 2))]) (rest := []) (q := 824) hX dc_L_law_821 rfl mt_M_shown wl_L_113 wi_M_shown ws_M_shown hs5 rfl (c_M_shown l hty hs5 hr113) rfl (by decide) rfl (Nat.le_of_ble_eq_true rfl) rfl rfl hc1 hs1 rfl ?_
  refine ax_istore (ls' := [some (.retAddr b), some (.ref 0), some (.ref 210), some (.ref 227), some (.int (nI i)), some (.int (k110)), some (.int (r112.1))]) (q := 826) hX dc_L_law_824 rfl (by decide) rfl ?_
  refine ax_aload_n (q := 827) hX dc_L_law_826 rfl rfl rfl ?_
  obtain ⟨r114, hr115, h⟩ := ax_bd h
  refine ax_kV (vs := []) (rest := []) (q := 830) hX dc_L_law_827 rfl mt_M_thrown wl_L_76 wi_M_thrown ws_M_thrown hs5 rfl (c_M_thrown l hty hs5 hr115) rfl (by decide) rfl (Nat.le_of_ble_eq_true rfl) rfl rfl hc1 hs1 rfl ?_
  refine ax_iload (q := 832) hX dc_L_law_830 rfl rfl ?_
  refine ax_icmp_eq (tgt := 837) (q := 835) hX dc_L_law_832 rfl (by decide) (fun z116 => ?_) (fun z116 => ?_)
  · rw [if_pos z116] at h
    refine ax_iload (q := 839) hX dc_L_law_837 rfl rfl ?_
    refine ax_if_ne (tgt := 854) (q := 842) hX dc_L_law_839 rfl (by decide) (fun z117 => ?_) (fun z117 => ?_)
    · rw [if_neg z117] at h
      refine ax_goto (tgt := 1086) hX dc_L_law_854 (by decide) ?_
      cases h
      exact ax_weak (ls' := [some (.retAddr b), some (.ref 0), some (.ref 210), some (.ref 227), some (.int (nI i)), none, none]) (ax_fewP_s _ _ (by repeat (first | exact trivial | (refine And.intro rfl ?_)))) (kk _ (by first | exact Nat.le_refl _ | exact Nat.le_succ _) _ (by first | exact Nat.le_refl _ | exact Nat.le_add_right _ _))
    · rw [if_pos z117] at h
      refine ax_aload_n (q := 843) hX dc_L_law_842 rfl rfl rfl ?_
      refine ax_iconst (v := 0) (q := 844) hX dc_L_law_843 rfl (by decide) ?_
      refine ax_lald (q := 845) hX 0 dc_L_law_844 rfl hso rfl (by decide) (by decide) ?_
      refine ax_iload (q := 847) hX dc_L_law_845 rfl rfl ?_
      refine ax_i2l (q := 848) hX dc_L_law_847 rfl rfl ?_
      refine ax_lcmp (q := 849) hX dc_L_law_848 rfl ?_
      refine ax_if_eq (tgt := 854) (q := 852) hX dc_L_law_849 rfl (by decide) (fun z118 => ?_) (fun z118 => ?_)
      · rw [if_pos z118] at h
        refine ax_goto (tgt := 1086) hX dc_L_law_854 (by decide) ?_
        cases h
        exact ax_weak (ls' := [some (.retAddr b), some (.ref 0), some (.ref 210), some (.ref 227), some (.int (nI i)), none, none]) (ax_fewP_s _ _ (by repeat (first | exact trivial | (refine And.intro rfl ?_)))) (kk _ (by first | exact Nat.le_refl _ | exact Nat.le_succ _) _ (by first | exact Nat.le_refl _ | exact Nat.le_add_right _ _))
      · rw [if_neg z118] at h
        cases h
  · rw [if_neg z116] at h
    cases h
def d_L_857 (S : ax_S) (sc : Nat → Int32) (i : Nat) (I : ax_I) (R : ax_R) (L : ax_L) : Option (ax_I × ax_R × ax_L) :=
  (d_K_noteAt S I R 0 (sc (i + 1)) (sc (i + 2))).bind fun r119 =>
  (hc_noteAt r119).bind fun k121 =>
  (d_M_noteAt S I R 210 (sc (i + 1)) (sc (i + 2))).bind fun r123 =>
  (d_M_thrown S r123.2 R 210 ).bind fun r125 =>
  if r125 = k121 then
    if k121 = 0 then
      if (lg_cmp ((hcL r119 L 227) 227 0) ((r123.1).toInt64)) = 0 then
        some (r123.2, R, (hcL r119 L 227))
      else
        none
    else
      some (r123.2, R, (hcL r119 L 227))
  else
    none
set_option maxHeartbeats 1000000 in
theorem e_L_857 {X : ax_X} {l : Launch} (hl0 : l.stackTraces = false) (hX : ax_ok X l "LossFreeToolsLaw" code 7 (ax_rm 10 600002 7302197)) {b n : Nat} {sc : Nat → Int32} (hscr : ax_scrG (ax_GX X) b n sc) (hn31 : n < 2 ^ 31) {S : ax_S} (hs0 : S 0 = some (.inl 4)) (hs5 : S 210 = some (.inl 5)) (hso : S 227 = some (.inr (1, 1))) {i : Nat} (hi : i + 5 ≤ n) {I : ax_I} {R : ax_R} {L : ax_L} (hty : ax_typ S R) {out : ax_I × ax_R × ax_L} (h : d_L_857 S sc i I R L = some out) {cs ss : Nat} (hc1 : cs + 1 ≤ 600002) (hs1 : ss + 6 ≤ 7302197) (kk : ∀ cs2, cs2 ≤ cs + 1 → ∀ ss2, ss2 ≤ ss + 6 → ax_W X 7 1086 [some (.retAddr b), some (.ref 0), some (.ref 210), some (.ref 227), some (.int (nI i)), none, none] [] S out.1 out.2.1 out.2.2 cs2 ss2) : ax_W X 7 857 [some (.retAddr b), some (.ref 0), some (.ref 210), some (.ref 227), some (.int (nI i)), none, none] [] S I R L cs ss := by
  have hc0 : cs ≤ 600002 := Nat.le_of_succ_le hc1
  have hss0 : ss ≤ 7302197 := Nat.le_trans (Nat.le_add_right _ _) hs1
  unfold d_L_857 at h
  refine ax_aload_n (q := 858) hX dc_L_law_857 rfl rfl rfl ?_
  refine ax_saload_n (q := 859) hX dc_L_law_858 rfl rfl rfl ?_
  refine ax_iload (q := 861) hX dc_L_law_859 rfl rfl ?_
  refine ax_iconst (v := 1) (q := 862) hX dc_L_law_861 rfl (by decide) ?_
  refine ax_iadd (q := 863) hX dc_L_law_862 rfl ?_
  refine ax_sld (q := 864) hX hscr (i + 1) dc_L_law_863 rfl (nI_add i 1) (by omega) hn31 ?_
  refine ax_saload_n (q := 865) hX dc_L_law_864 rfl rfl rfl ?_
  refine ax_iload (q := 867) hX dc_L_law_865 rfl rfl ?_
  refine ax_iconst (v := 2) (q := 868) hX dc_L_law_867 rfl (by decide) ?_
  refine ax_iadd (q := 869) hX dc_L_law_868 rfl ?_
  refine ax_sld (q := 870) hX hscr (i + 2) dc_L_law_869 rfl (nI_add i 2) (by omega) hn31 ?_
  refine ax_aload_n (q := 871) hX dc_L_law_870 rfl rfl rfl ?_
  obtain ⟨r119, hr120, h⟩ := ax_bd h
  obtain ⟨k121, hk122, h⟩ := ax_bd h
  refine ax_callSW (q := 874) (n := 4) (vs := [.ref 0, .int (sc (i + 1)), .int (sc (i + 2)), .ref 227]) (rest := []) hX dc_L_law_871 rfl wcw_L_noteAt wn_LossFreeToolsLaw ⟨by decide +kernel, by decide +kernel⟩ (by decide +kernel) wl_L_114 wt_L_noteAt (c_L_noteAt l hs0 hso (c_K_noteAt l hl0 hty hs0 hr120) hk122) rfl (by decide) rfl (Nat.le_of_ble_eq_true rfl) hc1 hs1 (fun q0 S2 I2 R2 L2 hq0 _ => ?_)
  obtain ⟨q1, q2, q3, q4, q5⟩ := hq0
  rw [q1, q2, q3, q4, q5]
  clear q1 q2 q3 q4 q5
  show ax_W X 7 874 [some (.retAddr b), some (.ref 0), some (.ref 210), some (.ref 227), some (.int (nI i)), none, none] [.int (k121)] S I R (hcL r119 L 227) (cs + 1) (ss + 6)
  refine ax_istore (ls' := [some (.retAddr b), some (.ref 0), some (.ref 210), some (.ref 227), some (.int (nI i)), some (.int (k121)), none]) (q := 876) hX dc_L_law_874 rfl (by decide) rfl ?_
  refine ax_aload_n (q := 877) hX dc_L_law_876 rfl rfl rfl ?_
  refine ax_saload_n (q := 878) hX dc_L_law_877 rfl rfl rfl ?_
  refine ax_iload (q := 880) hX dc_L_law_878 rfl rfl ?_
  refine ax_iconst (v := 1) (q := 881) hX dc_L_law_880 rfl (by decide) ?_
  refine ax_iadd (q := 882) hX dc_L_law_881 rfl ?_
  refine ax_sld (q := 883) hX hscr (i + 1) dc_L_law_882 rfl (nI_add i 1) (by omega) hn31 ?_
  refine ax_saload_n (q := 884) hX dc_L_law_883 rfl rfl rfl ?_
  refine ax_iload (q := 886) hX dc_L_law_884 rfl rfl ?_
  refine ax_iconst (v := 2) (q := 887) hX dc_L_law_886 rfl (by decide) ?_
  refine ax_iadd (q := 888) hX dc_L_law_887 rfl ?_
  refine ax_sld (q := 889) hX hscr (i + 2) dc_L_law_888 rfl (nI_add i 2) (by omega) hn31 ?_
  obtain ⟨r123, hr124, h⟩ := ax_bd h
  refine ax_kV (vs := [.int (sc (i + 1)), .int (sc (i + 2))]) (rest := []) (q := 892) hX dc_L_law_889 rfl mt_M_noteAt wl_L_116 wi_M_noteAt ws_M_noteAt hs5 rfl (c_M_noteAt l hty hs5 hr124) rfl (by decide) rfl (Nat.le_of_ble_eq_true rfl) rfl rfl hc1 hs1 rfl ?_
  refine ax_istore (ls' := [some (.retAddr b), some (.ref 0), some (.ref 210), some (.ref 227), some (.int (nI i)), some (.int (k121)), some (.int (r123.1))]) (q := 894) hX dc_L_law_892 rfl (by decide) rfl ?_
  refine ax_aload_n (q := 895) hX dc_L_law_894 rfl rfl rfl ?_
  obtain ⟨r125, hr126, h⟩ := ax_bd h
  refine ax_kV (vs := []) (rest := []) (q := 898) hX dc_L_law_895 rfl mt_M_thrown wl_L_76 wi_M_thrown ws_M_thrown hs5 rfl (c_M_thrown l hty hs5 hr126) rfl (by decide) rfl (Nat.le_of_ble_eq_true rfl) rfl rfl hc1 hs1 rfl ?_
  refine ax_iload (q := 900) hX dc_L_law_898 rfl rfl ?_
  refine ax_icmp_eq (tgt := 905) (q := 903) hX dc_L_law_900 rfl (by decide) (fun z127 => ?_) (fun z127 => ?_)
  · rw [if_pos z127] at h
    refine ax_iload (q := 907) hX dc_L_law_905 rfl rfl ?_
    refine ax_if_ne (tgt := 922) (q := 910) hX dc_L_law_907 rfl (by decide) (fun z128 => ?_) (fun z128 => ?_)
    · rw [if_neg z128] at h
      refine ax_goto (tgt := 1086) hX dc_L_law_922 (by decide) ?_
      cases h
      exact ax_weak (ls' := [some (.retAddr b), some (.ref 0), some (.ref 210), some (.ref 227), some (.int (nI i)), none, none]) (ax_fewP_s _ _ (by repeat (first | exact trivial | (refine And.intro rfl ?_)))) (kk _ (by first | exact Nat.le_refl _ | exact Nat.le_succ _) _ (by first | exact Nat.le_refl _ | exact Nat.le_add_right _ _))
    · rw [if_pos z128] at h
      refine ax_aload_n (q := 911) hX dc_L_law_910 rfl rfl rfl ?_
      refine ax_iconst (v := 0) (q := 912) hX dc_L_law_911 rfl (by decide) ?_
      refine ax_lald (q := 913) hX 0 dc_L_law_912 rfl hso rfl (by decide) (by decide) ?_
      refine ax_iload (q := 915) hX dc_L_law_913 rfl rfl ?_
      refine ax_i2l (q := 916) hX dc_L_law_915 rfl rfl ?_
      refine ax_lcmp (q := 917) hX dc_L_law_916 rfl ?_
      refine ax_if_eq (tgt := 922) (q := 920) hX dc_L_law_917 rfl (by decide) (fun z129 => ?_) (fun z129 => ?_)
      · rw [if_pos z129] at h
        refine ax_goto (tgt := 1086) hX dc_L_law_922 (by decide) ?_
        cases h
        exact ax_weak (ls' := [some (.retAddr b), some (.ref 0), some (.ref 210), some (.ref 227), some (.int (nI i)), none, none]) (ax_fewP_s _ _ (by repeat (first | exact trivial | (refine And.intro rfl ?_)))) (kk _ (by first | exact Nat.le_refl _ | exact Nat.le_succ _) _ (by first | exact Nat.le_refl _ | exact Nat.le_add_right _ _))
      · rw [if_neg z129] at h
        cases h
  · rw [if_neg z127] at h
    cases h
def d_L_925 (S : ax_S) (sc : Nat → Int32) (i : Nat) (I : ax_I) (R : ax_R) (L : ax_L) : Option (ax_I × ax_R × ax_L) :=
  (d_K_write S I R 0 ).bind fun r130 =>
  (d_M_write S r130.2 R 210 ).bind fun r132 =>
  if r130.1 = r132.1 then
    some (r132.2, R, L)
  else
    none
set_option maxHeartbeats 1000000 in
theorem e_L_925 {X : ax_X} {l : Launch} (hl0 : l.stackTraces = false) (hX : ax_ok X l "LossFreeToolsLaw" code 7 (ax_rm 10 600002 7302197)) {b n : Nat} {sc : Nat → Int32} (hscr : ax_scrG (ax_GX X) b n sc) (hn31 : n < 2 ^ 31) {S : ax_S} (hs0 : S 0 = some (.inl 4)) (hs5 : S 210 = some (.inl 5)) (hso : S 227 = some (.inr (1, 1))) {i : Nat} (hi : i + 5 ≤ n) {I : ax_I} {R : ax_R} {L : ax_L} (hty : ax_typ S R) {out : ax_I × ax_R × ax_L} (h : d_L_925 S sc i I R L = some out) {cs ss : Nat} (hc1 : cs + 1 ≤ 600002) (hs1 : ss + 6 ≤ 7302197) (kk : ∀ cs2, cs2 ≤ cs + 1 → ∀ ss2, ss2 ≤ ss + 6 → ax_W X 7 1086 [some (.retAddr b), some (.ref 0), some (.ref 210), some (.ref 227), some (.int (nI i)), none, none] [] S out.1 out.2.1 out.2.2 cs2 ss2) : ax_W X 7 925 [some (.retAddr b), some (.ref 0), some (.ref 210), some (.ref 227), some (.int (nI i)), none, none] [] S I R L cs ss := by
  have hc0 : cs ≤ 600002 := Nat.le_of_succ_le hc1
  have hss0 : ss ≤ 7302197 := Nat.le_trans (Nat.le_add_right _ _) hs1
  unfold d_L_925 at h
  refine ax_aload_n (q := 926) hX dc_L_law_925 rfl rfl rfl ?_
  obtain ⟨r130, hr131, h⟩ := ax_bd h
  refine ax_kV (vs := []) (rest := []) (q := 929) hX dc_L_law_926 rfl mt_K_write wl_L_117 wi_K_write ws_K_write hs0 rfl (c_K_write l hty hs0 hr131) rfl (by decide) rfl (Nat.le_of_ble_eq_true rfl) rfl rfl hc0 hss0 rfl ?_
  refine ax_aload_n (q := 930) hX dc_L_law_929 rfl rfl rfl ?_
  obtain ⟨r132, hr133, h⟩ := ax_bd h
  refine ax_kV (vs := []) (rest := [.int (r130.1)]) (q := 933) hX dc_L_law_930 rfl mt_M_write wl_L_120 wi_M_write ws_M_write hs5 rfl (c_M_write l hty hs5 hr133) rfl (by decide) rfl (Nat.le_of_ble_eq_true rfl) rfl rfl hc0 hss0 rfl ?_
  refine ax_icmp_eq (tgt := 1086) (q := 936) hX dc_L_law_933 rfl (by decide) (fun z134 => ?_) (fun z134 => ?_)
  · rw [if_pos z134] at h
    cases h
    exact kk _ (by first | exact Nat.le_refl _ | exact Nat.le_succ _) _ (by first | exact Nat.le_refl _ | exact Nat.le_add_right _ _)
  · rw [if_neg z134] at h
    cases h
def d_L_938 (S : ax_S) (sc : Nat → Int32) (i : Nat) (I : ax_I) (R : ax_R) (L : ax_L) : Option (ax_I × ax_R × ax_L) :=
  (d_K_streamAt S I R 0 (sc (i + 1))).bind fun r135 =>
  (hc_streamAt r135).bind fun k137 =>
  (d_M_streamAt S I R 210 (sc (i + 1))).bind fun r139 =>
  (d_M_thrown S r139.2 R 210 ).bind fun r141 =>
  if r141 = k137 then
    if k137 = 0 then
      if (lg_cmp ((hcL r135 L 227) 227 0) ((r139.1).toInt64)) = 0 then
        some (r139.2, R, (hcL r135 L 227))
      else
        none
    else
      some (r139.2, R, (hcL r135 L 227))
  else
    none
set_option maxHeartbeats 1000000 in
theorem e_L_938 {X : ax_X} {l : Launch} (hl0 : l.stackTraces = false) (hX : ax_ok X l "LossFreeToolsLaw" code 7 (ax_rm 10 600002 7302197)) {b n : Nat} {sc : Nat → Int32} (hscr : ax_scrG (ax_GX X) b n sc) (hn31 : n < 2 ^ 31) {S : ax_S} (hs0 : S 0 = some (.inl 4)) (hs5 : S 210 = some (.inl 5)) (hso : S 227 = some (.inr (1, 1))) {i : Nat} (hi : i + 5 ≤ n) {I : ax_I} {R : ax_R} {L : ax_L} (hty : ax_typ S R) {out : ax_I × ax_R × ax_L} (h : d_L_938 S sc i I R L = some out) {cs ss : Nat} (hc1 : cs + 1 ≤ 600002) (hs1 : ss + 6 ≤ 7302197) (kk : ∀ cs2, cs2 ≤ cs + 1 → ∀ ss2, ss2 ≤ ss + 6 → ax_W X 7 1086 [some (.retAddr b), some (.ref 0), some (.ref 210), some (.ref 227), some (.int (nI i)), none, none] [] S out.1 out.2.1 out.2.2 cs2 ss2) : ax_W X 7 938 [some (.retAddr b), some (.ref 0), some (.ref 210), some (.ref 227), some (.int (nI i)), none, none] [] S I R L cs ss := by
  have hc0 : cs ≤ 600002 := Nat.le_of_succ_le hc1
  have hss0 : ss ≤ 7302197 := Nat.le_trans (Nat.le_add_right _ _) hs1
  unfold d_L_938 at h
  refine ax_aload_n (q := 939) hX dc_L_law_938 rfl rfl rfl ?_
  refine ax_saload_n (q := 940) hX dc_L_law_939 rfl rfl rfl ?_
  refine ax_iload (q := 942) hX dc_L_law_940 rfl rfl ?_
  refine ax_iconst (v := 1) (q := 943) hX dc_L_law_942 rfl (by decide) ?_
  refine ax_iadd (q := 944) hX dc_L_law_943 rfl ?_
  refine ax_sld (q := 945) hX hscr (i + 1) dc_L_law_944 rfl (nI_add i 1) (by omega) hn31 ?_
  refine ax_aload_n (q := 946) hX dc_L_law_945 rfl rfl rfl ?_
  obtain ⟨r135, hr136, h⟩ := ax_bd h
  obtain ⟨k137, hk138, h⟩ := ax_bd h
  refine ax_callSW (q := 949) (n := 3) (vs := [.ref 0, .int (sc (i + 1)), .ref 227]) (rest := []) hX dc_L_law_946 rfl wcw_L_streamAt wn_LossFreeToolsLaw ⟨by decide +kernel, by decide +kernel⟩ (by decide +kernel) wl_L_121 wt_L_streamAt (c_L_streamAt l hs0 hso (c_K_streamAt l hl0 hty hs0 hr136) hk138) rfl (by decide) rfl (Nat.le_of_ble_eq_true rfl) hc1 hs1 (fun q0 S2 I2 R2 L2 hq0 _ => ?_)
  obtain ⟨q1, q2, q3, q4, q5⟩ := hq0
  rw [q1, q2, q3, q4, q5]
  clear q1 q2 q3 q4 q5
  show ax_W X 7 949 [some (.retAddr b), some (.ref 0), some (.ref 210), some (.ref 227), some (.int (nI i)), none, none] [.int (k137)] S I R (hcL r135 L 227) (cs + 1) (ss + 6)
  refine ax_istore (ls' := [some (.retAddr b), some (.ref 0), some (.ref 210), some (.ref 227), some (.int (nI i)), some (.int (k137)), none]) (q := 951) hX dc_L_law_949 rfl (by decide) rfl ?_
  refine ax_aload_n (q := 952) hX dc_L_law_951 rfl rfl rfl ?_
  refine ax_saload_n (q := 953) hX dc_L_law_952 rfl rfl rfl ?_
  refine ax_iload (q := 955) hX dc_L_law_953 rfl rfl ?_
  refine ax_iconst (v := 1) (q := 956) hX dc_L_law_955 rfl (by decide) ?_
  refine ax_iadd (q := 957) hX dc_L_law_956 rfl ?_
  refine ax_sld (q := 958) hX hscr (i + 1) dc_L_law_957 rfl (nI_add i 1) (by omega) hn31 ?_
  obtain ⟨r139, hr140, h⟩ := ax_bd h
  refine ax_kV (vs := [.int (sc (i + 1))]) (rest := []) (q := 961) hX dc_L_law_958 rfl mt_M_streamAt wl_L_123 wi_M_streamAt ws_M_streamAt hs5 rfl (c_M_streamAt l hty hs5 hr140) rfl (by decide) rfl (Nat.le_of_ble_eq_true rfl) rfl rfl hc1 hs1 rfl ?_
  refine ax_istore (ls' := [some (.retAddr b), some (.ref 0), some (.ref 210), some (.ref 227), some (.int (nI i)), some (.int (k137)), some (.int (r139.1))]) (q := 963) hX dc_L_law_961 rfl (by decide) rfl ?_
  refine ax_aload_n (q := 964) hX dc_L_law_963 rfl rfl rfl ?_
  obtain ⟨r141, hr142, h⟩ := ax_bd h
  refine ax_kV (vs := []) (rest := []) (q := 967) hX dc_L_law_964 rfl mt_M_thrown wl_L_76 wi_M_thrown ws_M_thrown hs5 rfl (c_M_thrown l hty hs5 hr142) rfl (by decide) rfl (Nat.le_of_ble_eq_true rfl) rfl rfl hc1 hs1 rfl ?_
  refine ax_iload (q := 969) hX dc_L_law_967 rfl rfl ?_
  refine ax_icmp_eq (tgt := 974) (q := 972) hX dc_L_law_969 rfl (by decide) (fun z143 => ?_) (fun z143 => ?_)
  · rw [if_pos z143] at h
    refine ax_iload (q := 976) hX dc_L_law_974 rfl rfl ?_
    refine ax_if_ne (tgt := 991) (q := 979) hX dc_L_law_976 rfl (by decide) (fun z144 => ?_) (fun z144 => ?_)
    · rw [if_neg z144] at h
      refine ax_goto (tgt := 1086) hX dc_L_law_991 (by decide) ?_
      cases h
      exact ax_weak (ls' := [some (.retAddr b), some (.ref 0), some (.ref 210), some (.ref 227), some (.int (nI i)), none, none]) (ax_fewP_s _ _ (by repeat (first | exact trivial | (refine And.intro rfl ?_)))) (kk _ (by first | exact Nat.le_refl _ | exact Nat.le_succ _) _ (by first | exact Nat.le_refl _ | exact Nat.le_add_right _ _))
    · rw [if_pos z144] at h
      refine ax_aload_n (q := 980) hX dc_L_law_979 rfl rfl rfl ?_
      refine ax_iconst (v := 0) (q := 981) hX dc_L_law_980 rfl (by decide) ?_
      refine ax_lald (q := 982) hX 0 dc_L_law_981 rfl hso rfl (by decide) (by decide) ?_
      refine ax_iload (q := 984) hX dc_L_law_982 rfl rfl ?_
      refine ax_i2l (q := 985) hX dc_L_law_984 rfl rfl ?_
      refine ax_lcmp (q := 986) hX dc_L_law_985 rfl ?_
      refine ax_if_eq (tgt := 991) (q := 989) hX dc_L_law_986 rfl (by decide) (fun z145 => ?_) (fun z145 => ?_)
      · rw [if_pos z145] at h
        refine ax_goto (tgt := 1086) hX dc_L_law_991 (by decide) ?_
        cases h
        exact ax_weak (ls' := [some (.retAddr b), some (.ref 0), some (.ref 210), some (.ref 227), some (.int (nI i)), none, none]) (ax_fewP_s _ _ (by repeat (first | exact trivial | (refine And.intro rfl ?_)))) (kk _ (by first | exact Nat.le_refl _ | exact Nat.le_succ _) _ (by first | exact Nat.le_refl _ | exact Nat.le_add_right _ _))
      · rw [if_neg z145] at h
        cases h
  · rw [if_neg z143] at h
    cases h
def d_L_994 (S : ax_S) (sc : Nat → Int32) (i : Nat) (I : ax_I) (R : ax_R) (L : ax_L) : Option (ax_I × ax_R × ax_L) :=
  (d_K_pointer S I R 0 (sc (i + 1))).bind fun r146 =>
  (hc_pointer r146).bind fun k148 =>
  (d_M_pointer S I R 210 (sc (i + 1))).bind fun r150 =>
  (d_M_thrown S r150.2 R 210 ).bind fun r152 =>
  if r152 = k148 then
    if k148 = 0 then
      if (lg_cmp ((hcL r146 L 227) 227 0) ((r150.1).toInt64)) = 0 then
        some (r150.2, R, (hcL r146 L 227))
      else
        none
    else
      some (r150.2, R, (hcL r146 L 227))
  else
    none
set_option maxHeartbeats 1000000 in
theorem e_L_994 {X : ax_X} {l : Launch} (hl0 : l.stackTraces = false) (hX : ax_ok X l "LossFreeToolsLaw" code 7 (ax_rm 10 600002 7302197)) {b n : Nat} {sc : Nat → Int32} (hscr : ax_scrG (ax_GX X) b n sc) (hn31 : n < 2 ^ 31) {S : ax_S} (hs0 : S 0 = some (.inl 4)) (hs5 : S 210 = some (.inl 5)) (hso : S 227 = some (.inr (1, 1))) {i : Nat} (hi : i + 5 ≤ n) {I : ax_I} {R : ax_R} {L : ax_L} (hty : ax_typ S R) {out : ax_I × ax_R × ax_L} (h : d_L_994 S sc i I R L = some out) {cs ss : Nat} (hc1 : cs + 1 ≤ 600002) (hs1 : ss + 6 ≤ 7302197) (kk : ∀ cs2, cs2 ≤ cs + 1 → ∀ ss2, ss2 ≤ ss + 6 → ax_W X 7 1086 [some (.retAddr b), some (.ref 0), some (.ref 210), some (.ref 227), some (.int (nI i)), none, none] [] S out.1 out.2.1 out.2.2 cs2 ss2) : ax_W X 7 994 [some (.retAddr b), some (.ref 0), some (.ref 210), some (.ref 227), some (.int (nI i)), none, none] [] S I R L cs ss := by
  have hc0 : cs ≤ 600002 := Nat.le_of_succ_le hc1
  have hss0 : ss ≤ 7302197 := Nat.le_trans (Nat.le_add_right _ _) hs1
  unfold d_L_994 at h
  refine ax_aload_n (q := 995) hX dc_L_law_994 rfl rfl rfl ?_
  refine ax_saload_n (q := 996) hX dc_L_law_995 rfl rfl rfl ?_
  refine ax_iload (q := 998) hX dc_L_law_996 rfl rfl ?_
  refine ax_iconst (v := 1) (q := 999) hX dc_L_law_998 rfl (by decide) ?_
  refine ax_iadd (q := 1000) hX dc_L_law_999 rfl ?_
  refine ax_sld (q := 1001) hX hscr (i + 1) dc_L_law_1000 rfl (nI_add i 1) (by omega) hn31 ?_
  refine ax_aload_n (q := 1002) hX dc_L_law_1001 rfl rfl rfl ?_
  obtain ⟨r146, hr147, h⟩ := ax_bd h
  obtain ⟨k148, hk149, h⟩ := ax_bd h
  refine ax_callSW (q := 1005) (n := 3) (vs := [.ref 0, .int (sc (i + 1)), .ref 227]) (rest := []) hX dc_L_law_1002 rfl wcw_L_pointer wn_LossFreeToolsLaw ⟨by decide +kernel, by decide +kernel⟩ (by decide +kernel) wl_L_124 wt_L_pointer (c_L_pointer l hs0 hso (c_K_pointer l hl0 hty hs0 hr147) hk149) rfl (by decide) rfl (Nat.le_of_ble_eq_true rfl) hc1 hs1 (fun q0 S2 I2 R2 L2 hq0 _ => ?_)
  obtain ⟨q1, q2, q3, q4, q5⟩ := hq0
  rw [q1, q2, q3, q4, q5]
  clear q1 q2 q3 q4 q5
  show ax_W X 7 1005 [some (.retAddr b), some (.ref 0), some (.ref 210), some (.ref 227), some (.int (nI i)), none, none] [.int (k148)] S I R (hcL r146 L 227) (cs + 1) (ss + 6)
  refine ax_istore (ls' := [some (.retAddr b), some (.ref 0), some (.ref 210), some (.ref 227), some (.int (nI i)), some (.int (k148)), none]) (q := 1007) hX dc_L_law_1005 rfl (by decide) rfl ?_
  refine ax_aload_n (q := 1008) hX dc_L_law_1007 rfl rfl rfl ?_
  refine ax_saload_n (q := 1009) hX dc_L_law_1008 rfl rfl rfl ?_
  refine ax_iload (q := 1011) hX dc_L_law_1009 rfl rfl ?_
  refine ax_iconst (v := 1) (q := 1012) hX dc_L_law_1011 rfl (by decide) ?_
  refine ax_iadd (q := 1013) hX dc_L_law_1012 rfl ?_
  refine ax_sld (q := 1014) hX hscr (i + 1) dc_L_law_1013 rfl (nI_add i 1) (by omega) hn31 ?_
  obtain ⟨r150, hr151, h⟩ := ax_bd h
  refine ax_kV (vs := [.int (sc (i + 1))]) (rest := []) (q := 1017) hX dc_L_law_1014 rfl mt_M_pointer wl_L_126 wi_M_pointer ws_M_pointer hs5 rfl (c_M_pointer l hty hs5 hr151) rfl (by decide) rfl (Nat.le_of_ble_eq_true rfl) rfl rfl hc1 hs1 rfl ?_
  refine ax_istore (ls' := [some (.retAddr b), some (.ref 0), some (.ref 210), some (.ref 227), some (.int (nI i)), some (.int (k148)), some (.int (r150.1))]) (q := 1019) hX dc_L_law_1017 rfl (by decide) rfl ?_
  refine ax_aload_n (q := 1020) hX dc_L_law_1019 rfl rfl rfl ?_
  obtain ⟨r152, hr153, h⟩ := ax_bd h
  refine ax_kV (vs := []) (rest := []) (q := 1023) hX dc_L_law_1020 rfl mt_M_thrown wl_L_76 wi_M_thrown ws_M_thrown hs5 rfl (c_M_thrown l hty hs5 hr153) rfl (by decide) rfl (Nat.le_of_ble_eq_true rfl) rfl rfl hc1 hs1 rfl ?_
  refine ax_iload (q := 1025) hX dc_L_law_1023 rfl rfl ?_
  refine ax_icmp_eq (tgt := 1030) (q := 1028) hX dc_L_law_1025 rfl (by decide) (fun z154 => ?_) (fun z154 => ?_)
  · rw [if_pos z154] at h
    refine ax_iload (q := 1032) hX dc_L_law_1030 rfl rfl ?_
    refine ax_if_ne (tgt := 1047) (q := 1035) hX dc_L_law_1032 rfl (by decide) (fun z155 => ?_) (fun z155 => ?_)
    · rw [if_neg z155] at h
      refine ax_goto (tgt := 1086) hX dc_L_law_1047 (by decide) ?_
      cases h
      exact ax_weak (ls' := [some (.retAddr b), some (.ref 0), some (.ref 210), some (.ref 227), some (.int (nI i)), none, none]) (ax_fewP_s _ _ (by repeat (first | exact trivial | (refine And.intro rfl ?_)))) (kk _ (by first | exact Nat.le_refl _ | exact Nat.le_succ _) _ (by first | exact Nat.le_refl _ | exact Nat.le_add_right _ _))
    · rw [if_pos z155] at h
      refine ax_aload_n (q := 1036) hX dc_L_law_1035 rfl rfl rfl ?_
      refine ax_iconst (v := 0) (q := 1037) hX dc_L_law_1036 rfl (by decide) ?_
      refine ax_lald (q := 1038) hX 0 dc_L_law_1037 rfl hso rfl (by decide) (by decide) ?_
      refine ax_iload (q := 1040) hX dc_L_law_1038 rfl rfl ?_
      refine ax_i2l (q := 1041) hX dc_L_law_1040 rfl rfl ?_
      refine ax_lcmp (q := 1042) hX dc_L_law_1041 rfl ?_
      refine ax_if_eq (tgt := 1047) (q := 1045) hX dc_L_law_1042 rfl (by decide) (fun z156 => ?_) (fun z156 => ?_)
      · rw [if_pos z156] at h
        refine ax_goto (tgt := 1086) hX dc_L_law_1047 (by decide) ?_
        cases h
        exact ax_weak (ls' := [some (.retAddr b), some (.ref 0), some (.ref 210), some (.ref 227), some (.int (nI i)), none, none]) (ax_fewP_s _ _ (by repeat (first | exact trivial | (refine And.intro rfl ?_)))) (kk _ (by first | exact Nat.le_refl _ | exact Nat.le_succ _) _ (by first | exact Nat.le_refl _ | exact Nat.le_add_right _ _))
      · rw [if_neg z156] at h
        cases h
  · rw [if_neg z154] at h
    cases h
def d_L_1050 (S : ax_S) (sc : Nat → Int32) (i : Nat) (I : ax_I) (R : ax_R) (L : ax_L) : Option (ax_I × ax_R × ax_L) :=
  (d_K_told S I R 0 (sc (i + 1))).bind fun r157 =>
  (d_M_told S I R 210 (sc (i + 1))).bind fun r159 =>
  if r157 = r159.1 then
    some (r159.2, R, L)
  else
    none
set_option maxHeartbeats 1000000 in
theorem e_L_1050 {X : ax_X} {l : Launch} (hl0 : l.stackTraces = false) (hX : ax_ok X l "LossFreeToolsLaw" code 7 (ax_rm 10 600002 7302197)) {b n : Nat} {sc : Nat → Int32} (hscr : ax_scrG (ax_GX X) b n sc) (hn31 : n < 2 ^ 31) {S : ax_S} (hs0 : S 0 = some (.inl 4)) (hs5 : S 210 = some (.inl 5)) (hso : S 227 = some (.inr (1, 1))) {i : Nat} (hi : i + 5 ≤ n) {I : ax_I} {R : ax_R} {L : ax_L} (hty : ax_typ S R) {out : ax_I × ax_R × ax_L} (h : d_L_1050 S sc i I R L = some out) {cs ss : Nat} (hc1 : cs + 1 ≤ 600002) (hs1 : ss + 6 ≤ 7302197) (kk : ∀ cs2, cs2 ≤ cs + 1 → ∀ ss2, ss2 ≤ ss + 6 → ax_W X 7 1086 [some (.retAddr b), some (.ref 0), some (.ref 210), some (.ref 227), some (.int (nI i)), none, none] [] S out.1 out.2.1 out.2.2 cs2 ss2) : ax_W X 7 1050 [some (.retAddr b), some (.ref 0), some (.ref 210), some (.ref 227), some (.int (nI i)), none, none] [] S I R L cs ss := by
  have hc0 : cs ≤ 600002 := Nat.le_of_succ_le hc1
  have hss0 : ss ≤ 7302197 := Nat.le_trans (Nat.le_add_right _ _) hs1
  unfold d_L_1050 at h
  refine ax_aload_n (q := 1051) hX dc_L_law_1050 rfl rfl rfl ?_
  refine ax_saload_n (q := 1052) hX dc_L_law_1051 rfl rfl rfl ?_
  refine ax_iload (q := 1054) hX dc_L_law_1052 rfl rfl ?_
  refine ax_iconst (v := 1) (q := 1055) hX dc_L_law_1054 rfl (by decide) ?_
  refine ax_iadd (q := 1056) hX dc_L_law_1055 rfl ?_
  refine ax_sld (q := 1057) hX hscr (i + 1) dc_L_law_1056 rfl (nI_add i 1) (by omega) hn31 ?_
  obtain ⟨r157, hr158, h⟩ := ax_bd h
  refine ax_kV (vs := [.int (sc (i + 1))]) (rest := []) (q := 1060) hX dc_L_law_1057 rfl mt_K_told wl_L_127 wi_K_told ws_K_told hs0 rfl (c_K_told l hty hs0 hr158) rfl (by decide) rfl (Nat.le_of_ble_eq_true rfl) rfl rfl hc0 hss0 rfl ?_
  refine ax_aload_n (q := 1061) hX dc_L_law_1060 rfl rfl rfl ?_
  refine ax_saload_n (q := 1062) hX dc_L_law_1061 rfl rfl rfl ?_
  refine ax_iload (q := 1064) hX dc_L_law_1062 rfl rfl ?_
  refine ax_iconst (v := 1) (q := 1065) hX dc_L_law_1064 rfl (by decide) ?_
  refine ax_iadd (q := 1066) hX dc_L_law_1065 rfl ?_
  refine ax_sld (q := 1067) hX hscr (i + 1) dc_L_law_1066 rfl (nI_add i 1) (by omega) hn31 ?_
  obtain ⟨r159, hr160, h⟩ := ax_bd h
  refine ax_kV (vs := [.int (sc (i + 1))]) (rest := [.int (r157)]) (q := 1070) hX dc_L_law_1067 rfl mt_M_told wl_L_130 wi_M_told ws_M_told hs5 rfl (c_M_told l hty hs5 hr160) rfl (by decide) rfl (Nat.le_of_ble_eq_true rfl) rfl rfl hc0 hss0 rfl ?_
  refine ax_icmp_eq (tgt := 1086) (q := 1073) hX dc_L_law_1070 rfl (by decide) (fun z161 => ?_) (fun z161 => ?_)
  · rw [if_pos z161] at h
    cases h
    exact kk _ (by first | exact Nat.le_refl _ | exact Nat.le_succ _) _ (by first | exact Nat.le_refl _ | exact Nat.le_add_right _ _)
  · rw [if_neg z161] at h
    cases h
def d_L_1075 (S : ax_S) (sc : Nat → Int32) (i : Nat) (I : ax_I) (R : ax_R) (L : ax_L) : Option (ax_I × ax_R × ax_L) :=
  (d_K_clear S I R 0 ).bind fun r162 =>
  (d_M_clear S r162 R 210 ).bind fun r164 =>
  some (r164, R, L)
set_option maxHeartbeats 1000000 in
theorem e_L_1075 {X : ax_X} {l : Launch} (hl0 : l.stackTraces = false) (hX : ax_ok X l "LossFreeToolsLaw" code 7 (ax_rm 10 600002 7302197)) {b n : Nat} {sc : Nat → Int32} (hscr : ax_scrG (ax_GX X) b n sc) (hn31 : n < 2 ^ 31) {S : ax_S} (hs0 : S 0 = some (.inl 4)) (hs5 : S 210 = some (.inl 5)) (hso : S 227 = some (.inr (1, 1))) {i : Nat} (hi : i + 5 ≤ n) {I : ax_I} {R : ax_R} {L : ax_L} (hty : ax_typ S R) {out : ax_I × ax_R × ax_L} (h : d_L_1075 S sc i I R L = some out) {cs ss : Nat} (hc1 : cs + 1 ≤ 600002) (hs1 : ss + 6 ≤ 7302197) (kk : ∀ cs2, cs2 ≤ cs + 1 → ∀ ss2, ss2 ≤ ss + 6 → ax_W X 7 1086 [some (.retAddr b), some (.ref 0), some (.ref 210), some (.ref 227), some (.int (nI i)), none, none] [] S out.1 out.2.1 out.2.2 cs2 ss2) : ax_W X 7 1075 [some (.retAddr b), some (.ref 0), some (.ref 210), some (.ref 227), some (.int (nI i)), none, none] [] S I R L cs ss := by
  have hc0 : cs ≤ 600002 := Nat.le_of_succ_le hc1
  have hss0 : ss ≤ 7302197 := Nat.le_trans (Nat.le_add_right _ _) hs1
  unfold d_L_1075 at h
  refine ax_aload_n (q := 1076) hX dc_L_law_1075 rfl rfl rfl ?_
  obtain ⟨r162, hr163, h⟩ := ax_bd h
  refine ax_kV (vs := []) (rest := []) (q := 1079) hX dc_L_law_1076 rfl mt_K_clear wl_L_131 wi_K_clear ws_K_clear hs0 rfl (c_K_clear l hty hs0 hr163) rfl (by decide) rfl (Nat.le_of_ble_eq_true rfl) rfl rfl hc0 hss0 rfl ?_
  refine ax_aload_n (q := 1080) hX dc_L_law_1079 rfl rfl rfl ?_
  obtain ⟨r164, hr165, h⟩ := ax_bd h
  refine ax_kV (vs := []) (rest := []) (q := 1083) hX dc_L_law_1080 rfl mt_M_clear wl_L_134 wi_M_clear ws_M_clear hs5 rfl (c_M_clear l hty hs5 hr165) rfl (by decide) rfl (Nat.le_of_ble_eq_true rfl) rfl rfl hc0 hss0 rfl ?_
  refine ax_goto (tgt := 1086) hX dc_L_law_1083 (by decide) ?_
  cases h
  exact kk _ (by first | exact Nat.le_refl _ | exact Nat.le_succ _) _ (by first | exact Nat.le_refl _ | exact Nat.le_add_right _ _)
def d_L_step (S : ax_S) (sc : Nat → Int32) (i : Nat) (I : ax_I) (R : ax_R) (L : ax_L) : Option (ax_I × ax_R × ax_L) :=
  if sc i &&& 31 = 0 then d_L_140 S sc i I R L else
  if sc i &&& 31 = 1 then d_L_232 S sc i I R L else
  if sc i &&& 31 = 2 then d_L_300 S sc i I R L else
  if sc i &&& 31 = 3 then d_L_380 S sc i I R L else
  if sc i &&& 31 = 4 then d_L_472 S sc i I R L else
  if sc i &&& 31 = 5 then d_L_528 S sc i I R L else
  if sc i &&& 31 = 6 then d_L_584 S sc i I R L else
  if sc i &&& 31 = 7 then d_L_597 S sc i I R L else
  if sc i &&& 31 = 8 then d_L_653 S sc i I R L else
  if sc i &&& 31 = 9 then d_L_721 S sc i I R L else
  if sc i &&& 31 = 10 then d_L_789 S sc i I R L else
  if sc i &&& 31 = 11 then d_L_857 S sc i I R L else
  if sc i &&& 31 = 12 then d_L_925 S sc i I R L else
  if sc i &&& 31 = 13 then d_L_938 S sc i I R L else
  if sc i &&& 31 = 14 then d_L_994 S sc i I R L else
  if sc i &&& 31 = 15 then d_L_1050 S sc i I R L else
  if sc i &&& 31 = 16 then d_L_1075 S sc i I R L else
  some (I, R, L)
