/-! both sides, call by call -/
def Sm (I : ax_I) (R : ax_R) : Prop := mOk oS R ∧ ax_typ oS R ∧ ∃ f g p q now a b fw fh since st, KR I R f g p q a b fw fh since st ∧ MR I now a b fw fh since st ∧ okP a ∧ okP b ∧ (since < 8 ∧ st.length ≤ 1148) ∧ (1 ≤ fw ∧ fw ≤ 200 ∧ 1 ≤ fh ∧ fh ≤ 200)
theorem mOk_R {R R' : ax_R} (h : mOk oS R) (e : ∀ i k, 210 ≤ i → R' i k = R i k) : mOk oS R' := ⟨h.1, fun n hn => ⟨(e _ _ (by omega)).trans (h.2 n hn).1, (h.2 n hn).2⟩⟩
theorem low_rfl (I : ax_I) : low I I := fun _ _ _ => rfl
section SIM
variable {I J : ax_I} {R : ax_R} {f g : Nat → Nat → Nat} {p q now fw fh since : Nat} {a b : Pc} {st : List Nat}
theorem sm_M {r : Option (Int32 × ax_I)} {code : Nat} {ans : Int32} (hR : mOk oS R) (hty : ax_typ oS R) (hK : KR J R f g p q a b fw fh since st) (oa : okP a) (ob' : okP b) (hs : since < 8 ∧ st.length ≤ 1148) (hw : 1 ≤ fw ∧ fw ≤ 200 ∧ 1 ≤ fh ∧ fh ≤ 200) (hm : mAns r code ans (fun J2 => MR J2 now a b fw fh since st)) (hf : frG Prod.snd J r) : ∃ v J2, r = some (v, J2) ∧ J2 210 0 = nI code ∧ (code = 0 → v = ans) ∧ Sm J2 R := by
  obtain ⟨v, J2, e, c, h0, hM⟩ := hm
  exact ⟨v, J2, e, c, h0, hR, hty, f, g, p, q, now, a, b, fw, fh, since, st, KR_far hK oa ob' (hf _ e), hM, oa, ob', hs, hw⟩
/-- a call of both: the class's outcome o and cells J, R', the reference's v and J2 -/
def sRes (k : Option ((Int32 ⊕ String) × ax_I)) (hc : (Int32 ⊕ String) → Option Int32) (m : ax_I → Option (Int32 × ax_I)) (R : ax_R) : Prop := ∃ o J v J2 code, k = some (o, J) ∧ hc o = some (nI code) ∧ code < 4 ∧ m J = some (v, J2) ∧ J2 210 0 = nI code ∧ (code = 0 → o = .inl v) ∧ Sm J2 R
def sResQ (k : Option (Int32 ⊕ String)) (hc : (Int32 ⊕ String) → Option Int32) (m : Option (Int32 × ax_I)) (R : ax_R) : Prop := ∃ o v J2 code, k = some o ∧ hc o = some (nI code) ∧ code < 4 ∧ m = some (v, J2) ∧ J2 210 0 = nI code ∧ (code = 0 → o = .inl v) ∧ Sm J2 R
def sResR (k : Option ((Int32 ⊕ String) × ax_I × ax_R)) (hc : (Int32 ⊕ String) → Option Int32) (m : ax_I → ax_R → Option (Int32 × ax_I)) : Prop := ∃ o J R' v J2 code, k = some (o, J, R') ∧ hc o = some (nI code) ∧ code < 4 ∧ m J R' = some (v, J2) ∧ J2 210 0 = nI code ∧ (code = 0 → o = .inl v) ∧ Sm J2 R'
theorem s_tile (h : Sm I R) (x y w h' : Int32) : sRes (d_K_tile oS I R 0 x y w h') hc_tile (fun J => d_M_tile oS J R 210 x y w h') R := by
  obtain ⟨hR, hty, f, g, p, q, now, a, b, fw, fh, since, st, hK, hM, oa, ob', hs, hw⟩ := h
  have oW := oa.1
  have fr : ∀ J, frG Prod.snd J (d_M_tile oS J R 210 x y w h') := fun J => f_M_tile hR J _ _ _ _ (low_rfl J)
  by_cases z : 64 < w ∨ 64 < h' ∨ noRect a.1.1 a.1.2 x y w h'
  · obtain ⟨v, J2, e, c, h0, hS⟩ := sm_M hR hty hK oa ob' hs hw (M_tile_bad hR hM z) (fr I)
    exact ⟨_, I, v, J2, 1, K_tile_bad hK z, rfl, by omega, e, c, fun z => (by cases z), hS⟩
  obtain ⟨x', y', w', h2, ⟨rfl, rfl, rfl, rfl⟩, w1, h1, hx, hy⟩ := rect_of oW.2.1 oW.2.2.2 (fun y => z (Or.inr (Or.inr y)))
  have w2 : w' ≤ 64 := by
    rcases Nat.lt_or_ge 64 w' with u | u
    · exact absurd (Or.inl (nI_lt (a := 64) u (by omega))) z
    · exact u
  have h3 : h2 ≤ 64 := by
    rcases Nat.lt_or_ge 64 h2 with u | u
    · exact absurd (Or.inr (Or.inl (nI_lt (a := 64) u (by omega)))) z
    · exact u
  obtain ⟨k1, k2⟩ := K_tile hK oa ob' w1 w2 h1 h3 hx hy
  obtain ⟨m1, m2⟩ := M_tile hR hM oa ob' w1 w2 h1 h3 hx hy
  by_cases ap : ∀ t ∈ a.2.1, apart ((x', y'), (w', h2), 0, []) t
  · rcases Nat.lt_or_ge a.2.1.length 40 with l | l
    · obtain ⟨J, e1, e2, e3⟩ := (k2 ap).2 l
      obtain ⟨n1, n2⟩ := M_tile hR (MR_far hM e3) oa ob' w1 w2 h1 h3 hx hy
      have oT : okT a.1.1 a.1.2 ((x', y'), (w', h2), 0, []) := ⟨⟨w1, w2, h1, h3⟩, ⟨hx, hy⟩, Nat.zero_lt_succ _, Nat.zero_le _, fun c hc => by cases hc⟩
      obtain ⟨v, J2, e, c, h0, hS⟩ := sm_M hR hty e2 (okP_addT oa oT l ap) ob' hs hw ((n2 ap).2 l) (fr J)
      exact ⟨_, J, v, J2, 0, e1, rfl, by omega, e, c, fun z => by rw [h0 rfl], hS⟩
    · have l : a.2.1.length = 40 := by have := oa.2.1.1; omega
      obtain ⟨v, J2, e, c, h0, hS⟩ := sm_M hR hty hK oa ob' hs hw ((m2 ap).1 l) (fr I)
      exact ⟨_, I, v, J2, 3, (k2 ap).1 l, rfl, by omega, e, c, fun z => (by cases z), hS⟩
  · obtain ⟨v, J2, e, c, h0, hS⟩ := sm_M hR hty hK oa ob' hs hw (m1 ap) (fr I)
    exact ⟨_, I, v, J2, 2, k1 ap, rfl, by omega, e, c, fun z => (by cases z), hS⟩
theorem ix_get {α : Type} {l : List α} {x : Int32} (hl : l.length < 2 ^ 31) (z : ¬ noIx l.length x) : ∃ k t, l[k]? = some t ∧ x = nI k := by
  obtain ⟨k, hk, e⟩ := idx_of hl (fun y => z (Or.inl y)) (fun y => z (Or.inr y))
  exact ⟨k, _, List.getElem?_eq_getElem hk, e⟩
theorem by_get {y : Int32} (z : ¬ (y < 0 ∨ 255 < y)) : ∃ c, c < 256 ∧ y = nI c := by
  obtain ⟨c, hc, rfl⟩ := nI_of (fun w => z (Or.inl w))
  refine ⟨c, ?_, rfl⟩
  rcases Nat.lt_or_ge c 256 with u | u
  · exact u
  · exact absurd (Or.inr (nI_lt (a := 255) (by omega) hc)) z
theorem s_byteOf (h : Sm I R) (x y : Int32) : sRes (d_K_byteOf oS I R 0 x y) hc_byteOf (fun J => d_M_byteOf oS J R 210 x y) R := by
  obtain ⟨hR, hty, f, g, p, q, now, a, b, fw, fh, since, st, hK, hM, oa, ob', hs, hw⟩ := h
  have fr : ∀ J, frG Prod.snd J (d_M_byteOf oS J R 210 x y) := fun J => f_M_byteOf hR J _ _ (low_rfl J)
  obtain ⟨k1, k2⟩ := K_byteOf hK oa ob' x y
  obtain ⟨m1, m2⟩ := M_byteOf hR hM oa ob' x y
  by_cases z : noIx a.2.1.length x
  · obtain ⟨v, J2, e, c, h0, hS⟩ := sm_M hR hty hK oa ob' hs hw (m1 z) (fr I)
    exact ⟨_, I, v, J2, 1, k1 z, rfl, by omega, e, c, fun z => (by cases z), hS⟩
  obtain ⟨k, t, hk, hx⟩ := ix_get (by have := oa.2.1.1; omega) z
  by_cases z2 : y < 0 ∨ 255 < y
  · obtain ⟨v, J2, e, c, h0, hS⟩ := sm_M hR hty hK oa ob' hs hw ((m2 k t hk hx).1 z2) (fr I)
    exact ⟨_, I, v, J2, 2, (k2 k t hk hx).1 z2, rfl, by omega, e, c, fun z => (by cases z), hS⟩
  obtain ⟨c, hc, hy⟩ := by_get z2
  have hb := (oa.2.2.1 t (List.mem_of_getElem? hk)).2.2.2.1
  rcases Nat.lt_or_ge t.2.2.2.length 12 with l | l
  · obtain ⟨J, e1, e2, e3⟩ := ((k2 k t hk hx).2 c hc hy).2 l
    obtain ⟨-, n2⟩ := M_byteOf hR (MR_far hM e3) oa ob' x y
    obtain ⟨v, J2, e, c', h0, hS⟩ := sm_M hR hty e2 (okP_byt oa hk l hc) ob' hs hw (((n2 k t hk hx).2 c hc hy).2 l) (fr J)
    exact ⟨_, J, v, J2, 0, e1, rfl, by omega, e, c', fun z => by rw [h0 rfl], hS⟩
  · have l : t.2.2.2.length = 12 := by omega
    obtain ⟨v, J2, e, c', h0, hS⟩ := sm_M hR hty hK oa ob' hs hw (((m2 k t hk hx).2 c hc hy).1 l) (fr I)
    exact ⟨_, I, v, J2, 3, ((k2 k t hk hx).2 c hc hy).1 l, rfl, by omega, e, c', fun z => (by cases z), hS⟩
theorem s_note (h : Sm I R) (x y z : Int32) : sRes (d_K_note oS I R 0 x y z) hc_note (fun J => d_M_note oS J R 210 x y z) R := by
  obtain ⟨hR, hty, f, g, p, q, now, a, b, fw, fh, since, st, hK, hM, oa, ob', hs, hw⟩ := h
  have fr : ∀ J, frG Prod.snd J (d_M_note oS J R 210 x y z) := fun J => f_M_note hR J _ _ _ (low_rfl J)
  have oW := oa.1
  obtain ⟨k1, k2⟩ := K_note hK oa ob' x y z
  obtain ⟨m1, m2⟩ := M_note hR hM oa ob' x y z
  by_cases z1 : noIx a.1.1 x ∨ noIx a.1.2 y
  · obtain ⟨v, J2, e, c, h0, hS⟩ := sm_M hR hty hK oa ob' hs hw (m1 z1) (fr I)
    exact ⟨_, I, v, J2, 1, k1 z1, rfl, by omega, e, c, fun z => (by cases z), hS⟩
  by_cases z2 : z < 0 ∨ 255 < z
  · obtain ⟨v, J2, e, c, h0, hS⟩ := sm_M hR hty hK oa ob' hs hw ((m2 z1).1 z2) (fr I)
    exact ⟨_, I, v, J2, 2, (k2 z1).1 z2, rfl, by omega, e, c, fun z => (by cases z), hS⟩
  obtain ⟨c, hc, hz⟩ := by_get z2
  rcases Nat.lt_or_ge a.2.2.length 20 with l | l
  · obtain ⟨x', hx', hx⟩ := idx_of (n := a.1.1) (by omega) (fun w => z1 (Or.inl (Or.inl w))) (fun w => z1 (Or.inl (Or.inr w)))
    obtain ⟨y', hy', hy⟩ := idx_of (n := a.1.2) (by omega) (fun w => z1 (Or.inr (Or.inl w))) (fun w => z1 (Or.inr (Or.inr w)))
    obtain ⟨J, e1, e2, e3⟩ := ((k2 z1).2 c hc hz).2 l x' y' hx hy
    obtain ⟨-, n2⟩ := M_note hR (MR_far hM e3) oa ob' x y z
    obtain ⟨v, J2, e, c', h0, hS⟩ := sm_M hR hty e2 (okP_addN oa (n := (x', y', c)) ⟨hx', hy', hc⟩ l) ob' hs hw (((n2 z1).2 c hc hz).2 l x' y' hx hy) (fr J)
    exact ⟨_, J, v, J2, 0, e1, rfl, by omega, e, c', fun z => by rw [h0 rfl], hS⟩
  · have l : a.2.2.length = 20 := by have := oa.2.1.2; omega
    obtain ⟨v, J2, e, c', h0, hS⟩ := sm_M hR hty hK oa ob' hs hw (((m2 z1).2 c hc hz).1 l) (fr I)
    exact ⟨_, I, v, J2, 3, ((k2 z1).2 c hc hz).1 l, rfl, by omega, e, c', fun z => (by cases z), hS⟩
theorem s_crop (h : Sm I R) (x y w h' : Int32) : sResR (d_K_crop oS I R 0 x y w h') hc_crop (fun J R' => d_M_crop oS J R' 210 x y w h') := by
  obtain ⟨hR, hty, f, g, p, q, now, a, b, fw, fh, since, st, hK, hM, oa, ob', hs, hw⟩ := h
  have oW := oa.1
  have fr : ∀ J R', mOk oS R' → frG Prod.snd J (d_M_crop oS J R' 210 x y w h') := fun J R' hR' => f_M_crop hR' J _ _ _ _ (low_rfl J)
  obtain ⟨k1, k2⟩ := K_crop hK oa ob' x y w h'
  by_cases z : noRect a.1.1 a.1.2 x y w h'
  · obtain ⟨J, e1, e2, e3⟩ := k1 z
    obtain ⟨v, J2, e, c, h0, hS⟩ := sm_M hR hty e2 oa ob' hs hw ((M_crop hR (MR_far hM e3) oa ob' x y w h').1 z) (fr J R hR)
    exact ⟨_, J, R, v, J2, 1, e1, rfl, by omega, e, c, fun z => (by cases z), hS⟩
  obtain ⟨x', y', w', h2, ⟨ex, ey, ew, eh⟩, w1, h1, hx, hy⟩ := rect_of oW.2.1 oW.2.2.2 z
  cases hf : fitA a x' y' w' h2 with
  | false =>
    obtain ⟨J, e1, e2, e3⟩ := (k2 x' y' w' h2 ex ey ew eh w1 h1 hx hy).1 hf
    obtain ⟨v, J2, e, c, h0, hS⟩ := sm_M hR hty e2 oa ob' hs hw (((M_crop hR (MR_far hM e3) oa ob' x y w h').2 x' y' w' h2 ex ey ew eh w1 h1 hx hy).1 hf) (fr J R hR)
    exact ⟨_, J, R, v, J2, 0, e1, rfl, by omega, e, c, fun z => by rw [h0 rfl], hS⟩
  | true =>
    obtain ⟨J, R', f', g', e1, e2, e3, e4⟩ := (k2 x' y' w' h2 ex ey ew eh w1 h1 hx hy).2 hf
    have hR' := mOk_R hR e4
    obtain ⟨v, J2, e, c, h0, hS⟩ := sm_M hR' (t_K_crop hty oS_0 e1) e2 (okP_crop oa w1 h1 hx hy) ob' hs hw (((M_crop hR' (MR_far hM e3) oa ob' x y w h').2 x' y' w' h2 ex ey ew eh w1 h1 hx hy).2 hf) (fr J R' hR')
    exact ⟨_, J, R', v, J2, 0, e1, rfl, by omega, e, c, fun z => by rw [h0 rfl], hS⟩
/-- near: no more than that both come to an end -/
theorem s_near (h : Sm I R) (x : Int32) : ∃ o k v J2, d_K_near oS I R 0 x = some o ∧ hc_near o = some k ∧ d_M_near oS I R 210 x = some (v, J2) ∧ Sm J2 R := by
  obtain ⟨hR, hty, f, g, p, q, now, a, b, fw, fh, since, st, hK, hM, oa, ob', hs, hw⟩ := h
  obtain ⟨o, e1, e2⟩ := K_near hK oa x
  obtain ⟨v, J2, e3, e4⟩ := M_near hR hM x
  have fr : frG Prod.snd I (d_M_near oS I R 210 x) := f_M_near hR I _ (low_rfl I)
  have hS : Sm J2 R := ⟨hR, hty, f, g, p, q, now, a, b, fw, fh, since, st, KR_far hK oa ob' (fr _ e3), e4, oa, ob', hs, hw⟩
  rcases e2 with ⟨u, rfl⟩ | rfl | rfl
  · exact ⟨_, 0, v, J2, e1, rfl, e3, hS⟩
  · exact ⟨_, 1, v, J2, e1, rfl, e3, hS⟩
  · exact ⟨_, 2, v, J2, e1, rfl, e3, hS⟩
theorem wy_get {x : Int32} (z : ¬ (x < 0 ∨ 7 < x)) : ∃ v, v < 8 ∧ x = nI v := by
  obtain ⟨c, hc, rfl⟩ := nI_of (fun w => z (Or.inl w))
  refine ⟨c, ?_, rfl⟩
  rcases Nat.lt_or_ge c 8 with u | u
  · exact u
  · exact absurd (Or.inr (nI_lt (a := 7) (by omega) hc)) z
theorem sd_get {x : Int32} (z : ¬ (x < 0 ∨ 3 < x)) : ∃ v, v < 4 ∧ x = nI v := by
  obtain ⟨c, hc, rfl⟩ := nI_of (fun w => z (Or.inl w))
  refine ⟨c, ?_, rfl⟩
  rcases Nat.lt_or_ge c 4 with u | u
  · exact u
  · exact absurd (Or.inr (nI_lt (a := 3) (by omega) hc)) z
theorem s_turn (h : Sm I R) (x : Int32) : sRes (d_K_turn oS I R 0 x) hc_turn (fun J => d_M_turn oS J R 210 x) R := by
  obtain ⟨hR, hty, f, g, p, q, now, a, b, fw, fh, since, st, hK, hM, oa, ob', hs, hw⟩ := h
  have fr : ∀ J, frG Prod.snd J (d_M_turn oS J R 210 x) := fun J => f_M_turn hR J _ (low_rfl J)
  obtain ⟨k1, k2⟩ := K_turn hK oa ob' hs.1 x
  by_cases z : x < 0 ∨ 7 < x
  · obtain ⟨v, J2, e, c, h0, hS⟩ := sm_M hR hty hK oa ob' hs hw ((M_turn hR hM oa ob' hs.1 x).1 z) (fr I)
    exact ⟨_, I, v, J2, 1, k1 z, rfl, by omega, e, c, fun z => (by cases z), hS⟩
  obtain ⟨w, hw8, hx⟩ := wy_get z
  obtain ⟨J, e1, e2, e3⟩ := k2 w hw8 hx
  obtain ⟨v, J2, e, c, h0, hS⟩ := sm_M hR hty e2 (okP_turn oa hw8) ob' ⟨tog_lt ⟨since, hs.1⟩ ⟨w, hw8⟩, hs.2⟩ hw ((M_turn hR (MR_far hM e3) oa ob' hs.1 x).2 w hw8 hx) (fr J)
  exact ⟨_, J, v, J2, 0, e1, rfl, by omega, e, c, fun z => by rw [h0 rfl], hS⟩
theorem s_swap (h : Sm I R) : ∃ v J R' J2, d_K_swap oS I R 0 = some (v, J, R') ∧ d_M_swap oS J R' 210 = some (v, J2) ∧ Sm J2 R' := by
  obtain ⟨hR, hty, f, g, p, q, now, a, b, fw, fh, since, st, hK, hM, oa, ob', hs, hw⟩ := h
  obtain ⟨J, R', e1, e2, e3, e4⟩ := K_swap hK oa ob'
  have hR' : mOk oS R' := ⟨hR.1, fun n hn => ⟨(e4 _).trans (hR.2 n hn).1, (hR.2 n hn).2⟩⟩
  obtain ⟨v, J2, e, c, h0, hS⟩ := sm_M hR' (t_K_swap hty oS_0 e1) e2 ob' oa ⟨by omega, hs.2⟩ hw (M_swap hR' (MR_far hM e3)) (f_M_swap hR' J (low_rfl J))
  rw [h0 rfl] at e
  exact ⟨_, J, R', J2, e1, e, hS⟩
theorem s_join (h : Sm I R) (x : Int32) : sResR (d_K_join oS I R 0 x) hc_join (fun J R' => d_M_join oS J R' 210 x) := by
  obtain ⟨hR, hty, f, g, p, q, now, a, b, fw, fh, since, st, hK, hM, oa, ob', hs, hw⟩ := h
  have fr : ∀ J R', mOk oS R' → frG Prod.snd J (d_M_join oS J R' 210 x) := fun J R' hR' => f_M_join hR' J _ (low_rfl J)
  obtain ⟨k1, k2⟩ := K_join hK oa ob' x
  by_cases z : x < 0 ∨ 3 < x
  · obtain ⟨v, J2, e, c, h0, hS⟩ := sm_M hR hty hK oa ob' hs hw ((M_join hR hM oa ob' x).1 z) (fr I R hR)
    exact ⟨_, I, R, v, J2, 1, k1 z, rfl, by omega, e, c, fun z => (by cases z), hS⟩
  obtain ⟨s, hs4, hx⟩ := sd_get z
  obtain ⟨j1, j2⟩ := k2 s hs4 hx
  obtain ⟨m1, m2⟩ := (M_join hR hM oa ob' x).2 s hs4 hx
  cases ha : alP a b (decide (s % 2 = 0)) with
  | false =>
    obtain ⟨v, J2, e, c, h0, hS⟩ := sm_M hR hty hK oa ob' hs hw (m1 ha) (fr I R hR)
    exact ⟨_, I, R, v, J2, 2, j1 ha, rfl, by omega, e, c, fun z => (by cases z), hS⟩
  | true =>
    cases hr : roP a b (decide (s % 2 = 0)) with
    | false =>
      obtain ⟨v, J2, e, c, h0, hS⟩ := sm_M hR hty hK oa ob' hs hw ((m2 ha).1 hr) (fr I R hR)
      exact ⟨_, I, R, v, J2, 3, (j2 ha).1 hr, rfl, by omega, e, c, fun z => (by cases z), hS⟩
    | true =>
      obtain ⟨J, R', f', g', e1, e2, e3, e4⟩ := (j2 ha).2 hr
      have hR' := mOk_R hR e4
      have yr := of_decide_eq_true hr
      have oJ : okP (joinP a b s) := okP_join oa ob' hs4 (by
        unfold alP at ha
        by_cases zz : s % 2 = 0
        · rw [if_pos zz]; simpa [zz] using ha
        · rw [if_neg zz]; simpa [zz] using ha) (by
        have := yr.1
        unfold smP at this
        by_cases zz : s % 2 = 0
        · rw [if_pos zz]; simpa [zz] using this
        · rw [if_neg zz]; simpa [zz] using this) yr.2.1 yr.2.2
      obtain ⟨v, J2, e, c, h0, hS⟩ := sm_M hR' (t_K_join hty oS_0 e1) e2 oJ (okP_em ob') ⟨by omega, hs.2⟩ hw ((((M_join hR' (MR_far hM e3) oa ob' x).2 s hs4 hx).2 ha).2 hr) (fr J R' hR')
      exact ⟨_, J, R', v, J2, 0, e1, rfl, by omega, e, c, fun z => by rw [h0 rfl], hS⟩
theorem s_at (h : Sm I R) (x y : Int32) : sResQ (d_K_at oS I R 0 x y) hc_at (d_M_at oS I R 210 x y) R := by
  obtain ⟨hR, hty, f, g, p, q, now, a, b, fw, fh, since, st, hK, hM, oa, ob', hs, hw⟩ := h
  have fr : frG Prod.snd I (d_M_at oS I R 210 x y) := f_M_at hR I _ _ (low_rfl I)
  by_cases z : noIx a.2.1.length x
  · obtain ⟨v, J2, e, c, h0, hS⟩ := sm_M hR hty hK oa ob' hs hw ((M_at hR hM oa x y).1 z) fr
    exact ⟨_, v, J2, 1, (K_at hK oa x y).1 z, rfl, by omega, e, c, fun z => (by cases z), hS⟩
  obtain ⟨k, t, hk, hx⟩ := ix_get (by have := oa.2.1.1; omega) z
  obtain ⟨v, J2, e, c, h0, hS⟩ := sm_M hR hty hK oa ob' hs hw ((M_at hR hM oa x y).2 k t hk hx) fr
  exact ⟨_, v, J2, 0, (K_at hK oa x y).2 k t hk hx, rfl, by omega, e, c, fun z => by rw [h0 rfl], hS⟩
theorem s_byteAt (h : Sm I R) (x y : Int32) : sResQ (d_K_byteAt oS I R 0 x y) hc_byteAt (d_M_byteAt oS I R 210 x y) R := by
  obtain ⟨hR, hty, f, g, p, q, now, a, b, fw, fh, since, st, hK, hM, oa, ob', hs, hw⟩ := h
  have fr : frG Prod.snd I (d_M_byteAt oS I R 210 x y) := f_M_byteAt hR I _ _ (low_rfl I)
  by_cases z : noIx a.2.1.length x
  · obtain ⟨v, J2, e, c, h0, hS⟩ := sm_M hR hty hK oa ob' hs hw ((M_byteAt hR hM oa x y).1 z) fr
    exact ⟨_, v, J2, 1, (K_byteAt hK oa x y).1 z, rfl, by omega, e, c, fun z => (by cases z), hS⟩
  obtain ⟨k, t, hk, hx⟩ := ix_get (by have := oa.2.1.1; omega) z
  obtain ⟨m1, m2⟩ := (M_byteAt hR hM oa x y).2 k t hk hx
  obtain ⟨k1, k2⟩ := (K_byteAt hK oa x y).2 k t hk hx
  by_cases z2 : noIx t.2.2.2.length y
  · obtain ⟨v, J2, e, c, h0, hS⟩ := sm_M hR hty hK oa ob' hs hw (m1 z2) fr
    exact ⟨_, v, J2, 1, k1 z2, rfl, by omega, e, c, fun z => (by cases z), hS⟩
  obtain ⟨j, d, hj, hy⟩ := ix_get (by have := (oa.2.2.1 t (List.mem_of_getElem? hk)).2.2.2.1; omega) z2
  obtain ⟨v, J2, e, c, h0, hS⟩ := sm_M hR hty hK oa ob' hs hw (m2 j d hj hy) fr
  exact ⟨_, v, J2, 0, k2 j d hj hy, rfl, by omega, e, c, fun z => by rw [h0 rfl], hS⟩
/-- shown: no more than that both come to an end -/
theorem s_shown0 (h : Sm I R) (x y : Int32) : ∃ o k v J2, d_K_shown oS I R 0 x y = some o ∧ hc_shown o = some k ∧ d_M_shown oS I R 210 x y = some (v, J2) ∧ Sm J2 R := by
  obtain ⟨hR, hty, f, g, p, q, now, a, b, fw, fh, since, st, hK, hM, oa, ob', hs, hw⟩ := h
  obtain ⟨o, e1, e2⟩ := K_shown0 hK oa x y
  obtain ⟨v, J2, e3, e4⟩ := M_shown0 hR hM oa x y
  have fr : frG Prod.snd I (d_M_shown oS I R 210 x y) := f_M_shown hR I _ _ (low_rfl I)
  have hS : Sm J2 R := ⟨hR, hty, f, g, p, q, now, a, b, fw, fh, since, st, KR_far hK oa ob' (fr _ e3), e4, oa, ob', hs, hw⟩
  rcases e2 with ⟨u, rfl⟩ | rfl
  · exact ⟨_, 0, v, J2, e1, rfl, e3, hS⟩
  · exact ⟨_, 1, v, J2, e1, rfl, e3, hS⟩
theorem s_noteAt (h : Sm I R) (x y : Int32) : sResQ (d_K_noteAt oS I R 0 x y) hc_noteAt (d_M_noteAt oS I R 210 x y) R := by
  obtain ⟨hR, hty, f, g, p, q, now, a, b, fw, fh, since, st, hK, hM, oa, ob', hs, hw⟩ := h
  have fr : frG Prod.snd I (d_M_noteAt oS I R 210 x y) := f_M_noteAt hR I _ _ (low_rfl I)
  by_cases z : noIx a.2.2.length x
  · obtain ⟨v, J2, e, c, h0, hS⟩ := sm_M hR hty hK oa ob' hs hw ((M_noteAt hR hM oa x y).1 z) fr
    exact ⟨_, v, J2, 1, (K_noteAt hK oa x y).1 z, rfl, by omega, e, c, fun z => (by cases z), hS⟩
  obtain ⟨k, t, hk, hx⟩ := ix_get (by have := oa.2.1.2; omega) z
  obtain ⟨v, J2, e, c, h0, hS⟩ := sm_M hR hty hK oa ob' hs hw ((M_noteAt hR hM oa x y).2 k t hk hx) fr
  exact ⟨_, v, J2, 0, (K_noteAt hK oa x y).2 k t hk hx, rfl, by omega, e, c, fun z => by rw [h0 rfl], hS⟩
theorem s_write (h : Sm I R) : ∃ v J J2, d_K_write oS I R 0 = some (v, J) ∧ d_M_write oS J R 210 = some (v, J2) ∧ Sm J2 R := by
  obtain ⟨hR, hty, f, g, p, q, now, a, b, fw, fh, since, st, hK, hM, oa, ob', hs, hw⟩ := h
  obtain ⟨J, e1, e2, e3⟩ := K_write hK oa ob'
  obtain ⟨v, J2, e, c, h0, hS⟩ := sm_M hR hty e2 oa ob' ⟨hs.1, wr_le oa⟩ hw (M_write hR (MR_far hM e3) oa) (f_M_write hR J (low_rfl J))
  rw [h0 rfl] at e
  exact ⟨_, J, J2, e1, e, hS⟩
theorem s_streamAt (h : Sm I R) (x : Int32) : sResQ (d_K_streamAt oS I R 0 x) hc_streamAt (d_M_streamAt oS I R 210 x) R := by
  obtain ⟨hR, hty, f, g, p, q, now, a, b, fw, fh, since, st, hK, hM, oa, ob', hs, hw⟩ := h
  have fr : frG Prod.snd I (d_M_streamAt oS I R 210 x) := f_M_streamAt hR I _ (low_rfl I)
  by_cases z : noIx st.length x
  · obtain ⟨v, J2, e, c, h0, hS⟩ := sm_M hR hty hK oa ob' hs hw ((M_streamAt hR hM hs.2 x).1 z) fr
    exact ⟨_, v, J2, 1, (K_streamAt hK hs.2 x).1 z, rfl, by omega, e, c, fun z => (by cases z), hS⟩
  obtain ⟨k, t, hk, hx⟩ := ix_get (by have := hs.2; omega) z
  obtain ⟨v, J2, e, c, h0, hS⟩ := sm_M hR hty hK oa ob' hs hw ((M_streamAt hR hM hs.2 x).2 k t hk hx) fr
  exact ⟨_, v, J2, 0, (K_streamAt hK hs.2 x).2 k t hk hx, rfl, by omega, e, c, fun z => by rw [h0 rfl], hS⟩
theorem s_pointer (h : Sm I R) (x : Int32) : sResQ (d_K_pointer oS I R 0 x) hc_pointer (d_M_pointer oS I R 210 x) R := by
  obtain ⟨hR, hty, f, g, p, q, now, a, b, fw, fh, since, st, hK, hM, oa, ob', hs, hw⟩ := h
  have fr : frG Prod.snd I (d_M_pointer oS I R 210 x) := f_M_pointer hR I _ (low_rfl I)
  by_cases z : noIx a.2.1.length x
  · obtain ⟨v, J2, e, c, h0, hS⟩ := sm_M hR hty hK oa ob' hs hw ((M_pointer hR hM oa x).1 z) fr
    exact ⟨_, v, J2, 1, (K_pointer hK oa x).1 z, rfl, by omega, e, c, fun z => (by cases z), hS⟩
  obtain ⟨k, t, hk, hx⟩ := ix_get (by have := oa.2.1.1; omega) z
  obtain ⟨v, J2, e, c, h0, hS⟩ := sm_M hR hty hK oa ob' hs hw ((M_pointer hR hM oa x).2 k t hk hx) fr
  exact ⟨_, v, J2, 0, (K_pointer hK oa x).2 k t hk hx, rfl, by omega, e, c, fun z => by rw [h0 rfl], hS⟩
theorem s_told (h : Sm I R) (x : Int32) : ∃ v J2, d_K_told oS I R 0 x = some v ∧ d_M_told oS I R 210 x = some (v, J2) ∧ Sm J2 R := by
  obtain ⟨hR, hty, f, g, p, q, now, a, b, fw, fh, since, st, hK, hM, oa, ob', hs, hw⟩ := h
  obtain ⟨v, J2, e, c, h0, hS⟩ := sm_M hR hty hK oa ob' hs hw (M_told hR hM x) (f_M_told hR I _ (low_rfl I))
  rw [h0 rfl] at e
  exact ⟨_, J2, K_told hK x, e, hS⟩
theorem s_clear (h : Sm I R) : ∃ J J2, d_K_clear oS I R 0 = some J ∧ d_M_clear oS J R 210 = some J2 ∧ Sm J2 R := by
  obtain ⟨hR, hty, f, g, p, q, now, a, b, fw, fh, since, st, hK, hM, oa, ob', hs, hw⟩ := h
  obtain ⟨J, e1, e2, e3⟩ := K_clear hK
  obtain ⟨J2, e4, e5⟩ := M_clear hR (MR_far hM e3)
  have fr : frG id J (d_M_clear oS J R 210) := f_M_clear hR J (low_rfl J)
  have oF : okP ((fw, fh), [], []) := okP_fresh hw.1 (by omega) hw.2.2.1 (by omega)
  exact ⟨J, J2, e1, e4, hR, hty, f, g, p, q, 0, _, _, fw, fh, 0, [], KR_far e2 oF oF (fr _ e4), e5, oF, oF, ⟨by omega, Nat.zero_le _⟩, hw⟩
end SIM
/-- the start -/
theorem st_f4 : ∀ k : Fin 40, mR 16 5 k.1 = some (6 + 2 * k.1) ∧ mR 16 108 k.1 = some (109 + 2 * k.1) := by decide +kernel
theorem st_g4 : ∀ k : Fin 20, mR 16 86 k.1 = some (87 + k.1) ∧ mR 16 189 k.1 = some (190 + k.1) := by decide +kernel
theorem st_t : ∀ u : Fin 210, ((6 ≤ u.1 ∧ u.1 ≤ 84 ∧ u.1 % 2 = 0) ∨ (109 ≤ u.1 ∧ u.1 ≤ 187 ∧ u.1 % 2 = 1)) → mR 16 u.1 0 = some (u.1 + 1) := by decide +kernel
theorem st_Q : KQ (mR 16) (fun r k => r + 2 + 2 * k) (fun r k => r + 83 + k) 4 107 := by
  refine ⟨Or.inl ⟨rfl, rfl⟩, ⟨fR_0_4, fR_0_5, fR_0_2, fR_0_3, fR_1_0⟩, fun r hr => ?_, fun r k hr hk => ?_, fun r k hr hk => ?_, fun u hu => ?_, fun r k s j hr hs hk hj e => ?_, fun r k s j hr hs hk hj e => ?_⟩
  · rcases hr with rfl | rfl
    · exact ⟨fR_4_0, fR_4_1⟩
    · exact ⟨fR_107_0, fR_107_1⟩
  · rcases hr with rfl | rfl
    · exact ⟨(st_f4 ⟨k, hk⟩).1, Or.inl (by show 6 ≤ 4 + 2 + 2 * k ∧ 4 + 2 + 2 * k ≤ 84 ∧ (4 + 2 + 2 * k) % 2 = 0; omega)⟩
    · exact ⟨(st_f4 ⟨k, hk⟩).2, Or.inr (by show 109 ≤ 107 + 2 + 2 * k ∧ 107 + 2 + 2 * k ≤ 187 ∧ (107 + 2 + 2 * k) % 2 = 1; omega)⟩
  · rcases hr with rfl | rfl
    · exact ⟨(st_g4 ⟨k, hk⟩).1, Or.inl (by show 87 ≤ 4 + 83 + k ∧ 4 + 83 + k ≤ 106; omega)⟩
    · exact ⟨(st_g4 ⟨k, hk⟩).2, Or.inr (by show 190 ≤ 107 + 83 + k ∧ 107 + 83 + k ≤ 209; omega)⟩
  · exact st_t ⟨u, by unfold isT at hu; omega⟩ hu
  · have e : r + 2 + 2 * k = s + 2 + 2 * j := e
    unfold isP at hr hs
    omega
  · have e : r + 83 + k = s + 83 + j := e
    unfold isP at hr hs
    omega
theorem fs_nI (x : Int32) : ∃ n, fs x = nI n ∧ 1 ≤ n ∧ n ≤ 200 := by
  obtain ⟨h1, h2⟩ := fs_bd x
  have h0 : ¬ fs x < 0 := by
    rw [Int32.lt_iff_toInt_lt]
    have : (0 : Int32).toInt = 0 := rfl
    omega
  obtain ⟨n, hn, e⟩ := nI_of h0
  rw [e, nI_toInt hn] at h1 h2
  exact ⟨n, e, by omega, by omega⟩
theorem s_start (x1 x2 : Int32) : Sm (oI x1 x2) (mR 16) := by
  obtain ⟨fw, e1, w1, w2⟩ := fs_nI x1
  obtain ⟨fh, e2, h1, h2⟩ := fs_nI x2
  obtain ⟨⟨k1, k2, k3, -⟩, ⟨k5, k6, k7, k8⟩, ⟨k9, k10, k11, k12⟩, k13, -⟩ := fI_K x1 x2
  obtain ⟨⟨-, m2, m3, m4⟩, ⟨m5, -, m7⟩, ⟨m8, m9, m10, m11⟩, m12, m13, m14, m15⟩ := fI_M x1 x2
  rw [e1] at k1 k7 k11 m2 m8 m9
  rw [e2] at k2 k8 k12 m3 m10 m11
  have oF : okP ((fw, fh), [], []) := okP_fresh w1 (by omega) h1 (by omega)
  exact ⟨mOk_o, oS_typ, _, _, 4, 107, 0, ((fw, fh), [], []), ((fw, fh), [], []), fw, fh, 0, [], ⟨st_Q, ⟨⟨k7, k8, k5, k6⟩, fun k t hk => (by simp at hk), fun k t hk => by simp at hk⟩, ⟨⟨k11, k12, k9, k10⟩, fun k t hk => (by simp at hk), fun k t hk => by simp at hk⟩, k1, k2, k3, k13, fun j c hj => by cases hj⟩, ⟨by omega, m4, ⟨⟨m8, m10, m12, m14⟩, fun k t hk => (by simp at hk), fun k t hk => by simp at hk⟩, ⟨⟨m9, m11, m13, m15⟩, fun k t hk => (by simp at hk), fun k t hk => by simp at hk⟩, m2, m3, m5, m7, fun j c hj => by cases hj⟩, oF, oF, ⟨by omega, Nat.zero_le _⟩, w1, w2, h1, h2⟩
/-- a compared call ends well -/
theorem l_end2 {β : Type} {a k : Int32} {x y : Int64} {s : β} (h1 : a = k) (h2 : k = 0 → x = y) : (if a = k then (if k = 0 then (if lg_cmp x y = 0 then some s else none) else some s) else none) = some s := by
  rw [if_pos h1]
  by_cases h : k = 0
  · rw [if_pos h, h2 h, if_pos (lg_self y)]
  · rw [if_neg h]
theorem nI_4 {c : Nat} (hc : c < 4) (h : nI c = 0) : c = 0 := (nI_eq (a := c) (b := 0) (by omega) (by omega)).mp h
