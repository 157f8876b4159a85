theorem tr2_lt {P a b x : Nat} (ha : a < P) (hb : b < P) (hx : x < P) : tr2 a b x < P := (tr2_inj ha hb).1 x hx
theorem exch_kv {iv kv : Nat → Nat → Int32} {m9 a b : Nat} (hm : m9 < 6) (hk : kv = up2 (up2 (up2 (up2 (up2 (up2 (iv) (2 + 3 * m9 + 1) a (iv (2 + 3 * m9 + 1) b)) (2 + 3 * m9 + 1) b (iv (2 + 3 * m9 + 1) a)) (2 + 3 * m9 + 2) a ((up2 (up2 (iv) (2 + 3 * m9 + 1) a (iv (2 + 3 * m9 + 1) b)) (2 + 3 * m9 + 1) b (iv (2 + 3 * m9 + 1) a)) (2 + 3 * m9 + 2) b)) (2 + 3 * m9 + 2) b ((up2 (up2 (iv) (2 + 3 * m9 + 1) a (iv (2 + 3 * m9 + 1) b)) (2 + 3 * m9 + 1) b (iv (2 + 3 * m9 + 1) a)) (2 + 3 * m9 + 2) a)) 46 0 0) 49 0 0) :
    (∀ q, kv (2 + 3 * m9 + 1) q = iv (2 + 3 * m9 + 1) (tr2 a b q)) ∧ (∀ q, kv (2 + 3 * m9 + 2) q = iv (2 + 3 * m9 + 2) (tr2 a b q)) ∧ (∀ q, q ≠ 2 + 3 * m9 + 1 → q ≠ 2 + 3 * m9 + 2 → q ≠ 46 → q ≠ 49 → kv q = iv q) ∧ kv 46 0 = 0 ∧ kv 49 0 = 0 := by
  refine ⟨fun q => ?_, fun q => ?_, fun q x1 x2 x3 x4 => ?_, ?_, ?_⟩
  · rw [hk, up2_row (by omega), up2_row (by omega), up2_row (by omega), up2_row (by omega), up2_eq, up2_eq]
    unfold tr2
    by_cases u : q = b
    · rw [if_pos ⟨rfl, u⟩, if_pos u]
    · rw [if_neg (fun v => u v.2), if_neg u]
      by_cases v : q = a
      · rw [if_pos ⟨rfl, v⟩, if_pos v]
      · rw [if_neg (fun z => v z.2), if_neg v]
  · obtain ⟨jv, hjv⟩ : ∃ jv, jv = up2 (up2 (iv) (2 + 3 * m9 + 1) a (iv (2 + 3 * m9 + 1) b)) (2 + 3 * m9 + 1) b (iv (2 + 3 * m9 + 1) a) := ⟨_, rfl⟩
    have hj : jv (2 + 3 * m9 + 2) = iv (2 + 3 * m9 + 2) := by rw [hjv, up2_row (by omega), up2_row (by omega)]
    rw [← hjv, hj] at hk
    rw [hk, up2_row (by omega), up2_row (by omega), up2_eq, up2_eq, hj]
    unfold tr2
    by_cases u : q = b
    · rw [if_pos ⟨rfl, u⟩, if_pos u]
    · rw [if_neg (fun v => u v.2), if_neg u]
      by_cases v : q = a
      · rw [if_pos ⟨rfl, v⟩, if_pos v]
      · rw [if_neg (fun z => v z.2), if_neg v]
  · rw [hk, up2_row x4, up2_row x3, up2_row x2, up2_row x2, up2_row x1, up2_row x1]
  · rw [hk, up2_row (by decide), up2_s]
  · rw [hk, up2_s]
theorem cnt_ch2 {ch ch2 : Nat → Bool} {P p9 : Nat} {v : Bool} (h : ch2 = fun p => if p = p9 then v else ch p) : cnt ch2 P ≤ cnt ch P + 1 ∧ (v = false → cnt ch2 P ≤ cnt ch P) := by
  have key : ∀ n, cnt ch2 n ≤ cnt ch n + (if p9 < n then 1 else 0) ∧ (v = false → cnt ch2 n ≤ cnt ch n) := by
    intro n
    induction n with
    | zero => exact ⟨Nat.zero_le _, fun _ => Nat.le_refl _⟩
    | succ n ih =>
      obtain ⟨i1, i2⟩ := ih
      rw [cnt_s, cnt_s]
      by_cases u : n = p9
      · have e : ch2 n = v := by rw [h]; simp [u]
        have e1 : (if p9 < n + 1 then 1 else 0) = 1 := if_pos (by omega)
        have e0 : (if p9 < n then 1 else 0) = 0 := if_neg (by omega)
        rw [e0] at i1
        rw [e, e1]
        refine ⟨by split <;> split <;> omega, fun hv => ?_⟩
        have := i2 hv
        have e2 : (if v = true then 1 else 0) = 0 := if_neg (by rw [hv]; decide)
        rw [e2]
        split <;> omega
      · have e : ch2 n = ch n := by rw [h]; simp [u]
        rw [e]
        refine ⟨?_, fun hv => by have := i2 hv; omega⟩
        by_cases w : p9 < n
        · have e1 : (if p9 < n + 1 then 1 else 0) = 1 := if_pos (by omega)
          rw [if_pos w] at i1; rw [e1]; omega
        · have e1 : (if p9 < n + 1 then 1 else 0) = 0 := if_neg (by omega)
          rw [if_neg w] at i1; rw [e1]; omega
  obtain ⟨k1, k2⟩ := key P
  refine ⟨?_, k2⟩
  split at k1 <;> omega
set_option maxHeartbeats 4000000 in
set_option maxRecDepth 100000 in
theorem law_exchange {p : Program} {l : Launch} {e : Env} {R : Room} {s : State} {m : MethodId} {below : List Frame} {meth : Method} {c : Code} {D : va_G} {cA : Nat → ClassId} {b L i : Nat} {xs : Nat → Int32} {Q : State → Prop} {o : Nat → Int64} {ad ln : Nat → Nat} {iv : Nat → Nat → Int32} {H : Heap} {locs : List Loc} {ls : Array Slot} {cells slots P T mc sc : Nat} {ch : Nat → Bool} {G Ad Sg : Nat → Nat → Nat} {w t : Nat → Nat} {x1 x2 x3 : Int32} (X : LX p l R s m c D cA b L xs) (hi : i + 3 < L) (ex1 : xs (i + 1) = x1) (ex2 : xs (i + 2) = x2) (ex3 : xs (i + 3) = x3) (h : LI P T mc sc ch G Ad Sg w t ln iv) (hcb : cells ≤ 500 + uC P T ln + i) (hsb : slots ≤ 500000 + uS P T ln + 2 * i) (hS : gS D cA (fun q => s.heap.size ≤ q) s.heap o ad ln iv 68 H locs) (hl : lv_has ls 8 [(0, .ref b), (1, .ref (ad 0)), (2, .ref (ad 53)), (3, .ref (ad 67)), (4, .int (nI i))]) (K : LK p l e R s m below meth c D cA b i Q) : W p l e R s m #[.ref b] below meth c H locs cells slots Q (F0 m 173 ls []) := by
  obtain ⟨hx, hb, hml, hown, hts, hXs, hbl, hK, hN, hX, hst, hRf, hRl, hRc, hRs, hL⟩ := X
  have hA : ∀ q : Nat, s.heap.size ≤ q → (fun q : Nat => s.heap.size ≤ q) q := fun _ h => h
  have hbA : ¬ (fun q : Nat => s.heap.size ≤ q) b := Nat.not_le.mpr hbl
  obtain ⟨⟨c1, c2, c3, c4, c5, c6, c7, c8, c9, c10, c11, c12⟩, ⟨l1, l2, l3⟩, ⟨a1, a2, a3, a4, a5, a6, a7, a8, a9, a10, a11, a12⟩, m0, s0, ⟨n1, n2, n3, n4⟩, ⟨rr1, rr2, rr3, rr4, rr5, rr6, rr7, rr8, rr9, rr10⟩, t0, o0⟩ := id h
  have hcP : cnt ch P ≤ P := inj_le_P pcs_inj
  have hu1 := uC_le P T ln
  have hu2 := uS_le c2 c4 ln
  have hff := ff_1680 P (by omega) (cnt ch P) (by omega)
  have hpw := pw_le4 c4 c7
  have hS9 := Nat.mul_le_mul hff hpw
  by_cases hok : ok9 x1 (nI mc) ∧ ok9 x2 (nI P) ∧ ok9 x3 (nI P)
  · skip
    obtain ⟨m9, hm9, rfl⟩ := ok9_of (by omega) hok.1
    obtain ⟨y1, hy1, rfl⟩ := ok9_of (by omega) hok.2.1
    obtain ⟨y2, hy2, rfl⟩ := ok9_of (by omega) hok.2.2
    refine lv_aload_n hx hb dL_law_173 rfl (lv_at hl 1 rfl) ?_
    refine lv_aload_n hx hb dL_law_174 rfl (lv_at hl 0 rfl) ?_
    refine lv_iload hx hb dL_law_175 (lv_at hl 4 rfl) ?_
    refine lv_iconst (v := nI 1) hx hb dL_law_177 (by decide) ?_
    refine lv_iadd hx hb dL_law_178 ?_
    refine gx_as (y := nI (i + 1)) (nI_add i 1) ?_
    refine va_sld hx hb hXs hbl hbA hS.2.2 (vp_in_nI (by omega) (by omega)) dL_law_179 ?_
    refine gx_as (y := nI m9) (by rw [nI_clamp (by omega)]; exact ex1) ?_
    refine lv_aload_n hx hb dL_law_180 rfl (lv_at hl 0 rfl) ?_
    refine lv_iload hx hb dL_law_181 (lv_at hl 4 rfl) ?_
    refine lv_iconst (v := nI 2) hx hb dL_law_183 (by decide) ?_
    refine lv_iadd hx hb dL_law_184 ?_
    refine gx_as (y := nI (i + 2)) (nI_add i 2) ?_
    refine va_sld hx hb hXs hbl hbA hS.2.2 (vp_in_nI (by omega) (by omega)) dL_law_185 ?_
    refine gx_as (y := nI y1) (by rw [nI_clamp (by omega)]; exact ex2) ?_
    refine lv_aload_n hx hb dL_law_186 rfl (lv_at hl 0 rfl) ?_
    refine lv_iload hx hb dL_law_187 (lv_at hl 4 rfl) ?_
    refine lv_iconst (v := nI 3) hx hb dL_law_189 (by decide) ?_
    refine lv_iadd hx hb dL_law_190 ?_
    refine gx_as (y := nI (i + 3)) (nI_add i 3) ?_
    refine va_sld hx hb hXs hbl hbA hS.2.2 (vp_in_nI (by omega) (by omega)) dL_law_191 ?_
    refine gx_as (y := nI y2) (by rw [nI_clamp (by omega)]; exact ex3) ?_
    refine lv_aload_n hx hb dL_law_192 rfl (lv_at hl 3 rfl) ?_
    refine gc_oxM (hk_L_exchange l D cA o ad ln 68 H.size iv (nI m9) (nI y1) (nI y2) (rm := { frames := 2, cells := 0, slots := 0, locals := 40 }) (mc := 0) (ms := 0) (by decide) rfl rfl (by decide) (by decide) (gMi_x (ct_X6_exchange l D cA o ad ln 68 H.size iv m9 y1 y2 P mc (by decide) l1 l2 c2 a3 c5 hm9 a1 hy1 hy2)) (fun r ad' ln' iv' q => ⟨q.2.2.1, by rw [q.1]⟩)) (fun hM => vx_runSW (As := [.ref (ad 0), .int (nI m9), .int (nI y1), .int (nI y2), .ref (ad 67)]) (rest := []) ⟨hx, hb, hml, hown, hts⟩ hM (vx_cwSW 5 hts (atA_lV gL_law_L_exchange) rfl rfl rfl (by decide +kernel) ⟨gle hRf rfl, gle hRl rfl⟩) ⟨gPre_blind, fun U hU hW => ⟨rfl, hS.pre hK hN hU hW⟩⟩ rfl rfl hl.1 rfl (lv_room (Nat.le_of_ble_eq_true rfl)) dL_law_193 ⟨by omega, by omega⟩) hS hA (fun k9 o1 ad1 ln1 iv1 H locs hp1 hS => ?_)
    obtain ⟨ek, v1, ⟨rfl, rfl, hq⟩, eo⟩ := hp1
    obtain ⟨h01, hq⟩ := hq
    have k53 : iv1 53 = iv 53 := by
      by_cases q9 : y1 = y2
      · rw [if_pos q9] at hq; rw [hq.2]
      · rw [if_neg q9] at hq; exact (exch_kv (by omega) hq.2).2.2.1 53 (by omega) (by omega) (by omega) (by omega)
    refine gx_as (y := nI 0) ek ?_
    refine lv_istore (lv' := [(5, .int (nI 0)), (0, .ref b), (1, .ref (ad 0)), (2, .ref (ad 53)), (3, .ref (ad 67)), (4, .int (nI i))]) hx hb dL_law_196 hl (by decide) rfl (fun ls hl => ?_)
    refine lv_aload_n hx hb dL_law_198 rfl (lv_at hl 3 rfl) ?_
    refine lv_aload_n hx hb dL_law_199 rfl (lv_at hl 1 rfl) ?_
    refine lv_iload hx hb dL_law_200 (lv_at hl 5 rfl) ?_
    refine lv_iconst (v := nI 1) hx hb dL_law_202 (by decide) ?_
    refine lv_iadd hx hb dL_law_203 ?_
    refine gx_as (y := nI (i + 1)) (nI_add i 1) ?_
    refine va_sld hx hb hXs hbl hbA hS.2.2 (vp_in_nI (by omega) (by omega)) dL_law_204 ?_
    refine gx_as (y := nI m9) (by rw [nI_clamp (by omega)]; exact ex1) ?_
    refine lv_aload_n hx hb dL_law_205 rfl (lv_at hl 1 rfl) ?_
    refine lv_iload hx hb dL_law_206 (lv_at hl 5 rfl) ?_
    refine lv_iconst (v := nI 2) hx hb dL_law_208 (by decide) ?_
    refine lv_iadd hx hb dL_law_209 ?_
    refine gx_as (y := nI (i + 2)) (nI_add i 2) ?_
    refine va_sld hx hb hXs hbl hbA hS.2.2 (vp_in_nI (by omega) (by omega)) dL_law_210 ?_
    refine gx_as (y := nI y1) (by rw [nI_clamp (by omega)]; exact ex2) ?_
    refine lv_aload_n hx hb dL_law_211 rfl (lv_at hl 1 rfl) ?_
    refine lv_iload hx hb dL_law_212 (lv_at hl 5 rfl) ?_
    refine lv_iconst (v := nI 3) hx hb dL_law_214 (by decide) ?_
    refine lv_iadd hx hb dL_law_215 ?_
    refine gx_as (y := nI (i + 3)) (nI_add i 3) ?_
    refine va_sld hx hb hXs hbl hbA hS.2.2 (vp_in_nI (by omega) (by omega)) dL_law_216 ?_
    refine gx_as (y := nI y2) (by rw [nI_clamp (by omega)]; exact ex3) ?_
    refine gc_i (gx_runV (As := [.int (nI m9), .int (nI y1), .int (nI y2)]) (rest := []) ⟨hx, hb, hml, hown, hts⟩ hK hN hS 53 (by decide) rfl rfl (ct_X7_exchange l D cA o1 ad ln 68 H.size iv1 m9 y1 y2 P mc (by decide) l1 l3 (by rw [k53]; exact rr3) c5 hm9 (by rw [k53]; exact rr1) c2 hy1 hy2) (cwV 3 hts (atA_lV gL_law_X7_exchange) rfl rfl rfl (by decide +kernel) ⟨gle hRf rfl, gle hRl rfl⟩) rfl rfl hl.1 rfl (lv_room (Nat.le_of_ble_eq_true rfl)) dL_law_217 ⟨by omega, by omega⟩) hS hA (fun r2 iv2 H locs hp2 hS => ?_)
    obtain ⟨h02, hp2⟩ := hp2
    obtain ⟨hreq, hth, G2, A2, hLI⟩ : v1 = r2 ∧ iv2 53 0 = nI 0 ∧ ∃ G2 A2, LI P T mc sc ch G2 A2 Sg w t ln iv2 := by
      by_cases q9 : y1 = y2
      · rw [if_pos q9] at hq hp2
        refine ⟨by rw [hq.1, hp2.1], by rw [hp2.2, up2_s]; rfl, G, Ad, ?_⟩
        rw [hp2.2, hq.2]
        exact LI_th h 0
      · rw [if_neg q9] at hq hp2
        obtain ⟨e1, e2⟩ := hq
        obtain ⟨f1, f2, f3, f4, f5⟩ := hp2
        obtain ⟨u1, u2, u3, u4, u5⟩ := exch_kv (show m9 < 6 by omega) e2
        refine ⟨by rw [e1, f1], by rw [f2, if_pos rfl]; rfl, _, _, LI_mv (kv := iv1) (Gm := fun q => G m9 (tr2 y1 y2 q)) (Am := fun q => Ad m9 (tr2 y1 y2 q)) h hm9 (inj_comp (tr2_inj hy1 hy2) (c8 m9).1) (fun q hq9 => (c8 m9).2 _ (tr2_lt hy1 hy2 hq9)) (fun q hq9 => ?_) (fun q hq9 => ?_) u3 u4 u5 (fun q hq9 => ?_) (fun q hq9 => ?_) (fun j hj q hq9 => ?_) (fun j z1 z2 => ?_) ?_ (fun q z1 z2 z3 => f5 q z1 z2 z3)⟩
        · rw [u1]; exact ((m0 m9 (by omega)).2 _ (tr2_lt hy1 hy2 hq9)).1
        · rw [u2]; exact ((m0 m9 (by omega)).2 _ (tr2_lt hy1 hy2 hq9)).2.2.1
        · rw [f3, u3 54 (by omega) (by omega) (by omega) (by omega)]
          have r7 := rr7 m9 hm9
          unfold tr2
          by_cases z1 : q = y2
          · rw [if_pos (by omega), if_pos z1]; exact (r7 y1 hy1).1
          · rw [if_neg (by omega), if_neg z1]
            by_cases z2 : q = y1
            · rw [if_pos (by omega), if_pos z2]; exact (r7 y2 hy2).1
            · rw [if_neg (by omega), if_neg z2]; exact (r7 q hq9).1
        · rw [f4, u3 55 (by omega) (by omega) (by omega) (by omega)]
          have r7 := rr7 m9 hm9
          unfold tr2
          by_cases z1 : q = y2
          · rw [if_pos (by omega), if_pos z1]; exact (r7 y1 hy1).2.2.1
          · rw [if_neg (by omega), if_neg z1]
            by_cases z2 : q = y1
            · rw [if_pos (by omega), if_pos z2]; exact (r7 y2 hy2).2.2.1
            · rw [if_neg (by omega), if_neg z2]; exact (r7 q hq9).2.2.1
        · rw [f3, f4, if_neg (by omega), if_neg (by omega), if_neg (by omega), if_neg (by omega)]; exact ⟨rfl, rfl⟩
        · rw [f2, if_neg z1, if_neg z2]
        · rw [f2, if_neg (by decide), if_pos rfl]
    rcases h02 with e2 | e2
    · skip
      refine lv_istore (lv' := [(6, .int r2), (5, .int (nI 0)), (0, .ref b), (1, .ref (ad 0)), (2, .ref (ad 53)), (3, .ref (ad 67)), (4, .int (nI i))]) hx hb dL_law_220 hl (by decide) rfl (fun ls hl => ?_)
      refine lv_aload_n hx hb dL_law_222 rfl (lv_at hl 4 rfl) ?_
      refine gc_i (gx_runV (As := []) (rest := []) ⟨hx, hb, hml, hown, hts⟩ hK hN hS 53 (by decide) rfl rfl (ct_X7_thrown l D cA o1 ad ln 68 H.size iv2 (by decide) l1) (cwV 0 hts (atA_lV gL_law_X7_thrown) rfl rfl rfl (by decide +kernel) ⟨gle hRf rfl, gle hRl rfl⟩) rfl rfl hl.1 rfl (lv_room (Nat.le_of_ble_eq_true rfl)) dL_law_223 ⟨by omega, by omega⟩) hS hA (fun z9 iv9 H locs hp9 hS => ?_)
      obtain ⟨ez9, ev9⟩ := hp9
      rw [ev9] at hS
      refine gx_as (y := nI 0) (by rw [ez9]; exact hth) ?_
      refine lv_iload hx hb dL_law_226 (lv_at hl 1 rfl) ?_
      refine lv_icmp_eq (tgt := 233) hx hb dL_law_228 (by decide) (fun _ => ?_) (fun c9 => absurd rfl c9)
      refine lv_iload hx hb dL_law_233 (lv_at hl 1 rfl) ?_
      refine lv_if_ne (tgt := 257) hx hb dL_law_235 (by decide) (fun c9 => absurd (by decide) c9) (fun _ => ?_)
      refine lv_aload_n hx hb dL_law_238 rfl (lv_at hl 5 rfl) ?_
      refine lv_iconst (v := nI 0) hx hb dL_law_239 (by decide) ?_
      refine gx_lald hx hb hK hS (by decide) dL_law_240 ?_
      refine gx_asl (y := Int32.toInt64 v1) (by rw [eo, va_up_self]) ?_
      refine lv_iload hx hb dL_law_241 (lv_at hl 0 rfl) ?_
      refine lv_if_eq (tgt := 250) hx hb dL_law_243 (by decide) (fun _ => ?_) (fun c9 => absurd e2 c9)
      refine lv_lconst (v := 0) hx hb dL_law_250 (by decide) ?_
      refine W.lcmp hx hb dL_law_251 ?_
      refine gx_as (y := 0) (by rw [hreq, e2]; rfl) ?_
      refine lv_if_eq (tgt := 257) hx hb dL_law_252 (by decide) (fun _ => ?_) (fun c9 => absurd (by decide) c9)
      refine lv_goto (tgt := 1147) hx hb dL_law_257 (by decide) ?_
      exact K _ _ _ _ _ _ _ _ _ P T mc sc ch G2 A2 Sg w t hLI (by omega) (by omega) hS (lv_sub hl [2, 3, 4, 5, 6] rfl)
    · skip
      refine lv_istore (lv' := [(6, .int r2), (5, .int (nI 0)), (0, .ref b), (1, .ref (ad 0)), (2, .ref (ad 53)), (3, .ref (ad 67)), (4, .int (nI i))]) hx hb dL_law_220 hl (by decide) rfl (fun ls hl => ?_)
      refine lv_aload_n hx hb dL_law_222 rfl (lv_at hl 4 rfl) ?_
      refine gc_i (gx_runV (As := []) (rest := []) ⟨hx, hb, hml, hown, hts⟩ hK hN hS 53 (by decide) rfl rfl (ct_X7_thrown l D cA o1 ad ln 68 H.size iv2 (by decide) l1) (cwV 0 hts (atA_lV gL_law_X7_thrown) rfl rfl rfl (by decide +kernel) ⟨gle hRf rfl, gle hRl rfl⟩) rfl rfl hl.1 rfl (lv_room (Nat.le_of_ble_eq_true rfl)) dL_law_223 ⟨by omega, by omega⟩) hS hA (fun z9 iv9 H locs hp9 hS => ?_)
      obtain ⟨ez9, ev9⟩ := hp9
      rw [ev9] at hS
      refine gx_as (y := nI 0) (by rw [ez9]; exact hth) ?_
      refine lv_iload hx hb dL_law_226 (lv_at hl 1 rfl) ?_
      refine lv_icmp_eq (tgt := 233) hx hb dL_law_228 (by decide) (fun _ => ?_) (fun c9 => absurd rfl c9)
      refine lv_iload hx hb dL_law_233 (lv_at hl 1 rfl) ?_
      refine lv_if_ne (tgt := 257) hx hb dL_law_235 (by decide) (fun c9 => absurd (by decide) c9) (fun _ => ?_)
      refine lv_aload_n hx hb dL_law_238 rfl (lv_at hl 5 rfl) ?_
      refine lv_iconst (v := nI 0) hx hb dL_law_239 (by decide) ?_
      refine gx_lald hx hb hK hS (by decide) dL_law_240 ?_
      refine gx_asl (y := Int32.toInt64 v1) (by rw [eo, va_up_self]) ?_
      refine lv_iload hx hb dL_law_241 (lv_at hl 0 rfl) ?_
      refine lv_if_eq (tgt := 250) hx hb dL_law_243 (by decide) (fun c9 => absurd c9 (by rw [e2]; decide)) (fun _ => ?_)
      refine lv_lconst (v := 1) hx hb dL_law_246 (by decide) ?_
      refine lv_goto (tgt := 251) hx hb dL_law_247 (by decide) ?_
      refine W.lcmp hx hb dL_law_251 ?_
      refine gx_as (y := 0) (by rw [hreq, e2]; rfl) ?_
      refine lv_if_eq (tgt := 257) hx hb dL_law_252 (by decide) (fun _ => ?_) (fun c9 => absurd (by decide) c9)
      refine lv_goto (tgt := 1147) hx hb dL_law_257 (by decide) ?_
      exact K _ _ _ _ _ _ _ _ _ P T mc sc ch G2 A2 Sg w t hLI (by omega) (by omega) hS (lv_sub hl [2, 3, 4, 5, 6] rfl)
  · skip
    by_cases ok1 : ok9 x1 (nI mc)
    · skip
      obtain ⟨m9, hm9, rfl⟩ := ok9_of (by omega) ok1
      by_cases ok2 : ok9 x2 (nI P)
      · skip
        obtain ⟨y1, hy1, rfl⟩ := ok9_of (by omega) ok2
        have ok3 : ¬ ok9 x3 (nI P) := fun u => hok ⟨ok1, ok2, u⟩
        refine lv_aload_n hx hb dL_law_173 rfl (lv_at hl 1 rfl) ?_
        refine lv_aload_n hx hb dL_law_174 rfl (lv_at hl 0 rfl) ?_
        refine lv_iload hx hb dL_law_175 (lv_at hl 4 rfl) ?_
        refine lv_iconst (v := nI 1) hx hb dL_law_177 (by decide) ?_
        refine lv_iadd hx hb dL_law_178 ?_
        refine gx_as (y := nI (i + 1)) (nI_add i 1) ?_
        refine va_sld hx hb hXs hbl hbA hS.2.2 (vp_in_nI (by omega) (by omega)) dL_law_179 ?_
        refine gx_as (y := nI m9) (by rw [nI_clamp (by omega)]; exact ex1) ?_
        refine lv_aload_n hx hb dL_law_180 rfl (lv_at hl 0 rfl) ?_
        refine lv_iload hx hb dL_law_181 (lv_at hl 4 rfl) ?_
        refine lv_iconst (v := nI 2) hx hb dL_law_183 (by decide) ?_
        refine lv_iadd hx hb dL_law_184 ?_
        refine gx_as (y := nI (i + 2)) (nI_add i 2) ?_
        refine va_sld hx hb hXs hbl hbA hS.2.2 (vp_in_nI (by omega) (by omega)) dL_law_185 ?_
        refine gx_as (y := nI y1) (by rw [nI_clamp (by omega)]; exact ex2) ?_
        refine lv_aload_n hx hb dL_law_186 rfl (lv_at hl 0 rfl) ?_
        refine lv_iload hx hb dL_law_187 (lv_at hl 4 rfl) ?_
        refine lv_iconst (v := nI 3) hx hb dL_law_189 (by decide) ?_
        refine lv_iadd hx hb dL_law_190 ?_
        refine gx_as (y := nI (i + 3)) (nI_add i 3) ?_
        refine va_sld hx hb hXs hbl hbA hS.2.2 (vp_in_nI (by omega) (by omega)) dL_law_191 ?_
        refine gx_as (y := x3) (by rw [nI_clamp (by omega)]; exact ex3) ?_
        refine lv_aload_n hx hb dL_law_192 rfl (lv_at hl 3 rfl) ?_
        refine gc_oxM (hx_L_exchange l D cA o ad ln 68 H.size iv (nI m9) (nI y1) x3 (by decide) (cx_X6_exchangeT3 l hst D cA o ad ln 68 H.size iv x3 m9 y1 P mc (by decide) l1 a3 c5 a1 c2 hm9 hy1 (ok9_no ok3))) (fun hM => vx_runSW (As := [.ref (ad 0), .int (nI m9), .int (nI y1), .int x3, .ref (ad 67)]) (rest := []) ⟨hx, hb, hml, hown, hts⟩ hM (vx_cwSW 5 hts (atA_in gL_law_L_exchange) rfl rfl rfl (by decide +kernel) ⟨gle hRf rfl, gle hRl rfl⟩) ⟨gPreX_blind, fun U hU hW => ⟨rfl, hS.preX hK hN hX hA hU hW⟩⟩ rfl rfl hl.1 rfl (lv_room (Nat.le_of_ble_eq_true rfl)) dL_law_193 ⟨by omega, by omega⟩) hS hA (fun k9 o1 ad1 ln1 iv1 H locs hp1 hS => ?_)
        obtain ⟨ek, rfl, rfl, rfl, rfl⟩ := hp1
        refine gx_as (y := nI 1) ek ?_
        refine lv_istore (lv' := [(5, .int (nI 1)), (0, .ref b), (1, .ref (ad 0)), (2, .ref (ad 53)), (3, .ref (ad 67)), (4, .int (nI i))]) hx hb dL_law_196 hl (by decide) rfl (fun ls hl => ?_)
        refine lv_aload_n hx hb dL_law_198 rfl (lv_at hl 3 rfl) ?_
        refine lv_aload_n hx hb dL_law_199 rfl (lv_at hl 1 rfl) ?_
        refine lv_iload hx hb dL_law_200 (lv_at hl 5 rfl) ?_
        refine lv_iconst (v := nI 1) hx hb dL_law_202 (by decide) ?_
        refine lv_iadd hx hb dL_law_203 ?_
        refine gx_as (y := nI (i + 1)) (nI_add i 1) ?_
        refine va_sld hx hb hXs hbl hbA hS.2.2 (vp_in_nI (by omega) (by omega)) dL_law_204 ?_
        refine gx_as (y := nI m9) (by rw [nI_clamp (by omega)]; exact ex1) ?_
        refine lv_aload_n hx hb dL_law_205 rfl (lv_at hl 1 rfl) ?_
        refine lv_iload hx hb dL_law_206 (lv_at hl 5 rfl) ?_
        refine lv_iconst (v := nI 2) hx hb dL_law_208 (by decide) ?_
        refine lv_iadd hx hb dL_law_209 ?_
        refine gx_as (y := nI (i + 2)) (nI_add i 2) ?_
        refine va_sld hx hb hXs hbl hbA hS.2.2 (vp_in_nI (by omega) (by omega)) dL_law_210 ?_
        refine gx_as (y := nI y1) (by rw [nI_clamp (by omega)]; exact ex2) ?_
        refine lv_aload_n hx hb dL_law_211 rfl (lv_at hl 1 rfl) ?_
        refine lv_iload hx hb dL_law_212 (lv_at hl 5 rfl) ?_
        refine lv_iconst (v := nI 3) hx hb dL_law_214 (by decide) ?_
        refine lv_iadd hx hb dL_law_215 ?_
        refine gx_as (y := nI (i + 3)) (nI_add i 3) ?_
        refine va_sld hx hb hXs hbl hbA hS.2.2 (vp_in_nI (by omega) (by omega)) dL_law_216 ?_
        refine gx_as (y := x3) (by rw [nI_clamp (by omega)]; exact ex3) ?_
        refine gc_i (gx_runV (As := [.int (nI m9), .int (nI y1), .int x3]) (rest := []) ⟨hx, hb, hml, hown, hts⟩ hK hN hS 53 (by decide) rfl rfl (ct_X7_exchangeB l D cA o ad ln 68 H.size iv (nI m9) (nI y1) x3 (by decide) l1 (by rw [rr3, rr1]; exact hok)) (cwV 3 hts (atA_lV gL_law_X7_exchange) rfl rfl rfl (by decide +kernel) ⟨gle hRf rfl, gle hRl rfl⟩) rfl rfl hl.1 rfl (lv_room (Nat.le_of_ble_eq_true rfl)) dL_law_217 ⟨by omega, by omega⟩) hS hA (fun r2 iv2 H locs hp2 hS => ?_)
        obtain ⟨_, _, ev2⟩ := hp2
        have hth : iv2 53 0 = nI 1 := by (rw [ev2, up2_s]) <;> rfl
        have hLI : LI P T mc sc ch G Ad Sg w t ln iv2 := by rw [ev2]; exact LI_th h 1
        refine lv_istore (lv' := [(6, .int r2), (5, .int (nI 1)), (0, .ref b), (1, .ref (ad 0)), (2, .ref (ad 53)), (3, .ref (ad 67)), (4, .int (nI i))]) hx hb dL_law_220 hl (by decide) rfl (fun ls hl => ?_)
        refine lv_aload_n hx hb dL_law_222 rfl (lv_at hl 4 rfl) ?_
        refine gc_i (gx_runV (As := []) (rest := []) ⟨hx, hb, hml, hown, hts⟩ hK hN hS 53 (by decide) rfl rfl (ct_X7_thrown l D cA o ad ln 68 H.size iv2 (by decide) l1) (cwV 0 hts (atA_lV gL_law_X7_thrown) rfl rfl rfl (by decide +kernel) ⟨gle hRf rfl, gle hRl rfl⟩) rfl rfl hl.1 rfl (lv_room (Nat.le_of_ble_eq_true rfl)) dL_law_223 ⟨by omega, by omega⟩) hS hA (fun z9 iv9 H locs hp9 hS => ?_)
        obtain ⟨ez9, ev9⟩ := hp9
        rw [ev9] at hS
        refine gx_as (y := nI 1) (by rw [ez9]; exact hth) ?_
        refine lv_iload hx hb dL_law_226 (lv_at hl 1 rfl) ?_
        refine lv_icmp_eq (tgt := 233) hx hb dL_law_228 (by decide) (fun _ => ?_) (fun c9 => absurd rfl c9)
        refine lv_iload hx hb dL_law_233 (lv_at hl 1 rfl) ?_
        refine lv_if_ne (tgt := 257) hx hb dL_law_235 (by decide) (fun _ => ?_) (fun c9 => absurd c9 (by decide))
        refine lv_goto (tgt := 1147) hx hb dL_law_257 (by decide) ?_
        exact K _ _ _ _ _ _ _ _ _ P T mc sc ch G Ad Sg w t hLI (by omega) (by omega) hS (lv_sub hl [2, 3, 4, 5, 6] rfl)
      · skip
        refine lv_aload_n hx hb dL_law_173 rfl (lv_at hl 1 rfl) ?_
        refine lv_aload_n hx hb dL_law_174 rfl (lv_at hl 0 rfl) ?_
        refine lv_iload hx hb dL_law_175 (lv_at hl 4 rfl) ?_
        refine lv_iconst (v := nI 1) hx hb dL_law_177 (by decide) ?_
        refine lv_iadd hx hb dL_law_178 ?_
        refine gx_as (y := nI (i + 1)) (nI_add i 1) ?_
        refine va_sld hx hb hXs hbl hbA hS.2.2 (vp_in_nI (by omega) (by omega)) dL_law_179 ?_
        refine gx_as (y := nI m9) (by rw [nI_clamp (by omega)]; exact ex1) ?_
        refine lv_aload_n hx hb dL_law_180 rfl (lv_at hl 0 rfl) ?_
        refine lv_iload hx hb dL_law_181 (lv_at hl 4 rfl) ?_
        refine lv_iconst (v := nI 2) hx hb dL_law_183 (by decide) ?_
        refine lv_iadd hx hb dL_law_184 ?_
        refine gx_as (y := nI (i + 2)) (nI_add i 2) ?_
        refine va_sld hx hb hXs hbl hbA hS.2.2 (vp_in_nI (by omega) (by omega)) dL_law_185 ?_
        refine gx_as (y := x2) (by rw [nI_clamp (by omega)]; exact ex2) ?_
        refine lv_aload_n hx hb dL_law_186 rfl (lv_at hl 0 rfl) ?_
        refine lv_iload hx hb dL_law_187 (lv_at hl 4 rfl) ?_
        refine lv_iconst (v := nI 3) hx hb dL_law_189 (by decide) ?_
        refine lv_iadd hx hb dL_law_190 ?_
        refine gx_as (y := nI (i + 3)) (nI_add i 3) ?_
        refine va_sld hx hb hXs hbl hbA hS.2.2 (vp_in_nI (by omega) (by omega)) dL_law_191 ?_
        refine gx_as (y := x3) (by rw [nI_clamp (by omega)]; exact ex3) ?_
        refine lv_aload_n hx hb dL_law_192 rfl (lv_at hl 3 rfl) ?_
        refine gc_oxM (hx_L_exchange l D cA o ad ln 68 H.size iv (nI m9) x2 x3 (by decide) (cx_X6_exchangeT2 l hst D cA o ad ln 68 H.size iv x2 x3 m9 P mc (by decide) l1 a3 c5 a1 c2 hm9 (ok9_no ok2))) (fun hM => vx_runSW (As := [.ref (ad 0), .int (nI m9), .int x2, .int x3, .ref (ad 67)]) (rest := []) ⟨hx, hb, hml, hown, hts⟩ hM (vx_cwSW 5 hts (atA_in gL_law_L_exchange) rfl rfl rfl (by decide +kernel) ⟨gle hRf rfl, gle hRl rfl⟩) ⟨gPreX_blind, fun U hU hW => ⟨rfl, hS.preX hK hN hX hA hU hW⟩⟩ rfl rfl hl.1 rfl (lv_room (Nat.le_of_ble_eq_true rfl)) dL_law_193 ⟨by omega, by omega⟩) hS hA (fun k9 o1 ad1 ln1 iv1 H locs hp1 hS => ?_)
        obtain ⟨ek, rfl, rfl, rfl, rfl⟩ := hp1
        refine gx_as (y := nI 1) ek ?_
        refine lv_istore (lv' := [(5, .int (nI 1)), (0, .ref b), (1, .ref (ad 0)), (2, .ref (ad 53)), (3, .ref (ad 67)), (4, .int (nI i))]) hx hb dL_law_196 hl (by decide) rfl (fun ls hl => ?_)
        refine lv_aload_n hx hb dL_law_198 rfl (lv_at hl 3 rfl) ?_
        refine lv_aload_n hx hb dL_law_199 rfl (lv_at hl 1 rfl) ?_
        refine lv_iload hx hb dL_law_200 (lv_at hl 5 rfl) ?_
        refine lv_iconst (v := nI 1) hx hb dL_law_202 (by decide) ?_
        refine lv_iadd hx hb dL_law_203 ?_
        refine gx_as (y := nI (i + 1)) (nI_add i 1) ?_
        refine va_sld hx hb hXs hbl hbA hS.2.2 (vp_in_nI (by omega) (by omega)) dL_law_204 ?_
        refine gx_as (y := nI m9) (by rw [nI_clamp (by omega)]; exact ex1) ?_
        refine lv_aload_n hx hb dL_law_205 rfl (lv_at hl 1 rfl) ?_
        refine lv_iload hx hb dL_law_206 (lv_at hl 5 rfl) ?_
        refine lv_iconst (v := nI 2) hx hb dL_law_208 (by decide) ?_
        refine lv_iadd hx hb dL_law_209 ?_
        refine gx_as (y := nI (i + 2)) (nI_add i 2) ?_
        refine va_sld hx hb hXs hbl hbA hS.2.2 (vp_in_nI (by omega) (by omega)) dL_law_210 ?_
        refine gx_as (y := x2) (by rw [nI_clamp (by omega)]; exact ex2) ?_
        refine lv_aload_n hx hb dL_law_211 rfl (lv_at hl 1 rfl) ?_
        refine lv_iload hx hb dL_law_212 (lv_at hl 5 rfl) ?_
        refine lv_iconst (v := nI 3) hx hb dL_law_214 (by decide) ?_
        refine lv_iadd hx hb dL_law_215 ?_
        refine gx_as (y := nI (i + 3)) (nI_add i 3) ?_
        refine va_sld hx hb hXs hbl hbA hS.2.2 (vp_in_nI (by omega) (by omega)) dL_law_216 ?_
        refine gx_as (y := x3) (by rw [nI_clamp (by omega)]; exact ex3) ?_
        refine gc_i (gx_runV (As := [.int (nI m9), .int x2, .int x3]) (rest := []) ⟨hx, hb, hml, hown, hts⟩ hK hN hS 53 (by decide) rfl rfl (ct_X7_exchangeB l D cA o ad ln 68 H.size iv (nI m9) x2 x3 (by decide) l1 (by rw [rr3, rr1]; exact hok)) (cwV 3 hts (atA_lV gL_law_X7_exchange) rfl rfl rfl (by decide +kernel) ⟨gle hRf rfl, gle hRl rfl⟩) rfl rfl hl.1 rfl (lv_room (Nat.le_of_ble_eq_true rfl)) dL_law_217 ⟨by omega, by omega⟩) hS hA (fun r2 iv2 H locs hp2 hS => ?_)
        obtain ⟨_, _, ev2⟩ := hp2
        have hth : iv2 53 0 = nI 1 := by (rw [ev2, up2_s]) <;> rfl
        have hLI : LI P T mc sc ch G Ad Sg w t ln iv2 := by rw [ev2]; exact LI_th h 1
        refine lv_istore (lv' := [(6, .int r2), (5, .int (nI 1)), (0, .ref b), (1, .ref (ad 0)), (2, .ref (ad 53)), (3, .ref (ad 67)), (4, .int (nI i))]) hx hb dL_law_220 hl (by decide) rfl (fun ls hl => ?_)
        refine lv_aload_n hx hb dL_law_222 rfl (lv_at hl 4 rfl) ?_
        refine gc_i (gx_runV (As := []) (rest := []) ⟨hx, hb, hml, hown, hts⟩ hK hN hS 53 (by decide) rfl rfl (ct_X7_thrown l D cA o ad ln 68 H.size iv2 (by decide) l1) (cwV 0 hts (atA_lV gL_law_X7_thrown) rfl rfl rfl (by decide +kernel) ⟨gle hRf rfl, gle hRl rfl⟩) rfl rfl hl.1 rfl (lv_room (Nat.le_of_ble_eq_true rfl)) dL_law_223 ⟨by omega, by omega⟩) hS hA (fun z9 iv9 H locs hp9 hS => ?_)
        obtain ⟨ez9, ev9⟩ := hp9
        rw [ev9] at hS
        refine gx_as (y := nI 1) (by rw [ez9]; exact hth) ?_
        refine lv_iload hx hb dL_law_226 (lv_at hl 1 rfl) ?_
        refine lv_icmp_eq (tgt := 233) hx hb dL_law_228 (by decide) (fun _ => ?_) (fun c9 => absurd rfl c9)
        refine lv_iload hx hb dL_law_233 (lv_at hl 1 rfl) ?_
        refine lv_if_ne (tgt := 257) hx hb dL_law_235 (by decide) (fun _ => ?_) (fun c9 => absurd c9 (by decide))
        refine lv_goto (tgt := 1147) hx hb dL_law_257 (by decide) ?_
        exact K _ _ _ _ _ _ _ _ _ P T mc sc ch G Ad Sg w t hLI (by omega) (by omega) hS (lv_sub hl [2, 3, 4, 5, 6] rfl)
    · skip
      refine lv_aload_n hx hb dL_law_173 rfl (lv_at hl 1 rfl) ?_
      refine lv_aload_n hx hb dL_law_174 rfl (lv_at hl 0 rfl) ?_
      refine lv_iload hx hb dL_law_175 (lv_at hl 4 rfl) ?_
      refine lv_iconst (v := nI 1) hx hb dL_law_177 (by decide) ?_
      refine lv_iadd hx hb dL_law_178 ?_
      refine gx_as (y := nI (i + 1)) (nI_add i 1) ?_
      refine va_sld hx hb hXs hbl hbA hS.2.2 (vp_in_nI (by omega) (by omega)) dL_law_179 ?_
      refine gx_as (y := x1) (by rw [nI_clamp (by omega)]; exact ex1) ?_
      refine lv_aload_n hx hb dL_law_180 rfl (lv_at hl 0 rfl) ?_
      refine lv_iload hx hb dL_law_181 (lv_at hl 4 rfl) ?_
      refine lv_iconst (v := nI 2) hx hb dL_law_183 (by decide) ?_
      refine lv_iadd hx hb dL_law_184 ?_
      refine gx_as (y := nI (i + 2)) (nI_add i 2) ?_
      refine va_sld hx hb hXs hbl hbA hS.2.2 (vp_in_nI (by omega) (by omega)) dL_law_185 ?_
      refine gx_as (y := x2) (by rw [nI_clamp (by omega)]; exact ex2) ?_
      refine lv_aload_n hx hb dL_law_186 rfl (lv_at hl 0 rfl) ?_
      refine lv_iload hx hb dL_law_187 (lv_at hl 4 rfl) ?_
      refine lv_iconst (v := nI 3) hx hb dL_law_189 (by decide) ?_
      refine lv_iadd hx hb dL_law_190 ?_
      refine gx_as (y := nI (i + 3)) (nI_add i 3) ?_
      refine va_sld hx hb hXs hbl hbA hS.2.2 (vp_in_nI (by omega) (by omega)) dL_law_191 ?_
      refine gx_as (y := x3) (by rw [nI_clamp (by omega)]; exact ex3) ?_
      refine lv_aload_n hx hb dL_law_192 rfl (lv_at hl 3 rfl) ?_
      refine gc_oxM (hx_L_exchange l D cA o ad ln 68 H.size iv x1 x2 x3 (by decide) (cx_X6_exchangeT1 l hst D cA o ad ln 68 H.size iv x1 x2 x3 mc (by decide) l1 a3 c5 (ok9_no ok1))) (fun hM => vx_runSW (As := [.ref (ad 0), .int x1, .int x2, .int x3, .ref (ad 67)]) (rest := []) ⟨hx, hb, hml, hown, hts⟩ hM (vx_cwSW 5 hts (atA_in gL_law_L_exchange) rfl rfl rfl (by decide +kernel) ⟨gle hRf rfl, gle hRl rfl⟩) ⟨gPreX_blind, fun U hU hW => ⟨rfl, hS.preX hK hN hX hA hU hW⟩⟩ rfl rfl hl.1 rfl (lv_room (Nat.le_of_ble_eq_true rfl)) dL_law_193 ⟨by omega, by omega⟩) hS hA (fun k9 o1 ad1 ln1 iv1 H locs hp1 hS => ?_)
      obtain ⟨ek, rfl, rfl, rfl, rfl⟩ := hp1
      refine gx_as (y := nI 1) ek ?_
      refine lv_istore (lv' := [(5, .int (nI 1)), (0, .ref b), (1, .ref (ad 0)), (2, .ref (ad 53)), (3, .ref (ad 67)), (4, .int (nI i))]) hx hb dL_law_196 hl (by decide) rfl (fun ls hl => ?_)
      refine lv_aload_n hx hb dL_law_198 rfl (lv_at hl 3 rfl) ?_
      refine lv_aload_n hx hb dL_law_199 rfl (lv_at hl 1 rfl) ?_
      refine lv_iload hx hb dL_law_200 (lv_at hl 5 rfl) ?_
      refine lv_iconst (v := nI 1) hx hb dL_law_202 (by decide) ?_
      refine lv_iadd hx hb dL_law_203 ?_
      refine gx_as (y := nI (i + 1)) (nI_add i 1) ?_
      refine va_sld hx hb hXs hbl hbA hS.2.2 (vp_in_nI (by omega) (by omega)) dL_law_204 ?_
      refine gx_as (y := x1) (by rw [nI_clamp (by omega)]; exact ex1) ?_
      refine lv_aload_n hx hb dL_law_205 rfl (lv_at hl 1 rfl) ?_
      refine lv_iload hx hb dL_law_206 (lv_at hl 5 rfl) ?_
      refine lv_iconst (v := nI 2) hx hb dL_law_208 (by decide) ?_
      refine lv_iadd hx hb dL_law_209 ?_
      refine gx_as (y := nI (i + 2)) (nI_add i 2) ?_
      refine va_sld hx hb hXs hbl hbA hS.2.2 (vp_in_nI (by omega) (by omega)) dL_law_210 ?_
      refine gx_as (y := x2) (by rw [nI_clamp (by omega)]; exact ex2) ?_
      refine lv_aload_n hx hb dL_law_211 rfl (lv_at hl 1 rfl) ?_
      refine lv_iload hx hb dL_law_212 (lv_at hl 5 rfl) ?_
      refine lv_iconst (v := nI 3) hx hb dL_law_214 (by decide) ?_
      refine lv_iadd hx hb dL_law_215 ?_
      refine gx_as (y := nI (i + 3)) (nI_add i 3) ?_
      refine va_sld hx hb hXs hbl hbA hS.2.2 (vp_in_nI (by omega) (by omega)) dL_law_216 ?_
      refine gx_as (y := x3) (by rw [nI_clamp (by omega)]; exact ex3) ?_
      refine gc_i (gx_runV (As := [.int x1, .int x2, .int x3]) (rest := []) ⟨hx, hb, hml, hown, hts⟩ hK hN hS 53 (by decide) rfl rfl (ct_X7_exchangeB l D cA o ad ln 68 H.size iv x1 x2 x3 (by decide) l1 (by rw [rr3, rr1]; exact hok)) (cwV 3 hts (atA_lV gL_law_X7_exchange) rfl rfl rfl (by decide +kernel) ⟨gle hRf rfl, gle hRl rfl⟩) rfl rfl hl.1 rfl (lv_room (Nat.le_of_ble_eq_true rfl)) dL_law_217 ⟨by omega, by omega⟩) hS hA (fun r2 iv2 H locs hp2 hS => ?_)
      obtain ⟨_, _, ev2⟩ := hp2
      have hth : iv2 53 0 = nI 1 := by (rw [ev2, up2_s]) <;> rfl
      have hLI : LI P T mc sc ch G Ad Sg w t ln iv2 := by rw [ev2]; exact LI_th h 1
      refine lv_istore (lv' := [(6, .int r2), (5, .int (nI 1)), (0, .ref b), (1, .ref (ad 0)), (2, .ref (ad 53)), (3, .ref (ad 67)), (4, .int (nI i))]) hx hb dL_law_220 hl (by decide) rfl (fun ls hl => ?_)
      refine lv_aload_n hx hb dL_law_222 rfl (lv_at hl 4 rfl) ?_
      refine gc_i (gx_runV (As := []) (rest := []) ⟨hx, hb, hml, hown, hts⟩ hK hN hS 53 (by decide) rfl rfl (ct_X7_thrown l D cA o ad ln 68 H.size iv2 (by decide) l1) (cwV 0 hts (atA_lV gL_law_X7_thrown) rfl rfl rfl (by decide +kernel) ⟨gle hRf rfl, gle hRl rfl⟩) rfl rfl hl.1 rfl (lv_room (Nat.le_of_ble_eq_true rfl)) dL_law_223 ⟨by omega, by omega⟩) hS hA (fun z9 iv9 H locs hp9 hS => ?_)
      obtain ⟨ez9, ev9⟩ := hp9
      rw [ev9] at hS
      refine gx_as (y := nI 1) (by rw [ez9]; exact hth) ?_
      refine lv_iload hx hb dL_law_226 (lv_at hl 1 rfl) ?_
      refine lv_icmp_eq (tgt := 233) hx hb dL_law_228 (by decide) (fun _ => ?_) (fun c9 => absurd rfl c9)
      refine lv_iload hx hb dL_law_233 (lv_at hl 1 rfl) ?_
      refine lv_if_ne (tgt := 257) hx hb dL_law_235 (by decide) (fun _ => ?_) (fun c9 => absurd c9 (by decide))
      refine lv_goto (tgt := 1147) hx hb dL_law_257 (by decide) ?_
      exact K _ _ _ _ _ _ _ _ _ P T mc sc ch G Ad Sg w t hLI (by omega) (by omega) hS (lv_sub hl [2, 3, 4, 5, 6] rfl)

set_option maxHeartbeats 4000000 in
set_option maxRecDepth 100000 in
theorem law_turn {p : Program} {l : Launch} {e : Env} {R : Room} {s : State} {m : MethodId} {below : List Frame} {meth : Method} {c : Code} {D : va_G} {cA : Nat → ClassId} {b L i : Nat} {xs : Nat → Int32} {Q : State → Prop} {o : Nat → Int64} {ad ln : Nat → Nat} {iv : Nat → Nat → Int32} {H : Heap} {locs : List Loc} {ls : Array Slot} {cells slots P T mc sc : Nat} {ch : Nat → Bool} {G Ad Sg : Nat → Nat → Nat} {w t : Nat → Nat} {x1 x2 x3 : Int32} (X : LX p l R s m c D cA b L xs) (hi : i + 3 < L) (ex1 : xs (i + 1) = x1) (ex2 : xs (i + 2) = x2) (ex3 : xs (i + 3) = x3) (h : LI P T mc sc ch G Ad Sg w t ln iv) (hcb : cells ≤ 500 + uC P T ln + i) (hsb : slots ≤ 500000 + uS P T ln + 2 * i) (hS : gS D cA (fun q => s.heap.size ≤ q) s.heap o ad ln iv 68 H locs) (hl : lv_has ls 8 [(0, .ref b), (1, .ref (ad 0)), (2, .ref (ad 53)), (3, .ref (ad 67)), (4, .int (nI i))]) (K : LK p l e R s m below meth c D cA b i Q) : W p l e R s m #[.ref b] below meth c H locs cells slots Q (F0 m 903 ls []) := by
  obtain ⟨hx, hb, hml, hown, hts, hXs, hbl, hK, hN, hX, hst, hRf, hRl, hRc, hRs, hL⟩ := X
  have hA : ∀ q : Nat, s.heap.size ≤ q → (fun q : Nat => s.heap.size ≤ q) q := fun _ h => h
  have hbA : ¬ (fun q : Nat => s.heap.size ≤ q) b := Nat.not_le.mpr hbl
  obtain ⟨⟨c1, c2, c3, c4, c5, c6, c7, c8, c9, c10, c11, c12⟩, ⟨l1, l2, l3⟩, ⟨a1, a2, a3, a4, a5, a6, a7, a8, a9, a10, a11, a12⟩, m0, s0, ⟨n1, n2, n3, n4⟩, ⟨rr1, rr2, rr3, rr4, rr5, rr6, rr7, rr8, rr9, rr10⟩, t0, o0⟩ := id h
  have hcP : cnt ch P ≤ P := inj_le_P pcs_inj
  have hu1 := uC_le P T ln
  have hu2 := uS_le c2 c4 ln
  have hff := ff_1680 P (by omega) (cnt ch P) (by omega)
  have hpw := pw_le4 c4 c7
  have hS9 := Nat.mul_le_mul hff hpw
  by_cases hok : ok9 x1 (nI sc) ∧ ok9 x2 (nI P) ∧ ok9 x3 (nI P)
  · skip
    obtain ⟨m9, hm9, rfl⟩ := ok9_of (by omega) hok.1
    obtain ⟨y1, hy1, rfl⟩ := ok9_of (by omega) hok.2.1
    obtain ⟨y2, hy2, rfl⟩ := ok9_of (by omega) hok.2.2
    refine lv_aload_n hx hb dL_law_903 rfl (lv_at hl 1 rfl) ?_
    refine lv_aload_n hx hb dL_law_904 rfl (lv_at hl 0 rfl) ?_
    refine lv_iload hx hb dL_law_905 (lv_at hl 4 rfl) ?_
    refine lv_iconst (v := nI 1) hx hb dL_law_907 (by decide) ?_
    refine lv_iadd hx hb dL_law_908 ?_
    refine gx_as (y := nI (i + 1)) (nI_add i 1) ?_
    refine va_sld hx hb hXs hbl hbA hS.2.2 (vp_in_nI (by omega) (by omega)) dL_law_909 ?_
    refine gx_as (y := nI m9) (by rw [nI_clamp (by omega)]; exact ex1) ?_
    refine lv_aload_n hx hb dL_law_910 rfl (lv_at hl 0 rfl) ?_
    refine lv_iload hx hb dL_law_911 (lv_at hl 4 rfl) ?_
    refine lv_iconst (v := nI 2) hx hb dL_law_913 (by decide) ?_
    refine lv_iadd hx hb dL_law_914 ?_
    refine gx_as (y := nI (i + 2)) (nI_add i 2) ?_
    refine va_sld hx hb hXs hbl hbA hS.2.2 (vp_in_nI (by omega) (by omega)) dL_law_915 ?_
    refine gx_as (y := nI y1) (by rw [nI_clamp (by omega)]; exact ex2) ?_
    refine lv_aload_n hx hb dL_law_916 rfl (lv_at hl 0 rfl) ?_
    refine lv_iload hx hb dL_law_917 (lv_at hl 4 rfl) ?_
    refine lv_iconst (v := nI 3) hx hb dL_law_919 (by decide) ?_
    refine lv_iadd hx hb dL_law_920 ?_
    refine gx_as (y := nI (i + 3)) (nI_add i 3) ?_
    refine va_sld hx hb hXs hbl hbA hS.2.2 (vp_in_nI (by omega) (by omega)) dL_law_921 ?_
    refine gx_as (y := nI y2) (by rw [nI_clamp (by omega)]; exact ex3) ?_
    refine lv_aload_n hx hb dL_law_922 rfl (lv_at hl 3 rfl) ?_
    refine gc_oxM (hk_L_turn l D cA o ad ln 68 H.size iv (nI m9) (nI y1) (nI y2) (rm := { frames := 1, cells := 0, slots := 0, locals := 23 }) (mc := 0) (ms := 0) (by decide) rfl rfl (by decide) (by decide) (gMi_x (ct_X6_turn l D cA o ad ln 68 H.size iv m9 y1 y2 P sc (by decide) l1 l2 c2 a4 c6 hm9 a1 hy1 hy2)) (fun r ad' ln' iv' q => ⟨q.2.2.1, by rw [q.1]⟩)) (fun hM => vx_runSW (As := [.ref (ad 0), .int (nI m9), .int (nI y1), .int (nI y2), .ref (ad 67)]) (rest := []) ⟨hx, hb, hml, hown, hts⟩ hM (vx_cwSW 5 hts (atA_lV gL_law_L_turn) rfl rfl rfl (by decide +kernel) ⟨gle hRf rfl, gle hRl rfl⟩) ⟨gPre_blind, fun U hU hW => ⟨rfl, hS.pre hK hN hU hW⟩⟩ rfl rfl hl.1 rfl (lv_room (Nat.le_of_ble_eq_true rfl)) dL_law_923 ⟨by omega, by omega⟩) hS hA (fun k9 o1 ad1 ln1 iv1 H locs hp1 hS => ?_)
    obtain ⟨ek, v1, ⟨rfl, rfl, hq⟩, eo⟩ := hp1
    obtain ⟨h01, hq⟩ := hq
    have k53 : iv1 53 = iv 53 := by
      by_cases q9 : y1 = y2
      · rw [if_pos q9] at hq; rw [hq.2]
      · rw [if_neg q9] at hq; rw [hq.2, up2_row (by decide), up2_row (by omega), up2_row (by omega)]
    refine gx_as (y := nI 0) ek ?_
    refine lv_istore (lv' := [(5, .int (nI 0)), (0, .ref b), (1, .ref (ad 0)), (2, .ref (ad 53)), (3, .ref (ad 67)), (4, .int (nI i))]) hx hb dL_law_926 hl (by decide) rfl (fun ls hl => ?_)
    refine lv_aload_n hx hb dL_law_928 rfl (lv_at hl 3 rfl) ?_
    refine lv_aload_n hx hb dL_law_929 rfl (lv_at hl 1 rfl) ?_
    refine lv_iload hx hb dL_law_930 (lv_at hl 5 rfl) ?_
    refine lv_iconst (v := nI 1) hx hb dL_law_932 (by decide) ?_
    refine lv_iadd hx hb dL_law_933 ?_
    refine gx_as (y := nI (i + 1)) (nI_add i 1) ?_
    refine va_sld hx hb hXs hbl hbA hS.2.2 (vp_in_nI (by omega) (by omega)) dL_law_934 ?_
    refine gx_as (y := nI m9) (by rw [nI_clamp (by omega)]; exact ex1) ?_
    refine lv_aload_n hx hb dL_law_935 rfl (lv_at hl 1 rfl) ?_
    refine lv_iload hx hb dL_law_936 (lv_at hl 5 rfl) ?_
    refine lv_iconst (v := nI 2) hx hb dL_law_938 (by decide) ?_
    refine lv_iadd hx hb dL_law_939 ?_
    refine gx_as (y := nI (i + 2)) (nI_add i 2) ?_
    refine va_sld hx hb hXs hbl hbA hS.2.2 (vp_in_nI (by omega) (by omega)) dL_law_940 ?_
    refine gx_as (y := nI y1) (by rw [nI_clamp (by omega)]; exact ex2) ?_
    refine lv_aload_n hx hb dL_law_941 rfl (lv_at hl 1 rfl) ?_
    refine lv_iload hx hb dL_law_942 (lv_at hl 5 rfl) ?_
    refine lv_iconst (v := nI 3) hx hb dL_law_944 (by decide) ?_
    refine lv_iadd hx hb dL_law_945 ?_
    refine gx_as (y := nI (i + 3)) (nI_add i 3) ?_
    refine va_sld hx hb hXs hbl hbA hS.2.2 (vp_in_nI (by omega) (by omega)) dL_law_946 ?_
    refine gx_as (y := nI y2) (by rw [nI_clamp (by omega)]; exact ex3) ?_
    refine gc_i (gx_runV (As := [.int (nI m9), .int (nI y1), .int (nI y2)]) (rest := []) ⟨hx, hb, hml, hown, hts⟩ hK hN hS 53 (by decide) rfl rfl (ct_X7_turn l D cA o1 ad ln 68 H.size iv1 m9 y1 y2 P sc (by decide) l1 l3 (by rw [k53]; exact rr6) c6 hm9 (by rw [k53]; exact rr1) c2 hy1 hy2) (cwV 3 hts (atA_lV gL_law_X7_turn) rfl rfl rfl (by decide +kernel) ⟨gle hRf rfl, gle hRl rfl⟩) rfl rfl hl.1 rfl (lv_room (Nat.le_of_ble_eq_true rfl)) dL_law_947 ⟨by omega, by omega⟩) hS hA (fun r2 iv2 H locs hp2 hS => ?_)
    obtain ⟨h02, hp2⟩ := hp2
    obtain ⟨hreq, hth, Sg2, hLI⟩ : v1 = r2 ∧ iv2 53 0 = nI 0 ∧ ∃ Sg2, LI P T mc sc ch G Ad Sg2 w t ln iv2 := by
      by_cases q9 : y1 = y2
      · rw [if_pos q9] at hq hp2
        refine ⟨by rw [hq.1, hp2.1], by rw [hp2.2, up2_s]; rfl, Sg, ?_⟩
        rw [hp2.2, hq.2]
        exact LI_th h 0
      · rw [if_neg q9] at hq hp2
        obtain ⟨e1, e2⟩ := hq
        obtain ⟨f1, f2⟩ := hp2
        have k63 : iv1 63 = iv 63 := by rw [e2, up2_row (by decide), up2_row (by omega), up2_row (by omega)]
        refine ⟨by rw [e1, f1], by rw [f2, up2_row (by decide), up2_row (by decide), up2_s]; rfl, _, LI_sy (kv := iv1) (z9 := m9) (sc2 := sc) (Sz := fun q => Sg m9 (tr2 y1 y2 q)) h (by omega) c6 (Or.inl ⟨rfl, hm9⟩) (inj_comp (tr2_inj hy1 hy2) (c9 m9)) (fun q hq9 => ?_) (fun q z1 z2 z3 => ?_) (fun j => ?_) ?_ (fun q hq9 => ?_) (fun j hj q hq9 => ?_) (fun j hj => ?_) (fun q z1 z2 => ?_)⟩
        · rw [e2, up2_row (by omega), up2_eq, up2_eq]
          show _ = nI (Sg m9 (tr2 y1 y2 q))
          unfold tr2
          by_cases z1 : q = y2
          · rw [if_pos ⟨rfl, z1⟩, if_pos z1]; exact s0 m9 hm9 y1 hy1
          · rw [if_neg (fun z => z1 z.2), if_neg z1]
            by_cases z2 : q = y1
            · rw [if_pos ⟨rfl, z2⟩, if_pos z2]; exact s0 m9 hm9 y2 hy2
            · rw [if_neg (fun z => z2 z.2), if_neg z2]; exact s0 m9 hm9 q hq9
        · rw [e2, up2_row z3, up2_row z2, up2_row z2]
        · rw [e2, up2_row (by decide), up2_row (by omega), up2_row (by omega)]
          by_cases z1 : j = 5
          · rw [if_pos z1, z1]; exact a4
          · rw [if_neg z1]
        · rw [e2, up2_s]
        · rw [f2, up2_eq, up2_eq, up2_row (show (63 : Nat) ≠ 53 by decide), k63]
          have r7 := rr10 m9 hm9
          show _ = nI (Sg m9 (tr2 y1 y2 q))
          unfold tr2
          by_cases z1 : q = y2
          · rw [if_pos ⟨rfl, by omega⟩, if_pos z1]; exact (r7 y1 hy1).1
          · rw [if_neg (fun z => z1 (by omega)), if_neg z1]
            by_cases z2 : q = y1
            · rw [if_pos ⟨rfl, by omega⟩, if_pos z2]; exact (r7 y2 hy2).1
            · rw [if_neg (fun z => z2 (by omega)), if_neg z2]; exact (r7 q hq9).1
        · rw [f2, up2_n (fun z => by omega), up2_n (fun z => by omega), up2_row (by decide)]
        · rw [f2, up2_row (by decide), up2_row (by decide), up2_n (fun z => hj z.2)]
          by_cases z1 : j = 18
          · rw [if_pos z1, z1, k53]; exact rr6
          · rw [if_neg z1]
        · rw [f2, up2_row z2, up2_row z2, up2_row z1]
    rcases h02 with e2 | e2
    · skip
      refine lv_istore (lv' := [(6, .int r2), (5, .int (nI 0)), (0, .ref b), (1, .ref (ad 0)), (2, .ref (ad 53)), (3, .ref (ad 67)), (4, .int (nI i))]) hx hb dL_law_950 hl (by decide) rfl (fun ls hl => ?_)
      refine lv_aload_n hx hb dL_law_952 rfl (lv_at hl 4 rfl) ?_
      refine gc_i (gx_runV (As := []) (rest := []) ⟨hx, hb, hml, hown, hts⟩ hK hN hS 53 (by decide) rfl rfl (ct_X7_thrown l D cA o1 ad ln 68 H.size iv2 (by decide) l1) (cwV 0 hts (atA_lV gL_law_X7_thrown) rfl rfl rfl (by decide +kernel) ⟨gle hRf rfl, gle hRl rfl⟩) rfl rfl hl.1 rfl (lv_room (Nat.le_of_ble_eq_true rfl)) dL_law_953 ⟨by omega, by omega⟩) hS hA (fun z9 iv9 H locs hp9 hS => ?_)
      obtain ⟨ez9, ev9⟩ := hp9
      rw [ev9] at hS
      refine gx_as (y := nI 0) (by rw [ez9]; exact hth) ?_
      refine lv_iload hx hb dL_law_956 (lv_at hl 1 rfl) ?_
      refine lv_icmp_eq (tgt := 963) hx hb dL_law_958 (by decide) (fun _ => ?_) (fun c9 => absurd rfl c9)
      refine lv_iload hx hb dL_law_963 (lv_at hl 1 rfl) ?_
      refine lv_if_ne (tgt := 987) hx hb dL_law_965 (by decide) (fun c9 => absurd (by decide) c9) (fun _ => ?_)
      refine lv_aload_n hx hb dL_law_968 rfl (lv_at hl 5 rfl) ?_
      refine lv_iconst (v := nI 0) hx hb dL_law_969 (by decide) ?_
      refine gx_lald hx hb hK hS (by decide) dL_law_970 ?_
      refine gx_asl (y := Int32.toInt64 v1) (by rw [eo, va_up_self]) ?_
      refine lv_iload hx hb dL_law_971 (lv_at hl 0 rfl) ?_
      refine lv_if_eq (tgt := 980) hx hb dL_law_973 (by decide) (fun _ => ?_) (fun c9 => absurd e2 c9)
      refine lv_lconst (v := 0) hx hb dL_law_980 (by decide) ?_
      refine W.lcmp hx hb dL_law_981 ?_
      refine gx_as (y := 0) (by rw [hreq, e2]; rfl) ?_
      refine lv_if_eq (tgt := 987) hx hb dL_law_982 (by decide) (fun _ => ?_) (fun c9 => absurd (by decide) c9)
      refine lv_goto (tgt := 1147) hx hb dL_law_987 (by decide) ?_
      exact K _ _ _ _ _ _ _ _ _ P T mc sc ch G Ad Sg2 w t hLI (by omega) (by omega) hS (lv_sub hl [2, 3, 4, 5, 6] rfl)
    · skip
      refine lv_istore (lv' := [(6, .int r2), (5, .int (nI 0)), (0, .ref b), (1, .ref (ad 0)), (2, .ref (ad 53)), (3, .ref (ad 67)), (4, .int (nI i))]) hx hb dL_law_950 hl (by decide) rfl (fun ls hl => ?_)
      refine lv_aload_n hx hb dL_law_952 rfl (lv_at hl 4 rfl) ?_
      refine gc_i (gx_runV (As := []) (rest := []) ⟨hx, hb, hml, hown, hts⟩ hK hN hS 53 (by decide) rfl rfl (ct_X7_thrown l D cA o1 ad ln 68 H.size iv2 (by decide) l1) (cwV 0 hts (atA_lV gL_law_X7_thrown) rfl rfl rfl (by decide +kernel) ⟨gle hRf rfl, gle hRl rfl⟩) rfl rfl hl.1 rfl (lv_room (Nat.le_of_ble_eq_true rfl)) dL_law_953 ⟨by omega, by omega⟩) hS hA (fun z9 iv9 H locs hp9 hS => ?_)
      obtain ⟨ez9, ev9⟩ := hp9
      rw [ev9] at hS
      refine gx_as (y := nI 0) (by rw [ez9]; exact hth) ?_
      refine lv_iload hx hb dL_law_956 (lv_at hl 1 rfl) ?_
      refine lv_icmp_eq (tgt := 963) hx hb dL_law_958 (by decide) (fun _ => ?_) (fun c9 => absurd rfl c9)
      refine lv_iload hx hb dL_law_963 (lv_at hl 1 rfl) ?_
      refine lv_if_ne (tgt := 987) hx hb dL_law_965 (by decide) (fun c9 => absurd (by decide) c9) (fun _ => ?_)
      refine lv_aload_n hx hb dL_law_968 rfl (lv_at hl 5 rfl) ?_
      refine lv_iconst (v := nI 0) hx hb dL_law_969 (by decide) ?_
      refine gx_lald hx hb hK hS (by decide) dL_law_970 ?_
      refine gx_asl (y := Int32.toInt64 v1) (by rw [eo, va_up_self]) ?_
      refine lv_iload hx hb dL_law_971 (lv_at hl 0 rfl) ?_
      refine lv_if_eq (tgt := 980) hx hb dL_law_973 (by decide) (fun c9 => absurd c9 (by rw [e2]; decide)) (fun _ => ?_)
      refine lv_lconst (v := 1) hx hb dL_law_976 (by decide) ?_
      refine lv_goto (tgt := 981) hx hb dL_law_977 (by decide) ?_
      refine W.lcmp hx hb dL_law_981 ?_
      refine gx_as (y := 0) (by rw [hreq, e2]; rfl) ?_
      refine lv_if_eq (tgt := 987) hx hb dL_law_982 (by decide) (fun _ => ?_) (fun c9 => absurd (by decide) c9)
      refine lv_goto (tgt := 1147) hx hb dL_law_987 (by decide) ?_
      exact K _ _ _ _ _ _ _ _ _ P T mc sc ch G Ad Sg2 w t hLI (by omega) (by omega) hS (lv_sub hl [2, 3, 4, 5, 6] rfl)
  · skip
    by_cases ok1 : ok9 x1 (nI sc)
    · skip
      obtain ⟨m9, hm9, rfl⟩ := ok9_of (by omega) ok1
      by_cases ok2 : ok9 x2 (nI P)
      · skip
        obtain ⟨y1, hy1, rfl⟩ := ok9_of (by omega) ok2
        have ok3 : ¬ ok9 x3 (nI P) := fun u => hok ⟨ok1, ok2, u⟩
        refine lv_aload_n hx hb dL_law_903 rfl (lv_at hl 1 rfl) ?_
        refine lv_aload_n hx hb dL_law_904 rfl (lv_at hl 0 rfl) ?_
        refine lv_iload hx hb dL_law_905 (lv_at hl 4 rfl) ?_
        refine lv_iconst (v := nI 1) hx hb dL_law_907 (by decide) ?_
        refine lv_iadd hx hb dL_law_908 ?_
        refine gx_as (y := nI (i + 1)) (nI_add i 1) ?_
        refine va_sld hx hb hXs hbl hbA hS.2.2 (vp_in_nI (by omega) (by omega)) dL_law_909 ?_
        refine gx_as (y := nI m9) (by rw [nI_clamp (by omega)]; exact ex1) ?_
        refine lv_aload_n hx hb dL_law_910 rfl (lv_at hl 0 rfl) ?_
        refine lv_iload hx hb dL_law_911 (lv_at hl 4 rfl) ?_
        refine lv_iconst (v := nI 2) hx hb dL_law_913 (by decide) ?_
        refine lv_iadd hx hb dL_law_914 ?_
        refine gx_as (y := nI (i + 2)) (nI_add i 2) ?_
        refine va_sld hx hb hXs hbl hbA hS.2.2 (vp_in_nI (by omega) (by omega)) dL_law_915 ?_
        refine gx_as (y := nI y1) (by rw [nI_clamp (by omega)]; exact ex2) ?_
        refine lv_aload_n hx hb dL_law_916 rfl (lv_at hl 0 rfl) ?_
        refine lv_iload hx hb dL_law_917 (lv_at hl 4 rfl) ?_
        refine lv_iconst (v := nI 3) hx hb dL_law_919 (by decide) ?_
        refine lv_iadd hx hb dL_law_920 ?_
        refine gx_as (y := nI (i + 3)) (nI_add i 3) ?_
        refine va_sld hx hb hXs hbl hbA hS.2.2 (vp_in_nI (by omega) (by omega)) dL_law_921 ?_
        refine gx_as (y := x3) (by rw [nI_clamp (by omega)]; exact ex3) ?_
        refine lv_aload_n hx hb dL_law_922 rfl (lv_at hl 3 rfl) ?_
        refine gc_oxM (hx_L_turn l D cA o ad ln 68 H.size iv (nI m9) (nI y1) x3 (by decide) (cx_X6_turnT3 l hst D cA o ad ln 68 H.size iv x3 m9 y1 P sc (by decide) l1 a4 c6 a1 c2 hm9 hy1 (ok9_no ok3))) (fun hM => vx_runSW (As := [.ref (ad 0), .int (nI m9), .int (nI y1), .int x3, .ref (ad 67)]) (rest := []) ⟨hx, hb, hml, hown, hts⟩ hM (vx_cwSW 5 hts (atA_in gL_law_L_turn) rfl rfl rfl (by decide +kernel) ⟨gle hRf rfl, gle hRl rfl⟩) ⟨gPreX_blind, fun U hU hW => ⟨rfl, hS.preX hK hN hX hA hU hW⟩⟩ rfl rfl hl.1 rfl (lv_room (Nat.le_of_ble_eq_true rfl)) dL_law_923 ⟨by omega, by omega⟩) hS hA (fun k9 o1 ad1 ln1 iv1 H locs hp1 hS => ?_)
        obtain ⟨ek, rfl, rfl, rfl, rfl⟩ := hp1
        refine gx_as (y := nI 1) ek ?_
        refine lv_istore (lv' := [(5, .int (nI 1)), (0, .ref b), (1, .ref (ad 0)), (2, .ref (ad 53)), (3, .ref (ad 67)), (4, .int (nI i))]) hx hb dL_law_926 hl (by decide) rfl (fun ls hl => ?_)
        refine lv_aload_n hx hb dL_law_928 rfl (lv_at hl 3 rfl) ?_
        refine lv_aload_n hx hb dL_law_929 rfl (lv_at hl 1 rfl) ?_
        refine lv_iload hx hb dL_law_930 (lv_at hl 5 rfl) ?_
        refine lv_iconst (v := nI 1) hx hb dL_law_932 (by decide) ?_
        refine lv_iadd hx hb dL_law_933 ?_
        refine gx_as (y := nI (i + 1)) (nI_add i 1) ?_
        refine va_sld hx hb hXs hbl hbA hS.2.2 (vp_in_nI (by omega) (by omega)) dL_law_934 ?_
        refine gx_as (y := nI m9) (by rw [nI_clamp (by omega)]; exact ex1) ?_
        refine lv_aload_n hx hb dL_law_935 rfl (lv_at hl 1 rfl) ?_
        refine lv_iload hx hb dL_law_936 (lv_at hl 5 rfl) ?_
        refine lv_iconst (v := nI 2) hx hb dL_law_938 (by decide) ?_
        refine lv_iadd hx hb dL_law_939 ?_
        refine gx_as (y := nI (i + 2)) (nI_add i 2) ?_
        refine va_sld hx hb hXs hbl hbA hS.2.2 (vp_in_nI (by omega) (by omega)) dL_law_940 ?_
        refine gx_as (y := nI y1) (by rw [nI_clamp (by omega)]; exact ex2) ?_
        refine lv_aload_n hx hb dL_law_941 rfl (lv_at hl 1 rfl) ?_
        refine lv_iload hx hb dL_law_942 (lv_at hl 5 rfl) ?_
        refine lv_iconst (v := nI 3) hx hb dL_law_944 (by decide) ?_
        refine lv_iadd hx hb dL_law_945 ?_
        refine gx_as (y := nI (i + 3)) (nI_add i 3) ?_
        refine va_sld hx hb hXs hbl hbA hS.2.2 (vp_in_nI (by omega) (by omega)) dL_law_946 ?_
        refine gx_as (y := x3) (by rw [nI_clamp (by omega)]; exact ex3) ?_
        refine gc_i (gx_runV (As := [.int (nI m9), .int (nI y1), .int x3]) (rest := []) ⟨hx, hb, hml, hown, hts⟩ hK hN hS 53 (by decide) rfl rfl (ct_X7_turnB l D cA o ad ln 68 H.size iv (nI m9) (nI y1) x3 (by decide) l1 (by rw [rr6, rr1]; exact hok)) (cwV 3 hts (atA_lV gL_law_X7_turn) rfl rfl rfl (by decide +kernel) ⟨gle hRf rfl, gle hRl rfl⟩) rfl rfl hl.1 rfl (lv_room (Nat.le_of_ble_eq_true rfl)) dL_law_947 ⟨by omega, by omega⟩) hS hA (fun r2 iv2 H locs hp2 hS => ?_)
        obtain ⟨_, _, ev2⟩ := hp2
        have hth : iv2 53 0 = nI 1 := by (rw [ev2, up2_s]) <;> rfl
        have hLI : LI P T mc sc ch G Ad Sg w t ln iv2 := by rw [ev2]; exact LI_th h 1
        refine lv_istore (lv' := [(6, .int r2), (5, .int (nI 1)), (0, .ref b), (1, .ref (ad 0)), (2, .ref (ad 53)), (3, .ref (ad 67)), (4, .int (nI i))]) hx hb dL_law_950 hl (by decide) rfl (fun ls hl => ?_)
        refine lv_aload_n hx hb dL_law_952 rfl (lv_at hl 4 rfl) ?_
        refine gc_i (gx_runV (As := []) (rest := []) ⟨hx, hb, hml, hown, hts⟩ hK hN hS 53 (by decide) rfl rfl (ct_X7_thrown l D cA o ad ln 68 H.size iv2 (by decide) l1) (cwV 0 hts (atA_lV gL_law_X7_thrown) rfl rfl rfl (by decide +kernel) ⟨gle hRf rfl, gle hRl rfl⟩) rfl rfl hl.1 rfl (lv_room (Nat.le_of_ble_eq_true rfl)) dL_law_953 ⟨by omega, by omega⟩) hS hA (fun z9 iv9 H locs hp9 hS => ?_)
        obtain ⟨ez9, ev9⟩ := hp9
        rw [ev9] at hS
        refine gx_as (y := nI 1) (by rw [ez9]; exact hth) ?_
        refine lv_iload hx hb dL_law_956 (lv_at hl 1 rfl) ?_
        refine lv_icmp_eq (tgt := 963) hx hb dL_law_958 (by decide) (fun _ => ?_) (fun c9 => absurd rfl c9)
        refine lv_iload hx hb dL_law_963 (lv_at hl 1 rfl) ?_
        refine lv_if_ne (tgt := 987) hx hb dL_law_965 (by decide) (fun _ => ?_) (fun c9 => absurd c9 (by decide))
        refine lv_goto (tgt := 1147) hx hb dL_law_987 (by decide) ?_
        exact K _ _ _ _ _ _ _ _ _ P T mc sc ch G Ad Sg w t hLI (by omega) (by omega) hS (lv_sub hl [2, 3, 4, 5, 6] rfl)
      · skip
        refine lv_aload_n hx hb dL_law_903 rfl (lv_at hl 1 rfl) ?_
        refine lv_aload_n hx hb dL_law_904 rfl (lv_at hl 0 rfl) ?_
        refine lv_iload hx hb dL_law_905 (lv_at hl 4 rfl) ?_
        refine lv_iconst (v := nI 1) hx hb dL_law_907 (by decide) ?_
        refine lv_iadd hx hb dL_law_908 ?_
        refine gx_as (y := nI (i + 1)) (nI_add i 1) ?_
        refine va_sld hx hb hXs hbl hbA hS.2.2 (vp_in_nI (by omega) (by omega)) dL_law_909 ?_
        refine gx_as (y := nI m9) (by rw [nI_clamp (by omega)]; exact ex1) ?_
        refine lv_aload_n hx hb dL_law_910 rfl (lv_at hl 0 rfl) ?_
        refine lv_iload hx hb dL_law_911 (lv_at hl 4 rfl) ?_
        refine lv_iconst (v := nI 2) hx hb dL_law_913 (by decide) ?_
        refine lv_iadd hx hb dL_law_914 ?_
        refine gx_as (y := nI (i + 2)) (nI_add i 2) ?_
        refine va_sld hx hb hXs hbl hbA hS.2.2 (vp_in_nI (by omega) (by omega)) dL_law_915 ?_
        refine gx_as (y := x2) (by rw [nI_clamp (by omega)]; exact ex2) ?_
        refine lv_aload_n hx hb dL_law_916 rfl (lv_at hl 0 rfl) ?_
        refine lv_iload hx hb dL_law_917 (lv_at hl 4 rfl) ?_
        refine lv_iconst (v := nI 3) hx hb dL_law_919 (by decide) ?_
        refine lv_iadd hx hb dL_law_920 ?_
        refine gx_as (y := nI (i + 3)) (nI_add i 3) ?_
        refine va_sld hx hb hXs hbl hbA hS.2.2 (vp_in_nI (by omega) (by omega)) dL_law_921 ?_
        refine gx_as (y := x3) (by rw [nI_clamp (by omega)]; exact ex3) ?_
        refine lv_aload_n hx hb dL_law_922 rfl (lv_at hl 3 rfl) ?_
        refine gc_oxM (hx_L_turn l D cA o ad ln 68 H.size iv (nI m9) x2 x3 (by decide) (cx_X6_turnT2 l hst D cA o ad ln 68 H.size iv x2 x3 m9 P sc (by decide) l1 a4 c6 a1 c2 hm9 (ok9_no ok2))) (fun hM => vx_runSW (As := [.ref (ad 0), .int (nI m9), .int x2, .int x3, .ref (ad 67)]) (rest := []) ⟨hx, hb, hml, hown, hts⟩ hM (vx_cwSW 5 hts (atA_in gL_law_L_turn) rfl rfl rfl (by decide +kernel) ⟨gle hRf rfl, gle hRl rfl⟩) ⟨gPreX_blind, fun U hU hW => ⟨rfl, hS.preX hK hN hX hA hU hW⟩⟩ rfl rfl hl.1 rfl (lv_room (Nat.le_of_ble_eq_true rfl)) dL_law_923 ⟨by omega, by omega⟩) hS hA (fun k9 o1 ad1 ln1 iv1 H locs hp1 hS => ?_)
        obtain ⟨ek, rfl, rfl, rfl, rfl⟩ := hp1
        refine gx_as (y := nI 1) ek ?_
        refine lv_istore (lv' := [(5, .int (nI 1)), (0, .ref b), (1, .ref (ad 0)), (2, .ref (ad 53)), (3, .ref (ad 67)), (4, .int (nI i))]) hx hb dL_law_926 hl (by decide) rfl (fun ls hl => ?_)
        refine lv_aload_n hx hb dL_law_928 rfl (lv_at hl 3 rfl) ?_
        refine lv_aload_n hx hb dL_law_929 rfl (lv_at hl 1 rfl) ?_
        refine lv_iload hx hb dL_law_930 (lv_at hl 5 rfl) ?_
        refine lv_iconst (v := nI 1) hx hb dL_law_932 (by decide) ?_
        refine lv_iadd hx hb dL_law_933 ?_
        refine gx_as (y := nI (i + 1)) (nI_add i 1) ?_
        refine va_sld hx hb hXs hbl hbA hS.2.2 (vp_in_nI (by omega) (by omega)) dL_law_934 ?_
        refine gx_as (y := nI m9) (by rw [nI_clamp (by omega)]; exact ex1) ?_
        refine lv_aload_n hx hb dL_law_935 rfl (lv_at hl 1 rfl) ?_
        refine lv_iload hx hb dL_law_936 (lv_at hl 5 rfl) ?_
        refine lv_iconst (v := nI 2) hx hb dL_law_938 (by decide) ?_
        refine lv_iadd hx hb dL_law_939 ?_
        refine gx_as (y := nI (i + 2)) (nI_add i 2) ?_
        refine va_sld hx hb hXs hbl hbA hS.2.2 (vp_in_nI (by omega) (by omega)) dL_law_940 ?_
        refine gx_as (y := x2) (by rw [nI_clamp (by omega)]; exact ex2) ?_
        refine lv_aload_n hx hb dL_law_941 rfl (lv_at hl 1 rfl) ?_
        refine lv_iload hx hb dL_law_942 (lv_at hl 5 rfl) ?_
        refine lv_iconst (v := nI 3) hx hb dL_law_944 (by decide) ?_
        refine lv_iadd hx hb dL_law_945 ?_
        refine gx_as (y := nI (i + 3)) (nI_add i 3) ?_
        refine va_sld hx hb hXs hbl hbA hS.2.2 (vp_in_nI (by omega) (by omega)) dL_law_946 ?_
        refine gx_as (y := x3) (by rw [nI_clamp (by omega)]; exact ex3) ?_
        refine gc_i (gx_runV (As := [.int (nI m9), .int x2, .int x3]) (rest := []) ⟨hx, hb, hml, hown, hts⟩ hK hN hS 53 (by decide) rfl rfl (ct_X7_turnB l D cA o ad ln 68 H.size iv (nI m9) x2 x3 (by decide) l1 (by rw [rr6, rr1]; exact hok)) (cwV 3 hts (atA_lV gL_law_X7_turn) rfl rfl rfl (by decide +kernel) ⟨gle hRf rfl, gle hRl rfl⟩) rfl rfl hl.1 rfl (lv_room (Nat.le_of_ble_eq_true rfl)) dL_law_947 ⟨by omega, by omega⟩) hS hA (fun r2 iv2 H locs hp2 hS => ?_)
        obtain ⟨_, _, ev2⟩ := hp2
        have hth : iv2 53 0 = nI 1 := by (rw [ev2, up2_s]) <;> rfl
        have hLI : LI P T mc sc ch G Ad Sg w t ln iv2 := by rw [ev2]; exact LI_th h 1
        refine lv_istore (lv' := [(6, .int r2), (5, .int (nI 1)), (0, .ref b), (1, .ref (ad 0)), (2, .ref (ad 53)), (3, .ref (ad 67)), (4, .int (nI i))]) hx hb dL_law_950 hl (by decide) rfl (fun ls hl => ?_)
        refine lv_aload_n hx hb dL_law_952 rfl (lv_at hl 4 rfl) ?_
        refine gc_i (gx_runV (As := []) (rest := []) ⟨hx, hb, hml, hown, hts⟩ hK hN hS 53 (by decide) rfl rfl (ct_X7_thrown l D cA o ad ln 68 H.size iv2 (by decide) l1) (cwV 0 hts (atA_lV gL_law_X7_thrown) rfl rfl rfl (by decide +kernel) ⟨gle hRf rfl, gle hRl rfl⟩) rfl rfl hl.1 rfl (lv_room (Nat.le_of_ble_eq_true rfl)) dL_law_953 ⟨by omega, by omega⟩) hS hA (fun z9 iv9 H locs hp9 hS => ?_)
        obtain ⟨ez9, ev9⟩ := hp9
        rw [ev9] at hS
        refine gx_as (y := nI 1) (by rw [ez9]; exact hth) ?_
        refine lv_iload hx hb dL_law_956 (lv_at hl 1 rfl) ?_
        refine lv_icmp_eq (tgt := 963) hx hb dL_law_958 (by decide) (fun _ => ?_) (fun c9 => absurd rfl c9)
        refine lv_iload hx hb dL_law_963 (lv_at hl 1 rfl) ?_
        refine lv_if_ne (tgt := 987) hx hb dL_law_965 (by decide) (fun _ => ?_) (fun c9 => absurd c9 (by decide))
        refine lv_goto (tgt := 1147) hx hb dL_law_987 (by decide) ?_
        exact K _ _ _ _ _ _ _ _ _ P T mc sc ch G Ad Sg w t hLI (by omega) (by omega) hS (lv_sub hl [2, 3, 4, 5, 6] rfl)
    · skip
      refine lv_aload_n hx hb dL_law_903 rfl (lv_at hl 1 rfl) ?_
      refine lv_aload_n hx hb dL_law_904 rfl (lv_at hl 0 rfl) ?_
      refine lv_iload hx hb dL_law_905 (lv_at hl 4 rfl) ?_
      refine lv_iconst (v := nI 1) hx hb dL_law_907 (by decide) ?_
      refine lv_iadd hx hb dL_law_908 ?_
      refine gx_as (y := nI (i + 1)) (nI_add i 1) ?_
      refine va_sld hx hb hXs hbl hbA hS.2.2 (vp_in_nI (by omega) (by omega)) dL_law_909 ?_
      refine gx_as (y := x1) (by rw [nI_clamp (by omega)]; exact ex1) ?_
      refine lv_aload_n hx hb dL_law_910 rfl (lv_at hl 0 rfl) ?_
      refine lv_iload hx hb dL_law_911 (lv_at hl 4 rfl) ?_
      refine lv_iconst (v := nI 2) hx hb dL_law_913 (by decide) ?_
      refine lv_iadd hx hb dL_law_914 ?_
      refine gx_as (y := nI (i + 2)) (nI_add i 2) ?_
      refine va_sld hx hb hXs hbl hbA hS.2.2 (vp_in_nI (by omega) (by omega)) dL_law_915 ?_
      refine gx_as (y := x2) (by rw [nI_clamp (by omega)]; exact ex2) ?_
      refine lv_aload_n hx hb dL_law_916 rfl (lv_at hl 0 rfl) ?_
      refine lv_iload hx hb dL_law_917 (lv_at hl 4 rfl) ?_
      refine lv_iconst (v := nI 3) hx hb dL_law_919 (by decide) ?_
      refine lv_iadd hx hb dL_law_920 ?_
      refine gx_as (y := nI (i + 3)) (nI_add i 3) ?_
      refine va_sld hx hb hXs hbl hbA hS.2.2 (vp_in_nI (by omega) (by omega)) dL_law_921 ?_
      refine gx_as (y := x3) (by rw [nI_clamp (by omega)]; exact ex3) ?_
      refine lv_aload_n hx hb dL_law_922 rfl (lv_at hl 3 rfl) ?_
      refine gc_oxM (hx_L_turn l D cA o ad ln 68 H.size iv x1 x2 x3 (by decide) (cx_X6_turnT1 l hst D cA o ad ln 68 H.size iv x1 x2 x3 sc (by decide) l1 a4 c6 (ok9_no ok1))) (fun hM => vx_runSW (As := [.ref (ad 0), .int x1, .int x2, .int x3, .ref (ad 67)]) (rest := []) ⟨hx, hb, hml, hown, hts⟩ hM (vx_cwSW 5 hts (atA_in gL_law_L_turn) rfl rfl rfl (by decide +kernel) ⟨gle hRf rfl, gle hRl rfl⟩) ⟨gPreX_blind, fun U hU hW => ⟨rfl, hS.preX hK hN hX hA hU hW⟩⟩ rfl rfl hl.1 rfl (lv_room (Nat.le_of_ble_eq_true rfl)) dL_law_923 ⟨by omega, by omega⟩) hS hA (fun k9 o1 ad1 ln1 iv1 H locs hp1 hS => ?_)
      obtain ⟨ek, rfl, rfl, rfl, rfl⟩ := hp1
      refine gx_as (y := nI 1) ek ?_
      refine lv_istore (lv' := [(5, .int (nI 1)), (0, .ref b), (1, .ref (ad 0)), (2, .ref (ad 53)), (3, .ref (ad 67)), (4, .int (nI i))]) hx hb dL_law_926 hl (by decide) rfl (fun ls hl => ?_)
      refine lv_aload_n hx hb dL_law_928 rfl (lv_at hl 3 rfl) ?_
      refine lv_aload_n hx hb dL_law_929 rfl (lv_at hl 1 rfl) ?_
      refine lv_iload hx hb dL_law_930 (lv_at hl 5 rfl) ?_
      refine lv_iconst (v := nI 1) hx hb dL_law_932 (by decide) ?_
      refine lv_iadd hx hb dL_law_933 ?_
      refine gx_as (y := nI (i + 1)) (nI_add i 1) ?_
      refine va_sld hx hb hXs hbl hbA hS.2.2 (vp_in_nI (by omega) (by omega)) dL_law_934 ?_
      refine gx_as (y := x1) (by rw [nI_clamp (by omega)]; exact ex1) ?_
      refine lv_aload_n hx hb dL_law_935 rfl (lv_at hl 1 rfl) ?_
      refine lv_iload hx hb dL_law_936 (lv_at hl 5 rfl) ?_
      refine lv_iconst (v := nI 2) hx hb dL_law_938 (by decide) ?_
      refine lv_iadd hx hb dL_law_939 ?_
      refine gx_as (y := nI (i + 2)) (nI_add i 2) ?_
      refine va_sld hx hb hXs hbl hbA hS.2.2 (vp_in_nI (by omega) (by omega)) dL_law_940 ?_
      refine gx_as (y := x2) (by rw [nI_clamp (by omega)]; exact ex2) ?_
      refine lv_aload_n hx hb dL_law_941 rfl (lv_at hl 1 rfl) ?_
      refine lv_iload hx hb dL_law_942 (lv_at hl 5 rfl) ?_
      refine lv_iconst (v := nI 3) hx hb dL_law_944 (by decide) ?_
      refine lv_iadd hx hb dL_law_945 ?_
      refine gx_as (y := nI (i + 3)) (nI_add i 3) ?_
      refine va_sld hx hb hXs hbl hbA hS.2.2 (vp_in_nI (by omega) (by omega)) dL_law_946 ?_
      refine gx_as (y := x3) (by rw [nI_clamp (by omega)]; exact ex3) ?_
      refine gc_i (gx_runV (As := [.int x1, .int x2, .int x3]) (rest := []) ⟨hx, hb, hml, hown, hts⟩ hK hN hS 53 (by decide) rfl rfl (ct_X7_turnB l D cA o ad ln 68 H.size iv x1 x2 x3 (by decide) l1 (by rw [rr6, rr1]; exact hok)) (cwV 3 hts (atA_lV gL_law_X7_turn) rfl rfl rfl (by decide +kernel) ⟨gle hRf rfl, gle hRl rfl⟩) rfl rfl hl.1 rfl (lv_room (Nat.le_of_ble_eq_true rfl)) dL_law_947 ⟨by omega, by omega⟩) hS hA (fun r2 iv2 H locs hp2 hS => ?_)
      obtain ⟨_, _, ev2⟩ := hp2
      have hth : iv2 53 0 = nI 1 := by (rw [ev2, up2_s]) <;> rfl
      have hLI : LI P T mc sc ch G Ad Sg w t ln iv2 := by rw [ev2]; exact LI_th h 1
      refine lv_istore (lv' := [(6, .int r2), (5, .int (nI 1)), (0, .ref b), (1, .ref (ad 0)), (2, .ref (ad 53)), (3, .ref (ad 67)), (4, .int (nI i))]) hx hb dL_law_950 hl (by decide) rfl (fun ls hl => ?_)
      refine lv_aload_n hx hb dL_law_952 rfl (lv_at hl 4 rfl) ?_
      refine gc_i (gx_runV (As := []) (rest := []) ⟨hx, hb, hml, hown, hts⟩ hK hN hS 53 (by decide) rfl rfl (ct_X7_thrown l D cA o ad ln 68 H.size iv2 (by decide) l1) (cwV 0 hts (atA_lV gL_law_X7_thrown) rfl rfl rfl (by decide +kernel) ⟨gle hRf rfl, gle hRl rfl⟩) rfl rfl hl.1 rfl (lv_room (Nat.le_of_ble_eq_true rfl)) dL_law_953 ⟨by omega, by omega⟩) hS hA (fun z9 iv9 H locs hp9 hS => ?_)
      obtain ⟨ez9, ev9⟩ := hp9
      rw [ev9] at hS
      refine gx_as (y := nI 1) (by rw [ez9]; exact hth) ?_
      refine lv_iload hx hb dL_law_956 (lv_at hl 1 rfl) ?_
      refine lv_icmp_eq (tgt := 963) hx hb dL_law_958 (by decide) (fun _ => ?_) (fun c9 => absurd rfl c9)
      refine lv_iload hx hb dL_law_963 (lv_at hl 1 rfl) ?_
      refine lv_if_ne (tgt := 987) hx hb dL_law_965 (by decide) (fun _ => ?_) (fun c9 => absurd c9 (by decide))
      refine lv_goto (tgt := 1147) hx hb dL_law_987 (by decide) ?_
      exact K _ _ _ _ _ _ _ _ _ P T mc sc ch G Ad Sg w t hLI (by omega) (by omega) hS (lv_sub hl [2, 3, 4, 5, 6] rfl)

set_option maxHeartbeats 4000000 in
set_option maxRecDepth 100000 in
theorem law_adds {p : Program} {l : Launch} {e : Env} {R : Room} {s : State} {m : MethodId} {below : List Frame} {meth : Method} {c : Code} {D : va_G} {cA : Nat → ClassId} {b L i : Nat} {xs : Nat → Int32} {Q : State → Prop} {o : Nat → Int64} {ad ln : Nat → Nat} {iv : Nat → Nat → Int32} {H : Heap} {locs : List Loc} {ls : Array Slot} {cells slots P T mc sc : Nat} {ch : Nat → Bool} {G Ad Sg : Nat → Nat → Nat} {w t : Nat → Nat} {x1 x2 x3 : Int32} (X : LX p l R s m c D cA b L xs) (hi : i + 3 < L) (ex1 : xs (i + 1) = x1) (ex2 : xs (i + 2) = x2) (ex3 : xs (i + 3) = x3) (h : LI P T mc sc ch G Ad Sg w t ln iv) (hcb : cells ≤ 500 + uC P T ln + i) (hsb : slots ≤ 500000 + uS P T ln + 2 * i) (hS : gS D cA (fun q => s.heap.size ≤ q) s.heap o ad ln iv 68 H locs) (hl : lv_has ls 8 [(0, .ref b), (1, .ref (ad 0)), (2, .ref (ad 53)), (3, .ref (ad 67)), (4, .int (nI i))]) (K : LK p l e R s m below meth c D cA b i Q) : W p l e R s m #[.ref b] below meth c H locs cells slots Q (F0 m 260 ls []) := by
  obtain ⟨hx, hb, hml, hown, hts, hXs, hbl, hK, hN, hX, hst, hRf, hRl, hRc, hRs, hL⟩ := X
  have hA : ∀ q : Nat, s.heap.size ≤ q → (fun q : Nat => s.heap.size ≤ q) q := fun _ h => h
  have hbA : ¬ (fun q : Nat => s.heap.size ≤ q) b := Nat.not_le.mpr hbl
  obtain ⟨⟨c1, c2, c3, c4, c5, c6, c7, c8, c9, c10, c11, c12⟩, ⟨l1, l2, l3⟩, ⟨a1, a2, a3, a4, a5, a6, a7, a8, a9, a10, a11, a12⟩, m0, s0, ⟨n1, n2, n3, n4⟩, ⟨rr1, rr2, rr3, rr4, rr5, rr6, rr7, rr8, rr9, rr10⟩, t0, o0⟩ := id h
  have hcP : cnt ch P ≤ P := inj_le_P pcs_inj
  have hu1 := uC_le P T ln
  have hu2 := uS_le c2 c4 ln
  have hff := ff_1680 P (by omega) (cnt ch P) (by omega)
  have hpw := pw_le4 c4 c7
  have hS9 := Nat.mul_le_mul hff hpw
  by_cases hok : ok9 x1 (nI mc) ∧ ok9 x2 (nI P)
  · skip
    obtain ⟨m9, hm9, rfl⟩ := ok9_of (by omega) hok.1
    obtain ⟨y1, hy1, rfl⟩ := ok9_of (by omega) hok.2
    by_cases ok3 : ok9 x3 (nI T)
    · skip
      obtain ⟨y2, hy2, rfl⟩ := ok9_of (by omega) ok3
      refine lv_aload_n hx hb dL_law_260 rfl (lv_at hl 1 rfl) ?_
      refine lv_aload_n hx hb dL_law_261 rfl (lv_at hl 0 rfl) ?_
      refine lv_iload hx hb dL_law_262 (lv_at hl 4 rfl) ?_
      refine lv_iconst (v := nI 1) hx hb dL_law_264 (by decide) ?_
      refine lv_iadd hx hb dL_law_265 ?_
      refine gx_as (y := nI (i + 1)) (nI_add i 1) ?_
      refine va_sld hx hb hXs hbl hbA hS.2.2 (vp_in_nI (by omega) (by omega)) dL_law_266 ?_
      refine gx_as (y := nI m9) (by rw [nI_clamp (by omega)]; exact ex1) ?_
      refine lv_aload_n hx hb dL_law_267 rfl (lv_at hl 0 rfl) ?_
      refine lv_iload hx hb dL_law_268 (lv_at hl 4 rfl) ?_
      refine lv_iconst (v := nI 2) hx hb dL_law_270 (by decide) ?_
      refine lv_iadd hx hb dL_law_271 ?_
      refine gx_as (y := nI (i + 2)) (nI_add i 2) ?_
      refine va_sld hx hb hXs hbl hbA hS.2.2 (vp_in_nI (by omega) (by omega)) dL_law_272 ?_
      refine gx_as (y := nI y1) (by rw [nI_clamp (by omega)]; exact ex2) ?_
      refine lv_aload_n hx hb dL_law_273 rfl (lv_at hl 0 rfl) ?_
      refine lv_iload hx hb dL_law_274 (lv_at hl 4 rfl) ?_
      refine lv_iconst (v := nI 3) hx hb dL_law_276 (by decide) ?_
      refine lv_iadd hx hb dL_law_277 ?_
      refine gx_as (y := nI (i + 3)) (nI_add i 3) ?_
      refine va_sld hx hb hXs hbl hbA hS.2.2 (vp_in_nI (by omega) (by omega)) dL_law_278 ?_
      refine gx_as (y := nI y2) (by rw [nI_clamp (by omega)]; exact ex3) ?_
      refine lv_aload_n hx hb dL_law_279 rfl (lv_at hl 3 rfl) ?_
      refine gc_oxM (hk_L_adds l D cA o ad ln 68 H.size iv (nI m9) (nI y1) (nI y2) (rm := { frames := 2, cells := 0, slots := 0, locals := 40 }) (mc := 0) (ms := 0) (by decide) rfl rfl (by decide) (by decide) (gMi_x (ct_X6_adds l D cA o ad ln 68 H.size iv m9 y1 y2 P T mc (by decide) l1 l2 c2 a3 c5 hm9 a1 hy1 a2 c4 hy2)) (fun r ad' ln' iv' q => ⟨q.2.2.1, by rw [q.1]⟩)) (fun hM => vx_runSW (As := [.ref (ad 0), .int (nI m9), .int (nI y1), .int (nI y2), .ref (ad 67)]) (rest := []) ⟨hx, hb, hml, hown, hts⟩ hM (vx_cwSW 5 hts (atA_lV gL_law_L_adds) rfl rfl rfl (by decide +kernel) ⟨gle hRf rfl, gle hRl rfl⟩) ⟨gPre_blind, fun U hU hW => ⟨rfl, hS.pre hK hN hU hW⟩⟩ rfl rfl hl.1 rfl (lv_room (Nat.le_of_ble_eq_true rfl)) dL_law_280 ⟨by omega, by omega⟩) hS hA (fun k9 o1 ad1 ln1 iv1 H locs hp1 hS => ?_)
      obtain ⟨ek, v1, ⟨rfl, rfl, hq⟩, eo⟩ := hp1
      obtain ⟨h01, hq⟩ := hq
      have hA1 : iv (2 + 3 * m9 + 2) y1 = nI (Ad m9 y1) := ((m0 m9 (by omega)).2 y1 hy1).2.2.1
      have kkk : ∀ q, q ≠ 2 + 3 * m9 + 2 → q ≠ 46 → q ≠ 49 → iv1 q = iv q := fun q z1 z2 z3 => by
        by_cases q9 : iv (2 + 3 * m9 + 2) y1 = nI y2
        · rw [if_pos q9] at hq; rw [hq.2]
        · rw [if_neg q9] at hq; rw [hq.2, up2_row z3, up2_row z2, up2_row z1]
      have k53 : iv1 53 = iv 53 := kkk 53 (by omega) (by omega) (by omega)
      have k55 : iv1 55 = iv 55 := kkk 55 (by omega) (by omega) (by omega)
      have hA2 : iv1 55 (8 * m9 + y1) = nI (Ad m9 y1) := by rw [k55]; exact (rr7 m9 hm9 y1 hy1).2.2.1
      refine gx_as (y := nI 0) ek ?_
      refine lv_istore (lv' := [(5, .int (nI 0)), (0, .ref b), (1, .ref (ad 0)), (2, .ref (ad 53)), (3, .ref (ad 67)), (4, .int (nI i))]) hx hb dL_law_283 hl (by decide) rfl (fun ls hl => ?_)
      refine lv_aload_n hx hb dL_law_285 rfl (lv_at hl 3 rfl) ?_
      refine lv_aload_n hx hb dL_law_286 rfl (lv_at hl 1 rfl) ?_
      refine lv_iload hx hb dL_law_287 (lv_at hl 5 rfl) ?_
      refine lv_iconst (v := nI 1) hx hb dL_law_289 (by decide) ?_
      refine lv_iadd hx hb dL_law_290 ?_
      refine gx_as (y := nI (i + 1)) (nI_add i 1) ?_
      refine va_sld hx hb hXs hbl hbA hS.2.2 (vp_in_nI (by omega) (by omega)) dL_law_291 ?_
      refine gx_as (y := nI m9) (by rw [nI_clamp (by omega)]; exact ex1) ?_
      refine lv_aload_n hx hb dL_law_292 rfl (lv_at hl 1 rfl) ?_
      refine lv_iload hx hb dL_law_293 (lv_at hl 5 rfl) ?_
      refine lv_iconst (v := nI 2) hx hb dL_law_295 (by decide) ?_
      refine lv_iadd hx hb dL_law_296 ?_
      refine gx_as (y := nI (i + 2)) (nI_add i 2) ?_
      refine va_sld hx hb hXs hbl hbA hS.2.2 (vp_in_nI (by omega) (by omega)) dL_law_297 ?_
      refine gx_as (y := nI y1) (by rw [nI_clamp (by omega)]; exact ex2) ?_
      refine lv_aload_n hx hb dL_law_298 rfl (lv_at hl 1 rfl) ?_
      refine lv_iload hx hb dL_law_299 (lv_at hl 5 rfl) ?_
      refine lv_iconst (v := nI 3) hx hb dL_law_301 (by decide) ?_
      refine lv_iadd hx hb dL_law_302 ?_
      refine gx_as (y := nI (i + 3)) (nI_add i 3) ?_
      refine va_sld hx hb hXs hbl hbA hS.2.2 (vp_in_nI (by omega) (by omega)) dL_law_303 ?_
      refine gx_as (y := nI y2) (by rw [nI_clamp (by omega)]; exact ex3) ?_
      refine gc_i (gx_runV (As := [.int (nI m9), .int (nI y1), .int (nI y2)]) (rest := []) ⟨hx, hb, hml, hown, hts⟩ hK hN hS 53 (by decide) rfl rfl (ct_X7_adds l D cA o1 ad ln 68 H.size iv1 m9 y1 y2 P T mc (by decide) l1 l3 (by rw [k53]; exact rr3) c5 hm9 (by rw [k53]; exact rr1) c2 hy1 (by rw [k53]; exact rr2) c4 hy2) (cwV 3 hts (atA_lV gL_law_X7_adds) rfl rfl rfl (by decide +kernel) ⟨gle hRf rfl, gle hRl rfl⟩) rfl rfl hl.1 rfl (lv_room (Nat.le_of_ble_eq_true rfl)) dL_law_304 ⟨by omega, by omega⟩) hS hA (fun r2 iv2 H locs hp2 hS => ?_)
      obtain ⟨h02, hp2⟩ := hp2
      obtain ⟨hreq, hth, G2, A2, hLI⟩ : v1 = r2 ∧ iv2 53 0 = nI 0 ∧ ∃ G2 A2, LI P T mc sc ch G2 A2 Sg w t ln iv2 := by
        rw [hA1] at hq
        rw [hA2] at hp2
        by_cases q9 : nI (Ad m9 y1) = nI y2
        · rw [if_pos q9] at hq hp2
          refine ⟨by rw [hq.1, hp2.1], by rw [hp2.2, up2_s]; rfl, G, Ad, ?_⟩
          rw [hp2.2, hq.2]
          exact LI_th h 0
        · rw [if_neg q9] at hq hp2
          obtain ⟨e1, e2⟩ := hq
          obtain ⟨f1, f2⟩ := hp2
          refine ⟨by rw [e1, f1], by rw [f2, up2_n (by decide), up2_row (by decide), up2_s]; rfl, _, _, LI_mv (kv := iv1) (Gm := G m9) (Am := va_up (Ad m9) y1 y2) h hm9 (c8 m9).1 (fun q hq9 => ?_) (fun q hq9 => ?_) (fun q hq9 => ?_) (fun q z1 z2 z3 z4 => kkk q z2 z3 z4) ?_ ?_ (fun q hq9 => ?_) (fun q hq9 => ?_) (fun j hj q hq9 => ?_) (fun j z1 z2 => ?_) ?_ (fun q z1 z2 z3 => ?_)⟩
          · unfold va_up
            split
            · exact hy2
            · exact (c8 m9).2 q hq9
          · rw [kkk _ (by omega) (by omega) (by omega)]; exact ((m0 m9 (by omega)).2 q hq9).1
          · rw [e2, up2_row (by omega), up2_row (by omega), up2_eq]
            by_cases z1 : q = y1
            · rw [if_pos ⟨rfl, z1⟩, z1, va_up_self]
            · rw [if_neg (fun z => z1 z.2), va_up_ne _ _ z1]; exact ((m0 m9 (by omega)).2 q hq9).2.2.1
          · rw [e2, up2_row (by decide), up2_s]
          · rw [e2, up2_s]
          · rw [f2, up2_row (by decide), up2_row (by decide), up2_row (by decide), kkk 54 (by omega) (by omega) (by omega)]; exact (rr7 m9 hm9 q hq9).1
          · rw [f2, up2_row (by decide), up2_eq, up2_row (show (55 : Nat) ≠ 53 by decide), k55]
            by_cases z1 : q = y1
            · rw [if_pos ⟨rfl, by omega⟩, z1, va_up_self]
            · rw [if_neg (fun z => z1 (by omega)), va_up_ne _ _ z1]; exact (rr7 m9 hm9 q hq9).2.2.1
          · rw [f2, up2_row (by decide), up2_row (by decide), up2_row (by decide), up2_row (by decide), up2_n (fun z => by omega), up2_row (by decide)]; exact ⟨rfl, rfl⟩
          · rw [f2, up2_n (fun z => z2 z.2), up2_row (by decide), up2_n (fun z => z1 z.2)]
          · rw [f2, up2_s]
          · rw [f2, up2_row z1, up2_row z3, up2_row z1]
      rcases h02 with e2 | e2
      · skip
        refine lv_istore (lv' := [(6, .int r2), (5, .int (nI 0)), (0, .ref b), (1, .ref (ad 0)), (2, .ref (ad 53)), (3, .ref (ad 67)), (4, .int (nI i))]) hx hb dL_law_307 hl (by decide) rfl (fun ls hl => ?_)
        refine lv_aload_n hx hb dL_law_309 rfl (lv_at hl 4 rfl) ?_
        refine gc_i (gx_runV (As := []) (rest := []) ⟨hx, hb, hml, hown, hts⟩ hK hN hS 53 (by decide) rfl rfl (ct_X7_thrown l D cA o1 ad ln 68 H.size iv2 (by decide) l1) (cwV 0 hts (atA_lV gL_law_X7_thrown) rfl rfl rfl (by decide +kernel) ⟨gle hRf rfl, gle hRl rfl⟩) rfl rfl hl.1 rfl (lv_room (Nat.le_of_ble_eq_true rfl)) dL_law_310 ⟨by omega, by omega⟩) hS hA (fun z9 iv9 H locs hp9 hS => ?_)
        obtain ⟨ez9, ev9⟩ := hp9
        rw [ev9] at hS
        refine gx_as (y := nI 0) (by rw [ez9]; exact hth) ?_
        refine lv_iload hx hb dL_law_313 (lv_at hl 1 rfl) ?_
        refine lv_icmp_eq (tgt := 320) hx hb dL_law_315 (by decide) (fun _ => ?_) (fun c9 => absurd rfl c9)
        refine lv_iload hx hb dL_law_320 (lv_at hl 1 rfl) ?_
        refine lv_if_ne (tgt := 344) hx hb dL_law_322 (by decide) (fun c9 => absurd (by decide) c9) (fun _ => ?_)
        refine lv_aload_n hx hb dL_law_325 rfl (lv_at hl 5 rfl) ?_
        refine lv_iconst (v := nI 0) hx hb dL_law_326 (by decide) ?_
        refine gx_lald hx hb hK hS (by decide) dL_law_327 ?_
        refine gx_asl (y := Int32.toInt64 v1) (by rw [eo, va_up_self]) ?_
        refine lv_iload hx hb dL_law_328 (lv_at hl 0 rfl) ?_
        refine lv_if_eq (tgt := 337) hx hb dL_law_330 (by decide) (fun _ => ?_) (fun c9 => absurd e2 c9)
        refine lv_lconst (v := 0) hx hb dL_law_337 (by decide) ?_
        refine W.lcmp hx hb dL_law_338 ?_
        refine gx_as (y := 0) (by rw [hreq, e2]; rfl) ?_
        refine lv_if_eq (tgt := 344) hx hb dL_law_339 (by decide) (fun _ => ?_) (fun c9 => absurd (by decide) c9)
        refine lv_goto (tgt := 1147) hx hb dL_law_344 (by decide) ?_
        exact K _ _ _ _ _ _ _ _ _ P T mc sc ch G2 A2 Sg w t hLI (by omega) (by omega) hS (lv_sub hl [2, 3, 4, 5, 6] rfl)
      · skip
        refine lv_istore (lv' := [(6, .int r2), (5, .int (nI 0)), (0, .ref b), (1, .ref (ad 0)), (2, .ref (ad 53)), (3, .ref (ad 67)), (4, .int (nI i))]) hx hb dL_law_307 hl (by decide) rfl (fun ls hl => ?_)
        refine lv_aload_n hx hb dL_law_309 rfl (lv_at hl 4 rfl) ?_
        refine gc_i (gx_runV (As := []) (rest := []) ⟨hx, hb, hml, hown, hts⟩ hK hN hS 53 (by decide) rfl rfl (ct_X7_thrown l D cA o1 ad ln 68 H.size iv2 (by decide) l1) (cwV 0 hts (atA_lV gL_law_X7_thrown) rfl rfl rfl (by decide +kernel) ⟨gle hRf rfl, gle hRl rfl⟩) rfl rfl hl.1 rfl (lv_room (Nat.le_of_ble_eq_true rfl)) dL_law_310 ⟨by omega, by omega⟩) hS hA (fun z9 iv9 H locs hp9 hS => ?_)
        obtain ⟨ez9, ev9⟩ := hp9
        rw [ev9] at hS
        refine gx_as (y := nI 0) (by rw [ez9]; exact hth) ?_
        refine lv_iload hx hb dL_law_313 (lv_at hl 1 rfl) ?_
        refine lv_icmp_eq (tgt := 320) hx hb dL_law_315 (by decide) (fun _ => ?_) (fun c9 => absurd rfl c9)
        refine lv_iload hx hb dL_law_320 (lv_at hl 1 rfl) ?_
        refine lv_if_ne (tgt := 344) hx hb dL_law_322 (by decide) (fun c9 => absurd (by decide) c9) (fun _ => ?_)
        refine lv_aload_n hx hb dL_law_325 rfl (lv_at hl 5 rfl) ?_
        refine lv_iconst (v := nI 0) hx hb dL_law_326 (by decide) ?_
        refine gx_lald hx hb hK hS (by decide) dL_law_327 ?_
        refine gx_asl (y := Int32.toInt64 v1) (by rw [eo, va_up_self]) ?_
        refine lv_iload hx hb dL_law_328 (lv_at hl 0 rfl) ?_
        refine lv_if_eq (tgt := 337) hx hb dL_law_330 (by decide) (fun c9 => absurd c9 (by rw [e2]; decide)) (fun _ => ?_)
        refine lv_lconst (v := 1) hx hb dL_law_333 (by decide) ?_
        refine lv_goto (tgt := 338) hx hb dL_law_334 (by decide) ?_
        refine W.lcmp hx hb dL_law_338 ?_
        refine gx_as (y := 0) (by rw [hreq, e2]; rfl) ?_
        refine lv_if_eq (tgt := 344) hx hb dL_law_339 (by decide) (fun _ => ?_) (fun c9 => absurd (by decide) c9)
        refine lv_goto (tgt := 1147) hx hb dL_law_344 (by decide) ?_
        exact K _ _ _ _ _ _ _ _ _ P T mc sc ch G2 A2 Sg w t hLI (by omega) (by omega) hS (lv_sub hl [2, 3, 4, 5, 6] rfl)
    · skip
      refine lv_aload_n hx hb dL_law_260 rfl (lv_at hl 1 rfl) ?_
      refine lv_aload_n hx hb dL_law_261 rfl (lv_at hl 0 rfl) ?_
      refine lv_iload hx hb dL_law_262 (lv_at hl 4 rfl) ?_
      refine lv_iconst (v := nI 1) hx hb dL_law_264 (by decide) ?_
      refine lv_iadd hx hb dL_law_265 ?_
      refine gx_as (y := nI (i + 1)) (nI_add i 1) ?_
      refine va_sld hx hb hXs hbl hbA hS.2.2 (vp_in_nI (by omega) (by omega)) dL_law_266 ?_
      refine gx_as (y := nI m9) (by rw [nI_clamp (by omega)]; exact ex1) ?_
      refine lv_aload_n hx hb dL_law_267 rfl (lv_at hl 0 rfl) ?_
      refine lv_iload hx hb dL_law_268 (lv_at hl 4 rfl) ?_
      refine lv_iconst (v := nI 2) hx hb dL_law_270 (by decide) ?_
      refine lv_iadd hx hb dL_law_271 ?_
      refine gx_as (y := nI (i + 2)) (nI_add i 2) ?_
      refine va_sld hx hb hXs hbl hbA hS.2.2 (vp_in_nI (by omega) (by omega)) dL_law_272 ?_
      refine gx_as (y := nI y1) (by rw [nI_clamp (by omega)]; exact ex2) ?_
      refine lv_aload_n hx hb dL_law_273 rfl (lv_at hl 0 rfl) ?_
      refine lv_iload hx hb dL_law_274 (lv_at hl 4 rfl) ?_
      refine lv_iconst (v := nI 3) hx hb dL_law_276 (by decide) ?_
      refine lv_iadd hx hb dL_law_277 ?_
      refine gx_as (y := nI (i + 3)) (nI_add i 3) ?_
      refine va_sld hx hb hXs hbl hbA hS.2.2 (vp_in_nI (by omega) (by omega)) dL_law_278 ?_
      refine gx_as (y := x3) (by rw [nI_clamp (by omega)]; exact ex3) ?_
      refine lv_aload_n hx hb dL_law_279 rfl (lv_at hl 3 rfl) ?_
      refine gc_oxM (hx_L_addsI l D cA o ad ln 68 H.size iv (nI m9) (nI y1) x3 (by decide) (cx_X6_addsT3 l hst D cA o ad ln 68 H.size iv x3 m9 y1 P T mc (by decide) l1 a3 c5 a1 c2 a2 hm9 hy1 (ok9_no ok3))) (fun hM => vx_runSW (As := [.ref (ad 0), .int (nI m9), .int (nI y1), .int x3, .ref (ad 67)]) (rest := []) ⟨hx, hb, hml, hown, hts⟩ hM (vx_cwSW 5 hts (atA_in gL_law_L_adds) rfl rfl rfl (by decide +kernel) ⟨gle hRf rfl, gle hRl rfl⟩) ⟨gPreX_blind, fun U hU hW => ⟨rfl, hS.preX hK hN hX hA hU hW⟩⟩ rfl rfl hl.1 rfl (lv_room (Nat.le_of_ble_eq_true rfl)) dL_law_280 ⟨by omega, by omega⟩) hS hA (fun k9 o1 ad1 ln1 iv1 H locs hp1 hS => ?_)
      obtain ⟨ek, rfl, rfl, rfl, rfl⟩ := hp1
      refine gx_as (y := nI 2) ek ?_
      refine lv_istore (lv' := [(5, .int (nI 2)), (0, .ref b), (1, .ref (ad 0)), (2, .ref (ad 53)), (3, .ref (ad 67)), (4, .int (nI i))]) hx hb dL_law_283 hl (by decide) rfl (fun ls hl => ?_)
      refine lv_aload_n hx hb dL_law_285 rfl (lv_at hl 3 rfl) ?_
      refine lv_aload_n hx hb dL_law_286 rfl (lv_at hl 1 rfl) ?_
      refine lv_iload hx hb dL_law_287 (lv_at hl 5 rfl) ?_
      refine lv_iconst (v := nI 1) hx hb dL_law_289 (by decide) ?_
      refine lv_iadd hx hb dL_law_290 ?_
      refine gx_as (y := nI (i + 1)) (nI_add i 1) ?_
      refine va_sld hx hb hXs hbl hbA hS.2.2 (vp_in_nI (by omega) (by omega)) dL_law_291 ?_
      refine gx_as (y := nI m9) (by rw [nI_clamp (by omega)]; exact ex1) ?_
      refine lv_aload_n hx hb dL_law_292 rfl (lv_at hl 1 rfl) ?_
      refine lv_iload hx hb dL_law_293 (lv_at hl 5 rfl) ?_
      refine lv_iconst (v := nI 2) hx hb dL_law_295 (by decide) ?_
      refine lv_iadd hx hb dL_law_296 ?_
      refine gx_as (y := nI (i + 2)) (nI_add i 2) ?_
      refine va_sld hx hb hXs hbl hbA hS.2.2 (vp_in_nI (by omega) (by omega)) dL_law_297 ?_
      refine gx_as (y := nI y1) (by rw [nI_clamp (by omega)]; exact ex2) ?_
      refine lv_aload_n hx hb dL_law_298 rfl (lv_at hl 1 rfl) ?_
      refine lv_iload hx hb dL_law_299 (lv_at hl 5 rfl) ?_
      refine lv_iconst (v := nI 3) hx hb dL_law_301 (by decide) ?_
      refine lv_iadd hx hb dL_law_302 ?_
      refine gx_as (y := nI (i + 3)) (nI_add i 3) ?_
      refine va_sld hx hb hXs hbl hbA hS.2.2 (vp_in_nI (by omega) (by omega)) dL_law_303 ?_
      refine gx_as (y := x3) (by rw [nI_clamp (by omega)]; exact ex3) ?_
      refine gc_i (gx_runV (As := [.int (nI m9), .int (nI y1), .int x3]) (rest := []) ⟨hx, hb, hml, hown, hts⟩ hK hN hS 53 (by decide) rfl rfl (ct_X7_addsC l D cA o ad ln 68 H.size iv m9 y1 P T mc x3 (by decide) l1 rr3 c5 hm9 rr1 c2 hy1 rr2 ok3) (cwV 3 hts (atA_lV gL_law_X7_adds) rfl rfl rfl (by decide +kernel) ⟨gle hRf rfl, gle hRl rfl⟩) rfl rfl hl.1 rfl (lv_room (Nat.le_of_ble_eq_true rfl)) dL_law_304 ⟨by omega, by omega⟩) hS hA (fun r2 iv2 H locs hp2 hS => ?_)
      obtain ⟨_, _, ev2⟩ := hp2
      have hth : iv2 53 0 = nI 2 := by (rw [ev2, up2_s]) <;> rfl
      have hLI : LI P T mc sc ch G Ad Sg w t ln iv2 := by rw [ev2]; exact LI_th h (nI 2)
      refine lv_istore (lv' := [(6, .int r2), (5, .int (nI 2)), (0, .ref b), (1, .ref (ad 0)), (2, .ref (ad 53)), (3, .ref (ad 67)), (4, .int (nI i))]) hx hb dL_law_307 hl (by decide) rfl (fun ls hl => ?_)
      refine lv_aload_n hx hb dL_law_309 rfl (lv_at hl 4 rfl) ?_
      refine gc_i (gx_runV (As := []) (rest := []) ⟨hx, hb, hml, hown, hts⟩ hK hN hS 53 (by decide) rfl rfl (ct_X7_thrown l D cA o ad ln 68 H.size iv2 (by decide) l1) (cwV 0 hts (atA_lV gL_law_X7_thrown) rfl rfl rfl (by decide +kernel) ⟨gle hRf rfl, gle hRl rfl⟩) rfl rfl hl.1 rfl (lv_room (Nat.le_of_ble_eq_true rfl)) dL_law_310 ⟨by omega, by omega⟩) hS hA (fun z9 iv9 H locs hp9 hS => ?_)
      obtain ⟨ez9, ev9⟩ := hp9
      rw [ev9] at hS
      refine gx_as (y := nI 2) (by rw [ez9]; exact hth) ?_
      refine lv_iload hx hb dL_law_313 (lv_at hl 1 rfl) ?_
      refine lv_icmp_eq (tgt := 320) hx hb dL_law_315 (by decide) (fun _ => ?_) (fun c9 => absurd rfl c9)
      refine lv_iload hx hb dL_law_320 (lv_at hl 1 rfl) ?_
      refine lv_if_ne (tgt := 344) hx hb dL_law_322 (by decide) (fun _ => ?_) (fun c9 => absurd c9 (by decide))
      refine lv_goto (tgt := 1147) hx hb dL_law_344 (by decide) ?_
      exact K _ _ _ _ _ _ _ _ _ P T mc sc ch G Ad Sg w t hLI (by omega) (by omega) hS (lv_sub hl [2, 3, 4, 5, 6] rfl)
  · skip
    by_cases ok1 : ok9 x1 (nI mc)
    · skip
      obtain ⟨m9, hm9, rfl⟩ := ok9_of (by omega) ok1
      have ok2 : ¬ ok9 x2 (nI P) := fun u => hok ⟨ok1, u⟩
      refine lv_aload_n hx hb dL_law_260 rfl (lv_at hl 1 rfl) ?_
      refine lv_aload_n hx hb dL_law_261 rfl (lv_at hl 0 rfl) ?_
      refine lv_iload hx hb dL_law_262 (lv_at hl 4 rfl) ?_
      refine lv_iconst (v := nI 1) hx hb dL_law_264 (by decide) ?_
      refine lv_iadd hx hb dL_law_265 ?_
      refine gx_as (y := nI (i + 1)) (nI_add i 1) ?_
      refine va_sld hx hb hXs hbl hbA hS.2.2 (vp_in_nI (by omega) (by omega)) dL_law_266 ?_
      refine gx_as (y := nI m9) (by rw [nI_clamp (by omega)]; exact ex1) ?_
      refine lv_aload_n hx hb dL_law_267 rfl (lv_at hl 0 rfl) ?_
      refine lv_iload hx hb dL_law_268 (lv_at hl 4 rfl) ?_
      refine lv_iconst (v := nI 2) hx hb dL_law_270 (by decide) ?_
      refine lv_iadd hx hb dL_law_271 ?_
      refine gx_as (y := nI (i + 2)) (nI_add i 2) ?_
      refine va_sld hx hb hXs hbl hbA hS.2.2 (vp_in_nI (by omega) (by omega)) dL_law_272 ?_
      refine gx_as (y := x2) (by rw [nI_clamp (by omega)]; exact ex2) ?_
      refine lv_aload_n hx hb dL_law_273 rfl (lv_at hl 0 rfl) ?_
      refine lv_iload hx hb dL_law_274 (lv_at hl 4 rfl) ?_
      refine lv_iconst (v := nI 3) hx hb dL_law_276 (by decide) ?_
      refine lv_iadd hx hb dL_law_277 ?_
      refine gx_as (y := nI (i + 3)) (nI_add i 3) ?_
      refine va_sld hx hb hXs hbl hbA hS.2.2 (vp_in_nI (by omega) (by omega)) dL_law_278 ?_
      refine gx_as (y := x3) (by rw [nI_clamp (by omega)]; exact ex3) ?_
      refine lv_aload_n hx hb dL_law_279 rfl (lv_at hl 3 rfl) ?_
      refine gc_oxM (hx_L_adds l D cA o ad ln 68 H.size iv (nI m9) x2 x3 (by decide) (cx_X6_addsT2 l hst D cA o ad ln 68 H.size iv x2 x3 m9 P mc (by decide) l1 a3 c5 a1 c2 hm9 (ok9_no ok2))) (fun hM => vx_runSW (As := [.ref (ad 0), .int (nI m9), .int x2, .int x3, .ref (ad 67)]) (rest := []) ⟨hx, hb, hml, hown, hts⟩ hM (vx_cwSW 5 hts (atA_in gL_law_L_adds) rfl rfl rfl (by decide +kernel) ⟨gle hRf rfl, gle hRl rfl⟩) ⟨gPreX_blind, fun U hU hW => ⟨rfl, hS.preX hK hN hX hA hU hW⟩⟩ rfl rfl hl.1 rfl (lv_room (Nat.le_of_ble_eq_true rfl)) dL_law_280 ⟨by omega, by omega⟩) hS hA (fun k9 o1 ad1 ln1 iv1 H locs hp1 hS => ?_)
      obtain ⟨ek, rfl, rfl, rfl, rfl⟩ := hp1
      refine gx_as (y := nI 1) ek ?_
      refine lv_istore (lv' := [(5, .int (nI 1)), (0, .ref b), (1, .ref (ad 0)), (2, .ref (ad 53)), (3, .ref (ad 67)), (4, .int (nI i))]) hx hb dL_law_283 hl (by decide) rfl (fun ls hl => ?_)
      refine lv_aload_n hx hb dL_law_285 rfl (lv_at hl 3 rfl) ?_
      refine lv_aload_n hx hb dL_law_286 rfl (lv_at hl 1 rfl) ?_
      refine lv_iload hx hb dL_law_287 (lv_at hl 5 rfl) ?_
      refine lv_iconst (v := nI 1) hx hb dL_law_289 (by decide) ?_
      refine lv_iadd hx hb dL_law_290 ?_
      refine gx_as (y := nI (i + 1)) (nI_add i 1) ?_
      refine va_sld hx hb hXs hbl hbA hS.2.2 (vp_in_nI (by omega) (by omega)) dL_law_291 ?_
      refine gx_as (y := nI m9) (by rw [nI_clamp (by omega)]; exact ex1) ?_
      refine lv_aload_n hx hb dL_law_292 rfl (lv_at hl 1 rfl) ?_
      refine lv_iload hx hb dL_law_293 (lv_at hl 5 rfl) ?_
      refine lv_iconst (v := nI 2) hx hb dL_law_295 (by decide) ?_
      refine lv_iadd hx hb dL_law_296 ?_
      refine gx_as (y := nI (i + 2)) (nI_add i 2) ?_
      refine va_sld hx hb hXs hbl hbA hS.2.2 (vp_in_nI (by omega) (by omega)) dL_law_297 ?_
      refine gx_as (y := x2) (by rw [nI_clamp (by omega)]; exact ex2) ?_
      refine lv_aload_n hx hb dL_law_298 rfl (lv_at hl 1 rfl) ?_
      refine lv_iload hx hb dL_law_299 (lv_at hl 5 rfl) ?_
      refine lv_iconst (v := nI 3) hx hb dL_law_301 (by decide) ?_
      refine lv_iadd hx hb dL_law_302 ?_
      refine gx_as (y := nI (i + 3)) (nI_add i 3) ?_
      refine va_sld hx hb hXs hbl hbA hS.2.2 (vp_in_nI (by omega) (by omega)) dL_law_303 ?_
      refine gx_as (y := x3) (by rw [nI_clamp (by omega)]; exact ex3) ?_
      refine gc_i (gx_runV (As := [.int (nI m9), .int x2, .int x3]) (rest := []) ⟨hx, hb, hml, hown, hts⟩ hK hN hS 53 (by decide) rfl rfl (ct_X7_addsB l D cA o ad ln 68 H.size iv (nI m9) x2 x3 (by decide) l1 (by rw [rr3, rr1]; exact hok)) (cwV 3 hts (atA_lV gL_law_X7_adds) rfl rfl rfl (by decide +kernel) ⟨gle hRf rfl, gle hRl rfl⟩) rfl rfl hl.1 rfl (lv_room (Nat.le_of_ble_eq_true rfl)) dL_law_304 ⟨by omega, by omega⟩) hS hA (fun r2 iv2 H locs hp2 hS => ?_)
      obtain ⟨_, _, ev2⟩ := hp2
      have hth : iv2 53 0 = nI 1 := by (rw [ev2, up2_s]) <;> rfl
      have hLI : LI P T mc sc ch G Ad Sg w t ln iv2 := by rw [ev2]; exact LI_th h 1
      refine lv_istore (lv' := [(6, .int r2), (5, .int (nI 1)), (0, .ref b), (1, .ref (ad 0)), (2, .ref (ad 53)), (3, .ref (ad 67)), (4, .int (nI i))]) hx hb dL_law_307 hl (by decide) rfl (fun ls hl => ?_)
      refine lv_aload_n hx hb dL_law_309 rfl (lv_at hl 4 rfl) ?_
      refine gc_i (gx_runV (As := []) (rest := []) ⟨hx, hb, hml, hown, hts⟩ hK hN hS 53 (by decide) rfl rfl (ct_X7_thrown l D cA o ad ln 68 H.size iv2 (by decide) l1) (cwV 0 hts (atA_lV gL_law_X7_thrown) rfl rfl rfl (by decide +kernel) ⟨gle hRf rfl, gle hRl rfl⟩) rfl rfl hl.1 rfl (lv_room (Nat.le_of_ble_eq_true rfl)) dL_law_310 ⟨by omega, by omega⟩) hS hA (fun z9 iv9 H locs hp9 hS => ?_)
      obtain ⟨ez9, ev9⟩ := hp9
      rw [ev9] at hS
      refine gx_as (y := nI 1) (by rw [ez9]; exact hth) ?_
      refine lv_iload hx hb dL_law_313 (lv_at hl 1 rfl) ?_
      refine lv_icmp_eq (tgt := 320) hx hb dL_law_315 (by decide) (fun _ => ?_) (fun c9 => absurd rfl c9)
      refine lv_iload hx hb dL_law_320 (lv_at hl 1 rfl) ?_
      refine lv_if_ne (tgt := 344) hx hb dL_law_322 (by decide) (fun _ => ?_) (fun c9 => absurd c9 (by decide))
      refine lv_goto (tgt := 1147) hx hb dL_law_344 (by decide) ?_
      exact K _ _ _ _ _ _ _ _ _ P T mc sc ch G Ad Sg w t hLI (by omega) (by omega) hS (lv_sub hl [2, 3, 4, 5, 6] rfl)
    · skip
      refine lv_aload_n hx hb dL_law_260 rfl (lv_at hl 1 rfl) ?_
      refine lv_aload_n hx hb dL_law_261 rfl (lv_at hl 0 rfl) ?_
      refine lv_iload hx hb dL_law_262 (lv_at hl 4 rfl) ?_
      refine lv_iconst (v := nI 1) hx hb dL_law_264 (by decide) ?_
      refine lv_iadd hx hb dL_law_265 ?_
      refine gx_as (y := nI (i + 1)) (nI_add i 1) ?_
      refine va_sld hx hb hXs hbl hbA hS.2.2 (vp_in_nI (by omega) (by omega)) dL_law_266 ?_
      refine gx_as (y := x1) (by rw [nI_clamp (by omega)]; exact ex1) ?_
      refine lv_aload_n hx hb dL_law_267 rfl (lv_at hl 0 rfl) ?_
      refine lv_iload hx hb dL_law_268 (lv_at hl 4 rfl) ?_
      refine lv_iconst (v := nI 2) hx hb dL_law_270 (by decide) ?_
      refine lv_iadd hx hb dL_law_271 ?_
      refine gx_as (y := nI (i + 2)) (nI_add i 2) ?_
      refine va_sld hx hb hXs hbl hbA hS.2.2 (vp_in_nI (by omega) (by omega)) dL_law_272 ?_
      refine gx_as (y := x2) (by rw [nI_clamp (by omega)]; exact ex2) ?_
      refine lv_aload_n hx hb dL_law_273 rfl (lv_at hl 0 rfl) ?_
      refine lv_iload hx hb dL_law_274 (lv_at hl 4 rfl) ?_
      refine lv_iconst (v := nI 3) hx hb dL_law_276 (by decide) ?_
      refine lv_iadd hx hb dL_law_277 ?_
      refine gx_as (y := nI (i + 3)) (nI_add i 3) ?_
      refine va_sld hx hb hXs hbl hbA hS.2.2 (vp_in_nI (by omega) (by omega)) dL_law_278 ?_
      refine gx_as (y := x3) (by rw [nI_clamp (by omega)]; exact ex3) ?_
      refine lv_aload_n hx hb dL_law_279 rfl (lv_at hl 3 rfl) ?_
      refine gc_oxM (hx_L_adds l D cA o ad ln 68 H.size iv x1 x2 x3 (by decide) (cx_X6_addsT1 l hst D cA o ad ln 68 H.size iv x1 x2 x3 mc (by decide) l1 a3 c5 (ok9_no ok1))) (fun hM => vx_runSW (As := [.ref (ad 0), .int x1, .int x2, .int x3, .ref (ad 67)]) (rest := []) ⟨hx, hb, hml, hown, hts⟩ hM (vx_cwSW 5 hts (atA_in gL_law_L_adds) rfl rfl rfl (by decide +kernel) ⟨gle hRf rfl, gle hRl rfl⟩) ⟨gPreX_blind, fun U hU hW => ⟨rfl, hS.preX hK hN hX hA hU hW⟩⟩ rfl rfl hl.1 rfl (lv_room (Nat.le_of_ble_eq_true rfl)) dL_law_280 ⟨by omega, by omega⟩) hS hA (fun k9 o1 ad1 ln1 iv1 H locs hp1 hS => ?_)
      obtain ⟨ek, rfl, rfl, rfl, rfl⟩ := hp1
      refine gx_as (y := nI 1) ek ?_
      refine lv_istore (lv' := [(5, .int (nI 1)), (0, .ref b), (1, .ref (ad 0)), (2, .ref (ad 53)), (3, .ref (ad 67)), (4, .int (nI i))]) hx hb dL_law_283 hl (by decide) rfl (fun ls hl => ?_)
      refine lv_aload_n hx hb dL_law_285 rfl (lv_at hl 3 rfl) ?_
      refine lv_aload_n hx hb dL_law_286 rfl (lv_at hl 1 rfl) ?_
      refine lv_iload hx hb dL_law_287 (lv_at hl 5 rfl) ?_
      refine lv_iconst (v := nI 1) hx hb dL_law_289 (by decide) ?_
      refine lv_iadd hx hb dL_law_290 ?_
      refine gx_as (y := nI (i + 1)) (nI_add i 1) ?_
      refine va_sld hx hb hXs hbl hbA hS.2.2 (vp_in_nI (by omega) (by omega)) dL_law_291 ?_
      refine gx_as (y := x1) (by rw [nI_clamp (by omega)]; exact ex1) ?_
      refine lv_aload_n hx hb dL_law_292 rfl (lv_at hl 1 rfl) ?_
      refine lv_iload hx hb dL_law_293 (lv_at hl 5 rfl) ?_
      refine lv_iconst (v := nI 2) hx hb dL_law_295 (by decide) ?_
      refine lv_iadd hx hb dL_law_296 ?_
      refine gx_as (y := nI (i + 2)) (nI_add i 2) ?_
      refine va_sld hx hb hXs hbl hbA hS.2.2 (vp_in_nI (by omega) (by omega)) dL_law_297 ?_
      refine gx_as (y := x2) (by rw [nI_clamp (by omega)]; exact ex2) ?_
      refine lv_aload_n hx hb dL_law_298 rfl (lv_at hl 1 rfl) ?_
      refine lv_iload hx hb dL_law_299 (lv_at hl 5 rfl) ?_
      refine lv_iconst (v := nI 3) hx hb dL_law_301 (by decide) ?_
      refine lv_iadd hx hb dL_law_302 ?_
      refine gx_as (y := nI (i + 3)) (nI_add i 3) ?_
      refine va_sld hx hb hXs hbl hbA hS.2.2 (vp_in_nI (by omega) (by omega)) dL_law_303 ?_
      refine gx_as (y := x3) (by rw [nI_clamp (by omega)]; exact ex3) ?_
      refine gc_i (gx_runV (As := [.int x1, .int x2, .int x3]) (rest := []) ⟨hx, hb, hml, hown, hts⟩ hK hN hS 53 (by decide) rfl rfl (ct_X7_addsB l D cA o ad ln 68 H.size iv x1 x2 x3 (by decide) l1 (by rw [rr3, rr1]; exact hok)) (cwV 3 hts (atA_lV gL_law_X7_adds) rfl rfl rfl (by decide +kernel) ⟨gle hRf rfl, gle hRl rfl⟩) rfl rfl hl.1 rfl (lv_room (Nat.le_of_ble_eq_true rfl)) dL_law_304 ⟨by omega, by omega⟩) hS hA (fun r2 iv2 H locs hp2 hS => ?_)
      obtain ⟨_, _, ev2⟩ := hp2
      have hth : iv2 53 0 = nI 1 := by (rw [ev2, up2_s]) <;> rfl
      have hLI : LI P T mc sc ch G Ad Sg w t ln iv2 := by rw [ev2]; exact LI_th h 1
      refine lv_istore (lv' := [(6, .int r2), (5, .int (nI 1)), (0, .ref b), (1, .ref (ad 0)), (2, .ref (ad 53)), (3, .ref (ad 67)), (4, .int (nI i))]) hx hb dL_law_307 hl (by decide) rfl (fun ls hl => ?_)
      refine lv_aload_n hx hb dL_law_309 rfl (lv_at hl 4 rfl) ?_
      refine gc_i (gx_runV (As := []) (rest := []) ⟨hx, hb, hml, hown, hts⟩ hK hN hS 53 (by decide) rfl rfl (ct_X7_thrown l D cA o ad ln 68 H.size iv2 (by decide) l1) (cwV 0 hts (atA_lV gL_law_X7_thrown) rfl rfl rfl (by decide +kernel) ⟨gle hRf rfl, gle hRl rfl⟩) rfl rfl hl.1 rfl (lv_room (Nat.le_of_ble_eq_true rfl)) dL_law_310 ⟨by omega, by omega⟩) hS hA (fun z9 iv9 H locs hp9 hS => ?_)
      obtain ⟨ez9, ev9⟩ := hp9
      rw [ev9] at hS
      refine gx_as (y := nI 1) (by rw [ez9]; exact hth) ?_
      refine lv_iload hx hb dL_law_313 (lv_at hl 1 rfl) ?_
      refine lv_icmp_eq (tgt := 320) hx hb dL_law_315 (by decide) (fun _ => ?_) (fun c9 => absurd rfl c9)
      refine lv_iload hx hb dL_law_320 (lv_at hl 1 rfl) ?_
      refine lv_if_ne (tgt := 344) hx hb dL_law_322 (by decide) (fun _ => ?_) (fun c9 => absurd c9 (by decide))
      refine lv_goto (tgt := 1147) hx hb dL_law_344 (by decide) ?_
      exact K _ _ _ _ _ _ _ _ _ P T mc sc ch G Ad Sg w t hLI (by omega) (by omega) hS (lv_sub hl [2, 3, 4, 5, 6] rfl)

set_option maxHeartbeats 4000000 in
set_option maxRecDepth 100000 in
theorem law_set {p : Program} {l : Launch} {e : Env} {R : Room} {s : State} {m : MethodId} {below : List Frame} {meth : Method} {c : Code} {D : va_G} {cA : Nat → ClassId} {b L i : Nat} {xs : Nat → Int32} {Q : State → Prop} {o : Nat → Int64} {ad ln : Nat → Nat} {iv : Nat → Nat → Int32} {H : Heap} {locs : List Loc} {ls : Array Slot} {cells slots P T mc sc : Nat} {ch : Nat → Bool} {G Ad Sg : Nat → Nat → Nat} {w t : Nat → Nat} {x1 : Int32} (X : LX p l R s m c D cA b L xs) (hi : i + 3 < L) (ex1 : xs (i + 1) = x1) (h : LI P T mc sc ch G Ad Sg w t ln iv) (hcb : cells ≤ 500 + uC P T ln + i) (hsb : slots ≤ 500000 + uS P T ln + 2 * i) (hS : gS D cA (fun q => s.heap.size ≤ q) s.heap o ad ln iv 68 H locs) (hl : lv_has ls 8 [(0, .ref b), (1, .ref (ad 0)), (2, .ref (ad 53)), (3, .ref (ad 67)), (4, .int (nI i))]) (K : LK p l e R s m below meth c D cA b i Q) : W p l e R s m #[.ref b] below meth c H locs cells slots Q (F0 m 507 ls []) := by
  obtain ⟨hx, hb, hml, hown, hts, hXs, hbl, hK, hN, hX, hst, hRf, hRl, hRc, hRs, hL⟩ := X
  have hA : ∀ q : Nat, s.heap.size ≤ q → (fun q : Nat => s.heap.size ≤ q) q := fun _ h => h
  have hbA : ¬ (fun q : Nat => s.heap.size ≤ q) b := Nat.not_le.mpr hbl
  obtain ⟨⟨c1, c2, c3, c4, c5, c6, c7, c8, c9, c10, c11, c12⟩, ⟨l1, l2, l3⟩, ⟨a1, a2, a3, a4, a5, a6, a7, a8, a9, a10, a11, a12⟩, m0, s0, ⟨n1, n2, n3, n4⟩, ⟨rr1, rr2, rr3, rr4, rr5, rr6, rr7, rr8, rr9, rr10⟩, t0, o0⟩ := id h
  have hcP : cnt ch P ≤ P := inj_le_P pcs_inj
  have hu1 := uC_le P T ln
  have hu2 := uS_le c2 c4 ln
  have hff := ff_1680 P (by omega) (cnt ch P) (by omega)
  have hpw := pw_le4 c4 c7
  have hS9 := Nat.mul_le_mul hff hpw
  by_cases hok : ok9 x1 (nI (ff P (cnt ch P) * T ^ cnt ch P))
  · skip
    obtain ⟨x9, hx9, rfl⟩ := ok9_of (by omega) hok
    refine lv_aload_n hx hb dL_law_507 rfl (lv_at hl 1 rfl) ?_
    refine lv_aload_n hx hb dL_law_508 rfl (lv_at hl 0 rfl) ?_
    refine lv_iload hx hb dL_law_509 (lv_at hl 4 rfl) ?_
    refine lv_iconst (v := nI 1) hx hb dL_law_511 (by decide) ?_
    refine lv_iadd hx hb dL_law_512 ?_
    refine gx_as (y := nI (i + 1)) (nI_add i 1) ?_
    refine va_sld hx hb hXs hbl hbA hS.2.2 (vp_in_nI (by omega) (by omega)) dL_law_513 ?_
    refine gx_as (y := nI x9) (by rw [nI_clamp (by omega)]; exact ex1) ?_
    refine gc_oxM (hk_L_set l D cA o ad ln 68 H.size iv (nI x9) (rm := { frames := 3, cells := 0, slots := 0, locals := 72 }) (by decide) rfl rfl (by decide) (by decide) (ct_X6_set l D cA o ad ln 68 H.size iv x9 P (cnt ch P) T (pcs ch P) (by decide) l1 l2 a7 c7 a6 c3 c4 c2 a10 pcs_inj a5 a8 a9 hx9)) (fun hM => vx_runSW (As := [.ref (ad 0), .int (nI x9)]) (rest := []) ⟨hx, hb, hml, hown, hts⟩ hM (vx_cwSW 2 hts (atA_lV gL_law_L_set) rfl rfl rfl (by decide +kernel) ⟨gle hRf rfl, gle hRl rfl⟩) ⟨gPre_blind, fun U hU hW => ⟨rfl, hS.pre hK hN hU hW⟩⟩ rfl rfl hl.1 rfl (lv_room (Nat.le_of_ble_eq_true rfl)) dL_law_514 ⟨by omega, by omega⟩) hS hA (fun k9 o1 ad1 ln1 iv1 H locs hp1 hS => ?_)
    obtain ⟨ek, hq, rfl, rfl, rfl⟩ := hp1
    obtain ⟨⟨w2, g1, g2, g3⟩, g4, g5⟩ := hq
    have k53 : iv1 53 = iv 53 := g5 53 (by decide) (by decide) (by decide)
    have hwd := dw_eq g1 g3
    refine gx_as (y := nI 0) ek ?_
    refine lv_istore (lv' := [(5, .int (nI 0)), (0, .ref b), (1, .ref (ad 0)), (2, .ref (ad 53)), (3, .ref (ad 67)), (4, .int (nI i))]) hx hb dL_law_517 hl (by decide) rfl (fun ls hl => ?_)
    refine lv_aload_n hx hb dL_law_519 rfl (lv_at hl 3 rfl) ?_
    refine lv_aload_n hx hb dL_law_520 rfl (lv_at hl 1 rfl) ?_
    refine lv_iload hx hb dL_law_521 (lv_at hl 5 rfl) ?_
    refine lv_iconst (v := nI 1) hx hb dL_law_523 (by decide) ?_
    refine lv_iadd hx hb dL_law_524 ?_
    refine gx_as (y := nI (i + 1)) (nI_add i 1) ?_
    refine va_sld hx hb hXs hbl hbA hS.2.2 (vp_in_nI (by omega) (by omega)) dL_law_525 ?_
    refine gx_as (y := nI x9) (by rw [nI_clamp (by omega)]; exact ex1) ?_
    refine gc_v (gx_runV (As := [.int (nI x9)]) (rest := []) ⟨hx, hb, hml, hown, hts⟩ hK hN hS 53 (by decide) rfl rfl (ct_X7_set l D cA o ad ln 68 H.size iv1 x9 P (cnt ch P) T (by decide) l1 (by rw [k53]; exact rr4) c7 (by rw [k53]; exact rr2) c3 c4 (by rw [k53]; exact rr1) c2 hcP hx9) (cwV 1 hts (atA_lV gL_law_X7_set) rfl rfl rfl (by decide +kernel) ⟨gle hRf rfl, gle hRl rfl⟩) rfl rfl hl.1 rfl (lv_room (Nat.le_of_ble_eq_true rfl)) dL_law_526 ⟨by omega, by omega⟩) hS hA (fun iv2 H locs hp2 hS => ?_)
    have ev2 := hp2
    have hth : iv2 53 0 = nI 0 := by rw [ev2, up2_n (by decide), up2_s]; rfl
    have e : ∀ q, q ≠ 53 → iv2 q = iv1 q := fun q z1 => by rw [ev2, up2_row z1, up2_row z1]
    have hLI : LI P T mc sc ch G Ad Sg (dw P (cnt ch P) (x9 / T ^ cnt ch P)) (dt T (cnt ch P) x9) ln iv2 := by
      refine LI_st h (dw_ok hcP).1 (fun _ _ => dt_lt c3) ⟨fun i hi => ?_, fun i hi => ?_⟩ (fun p hp => ?_) ?_ (fun j z1 z2 => ?_) (fun q z1 z2 z3 z4 z5 z6 => ?_)
      · show iv2 30 _ = _
        rw [e 30 (by decide), ← hwd i hi]
        exact g2.1 i hi
      · show iv2 31 _ = _
        rw [e 31 (by decide), ← dt_mod hi]
        exact g2.2 i hi
      · rw [e 30 (by decide)]
        by_cases u : ∃ i, i < cnt ch P ∧ p = pcs ch P i
        · obtain ⟨i, hi, rfl⟩ := u
          rw [show iv1 30 (pcs ch P i) = nI (w2 i) from g2.1 i hi]
          exact vp_in_nI (g1.1 i hi) (by omega)
        · rw [(g4 p (fun i hi z => u ⟨i, hi, z⟩)).1]
          exact n2 p hp
      · rw [ev2, up2_s, num_dec c3 hcP hx9]
      · rw [ev2, up2_n (fun z => z2 z.2), up2_n (fun z => z1 z.2), k53]
      · rw [e q z4, g5 q z2 z3 z1]
    refine lv_aload_n hx hb dL_law_529 rfl (lv_at hl 3 rfl) ?_
    refine gc_i (gx_runV (As := []) (rest := []) ⟨hx, hb, hml, hown, hts⟩ hK hN hS 53 (by decide) rfl rfl (ct_X7_thrown l D cA o ad ln 68 H.size iv2 (by decide) l1) (cwV 0 hts (atA_lV gL_law_X7_thrown) rfl rfl rfl (by decide +kernel) ⟨gle hRf rfl, gle hRl rfl⟩) rfl rfl hl.1 rfl (lv_room (Nat.le_of_ble_eq_true rfl)) dL_law_530 ⟨by omega, by omega⟩) hS hA (fun z9 iv9 H locs hp9 hS => ?_)
    obtain ⟨ez9, ev9⟩ := hp9
    rw [ev9] at hS
    refine gx_as (y := nI 0) (by rw [ez9]; exact hth) ?_
    refine lv_iload hx hb dL_law_533 (lv_at hl 0 rfl) ?_
    refine lv_icmp_eq (tgt := 540) hx hb dL_law_535 (by decide) (fun _ => ?_) (fun c9 => absurd rfl c9)
    refine lv_goto (tgt := 1147) hx hb dL_law_540 (by decide) ?_
    exact K _ _ _ _ _ _ _ _ _ P T mc sc ch G Ad Sg (dw P (cnt ch P) (x9 / T ^ cnt ch P)) (dt T (cnt ch P) x9) hLI (by omega) (by omega) hS (lv_sub hl [1, 2, 3, 4, 5] rfl)
  · skip
    refine lv_aload_n hx hb dL_law_507 rfl (lv_at hl 1 rfl) ?_
    refine lv_aload_n hx hb dL_law_508 rfl (lv_at hl 0 rfl) ?_
    refine lv_iload hx hb dL_law_509 (lv_at hl 4 rfl) ?_
    refine lv_iconst (v := nI 1) hx hb dL_law_511 (by decide) ?_
    refine lv_iadd hx hb dL_law_512 ?_
    refine gx_as (y := nI (i + 1)) (nI_add i 1) ?_
    refine va_sld hx hb hXs hbl hbA hS.2.2 (vp_in_nI (by omega) (by omega)) dL_law_513 ?_
    refine gx_as (y := x1) (by rw [nI_clamp (by omega)]; exact ex1) ?_
    refine gc_oxM (hx_L_set l D cA o ad ln 68 H.size iv x1 (by decide) (cx_X6_setT l hst D cA o ad ln 68 H.size iv x1 P T (cnt ch P) (by decide) l1 a8 a9 (ok9_no hok))) (fun hM => vx_runSW (As := [.ref (ad 0), .int x1]) (rest := []) ⟨hx, hb, hml, hown, hts⟩ hM (vx_cwSW 2 hts (atA_in gL_law_L_set) rfl rfl rfl (by decide +kernel) ⟨gle hRf rfl, gle hRl rfl⟩) ⟨gPreX_blind, fun U hU hW => ⟨rfl, hS.preX hK hN hX hA hU hW⟩⟩ rfl rfl hl.1 rfl (lv_room (Nat.le_of_ble_eq_true rfl)) dL_law_514 ⟨by omega, by omega⟩) hS hA (fun k9 o1 ad1 ln1 iv1 H locs hp1 hS => ?_)
    obtain ⟨ek, rfl, rfl, rfl, rfl⟩ := hp1
    refine gx_as (y := nI 1) ek ?_
    refine lv_istore (lv' := [(5, .int (nI 1)), (0, .ref b), (1, .ref (ad 0)), (2, .ref (ad 53)), (3, .ref (ad 67)), (4, .int (nI i))]) hx hb dL_law_517 hl (by decide) rfl (fun ls hl => ?_)
    refine lv_aload_n hx hb dL_law_519 rfl (lv_at hl 3 rfl) ?_
    refine lv_aload_n hx hb dL_law_520 rfl (lv_at hl 1 rfl) ?_
    refine lv_iload hx hb dL_law_521 (lv_at hl 5 rfl) ?_
    refine lv_iconst (v := nI 1) hx hb dL_law_523 (by decide) ?_
    refine lv_iadd hx hb dL_law_524 ?_
    refine gx_as (y := nI (i + 1)) (nI_add i 1) ?_
    refine va_sld hx hb hXs hbl hbA hS.2.2 (vp_in_nI (by omega) (by omega)) dL_law_525 ?_
    refine gx_as (y := x1) (by rw [nI_clamp (by omega)]; exact ex1) ?_
    refine gc_v (gx_runV (As := [.int x1]) (rest := []) ⟨hx, hb, hml, hown, hts⟩ hK hN hS 53 (by decide) rfl rfl (ct_X7_setB l D cA o ad ln 68 H.size iv x1 P (cnt ch P) T (by decide) l1 rr4 c7 rr2 c3 c4 rr1 c2 hcP hok) (cwV 1 hts (atA_lV gL_law_X7_set) rfl rfl rfl (by decide +kernel) ⟨gle hRf rfl, gle hRl rfl⟩) rfl rfl hl.1 rfl (lv_room (Nat.le_of_ble_eq_true rfl)) dL_law_526 ⟨by omega, by omega⟩) hS hA (fun iv2 H locs hp2 hS => ?_)
    have ev2 := hp2
    have hth : iv2 53 0 = nI 1 := by (rw [ev2, up2_s]) <;> rfl
    have hLI : LI P T mc sc ch G Ad Sg w t ln iv2 := by rw [ev2]; exact LI_th h 1
    refine lv_aload_n hx hb dL_law_529 rfl (lv_at hl 3 rfl) ?_
    refine gc_i (gx_runV (As := []) (rest := []) ⟨hx, hb, hml, hown, hts⟩ hK hN hS 53 (by decide) rfl rfl (ct_X7_thrown l D cA o ad ln 68 H.size iv2 (by decide) l1) (cwV 0 hts (atA_lV gL_law_X7_thrown) rfl rfl rfl (by decide +kernel) ⟨gle hRf rfl, gle hRl rfl⟩) rfl rfl hl.1 rfl (lv_room (Nat.le_of_ble_eq_true rfl)) dL_law_530 ⟨by omega, by omega⟩) hS hA (fun z9 iv9 H locs hp9 hS => ?_)
    obtain ⟨ez9, ev9⟩ := hp9
    rw [ev9] at hS
    refine gx_as (y := nI 1) (by rw [ez9]; exact hth) ?_
    refine lv_iload hx hb dL_law_533 (lv_at hl 0 rfl) ?_
    refine lv_icmp_eq (tgt := 540) hx hb dL_law_535 (by decide) (fun _ => ?_) (fun c9 => absurd rfl c9)
    refine lv_goto (tgt := 1147) hx hb dL_law_540 (by decide) ?_
    exact K _ _ _ _ _ _ _ _ _ P T mc sc ch G Ad Sg w t hLI (by omega) (by omega) hS (lv_sub hl [1, 2, 3, 4, 5] rfl)

set_option maxHeartbeats 4000000 in
set_option maxRecDepth 100000 in
theorem law_apply {p : Program} {l : Launch} {e : Env} {R : Room} {s : State} {m : MethodId} {below : List Frame} {meth : Method} {c : Code} {D : va_G} {cA : Nat → ClassId} {b L i : Nat} {xs : Nat → Int32} {Q : State → Prop} {o : Nat → Int64} {ad ln : Nat → Nat} {iv : Nat → Nat → Int32} {H : Heap} {locs : List Loc} {ls : Array Slot} {cells slots P T mc sc : Nat} {ch : Nat → Bool} {G Ad Sg : Nat → Nat → Nat} {w t : Nat → Nat} {x1 : Int32} (X : LX p l R s m c D cA b L xs) (hi : i + 3 < L) (ex1 : xs (i + 1) = x1) (h : LI P T mc sc ch G Ad Sg w t ln iv) (hcb : cells ≤ 500 + uC P T ln + i) (hsb : slots ≤ 500000 + uS P T ln + 2 * i) (hS : gS D cA (fun q => s.heap.size ≤ q) s.heap o ad ln iv 68 H locs) (hl : lv_has ls 8 [(0, .ref b), (1, .ref (ad 0)), (2, .ref (ad 53)), (3, .ref (ad 67)), (4, .int (nI i))]) (K : LK p l e R s m below meth c D cA b i Q) : W p l e R s m #[.ref b] below meth c H locs cells slots Q (F0 m 668 ls []) := by
  obtain ⟨hx, hb, hml, hown, hts, hXs, hbl, hK, hN, hX, hst, hRf, hRl, hRc, hRs, hL⟩ := X
  have hA : ∀ q : Nat, s.heap.size ≤ q → (fun q : Nat => s.heap.size ≤ q) q := fun _ h => h
  have hbA : ¬ (fun q : Nat => s.heap.size ≤ q) b := Nat.not_le.mpr hbl
  obtain ⟨⟨c1, c2, c3, c4, c5, c6, c7, c8, c9, c10, c11, c12⟩, ⟨l1, l2, l3⟩, ⟨a1, a2, a3, a4, a5, a6, a7, a8, a9, a10, a11, a12⟩, m0, s0, ⟨n1, n2, n3, n4⟩, ⟨rr1, rr2, rr3, rr4, rr5, rr6, rr7, rr8, rr9, rr10⟩, t0, o0⟩ := id h
  have hcP : cnt ch P ≤ P := inj_le_P pcs_inj
  have hu1 := uC_le P T ln
  have hu2 := uS_le c2 c4 ln
  have hff := ff_1680 P (by omega) (cnt ch P) (by omega)
  have hpw := pw_le4 c4 c7
  have hS9 := Nat.mul_le_mul hff hpw
  by_cases hok : ok9 x1 (nI mc)
  · skip
    obtain ⟨m9, hm9, rfl⟩ := ok9_of (by omega) hok
    have hnl := num_lt c10 c11
    refine lv_aload_n hx hb dL_law_668 rfl (lv_at hl 1 rfl) ?_
    refine lv_aload_n hx hb dL_law_669 rfl (lv_at hl 0 rfl) ?_
    refine lv_iload hx hb dL_law_670 (lv_at hl 4 rfl) ?_
    refine lv_iconst (v := nI 1) hx hb dL_law_672 (by decide) ?_
    refine lv_iadd hx hb dL_law_673 ?_
    refine gx_as (y := nI (i + 1)) (nI_add i 1) ?_
    refine va_sld hx hb hXs hbl hbA hS.2.2 (vp_in_nI (by omega) (by omega)) dL_law_674 ?_
    refine gx_as (y := nI m9) (by rw [nI_clamp (by omega)]; exact ex1) ?_
    refine gc_oxM (hk_L_apply l D cA o ad ln 68 H.size iv (nI m9) (rm := { frames := 1, cells := 0, slots := 0, locals := 23 }) (by decide) rfl rfl (by decide) (by decide) (ct_X6_apply l D cA o ad ln 68 H.size iv m9 P T mc (G m9) (Ad m9) (by decide) l1 l2 c2 a3 c5 hm9 c3 c4 (m0 m9 (by omega)) n2)) (fun hM => vx_runSW (As := [.ref (ad 0), .int (nI m9)]) (rest := []) ⟨hx, hb, hml, hown, hts⟩ hM (vx_cwSW 2 hts (atA_lV gL_law_L_apply) rfl rfl rfl (by decide +kernel) ⟨gle hRf rfl, gle hRl rfl⟩) ⟨gPre_blind, fun U hU hW => ⟨rfl, hS.pre hK hN hU hW⟩⟩ rfl rfl hl.1 rfl (lv_room (Nat.le_of_ble_eq_true rfl)) dL_law_675 ⟨by omega, by omega⟩) hS hA (fun k9 o1 ad1 ln1 iv1 H locs hp1 hS => ?_)
    obtain ⟨ek, hq, rfl, rfl, rfl⟩ := hp1
    have hh := holds_follow c3 c4 c2 (m0 m9 (by omega)) pcs_inj c10 c11 n1 hq
    have hin9 := in_follow c2 (m0 m9 (by omega)) n2 hq
    have ev1 := hq.2.2
    have k53 : iv1 53 = iv 53 := ev1 53 (by decide) (by decide)
    refine gx_as (y := nI 0) ek ?_
    refine lv_istore (lv' := [(5, .int (nI 0)), (0, .ref b), (1, .ref (ad 0)), (2, .ref (ad 53)), (3, .ref (ad 67)), (4, .int (nI i))]) hx hb dL_law_678 hl (by decide) rfl (fun ls hl => ?_)
    refine lv_aload_n hx hb dL_law_680 rfl (lv_at hl 3 rfl) ?_
    refine lv_aload_n hx hb dL_law_681 rfl (lv_at hl 1 rfl) ?_
    refine lv_iload hx hb dL_law_682 (lv_at hl 5 rfl) ?_
    refine lv_iconst (v := nI 1) hx hb dL_law_684 (by decide) ?_
    refine lv_iadd hx hb dL_law_685 ?_
    refine gx_as (y := nI (i + 1)) (nI_add i 1) ?_
    refine va_sld hx hb hXs hbl hbA hS.2.2 (vp_in_nI (by omega) (by omega)) dL_law_686 ?_
    refine gx_as (y := nI m9) (by rw [nI_clamp (by omega)]; exact ex1) ?_
    refine gc_v (gx_runV (As := [.int (nI m9)]) (rest := []) ⟨hx, hb, hml, hown, hts⟩ hK hN hS 53 (by decide) rfl rfl (ct_X7_apply l D cA o ad ln 68 H.size iv1 m9 mc (num P T (cnt ch P) w t) P (cnt ch P) T (G m9) (Ad m9) (by decide) l1 l3 (by rw [k53]; exact rr4) c7 (by rw [k53]; exact rr2) c3 c4 (by rw [k53]; exact rr1) c2 (fun q hq9 => by rw [ev1 54 (by decide) (by decide), ev1 55 (by decide) (by decide)]; exact rr7 m9 hm9 q hq9) (by omega) hcP (c8 m9).1 (by rw [k53]; exact rr3) c5 hm9 (by rw [k53]; exact rr5) (by omega)) (cwV 1 hts (atA_lV gL_law_X7_apply) rfl rfl rfl (by decide +kernel) ⟨gle hRf rfl, gle hRl rfl⟩) rfl rfl hl.1 rfl (lv_room (Nat.le_of_ble_eq_true rfl)) dL_law_687 ⟨by omega, by omega⟩) hS hA (fun iv2 H locs hp2 hS => ?_)
    obtain ⟨f1, f2, f3, f4⟩ := hp2
    have hth : iv2 53 0 = nI 0 := f2
    have hLI : LI P T mc sc ch G Ad Sg (fun i => G m9 (w i)) (fun i => (t i + Ad m9 (w i)) % T) ln iv2 := by
      refine LI_st h (inj_comp c10 (c8 m9).1) (fun _ _ => Nat.mod_lt _ c3) ⟨fun i hi => ?_, fun i hi => ?_⟩ (fun p hp => ?_) ?_ (fun j z1 z2 => ?_) (fun q z1 z2 z3 z4 z5 z6 => ?_)
      · show iv2 30 _ = _
        rw [f4 30 (by decide) (by decide) (by decide)]
        exact hh.1 i hi
      · show iv2 31 _ = _
        rw [f4 31 (by decide) (by decide) (by decide)]
        exact hh.2 i hi
      · rw [f4 30 (by decide) (by decide) (by decide)]
        exact hin9 p hp
      · rw [f1]
        exact congrArg nI (num_congr (fun j hj => by rw [dw_num c3 c10 c11 hj]) (fun j hj => by rw [dw_num c3 c10 c11 hj, num_dt c3 c11 hj]))
      · rw [f3 j z1 z2, k53]
      · rw [f4 q z4 z5 z6, ev1 q z2 z3]
    refine lv_aload_n hx hb dL_law_690 rfl (lv_at hl 3 rfl) ?_
    refine gc_i (gx_runV (As := []) (rest := []) ⟨hx, hb, hml, hown, hts⟩ hK hN hS 53 (by decide) rfl rfl (ct_X7_thrown l D cA o ad ln 68 H.size iv2 (by decide) l1) (cwV 0 hts (atA_lV gL_law_X7_thrown) rfl rfl rfl (by decide +kernel) ⟨gle hRf rfl, gle hRl rfl⟩) rfl rfl hl.1 rfl (lv_room (Nat.le_of_ble_eq_true rfl)) dL_law_691 ⟨by omega, by omega⟩) hS hA (fun z9 iv9 H locs hp9 hS => ?_)
    obtain ⟨ez9, ev9⟩ := hp9
    rw [ev9] at hS
    refine gx_as (y := nI 0) (by rw [ez9]; exact hth) ?_
    refine lv_iload hx hb dL_law_694 (lv_at hl 0 rfl) ?_
    refine lv_icmp_eq (tgt := 701) hx hb dL_law_696 (by decide) (fun _ => ?_) (fun c9 => absurd rfl c9)
    refine lv_goto (tgt := 1147) hx hb dL_law_701 (by decide) ?_
    exact K _ _ _ _ _ _ _ _ _ P T mc sc ch G Ad Sg (fun i => G m9 (w i)) (fun i => (t i + Ad m9 (w i)) % T) hLI (by omega) (by omega) hS (lv_sub hl [1, 2, 3, 4, 5] rfl)
  · skip
    refine lv_aload_n hx hb dL_law_668 rfl (lv_at hl 1 rfl) ?_
    refine lv_aload_n hx hb dL_law_669 rfl (lv_at hl 0 rfl) ?_
    refine lv_iload hx hb dL_law_670 (lv_at hl 4 rfl) ?_
    refine lv_iconst (v := nI 1) hx hb dL_law_672 (by decide) ?_
    refine lv_iadd hx hb dL_law_673 ?_
    refine gx_as (y := nI (i + 1)) (nI_add i 1) ?_
    refine va_sld hx hb hXs hbl hbA hS.2.2 (vp_in_nI (by omega) (by omega)) dL_law_674 ?_
    refine gx_as (y := x1) (by rw [nI_clamp (by omega)]; exact ex1) ?_
    refine gc_oxM (hx_L_apply l D cA o ad ln 68 H.size iv x1 (by decide) (cx_X6_applyT l hst D cA o ad ln 68 H.size iv x1 mc (by decide) l1 a3 (ok9_no hok))) (fun hM => vx_runSW (As := [.ref (ad 0), .int x1]) (rest := []) ⟨hx, hb, hml, hown, hts⟩ hM (vx_cwSW 2 hts (atA_in gL_law_L_apply) rfl rfl rfl (by decide +kernel) ⟨gle hRf rfl, gle hRl rfl⟩) ⟨gPreX_blind, fun U hU hW => ⟨rfl, hS.preX hK hN hX hA hU hW⟩⟩ rfl rfl hl.1 rfl (lv_room (Nat.le_of_ble_eq_true rfl)) dL_law_675 ⟨by omega, by omega⟩) hS hA (fun k9 o1 ad1 ln1 iv1 H locs hp1 hS => ?_)
    obtain ⟨ek, rfl, rfl, rfl, rfl⟩ := hp1
    refine gx_as (y := nI 1) ek ?_
    refine lv_istore (lv' := [(5, .int (nI 1)), (0, .ref b), (1, .ref (ad 0)), (2, .ref (ad 53)), (3, .ref (ad 67)), (4, .int (nI i))]) hx hb dL_law_678 hl (by decide) rfl (fun ls hl => ?_)
    refine lv_aload_n hx hb dL_law_680 rfl (lv_at hl 3 rfl) ?_
    refine lv_aload_n hx hb dL_law_681 rfl (lv_at hl 1 rfl) ?_
    refine lv_iload hx hb dL_law_682 (lv_at hl 5 rfl) ?_
    refine lv_iconst (v := nI 1) hx hb dL_law_684 (by decide) ?_
    refine lv_iadd hx hb dL_law_685 ?_
    refine gx_as (y := nI (i + 1)) (nI_add i 1) ?_
    refine va_sld hx hb hXs hbl hbA hS.2.2 (vp_in_nI (by omega) (by omega)) dL_law_686 ?_
    refine gx_as (y := x1) (by rw [nI_clamp (by omega)]; exact ex1) ?_
    refine gc_v (gx_runV (As := [.int x1]) (rest := []) ⟨hx, hb, hml, hown, hts⟩ hK hN hS 53 (by decide) rfl rfl (ct_X7_applyB l D cA o ad ln 68 H.size iv x1 (by decide) l1 (by rw [rr3]; exact hok)) (cwV 1 hts (atA_lV gL_law_X7_apply) rfl rfl rfl (by decide +kernel) ⟨gle hRf rfl, gle hRl rfl⟩) rfl rfl hl.1 rfl (lv_room (Nat.le_of_ble_eq_true rfl)) dL_law_687 ⟨by omega, by omega⟩) hS hA (fun iv2 H locs hp2 hS => ?_)
    have ev2 := hp2
    have hth : iv2 53 0 = nI 1 := by (rw [ev2, up2_s]) <;> rfl
    have hLI : LI P T mc sc ch G Ad Sg w t ln iv2 := by rw [ev2]; exact LI_th h 1
    refine lv_aload_n hx hb dL_law_690 rfl (lv_at hl 3 rfl) ?_
    refine gc_i (gx_runV (As := []) (rest := []) ⟨hx, hb, hml, hown, hts⟩ hK hN hS 53 (by decide) rfl rfl (ct_X7_thrown l D cA o ad ln 68 H.size iv2 (by decide) l1) (cwV 0 hts (atA_lV gL_law_X7_thrown) rfl rfl rfl (by decide +kernel) ⟨gle hRf rfl, gle hRl rfl⟩) rfl rfl hl.1 rfl (lv_room (Nat.le_of_ble_eq_true rfl)) dL_law_691 ⟨by omega, by omega⟩) hS hA (fun z9 iv9 H locs hp9 hS => ?_)
    obtain ⟨ez9, ev9⟩ := hp9
    rw [ev9] at hS
    refine gx_as (y := nI 1) (by rw [ez9]; exact hth) ?_
    refine lv_iload hx hb dL_law_694 (lv_at hl 0 rfl) ?_
    refine lv_icmp_eq (tgt := 701) hx hb dL_law_696 (by decide) (fun _ => ?_) (fun c9 => absurd rfl c9)
    refine lv_goto (tgt := 1147) hx hb dL_law_701 (by decide) ?_
    exact K _ _ _ _ _ _ _ _ _ P T mc sc ch G Ad Sg w t hLI (by omega) (by omega) hS (lv_sub hl [1, 2, 3, 4, 5] rfl)

set_option maxHeartbeats 4000000 in
set_option maxRecDepth 100000 in
theorem law_choose {p : Program} {l : Launch} {e : Env} {R : Room} {s : State} {m : MethodId} {below : List Frame} {meth : Method} {c : Code} {D : va_G} {cA : Nat → ClassId} {b L i : Nat} {xs : Nat → Int32} {Q : State → Prop} {o : Nat → Int64} {ad ln : Nat → Nat} {iv : Nat → Nat → Int32} {H : Heap} {locs : List Loc} {ls : Array Slot} {cells slots P T mc sc : Nat} {ch : Nat → Bool} {G Ad Sg : Nat → Nat → Nat} {w t : Nat → Nat} {x1 x2 : Int32} (X : LX p l R s m c D cA b L xs) (hi : i + 3 < L) (ex1 : xs (i + 1) = x1) (ex2 : xs (i + 2) = x2) (h : LI P T mc sc ch G Ad Sg w t ln iv) (hcb : cells ≤ 500 + uC P T ln + i) (hsb : slots ≤ 500000 + uS P T ln + 2 * i) (hS : gS D cA (fun q => s.heap.size ≤ q) s.heap o ad ln iv 68 H locs) (hl : lv_has ls 8 [(0, .ref b), (1, .ref (ad 0)), (2, .ref (ad 53)), (3, .ref (ad 67)), (4, .int (nI i))]) (K : LK p l e R s m below meth c D cA b i Q) : W p l e R s m #[.ref b] below meth c H locs cells slots Q (F0 m 403 ls []) := by
  obtain ⟨hx, hb, hml, hown, hts, hXs, hbl, hK, hN, hX, hst, hRf, hRl, hRc, hRs, hL⟩ := X
  have hA : ∀ q : Nat, s.heap.size ≤ q → (fun q : Nat => s.heap.size ≤ q) q := fun _ h => h
  have hbA : ¬ (fun q : Nat => s.heap.size ≤ q) b := Nat.not_le.mpr hbl
  obtain ⟨⟨c1, c2, c3, c4, c5, c6, c7, c8, c9, c10, c11, c12⟩, ⟨l1, l2, l3⟩, ⟨a1, a2, a3, a4, a5, a6, a7, a8, a9, a10, a11, a12⟩, m0, s0, ⟨n1, n2, n3, n4⟩, ⟨rr1, rr2, rr3, rr4, rr5, rr6, rr7, rr8, rr9, rr10⟩, t0, o0⟩ := id h
  have hcP : cnt ch P ≤ P := inj_le_P pcs_inj
  have hu1 := uC_le P T ln
  have hu2 := uS_le c2 c4 ln
  have hff := ff_1680 P (by omega) (cnt ch P) (by omega)
  have hpw := pw_le4 c4 c7
  have hS9 := Nat.mul_le_mul hff hpw
  by_cases hz : x2 = 0
  · skip
    by_cases hok : ok9 x1 (nI P)
    · skip
      obtain ⟨p9, hp9, rfl⟩ := ok9_of (by omega) hok
      obtain ⟨ch2, hch2⟩ : ∃ ch2 : Nat → Bool, ch2 = fun p => if p = p9 then false else ch p := ⟨_, rfl⟩
      have hc26 : ∀ p, p < P → up2 iv 26 p9 (nI 0) 26 p = if ch2 p then 1 else 0 := fun p hp => by
        rw [hch2, up2_eq]
        by_cases u : p = p9
        · rw [if_pos ⟨rfl, u⟩]; simp [u]; try rfl
        · rw [if_neg (fun z => u z.2), a12 p hp]; simp [u]
      have hc56 : ∀ p, p < P → up2 iv 56 p9 (nI 0) 56 p = if ch2 p then 1 else 0 := fun p hp => by
        rw [hch2, up2_eq]
        by_cases u : p = p9
        · rw [if_pos ⟨rfl, u⟩]; simp [u]; try rfl
        · rw [if_neg (fun z => u z.2), rr8 p hp]; simp [u]
      have hcc : ¬ iv 26 p9 = (nI 0) → ((nI 0) = (0 : Int32) ∨ cnt ch P < 4) → cnt ch2 P ≤ 4 := fun g1 g2 => by
        rw [a12 p9 hp9] at g1
        have hcn := cnt_ch2 (ch := ch) (P := P) (p9 := p9) (v := false) hch2
        have := hcn.2 rfl
        omega
      refine lv_aload_n hx hb dL_law_403 rfl (lv_at hl 1 rfl) ?_
      refine lv_aload_n hx hb dL_law_404 rfl (lv_at hl 0 rfl) ?_
      refine lv_iload hx hb dL_law_405 (lv_at hl 4 rfl) ?_
      refine lv_iconst (v := nI 1) hx hb dL_law_407 (by decide) ?_
      refine lv_iadd hx hb dL_law_408 ?_
      refine gx_as (y := nI (i + 1)) (nI_add i 1) ?_
      refine va_sld hx hb hXs hbl hbA hS.2.2 (vp_in_nI (by omega) (by omega)) dL_law_409 ?_
      refine gx_as (y := nI p9) (by rw [nI_clamp (by omega)]; exact ex1) ?_
      refine lv_aload_n hx hb dL_law_410 rfl (lv_at hl 0 rfl) ?_
      refine lv_iload hx hb dL_law_411 (lv_at hl 4 rfl) ?_
      refine lv_iconst (v := nI 2) hx hb dL_law_413 (by decide) ?_
      refine lv_iadd hx hb dL_law_414 ?_
      refine gx_as (y := nI (i + 2)) (nI_add i 2) ?_
      refine va_sld hx hb hXs hbl hbA hS.2.2 (vp_in_nI (by omega) (by omega)) dL_law_415 ?_
      refine gx_as (y := x2) (by rw [nI_clamp (by omega)]; exact ex2) ?_
      refine lv_if_eq (tgt := 423) hx hb dL_law_416 (by decide) (fun _ => ?_) (fun c9 => absurd hz c9)
      refine lv_iconst (v := nI 0) hx hb dL_law_423 (by decide) ?_
      refine lv_aload_n hx hb dL_law_424 rfl (lv_at hl 3 rfl) ?_
      refine gc_oxM (hk_L_choose l D cA o ad ln 68 H.size iv (nI p9) (nI 0) (rm := { frames := 2, cells := 0, slots := 0, locals := 43 }) (mc := 0) (ms := 0) (by decide) rfl rfl (by decide) (by decide) (gMi_x (ct_X6_choose l D cA o ad ln 68 H.size iv p9 P T (cnt ch P) (nI 0) ch2 (by decide) l1 l2 c2 a1 a5 a6 c4 hp9 (by decide) a11 a7 c7 hc26 hcc)) (fun r ad' ln' iv' q => ⟨q.2.2.1, by rw [q.1]⟩)) (fun hM => vx_runSW (As := [.ref (ad 0), .int (nI p9), .int (nI 0), .ref (ad 67)]) (rest := []) ⟨hx, hb, hml, hown, hts⟩ hM (vx_cwSW 4 hts (atA_lV gL_law_L_choose) rfl rfl rfl (by decide +kernel) ⟨gle hRf rfl, gle hRl rfl⟩) ⟨gPre_blind, fun U hU hW => ⟨rfl, hS.pre hK hN hU hW⟩⟩ rfl rfl hl.1 rfl (lv_room (Nat.le_of_ble_eq_true rfl)) dL_law_425 ⟨by omega, by omega⟩) hS hA (fun k9 o1 ad1 ln1 iv1 H locs hp1 hS => ?_)
      obtain ⟨ek, v1, ⟨rfl, rfl, hq⟩, eo⟩ := hp1
      obtain ⟨h01, hq⟩ := hq
      have ek9 : ∀ q, q ≠ 25 → q ≠ 26 → q ≠ 27 → q ≠ 30 → q ≠ 31 → q ≠ 46 → q ≠ 49 → iv1 q = iv q := fun q z1 z2 z3 z4 z5 z6 z7 => by
        by_cases q9 : iv 26 p9 = (nI 0) ∨ (¬ (nI 0) = (0 : Int32) ∧ 4 ≤ cnt ch P)
        · rw [if_pos q9] at hq; rw [hq.2]
        · rw [if_neg q9] at hq; exact hq.2.2.2.2.2.2.2.2 q z1 z2 z3 z4 z5 z6 z7
      have k53 : iv1 53 = iv 53 := ek9 53 (by decide) (by decide) (by decide) (by decide) (by decide) (by decide) (by decide)
      have k56 : iv1 56 = iv 56 := ek9 56 (by decide) (by decide) (by decide) (by decide) (by decide) (by decide) (by decide)
      have hsame : iv 56 p9 = iv 26 p9 := by rw [rr8 p9 hp9, a12 p9 hp9]
      refine gx_as (y := nI 0) ek ?_
      refine lv_istore (lv' := [(5, .int (nI 0)), (0, .ref b), (1, .ref (ad 0)), (2, .ref (ad 53)), (3, .ref (ad 67)), (4, .int (nI i))]) hx hb dL_law_428 hl (by decide) rfl (fun ls hl => ?_)
      refine lv_aload_n hx hb dL_law_430 rfl (lv_at hl 3 rfl) ?_
      refine lv_aload_n hx hb dL_law_431 rfl (lv_at hl 1 rfl) ?_
      refine lv_iload hx hb dL_law_432 (lv_at hl 5 rfl) ?_
      refine lv_iconst (v := nI 1) hx hb dL_law_434 (by decide) ?_
      refine lv_iadd hx hb dL_law_435 ?_
      refine gx_as (y := nI (i + 1)) (nI_add i 1) ?_
      refine va_sld hx hb hXs hbl hbA hS.2.2 (vp_in_nI (by omega) (by omega)) dL_law_436 ?_
      refine gx_as (y := nI p9) (by rw [nI_clamp (by omega)]; exact ex1) ?_
      refine lv_aload_n hx hb dL_law_437 rfl (lv_at hl 1 rfl) ?_
      refine lv_iload hx hb dL_law_438 (lv_at hl 5 rfl) ?_
      refine lv_iconst (v := nI 2) hx hb dL_law_440 (by decide) ?_
      refine lv_iadd hx hb dL_law_441 ?_
      refine gx_as (y := nI (i + 2)) (nI_add i 2) ?_
      refine va_sld hx hb hXs hbl hbA hS.2.2 (vp_in_nI (by omega) (by omega)) dL_law_442 ?_
      refine gx_as (y := x2) (by rw [nI_clamp (by omega)]; exact ex2) ?_
      refine lv_if_eq (tgt := 450) hx hb dL_law_443 (by decide) (fun _ => ?_) (fun c9 => absurd hz c9)
      refine lv_iconst (v := nI 0) hx hb dL_law_450 (by decide) ?_
      refine gc_i (gx_runV (As := [.int (nI p9), .int (nI 0)]) (rest := []) ⟨hx, hb, hml, hown, hts⟩ hK hN hS 53 (by decide) rfl rfl (ct_X7_choose l D cA o1 ad ln 68 H.size iv1 p9 P T (cnt ch P) (nI 0) ch2 (by decide) l1 l3 (by rw [k53]; exact rr4) c7 (by rw [k53]; exact rr2) c3 c4 (by rw [k53]; exact rr1) c2 hp9 (by decide) (fun p hp => by rw [← hc56 p hp, up2_eq, up2_eq, k56]) (fun g1 g2 => hcc (by rw [← hsame, ← k56]; exact g1) (g2.elim Or.inl (fun u => Or.inr (by omega))))) (cwV 2 hts (atA_lV gL_law_X7_choose) rfl rfl rfl (by decide +kernel) ⟨gle hRf rfl, gle hRl rfl⟩) rfl rfl hl.1 rfl (lv_room (Nat.le_of_ble_eq_true rfl)) dL_law_451 ⟨by omega, by omega⟩) hS hA (fun r2 iv2 H locs hp2 hS => ?_)
      obtain ⟨h02, hp2⟩ := hp2
      obtain ⟨hreq, hth, ch3, w3, t3, hLI⟩ : v1 = r2 ∧ iv2 53 0 = nI 0 ∧ ∃ ch3 w3 t3, LI P T mc sc ch3 G Ad Sg w3 t3 ln iv2 := by
        rw [k56, hsame] at hp2
        by_cases q9 : iv 26 p9 = (nI 0) ∨ (¬ (nI 0) = (0 : Int32) ∧ 4 ≤ cnt ch P)
        · have q8 : iv 26 p9 = (nI 0) ∨ (¬ (nI 0) = (0 : Int32) ∧ cnt ch P = 4) := q9.elim Or.inl (fun u => Or.inr ⟨u.1, by omega⟩)
          rw [if_pos q9] at hq
          rw [if_pos q8] at hp2
          refine ⟨by rw [hq.1, hp2.1], by rw [hp2.2, up2_s]; rfl, ch, w, t, ?_⟩
          rw [hp2.2, hq.2]
          exact LI_th h 0
        · have q8 : ¬ (iv 26 p9 = (nI 0) ∨ (¬ (nI 0) = (0 : Int32) ∧ cnt ch P = 4)) := fun u => q9 (u.elim Or.inl (fun u => Or.inr ⟨u.1, by omega⟩))
          rw [if_neg q9] at hq
          rw [if_neg q8] at hp2
          obtain ⟨e1, e2, e3, e4, e5, ⟨e6, _⟩, ⟨e7, _⟩, e8, e9⟩ := hq
          obtain ⟨f1, f2, ⟨f3, f4, f5, f6⟩, f7, f8, f9⟩ := hp2
          have hc4 : cnt ch2 P ≤ 4 := hcc (fun u => q9 (Or.inl u)) (by
            by_cases u : (nI 0) = (0 : Int32)
            · exact Or.inl u
            · exact Or.inr (by
                rcases Nat.lt_or_ge (cnt ch P) 4 with v9 | v9
                · exact v9
                · exact absurd (Or.inr ⟨u, v9⟩) q9))
          refine ⟨by rw [e1, f1], by rw [f3]; rfl, ch2, _, _, LI_ch (kv := iv1) h hc4 (fun p hp => by rw [e2, hc26 p hp]) (fun j => ?_) e3 e4 e5 e6 e7 e8 e9 (fun p hp => by rw [f2, ← hc56 p hp, up2_eq, up2_eq, k56]) ⟨f4, f5, f6⟩ f7 f8 f9⟩
          rw [e2, up2_eq]
          by_cases u : j = p9
          · rw [if_pos ⟨rfl, u⟩]; exact Or.inl rfl
          · rw [if_neg (fun z => u z.2)]; exact a11 j
      rcases h02 with e2 | e2
      · skip
        refine lv_istore (lv' := [(6, .int r2), (5, .int (nI 0)), (0, .ref b), (1, .ref (ad 0)), (2, .ref (ad 53)), (3, .ref (ad 67)), (4, .int (nI i))]) hx hb dL_law_454 hl (by decide) rfl (fun ls hl => ?_)
        refine lv_aload_n hx hb dL_law_456 rfl (lv_at hl 4 rfl) ?_
        refine gc_i (gx_runV (As := []) (rest := []) ⟨hx, hb, hml, hown, hts⟩ hK hN hS 53 (by decide) rfl rfl (ct_X7_thrown l D cA o1 ad ln 68 H.size iv2 (by decide) l1) (cwV 0 hts (atA_lV gL_law_X7_thrown) rfl rfl rfl (by decide +kernel) ⟨gle hRf rfl, gle hRl rfl⟩) rfl rfl hl.1 rfl (lv_room (Nat.le_of_ble_eq_true rfl)) dL_law_457 ⟨by omega, by omega⟩) hS hA (fun z9 iv9 H locs hp9 hS => ?_)
        obtain ⟨ez9, ev9⟩ := hp9
        rw [ev9] at hS
        refine gx_as (y := nI 0) (by rw [ez9]; exact hth) ?_
        refine lv_iload hx hb dL_law_460 (lv_at hl 1 rfl) ?_
        refine lv_icmp_eq (tgt := 467) hx hb dL_law_462 (by decide) (fun _ => ?_) (fun c9 => absurd rfl c9)
        refine lv_iload hx hb dL_law_467 (lv_at hl 1 rfl) ?_
        refine lv_if_ne (tgt := 491) hx hb dL_law_469 (by decide) (fun c9 => absurd (by decide) c9) (fun _ => ?_)
        refine lv_aload_n hx hb dL_law_472 rfl (lv_at hl 5 rfl) ?_
        refine lv_iconst (v := nI 0) hx hb dL_law_473 (by decide) ?_
        refine gx_lald hx hb hK hS (by decide) dL_law_474 ?_
        refine gx_asl (y := Int32.toInt64 v1) (by rw [eo, va_up_self]) ?_
        refine lv_iload hx hb dL_law_475 (lv_at hl 0 rfl) ?_
        refine lv_if_eq (tgt := 484) hx hb dL_law_477 (by decide) (fun _ => ?_) (fun c9 => absurd e2 c9)
        refine lv_lconst (v := 0) hx hb dL_law_484 (by decide) ?_
        refine W.lcmp hx hb dL_law_485 ?_
        refine gx_as (y := 0) (by rw [hreq, e2]; rfl) ?_
        refine lv_if_eq (tgt := 491) hx hb dL_law_486 (by decide) (fun _ => ?_) (fun c9 => absurd (by decide) c9)
        refine lv_goto (tgt := 1147) hx hb dL_law_491 (by decide) ?_
        exact K _ _ _ _ _ _ _ _ _ P T mc sc ch3 G Ad Sg w3 t3 hLI (by omega) (by omega) hS (lv_sub hl [2, 3, 4, 5, 6] rfl)
      · skip
        refine lv_istore (lv' := [(6, .int r2), (5, .int (nI 0)), (0, .ref b), (1, .ref (ad 0)), (2, .ref (ad 53)), (3, .ref (ad 67)), (4, .int (nI i))]) hx hb dL_law_454 hl (by decide) rfl (fun ls hl => ?_)
        refine lv_aload_n hx hb dL_law_456 rfl (lv_at hl 4 rfl) ?_
        refine gc_i (gx_runV (As := []) (rest := []) ⟨hx, hb, hml, hown, hts⟩ hK hN hS 53 (by decide) rfl rfl (ct_X7_thrown l D cA o1 ad ln 68 H.size iv2 (by decide) l1) (cwV 0 hts (atA_lV gL_law_X7_thrown) rfl rfl rfl (by decide +kernel) ⟨gle hRf rfl, gle hRl rfl⟩) rfl rfl hl.1 rfl (lv_room (Nat.le_of_ble_eq_true rfl)) dL_law_457 ⟨by omega, by omega⟩) hS hA (fun z9 iv9 H locs hp9 hS => ?_)
        obtain ⟨ez9, ev9⟩ := hp9
        rw [ev9] at hS
        refine gx_as (y := nI 0) (by rw [ez9]; exact hth) ?_
        refine lv_iload hx hb dL_law_460 (lv_at hl 1 rfl) ?_
        refine lv_icmp_eq (tgt := 467) hx hb dL_law_462 (by decide) (fun _ => ?_) (fun c9 => absurd rfl c9)
        refine lv_iload hx hb dL_law_467 (lv_at hl 1 rfl) ?_
        refine lv_if_ne (tgt := 491) hx hb dL_law_469 (by decide) (fun c9 => absurd (by decide) c9) (fun _ => ?_)
        refine lv_aload_n hx hb dL_law_472 rfl (lv_at hl 5 rfl) ?_
        refine lv_iconst (v := nI 0) hx hb dL_law_473 (by decide) ?_
        refine gx_lald hx hb hK hS (by decide) dL_law_474 ?_
        refine gx_asl (y := Int32.toInt64 v1) (by rw [eo, va_up_self]) ?_
        refine lv_iload hx hb dL_law_475 (lv_at hl 0 rfl) ?_
        refine lv_if_eq (tgt := 484) hx hb dL_law_477 (by decide) (fun c9 => absurd c9 (by rw [e2]; decide)) (fun _ => ?_)
        refine lv_lconst (v := 1) hx hb dL_law_480 (by decide) ?_
        refine lv_goto (tgt := 485) hx hb dL_law_481 (by decide) ?_
        refine W.lcmp hx hb dL_law_485 ?_
        refine gx_as (y := 0) (by rw [hreq, e2]; rfl) ?_
        refine lv_if_eq (tgt := 491) hx hb dL_law_486 (by decide) (fun _ => ?_) (fun c9 => absurd (by decide) c9)
        refine lv_goto (tgt := 1147) hx hb dL_law_491 (by decide) ?_
        exact K _ _ _ _ _ _ _ _ _ P T mc sc ch3 G Ad Sg w3 t3 hLI (by omega) (by omega) hS (lv_sub hl [2, 3, 4, 5, 6] rfl)
    · skip
      refine lv_aload_n hx hb dL_law_403 rfl (lv_at hl 1 rfl) ?_
      refine lv_aload_n hx hb dL_law_404 rfl (lv_at hl 0 rfl) ?_
      refine lv_iload hx hb dL_law_405 (lv_at hl 4 rfl) ?_
      refine lv_iconst (v := nI 1) hx hb dL_law_407 (by decide) ?_
      refine lv_iadd hx hb dL_law_408 ?_
      refine gx_as (y := nI (i + 1)) (nI_add i 1) ?_
      refine va_sld hx hb hXs hbl hbA hS.2.2 (vp_in_nI (by omega) (by omega)) dL_law_409 ?_
      refine gx_as (y := x1) (by rw [nI_clamp (by omega)]; exact ex1) ?_
      refine lv_aload_n hx hb dL_law_410 rfl (lv_at hl 0 rfl) ?_
      refine lv_iload hx hb dL_law_411 (lv_at hl 4 rfl) ?_
      refine lv_iconst (v := nI 2) hx hb dL_law_413 (by decide) ?_
      refine lv_iadd hx hb dL_law_414 ?_
      refine gx_as (y := nI (i + 2)) (nI_add i 2) ?_
      refine va_sld hx hb hXs hbl hbA hS.2.2 (vp_in_nI (by omega) (by omega)) dL_law_415 ?_
      refine gx_as (y := x2) (by rw [nI_clamp (by omega)]; exact ex2) ?_
      refine lv_if_eq (tgt := 423) hx hb dL_law_416 (by decide) (fun _ => ?_) (fun c9 => absurd hz c9)
      refine lv_iconst (v := nI 0) hx hb dL_law_423 (by decide) ?_
      refine lv_aload_n hx hb dL_law_424 rfl (lv_at hl 3 rfl) ?_
      refine gc_oxM (hx_L_choose l D cA o ad ln 68 H.size iv x1 (nI 0) (by decide) (cx_X6_chooseT l hst D cA o ad ln 68 H.size iv x1 (nI 0) P (by decide) l1 a1 (ok9_no hok))) (fun hM => vx_runSW (As := [.ref (ad 0), .int x1, .int (nI 0), .ref (ad 67)]) (rest := []) ⟨hx, hb, hml, hown, hts⟩ hM (vx_cwSW 4 hts (atA_in gL_law_L_choose) rfl rfl rfl (by decide +kernel) ⟨gle hRf rfl, gle hRl rfl⟩) ⟨gPreX_blind, fun U hU hW => ⟨rfl, hS.preX hK hN hX hA hU hW⟩⟩ rfl rfl hl.1 rfl (lv_room (Nat.le_of_ble_eq_true rfl)) dL_law_425 ⟨by omega, by omega⟩) hS hA (fun k9 o1 ad1 ln1 iv1 H locs hp1 hS => ?_)
      obtain ⟨ek, rfl, rfl, rfl, rfl⟩ := hp1
      refine gx_as (y := nI 1) ek ?_
      refine lv_istore (lv' := [(5, .int (nI 1)), (0, .ref b), (1, .ref (ad 0)), (2, .ref (ad 53)), (3, .ref (ad 67)), (4, .int (nI i))]) hx hb dL_law_428 hl (by decide) rfl (fun ls hl => ?_)
      refine lv_aload_n hx hb dL_law_430 rfl (lv_at hl 3 rfl) ?_
      refine lv_aload_n hx hb dL_law_431 rfl (lv_at hl 1 rfl) ?_
      refine lv_iload hx hb dL_law_432 (lv_at hl 5 rfl) ?_
      refine lv_iconst (v := nI 1) hx hb dL_law_434 (by decide) ?_
      refine lv_iadd hx hb dL_law_435 ?_
      refine gx_as (y := nI (i + 1)) (nI_add i 1) ?_
      refine va_sld hx hb hXs hbl hbA hS.2.2 (vp_in_nI (by omega) (by omega)) dL_law_436 ?_
      refine gx_as (y := x1) (by rw [nI_clamp (by omega)]; exact ex1) ?_
      refine lv_aload_n hx hb dL_law_437 rfl (lv_at hl 1 rfl) ?_
      refine lv_iload hx hb dL_law_438 (lv_at hl 5 rfl) ?_
      refine lv_iconst (v := nI 2) hx hb dL_law_440 (by decide) ?_
      refine lv_iadd hx hb dL_law_441 ?_
      refine gx_as (y := nI (i + 2)) (nI_add i 2) ?_
      refine va_sld hx hb hXs hbl hbA hS.2.2 (vp_in_nI (by omega) (by omega)) dL_law_442 ?_
      refine gx_as (y := x2) (by rw [nI_clamp (by omega)]; exact ex2) ?_
      refine lv_if_eq (tgt := 450) hx hb dL_law_443 (by decide) (fun _ => ?_) (fun c9 => absurd hz c9)
      refine lv_iconst (v := nI 0) hx hb dL_law_450 (by decide) ?_
      refine gc_i (gx_runV (As := [.int x1, .int (nI 0)]) (rest := []) ⟨hx, hb, hml, hown, hts⟩ hK hN hS 53 (by decide) rfl rfl (ct_X7_chooseB l D cA o ad ln 68 H.size iv x1 (nI 0) (by decide) l1 (by rw [rr1]; exact hok)) (cwV 2 hts (atA_lV gL_law_X7_choose) rfl rfl rfl (by decide +kernel) ⟨gle hRf rfl, gle hRl rfl⟩) rfl rfl hl.1 rfl (lv_room (Nat.le_of_ble_eq_true rfl)) dL_law_451 ⟨by omega, by omega⟩) hS hA (fun r2 iv2 H locs hp2 hS => ?_)
      obtain ⟨_, _, ev2⟩ := hp2
      have hth : iv2 53 0 = nI 1 := by (rw [ev2, up2_s]) <;> rfl
      have hLI : LI P T mc sc ch G Ad Sg w t ln iv2 := by rw [ev2]; exact LI_th h 1
      refine lv_istore (lv' := [(6, .int r2), (5, .int (nI 1)), (0, .ref b), (1, .ref (ad 0)), (2, .ref (ad 53)), (3, .ref (ad 67)), (4, .int (nI i))]) hx hb dL_law_454 hl (by decide) rfl (fun ls hl => ?_)
      refine lv_aload_n hx hb dL_law_456 rfl (lv_at hl 4 rfl) ?_
      refine gc_i (gx_runV (As := []) (rest := []) ⟨hx, hb, hml, hown, hts⟩ hK hN hS 53 (by decide) rfl rfl (ct_X7_thrown l D cA o ad ln 68 H.size iv2 (by decide) l1) (cwV 0 hts (atA_lV gL_law_X7_thrown) rfl rfl rfl (by decide +kernel) ⟨gle hRf rfl, gle hRl rfl⟩) rfl rfl hl.1 rfl (lv_room (Nat.le_of_ble_eq_true rfl)) dL_law_457 ⟨by omega, by omega⟩) hS hA (fun z9 iv9 H locs hp9 hS => ?_)
      obtain ⟨ez9, ev9⟩ := hp9
      rw [ev9] at hS
      refine gx_as (y := nI 1) (by rw [ez9]; exact hth) ?_
      refine lv_iload hx hb dL_law_460 (lv_at hl 1 rfl) ?_
      refine lv_icmp_eq (tgt := 467) hx hb dL_law_462 (by decide) (fun _ => ?_) (fun c9 => absurd rfl c9)
      refine lv_iload hx hb dL_law_467 (lv_at hl 1 rfl) ?_
      refine lv_if_ne (tgt := 491) hx hb dL_law_469 (by decide) (fun _ => ?_) (fun c9 => absurd c9 (by decide))
      refine lv_goto (tgt := 1147) hx hb dL_law_491 (by decide) ?_
      exact K _ _ _ _ _ _ _ _ _ P T mc sc ch G Ad Sg w t hLI (by omega) (by omega) hS (lv_sub hl [2, 3, 4, 5, 6] rfl)
  · skip
    by_cases hok : ok9 x1 (nI P)
    · skip
      obtain ⟨p9, hp9, rfl⟩ := ok9_of (by omega) hok
      obtain ⟨ch2, hch2⟩ : ∃ ch2 : Nat → Bool, ch2 = fun p => if p = p9 then true else ch p := ⟨_, rfl⟩
      have hc26 : ∀ p, p < P → up2 iv 26 p9 (nI 1) 26 p = if ch2 p then 1 else 0 := fun p hp => by
        rw [hch2, up2_eq]
        by_cases u : p = p9
        · rw [if_pos ⟨rfl, u⟩]; simp [u]; try rfl
        · rw [if_neg (fun z => u z.2), a12 p hp]; simp [u]
      have hc56 : ∀ p, p < P → up2 iv 56 p9 (nI 1) 56 p = if ch2 p then 1 else 0 := fun p hp => by
        rw [hch2, up2_eq]
        by_cases u : p = p9
        · rw [if_pos ⟨rfl, u⟩]; simp [u]; try rfl
        · rw [if_neg (fun z => u z.2), rr8 p hp]; simp [u]
      have hcc : ¬ iv 26 p9 = (nI 1) → ((nI 1) = (0 : Int32) ∨ cnt ch P < 4) → cnt ch2 P ≤ 4 := fun g1 g2 => by
        rw [a12 p9 hp9] at g1
        have hcn := cnt_ch2 (ch := ch) (P := P) (p9 := p9) (v := true) hch2
        rcases g2 with g2 | g2
        · exact absurd g2 (by decide)
        · omega
      refine lv_aload_n hx hb dL_law_403 rfl (lv_at hl 1 rfl) ?_
      refine lv_aload_n hx hb dL_law_404 rfl (lv_at hl 0 rfl) ?_
      refine lv_iload hx hb dL_law_405 (lv_at hl 4 rfl) ?_
      refine lv_iconst (v := nI 1) hx hb dL_law_407 (by decide) ?_
      refine lv_iadd hx hb dL_law_408 ?_
      refine gx_as (y := nI (i + 1)) (nI_add i 1) ?_
      refine va_sld hx hb hXs hbl hbA hS.2.2 (vp_in_nI (by omega) (by omega)) dL_law_409 ?_
      refine gx_as (y := nI p9) (by rw [nI_clamp (by omega)]; exact ex1) ?_
      refine lv_aload_n hx hb dL_law_410 rfl (lv_at hl 0 rfl) ?_
      refine lv_iload hx hb dL_law_411 (lv_at hl 4 rfl) ?_
      refine lv_iconst (v := nI 2) hx hb dL_law_413 (by decide) ?_
      refine lv_iadd hx hb dL_law_414 ?_
      refine gx_as (y := nI (i + 2)) (nI_add i 2) ?_
      refine va_sld hx hb hXs hbl hbA hS.2.2 (vp_in_nI (by omega) (by omega)) dL_law_415 ?_
      refine gx_as (y := x2) (by rw [nI_clamp (by omega)]; exact ex2) ?_
      refine lv_if_eq (tgt := 423) hx hb dL_law_416 (by decide) (fun c9 => absurd c9 hz) (fun _ => ?_)
      refine lv_iconst (v := nI 1) hx hb dL_law_419 (by decide) ?_
      refine lv_goto (tgt := 424) hx hb dL_law_420 (by decide) ?_
      refine lv_aload_n hx hb dL_law_424 rfl (lv_at hl 3 rfl) ?_
      refine gc_oxM (hk_L_choose l D cA o ad ln 68 H.size iv (nI p9) (nI 1) (rm := { frames := 2, cells := 0, slots := 0, locals := 43 }) (mc := 0) (ms := 0) (by decide) rfl rfl (by decide) (by decide) (gMi_x (ct_X6_choose l D cA o ad ln 68 H.size iv p9 P T (cnt ch P) (nI 1) ch2 (by decide) l1 l2 c2 a1 a5 a6 c4 hp9 (by decide) a11 a7 c7 hc26 hcc)) (fun r ad' ln' iv' q => ⟨q.2.2.1, by rw [q.1]⟩)) (fun hM => vx_runSW (As := [.ref (ad 0), .int (nI p9), .int (nI 1), .ref (ad 67)]) (rest := []) ⟨hx, hb, hml, hown, hts⟩ hM (vx_cwSW 4 hts (atA_lV gL_law_L_choose) rfl rfl rfl (by decide +kernel) ⟨gle hRf rfl, gle hRl rfl⟩) ⟨gPre_blind, fun U hU hW => ⟨rfl, hS.pre hK hN hU hW⟩⟩ rfl rfl hl.1 rfl (lv_room (Nat.le_of_ble_eq_true rfl)) dL_law_425 ⟨by omega, by omega⟩) hS hA (fun k9 o1 ad1 ln1 iv1 H locs hp1 hS => ?_)
      obtain ⟨ek, v1, ⟨rfl, rfl, hq⟩, eo⟩ := hp1
      obtain ⟨h01, hq⟩ := hq
      have ek9 : ∀ q, q ≠ 25 → q ≠ 26 → q ≠ 27 → q ≠ 30 → q ≠ 31 → q ≠ 46 → q ≠ 49 → iv1 q = iv q := fun q z1 z2 z3 z4 z5 z6 z7 => by
        by_cases q9 : iv 26 p9 = (nI 1) ∨ (¬ (nI 1) = (0 : Int32) ∧ 4 ≤ cnt ch P)
        · rw [if_pos q9] at hq; rw [hq.2]
        · rw [if_neg q9] at hq; exact hq.2.2.2.2.2.2.2.2 q z1 z2 z3 z4 z5 z6 z7
      have k53 : iv1 53 = iv 53 := ek9 53 (by decide) (by decide) (by decide) (by decide) (by decide) (by decide) (by decide)
      have k56 : iv1 56 = iv 56 := ek9 56 (by decide) (by decide) (by decide) (by decide) (by decide) (by decide) (by decide)
      have hsame : iv 56 p9 = iv 26 p9 := by rw [rr8 p9 hp9, a12 p9 hp9]
      refine gx_as (y := nI 0) ek ?_
      refine lv_istore (lv' := [(5, .int (nI 0)), (0, .ref b), (1, .ref (ad 0)), (2, .ref (ad 53)), (3, .ref (ad 67)), (4, .int (nI i))]) hx hb dL_law_428 hl (by decide) rfl (fun ls hl => ?_)
      refine lv_aload_n hx hb dL_law_430 rfl (lv_at hl 3 rfl) ?_
      refine lv_aload_n hx hb dL_law_431 rfl (lv_at hl 1 rfl) ?_
      refine lv_iload hx hb dL_law_432 (lv_at hl 5 rfl) ?_
      refine lv_iconst (v := nI 1) hx hb dL_law_434 (by decide) ?_
      refine lv_iadd hx hb dL_law_435 ?_
      refine gx_as (y := nI (i + 1)) (nI_add i 1) ?_
      refine va_sld hx hb hXs hbl hbA hS.2.2 (vp_in_nI (by omega) (by omega)) dL_law_436 ?_
      refine gx_as (y := nI p9) (by rw [nI_clamp (by omega)]; exact ex1) ?_
      refine lv_aload_n hx hb dL_law_437 rfl (lv_at hl 1 rfl) ?_
      refine lv_iload hx hb dL_law_438 (lv_at hl 5 rfl) ?_
      refine lv_iconst (v := nI 2) hx hb dL_law_440 (by decide) ?_
      refine lv_iadd hx hb dL_law_441 ?_
      refine gx_as (y := nI (i + 2)) (nI_add i 2) ?_
      refine va_sld hx hb hXs hbl hbA hS.2.2 (vp_in_nI (by omega) (by omega)) dL_law_442 ?_
      refine gx_as (y := x2) (by rw [nI_clamp (by omega)]; exact ex2) ?_
      refine lv_if_eq (tgt := 450) hx hb dL_law_443 (by decide) (fun c9 => absurd c9 hz) (fun _ => ?_)
      refine lv_iconst (v := nI 1) hx hb dL_law_446 (by decide) ?_
      refine lv_goto (tgt := 451) hx hb dL_law_447 (by decide) ?_
      refine gc_i (gx_runV (As := [.int (nI p9), .int (nI 1)]) (rest := []) ⟨hx, hb, hml, hown, hts⟩ hK hN hS 53 (by decide) rfl rfl (ct_X7_choose l D cA o1 ad ln 68 H.size iv1 p9 P T (cnt ch P) (nI 1) ch2 (by decide) l1 l3 (by rw [k53]; exact rr4) c7 (by rw [k53]; exact rr2) c3 c4 (by rw [k53]; exact rr1) c2 hp9 (by decide) (fun p hp => by rw [← hc56 p hp, up2_eq, up2_eq, k56]) (fun g1 g2 => hcc (by rw [← hsame, ← k56]; exact g1) (g2.elim Or.inl (fun u => Or.inr (by omega))))) (cwV 2 hts (atA_lV gL_law_X7_choose) rfl rfl rfl (by decide +kernel) ⟨gle hRf rfl, gle hRl rfl⟩) rfl rfl hl.1 rfl (lv_room (Nat.le_of_ble_eq_true rfl)) dL_law_451 ⟨by omega, by omega⟩) hS hA (fun r2 iv2 H locs hp2 hS => ?_)
      obtain ⟨h02, hp2⟩ := hp2
      obtain ⟨hreq, hth, ch3, w3, t3, hLI⟩ : v1 = r2 ∧ iv2 53 0 = nI 0 ∧ ∃ ch3 w3 t3, LI P T mc sc ch3 G Ad Sg w3 t3 ln iv2 := by
        rw [k56, hsame] at hp2
        by_cases q9 : iv 26 p9 = (nI 1) ∨ (¬ (nI 1) = (0 : Int32) ∧ 4 ≤ cnt ch P)
        · have q8 : iv 26 p9 = (nI 1) ∨ (¬ (nI 1) = (0 : Int32) ∧ cnt ch P = 4) := q9.elim Or.inl (fun u => Or.inr ⟨u.1, by omega⟩)
          rw [if_pos q9] at hq
          rw [if_pos q8] at hp2
          refine ⟨by rw [hq.1, hp2.1], by rw [hp2.2, up2_s]; rfl, ch, w, t, ?_⟩
          rw [hp2.2, hq.2]
          exact LI_th h 0
        · have q8 : ¬ (iv 26 p9 = (nI 1) ∨ (¬ (nI 1) = (0 : Int32) ∧ cnt ch P = 4)) := fun u => q9 (u.elim Or.inl (fun u => Or.inr ⟨u.1, by omega⟩))
          rw [if_neg q9] at hq
          rw [if_neg q8] at hp2
          obtain ⟨e1, e2, e3, e4, e5, ⟨e6, _⟩, ⟨e7, _⟩, e8, e9⟩ := hq
          obtain ⟨f1, f2, ⟨f3, f4, f5, f6⟩, f7, f8, f9⟩ := hp2
          have hc4 : cnt ch2 P ≤ 4 := hcc (fun u => q9 (Or.inl u)) (by
            by_cases u : (nI 1) = (0 : Int32)
            · exact Or.inl u
            · exact Or.inr (by
                rcases Nat.lt_or_ge (cnt ch P) 4 with v9 | v9
                · exact v9
                · exact absurd (Or.inr ⟨u, v9⟩) q9))
          refine ⟨by rw [e1, f1], by rw [f3]; rfl, ch2, _, _, LI_ch (kv := iv1) h hc4 (fun p hp => by rw [e2, hc26 p hp]) (fun j => ?_) e3 e4 e5 e6 e7 e8 e9 (fun p hp => by rw [f2, ← hc56 p hp, up2_eq, up2_eq, k56]) ⟨f4, f5, f6⟩ f7 f8 f9⟩
          rw [e2, up2_eq]
          by_cases u : j = p9
          · rw [if_pos ⟨rfl, u⟩]; exact Or.inr rfl
          · rw [if_neg (fun z => u z.2)]; exact a11 j
      rcases h02 with e2 | e2
      · skip
        refine lv_istore (lv' := [(6, .int r2), (5, .int (nI 0)), (0, .ref b), (1, .ref (ad 0)), (2, .ref (ad 53)), (3, .ref (ad 67)), (4, .int (nI i))]) hx hb dL_law_454 hl (by decide) rfl (fun ls hl => ?_)
        refine lv_aload_n hx hb dL_law_456 rfl (lv_at hl 4 rfl) ?_
        refine gc_i (gx_runV (As := []) (rest := []) ⟨hx, hb, hml, hown, hts⟩ hK hN hS 53 (by decide) rfl rfl (ct_X7_thrown l D cA o1 ad ln 68 H.size iv2 (by decide) l1) (cwV 0 hts (atA_lV gL_law_X7_thrown) rfl rfl rfl (by decide +kernel) ⟨gle hRf rfl, gle hRl rfl⟩) rfl rfl hl.1 rfl (lv_room (Nat.le_of_ble_eq_true rfl)) dL_law_457 ⟨by omega, by omega⟩) hS hA (fun z9 iv9 H locs hp9 hS => ?_)
        obtain ⟨ez9, ev9⟩ := hp9
        rw [ev9] at hS
        refine gx_as (y := nI 0) (by rw [ez9]; exact hth) ?_
        refine lv_iload hx hb dL_law_460 (lv_at hl 1 rfl) ?_
        refine lv_icmp_eq (tgt := 467) hx hb dL_law_462 (by decide) (fun _ => ?_) (fun c9 => absurd rfl c9)
        refine lv_iload hx hb dL_law_467 (lv_at hl 1 rfl) ?_
        refine lv_if_ne (tgt := 491) hx hb dL_law_469 (by decide) (fun c9 => absurd (by decide) c9) (fun _ => ?_)
        refine lv_aload_n hx hb dL_law_472 rfl (lv_at hl 5 rfl) ?_
        refine lv_iconst (v := nI 0) hx hb dL_law_473 (by decide) ?_
        refine gx_lald hx hb hK hS (by decide) dL_law_474 ?_
        refine gx_asl (y := Int32.toInt64 v1) (by rw [eo, va_up_self]) ?_
        refine lv_iload hx hb dL_law_475 (lv_at hl 0 rfl) ?_
        refine lv_if_eq (tgt := 484) hx hb dL_law_477 (by decide) (fun _ => ?_) (fun c9 => absurd e2 c9)
        refine lv_lconst (v := 0) hx hb dL_law_484 (by decide) ?_
        refine W.lcmp hx hb dL_law_485 ?_
        refine gx_as (y := 0) (by rw [hreq, e2]; rfl) ?_
        refine lv_if_eq (tgt := 491) hx hb dL_law_486 (by decide) (fun _ => ?_) (fun c9 => absurd (by decide) c9)
        refine lv_goto (tgt := 1147) hx hb dL_law_491 (by decide) ?_
        exact K _ _ _ _ _ _ _ _ _ P T mc sc ch3 G Ad Sg w3 t3 hLI (by omega) (by omega) hS (lv_sub hl [2, 3, 4, 5, 6] rfl)
      · skip
        refine lv_istore (lv' := [(6, .int r2), (5, .int (nI 0)), (0, .ref b), (1, .ref (ad 0)), (2, .ref (ad 53)), (3, .ref (ad 67)), (4, .int (nI i))]) hx hb dL_law_454 hl (by decide) rfl (fun ls hl => ?_)
        refine lv_aload_n hx hb dL_law_456 rfl (lv_at hl 4 rfl) ?_
        refine gc_i (gx_runV (As := []) (rest := []) ⟨hx, hb, hml, hown, hts⟩ hK hN hS 53 (by decide) rfl rfl (ct_X7_thrown l D cA o1 ad ln 68 H.size iv2 (by decide) l1) (cwV 0 hts (atA_lV gL_law_X7_thrown) rfl rfl rfl (by decide +kernel) ⟨gle hRf rfl, gle hRl rfl⟩) rfl rfl hl.1 rfl (lv_room (Nat.le_of_ble_eq_true rfl)) dL_law_457 ⟨by omega, by omega⟩) hS hA (fun z9 iv9 H locs hp9 hS => ?_)
        obtain ⟨ez9, ev9⟩ := hp9
        rw [ev9] at hS
        refine gx_as (y := nI 0) (by rw [ez9]; exact hth) ?_
        refine lv_iload hx hb dL_law_460 (lv_at hl 1 rfl) ?_
        refine lv_icmp_eq (tgt := 467) hx hb dL_law_462 (by decide) (fun _ => ?_) (fun c9 => absurd rfl c9)
        refine lv_iload hx hb dL_law_467 (lv_at hl 1 rfl) ?_
        refine lv_if_ne (tgt := 491) hx hb dL_law_469 (by decide) (fun c9 => absurd (by decide) c9) (fun _ => ?_)
        refine lv_aload_n hx hb dL_law_472 rfl (lv_at hl 5 rfl) ?_
        refine lv_iconst (v := nI 0) hx hb dL_law_473 (by decide) ?_
        refine gx_lald hx hb hK hS (by decide) dL_law_474 ?_
        refine gx_asl (y := Int32.toInt64 v1) (by rw [eo, va_up_self]) ?_
        refine lv_iload hx hb dL_law_475 (lv_at hl 0 rfl) ?_
        refine lv_if_eq (tgt := 484) hx hb dL_law_477 (by decide) (fun c9 => absurd c9 (by rw [e2]; decide)) (fun _ => ?_)
        refine lv_lconst (v := 1) hx hb dL_law_480 (by decide) ?_
        refine lv_goto (tgt := 485) hx hb dL_law_481 (by decide) ?_
        refine W.lcmp hx hb dL_law_485 ?_
        refine gx_as (y := 0) (by rw [hreq, e2]; rfl) ?_
        refine lv_if_eq (tgt := 491) hx hb dL_law_486 (by decide) (fun _ => ?_) (fun c9 => absurd (by decide) c9)
        refine lv_goto (tgt := 1147) hx hb dL_law_491 (by decide) ?_
        exact K _ _ _ _ _ _ _ _ _ P T mc sc ch3 G Ad Sg w3 t3 hLI (by omega) (by omega) hS (lv_sub hl [2, 3, 4, 5, 6] rfl)
    · skip
      refine lv_aload_n hx hb dL_law_403 rfl (lv_at hl 1 rfl) ?_
      refine lv_aload_n hx hb dL_law_404 rfl (lv_at hl 0 rfl) ?_
      refine lv_iload hx hb dL_law_405 (lv_at hl 4 rfl) ?_
      refine lv_iconst (v := nI 1) hx hb dL_law_407 (by decide) ?_
      refine lv_iadd hx hb dL_law_408 ?_
      refine gx_as (y := nI (i + 1)) (nI_add i 1) ?_
      refine va_sld hx hb hXs hbl hbA hS.2.2 (vp_in_nI (by omega) (by omega)) dL_law_409 ?_
      refine gx_as (y := x1) (by rw [nI_clamp (by omega)]; exact ex1) ?_
      refine lv_aload_n hx hb dL_law_410 rfl (lv_at hl 0 rfl) ?_
      refine lv_iload hx hb dL_law_411 (lv_at hl 4 rfl) ?_
      refine lv_iconst (v := nI 2) hx hb dL_law_413 (by decide) ?_
      refine lv_iadd hx hb dL_law_414 ?_
      refine gx_as (y := nI (i + 2)) (nI_add i 2) ?_
      refine va_sld hx hb hXs hbl hbA hS.2.2 (vp_in_nI (by omega) (by omega)) dL_law_415 ?_
      refine gx_as (y := x2) (by rw [nI_clamp (by omega)]; exact ex2) ?_
      refine lv_if_eq (tgt := 423) hx hb dL_law_416 (by decide) (fun c9 => absurd c9 hz) (fun _ => ?_)
      refine lv_iconst (v := nI 1) hx hb dL_law_419 (by decide) ?_
      refine lv_goto (tgt := 424) hx hb dL_law_420 (by decide) ?_
      refine lv_aload_n hx hb dL_law_424 rfl (lv_at hl 3 rfl) ?_
      refine gc_oxM (hx_L_choose l D cA o ad ln 68 H.size iv x1 (nI 1) (by decide) (cx_X6_chooseT l hst D cA o ad ln 68 H.size iv x1 (nI 1) P (by decide) l1 a1 (ok9_no hok))) (fun hM => vx_runSW (As := [.ref (ad 0), .int x1, .int (nI 1), .ref (ad 67)]) (rest := []) ⟨hx, hb, hml, hown, hts⟩ hM (vx_cwSW 4 hts (atA_in gL_law_L_choose) rfl rfl rfl (by decide +kernel) ⟨gle hRf rfl, gle hRl rfl⟩) ⟨gPreX_blind, fun U hU hW => ⟨rfl, hS.preX hK hN hX hA hU hW⟩⟩ rfl rfl hl.1 rfl (lv_room (Nat.le_of_ble_eq_true rfl)) dL_law_425 ⟨by omega, by omega⟩) hS hA (fun k9 o1 ad1 ln1 iv1 H locs hp1 hS => ?_)
      obtain ⟨ek, rfl, rfl, rfl, rfl⟩ := hp1
      refine gx_as (y := nI 1) ek ?_
      refine lv_istore (lv' := [(5, .int (nI 1)), (0, .ref b), (1, .ref (ad 0)), (2, .ref (ad 53)), (3, .ref (ad 67)), (4, .int (nI i))]) hx hb dL_law_428 hl (by decide) rfl (fun ls hl => ?_)
      refine lv_aload_n hx hb dL_law_430 rfl (lv_at hl 3 rfl) ?_
      refine lv_aload_n hx hb dL_law_431 rfl (lv_at hl 1 rfl) ?_
      refine lv_iload hx hb dL_law_432 (lv_at hl 5 rfl) ?_
      refine lv_iconst (v := nI 1) hx hb dL_law_434 (by decide) ?_
      refine lv_iadd hx hb dL_law_435 ?_
      refine gx_as (y := nI (i + 1)) (nI_add i 1) ?_
      refine va_sld hx hb hXs hbl hbA hS.2.2 (vp_in_nI (by omega) (by omega)) dL_law_436 ?_
      refine gx_as (y := x1) (by rw [nI_clamp (by omega)]; exact ex1) ?_
      refine lv_aload_n hx hb dL_law_437 rfl (lv_at hl 1 rfl) ?_
      refine lv_iload hx hb dL_law_438 (lv_at hl 5 rfl) ?_
      refine lv_iconst (v := nI 2) hx hb dL_law_440 (by decide) ?_
      refine lv_iadd hx hb dL_law_441 ?_
      refine gx_as (y := nI (i + 2)) (nI_add i 2) ?_
      refine va_sld hx hb hXs hbl hbA hS.2.2 (vp_in_nI (by omega) (by omega)) dL_law_442 ?_
      refine gx_as (y := x2) (by rw [nI_clamp (by omega)]; exact ex2) ?_
      refine lv_if_eq (tgt := 450) hx hb dL_law_443 (by decide) (fun c9 => absurd c9 hz) (fun _ => ?_)
      refine lv_iconst (v := nI 1) hx hb dL_law_446 (by decide) ?_
      refine lv_goto (tgt := 451) hx hb dL_law_447 (by decide) ?_
      refine gc_i (gx_runV (As := [.int x1, .int (nI 1)]) (rest := []) ⟨hx, hb, hml, hown, hts⟩ hK hN hS 53 (by decide) rfl rfl (ct_X7_chooseB l D cA o ad ln 68 H.size iv x1 (nI 1) (by decide) l1 (by rw [rr1]; exact hok)) (cwV 2 hts (atA_lV gL_law_X7_choose) rfl rfl rfl (by decide +kernel) ⟨gle hRf rfl, gle hRl rfl⟩) rfl rfl hl.1 rfl (lv_room (Nat.le_of_ble_eq_true rfl)) dL_law_451 ⟨by omega, by omega⟩) hS hA (fun r2 iv2 H locs hp2 hS => ?_)
      obtain ⟨_, _, ev2⟩ := hp2
      have hth : iv2 53 0 = nI 1 := by (rw [ev2, up2_s]) <;> rfl
      have hLI : LI P T mc sc ch G Ad Sg w t ln iv2 := by rw [ev2]; exact LI_th h 1
      refine lv_istore (lv' := [(6, .int r2), (5, .int (nI 1)), (0, .ref b), (1, .ref (ad 0)), (2, .ref (ad 53)), (3, .ref (ad 67)), (4, .int (nI i))]) hx hb dL_law_454 hl (by decide) rfl (fun ls hl => ?_)
      refine lv_aload_n hx hb dL_law_456 rfl (lv_at hl 4 rfl) ?_
      refine gc_i (gx_runV (As := []) (rest := []) ⟨hx, hb, hml, hown, hts⟩ hK hN hS 53 (by decide) rfl rfl (ct_X7_thrown l D cA o ad ln 68 H.size iv2 (by decide) l1) (cwV 0 hts (atA_lV gL_law_X7_thrown) rfl rfl rfl (by decide +kernel) ⟨gle hRf rfl, gle hRl rfl⟩) rfl rfl hl.1 rfl (lv_room (Nat.le_of_ble_eq_true rfl)) dL_law_457 ⟨by omega, by omega⟩) hS hA (fun z9 iv9 H locs hp9 hS => ?_)
      obtain ⟨ez9, ev9⟩ := hp9
      rw [ev9] at hS
      refine gx_as (y := nI 1) (by rw [ez9]; exact hth) ?_
      refine lv_iload hx hb dL_law_460 (lv_at hl 1 rfl) ?_
      refine lv_icmp_eq (tgt := 467) hx hb dL_law_462 (by decide) (fun _ => ?_) (fun c9 => absurd rfl c9)
      refine lv_iload hx hb dL_law_467 (lv_at hl 1 rfl) ?_
      refine lv_if_ne (tgt := 491) hx hb dL_law_469 (by decide) (fun _ => ?_) (fun c9 => absurd c9 (by decide))
      refine lv_goto (tgt := 1147) hx hb dL_law_491 (by decide) ?_
      exact K _ _ _ _ _ _ _ _ _ P T mc sc ch G Ad Sg w t hLI (by omega) (by omega) hS (lv_sub hl [2, 3, 4, 5, 6] rfl)
