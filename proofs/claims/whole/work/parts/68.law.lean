theorem lg_self (x : Int64) : lg_cmp x x = 0 := by simp [lg_cmp]
theorem ok9_no {x : Int32} {b : Nat} (h : ¬ ok9 x (nI b)) : x < 0 ∨ ¬ x < nI b := ok9_bad h
set_option maxHeartbeats 4000000 in
set_option maxRecDepth 100000 in
theorem law_order {p : Program} {l : Launch} {e : Env} {R : Room} {s : State} {m : MethodId} {below : List Frame} {meth : Method} {c : Code} {D : va_G} {cA : Nat → ClassId} {b L i : Nat} {xs : Nat → Int32} {Q : State → Prop} {o : Nat → Int64} {ad ln : Nat → Nat} {iv : Nat → Nat → Int32} {H : Heap} {locs : List Loc} {ls : Array Slot} {cells slots P T mc sc : Nat} {ch : Nat → Bool} {G Ad Sg : Nat → Nat → Nat} {w t : Nat → Nat} {x1 : Int32} (X : LX p l R s m c D cA b L xs) (hi : i + 3 < L) (ex1 : xs (i + 1) = x1) (h : LI P T mc sc ch G Ad Sg w t ln iv) (hcb : cells ≤ 500 + uC P T ln + i) (hsb : slots ≤ 500000 + uS P T ln + 2 * i) (hS : gS D cA (fun q => s.heap.size ≤ q) s.heap o ad ln iv 68 H locs) (hl : lv_has ls 8 [(0, .ref b), (1, .ref (ad 0)), (2, .ref (ad 53)), (3, .ref (ad 67)), (4, .int (nI i))]) (K : LK p l e R s m below meth c D cA b i Q) : W p l e R s m #[.ref b] below meth c H locs cells slots Q (F0 m 347 ls []) := by
  obtain ⟨hx, hb, hml, hown, hts, hXs, hbl, hK, hN, hX, hst, hRf, hRl, hRc, hRs, hL⟩ := X
  have hA : ∀ q : Nat, s.heap.size ≤ q → (fun q : Nat => s.heap.size ≤ q) q := fun _ h => h
  have hbA : ¬ (fun q : Nat => s.heap.size ≤ q) b := Nat.not_le.mpr hbl
  obtain ⟨⟨c1, c2, c3, c4, c5, c6, c7, c8, c9, c10, c11, c12⟩, ⟨l1, l2, l3⟩, ⟨a1, a2, a3, a4, a5, a6, a7, a8, a9, a10, a11, a12⟩, m0, s0, ⟨n1, n2, n3, n4⟩, ⟨rr1, rr2, rr3, rr4, rr5, rr6, rr7, rr8, rr9, rr10⟩, t0, o0⟩ := id h
  have hcP : cnt ch P ≤ P := inj_le_P pcs_inj
  have hu1 := uC_le P T ln
  have hu2 := uS_le c2 c4 ln
  have hff := ff_1680 P (by omega) (cnt ch P) (by omega)
  have hpw := pw_le4 c4 c7
  have hS9 := Nat.mul_le_mul hff hpw
  by_cases hok : ok9 x1 (nI mc)
  · skip
    obtain ⟨m9, hm9, rfl⟩ := ok9_of (by omega) hok
    obtain ⟨N0, N1, N2, N3⟩ := ord_ex (Ad := Ad m9) c2 c3 c4 (c8 m9).1
    refine lv_aload_n hx hb dL_law_347 rfl (lv_at hl 1 rfl) ?_
    refine lv_aload_n hx hb dL_law_348 rfl (lv_at hl 0 rfl) ?_
    refine lv_iload hx hb dL_law_349 (lv_at hl 4 rfl) ?_
    refine lv_iconst (v := nI 1) hx hb dL_law_351 (by decide) ?_
    refine lv_iadd hx hb dL_law_352 ?_
    refine gx_as (y := nI (i + 1)) (nI_add i 1) ?_
    refine va_sld hx hb hXs hbl hbA hS.2.2 (vp_in_nI (by omega) (by omega)) dL_law_353 ?_
    refine gx_as (y := nI m9) (by rw [nI_clamp (by omega)]; exact ex1) ?_
    refine lv_aload_n hx hb dL_law_354 rfl (lv_at hl 3 rfl) ?_
    refine gc_oxM (hk_L_order l D cA o ad ln 68 H.size iv (nI m9) (rm := { frames := 3, cells := 0, slots := 0, locals := 65 }) (mc := 0) (ms := 0) (by decide) rfl rfl (by decide) (by decide) (gMi_x (ct_X6_order l D cA o ad ln 68 H.size iv m9 P T mc (G m9) (Ad m9) (by decide) l1 l2 c2 a3 c5 hm9 c3 c4 (m0 m9 (by omega)))) (fun r ad' ln' iv' q => by rw [q.1])) (fun hM => vx_runSW (As := [.ref (ad 0), .int (nI m9), .ref (ad 67)]) (rest := []) ⟨hx, hb, hml, hown, hts⟩ hM (vx_cwSW 3 hts (atA_lV gL_law_L_order) rfl rfl rfl (by decide +kernel) ⟨gle hRf rfl, gle hRl rfl⟩) ⟨gPre_blind, fun U hU hW => ⟨rfl, hS.pre hK hN hU hW⟩⟩ rfl rfl hl.1 rfl (lv_room (Nat.le_of_ble_eq_true rfl)) dL_law_355 ⟨by omega, by omega⟩) hS hA (fun k9 o1 ad1 ln1 iv1 H locs hp1 hS => ?_)
    obtain ⟨ek, v1, ⟨rfl, rfl, hq⟩, eo⟩ := hp1
    obtain ⟨e1, e33, ev1⟩ := hq
    have hLI1 : LI P T mc sc ch G Ad Sg w t ln iv1 := LI_fr h (fun j hj => by rw [ev1 53 (by decide) (by decide)]) (fun q hq9 => ev1 q (fun u => by rw [u] at hq9; exact absurd hq9 (by decide)) (fun u => by rw [u] at hq9; exact absurd hq9 (by decide))) e33
    obtain ⟨_, _, _, _, _, ⟨_, _, n3b, _⟩, ⟨q1, q2, q3, q4, q5, q6, q7, q8, q9, q10⟩, _, _⟩ := id hLI1
    refine gx_as (y := nI 0) ek ?_
    refine lv_istore (lv' := [(5, .int (nI 0)), (0, .ref b), (1, .ref (ad 0)), (2, .ref (ad 53)), (3, .ref (ad 67)), (4, .int (nI i))]) hx hb dL_law_358 hl (by decide) rfl (fun ls hl => ?_)
    refine lv_aload_n hx hb dL_law_360 rfl (lv_at hl 3 rfl) ?_
    refine lv_aload_n hx hb dL_law_361 rfl (lv_at hl 1 rfl) ?_
    refine lv_iload hx hb dL_law_362 (lv_at hl 5 rfl) ?_
    refine lv_iconst (v := nI 1) hx hb dL_law_364 (by decide) ?_
    refine lv_iadd hx hb dL_law_365 ?_
    refine gx_as (y := nI (i + 1)) (nI_add i 1) ?_
    refine va_sld hx hb hXs hbl hbA hS.2.2 (vp_in_nI (by omega) (by omega)) dL_law_366 ?_
    refine gx_as (y := nI m9) (by rw [nI_clamp (by omega)]; exact ex1) ?_
    refine gc_i (gx_runV (As := [.int (nI m9)]) (rest := []) ⟨hx, hb, hml, hown, hts⟩ hK hN hS 53 (by decide) rfl rfl (ct_X7_order l D cA o1 ad ln 68 H.size iv1 m9 mc P T N0 (G m9) (Ad m9) (by decide) l1 l3 q2 c3 c4 q1 c2 (q7 m9 hm9) (by omega) N1 N2 N3 q3 c5 hm9) (cwV 1 hts (atA_lV gL_law_X7_order) rfl rfl rfl (by decide +kernel) ⟨gle hRf rfl, gle hRl rfl⟩) rfl rfl hl.1 rfl (lv_room (Nat.le_of_ble_eq_true rfl)) dL_law_367 ⟨by omega, by omega⟩) hS hA (fun r2 iv2 H locs hp2 hS => ?_)
    obtain ⟨f1, ev2⟩ := hp2
    have hreq : v1 = r2 := by rw [e1, f1]
    have hth : iv2 53 0 = nI 0 := by rw [ev2, up2_s]; rfl
    have hLI : LI P T mc sc ch G Ad Sg w t ln iv2 := by rw [ev2]; exact LI_th hLI1 0
    refine lv_istore (lv' := [(6, .int r2), (5, .int (nI 0)), (0, .ref b), (1, .ref (ad 0)), (2, .ref (ad 53)), (3, .ref (ad 67)), (4, .int (nI i))]) hx hb dL_law_370 hl (by decide) rfl (fun ls hl => ?_)
    refine lv_aload_n hx hb dL_law_372 rfl (lv_at hl 4 rfl) ?_
    refine gc_i (gx_runV (As := []) (rest := []) ⟨hx, hb, hml, hown, hts⟩ hK hN hS 53 (by decide) rfl rfl (ct_X7_thrown l D cA o1 ad ln 68 H.size iv2 (by decide) l1) (cwV 0 hts (atA_lV gL_law_X7_thrown) rfl rfl rfl (by decide +kernel) ⟨gle hRf rfl, gle hRl rfl⟩) rfl rfl hl.1 rfl (lv_room (Nat.le_of_ble_eq_true rfl)) dL_law_373 ⟨by omega, by omega⟩) hS hA (fun z9 iv9 H locs hp9 hS => ?_)
    obtain ⟨ez9, ev9⟩ := hp9
    rw [ev9] at hS
    refine gx_as (y := nI 0) (by rw [ez9]; exact hth) ?_
    refine lv_iload hx hb dL_law_376 (lv_at hl 1 rfl) ?_
    refine lv_icmp_eq (tgt := 383) hx hb dL_law_378 (by decide) (fun _ => ?_) (fun c9 => absurd rfl c9)
    refine lv_iload hx hb dL_law_383 (lv_at hl 1 rfl) ?_
    refine lv_if_ne (tgt := 400) hx hb dL_law_385 (by decide) (fun c9 => absurd (by decide) c9) (fun _ => ?_)
    refine lv_aload_n hx hb dL_law_388 rfl (lv_at hl 5 rfl) ?_
    refine lv_iconst (v := nI 0) hx hb dL_law_389 (by decide) ?_
    refine gx_lald hx hb hK hS (by decide) dL_law_390 ?_
    refine gx_asl (y := Int32.toInt64 v1) (by rw [eo, va_up_self]) ?_
    refine lv_iload hx hb dL_law_391 (lv_at hl 0 rfl) ?_
    refine lv_i2l hx hb dL_law_393 rfl ?_
    refine W.lcmp hx hb dL_law_394 ?_
    refine gx_as (y := 0) (by rw [hreq]; exact lg_self _) ?_
    refine lv_if_eq (tgt := 400) hx hb dL_law_395 (by decide) (fun _ => ?_) (fun c9 => absurd (by decide) c9)
    refine lv_goto (tgt := 1147) hx hb dL_law_400 (by decide) ?_
    exact K _ _ _ _ _ _ _ _ _ P T mc sc ch G Ad Sg w t hLI (by omega) (by omega) hS (lv_sub hl [2, 3, 4, 5, 6] rfl)
  · skip
    refine lv_aload_n hx hb dL_law_347 rfl (lv_at hl 1 rfl) ?_
    refine lv_aload_n hx hb dL_law_348 rfl (lv_at hl 0 rfl) ?_
    refine lv_iload hx hb dL_law_349 (lv_at hl 4 rfl) ?_
    refine lv_iconst (v := nI 1) hx hb dL_law_351 (by decide) ?_
    refine lv_iadd hx hb dL_law_352 ?_
    refine gx_as (y := nI (i + 1)) (nI_add i 1) ?_
    refine va_sld hx hb hXs hbl hbA hS.2.2 (vp_in_nI (by omega) (by omega)) dL_law_353 ?_
    refine gx_as (y := x1) (by rw [nI_clamp (by omega)]; exact ex1) ?_
    refine lv_aload_n hx hb dL_law_354 rfl (lv_at hl 3 rfl) ?_
    refine gc_oxM (hx_L_order l D cA o ad ln 68 H.size iv x1 (by decide) (cx_X6_orderT l hst D cA o ad ln 68 H.size iv x1 mc (by decide) l1 a3 (ok9_no hok))) (fun hM => vx_runSW (As := [.ref (ad 0), .int x1, .ref (ad 67)]) (rest := []) ⟨hx, hb, hml, hown, hts⟩ hM (vx_cwSW 3 hts (atA_in gL_law_L_order) rfl rfl rfl (by decide +kernel) ⟨gle hRf rfl, gle hRl rfl⟩) ⟨gPreX_blind, fun U hU hW => ⟨rfl, hS.preX hK hN hX hA hU hW⟩⟩ rfl rfl hl.1 rfl (lv_room (Nat.le_of_ble_eq_true rfl)) dL_law_355 ⟨by omega, by omega⟩) hS hA (fun k9 o1 ad1 ln1 iv1 H locs hp1 hS => ?_)
    obtain ⟨ek, rfl, rfl, rfl, rfl⟩ := hp1
    refine gx_as (y := nI 1) ek ?_
    refine lv_istore (lv' := [(5, .int (nI 1)), (0, .ref b), (1, .ref (ad 0)), (2, .ref (ad 53)), (3, .ref (ad 67)), (4, .int (nI i))]) hx hb dL_law_358 hl (by decide) rfl (fun ls hl => ?_)
    refine lv_aload_n hx hb dL_law_360 rfl (lv_at hl 3 rfl) ?_
    refine lv_aload_n hx hb dL_law_361 rfl (lv_at hl 1 rfl) ?_
    refine lv_iload hx hb dL_law_362 (lv_at hl 5 rfl) ?_
    refine lv_iconst (v := nI 1) hx hb dL_law_364 (by decide) ?_
    refine lv_iadd hx hb dL_law_365 ?_
    refine gx_as (y := nI (i + 1)) (nI_add i 1) ?_
    refine va_sld hx hb hXs hbl hbA hS.2.2 (vp_in_nI (by omega) (by omega)) dL_law_366 ?_
    refine gx_as (y := x1) (by rw [nI_clamp (by omega)]; exact ex1) ?_
    refine gc_i (gx_runV (As := [.int x1]) (rest := []) ⟨hx, hb, hml, hown, hts⟩ hK hN hS 53 (by decide) rfl rfl (ct_X7_orderB l D cA o ad ln 68 H.size iv x1 (by decide) l1 (by rw [rr3]; exact hok)) (cwV 1 hts (atA_lV gL_law_X7_order) rfl rfl rfl (by decide +kernel) ⟨gle hRf rfl, gle hRl rfl⟩) rfl rfl hl.1 rfl (lv_room (Nat.le_of_ble_eq_true rfl)) dL_law_367 ⟨by omega, by omega⟩) hS hA (fun r2 iv2 H locs hp2 hS => ?_)
    obtain ⟨_, ev2⟩ := hp2
    have hth : iv2 53 0 = nI 1 := by rw [ev2, up2_s]; rfl
    have hLI : LI P T mc sc ch G Ad Sg w t ln iv2 := by rw [ev2]; exact LI_th h 1
    refine lv_istore (lv' := [(6, .int r2), (5, .int (nI 1)), (0, .ref b), (1, .ref (ad 0)), (2, .ref (ad 53)), (3, .ref (ad 67)), (4, .int (nI i))]) hx hb dL_law_370 hl (by decide) rfl (fun ls hl => ?_)
    refine lv_aload_n hx hb dL_law_372 rfl (lv_at hl 4 rfl) ?_
    refine gc_i (gx_runV (As := []) (rest := []) ⟨hx, hb, hml, hown, hts⟩ hK hN hS 53 (by decide) rfl rfl (ct_X7_thrown l D cA o ad ln 68 H.size iv2 (by decide) l1) (cwV 0 hts (atA_lV gL_law_X7_thrown) rfl rfl rfl (by decide +kernel) ⟨gle hRf rfl, gle hRl rfl⟩) rfl rfl hl.1 rfl (lv_room (Nat.le_of_ble_eq_true rfl)) dL_law_373 ⟨by omega, by omega⟩) hS hA (fun z9 iv9 H locs hp9 hS => ?_)
    obtain ⟨ez9, ev9⟩ := hp9
    rw [ev9] at hS
    refine gx_as (y := nI 1) (by rw [ez9]; exact hth) ?_
    refine lv_iload hx hb dL_law_376 (lv_at hl 1 rfl) ?_
    refine lv_icmp_eq (tgt := 383) hx hb dL_law_378 (by decide) (fun _ => ?_) (fun c9 => absurd rfl c9)
    refine lv_iload hx hb dL_law_383 (lv_at hl 1 rfl) ?_
    refine lv_if_ne (tgt := 400) hx hb dL_law_385 (by decide) (fun _ => ?_) (fun c9 => absurd c9 (by decide))
    refine lv_goto (tgt := 1147) hx hb dL_law_400 (by decide) ?_
    exact K _ _ _ _ _ _ _ _ _ P T mc sc ch G Ad Sg w t hLI (by omega) (by omega) hS (lv_sub hl [2, 3, 4, 5, 6] rfl)

set_option maxHeartbeats 4000000 in
set_option maxRecDepth 100000 in
theorem law_place {p : Program} {l : Launch} {e : Env} {R : Room} {s : State} {m : MethodId} {below : List Frame} {meth : Method} {c : Code} {D : va_G} {cA : Nat → ClassId} {b L i : Nat} {xs : Nat → Int32} {Q : State → Prop} {o : Nat → Int64} {ad ln : Nat → Nat} {iv : Nat → Nat → Int32} {H : Heap} {locs : List Loc} {ls : Array Slot} {cells slots P T mc sc : Nat} {ch : Nat → Bool} {G Ad Sg : Nat → Nat → Nat} {w t : Nat → Nat} {x1 : Int32} (X : LX p l R s m c D cA b L xs) (hi : i + 3 < L) (ex1 : xs (i + 1) = x1) (h : LI P T mc sc ch G Ad Sg w t ln iv) (hcb : cells ≤ 500 + uC P T ln + i) (hsb : slots ≤ 500000 + uS P T ln + 2 * i) (hS : gS D cA (fun q => s.heap.size ≤ q) s.heap o ad ln iv 68 H locs) (hl : lv_has ls 8 [(0, .ref b), (1, .ref (ad 0)), (2, .ref (ad 53)), (3, .ref (ad 67)), (4, .int (nI i))]) (K : LK p l e R s m below meth c D cA b i Q) : W p l e R s m #[.ref b] below meth c H locs cells slots Q (F0 m 556 ls []) := by
  obtain ⟨hx, hb, hml, hown, hts, hXs, hbl, hK, hN, hX, hst, hRf, hRl, hRc, hRs, hL⟩ := X
  have hA : ∀ q : Nat, s.heap.size ≤ q → (fun q : Nat => s.heap.size ≤ q) q := fun _ h => h
  have hbA : ¬ (fun q : Nat => s.heap.size ≤ q) b := Nat.not_le.mpr hbl
  obtain ⟨⟨c1, c2, c3, c4, c5, c6, c7, c8, c9, c10, c11, c12⟩, ⟨l1, l2, l3⟩, ⟨a1, a2, a3, a4, a5, a6, a7, a8, a9, a10, a11, a12⟩, m0, s0, ⟨n1, n2, n3, n4⟩, ⟨rr1, rr2, rr3, rr4, rr5, rr6, rr7, rr8, rr9, rr10⟩, t0, o0⟩ := id h
  have hcP : cnt ch P ≤ P := inj_le_P pcs_inj
  have hu1 := uC_le P T ln
  have hu2 := uS_le c2 c4 ln
  have hff := ff_1680 P (by omega) (cnt ch P) (by omega)
  have hpw := pw_le4 c4 c7
  have hS9 := Nat.mul_le_mul hff hpw
  by_cases hok : ok9 x1 (nI P)
  · skip
    obtain ⟨p9, hp9, rfl⟩ := ok9_of (by omega) hok
    have hnl := num_lt c10 c11
    refine lv_aload_n hx hb dL_law_556 rfl (lv_at hl 1 rfl) ?_
    refine lv_aload_n hx hb dL_law_557 rfl (lv_at hl 0 rfl) ?_
    refine lv_iload hx hb dL_law_558 (lv_at hl 4 rfl) ?_
    refine lv_iconst (v := nI 1) hx hb dL_law_560 (by decide) ?_
    refine lv_iadd hx hb dL_law_561 ?_
    refine gx_as (y := nI (i + 1)) (nI_add i 1) ?_
    refine va_sld hx hb hXs hbl hbA hS.2.2 (vp_in_nI (by omega) (by omega)) dL_law_562 ?_
    refine gx_as (y := nI p9) (by rw [nI_clamp (by omega)]; exact ex1) ?_
    refine lv_aload_n hx hb dL_law_563 rfl (lv_at hl 3 rfl) ?_
    refine gc_oxM (hk_L_place l D cA o ad ln 68 H.size iv (nI p9) (rm := { frames := 1, cells := 0, slots := 0, locals := 21 }) (mc := 0) (ms := 0) (by decide) rfl rfl (by decide) (by decide) (gMi_x (ct_X6_place l D cA o ad ln 68 H.size iv p9 P (by decide) l1 l2 c2 a1 hp9 a11)) (fun r ad' ln' iv' q => by rw [q.1])) (fun hM => vx_runSW (As := [.ref (ad 0), .int (nI p9), .ref (ad 67)]) (rest := []) ⟨hx, hb, hml, hown, hts⟩ hM (vx_cwSW 3 hts (atA_lV gL_law_L_place) rfl rfl rfl (by decide +kernel) ⟨gle hRf rfl, gle hRl rfl⟩) ⟨gPre_blind, fun U hU hW => ⟨rfl, hS.pre hK hN hU hW⟩⟩ rfl rfl hl.1 rfl (lv_room (Nat.le_of_ble_eq_true rfl)) dL_law_564 ⟨by omega, by omega⟩) hS hA (fun k9 o1 ad1 ln1 iv1 H locs hp1 hS => ?_)
    obtain ⟨ek, v1, ⟨rfl, rfl, hq⟩, eo⟩ := hp1
    obtain ⟨e1, ev1⟩ := hq
    rw [ev1] at hS
    refine gx_as (y := nI 0) ek ?_
    refine lv_istore (lv' := [(5, .int (nI 0)), (0, .ref b), (1, .ref (ad 0)), (2, .ref (ad 53)), (3, .ref (ad 67)), (4, .int (nI i))]) hx hb dL_law_567 hl (by decide) rfl (fun ls hl => ?_)
    refine lv_aload_n hx hb dL_law_569 rfl (lv_at hl 3 rfl) ?_
    refine lv_aload_n hx hb dL_law_570 rfl (lv_at hl 1 rfl) ?_
    refine lv_iload hx hb dL_law_571 (lv_at hl 5 rfl) ?_
    refine lv_iconst (v := nI 1) hx hb dL_law_573 (by decide) ?_
    refine lv_iadd hx hb dL_law_574 ?_
    refine gx_as (y := nI (i + 1)) (nI_add i 1) ?_
    refine va_sld hx hb hXs hbl hbA hS.2.2 (vp_in_nI (by omega) (by omega)) dL_law_575 ?_
    refine gx_as (y := nI p9) (by rw [nI_clamp (by omega)]; exact ex1) ?_
    refine gc_i (gx_runV (As := [.int (nI p9)]) (rest := []) ⟨hx, hb, hml, hown, hts⟩ hK hN hS 53 (by decide) rfl rfl (ct_X7_place l D cA o1 ad ln 68 H.size iv p9 (num P T (cnt ch P) w t) P (cnt ch P) T (pcs ch P) (by decide) l1 l3 rr4 c7 rr2 c3 c4 rr1 c2 rr9 pcs_inj rr5 (by omega) hp9) (cwV 1 hts (atA_lV gL_law_X7_place) rfl rfl rfl (by decide +kernel) ⟨gle hRf rfl, gle hRl rfl⟩) rfl rfl hl.1 rfl (lv_room (Nat.le_of_ble_eq_true rfl)) dL_law_576 ⟨by omega, by omega⟩) hS hA (fun r2 iv2 H locs hp2 hS => ?_)
    obtain ⟨f1, ⟨f2, f3⟩, f4⟩ := hp2
    have hreq : v1 = r2 := by
      rw [e1, a12 p9 hp9]
      rcases f1 with ⟨k9, hk9, ek9, er9⟩ | ⟨hno, er9⟩
      · obtain ⟨u1, u2, u3⟩ := pcs_ok hk9
        rw [ek9] at u2
        rw [u2, er9, if_neg (by decide), ← ek9, dw_num c3 c10 c11 hk9]
        exact n1.1 k9 hk9
      · have u2 : ch p9 = false := by
          cases u : ch p9 with
          | false => rfl
          | true =>
            have hlt9 : cnt ch p9 < cnt ch P := by
              have h8 := cnt_mono ch (show p9 + 1 ≤ P from hp9)
              rw [cnt_s, if_pos u] at h8
              exact h8
            exact absurd (show pcs ch P (cnt ch p9) = p9 from fnd_eq hp9 u rfl) (hno _ hlt9)
        rw [u2, er9]
        rfl
    have hth : iv2 53 0 = nI 0 := f2
    have hLI : LI P T mc sc ch G Ad Sg w t ln iv2 := LI_fr h f3 (fun q hq9 => f4 q (fun u => by rw [u] at hq9; exact absurd hq9 (by decide)) (fun u => by rw [u] at hq9; exact absurd hq9 (by decide)) (fun u => by rw [u] at hq9; exact absurd hq9 (by decide))) (fun p hp => by rw [f4 33 (by decide) (by decide) (by decide)]; exact n3 p hp)
    refine lv_istore (lv' := [(6, .int r2), (5, .int (nI 0)), (0, .ref b), (1, .ref (ad 0)), (2, .ref (ad 53)), (3, .ref (ad 67)), (4, .int (nI i))]) hx hb dL_law_579 hl (by decide) rfl (fun ls hl => ?_)
    refine lv_aload_n hx hb dL_law_581 rfl (lv_at hl 4 rfl) ?_
    refine gc_i (gx_runV (As := []) (rest := []) ⟨hx, hb, hml, hown, hts⟩ hK hN hS 53 (by decide) rfl rfl (ct_X7_thrown l D cA o1 ad ln 68 H.size iv2 (by decide) l1) (cwV 0 hts (atA_lV gL_law_X7_thrown) rfl rfl rfl (by decide +kernel) ⟨gle hRf rfl, gle hRl rfl⟩) rfl rfl hl.1 rfl (lv_room (Nat.le_of_ble_eq_true rfl)) dL_law_582 ⟨by omega, by omega⟩) hS hA (fun z9 iv9 H locs hp9 hS => ?_)
    obtain ⟨ez9, ev9⟩ := hp9
    rw [ev9] at hS
    refine gx_as (y := nI 0) (by rw [ez9]; exact hth) ?_
    refine lv_iload hx hb dL_law_585 (lv_at hl 1 rfl) ?_
    refine lv_icmp_eq (tgt := 592) hx hb dL_law_587 (by decide) (fun _ => ?_) (fun c9 => absurd rfl c9)
    refine lv_iload hx hb dL_law_592 (lv_at hl 1 rfl) ?_
    refine lv_if_ne (tgt := 609) hx hb dL_law_594 (by decide) (fun c9 => absurd (by decide) c9) (fun _ => ?_)
    refine lv_aload_n hx hb dL_law_597 rfl (lv_at hl 5 rfl) ?_
    refine lv_iconst (v := nI 0) hx hb dL_law_598 (by decide) ?_
    refine gx_lald hx hb hK hS (by decide) dL_law_599 ?_
    refine gx_asl (y := Int32.toInt64 v1) (by rw [eo, va_up_self]) ?_
    refine lv_iload hx hb dL_law_600 (lv_at hl 0 rfl) ?_
    refine lv_i2l hx hb dL_law_602 rfl ?_
    refine W.lcmp hx hb dL_law_603 ?_
    refine gx_as (y := 0) (by rw [hreq]; exact lg_self _) ?_
    refine lv_if_eq (tgt := 609) hx hb dL_law_604 (by decide) (fun _ => ?_) (fun c9 => absurd (by decide) c9)
    refine lv_goto (tgt := 1147) hx hb dL_law_609 (by decide) ?_
    exact K _ _ _ _ _ _ _ _ _ P T mc sc ch G Ad Sg w t hLI (by omega) (by omega) hS (lv_sub hl [2, 3, 4, 5, 6] rfl)
  · skip
    refine lv_aload_n hx hb dL_law_556 rfl (lv_at hl 1 rfl) ?_
    refine lv_aload_n hx hb dL_law_557 rfl (lv_at hl 0 rfl) ?_
    refine lv_iload hx hb dL_law_558 (lv_at hl 4 rfl) ?_
    refine lv_iconst (v := nI 1) hx hb dL_law_560 (by decide) ?_
    refine lv_iadd hx hb dL_law_561 ?_
    refine gx_as (y := nI (i + 1)) (nI_add i 1) ?_
    refine va_sld hx hb hXs hbl hbA hS.2.2 (vp_in_nI (by omega) (by omega)) dL_law_562 ?_
    refine gx_as (y := x1) (by rw [nI_clamp (by omega)]; exact ex1) ?_
    refine lv_aload_n hx hb dL_law_563 rfl (lv_at hl 3 rfl) ?_
    refine gc_oxM (hx_L_place l D cA o ad ln 68 H.size iv x1 (by decide) (cx_X6_placeT l hst D cA o ad ln 68 H.size iv x1 P (by decide) l1 a1 (ok9_no hok))) (fun hM => vx_runSW (As := [.ref (ad 0), .int x1, .ref (ad 67)]) (rest := []) ⟨hx, hb, hml, hown, hts⟩ hM (vx_cwSW 3 hts (atA_in gL_law_L_place) rfl rfl rfl (by decide +kernel) ⟨gle hRf rfl, gle hRl rfl⟩) ⟨gPreX_blind, fun U hU hW => ⟨rfl, hS.preX hK hN hX hA hU hW⟩⟩ rfl rfl hl.1 rfl (lv_room (Nat.le_of_ble_eq_true rfl)) dL_law_564 ⟨by omega, by omega⟩) hS hA (fun k9 o1 ad1 ln1 iv1 H locs hp1 hS => ?_)
    obtain ⟨ek, rfl, rfl, rfl, rfl⟩ := hp1
    refine gx_as (y := nI 1) ek ?_
    refine lv_istore (lv' := [(5, .int (nI 1)), (0, .ref b), (1, .ref (ad 0)), (2, .ref (ad 53)), (3, .ref (ad 67)), (4, .int (nI i))]) hx hb dL_law_567 hl (by decide) rfl (fun ls hl => ?_)
    refine lv_aload_n hx hb dL_law_569 rfl (lv_at hl 3 rfl) ?_
    refine lv_aload_n hx hb dL_law_570 rfl (lv_at hl 1 rfl) ?_
    refine lv_iload hx hb dL_law_571 (lv_at hl 5 rfl) ?_
    refine lv_iconst (v := nI 1) hx hb dL_law_573 (by decide) ?_
    refine lv_iadd hx hb dL_law_574 ?_
    refine gx_as (y := nI (i + 1)) (nI_add i 1) ?_
    refine va_sld hx hb hXs hbl hbA hS.2.2 (vp_in_nI (by omega) (by omega)) dL_law_575 ?_
    refine gx_as (y := x1) (by rw [nI_clamp (by omega)]; exact ex1) ?_
    refine gc_i (gx_runV (As := [.int x1]) (rest := []) ⟨hx, hb, hml, hown, hts⟩ hK hN hS 53 (by decide) rfl rfl (ct_X7_placeB l D cA o ad ln 68 H.size iv x1 (by decide) l1 (by rw [rr1]; exact hok)) (cwV 1 hts (atA_lV gL_law_X7_place) rfl rfl rfl (by decide +kernel) ⟨gle hRf rfl, gle hRl rfl⟩) rfl rfl hl.1 rfl (lv_room (Nat.le_of_ble_eq_true rfl)) dL_law_576 ⟨by omega, by omega⟩) hS hA (fun r2 iv2 H locs hp2 hS => ?_)
    obtain ⟨_, ev2⟩ := hp2
    have hth : iv2 53 0 = nI 1 := by rw [ev2, up2_s]; rfl
    have hLI : LI P T mc sc ch G Ad Sg w t ln iv2 := by rw [ev2]; exact LI_th h 1
    refine lv_istore (lv' := [(6, .int r2), (5, .int (nI 1)), (0, .ref b), (1, .ref (ad 0)), (2, .ref (ad 53)), (3, .ref (ad 67)), (4, .int (nI i))]) hx hb dL_law_579 hl (by decide) rfl (fun ls hl => ?_)
    refine lv_aload_n hx hb dL_law_581 rfl (lv_at hl 4 rfl) ?_
    refine gc_i (gx_runV (As := []) (rest := []) ⟨hx, hb, hml, hown, hts⟩ hK hN hS 53 (by decide) rfl rfl (ct_X7_thrown l D cA o ad ln 68 H.size iv2 (by decide) l1) (cwV 0 hts (atA_lV gL_law_X7_thrown) rfl rfl rfl (by decide +kernel) ⟨gle hRf rfl, gle hRl rfl⟩) rfl rfl hl.1 rfl (lv_room (Nat.le_of_ble_eq_true rfl)) dL_law_582 ⟨by omega, by omega⟩) hS hA (fun z9 iv9 H locs hp9 hS => ?_)
    obtain ⟨ez9, ev9⟩ := hp9
    rw [ev9] at hS
    refine gx_as (y := nI 1) (by rw [ez9]; exact hth) ?_
    refine lv_iload hx hb dL_law_585 (lv_at hl 1 rfl) ?_
    refine lv_icmp_eq (tgt := 592) hx hb dL_law_587 (by decide) (fun _ => ?_) (fun c9 => absurd rfl c9)
    refine lv_iload hx hb dL_law_592 (lv_at hl 1 rfl) ?_
    refine lv_if_ne (tgt := 609) hx hb dL_law_594 (by decide) (fun _ => ?_) (fun c9 => absurd c9 (by decide))
    refine lv_goto (tgt := 1147) hx hb dL_law_609 (by decide) ?_
    exact K _ _ _ _ _ _ _ _ _ P T mc sc ch G Ad Sg w t hLI (by omega) (by omega) hS (lv_sub hl [2, 3, 4, 5, 6] rfl)

set_option maxHeartbeats 4000000 in
set_option maxRecDepth 100000 in
theorem law_twist {p : Program} {l : Launch} {e : Env} {R : Room} {s : State} {m : MethodId} {below : List Frame} {meth : Method} {c : Code} {D : va_G} {cA : Nat → ClassId} {b L i : Nat} {xs : Nat → Int32} {Q : State → Prop} {o : Nat → Int64} {ad ln : Nat → Nat} {iv : Nat → Nat → Int32} {H : Heap} {locs : List Loc} {ls : Array Slot} {cells slots P T mc sc : Nat} {ch : Nat → Bool} {G Ad Sg : Nat → Nat → Nat} {w t : Nat → Nat} {x1 : Int32} (X : LX p l R s m c D cA b L xs) (hi : i + 3 < L) (ex1 : xs (i + 1) = x1) (h : LI P T mc sc ch G Ad Sg w t ln iv) (hcb : cells ≤ 500 + uC P T ln + i) (hsb : slots ≤ 500000 + uS P T ln + 2 * i) (hS : gS D cA (fun q => s.heap.size ≤ q) s.heap o ad ln iv 68 H locs) (hl : lv_has ls 8 [(0, .ref b), (1, .ref (ad 0)), (2, .ref (ad 53)), (3, .ref (ad 67)), (4, .int (nI i))]) (K : LK p l e R s m below meth c D cA b i Q) : W p l e R s m #[.ref b] below meth c H locs cells slots Q (F0 m 612 ls []) := by
  obtain ⟨hx, hb, hml, hown, hts, hXs, hbl, hK, hN, hX, hst, hRf, hRl, hRc, hRs, hL⟩ := X
  have hA : ∀ q : Nat, s.heap.size ≤ q → (fun q : Nat => s.heap.size ≤ q) q := fun _ h => h
  have hbA : ¬ (fun q : Nat => s.heap.size ≤ q) b := Nat.not_le.mpr hbl
  obtain ⟨⟨c1, c2, c3, c4, c5, c6, c7, c8, c9, c10, c11, c12⟩, ⟨l1, l2, l3⟩, ⟨a1, a2, a3, a4, a5, a6, a7, a8, a9, a10, a11, a12⟩, m0, s0, ⟨n1, n2, n3, n4⟩, ⟨rr1, rr2, rr3, rr4, rr5, rr6, rr7, rr8, rr9, rr10⟩, t0, o0⟩ := id h
  have hcP : cnt ch P ≤ P := inj_le_P pcs_inj
  have hu1 := uC_le P T ln
  have hu2 := uS_le c2 c4 ln
  have hff := ff_1680 P (by omega) (cnt ch P) (by omega)
  have hpw := pw_le4 c4 c7
  have hS9 := Nat.mul_le_mul hff hpw
  by_cases hok : ok9 x1 (nI P)
  · skip
    obtain ⟨p9, hp9, rfl⟩ := ok9_of (by omega) hok
    have hnl := num_lt c10 c11
    refine lv_aload_n hx hb dL_law_612 rfl (lv_at hl 1 rfl) ?_
    refine lv_aload_n hx hb dL_law_613 rfl (lv_at hl 0 rfl) ?_
    refine lv_iload hx hb dL_law_614 (lv_at hl 4 rfl) ?_
    refine lv_iconst (v := nI 1) hx hb dL_law_616 (by decide) ?_
    refine lv_iadd hx hb dL_law_617 ?_
    refine gx_as (y := nI (i + 1)) (nI_add i 1) ?_
    refine va_sld hx hb hXs hbl hbA hS.2.2 (vp_in_nI (by omega) (by omega)) dL_law_618 ?_
    refine gx_as (y := nI p9) (by rw [nI_clamp (by omega)]; exact ex1) ?_
    refine lv_aload_n hx hb dL_law_619 rfl (lv_at hl 3 rfl) ?_
    refine gc_oxM (hk_L_twist l D cA o ad ln 68 H.size iv (nI p9) (rm := { frames := 1, cells := 0, slots := 0, locals := 21 }) (mc := 0) (ms := 0) (by decide) rfl rfl (by decide) (by decide) (gMi_x (ct_X6_twist l D cA o ad ln 68 H.size iv p9 P (by decide) l1 l2 c2 a1 hp9 a11)) (fun r ad' ln' iv' q => by rw [q.1])) (fun hM => vx_runSW (As := [.ref (ad 0), .int (nI p9), .ref (ad 67)]) (rest := []) ⟨hx, hb, hml, hown, hts⟩ hM (vx_cwSW 3 hts (atA_lV gL_law_L_twist) rfl rfl rfl (by decide +kernel) ⟨gle hRf rfl, gle hRl rfl⟩) ⟨gPre_blind, fun U hU hW => ⟨rfl, hS.pre hK hN hU hW⟩⟩ rfl rfl hl.1 rfl (lv_room (Nat.le_of_ble_eq_true rfl)) dL_law_620 ⟨by omega, by omega⟩) hS hA (fun k9 o1 ad1 ln1 iv1 H locs hp1 hS => ?_)
    obtain ⟨ek, v1, ⟨rfl, rfl, hq⟩, eo⟩ := hp1
    obtain ⟨e1, ev1⟩ := hq
    rw [ev1] at hS
    refine gx_as (y := nI 0) ek ?_
    refine lv_istore (lv' := [(5, .int (nI 0)), (0, .ref b), (1, .ref (ad 0)), (2, .ref (ad 53)), (3, .ref (ad 67)), (4, .int (nI i))]) hx hb dL_law_623 hl (by decide) rfl (fun ls hl => ?_)
    refine lv_aload_n hx hb dL_law_625 rfl (lv_at hl 3 rfl) ?_
    refine lv_aload_n hx hb dL_law_626 rfl (lv_at hl 1 rfl) ?_
    refine lv_iload hx hb dL_law_627 (lv_at hl 5 rfl) ?_
    refine lv_iconst (v := nI 1) hx hb dL_law_629 (by decide) ?_
    refine lv_iadd hx hb dL_law_630 ?_
    refine gx_as (y := nI (i + 1)) (nI_add i 1) ?_
    refine va_sld hx hb hXs hbl hbA hS.2.2 (vp_in_nI (by omega) (by omega)) dL_law_631 ?_
    refine gx_as (y := nI p9) (by rw [nI_clamp (by omega)]; exact ex1) ?_
    refine gc_i (gx_runV (As := [.int (nI p9)]) (rest := []) ⟨hx, hb, hml, hown, hts⟩ hK hN hS 53 (by decide) rfl rfl (ct_X7_twist l D cA o1 ad ln 68 H.size iv p9 (num P T (cnt ch P) w t) P (cnt ch P) T (pcs ch P) (by decide) l1 l3 rr4 c7 rr2 c3 c4 rr1 c2 rr9 pcs_inj rr5 (by omega) hp9) (cwV 1 hts (atA_lV gL_law_X7_twist) rfl rfl rfl (by decide +kernel) ⟨gle hRf rfl, gle hRl rfl⟩) rfl rfl hl.1 rfl (lv_room (Nat.le_of_ble_eq_true rfl)) dL_law_632 ⟨by omega, by omega⟩) hS hA (fun r2 iv2 H locs hp2 hS => ?_)
    obtain ⟨f1, ⟨f2, f3⟩, f4⟩ := hp2
    have hreq : v1 = r2 := by
      rw [e1, a12 p9 hp9]
      rcases f1 with ⟨k9, hk9, ek9, er9⟩ | ⟨hno, er9⟩
      · obtain ⟨u1, u2, u3⟩ := pcs_ok hk9
        rw [ek9] at u2
        rw [u2, er9, if_neg (by decide), ← ek9, num_dt c3 c11 hk9]
        exact n1.2 k9 hk9
      · have u2 : ch p9 = false := by
          cases u : ch p9 with
          | false => rfl
          | true =>
            have hlt9 : cnt ch p9 < cnt ch P := by
              have h8 := cnt_mono ch (show p9 + 1 ≤ P from hp9)
              rw [cnt_s, if_pos u] at h8
              exact h8
            exact absurd (show pcs ch P (cnt ch p9) = p9 from fnd_eq hp9 u rfl) (hno _ hlt9)
        rw [u2, er9]
        rfl
    have hth : iv2 53 0 = nI 0 := f2
    have hLI : LI P T mc sc ch G Ad Sg w t ln iv2 := LI_fr h f3 (fun q hq9 => f4 q (fun u => by rw [u] at hq9; exact absurd hq9 (by decide)) (fun u => by rw [u] at hq9; exact absurd hq9 (by decide)) (fun u => by rw [u] at hq9; exact absurd hq9 (by decide))) (fun p hp => by rw [f4 33 (by decide) (by decide) (by decide)]; exact n3 p hp)
    refine lv_istore (lv' := [(6, .int r2), (5, .int (nI 0)), (0, .ref b), (1, .ref (ad 0)), (2, .ref (ad 53)), (3, .ref (ad 67)), (4, .int (nI i))]) hx hb dL_law_635 hl (by decide) rfl (fun ls hl => ?_)
    refine lv_aload_n hx hb dL_law_637 rfl (lv_at hl 4 rfl) ?_
    refine gc_i (gx_runV (As := []) (rest := []) ⟨hx, hb, hml, hown, hts⟩ hK hN hS 53 (by decide) rfl rfl (ct_X7_thrown l D cA o1 ad ln 68 H.size iv2 (by decide) l1) (cwV 0 hts (atA_lV gL_law_X7_thrown) rfl rfl rfl (by decide +kernel) ⟨gle hRf rfl, gle hRl rfl⟩) rfl rfl hl.1 rfl (lv_room (Nat.le_of_ble_eq_true rfl)) dL_law_638 ⟨by omega, by omega⟩) hS hA (fun z9 iv9 H locs hp9 hS => ?_)
    obtain ⟨ez9, ev9⟩ := hp9
    rw [ev9] at hS
    refine gx_as (y := nI 0) (by rw [ez9]; exact hth) ?_
    refine lv_iload hx hb dL_law_641 (lv_at hl 1 rfl) ?_
    refine lv_icmp_eq (tgt := 648) hx hb dL_law_643 (by decide) (fun _ => ?_) (fun c9 => absurd rfl c9)
    refine lv_iload hx hb dL_law_648 (lv_at hl 1 rfl) ?_
    refine lv_if_ne (tgt := 665) hx hb dL_law_650 (by decide) (fun c9 => absurd (by decide) c9) (fun _ => ?_)
    refine lv_aload_n hx hb dL_law_653 rfl (lv_at hl 5 rfl) ?_
    refine lv_iconst (v := nI 0) hx hb dL_law_654 (by decide) ?_
    refine gx_lald hx hb hK hS (by decide) dL_law_655 ?_
    refine gx_asl (y := Int32.toInt64 v1) (by rw [eo, va_up_self]) ?_
    refine lv_iload hx hb dL_law_656 (lv_at hl 0 rfl) ?_
    refine lv_i2l hx hb dL_law_658 rfl ?_
    refine W.lcmp hx hb dL_law_659 ?_
    refine gx_as (y := 0) (by rw [hreq]; exact lg_self _) ?_
    refine lv_if_eq (tgt := 665) hx hb dL_law_660 (by decide) (fun _ => ?_) (fun c9 => absurd (by decide) c9)
    refine lv_goto (tgt := 1147) hx hb dL_law_665 (by decide) ?_
    exact K _ _ _ _ _ _ _ _ _ P T mc sc ch G Ad Sg w t hLI (by omega) (by omega) hS (lv_sub hl [2, 3, 4, 5, 6] rfl)
  · skip
    refine lv_aload_n hx hb dL_law_612 rfl (lv_at hl 1 rfl) ?_
    refine lv_aload_n hx hb dL_law_613 rfl (lv_at hl 0 rfl) ?_
    refine lv_iload hx hb dL_law_614 (lv_at hl 4 rfl) ?_
    refine lv_iconst (v := nI 1) hx hb dL_law_616 (by decide) ?_
    refine lv_iadd hx hb dL_law_617 ?_
    refine gx_as (y := nI (i + 1)) (nI_add i 1) ?_
    refine va_sld hx hb hXs hbl hbA hS.2.2 (vp_in_nI (by omega) (by omega)) dL_law_618 ?_
    refine gx_as (y := x1) (by rw [nI_clamp (by omega)]; exact ex1) ?_
    refine lv_aload_n hx hb dL_law_619 rfl (lv_at hl 3 rfl) ?_
    refine gc_oxM (hx_L_twist l D cA o ad ln 68 H.size iv x1 (by decide) (cx_X6_twistT l hst D cA o ad ln 68 H.size iv x1 P (by decide) l1 a1 (ok9_no hok))) (fun hM => vx_runSW (As := [.ref (ad 0), .int x1, .ref (ad 67)]) (rest := []) ⟨hx, hb, hml, hown, hts⟩ hM (vx_cwSW 3 hts (atA_in gL_law_L_twist) rfl rfl rfl (by decide +kernel) ⟨gle hRf rfl, gle hRl rfl⟩) ⟨gPreX_blind, fun U hU hW => ⟨rfl, hS.preX hK hN hX hA hU hW⟩⟩ rfl rfl hl.1 rfl (lv_room (Nat.le_of_ble_eq_true rfl)) dL_law_620 ⟨by omega, by omega⟩) hS hA (fun k9 o1 ad1 ln1 iv1 H locs hp1 hS => ?_)
    obtain ⟨ek, rfl, rfl, rfl, rfl⟩ := hp1
    refine gx_as (y := nI 1) ek ?_
    refine lv_istore (lv' := [(5, .int (nI 1)), (0, .ref b), (1, .ref (ad 0)), (2, .ref (ad 53)), (3, .ref (ad 67)), (4, .int (nI i))]) hx hb dL_law_623 hl (by decide) rfl (fun ls hl => ?_)
    refine lv_aload_n hx hb dL_law_625 rfl (lv_at hl 3 rfl) ?_
    refine lv_aload_n hx hb dL_law_626 rfl (lv_at hl 1 rfl) ?_
    refine lv_iload hx hb dL_law_627 (lv_at hl 5 rfl) ?_
    refine lv_iconst (v := nI 1) hx hb dL_law_629 (by decide) ?_
    refine lv_iadd hx hb dL_law_630 ?_
    refine gx_as (y := nI (i + 1)) (nI_add i 1) ?_
    refine va_sld hx hb hXs hbl hbA hS.2.2 (vp_in_nI (by omega) (by omega)) dL_law_631 ?_
    refine gx_as (y := x1) (by rw [nI_clamp (by omega)]; exact ex1) ?_
    refine gc_i (gx_runV (As := [.int x1]) (rest := []) ⟨hx, hb, hml, hown, hts⟩ hK hN hS 53 (by decide) rfl rfl (ct_X7_twistB l D cA o ad ln 68 H.size iv x1 (by decide) l1 (by rw [rr1]; exact hok)) (cwV 1 hts (atA_lV gL_law_X7_twist) rfl rfl rfl (by decide +kernel) ⟨gle hRf rfl, gle hRl rfl⟩) rfl rfl hl.1 rfl (lv_room (Nat.le_of_ble_eq_true rfl)) dL_law_632 ⟨by omega, by omega⟩) hS hA (fun r2 iv2 H locs hp2 hS => ?_)
    obtain ⟨_, ev2⟩ := hp2
    have hth : iv2 53 0 = nI 1 := by rw [ev2, up2_s]; rfl
    have hLI : LI P T mc sc ch G Ad Sg w t ln iv2 := by rw [ev2]; exact LI_th h 1
    refine lv_istore (lv' := [(6, .int r2), (5, .int (nI 1)), (0, .ref b), (1, .ref (ad 0)), (2, .ref (ad 53)), (3, .ref (ad 67)), (4, .int (nI i))]) hx hb dL_law_635 hl (by decide) rfl (fun ls hl => ?_)
    refine lv_aload_n hx hb dL_law_637 rfl (lv_at hl 4 rfl) ?_
    refine gc_i (gx_runV (As := []) (rest := []) ⟨hx, hb, hml, hown, hts⟩ hK hN hS 53 (by decide) rfl rfl (ct_X7_thrown l D cA o ad ln 68 H.size iv2 (by decide) l1) (cwV 0 hts (atA_lV gL_law_X7_thrown) rfl rfl rfl (by decide +kernel) ⟨gle hRf rfl, gle hRl rfl⟩) rfl rfl hl.1 rfl (lv_room (Nat.le_of_ble_eq_true rfl)) dL_law_638 ⟨by omega, by omega⟩) hS hA (fun z9 iv9 H locs hp9 hS => ?_)
    obtain ⟨ez9, ev9⟩ := hp9
    rw [ev9] at hS
    refine gx_as (y := nI 1) (by rw [ez9]; exact hth) ?_
    refine lv_iload hx hb dL_law_641 (lv_at hl 1 rfl) ?_
    refine lv_icmp_eq (tgt := 648) hx hb dL_law_643 (by decide) (fun _ => ?_) (fun c9 => absurd rfl c9)
    refine lv_iload hx hb dL_law_648 (lv_at hl 1 rfl) ?_
    refine lv_if_ne (tgt := 665) hx hb dL_law_650 (by decide) (fun _ => ?_) (fun c9 => absurd c9 (by decide))
    refine lv_goto (tgt := 1147) hx hb dL_law_665 (by decide) ?_
    exact K _ _ _ _ _ _ _ _ _ P T mc sc ch G Ad Sg w t hLI (by omega) (by omega) hS (lv_sub hl [2, 3, 4, 5, 6] rfl)

set_option maxHeartbeats 4000000 in
set_option maxRecDepth 100000 in
theorem law_value {p : Program} {l : Launch} {e : Env} {R : Room} {s : State} {m : MethodId} {below : List Frame} {meth : Method} {c : Code} {D : va_G} {cA : Nat → ClassId} {b L i : Nat} {xs : Nat → Int32} {Q : State → Prop} {o : Nat → Int64} {ad ln : Nat → Nat} {iv : Nat → Nat → Int32} {H : Heap} {locs : List Loc} {ls : Array Slot} {cells slots P T mc sc : Nat} {ch : Nat → Bool} {G Ad Sg : Nat → Nat → Nat} {w t : Nat → Nat} {x1 : Int32} (X : LX p l R s m c D cA b L xs) (hi : i + 3 < L) (ex1 : xs (i + 1) = x1) (h : LI P T mc sc ch G Ad Sg w t ln iv) (hcb : cells ≤ 500 + uC P T ln + i) (hsb : slots ≤ 500000 + uS P T ln + 2 * i) (hS : gS D cA (fun q => s.heap.size ≤ q) s.heap o ad ln iv 68 H locs) (hl : lv_has ls 8 [(0, .ref b), (1, .ref (ad 0)), (2, .ref (ad 53)), (3, .ref (ad 67)), (4, .int (nI i))]) (K : LK p l e R s m below meth c D cA b i Q) : W p l e R s m #[.ref b] below meth c H locs cells slots Q (F0 m 729 ls []) := by
  obtain ⟨hx, hb, hml, hown, hts, hXs, hbl, hK, hN, hX, hst, hRf, hRl, hRc, hRs, hL⟩ := X
  have hA : ∀ q : Nat, s.heap.size ≤ q → (fun q : Nat => s.heap.size ≤ q) q := fun _ h => h
  have hbA : ¬ (fun q : Nat => s.heap.size ≤ q) b := Nat.not_le.mpr hbl
  obtain ⟨⟨c1, c2, c3, c4, c5, c6, c7, c8, c9, c10, c11, c12⟩, ⟨l1, l2, l3⟩, ⟨a1, a2, a3, a4, a5, a6, a7, a8, a9, a10, a11, a12⟩, m0, s0, ⟨n1, n2, n3, n4⟩, ⟨rr1, rr2, rr3, rr4, rr5, rr6, rr7, rr8, rr9, rr10⟩, t0, o0⟩ := id h
  have hcP : cnt ch P ≤ P := inj_le_P pcs_inj
  have hu1 := uC_le P T ln
  have hu2 := uS_le c2 c4 ln
  have hff := ff_1680 P (by omega) (cnt ch P) (by omega)
  have hpw := pw_le4 c4 c7
  have hS9 := Nat.mul_le_mul hff hpw
  by_cases hok : ok9 x1 (nI (ff P (cnt ch P) * T ^ cnt ch P))
  · skip
    obtain ⟨x9, hx9, rfl⟩ := ok9_of (by omega) hok
    have hj9 : iv 46 0 = 0 ∨ x9 < ln 47 := by
      rcases t0 with ⟨t1, _⟩ | ⟨_, _, _, _, _, _, _, _, _, t8, _⟩
      · exact Or.inl t1
      · exact Or.inr (by omega)
    refine lv_aload_n hx hb dL_law_729 rfl (lv_at hl 1 rfl) ?_
    refine lv_aload_n hx hb dL_law_730 rfl (lv_at hl 0 rfl) ?_
    refine lv_iload hx hb dL_law_731 (lv_at hl 4 rfl) ?_
    refine lv_iconst (v := nI 1) hx hb dL_law_733 (by decide) ?_
    refine lv_iadd hx hb dL_law_734 ?_
    refine gx_as (y := nI (i + 1)) (nI_add i 1) ?_
    refine va_sld hx hb hXs hbl hbA hS.2.2 (vp_in_nI (by omega) (by omega)) dL_law_735 ?_
    refine gx_as (y := nI x9) (by rw [nI_clamp (by omega)]; exact ex1) ?_
    refine lv_aload_n hx hb dL_law_736 rfl (lv_at hl 3 rfl) ?_
    refine gc_oxM (hk_L_value l D cA o ad ln 68 H.size iv (nI x9) (rm := { frames := 1, cells := 0, slots := 0, locals := 21 }) (mc := 0) (ms := 0) (by decide) rfl rfl (by decide) (by decide) (gMi_x (ct_X6_value l D cA o ad ln 68 H.size iv x9 P (cnt ch P) T (by decide) l1 c7 c4 c2 a8 a9 hx9 hj9)) (fun r ad' ln' iv' q => by rw [q.1])) (fun hM => vx_runSW (As := [.ref (ad 0), .int (nI x9), .ref (ad 67)]) (rest := []) ⟨hx, hb, hml, hown, hts⟩ hM (vx_cwSW 3 hts (atA_lV gL_law_L_value) rfl rfl rfl (by decide +kernel) ⟨gle hRf rfl, gle hRl rfl⟩) ⟨gPre_blind, fun U hU hW => ⟨rfl, hS.pre hK hN hU hW⟩⟩ rfl rfl hl.1 rfl (lv_room (Nat.le_of_ble_eq_true rfl)) dL_law_737 ⟨by omega, by omega⟩) hS hA (fun k9 o1 ad1 ln1 iv1 H locs hp1 hS => ?_)
    obtain ⟨ek, v1, ⟨rfl, rfl, hq⟩, eo⟩ := hp1
    obtain ⟨e1, ev1⟩ := hq
    rw [ev1] at hS
    refine gx_as (y := nI 0) ek ?_
    refine lv_istore (lv' := [(5, .int (nI 0)), (0, .ref b), (1, .ref (ad 0)), (2, .ref (ad 53)), (3, .ref (ad 67)), (4, .int (nI i))]) hx hb dL_law_740 hl (by decide) rfl (fun ls hl => ?_)
    refine lv_aload_n hx hb dL_law_742 rfl (lv_at hl 3 rfl) ?_
    refine lv_aload_n hx hb dL_law_743 rfl (lv_at hl 1 rfl) ?_
    refine lv_iload hx hb dL_law_744 (lv_at hl 5 rfl) ?_
    refine lv_iconst (v := nI 1) hx hb dL_law_746 (by decide) ?_
    refine lv_iadd hx hb dL_law_747 ?_
    refine gx_as (y := nI (i + 1)) (nI_add i 1) ?_
    refine va_sld hx hb hXs hbl hbA hS.2.2 (vp_in_nI (by omega) (by omega)) dL_law_748 ?_
    refine gx_as (y := nI x9) (by rw [nI_clamp (by omega)]; exact ex1) ?_
    refine gc_i (gx_runV (As := [.int (nI x9)]) (rest := []) ⟨hx, hb, hml, hown, hts⟩ hK hN hS 53 (by decide) rfl rfl (ct_X7_value l D cA o1 ad ln 68 H.size iv x9 P (cnt ch P) T (by decide) l1 l3 rr4 c7 rr2 c3 c4 rr1 c2 hcP hx9 (by omega)) (cwV 1 hts (atA_lV gL_law_X7_value) rfl rfl rfl (by decide +kernel) ⟨gle hRf rfl, gle hRl rfl⟩) rfl rfl hl.1 rfl (lv_room (Nat.le_of_ble_eq_true rfl)) dL_law_749 ⟨by omega, by omega⟩) hS hA (fun r2 iv2 H locs hp2 hS => ?_)
    obtain ⟨f1, ev2⟩ := hp2
    have hreq : v1 = r2 := by
      rw [e1, f1]
      rcases t0 with ⟨t1, t2⟩ | ⟨t1, t2, _, _, _, _, _, _, _, _, _, _, _, t12⟩
      · rw [if_pos t1, if_pos t2]
      · rw [if_neg (by rw [t1]; decide), if_neg (by rw [t2]; decide), t12 x9 hx9]
    have hth : iv2 53 0 = nI 0 := by rw [ev2, up2_s]; rfl
    have hLI : LI P T mc sc ch G Ad Sg w t ln iv2 := by rw [ev2]; exact LI_th h 0
    refine lv_istore (lv' := [(6, .int r2), (5, .int (nI 0)), (0, .ref b), (1, .ref (ad 0)), (2, .ref (ad 53)), (3, .ref (ad 67)), (4, .int (nI i))]) hx hb dL_law_752 hl (by decide) rfl (fun ls hl => ?_)
    refine lv_aload_n hx hb dL_law_754 rfl (lv_at hl 4 rfl) ?_
    refine gc_i (gx_runV (As := []) (rest := []) ⟨hx, hb, hml, hown, hts⟩ hK hN hS 53 (by decide) rfl rfl (ct_X7_thrown l D cA o1 ad ln 68 H.size iv2 (by decide) l1) (cwV 0 hts (atA_lV gL_law_X7_thrown) rfl rfl rfl (by decide +kernel) ⟨gle hRf rfl, gle hRl rfl⟩) rfl rfl hl.1 rfl (lv_room (Nat.le_of_ble_eq_true rfl)) dL_law_755 ⟨by omega, by omega⟩) hS hA (fun z9 iv9 H locs hp9 hS => ?_)
    obtain ⟨ez9, ev9⟩ := hp9
    rw [ev9] at hS
    refine gx_as (y := nI 0) (by rw [ez9]; exact hth) ?_
    refine lv_iload hx hb dL_law_758 (lv_at hl 1 rfl) ?_
    refine lv_icmp_eq (tgt := 765) hx hb dL_law_760 (by decide) (fun _ => ?_) (fun c9 => absurd rfl c9)
    refine lv_iload hx hb dL_law_765 (lv_at hl 1 rfl) ?_
    refine lv_if_ne (tgt := 782) hx hb dL_law_767 (by decide) (fun c9 => absurd (by decide) c9) (fun _ => ?_)
    refine lv_aload_n hx hb dL_law_770 rfl (lv_at hl 5 rfl) ?_
    refine lv_iconst (v := nI 0) hx hb dL_law_771 (by decide) ?_
    refine gx_lald hx hb hK hS (by decide) dL_law_772 ?_
    refine gx_asl (y := Int32.toInt64 v1) (by rw [eo, va_up_self]) ?_
    refine lv_iload hx hb dL_law_773 (lv_at hl 0 rfl) ?_
    refine lv_i2l hx hb dL_law_775 rfl ?_
    refine W.lcmp hx hb dL_law_776 ?_
    refine gx_as (y := 0) (by rw [hreq]; exact lg_self _) ?_
    refine lv_if_eq (tgt := 782) hx hb dL_law_777 (by decide) (fun _ => ?_) (fun c9 => absurd (by decide) c9)
    refine lv_goto (tgt := 1147) hx hb dL_law_782 (by decide) ?_
    exact K _ _ _ _ _ _ _ _ _ P T mc sc ch G Ad Sg w t hLI (by omega) (by omega) hS (lv_sub hl [2, 3, 4, 5, 6] rfl)
  · skip
    refine lv_aload_n hx hb dL_law_729 rfl (lv_at hl 1 rfl) ?_
    refine lv_aload_n hx hb dL_law_730 rfl (lv_at hl 0 rfl) ?_
    refine lv_iload hx hb dL_law_731 (lv_at hl 4 rfl) ?_
    refine lv_iconst (v := nI 1) hx hb dL_law_733 (by decide) ?_
    refine lv_iadd hx hb dL_law_734 ?_
    refine gx_as (y := nI (i + 1)) (nI_add i 1) ?_
    refine va_sld hx hb hXs hbl hbA hS.2.2 (vp_in_nI (by omega) (by omega)) dL_law_735 ?_
    refine gx_as (y := x1) (by rw [nI_clamp (by omega)]; exact ex1) ?_
    refine lv_aload_n hx hb dL_law_736 rfl (lv_at hl 3 rfl) ?_
    refine gc_oxM (hx_L_value l D cA o ad ln 68 H.size iv x1 (by decide) (cx_X6_valueT l hst D cA o ad ln 68 H.size iv x1 P T (cnt ch P) (by decide) l1 a8 a9 (ok9_no hok))) (fun hM => vx_runSW (As := [.ref (ad 0), .int x1, .ref (ad 67)]) (rest := []) ⟨hx, hb, hml, hown, hts⟩ hM (vx_cwSW 3 hts (atA_in gL_law_L_value) rfl rfl rfl (by decide +kernel) ⟨gle hRf rfl, gle hRl rfl⟩) ⟨gPreX_blind, fun U hU hW => ⟨rfl, hS.preX hK hN hX hA hU hW⟩⟩ rfl rfl hl.1 rfl (lv_room (Nat.le_of_ble_eq_true rfl)) dL_law_737 ⟨by omega, by omega⟩) hS hA (fun k9 o1 ad1 ln1 iv1 H locs hp1 hS => ?_)
    obtain ⟨ek, rfl, rfl, rfl, rfl⟩ := hp1
    refine gx_as (y := nI 1) ek ?_
    refine lv_istore (lv' := [(5, .int (nI 1)), (0, .ref b), (1, .ref (ad 0)), (2, .ref (ad 53)), (3, .ref (ad 67)), (4, .int (nI i))]) hx hb dL_law_740 hl (by decide) rfl (fun ls hl => ?_)
    refine lv_aload_n hx hb dL_law_742 rfl (lv_at hl 3 rfl) ?_
    refine lv_aload_n hx hb dL_law_743 rfl (lv_at hl 1 rfl) ?_
    refine lv_iload hx hb dL_law_744 (lv_at hl 5 rfl) ?_
    refine lv_iconst (v := nI 1) hx hb dL_law_746 (by decide) ?_
    refine lv_iadd hx hb dL_law_747 ?_
    refine gx_as (y := nI (i + 1)) (nI_add i 1) ?_
    refine va_sld hx hb hXs hbl hbA hS.2.2 (vp_in_nI (by omega) (by omega)) dL_law_748 ?_
    refine gx_as (y := x1) (by rw [nI_clamp (by omega)]; exact ex1) ?_
    refine gc_i (gx_runV (As := [.int x1]) (rest := []) ⟨hx, hb, hml, hown, hts⟩ hK hN hS 53 (by decide) rfl rfl (ct_X7_valueB l D cA o ad ln 68 H.size iv x1 P (cnt ch P) T (by decide) l1 rr4 c7 rr2 c3 c4 rr1 c2 hcP hok) (cwV 1 hts (atA_lV gL_law_X7_value) rfl rfl rfl (by decide +kernel) ⟨gle hRf rfl, gle hRl rfl⟩) rfl rfl hl.1 rfl (lv_room (Nat.le_of_ble_eq_true rfl)) dL_law_749 ⟨by omega, by omega⟩) hS hA (fun r2 iv2 H locs hp2 hS => ?_)
    obtain ⟨_, ev2⟩ := hp2
    have hth : iv2 53 0 = nI 1 := by rw [ev2, up2_s]; rfl
    have hLI : LI P T mc sc ch G Ad Sg w t ln iv2 := by rw [ev2]; exact LI_th h 1
    refine lv_istore (lv' := [(6, .int r2), (5, .int (nI 1)), (0, .ref b), (1, .ref (ad 0)), (2, .ref (ad 53)), (3, .ref (ad 67)), (4, .int (nI i))]) hx hb dL_law_752 hl (by decide) rfl (fun ls hl => ?_)
    refine lv_aload_n hx hb dL_law_754 rfl (lv_at hl 4 rfl) ?_
    refine gc_i (gx_runV (As := []) (rest := []) ⟨hx, hb, hml, hown, hts⟩ hK hN hS 53 (by decide) rfl rfl (ct_X7_thrown l D cA o ad ln 68 H.size iv2 (by decide) l1) (cwV 0 hts (atA_lV gL_law_X7_thrown) rfl rfl rfl (by decide +kernel) ⟨gle hRf rfl, gle hRl rfl⟩) rfl rfl hl.1 rfl (lv_room (Nat.le_of_ble_eq_true rfl)) dL_law_755 ⟨by omega, by omega⟩) hS hA (fun z9 iv9 H locs hp9 hS => ?_)
    obtain ⟨ez9, ev9⟩ := hp9
    rw [ev9] at hS
    refine gx_as (y := nI 1) (by rw [ez9]; exact hth) ?_
    refine lv_iload hx hb dL_law_758 (lv_at hl 1 rfl) ?_
    refine lv_icmp_eq (tgt := 765) hx hb dL_law_760 (by decide) (fun _ => ?_) (fun c9 => absurd rfl c9)
    refine lv_iload hx hb dL_law_765 (lv_at hl 1 rfl) ?_
    refine lv_if_ne (tgt := 782) hx hb dL_law_767 (by decide) (fun _ => ?_) (fun c9 => absurd c9 (by decide))
    refine lv_goto (tgt := 1147) hx hb dL_law_782 (by decide) ?_
    exact K _ _ _ _ _ _ _ _ _ P T mc sc ch G Ad Sg w t hLI (by omega) (by omega) hS (lv_sub hl [2, 3, 4, 5, 6] rfl)

set_option maxHeartbeats 4000000 in
set_option maxRecDepth 100000 in
theorem law_good {p : Program} {l : Launch} {e : Env} {R : Room} {s : State} {m : MethodId} {below : List Frame} {meth : Method} {c : Code} {D : va_G} {cA : Nat → ClassId} {b L i : Nat} {xs : Nat → Int32} {Q : State → Prop} {o : Nat → Int64} {ad ln : Nat → Nat} {iv : Nat → Nat → Int32} {H : Heap} {locs : List Loc} {ls : Array Slot} {cells slots P T mc sc : Nat} {ch : Nat → Bool} {G Ad Sg : Nat → Nat → Nat} {w t : Nat → Nat} {x1 : Int32} (X : LX p l R s m c D cA b L xs) (hi : i + 3 < L) (ex1 : xs (i + 1) = x1) (h : LI P T mc sc ch G Ad Sg w t ln iv) (hcb : cells ≤ 500 + uC P T ln + i) (hsb : slots ≤ 500000 + uS P T ln + 2 * i) (hS : gS D cA (fun q => s.heap.size ≤ q) s.heap o ad ln iv 68 H locs) (hl : lv_has ls 8 [(0, .ref b), (1, .ref (ad 0)), (2, .ref (ad 53)), (3, .ref (ad 67)), (4, .int (nI i))]) (K : LK p l e R s m below meth c D cA b i Q) : W p l e R s m #[.ref b] below meth c H locs cells slots Q (F0 m 990 ls []) := by
  obtain ⟨hx, hb, hml, hown, hts, hXs, hbl, hK, hN, hX, hst, hRf, hRl, hRc, hRs, hL⟩ := X
  have hA : ∀ q : Nat, s.heap.size ≤ q → (fun q : Nat => s.heap.size ≤ q) q := fun _ h => h
  have hbA : ¬ (fun q : Nat => s.heap.size ≤ q) b := Nat.not_le.mpr hbl
  obtain ⟨⟨c1, c2, c3, c4, c5, c6, c7, c8, c9, c10, c11, c12⟩, ⟨l1, l2, l3⟩, ⟨a1, a2, a3, a4, a5, a6, a7, a8, a9, a10, a11, a12⟩, m0, s0, ⟨n1, n2, n3, n4⟩, ⟨rr1, rr2, rr3, rr4, rr5, rr6, rr7, rr8, rr9, rr10⟩, t0, o0⟩ := id h
  have hcP : cnt ch P ≤ P := inj_le_P pcs_inj
  have hu1 := uC_le P T ln
  have hu2 := uS_le c2 c4 ln
  have hff := ff_1680 P (by omega) (cnt ch P) (by omega)
  have hpw := pw_le4 c4 c7
  have hS9 := Nat.mul_le_mul hff hpw
  by_cases hok : ok9 x1 (nI sc)
  · skip
    obtain ⟨z9, hz9, rfl⟩ := ok9_of (by omega) hok
    refine lv_aload_n hx hb dL_law_990 rfl (lv_at hl 1 rfl) ?_
    refine lv_aload_n hx hb dL_law_991 rfl (lv_at hl 0 rfl) ?_
    refine lv_iload hx hb dL_law_992 (lv_at hl 4 rfl) ?_
    refine lv_iconst (v := nI 1) hx hb dL_law_994 (by decide) ?_
    refine lv_iadd hx hb dL_law_995 ?_
    refine gx_as (y := nI (i + 1)) (nI_add i 1) ?_
    refine va_sld hx hb hXs hbl hbA hS.2.2 (vp_in_nI (by omega) (by omega)) dL_law_996 ?_
    refine gx_as (y := nI z9) (by rw [nI_clamp (by omega)]; exact ex1) ?_
    refine lv_aload_n hx hb dL_law_997 rfl (lv_at hl 3 rfl) ?_
    refine gc_oxM (hk_L_good l D cA o ad ln 68 H.size iv (nI z9) (rm := { frames := 3, cells := 0, slots := 0, locals := 69 }) (mc := 0) (ms := 0) (by decide) rfl rfl (by decide) (by decide) (gMi_x (ct_X6_good l D cA o ad ln 68 H.size iv z9 P mc sc (by decide) l1 l2 c2 a4 c6 hz9 a1 a3 c5 (fun j hj p hp => by rw [((m0 j hj).2 p hp).1]; exact vp_in_nI ((m0 j hj).2 p hp).2.1 (by omega)) (fun p hp => by rw [s0 z9 hz9 p hp]; exact vp_in_nI ((c9 z9).1 p hp) (by omega)) a11)) (fun r ad' ln' iv' q => ⟨q.2.2.1, by rw [q.1]⟩)) (fun hM => vx_runSW (As := [.ref (ad 0), .int (nI z9), .ref (ad 67)]) (rest := []) ⟨hx, hb, hml, hown, hts⟩ hM (vx_cwSW 3 hts (atA_lV gL_law_L_good) rfl rfl rfl (by decide +kernel) ⟨gle hRf rfl, gle hRl rfl⟩) ⟨gPre_blind, fun U hU hW => ⟨rfl, hS.pre hK hN hU hW⟩⟩ rfl rfl hl.1 rfl (lv_room (Nat.le_of_ble_eq_true rfl)) dL_law_998 ⟨by omega, by omega⟩) hS hA (fun k9 o1 ad1 ln1 iv1 H locs hp1 hS => ?_)
    obtain ⟨ek, v1, ⟨rfl, rfl, hq⟩, eo⟩ := hp1
    obtain ⟨h01, e1, ev1⟩ := hq
    rw [ev1] at hS
    refine gx_as (y := nI 0) ek ?_
    refine lv_istore (lv' := [(5, .int (nI 0)), (0, .ref b), (1, .ref (ad 0)), (2, .ref (ad 53)), (3, .ref (ad 67)), (4, .int (nI i))]) hx hb dL_law_1001 hl (by decide) rfl (fun ls hl => ?_)
    refine lv_aload_n hx hb dL_law_1003 rfl (lv_at hl 3 rfl) ?_
    refine lv_aload_n hx hb dL_law_1004 rfl (lv_at hl 1 rfl) ?_
    refine lv_iload hx hb dL_law_1005 (lv_at hl 5 rfl) ?_
    refine lv_iconst (v := nI 1) hx hb dL_law_1007 (by decide) ?_
    refine lv_iadd hx hb dL_law_1008 ?_
    refine gx_as (y := nI (i + 1)) (nI_add i 1) ?_
    refine va_sld hx hb hXs hbl hbA hS.2.2 (vp_in_nI (by omega) (by omega)) dL_law_1009 ?_
    refine gx_as (y := nI z9) (by rw [nI_clamp (by omega)]; exact ex1) ?_
    refine gc_i (gx_runV (As := [.int (nI z9)]) (rest := []) ⟨hx, hb, hml, hown, hts⟩ hK hN hS 53 (by decide) rfl rfl (ct_X7_good l D cA o1 ad ln 68 H.size iv z9 P T mc sc (Sg z9) G Ad ch (by decide) l1 l3 rr1 c2 c4 rr3 c5 (by omega) (rr10 z9 hz9) rr7 rr8 rr6 c6 hz9) (cwV 1 hts (atA_lV gL_law_X7_good) rfl rfl rfl (by decide +kernel) ⟨gle hRf rfl, gle hRl rfl⟩) rfl rfl hl.1 rfl (lv_room (Nat.le_of_ble_eq_true rfl)) dL_law_1010 ⟨by omega, by omega⟩) hS hA (fun r2 iv2 H locs hp2 hS => ?_)
    obtain ⟨h02, f1, ev2⟩ := hp2
    have hreq : v1 = r2 := by
      have gdeq := good_both (mc := mc) (k := 21 + z9) c2 c4 (fun q hq9 => m0 q (by omega)) (fun p hp => ⟨s0 z9 hz9 p hp, (c9 z9).1 p hp⟩) (c9 z9) a12
      rw [gdeq, ← f1] at e1
      rcases h01 with u | u <;> rcases h02 with v | v
      · rw [u, v]
      · rw [u, v] at e1; exact absurd (e1.mpr rfl) (by decide)
      · rw [u, v] at e1; exact absurd (e1.mp rfl) (by decide)
      · rw [u, v]
    have hth : iv2 53 0 = nI 0 := by rw [ev2, up2_s]; rfl
    have hLI : LI P T mc sc ch G Ad Sg w t ln iv2 := by rw [ev2]; exact LI_th h 0
    rcases h02 with e2 | e2
    · skip
      refine lv_istore (lv' := [(6, .int r2), (5, .int (nI 0)), (0, .ref b), (1, .ref (ad 0)), (2, .ref (ad 53)), (3, .ref (ad 67)), (4, .int (nI i))]) hx hb dL_law_1013 hl (by decide) rfl (fun ls hl => ?_)
      refine lv_aload_n hx hb dL_law_1015 rfl (lv_at hl 4 rfl) ?_
      refine gc_i (gx_runV (As := []) (rest := []) ⟨hx, hb, hml, hown, hts⟩ hK hN hS 53 (by decide) rfl rfl (ct_X7_thrown l D cA o1 ad ln 68 H.size iv2 (by decide) l1) (cwV 0 hts (atA_lV gL_law_X7_thrown) rfl rfl rfl (by decide +kernel) ⟨gle hRf rfl, gle hRl rfl⟩) rfl rfl hl.1 rfl (lv_room (Nat.le_of_ble_eq_true rfl)) dL_law_1016 ⟨by omega, by omega⟩) hS hA (fun z9 iv9 H locs hp9 hS => ?_)
      obtain ⟨ez9, ev9⟩ := hp9
      rw [ev9] at hS
      refine gx_as (y := nI 0) (by rw [ez9]; exact hth) ?_
      refine lv_iload hx hb dL_law_1019 (lv_at hl 1 rfl) ?_
      refine lv_icmp_eq (tgt := 1026) hx hb dL_law_1021 (by decide) (fun _ => ?_) (fun c9 => absurd rfl c9)
      refine lv_iload hx hb dL_law_1026 (lv_at hl 1 rfl) ?_
      refine lv_if_ne (tgt := 1050) hx hb dL_law_1028 (by decide) (fun c9 => absurd (by decide) c9) (fun _ => ?_)
      refine lv_aload_n hx hb dL_law_1031 rfl (lv_at hl 5 rfl) ?_
      refine lv_iconst (v := nI 0) hx hb dL_law_1032 (by decide) ?_
      refine gx_lald hx hb hK hS (by decide) dL_law_1033 ?_
      refine gx_asl (y := Int32.toInt64 v1) (by rw [eo, va_up_self]) ?_
      refine lv_iload hx hb dL_law_1034 (lv_at hl 0 rfl) ?_
      refine lv_if_eq (tgt := 1043) hx hb dL_law_1036 (by decide) (fun _ => ?_) (fun c9 => absurd e2 c9)
      refine lv_lconst (v := 0) hx hb dL_law_1043 (by decide) ?_
      refine W.lcmp hx hb dL_law_1044 ?_
      refine gx_as (y := 0) (by rw [hreq, e2]; rfl) ?_
      refine lv_if_eq (tgt := 1050) hx hb dL_law_1045 (by decide) (fun _ => ?_) (fun c9 => absurd (by decide) c9)
      refine lv_goto (tgt := 1147) hx hb dL_law_1050 (by decide) ?_
      exact K _ _ _ _ _ _ _ _ _ P T mc sc ch G Ad Sg w t hLI (by omega) (by omega) hS (lv_sub hl [2, 3, 4, 5, 6] rfl)
    · skip
      refine lv_istore (lv' := [(6, .int r2), (5, .int (nI 0)), (0, .ref b), (1, .ref (ad 0)), (2, .ref (ad 53)), (3, .ref (ad 67)), (4, .int (nI i))]) hx hb dL_law_1013 hl (by decide) rfl (fun ls hl => ?_)
      refine lv_aload_n hx hb dL_law_1015 rfl (lv_at hl 4 rfl) ?_
      refine gc_i (gx_runV (As := []) (rest := []) ⟨hx, hb, hml, hown, hts⟩ hK hN hS 53 (by decide) rfl rfl (ct_X7_thrown l D cA o1 ad ln 68 H.size iv2 (by decide) l1) (cwV 0 hts (atA_lV gL_law_X7_thrown) rfl rfl rfl (by decide +kernel) ⟨gle hRf rfl, gle hRl rfl⟩) rfl rfl hl.1 rfl (lv_room (Nat.le_of_ble_eq_true rfl)) dL_law_1016 ⟨by omega, by omega⟩) hS hA (fun z9 iv9 H locs hp9 hS => ?_)
      obtain ⟨ez9, ev9⟩ := hp9
      rw [ev9] at hS
      refine gx_as (y := nI 0) (by rw [ez9]; exact hth) ?_
      refine lv_iload hx hb dL_law_1019 (lv_at hl 1 rfl) ?_
      refine lv_icmp_eq (tgt := 1026) hx hb dL_law_1021 (by decide) (fun _ => ?_) (fun c9 => absurd rfl c9)
      refine lv_iload hx hb dL_law_1026 (lv_at hl 1 rfl) ?_
      refine lv_if_ne (tgt := 1050) hx hb dL_law_1028 (by decide) (fun c9 => absurd (by decide) c9) (fun _ => ?_)
      refine lv_aload_n hx hb dL_law_1031 rfl (lv_at hl 5 rfl) ?_
      refine lv_iconst (v := nI 0) hx hb dL_law_1032 (by decide) ?_
      refine gx_lald hx hb hK hS (by decide) dL_law_1033 ?_
      refine gx_asl (y := Int32.toInt64 v1) (by rw [eo, va_up_self]) ?_
      refine lv_iload hx hb dL_law_1034 (lv_at hl 0 rfl) ?_
      refine lv_if_eq (tgt := 1043) hx hb dL_law_1036 (by decide) (fun c9 => absurd c9 (by rw [e2]; decide)) (fun _ => ?_)
      refine lv_lconst (v := 1) hx hb dL_law_1039 (by decide) ?_
      refine lv_goto (tgt := 1044) hx hb dL_law_1040 (by decide) ?_
      refine W.lcmp hx hb dL_law_1044 ?_
      refine gx_as (y := 0) (by rw [hreq, e2]; rfl) ?_
      refine lv_if_eq (tgt := 1050) hx hb dL_law_1045 (by decide) (fun _ => ?_) (fun c9 => absurd (by decide) c9)
      refine lv_goto (tgt := 1147) hx hb dL_law_1050 (by decide) ?_
      exact K _ _ _ _ _ _ _ _ _ P T mc sc ch G Ad Sg w t hLI (by omega) (by omega) hS (lv_sub hl [2, 3, 4, 5, 6] rfl)
  · skip
    refine lv_aload_n hx hb dL_law_990 rfl (lv_at hl 1 rfl) ?_
    refine lv_aload_n hx hb dL_law_991 rfl (lv_at hl 0 rfl) ?_
    refine lv_iload hx hb dL_law_992 (lv_at hl 4 rfl) ?_
    refine lv_iconst (v := nI 1) hx hb dL_law_994 (by decide) ?_
    refine lv_iadd hx hb dL_law_995 ?_
    refine gx_as (y := nI (i + 1)) (nI_add i 1) ?_
    refine va_sld hx hb hXs hbl hbA hS.2.2 (vp_in_nI (by omega) (by omega)) dL_law_996 ?_
    refine gx_as (y := x1) (by rw [nI_clamp (by omega)]; exact ex1) ?_
    refine lv_aload_n hx hb dL_law_997 rfl (lv_at hl 3 rfl) ?_
    refine gc_oxM (hx_L_good l D cA o ad ln 68 H.size iv x1 (by decide) (cx_X6_goodT l hst D cA o ad ln 68 H.size iv x1 sc (by decide) l1 a4 (ok9_no hok))) (fun hM => vx_runSW (As := [.ref (ad 0), .int x1, .ref (ad 67)]) (rest := []) ⟨hx, hb, hml, hown, hts⟩ hM (vx_cwSW 3 hts (atA_in gL_law_L_good) rfl rfl rfl (by decide +kernel) ⟨gle hRf rfl, gle hRl rfl⟩) ⟨gPreX_blind, fun U hU hW => ⟨rfl, hS.preX hK hN hX hA hU hW⟩⟩ rfl rfl hl.1 rfl (lv_room (Nat.le_of_ble_eq_true rfl)) dL_law_998 ⟨by omega, by omega⟩) hS hA (fun k9 o1 ad1 ln1 iv1 H locs hp1 hS => ?_)
    obtain ⟨ek, rfl, rfl, rfl, rfl⟩ := hp1
    refine gx_as (y := nI 1) ek ?_
    refine lv_istore (lv' := [(5, .int (nI 1)), (0, .ref b), (1, .ref (ad 0)), (2, .ref (ad 53)), (3, .ref (ad 67)), (4, .int (nI i))]) hx hb dL_law_1001 hl (by decide) rfl (fun ls hl => ?_)
    refine lv_aload_n hx hb dL_law_1003 rfl (lv_at hl 3 rfl) ?_
    refine lv_aload_n hx hb dL_law_1004 rfl (lv_at hl 1 rfl) ?_
    refine lv_iload hx hb dL_law_1005 (lv_at hl 5 rfl) ?_
    refine lv_iconst (v := nI 1) hx hb dL_law_1007 (by decide) ?_
    refine lv_iadd hx hb dL_law_1008 ?_
    refine gx_as (y := nI (i + 1)) (nI_add i 1) ?_
    refine va_sld hx hb hXs hbl hbA hS.2.2 (vp_in_nI (by omega) (by omega)) dL_law_1009 ?_
    refine gx_as (y := x1) (by rw [nI_clamp (by omega)]; exact ex1) ?_
    refine gc_i (gx_runV (As := [.int x1]) (rest := []) ⟨hx, hb, hml, hown, hts⟩ hK hN hS 53 (by decide) rfl rfl (ct_X7_goodB l D cA o ad ln 68 H.size iv x1 (by decide) l1 (by rw [rr6]; exact hok)) (cwV 1 hts (atA_lV gL_law_X7_good) rfl rfl rfl (by decide +kernel) ⟨gle hRf rfl, gle hRl rfl⟩) rfl rfl hl.1 rfl (lv_room (Nat.le_of_ble_eq_true rfl)) dL_law_1010 ⟨by omega, by omega⟩) hS hA (fun r2 iv2 H locs hp2 hS => ?_)
    obtain ⟨_, _, ev2⟩ := hp2
    have hth : iv2 53 0 = nI 1 := by rw [ev2, up2_s]; rfl
    have hLI : LI P T mc sc ch G Ad Sg w t ln iv2 := by rw [ev2]; exact LI_th h 1
    refine lv_istore (lv' := [(6, .int r2), (5, .int (nI 1)), (0, .ref b), (1, .ref (ad 0)), (2, .ref (ad 53)), (3, .ref (ad 67)), (4, .int (nI i))]) hx hb dL_law_1013 hl (by decide) rfl (fun ls hl => ?_)
    refine lv_aload_n hx hb dL_law_1015 rfl (lv_at hl 4 rfl) ?_
    refine gc_i (gx_runV (As := []) (rest := []) ⟨hx, hb, hml, hown, hts⟩ hK hN hS 53 (by decide) rfl rfl (ct_X7_thrown l D cA o ad ln 68 H.size iv2 (by decide) l1) (cwV 0 hts (atA_lV gL_law_X7_thrown) rfl rfl rfl (by decide +kernel) ⟨gle hRf rfl, gle hRl rfl⟩) rfl rfl hl.1 rfl (lv_room (Nat.le_of_ble_eq_true rfl)) dL_law_1016 ⟨by omega, by omega⟩) hS hA (fun z9 iv9 H locs hp9 hS => ?_)
    obtain ⟨ez9, ev9⟩ := hp9
    rw [ev9] at hS
    refine gx_as (y := nI 1) (by rw [ez9]; exact hth) ?_
    refine lv_iload hx hb dL_law_1019 (lv_at hl 1 rfl) ?_
    refine lv_icmp_eq (tgt := 1026) hx hb dL_law_1021 (by decide) (fun _ => ?_) (fun c9 => absurd rfl c9)
    refine lv_iload hx hb dL_law_1026 (lv_at hl 1 rfl) ?_
    refine lv_if_ne (tgt := 1050) hx hb dL_law_1028 (by decide) (fun _ => ?_) (fun c9 => absurd c9 (by decide))
    refine lv_goto (tgt := 1147) hx hb dL_law_1050 (by decide) ?_
    exact K _ _ _ _ _ _ _ _ _ P T mc sc ch G Ad Sg w t hLI (by omega) (by omega) hS (lv_sub hl [2, 3, 4, 5, 6] rfl)

set_option maxHeartbeats 4000000 in
set_option maxRecDepth 100000 in
theorem law_packed {p : Program} {l : Launch} {e : Env} {R : Room} {s : State} {m : MethodId} {below : List Frame} {meth : Method} {c : Code} {D : va_G} {cA : Nat → ClassId} {b L i : Nat} {xs : Nat → Int32} {Q : State → Prop} {o : Nat → Int64} {ad ln : Nat → Nat} {iv : Nat → Nat → Int32} {H : Heap} {locs : List Loc} {ls : Array Slot} {cells slots P T mc sc : Nat} {ch : Nat → Bool} {G Ad Sg : Nat → Nat → Nat} {w t : Nat → Nat} {x1 x2 : Int32} (X : LX p l R s m c D cA b L xs) (hi : i + 3 < L) (ex1 : xs (i + 1) = x1) (ex2 : xs (i + 2) = x2) (h : LI P T mc sc ch G Ad Sg w t ln iv) (hcb : cells ≤ 500 + uC P T ln + i) (hsb : slots ≤ 500000 + uS P T ln + 2 * i) (hS : gS D cA (fun q => s.heap.size ≤ q) s.heap o ad ln iv 68 H locs) (hl : lv_has ls 8 [(0, .ref b), (1, .ref (ad 0)), (2, .ref (ad 53)), (3, .ref (ad 67)), (4, .int (nI i))]) (K : LK p l e R s m below meth c D cA b i Q) : W p l e R s m #[.ref b] below meth c H locs cells slots Q (F0 m 810 ls []) := by
  obtain ⟨hx, hb, hml, hown, hts, hXs, hbl, hK, hN, hX, hst, hRf, hRl, hRc, hRs, hL⟩ := X
  have hA : ∀ q : Nat, s.heap.size ≤ q → (fun q : Nat => s.heap.size ≤ q) q := fun _ h => h
  have hbA : ¬ (fun q : Nat => s.heap.size ≤ q) b := Nat.not_le.mpr hbl
  obtain ⟨⟨c1, c2, c3, c4, c5, c6, c7, c8, c9, c10, c11, c12⟩, ⟨l1, l2, l3⟩, ⟨a1, a2, a3, a4, a5, a6, a7, a8, a9, a10, a11, a12⟩, m0, s0, ⟨n1, n2, n3, n4⟩, ⟨rr1, rr2, rr3, rr4, rr5, rr6, rr7, rr8, rr9, rr10⟩, t0, o0⟩ := id h
  have hcP : cnt ch P ≤ P := inj_le_P pcs_inj
  have hu1 := uC_le P T ln
  have hu2 := uS_le c2 c4 ln
  have hff := ff_1680 P (by omega) (cnt ch P) (by omega)
  have hpw := pw_le4 c4 c7
  have hS9 := Nat.mul_le_mul hff hpw
  by_cases hb2 : x1 = nI 2
  · skip
    subst hb2
    · skip
      rcases t0 with ⟨t1, t2⟩ | ⟨t1, t2, kq, bs, t3, t4, t5, t6, t7, t8, t9, t10, t11, t12⟩
      · skip
        refine lv_aload_n hx hb dL_law_810 rfl (lv_at hl 1 rfl) ?_
        refine lv_aload_n hx hb dL_law_811 rfl (lv_at hl 0 rfl) ?_
        refine lv_iload hx hb dL_law_812 (lv_at hl 4 rfl) ?_
        refine lv_iconst (v := nI 1) hx hb dL_law_814 (by decide) ?_
        refine lv_iadd hx hb dL_law_815 ?_
        refine gx_as (y := nI (i + 1)) (nI_add i 1) ?_
        refine va_sld hx hb hXs hbl hbA hS.2.2 (vp_in_nI (by omega) (by omega)) dL_law_816 ?_
        refine gx_as (y := nI 2) (by rw [nI_clamp (by omega)]; exact ex1) ?_
        refine lv_aload_n hx hb dL_law_817 rfl (lv_at hl 0 rfl) ?_
        refine lv_iload hx hb dL_law_818 (lv_at hl 4 rfl) ?_
        refine lv_iconst (v := nI 2) hx hb dL_law_820 (by decide) ?_
        refine lv_iadd hx hb dL_law_821 ?_
        refine gx_as (y := nI (i + 2)) (nI_add i 2) ?_
        refine va_sld hx hb hXs hbl hbA hS.2.2 (vp_in_nI (by omega) (by omega)) dL_law_822 ?_
        refine gx_as (y := x2) (by rw [nI_clamp (by omega)]; exact ex2) ?_
        refine lv_aload_n hx hb dL_law_823 rfl (lv_at hl 3 rfl) ?_
        refine gc_oxM (hk_L_packed l D cA o ad ln 68 H.size iv (nI 2) x2 (rm := { frames := 3, cells := 0, slots := 0, locals := 72 }) (by decide) rfl rfl (by decide) (by decide) (ct_X6_packed l D cA o ad ln 68 H.size iv 2 (ff P (cnt ch P) * T ^ cnt ch P) x2 (by decide) l1 (by decide) (fun q => absurd t1 q))) (fun hM => vx_runSW (As := [.ref (ad 0), .int (nI 2), .int x2, .ref (ad 67)]) (rest := []) ⟨hx, hb, hml, hown, hts⟩ hM (vx_cwSW 4 hts (atA_lV gL_law_L_packed) rfl rfl rfl (by decide +kernel) ⟨gle hRf rfl, gle hRl rfl⟩) ⟨gPre_blind, fun U hU hW => ⟨rfl, hS.pre hK hN hU hW⟩⟩ rfl rfl hl.1 rfl (lv_room (Nat.le_of_ble_eq_true rfl)) dL_law_824 ⟨by omega, by omega⟩) hS hA (fun k9 o1 ad1 ln1 iv1 H locs hp1 hS => ?_)
        obtain ⟨ek, v1, hq, eo, rfl, rfl⟩ := hp1
        obtain ⟨e1, ev1⟩ := hq
        rw [ev1] at hS
        refine gx_as (y := nI 0) ek ?_
        refine lv_istore (lv' := [(5, .int (nI 0)), (0, .ref b), (1, .ref (ad 0)), (2, .ref (ad 53)), (3, .ref (ad 67)), (4, .int (nI i))]) hx hb dL_law_827 hl (by decide) rfl (fun ls hl => ?_)
        refine lv_aload_n hx hb dL_law_829 rfl (lv_at hl 3 rfl) ?_
        refine lv_aload_n hx hb dL_law_830 rfl (lv_at hl 1 rfl) ?_
        refine lv_iload hx hb dL_law_831 (lv_at hl 5 rfl) ?_
        refine lv_iconst (v := nI 1) hx hb dL_law_833 (by decide) ?_
        refine lv_iadd hx hb dL_law_834 ?_
        refine gx_as (y := nI (i + 1)) (nI_add i 1) ?_
        refine va_sld hx hb hXs hbl hbA hS.2.2 (vp_in_nI (by omega) (by omega)) dL_law_835 ?_
        refine gx_as (y := nI 2) (by rw [nI_clamp (by omega)]; exact ex1) ?_
        refine lv_aload_n hx hb dL_law_836 rfl (lv_at hl 1 rfl) ?_
        refine lv_iload hx hb dL_law_837 (lv_at hl 5 rfl) ?_
        refine lv_iconst (v := nI 2) hx hb dL_law_839 (by decide) ?_
        refine lv_iadd hx hb dL_law_840 ?_
        refine gx_as (y := nI (i + 2)) (nI_add i 2) ?_
        refine va_sld hx hb hXs hbl hbA hS.2.2 (vp_in_nI (by omega) (by omega)) dL_law_841 ?_
        refine gx_as (y := x2) (by rw [nI_clamp (by omega)]; exact ex2) ?_
        refine gc_l (gx_runV (As := [.int (nI 2), .int x2]) (rest := []) ⟨hx, hb, hml, hown, hts⟩ hK hN hS 53 (by decide) rfl rfl (ct_X7_packedZ l D cA o1 ad ln 68 H.size iv 2 x2 (by decide) l1 (by decide) (Or.inl t2)) (cwV 2 hts (atA_lV gL_law_X7_packed) rfl rfl rfl (by decide +kernel) ⟨gle hRf rfl, gle hRl rfl⟩) rfl rfl hl.1 rfl (lv_room (Nat.le_of_ble_eq_true rfl)) dL_law_842 ⟨by omega, by omega⟩) hS hA (fun r2 iv2 H locs hp2 hS => ?_)
        obtain ⟨f1, ev2⟩ := hp2
        have hreq : v1 = r2 := by rw [e1, f1, if_pos t1]
        have hth : iv2 53 0 = nI 0 := by rw [ev2, up2_s]; rfl
        have hLI : LI P T mc sc ch G Ad Sg w t ln iv2 := by rw [ev2]; exact LI_th h 0
        refine lv_lstore (lv' := [(6, .long r2), (5, .int (nI 0)), (0, .ref b), (1, .ref (ad 0)), (2, .ref (ad 53)), (3, .ref (ad 67)), (4, .int (nI i))]) hx hb dL_law_845 hl (by decide) rfl (fun ls hl => ?_)
        refine lv_aload_n hx hb dL_law_847 rfl (lv_at hl 4 rfl) ?_
        refine gc_i (gx_runV (As := []) (rest := []) ⟨hx, hb, hml, hown, hts⟩ hK hN hS 53 (by decide) rfl rfl (ct_X7_thrown l D cA o1 ad ln 68 H.size iv2 (by decide) l1) (cwV 0 hts (atA_lV gL_law_X7_thrown) rfl rfl rfl (by decide +kernel) ⟨gle hRf rfl, gle hRl rfl⟩) rfl rfl hl.1 rfl (lv_room (Nat.le_of_ble_eq_true rfl)) dL_law_848 ⟨by omega, by omega⟩) hS hA (fun z9 iv9 H locs hp9 hS => ?_)
        obtain ⟨ez9, ev9⟩ := hp9
        rw [ev9] at hS
        refine gx_as (y := nI 0) (by rw [ez9]; exact hth) ?_
        refine lv_iload hx hb dL_law_851 (lv_at hl 1 rfl) ?_
        refine lv_icmp_eq (tgt := 858) hx hb dL_law_853 (by decide) (fun _ => ?_) (fun c9 => absurd rfl c9)
        refine lv_iload hx hb dL_law_858 (lv_at hl 1 rfl) ?_
        refine lv_if_ne (tgt := 874) hx hb dL_law_860 (by decide) (fun c9 => absurd (by decide) c9) (fun _ => ?_)
        refine lv_aload_n hx hb dL_law_863 rfl (lv_at hl 5 rfl) ?_
        refine lv_iconst (v := nI 0) hx hb dL_law_864 (by decide) ?_
        refine gx_lald hx hb hK hS (by decide) dL_law_865 ?_
        refine gx_asl (y := v1) (by rw [eo, va_up_self]) ?_
        refine lv_lload hx hb dL_law_866 (lv_at hl 0 rfl) ?_
        refine W.lcmp hx hb dL_law_868 ?_
        refine gx_as (y := 0) (by rw [hreq]; exact lg_self _) ?_
        refine lv_if_eq (tgt := 874) hx hb dL_law_869 (by decide) (fun _ => ?_) (fun c9 => absurd (by decide) c9)
        refine lv_goto (tgt := 1147) hx hb dL_law_874 (by decide) ?_
        exact K _ _ _ _ _ _ _ _ _ P T mc sc ch G Ad Sg w t hLI (by omega) (by omega) hS (lv_sub hl [2, 3, 4, 5, 6] rfl)
      · skip
        have hC9 := bOk_C t10.1
        have hS0 : 0 < (ff P (cnt ch P) * T ^ cnt ch P) := Nat.lt_of_lt_of_le t10.2.2.2.2.2 hC9
        by_cases hz : x2 < 0 ∨ nI 136080 < x2
        · skip
          refine lv_aload_n hx hb dL_law_810 rfl (lv_at hl 1 rfl) ?_
          refine lv_aload_n hx hb dL_law_811 rfl (lv_at hl 0 rfl) ?_
          refine lv_iload hx hb dL_law_812 (lv_at hl 4 rfl) ?_
          refine lv_iconst (v := nI 1) hx hb dL_law_814 (by decide) ?_
          refine lv_iadd hx hb dL_law_815 ?_
          refine gx_as (y := nI (i + 1)) (nI_add i 1) ?_
          refine va_sld hx hb hXs hbl hbA hS.2.2 (vp_in_nI (by omega) (by omega)) dL_law_816 ?_
          refine gx_as (y := nI 2) (by rw [nI_clamp (by omega)]; exact ex1) ?_
          refine lv_aload_n hx hb dL_law_817 rfl (lv_at hl 0 rfl) ?_
          refine lv_iload hx hb dL_law_818 (lv_at hl 4 rfl) ?_
          refine lv_iconst (v := nI 2) hx hb dL_law_820 (by decide) ?_
          refine lv_iadd hx hb dL_law_821 ?_
          refine gx_as (y := nI (i + 2)) (nI_add i 2) ?_
          refine va_sld hx hb hXs hbl hbA hS.2.2 (vp_in_nI (by omega) (by omega)) dL_law_822 ?_
          refine gx_as (y := x2) (by rw [nI_clamp (by omega)]; exact ex2) ?_
          refine lv_aload_n hx hb dL_law_823 rfl (lv_at hl 3 rfl) ?_
          refine gc_oxM (hk_L_packed l D cA o ad ln 68 H.size iv (nI 2) x2 (rm := { frames := 3, cells := 0, slots := 0, locals := 72 }) (by decide) rfl rfl (by decide) (by decide) (ct_X6_packed l D cA o ad ln 68 H.size iv 2 (ff P (cnt ch P) * T ^ cnt ch P) x2 (by decide) l1 (by decide) (fun _ => ⟨t6, hS0, by omega, t8⟩))) (fun hM => vx_runSW (As := [.ref (ad 0), .int (nI 2), .int x2, .ref (ad 67)]) (rest := []) ⟨hx, hb, hml, hown, hts⟩ hM (vx_cwSW 4 hts (atA_lV gL_law_L_packed) rfl rfl rfl (by decide +kernel) ⟨gle hRf rfl, gle hRl rfl⟩) ⟨gPre_blind, fun U hU hW => ⟨rfl, hS.pre hK hN hU hW⟩⟩ rfl rfl hl.1 rfl (lv_room (Nat.le_of_ble_eq_true rfl)) dL_law_824 ⟨by omega, by omega⟩) hS hA (fun k9 o1 ad1 ln1 iv1 H locs hp1 hS => ?_)
          obtain ⟨ek, v1, hq, eo, rfl, rfl⟩ := hp1
          obtain ⟨e1, ev1⟩ := hq
          rw [ev1] at hS
          refine gx_as (y := nI 0) ek ?_
          refine lv_istore (lv' := [(5, .int (nI 0)), (0, .ref b), (1, .ref (ad 0)), (2, .ref (ad 53)), (3, .ref (ad 67)), (4, .int (nI i))]) hx hb dL_law_827 hl (by decide) rfl (fun ls hl => ?_)
          refine lv_aload_n hx hb dL_law_829 rfl (lv_at hl 3 rfl) ?_
          refine lv_aload_n hx hb dL_law_830 rfl (lv_at hl 1 rfl) ?_
          refine lv_iload hx hb dL_law_831 (lv_at hl 5 rfl) ?_
          refine lv_iconst (v := nI 1) hx hb dL_law_833 (by decide) ?_
          refine lv_iadd hx hb dL_law_834 ?_
          refine gx_as (y := nI (i + 1)) (nI_add i 1) ?_
          refine va_sld hx hb hXs hbl hbA hS.2.2 (vp_in_nI (by omega) (by omega)) dL_law_835 ?_
          refine gx_as (y := nI 2) (by rw [nI_clamp (by omega)]; exact ex1) ?_
          refine lv_aload_n hx hb dL_law_836 rfl (lv_at hl 1 rfl) ?_
          refine lv_iload hx hb dL_law_837 (lv_at hl 5 rfl) ?_
          refine lv_iconst (v := nI 2) hx hb dL_law_839 (by decide) ?_
          refine lv_iadd hx hb dL_law_840 ?_
          refine gx_as (y := nI (i + 2)) (nI_add i 2) ?_
          refine va_sld hx hb hXs hbl hbA hS.2.2 (vp_in_nI (by omega) (by omega)) dL_law_841 ?_
          refine gx_as (y := x2) (by rw [nI_clamp (by omega)]; exact ex2) ?_
          refine gc_l (gx_runV (As := [.int (nI 2), .int x2]) (rest := []) ⟨hx, hb, hml, hown, hts⟩ hK hN hS 53 (by decide) rfl rfl (ct_X7_packedZ l D cA o1 ad ln 68 H.size iv 2 x2 (by decide) l1 (by decide) (Or.inr hz)) (cwV 2 hts (atA_lV gL_law_X7_packed) rfl rfl rfl (by decide +kernel) ⟨gle hRf rfl, gle hRl rfl⟩) rfl rfl hl.1 rfl (lv_room (Nat.le_of_ble_eq_true rfl)) dL_law_842 ⟨by omega, by omega⟩) hS hA (fun r2 iv2 H locs hp2 hS => ?_)
          obtain ⟨f1, ev2⟩ := hp2
          have hreq : v1 = r2 := by
            rw [e1, f1, if_neg (by rw [t1]; decide)]
            rw [if_pos]
            rcases hz with u | u
            · exact Or.inl u
            · refine Or.inr (Int32.lt_of_le_of_lt ?_ u)
              have hd9 := Nat.div_le_self ((ff P (cnt ch P) * T ^ cnt ch P) - 1) (64 / 2)
              rw [nI_leI (by omega) (by decide)]
              omega
          have hth : iv2 53 0 = nI 0 := by rw [ev2, up2_s]; rfl
          have hLI : LI P T mc sc ch G Ad Sg w t ln iv2 := by rw [ev2]; exact LI_th h 0
          refine lv_lstore (lv' := [(6, .long r2), (5, .int (nI 0)), (0, .ref b), (1, .ref (ad 0)), (2, .ref (ad 53)), (3, .ref (ad 67)), (4, .int (nI i))]) hx hb dL_law_845 hl (by decide) rfl (fun ls hl => ?_)
          refine lv_aload_n hx hb dL_law_847 rfl (lv_at hl 4 rfl) ?_
          refine gc_i (gx_runV (As := []) (rest := []) ⟨hx, hb, hml, hown, hts⟩ hK hN hS 53 (by decide) rfl rfl (ct_X7_thrown l D cA o1 ad ln 68 H.size iv2 (by decide) l1) (cwV 0 hts (atA_lV gL_law_X7_thrown) rfl rfl rfl (by decide +kernel) ⟨gle hRf rfl, gle hRl rfl⟩) rfl rfl hl.1 rfl (lv_room (Nat.le_of_ble_eq_true rfl)) dL_law_848 ⟨by omega, by omega⟩) hS hA (fun z9 iv9 H locs hp9 hS => ?_)
          obtain ⟨ez9, ev9⟩ := hp9
          rw [ev9] at hS
          refine gx_as (y := nI 0) (by rw [ez9]; exact hth) ?_
          refine lv_iload hx hb dL_law_851 (lv_at hl 1 rfl) ?_
          refine lv_icmp_eq (tgt := 858) hx hb dL_law_853 (by decide) (fun _ => ?_) (fun c9 => absurd rfl c9)
          refine lv_iload hx hb dL_law_858 (lv_at hl 1 rfl) ?_
          refine lv_if_ne (tgt := 874) hx hb dL_law_860 (by decide) (fun c9 => absurd (by decide) c9) (fun _ => ?_)
          refine lv_aload_n hx hb dL_law_863 rfl (lv_at hl 5 rfl) ?_
          refine lv_iconst (v := nI 0) hx hb dL_law_864 (by decide) ?_
          refine gx_lald hx hb hK hS (by decide) dL_law_865 ?_
          refine gx_asl (y := v1) (by rw [eo, va_up_self]) ?_
          refine lv_lload hx hb dL_law_866 (lv_at hl 0 rfl) ?_
          refine W.lcmp hx hb dL_law_868 ?_
          refine gx_as (y := 0) (by rw [hreq]; exact lg_self _) ?_
          refine lv_if_eq (tgt := 874) hx hb dL_law_869 (by decide) (fun _ => ?_) (fun c9 => absurd (by decide) c9)
          refine lv_goto (tgt := 1147) hx hb dL_law_874 (by decide) ?_
          exact K _ _ _ _ _ _ _ _ _ P T mc sc ch G Ad Sg w t hLI (by omega) (by omega) hS (lv_sub hl [2, 3, 4, 5, 6] rfl)
        · skip
          obtain ⟨kk, hkk, rfl⟩ := nI_of (fun u => hz (Or.inl u))
          have hk9 : kk ≤ 136080 := by
            rcases Nat.lt_or_ge 136080 kk with u | u
            · exact absurd (Or.inr ((nI_ltI (by decide) hkk).mpr u)) hz
            · exact u
          refine lv_aload_n hx hb dL_law_810 rfl (lv_at hl 1 rfl) ?_
          refine lv_aload_n hx hb dL_law_811 rfl (lv_at hl 0 rfl) ?_
          refine lv_iload hx hb dL_law_812 (lv_at hl 4 rfl) ?_
          refine lv_iconst (v := nI 1) hx hb dL_law_814 (by decide) ?_
          refine lv_iadd hx hb dL_law_815 ?_
          refine gx_as (y := nI (i + 1)) (nI_add i 1) ?_
          refine va_sld hx hb hXs hbl hbA hS.2.2 (vp_in_nI (by omega) (by omega)) dL_law_816 ?_
          refine gx_as (y := nI 2) (by rw [nI_clamp (by omega)]; exact ex1) ?_
          refine lv_aload_n hx hb dL_law_817 rfl (lv_at hl 0 rfl) ?_
          refine lv_iload hx hb dL_law_818 (lv_at hl 4 rfl) ?_
          refine lv_iconst (v := nI 2) hx hb dL_law_820 (by decide) ?_
          refine lv_iadd hx hb dL_law_821 ?_
          refine gx_as (y := nI (i + 2)) (nI_add i 2) ?_
          refine va_sld hx hb hXs hbl hbA hS.2.2 (vp_in_nI (by omega) (by omega)) dL_law_822 ?_
          refine gx_as (y := nI kk) (by rw [nI_clamp (by omega)]; exact ex2) ?_
          refine lv_aload_n hx hb dL_law_823 rfl (lv_at hl 3 rfl) ?_
          refine gc_oxM (hk_L_packed l D cA o ad ln 68 H.size iv (nI 2) (nI kk) (rm := { frames := 3, cells := 0, slots := 0, locals := 72 }) (by decide) rfl rfl (by decide) (by decide) (ct_X6_packed l D cA o ad ln 68 H.size iv 2 (ff P (cnt ch P) * T ^ cnt ch P) (nI kk) (by decide) l1 (by decide) (fun _ => ⟨t6, hS0, by omega, t8⟩))) (fun hM => vx_runSW (As := [.ref (ad 0), .int (nI 2), .int (nI kk), .ref (ad 67)]) (rest := []) ⟨hx, hb, hml, hown, hts⟩ hM (vx_cwSW 4 hts (atA_lV gL_law_L_packed) rfl rfl rfl (by decide +kernel) ⟨gle hRf rfl, gle hRl rfl⟩) ⟨gPre_blind, fun U hU hW => ⟨rfl, hS.pre hK hN hU hW⟩⟩ rfl rfl hl.1 rfl (lv_room (Nat.le_of_ble_eq_true rfl)) dL_law_824 ⟨by omega, by omega⟩) hS hA (fun k9 o1 ad1 ln1 iv1 H locs hp1 hS => ?_)
          obtain ⟨ek, v1, hq, eo, rfl, rfl⟩ := hp1
          obtain ⟨e1, ev1⟩ := hq
          rw [ev1] at hS
          refine gx_as (y := nI 0) ek ?_
          refine lv_istore (lv' := [(5, .int (nI 0)), (0, .ref b), (1, .ref (ad 0)), (2, .ref (ad 53)), (3, .ref (ad 67)), (4, .int (nI i))]) hx hb dL_law_827 hl (by decide) rfl (fun ls hl => ?_)
          refine lv_aload_n hx hb dL_law_829 rfl (lv_at hl 3 rfl) ?_
          refine lv_aload_n hx hb dL_law_830 rfl (lv_at hl 1 rfl) ?_
          refine lv_iload hx hb dL_law_831 (lv_at hl 5 rfl) ?_
          refine lv_iconst (v := nI 1) hx hb dL_law_833 (by decide) ?_
          refine lv_iadd hx hb dL_law_834 ?_
          refine gx_as (y := nI (i + 1)) (nI_add i 1) ?_
          refine va_sld hx hb hXs hbl hbA hS.2.2 (vp_in_nI (by omega) (by omega)) dL_law_835 ?_
          refine gx_as (y := nI 2) (by rw [nI_clamp (by omega)]; exact ex1) ?_
          refine lv_aload_n hx hb dL_law_836 rfl (lv_at hl 1 rfl) ?_
          refine lv_iload hx hb dL_law_837 (lv_at hl 5 rfl) ?_
          refine lv_iconst (v := nI 2) hx hb dL_law_839 (by decide) ?_
          refine lv_iadd hx hb dL_law_840 ?_
          refine gx_as (y := nI (i + 2)) (nI_add i 2) ?_
          refine va_sld hx hb hXs hbl hbA hS.2.2 (vp_in_nI (by omega) (by omega)) dL_law_841 ?_
          refine gx_as (y := nI kk) (by rw [nI_clamp (by omega)]; exact ex2) ?_
          refine gc_l (gx_runV (As := [.int (nI 2), .int (nI kk)]) (rest := []) ⟨hx, hb, hml, hown, hts⟩ hK hN hS 53 (by decide) rfl rfl (ct_X7_packedY l D cA o1 ad ln 68 H.size iv 2 kk (ff P (cnt ch P) * T ^ cnt ch P) (by decide) l1 l3 (by decide) hk9 (by rw [t2]; decide) t7 hS9) (cwV 2 hts (atA_lV gL_law_X7_packed) rfl rfl rfl (by decide +kernel) ⟨gle hRf rfl, gle hRl rfl⟩) rfl rfl hl.1 rfl (lv_room (Nat.le_of_ble_eq_true rfl)) dL_law_842 ⟨by omega, by omega⟩) hS hA (fun r2 iv2 H locs hp2 hS => ?_)
          obtain ⟨f1, ev2⟩ := hp2
          have hreq : v1 = r2 := by
            rw [e1, f1, if_neg (by rw [t1]; decide)]
            exact packed_ok (vv := bs.1) (by decide) hS0 hS9 hk9 (fun x hx9 => ⟨t11.1 x hx9, by have := t10.1.2.1 x hx9; omega⟩) t12
          have hth : iv2 53 0 = nI 0 := by rw [ev2, up2_s]; rfl
          have hLI : LI P T mc sc ch G Ad Sg w t ln iv2 := by rw [ev2]; exact LI_th h 0
          refine lv_lstore (lv' := [(6, .long r2), (5, .int (nI 0)), (0, .ref b), (1, .ref (ad 0)), (2, .ref (ad 53)), (3, .ref (ad 67)), (4, .int (nI i))]) hx hb dL_law_845 hl (by decide) rfl (fun ls hl => ?_)
          refine lv_aload_n hx hb dL_law_847 rfl (lv_at hl 4 rfl) ?_
          refine gc_i (gx_runV (As := []) (rest := []) ⟨hx, hb, hml, hown, hts⟩ hK hN hS 53 (by decide) rfl rfl (ct_X7_thrown l D cA o1 ad ln 68 H.size iv2 (by decide) l1) (cwV 0 hts (atA_lV gL_law_X7_thrown) rfl rfl rfl (by decide +kernel) ⟨gle hRf rfl, gle hRl rfl⟩) rfl rfl hl.1 rfl (lv_room (Nat.le_of_ble_eq_true rfl)) dL_law_848 ⟨by omega, by omega⟩) hS hA (fun z9 iv9 H locs hp9 hS => ?_)
          obtain ⟨ez9, ev9⟩ := hp9
          rw [ev9] at hS
          refine gx_as (y := nI 0) (by rw [ez9]; exact hth) ?_
          refine lv_iload hx hb dL_law_851 (lv_at hl 1 rfl) ?_
          refine lv_icmp_eq (tgt := 858) hx hb dL_law_853 (by decide) (fun _ => ?_) (fun c9 => absurd rfl c9)
          refine lv_iload hx hb dL_law_858 (lv_at hl 1 rfl) ?_
          refine lv_if_ne (tgt := 874) hx hb dL_law_860 (by decide) (fun c9 => absurd (by decide) c9) (fun _ => ?_)
          refine lv_aload_n hx hb dL_law_863 rfl (lv_at hl 5 rfl) ?_
          refine lv_iconst (v := nI 0) hx hb dL_law_864 (by decide) ?_
          refine gx_lald hx hb hK hS (by decide) dL_law_865 ?_
          refine gx_asl (y := v1) (by rw [eo, va_up_self]) ?_
          refine lv_lload hx hb dL_law_866 (lv_at hl 0 rfl) ?_
          refine W.lcmp hx hb dL_law_868 ?_
          refine gx_as (y := 0) (by rw [hreq]; exact lg_self _) ?_
          refine lv_if_eq (tgt := 874) hx hb dL_law_869 (by decide) (fun _ => ?_) (fun c9 => absurd (by decide) c9)
          refine lv_goto (tgt := 1147) hx hb dL_law_874 (by decide) ?_
          exact K _ _ _ _ _ _ _ _ _ P T mc sc ch G Ad Sg w t hLI (by omega) (by omega) hS (lv_sub hl [2, 3, 4, 5, 6] rfl)
  · skip
    by_cases hb4 : x1 = nI 4
    · skip
      subst hb4
      · skip
        rcases t0 with ⟨t1, t2⟩ | ⟨t1, t2, kq, bs, t3, t4, t5, t6, t7, t8, t9, t10, t11, t12⟩
        · skip
          refine lv_aload_n hx hb dL_law_810 rfl (lv_at hl 1 rfl) ?_
          refine lv_aload_n hx hb dL_law_811 rfl (lv_at hl 0 rfl) ?_
          refine lv_iload hx hb dL_law_812 (lv_at hl 4 rfl) ?_
          refine lv_iconst (v := nI 1) hx hb dL_law_814 (by decide) ?_
          refine lv_iadd hx hb dL_law_815 ?_
          refine gx_as (y := nI (i + 1)) (nI_add i 1) ?_
          refine va_sld hx hb hXs hbl hbA hS.2.2 (vp_in_nI (by omega) (by omega)) dL_law_816 ?_
          refine gx_as (y := nI 4) (by rw [nI_clamp (by omega)]; exact ex1) ?_
          refine lv_aload_n hx hb dL_law_817 rfl (lv_at hl 0 rfl) ?_
          refine lv_iload hx hb dL_law_818 (lv_at hl 4 rfl) ?_
          refine lv_iconst (v := nI 2) hx hb dL_law_820 (by decide) ?_
          refine lv_iadd hx hb dL_law_821 ?_
          refine gx_as (y := nI (i + 2)) (nI_add i 2) ?_
          refine va_sld hx hb hXs hbl hbA hS.2.2 (vp_in_nI (by omega) (by omega)) dL_law_822 ?_
          refine gx_as (y := x2) (by rw [nI_clamp (by omega)]; exact ex2) ?_
          refine lv_aload_n hx hb dL_law_823 rfl (lv_at hl 3 rfl) ?_
          refine gc_oxM (hk_L_packed l D cA o ad ln 68 H.size iv (nI 4) x2 (rm := { frames := 3, cells := 0, slots := 0, locals := 72 }) (by decide) rfl rfl (by decide) (by decide) (ct_X6_packed l D cA o ad ln 68 H.size iv 4 (ff P (cnt ch P) * T ^ cnt ch P) x2 (by decide) l1 (by decide) (fun q => absurd t1 q))) (fun hM => vx_runSW (As := [.ref (ad 0), .int (nI 4), .int x2, .ref (ad 67)]) (rest := []) ⟨hx, hb, hml, hown, hts⟩ hM (vx_cwSW 4 hts (atA_lV gL_law_L_packed) rfl rfl rfl (by decide +kernel) ⟨gle hRf rfl, gle hRl rfl⟩) ⟨gPre_blind, fun U hU hW => ⟨rfl, hS.pre hK hN hU hW⟩⟩ rfl rfl hl.1 rfl (lv_room (Nat.le_of_ble_eq_true rfl)) dL_law_824 ⟨by omega, by omega⟩) hS hA (fun k9 o1 ad1 ln1 iv1 H locs hp1 hS => ?_)
          obtain ⟨ek, v1, hq, eo, rfl, rfl⟩ := hp1
          obtain ⟨e1, ev1⟩ := hq
          rw [ev1] at hS
          refine gx_as (y := nI 0) ek ?_
          refine lv_istore (lv' := [(5, .int (nI 0)), (0, .ref b), (1, .ref (ad 0)), (2, .ref (ad 53)), (3, .ref (ad 67)), (4, .int (nI i))]) hx hb dL_law_827 hl (by decide) rfl (fun ls hl => ?_)
          refine lv_aload_n hx hb dL_law_829 rfl (lv_at hl 3 rfl) ?_
          refine lv_aload_n hx hb dL_law_830 rfl (lv_at hl 1 rfl) ?_
          refine lv_iload hx hb dL_law_831 (lv_at hl 5 rfl) ?_
          refine lv_iconst (v := nI 1) hx hb dL_law_833 (by decide) ?_
          refine lv_iadd hx hb dL_law_834 ?_
          refine gx_as (y := nI (i + 1)) (nI_add i 1) ?_
          refine va_sld hx hb hXs hbl hbA hS.2.2 (vp_in_nI (by omega) (by omega)) dL_law_835 ?_
          refine gx_as (y := nI 4) (by rw [nI_clamp (by omega)]; exact ex1) ?_
          refine lv_aload_n hx hb dL_law_836 rfl (lv_at hl 1 rfl) ?_
          refine lv_iload hx hb dL_law_837 (lv_at hl 5 rfl) ?_
          refine lv_iconst (v := nI 2) hx hb dL_law_839 (by decide) ?_
          refine lv_iadd hx hb dL_law_840 ?_
          refine gx_as (y := nI (i + 2)) (nI_add i 2) ?_
          refine va_sld hx hb hXs hbl hbA hS.2.2 (vp_in_nI (by omega) (by omega)) dL_law_841 ?_
          refine gx_as (y := x2) (by rw [nI_clamp (by omega)]; exact ex2) ?_
          refine gc_l (gx_runV (As := [.int (nI 4), .int x2]) (rest := []) ⟨hx, hb, hml, hown, hts⟩ hK hN hS 53 (by decide) rfl rfl (ct_X7_packedZ l D cA o1 ad ln 68 H.size iv 4 x2 (by decide) l1 (by decide) (Or.inl t2)) (cwV 2 hts (atA_lV gL_law_X7_packed) rfl rfl rfl (by decide +kernel) ⟨gle hRf rfl, gle hRl rfl⟩) rfl rfl hl.1 rfl (lv_room (Nat.le_of_ble_eq_true rfl)) dL_law_842 ⟨by omega, by omega⟩) hS hA (fun r2 iv2 H locs hp2 hS => ?_)
          obtain ⟨f1, ev2⟩ := hp2
          have hreq : v1 = r2 := by rw [e1, f1, if_pos t1]
          have hth : iv2 53 0 = nI 0 := by rw [ev2, up2_s]; rfl
          have hLI : LI P T mc sc ch G Ad Sg w t ln iv2 := by rw [ev2]; exact LI_th h 0
          refine lv_lstore (lv' := [(6, .long r2), (5, .int (nI 0)), (0, .ref b), (1, .ref (ad 0)), (2, .ref (ad 53)), (3, .ref (ad 67)), (4, .int (nI i))]) hx hb dL_law_845 hl (by decide) rfl (fun ls hl => ?_)
          refine lv_aload_n hx hb dL_law_847 rfl (lv_at hl 4 rfl) ?_
          refine gc_i (gx_runV (As := []) (rest := []) ⟨hx, hb, hml, hown, hts⟩ hK hN hS 53 (by decide) rfl rfl (ct_X7_thrown l D cA o1 ad ln 68 H.size iv2 (by decide) l1) (cwV 0 hts (atA_lV gL_law_X7_thrown) rfl rfl rfl (by decide +kernel) ⟨gle hRf rfl, gle hRl rfl⟩) rfl rfl hl.1 rfl (lv_room (Nat.le_of_ble_eq_true rfl)) dL_law_848 ⟨by omega, by omega⟩) hS hA (fun z9 iv9 H locs hp9 hS => ?_)
          obtain ⟨ez9, ev9⟩ := hp9
          rw [ev9] at hS
          refine gx_as (y := nI 0) (by rw [ez9]; exact hth) ?_
          refine lv_iload hx hb dL_law_851 (lv_at hl 1 rfl) ?_
          refine lv_icmp_eq (tgt := 858) hx hb dL_law_853 (by decide) (fun _ => ?_) (fun c9 => absurd rfl c9)
          refine lv_iload hx hb dL_law_858 (lv_at hl 1 rfl) ?_
          refine lv_if_ne (tgt := 874) hx hb dL_law_860 (by decide) (fun c9 => absurd (by decide) c9) (fun _ => ?_)
          refine lv_aload_n hx hb dL_law_863 rfl (lv_at hl 5 rfl) ?_
          refine lv_iconst (v := nI 0) hx hb dL_law_864 (by decide) ?_
          refine gx_lald hx hb hK hS (by decide) dL_law_865 ?_
          refine gx_asl (y := v1) (by rw [eo, va_up_self]) ?_
          refine lv_lload hx hb dL_law_866 (lv_at hl 0 rfl) ?_
          refine W.lcmp hx hb dL_law_868 ?_
          refine gx_as (y := 0) (by rw [hreq]; exact lg_self _) ?_
          refine lv_if_eq (tgt := 874) hx hb dL_law_869 (by decide) (fun _ => ?_) (fun c9 => absurd (by decide) c9)
          refine lv_goto (tgt := 1147) hx hb dL_law_874 (by decide) ?_
          exact K _ _ _ _ _ _ _ _ _ P T mc sc ch G Ad Sg w t hLI (by omega) (by omega) hS (lv_sub hl [2, 3, 4, 5, 6] rfl)
        · skip
          have hC9 := bOk_C t10.1
          have hS0 : 0 < (ff P (cnt ch P) * T ^ cnt ch P) := Nat.lt_of_lt_of_le t10.2.2.2.2.2 hC9
          by_cases hz : x2 < 0 ∨ nI 136080 < x2
          · skip
            refine lv_aload_n hx hb dL_law_810 rfl (lv_at hl 1 rfl) ?_
            refine lv_aload_n hx hb dL_law_811 rfl (lv_at hl 0 rfl) ?_
            refine lv_iload hx hb dL_law_812 (lv_at hl 4 rfl) ?_
            refine lv_iconst (v := nI 1) hx hb dL_law_814 (by decide) ?_
            refine lv_iadd hx hb dL_law_815 ?_
            refine gx_as (y := nI (i + 1)) (nI_add i 1) ?_
            refine va_sld hx hb hXs hbl hbA hS.2.2 (vp_in_nI (by omega) (by omega)) dL_law_816 ?_
            refine gx_as (y := nI 4) (by rw [nI_clamp (by omega)]; exact ex1) ?_
            refine lv_aload_n hx hb dL_law_817 rfl (lv_at hl 0 rfl) ?_
            refine lv_iload hx hb dL_law_818 (lv_at hl 4 rfl) ?_
            refine lv_iconst (v := nI 2) hx hb dL_law_820 (by decide) ?_
            refine lv_iadd hx hb dL_law_821 ?_
            refine gx_as (y := nI (i + 2)) (nI_add i 2) ?_
            refine va_sld hx hb hXs hbl hbA hS.2.2 (vp_in_nI (by omega) (by omega)) dL_law_822 ?_
            refine gx_as (y := x2) (by rw [nI_clamp (by omega)]; exact ex2) ?_
            refine lv_aload_n hx hb dL_law_823 rfl (lv_at hl 3 rfl) ?_
            refine gc_oxM (hk_L_packed l D cA o ad ln 68 H.size iv (nI 4) x2 (rm := { frames := 3, cells := 0, slots := 0, locals := 72 }) (by decide) rfl rfl (by decide) (by decide) (ct_X6_packed l D cA o ad ln 68 H.size iv 4 (ff P (cnt ch P) * T ^ cnt ch P) x2 (by decide) l1 (by decide) (fun _ => ⟨t6, hS0, by omega, t8⟩))) (fun hM => vx_runSW (As := [.ref (ad 0), .int (nI 4), .int x2, .ref (ad 67)]) (rest := []) ⟨hx, hb, hml, hown, hts⟩ hM (vx_cwSW 4 hts (atA_lV gL_law_L_packed) rfl rfl rfl (by decide +kernel) ⟨gle hRf rfl, gle hRl rfl⟩) ⟨gPre_blind, fun U hU hW => ⟨rfl, hS.pre hK hN hU hW⟩⟩ rfl rfl hl.1 rfl (lv_room (Nat.le_of_ble_eq_true rfl)) dL_law_824 ⟨by omega, by omega⟩) hS hA (fun k9 o1 ad1 ln1 iv1 H locs hp1 hS => ?_)
            obtain ⟨ek, v1, hq, eo, rfl, rfl⟩ := hp1
            obtain ⟨e1, ev1⟩ := hq
            rw [ev1] at hS
            refine gx_as (y := nI 0) ek ?_
            refine lv_istore (lv' := [(5, .int (nI 0)), (0, .ref b), (1, .ref (ad 0)), (2, .ref (ad 53)), (3, .ref (ad 67)), (4, .int (nI i))]) hx hb dL_law_827 hl (by decide) rfl (fun ls hl => ?_)
            refine lv_aload_n hx hb dL_law_829 rfl (lv_at hl 3 rfl) ?_
            refine lv_aload_n hx hb dL_law_830 rfl (lv_at hl 1 rfl) ?_
            refine lv_iload hx hb dL_law_831 (lv_at hl 5 rfl) ?_
            refine lv_iconst (v := nI 1) hx hb dL_law_833 (by decide) ?_
            refine lv_iadd hx hb dL_law_834 ?_
            refine gx_as (y := nI (i + 1)) (nI_add i 1) ?_
            refine va_sld hx hb hXs hbl hbA hS.2.2 (vp_in_nI (by omega) (by omega)) dL_law_835 ?_
            refine gx_as (y := nI 4) (by rw [nI_clamp (by omega)]; exact ex1) ?_
            refine lv_aload_n hx hb dL_law_836 rfl (lv_at hl 1 rfl) ?_
            refine lv_iload hx hb dL_law_837 (lv_at hl 5 rfl) ?_
            refine lv_iconst (v := nI 2) hx hb dL_law_839 (by decide) ?_
            refine lv_iadd hx hb dL_law_840 ?_
            refine gx_as (y := nI (i + 2)) (nI_add i 2) ?_
            refine va_sld hx hb hXs hbl hbA hS.2.2 (vp_in_nI (by omega) (by omega)) dL_law_841 ?_
            refine gx_as (y := x2) (by rw [nI_clamp (by omega)]; exact ex2) ?_
            refine gc_l (gx_runV (As := [.int (nI 4), .int x2]) (rest := []) ⟨hx, hb, hml, hown, hts⟩ hK hN hS 53 (by decide) rfl rfl (ct_X7_packedZ l D cA o1 ad ln 68 H.size iv 4 x2 (by decide) l1 (by decide) (Or.inr hz)) (cwV 2 hts (atA_lV gL_law_X7_packed) rfl rfl rfl (by decide +kernel) ⟨gle hRf rfl, gle hRl rfl⟩) rfl rfl hl.1 rfl (lv_room (Nat.le_of_ble_eq_true rfl)) dL_law_842 ⟨by omega, by omega⟩) hS hA (fun r2 iv2 H locs hp2 hS => ?_)
            obtain ⟨f1, ev2⟩ := hp2
            have hreq : v1 = r2 := by
              rw [e1, f1, if_neg (by rw [t1]; decide)]
              rw [if_pos]
              rcases hz with u | u
              · exact Or.inl u
              · refine Or.inr (Int32.lt_of_le_of_lt ?_ u)
                have hd9 := Nat.div_le_self ((ff P (cnt ch P) * T ^ cnt ch P) - 1) (64 / 4)
                rw [nI_leI (by omega) (by decide)]
                omega
            have hth : iv2 53 0 = nI 0 := by rw [ev2, up2_s]; rfl
            have hLI : LI P T mc sc ch G Ad Sg w t ln iv2 := by rw [ev2]; exact LI_th h 0
            refine lv_lstore (lv' := [(6, .long r2), (5, .int (nI 0)), (0, .ref b), (1, .ref (ad 0)), (2, .ref (ad 53)), (3, .ref (ad 67)), (4, .int (nI i))]) hx hb dL_law_845 hl (by decide) rfl (fun ls hl => ?_)
            refine lv_aload_n hx hb dL_law_847 rfl (lv_at hl 4 rfl) ?_
            refine gc_i (gx_runV (As := []) (rest := []) ⟨hx, hb, hml, hown, hts⟩ hK hN hS 53 (by decide) rfl rfl (ct_X7_thrown l D cA o1 ad ln 68 H.size iv2 (by decide) l1) (cwV 0 hts (atA_lV gL_law_X7_thrown) rfl rfl rfl (by decide +kernel) ⟨gle hRf rfl, gle hRl rfl⟩) rfl rfl hl.1 rfl (lv_room (Nat.le_of_ble_eq_true rfl)) dL_law_848 ⟨by omega, by omega⟩) hS hA (fun z9 iv9 H locs hp9 hS => ?_)
            obtain ⟨ez9, ev9⟩ := hp9
            rw [ev9] at hS
            refine gx_as (y := nI 0) (by rw [ez9]; exact hth) ?_
            refine lv_iload hx hb dL_law_851 (lv_at hl 1 rfl) ?_
            refine lv_icmp_eq (tgt := 858) hx hb dL_law_853 (by decide) (fun _ => ?_) (fun c9 => absurd rfl c9)
            refine lv_iload hx hb dL_law_858 (lv_at hl 1 rfl) ?_
            refine lv_if_ne (tgt := 874) hx hb dL_law_860 (by decide) (fun c9 => absurd (by decide) c9) (fun _ => ?_)
            refine lv_aload_n hx hb dL_law_863 rfl (lv_at hl 5 rfl) ?_
            refine lv_iconst (v := nI 0) hx hb dL_law_864 (by decide) ?_
            refine gx_lald hx hb hK hS (by decide) dL_law_865 ?_
            refine gx_asl (y := v1) (by rw [eo, va_up_self]) ?_
            refine lv_lload hx hb dL_law_866 (lv_at hl 0 rfl) ?_
            refine W.lcmp hx hb dL_law_868 ?_
            refine gx_as (y := 0) (by rw [hreq]; exact lg_self _) ?_
            refine lv_if_eq (tgt := 874) hx hb dL_law_869 (by decide) (fun _ => ?_) (fun c9 => absurd (by decide) c9)
            refine lv_goto (tgt := 1147) hx hb dL_law_874 (by decide) ?_
            exact K _ _ _ _ _ _ _ _ _ P T mc sc ch G Ad Sg w t hLI (by omega) (by omega) hS (lv_sub hl [2, 3, 4, 5, 6] rfl)
          · skip
            obtain ⟨kk, hkk, rfl⟩ := nI_of (fun u => hz (Or.inl u))
            have hk9 : kk ≤ 136080 := by
              rcases Nat.lt_or_ge 136080 kk with u | u
              · exact absurd (Or.inr ((nI_ltI (by decide) hkk).mpr u)) hz
              · exact u
            refine lv_aload_n hx hb dL_law_810 rfl (lv_at hl 1 rfl) ?_
            refine lv_aload_n hx hb dL_law_811 rfl (lv_at hl 0 rfl) ?_
            refine lv_iload hx hb dL_law_812 (lv_at hl 4 rfl) ?_
            refine lv_iconst (v := nI 1) hx hb dL_law_814 (by decide) ?_
            refine lv_iadd hx hb dL_law_815 ?_
            refine gx_as (y := nI (i + 1)) (nI_add i 1) ?_
            refine va_sld hx hb hXs hbl hbA hS.2.2 (vp_in_nI (by omega) (by omega)) dL_law_816 ?_
            refine gx_as (y := nI 4) (by rw [nI_clamp (by omega)]; exact ex1) ?_
            refine lv_aload_n hx hb dL_law_817 rfl (lv_at hl 0 rfl) ?_
            refine lv_iload hx hb dL_law_818 (lv_at hl 4 rfl) ?_
            refine lv_iconst (v := nI 2) hx hb dL_law_820 (by decide) ?_
            refine lv_iadd hx hb dL_law_821 ?_
            refine gx_as (y := nI (i + 2)) (nI_add i 2) ?_
            refine va_sld hx hb hXs hbl hbA hS.2.2 (vp_in_nI (by omega) (by omega)) dL_law_822 ?_
            refine gx_as (y := nI kk) (by rw [nI_clamp (by omega)]; exact ex2) ?_
            refine lv_aload_n hx hb dL_law_823 rfl (lv_at hl 3 rfl) ?_
            refine gc_oxM (hk_L_packed l D cA o ad ln 68 H.size iv (nI 4) (nI kk) (rm := { frames := 3, cells := 0, slots := 0, locals := 72 }) (by decide) rfl rfl (by decide) (by decide) (ct_X6_packed l D cA o ad ln 68 H.size iv 4 (ff P (cnt ch P) * T ^ cnt ch P) (nI kk) (by decide) l1 (by decide) (fun _ => ⟨t6, hS0, by omega, t8⟩))) (fun hM => vx_runSW (As := [.ref (ad 0), .int (nI 4), .int (nI kk), .ref (ad 67)]) (rest := []) ⟨hx, hb, hml, hown, hts⟩ hM (vx_cwSW 4 hts (atA_lV gL_law_L_packed) rfl rfl rfl (by decide +kernel) ⟨gle hRf rfl, gle hRl rfl⟩) ⟨gPre_blind, fun U hU hW => ⟨rfl, hS.pre hK hN hU hW⟩⟩ rfl rfl hl.1 rfl (lv_room (Nat.le_of_ble_eq_true rfl)) dL_law_824 ⟨by omega, by omega⟩) hS hA (fun k9 o1 ad1 ln1 iv1 H locs hp1 hS => ?_)
            obtain ⟨ek, v1, hq, eo, rfl, rfl⟩ := hp1
            obtain ⟨e1, ev1⟩ := hq
            rw [ev1] at hS
            refine gx_as (y := nI 0) ek ?_
            refine lv_istore (lv' := [(5, .int (nI 0)), (0, .ref b), (1, .ref (ad 0)), (2, .ref (ad 53)), (3, .ref (ad 67)), (4, .int (nI i))]) hx hb dL_law_827 hl (by decide) rfl (fun ls hl => ?_)
            refine lv_aload_n hx hb dL_law_829 rfl (lv_at hl 3 rfl) ?_
            refine lv_aload_n hx hb dL_law_830 rfl (lv_at hl 1 rfl) ?_
            refine lv_iload hx hb dL_law_831 (lv_at hl 5 rfl) ?_
            refine lv_iconst (v := nI 1) hx hb dL_law_833 (by decide) ?_
            refine lv_iadd hx hb dL_law_834 ?_
            refine gx_as (y := nI (i + 1)) (nI_add i 1) ?_
            refine va_sld hx hb hXs hbl hbA hS.2.2 (vp_in_nI (by omega) (by omega)) dL_law_835 ?_
            refine gx_as (y := nI 4) (by rw [nI_clamp (by omega)]; exact ex1) ?_
            refine lv_aload_n hx hb dL_law_836 rfl (lv_at hl 1 rfl) ?_
            refine lv_iload hx hb dL_law_837 (lv_at hl 5 rfl) ?_
            refine lv_iconst (v := nI 2) hx hb dL_law_839 (by decide) ?_
            refine lv_iadd hx hb dL_law_840 ?_
            refine gx_as (y := nI (i + 2)) (nI_add i 2) ?_
            refine va_sld hx hb hXs hbl hbA hS.2.2 (vp_in_nI (by omega) (by omega)) dL_law_841 ?_
            refine gx_as (y := nI kk) (by rw [nI_clamp (by omega)]; exact ex2) ?_
            refine gc_l (gx_runV (As := [.int (nI 4), .int (nI kk)]) (rest := []) ⟨hx, hb, hml, hown, hts⟩ hK hN hS 53 (by decide) rfl rfl (ct_X7_packedY l D cA o1 ad ln 68 H.size iv 4 kk (ff P (cnt ch P) * T ^ cnt ch P) (by decide) l1 l3 (by decide) hk9 (by rw [t2]; decide) t7 hS9) (cwV 2 hts (atA_lV gL_law_X7_packed) rfl rfl rfl (by decide +kernel) ⟨gle hRf rfl, gle hRl rfl⟩) rfl rfl hl.1 rfl (lv_room (Nat.le_of_ble_eq_true rfl)) dL_law_842 ⟨by omega, by omega⟩) hS hA (fun r2 iv2 H locs hp2 hS => ?_)
            obtain ⟨f1, ev2⟩ := hp2
            have hreq : v1 = r2 := by
              rw [e1, f1, if_neg (by rw [t1]; decide)]
              exact packed_ok (vv := bs.1) (by decide) hS0 hS9 hk9 (fun x hx9 => ⟨t11.1 x hx9, by have := t10.1.2.1 x hx9; omega⟩) t12
            have hth : iv2 53 0 = nI 0 := by rw [ev2, up2_s]; rfl
            have hLI : LI P T mc sc ch G Ad Sg w t ln iv2 := by rw [ev2]; exact LI_th h 0
            refine lv_lstore (lv' := [(6, .long r2), (5, .int (nI 0)), (0, .ref b), (1, .ref (ad 0)), (2, .ref (ad 53)), (3, .ref (ad 67)), (4, .int (nI i))]) hx hb dL_law_845 hl (by decide) rfl (fun ls hl => ?_)
            refine lv_aload_n hx hb dL_law_847 rfl (lv_at hl 4 rfl) ?_
            refine gc_i (gx_runV (As := []) (rest := []) ⟨hx, hb, hml, hown, hts⟩ hK hN hS 53 (by decide) rfl rfl (ct_X7_thrown l D cA o1 ad ln 68 H.size iv2 (by decide) l1) (cwV 0 hts (atA_lV gL_law_X7_thrown) rfl rfl rfl (by decide +kernel) ⟨gle hRf rfl, gle hRl rfl⟩) rfl rfl hl.1 rfl (lv_room (Nat.le_of_ble_eq_true rfl)) dL_law_848 ⟨by omega, by omega⟩) hS hA (fun z9 iv9 H locs hp9 hS => ?_)
            obtain ⟨ez9, ev9⟩ := hp9
            rw [ev9] at hS
            refine gx_as (y := nI 0) (by rw [ez9]; exact hth) ?_
            refine lv_iload hx hb dL_law_851 (lv_at hl 1 rfl) ?_
            refine lv_icmp_eq (tgt := 858) hx hb dL_law_853 (by decide) (fun _ => ?_) (fun c9 => absurd rfl c9)
            refine lv_iload hx hb dL_law_858 (lv_at hl 1 rfl) ?_
            refine lv_if_ne (tgt := 874) hx hb dL_law_860 (by decide) (fun c9 => absurd (by decide) c9) (fun _ => ?_)
            refine lv_aload_n hx hb dL_law_863 rfl (lv_at hl 5 rfl) ?_
            refine lv_iconst (v := nI 0) hx hb dL_law_864 (by decide) ?_
            refine gx_lald hx hb hK hS (by decide) dL_law_865 ?_
            refine gx_asl (y := v1) (by rw [eo, va_up_self]) ?_
            refine lv_lload hx hb dL_law_866 (lv_at hl 0 rfl) ?_
            refine W.lcmp hx hb dL_law_868 ?_
            refine gx_as (y := 0) (by rw [hreq]; exact lg_self _) ?_
            refine lv_if_eq (tgt := 874) hx hb dL_law_869 (by decide) (fun _ => ?_) (fun c9 => absurd (by decide) c9)
            refine lv_goto (tgt := 1147) hx hb dL_law_874 (by decide) ?_
            exact K _ _ _ _ _ _ _ _ _ P T mc sc ch G Ad Sg w t hLI (by omega) (by omega) hS (lv_sub hl [2, 3, 4, 5, 6] rfl)
    · skip
      refine lv_aload_n hx hb dL_law_810 rfl (lv_at hl 1 rfl) ?_
      refine lv_aload_n hx hb dL_law_811 rfl (lv_at hl 0 rfl) ?_
      refine lv_iload hx hb dL_law_812 (lv_at hl 4 rfl) ?_
      refine lv_iconst (v := nI 1) hx hb dL_law_814 (by decide) ?_
      refine lv_iadd hx hb dL_law_815 ?_
      refine gx_as (y := nI (i + 1)) (nI_add i 1) ?_
      refine va_sld hx hb hXs hbl hbA hS.2.2 (vp_in_nI (by omega) (by omega)) dL_law_816 ?_
      refine gx_as (y := x1) (by rw [nI_clamp (by omega)]; exact ex1) ?_
      refine lv_aload_n hx hb dL_law_817 rfl (lv_at hl 0 rfl) ?_
      refine lv_iload hx hb dL_law_818 (lv_at hl 4 rfl) ?_
      refine lv_iconst (v := nI 2) hx hb dL_law_820 (by decide) ?_
      refine lv_iadd hx hb dL_law_821 ?_
      refine gx_as (y := nI (i + 2)) (nI_add i 2) ?_
      refine va_sld hx hb hXs hbl hbA hS.2.2 (vp_in_nI (by omega) (by omega)) dL_law_822 ?_
      refine gx_as (y := x2) (by rw [nI_clamp (by omega)]; exact ex2) ?_
      refine lv_aload_n hx hb dL_law_823 rfl (lv_at hl 3 rfl) ?_
      refine gc_oxM (hx_L_packed l D cA o ad ln 68 H.size iv x1 x2 (by decide) (cx_X6_packedT l hst D cA o ad ln 68 H.size iv x1 x2 (by decide) l1 hb2 hb4)) (fun hM => vx_runSW (As := [.ref (ad 0), .int x1, .int x2, .ref (ad 67)]) (rest := []) ⟨hx, hb, hml, hown, hts⟩ hM (vx_cwSW 4 hts (atA_in gL_law_L_packed) rfl rfl rfl (by decide +kernel) ⟨gle hRf rfl, gle hRl rfl⟩) ⟨gPreX_blind, fun U hU hW => ⟨rfl, hS.preX hK hN hX hA hU hW⟩⟩ rfl rfl hl.1 rfl (lv_room (Nat.le_of_ble_eq_true rfl)) dL_law_824 ⟨by omega, by omega⟩) hS hA (fun k9 o1 ad1 ln1 iv1 H locs hp1 hS => ?_)
      obtain ⟨ek, rfl, rfl, rfl, rfl⟩ := hp1
      refine gx_as (y := nI 1) ek ?_
      refine lv_istore (lv' := [(5, .int (nI 1)), (0, .ref b), (1, .ref (ad 0)), (2, .ref (ad 53)), (3, .ref (ad 67)), (4, .int (nI i))]) hx hb dL_law_827 hl (by decide) rfl (fun ls hl => ?_)
      refine lv_aload_n hx hb dL_law_829 rfl (lv_at hl 3 rfl) ?_
      refine lv_aload_n hx hb dL_law_830 rfl (lv_at hl 1 rfl) ?_
      refine lv_iload hx hb dL_law_831 (lv_at hl 5 rfl) ?_
      refine lv_iconst (v := nI 1) hx hb dL_law_833 (by decide) ?_
      refine lv_iadd hx hb dL_law_834 ?_
      refine gx_as (y := nI (i + 1)) (nI_add i 1) ?_
      refine va_sld hx hb hXs hbl hbA hS.2.2 (vp_in_nI (by omega) (by omega)) dL_law_835 ?_
      refine gx_as (y := x1) (by rw [nI_clamp (by omega)]; exact ex1) ?_
      refine lv_aload_n hx hb dL_law_836 rfl (lv_at hl 1 rfl) ?_
      refine lv_iload hx hb dL_law_837 (lv_at hl 5 rfl) ?_
      refine lv_iconst (v := nI 2) hx hb dL_law_839 (by decide) ?_
      refine lv_iadd hx hb dL_law_840 ?_
      refine gx_as (y := nI (i + 2)) (nI_add i 2) ?_
      refine va_sld hx hb hXs hbl hbA hS.2.2 (vp_in_nI (by omega) (by omega)) dL_law_841 ?_
      refine gx_as (y := x2) (by rw [nI_clamp (by omega)]; exact ex2) ?_
      refine gc_l (gx_runV (As := [.int x1, .int x2]) (rest := []) ⟨hx, hb, hml, hown, hts⟩ hK hN hS 53 (by decide) rfl rfl (ct_X7_packedB l D cA o ad ln 68 H.size iv x1 x2 (by decide) l1 hb2 hb4) (cwV 2 hts (atA_lV gL_law_X7_packed) rfl rfl rfl (by decide +kernel) ⟨gle hRf rfl, gle hRl rfl⟩) rfl rfl hl.1 rfl (lv_room (Nat.le_of_ble_eq_true rfl)) dL_law_842 ⟨by omega, by omega⟩) hS hA (fun r2 iv2 H locs hp2 hS => ?_)
      obtain ⟨_, ev2⟩ := hp2
      have hth : iv2 53 0 = nI 1 := by rw [ev2, up2_s]; rfl
      have hLI : LI P T mc sc ch G Ad Sg w t ln iv2 := by rw [ev2]; exact LI_th h 1
      refine lv_lstore (lv' := [(6, .long r2), (5, .int (nI 1)), (0, .ref b), (1, .ref (ad 0)), (2, .ref (ad 53)), (3, .ref (ad 67)), (4, .int (nI i))]) hx hb dL_law_845 hl (by decide) rfl (fun ls hl => ?_)
      refine lv_aload_n hx hb dL_law_847 rfl (lv_at hl 4 rfl) ?_
      refine gc_i (gx_runV (As := []) (rest := []) ⟨hx, hb, hml, hown, hts⟩ hK hN hS 53 (by decide) rfl rfl (ct_X7_thrown l D cA o ad ln 68 H.size iv2 (by decide) l1) (cwV 0 hts (atA_lV gL_law_X7_thrown) rfl rfl rfl (by decide +kernel) ⟨gle hRf rfl, gle hRl rfl⟩) rfl rfl hl.1 rfl (lv_room (Nat.le_of_ble_eq_true rfl)) dL_law_848 ⟨by omega, by omega⟩) hS hA (fun z9 iv9 H locs hp9 hS => ?_)
      obtain ⟨ez9, ev9⟩ := hp9
      rw [ev9] at hS
      refine gx_as (y := nI 1) (by rw [ez9]; exact hth) ?_
      refine lv_iload hx hb dL_law_851 (lv_at hl 1 rfl) ?_
      refine lv_icmp_eq (tgt := 858) hx hb dL_law_853 (by decide) (fun _ => ?_) (fun c9 => absurd rfl c9)
      refine lv_iload hx hb dL_law_858 (lv_at hl 1 rfl) ?_
      refine lv_if_ne (tgt := 874) hx hb dL_law_860 (by decide) (fun _ => ?_) (fun c9 => absurd c9 (by decide))
      refine lv_goto (tgt := 1147) hx hb dL_law_874 (by decide) ?_
      exact K _ _ _ _ _ _ _ _ _ P T mc sc ch G Ad Sg w t hLI (by omega) (by omega) hS (lv_sub hl [2, 3, 4, 5, 6] rfl)

set_option maxHeartbeats 4000000 in
set_option maxRecDepth 100000 in
theorem law_least {p : Program} {l : Launch} {e : Env} {R : Room} {s : State} {m : MethodId} {below : List Frame} {meth : Method} {c : Code} {D : va_G} {cA : Nat → ClassId} {b L i : Nat} {xs : Nat → Int32} {Q : State → Prop} {o : Nat → Int64} {ad ln : Nat → Nat} {iv : Nat → Nat → Int32} {H : Heap} {locs : List Loc} {ls : Array Slot} {cells slots P T mc sc : Nat} {ch : Nat → Bool} {G Ad Sg : Nat → Nat → Nat} {w t : Nat → Nat} {x1 : Int32} (X : LX p l R s m c D cA b L xs) (hi : i + 3 < L) (ex1 : xs (i + 1) = x1) (h : LI P T mc sc ch G Ad Sg w t ln iv) (hcb : cells ≤ 500 + uC P T ln + i) (hsb : slots ≤ 500000 + uS P T ln + 2 * i) (hS : gS D cA (fun q => s.heap.size ≤ q) s.heap o ad ln iv 68 H locs) (hl : lv_has ls 8 [(0, .ref b), (1, .ref (ad 0)), (2, .ref (ad 53)), (3, .ref (ad 67)), (4, .int (nI i))]) (K : LK p l e R s m below meth c D cA b i Q) : W p l e R s m #[.ref b] below meth c H locs cells slots Q (F0 m 1053 ls []) := by
  obtain ⟨hx, hb, hml, hown, hts, hXs, hbl, hK, hN, hX, hst, hRf, hRl, hRc, hRs, hL⟩ := X
  have hA : ∀ q : Nat, s.heap.size ≤ q → (fun q : Nat => s.heap.size ≤ q) q := fun _ h => h
  have hbA : ¬ (fun q : Nat => s.heap.size ≤ q) b := Nat.not_le.mpr hbl
  obtain ⟨⟨c1, c2, c3, c4, c5, c6, c7, c8, c9, c10, c11, c12⟩, ⟨l1, l2, l3⟩, ⟨a1, a2, a3, a4, a5, a6, a7, a8, a9, a10, a11, a12⟩, m0, s0, ⟨n1, n2, n3, n4⟩, ⟨rr1, rr2, rr3, rr4, rr5, rr6, rr7, rr8, rr9, rr10⟩, t0, o0⟩ := id h
  have hcP : cnt ch P ≤ P := inj_le_P pcs_inj
  have hu1 := uC_le P T ln
  have hu2 := uS_le c2 c4 ln
  have hff := ff_1680 P (by omega) (cnt ch P) (by omega)
  have hpw := pw_le4 c4 c7
  have hS9 := Nat.mul_le_mul hff hpw
  by_cases hok : ok9 x1 (nI (ff P (cnt ch P) * T ^ cnt ch P))
  · skip
    obtain ⟨x9, hx9, rfl⟩ := ok9_of (by omega) hok
    rcases o0 with o0 | ⟨oo1, o2, o3, lk, o4, o5, o6⟩
    · skip
      have gdeq : ∀ j, j < sc → (goodAt iv P mc (21 + j) ↔ gdN P mc ch G Ad (Sg j)) := fun j hj => good_both c2 c4 (fun q hq => m0 q (by omega)) (fun p hp => ⟨s0 j hj p hp, (c9 j).1 p hp⟩) (c9 j) a12
      have hij : ∀ z, z < sc → gdN P mc ch G Ad (Sg z) → inj (imZ P T ch Sg z) (ff P (cnt ch P) * T ^ cnt ch P) (ff P (cnt ch P) * T ^ cnt ch P) := fun z _ hg => imN_inj c3 hcP (c9 z) pcs_inj (siF_ok (c9 z) hg.1)
      have hgo : ∀ j, j < 6 → ∀ p, p < P → vp_in (iv (2 + 3 * j + 1) p) P := fun j hj p hp => by rw [((m0 j hj).2 p hp).1]; exact vp_in_nI ((m0 j hj).2 p hp).2.1 (by omega)
      have b1 := al_le (ln 50) (ff P (cnt ch P) * T ^ cnt ch P)
      have b2 := al_le (ln 51) (ff P (cnt ch P))
      have b3 := al_le (ln 52) (T ^ cnt ch P)
      have d1 := als_le (ln 50) (ff P (cnt ch P) * T ^ cnt ch P)
      have d2 := als_le (ln 51) (ff P (cnt ch P))
      have d3 := als_le (ln 52) (T ^ cnt ch P)
      refine lv_aload_n hx hb dL_law_1053 rfl (lv_at hl 1 rfl) ?_
      refine lv_aload_n hx hb dL_law_1054 rfl (lv_at hl 0 rfl) ?_
      refine lv_iload hx hb dL_law_1055 (lv_at hl 4 rfl) ?_
      refine lv_iconst (v := nI 1) hx hb dL_law_1057 (by decide) ?_
      refine lv_iadd hx hb dL_law_1058 ?_
      refine gx_as (y := nI (i + 1)) (nI_add i 1) ?_
      refine va_sld hx hb hXs hbl hbA hS.2.2 (vp_in_nI (by omega) (by omega)) dL_law_1059 ?_
      refine gx_as (y := nI x9) (by rw [nI_clamp (by omega)]; exact ex1) ?_
      refine lv_aload_n hx hb dL_law_1060 rfl (lv_at hl 3 rfl) ?_
      refine gc_oxM (hk_L_least l D cA o ad ln 68 H.size iv (nI x9) (rm := { frames := 5, cells := al (ln 50) (ff P (cnt ch P) * T ^ cnt ch P) + al (ln 51) (ff P (cnt ch P)) + al (ln 52) (T ^ cnt ch P), slots := als (ln 50) (ff P (cnt ch P) * T ^ cnt ch P) + als (ln 51) (ff P (cnt ch P)) + als (ln 52) (T ^ cnt ch P), locals := 118 }) (mc := al (ln 50) (ff P (cnt ch P) * T ^ cnt ch P) + al (ln 51) (ff P (cnt ch P)) + al (ln 52) (T ^ cnt ch P)) (ms := als (ln 50) (ff P (cnt ch P) * T ^ cnt ch P) + als (ln 51) (ff P (cnt ch P)) + als (ln 52) (T ^ cnt ch P)) (by decide) rfl rfl (by show 5 + 1 ≤ 14; decide) (by show 8 + (2 + 11) + 118 ≤ 240; decide) (ct_X6_leastU l D cA o ad ln 68 H.size iv x9 mc sc P (cnt ch P) T (pcs ch P) Sg (fun z => siF ch P (Sg z)) (by decide) l1 o0 l2 a7 c7 a6 c3 c4 c2 a10 pcs_inj a5 a1 a8 a9 a3 c5 hgo a11 a4 c6 (fun j hj => ⟨s0 j hj, c9 j⟩) (fun j hj hg => siF_ok (c9 j) ((gdeq j hj).mp hg).1) n3 hx9) (fun r ad' ln' iv' q => (q.1 67 (by decide) (by decide) (by decide)).1)) (fun hM => vx_runSW (As := [.ref (ad 0), .int (nI x9), .ref (ad 67)]) (rest := []) ⟨hx, hb, hml, hown, hts⟩ hM (vx_cwSW 3 hts (atA_lV gL_law_L_least) rfl rfl rfl (by decide +kernel) ⟨gle hRf rfl, gle hRl rfl⟩) ⟨gPre_blind, fun U hU hW => ⟨rfl, hS.pre hK hN hU hW⟩⟩ rfl rfl hl.1 rfl (lv_room (Nat.le_of_ble_eq_true rfl)) dL_law_1061 ⟨by omega, by omega⟩) hS hA (fun k9 o1 ad1 ln1 iv1 H locs hp1 hS => ?_)
      obtain ⟨ek, v1, hp1, eo⟩ := hp1
      obtain ⟨g1, ⟨g2, g3, g4⟩, g5, ⟨lk, g6, g7, g8, e1⟩, g10, g11⟩ := hp1
      have l1x : ∀ k, ln1 k < 2 ^ 31 := fun k => by
        by_cases y1 : k = 50
        · rw [y1, g2]; have := l1 50; omega
        by_cases y2 : k = 51
        · rw [y2, g3]; have := l1 51; omega
        by_cases y3 : k = 52
        · rw [y3, g4]; have := l1 52; omega
        rw [(g1 k y1 y2 y3).2]; exact l1 k
      have hu := u_orb (show cnt ch P < 5 by omega) (fun i y1 y2 y3 => (g1 i y1 y2 y3).2) g2 g3 g4
      have hu3 := uC_le P T ln1
      have hu4 := uS_le c2 c4 ln1
      have hcls := clsTo_cg (img2 := imZ P T ch Sg) (gd2 := fun z => gdN P mc ch G Ad (Sg z)) gdeq (fun j hj hg x _ => imgF_imN c3 (siF_ok (c9 j) hg.1)) g7
      have hLI1 : LI P T mc sc ch G Ad Sg w t ln1 iv1 := LI_orb h (fun i y1 y2 y3 => (g1 i y1 y2 y3).2) l1x (by rw [g2]; omega) g5 g6 hcls g8 g10 g11
      obtain ⟨_, ⟨_, _, l3x⟩, _, _, _, _, ⟨q1, q2, q3, q4, q5, q6, q7, q8, q9, q10⟩, _, _⟩ := id hLI1
      refine gx_as (y := nI 0) ek ?_
      have hl : lv_has ls 8 [(0, .ref b), (1, .ref (ad1 0)), (2, .ref (ad1 53)), (3, .ref (ad1 67)), (4, .int (nI i))] := by
        rw [(g1 0 (by decide) (by decide) (by decide)).1, (g1 53 (by decide) (by decide) (by decide)).1, (g1 67 (by decide) (by decide) (by decide)).1]
        exact hl
      refine lv_istore (lv' := [(5, .int (nI 0)), (0, .ref b), (1, .ref (ad1 0)), (2, .ref (ad1 53)), (3, .ref (ad1 67)), (4, .int (nI i))]) hx hb dL_law_1064 hl (by decide) rfl (fun ls hl => ?_)
      refine lv_aload_n hx hb dL_law_1066 rfl (lv_at hl 3 rfl) ?_
      refine lv_aload_n hx hb dL_law_1067 rfl (lv_at hl 1 rfl) ?_
      refine lv_iload hx hb dL_law_1068 (lv_at hl 5 rfl) ?_
      refine lv_iconst (v := nI 1) hx hb dL_law_1070 (by decide) ?_
      refine lv_iadd hx hb dL_law_1071 ?_
      refine gx_as (y := nI (i + 1)) (nI_add i 1) ?_
      refine va_sld hx hb hXs hbl hbA hS.2.2 (vp_in_nI (by omega) (by omega)) dL_law_1072 ?_
      refine gx_as (y := nI x9) (by rw [nI_clamp (by omega)]; exact ex1) ?_
      refine gc_i (gx_runV (As := [.int (nI x9)]) (rest := []) ⟨hx, hb, hml, hown, hts⟩ hK hN hS 53 (by decide) rfl rfl (ct_X7_least l D cA o1 ad1 ln1 68 H.size iv1 x9 P T (cnt ch P) (ff P (cnt ch P) * T ^ cnt ch P) mc sc (pcs ch P) Sg (fun z => siF ch P (Sg z)) (imZ P T ch Sg) G Ad ch (fun z => gdN P mc ch G Ad (Sg z)) (by decide) l1x l3x q4 c7 q2 c3 c4 q1 c2 q9 pcs_inj rfl hS9 q6 c6 q10 q3 c5 q7 q8 (fun _ _ => Iff.rfl) (fun z _ => c9 z) (fun z _ hg => ⟨siF_ok (c9 z) hg.1, fun _ _ => rfl⟩) hx9) (cwV 1 hts (atA_lV gL_law_X7_least) rfl rfl rfl (by decide +kernel) ⟨gle hRf rfl, gle hRl rfl⟩) rfl rfl hl.1 rfl (lv_room (Nat.le_of_ble_eq_true rfl)) dL_law_1073 ⟨by omega, by omega⟩) hS hA (fun r2 iv2 H locs hp2 hS => ?_)
      obtain ⟨⟨lv, f0, f1, f5, f6⟩, ⟨f2, f3⟩, f4⟩ := hp2
      have hreq : v1 = r2 := by rw [e1, f0, cls_least hcls hx9 f1 f5 f6]
      have hth : iv2 53 0 = nI 0 := f2
      have hLI : LI P T mc sc ch G Ad Sg w t ln1 iv2 := LI_fr hLI1 (fun j hj => f3 j hj) (fun q hq => f4 q (fun u => by rw [u] at hq; exact absurd hq (by decide)) (fun u => by rw [u] at hq; exact absurd hq (by decide)) (fun u => by rw [u] at hq; exact absurd hq (by decide)) (fun u => by rw [u] at hq; exact absurd hq (by decide)) (fun u => by rw [u] at hq; exact absurd hq (by decide)) (fun u => by rw [u] at hq; exact absurd hq (by decide)) (fun u => by rw [u] at hq; exact absurd hq (by decide)) (fun u => by rw [u] at hq; exact absurd hq (by decide))) (fun p hp => by rw [f4 33 (by decide) (by decide) (by decide) (by decide) (by decide) (by decide) (by decide) (by decide)]; exact g10 p hp)
      refine lv_istore (lv' := [(6, .int r2), (5, .int (nI 0)), (0, .ref b), (1, .ref (ad1 0)), (2, .ref (ad1 53)), (3, .ref (ad1 67)), (4, .int (nI i))]) hx hb dL_law_1076 hl (by decide) rfl (fun ls hl => ?_)
      refine lv_aload_n hx hb dL_law_1078 rfl (lv_at hl 4 rfl) ?_
      refine gc_i (gx_runV (As := []) (rest := []) ⟨hx, hb, hml, hown, hts⟩ hK hN hS 53 (by decide) rfl rfl (ct_X7_thrown l D cA o1 ad1 ln1 68 H.size iv2 (by decide) l1x) (cwV 0 hts (atA_lV gL_law_X7_thrown) rfl rfl rfl (by decide +kernel) ⟨gle hRf rfl, gle hRl rfl⟩) rfl rfl hl.1 rfl (lv_room (Nat.le_of_ble_eq_true rfl)) dL_law_1079 ⟨by omega, by omega⟩) hS hA (fun z9 iv9 H locs hp9 hS => ?_)
      obtain ⟨ez9, ev9⟩ := hp9
      rw [ev9] at hS
      refine gx_as (y := nI 0) (by rw [ez9]; exact hth) ?_
      refine lv_iload hx hb dL_law_1082 (lv_at hl 1 rfl) ?_
      refine lv_icmp_eq (tgt := 1089) hx hb dL_law_1084 (by decide) (fun _ => ?_) (fun c9 => absurd rfl c9)
      refine lv_iload hx hb dL_law_1089 (lv_at hl 1 rfl) ?_
      refine lv_if_ne (tgt := 1106) hx hb dL_law_1091 (by decide) (fun c9 => absurd (by decide) c9) (fun _ => ?_)
      refine lv_aload_n hx hb dL_law_1094 rfl (lv_at hl 5 rfl) ?_
      refine lv_iconst (v := nI 0) hx hb dL_law_1095 (by decide) ?_
      refine gx_lald hx hb hK hS (by decide) dL_law_1096 ?_
      refine gx_asl (y := Int32.toInt64 v1) (by rw [eo, va_up_self]) ?_
      refine lv_iload hx hb dL_law_1097 (lv_at hl 0 rfl) ?_
      refine lv_i2l hx hb dL_law_1099 rfl ?_
      refine W.lcmp hx hb dL_law_1100 ?_
      refine gx_as (y := 0) (by rw [hreq]; exact lg_self _) ?_
      refine lv_if_eq (tgt := 1106) hx hb dL_law_1101 (by decide) (fun _ => ?_) (fun c9 => absurd (by decide) c9)
      refine lv_goto (tgt := 1147) hx hb dL_law_1106 (by decide) ?_
      exact K _ _ _ _ _ _ _ _ _ P T mc sc ch G Ad Sg w t hLI (by omega) (by omega) hS (lv_sub hl [2, 3, 4, 5, 6] rfl)
    · skip
      refine lv_aload_n hx hb dL_law_1053 rfl (lv_at hl 1 rfl) ?_
      refine lv_aload_n hx hb dL_law_1054 rfl (lv_at hl 0 rfl) ?_
      refine lv_iload hx hb dL_law_1055 (lv_at hl 4 rfl) ?_
      refine lv_iconst (v := nI 1) hx hb dL_law_1057 (by decide) ?_
      refine lv_iadd hx hb dL_law_1058 ?_
      refine gx_as (y := nI (i + 1)) (nI_add i 1) ?_
      refine va_sld hx hb hXs hbl hbA hS.2.2 (vp_in_nI (by omega) (by omega)) dL_law_1059 ?_
      refine gx_as (y := nI x9) (by rw [nI_clamp (by omega)]; exact ex1) ?_
      refine lv_aload_n hx hb dL_law_1060 rfl (lv_at hl 3 rfl) ?_
      refine gc_oxM (hk_L_least l D cA o ad ln 68 H.size iv (nI x9) (rm := { frames := 5, cells := 0, slots := 0, locals := 118 }) (mc := 0) (ms := 0) (by decide) rfl rfl (by decide) (by decide) (gMi_x (ct_X6_leastK l D cA o ad ln 68 H.size iv x9 P (cnt ch P) T lk (by decide) l1 (by rw [oo1]; decide) c7 c4 c2 a8 a9 o2 o3 o4 o5.1 hx9)) (fun r ad' ln' iv' q => by rw [q.1])) (fun hM => vx_runSW (As := [.ref (ad 0), .int (nI x9), .ref (ad 67)]) (rest := []) ⟨hx, hb, hml, hown, hts⟩ hM (vx_cwSW 3 hts (atA_lV gL_law_L_least) rfl rfl rfl (by decide +kernel) ⟨gle hRf rfl, gle hRl rfl⟩) ⟨gPre_blind, fun U hU hW => ⟨rfl, hS.pre hK hN hU hW⟩⟩ rfl rfl hl.1 rfl (lv_room (Nat.le_of_ble_eq_true rfl)) dL_law_1061 ⟨by omega, by omega⟩) hS hA (fun k9 o1 ad1 ln1 iv1 H locs hp1 hS => ?_)
      obtain ⟨ek, v1, ⟨rfl, rfl, hq⟩, eo⟩ := hp1
      obtain ⟨e1, lk2, g1, g2, g3, g4⟩ := hq
      have hcl2 : clsTo lk2 (ff P (cnt ch P) * T ^ cnt ch P) (imZ P T ch Sg) (fun z => gdN P mc ch G Ad (Sg z)) sc := ⟨g2, fun x y hx9 hy9 => by rw [g3 x hx9, g3 y hy9]; exact o5.2 x y hx9 hy9⟩
      have hLI1 : LI P T mc sc ch G Ad Sg w t ln iv1 := LI_orb h (fun _ _ _ _ => rfl) l1 o3 ⟨by rw [g4 49 (by decide)]; exact oo1, by rw [g4 49 (by decide)]; exact o2⟩ g1 hcl2 (by rw [g4 49 (by decide), o6, nroot_congr o5.1 g2 (fun k hk9 => (g3 k hk9).symm)]) (by rw [g4 33 (by decide)]; exact n3) (fun q _ _ _ _ _ _ y7 _ _ => g4 q y7)
      obtain ⟨_, _, _, _, _, ⟨_, _, n3b, _⟩, ⟨q1, q2, q3, q4, q5, q6, q7, q8, q9, q10⟩, _, _⟩ := id hLI1
      refine gx_as (y := nI 0) ek ?_
      refine lv_istore (lv' := [(5, .int (nI 0)), (0, .ref b), (1, .ref (ad 0)), (2, .ref (ad 53)), (3, .ref (ad 67)), (4, .int (nI i))]) hx hb dL_law_1064 hl (by decide) rfl (fun ls hl => ?_)
      refine lv_aload_n hx hb dL_law_1066 rfl (lv_at hl 3 rfl) ?_
      refine lv_aload_n hx hb dL_law_1067 rfl (lv_at hl 1 rfl) ?_
      refine lv_iload hx hb dL_law_1068 (lv_at hl 5 rfl) ?_
      refine lv_iconst (v := nI 1) hx hb dL_law_1070 (by decide) ?_
      refine lv_iadd hx hb dL_law_1071 ?_
      refine gx_as (y := nI (i + 1)) (nI_add i 1) ?_
      refine va_sld hx hb hXs hbl hbA hS.2.2 (vp_in_nI (by omega) (by omega)) dL_law_1072 ?_
      refine gx_as (y := nI x9) (by rw [nI_clamp (by omega)]; exact ex1) ?_
      refine gc_i (gx_runV (As := [.int (nI x9)]) (rest := []) ⟨hx, hb, hml, hown, hts⟩ hK hN hS 53 (by decide) rfl rfl (ct_X7_least l D cA o1 ad ln 68 H.size iv1 x9 P T (cnt ch P) (ff P (cnt ch P) * T ^ cnt ch P) mc sc (pcs ch P) Sg (fun z => siF ch P (Sg z)) (imZ P T ch Sg) G Ad ch (fun z => gdN P mc ch G Ad (Sg z)) (by decide) l1 l3 q4 c7 q2 c3 c4 q1 c2 q9 pcs_inj rfl hS9 q6 c6 q10 q3 c5 q7 q8 (fun _ _ => Iff.rfl) (fun z _ => c9 z) (fun z _ hg => ⟨siF_ok (c9 z) hg.1, fun _ _ => rfl⟩) hx9) (cwV 1 hts (atA_lV gL_law_X7_least) rfl rfl rfl (by decide +kernel) ⟨gle hRf rfl, gle hRl rfl⟩) rfl rfl hl.1 rfl (lv_room (Nat.le_of_ble_eq_true rfl)) dL_law_1073 ⟨by omega, by omega⟩) hS hA (fun r2 iv2 H locs hp2 hS => ?_)
      obtain ⟨⟨lv, f0, f1, f5, f6⟩, ⟨f2, f3⟩, f4⟩ := hp2
      have hreq : v1 = r2 := by rw [e1, f0, cls_least o5 hx9 f1 f5 f6]
      have hth : iv2 53 0 = nI 0 := f2
      have hLI : LI P T mc sc ch G Ad Sg w t ln iv2 := LI_fr hLI1 (fun j hj => f3 j hj) (fun q hq => f4 q (fun u => by rw [u] at hq; exact absurd hq (by decide)) (fun u => by rw [u] at hq; exact absurd hq (by decide)) (fun u => by rw [u] at hq; exact absurd hq (by decide)) (fun u => by rw [u] at hq; exact absurd hq (by decide)) (fun u => by rw [u] at hq; exact absurd hq (by decide)) (fun u => by rw [u] at hq; exact absurd hq (by decide)) (fun u => by rw [u] at hq; exact absurd hq (by decide)) (fun u => by rw [u] at hq; exact absurd hq (by decide))) (fun p hp => by rw [f4 33 (by decide) (by decide) (by decide) (by decide) (by decide) (by decide) (by decide) (by decide)]; exact n3b p hp)
      refine lv_istore (lv' := [(6, .int r2), (5, .int (nI 0)), (0, .ref b), (1, .ref (ad 0)), (2, .ref (ad 53)), (3, .ref (ad 67)), (4, .int (nI i))]) hx hb dL_law_1076 hl (by decide) rfl (fun ls hl => ?_)
      refine lv_aload_n hx hb dL_law_1078 rfl (lv_at hl 4 rfl) ?_
      refine gc_i (gx_runV (As := []) (rest := []) ⟨hx, hb, hml, hown, hts⟩ hK hN hS 53 (by decide) rfl rfl (ct_X7_thrown l D cA o1 ad ln 68 H.size iv2 (by decide) l1) (cwV 0 hts (atA_lV gL_law_X7_thrown) rfl rfl rfl (by decide +kernel) ⟨gle hRf rfl, gle hRl rfl⟩) rfl rfl hl.1 rfl (lv_room (Nat.le_of_ble_eq_true rfl)) dL_law_1079 ⟨by omega, by omega⟩) hS hA (fun z9 iv9 H locs hp9 hS => ?_)
      obtain ⟨ez9, ev9⟩ := hp9
      rw [ev9] at hS
      refine gx_as (y := nI 0) (by rw [ez9]; exact hth) ?_
      refine lv_iload hx hb dL_law_1082 (lv_at hl 1 rfl) ?_
      refine lv_icmp_eq (tgt := 1089) hx hb dL_law_1084 (by decide) (fun _ => ?_) (fun c9 => absurd rfl c9)
      refine lv_iload hx hb dL_law_1089 (lv_at hl 1 rfl) ?_
      refine lv_if_ne (tgt := 1106) hx hb dL_law_1091 (by decide) (fun c9 => absurd (by decide) c9) (fun _ => ?_)
      refine lv_aload_n hx hb dL_law_1094 rfl (lv_at hl 5 rfl) ?_
      refine lv_iconst (v := nI 0) hx hb dL_law_1095 (by decide) ?_
      refine gx_lald hx hb hK hS (by decide) dL_law_1096 ?_
      refine gx_asl (y := Int32.toInt64 v1) (by rw [eo, va_up_self]) ?_
      refine lv_iload hx hb dL_law_1097 (lv_at hl 0 rfl) ?_
      refine lv_i2l hx hb dL_law_1099 rfl ?_
      refine W.lcmp hx hb dL_law_1100 ?_
      refine gx_as (y := 0) (by rw [hreq]; exact lg_self _) ?_
      refine lv_if_eq (tgt := 1106) hx hb dL_law_1101 (by decide) (fun _ => ?_) (fun c9 => absurd (by decide) c9)
      refine lv_goto (tgt := 1147) hx hb dL_law_1106 (by decide) ?_
      exact K _ _ _ _ _ _ _ _ _ P T mc sc ch G Ad Sg w t hLI (by omega) (by omega) hS (lv_sub hl [2, 3, 4, 5, 6] rfl)
  · skip
    refine lv_aload_n hx hb dL_law_1053 rfl (lv_at hl 1 rfl) ?_
    refine lv_aload_n hx hb dL_law_1054 rfl (lv_at hl 0 rfl) ?_
    refine lv_iload hx hb dL_law_1055 (lv_at hl 4 rfl) ?_
    refine lv_iconst (v := nI 1) hx hb dL_law_1057 (by decide) ?_
    refine lv_iadd hx hb dL_law_1058 ?_
    refine gx_as (y := nI (i + 1)) (nI_add i 1) ?_
    refine va_sld hx hb hXs hbl hbA hS.2.2 (vp_in_nI (by omega) (by omega)) dL_law_1059 ?_
    refine gx_as (y := x1) (by rw [nI_clamp (by omega)]; exact ex1) ?_
    refine lv_aload_n hx hb dL_law_1060 rfl (lv_at hl 3 rfl) ?_
    refine gc_oxM (hx_L_least l D cA o ad ln 68 H.size iv x1 (by decide) (cx_X6_leastT l hst D cA o ad ln 68 H.size iv x1 P T (cnt ch P) (by decide) l1 a8 a9 (ok9_no hok))) (fun hM => vx_runSW (As := [.ref (ad 0), .int x1, .ref (ad 67)]) (rest := []) ⟨hx, hb, hml, hown, hts⟩ hM (vx_cwSW 3 hts (atA_in gL_law_L_least) rfl rfl rfl (by decide +kernel) ⟨gle hRf rfl, gle hRl rfl⟩) ⟨gPreX_blind, fun U hU hW => ⟨rfl, hS.preX hK hN hX hA hU hW⟩⟩ rfl rfl hl.1 rfl (lv_room (Nat.le_of_ble_eq_true rfl)) dL_law_1061 ⟨by omega, by omega⟩) hS hA (fun k9 o1 ad1 ln1 iv1 H locs hp1 hS => ?_)
    obtain ⟨ek, rfl, rfl, rfl, rfl⟩ := hp1
    refine gx_as (y := nI 1) ek ?_
    refine lv_istore (lv' := [(5, .int (nI 1)), (0, .ref b), (1, .ref (ad 0)), (2, .ref (ad 53)), (3, .ref (ad 67)), (4, .int (nI i))]) hx hb dL_law_1064 hl (by decide) rfl (fun ls hl => ?_)
    refine lv_aload_n hx hb dL_law_1066 rfl (lv_at hl 3 rfl) ?_
    refine lv_aload_n hx hb dL_law_1067 rfl (lv_at hl 1 rfl) ?_
    refine lv_iload hx hb dL_law_1068 (lv_at hl 5 rfl) ?_
    refine lv_iconst (v := nI 1) hx hb dL_law_1070 (by decide) ?_
    refine lv_iadd hx hb dL_law_1071 ?_
    refine gx_as (y := nI (i + 1)) (nI_add i 1) ?_
    refine va_sld hx hb hXs hbl hbA hS.2.2 (vp_in_nI (by omega) (by omega)) dL_law_1072 ?_
    refine gx_as (y := x1) (by rw [nI_clamp (by omega)]; exact ex1) ?_
    refine gc_i (gx_runV (As := [.int x1]) (rest := []) ⟨hx, hb, hml, hown, hts⟩ hK hN hS 53 (by decide) rfl rfl (ct_X7_leastB l D cA o ad ln 68 H.size iv x1 P (cnt ch P) T (by decide) l1 rr4 c7 rr2 c3 c4 rr1 c2 hcP hok) (cwV 1 hts (atA_lV gL_law_X7_least) rfl rfl rfl (by decide +kernel) ⟨gle hRf rfl, gle hRl rfl⟩) rfl rfl hl.1 rfl (lv_room (Nat.le_of_ble_eq_true rfl)) dL_law_1073 ⟨by omega, by omega⟩) hS hA (fun r2 iv2 H locs hp2 hS => ?_)
    obtain ⟨_, ev2⟩ := hp2
    have hth : iv2 53 0 = nI 1 := by rw [ev2, up2_s]; rfl
    have hLI : LI P T mc sc ch G Ad Sg w t ln iv2 := by rw [ev2]; exact LI_th h 1
    refine lv_istore (lv' := [(6, .int r2), (5, .int (nI 1)), (0, .ref b), (1, .ref (ad 0)), (2, .ref (ad 53)), (3, .ref (ad 67)), (4, .int (nI i))]) hx hb dL_law_1076 hl (by decide) rfl (fun ls hl => ?_)
    refine lv_aload_n hx hb dL_law_1078 rfl (lv_at hl 4 rfl) ?_
    refine gc_i (gx_runV (As := []) (rest := []) ⟨hx, hb, hml, hown, hts⟩ hK hN hS 53 (by decide) rfl rfl (ct_X7_thrown l D cA o ad ln 68 H.size iv2 (by decide) l1) (cwV 0 hts (atA_lV gL_law_X7_thrown) rfl rfl rfl (by decide +kernel) ⟨gle hRf rfl, gle hRl rfl⟩) rfl rfl hl.1 rfl (lv_room (Nat.le_of_ble_eq_true rfl)) dL_law_1079 ⟨by omega, by omega⟩) hS hA (fun z9 iv9 H locs hp9 hS => ?_)
    obtain ⟨ez9, ev9⟩ := hp9
    rw [ev9] at hS
    refine gx_as (y := nI 1) (by rw [ez9]; exact hth) ?_
    refine lv_iload hx hb dL_law_1082 (lv_at hl 1 rfl) ?_
    refine lv_icmp_eq (tgt := 1089) hx hb dL_law_1084 (by decide) (fun _ => ?_) (fun c9 => absurd rfl c9)
    refine lv_iload hx hb dL_law_1089 (lv_at hl 1 rfl) ?_
    refine lv_if_ne (tgt := 1106) hx hb dL_law_1091 (by decide) (fun _ => ?_) (fun c9 => absurd c9 (by decide))
    refine lv_goto (tgt := 1147) hx hb dL_law_1106 (by decide) ?_
    exact K _ _ _ _ _ _ _ _ _ P T mc sc ch G Ad Sg w t hLI (by omega) (by omega) hS (lv_sub hl [2, 3, 4, 5, 6] rfl)
