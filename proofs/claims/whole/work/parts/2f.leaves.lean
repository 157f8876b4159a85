theorem inX2_begin_RX1 : ∀ {w : Cond}, w ∈ u_ws RX1 TX1 8 → w ∈ wsX2_begin := fun {w} h => by first | exact List.mem_cons_of_mem _ (List.mem_append_right _ h) | (revert h; revert w; show ∀ w ∈ u_ws RX1 TX1 8, w ∈ wsX2_begin; decide +kernel)
theorem inX2_begin_RX2 : ∀ {w : Cond}, w ∈ u_ws RX2 TX2 8 → w ∈ wsX2_begin := fun {w} h => by first | exact List.mem_cons_of_mem _ (List.mem_append_right _ h) | (revert h; revert w; show ∀ w ∈ u_ws RX2 TX2 8, w ∈ wsX2_begin; decide +kernel)
set_option maxHeartbeats 4000000 in
set_option maxRecDepth 100000 in
theorem bd_X2_begin {p : Program} {l : Launch} {e : Env} {R : Room} {s : State} {m : MethodId} {args : Array Value} {below : List Frame} {meth : Method} {c : Code} {H : Heap} {locs : List Loc} {cells slots : Nat} {Q : State → Prop} {ls : Array Slot} {D : va_G} {A : Nat → Prop} {H0 : Heap} {cA : Nat → ClassId} {o : Nat → Int64} {ad ln : Nat → Nat} {iv : Nat → Nat → Int32} {n : Nat} {a t : Nat}
    (F : gF p s m meth c cX2_begin 2 RX2 wsX2_begin args none) (hRf : 1 ≤ R.frames) (hRl : 21 ≤ R.locals) (hRc : cells + (al (ln 50) (a * t) + al (ln 51) a + al (ln 52) t) ≤ R.cells) (hRs : slots + (als (ln 50) (a * t) + als (ln 51) a + als (ln 52) t) ≤ R.slots) (hK : va_K D vwCl (gT cA) s) (hN : NW s) (hA : ∀ q, H0.size ≤ q → A q) (hn : 68 ≤ n) (hln : ∀ k, ln k < 2 ^ 31) (ha : iv 25 6 = nI a) (ht : iv 25 7 = nI t) (hat : a * t ≤ 2 ^ 20) (haL : a ≤ 2 ^ 20) (htL : t ≤ 2 ^ 20)
    (hS : gS D cA A H0 o ad ln iv n H locs) (hl : lv_has ls 2 [(0, .ref (ad 49)), (1, .ref (ad 25))])
    (kret : ∀ (ad' ln' : Nat → Nat) (iv' : Nat → Nat → Int32) (H : Heap) (locs : List Loc) (ls : Array Slot) (pc : Nat), decode cX2_begin pc = .ok (.return_, 1) → ((∀ i, i ≠ 50 → i ≠ 51 → i ≠ 52 → ad' i = ad i ∧ ln' i = ln i) ∧ (ln' 50 = max (ln 50) (a * t) ∧ ln' 51 = max (ln 51) a ∧ ln' 52 = max (ln 52) t) ∧ (iv' 49 0 = iv 49 0 ∧ iv' 49 1 = nI (a * t) ∧ iv' 49 2 = nI (a * t) ∧ iv' 49 3 = nI a ∧ iv' 49 4 = nI t) ∧ (∀ j, j < ln' 50 → iv' 50 j = nI j) ∧ ∀ q, q ≠ 49 → q ≠ 50 → q ≠ 51 → q ≠ 52 → iv' q = iv q) → gS D cA A H0 o ad' ln' iv' n H locs → W p l e R s m args below meth c H locs (cells + (al (ln 50) (a * t) + al (ln 51) a + al (ln 52) t)) (slots + (als (ln 50) (a * t) + als (ln 51) a + als (ln 52) t)) Q (F0 m pc ls [])) :
    W p l e R s m args below meth c H locs cells slots Q (F0 m 0 ls []) := by
  obtain ⟨hx, hb, hml, hown, hts, hr, hlocks⟩ := F
  refine lv_aload_n hx hb dX2_begin_0 rfl (lv_at hl 0 rfl) ?_
  refine lv_aload_n hx hb dX2_begin_1 rfl (lv_at hl 1 rfl) ?_
  refine gc_i (gx_runV (As := []) (rest := [.ref (ad 49)]) ⟨hx, hb, hml, hown, hts⟩ hK hN hS 25 (by omega) rfl rfl (ct_X1_stateCount l D cA o ad ln n H.size iv hn hln) (cwV 0 hts gX2_begin_X1_stateCount rfl rfl rfl (by decide +kernel) ⟨gle hRf rfl, gle hRl rfl⟩) rfl rfl hl.1 rfl (lv_room (Nat.le_of_ble_eq_true rfl)) dX2_begin_2 ⟨by omega, by omega⟩) hS hA (fun y iv0 H locs hp0 hS => ?_)
  obtain ⟨ey, ev0⟩ := hp0
  rw [ev0] at hS
  refine gx_as (y := nI (a * t)) (by rw [ey, ha, ht, pk_mul]) ?_
  skip
  refine gx_put (ci := 5) (x := nI (a * t)) (ty := .int) (C := RX2) (T := TX2) (N := 8) hx hb hts (fun _ h => inX2_begin_RX2 h) tyX2 tyX2_ok nmX2 hown hK hS 49 (by omega) rfl rfl 2 (by decide) (hts (.fieldLink RX2 29 "CosetTables$Orbits" "states" "I") (by decide +kernel)) rfl (by decide +kernel) rfl rfl (Nat.le_of_ble_eq_true rfl) rfl dX2_begin_5 (fun H locs hS => ?_)
  obtain ⟨iv1, eiv1⟩ : ∃ z, z = up2 iv 49 2 (nI (a * t)) := ⟨_, rfl⟩
  rw [← eiv1] at hS
  refine lv_aload_n hx hb dX2_begin_8 rfl (lv_at hl 0 rfl) ?_
  refine lv_aload_n hx hb dX2_begin_9 rfl (lv_at hl 1 rfl) ?_
  refine gx_getN (ci := 4) (v := .int (iv1 25 6)) (C := RX1) (T := TX1) (N := 8) hx hb hts (fun _ h => inX2_begin_RX1 h) hown hK hS 25 (by omega) rfl rfl 6 (by decide) (nf_RX2_33 hN) rfl dX2_begin_10 ?_
  refine gx_as (y := nI a) (by rw [eiv1, up2_row (by decide)]; exact ha) ?_
  refine gx_put (ci := 5) (x := nI a) (ty := .int) (C := RX2) (T := TX2) (N := 8) hx hb hts (fun _ h => inX2_begin_RX2 h) tyX2 tyX2_ok nmX2 hown hK hS 49 (by omega) rfl rfl 3 (by decide) (hts (.fieldLink RX2 36 "CosetTables$Orbits" "arrangements" "I") (by decide +kernel)) rfl (by decide +kernel) rfl rfl (Nat.le_of_ble_eq_true rfl) rfl dX2_begin_13 (fun H locs hS => ?_)
  obtain ⟨iv2, eiv2⟩ : ∃ z, z = up2 iv1 49 3 (nI a) := ⟨_, rfl⟩
  rw [← eiv2] at hS
  refine lv_aload_n hx hb dX2_begin_16 rfl (lv_at hl 0 rfl) ?_
  refine lv_aload_n hx hb dX2_begin_17 rfl (lv_at hl 1 rfl) ?_
  refine gx_getN (ci := 4) (v := .int (iv2 25 7)) (C := RX1) (T := TX1) (N := 8) hx hb hts (fun _ h => inX2_begin_RX1 h) hown hK hS 25 (by omega) rfl rfl 7 (by decide) (nf_RX2_37 hN) rfl dX2_begin_18 ?_
  refine gx_as (y := nI t) (by rw [eiv2, up2_row (by decide), eiv1, up2_row (by decide)]; exact ht) ?_
  
  refine gx_put (ci := 5) (x := nI t) (ty := .int) (C := RX2) (T := TX2) (N := 8) hx hb hts (fun _ h => inX2_begin_RX2 h) tyX2 tyX2_ok nmX2 hown hK hS 49 (by omega) rfl rfl 4 (by decide) (hts (.fieldLink RX2 40 "CosetTables$Orbits" "twistings" "I") (by decide +kernel)) rfl (by decide +kernel) rfl rfl (Nat.le_of_ble_eq_true rfl) rfl dX2_begin_21 (fun H locs hS => ?_)
  obtain ⟨iv3, eiv3⟩ : ∃ z, z = up2 iv2 49 4 (nI t) := ⟨_, rfl⟩
  rw [← eiv3] at hS
  refine lv_aload_n hx hb dX2_begin_24 rfl (lv_at hl 0 rfl) ?_
  refine lv_aload_n hx hb dX2_begin_25 rfl (lv_at hl 0 rfl) ?_
  refine gx_get (ci := 5) (v := .ref (ad 50)) (C := RX2) (T := TX2) (N := 8) hx hb hts (fun _ h => inX2_begin_RX2 h) hown hK hS 49 (by omega) rfl rfl 5 (by decide) (hts (.fieldLink RX2 7 "CosetTables$Orbits" "links" "[I") (by decide +kernel)) rfl dX2_begin_26 ?_
  refine lv_aload_n hx hb dX2_begin_29 rfl (lv_at hl 0 rfl) ?_
  have e0 : iv3 49 0 = iv 49 0 := by rw [eiv3, up2_n (by decide), eiv2, up2_n (by decide), eiv1, up2_n (by decide)]
  have e2 : iv3 49 2 = nI (a * t) := by rw [eiv3, up2_n (by decide), eiv2, up2_n (by decide), eiv1, up2_s]
  have e3 : iv3 49 3 = nI a := by rw [eiv3, up2_n (by decide), eiv2, up2_s]
  have e4 : iv3 49 4 = nI t := by rw [eiv3, up2_s]
  have eo : ∀ q, q ≠ 49 → iv3 q = iv q := fun q hq => by rw [eiv3, up2_row hq, eiv2, up2_row hq, eiv1, up2_row hq]
  refine gx_get (ci := 5) (v := .int (iv3 49 2)) (C := RX2) (T := TX2) (N := 8) hx hb hts (fun _ h => inX2_begin_RX2 h) hown hK hS 49 (by omega) rfl rfl 2 (by decide) (hts (.fieldLink RX2 29 "CosetTables$Orbits" "states" "I") (by decide +kernel)) rfl dX2_begin_30 ?_
  refine gx_as (y := nI (a * t)) e2 ?_
  refine gx_room (obj := 49) (k := 50) (L := (a * t)) (j := 5) (ci := 5) (C := RX2) (T := TX2) (N := 8) ⟨hx, hb, hml, hown, hts⟩ hK hN hA hn hln hS rfl hat rfl (fun a => rfl) rfl (by decide) (Nat.le_of_ble_eq_true rfl) (fun _ h => inX2_begin_RX2 h) tyX2 tyX2_ok nmX2 (hts (.fieldLink RX2 7 "CosetTables$Orbits" "links" "[I") (by decide +kernel)) rfl (by decide +kernel) ⟨va_cnB 2 hts gX2_begin_X6_roomFor_n41 rfl rfl rfl (nf_RX2_41 hN) (hts (.initialized RX6) (by decide +kernel)) (by decide +kernel) ⟨gle hRf rfl, gle hRl rfl⟩, hts (.static yX6_roomFor) (by decide +kernel), trivial⟩ hl.1 (lv_room (Nat.le_of_ble_eq_true rfl)) dX2_begin_33 dX2_begin_36 ⟨by omega, by omega⟩ (fun ad1 ln1 iv4 H locs hda1 hla1 hia1 hxa1 hS => ?_)
  have hl : lv_has ls 2 [(0, .ref (ad1 49)), (1, .ref (ad1 25))] := by rw [hda1 25 (by decide), hda1 49 (by decide)]; exact hl
  have hln : ∀ q, ln1 q < 2 ^ 31 := gln hln hla1 hxa1 hat
  have hda_1 := hda1
  have hla_1 := hla1
  refine lv_aload_n hx hb dX2_begin_39 rfl (lv_at hl 0 rfl) ?_
  refine lv_aload_n hx hb dX2_begin_40 rfl (lv_at hl 0 rfl) ?_
  refine gx_get (ci := 5) (v := .ref (ad1 51)) (C := RX2) (T := TX2) (N := 8) hx hb hts (fun _ h => inX2_begin_RX2 h) hown hK hS 49 (by omega) rfl rfl 6 (by decide) (hts (.fieldLink RX2 13 "CosetTables$Orbits" "arrangementImages" "[I") (by decide +kernel)) rfl dX2_begin_41 ?_
  refine lv_aload_n hx hb dX2_begin_44 rfl (lv_at hl 0 rfl) ?_
  refine gx_get (ci := 5) (v := .int (iv4 49 3)) (C := RX2) (T := TX2) (N := 8) hx hb hts (fun _ h => inX2_begin_RX2 h) hown hK hS 49 (by omega) rfl rfl 3 (by decide) (hts (.fieldLink RX2 36 "CosetTables$Orbits" "arrangements" "I") (by decide +kernel)) rfl dX2_begin_45 ?_
  refine gx_as (y := nI a) (by rw [hia1 49 (by decide)]; exact e3) ?_
  refine gx_room (obj := 49) (k := 51) (L := a) (j := 6) (ci := 5) (C := RX2) (T := TX2) (N := 8) ⟨hx, hb, hml, hown, hts⟩ hK hN hA hn hln hS rfl haL rfl (fun a => rfl) rfl (by decide) (Nat.le_of_ble_eq_true rfl) (fun _ h => inX2_begin_RX2 h) tyX2 tyX2_ok nmX2 (hts (.fieldLink RX2 13 "CosetTables$Orbits" "arrangementImages" "[I") (by decide +kernel)) rfl (by decide +kernel) ⟨va_cnB 2 hts gX2_begin_X6_roomFor_n41 rfl rfl rfl (nf_RX2_41 hN) (hts (.initialized RX6) (by decide +kernel)) (by decide +kernel) ⟨gle hRf rfl, gle hRl rfl⟩, hts (.static yX6_roomFor) (by decide +kernel), trivial⟩ hl.1 (lv_room (Nat.le_of_ble_eq_true rfl)) dX2_begin_48 dX2_begin_51 ⟨by rw [hla_1 51 (by decide)]; omega, by rw [hla_1 51 (by decide)]; omega⟩ (fun ad2 ln2 iv5 H locs hda2 hla2 hia2 hxa2 hS => ?_)
  have hl : lv_has ls 2 [(0, .ref (ad2 49)), (1, .ref (ad2 25))] := by rw [hda2 25 (by decide), hda2 49 (by decide)]; exact hl
  have hln : ∀ q, ln2 q < 2 ^ 31 := gln hln hla2 hxa2 haL
  have hda_2 : ∀ i, i ≠ 50 → i ≠ 51 → ad2 i = ad i := fun i q0 qq => (hda2 i qq).trans (hda_1 i q0)
  have hla_2 : ∀ i, i ≠ 50 → i ≠ 51 → ln2 i = ln i := fun i q0 qq => (hla2 i qq).trans (hla_1 i q0)
  rw [hla_1 51 (by decide)]
  refine lv_aload_n hx hb dX2_begin_54 rfl (lv_at hl 0 rfl) ?_
  refine lv_aload_n hx hb dX2_begin_55 rfl (lv_at hl 0 rfl) ?_
  refine gx_get (ci := 5) (v := .ref (ad2 52)) (C := RX2) (T := TX2) (N := 8) hx hb hts (fun _ h => inX2_begin_RX2 h) hown hK hS 49 (by omega) rfl rfl 7 (by decide) (hts (.fieldLink RX2 16 "CosetTables$Orbits" "twistingImages" "[I") (by decide +kernel)) rfl dX2_begin_56 ?_
  refine lv_aload_n hx hb dX2_begin_59 rfl (lv_at hl 0 rfl) ?_
  refine gx_get (ci := 5) (v := .int (iv5 49 4)) (C := RX2) (T := TX2) (N := 8) hx hb hts (fun _ h => inX2_begin_RX2 h) hown hK hS 49 (by omega) rfl rfl 4 (by decide) (hts (.fieldLink RX2 40 "CosetTables$Orbits" "twistings" "I") (by decide +kernel)) rfl dX2_begin_60 ?_
  refine gx_as (y := nI t) (by rw [hia2 49 (by decide), hia1 49 (by decide)]; exact e4) ?_
  refine gx_room (obj := 49) (k := 52) (L := t) (j := 7) (ci := 5) (C := RX2) (T := TX2) (N := 8) ⟨hx, hb, hml, hown, hts⟩ hK hN hA hn hln hS rfl htL rfl (fun a => rfl) rfl (by decide) (Nat.le_of_ble_eq_true rfl) (fun _ h => inX2_begin_RX2 h) tyX2 tyX2_ok nmX2 (hts (.fieldLink RX2 16 "CosetTables$Orbits" "twistingImages" "[I") (by decide +kernel)) rfl (by decide +kernel) ⟨va_cnB 2 hts gX2_begin_X6_roomFor_n41 rfl rfl rfl (nf_RX2_41 hN) (hts (.initialized RX6) (by decide +kernel)) (by decide +kernel) ⟨gle hRf rfl, gle hRl rfl⟩, hts (.static yX6_roomFor) (by decide +kernel), trivial⟩ hl.1 (lv_room (Nat.le_of_ble_eq_true rfl)) dX2_begin_63 dX2_begin_66 ⟨by rw [hla_2 52 (by decide) (by decide)]; omega, by rw [hla_2 52 (by decide) (by decide)]; omega⟩ (fun ad3 ln3 iv6 H locs hda3 hla3 hia3 hxa3 hS => ?_)
  have hl : lv_has ls 2 [(0, .ref (ad3 49)), (1, .ref (ad3 25))] := by rw [hda3 25 (by decide), hda3 49 (by decide)]; exact hl
  have hln : ∀ q, ln3 q < 2 ^ 31 := gln hln hla3 hxa3 htL
  have hda_3 : ∀ i, i ≠ 50 → i ≠ 51 → i ≠ 52 → ad3 i = ad i := fun i q0 q1 qq => (hda3 i qq).trans (hda_2 i q0 q1)
  have hla_3 : ∀ i, i ≠ 50 → i ≠ 51 → i ≠ 52 → ln3 i = ln i := fun i q0 q1 qq => (hla3 i qq).trans (hla_2 i q0 q1)
  rw [hla_2 52 (by decide) (by decide)]
  have hiv6 : iv6 49 = iv3 49 := by rw [hia3 49 (by decide), hia2 49 (by decide), hia1 49 (by decide)]
  have l50 : ln3 50 = max (ln 50) (a * t) := by rw [hla3 50 (by decide), hla2 50 (by decide), hxa1]
  have l51 : ln3 51 = max (ln 51) a := by rw [hla3 51 (by decide), hxa2, hla1 51 (by decide)]
  have l52 : ln3 52 = max (ln 52) t := by rw [hxa3, hla2 52 (by decide), hla1 52 (by decide)]
  refine lv_aload_n hx hb dX2_begin_69 rfl (lv_at hl 0 rfl) ?_
  refine gx_get (ci := 5) (v := .ref (ad3 50)) (C := RX2) (T := TX2) (N := 8) hx hb hts (fun _ h => inX2_begin_RX2 h) hown hK hS 49 (by omega) rfl rfl 5 (by decide) (hts (.fieldLink RX2 7 "CosetTables$Orbits" "links" "[I") (by decide +kernel)) rfl dX2_begin_70 ?_
  refine gc_v (gx_runSN (As := [.ref (ad3 50)]) (rest := []) ⟨hx, hb, hml, hown, hts⟩ hK hN hS (ct_X6_leaveAll l D cA o ad3 ln3 n H.size iv6 (k := 50) trivial hln (by omega) (by decide)) ⟨va_cnB 1 hts gX2_begin_X6_leaveAll_n47 rfl rfl rfl (nf_RX2_47 hN) (hts (.initialized RX6) (by decide +kernel)) (by decide +kernel) ⟨gle hRf rfl, gle hRl rfl⟩, hts (.static yX6_leaveAll) (by decide +kernel), trivial⟩ rfl rfl hl.1 rfl (lv_room (Nat.le_of_ble_eq_true rfl)) dX2_begin_73 ⟨by omega, by omega⟩) hS hA (fun iv7 H locs hp7 hS => ?_)
  refine lv_aload_n hx hb dX2_begin_76 rfl (lv_at hl 0 rfl) ?_
  refine lv_aload_n hx hb dX2_begin_77 rfl (lv_at hl 0 rfl) ?_
  refine gx_get (ci := 5) (v := .int (iv7 49 2)) (C := RX2) (T := TX2) (N := 8) hx hb hts (fun _ h => inX2_begin_RX2 h) hown hK hS 49 (by omega) rfl rfl 2 (by decide) (hts (.fieldLink RX2 29 "CosetTables$Orbits" "states" "I") (by decide +kernel)) rfl dX2_begin_78 ?_
  refine gx_as (y := nI (a * t)) (by rw [hp7, wr1_o (by decide), hiv6]; exact e2) ?_
  refine gx_put (ci := 5) (x := nI (a * t)) (ty := .int) (C := RX2) (T := TX2) (N := 8) hx hb hts (fun _ h => inX2_begin_RX2 h) tyX2 tyX2_ok nmX2 hown hK hS 49 (by omega) rfl rfl 1 (by decide) (hts (.fieldLink RX2 51 "CosetTables$Orbits" "orbitCount" "I") (by decide +kernel)) rfl (by decide +kernel) rfl rfl (Nat.le_of_ble_eq_true rfl) rfl dX2_begin_81 (fun H locs hS => ?_)
  obtain ⟨iv8, eiv8⟩ : ∃ z, z = up2 iv7 49 1 (nI (a * t)) := ⟨_, rfl⟩
  rw [← eiv8] at hS
  refine W.widen (k := cells + (al (ln 50) (a * t) + al (ln 51) a + al (ln 52) t)) (n := slots + (als (ln 50) (a * t) + als (ln 51) a + als (ln 52) t)) (by omega) (by omega) ?_
  exact kret ad3 ln3 iv8 _ _ _ _ dX2_begin_84 (⟨fun i q1 q2 q3 => ⟨hda_3 i q1 q2 q3, hla_3 i q1 q2 q3⟩, ⟨l50, l51, l52⟩, ⟨by rw [eiv8, up2_n (by decide), hp7, wr1_o (by decide), hiv6, e0], by rw [eiv8, up2_s], by rw [eiv8, up2_n (by decide), hp7, wr1_o (by decide), hiv6, e2], by rw [eiv8, up2_n (by decide), hp7, wr1_o (by decide), hiv6, e3], by rw [eiv8, up2_n (by decide), hp7, wr1_o (by decide), hiv6, e4]⟩, fun j hj => by rw [eiv8, up2_row (by decide), hp7, wr1_at, if_pos hj], fun q q1 q2 q3 q4 => by rw [eiv8, up2_row q1, hp7, wr1_o q2, hia3 q q4, hia2 q q3, hia1 q q2, eo q q1]⟩) hS
set_option maxRecDepth 100000 in
theorem ct_X2_begin (l : Launch) (D : va_G) (cA : Nat → ClassId) (o : Nat → Int64) (ad ln : Nat → Nat) (n sz : Nat) (iv : Nat → Nat → Int32) (a t : Nat) (hn : 68 ≤ n) (hln : ∀ k, ln k < 2 ^ 31) (ha : iv 25 6 = nI a) (ht : iv 25 7 = nI t) (hat : a * t ≤ 2 ^ 20) (haL : a ≤ 2 ^ 20) (htL : t ≤ 2 ^ 20) : gMvx l yX2_begin wsX2_begin { frames := 1, cells := al (ln 50) (a * t) + al (ln 51) a + al (ln 52) t, slots := als (ln 50) (a * t) + als (ln 51) a + als (ln 52) t, locals := 21 } D cA o ad ln n sz iv [.ref (ad 49), .ref (ad 25)] (al (ln 50) (a * t) + al (ln 51) a + al (ln 52) t) (als (ln 50) (a * t) + als (ln 51) a + als (ln 52) t) (fun ad' ln' iv' => (∀ i, i ≠ 50 → i ≠ 51 → i ≠ 52 → ad' i = ad i ∧ ln' i = ln i) ∧ (ln' 50 = max (ln 50) (a * t) ∧ ln' 51 = max (ln 51) a ∧ ln' 52 = max (ln 52) t) ∧ (iv' 49 0 = iv 49 0 ∧ iv' 49 1 = nI (a * t) ∧ iv' 49 2 = nI (a * t) ∧ iv' 49 3 = nI a ∧ iv' 49 4 = nI t) ∧ (∀ j, j < ln' 50 → iv' 50 j = nI j) ∧ ∀ q, q ≠ 49 → q ≠ 50 → q ≠ 51 → q ≠ 52 → iv' q = iv q) := by
  refine Met.ofW (cc := cX2_begin) (maxL := 2) (ret := none) (by decide) rfl ?_
  intro p e s m args below meth c s₁ B hml hv__
  obtain ⟨rfl, hv__⟩ := hv__
  obtain ⟨hsz, hS, hK, hN, hA⟩ := gS.entry hv__
  have hl := lv_entry ([.ref (ad 49), .ref (ad 25)]) (n := 2) (Nat.le_of_ble_eq_true rfl)
  rw [lg_entry_eq]
  generalize (lg_sl ([.ref (ad 49), .ref (ad 25)]) ++ List.replicate (2 - (lg_sl ([.ref (ad 49), .ref (ad 25)])).length) Slot.unset).toArray = ls at hl ⊢
  exact bd_X2_begin (a := a) (t := t) ⟨B.exec, B.bytes, hml, findClass_of_methodNamed B.named, atoms_spec (ws := wsX2_begin) B.pre, B.returns, B.notSynchronized⟩ (Nat.le_refl _) (Nat.le_refl _) (Nat.le_of_eq (Nat.zero_add _)) (Nat.le_of_eq (Nat.zero_add _)) hK hN hA hn hln ha ht hat haL htL hS hl (fun ad' ln' iv' H locs ls pc hd hp hS => by rw [Nat.zero_add, Nat.zero_add]; exact gx_vretx (post := fun ad' ln' iv' => (∀ i, i ≠ 50 → i ≠ 51 → i ≠ 52 → ad' i = ad i ∧ ln' i = ln i) ∧ (ln' 50 = max (ln 50) (a * t) ∧ ln' 51 = max (ln 51) a ∧ ln' 52 = max (ln 52) t) ∧ (iv' 49 0 = iv 49 0 ∧ iv' 49 1 = nI (a * t) ∧ iv' 49 2 = nI (a * t) ∧ iv' 49 3 = nI a ∧ iv' 49 4 = nI t) ∧ (∀ j, j < ln' 50 → iv' 50 j = nI j) ∧ ∀ q, q ≠ 49 → q ≠ 50 → q ≠ 51 → q ≠ 52 → iv' q = iv q) B.exec B.bytes B.returns B.notSynchronized hS hp hd)
