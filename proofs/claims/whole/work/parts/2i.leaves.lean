theorem inX5_grow_RX4 : ∀ {w : Cond}, w ∈ u_ws RX4 TX4 6 → w ∈ wsX5_grow := fun {w} h => by first | exact List.mem_cons_of_mem _ (List.mem_append_right _ h) | (revert h; revert w; show ∀ w ∈ u_ws RX4 TX4 6, w ∈ wsX5_grow; decide +kernel)
theorem inX5_grow_RX5 : ∀ {w : Cond}, w ∈ u_ws RX5 TX5 6 → w ∈ wsX5_grow := fun {w} h => by first | exact List.mem_cons_of_mem _ (List.mem_append_right _ h) | (revert h; revert w; show ∀ w ∈ u_ws RX5 TX5 6, w ∈ wsX5_grow; decide +kernel)
set_option maxHeartbeats 4000000 in
set_option maxRecDepth 100000 in
theorem bd_X5_grow {p : Program} {l : Launch} {e : Env} {R : Room} {s : State} {m : MethodId} {args : Array Value} {below : List Frame} {meth : Method} {c : Code} {H : Heap} {locs : List Loc} {cells slots : Nat} {Q : State → Prop} {ls : Array Slot} {D : va_G} {A : Nat → Prop} {H0 : Heap} {cA : Nat → ClassId} {o : Nat → Int64} {ad ln : Nat → Nat} {iv : Nat → Nat → Int32} {n : Nat} {g9 m9 a t mc9 : Nat} {bk : Nat → Nat → Nat} {rp : Nat → Nat}
    (F : gF p s m meth c cX5_grow 8 RX5 wsX5_grow args (some .int)) (hRf : 2 ≤ R.frames) (hRl : 51 ≤ R.locals) (hRc : cells + (al (ln 47) (a * t) + al (ln 48) (a * t)) ≤ R.cells) (hRs : slots + (als (ln 47) (a * t) + als (ln 48) (a * t)) ≤ R.slots) (hK : va_K D vwCl (gT cA) s) (hN : NW s) (hA : ∀ q, H0.size ≤ q → A q) (hn : 68 ≤ n) (hln : ∀ k, ln k < 2 ^ 31) (han : iv 25 6 = nI a) (htn : iv 25 7 = nI t) (ha : iv 42 1 = nI a) (ht : iv 42 2 = nI t) (h0 : 0 < t) (hat : a * t ≤ 136080) (ha9 : a ≤ 1680) (ht9 : t ≤ 81) (hl1 : 6 * a ≤ ln 43) (hl2 : 6 * a ≤ ln 44) (hl3 : t * t ≤ ln 45) (hso : stepsOk iv a t mc9 bk) (hmc : mc9 ≤ 6) (hmc0 : iv 42 0 = nI mc9) (hg9 : g9 < a * t) (h41 : ln 41 = 6) (hrp : ∀ m, m < mc9 → iv 41 m = nI (rp m) ∧ rp m < 2 ^ 20)
    (hS : gS D cA A H0 o ad ln iv n H locs) (hl : lv_has ls 8 [(0, .ref (ad 46)), (1, .ref (ad 25)), (2, .int (nI g9)), (3, .int (nI m9)), (4, .ref (ad 42)), (5, .ref (ad 41))])
    (kret : ∀ (r : Int32) (ad' ln' : Nat → Nat) (iv' : Nat → Nat → Int32) (H : Heap) (locs : List Loc) (ls : Array Slot) (pc : Nat), decode cX5_grow pc = .ok (.ireturn, 1) → ((∀ i, i ≠ 47 → i ≠ 48 → ad' i = ad i ∧ ln' i = ln i) ∧ (ln' 47 = max (ln 47) (a * t) ∧ ln' 48 = max (ln 48) (a * t)) ∧ (iv' 46 0 = 1 ∧ iv' 46 1 = nI m9 ∧ iv' 46 2 = nI (a * t)) ∧ bOk (a * t) (bfs bk rp mc9 (bs0 g9) (a * t)) ∧ bQ (bfs bk rp mc9 (bs0 g9) (a * t)) ∧ tabAt iv' (a * t) (bfs bk rp mc9 (bs0 g9) (a * t)) ∧ r = nI ((bfs bk rp mc9 (bs0 g9) (a * t)).1 ((bfs bk rp mc9 (bs0 g9) (a * t)).2.1 ((bfs bk rp mc9 (bs0 g9) (a * t)).2.2 - 1))) - 1 ∧ ∀ q, q ≠ 46 → q ≠ 47 → q ≠ 48 → iv' q = iv q) → gS D cA A H0 o ad' ln' iv' n H locs → W p l e R s m args below meth c H locs (cells + (al (ln 47) (a * t) + al (ln 48) (a * t))) (slots + (als (ln 47) (a * t) + als (ln 48) (a * t))) Q (F0 m pc ls [.int r])) :
    W p l e R s m args below meth c H locs cells slots Q (F0 m 0 ls []) := by
  obtain ⟨hx, hb, hml, hown, hts, hr, hlocks⟩ := F
  have hats : 0 < a * t := by omega
  refine lv_aload_n hx hb dX5_grow_0 rfl (lv_at hl 0 rfl) ?_
  refine lv_iconst (v := nI 1) hx hb dX5_grow_1 (by decide) ?_
  refine gx_put (ci := 8) (x := nI 1) (ty := .boolean) (C := RX5) (T := TX5) (N := 6) hx hb hts (fun _ h => inX5_grow_RX5 h) tyX5 tyX5_ok nmX5 hown hK hS 46 (by omega) rfl rfl 0 (by decide) (hts (.fieldLink RX5 18 "CosetTables$Table" "built" "Z") (by decide +kernel)) rfl (by decide +kernel) (gx_nz (by first | exact Or.inl rfl | exact Or.inr rfl | assumption)) (gx_fz (by first | exact Or.inl rfl | exact Or.inr rfl | assumption)) (Nat.le_of_ble_eq_true rfl) rfl dX5_grow_2 (fun H locs hS => ?_)
  obtain ⟨iv1, eiv1⟩ : ∃ z, z = up2 iv 46 0 (nI 1) := ⟨_, rfl⟩
  rw [← eiv1] at hS
  refine lv_aload_n hx hb dX5_grow_5 rfl (lv_at hl 0 rfl) ?_
  refine lv_iload_n hx hb dX5_grow_6 rfl (lv_at hl 3 rfl) ?_
  refine gx_put (ci := 8) (x := nI m9) (ty := .int) (C := RX5) (T := TX5) (N := 6) hx hb hts (fun _ h => inX5_grow_RX5 h) tyX5 tyX5_ok nmX5 hown hK hS 46 (by omega) rfl rfl 1 (by decide) (hts (.fieldLink RX5 22 "CosetTables$Table" "measure" "I") (by decide +kernel)) rfl (by decide +kernel) rfl rfl (Nat.le_of_ble_eq_true rfl) rfl dX5_grow_7 (fun H locs hS => ?_)
  obtain ⟨iv2, eiv2⟩ : ∃ z, z = up2 iv1 46 1 (nI m9) := ⟨_, rfl⟩
  rw [← eiv2] at hS
  refine lv_aload_n hx hb dX5_grow_10 rfl (lv_at hl 0 rfl) ?_
  refine lv_aload_n hx hb dX5_grow_11 rfl (lv_at hl 1 rfl) ?_
  refine gc_i (gx_runV (As := []) (rest := [.ref (ad 46)]) ⟨hx, hb, hml, hown, hts⟩ hK hN hS 25 (by omega) rfl rfl (ct_X1_stateCount l D cA o ad ln n H.size iv2 hn hln) (cwV 0 hts gX5_grow_X1_stateCount rfl rfl rfl (by decide +kernel) ⟨gle hRf rfl, gle hRl rfl⟩) rfl rfl hl.1 rfl (lv_room (Nat.le_of_ble_eq_true rfl)) dX5_grow_12 ⟨by omega, by omega⟩) hS hA (fun y iv0 H locs hp0 hS => ?_)
  obtain ⟨ey, ev0⟩ := hp0
  rw [ev0] at hS
  refine gx_as (y := nI (a * t)) (by rw [ey, eiv2, up2_row (by decide), eiv1, up2_row (by decide), han, htn, pk_mul]) ?_
  skip
  refine gx_put (ci := 8) (x := nI (a * t)) (ty := .int) (C := RX5) (T := TX5) (N := 6) hx hb hts (fun _ h => inX5_grow_RX5 h) tyX5 tyX5_ok nmX5 hown hK hS 46 (by omega) rfl rfl 2 (by decide) (hts (.fieldLink RX5 32 "CosetTables$Table" "states" "I") (by decide +kernel)) rfl (by decide +kernel) rfl rfl (Nat.le_of_ble_eq_true rfl) rfl dX5_grow_15 (fun H locs hS => ?_)
  obtain ⟨iv3, eiv3⟩ : ∃ z, z = up2 iv2 46 2 (nI (a * t)) := ⟨_, rfl⟩
  rw [← eiv3] at hS
  refine lv_aload_n hx hb dX5_grow_18 rfl (lv_at hl 0 rfl) ?_
  refine lv_aload_n hx hb dX5_grow_19 rfl (lv_at hl 0 rfl) ?_
  refine gx_get (ci := 8) (v := .ref (ad 47)) (C := RX5) (T := TX5) (N := 6) hx hb hts (fun _ h => inX5_grow_RX5 h) hown hK hS 46 (by omega) rfl rfl 4 (by decide) (hts (.fieldLink RX5 9 "CosetTables$Table" "values" "[I") (by decide +kernel)) rfl dX5_grow_20 ?_
  refine lv_aload_n hx hb dX5_grow_23 rfl (lv_at hl 0 rfl) ?_
  have f0 : iv3 46 0 = 1 := by rw [eiv3, up2_n (by decide), eiv2, up2_n (by decide), eiv1, up2_s]; rfl
  have f1 : iv3 46 1 = nI m9 := by rw [eiv3, up2_n (by decide), eiv2, up2_s]
  have f2 : iv3 46 2 = nI (a * t) := by rw [eiv3, up2_s]
  have fo : ∀ q, q ≠ 46 → iv3 q = iv q := fun q hq => by rw [eiv3, up2_row hq, eiv2, up2_row hq, eiv1, up2_row hq]
  refine gx_get (ci := 8) (v := .int (iv3 46 2)) (C := RX5) (T := TX5) (N := 6) hx hb hts (fun _ h => inX5_grow_RX5 h) hown hK hS 46 (by omega) rfl rfl 2 (by decide) (hts (.fieldLink RX5 32 "CosetTables$Table" "states" "I") (by decide +kernel)) rfl dX5_grow_24 ?_
  refine gx_as (y := nI (a * t)) f2 ?_
  refine gx_room (obj := 46) (k := 47) (L := (a * t)) (j := 4) (ci := 8) (C := RX5) (T := TX5) (N := 6) ⟨hx, hb, hml, hown, hts⟩ hK hN hA hn hln hS rfl (show a * t ≤ 2 ^ 20 by omega) rfl (fun a => rfl) rfl (by decide) (Nat.le_of_ble_eq_true rfl) (fun _ h => inX5_grow_RX5 h) tyX5 tyX5_ok nmX5 (hts (.fieldLink RX5 9 "CosetTables$Table" "values" "[I") (by decide +kernel)) rfl (by decide +kernel) ⟨va_cnB 2 hts gX5_grow_X6_roomFor_n35 rfl rfl rfl (nf_RX5_35 hN) (hts (.initialized RX6) (by decide +kernel)) (by decide +kernel) ⟨gle hRf rfl, gle hRl rfl⟩, hts (.static yX6_roomFor) (by decide +kernel), trivial⟩ hl.1 (lv_room (Nat.le_of_ble_eq_true rfl)) dX5_grow_27 dX5_grow_30 ⟨by omega, by omega⟩ (fun ad1 ln1 iv4 H locs hda1 hla1 hia1 hxa1 hS => ?_)
  have hl : lv_has ls 8 [(0, .ref (ad1 46)), (1, .ref (ad1 25)), (2, .int (nI g9)), (3, .int (nI m9)), (4, .ref (ad1 42)), (5, .ref (ad1 41))] := by rw [hda1 25 (by decide), hda1 41 (by decide), hda1 42 (by decide), hda1 46 (by decide)]; exact hl
  have hln : ∀ q, ln1 q < 2 ^ 31 := gln hln hla1 hxa1 (show a * t ≤ 2 ^ 20 by omega)
  have hda_1 := hda1
  have hla_1 := hla1
  refine lv_aload_n hx hb dX5_grow_33 rfl (lv_at hl 0 rfl) ?_
  refine lv_aload_n hx hb dX5_grow_34 rfl (lv_at hl 0 rfl) ?_
  refine gx_get (ci := 8) (v := .ref (ad1 48)) (C := RX5) (T := TX5) (N := 6) hx hb hts (fun _ h => inX5_grow_RX5 h) hown hK hS 46 (by omega) rfl rfl 5 (by decide) (hts (.fieldLink RX5 15 "CosetTables$Table" "queue" "[I") (by decide +kernel)) rfl dX5_grow_35 ?_
  refine lv_aload_n hx hb dX5_grow_38 rfl (lv_at hl 0 rfl) ?_
  refine gx_get (ci := 8) (v := .int (iv4 46 2)) (C := RX5) (T := TX5) (N := 6) hx hb hts (fun _ h => inX5_grow_RX5 h) hown hK hS 46 (by omega) rfl rfl 2 (by decide) (hts (.fieldLink RX5 32 "CosetTables$Table" "states" "I") (by decide +kernel)) rfl dX5_grow_39 ?_
  refine gx_as (y := nI (a * t)) (by rw [hia1 46 (by decide)]; exact f2) ?_
  refine gx_room (obj := 46) (k := 48) (L := (a * t)) (j := 5) (ci := 8) (C := RX5) (T := TX5) (N := 6) ⟨hx, hb, hml, hown, hts⟩ hK hN hA hn hln hS rfl (show a * t ≤ 2 ^ 20 by omega) rfl (fun a => rfl) rfl (by decide) (Nat.le_of_ble_eq_true rfl) (fun _ h => inX5_grow_RX5 h) tyX5 tyX5_ok nmX5 (hts (.fieldLink RX5 15 "CosetTables$Table" "queue" "[I") (by decide +kernel)) rfl (by decide +kernel) ⟨va_cnB 2 hts gX5_grow_X6_roomFor_n35 rfl rfl rfl (nf_RX5_35 hN) (hts (.initialized RX6) (by decide +kernel)) (by decide +kernel) ⟨gle hRf rfl, gle hRl rfl⟩, hts (.static yX6_roomFor) (by decide +kernel), trivial⟩ hl.1 (lv_room (Nat.le_of_ble_eq_true rfl)) dX5_grow_42 dX5_grow_45 ⟨by rw [hla_1 48 (by decide)]; omega, by rw [hla_1 48 (by decide)]; omega⟩ (fun ad2 ln2 iv5 H locs hda2 hla2 hia2 hxa2 hS => ?_)
  have hl : lv_has ls 8 [(0, .ref (ad2 46)), (1, .ref (ad2 25)), (2, .int (nI g9)), (3, .int (nI m9)), (4, .ref (ad2 42)), (5, .ref (ad2 41))] := by rw [hda2 25 (by decide), hda2 41 (by decide), hda2 42 (by decide), hda2 46 (by decide)]; exact hl
  have hln : ∀ q, ln2 q < 2 ^ 31 := gln hln hla2 hxa2 (show a * t ≤ 2 ^ 20 by omega)
  have hda_2 : ∀ i, i ≠ 47 → i ≠ 48 → ad2 i = ad i := fun i q0 qq => (hda2 i qq).trans (hda_1 i q0)
  have hla_2 : ∀ i, i ≠ 47 → i ≠ 48 → ln2 i = ln i := fun i q0 qq => (hla2 i qq).trans (hla_1 i q0)
  rw [hla_1 48 (by decide)]
  have g46 : iv5 46 = iv3 46 := by rw [hia2 46 (by decide), hia1 46 (by decide)]
  have l47 : ln2 47 = max (ln 47) (a * t) := by rw [hla2 47 (by decide), hxa1]
  have l48 : ln2 48 = max (ln 48) (a * t) := by rw [hxa2, hla1 48 (by decide)]
  have l41 : ln2 41 = 6 := by rw [hla_2 41 (by decide) (by decide)]; exact h41
  have l43 : ln2 43 = ln 43 := hla_2 43 (by decide) (by decide)
  have l44 : ln2 44 = ln 44 := hla_2 44 (by decide) (by decide)
  have l45 : ln2 45 = ln 45 := hla_2 45 (by decide) (by decide)
  have go : ∀ q, q ≠ 46 → q ≠ 47 → q ≠ 48 → iv5 q = iv q := fun q q1 q2 q3 => by rw [hia2 q q3, hia1 q q2, fo q q1]
  refine lv_aload_n hx hb dX5_grow_48 rfl (lv_at hl 0 rfl) ?_
  refine gx_get (ci := 8) (v := .ref (ad2 47)) (C := RX5) (T := TX5) (N := 6) hx hb hts (fun _ h => inX5_grow_RX5 h) hown hK hS 46 (by omega) rfl rfl 4 (by decide) (hts (.fieldLink RX5 9 "CosetTables$Table" "values" "[I") (by decide +kernel)) rfl dX5_grow_49 ?_
  refine lv_iconst (v := nI 0) hx hb dX5_grow_52 (by decide) ?_
  refine lv_aload_n hx hb dX5_grow_53 rfl (lv_at hl 0 rfl) ?_
  refine gx_get (ci := 8) (v := .int (iv5 46 2)) (C := RX5) (T := TX5) (N := 6) hx hb hts (fun _ h => inX5_grow_RX5 h) hown hK hS 46 (by omega) rfl rfl 2 (by decide) (hts (.fieldLink RX5 32 "CosetTables$Table" "states" "I") (by decide +kernel)) rfl dX5_grow_54 ?_
  refine gx_as (y := nI (a * t)) (by rw [g46]; exact f2) ?_
  refine lv_iconst (v := (-1)) hx hb dX5_grow_57 (by decide) ?_
  refine gc_v (gx_runS (As := [.ref (ad2 47), .int (nI 0), .int (nI (a * t)), .int (-1)]) (rest := []) ⟨hx, hb, hml, hown, hts⟩ hK hN hS (ct_J7_fill_fda19 l D cA o ad2 ln2 n H.size iv5 (k := 47) (g := a * t) (x := (-1)) trivial hln (by omega) (by decide) (by omega)) (va_cwS 4 hts gX5_grow_J7_fill_fda19 rfl rfl rfl (by decide +kernel) ⟨gle hRf rfl, gle hRl rfl⟩) rfl rfl hl.1 rfl (lv_room (Nat.le_of_ble_eq_true rfl)) dX5_grow_58 ⟨by omega, by omega⟩) hS hA (fun iv6 H locs hp6 hS => ?_)
  refine lv_aload_n hx hb dX5_grow_61 rfl (lv_at hl 0 rfl) ?_
  refine gx_get (ci := 8) (v := .ref (ad2 47)) (C := RX5) (T := TX5) (N := 6) hx hb hts (fun _ h => inX5_grow_RX5 h) hown hK hS 46 (by omega) rfl rfl 4 (by decide) (hts (.fieldLink RX5 9 "CosetTables$Table" "values" "[I") (by decide +kernel)) rfl dX5_grow_62 ?_
  refine lv_iload_n hx hb dX5_grow_65 rfl (lv_at hl 2 rfl) ?_
  refine lv_iconst (v := nI 0) hx hb dX5_grow_66 (by decide) ?_
  refine gx_iastn hx hb hK hS 47 (by omega) (by decide) g9 (by omega) (hln _) dX5_grow_67 (fun H locs hS => ?_)
  obtain ⟨iv7, eiv7⟩ : ∃ z, z = up2 iv6 47 g9 (nI 0) := ⟨_, rfl⟩
  rw [← eiv7] at hS
  refine lv_aload_n hx hb dX5_grow_68 rfl (lv_at hl 0 rfl) ?_
  refine gx_get (ci := 8) (v := .ref (ad2 48)) (C := RX5) (T := TX5) (N := 6) hx hb hts (fun _ h => inX5_grow_RX5 h) hown hK hS 46 (by omega) rfl rfl 5 (by decide) (hts (.fieldLink RX5 15 "CosetTables$Table" "queue" "[I") (by decide +kernel)) rfl dX5_grow_69 ?_
  refine lv_iconst (v := nI 0) hx hb dX5_grow_72 (by decide) ?_
  refine lv_iload_n hx hb dX5_grow_73 rfl (lv_at hl 2 rfl) ?_
  refine gx_iastn hx hb hK hS 48 (by omega) (by decide) 0 (by omega) (hln _) dX5_grow_74 (fun H locs hS => ?_)
  obtain ⟨iv8, eiv8⟩ : ∃ z, z = up2 iv7 48 0 (nI g9) := ⟨_, rfl⟩
  rw [← eiv8] at hS
  refine lv_aload_n hx hb dX5_grow_75 rfl (lv_at hl 0 rfl) ?_
  refine lv_iconst (v := nI 1) hx hb dX5_grow_76 (by decide) ?_
  refine gx_put (ci := 8) (x := nI 1) (ty := .int) (C := RX5) (T := TX5) (N := 6) hx hb hts (fun _ h => inX5_grow_RX5 h) tyX5 tyX5_ok nmX5 hown hK hS 46 (by omega) rfl rfl 3 (by decide) (hts (.fieldLink RX5 45 "CosetTables$Table" "reached" "I") (by decide +kernel)) rfl (by decide +kernel) rfl rfl (Nat.le_of_ble_eq_true rfl) rfl dX5_grow_77 (fun H locs hS => ?_)
  obtain ⟨iv9, eiv9⟩ : ∃ z, z = up2 iv8 46 3 (nI 1) := ⟨_, rfl⟩
  rw [← eiv9] at hS
  have k46 : ∀ j, j ≠ 3 → iv9 46 j = iv3 46 j := fun j hj => by rw [eiv9, up2_n (by omega), eiv8, up2_row (by decide), eiv7, up2_row (by decide), hp6, wr1_o (by decide), g46]
  have ko : ∀ q, q ≠ 46 → q ≠ 47 → q ≠ 48 → iv9 q = iv q := fun q q1 q2 q3 => by rw [eiv9, up2_row q1, eiv8, up2_row q3, eiv7, up2_row q2, hp6, wr1_o q2, go q q1 q2 q3]
  have htab : tabAt iv9 (a * t) (bs0 g9) := by
    refine ⟨fun x hx => ?_, fun i hi => ?_, ?_⟩
    · show iv9 47 x = nI (if x = g9 then 1 else 0) - 1
      rw [eiv9, up2_row (by decide), eiv8, up2_row (by decide), eiv7, up2_eq, hp6, wr1_at, if_pos hx]
      by_cases e9 : x = g9
      · rw [if_pos ⟨rfl, e9⟩, if_pos e9]; rfl
      · rw [if_neg (fun q9 => e9 q9.2), if_neg e9]; rfl
    · have hi : i < 1 := hi
      show iv9 48 i = nI g9
      rw [eiv9, up2_row (by decide), eiv8, show i = 0 by omega, up2_s]
    · show iv9 46 3 = nI 1
      rw [eiv9, up2_s]
  have hso9 : stepsOk iv9 a t mc9 bk := by
    unfold stepsOk
    rw [ko 43 (by decide) (by decide) (by decide), ko 44 (by decide) (by decide) (by decide), ko 45 (by decide) (by decide) (by decide)]
    exact hso
  refine lv_iconst (v := nI 0) hx hb dX5_grow_80 (by decide) ?_
  refine lv_istore (lv' := [(6, .int (nI 0)), (0, .ref (ad2 46)), (1, .ref (ad2 25)), (2, .int (nI g9)), (3, .int (nI m9)), (4, .ref (ad2 42)), (5, .ref (ad2 41))]) hx hb dX5_grow_81 hl (by decide) rfl (fun ls hl => ?_)
  have L83 : ∀ (N : Nat) (i : Nat) (iva : Nat → Nat → Int32), a * t - i < N → (i ≤ a * t) → (bOk (a * t) (bfs bk rp mc9 (bs0 g9) i)) → (bQ (bfs bk rp mc9 (bs0 g9) i)) → (tabAt iva (a * t) (bfs bk rp mc9 (bs0 g9) i)) → (∀ j, j ≠ 3 → iva 46 j = iv9 46 j) → (∀ q, q ≠ 46 → q ≠ 47 → q ≠ 48 → iva q = iv9 q) → ((bfs bk rp mc9 (bs0 g9) i).1 g9 ≠ 0) → ∀ (H : Heap) (locs : List Loc) (ls : Array Slot), gS D cA A H0 o ad2 ln2 iva n H locs → lv_has ls 8 [(0, .ref (ad2 46)), (1, .ref (ad2 25)), (2, .int (nI g9)), (3, .int (nI m9)), (4, .ref (ad2 42)), (5, .ref (ad2 41)), (6, .int (nI i))] → W p l e R s m args below meth c H locs (cells + al (ln 47) ((a * t)) + al (ln 48) ((a * t))) (slots + als (ln 47) ((a * t)) + als (ln 48) ((a * t))) Q (F0 m 83 ls []) := by
    intro N
    induction N with
    | zero => intro i iva hm; exact absurd hm (Nat.not_lt_zero _)
    | succ N ih83 =>
      intro i iva hm hi h1 h2 h3 h4 h5 hg0 H locs ls hS hl
      have hC := bOk_C h1
      refine lv_iload hx hb dX5_grow_83 (lv_at hl 6 rfl) ?_
      refine lv_aload_n hx hb dX5_grow_85 rfl (lv_at hl 0 rfl) ?_
      refine gx_get (ci := 8) (v := .int (iva 46 2)) (C := RX5) (T := TX5) (N := 6) hx hb hts (fun _ h => inX5_grow_RX5 h) hown hK hS 46 (by omega) rfl rfl 2 (by decide) (hts (.fieldLink RX5 32 "CosetTables$Table" "states" "I") (by decide +kernel)) rfl dX5_grow_86 ?_
      refine gx_as (y := nI (a * t)) (by rw [h4 2 (by decide), k46 2 (by decide)]; exact f2) ?_
      refine lv_icmp_ge (tgt := 146) hx hb dX5_grow_89 (by decide) (fun c_89 => ?_) (fun c_89 => ?_)
      · skip
        rw [nI_leI (by omega) (by omega)] at c_89
        have hstop : (bfs bk rp mc9 (bs0 g9) i).2.2 ≤ i := by omega
        refine lv_aload_n hx hb dX5_grow_146 rfl (lv_at hl 0 rfl) ?_
        refine gx_get (ci := 8) (v := .ref (ad2 47)) (C := RX5) (T := TX5) (N := 6) hx hb hts (fun _ h => inX5_grow_RX5 h) hown hK hS 46 (by omega) rfl rfl 4 (by decide) (hts (.fieldLink RX5 9 "CosetTables$Table" "values" "[I") (by decide +kernel)) rfl dX5_grow_147 ?_
        refine lv_aload_n hx hb dX5_grow_150 rfl (lv_at hl 0 rfl) ?_
        refine gx_get (ci := 8) (v := .ref (ad2 48)) (C := RX5) (T := TX5) (N := 6) hx hb hts (fun _ h => inX5_grow_RX5 h) hown hK hS 46 (by omega) rfl rfl 5 (by decide) (hts (.fieldLink RX5 15 "CosetTables$Table" "queue" "[I") (by decide +kernel)) rfl dX5_grow_151 ?_
        refine lv_aload_n hx hb dX5_grow_154 rfl (lv_at hl 0 rfl) ?_
        have hfin := bfs_stop hstop (j := a * t) (by omega)
        have hC1 : 0 < (bfs bk rp mc9 (bs0 g9) i).2.2 := by rw [h1.1]; exact Nat.lt_of_lt_of_le (Nat.succ_pos _) (Nat.le_of_eq (cnt_up (M := g9) (f := fun x => (bfs bk rp mc9 (bs0 g9) i).1 x != 0) (by simp; exact hg0) hg9).symm)
        refine gx_get (ci := 8) (v := .int (iva 46 3)) (C := RX5) (T := TX5) (N := 6) hx hb hts (fun _ h => inX5_grow_RX5 h) hown hK hS 46 (by omega) rfl rfl 3 (by decide) (hts (.fieldLink RX5 45 "CosetTables$Table" "reached" "I") (by decide +kernel)) rfl dX5_grow_155 ?_
        refine gx_as (y := nI ((bfs bk rp mc9 (bs0 g9) i).2.2)) h3.2.2 ?_
        refine lv_iconst (v := nI 1) hx hb dX5_grow_158 (by decide) ?_
        refine lv_isub hx hb dX5_grow_159 ?_
        refine gx_as (y := nI ((bfs bk rp mc9 (bs0 g9) i).2.2 - 1)) (pk_sub hC1) ?_
        refine gx_ialdn hx hb hK hS 48 (by omega) (by decide) ((bfs bk rp mc9 (bs0 g9) i).2.2 - 1) (by omega) (hln _) dX5_grow_160 ?_
        refine gx_as (y := nI ((bfs bk rp mc9 (bs0 g9) i).2.1 ((bfs bk rp mc9 (bs0 g9) i).2.2 - 1))) (h3.2.1 _ (by omega)) ?_
        have hlast := h1.2.2 ((bfs bk rp mc9 (bs0 g9) i).2.2 - 1) (by omega)
        refine gx_ialdn hx hb hK hS 47 (by omega) (by decide) ((bfs bk rp mc9 (bs0 g9) i).2.1 ((bfs bk rp mc9 (bs0 g9) i).2.2 - 1)) (by omega) (hln _) dX5_grow_161 ?_
        refine W.widen (k := cells + (al (ln 47) (a * t) + al (ln 48) (a * t))) (n := slots + (als (ln 47) (a * t) + als (ln 48) (a * t))) (by omega) (by omega) ?_
        exact kret _ ad2 ln2 iva _ _ _ _ dX5_grow_162 (by rw [hfin]; exact ⟨fun i q1 q2 => ⟨hda_2 i q1 q2, hla_2 i q1 q2⟩, ⟨l47, l48⟩, ⟨by rw [h4 0 (by decide), k46 0 (by decide)]; exact f0, by rw [h4 1 (by decide), k46 1 (by decide)]; exact f1, by rw [h4 2 (by decide), k46 2 (by decide)]; exact f2⟩, h1, h2, h3, h3.1 _ hlast, fun q q1 q2 q3 => by rw [h5 q q1 q2 q3, ko q q1 q2 q3]⟩) hS
      · skip
        rw [nI_leI (by omega) (by omega)] at c_89
        refine lv_iload hx hb dX5_grow_92 (lv_at hl 6 rfl) ?_
        refine lv_aload_n hx hb dX5_grow_94 rfl (lv_at hl 0 rfl) ?_
        refine gx_get (ci := 8) (v := .int (iva 46 3)) (C := RX5) (T := TX5) (N := 6) hx hb hts (fun _ h => inX5_grow_RX5 h) hown hK hS 46 (by omega) rfl rfl 3 (by decide) (hts (.fieldLink RX5 45 "CosetTables$Table" "reached" "I") (by decide +kernel)) rfl dX5_grow_95 ?_
        refine gx_as (y := nI ((bfs bk rp mc9 (bs0 g9) i).2.2)) h3.2.2 ?_
        refine lv_icmp_ge (tgt := 146) hx hb dX5_grow_98 (by decide) (fun c_98 => ?_) (fun c_98 => ?_)
        · skip
          rw [nI_leI (by omega) (by omega)] at c_98
          have hstop : (bfs bk rp mc9 (bs0 g9) i).2.2 ≤ i := by omega
          refine lv_aload_n hx hb dX5_grow_146 rfl (lv_at hl 0 rfl) ?_
          refine gx_get (ci := 8) (v := .ref (ad2 47)) (C := RX5) (T := TX5) (N := 6) hx hb hts (fun _ h => inX5_grow_RX5 h) hown hK hS 46 (by omega) rfl rfl 4 (by decide) (hts (.fieldLink RX5 9 "CosetTables$Table" "values" "[I") (by decide +kernel)) rfl dX5_grow_147 ?_
          refine lv_aload_n hx hb dX5_grow_150 rfl (lv_at hl 0 rfl) ?_
          refine gx_get (ci := 8) (v := .ref (ad2 48)) (C := RX5) (T := TX5) (N := 6) hx hb hts (fun _ h => inX5_grow_RX5 h) hown hK hS 46 (by omega) rfl rfl 5 (by decide) (hts (.fieldLink RX5 15 "CosetTables$Table" "queue" "[I") (by decide +kernel)) rfl dX5_grow_151 ?_
          refine lv_aload_n hx hb dX5_grow_154 rfl (lv_at hl 0 rfl) ?_
          have hfin := bfs_stop hstop (j := a * t) (by omega)
          have hC1 : 0 < (bfs bk rp mc9 (bs0 g9) i).2.2 := by rw [h1.1]; exact Nat.lt_of_lt_of_le (Nat.succ_pos _) (Nat.le_of_eq (cnt_up (M := g9) (f := fun x => (bfs bk rp mc9 (bs0 g9) i).1 x != 0) (by simp; exact hg0) hg9).symm)
          refine gx_get (ci := 8) (v := .int (iva 46 3)) (C := RX5) (T := TX5) (N := 6) hx hb hts (fun _ h => inX5_grow_RX5 h) hown hK hS 46 (by omega) rfl rfl 3 (by decide) (hts (.fieldLink RX5 45 "CosetTables$Table" "reached" "I") (by decide +kernel)) rfl dX5_grow_155 ?_
          refine gx_as (y := nI ((bfs bk rp mc9 (bs0 g9) i).2.2)) h3.2.2 ?_
          refine lv_iconst (v := nI 1) hx hb dX5_grow_158 (by decide) ?_
          refine lv_isub hx hb dX5_grow_159 ?_
          refine gx_as (y := nI ((bfs bk rp mc9 (bs0 g9) i).2.2 - 1)) (pk_sub hC1) ?_
          refine gx_ialdn hx hb hK hS 48 (by omega) (by decide) ((bfs bk rp mc9 (bs0 g9) i).2.2 - 1) (by omega) (hln _) dX5_grow_160 ?_
          refine gx_as (y := nI ((bfs bk rp mc9 (bs0 g9) i).2.1 ((bfs bk rp mc9 (bs0 g9) i).2.2 - 1))) (h3.2.1 _ (by omega)) ?_
          have hlast := h1.2.2 ((bfs bk rp mc9 (bs0 g9) i).2.2 - 1) (by omega)
          refine gx_ialdn hx hb hK hS 47 (by omega) (by decide) ((bfs bk rp mc9 (bs0 g9) i).2.1 ((bfs bk rp mc9 (bs0 g9) i).2.2 - 1)) (by omega) (hln _) dX5_grow_161 ?_
          refine W.widen (k := cells + (al (ln 47) (a * t) + al (ln 48) (a * t))) (n := slots + (als (ln 47) (a * t) + als (ln 48) (a * t))) (by omega) (by omega) ?_
          exact kret _ ad2 ln2 iva _ _ _ _ dX5_grow_162 (by rw [hfin]; exact ⟨fun i q1 q2 => ⟨hda_2 i q1 q2, hla_2 i q1 q2⟩, ⟨l47, l48⟩, ⟨by rw [h4 0 (by decide), k46 0 (by decide)]; exact f0, by rw [h4 1 (by decide), k46 1 (by decide)]; exact f1, by rw [h4 2 (by decide), k46 2 (by decide)]; exact f2⟩, h1, h2, h3, h3.1 _ hlast, fun q q1 q2 q3 => by rw [h5 q q1 q2 q3, ko q q1 q2 q3]⟩) hS
        · skip
          rw [nI_leI (by omega) (by omega)] at c_98
          have hst : (bfs bk rp mc9 (bs0 g9) (i + 1)) = expd bk rp ((bfs bk rp mc9 (bs0 g9) i).2.1 i) mc9 (bfs bk rp mc9 (bs0 g9) i) := by
            show (if i < (bfs bk rp mc9 (bs0 g9) i).2.2 then _ else _) = _
            rw [if_pos (by omega)]
          refine lv_iconst (v := nI 0) hx hb dX5_grow_101 (by decide) ?_
          refine lv_istore (lv' := [(7, .int (nI 0)), (0, .ref (ad2 46)), (1, .ref (ad2 25)), (2, .int (nI g9)), (3, .int (nI m9)), (4, .ref (ad2 42)), (5, .ref (ad2 41)), (6, .int (nI i))]) hx hb dX5_grow_102 hl (by decide) rfl (fun ls hl => ?_)
          have L104 : ∀ (N : Nat) (k : Nat) (ivb : Nat → Nat → Int32), mc9 - k < N → (k ≤ mc9) → (bOk (a * t) (expd bk rp ((bfs bk rp mc9 (bs0 g9) i).2.1 i) k (bfs bk rp mc9 (bs0 g9) i))) → (tabAt ivb (a * t) (expd bk rp ((bfs bk rp mc9 (bs0 g9) i).2.1 i) k (bfs bk rp mc9 (bs0 g9) i))) → (∀ j, j ≠ 3 → ivb 46 j = iv9 46 j) → (∀ q, q ≠ 46 → q ≠ 47 → q ≠ 48 → ivb q = iv9 q) → ∀ (H : Heap) (locs : List Loc) (ls : Array Slot), gS D cA A H0 o ad2 ln2 ivb n H locs → lv_has ls 8 [(0, .ref (ad2 46)), (1, .ref (ad2 25)), (2, .int (nI g9)), (3, .int (nI m9)), (4, .ref (ad2 42)), (5, .ref (ad2 41)), (6, .int (nI i)), (7, .int (nI k))] → W p l e R s m args below meth c H locs (cells + al (ln 47) ((a * t)) + al (ln 48) ((a * t))) (slots + als (ln 47) ((a * t)) + als (ln 48) ((a * t))) Q (F0 m 104 ls []) := by
            intro N
            induction N with
            | zero => intro k ivb hm; exact absurd hm (Nat.not_lt_zero _)
            | succ N ih104 =>
              intro k ivb hm hk g1 g3 g4 g5 H locs ls hS hl
              obtain ⟨e1, e2, e3⟩ := expd_mono bk rp ((bfs bk rp mc9 (bs0 g9) i).2.1 i) k (bfs bk rp mc9 (bs0 g9) i)
              have hfr := h1.2.2 i (by omega)
              have hf0 := h2 i (by omega)
              refine lv_iload hx hb dX5_grow_104 (lv_at hl 7 rfl) ?_
              refine lv_aload hx hb dX5_grow_106 (lv_at hl 4 rfl) ?_
              refine gx_getN (ci := 7) (v := .int (ivb 42 0)) (C := RX4) (T := TX4) (N := 6) hx hb hts (fun _ h => inX5_grow_RX4 h) hown hK hS 42 (by omega) rfl rfl 0 (by decide) (nf_RX5_48 hN) rfl dX5_grow_108 ?_
              refine gx_as (y := nI mc9) (by rw [g5 42 (by decide) (by decide) (by decide), ko 42 (by decide) (by decide) (by decide)]; exact hmc0) ?_
              refine lv_icmp_ge (tgt := 140) hx hb dX5_grow_111 (by decide) (fun c_111 => ?_) (fun c_111 => ?_)
              · skip
                rw [nI_leI (by omega) (by omega)] at c_111
                refine lv_iinc (v := nI (i + 1)) (lv' := [(6, .int (nI (i + 1))), (0, .ref (ad2 46)), (1, .ref (ad2 25)), (2, .int (nI g9)), (3, .int (nI m9)), (4, .ref (ad2 42)), (5, .ref (ad2 41)), (7, .int (nI k))]) hx hb dX5_grow_140 hl (k := 6) rfl (nI_1 i) (by decide) rfl (fun ls hl => ?_)
                refine lv_goto (tgt := 83) hx hb dX5_grow_143 (by decide) ?_
                exact ih83 (i + 1) ivb (by omega) (by omega) (by rw [hst]; rw [show k = mc9 by omega] at g1; exact g1) (by rw [hst]; exact expd_Q _ _ _ _ _ h2) (by rw [hst]; rw [show k = mc9 by omega] at g3; exact g3) g4 g5 (by rw [hst, (expd_mono _ _ _ _ _).2.2 g9 hg0]; exact hg0) _ _ _ hS (lv_sub hl [1, 2, 3, 4, 5, 6, 0] rfl)
              · skip
                rw [nI_leI (by omega) (by omega)] at c_111
                refine lv_aload_n hx hb dX5_grow_114 rfl (lv_at hl 0 rfl) ?_
                refine lv_aload_n hx hb dX5_grow_115 rfl (lv_at hl 0 rfl) ?_
                refine gx_get (ci := 8) (v := .ref (ad2 48)) (C := RX5) (T := TX5) (N := 6) hx hb hts (fun _ h => inX5_grow_RX5 h) hown hK hS 46 (by omega) rfl rfl 5 (by decide) (hts (.fieldLink RX5 15 "CosetTables$Table" "queue" "[I") (by decide +kernel)) rfl dX5_grow_116 ?_
                refine lv_iload hx hb dX5_grow_119 (lv_at hl 6 rfl) ?_
                refine gx_ialdn hx hb hK hS 48 (by omega) (by decide) i (by omega) (hln _) dX5_grow_121 ?_
                refine gx_as (y := nI ((bfs bk rp mc9 (bs0 g9) i).2.1 i)) (by rw [g3.2.1 i (by omega), e2 i (by omega)]) ?_
                refine lv_iload hx hb dX5_grow_122 (lv_at hl 7 rfl) ?_
                refine lv_aload hx hb dX5_grow_124 (lv_at hl 4 rfl) ?_
                refine lv_aload hx hb dX5_grow_126 (lv_at hl 5 rfl) ?_
                refine lv_iload hx hb dX5_grow_128 (lv_at hl 7 rfl) ?_
                refine gx_ialdn hx hb hK hS 41 (by omega) (by decide) k (by omega) (hln _) dX5_grow_130 ?_
                refine gx_as (y := nI (rp k)) (by rw [g5 41 (by decide) (by decide) (by decide), ko 41 (by decide) (by decide) (by decide)]; exact (hrp k (by omega)).1) ?_
                refine gc_v (gx_runV (As := [.int (nI ((bfs bk rp mc9 (bs0 g9) i).2.1 i)), .int (nI k), .ref (ad2 42), .int (nI (rp k))]) (rest := []) ⟨hx, hb, hml, hown, hts⟩ hK hN hS 46 (by omega) rfl rfl (ct_X5_spread l D cA o ad2 ln2 n H.size ivb (fr := (bfs bk rp mc9 (bs0 g9) i).2.1 i) (m9 := k) (rp := rp k) (a := a) (t := t) (mc9 := mc9) (bk := bk) (bs := expd bk rp ((bfs bk rp mc9 (bs0 g9) i).2.1 i) k (bfs bk rp mc9 (bs0 g9) i)) hn hln (by rw [g5 42 (by decide) (by decide) (by decide), ko 42 (by decide) (by decide) (by decide)]; exact ha) (by rw [g5 42 (by decide) (by decide) (by decide), ko 42 (by decide) (by decide) (by decide)]; exact ht) h0 hat ha9 ht9 (by omega) (by omega) (by omega) (by unfold stepsOk; rw [g5 43 (by decide) (by decide) (by decide), g5 44 (by decide) (by decide) (by decide), g5 45 (by decide) (by decide) (by decide)]; exact hso9) hmc (by omega) hfr (by rw [e3 _ hf0]; exact hf0) (hrp k (by omega)).2 (by omega) (by omega) g1 g3) (cwV 4 hts gX5_grow_X5_spread rfl rfl rfl (by decide +kernel) ⟨gle hRf rfl, gle hRl rfl⟩) rfl rfl hl.1 rfl (lv_room (Nat.le_of_ble_eq_true rfl)) dX5_grow_131 ⟨by omega, by omega⟩) hS hA (fun ivd H locs hpd hS => ?_)
                obtain ⟨d1, d2, d3, d4⟩ := hpd
                refine lv_iinc (v := nI (k + 1)) (lv' := [(7, .int (nI (k + 1))), (0, .ref (ad2 46)), (1, .ref (ad2 25)), (2, .int (nI g9)), (3, .int (nI m9)), (4, .ref (ad2 42)), (5, .ref (ad2 41)), (6, .int (nI i))]) hx hb dX5_grow_134 hl (k := 7) rfl (nI_1 k) (by decide) rfl (fun ls hl => ?_)
                refine lv_goto (tgt := 104) hx hb dX5_grow_137 (by decide) ?_
                exact ih104 (k + 1) ivd (by omega) (by omega) d1 d2 (fun j hj => by rw [d3 j hj, g4 j hj]) (fun q q1 q2 q3 => by rw [d4 q q1 q2 q3, g5 q q1 q2 q3]) _ _ _ hS (lv_sub hl [1, 2, 3, 4, 5, 6, 7, 0] rfl)
          exact L104 _ 0 iva (Nat.lt_succ_self _) (Nat.zero_le _) h1 h3 h4 h5 _ _ _ hS (lv_sub hl [1, 2, 3, 4, 5, 6, 7, 0] rfl)
  exact L83 _ 0 iv9 (Nat.lt_succ_self _) (Nat.zero_le _) (bs0_ok hg9).1 (bs0_ok hg9).2 htab (fun _ _ => rfl) (fun _ _ _ _ => rfl) (by show (if g9 = g9 then 1 else 0) ≠ 0; simp) _ _ _ hS (lv_sub hl [1, 2, 3, 4, 5, 6, 0] rfl)
set_option maxRecDepth 100000 in
theorem ct_X5_grow (l : Launch) (D : va_G) (cA : Nat → ClassId) (o : Nat → Int64) (ad ln : Nat → Nat) (n sz : Nat) (iv : Nat → Nat → Int32) (g9 m9 a t mc9 : Nat) (bk : Nat → Nat → Nat) (rp : Nat → Nat) (hn : 68 ≤ n) (hln : ∀ k, ln k < 2 ^ 31) (han : iv 25 6 = nI a) (htn : iv 25 7 = nI t) (ha : iv 42 1 = nI a) (ht : iv 42 2 = nI t) (h0 : 0 < t) (hat : a * t ≤ 136080) (ha9 : a ≤ 1680) (ht9 : t ≤ 81) (hl1 : 6 * a ≤ ln 43) (hl2 : 6 * a ≤ ln 44) (hl3 : t * t ≤ ln 45) (hso : stepsOk iv a t mc9 bk) (hmc : mc9 ≤ 6) (hmc0 : iv 42 0 = nI mc9) (hg9 : g9 < a * t) (h41 : ln 41 = 6) (hrp : ∀ m, m < mc9 → iv 41 m = nI (rp m) ∧ rp m < 2 ^ 20) : gMix l yX5_grow wsX5_grow { frames := 2, cells := al (ln 47) (a * t) + al (ln 48) (a * t), slots := als (ln 47) (a * t) + als (ln 48) (a * t), locals := 51 } D cA o ad ln n sz iv [.ref (ad 46), .ref (ad 25), .int (nI g9), .int (nI m9), .ref (ad 42), .ref (ad 41)] (al (ln 47) (a * t) + al (ln 48) (a * t)) (als (ln 47) (a * t) + als (ln 48) (a * t)) (fun (r : Int32) ad' ln' iv' => (∀ i, i ≠ 47 → i ≠ 48 → ad' i = ad i ∧ ln' i = ln i) ∧ (ln' 47 = max (ln 47) (a * t) ∧ ln' 48 = max (ln 48) (a * t)) ∧ (iv' 46 0 = 1 ∧ iv' 46 1 = nI m9 ∧ iv' 46 2 = nI (a * t)) ∧ bOk (a * t) (bfs bk rp mc9 (bs0 g9) (a * t)) ∧ bQ (bfs bk rp mc9 (bs0 g9) (a * t)) ∧ tabAt iv' (a * t) (bfs bk rp mc9 (bs0 g9) (a * t)) ∧ r = nI ((bfs bk rp mc9 (bs0 g9) (a * t)).1 ((bfs bk rp mc9 (bs0 g9) (a * t)).2.1 ((bfs bk rp mc9 (bs0 g9) (a * t)).2.2 - 1))) - 1 ∧ ∀ q, q ≠ 46 → q ≠ 47 → q ≠ 48 → iv' q = iv q) := by
  refine Met.ofW (cc := cX5_grow) (maxL := 8) (ret := (some .int)) (by decide) rfl ?_
  intro p e s m args below meth c s₁ B hml hv__
  obtain ⟨rfl, hv__⟩ := hv__
  obtain ⟨hsz, hS, hK, hN, hA⟩ := gS.entry hv__
  have hl := lv_entry ([.ref (ad 46), .ref (ad 25), .int (nI g9), .int (nI m9), .ref (ad 42), .ref (ad 41)]) (n := 8) (Nat.le_of_ble_eq_true rfl)
  rw [lg_entry_eq]
  generalize (lg_sl ([.ref (ad 46), .ref (ad 25), .int (nI g9), .int (nI m9), .ref (ad 42), .ref (ad 41)]) ++ List.replicate (8 - (lg_sl ([.ref (ad 46), .ref (ad 25), .int (nI g9), .int (nI m9), .ref (ad 42), .ref (ad 41)])).length) Slot.unset).toArray = ls at hl ⊢
  exact bd_X5_grow (g9 := g9) (m9 := m9) (a := a) (t := t) (mc9 := mc9) (bk := bk) (rp := rp) ⟨B.exec, B.bytes, hml, findClass_of_methodNamed B.named, atoms_spec (ws := wsX5_grow) B.pre, B.returns, B.notSynchronized⟩ (Nat.le_refl _) (Nat.le_refl _) (Nat.le_of_eq (Nat.zero_add _)) (Nat.le_of_eq (Nat.zero_add _)) hK hN hA hn hln han htn ha ht h0 hat ha9 ht9 hl1 hl2 hl3 hso hmc hmc0 hg9 h41 hrp hS hl (fun r ad' ln' iv' H locs ls pc hd hp hS => by rw [Nat.zero_add, Nat.zero_add]; exact gx_iretx (post := fun (r : Int32) ad' ln' iv' => (∀ i, i ≠ 47 → i ≠ 48 → ad' i = ad i ∧ ln' i = ln i) ∧ (ln' 47 = max (ln 47) (a * t) ∧ ln' 48 = max (ln 48) (a * t)) ∧ (iv' 46 0 = 1 ∧ iv' 46 1 = nI m9 ∧ iv' 46 2 = nI (a * t)) ∧ bOk (a * t) (bfs bk rp mc9 (bs0 g9) (a * t)) ∧ bQ (bfs bk rp mc9 (bs0 g9) (a * t)) ∧ tabAt iv' (a * t) (bfs bk rp mc9 (bs0 g9) (a * t)) ∧ r = nI ((bfs bk rp mc9 (bs0 g9) (a * t)).1 ((bfs bk rp mc9 (bs0 g9) (a * t)).2.1 ((bfs bk rp mc9 (bs0 g9) (a * t)).2.2 - 1))) - 1 ∧ ∀ q, q ≠ 46 → q ≠ 47 → q ≠ 48 → iv' q = iv q) B.exec B.bytes B.returns B.notSynchronized hS hp hd)
