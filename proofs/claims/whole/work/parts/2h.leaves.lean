theorem inX4_prepare_RX1 : ∀ {w : Cond}, w ∈ u_ws RX1 TX1 8 → w ∈ wsX4_prepare := fun {w} h => by first | exact List.mem_cons_of_mem _ (List.mem_append_right _ h) | (revert h; revert w; show ∀ w ∈ u_ws RX1 TX1 8, w ∈ wsX4_prepare; decide +kernel)
theorem inX4_prepare_RX4 : ∀ {w : Cond}, w ∈ u_ws RX4 TX4 6 → w ∈ wsX4_prepare := fun {w} h => by first | exact List.mem_cons_of_mem _ (List.mem_append_right _ h) | (revert h; revert w; show ∀ w ∈ u_ws RX4 TX4 6, w ∈ wsX4_prepare; decide +kernel)
set_option maxHeartbeats 4000000 in
set_option maxRecDepth 100000 in
theorem bd_X4_prepare {p : Program} {l : Launch} {e : Env} {R : Room} {s : State} {m : MethodId} {args : Array Value} {below : List Frame} {meth : Method} {c : Code} {H : Heap} {locs : List Loc} {cells slots : Nat} {Q : State → Prop} {ls : Array Slot} {D : va_G} {A : Nat → Prop} {H0 : Heap} {cA : Nat → ClassId} {o : Nat → Int64} {ad ln : Nat → Nat} {iv : Nat → Nat → Int32} {n : Nat} {a t mc9 c9 T : Nat}
    (F : gF p s m meth c cX4_prepare 5 RX4 wsX4_prepare args none) (hRf : 1 ≤ R.frames) (hRl : 27 ≤ R.locals) (hRc : cells + (al (ln 43) (6 * a) + al (ln 44) (6 * a) + al (ln 45) (t * t)) ≤ R.cells) (hRs : slots + (als (ln 43) (6 * a) + als (ln 44) (6 * a) + als (ln 45) (t * t)) ≤ R.slots) (hK : va_K D vwCl (gT cA) s) (hN : NW s) (hA : ∀ q, H0.size ≤ q → A q) (hn : 68 ≤ n) (hln : ∀ k, ln k < 2 ^ 31) (ha : iv 25 6 = nI a) (ht : iv 25 7 = nI t) (haL : 6 * a ≤ 2 ^ 20) (htL : t * t ≤ 2 ^ 20) (ht9 : t ≤ 81) (hc9 : iv 25 5 = nI c9) (hc4 : c9 ≤ 4) (hT0 : iv 25 1 = nI T) (hT1 : 0 < T) (hT3 : T ≤ 3)
    (hS : gS D cA A H0 o ad ln iv n H locs) (hl : lv_has ls 5 [(0, .ref (ad 42)), (1, .ref (ad 25)), (2, .int (nI mc9))])
    (kret : ∀ (ad' ln' : Nat → Nat) (iv' : Nat → Nat → Int32) (H : Heap) (locs : List Loc) (ls : Array Slot) (pc : Nat), decode cX4_prepare pc = .ok (.return_, 1) → ((∀ i, i ≠ 43 → i ≠ 44 → i ≠ 45 → ad' i = ad i ∧ ln' i = ln i) ∧ (ln' 43 = max (ln 43) (6 * a) ∧ ln' 44 = max (ln 44) (6 * a) ∧ ln' 45 = max (ln 45) (t * t)) ∧ (iv' 42 0 = nI mc9 ∧ iv' 42 1 = nI a ∧ iv' 42 2 = nI t) ∧ (∀ i k, i < t → k < t → iv' 45 (i * t + k) = nI (tsum T c9 i k)) ∧ ∀ q, q ≠ 42 → q ≠ 43 → q ≠ 44 → q ≠ 45 → iv' q = iv q) → gS D cA A H0 o ad' ln' iv' n H locs → W p l e R s m args below meth c H locs (cells + (al (ln 43) (6 * a) + al (ln 44) (6 * a) + al (ln 45) (t * t))) (slots + (als (ln 43) (6 * a) + als (ln 44) (6 * a) + als (ln 45) (t * t))) Q (F0 m pc ls [])) :
    W p l e R s m args below meth c H locs cells slots Q (F0 m 0 ls []) := by
  obtain ⟨hx, hb, hml, hown, hts, hr, hlocks⟩ := F
  refine lv_aload_n hx hb dX4_prepare_0 rfl (lv_at hl 0 rfl) ?_
  refine lv_iload_n hx hb dX4_prepare_1 rfl (lv_at hl 2 rfl) ?_
  refine gx_put (ci := 7) (x := nI mc9) (ty := .int) (C := RX4) (T := TX4) (N := 6) hx hb hts (fun _ h => inX4_prepare_RX4 h) tyX4 tyX4_ok nmX4 hown hK hS 42 (by omega) rfl rfl 0 (by decide) (hts (.fieldLink RX4 28 "CosetTables$Steps" "moveCount" "I") (by decide +kernel)) rfl (by decide +kernel) rfl rfl (Nat.le_of_ble_eq_true rfl) rfl dX4_prepare_2 (fun H locs hS => ?_)
  obtain ⟨iv1, eiv1⟩ : ∃ z, z = up2 iv 42 0 (nI mc9) := ⟨_, rfl⟩
  rw [← eiv1] at hS
  refine lv_aload_n hx hb dX4_prepare_5 rfl (lv_at hl 0 rfl) ?_
  refine lv_aload_n hx hb dX4_prepare_6 rfl (lv_at hl 1 rfl) ?_
  refine gx_getN (ci := 4) (v := .int (iv1 25 6)) (C := RX1) (T := TX1) (N := 8) hx hb hts (fun _ h => inX4_prepare_RX1 h) hown hK hS 25 (by omega) rfl rfl 6 (by decide) (nf_RX4_31 hN) rfl dX4_prepare_7 ?_
  refine gx_as (y := nI a) (by rw [eiv1, up2_row (by decide)]; exact ha) ?_
  refine gx_put (ci := 7) (x := nI a) (ty := .int) (C := RX4) (T := TX4) (N := 6) hx hb hts (fun _ h => inX4_prepare_RX4 h) tyX4 tyX4_ok nmX4 hown hK hS 42 (by omega) rfl rfl 1 (by decide) (hts (.fieldLink RX4 9 "CosetTables$Steps" "arrangements" "I") (by decide +kernel)) rfl (by decide +kernel) rfl rfl (Nat.le_of_ble_eq_true rfl) rfl dX4_prepare_10 (fun H locs hS => ?_)
  obtain ⟨iv2, eiv2⟩ : ∃ z, z = up2 iv1 42 1 (nI a) := ⟨_, rfl⟩
  rw [← eiv2] at hS
  refine lv_aload_n hx hb dX4_prepare_13 rfl (lv_at hl 0 rfl) ?_
  refine lv_aload_n hx hb dX4_prepare_14 rfl (lv_at hl 1 rfl) ?_
  refine gx_getN (ci := 4) (v := .int (iv2 25 7)) (C := RX1) (T := TX1) (N := 8) hx hb hts (fun _ h => inX4_prepare_RX1 h) hown hK hS 25 (by omega) rfl rfl 7 (by decide) (nf_RX4_34 hN) rfl dX4_prepare_15 ?_
  refine gx_as (y := nI t) (by rw [eiv2, up2_row (by decide), eiv1, up2_row (by decide)]; exact ht) ?_
  refine gx_put (ci := 7) (x := nI t) (ty := .int) (C := RX4) (T := TX4) (N := 6) hx hb hts (fun _ h => inX4_prepare_RX4 h) tyX4 tyX4_ok nmX4 hown hK hS 42 (by omega) rfl rfl 2 (by decide) (hts (.fieldLink RX4 15 "CosetTables$Steps" "twistings" "I") (by decide +kernel)) rfl (by decide +kernel) rfl rfl (Nat.le_of_ble_eq_true rfl) rfl dX4_prepare_18 (fun H locs hS => ?_)
  obtain ⟨iv3, eiv3⟩ : ∃ z, z = up2 iv2 42 2 (nI t) := ⟨_, rfl⟩
  rw [← eiv3] at hS
  refine lv_aload_n hx hb dX4_prepare_21 rfl (lv_at hl 0 rfl) ?_
  refine lv_aload_n hx hb dX4_prepare_22 rfl (lv_at hl 0 rfl) ?_
  refine gx_get (ci := 7) (v := .ref (ad 43)) (C := RX4) (T := TX4) (N := 6) hx hb hts (fun _ h => inX4_prepare_RX4 h) hown hK hS 42 (by omega) rfl rfl 3 (by decide) (hts (.fieldLink RX4 18 "CosetTables$Steps" "arrangementAfter" "[I") (by decide +kernel)) rfl dX4_prepare_23 ?_
  refine lv_bipush (v := nI 6) hx hb dX4_prepare_26 (by decide) ?_
  refine lv_aload_n hx hb dX4_prepare_28 rfl (lv_at hl 0 rfl) ?_
  have f0 : iv3 42 0 = nI mc9 := by rw [eiv3, up2_n (by decide), eiv2, up2_n (by decide), eiv1, up2_s]
  have f1 : iv3 42 1 = nI a := by rw [eiv3, up2_n (by decide), eiv2, up2_s]
  have f2 : iv3 42 2 = nI t := by rw [eiv3, up2_s]
  have fo : ∀ q, q ≠ 42 → iv3 q = iv q := fun q hq => by rw [eiv3, up2_row hq, eiv2, up2_row hq, eiv1, up2_row hq]
  refine gx_get (ci := 7) (v := .int (iv3 42 1)) (C := RX4) (T := TX4) (N := 6) hx hb hts (fun _ h => inX4_prepare_RX4 h) hown hK hS 42 (by omega) rfl rfl 1 (by decide) (hts (.fieldLink RX4 9 "CosetTables$Steps" "arrangements" "I") (by decide +kernel)) rfl dX4_prepare_29 ?_
  refine gx_as (y := nI a) f1 ?_
  refine lv_imul hx hb dX4_prepare_32 ?_
  refine gx_as (y := nI (6 * a)) (pk_mul _ _) ?_
  refine gx_room (obj := 42) (k := 43) (L := (6 * a)) (j := 3) (ci := 7) (C := RX4) (T := TX4) (N := 6) ⟨hx, hb, hml, hown, hts⟩ hK hN hA hn hln hS rfl haL rfl (fun a => rfl) rfl (by decide) (Nat.le_of_ble_eq_true rfl) (fun _ h => inX4_prepare_RX4 h) tyX4 tyX4_ok nmX4 (hts (.fieldLink RX4 18 "CosetTables$Steps" "arrangementAfter" "[I") (by decide +kernel)) rfl (by decide +kernel) ⟨va_cnB 2 hts gX4_prepare_X6_roomFor_n35 rfl rfl rfl (nf_RX4_35 hN) (hts (.initialized RX6) (by decide +kernel)) (by decide +kernel) ⟨gle hRf rfl, gle hRl rfl⟩, hts (.static yX6_roomFor) (by decide +kernel), trivial⟩ hl.1 (lv_room (Nat.le_of_ble_eq_true rfl)) dX4_prepare_33 dX4_prepare_36 ⟨by omega, by omega⟩ (fun ad1 ln1 iv4 H locs hda1 hla1 hia1 hxa1 hS => ?_)
  have hl : lv_has ls 5 [(0, .ref (ad1 42)), (1, .ref (ad1 25)), (2, .int (nI mc9))] := by rw [hda1 25 (by decide), hda1 42 (by decide)]; exact hl
  have hln : ∀ q, ln1 q < 2 ^ 31 := gln hln hla1 hxa1 haL
  have hda_1 := hda1
  have hla_1 := hla1
  refine lv_aload_n hx hb dX4_prepare_39 rfl (lv_at hl 0 rfl) ?_
  refine lv_aload_n hx hb dX4_prepare_40 rfl (lv_at hl 0 rfl) ?_
  refine gx_get (ci := 7) (v := .ref (ad1 44)) (C := RX4) (T := TX4) (N := 6) hx hb hts (fun _ h => inX4_prepare_RX4 h) hown hK hS 42 (by omega) rfl rfl 4 (by decide) (hts (.fieldLink RX4 22 "CosetTables$Steps" "twistingAdded" "[I") (by decide +kernel)) rfl dX4_prepare_41 ?_
  refine lv_bipush (v := nI 6) hx hb dX4_prepare_44 (by decide) ?_
  refine lv_aload_n hx hb dX4_prepare_46 rfl (lv_at hl 0 rfl) ?_
  refine gx_get (ci := 7) (v := .int (iv4 42 1)) (C := RX4) (T := TX4) (N := 6) hx hb hts (fun _ h => inX4_prepare_RX4 h) hown hK hS 42 (by omega) rfl rfl 1 (by decide) (hts (.fieldLink RX4 9 "CosetTables$Steps" "arrangements" "I") (by decide +kernel)) rfl dX4_prepare_47 ?_
  refine gx_as (y := nI a) (by rw [hia1 42 (by decide)]; exact f1) ?_
  refine lv_imul hx hb dX4_prepare_50 ?_
  refine gx_as (y := nI (6 * a)) (pk_mul _ _) ?_
  refine gx_room (obj := 42) (k := 44) (L := (6 * a)) (j := 4) (ci := 7) (C := RX4) (T := TX4) (N := 6) ⟨hx, hb, hml, hown, hts⟩ hK hN hA hn hln hS rfl haL rfl (fun a => rfl) rfl (by decide) (Nat.le_of_ble_eq_true rfl) (fun _ h => inX4_prepare_RX4 h) tyX4 tyX4_ok nmX4 (hts (.fieldLink RX4 22 "CosetTables$Steps" "twistingAdded" "[I") (by decide +kernel)) rfl (by decide +kernel) ⟨va_cnB 2 hts gX4_prepare_X6_roomFor_n35 rfl rfl rfl (nf_RX4_35 hN) (hts (.initialized RX6) (by decide +kernel)) (by decide +kernel) ⟨gle hRf rfl, gle hRl rfl⟩, hts (.static yX6_roomFor) (by decide +kernel), trivial⟩ hl.1 (lv_room (Nat.le_of_ble_eq_true rfl)) dX4_prepare_51 dX4_prepare_54 ⟨by rw [hla_1 44 (by decide)]; omega, by rw [hla_1 44 (by decide)]; omega⟩ (fun ad2 ln2 iv5 H locs hda2 hla2 hia2 hxa2 hS => ?_)
  have hl : lv_has ls 5 [(0, .ref (ad2 42)), (1, .ref (ad2 25)), (2, .int (nI mc9))] := by rw [hda2 25 (by decide), hda2 42 (by decide)]; exact hl
  have hln : ∀ q, ln2 q < 2 ^ 31 := gln hln hla2 hxa2 haL
  have hda_2 : ∀ i, i ≠ 43 → i ≠ 44 → ad2 i = ad i := fun i q0 qq => (hda2 i qq).trans (hda_1 i q0)
  have hla_2 : ∀ i, i ≠ 43 → i ≠ 44 → ln2 i = ln i := fun i q0 qq => (hla2 i qq).trans (hla_1 i q0)
  rw [hla_1 44 (by decide)]
  refine lv_aload_n hx hb dX4_prepare_57 rfl (lv_at hl 0 rfl) ?_
  refine lv_aload_n hx hb dX4_prepare_58 rfl (lv_at hl 0 rfl) ?_
  refine gx_get (ci := 7) (v := .ref (ad2 45)) (C := RX4) (T := TX4) (N := 6) hx hb hts (fun _ h => inX4_prepare_RX4 h) hown hK hS 42 (by omega) rfl rfl 5 (by decide) (hts (.fieldLink RX4 25 "CosetTables$Steps" "twistingSums" "[I") (by decide +kernel)) rfl dX4_prepare_59 ?_
  refine lv_aload_n hx hb dX4_prepare_62 rfl (lv_at hl 0 rfl) ?_
  refine gx_get (ci := 7) (v := .int (iv5 42 2)) (C := RX4) (T := TX4) (N := 6) hx hb hts (fun _ h => inX4_prepare_RX4 h) hown hK hS 42 (by omega) rfl rfl 2 (by decide) (hts (.fieldLink RX4 15 "CosetTables$Steps" "twistings" "I") (by decide +kernel)) rfl dX4_prepare_63 ?_
  refine gx_as (y := nI t) (by rw [hia2 42 (by decide), hia1 42 (by decide)]; exact f2) ?_
  refine lv_aload_n hx hb dX4_prepare_66 rfl (lv_at hl 0 rfl) ?_
  refine gx_get (ci := 7) (v := .int (iv5 42 2)) (C := RX4) (T := TX4) (N := 6) hx hb hts (fun _ h => inX4_prepare_RX4 h) hown hK hS 42 (by omega) rfl rfl 2 (by decide) (hts (.fieldLink RX4 15 "CosetTables$Steps" "twistings" "I") (by decide +kernel)) rfl dX4_prepare_67 ?_
  refine gx_as (y := nI t) (by rw [hia2 42 (by decide), hia1 42 (by decide)]; exact f2) ?_
  refine lv_imul hx hb dX4_prepare_70 ?_
  refine gx_as (y := nI (t * t)) (pk_mul _ _) ?_
  refine gx_room (obj := 42) (k := 45) (L := (t * t)) (j := 5) (ci := 7) (C := RX4) (T := TX4) (N := 6) ⟨hx, hb, hml, hown, hts⟩ hK hN hA hn hln hS rfl htL rfl (fun a => rfl) rfl (by decide) (Nat.le_of_ble_eq_true rfl) (fun _ h => inX4_prepare_RX4 h) tyX4 tyX4_ok nmX4 (hts (.fieldLink RX4 25 "CosetTables$Steps" "twistingSums" "[I") (by decide +kernel)) rfl (by decide +kernel) ⟨va_cnB 2 hts gX4_prepare_X6_roomFor_n35 rfl rfl rfl (nf_RX4_35 hN) (hts (.initialized RX6) (by decide +kernel)) (by decide +kernel) ⟨gle hRf rfl, gle hRl rfl⟩, hts (.static yX6_roomFor) (by decide +kernel), trivial⟩ hl.1 (lv_room (Nat.le_of_ble_eq_true rfl)) dX4_prepare_71 dX4_prepare_74 ⟨by rw [hla_2 45 (by decide) (by decide)]; omega, by rw [hla_2 45 (by decide) (by decide)]; omega⟩ (fun ad3 ln3 iv6 H locs hda3 hla3 hia3 hxa3 hS => ?_)
  have hl : lv_has ls 5 [(0, .ref (ad3 42)), (1, .ref (ad3 25)), (2, .int (nI mc9))] := by rw [hda3 25 (by decide), hda3 42 (by decide)]; exact hl
  have hln : ∀ q, ln3 q < 2 ^ 31 := gln hln hla3 hxa3 htL
  have hda_3 : ∀ i, i ≠ 43 → i ≠ 44 → i ≠ 45 → ad3 i = ad i := fun i q0 q1 qq => (hda3 i qq).trans (hda_2 i q0 q1)
  have hla_3 : ∀ i, i ≠ 43 → i ≠ 44 → i ≠ 45 → ln3 i = ln i := fun i q0 q1 qq => (hla3 i qq).trans (hla_2 i q0 q1)
  rw [hla_2 45 (by decide) (by decide)]
  have g42 : iv6 42 = iv3 42 := by rw [hia3 42 (by decide), hia2 42 (by decide), hia1 42 (by decide)]
  have e2 : iv6 42 2 = nI t := by rw [g42]; exact f2
  have o25 : iv6 25 = iv 25 := by rw [hia3 25 (by decide), hia2 25 (by decide), hia1 25 (by decide), fo 25 (by decide)]
  have l43 : ln3 43 = max (ln 43) (6 * a) := by rw [hla3 43 (by decide), hla2 43 (by decide), hxa1]
  have l44 : ln3 44 = max (ln 44) (6 * a) := by rw [hla3 44 (by decide), hxa2, hla1 44 (by decide)]
  have l45 : ln3 45 = max (ln 45) (t * t) := by rw [hxa3, hla2 45 (by decide), hla1 45 (by decide)]
  refine lv_iconst (v := nI 0) hx hb dX4_prepare_77 (by decide) ?_
  refine lv_istore_n (lv' := [(3, .int (nI 0)), (0, .ref (ad3 42)), (1, .ref (ad3 25)), (2, .int (nI mc9))]) hx hb dX4_prepare_78 rfl hl (by decide) rfl (fun ls hl => ?_)
  have L79 : ∀ (N : Nat) (i : Nat) (iv7 : Nat → Nat → Int32), t - i < N → (i ≤ t) → (∀ u k, u < i → k < t → iv7 45 (u * t + k) = nI (tsum T c9 u k)) → (∀ q, q ≠ 45 → iv7 q = iv6 q) → ∀ (H : Heap) (locs : List Loc) (ls : Array Slot), gS D cA A H0 o ad3 ln3 iv7 n H locs → lv_has ls 5 [(0, .ref (ad3 42)), (1, .ref (ad3 25)), (3, .int (nI i))] → W p l e R s m args below meth c H locs (cells + al (ln 43) ((6 * a)) + al (ln 44) ((6 * a)) + al (ln 45) ((t * t))) (slots + als (ln 43) ((6 * a)) + als (ln 44) ((6 * a)) + als (ln 45) ((t * t))) Q (F0 m 79 ls []) := by
    intro N
    induction N with
    | zero => intro i iv7 hm; exact absurd hm (Nat.not_lt_zero _)
    | succ N ih79 =>
      intro i iv7 hm hi h1 h2 H locs ls hS hl
      refine lv_iload_n hx hb dX4_prepare_79 rfl (lv_at hl 2 rfl) ?_
      refine lv_aload_n hx hb dX4_prepare_80 rfl (lv_at hl 0 rfl) ?_
      refine gx_get (ci := 7) (v := .int (iv7 42 2)) (C := RX4) (T := TX4) (N := 6) hx hb hts (fun _ h => inX4_prepare_RX4 h) hown hK hS 42 (by omega) rfl rfl 2 (by decide) (hts (.fieldLink RX4 15 "CosetTables$Steps" "twistings" "I") (by decide +kernel)) rfl dX4_prepare_81 ?_
      refine gx_as (y := nI t) (by rw [h2 42 (by decide)]; exact e2) ?_
      refine lv_icmp_ge (tgt := 132) hx hb dX4_prepare_84 (by decide) (fun c_84 => ?_) (fun c_84 => ?_)
      · skip
        rw [nI_leI (by omega) (by omega)] at c_84
        refine W.widen (k := cells + (al (ln 43) (6 * a) + al (ln 44) (6 * a) + al (ln 45) (t * t))) (n := slots + (als (ln 43) (6 * a) + als (ln 44) (6 * a) + als (ln 45) (t * t))) (by omega) (by omega) ?_
        exact kret ad3 ln3 iv7 _ _ _ _ dX4_prepare_132 (⟨fun i q1 q2 q3 => ⟨hda_3 i q1 q2 q3, hla_3 i q1 q2 q3⟩, ⟨l43, l44, l45⟩, ⟨by rw [h2 42 (by decide), g42]; exact f0, by rw [h2 42 (by decide), g42]; exact f1, by rw [h2 42 (by decide), g42]; exact f2⟩, fun u k hu hk => h1 u k (by omega) hk, fun q q1 q2 q3 q4 => by rw [h2 q q4, hia3 q q4, hia2 q q3, hia1 q q2, fo q q1]⟩) hS
      · skip
        rw [nI_leI (by omega) (by omega)] at c_84
        refine lv_iconst (v := nI 0) hx hb dX4_prepare_87 (by decide) ?_
        refine lv_istore (lv' := [(4, .int (nI 0)), (0, .ref (ad3 42)), (1, .ref (ad3 25)), (3, .int (nI i))]) hx hb dX4_prepare_88 hl (by decide) rfl (fun ls hl => ?_)
        have L90 : ∀ (N : Nat) (k : Nat) (iv8 : Nat → Nat → Int32), t - k < N → (k ≤ t) → (∀ u k, u < i → k < t → iv8 45 (u * t + k) = nI (tsum T c9 u k)) → (∀ k', k' < k → iv8 45 (i * t + k') = nI (tsum T c9 i k')) → (∀ q, q ≠ 45 → iv8 q = iv6 q) → ∀ (H : Heap) (locs : List Loc) (ls : Array Slot), gS D cA A H0 o ad3 ln3 iv8 n H locs → lv_has ls 5 [(0, .ref (ad3 42)), (1, .ref (ad3 25)), (3, .int (nI i)), (4, .int (nI k))] → W p l e R s m args below meth c H locs (cells + al (ln 43) ((6 * a)) + al (ln 44) ((6 * a)) + al (ln 45) ((t * t))) (slots + als (ln 43) ((6 * a)) + als (ln 44) ((6 * a)) + als (ln 45) ((t * t))) Q (F0 m 90 ls []) := by
          intro N
          induction N with
          | zero => intro k iv8 hm; exact absurd hm (Nat.not_lt_zero _)
          | succ N ih90 =>
            intro k iv8 hm hk g0 g1 g2 H locs ls hS hl
            have hit : i * t + t ≤ t * t := by
              have := Nat.mul_le_mul_right t (show i + 1 ≤ t by omega)
              rw [Nat.succ_mul] at this
              exact this
            have r25 : iv8 25 = iv 25 := by rw [g2 25 (by decide)]; exact o25
            have r42 : iv8 42 2 = nI t := by rw [g2 42 (by decide)]; exact e2
            refine lv_iload hx hb dX4_prepare_90 (lv_at hl 3 rfl) ?_
            refine lv_aload_n hx hb dX4_prepare_92 rfl (lv_at hl 0 rfl) ?_
            refine gx_get (ci := 7) (v := .int (iv8 42 2)) (C := RX4) (T := TX4) (N := 6) hx hb hts (fun _ h => inX4_prepare_RX4 h) hown hK hS 42 (by omega) rfl rfl 2 (by decide) (hts (.fieldLink RX4 15 "CosetTables$Steps" "twistings" "I") (by decide +kernel)) rfl dX4_prepare_93 ?_
            refine gx_as (y := nI t) r42 ?_
            refine lv_icmp_ge (tgt := 126) hx hb dX4_prepare_96 (by decide) (fun c_96 => ?_) (fun c_96 => ?_)
            · skip
              rw [nI_leI (by omega) (by omega)] at c_96
              refine lv_iinc (v := nI (i + 1)) (lv' := [(3, .int (nI (i + 1))), (0, .ref (ad3 42)), (1, .ref (ad3 25)), (4, .int (nI k))]) hx hb dX4_prepare_126 hl (k := 2) rfl (nI_1 i) (by decide) rfl (fun ls hl => ?_)
              refine lv_goto (tgt := 79) hx hb dX4_prepare_129 (by decide) ?_
              exact ih79 (i + 1) iv8 (by omega) (by omega) (fun u k' hu hk' => by rcases Nat.lt_or_ge u i with q | q <;> first | exact g0 u k' q hk' | (rw [show u = i by omega]; exact g1 k' (by omega))) g2 _ _ _ hS (lv_sub hl [1, 2, 0] rfl)
            · skip
              rw [nI_leI (by omega) (by omega)] at c_96
              refine lv_aload_n hx hb dX4_prepare_99 rfl (lv_at hl 0 rfl) ?_
              refine gx_get (ci := 7) (v := .ref (ad3 45)) (C := RX4) (T := TX4) (N := 6) hx hb hts (fun _ h => inX4_prepare_RX4 h) hown hK hS 42 (by omega) rfl rfl 5 (by decide) (hts (.fieldLink RX4 25 "CosetTables$Steps" "twistingSums" "[I") (by decide +kernel)) rfl dX4_prepare_100 ?_
              refine lv_iload_n hx hb dX4_prepare_103 rfl (lv_at hl 2 rfl) ?_
              refine lv_aload_n hx hb dX4_prepare_104 rfl (lv_at hl 0 rfl) ?_
              refine gx_get (ci := 7) (v := .int (iv8 42 2)) (C := RX4) (T := TX4) (N := 6) hx hb hts (fun _ h => inX4_prepare_RX4 h) hown hK hS 42 (by omega) rfl rfl 2 (by decide) (hts (.fieldLink RX4 15 "CosetTables$Steps" "twistings" "I") (by decide +kernel)) rfl dX4_prepare_105 ?_
              refine gx_as (y := nI t) r42 ?_
              refine lv_imul hx hb dX4_prepare_108 ?_
              refine gx_as (y := nI (i * t)) (pk_mul _ _) ?_
              refine lv_iload hx hb dX4_prepare_109 (lv_at hl 3 rfl) ?_
              refine lv_iadd hx hb dX4_prepare_111 ?_
              refine gx_as (y := nI ((i * t) + k)) (nI_add _ _) ?_
              refine lv_aload_n hx hb dX4_prepare_112 rfl (lv_at hl 1 rfl) ?_
              refine lv_iload_n hx hb dX4_prepare_113 rfl (lv_at hl 2 rfl) ?_
              refine lv_iload hx hb dX4_prepare_114 (lv_at hl 3 rfl) ?_
              refine gc_i (gx_runV (As := [.int (nI i), .int (nI k)]) (rest := [.int (nI ((i * t) + k)), .ref (ad3 45)]) ⟨hx, hb, hml, hown, hts⟩ hK hN hS 25 (by omega) rfl rfl (ct_X1_twistingSum l D cA o ad3 ln3 n H.size iv8 (a := i) (b := k) (c9 := c9) (T := T) hn hln (by rw [r25]; exact hc9) hc4 (by rw [r25]; exact hT0) hT1 hT3 (by omega) (by omega)) (cwV 2 hts gX4_prepare_X1_twistingSum rfl rfl rfl (by decide +kernel) ⟨gle hRf rfl, gle hRl rfl⟩) rfl rfl hl.1 rfl (lv_room (Nat.le_of_ble_eq_true rfl)) dX4_prepare_116 ⟨by omega, by omega⟩) hS hA (fun z iv9 H locs hp9 hS => ?_)
              obtain ⟨ez, ev9⟩ := hp9
              rw [ev9] at hS
              refine gx_as (y := nI (tsum T c9 i k)) ez ?_
              skip
              refine gx_iastn hx hb hK hS 45 (by omega) (by decide) ((i * t) + k) (by omega) (hln _) dX4_prepare_119 (fun H locs hS => ?_)
              obtain ⟨iva, eiva⟩ : ∃ z, z = up2 iv8 45 ((i * t) + k) (nI (tsum T c9 i k)) := ⟨_, rfl⟩
              rw [← eiva] at hS
              refine lv_iinc (v := nI (k + 1)) (lv' := [(4, .int (nI (k + 1))), (0, .ref (ad3 42)), (1, .ref (ad3 25)), (3, .int (nI i))]) hx hb dX4_prepare_120 hl (k := 3) rfl (nI_1 k) (by decide) rfl (fun ls hl => ?_)
              refine lv_goto (tgt := 90) hx hb dX4_prepare_123 (by decide) ?_
              exact ih90 (k + 1) iva (by omega) (by omega) (fun u k' hu hk' => by have q9 := Nat.mul_le_mul_right t (show u + 1 ≤ i by omega); rw [Nat.succ_mul] at q9; rw [eiva, up2_n (by omega)]; exact g0 u k' hu hk') (fun k' hk' => by rw [eiva, up2_eq]; by_cases e9 : k' = k <;> first | (subst e9; rw [if_pos ⟨rfl, rfl⟩]; done) | (rw [if_neg (by omega)]; exact g1 k' (by omega))) (fun q hq => by rw [eiva, up2_row hq, g2 q hq]) _ _ _ hS (lv_sub hl [1, 2, 3, 0] rfl)
        exact L90 _ 0 iv7 (Nat.lt_succ_self _) (Nat.zero_le _) h1 lt_0 h2 _ _ _ hS (lv_sub hl [1, 2, 3, 0] rfl)
  exact L79 _ 0 iv6 (Nat.lt_succ_self _) (Nat.zero_le _) (fun u k h => absurd h (Nat.not_lt_zero u)) (fun _ _ => rfl) _ _ _ hS (lv_sub hl [1, 2, 0] rfl)
set_option maxRecDepth 100000 in
theorem ct_X4_prepare (l : Launch) (D : va_G) (cA : Nat → ClassId) (o : Nat → Int64) (ad ln : Nat → Nat) (n sz : Nat) (iv : Nat → Nat → Int32) (a t mc9 c9 T : Nat) (hn : 68 ≤ n) (hln : ∀ k, ln k < 2 ^ 31) (ha : iv 25 6 = nI a) (ht : iv 25 7 = nI t) (haL : 6 * a ≤ 2 ^ 20) (htL : t * t ≤ 2 ^ 20) (ht9 : t ≤ 81) (hc9 : iv 25 5 = nI c9) (hc4 : c9 ≤ 4) (hT0 : iv 25 1 = nI T) (hT1 : 0 < T) (hT3 : T ≤ 3) : gMvx l yX4_prepare wsX4_prepare { frames := 1, cells := al (ln 43) (6 * a) + al (ln 44) (6 * a) + al (ln 45) (t * t), slots := als (ln 43) (6 * a) + als (ln 44) (6 * a) + als (ln 45) (t * t), locals := 27 } D cA o ad ln n sz iv [.ref (ad 42), .ref (ad 25), .int (nI mc9)] (al (ln 43) (6 * a) + al (ln 44) (6 * a) + al (ln 45) (t * t)) (als (ln 43) (6 * a) + als (ln 44) (6 * a) + als (ln 45) (t * t)) (fun ad' ln' iv' => (∀ i, i ≠ 43 → i ≠ 44 → i ≠ 45 → ad' i = ad i ∧ ln' i = ln i) ∧ (ln' 43 = max (ln 43) (6 * a) ∧ ln' 44 = max (ln 44) (6 * a) ∧ ln' 45 = max (ln 45) (t * t)) ∧ (iv' 42 0 = nI mc9 ∧ iv' 42 1 = nI a ∧ iv' 42 2 = nI t) ∧ (∀ i k, i < t → k < t → iv' 45 (i * t + k) = nI (tsum T c9 i k)) ∧ ∀ q, q ≠ 42 → q ≠ 43 → q ≠ 44 → q ≠ 45 → iv' q = iv q) := by
  refine Met.ofW (cc := cX4_prepare) (maxL := 5) (ret := none) (by decide) rfl ?_
  intro p e s m args below meth c s₁ B hml hv__
  obtain ⟨rfl, hv__⟩ := hv__
  obtain ⟨hsz, hS, hK, hN, hA⟩ := gS.entry hv__
  have hl := lv_entry ([.ref (ad 42), .ref (ad 25), .int (nI mc9)]) (n := 5) (Nat.le_of_ble_eq_true rfl)
  rw [lg_entry_eq]
  generalize (lg_sl ([.ref (ad 42), .ref (ad 25), .int (nI mc9)]) ++ List.replicate (5 - (lg_sl ([.ref (ad 42), .ref (ad 25), .int (nI mc9)])).length) Slot.unset).toArray = ls at hl ⊢
  exact bd_X4_prepare (a := a) (t := t) (mc9 := mc9) (c9 := c9) (T := T) ⟨B.exec, B.bytes, hml, findClass_of_methodNamed B.named, atoms_spec (ws := wsX4_prepare) B.pre, B.returns, B.notSynchronized⟩ (Nat.le_refl _) (Nat.le_refl _) (Nat.le_of_eq (Nat.zero_add _)) (Nat.le_of_eq (Nat.zero_add _)) hK hN hA hn hln ha ht haL htL ht9 hc9 hc4 hT0 hT1 hT3 hS hl (fun ad' ln' iv' H locs ls pc hd hp hS => by rw [Nat.zero_add, Nat.zero_add]; exact gx_vretx (post := fun ad' ln' iv' => (∀ i, i ≠ 43 → i ≠ 44 → i ≠ 45 → ad' i = ad i ∧ ln' i = ln i) ∧ (ln' 43 = max (ln 43) (6 * a) ∧ ln' 44 = max (ln 44) (6 * a) ∧ ln' 45 = max (ln 45) (t * t)) ∧ (iv' 42 0 = nI mc9 ∧ iv' 42 1 = nI a ∧ iv' 42 2 = nI t) ∧ (∀ i k, i < t → k < t → iv' 45 (i * t + k) = nI (tsum T c9 i k)) ∧ ∀ q, q ≠ 42 → q ≠ 43 → q ≠ 44 → q ≠ 45 → iv' q = iv q) B.exec B.bytes B.returns B.notSynchronized hS hp hd)

set_option maxHeartbeats 4000000 in
set_option maxRecDepth 100000 in
theorem bd_J7_rangeCheck_23922 {p : Program} {l : Launch} {e : Env} {R : Room} {s : State} {m : MethodId} {args : Array Value} {below : List Frame} {meth : Method} {c : Code} {H : Heap} {locs : List Loc} {cells slots : Nat} {Q : State → Prop} {ls : Array Slot} {D : va_G} {A : Nat → Prop} {H0 : Heap} {cA : Nat → ClassId} {o : Nat → Int64} {ad ln : Nat → Nat} {iv : Nat → Nat → Int32} {n : Nat} {a b c9 : Nat}
    (F : gF p s m meth c cJ7_rangeCheck_23922 3 RJ7 wsJ7_rangeCheck_23922 args none) (hRf : 0 ≤ R.frames) (hRl : 0 ≤ R.locals) (hRc : cells ≤ R.cells) (hRs : slots ≤ R.slots) (hK : va_K D vwCl (gT cA) s) (hN : NW s) (hA : ∀ q, H0.size ≤ q → A q) (hn : True) (hln : ∀ k, ln k < 2 ^ 31) (ha : a < 2 ^ 31) (hbc : b ≤ c9) (hca : c9 ≤ a)
    (hS : gS D cA A H0 o ad ln iv n H locs) (hl : lv_has ls 3 [(0, .int (nI a)), (1, .int (nI b)), (2, .int (nI c9))])
    (kret : ∀ (iv' : Nat → Nat → Int32) (H : Heap) (locs : List Loc) (ls : Array Slot) (pc : Nat), decode cJ7_rangeCheck_23922 pc = .ok (.return_, 1) → (iv' = iv) → gS D cA A H0 o ad ln iv' n H locs → W p l e R s m args below meth c H locs cells slots Q (F0 m pc ls [])) :
    W p l e R s m args below meth c H locs cells slots Q (F0 m 0 ls []) := by
  obtain ⟨hx, hb, hml, hown, hts, hr, hlocks⟩ := F
  refine lv_iload_n hx hb dJ7_rangeCheck_23922_0 rfl (lv_at hl 1 rfl) ?_
  refine lv_iload_n hx hb dJ7_rangeCheck_23922_1 rfl (lv_at hl 2 rfl) ?_
  refine lv_icmp_le (tgt := 46) hx hb dJ7_rangeCheck_23922_2 (by decide) (fun c_2 => ?_) (fun c_2 => ?_)
  · skip
    rw [nI_leI (by omega) (by omega)] at c_2
    refine lv_iload_n hx hb dJ7_rangeCheck_23922_46 rfl (lv_at hl 1 rfl) ?_
    refine lv_if_ge (tgt := 59) hx hb dJ7_rangeCheck_23922_47 (by decide) (fun c_47 => ?_) (fun c_47 => ?_)
    · skip
      rw [show (0 : Int32) = nI 0 from rfl] at c_47
      rw [nI_leI (by omega) (by omega)] at c_47
      refine lv_iload_n hx hb dJ7_rangeCheck_23922_59 rfl (lv_at hl 2 rfl) ?_
      refine lv_iload_n hx hb dJ7_rangeCheck_23922_60 rfl (lv_at hl 0 rfl) ?_
      refine lv_icmp_le (tgt := 73) hx hb dJ7_rangeCheck_23922_61 (by decide) (fun c_61 => ?_) (fun c_61 => ?_)
      · skip
        rw [nI_leI (by omega) (by omega)] at c_61
        exact kret iv _ _ _ _ dJ7_rangeCheck_23922_73 (rfl) hS
      · skip
        rw [nI_leI (by omega) (by omega)] at c_61
        omega
    · skip
      rw [show (0 : Int32) = nI 0 from rfl] at c_47
      rw [nI_leI (by omega) (by omega)] at c_47
      omega
  · skip
    rw [nI_leI (by omega) (by omega)] at c_2
    omega
set_option maxRecDepth 100000 in
theorem ct_J7_rangeCheck_23922 (l : Launch) (D : va_G) (cA : Nat → ClassId) (o : Nat → Int64) (ad ln : Nat → Nat) (n sz : Nat) (iv : Nat → Nat → Int32) (a b c9 : Nat) (hn : True) (hln : ∀ k, ln k < 2 ^ 31) (ha : a < 2 ^ 31) (hbc : b ≤ c9) (hca : c9 ≤ a) : gMv l yJ7_rangeCheck_23922 wsJ7_rangeCheck_23922 { frames := 0, cells := 0, slots := 0, locals := 0 } D cA o ad ln n sz iv [.int (nI a), .int (nI b), .int (nI c9)] (fun iv' => iv' = iv) := by
  refine Met.ofW (cc := cJ7_rangeCheck_23922) (maxL := 3) (ret := none) (by decide) rfl ?_
  intro p e s m args below meth c s₁ B hml hv__
  obtain ⟨rfl, hv__⟩ := hv__
  obtain ⟨hsz, hS, hK, hN, hA⟩ := gS.entry hv__
  have hl := lv_entry ([.int (nI a), .int (nI b), .int (nI c9)]) (n := 3) (Nat.le_of_ble_eq_true rfl)
  rw [lg_entry_eq]
  generalize (lg_sl ([.int (nI a), .int (nI b), .int (nI c9)]) ++ List.replicate (3 - (lg_sl ([.int (nI a), .int (nI b), .int (nI c9)])).length) Slot.unset).toArray = ls at hl ⊢
  exact bd_J7_rangeCheck_23922 (a := a) (b := b) (c9 := c9) ⟨B.exec, B.bytes, hml, findClass_of_methodNamed B.named, atoms_spec (ws := wsJ7_rangeCheck_23922) B.pre, B.returns, B.notSynchronized⟩ (Nat.le_refl _) (Nat.le_refl _) (Nat.le_refl _) (Nat.le_refl _) hK hN hA hn hln ha hbc hca hS hl (fun iv' H locs ls pc hd hp hS => gx_vret B.exec B.bytes B.returns B.notSynchronized hS hp hd)

set_option maxHeartbeats 4000000 in
set_option maxRecDepth 100000 in
theorem bd_J7_fill_fda19 {p : Program} {l : Launch} {e : Env} {R : Room} {s : State} {m : MethodId} {args : Array Value} {below : List Frame} {meth : Method} {c : Code} {H : Heap} {locs : List Loc} {cells slots : Nat} {Q : State → Prop} {ls : Array Slot} {D : va_G} {A : Nat → Prop} {H0 : Heap} {cA : Nat → ClassId} {o : Nat → Int64} {ad ln : Nat → Nat} {iv : Nat → Nat → Int32} {n : Nat} {k g : Nat} {x : Int32}
    (F : gF p s m meth c cJ7_fill_fda19 5 RJ7 wsJ7_fill_fda19 args none) (hRf : 1 ≤ R.frames) (hRl : 22 ≤ R.locals) (hRc : cells ≤ R.cells) (hRs : slots ≤ R.slots) (hK : va_K D vwCl (gT cA) s) (hN : NW s) (hA : ∀ q, H0.size ≤ q → A q) (hn : True) (hln : ∀ k, ln k < 2 ^ 31) (hk : k < n) (hkI : isI k = true) (hg : g ≤ ln k)
    (hS : gS D cA A H0 o ad ln iv n H locs) (hl : lv_has ls 5 [(0, .ref (ad k)), (1, .int (nI 0)), (2, .int (nI g)), (3, .int x)])
    (kret : ∀ (iv' : Nat → Nat → Int32) (H : Heap) (locs : List Loc) (ls : Array Slot) (pc : Nat), decode cJ7_fill_fda19 pc = .ok (.return_, 1) → (iv' = wr1 iv k (fun _ => x) g) → gS D cA A H0 o ad ln iv' n H locs → W p l e R s m args below meth c H locs cells slots Q (F0 m pc ls [])) :
    W p l e R s m args below meth c H locs cells slots Q (F0 m 0 ls []) := by
  obtain ⟨hx, hb, hml, hown, hts, hr, hlocks⟩ := F
  have hL := hln k
  refine lv_aload_n hx hb dJ7_fill_fda19_0 rfl (lv_at hl 0 rfl) ?_
  refine gx_alen hx hb hK hS k (by omega) hkI dJ7_fill_fda19_1 ?_
  refine lv_iload_n hx hb dJ7_fill_fda19_2 rfl (lv_at hl 1 rfl) ?_
  refine lv_iload_n hx hb dJ7_fill_fda19_3 rfl (lv_at hl 2 rfl) ?_
  refine gc_v (gx_runS (As := [.int (nI (ln k)), .int (nI 0), .int (nI g)]) (rest := []) ⟨hx, hb, hml, hown, hts⟩ hK hN hS (ct_J7_rangeCheck_23922 l D cA o ad ln n H.size iv (a := ln k) (b := 0) (c9 := g) trivial hln hL (by omega) hg) (va_cwS 3 hts gJ7_fill_fda19_J7_rangeCheck_23922 rfl rfl rfl (by decide +kernel) ⟨gle hRf rfl, gle hRl rfl⟩) rfl rfl hl.1 rfl (lv_room (Nat.le_of_ble_eq_true rfl)) dJ7_fill_fda19_4 ⟨hRc, hRs⟩) hS hA (fun iv0 H locs hp0 hS => ?_)
  rw [hp0] at hS
  skip
  refine lv_iload_n hx hb dJ7_fill_fda19_7 rfl (lv_at hl 1 rfl) ?_
  refine lv_istore (lv' := [(4, .int (nI 0)), (0, .ref (ad k)), (1, .int (nI 0)), (2, .int (nI g)), (3, .int x)]) hx hb dJ7_fill_fda19_8 hl (by decide) rfl (fun ls hl => ?_)
  have L10 : ∀ (N : Nat) (i : Nat) (iv1 : Nat → Nat → Int32), g - i < N → (i ≤ g) → (iv1 = wr1 iv k (fun _ => x) i) → ∀ (H : Heap) (locs : List Loc) (ls : Array Slot), gS D cA A H0 o ad ln iv1 n H locs → lv_has ls 5 [(0, .ref (ad k)), (1, .int (nI 0)), (2, .int (nI g)), (3, .int x), (4, .int (nI i))] → W p l e R s m args below meth c H locs cells slots Q (F0 m 10 ls []) := by
    intro N
    induction N with
    | zero => intro i iv1 hm; exact absurd hm (Nat.not_lt_zero _)
    | succ N ih10 =>
      intro i iv1 hm hi hI H locs ls hS hl
      refine lv_iload hx hb dJ7_fill_fda19_10 (lv_at hl 4 rfl) ?_
      refine lv_iload_n hx hb dJ7_fill_fda19_12 rfl (lv_at hl 2 rfl) ?_
      refine lv_icmp_ge (tgt := 27) hx hb dJ7_fill_fda19_13 (by decide) (fun c_13 => ?_) (fun c_13 => ?_)
      · skip
        rw [nI_leI (by omega) (by omega)] at c_13
        exact kret iv1 _ _ _ _ dJ7_fill_fda19_27 (by rw [show g = i by omega]; exact hI) hS
      · skip
        rw [nI_leI (by omega) (by omega)] at c_13
        refine lv_aload_n hx hb dJ7_fill_fda19_16 rfl (lv_at hl 0 rfl) ?_
        refine lv_iload hx hb dJ7_fill_fda19_17 (lv_at hl 4 rfl) ?_
        refine lv_iload_n hx hb dJ7_fill_fda19_19 rfl (lv_at hl 3 rfl) ?_
        refine gx_iastn hx hb hK hS k (by omega) hkI i (by omega) (hln _) dJ7_fill_fda19_20 (fun H locs hS => ?_)
        obtain ⟨iv2, eiv2⟩ : ∃ z, z = up2 iv1 k i (x) := ⟨_, rfl⟩
        rw [← eiv2] at hS
        refine lv_iinc (v := nI (i + 1)) (lv' := [(4, .int (nI (i + 1))), (0, .ref (ad k)), (1, .int (nI 0)), (2, .int (nI g)), (3, .int x)]) hx hb dJ7_fill_fda19_21 hl (k := 4) rfl (nI_1 i) (by decide) rfl (fun ls hl => ?_)
        refine lv_goto (tgt := 10) hx hb dJ7_fill_fda19_24 (by decide) ?_
        exact ih10 (i + 1) iv2 (by omega) (by omega) (by rw [eiv2, hI]; exact wr1_s) _ _ _ hS (lv_sub hl [1, 2, 3, 4, 0] rfl)
  exact L10 _ 0 iv (Nat.lt_succ_self _) (Nat.zero_le _) wr1_0.symm _ _ _ hS (lv_sub hl [1, 2, 3, 4, 0] rfl)
set_option maxRecDepth 100000 in
theorem ct_J7_fill_fda19 (l : Launch) (D : va_G) (cA : Nat → ClassId) (o : Nat → Int64) (ad ln : Nat → Nat) (n sz : Nat) (iv : Nat → Nat → Int32) (k g : Nat) (x : Int32) (hn : True) (hln : ∀ k, ln k < 2 ^ 31) (hk : k < n) (hkI : isI k = true) (hg : g ≤ ln k) : gMv l yJ7_fill_fda19 wsJ7_fill_fda19 { frames := 1, cells := 0, slots := 0, locals := 22 } D cA o ad ln n sz iv [.ref (ad k), .int (nI 0), .int (nI g), .int x] (fun iv' => iv' = wr1 iv k (fun _ => x) g) := by
  refine Met.ofW (cc := cJ7_fill_fda19) (maxL := 5) (ret := none) (by decide) rfl ?_
  intro p e s m args below meth c s₁ B hml hv__
  obtain ⟨rfl, hv__⟩ := hv__
  obtain ⟨hsz, hS, hK, hN, hA⟩ := gS.entry hv__
  have hl := lv_entry ([.ref (ad k), .int (nI 0), .int (nI g), .int x]) (n := 5) (Nat.le_of_ble_eq_true rfl)
  rw [lg_entry_eq]
  generalize (lg_sl ([.ref (ad k), .int (nI 0), .int (nI g), .int x]) ++ List.replicate (5 - (lg_sl ([.ref (ad k), .int (nI 0), .int (nI g), .int x])).length) Slot.unset).toArray = ls at hl ⊢
  exact bd_J7_fill_fda19 (k := k) (g := g) (x := x) ⟨B.exec, B.bytes, hml, findClass_of_methodNamed B.named, atoms_spec (ws := wsJ7_fill_fda19) B.pre, B.returns, B.notSynchronized⟩ (Nat.le_refl _) (Nat.le_refl _) (Nat.le_refl _) (Nat.le_refl _) hK hN hA hn hln hk hkI hg hS hl (fun iv' H locs ls pc hd hp hS => gx_vret B.exec B.bytes B.returns B.notSynchronized hS hp hd)
