theorem inX6_build_RX6 : ∀ {w : Cond}, w ∈ u_ws RX6 TX6 15 → w ∈ wsX6_build := fun {w} h => by first | exact List.mem_cons_of_mem _ (List.mem_append_right _ h) | (revert h; revert w; show ∀ w ∈ u_ws RX6 TX6 15, w ∈ wsX6_build; decide +kernel)
set_option maxHeartbeats 1000000 in
set_option maxRecDepth 100000 in
theorem bd_X6_build {p : Program} {l : Launch} {e : Env} {R : Room} {s : State} {m : MethodId} {args : Array Value} {below : List Frame} {meth : Method} {c : Code} {H : Heap} {locs : List Loc} {cells slots : Nat} {Q : State → Prop} {ls : Array Slot} {D : va_G} {A : Nat → Prop} {H0 : Heap} {cA : Nat → ClassId} {o : Nat → Int64} {ad ln : Nat → Nat} {iv : Nat → Nat → Int32} {n : Nat} {m9 mc9 P c9 T : Nat} {pc9 : Nat → Nat} {G9 Ad : Nat → Nat → Nat}
    (F : gF p s m meth c cX6_build 3 RX6 wsX6_build args (some .int)) (hRf : 4 ≤ R.frames) (hRl : 98 ≤ R.locals) (hRc : cells + ((al (ln 43) (6 * ff P c9) + al (ln 44) (6 * ff P c9) + al (ln 45) (T ^ c9 * T ^ c9)) + (al (ln 47) (ff P c9 * T ^ c9) + al (ln 48) (ff P c9 * T ^ c9))) ≤ R.cells) (hRs : slots + ((als (ln 43) (6 * ff P c9) + als (ln 44) (6 * ff P c9) + als (ln 45) (T ^ c9 * T ^ c9)) + (als (ln 47) (ff P c9 * T ^ c9) + als (ln 48) (ff P c9 * T ^ c9))) ≤ R.slots) (hK : va_K D vwCl (gT cA) s) (hN : NW s) (hA : ∀ q, H0.size ≤ q → A q) (hn : 68 ≤ n) (hln : ∀ k, ln k < 2 ^ 31) (hLn : lnOk ln P) (hm9 : m9 < 2) (hc9 : iv 25 5 = nI c9) (hc4 : c9 ≤ 4) (hT0 : iv 25 1 = nI T) (hT1 : 0 < T) (hT3 : T ≤ 3) (hP : P ≤ 8) (hpc : ∀ i, i < c9 → iv 27 i = nI (pc9 i)) (hpi : inj pc9 P c9) (hP0 : iv 25 0 = nI P) (ha9 : iv 25 6 = nI (ff P c9)) (ht9 : iv 25 7 = nI (T ^ c9)) (hmc : iv 0 3 = nI mc9) (hmc6 : mc9 ≤ 6) (hmv : ∀ j, j < mc9 → moveAt iv (2 + 3 * j) P T (G9 j) (Ad j) ∧ inj (G9 j) P P) (h38 : iv 38 0 = nI T) (hw33 : ∀ p, p < P → vp_in (iv 33 p) P) (hb16 : ff P c9 ≤ 1680)
    (hS : gS D cA A H0 o ad ln iv n H locs) (hl : lv_has ls 3 [(0, .ref (ad 0)), (1, .int (nI m9))])
    (kret : ∀ (r : Int32) (ad' ln' : Nat → Nat) (iv' : Nat → Nat → Int32) (H : Heap) (locs : List Loc) (ls : Array Slot) (pc : Nat), decode cX6_build pc = .ok (.ireturn, 1) → ((∀ i, i ≠ 43 → i ≠ 44 → i ≠ 45 → i ≠ 47 → i ≠ 48 → ad' i = ad i ∧ ln' i = ln i) ∧ (ln' 43 = max (ln 43) (6 * ff P c9) ∧ ln' 44 = max (ln 44) (6 * ff P c9) ∧ ln' 45 = max (ln 45) (T ^ c9 * T ^ c9) ∧ ln' 47 = max (ln 47) (ff P c9 * T ^ c9) ∧ ln' 48 = max (ln 48) (ff P c9 * T ^ c9)) ∧ (iv' 46 0 = 1 ∧ iv' 46 1 = nI m9 ∧ iv' 46 2 = nI (ff P c9 * T ^ c9)) ∧ bOk (ff P c9 * T ^ c9) (bfs (fun m => bkf P T c9 (G9 m) (Ad m)) (fun m => if m9 = 0 then 1 else ordr P T (G9 m) (Ad m) - 1) mc9 (bs0 (num P T c9 pc9 (fun _ => 0))) (ff P c9 * T ^ c9)) ∧ bQ (bfs (fun m => bkf P T c9 (G9 m) (Ad m)) (fun m => if m9 = 0 then 1 else ordr P T (G9 m) (Ad m) - 1) mc9 (bs0 (num P T c9 pc9 (fun _ => 0))) (ff P c9 * T ^ c9)) ∧ tabAt iv' (ff P c9 * T ^ c9) (bfs (fun m => bkf P T c9 (G9 m) (Ad m)) (fun m => if m9 = 0 then 1 else ordr P T (G9 m) (Ad m) - 1) mc9 (bs0 (num P T c9 pc9 (fun _ => 0))) (ff P c9 * T ^ c9)) ∧ r = nI ((bfs (fun m => bkf P T c9 (G9 m) (Ad m)) (fun m => if m9 = 0 then 1 else ordr P T (G9 m) (Ad m) - 1) mc9 (bs0 (num P T c9 pc9 (fun _ => 0))) (ff P c9 * T ^ c9)).1 ((bfs (fun m => bkf P T c9 (G9 m) (Ad m)) (fun m => if m9 = 0 then 1 else ordr P T (G9 m) (Ad m) - 1) mc9 (bs0 (num P T c9 pc9 (fun _ => 0))) (ff P c9 * T ^ c9)).2.1 ((bfs (fun m => bkf P T c9 (G9 m) (Ad m)) (fun m => if m9 = 0 then 1 else ordr P T (G9 m) (Ad m) - 1) mc9 (bs0 (num P T c9 pc9 (fun _ => 0))) (ff P c9 * T ^ c9)).2.2 - 1))) - 1 ∧ (∀ p, p < P → vp_in (iv' 33 p) P) ∧ ∀ q, q ≠ 28 → q ≠ 33 → q ≠ 34 → q ≠ 39 → q ≠ 40 → q ≠ 41 → q ≠ 42 → q ≠ 43 → q ≠ 44 → q ≠ 45 → q ≠ 46 → q ≠ 47 → q ≠ 48 → iv' q = iv q) → gS D cA A H0 o ad' ln' iv' n H locs → W p l e R s m args below meth c H locs (cells + ((al (ln 43) (6 * ff P c9) + al (ln 44) (6 * ff P c9) + al (ln 45) (T ^ c9 * T ^ c9)) + (al (ln 47) (ff P c9 * T ^ c9) + al (ln 48) (ff P c9 * T ^ c9)))) (slots + ((als (ln 43) (6 * ff P c9) + als (ln 44) (6 * ff P c9) + als (ln 45) (T ^ c9 * T ^ c9)) + (als (ln 47) (ff P c9 * T ^ c9) + als (ln 48) (ff P c9 * T ^ c9)))) Q (F0 m pc ls [.int r])) :
    W p l e R s m args below meth c H locs cells slots Q (F0 m 0 ls []) := by
  obtain ⟨hx, hb, hml, hown, hts, hr, hlocks⟩ := F
  obtain ⟨hL1, hL2, ⟨h26, h27, h28⟩, ⟨h30, h31, h33, h34, h36, h37⟩, h39, h40, h41⟩ := hLn
  have hpw := pw_le4 hT3 hc4
  have hpp : 0 < T ^ c9 := Nat.pow_pos hT1
  have hff := ff_le4 hP hc4
  have htt := Nat.mul_le_mul hpw hpw
  have hat := Nat.mul_le_mul hb16 hpw
  have J11 : ∀ (z9 : Nat), (z9 = 0) → ∀ (H : Heap) (locs : List Loc) (ls : Array Slot), gS D cA A H0 o ad ln iv n H locs → lv_has ls 3 [(0, .ref (ad 0)), (1, .int (nI m9))] → W p l e R s m args below meth c H locs cells slots Q (F0 m 11 ls []) := by
    intro z9 hz9 H locs ls hS hl
    refine lv_aload_n hx hb dX6_build_11 rfl (lv_at hl 0 rfl) ?_
    refine gx_get (ci := 9) (v := .ref (ad 42)) (C := RX6) (T := TX6) (N := 15) hx hb hts (fun _ h => inX6_build_RX6 h) hown hK hS 0 (by omega) rfl rfl 12 (by decide) (hts (.fieldLink RX6 72 "CosetTables" "steps" "LCosetTables$Steps;") (by decide +kernel)) rfl dX6_build_12 ?_
    refine lv_aload_n hx hb dX6_build_15 rfl (lv_at hl 0 rfl) ?_
    refine gx_get (ci := 9) (v := .ref (ad 25)) (C := RX6) (T := TX6) (N := 15) hx hb hts (fun _ h => inX6_build_RX6 h) hown hK hS 0 (by omega) rfl rfl 6 (by decide) (hts (.fieldLink RX6 42 "CosetTables" "numbering" "LCosetTables$Numbering;") (by decide +kernel)) rfl dX6_build_16 ?_
    refine lv_aload_n hx hb dX6_build_19 rfl (lv_at hl 0 rfl) ?_
    refine gx_get (ci := 9) (v := .int (iv 0 3)) (C := RX6) (T := TX6) (N := 15) hx hb hts (fun _ h => inX6_build_RX6 h) hown hK hS 0 (by omega) rfl rfl 3 (by decide) (hts (.fieldLink RX6 90 "CosetTables" "moveCount" "I") (by decide +kernel)) rfl dX6_build_20 ?_
    refine gx_as (y := nI mc9) hmc ?_
    refine gc_vxM (ct_X4_prepare l D cA o ad ln n H.size iv (a := ff P c9) (t := T ^ c9) (mc9 := mc9) (c9 := c9) (T := T) hn hln ha9 ht9 (by omega) (by omega) hpw hc9 hc4 hT0 hT1 hT3) (fun hM => (gx_runV (As := [.ref (ad 25), .int (nI mc9)]) (rest := []) ⟨hx, hb, hml, hown, hts⟩ hK hN hS 42 (by omega) rfl rfl hM (cwV 2 hts gX6_build_X4_prepare rfl rfl rfl (by decide +kernel) ⟨gle hRf rfl, gle hRl rfl⟩) rfl rfl hl.1 rfl (lv_room (Nat.le_of_ble_eq_true rfl)) dX6_build_23 ⟨by omega, by omega⟩)) hS hA (fun ad1 ln1 iv1 H locs hp1 hS => ?_)
    obtain ⟨q1, ⟨q2a, q2b, q2c⟩, ⟨q3a, q3b, q3c⟩, q4, q5⟩ := hp1
    have hln0 := hln
    have hln : ∀ q, ln1 q < 2 ^ 31 := by
      intro q
      by_cases e1 : q = 43
      · have := hln0 43; rw [e1, q2a]; omega
      by_cases e2 : q = 44
      · have := hln0 44; rw [e2, q2b]; omega
      by_cases e3 : q = 45
      · have := hln0 45; rw [e3, q2c]; omega
      rw [(q1 q e1 e2 e3).2]; exact hln0 q
    have g33 : ln1 33 = P := by rw [(q1 33 (by decide) (by decide) (by decide)).2]; exact h33
    have g34 : ln1 34 = P := by rw [(q1 34 (by decide) (by decide) (by decide)).2]; exact h34
    have g27 : ln1 27 = 4 := by rw [(q1 27 (by decide) (by decide) (by decide)).2]; exact h27
    have g28 : ln1 28 = 4 := by rw [(q1 28 (by decide) (by decide) (by decide)).2]; exact h28
    have g39 : ln1 39 = P := by rw [(q1 39 (by decide) (by decide) (by decide)).2]; exact h39
    have g40 : ln1 40 = P := by rw [(q1 40 (by decide) (by decide) (by decide)).2]; exact h40
    have g41 : ln1 41 = 6 := by rw [(q1 41 (by decide) (by decide) (by decide)).2]; exact h41
    have gL1 : ∀ j, j < 6 → ln1 (2 + 3 * j + 1) = P ∧ ln1 (2 + 3 * j + 2) = P := fun j hj => by rw [(q1 _ (by omega) (by omega) (by omega)).2, (q1 _ (by omega) (by omega) (by omega)).2]; exact hL1 j hj
    have hl : lv_has ls 3 [(0, .ref (ad1 0)), (1, .int (nI m9))] := by rw [(q1 0 (by decide) (by decide) (by decide)).1]; exact hl
    refine lv_iconst (v := nI 0) hx hb dX6_build_26 (by decide) ?_
    refine lv_istore_n (lv' := [(2, .int (nI 0)), (0, .ref (ad1 0)), (1, .int (nI m9))]) hx hb dX6_build_27 rfl hl (by decide) rfl (fun ls hl => ?_)
    have L28 : ∀ (N : Nat) (i : Nat) (iv2 : Nat → Nat → Int32), mc9 - i < N → (i ≤ mc9) → (∀ m, m < i → (∀ k, k < ff P c9 → ∃ w, inj w P c9 ∧ (∀ i, i < c9 → rkw w i = rky P c9 k i) ∧ iv2 43 (m * ff P c9 + k) = nI (num P T c9 (fun i => ginv P (G9 m) (w i)) (fun i => ainv P T (G9 m) (Ad m) (w i)) / T ^ c9) ∧ iv2 44 (m * ff P c9 + k) = nI (num P T c9 (fun i => ginv P (G9 m) (w i)) (fun i => ainv P T (G9 m) (Ad m) (w i)) % T ^ c9)) ∧ iv2 41 m = nI (if m9 = 0 then 1 else ordr P T (G9 m) (Ad m) - 1)) → (∀ p, p < P → vp_in (iv2 33 p) P) → (iv2 38 = iv 38) → (∀ q, q ≠ 28 → q ≠ 33 → q ≠ 34 → q ≠ 39 → q ≠ 40 → q ≠ 41 → q ≠ 43 → q ≠ 44 → iv2 q = iv1 q) → ∀ (H : Heap) (locs : List Loc) (ls : Array Slot), gS D cA A H0 o ad1 ln1 iv2 n H locs → lv_has ls 3 [(0, .ref (ad1 0)), (1, .int (nI m9)), (2, .int (nI i))] → W p l e R s m args below meth c H locs (cells + (al (ln 43) (6 * ff P c9) + al (ln 44) (6 * ff P c9) + al (ln 45) (T ^ c9 * T ^ c9))) (slots + (als (ln 43) (6 * ff P c9) + als (ln 44) (6 * ff P c9) + als (ln 45) (T ^ c9 * T ^ c9))) Q (F0 m 28 ls []) := by
      intro N
      induction N with
      | zero => intro i iv2 hm; exact absurd hm (Nat.not_lt_zero _)
      | succ N ih28 =>
        intro i iv2 hm hi h1 h2 h3 h4 H locs ls hS hl
        have o0 : iv2 0 = iv 0 := (h4 0 (by decide) (by decide) (by decide) (by decide) (by decide) (by decide) (by decide) (by decide)).trans (q5 0 (by decide) (by decide) (by decide) (by decide))
        have o25 : iv2 25 = iv 25 := (h4 25 (by decide) (by decide) (by decide) (by decide) (by decide) (by decide) (by decide) (by decide)).trans (q5 25 (by decide) (by decide) (by decide) (by decide))
        have o27 : iv2 27 = iv 27 := (h4 27 (by decide) (by decide) (by decide) (by decide) (by decide) (by decide) (by decide) (by decide)).trans (q5 27 (by decide) (by decide) (by decide) (by decide))
        have o42 : iv2 42 = iv1 42 := h4 42 (by decide) (by decide) (by decide) (by decide) (by decide) (by decide) (by decide) (by decide)
        refine lv_iload_n hx hb dX6_build_28 rfl (lv_at hl 2 rfl) ?_
        refine lv_aload_n hx hb dX6_build_29 rfl (lv_at hl 0 rfl) ?_
        refine gx_get (ci := 9) (v := .int (iv2 0 3)) (C := RX6) (T := TX6) (N := 15) hx hb hts (fun _ h => inX6_build_RX6 h) hown hK hS 0 (by omega) rfl rfl 3 (by decide) (hts (.fieldLink RX6 90 "CosetTables" "moveCount" "I") (by decide +kernel)) rfl dX6_build_30 ?_
        refine gx_as (y := nI mc9) (by rw [o0]; exact hmc) ?_
        refine lv_icmp_ge (tgt := 87) hx hb dX6_build_33 (by decide) (fun c_33 => ?_) (fun c_33 => ?_)
        · skip
          rw [nI_leI (by omega) (by omega)] at c_33
          refine lv_aload_n hx hb dX6_build_87 rfl (lv_at hl 0 rfl) ?_
          refine gx_get (ci := 9) (v := .ref (ad1 32)) (C := RX6) (T := TX6) (N := 15) hx hb hts (fun _ h => inX6_build_RX6 h) hown hK hS 0 (by omega) rfl rfl 8 (by decide) (hts (.fieldLink RX6 55 "CosetTables" "walker" "LCosetTables$State;") (by decide +kernel)) rfl dX6_build_88 ?_
          refine gc_v (gx_runV (As := []) (rest := []) ⟨hx, hb, hml, hown, hts⟩ hK hN hS 32 (by omega) rfl rfl (ct_X3_goHome l D cA o ad1 ln1 n H.size iv2 (b := 32) hn hln (by decide)) (cwV 0 hts gX6_build_X3_goHome rfl rfl rfl (by decide +kernel) ⟨gle hRf rfl, gle hRl rfl⟩) rfl rfl hl.1 rfl (lv_room (Nat.le_of_ble_eq_true rfl)) dX6_build_91 ⟨by omega, by omega⟩) hS hA (fun iv7 H locs hp7 hS => ?_)
          have w7 : ∀ q, q ≠ 33 → q ≠ 34 → iv7 q = iv2 q := fun q x1 x2 => by rw [hp7, wr1_o x2, wr1_o x1]
          have hh7 : holdsAt iv7 32 c9 pc9 pc9 (fun _ => 0) := by
            refine ⟨fun k hk => ?_, fun k hk => ?_⟩
            · have := hpi.1 k hk
              rw [hp7, wr1_o (by decide), wr1_at, if_pos (by rw [show ln1 (32 + 1) = ln1 33 from rfl]; omega)]
            · have := hpi.1 k hk
              rw [hp7, wr1_at, if_pos (by rw [show ln1 (32 + 2) = ln1 34 from rfl]; omega)]; rfl
          have hin7 : ∀ p, p < P → vp_in (iv7 33 p) P := fun p hp => by
            rw [hp7, wr1_o (by decide), show (33 : Nat) = 32 + 1 from rfl, wr1_at, if_pos (by rw [show ln1 (32 + 1) = ln1 33 from rfl]; omega)]
            exact vp_in_nI hp (by omega)
          have hgl := num_lt (T := T) (t := fun _ => 0) hpi (fun _ _ => hT1)
          refine lv_aload_n hx hb dX6_build_94 rfl (lv_at hl 0 rfl) ?_
          refine gx_get (ci := 9) (v := .ref (ad1 46)) (C := RX6) (T := TX6) (N := 15) hx hb hts (fun _ h => inX6_build_RX6 h) hown hK hS 0 (by omega) rfl rfl 13 (by decide) (hts (.fieldLink RX6 79 "CosetTables" "table" "LCosetTables$Table;") (by decide +kernel)) rfl dX6_build_95 ?_
          refine lv_aload_n hx hb dX6_build_98 rfl (lv_at hl 0 rfl) ?_
          refine gx_get (ci := 9) (v := .ref (ad1 25)) (C := RX6) (T := TX6) (N := 15) hx hb hts (fun _ h => inX6_build_RX6 h) hown hK hS 0 (by omega) rfl rfl 6 (by decide) (hts (.fieldLink RX6 42 "CosetTables" "numbering" "LCosetTables$Numbering;") (by decide +kernel)) rfl dX6_build_99 ?_
          refine lv_aload_n hx hb dX6_build_102 rfl (lv_at hl 0 rfl) ?_
          refine gx_get (ci := 9) (v := .ref (ad1 25)) (C := RX6) (T := TX6) (N := 15) hx hb hts (fun _ h => inX6_build_RX6 h) hown hK hS 0 (by omega) rfl rfl 6 (by decide) (hts (.fieldLink RX6 42 "CosetTables" "numbering" "LCosetTables$Numbering;") (by decide +kernel)) rfl dX6_build_103 ?_
          refine lv_aload_n hx hb dX6_build_106 rfl (lv_at hl 0 rfl) ?_
          refine gx_get (ci := 9) (v := .ref (ad1 32)) (C := RX6) (T := TX6) (N := 15) hx hb hts (fun _ h => inX6_build_RX6 h) hown hK hS 0 (by omega) rfl rfl 8 (by decide) (hts (.fieldLink RX6 55 "CosetTables" "walker" "LCosetTables$State;") (by decide +kernel)) rfl dX6_build_107 ?_
          refine gc_i (gx_runV (As := [.ref (ad1 32)]) (rest := [.ref (ad1 25), .ref (ad1 46)]) ⟨hx, hb, hml, hown, hts⟩ hK hN hS 25 (by omega) rfl rfl (ct_X1_numberOf l D cA o ad1 ln1 n H.size iv7 (b := 32) (P := P) (c9 := c9) (T := T) (pc9 := pc9) (w := pc9) (t := fun _ => 0) hn hln (by rw [w7 25 (by decide) (by decide), o25]; exact hc9) hc4 (by rw [w7 25 (by decide) (by decide), o25]; exact hT0) hT1 hT3 (by decide) g34 g33 hP g27 (by rw [w7 27 (by decide) (by decide), o27]; exact hpc) hpi (by rw [w7 25 (by decide) (by decide), o25]; exact hP0) hh7.1 hh7.2 hpi (fun _ _ => hT1)) (cwV 1 hts gX6_build_X1_numberOf rfl rfl rfl (by decide +kernel) ⟨gle hRf rfl, gle hRl rfl⟩) rfl rfl hl.1 rfl (lv_room (Nat.le_of_ble_eq_true rfl)) dX6_build_110 ⟨by omega, by omega⟩) hS hA (fun g iv8 H locs hp8 hS => ?_)
          obtain ⟨eg, ev8⟩ := hp8
          rw [ev8] at hS
          refine gx_as (y := nI (num P T c9 pc9 (fun _ => 0))) eg ?_
          skip
          refine lv_iload_n hx hb dX6_build_113 rfl (lv_at hl 1 rfl) ?_
          refine lv_aload_n hx hb dX6_build_114 rfl (lv_at hl 0 rfl) ?_
          refine gx_get (ci := 9) (v := .ref (ad1 42)) (C := RX6) (T := TX6) (N := 15) hx hb hts (fun _ h => inX6_build_RX6 h) hown hK hS 0 (by omega) rfl rfl 12 (by decide) (hts (.fieldLink RX6 72 "CosetTables" "steps" "LCosetTables$Steps;") (by decide +kernel)) rfl dX6_build_115 ?_
          refine lv_aload_n hx hb dX6_build_118 rfl (lv_at hl 0 rfl) ?_
          refine gx_get (ci := 9) (v := .ref (ad1 41)) (C := RX6) (T := TX6) (N := 15) hx hb hts (fun _ h => inX6_build_RX6 h) hown hK hS 0 (by omega) rfl rfl 11 (by decide) (hts (.fieldLink RX6 65 "CosetTables" "repeats" "[I") (by decide +kernel)) rfl dX6_build_119 ?_
          have hso : stepsOk iv7 (ff P c9) (T ^ c9) mc9 (fun m => bkf P T c9 (G9 m) (Ad m)) := by
            intro m hm8 x hx8
            rw [w7 43 (by decide) (by decide), w7 44 (by decide) (by decide), w7 45 (by decide) (by decide)]
            have hxa : x / T ^ c9 < ff P c9 := Nat.div_lt_of_lt_mul (by rw [Nat.mul_comm]; exact hx8)
            obtain ⟨w, a1, a2, a3, a4⟩ := (h1 m (by omega)).1 (x / T ^ c9) hxa
            have hwd := dw_eq a1 a2
            have ecg : num P T c9 (fun i => ginv P (G9 m) (w i)) (fun i => ainv P T (G9 m) (Ad m) (w i)) = num P T c9 (fun i => ginv P (G9 m) (dw P c9 (x / T ^ c9) i)) (fun i => ainv P T (G9 m) (Ad m) (dw P c9 (x / T ^ c9) i)) := num_congr (fun k hk => by rw [hwd k hk]) (fun k hk => by rw [hwd k hk])
            rw [ecg] at a3 a4
            have hnm : num P T c9 (fun i => ginv P (G9 m) (dw P c9 (x / T ^ c9) i)) (fun i => ainv P T (G9 m) (Ad m) (dw P c9 (x / T ^ c9) i)) < ff P c9 * T ^ c9 := by
              rw [← ecg]
              exact num_lt (inj_comp a1 (ginv_inj (hmv m hm8).2)) (fun k hk => Nat.mod_lt _ hT1)
            have hv8 := Nat.mod_lt (num P T c9 (fun i => ginv P (G9 m) (dw P c9 (x / T ^ c9) i)) (fun i => ainv P T (G9 m) (Ad m) (dw P c9 (x / T ^ c9) i))) hpp
            have hu8 : num P T c9 (fun i => ginv P (G9 m) (dw P c9 (x / T ^ c9) i)) (fun i => ainv P T (G9 m) (Ad m) (dw P c9 (x / T ^ c9) i)) / T ^ c9 < ff P c9 := Nat.div_lt_of_lt_mul (by rw [Nat.mul_comm]; exact hnm)
            have hmul := Nat.mul_le_mul_right (T ^ c9) hu8
            rw [Nat.succ_mul] at hmul
            have hts := tsum_lt hT1 c9 (x % T ^ c9) (num P T c9 (fun i => ginv P (G9 m) (dw P c9 (x / T ^ c9) i)) (fun i => ainv P T (G9 m) (Ad m) (dw P c9 (x / T ^ c9) i)) % T ^ c9)
            refine ⟨_, _, _, a3, a4, hv8, ?_, rfl, ?_⟩
            · rw [h4 45 (by decide) (by decide) (by decide) (by decide) (by decide) (by decide) (by decide) (by decide)]; exact q4 _ _ (Nat.mod_lt _ hpp) hv8
            · show bkf P T c9 (G9 m) (Ad m) x < _
              unfold bkf
              omega
          refine gc_ixM (ct_X5_grow l D cA o ad1 ln1 n H.size iv7 (g9 := num P T c9 pc9 (fun _ => 0)) (m9 := m9) (a := ff P c9) (t := T ^ c9) (mc9 := mc9) (bk := (fun m => bkf P T c9 (G9 m) (Ad m))) (rp := (fun m => if m9 = 0 then 1 else ordr P T (G9 m) (Ad m) - 1)) hn hln (by rw [w7 25 (by decide) (by decide), o25]; exact ha9) (by rw [w7 25 (by decide) (by decide), o25]; exact ht9) (by rw [w7 42 (by decide) (by decide), o42]; exact q3b) (by rw [w7 42 (by decide) (by decide), o42]; exact q3c) hpp (by omega) hb16 hpw (by omega) (by omega) (by omega) hso hmc6 (by rw [w7 42 (by decide) (by decide), o42]; exact q3a) hgl g41 (fun m hm8 => ⟨by rw [w7 41 (by decide) (by decide)]; exact (h1 m (by omega)).2, by have := ordr_in P T (G9 m) (Ad m); split <;> omega⟩)) (fun hM => (gx_runV (As := [.ref (ad1 25), .int (nI (num P T c9 pc9 (fun _ => 0))), .int (nI m9), .ref (ad1 42), .ref (ad1 41)]) (rest := []) ⟨hx, hb, hml, hown, hts⟩ hK hN hS 46 (by omega) rfl rfl hM (cwV 5 hts gX6_build_X5_grow rfl rfl rfl (by decide +kernel) ⟨gle hRf rfl, gle hRl rfl⟩) rfl rfl hl.1 rfl (lv_room (Nat.le_of_ble_eq_true rfl)) dX6_build_122 ⟨by rw [(q1 47 (by decide) (by decide) (by decide)).2, (q1 48 (by decide) (by decide) (by decide)).2]; omega, by rw [(q1 47 (by decide) (by decide) (by decide)).2, (q1 48 (by decide) (by decide) (by decide)).2]; omega⟩)) hS hA (fun y ad2 ln2 iv9 H locs hp9 hS => ?_)
          obtain ⟨s1, ⟨s2a, s2b⟩, ⟨s3a, s3b, s3c⟩, s4, s5, s6, s7, s8⟩ := hp9
          rw [(q1 47 (by decide) (by decide) (by decide)).2, (q1 48 (by decide) (by decide) (by decide)).2]
          have hl : lv_has ls 3 [(0, .ref (ad2 0)), (1, .int (nI m9)), (2, .int (nI i))] := by rw [(s1 0 (by decide) (by decide)).1]; exact hl
          refine W.widen (k := cells + ((al (ln 43) (6 * ff P c9) + al (ln 44) (6 * ff P c9) + al (ln 45) (T ^ c9 * T ^ c9)) + (al (ln 47) (ff P c9 * T ^ c9) + al (ln 48) (ff P c9 * T ^ c9)))) (n := slots + ((als (ln 43) (6 * ff P c9) + als (ln 44) (6 * ff P c9) + als (ln 45) (T ^ c9 * T ^ c9)) + (als (ln 47) (ff P c9 * T ^ c9) + als (ln 48) (ff P c9 * T ^ c9)))) (by omega) (by omega) ?_
          exact kret _ ad2 ln2 iv9 _ _ _ _ dX6_build_125 (⟨fun i x1 x2 x3 x4 x5 => ⟨by rw [(s1 i x4 x5).1, (q1 i x1 x2 x3).1], by rw [(s1 i x4 x5).2, (q1 i x1 x2 x3).2]⟩, ⟨by rw [(s1 43 (by decide) (by decide)).2, q2a], by rw [(s1 44 (by decide) (by decide)).2, q2b], by rw [(s1 45 (by decide) (by decide)).2, q2c], by rw [s2a, (q1 47 (by decide) (by decide) (by decide)).2], by rw [s2b, (q1 48 (by decide) (by decide) (by decide)).2]⟩, ⟨s3a, s3b, s3c⟩, s4, s5, s6, s7, fun p hp => by rw [s8 33 (by decide) (by decide) (by decide)]; exact hin7 p hp, fun q x1 x2 x3 x4 x5 x6 x7 x8 x9 x10 x11 x12 x13 => by rw [s8 q x11 x12 x13, w7 q x2 x3, h4 q x1 x2 x3 x4 x5 x6 x8 x9, q5 q x7 x8 x9 x10]⟩) hS
        · skip
          rw [nI_leI (by omega) (by omega)] at c_33
          obtain ⟨hmi, hGi⟩ := hmv i (by omega)
          have hmi2 : moveAt iv2 (2 + 3 * i) P T (G9 i) (Ad i) := by
            unfold moveAt
            rw [h4 _ (by omega) (by omega) (by omega) (by omega) (by omega) (by omega) (by omega) (by omega), h4 _ (by omega) (by omega) (by omega) (by omega) (by omega) (by omega) (by omega) (by omega), h4 _ (by omega) (by omega) (by omega) (by omega) (by omega) (by omega) (by omega) (by omega), q5 _ (by omega) (by omega) (by omega) (by omega), q5 _ (by omega) (by omega) (by omega) (by omega), q5 _ (by omega) (by omega) (by omega) (by omega)]
            exact hmi
          refine lv_aload_n hx hb dX6_build_36 rfl (lv_at hl 0 rfl) ?_
          refine gx_get (ci := 9) (v := .ref (ad1 38)) (C := RX6) (T := TX6) (N := 15) hx hb hts (fun _ h => inX6_build_RX6 h) hown hK hS 0 (by omega) rfl rfl 10 (by decide) (hts (.fieldLink RX6 61 "CosetTables" "backward" "LCosetTables$Move;") (by decide +kernel)) rfl dX6_build_37 ?_
          refine lv_aload_n hx hb dX6_build_40 rfl (lv_at hl 0 rfl) ?_
          refine gx_get (ci := 9) (v := .ref (ad1 1)) (C := RX6) (T := TX6) (N := 15) hx hb hts (fun _ h => inX6_build_RX6 h) hown hK hS 0 (by omega) rfl rfl 2 (by decide) (hts (.fieldLink RX6 27 "CosetTables" "moves" "[LCosetTables$Move;") (by decide +kernel)) rfl dX6_build_41 ?_
          refine lv_iload_n hx hb dX6_build_44 rfl (lv_at hl 2 rfl) ?_
          refine gx_ldmove hx hb hK hS (by omega) i (by omega) rfl dX6_build_45 ?_
          refine gc_v (gx_runV (As := [.ref (ad1 (2 + 3 * i))]) (rest := []) ⟨hx, hb, hml, hown, hts⟩ hK hN hS 38 (by omega) rfl rfl (ct_X0_invert l D cA o ad1 ln1 n H.size iv2 (v := 38) (u := 2 + 3 * i) (P := P) hn hln (by decide) (isM_mv (by omega)) (by omega) g39 g40 (gL1 i (by omega)).1 (gL1 i (by omega)).2 hP (by rw [h3, h38]; exact nI_ne0 hT1 (by omega)) (fun p hp => by rw [(hmi2.2 p hp).1]; exact vp_in_nI (hmi2.2 p hp).2.1 (by omega))) (cwV 1 hts gX6_build_X0_invert rfl rfl rfl (by decide +kernel) ⟨gle hRf rfl, gle hRl rfl⟩) rfl rfl hl.1 rfl (lv_room (Nat.le_of_ble_eq_true rfl)) dX6_build_46 ⟨by omega, by omega⟩) hS hA (fun iv3 H locs hp3 hS => ?_)
          have hmb := invert_move hT1 hT3 hP (by rw [h3]; exact h38) hmi2 hGi ⟨by decide, by decide⟩ hp3
          have hi3 : ∀ q, q ≠ 39 → q ≠ 40 → iv3 q = iv2 q := fun q x1 x2 => by rw [hp3, wr2_o x1 x2]
          refine lv_aload_n hx hb dX6_build_49 rfl (lv_at hl 0 rfl) ?_
          refine gx_get (ci := 9) (v := .ref (ad1 42)) (C := RX6) (T := TX6) (N := 15) hx hb hts (fun _ h => inX6_build_RX6 h) hown hK hS 0 (by omega) rfl rfl 12 (by decide) (hts (.fieldLink RX6 72 "CosetTables" "steps" "LCosetTables$Steps;") (by decide +kernel)) rfl dX6_build_50 ?_
          refine lv_iload_n hx hb dX6_build_53 rfl (lv_at hl 2 rfl) ?_
          refine lv_aload_n hx hb dX6_build_54 rfl (lv_at hl 0 rfl) ?_
          refine gx_get (ci := 9) (v := .ref (ad1 38)) (C := RX6) (T := TX6) (N := 15) hx hb hts (fun _ h => inX6_build_RX6 h) hown hK hS 0 (by omega) rfl rfl 10 (by decide) (hts (.fieldLink RX6 61 "CosetTables" "backward" "LCosetTables$Move;") (by decide +kernel)) rfl dX6_build_55 ?_
          refine lv_aload_n hx hb dX6_build_58 rfl (lv_at hl 0 rfl) ?_
          refine gx_get (ci := 9) (v := .ref (ad1 25)) (C := RX6) (T := TX6) (N := 15) hx hb hts (fun _ h => inX6_build_RX6 h) hown hK hS 0 (by omega) rfl rfl 6 (by decide) (hts (.fieldLink RX6 42 "CosetTables" "numbering" "LCosetTables$Numbering;") (by decide +kernel)) rfl dX6_build_59 ?_
          refine lv_aload_n hx hb dX6_build_62 rfl (lv_at hl 0 rfl) ?_
          refine gx_get (ci := 9) (v := .ref (ad1 32)) (C := RX6) (T := TX6) (N := 15) hx hb hts (fun _ h => inX6_build_RX6 h) hown hK hS 0 (by omega) rfl rfl 8 (by decide) (hts (.fieldLink RX6 55 "CosetTables" "walker" "LCosetTables$State;") (by decide +kernel)) rfl dX6_build_63 ?_
          refine gc_v (gx_runV (As := [.int (nI i), .ref (ad1 38), .ref (ad1 25), .ref (ad1 32)]) (rest := []) ⟨hx, hb, hml, hown, hts⟩ hK hN hS 42 (by omega) rfl rfl (ct_X4_learn l D cA o ad1 ln1 n H.size iv3 (m9 := i) (v := 38) (b := 32) (P := P) (c9 := c9) (T := T) (a := ff P c9) (t := T ^ c9) (pc9 := pc9) (G9 := ginv P (G9 i)) (Ad := ainv P T (G9 i) (Ad i)) hn hln (by rw [hi3 25 (by decide) (by decide), o25]; exact hc9) hc4 (by rw [hi3 25 (by decide) (by decide), o25]; exact hT0) hT1 hT3 (by decide) g34 g33 hP g27 (by rw [hi3 27 (by decide) (by decide), o27]; exact hpc) hpi (by rw [hi3 25 (by decide) (by decide), o25]; exact hP0) g28 (by rw [hi3 25 (by decide) (by decide), o25]; exact ht9) (by rw [hi3 42 (by decide) (by decide), o42]; exact q3b) (by rw [hi3 42 (by decide) (by decide), o42]; exact q3c) rfl rfl (by omega) (by omega) (by omega) (by decide) g39 g40 hmb (ginv_inj hGi) (by rw [show iv3 (32 + 1) = iv2 33 from hi3 33 (by decide) (by decide)]; exact h2)) (cwV 4 hts gX6_build_X4_learn rfl rfl rfl (by decide +kernel) ⟨gle hRf rfl, gle hRl rfl⟩) rfl rfl hl.1 rfl (lv_room (Nat.le_of_ble_eq_true rfl)) dX6_build_66 ⟨by omega, by omega⟩) hS hA (fun iv4 H locs hp4 hS => ?_)
          obtain ⟨l1, l2, l3, l4⟩ := hp4
          have hmi4 : moveAt iv4 (2 + 3 * i) P T (G9 i) (Ad i) := by
            unfold moveAt
            rw [l4 _ (by omega) (by omega) (by omega) (by omega) (by omega), l4 _ (by omega) (by omega) (by omega) (by omega) (by omega), l4 _ (by omega) (by omega) (by omega) (by omega) (by omega), hi3 _ (by omega) (by omega), hi3 _ (by omega) (by omega), hi3 _ (by omega) (by omega)]
            exact hmi2
          refine lv_aload_n hx hb dX6_build_69 rfl (lv_at hl 0 rfl) ?_
          refine gx_get (ci := 9) (v := .ref (ad1 41)) (C := RX6) (T := TX6) (N := 15) hx hb hts (fun _ h => inX6_build_RX6 h) hown hK hS 0 (by omega) rfl rfl 11 (by decide) (hts (.fieldLink RX6 65 "CosetTables" "repeats" "[I") (by decide +kernel)) rfl dX6_build_70 ?_
          refine lv_iload_n hx hb dX6_build_73 rfl (lv_at hl 2 rfl) ?_
          refine lv_aload_n hx hb dX6_build_74 rfl (lv_at hl 0 rfl) ?_
          refine lv_iload_n hx hb dX6_build_75 rfl (lv_at hl 2 rfl) ?_
          refine lv_iload_n hx hb dX6_build_76 rfl (lv_at hl 1 rfl) ?_
          refine gc_i (gx_runV (As := [.int (nI i), .int (nI m9)]) (rest := [.int (nI i), .ref (ad1 41)]) ⟨hx, hb, hml, hown, hts⟩ hK hN hS 0 (by omega) rfl rfl (ct_X6_mostRepeats l D cA o ad1 ln1 n H.size iv4 (j9 := i) (m9 := m9) (P := P) (T := T) (G9 := G9 i) (Ad := Ad i) hn hln hT1 hT3 hP g33 g34 (by omega) (by omega) (gL1 i (by omega)).1 (gL1 i (by omega)).2 hmi4 l2) (cwV 2 hts gX6_build_X6_mostRepeats rfl rfl rfl (by decide +kernel) ⟨gle hRf rfl, gle hRl rfl⟩) rfl rfl hl.1 rfl (lv_room (Nat.le_of_ble_eq_true rfl)) dX6_build_77 ⟨by omega, by omega⟩) hS hA (fun y iv5 H locs hp5 hS => ?_)
          obtain ⟨ey, hy2, e5⟩ := hp5
          refine gx_as (y := nI (if m9 = 0 then 1 else ordr P T (G9 i) (Ad i) - 1)) ey ?_
          refine gx_iastn hx hb hK hS 41 (by omega) (by decide) i (by omega) (hln _) dX6_build_80 (fun H locs hS => ?_)
          obtain ⟨iv6, eiv6⟩ : ∃ z, z = up2 iv5 41 i (nI (if m9 = 0 then 1 else ordr P T (G9 i) (Ad i) - 1)) := ⟨_, rfl⟩
          rw [← eiv6] at hS
          have hrow : ∀ m, m < i + 1 → (∀ k, k < ff P c9 → ∃ w, inj w P c9 ∧ (∀ i, i < c9 → rkw w i = rky P c9 k i) ∧ iv6 43 (m * ff P c9 + k) = nI (num P T c9 (fun i => ginv P (G9 m) (w i)) (fun i => ainv P T (G9 m) (Ad m) (w i)) / T ^ c9) ∧ iv6 44 (m * ff P c9 + k) = nI (num P T c9 (fun i => ginv P (G9 m) (w i)) (fun i => ainv P T (G9 m) (Ad m) (w i)) % T ^ c9)) ∧ iv6 41 m = nI (if m9 = 0 then 1 else ordr P T (G9 m) (Ad m) - 1) := by
            intro m hm8
            have z43 : iv6 43 = iv4 43 := by rw [eiv6, up2_row (by decide), e5 43 (by decide) (by decide)]
            have z44 : iv6 44 = iv4 44 := by rw [eiv6, up2_row (by decide), e5 44 (by decide) (by decide)]
            rcases Nat.lt_or_ge m i with x | x
            · obtain ⟨r1, r2⟩ := h1 m x
              refine ⟨fun k hk => ?_, ?_⟩
              · obtain ⟨w, a1, a2, a3, a4⟩ := r1 k hk
                have hmul := Nat.mul_le_mul_right (ff P c9) (show m + 1 ≤ i by omega)
                rw [Nat.succ_mul] at hmul
                have l3k := l3 (m * ff P c9 + k) (Or.inl (by omega))
                exact ⟨w, a1, a2, by rw [z43, l3k.1, hi3 43 (by decide) (by decide)]; exact a3, by rw [z44, l3k.2, hi3 44 (by decide) (by decide)]; exact a4⟩
              · rw [eiv6, up2_n (by omega), e5 41 (by decide) (by decide), l4 41 (by decide) (by decide) (by decide) (by decide) (by decide), hi3 41 (by decide) (by decide)]; exact r2
            · have em : m = i := by omega
              subst em
              exact ⟨fun k hk => by rw [z43, z44]; exact l1 k hk, by rw [eiv6, up2_s]⟩
          refine lv_iinc (v := nI (i + 1)) (lv' := [(2, .int (nI (i + 1))), (0, .ref (ad1 0)), (1, .int (nI m9))]) hx hb dX6_build_81 hl (k := 2) rfl (nI_1 i) (by decide) rfl (fun ls hl => ?_)
          refine lv_goto (tgt := 28) hx hb dX6_build_84 (by decide) ?_
          exact ih28 (i + 1) iv6 (by omega) (by omega) hrow (fun p hp => by rw [eiv6, up2_row (by decide)]; exact hy2 p hp) (by rw [eiv6, up2_row (by decide), e5 38 (by decide) (by decide), l4 38 (by decide) (by decide) (by decide) (by decide) (by decide), hi3 38 (by decide) (by decide), h3]) (fun q x1 x2 x3 x4 x5 x6 x7 x8 => by rw [eiv6, up2_row x6, e5 q x2 x3, l4 q x1 x2 x3 x7 x8, hi3 q x4 x5, h4 q x1 x2 x3 x4 x5 x6 x7 x8]) _ _ _ hS (lv_sub hl [1, 2, 0] rfl)
    exact L28 _ 0 iv1 (Nat.lt_succ_self _) (Nat.zero_le _) (fun m h => absurd h (Nat.not_lt_zero m)) (by rw [q5 33 (by decide) (by decide) (by decide) (by decide)]; exact hw33) (q5 38 (by decide) (by decide) (by decide) (by decide)) (fun _ _ _ _ _ _ _ _ _ => rfl) _ _ _ hS (lv_sub hl [1, 2, 0] rfl)
  refine lv_iload_n hx hb dX6_build_0 rfl (lv_at hl 1 rfl) ?_
  refine lv_if_eq (tgt := 11) hx hb dX6_build_1 (by decide) (fun c_1 => ?_) (fun c_1 => ?_)
  · skip
    rw [show (0 : Int32) = nI 0 from rfl] at c_1
    rw [nI_eq (by omega) (by omega)] at c_1
    exact J11 0 rfl _ _ _ hS (lv_sub hl [0, 1] rfl)
  · skip
    rw [show (0 : Int32) = nI 0 from rfl] at c_1
    rw [nI_eq (by omega) (by omega)] at c_1
    refine lv_iload_n hx hb dX6_build_4 rfl (lv_at hl 1 rfl) ?_
    refine lv_iconst (v := nI 1) hx hb dX6_build_5 (by decide) ?_
    refine lv_icmp_eq (tgt := 11) hx hb dX6_build_6 (by decide) (fun c_6 => ?_) (fun c_6 => ?_)
    · skip
      rw [nI_eq (by omega) (by omega)] at c_6
      exact J11 0 rfl _ _ _ hS (lv_sub hl [0, 1] rfl)
    · skip
      rw [nI_eq (by omega) (by omega)] at c_6
      omega
set_option maxRecDepth 100000 in
theorem ct_X6_build (l : Launch) (D : va_G) (cA : Nat → ClassId) (o : Nat → Int64) (ad ln : Nat → Nat) (n sz : Nat) (iv : Nat → Nat → Int32) (m9 mc9 P c9 T : Nat) (pc9 : Nat → Nat) (G9 Ad : Nat → Nat → Nat) (hn : 68 ≤ n) (hln : ∀ k, ln k < 2 ^ 31) (hLn : lnOk ln P) (hm9 : m9 < 2) (hc9 : iv 25 5 = nI c9) (hc4 : c9 ≤ 4) (hT0 : iv 25 1 = nI T) (hT1 : 0 < T) (hT3 : T ≤ 3) (hP : P ≤ 8) (hpc : ∀ i, i < c9 → iv 27 i = nI (pc9 i)) (hpi : inj pc9 P c9) (hP0 : iv 25 0 = nI P) (ha9 : iv 25 6 = nI (ff P c9)) (ht9 : iv 25 7 = nI (T ^ c9)) (hmc : iv 0 3 = nI mc9) (hmc6 : mc9 ≤ 6) (hmv : ∀ j, j < mc9 → moveAt iv (2 + 3 * j) P T (G9 j) (Ad j) ∧ inj (G9 j) P P) (h38 : iv 38 0 = nI T) (hw33 : ∀ p, p < P → vp_in (iv 33 p) P) (hb16 : ff P c9 ≤ 1680) : gMix l yX6_build wsX6_build { frames := 4, cells := (al (ln 43) (6 * ff P c9) + al (ln 44) (6 * ff P c9) + al (ln 45) (T ^ c9 * T ^ c9)) + (al (ln 47) (ff P c9 * T ^ c9) + al (ln 48) (ff P c9 * T ^ c9)), slots := (als (ln 43) (6 * ff P c9) + als (ln 44) (6 * ff P c9) + als (ln 45) (T ^ c9 * T ^ c9)) + (als (ln 47) (ff P c9 * T ^ c9) + als (ln 48) (ff P c9 * T ^ c9)), locals := 98 } D cA o ad ln n sz iv [.ref (ad 0), .int (nI m9)] ((al (ln 43) (6 * ff P c9) + al (ln 44) (6 * ff P c9) + al (ln 45) (T ^ c9 * T ^ c9)) + (al (ln 47) (ff P c9 * T ^ c9) + al (ln 48) (ff P c9 * T ^ c9))) ((als (ln 43) (6 * ff P c9) + als (ln 44) (6 * ff P c9) + als (ln 45) (T ^ c9 * T ^ c9)) + (als (ln 47) (ff P c9 * T ^ c9) + als (ln 48) (ff P c9 * T ^ c9))) (fun (r : Int32) ad' ln' iv' => (∀ i, i ≠ 43 → i ≠ 44 → i ≠ 45 → i ≠ 47 → i ≠ 48 → ad' i = ad i ∧ ln' i = ln i) ∧ (ln' 43 = max (ln 43) (6 * ff P c9) ∧ ln' 44 = max (ln 44) (6 * ff P c9) ∧ ln' 45 = max (ln 45) (T ^ c9 * T ^ c9) ∧ ln' 47 = max (ln 47) (ff P c9 * T ^ c9) ∧ ln' 48 = max (ln 48) (ff P c9 * T ^ c9)) ∧ (iv' 46 0 = 1 ∧ iv' 46 1 = nI m9 ∧ iv' 46 2 = nI (ff P c9 * T ^ c9)) ∧ bOk (ff P c9 * T ^ c9) (bfs (fun m => bkf P T c9 (G9 m) (Ad m)) (fun m => if m9 = 0 then 1 else ordr P T (G9 m) (Ad m) - 1) mc9 (bs0 (num P T c9 pc9 (fun _ => 0))) (ff P c9 * T ^ c9)) ∧ bQ (bfs (fun m => bkf P T c9 (G9 m) (Ad m)) (fun m => if m9 = 0 then 1 else ordr P T (G9 m) (Ad m) - 1) mc9 (bs0 (num P T c9 pc9 (fun _ => 0))) (ff P c9 * T ^ c9)) ∧ tabAt iv' (ff P c9 * T ^ c9) (bfs (fun m => bkf P T c9 (G9 m) (Ad m)) (fun m => if m9 = 0 then 1 else ordr P T (G9 m) (Ad m) - 1) mc9 (bs0 (num P T c9 pc9 (fun _ => 0))) (ff P c9 * T ^ c9)) ∧ r = nI ((bfs (fun m => bkf P T c9 (G9 m) (Ad m)) (fun m => if m9 = 0 then 1 else ordr P T (G9 m) (Ad m) - 1) mc9 (bs0 (num P T c9 pc9 (fun _ => 0))) (ff P c9 * T ^ c9)).1 ((bfs (fun m => bkf P T c9 (G9 m) (Ad m)) (fun m => if m9 = 0 then 1 else ordr P T (G9 m) (Ad m) - 1) mc9 (bs0 (num P T c9 pc9 (fun _ => 0))) (ff P c9 * T ^ c9)).2.1 ((bfs (fun m => bkf P T c9 (G9 m) (Ad m)) (fun m => if m9 = 0 then 1 else ordr P T (G9 m) (Ad m) - 1) mc9 (bs0 (num P T c9 pc9 (fun _ => 0))) (ff P c9 * T ^ c9)).2.2 - 1))) - 1 ∧ (∀ p, p < P → vp_in (iv' 33 p) P) ∧ ∀ q, q ≠ 28 → q ≠ 33 → q ≠ 34 → q ≠ 39 → q ≠ 40 → q ≠ 41 → q ≠ 42 → q ≠ 43 → q ≠ 44 → q ≠ 45 → q ≠ 46 → q ≠ 47 → q ≠ 48 → iv' q = iv q) := by
  refine Met.ofW (cc := cX6_build) (maxL := 3) (ret := (some .int)) (by decide) rfl ?_
  intro p e s m args below meth c s₁ B hml hv__
  obtain ⟨rfl, hv__⟩ := hv__
  obtain ⟨hsz, hS, hK, hN, hA⟩ := gS.entry hv__
  have hl := lv_entry ([.ref (ad 0), .int (nI m9)]) (n := 3) (Nat.le_of_ble_eq_true rfl)
  rw [lg_entry_eq]
  generalize (lg_sl ([.ref (ad 0), .int (nI m9)]) ++ List.replicate (3 - (lg_sl ([.ref (ad 0), .int (nI m9)])).length) Slot.unset).toArray = ls at hl ⊢
  exact bd_X6_build (m9 := m9) (mc9 := mc9) (P := P) (c9 := c9) (T := T) (pc9 := pc9) (G9 := G9) (Ad := Ad) ⟨B.exec, B.bytes, hml, findClass_of_methodNamed B.named, atoms_spec (ws := wsX6_build) B.pre, B.returns, B.notSynchronized⟩ (Nat.le_refl _) (Nat.le_refl _) (Nat.le_of_eq (Nat.zero_add _)) (Nat.le_of_eq (Nat.zero_add _)) hK hN hA hn hln hLn hm9 hc9 hc4 hT0 hT1 hT3 hP hpc hpi hP0 ha9 ht9 hmc hmc6 hmv h38 hw33 hb16 hS hl (fun r ad' ln' iv' H locs ls pc hd hp hS => by rw [Nat.zero_add, Nat.zero_add]; exact gx_iretx (post := fun (r : Int32) ad' ln' iv' => (∀ i, i ≠ 43 → i ≠ 44 → i ≠ 45 → i ≠ 47 → i ≠ 48 → ad' i = ad i ∧ ln' i = ln i) ∧ (ln' 43 = max (ln 43) (6 * ff P c9) ∧ ln' 44 = max (ln 44) (6 * ff P c9) ∧ ln' 45 = max (ln 45) (T ^ c9 * T ^ c9) ∧ ln' 47 = max (ln 47) (ff P c9 * T ^ c9) ∧ ln' 48 = max (ln 48) (ff P c9 * T ^ c9)) ∧ (iv' 46 0 = 1 ∧ iv' 46 1 = nI m9 ∧ iv' 46 2 = nI (ff P c9 * T ^ c9)) ∧ bOk (ff P c9 * T ^ c9) (bfs (fun m => bkf P T c9 (G9 m) (Ad m)) (fun m => if m9 = 0 then 1 else ordr P T (G9 m) (Ad m) - 1) mc9 (bs0 (num P T c9 pc9 (fun _ => 0))) (ff P c9 * T ^ c9)) ∧ bQ (bfs (fun m => bkf P T c9 (G9 m) (Ad m)) (fun m => if m9 = 0 then 1 else ordr P T (G9 m) (Ad m) - 1) mc9 (bs0 (num P T c9 pc9 (fun _ => 0))) (ff P c9 * T ^ c9)) ∧ tabAt iv' (ff P c9 * T ^ c9) (bfs (fun m => bkf P T c9 (G9 m) (Ad m)) (fun m => if m9 = 0 then 1 else ordr P T (G9 m) (Ad m) - 1) mc9 (bs0 (num P T c9 pc9 (fun _ => 0))) (ff P c9 * T ^ c9)) ∧ r = nI ((bfs (fun m => bkf P T c9 (G9 m) (Ad m)) (fun m => if m9 = 0 then 1 else ordr P T (G9 m) (Ad m) - 1) mc9 (bs0 (num P T c9 pc9 (fun _ => 0))) (ff P c9 * T ^ c9)).1 ((bfs (fun m => bkf P T c9 (G9 m) (Ad m)) (fun m => if m9 = 0 then 1 else ordr P T (G9 m) (Ad m) - 1) mc9 (bs0 (num P T c9 pc9 (fun _ => 0))) (ff P c9 * T ^ c9)).2.1 ((bfs (fun m => bkf P T c9 (G9 m) (Ad m)) (fun m => if m9 = 0 then 1 else ordr P T (G9 m) (Ad m) - 1) mc9 (bs0 (num P T c9 pc9 (fun _ => 0))) (ff P c9 * T ^ c9)).2.2 - 1))) - 1 ∧ (∀ p, p < P → vp_in (iv' 33 p) P) ∧ ∀ q, q ≠ 28 → q ≠ 33 → q ≠ 34 → q ≠ 39 → q ≠ 40 → q ≠ 41 → q ≠ 42 → q ≠ 43 → q ≠ 44 → q ≠ 45 → q ≠ 46 → q ≠ 47 → q ≠ 48 → iv' q = iv q) B.exec B.bytes B.returns B.notSynchronized hS hp hd)
