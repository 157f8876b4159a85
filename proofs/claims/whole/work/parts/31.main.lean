theorem inX6_orderOf_RX6 : ∀ {w : Cond}, w ∈ u_ws RX6 TX6 15 → w ∈ wsX6_orderOf := fun {w} h => by first | exact List.mem_cons_of_mem _ (List.mem_append_right _ h) | (revert h; revert w; show ∀ w ∈ u_ws RX6 TX6 15, w ∈ wsX6_orderOf; decide +kernel)
set_option maxHeartbeats 4000000 in
set_option maxRecDepth 100000 in
theorem bd_X6_orderOf {p : Program} {l : Launch} {e : Env} {R : Room} {s : State} {m : MethodId} {args : Array Value} {below : List Frame} {meth : Method} {c : Code} {H : Heap} {locs : List Loc} {cells slots : Nat} {Q : State → Prop} {ls : Array Slot} {D : va_G} {A : Nat → Prop} {H0 : Heap} {cA : Nat → ClassId} {o : Nat → Int64} {ad ln : Nat → Nat} {iv : Nat → Nat → Int32} {n : Nat} {v P T : Nat} {G9 Ad : Nat → Nat}
    (F : gF p s m meth c cX6_orderOf 3 RX6 wsX6_orderOf args (some .int)) (hRf : 2 ≤ R.frames) (hRl : 43 ≤ R.locals) (hRc : cells ≤ R.cells) (hRs : slots ≤ R.slots) (hK : va_K D vwCl (gT cA) s) (hN : NW s) (hA : ∀ q, H0.size ≤ q → A q) (hn : 68 ≤ n) (hln : ∀ k, ln k < 2 ^ 31) (hT1 : 0 < T) (hT3 : T ≤ 3) (hP : P ≤ 8) (h33 : ln 33 = P) (h34 : ln 34 = P) (hMv : isM v = true) (hP3 : ln (v + 1) = P) (hP4 : ln (v + 2) = P) (hmv : moveAt iv v P T G9 Ad)
    (hS : gS D cA A H0 o ad ln iv n H locs) (hl : lv_has ls 3 [(0, .ref (ad 0)), (1, .ref (ad v))])
    (kret : ∀ (r : Int32) (iv' : Nat → Nat → Int32) (H : Heap) (locs : List Loc) (ls : Array Slot) (pc : Nat), decode cX6_orderOf pc = .ok (.ireturn, 1) → (r = nI (ordr P T G9 Ad) ∧ (∀ p, p < P → vp_in (iv' 33 p) P) ∧ ∀ q, q ≠ 33 → q ≠ 34 → iv' q = iv q) → gS D cA A H0 o ad ln iv' n H locs → W p l e R s m args below meth c H locs cells slots Q (F0 m pc ls [.int r])) :
    W p l e R s m args below meth c H locs cells slots Q (F0 m 0 ls []) := by
  obtain ⟨hx, hb, hml, hown, hts, hr, hlocks⟩ := F
  have hv0 := isM_in hMv
  refine lv_aload_n hx hb dX6_orderOf_0 rfl (lv_at hl 0 rfl) ?_
  refine gx_get (ci := 9) (v := .ref (ad 32)) (C := RX6) (T := TX6) (N := 15) hx hb hts (fun _ h => inX6_orderOf_RX6 h) hown hK hS 0 (by omega) rfl rfl 8 (by decide) (hts (.fieldLink RX6 55 "CosetTables" "walker" "LCosetTables$State;") (by decide +kernel)) rfl dX6_orderOf_1 ?_
  refine gc_v (gx_runV (As := []) (rest := []) ⟨hx, hb, hml, hown, hts⟩ hK hN hS 32 (by omega) rfl rfl (ct_X3_goHome l D cA o ad ln n H.size iv (b := 32) hn hln (by decide)) (cwV 0 hts gX6_orderOf_X3_goHome rfl rfl rfl (by decide +kernel) ⟨gle hRf rfl, gle hRl rfl⟩) rfl rfl hl.1 rfl (lv_room (Nat.le_of_ble_eq_true rfl)) dX6_orderOf_4 ⟨hRc, hRs⟩) hS hA (fun iv1 H locs hp1 hS => ?_)
  have hw0 : walkAt iv1 32 P T 0 G9 Ad := by
    intro p hp
    constructor
    · show iv1 33 p = nI p
      rw [hp1, wr1_o (by decide), wr1_at, if_pos (by rw [show ln (32 + 1) = ln 33 from rfl]; omega)]
    · show iv1 34 p = nI 0
      rw [hp1, wr1_at, if_pos (by rw [show ln (32 + 2) = ln 34 from rfl]; omega)]; rfl
  refine lv_iconst (v := nI 1) hx hb dX6_orderOf_7 (by decide) ?_
  refine gx_as (y := nI (0 + 1)) rfl ?_
  refine lv_istore_n (lv' := [(2, .int (nI (0 + 1))), (0, .ref (ad 0)), (1, .ref (ad v))]) hx hb dX6_orderOf_8 rfl hl (by decide) rfl (fun ls hl => ?_)
  have L9 : ∀ (N : Nat) (i : Nat) (iv2 : Nat → Nat → Int32), 63 - i < N → (i ≤ 63) → (walkAt iv2 32 P T i G9 Ad) → (lst (hmB P T G9 Ad) (63 - i) (i + 1) = ordr P T G9 Ad) → (∀ q, q ≠ 33 → q ≠ 34 → iv2 q = iv q) → ∀ (H : Heap) (locs : List Loc) (ls : Array Slot), gS D cA A H0 o ad ln iv2 n H locs → lv_has ls 3 [(0, .ref (ad 0)), (1, .ref (ad v)), (2, .int (nI (i + 1)))] → W p l e R s m args below meth c H locs cells slots Q (F0 m 9 ls []) := by
    intro N
    induction N with
    | zero => intro i iv2 hm; exact absurd hm (Nat.not_lt_zero _)
    | succ N ih9 =>
      intro i iv2 hm hi h1 h2 h3 H locs ls hS hl
      refine lv_iload_n hx hb dX6_orderOf_9 rfl (lv_at hl 2 rfl) ?_
      refine lv_bipush (v := nI 64) hx hb dX6_orderOf_10 (by decide) ?_
      refine lv_icmp_ge (tgt := 41) hx hb dX6_orderOf_12 (by decide) (fun c_12 => ?_) (fun c_12 => ?_)
      · skip
        rw [nI_leI (by omega) (by omega)] at c_12
        have e0 : i = 63 := by omega
        subst e0
        refine lv_bipush (v := nI 64) hx hb dX6_orderOf_41 (by decide) ?_
        exact kret _ iv2 _ _ _ _ dX6_orderOf_43 (⟨by rw [← h2]; rfl, walk_in hP hmv h1, h3⟩) hS
      · skip
        rw [nI_leI (by omega) (by omega)] at c_12
        have e0 : 63 - i = (63 - (i + 1)) + 1 := by omega
        have hmv2 : moveAt iv2 v P T G9 Ad := by
          unfold moveAt
          rw [h3 v (by omega) (by omega), h3 (v + 1) (by omega) (by omega), h3 (v + 2) (by omega) (by omega)]
          exact hmv
        refine lv_aload_n hx hb dX6_orderOf_15 rfl (lv_at hl 0 rfl) ?_
        refine gx_get (ci := 9) (v := .ref (ad 32)) (C := RX6) (T := TX6) (N := 15) hx hb hts (fun _ h => inX6_orderOf_RX6 h) hown hK hS 0 (by omega) rfl rfl 8 (by decide) (hts (.fieldLink RX6 55 "CosetTables" "walker" "LCosetTables$State;") (by decide +kernel)) rfl dX6_orderOf_16 ?_
        refine lv_aload_n hx hb dX6_orderOf_19 rfl (lv_at hl 1 rfl) ?_
        refine gc_v (gx_runV (As := [.ref (ad v)]) (rest := []) ⟨hx, hb, hml, hown, hts⟩ hK hN hS 32 (by omega) rfl rfl (ct_X3_follow l D cA o ad ln n H.size iv2 (b := 32) (v := v) (P := P) hn hln (by decide) hMv h33 h34 hP3 hP4 hP (by rw [hmv2.1]; exact nI_ne0 hT1 (by omega)) (walk_in hP hmv2 h1)) (cwV 1 hts gX6_orderOf_X3_follow rfl rfl rfl (by decide +kernel) ⟨gle hRf rfl, gle hRl rfl⟩) rfl rfl hl.1 rfl (lv_room (Nat.le_of_ble_eq_true rfl)) dX6_orderOf_20 ⟨hRc, hRs⟩) hS hA (fun iv3 H locs hp3 hS => ?_)
        have hw3 := walk_s hT1 hT3 hP hmv2 h1 hp3
        refine lv_aload_n hx hb dX6_orderOf_23 rfl (lv_at hl 0 rfl) ?_
        refine gx_get (ci := 9) (v := .ref (ad 32)) (C := RX6) (T := TX6) (N := 15) hx hb hts (fun _ h => inX6_orderOf_RX6 h) hown hK hS 0 (by omega) rfl rfl 8 (by decide) (hts (.fieldLink RX6 55 "CosetTables" "walker" "LCosetTables$State;") (by decide +kernel)) rfl dX6_orderOf_24 ?_
        refine gc_i (gx_runV (As := []) (rest := []) ⟨hx, hb, hml, hown, hts⟩ hK hN hS 32 (by omega) rfl rfl (ct_X3_isHome l D cA o ad ln n H.size iv3 (b := 32) (P := P) hn hln (by decide) h33 h34 hP) (cwV 0 hts gX6_orderOf_X3_isHome rfl rfl rfl (by decide +kernel) ⟨gle hRf rfl, gle hRl rfl⟩) rfl rfl hl.1 rfl (lv_room (Nat.le_of_ble_eq_true rfl)) dX6_orderOf_27 ⟨hRc, hRs⟩) hS hA (fun y iv4 H locs hp4 hS => ?_)
        obtain ⟨hy01, hyi, ev4⟩ := hp4
        rw [ev4] at hS
        have hhm : y = 1 ↔ hmB P T G9 Ad (i + 1) = true := by
          rw [hyi, hmB_iff]
          constructor
          · intro h p hp
            obtain ⟨a1, a2⟩ := h p hp
            obtain ⟨b1, b2⟩ := hw3 p hp
            have c1 := itg_lt hmv2 (i + 1) hp
            have c2 := tws_lt (G := G9) (Ad := Ad) hT1 (i + 1) p
            rw [show iv3 (32 + 1) p = _ from b1, nI_eq (by omega) (by omega)] at a1
            rw [show iv3 (32 + 2) p = _ from b2, show (0 : Int32) = nI 0 from rfl, nI_eq (by omega) (by omega)] at a2
            exact ⟨a1, a2⟩
          · intro h p hp
            obtain ⟨a1, a2⟩ := h p hp
            obtain ⟨b1, b2⟩ := hw3 p hp
            exact ⟨by rw [show iv3 (32 + 1) p = _ from b1, a1], by rw [show iv3 (32 + 2) p = _ from b2, a2]; rfl⟩
        skip
        refine lv_if_eq (tgt := 35) hx hb dX6_orderOf_30 (by decide) (fun c_30 => ?_) (fun c_30 => ?_)
        · skip
          have hnh : ¬ hmB P T G9 Ad (i + 1) = true := fun q => by
            have := hhm.mpr q
            rw [c_30] at this
            exact absurd this (by decide)
          refine lv_iinc (v := nI ((i + 1) + 1)) (lv' := [(2, .int (nI ((i + 1) + 1))), (0, .ref (ad 0)), (1, .ref (ad v))]) hx hb dX6_orderOf_35 hl (k := 2) rfl (nI_1 (i + 1)) (by decide) rfl (fun ls hl => ?_)
          refine lv_goto (tgt := 9) hx hb dX6_orderOf_38 (by decide) ?_
          exact ih9 (i + 1) iv3 (by omega) (by omega) hw3 (by rw [← h2, e0, lst, if_neg hnh]) (fun q q1 q2 => by rw [hp3.2.2 q q1 q2, h3 q q1 q2]) _ _ _ hS (lv_sub hl [1, 2, 0] rfl)
        · skip
          have hyh : hmB P T G9 Ad (i + 1) = true := hhm.mp (hy01.resolve_left c_30)
          refine lv_iload_n hx hb dX6_orderOf_33 rfl (lv_at hl 2 rfl) ?_
          exact kret _ iv3 _ _ _ _ dX6_orderOf_34 (⟨by rw [← h2, e0, lst, if_pos hyh], walk_in hP hmv2 hw3, fun q q1 q2 => by rw [hp3.2.2 q q1 q2, h3 q q1 q2]⟩) hS
  exact L9 _ 0 iv1 (Nat.lt_succ_self _) (Nat.zero_le _) hw0 rfl (fun q q1 q2 => by rw [hp1, wr1_o q2, wr1_o q1]) _ _ _ hS (lv_sub hl [1, 2, 0] rfl)
set_option maxRecDepth 100000 in
theorem ct_X6_orderOf (l : Launch) (D : va_G) (cA : Nat → ClassId) (o : Nat → Int64) (ad ln : Nat → Nat) (n sz : Nat) (iv : Nat → Nat → Int32) (v P T : Nat) (G9 Ad : Nat → Nat) (hn : 68 ≤ n) (hln : ∀ k, ln k < 2 ^ 31) (hT1 : 0 < T) (hT3 : T ≤ 3) (hP : P ≤ 8) (h33 : ln 33 = P) (h34 : ln 34 = P) (hMv : isM v = true) (hP3 : ln (v + 1) = P) (hP4 : ln (v + 2) = P) (hmv : moveAt iv v P T G9 Ad) : gMi l yX6_orderOf wsX6_orderOf { frames := 2, cells := 0, slots := 0, locals := 43 } D cA o ad ln n sz iv [.ref (ad 0), .ref (ad v)] (fun (r : Int32) iv' => r = nI (ordr P T G9 Ad) ∧ (∀ p, p < P → vp_in (iv' 33 p) P) ∧ ∀ q, q ≠ 33 → q ≠ 34 → iv' q = iv q) := by
  refine Met.ofW (cc := cX6_orderOf) (maxL := 3) (ret := (some .int)) (by decide) rfl ?_
  intro p e s m args below meth c s₁ B hml hv__
  obtain ⟨rfl, hv__⟩ := hv__
  obtain ⟨hsz, hS, hK, hN, hA⟩ := gS.entry hv__
  have hl := lv_entry ([.ref (ad 0), .ref (ad v)]) (n := 3) (Nat.le_of_ble_eq_true rfl)
  rw [lg_entry_eq]
  generalize (lg_sl ([.ref (ad 0), .ref (ad v)]) ++ List.replicate (3 - (lg_sl ([.ref (ad 0), .ref (ad v)])).length) Slot.unset).toArray = ls at hl ⊢
  exact bd_X6_orderOf (v := v) (P := P) (T := T) (G9 := G9) (Ad := Ad) ⟨B.exec, B.bytes, hml, findClass_of_methodNamed B.named, atoms_spec (ws := wsX6_orderOf) B.pre, B.returns, B.notSynchronized⟩ (Nat.le_refl _) (Nat.le_refl _) (Nat.le_refl _) (Nat.le_refl _) hK hN hA hn hln hT1 hT3 hP h33 h34 hMv hP3 hP4 hmv hS hl (fun r iv' H locs ls pc hd hp hS => gx_iret B.exec B.bytes B.returns B.notSynchronized hS hp hd)

theorem inX6_mostRepeats_RX6 : ∀ {w : Cond}, w ∈ u_ws RX6 TX6 15 → w ∈ wsX6_mostRepeats := fun {w} h => by first | exact List.mem_cons_of_mem _ (List.mem_append_right _ h) | (revert h; revert w; show ∀ w ∈ u_ws RX6 TX6 15, w ∈ wsX6_mostRepeats; decide +kernel)
set_option maxHeartbeats 4000000 in
set_option maxRecDepth 100000 in
theorem bd_X6_mostRepeats {p : Program} {l : Launch} {e : Env} {R : Room} {s : State} {m : MethodId} {args : Array Value} {below : List Frame} {meth : Method} {c : Code} {H : Heap} {locs : List Loc} {cells slots : Nat} {Q : State → Prop} {ls : Array Slot} {D : va_G} {A : Nat → Prop} {H0 : Heap} {cA : Nat → ClassId} {o : Nat → Int64} {ad ln : Nat → Nat} {iv : Nat → Nat → Int32} {n : Nat} {j9 m9 P T : Nat} {G9 Ad : Nat → Nat}
    (F : gF p s m meth c cX6_mostRepeats 3 RX6 wsX6_mostRepeats args (some .int)) (hRf : 3 ≤ R.frames) (hRl : 65 ≤ R.locals) (hRc : cells ≤ R.cells) (hRs : slots ≤ R.slots) (hK : va_K D vwCl (gT cA) s) (hN : NW s) (hA : ∀ q, H0.size ≤ q → A q) (hn : 68 ≤ n) (hln : ∀ k, ln k < 2 ^ 31) (hT1 : 0 < T) (hT3 : T ≤ 3) (hP : P ≤ 8) (h33 : ln 33 = P) (h34 : ln 34 = P) (hj9 : j9 < 6) (hm9 : m9 < 2 ^ 31) (hP3 : ln (2 + 3 * j9 + 1) = P) (hP4 : ln (2 + 3 * j9 + 2) = P) (hmv : moveAt iv (2 + 3 * j9) P T G9 Ad) (hw9 : ∀ p, p < P → vp_in (iv 33 p) P)
    (hS : gS D cA A H0 o ad ln iv n H locs) (hl : lv_has ls 3 [(0, .ref (ad 0)), (1, .int (nI j9)), (2, .int (nI m9))])
    (kret : ∀ (r : Int32) (iv' : Nat → Nat → Int32) (H : Heap) (locs : List Loc) (ls : Array Slot) (pc : Nat), decode cX6_mostRepeats pc = .ok (.ireturn, 1) → (r = nI (if m9 = 0 then 1 else ordr P T G9 Ad - 1) ∧ (∀ p, p < P → vp_in (iv' 33 p) P) ∧ ∀ q, q ≠ 33 → q ≠ 34 → iv' q = iv q) → gS D cA A H0 o ad ln iv' n H locs → W p l e R s m args below meth c H locs cells slots Q (F0 m pc ls [.int r])) :
    W p l e R s m args below meth c H locs cells slots Q (F0 m 0 ls []) := by
  obtain ⟨hx, hb, hml, hown, hts, hr, hlocks⟩ := F
  refine lv_iload_n hx hb dX6_mostRepeats_0 rfl (lv_at hl 2 rfl) ?_
  refine lv_if_ne (tgt := 8) hx hb dX6_mostRepeats_1 (by decide) (fun c_1 => ?_) (fun c_1 => ?_)
  · skip
    rw [show (0 : Int32) = nI 0 from rfl] at c_1
    rw [nI_eq (by omega) (by omega)] at c_1
    refine lv_aload_n hx hb dX6_mostRepeats_8 rfl (lv_at hl 0 rfl) ?_
    refine lv_aload_n hx hb dX6_mostRepeats_9 rfl (lv_at hl 0 rfl) ?_
    refine gx_get (ci := 9) (v := .ref (ad 1)) (C := RX6) (T := TX6) (N := 15) hx hb hts (fun _ h => inX6_mostRepeats_RX6 h) hown hK hS 0 (by omega) rfl rfl 2 (by decide) (hts (.fieldLink RX6 27 "CosetTables" "moves" "[LCosetTables$Move;") (by decide +kernel)) rfl dX6_mostRepeats_10 ?_
    refine lv_iload_n hx hb dX6_mostRepeats_13 rfl (lv_at hl 1 rfl) ?_
    refine gx_ldmove hx hb hK hS (by omega) j9 (by omega) rfl dX6_mostRepeats_14 ?_
    refine gc_i (gx_runV (As := [.ref (ad (2 + 3 * j9))]) (rest := []) ⟨hx, hb, hml, hown, hts⟩ hK hN hS 0 (by omega) rfl rfl (ct_X6_orderOf l D cA o ad ln n H.size iv (v := 2 + 3 * j9) (P := P) (T := T) (G9 := G9) (Ad := Ad) hn hln hT1 hT3 hP h33 h34 (isM_mv hj9) hP3 hP4 hmv) (cwV 1 hts gX6_mostRepeats_X6_orderOf rfl rfl rfl (by decide +kernel) ⟨gle hRf rfl, gle hRl rfl⟩) rfl rfl hl.1 rfl (lv_room (Nat.le_of_ble_eq_true rfl)) dX6_mostRepeats_15 ⟨hRc, hRs⟩) hS hA (fun y iv1 H locs hp1 hS => ?_)
    obtain ⟨ey, hy1, hy2⟩ := hp1
    have hor := ordr_in P T G9 Ad
    refine gx_as (y := nI (ordr P T G9 Ad)) ey ?_
    refine lv_iconst (v := nI 1) hx hb dX6_mostRepeats_18 (by decide) ?_
    refine lv_isub hx hb dX6_mostRepeats_19 ?_
    refine gx_as (y := nI (ordr P T G9 Ad - 1)) (pk_sub hor.1) ?_
    exact kret _ iv1 _ _ _ _ dX6_mostRepeats_20 (⟨by rw [if_neg c_1], hy1, hy2⟩) hS
  · skip
    rw [show (0 : Int32) = nI 0 from rfl] at c_1
    rw [nI_eq (by omega) (by omega)] at c_1
    refine lv_iconst (v := nI 1) hx hb dX6_mostRepeats_4 (by decide) ?_
    refine lv_goto (tgt := 20) hx hb dX6_mostRepeats_5 (by decide) ?_
    exact kret _ iv _ _ _ _ dX6_mostRepeats_20 (⟨by rw [if_pos c_1], hw9, fun _ _ _ => rfl⟩) hS
set_option maxRecDepth 100000 in
theorem ct_X6_mostRepeats (l : Launch) (D : va_G) (cA : Nat → ClassId) (o : Nat → Int64) (ad ln : Nat → Nat) (n sz : Nat) (iv : Nat → Nat → Int32) (j9 m9 P T : Nat) (G9 Ad : Nat → Nat) (hn : 68 ≤ n) (hln : ∀ k, ln k < 2 ^ 31) (hT1 : 0 < T) (hT3 : T ≤ 3) (hP : P ≤ 8) (h33 : ln 33 = P) (h34 : ln 34 = P) (hj9 : j9 < 6) (hm9 : m9 < 2 ^ 31) (hP3 : ln (2 + 3 * j9 + 1) = P) (hP4 : ln (2 + 3 * j9 + 2) = P) (hmv : moveAt iv (2 + 3 * j9) P T G9 Ad) (hw9 : ∀ p, p < P → vp_in (iv 33 p) P) : gMi l yX6_mostRepeats wsX6_mostRepeats { frames := 3, cells := 0, slots := 0, locals := 65 } D cA o ad ln n sz iv [.ref (ad 0), .int (nI j9), .int (nI m9)] (fun (r : Int32) iv' => r = nI (if m9 = 0 then 1 else ordr P T G9 Ad - 1) ∧ (∀ p, p < P → vp_in (iv' 33 p) P) ∧ ∀ q, q ≠ 33 → q ≠ 34 → iv' q = iv q) := by
  refine Met.ofW (cc := cX6_mostRepeats) (maxL := 3) (ret := (some .int)) (by decide) rfl ?_
  intro p e s m args below meth c s₁ B hml hv__
  obtain ⟨rfl, hv__⟩ := hv__
  obtain ⟨hsz, hS, hK, hN, hA⟩ := gS.entry hv__
  have hl := lv_entry ([.ref (ad 0), .int (nI j9), .int (nI m9)]) (n := 3) (Nat.le_of_ble_eq_true rfl)
  rw [lg_entry_eq]
  generalize (lg_sl ([.ref (ad 0), .int (nI j9), .int (nI m9)]) ++ List.replicate (3 - (lg_sl ([.ref (ad 0), .int (nI j9), .int (nI m9)])).length) Slot.unset).toArray = ls at hl ⊢
  exact bd_X6_mostRepeats (j9 := j9) (m9 := m9) (P := P) (T := T) (G9 := G9) (Ad := Ad) ⟨B.exec, B.bytes, hml, findClass_of_methodNamed B.named, atoms_spec (ws := wsX6_mostRepeats) B.pre, B.returns, B.notSynchronized⟩ (Nat.le_refl _) (Nat.le_refl _) (Nat.le_refl _) (Nat.le_refl _) hK hN hA hn hln hT1 hT3 hP h33 h34 hj9 hm9 hP3 hP4 hmv hw9 hS hl (fun r iv' H locs ls pc hd hp hS => gx_iret B.exec B.bytes B.returns B.notSynchronized hS hp hd)

theorem inX6_movesChanged_RX6 : ∀ {w : Cond}, w ∈ u_ws RX6 TX6 15 → w ∈ wsX6_movesChanged := fun {w} h => by first | exact List.mem_cons_of_mem _ (List.mem_append_right _ h) | (revert h; revert w; show ∀ w ∈ u_ws RX6 TX6 15, w ∈ wsX6_movesChanged; decide +kernel)
set_option maxHeartbeats 4000000 in
set_option maxRecDepth 100000 in
theorem bd_X6_movesChanged {p : Program} {l : Launch} {e : Env} {R : Room} {s : State} {m : MethodId} {args : Array Value} {below : List Frame} {meth : Method} {c : Code} {H : Heap} {locs : List Loc} {cells slots : Nat} {Q : State → Prop} {ls : Array Slot} {D : va_G} {A : Nat → Prop} {H0 : Heap} {cA : Nat → ClassId} {o : Nat → Int64} {ad ln : Nat → Nat} {iv : Nat → Nat → Int32} {n : Nat} 
    (F : gF p s m meth c cX6_movesChanged 1 RX6 wsX6_movesChanged args none) (hRf : 1 ≤ R.frames) (hRl : 20 ≤ R.locals) (hRc : cells ≤ R.cells) (hRs : slots ≤ R.slots) (hK : va_K D vwCl (gT cA) s) (hN : NW s) (hA : ∀ q, H0.size ≤ q → A q) (hn : 68 ≤ n) (hln : ∀ k, ln k < 2 ^ 31) 
    (hS : gS D cA A H0 o ad ln iv n H locs) (hl : lv_has ls 1 [(0, .ref (ad 0))])
    (kret : ∀ (iv' : Nat → Nat → Int32) (H : Heap) (locs : List Loc) (ls : Array Slot) (pc : Nat), decode cX6_movesChanged pc = .ok (.return_, 1) → (iv' = up2 (up2 iv 46 0 0) 49 0 0) → gS D cA A H0 o ad ln iv' n H locs → W p l e R s m args below meth c H locs cells slots Q (F0 m pc ls [])) :
    W p l e R s m args below meth c H locs cells slots Q (F0 m 0 ls []) := by
  obtain ⟨hx, hb, hml, hown, hts, hr, hlocks⟩ := F
  refine lv_aload_n hx hb dX6_movesChanged_0 rfl (lv_at hl 0 rfl) ?_
  refine gx_get (ci := 9) (v := .ref (ad 46)) (C := RX6) (T := TX6) (N := 15) hx hb hts (fun _ h => inX6_movesChanged_RX6 h) hown hK hS 0 (by omega) rfl rfl 13 (by decide) (hts (.fieldLink RX6 79 "CosetTables" "table" "LCosetTables$Table;") (by decide +kernel)) rfl dX6_movesChanged_1 ?_
  refine gc_v (gx_runV (As := []) (rest := []) ⟨hx, hb, hml, hown, hts⟩ hK hN hS 46 (by omega) rfl rfl (ct_X5_drop l D cA o ad ln n H.size iv hn hln) (cwV 0 hts gX6_movesChanged_X5_drop rfl rfl rfl (by decide +kernel) ⟨gle hRf rfl, gle hRl rfl⟩) rfl rfl hl.1 rfl (lv_room (Nat.le_of_ble_eq_true rfl)) dX6_movesChanged_4 ⟨hRc, hRs⟩) hS hA (fun iv1 H locs hp1 hS => ?_)
  refine lv_aload_n hx hb dX6_movesChanged_7 rfl (lv_at hl 0 rfl) ?_
  refine gx_get (ci := 9) (v := .ref (ad 49)) (C := RX6) (T := TX6) (N := 15) hx hb hts (fun _ h => inX6_movesChanged_RX6 h) hown hK hS 0 (by omega) rfl rfl 14 (by decide) (hts (.fieldLink RX6 86 "CosetTables" "orbits" "LCosetTables$Orbits;") (by decide +kernel)) rfl dX6_movesChanged_8 ?_
  refine gc_v (gx_runV (As := []) (rest := []) ⟨hx, hb, hml, hown, hts⟩ hK hN hS 49 (by omega) rfl rfl (ct_X2_forget l D cA o ad ln n H.size iv1 hn hln) (cwV 0 hts gX6_movesChanged_X2_forget rfl rfl rfl (by decide +kernel) ⟨gle hRf rfl, gle hRl rfl⟩) rfl rfl hl.1 rfl (lv_room (Nat.le_of_ble_eq_true rfl)) dX6_movesChanged_11 ⟨hRc, hRs⟩) hS hA (fun iv2 H locs hp2 hS => ?_)
  exact kret iv2 _ _ _ _ dX6_movesChanged_14 (by rw [hp2, hp1]) hS
set_option maxRecDepth 100000 in
theorem ct_X6_movesChanged (l : Launch) (D : va_G) (cA : Nat → ClassId) (o : Nat → Int64) (ad ln : Nat → Nat) (n sz : Nat) (iv : Nat → Nat → Int32)  (hn : 68 ≤ n) (hln : ∀ k, ln k < 2 ^ 31)  : gMv l yX6_movesChanged wsX6_movesChanged { frames := 1, cells := 0, slots := 0, locals := 20 } D cA o ad ln n sz iv [.ref (ad 0)] (fun iv' => iv' = up2 (up2 iv 46 0 0) 49 0 0) := by
  refine Met.ofW (cc := cX6_movesChanged) (maxL := 1) (ret := none) (by decide) rfl ?_
  intro p e s m args below meth c s₁ B hml hv__
  obtain ⟨rfl, hv__⟩ := hv__
  obtain ⟨hsz, hS, hK, hN, hA⟩ := gS.entry hv__
  have hl := lv_entry ([.ref (ad 0)]) (n := 1) (Nat.le_of_ble_eq_true rfl)
  rw [lg_entry_eq]
  generalize (lg_sl ([.ref (ad 0)]) ++ List.replicate (1 - (lg_sl ([.ref (ad 0)])).length) Slot.unset).toArray = ls at hl ⊢
  exact bd_X6_movesChanged  ⟨B.exec, B.bytes, hml, findClass_of_methodNamed B.named, atoms_spec (ws := wsX6_movesChanged) B.pre, B.returns, B.notSynchronized⟩ (Nat.le_refl _) (Nat.le_refl _) (Nat.le_refl _) (Nat.le_refl _) hK hN hA hn hln  hS hl (fun iv' H locs ls pc hd hp hS => gx_vret B.exec B.bytes B.returns B.notSynchronized hS hp hd)

theorem inX6_move_RX6 : ∀ {w : Cond}, w ∈ u_ws RX6 TX6 15 → w ∈ wsX6_move := fun {w} h => by first | exact List.mem_cons_of_mem _ (List.mem_append_right _ h) | (revert h; revert w; show ∀ w ∈ u_ws RX6 TX6 15, w ∈ wsX6_move; decide +kernel)
set_option maxHeartbeats 4000000 in
set_option maxRecDepth 100000 in
theorem bd_X6_move {p : Program} {l : Launch} {e : Env} {R : Room} {s : State} {m : MethodId} {args : Array Value} {below : List Frame} {meth : Method} {c : Code} {H : Heap} {locs : List Loc} {cells slots : Nat} {Q : State → Prop} {ls : Array Slot} {D : va_G} {A : Nat → Prop} {H0 : Heap} {cA : Nat → ClassId} {o : Nat → Int64} {ad ln : Nat → Nat} {iv : Nat → Nat → Int32} {n : Nat} {c9 : Nat}
    (F : gF p s m meth c cX6_move 1 RX6 wsX6_move args (some .int)) (hRf : 2 ≤ R.frames) (hRl : 40 ≤ R.locals) (hRc : cells ≤ R.cells) (hRs : slots ≤ R.slots) (hK : va_K D vwCl (gT cA) s) (hN : NW s) (hA : ∀ q, H0.size ≤ q → A q) (hn : 68 ≤ n) (hln : ∀ k, ln k < 2 ^ 31) (hc9 : iv 0 3 = nI c9) (hc6 : c9 ≤ 6)
    (hS : gS D cA A H0 o ad ln iv n H locs) (hl : lv_has ls 1 [(0, .ref (ad 0))])
    (kret : ∀ (r : Int32) (iv' : Nat → Nat → Int32) (H : Heap) (locs : List Loc) (ls : Array Slot) (pc : Nat), decode cX6_move pc = .ok (.ireturn, 1) → ((if c9 = 6 then r = -1 ∧ iv' = iv else r = nI c9 ∧ iv' = up2 (up2 (up2 iv 46 0 0) 49 0 0) 0 3 (nI (c9 + 1)))) → gS D cA A H0 o ad ln iv' n H locs → W p l e R s m args below meth c H locs cells slots Q (F0 m pc ls [.int r])) :
    W p l e R s m args below meth c H locs cells slots Q (F0 m 0 ls []) := by
  obtain ⟨hx, hb, hml, hown, hts, hr, hlocks⟩ := F
  refine lv_aload_n hx hb dX6_move_0 rfl (lv_at hl 0 rfl) ?_
  refine gx_get (ci := 9) (v := .int (iv 0 3)) (C := RX6) (T := TX6) (N := 15) hx hb hts (fun _ h => inX6_move_RX6 h) hown hK hS 0 (by omega) rfl rfl 3 (by decide) (hts (.fieldLink RX6 90 "CosetTables" "moveCount" "I") (by decide +kernel)) rfl dX6_move_1 ?_
  refine gx_as (y := nI c9) hc9 ?_
  refine lv_bipush (v := nI 6) hx hb dX6_move_4 (by decide) ?_
  refine lv_icmp_lt (tgt := 11) hx hb dX6_move_6 (by decide) (fun c_6 => ?_) (fun c_6 => ?_)
  · skip
    rw [nI_ltI (by omega) (by omega)] at c_6
    refine lv_aload_n hx hb dX6_move_11 rfl (lv_at hl 0 rfl) ?_
    refine gc_v (gx_runV (As := []) (rest := []) ⟨hx, hb, hml, hown, hts⟩ hK hN hS 0 (by omega) rfl rfl (ct_X6_movesChanged l D cA o ad ln n H.size iv hn hln) (cwV 0 hts gX6_move_X6_movesChanged rfl rfl rfl (by decide +kernel) ⟨gle hRf rfl, gle hRl rfl⟩) rfl rfl hl.1 rfl (lv_room (Nat.le_of_ble_eq_true rfl)) dX6_move_12 ⟨hRc, hRs⟩) hS hA (fun iv1 H locs hp1 hS => ?_)
    refine lv_aload_n hx hb dX6_move_15 rfl (lv_at hl 0 rfl) ?_
    refine lv_dup hx hb dX6_move_16 rfl ?_
    refine gx_get (ci := 9) (v := .int (iv1 0 3)) (C := RX6) (T := TX6) (N := 15) hx hb hts (fun _ h => inX6_move_RX6 h) hown hK hS 0 (by omega) rfl rfl 3 (by decide) (hts (.fieldLink RX6 90 "CosetTables" "moveCount" "I") (by decide +kernel)) rfl dX6_move_17 ?_
    refine gx_as (y := nI c9) (by rw [hp1, up2_row (by decide), up2_row (by decide)]; exact hc9) ?_
    refine lv_dup_x1 hx hb dX6_move_20 rfl rfl ?_
    refine lv_iconst (v := nI 1) hx hb dX6_move_21 (by decide) ?_
    refine lv_iadd hx hb dX6_move_22 ?_
    refine gx_as (y := nI (c9 + 1)) (nI_add _ _) ?_
    refine gx_put (ci := 9) (x := nI (c9 + 1)) (ty := .int) (C := RX6) (T := TX6) (N := 15) hx hb hts (fun _ h => inX6_move_RX6 h) tyX6 tyX6_ok nmX6 hown hK hS 0 (by omega) rfl rfl 3 (by decide) (hts (.fieldLink RX6 90 "CosetTables" "moveCount" "I") (by decide +kernel)) rfl (by decide +kernel) rfl rfl (Nat.le_of_ble_eq_true rfl) rfl dX6_move_23 (fun H locs hS => ?_)
    obtain ⟨iv2, eiv2⟩ : ∃ z, z = up2 iv1 0 3 (nI (c9 + 1)) := ⟨_, rfl⟩
    rw [← eiv2] at hS
    exact kret _ iv2 _ _ _ _ dX6_move_26 (by rw [if_neg (show ¬ c9 = 6 by omega)]; exact ⟨rfl, by rw [eiv2, hp1]⟩) hS
  · skip
    rw [nI_ltI (by omega) (by omega)] at c_6
    refine lv_iconst (v := (-1)) hx hb dX6_move_9 (by decide) ?_
    exact kret _ iv _ _ _ _ dX6_move_10 (by rw [if_pos (show c9 = 6 by omega)]; exact ⟨rfl, rfl⟩) hS
set_option maxRecDepth 100000 in
theorem ct_X6_move (l : Launch) (D : va_G) (cA : Nat → ClassId) (o : Nat → Int64) (ad ln : Nat → Nat) (n sz : Nat) (iv : Nat → Nat → Int32) (c9 : Nat) (hn : 68 ≤ n) (hln : ∀ k, ln k < 2 ^ 31) (hc9 : iv 0 3 = nI c9) (hc6 : c9 ≤ 6) : gMi l yX6_move wsX6_move { frames := 2, cells := 0, slots := 0, locals := 40 } D cA o ad ln n sz iv [.ref (ad 0)] (fun (r : Int32) iv' => (if c9 = 6 then r = -1 ∧ iv' = iv else r = nI c9 ∧ iv' = up2 (up2 (up2 iv 46 0 0) 49 0 0) 0 3 (nI (c9 + 1)))) := by
  refine Met.ofW (cc := cX6_move) (maxL := 1) (ret := (some .int)) (by decide) rfl ?_
  intro p e s m args below meth c s₁ B hml hv__
  obtain ⟨rfl, hv__⟩ := hv__
  obtain ⟨hsz, hS, hK, hN, hA⟩ := gS.entry hv__
  have hl := lv_entry ([.ref (ad 0)]) (n := 1) (Nat.le_of_ble_eq_true rfl)
  rw [lg_entry_eq]
  generalize (lg_sl ([.ref (ad 0)]) ++ List.replicate (1 - (lg_sl ([.ref (ad 0)])).length) Slot.unset).toArray = ls at hl ⊢
  exact bd_X6_move (c9 := c9) ⟨B.exec, B.bytes, hml, findClass_of_methodNamed B.named, atoms_spec (ws := wsX6_move) B.pre, B.returns, B.notSynchronized⟩ (Nat.le_refl _) (Nat.le_refl _) (Nat.le_refl _) (Nat.le_refl _) hK hN hA hn hln hc9 hc6 hS hl (fun r iv' H locs ls pc hd hp hS => gx_iret B.exec B.bytes B.returns B.notSynchronized hS hp hd)

theorem inX6_symmetry_RX6 : ∀ {w : Cond}, w ∈ u_ws RX6 TX6 15 → w ∈ wsX6_symmetry := fun {w} h => by first | exact List.mem_cons_of_mem _ (List.mem_append_right _ h) | (revert h; revert w; show ∀ w ∈ u_ws RX6 TX6 15, w ∈ wsX6_symmetry; decide +kernel)
set_option maxHeartbeats 4000000 in
set_option maxRecDepth 100000 in
theorem bd_X6_symmetry {p : Program} {l : Launch} {e : Env} {R : Room} {s : State} {m : MethodId} {args : Array Value} {below : List Frame} {meth : Method} {c : Code} {H : Heap} {locs : List Loc} {cells slots : Nat} {Q : State → Prop} {ls : Array Slot} {D : va_G} {A : Nat → Prop} {H0 : Heap} {cA : Nat → ClassId} {o : Nat → Int64} {ad ln : Nat → Nat} {iv : Nat → Nat → Int32} {n : Nat} {c9 : Nat}
    (F : gF p s m meth c cX6_symmetry 1 RX6 wsX6_symmetry args (some .int)) (hRf : 1 ≤ R.frames) (hRl : 21 ≤ R.locals) (hRc : cells ≤ R.cells) (hRs : slots ≤ R.slots) (hK : va_K D vwCl (gT cA) s) (hN : NW s) (hA : ∀ q, H0.size ≤ q → A q) (hn : 68 ≤ n) (hln : ∀ k, ln k < 2 ^ 31) (hc9 : iv 0 5 = nI c9) (hc6 : c9 ≤ 4)
    (hS : gS D cA A H0 o ad ln iv n H locs) (hl : lv_has ls 1 [(0, .ref (ad 0))])
    (kret : ∀ (r : Int32) (iv' : Nat → Nat → Int32) (H : Heap) (locs : List Loc) (ls : Array Slot) (pc : Nat), decode cX6_symmetry pc = .ok (.ireturn, 1) → ((if c9 = 4 then r = -1 ∧ iv' = iv else r = nI c9 ∧ iv' = up2 (up2 (wr1 iv (21 + c9) (fun j => nI j) (ln (21 + c9))) 49 0 0) 0 5 (nI (c9 + 1)))) → gS D cA A H0 o ad ln iv' n H locs → W p l e R s m args below meth c H locs cells slots Q (F0 m pc ls [.int r])) :
    W p l e R s m args below meth c H locs cells slots Q (F0 m 0 ls []) := by
  obtain ⟨hx, hb, hml, hown, hts, hr, hlocks⟩ := F
  refine lv_aload_n hx hb dX6_symmetry_0 rfl (lv_at hl 0 rfl) ?_
  refine gx_get (ci := 9) (v := .int (iv 0 5)) (C := RX6) (T := TX6) (N := 15) hx hb hts (fun _ h => inX6_symmetry_RX6 h) hown hK hS 0 (by omega) rfl rfl 5 (by decide) (hts (.fieldLink RX6 200 "CosetTables" "symmetryCount" "I") (by decide +kernel)) rfl dX6_symmetry_1 ?_
  refine gx_as (y := nI c9) hc9 ?_
  refine lv_iconst (v := nI 4) hx hb dX6_symmetry_4 (by decide) ?_
  refine lv_icmp_lt (tgt := 10) hx hb dX6_symmetry_5 (by decide) (fun c_5 => ?_) (fun c_5 => ?_)
  · skip
    rw [nI_ltI (by omega) (by omega)] at c_5
    refine lv_aload_n hx hb dX6_symmetry_10 rfl (lv_at hl 0 rfl) ?_
    refine gx_get (ci := 9) (v := .ref (ad 20)) (C := RX6) (T := TX6) (N := 15) hx hb hts (fun _ h => inX6_symmetry_RX6 h) hown hK hS 0 (by omega) rfl rfl 4 (by decide) (hts (.fieldLink RX6 36 "CosetTables" "symmetries" "[[I") (by decide +kernel)) rfl dX6_symmetry_11 ?_
    refine lv_aload_n hx hb dX6_symmetry_14 rfl (lv_at hl 0 rfl) ?_
    refine gx_get (ci := 9) (v := .int (iv 0 5)) (C := RX6) (T := TX6) (N := 15) hx hb hts (fun _ h => inX6_symmetry_RX6 h) hown hK hS 0 (by omega) rfl rfl 5 (by decide) (hts (.fieldLink RX6 200 "CosetTables" "symmetryCount" "I") (by decide +kernel)) rfl dX6_symmetry_15 ?_
    refine gx_as (y := nI c9) hc9 ?_
    refine gx_ldsym hx hb hK hS (by omega) c9 (by omega) rfl dX6_symmetry_18 ?_
    refine gc_v (gx_runS (As := [.ref (ad (21 + c9))]) (rest := []) ⟨hx, hb, hml, hown, hts⟩ hK hN hS (ct_X6_leaveAll l D cA o ad ln n H.size iv (k := 21 + c9) trivial hln (by omega) (isI_sy (by omega))) (va_cwS 1 hts gX6_symmetry_X6_leaveAll rfl rfl rfl (by decide +kernel) ⟨gle hRf rfl, gle hRl rfl⟩) rfl rfl hl.1 rfl (lv_room (Nat.le_of_ble_eq_true rfl)) dX6_symmetry_19 ⟨hRc, hRs⟩) hS hA (fun iv1 H locs hp1 hS => ?_)
    refine lv_aload_n hx hb dX6_symmetry_22 rfl (lv_at hl 0 rfl) ?_
    refine gx_get (ci := 9) (v := .ref (ad 49)) (C := RX6) (T := TX6) (N := 15) hx hb hts (fun _ h => inX6_symmetry_RX6 h) hown hK hS 0 (by omega) rfl rfl 14 (by decide) (hts (.fieldLink RX6 86 "CosetTables" "orbits" "LCosetTables$Orbits;") (by decide +kernel)) rfl dX6_symmetry_23 ?_
    refine gc_v (gx_runV (As := []) (rest := []) ⟨hx, hb, hml, hown, hts⟩ hK hN hS 49 (by omega) rfl rfl (ct_X2_forget l D cA o ad ln n H.size iv1 hn hln) (cwV 0 hts gX6_symmetry_X2_forget rfl rfl rfl (by decide +kernel) ⟨gle hRf rfl, gle hRl rfl⟩) rfl rfl hl.1 rfl (lv_room (Nat.le_of_ble_eq_true rfl)) dX6_symmetry_26 ⟨hRc, hRs⟩) hS hA (fun iv2 H locs hp2 hS => ?_)
    refine lv_aload_n hx hb dX6_symmetry_29 rfl (lv_at hl 0 rfl) ?_
    refine lv_dup hx hb dX6_symmetry_30 rfl ?_
    refine gx_get (ci := 9) (v := .int (iv2 0 5)) (C := RX6) (T := TX6) (N := 15) hx hb hts (fun _ h => inX6_symmetry_RX6 h) hown hK hS 0 (by omega) rfl rfl 5 (by decide) (hts (.fieldLink RX6 200 "CosetTables" "symmetryCount" "I") (by decide +kernel)) rfl dX6_symmetry_31 ?_
    refine gx_as (y := nI c9) (by rw [hp2, up2_row (by decide), hp1, wr1_o (by omega)]; exact hc9) ?_
    refine lv_dup_x1 hx hb dX6_symmetry_34 rfl rfl ?_
    refine lv_iconst (v := nI 1) hx hb dX6_symmetry_35 (by decide) ?_
    refine lv_iadd hx hb dX6_symmetry_36 ?_
    refine gx_as (y := nI (c9 + 1)) (nI_add _ _) ?_
    refine gx_put (ci := 9) (x := nI (c9 + 1)) (ty := .int) (C := RX6) (T := TX6) (N := 15) hx hb hts (fun _ h => inX6_symmetry_RX6 h) tyX6 tyX6_ok nmX6 hown hK hS 0 (by omega) rfl rfl 5 (by decide) (hts (.fieldLink RX6 200 "CosetTables" "symmetryCount" "I") (by decide +kernel)) rfl (by decide +kernel) rfl rfl (Nat.le_of_ble_eq_true rfl) rfl dX6_symmetry_37 (fun H locs hS => ?_)
    obtain ⟨iv3, eiv3⟩ : ∃ z, z = up2 iv2 0 5 (nI (c9 + 1)) := ⟨_, rfl⟩
    rw [← eiv3] at hS
    exact kret _ iv3 _ _ _ _ dX6_symmetry_40 (by rw [if_neg (show ¬ c9 = 4 by omega)]; exact ⟨rfl, by rw [eiv3, hp2, hp1]⟩) hS
  · skip
    rw [nI_ltI (by omega) (by omega)] at c_5
    refine lv_iconst (v := (-1)) hx hb dX6_symmetry_8 (by decide) ?_
    exact kret _ iv _ _ _ _ dX6_symmetry_9 (by rw [if_pos (show c9 = 4 by omega)]; exact ⟨rfl, rfl⟩) hS
set_option maxRecDepth 100000 in
theorem ct_X6_symmetry (l : Launch) (D : va_G) (cA : Nat → ClassId) (o : Nat → Int64) (ad ln : Nat → Nat) (n sz : Nat) (iv : Nat → Nat → Int32) (c9 : Nat) (hn : 68 ≤ n) (hln : ∀ k, ln k < 2 ^ 31) (hc9 : iv 0 5 = nI c9) (hc6 : c9 ≤ 4) : gMi l yX6_symmetry wsX6_symmetry { frames := 1, cells := 0, slots := 0, locals := 21 } D cA o ad ln n sz iv [.ref (ad 0)] (fun (r : Int32) iv' => (if c9 = 4 then r = -1 ∧ iv' = iv else r = nI c9 ∧ iv' = up2 (up2 (wr1 iv (21 + c9) (fun j => nI j) (ln (21 + c9))) 49 0 0) 0 5 (nI (c9 + 1)))) := by
  refine Met.ofW (cc := cX6_symmetry) (maxL := 1) (ret := (some .int)) (by decide) rfl ?_
  intro p e s m args below meth c s₁ B hml hv__
  obtain ⟨rfl, hv__⟩ := hv__
  obtain ⟨hsz, hS, hK, hN, hA⟩ := gS.entry hv__
  have hl := lv_entry ([.ref (ad 0)]) (n := 1) (Nat.le_of_ble_eq_true rfl)
  rw [lg_entry_eq]
  generalize (lg_sl ([.ref (ad 0)]) ++ List.replicate (1 - (lg_sl ([.ref (ad 0)])).length) Slot.unset).toArray = ls at hl ⊢
  exact bd_X6_symmetry (c9 := c9) ⟨B.exec, B.bytes, hml, findClass_of_methodNamed B.named, atoms_spec (ws := wsX6_symmetry) B.pre, B.returns, B.notSynchronized⟩ (Nat.le_refl _) (Nat.le_refl _) (Nat.le_refl _) (Nat.le_refl _) hK hN hA hn hln hc9 hc6 hS hl (fun r iv' H locs ls pc hd hp hS => gx_iret B.exec B.bytes B.returns B.notSynchronized hS hp hd)

theorem inX6_size_RX6 : ∀ {w : Cond}, w ∈ u_ws RX6 TX6 15 → w ∈ wsX6_size := fun {w} h => by first | exact List.mem_cons_of_mem _ (List.mem_append_right _ h) | (revert h; revert w; show ∀ w ∈ u_ws RX6 TX6 15, w ∈ wsX6_size; decide +kernel)
set_option maxHeartbeats 4000000 in
set_option maxRecDepth 100000 in
theorem bd_X6_size {p : Program} {l : Launch} {e : Env} {R : Room} {s : State} {m : MethodId} {args : Array Value} {below : List Frame} {meth : Method} {c : Code} {H : Heap} {locs : List Loc} {cells slots : Nat} {Q : State → Prop} {ls : Array Slot} {D : va_G} {A : Nat → Prop} {H0 : Heap} {cA : Nat → ClassId} {o : Nat → Int64} {ad ln : Nat → Nat} {iv : Nat → Nat → Int32} {n : Nat} 
    (F : gF p s m meth c cX6_size 1 RX6 wsX6_size args (some .int)) (hRf : 1 ≤ R.frames) (hRl : 20 ≤ R.locals) (hRc : cells ≤ R.cells) (hRs : slots ≤ R.slots) (hK : va_K D vwCl (gT cA) s) (hN : NW s) (hA : ∀ q, H0.size ≤ q → A q) (hn : 68 ≤ n) (hln : ∀ k, ln k < 2 ^ 31) 
    (hS : gS D cA A H0 o ad ln iv n H locs) (hl : lv_has ls 1 [(0, .ref (ad 0))])
    (kret : ∀ (r : Int32) (iv' : Nat → Nat → Int32) (H : Heap) (locs : List Loc) (ls : Array Slot) (pc : Nat), decode cX6_size pc = .ok (.ireturn, 1) → (r = iv 25 6 * iv 25 7 ∧ iv' = iv) → gS D cA A H0 o ad ln iv' n H locs → W p l e R s m args below meth c H locs cells slots Q (F0 m pc ls [.int r])) :
    W p l e R s m args below meth c H locs cells slots Q (F0 m 0 ls []) := by
  obtain ⟨hx, hb, hml, hown, hts, hr, hlocks⟩ := F
  refine lv_aload_n hx hb dX6_size_0 rfl (lv_at hl 0 rfl) ?_
  refine gx_get (ci := 9) (v := .ref (ad 25)) (C := RX6) (T := TX6) (N := 15) hx hb hts (fun _ h => inX6_size_RX6 h) hown hK hS 0 (by omega) rfl rfl 6 (by decide) (hts (.fieldLink RX6 42 "CosetTables" "numbering" "LCosetTables$Numbering;") (by decide +kernel)) rfl dX6_size_1 ?_
  refine gc_i (gx_runV (As := []) (rest := []) ⟨hx, hb, hml, hown, hts⟩ hK hN hS 25 (by omega) rfl rfl (ct_X1_stateCount l D cA o ad ln n H.size iv hn hln) (cwV 0 hts gX6_size_X1_stateCount rfl rfl rfl (by decide +kernel) ⟨gle hRf rfl, gle hRl rfl⟩) rfl rfl hl.1 rfl (lv_room (Nat.le_of_ble_eq_true rfl)) dX6_size_4 ⟨hRc, hRs⟩) hS hA (fun y iv1 H locs hp1 hS => ?_)
  exact kret _ iv1 _ _ _ _ dX6_size_7 (hp1) hS
set_option maxRecDepth 100000 in
theorem ct_X6_size (l : Launch) (D : va_G) (cA : Nat → ClassId) (o : Nat → Int64) (ad ln : Nat → Nat) (n sz : Nat) (iv : Nat → Nat → Int32)  (hn : 68 ≤ n) (hln : ∀ k, ln k < 2 ^ 31)  : gMi l yX6_size wsX6_size { frames := 1, cells := 0, slots := 0, locals := 20 } D cA o ad ln n sz iv [.ref (ad 0)] (fun (r : Int32) iv' => r = iv 25 6 * iv 25 7 ∧ iv' = iv) := by
  refine Met.ofW (cc := cX6_size) (maxL := 1) (ret := (some .int)) (by decide) rfl ?_
  intro p e s m args below meth c s₁ B hml hv__
  obtain ⟨rfl, hv__⟩ := hv__
  obtain ⟨hsz, hS, hK, hN, hA⟩ := gS.entry hv__
  have hl := lv_entry ([.ref (ad 0)]) (n := 1) (Nat.le_of_ble_eq_true rfl)
  rw [lg_entry_eq]
  generalize (lg_sl ([.ref (ad 0)]) ++ List.replicate (1 - (lg_sl ([.ref (ad 0)])).length) Slot.unset).toArray = ls at hl ⊢
  exact bd_X6_size  ⟨B.exec, B.bytes, hml, findClass_of_methodNamed B.named, atoms_spec (ws := wsX6_size) B.pre, B.returns, B.notSynchronized⟩ (Nat.le_refl _) (Nat.le_refl _) (Nat.le_refl _) (Nat.le_refl _) hK hN hA hn hln  hS hl (fun r iv' H locs ls pc hd hp hS => gx_iret B.exec B.bytes B.returns B.notSynchronized hS hp hd)

theorem inX6_headerByte_RX1 : ∀ {w : Cond}, w ∈ u_ws RX1 TX1 8 → w ∈ wsX6_headerByte := fun {w} h => by first | exact List.mem_cons_of_mem _ (List.mem_append_right _ h) | (revert h; revert w; show ∀ w ∈ u_ws RX1 TX1 8, w ∈ wsX6_headerByte; decide +kernel)
theorem inX6_headerByte_RX5 : ∀ {w : Cond}, w ∈ u_ws RX5 TX5 6 → w ∈ wsX6_headerByte := fun {w} h => by first | exact List.mem_cons_of_mem _ (List.mem_append_right _ h) | (revert h; revert w; show ∀ w ∈ u_ws RX5 TX5 6, w ∈ wsX6_headerByte; decide +kernel)
theorem inX6_headerByte_RX6 : ∀ {w : Cond}, w ∈ u_ws RX6 TX6 15 → w ∈ wsX6_headerByte := fun {w} h => by first | exact List.mem_cons_of_mem _ (List.mem_append_right _ h) | (revert h; revert w; show ∀ w ∈ u_ws RX6 TX6 15, w ∈ wsX6_headerByte; decide +kernel)
set_option maxHeartbeats 4000000 in
set_option maxRecDepth 100000 in
theorem bd_X6_headerByte {p : Program} {l : Launch} {e : Env} {R : Room} {s : State} {m : MethodId} {args : Array Value} {below : List Frame} {meth : Method} {c : Code} {H : Heap} {locs : List Loc} {cells slots : Nat} {Q : State → Prop} {ls : Array Slot} {D : va_G} {A : Nat → Prop} {H0 : Heap} {cA : Nat → ClassId} {o : Nat → Int64} {ad ln : Nat → Nat} {iv : Nat → Nat → Int32} {n : Nat} {i9 : Nat}
    (F : gF p s m meth c cX6_headerByte 2 RX6 wsX6_headerByte args (some .int)) (hRf : 0 ≤ R.frames) (hRl : 0 ≤ R.locals) (hRc : cells ≤ R.cells) (hRs : slots ≤ R.slots) (hK : va_K D vwCl (gT cA) s) (hN : NW s) (hA : ∀ q, H0.size ≤ q → A q) (hn : 68 ≤ n) (hln : ∀ k, ln k < 2 ^ 31) (hi9 : i9 < 6)
    (hS : gS D cA A H0 o ad ln iv n H locs) (hl : lv_has ls 2 [(0, .ref (ad 0)), (1, .int (nI i9))])
    (kret : ∀ (r : Int32) (iv' : Nat → Nat → Int32) (H : Heap) (locs : List Loc) (ls : Array Slot) (pc : Nat), decode cX6_headerByte pc = .ok (.ireturn, 1) → (r = (if i9 = 0 then nI 67 else if i9 = 1 then nI 84 else if i9 = 2 then iv 0 0 else if i9 = 3 then iv 0 1 else if i9 = 4 then iv 25 5 else iv 46 1) ∧ iv' = iv) → gS D cA A H0 o ad ln iv' n H locs → W p l e R s m args below meth c H locs cells slots Q (F0 m pc ls [.int r])) :
    W p l e R s m args below meth c H locs cells slots Q (F0 m 0 ls []) := by
  obtain ⟨hx, hb, hml, hown, hts, hr, hlocks⟩ := F
  refine lv_iload_n hx hb dX6_headerByte_0 rfl (lv_at hl 1 rfl) ?_
  by_cases e_0 : i9 = 0
  · subst e_0
    refine lv_tableIn (off := 35) (tgt := 36) hx hb dX6_headerByte_1 (by decide) (by decide) (by decide) (by decide) ?_
    refine lv_bipush (v := nI 67) hx hb dX6_headerByte_36 (by decide) ?_
    exact kret _ iv _ _ _ _ dX6_headerByte_38 (⟨rfl, rfl⟩) hS
  by_cases e_1 : i9 = 1
  · subst e_1
    refine lv_tableIn (off := 38) (tgt := 39) hx hb dX6_headerByte_1 (by decide) (by decide) (by decide) (by decide) ?_
    refine lv_bipush (v := nI 84) hx hb dX6_headerByte_39 (by decide) ?_
    exact kret _ iv _ _ _ _ dX6_headerByte_41 (⟨rfl, rfl⟩) hS
  by_cases e_2 : i9 = 2
  · subst e_2
    refine lv_tableIn (off := 41) (tgt := 42) hx hb dX6_headerByte_1 (by decide) (by decide) (by decide) (by decide) ?_
    refine lv_aload_n hx hb dX6_headerByte_42 rfl (lv_at hl 0 rfl) ?_
    refine gx_get (ci := 9) (v := .int (iv 0 0)) (C := RX6) (T := TX6) (N := 15) hx hb hts (fun _ h => inX6_headerByte_RX6 h) hown hK hS 0 (by omega) rfl rfl 0 (by decide) (hts (.fieldLink RX6 16 "CosetTables" "places" "I") (by decide +kernel)) rfl dX6_headerByte_43 ?_
    exact kret _ iv _ _ _ _ dX6_headerByte_46 (⟨rfl, rfl⟩) hS
  by_cases e_3 : i9 = 3
  · subst e_3
    refine lv_tableIn (off := 46) (tgt := 47) hx hb dX6_headerByte_1 (by decide) (by decide) (by decide) (by decide) ?_
    refine lv_aload_n hx hb dX6_headerByte_47 rfl (lv_at hl 0 rfl) ?_
    refine gx_get (ci := 9) (v := .int (iv 0 1)) (C := RX6) (T := TX6) (N := 15) hx hb hts (fun _ h => inX6_headerByte_RX6 h) hown hK hS 0 (by omega) rfl rfl 1 (by decide) (hts (.fieldLink RX6 22 "CosetTables" "twists" "I") (by decide +kernel)) rfl dX6_headerByte_48 ?_
    exact kret _ iv _ _ _ _ dX6_headerByte_51 (⟨rfl, rfl⟩) hS
  by_cases e_4 : i9 = 4
  · subst e_4
    refine lv_tableIn (off := 51) (tgt := 52) hx hb dX6_headerByte_1 (by decide) (by decide) (by decide) (by decide) ?_
    refine lv_aload_n hx hb dX6_headerByte_52 rfl (lv_at hl 0 rfl) ?_
    refine gx_get (ci := 9) (v := .ref (ad 25)) (C := RX6) (T := TX6) (N := 15) hx hb hts (fun _ h => inX6_headerByte_RX6 h) hown hK hS 0 (by omega) rfl rfl 6 (by decide) (hts (.fieldLink RX6 42 "CosetTables" "numbering" "LCosetTables$Numbering;") (by decide +kernel)) rfl dX6_headerByte_53 ?_
    refine gx_getN (ci := 4) (v := .int (iv 25 5)) (C := RX1) (T := TX1) (N := 8) hx hb hts (fun _ h => inX6_headerByte_RX1 h) hown hK hS 25 (by omega) rfl rfl 5 (by decide) (nf_RX6_124 hN) rfl dX6_headerByte_56 ?_
    exact kret _ iv _ _ _ _ dX6_headerByte_59 (⟨rfl, rfl⟩) hS
  refine lv_tableOut (tgt := 60) hx hb dX6_headerByte_1 (by rw [nI_toInt (by omega)]; omega) (by decide) ?_
  refine lv_aload_n hx hb dX6_headerByte_60 rfl (lv_at hl 0 rfl) ?_
  refine gx_get (ci := 9) (v := .ref (ad 46)) (C := RX6) (T := TX6) (N := 15) hx hb hts (fun _ h => inX6_headerByte_RX6 h) hown hK hS 0 (by omega) rfl rfl 13 (by decide) (hts (.fieldLink RX6 79 "CosetTables" "table" "LCosetTables$Table;") (by decide +kernel)) rfl dX6_headerByte_61 ?_
  refine gx_getN (ci := 8) (v := .int (iv 46 1)) (C := RX5) (T := TX5) (N := 6) hx hb hts (fun _ h => inX6_headerByte_RX5 h) hown hK hS 46 (by omega) rfl rfl 1 (by decide) (nf_RX6_241 hN) rfl dX6_headerByte_64 ?_
  exact kret _ iv _ _ _ _ dX6_headerByte_67 (⟨by rw [if_neg e_0, if_neg e_1, if_neg e_2, if_neg e_3, if_neg e_4], rfl⟩) hS
set_option maxRecDepth 100000 in
theorem ct_X6_headerByte (l : Launch) (D : va_G) (cA : Nat → ClassId) (o : Nat → Int64) (ad ln : Nat → Nat) (n sz : Nat) (iv : Nat → Nat → Int32) (i9 : Nat) (hn : 68 ≤ n) (hln : ∀ k, ln k < 2 ^ 31) (hi9 : i9 < 6) : gMi l yX6_headerByte wsX6_headerByte { frames := 0, cells := 0, slots := 0, locals := 0 } D cA o ad ln n sz iv [.ref (ad 0), .int (nI i9)] (fun (r : Int32) iv' => r = (if i9 = 0 then nI 67 else if i9 = 1 then nI 84 else if i9 = 2 then iv 0 0 else if i9 = 3 then iv 0 1 else if i9 = 4 then iv 25 5 else iv 46 1) ∧ iv' = iv) := by
  refine Met.ofW (cc := cX6_headerByte) (maxL := 2) (ret := (some .int)) (by decide) rfl ?_
  intro p e s m args below meth c s₁ B hml hv__
  obtain ⟨rfl, hv__⟩ := hv__
  obtain ⟨hsz, hS, hK, hN, hA⟩ := gS.entry hv__
  have hl := lv_entry ([.ref (ad 0), .int (nI i9)]) (n := 2) (Nat.le_of_ble_eq_true rfl)
  rw [lg_entry_eq]
  generalize (lg_sl ([.ref (ad 0), .int (nI i9)]) ++ List.replicate (2 - (lg_sl ([.ref (ad 0), .int (nI i9)])).length) Slot.unset).toArray = ls at hl ⊢
  exact bd_X6_headerByte (i9 := i9) ⟨B.exec, B.bytes, hml, findClass_of_methodNamed B.named, atoms_spec (ws := wsX6_headerByte) B.pre, B.returns, B.notSynchronized⟩ (Nat.le_refl _) (Nat.le_refl _) (Nat.le_refl _) (Nat.le_refl _) hK hN hA hn hln hi9 hS hl (fun r iv' H locs ls pc hd hp hS => gx_iret B.exec B.bytes B.returns B.notSynchronized hS hp hd)
