theorem inX6_isTakenToMove_RX6 : ∀ {w : Cond}, w ∈ u_ws RX6 TX6 15 → w ∈ wsX6_isTakenToMove := fun {w} h => by first | exact List.mem_cons_of_mem _ (List.mem_append_right _ h) | (revert h; revert w; show ∀ w ∈ u_ws RX6 TX6 15, w ∈ wsX6_isTakenToMove; decide +kernel)
set_option maxHeartbeats 4000000 in
set_option maxRecDepth 100000 in
theorem bd_X6_isTakenToMove {p : Program} {l : Launch} {e : Env} {R : Room} {s : State} {m : MethodId} {args : Array Value} {below : List Frame} {meth : Method} {c : Code} {H : Heap} {locs : List Loc} {cells slots : Nat} {Q : State → Prop} {ls : Array Slot} {D : va_G} {A : Nat → Prop} {H0 : Heap} {cA : Nat → ClassId} {o : Nat → Int64} {ad ln : Nat → Nat} {iv : Nat → Nat → Int32} {n : Nat} {u k P mc9 : Nat}
    (F : gF p s m meth c cX6_isTakenToMove 4 RX6 wsX6_isTakenToMove args (some .boolean)) (hRf : 1 ≤ R.frames) (hRl : 24 ≤ R.locals) (hRc : cells ≤ R.cells) (hRs : slots ≤ R.slots) (hK : va_K D vwCl (gT cA) s) (hN : NW s) (hA : ∀ q, H0.size ≤ q → A q) (hn : 68 ≤ n) (hln : ∀ k, ln k < 2 ^ 31) (hLn : lnOk ln P) (hP : P ≤ 8) (hmc : iv 0 3 = nI mc9) (hmc6 : mc9 ≤ 6) (hk : 21 ≤ k ∧ k < 25) (hMu : isM u = true) (hP3 : ln (u + 1) = P) (hP4 : ln (u + 2) = P) (hgo : ∀ p, p < P → vp_in (iv (u + 1) p) P) (hsy : ∀ p, p < P → vp_in (iv k p) P)
    (hS : gS D cA A H0 o ad ln iv n H locs) (hl : lv_has ls 4 [(0, .ref (ad 0)), (1, .ref (ad u)), (2, .ref (ad k))])
    (kret : ∀ (r : Int32) (iv' : Nat → Nat → Int32) (H : Heap) (locs : List Loc) (ls : Array Slot) (pc : Nat), decode cX6_isTakenToMove pc = .ok (.ireturn, 1) → ((r = 0 ∨ r = 1) ∧ (r = 1 ↔ ∃ i, i < mc9 ∧ imgOf iv P (2 + 3 * i) u k) ∧ iv' = iv) → gS D cA A H0 o ad ln iv' n H locs → W p l e R s m args below meth c H locs cells slots Q (F0 m pc ls [.int r])) :
    W p l e R s m args below meth c H locs cells slots Q (F0 m 0 ls []) := by
  obtain ⟨hx, hb, hml, hown, hts, hr, hlocks⟩ := F
  have hkI : isI k = true := by
    have := isI_sy (j := k - 21) (by omega)
    rwa [show 21 + (k - 21) = k by omega] at this
  obtain ⟨hL1, hL2, ⟨h26, h27, h28⟩, ⟨h30, h31, h33, h34, h36, h37⟩, h39, h40, h41⟩ := hLn
  have hP5 : ln k = P := by
    have := hL2 (k - 21) (by omega)
    rwa [show 21 + (k - 21) = k by omega] at this
  refine lv_iconst (v := nI 0) hx hb dX6_isTakenToMove_0 (by decide) ?_
  refine lv_istore_n (lv' := [(3, .int (nI 0)), (0, .ref (ad 0)), (1, .ref (ad u)), (2, .ref (ad k))]) hx hb dX6_isTakenToMove_1 rfl hl (by decide) rfl (fun ls hl => ?_)
  have L2 : ∀ (N : Nat) (i : Nat), mc9 - i < N → (i ≤ mc9) → (∀ q, q < i → ¬ imgOf iv P (2 + 3 * q) u k) → ∀ (H : Heap) (locs : List Loc) (ls : Array Slot), gS D cA A H0 o ad ln iv n H locs → lv_has ls 4 [(0, .ref (ad 0)), (1, .ref (ad u)), (2, .ref (ad k)), (3, .int (nI i))] → W p l e R s m args below meth c H locs cells slots Q (F0 m 2 ls []) := by
    intro N
    induction N with
    | zero => intro i hm; exact absurd hm (Nat.not_lt_zero _)
    | succ N ih2 =>
      intro i hm hi hI H locs ls hS hl
      refine lv_iload_n hx hb dX6_isTakenToMove_2 rfl (lv_at hl 3 rfl) ?_
      refine lv_aload_n hx hb dX6_isTakenToMove_3 rfl (lv_at hl 0 rfl) ?_
      refine gx_get (ci := 9) (v := .int (iv 0 3)) (C := RX6) (T := TX6) (N := 15) hx hb hts (fun _ h => inX6_isTakenToMove_RX6 h) hown hK hS 0 (by omega) rfl rfl 3 (by decide) (hts (.fieldLink RX6 90 "CosetTables" "moveCount" "I") (by decide +kernel)) rfl dX6_isTakenToMove_4 ?_
      refine gx_as (y := nI mc9) hmc ?_
      refine lv_icmp_ge (tgt := 32) hx hb dX6_isTakenToMove_7 (by decide) (fun c_7 => ?_) (fun c_7 => ?_)
      · skip
        rw [nI_leI (by omega) (by omega)] at c_7
        refine lv_iconst (v := nI 0) hx hb dX6_isTakenToMove_32 (by decide) ?_
        exact kret _ iv _ _ _ _ dX6_isTakenToMove_33 (⟨Or.inl rfl, ⟨fun h => absurd h (by decide), fun ⟨j, hj, hq⟩ => absurd hq (hI j (by omega))⟩, rfl⟩) hS
      · skip
        rw [nI_leI (by omega) (by omega)] at c_7
        refine lv_aload_n hx hb dX6_isTakenToMove_10 rfl (lv_at hl 0 rfl) ?_
        refine gx_get (ci := 9) (v := .ref (ad 1)) (C := RX6) (T := TX6) (N := 15) hx hb hts (fun _ h => inX6_isTakenToMove_RX6 h) hown hK hS 0 (by omega) rfl rfl 2 (by decide) (hts (.fieldLink RX6 27 "CosetTables" "moves" "[LCosetTables$Move;") (by decide +kernel)) rfl dX6_isTakenToMove_11 ?_
        refine lv_iload_n hx hb dX6_isTakenToMove_14 rfl (lv_at hl 3 rfl) ?_
        refine gx_ldmove hx hb hK hS (by omega) i (by omega) rfl dX6_isTakenToMove_15 ?_
        refine lv_aload_n hx hb dX6_isTakenToMove_16 rfl (lv_at hl 1 rfl) ?_
        refine lv_aload_n hx hb dX6_isTakenToMove_17 rfl (lv_at hl 2 rfl) ?_
        refine gc_i (gx_runV (As := [.ref (ad u), .ref (ad k)]) (rest := []) ⟨hx, hb, hml, hown, hts⟩ hK hN hS (2 + 3 * i) (by omega) (sch_M (isM_mv (show i < 6 by omega))) rfl (ct_X0_isImage l D cA o ad ln n H.size iv (v := 2 + 3 * i) (u := u) (k := k) (P := P) hn hln (isM_mv (by omega)) hMu hk (hL1 i (by omega)).1 (hL1 i (by omega)).2 hP3 hP4 hP5 hP hgo hsy) (cwV 2 hts gX6_isTakenToMove_X0_isImage rfl rfl rfl (by decide +kernel) ⟨gle hRf rfl, gle hRl rfl⟩) rfl rfl hl.1 rfl (lv_room (Nat.le_of_ble_eq_true rfl)) dX6_isTakenToMove_18 ⟨hRc, hRs⟩) hS hA (fun y iv1 H locs hp1 hS => ?_)
        obtain ⟨hy01, hyi, ev1⟩ := hp1
        rw [ev1] at hS
        skip
        refine lv_if_eq (tgt := 26) hx hb dX6_isTakenToMove_21 (by decide) (fun c_21 => ?_) (fun c_21 => ?_)
        · skip
          refine lv_iinc (v := nI (i + 1)) (lv' := [(3, .int (nI (i + 1))), (0, .ref (ad 0)), (1, .ref (ad u)), (2, .ref (ad k))]) hx hb dX6_isTakenToMove_26 hl (k := 3) rfl (nI_1 i) (by decide) rfl (fun ls hl => ?_)
          refine lv_goto (tgt := 2) hx hb dX6_isTakenToMove_29 (by decide) ?_
          exact ih2 (i + 1) (by omega) (by omega) (lt_s hI (fun q9 => by have := hyi.mpr q9; rw [c_21] at this; exact absurd this (by decide))) _ _ _ hS (lv_sub hl [1, 2, 3, 0] rfl)
        · skip
          refine lv_iconst (v := nI 1) hx hb dX6_isTakenToMove_24 (by decide) ?_
          exact kret _ iv _ _ _ _ dX6_isTakenToMove_25 (⟨Or.inr rfl, ⟨fun _ => ⟨i, by omega, hyi.mp (hy01.resolve_left c_21)⟩, fun _ => rfl⟩, rfl⟩) hS
  exact L2 _ 0 (Nat.lt_succ_self _) (Nat.zero_le _) lt_0 _ _ _ hS (lv_sub hl [1, 2, 3, 0] rfl)
set_option maxRecDepth 100000 in
theorem ct_X6_isTakenToMove (l : Launch) (D : va_G) (cA : Nat → ClassId) (o : Nat → Int64) (ad ln : Nat → Nat) (n sz : Nat) (iv : Nat → Nat → Int32) (u k P mc9 : Nat) (hn : 68 ≤ n) (hln : ∀ k, ln k < 2 ^ 31) (hLn : lnOk ln P) (hP : P ≤ 8) (hmc : iv 0 3 = nI mc9) (hmc6 : mc9 ≤ 6) (hk : 21 ≤ k ∧ k < 25) (hMu : isM u = true) (hP3 : ln (u + 1) = P) (hP4 : ln (u + 2) = P) (hgo : ∀ p, p < P → vp_in (iv (u + 1) p) P) (hsy : ∀ p, p < P → vp_in (iv k p) P) : gMi l yX6_isTakenToMove wsX6_isTakenToMove { frames := 1, cells := 0, slots := 0, locals := 24 } D cA o ad ln n sz iv [.ref (ad 0), .ref (ad u), .ref (ad k)] (fun (r : Int32) iv' => (r = 0 ∨ r = 1) ∧ (r = 1 ↔ ∃ i, i < mc9 ∧ imgOf iv P (2 + 3 * i) u k) ∧ iv' = iv) := by
  refine Met.ofW (cc := cX6_isTakenToMove) (maxL := 4) (ret := (some .boolean)) (by decide) rfl ?_
  intro p e s m args below meth c s₁ B hml hv__
  obtain ⟨rfl, hv__⟩ := hv__
  obtain ⟨hsz, hS, hK, hN, hA⟩ := gS.entry hv__
  have hl := lv_entry ([.ref (ad 0), .ref (ad u), .ref (ad k)]) (n := 4) (Nat.le_of_ble_eq_true rfl)
  rw [lg_entry_eq]
  generalize (lg_sl ([.ref (ad 0), .ref (ad u), .ref (ad k)]) ++ List.replicate (4 - (lg_sl ([.ref (ad 0), .ref (ad u), .ref (ad k)])).length) Slot.unset).toArray = ls at hl ⊢
  exact bd_X6_isTakenToMove (u := u) (k := k) (P := P) (mc9 := mc9) ⟨B.exec, B.bytes, hml, findClass_of_methodNamed B.named, atoms_spec (ws := wsX6_isTakenToMove) B.pre, B.returns, B.notSynchronized⟩ (Nat.le_refl _) (Nat.le_refl _) (Nat.le_refl _) (Nat.le_refl _) hK hN hA hn hln hLn hP hmc hmc6 hk hMu hP3 hP4 hgo hsy hS hl (fun r iv' H locs ls pc hd hp hS => gx_zret B.exec B.bytes B.returns B.notSynchronized (hp.1) hS hp hd)

theorem inX6_isGood_RX6 : ∀ {w : Cond}, w ∈ u_ws RX6 TX6 15 → w ∈ wsX6_isGood := fun {w} h => by first | exact List.mem_cons_of_mem _ (List.mem_append_right _ h) | (revert h; revert w; show ∀ w ∈ u_ws RX6 TX6 15, w ∈ wsX6_isGood; decide +kernel)
set_option maxHeartbeats 4000000 in
set_option maxRecDepth 100000 in
theorem bd_X6_isGood {p : Program} {l : Launch} {e : Env} {R : Room} {s : State} {m : MethodId} {args : Array Value} {below : List Frame} {meth : Method} {c : Code} {H : Heap} {locs : List Loc} {cells slots : Nat} {Q : State → Prop} {ls : Array Slot} {D : va_G} {A : Nat → Prop} {H0 : Heap} {cA : Nat → ClassId} {o : Nat → Int64} {ad ln : Nat → Nat} {iv : Nat → Nat → Int32} {n : Nat} {k P mc9 : Nat}
    (F : gF p s m meth c cX6_isGood 3 RX6 wsX6_isGood args (some .boolean)) (hRf : 2 ≤ R.frames) (hRl : 47 ≤ R.locals) (hRc : cells ≤ R.cells) (hRs : slots ≤ R.slots) (hK : va_K D vwCl (gT cA) s) (hN : NW s) (hA : ∀ q, H0.size ≤ q → A q) (hn : 68 ≤ n) (hln : ∀ k, ln k < 2 ^ 31) (hLn : lnOk ln P) (hP : P ≤ 8) (hP0 : iv 0 0 = nI P) (hmc : iv 0 3 = nI mc9) (hmc6 : mc9 ≤ 6) (hk : 21 ≤ k ∧ k < 25) (hgo : ∀ j, j < 6 → ∀ p, p < P → vp_in (iv (2 + 3 * j + 1) p) P) (hsy : ∀ p, p < P → vp_in (iv k p) P) (h01 : ∀ j, iv 26 j = 0 ∨ iv 26 j = 1)
    (hS : gS D cA A H0 o ad ln iv n H locs) (hl : lv_has ls 3 [(0, .ref (ad 0)), (1, .ref (ad k))])
    (kret : ∀ (r : Int32) (iv' : Nat → Nat → Int32) (H : Heap) (locs : List Loc) (ls : Array Slot) (pc : Nat), decode cX6_isGood pc = .ok (.ireturn, 1) → ((r = 0 ∨ r = 1) ∧ (r = 1 ↔ (∀ p, p < P → iv 26 p ≠ 0 → iv 26 (tn (iv k p)) ≠ 0) ∧ ∀ j, j < mc9 → ∃ i, i < mc9 ∧ imgOf iv P (2 + 3 * i) (2 + 3 * j) k) ∧ iv' = iv) → gS D cA A H0 o ad ln iv' n H locs → W p l e R s m args below meth c H locs cells slots Q (F0 m pc ls [.int r])) :
    W p l e R s m args below meth c H locs cells slots Q (F0 m 0 ls []) := by
  obtain ⟨hx, hb, hml, hown, hts, hr, hlocks⟩ := F
  have hLn0 := hLn
  have hkI : isI k = true := by
    have := isI_sy (j := k - 21) (by omega)
    rwa [show 21 + (k - 21) = k by omega] at this
  obtain ⟨hL1, hL2, ⟨h26, h27, h28⟩, ⟨h30, h31, h33, h34, h36, h37⟩, h39, h40, h41⟩ := hLn
  have hP5 : ln k = P := by
    have := hL2 (k - 21) (by omega)
    rwa [show 21 + (k - 21) = k by omega] at this
  refine lv_iconst (v := nI 0) hx hb dX6_isGood_0 (by decide) ?_
  refine lv_istore_n (lv' := [(2, .int (nI 0)), (0, .ref (ad 0)), (1, .ref (ad k))]) hx hb dX6_isGood_1 rfl hl (by decide) rfl (fun ls hl => ?_)
  have L2 : ∀ (N : Nat) (i : Nat), P - i < N → (i ≤ P) → (∀ p, p < i → iv 26 p ≠ 0 → iv 26 (tn (iv k p)) ≠ 0) → ∀ (H : Heap) (locs : List Loc) (ls : Array Slot), gS D cA A H0 o ad ln iv n H locs → lv_has ls 3 [(0, .ref (ad 0)), (1, .ref (ad k)), (2, .int (nI i))] → W p l e R s m args below meth c H locs cells slots Q (F0 m 2 ls []) := by
    intro N
    induction N with
    | zero => intro i hm; exact absurd hm (Nat.not_lt_zero _)
    | succ N ih2 =>
      intro i hm hi hI H locs ls hS hl
      refine lv_iload_n hx hb dX6_isGood_2 rfl (lv_at hl 2 rfl) ?_
      refine lv_aload_n hx hb dX6_isGood_3 rfl (lv_at hl 0 rfl) ?_
      refine gx_get (ci := 9) (v := .int (iv 0 0)) (C := RX6) (T := TX6) (N := 15) hx hb hts (fun _ h => inX6_isGood_RX6 h) hown hK hS 0 (by omega) rfl rfl 0 (by decide) (hts (.fieldLink RX6 16 "CosetTables" "places" "I") (by decide +kernel)) rfl dX6_isGood_4 ?_
      refine gx_as (y := nI P) hP0 ?_
      refine lv_icmp_ge (tgt := 42) hx hb dX6_isGood_7 (by decide) (fun c_7 => ?_) (fun c_7 => ?_)
      · skip
        rw [nI_leI (by omega) (by omega)] at c_7
        refine lv_iconst (v := nI 0) hx hb dX6_isGood_42 (by decide) ?_
        refine lv_istore_n (lv' := [(2, .int (nI 0)), (0, .ref (ad 0)), (1, .ref (ad k))]) hx hb dX6_isGood_43 rfl hl (by decide) rfl (fun ls hl => ?_)
        have L44 : ∀ (N : Nat) (j : Nat), mc9 - j < N → (j ≤ mc9) → (∀ q, q < j → ∃ i, i < mc9 ∧ imgOf iv P (2 + 3 * i) (2 + 3 * q) k) → ∀ (H : Heap) (locs : List Loc) (ls : Array Slot), gS D cA A H0 o ad ln iv n H locs → lv_has ls 3 [(0, .ref (ad 0)), (1, .ref (ad k)), (2, .int (nI j))] → W p l e R s m args below meth c H locs cells slots Q (F0 m 44 ls []) := by
          intro N
          induction N with
          | zero => intro j hm; exact absurd hm (Nat.not_lt_zero _)
          | succ N ih44 =>
            intro j hm hj hJ H locs ls hS hl
            refine lv_iload_n hx hb dX6_isGood_44 rfl (lv_at hl 2 rfl) ?_
            refine lv_aload_n hx hb dX6_isGood_45 rfl (lv_at hl 0 rfl) ?_
            refine gx_get (ci := 9) (v := .int (iv 0 3)) (C := RX6) (T := TX6) (N := 15) hx hb hts (fun _ h => inX6_isGood_RX6 h) hown hK hS 0 (by omega) rfl rfl 3 (by decide) (hts (.fieldLink RX6 90 "CosetTables" "moveCount" "I") (by decide +kernel)) rfl dX6_isGood_46 ?_
            refine gx_as (y := nI mc9) hmc ?_
            refine lv_icmp_ge (tgt := 74) hx hb dX6_isGood_49 (by decide) (fun c_49 => ?_) (fun c_49 => ?_)
            · skip
              rw [nI_leI (by omega) (by omega)] at c_49
              refine lv_iconst (v := nI 1) hx hb dX6_isGood_74 (by decide) ?_
              exact kret _ iv _ _ _ _ dX6_isGood_75 (⟨Or.inr rfl, ⟨fun _ => ⟨fun p hp => hI p (by omega), fun q hq => hJ q (by omega)⟩, fun _ => rfl⟩, rfl⟩) hS
            · skip
              rw [nI_leI (by omega) (by omega)] at c_49
              refine lv_aload_n hx hb dX6_isGood_52 rfl (lv_at hl 0 rfl) ?_
              refine lv_aload_n hx hb dX6_isGood_53 rfl (lv_at hl 0 rfl) ?_
              refine gx_get (ci := 9) (v := .ref (ad 1)) (C := RX6) (T := TX6) (N := 15) hx hb hts (fun _ h => inX6_isGood_RX6 h) hown hK hS 0 (by omega) rfl rfl 2 (by decide) (hts (.fieldLink RX6 27 "CosetTables" "moves" "[LCosetTables$Move;") (by decide +kernel)) rfl dX6_isGood_54 ?_
              refine lv_iload_n hx hb dX6_isGood_57 rfl (lv_at hl 2 rfl) ?_
              refine gx_ldmove hx hb hK hS (by omega) j (by omega) rfl dX6_isGood_58 ?_
              refine lv_aload_n hx hb dX6_isGood_59 rfl (lv_at hl 1 rfl) ?_
              refine gc_i (gx_runV (As := [.ref (ad (2 + 3 * j)), .ref (ad k)]) (rest := []) ⟨hx, hb, hml, hown, hts⟩ hK hN hS 0 (by omega) rfl rfl (ct_X6_isTakenToMove l D cA o ad ln n H.size iv (u := 2 + 3 * j) (k := k) (P := P) (mc9 := mc9) hn hln hLn0 hP hmc hmc6 hk (isM_mv (by omega)) (hL1 j (by omega)).1 (hL1 j (by omega)).2 (hgo j (by omega)) hsy) (cwV 2 hts gX6_isGood_X6_isTakenToMove rfl rfl rfl (by decide +kernel) ⟨gle hRf rfl, gle hRl rfl⟩) rfl rfl hl.1 rfl (lv_room (Nat.le_of_ble_eq_true rfl)) dX6_isGood_60 ⟨hRc, hRs⟩) hS hA (fun y iv3 H locs hp3 hS => ?_)
              obtain ⟨hy01, hyi, ev3⟩ := hp3
              rw [ev3] at hS
              skip
              refine lv_if_ne (tgt := 68) hx hb dX6_isGood_63 (by decide) (fun c_63 => ?_) (fun c_63 => ?_)
              · skip
                refine lv_iinc (v := nI (j + 1)) (lv' := [(2, .int (nI (j + 1))), (0, .ref (ad 0)), (1, .ref (ad k))]) hx hb dX6_isGood_68 hl (k := 2) rfl (nI_1 j) (by decide) rfl (fun ls hl => ?_)
                refine lv_goto (tgt := 44) hx hb dX6_isGood_71 (by decide) ?_
                exact ih44 (j + 1) (by omega) (by omega) (lt_s hJ (hyi.mp (hy01.resolve_left c_63))) _ _ _ hS (lv_sub hl [1, 2, 0] rfl)
              · skip
                refine lv_iconst (v := nI 0) hx hb dX6_isGood_66 (by decide) ?_
                exact kret _ iv _ _ _ _ dX6_isGood_67 (⟨Or.inl rfl, ⟨fun h => absurd h (by decide), fun h => absurd (hyi.mpr (h.2 j (by omega))) (by rw [c_63]; decide)⟩, rfl⟩) hS
        exact L44 _ 0 (Nat.lt_succ_self _) (Nat.zero_le _) lt_0 _ _ _ hS (lv_sub hl [1, 2, 0] rfl)
      · skip
        rw [nI_leI (by omega) (by omega)] at c_7
        refine lv_aload_n hx hb dX6_isGood_10 rfl (lv_at hl 0 rfl) ?_
        refine gx_get (ci := 9) (v := .ref (ad 25)) (C := RX6) (T := TX6) (N := 15) hx hb hts (fun _ h => inX6_isGood_RX6 h) hown hK hS 0 (by omega) rfl rfl 6 (by decide) (hts (.fieldLink RX6 42 "CosetTables" "numbering" "LCosetTables$Numbering;") (by decide +kernel)) rfl dX6_isGood_11 ?_
        refine lv_iload_n hx hb dX6_isGood_14 rfl (lv_at hl 2 rfl) ?_
        refine gc_i (gx_runV (As := [.int (nI i)]) (rest := []) ⟨hx, hb, hml, hown, hts⟩ hK hN hS 25 (by omega) rfl rfl (ct_X1_has l D cA o ad ln n H.size iv (j := i) hn hln (by omega) h01) (cwV 1 hts gX6_isGood_X1_has rfl rfl rfl (by decide +kernel) ⟨gle hRf rfl, gle hRl rfl⟩) rfl rfl hl.1 rfl (lv_room (Nat.le_of_ble_eq_true rfl)) dX6_isGood_15 ⟨hRc, hRs⟩) hS hA (fun y iv1 H locs hp1 hS => ?_)
        obtain ⟨hy01, hyi, ev1⟩ := hp1
        rw [ev1] at hS
        skip
        refine lv_if_eq (tgt := 36) hx hb dX6_isGood_18 (by decide) (fun c_18 => ?_) (fun c_18 => ?_)
        · skip
          refine lv_iinc (v := nI (i + 1)) (lv' := [(2, .int (nI (i + 1))), (0, .ref (ad 0)), (1, .ref (ad k))]) hx hb dX6_isGood_36 hl (k := 2) rfl (nI_1 i) (by decide) rfl (fun ls hl => ?_)
          refine lv_goto (tgt := 2) hx hb dX6_isGood_39 (by decide) ?_
          exact ih2 (i + 1) (by omega) (by omega) (lt_s hI (fun h9 => absurd (by rw [← hyi]; exact c_18) h9)) _ _ _ hS (lv_sub hl [1, 2, 0] rfl)
        · skip
          refine lv_aload_n hx hb dX6_isGood_21 rfl (lv_at hl 0 rfl) ?_
          refine gx_get (ci := 9) (v := .ref (ad 25)) (C := RX6) (T := TX6) (N := 15) hx hb hts (fun _ h => inX6_isGood_RX6 h) hown hK hS 0 (by omega) rfl rfl 6 (by decide) (hts (.fieldLink RX6 42 "CosetTables" "numbering" "LCosetTables$Numbering;") (by decide +kernel)) rfl dX6_isGood_22 ?_
          refine lv_aload_n hx hb dX6_isGood_25 rfl (lv_at hl 1 rfl) ?_
          refine lv_iload_n hx hb dX6_isGood_26 rfl (lv_at hl 2 rfl) ?_
          refine gx_ialdn hx hb hK hS k (by omega) hkI i (by omega) (hln _) dX6_isGood_27 ?_
          refine lv_topi (fun x ex => ?_)
          obtain ⟨z9, hz9, ez9⟩ := vp_in_of (hsy i (by omega)) (by omega)
          refine gx_as (y := nI z9) (by rw [ex]; exact ez9) ?_
          refine gc_i (gx_runV (As := [.int (nI z9)]) (rest := []) ⟨hx, hb, hml, hown, hts⟩ hK hN hS 25 (by omega) rfl rfl (ct_X1_has l D cA o ad ln n H.size iv (j := z9) hn hln (by omega) h01) (cwV 1 hts gX6_isGood_X1_has rfl rfl rfl (by decide +kernel) ⟨gle hRf rfl, gle hRl rfl⟩) rfl rfl hl.1 rfl (lv_room (Nat.le_of_ble_eq_true rfl)) dX6_isGood_28 ⟨hRc, hRs⟩) hS hA (fun z iv2 H locs hp2 hS => ?_)
          obtain ⟨hz01, hzi, ev2⟩ := hp2
          rw [ev2] at hS
          have etn : tn (iv k i) = z9 := by rw [ez9]; exact nI_clamp (by omega)
          skip
          refine lv_if_ne (tgt := 36) hx hb dX6_isGood_31 (by decide) (fun c_31 => ?_) (fun c_31 => ?_)
          · skip
            refine lv_iinc (v := nI (i + 1)) (lv' := [(2, .int (nI (i + 1))), (0, .ref (ad 0)), (1, .ref (ad k))]) hx hb dX6_isGood_36 hl (k := 2) rfl (nI_1 i) (by decide) rfl (fun ls hl => ?_)
            refine lv_goto (tgt := 2) hx hb dX6_isGood_39 (by decide) ?_
            exact ih2 (i + 1) (by omega) (by omega) (lt_s hI (fun _ => by rw [etn, ← hzi]; exact c_31)) _ _ _ hS (lv_sub hl [1, 2, 0] rfl)
          · skip
            refine lv_iconst (v := nI 0) hx hb dX6_isGood_34 (by decide) ?_
            exact kret _ iv _ _ _ _ dX6_isGood_35 (⟨Or.inl rfl, ⟨fun h => absurd h (by decide), fun h => absurd (show iv 26 z9 = 0 by rw [← hzi]; exact c_31) (by rw [← etn]; exact h.1 i (by omega) (by rw [← hyi]; exact c_18))⟩, rfl⟩) hS
  exact L2 _ 0 (Nat.lt_succ_self _) (Nat.zero_le _) lt_0 _ _ _ hS (lv_sub hl [1, 2, 0] rfl)
set_option maxRecDepth 100000 in
theorem ct_X6_isGood (l : Launch) (D : va_G) (cA : Nat → ClassId) (o : Nat → Int64) (ad ln : Nat → Nat) (n sz : Nat) (iv : Nat → Nat → Int32) (k P mc9 : Nat) (hn : 68 ≤ n) (hln : ∀ k, ln k < 2 ^ 31) (hLn : lnOk ln P) (hP : P ≤ 8) (hP0 : iv 0 0 = nI P) (hmc : iv 0 3 = nI mc9) (hmc6 : mc9 ≤ 6) (hk : 21 ≤ k ∧ k < 25) (hgo : ∀ j, j < 6 → ∀ p, p < P → vp_in (iv (2 + 3 * j + 1) p) P) (hsy : ∀ p, p < P → vp_in (iv k p) P) (h01 : ∀ j, iv 26 j = 0 ∨ iv 26 j = 1) : gMi l yX6_isGood wsX6_isGood { frames := 2, cells := 0, slots := 0, locals := 47 } D cA o ad ln n sz iv [.ref (ad 0), .ref (ad k)] (fun (r : Int32) iv' => (r = 0 ∨ r = 1) ∧ (r = 1 ↔ (∀ p, p < P → iv 26 p ≠ 0 → iv 26 (tn (iv k p)) ≠ 0) ∧ ∀ j, j < mc9 → ∃ i, i < mc9 ∧ imgOf iv P (2 + 3 * i) (2 + 3 * j) k) ∧ iv' = iv) := by
  refine Met.ofW (cc := cX6_isGood) (maxL := 3) (ret := (some .boolean)) (by decide) rfl ?_
  intro p e s m args below meth c s₁ B hml hv__
  obtain ⟨rfl, hv__⟩ := hv__
  obtain ⟨hsz, hS, hK, hN, hA⟩ := gS.entry hv__
  have hl := lv_entry ([.ref (ad 0), .ref (ad k)]) (n := 3) (Nat.le_of_ble_eq_true rfl)
  rw [lg_entry_eq]
  generalize (lg_sl ([.ref (ad 0), .ref (ad k)]) ++ List.replicate (3 - (lg_sl ([.ref (ad 0), .ref (ad k)])).length) Slot.unset).toArray = ls at hl ⊢
  exact bd_X6_isGood (k := k) (P := P) (mc9 := mc9) ⟨B.exec, B.bytes, hml, findClass_of_methodNamed B.named, atoms_spec (ws := wsX6_isGood) B.pre, B.returns, B.notSynchronized⟩ (Nat.le_refl _) (Nat.le_refl _) (Nat.le_refl _) (Nat.le_refl _) hK hN hA hn hln hLn hP hP0 hmc hmc6 hk hgo hsy h01 hS hl (fun r iv' H locs ls pc hd hp hS => gx_zret B.exec B.bytes B.returns B.notSynchronized (hp.1) hS hp hd)

theorem inX6_number_RX6 : ∀ {w : Cond}, w ∈ u_ws RX6 TX6 15 → w ∈ wsX6_number := fun {w} h => by first | exact List.mem_cons_of_mem _ (List.mem_append_right _ h) | (revert h; revert w; show ∀ w ∈ u_ws RX6 TX6 15, w ∈ wsX6_number; decide +kernel)
set_option maxHeartbeats 4000000 in
set_option maxRecDepth 100000 in
theorem bd_X6_number {p : Program} {l : Launch} {e : Env} {R : Room} {s : State} {m : MethodId} {args : Array Value} {below : List Frame} {meth : Method} {c : Code} {H : Heap} {locs : List Loc} {cells slots : Nat} {Q : State → Prop} {ls : Array Slot} {D : va_G} {A : Nat → Prop} {H0 : Heap} {cA : Nat → ClassId} {o : Nat → Int64} {ad ln : Nat → Nat} {iv : Nat → Nat → Int32} {n : Nat} {P c9 T : Nat} {pc9 w t : Nat → Nat}
    (F : gF p s m meth c cX6_number 1 RX6 wsX6_number args (some .int)) (hRf : 2 ≤ R.frames) (hRl : 46 ≤ R.locals) (hRc : cells ≤ R.cells) (hRs : slots ≤ R.slots) (hK : va_K D vwCl (gT cA) s) (hN : NW s) (hA : ∀ q, H0.size ≤ q → A q) (hn : 68 ≤ n) (hln : ∀ k, ln k < 2 ^ 31) (hLn : lnOk ln P) (hc9 : iv 25 5 = nI c9) (hc4 : c9 ≤ 4) (hT0 : iv 25 1 = nI T) (hT1 : 0 < T) (hT3 : T ≤ 3) (hP : P ≤ 8) (hpc : ∀ i, i < c9 → iv 27 i = nI (pc9 i)) (hpi : inj pc9 P c9) (hP0 : iv 25 0 = nI P) (hnw : holdsAt iv 29 c9 pc9 w t) (hwi : inj w P c9) (htT : ∀ i, i < c9 → t i < T)
    (hS : gS D cA A H0 o ad ln iv n H locs) (hl : lv_has ls 1 [(0, .ref (ad 0))])
    (kret : ∀ (r : Int32) (iv' : Nat → Nat → Int32) (H : Heap) (locs : List Loc) (ls : Array Slot) (pc : Nat), decode cX6_number pc = .ok (.ireturn, 1) → (r = nI (num P T c9 w t) ∧ iv' = iv) → gS D cA A H0 o ad ln iv' n H locs → W p l e R s m args below meth c H locs cells slots Q (F0 m pc ls [.int r])) :
    W p l e R s m args below meth c H locs cells slots Q (F0 m 0 ls []) := by
  obtain ⟨hx, hb, hml, hown, hts, hr, hlocks⟩ := F
  obtain ⟨hL1, hL2, ⟨h26, h27, h28⟩, ⟨h30, h31, h33, h34, h36, h37⟩, h39, h40, h41⟩ := hLn
  refine lv_aload_n hx hb dX6_number_0 rfl (lv_at hl 0 rfl) ?_
  refine gx_get (ci := 9) (v := .ref (ad 25)) (C := RX6) (T := TX6) (N := 15) hx hb hts (fun _ h => inX6_number_RX6 h) hown hK hS 0 (by omega) rfl rfl 6 (by decide) (hts (.fieldLink RX6 42 "CosetTables" "numbering" "LCosetTables$Numbering;") (by decide +kernel)) rfl dX6_number_1 ?_
  refine lv_aload_n hx hb dX6_number_4 rfl (lv_at hl 0 rfl) ?_
  refine gx_get (ci := 9) (v := .ref (ad 29)) (C := RX6) (T := TX6) (N := 15) hx hb hts (fun _ h => inX6_number_RX6 h) hown hK hS 0 (by omega) rfl rfl 7 (by decide) (hts (.fieldLink RX6 51 "CosetTables" "now" "LCosetTables$State;") (by decide +kernel)) rfl dX6_number_5 ?_
  refine gc_i (gx_runV (As := [.ref (ad 29)]) (rest := []) ⟨hx, hb, hml, hown, hts⟩ hK hN hS 25 (by omega) rfl rfl (ct_X1_numberOf l D cA o ad ln n H.size iv (b := 29) (P := P) (c9 := c9) (T := T) (pc9 := pc9) (w := w) (t := t) hn hln hc9 hc4 hT0 hT1 hT3 (by decide) h31 h30 hP h27 hpc hpi hP0 hnw.1 hnw.2 hwi htT) (cwV 1 hts gX6_number_X1_numberOf rfl rfl rfl (by decide +kernel) ⟨gle hRf rfl, gle hRl rfl⟩) rfl rfl hl.1 rfl (lv_room (Nat.le_of_ble_eq_true rfl)) dX6_number_8 ⟨hRc, hRs⟩) hS hA (fun y iv1 H locs hp1 hS => ?_)
  exact kret _ iv1 _ _ _ _ dX6_number_11 (hp1) hS
set_option maxRecDepth 100000 in
theorem ct_X6_number (l : Launch) (D : va_G) (cA : Nat → ClassId) (o : Nat → Int64) (ad ln : Nat → Nat) (n sz : Nat) (iv : Nat → Nat → Int32) (P c9 T : Nat) (pc9 w t : Nat → Nat) (hn : 68 ≤ n) (hln : ∀ k, ln k < 2 ^ 31) (hLn : lnOk ln P) (hc9 : iv 25 5 = nI c9) (hc4 : c9 ≤ 4) (hT0 : iv 25 1 = nI T) (hT1 : 0 < T) (hT3 : T ≤ 3) (hP : P ≤ 8) (hpc : ∀ i, i < c9 → iv 27 i = nI (pc9 i)) (hpi : inj pc9 P c9) (hP0 : iv 25 0 = nI P) (hnw : holdsAt iv 29 c9 pc9 w t) (hwi : inj w P c9) (htT : ∀ i, i < c9 → t i < T) : gMi l yX6_number wsX6_number { frames := 2, cells := 0, slots := 0, locals := 46 } D cA o ad ln n sz iv [.ref (ad 0)] (fun (r : Int32) iv' => r = nI (num P T c9 w t) ∧ iv' = iv) := by
  refine Met.ofW (cc := cX6_number) (maxL := 1) (ret := (some .int)) (by decide) rfl ?_
  intro p e s m args below meth c s₁ B hml hv__
  obtain ⟨rfl, hv__⟩ := hv__
  obtain ⟨hsz, hS, hK, hN, hA⟩ := gS.entry hv__
  have hl := lv_entry ([.ref (ad 0)]) (n := 1) (Nat.le_of_ble_eq_true rfl)
  rw [lg_entry_eq]
  generalize (lg_sl ([.ref (ad 0)]) ++ List.replicate (1 - (lg_sl ([.ref (ad 0)])).length) Slot.unset).toArray = ls at hl ⊢
  exact bd_X6_number (P := P) (c9 := c9) (T := T) (pc9 := pc9) (w := w) (t := t) ⟨B.exec, B.bytes, hml, findClass_of_methodNamed B.named, atoms_spec (ws := wsX6_number) B.pre, B.returns, B.notSynchronized⟩ (Nat.le_refl _) (Nat.le_refl _) (Nat.le_refl _) (Nat.le_refl _) hK hN hA hn hln hLn hc9 hc4 hT0 hT1 hT3 hP hpc hpi hP0 hnw hwi htT hS hl (fun r iv' H locs ls pc hd hp hS => gx_iret B.exec B.bytes B.returns B.notSynchronized hS hp hd)

theorem inX6_count_RX5 : ∀ {w : Cond}, w ∈ u_ws RX5 TX5 6 → w ∈ wsX6_count := fun {w} h => by first | exact List.mem_cons_of_mem _ (List.mem_append_right _ h) | (revert h; revert w; show ∀ w ∈ u_ws RX5 TX5 6, w ∈ wsX6_count; decide +kernel)
theorem inX6_count_RX6 : ∀ {w : Cond}, w ∈ u_ws RX6 TX6 15 → w ∈ wsX6_count := fun {w} h => by first | exact List.mem_cons_of_mem _ (List.mem_append_right _ h) | (revert h; revert w; show ∀ w ∈ u_ws RX6 TX6 15, w ∈ wsX6_count; decide +kernel)
set_option maxHeartbeats 4000000 in
set_option maxRecDepth 100000 in
theorem bd_X6_count {p : Program} {l : Launch} {e : Env} {R : Room} {s : State} {m : MethodId} {args : Array Value} {below : List Frame} {meth : Method} {c : Code} {H : Heap} {locs : List Loc} {cells slots : Nat} {Q : State → Prop} {ls : Array Slot} {D : va_G} {A : Nat → Prop} {H0 : Heap} {cA : Nat → ClassId} {o : Nat → Int64} {ad ln : Nat → Nat} {iv : Nat → Nat → Int32} {n : Nat} {v : Int32} {S C : Nat}
    (F : gF p s m meth c cX6_count 2 RX6 wsX6_count args (some .int)) (hRf : 2 ≤ R.frames) (hRl : 46 ≤ R.locals) (hRc : cells ≤ R.cells) (hRs : slots ≤ R.slots) (hK : va_K D vwCl (gT cA) s) (hN : NW s) (hA : ∀ q, H0.size ≤ q → A q) (hn : 68 ≤ n) (hln : ∀ k, ln k < 2 ^ 31) (hb9 : iv 46 0 ≠ 0 → (iv 46 2 = nI S ∧ S < 2 ^ 30 ∧ iv 46 3 = nI C ∧ 0 < C ∧ C ≤ S ∧ C ≤ ln 48 ∧ (∀ i, i < C → vp_in (iv 48 i) (ln 47)) ∧ ∀ i j, i ≤ j → j < C → iv 47 (tn (iv 48 i)) ≤ iv 47 (tn (iv 48 j))))
    (hS : gS D cA A H0 o ad ln iv n H locs) (hl : lv_has ls 2 [(0, .ref (ad 0)), (1, .int v)])
    (kret : ∀ (r : Int32) (iv' : Nat → Nat → Int32) (H : Heap) (locs : List Loc) (ls : Array Slot) (pc : Nat), decode cX6_count pc = .ok (.ireturn, 1) → ((if iv 46 0 = 0 then r = -1 else if v = -1 then r = nI (S - C) else if v < 0 ∨ iv 47 (tn (iv 48 (C - 1))) < v then r = nI 0 else ∃ L1 L2, r = nI L2 - nI L1 ∧ cutAt (fun i => iv 47 (tn (iv 48 i))) C v L1 ∧ cutAt (fun i => iv 47 (tn (iv 48 i))) C (v + 1) L2) ∧ iv' = iv) → gS D cA A H0 o ad ln iv' n H locs → W p l e R s m args below meth c H locs cells slots Q (F0 m pc ls [.int r])) :
    W p l e R s m args below meth c H locs cells slots Q (F0 m 0 ls []) := by
  obtain ⟨hx, hb, hml, hown, hts, hr, hlocks⟩ := F
  refine lv_aload_n hx hb dX6_count_0 rfl (lv_at hl 0 rfl) ?_
  refine gx_get (ci := 9) (v := .ref (ad 46)) (C := RX6) (T := TX6) (N := 15) hx hb hts (fun _ h => inX6_count_RX6 h) hown hK hS 0 (by omega) rfl rfl 13 (by decide) (hts (.fieldLink RX6 79 "CosetTables" "table" "LCosetTables$Table;") (by decide +kernel)) rfl dX6_count_1 ?_
  refine gx_getN (ci := 8) (v := .int (iv 46 0)) (C := RX5) (T := TX5) (N := 6) hx hb hts (fun _ h => inX6_count_RX5 h) hown hK hS 46 (by omega) rfl rfl 0 (by decide) (nf_RX6_184 hN) rfl dX6_count_4 ?_
  refine lv_if_eq (tgt := 21) hx hb dX6_count_7 (by decide) (fun c_7 => ?_) (fun c_7 => ?_)
  · skip
    refine lv_iconst (v := (-1)) hx hb dX6_count_21 (by decide) ?_
    exact kret _ iv _ _ _ _ dX6_count_22 (⟨by rw [if_pos c_7], rfl⟩) hS
  · skip
    obtain ⟨g1, g2, g3, g4, g5, g6, g7, g8⟩ := hb9 c_7
    refine lv_aload_n hx hb dX6_count_10 rfl (lv_at hl 0 rfl) ?_
    refine gx_get (ci := 9) (v := .ref (ad 46)) (C := RX6) (T := TX6) (N := 15) hx hb hts (fun _ h => inX6_count_RX6 h) hown hK hS 0 (by omega) rfl rfl 13 (by decide) (hts (.fieldLink RX6 79 "CosetTables" "table" "LCosetTables$Table;") (by decide +kernel)) rfl dX6_count_11 ?_
    refine lv_iload_n hx hb dX6_count_14 rfl (lv_at hl 1 rfl) ?_
    refine gc_i (gx_runV (As := [.int v]) (rest := []) ⟨hx, hb, hml, hown, hts⟩ hK hN hS 46 (by omega) rfl rfl (ct_X5_having l D cA o ad ln n H.size iv (v := v) (S := S) (C := C) hn hln g1 g2 g3 g4 g5 g6 g7 g8) (cwV 1 hts gX6_count_X5_having rfl rfl rfl (by decide +kernel) ⟨gle hRf rfl, gle hRl rfl⟩) rfl rfl hl.1 rfl (lv_room (Nat.le_of_ble_eq_true rfl)) dX6_count_15 ⟨hRc, hRs⟩) hS hA (fun y iv1 H locs hp1 hS => ?_)
    refine lv_goto (tgt := 22) hx hb dX6_count_18 (by decide) ?_
    exact kret _ iv1 _ _ _ _ dX6_count_22 (⟨by rw [if_neg c_7]; exact hp1.1, hp1.2⟩) hS
set_option maxRecDepth 100000 in
theorem ct_X6_count (l : Launch) (D : va_G) (cA : Nat → ClassId) (o : Nat → Int64) (ad ln : Nat → Nat) (n sz : Nat) (iv : Nat → Nat → Int32) (v : Int32) (S C : Nat) (hn : 68 ≤ n) (hln : ∀ k, ln k < 2 ^ 31) (hb9 : iv 46 0 ≠ 0 → (iv 46 2 = nI S ∧ S < 2 ^ 30 ∧ iv 46 3 = nI C ∧ 0 < C ∧ C ≤ S ∧ C ≤ ln 48 ∧ (∀ i, i < C → vp_in (iv 48 i) (ln 47)) ∧ ∀ i j, i ≤ j → j < C → iv 47 (tn (iv 48 i)) ≤ iv 47 (tn (iv 48 j)))) : gMi l yX6_count wsX6_count { frames := 2, cells := 0, slots := 0, locals := 46 } D cA o ad ln n sz iv [.ref (ad 0), .int v] (fun (r : Int32) iv' => (if iv 46 0 = 0 then r = -1 else if v = -1 then r = nI (S - C) else if v < 0 ∨ iv 47 (tn (iv 48 (C - 1))) < v then r = nI 0 else ∃ L1 L2, r = nI L2 - nI L1 ∧ cutAt (fun i => iv 47 (tn (iv 48 i))) C v L1 ∧ cutAt (fun i => iv 47 (tn (iv 48 i))) C (v + 1) L2) ∧ iv' = iv) := by
  refine Met.ofW (cc := cX6_count) (maxL := 2) (ret := (some .int)) (by decide) rfl ?_
  intro p e s m args below meth c s₁ B hml hv__
  obtain ⟨rfl, hv__⟩ := hv__
  obtain ⟨hsz, hS, hK, hN, hA⟩ := gS.entry hv__
  have hl := lv_entry ([.ref (ad 0), .int v]) (n := 2) (Nat.le_of_ble_eq_true rfl)
  rw [lg_entry_eq]
  generalize (lg_sl ([.ref (ad 0), .int v]) ++ List.replicate (2 - (lg_sl ([.ref (ad 0), .int v])).length) Slot.unset).toArray = ls at hl ⊢
  exact bd_X6_count (v := v) (S := S) (C := C) ⟨B.exec, B.bytes, hml, findClass_of_methodNamed B.named, atoms_spec (ws := wsX6_count) B.pre, B.returns, B.notSynchronized⟩ (Nat.le_refl _) (Nat.le_refl _) (Nat.le_refl _) (Nat.le_refl _) hK hN hA hn hln hb9 hS hl (fun r iv' H locs ls pc hd hp hS => gx_iret B.exec B.bytes B.returns B.notSynchronized hS hp hd)
