theorem inX6_checkByte_RX6 : ∀ {w : Cond}, w ∈ u_ws RX6 TX6 15 → w ∈ wsX6_checkByte := fun {w} h => by first | exact List.mem_cons_of_mem _ (List.mem_append_right _ h) | (revert h; revert w; show ∀ w ∈ u_ws RX6 TX6 15, w ∈ wsX6_checkByte; decide +kernel)
set_option maxHeartbeats 4000000 in
set_option maxRecDepth 100000 in
theorem bd_X6_checkByte {p : Program} {l : Launch} {e : Env} {R : Room} {s : State} {m : MethodId} {args : Array Value} {below : List Frame} {meth : Method} {c : Code} {H : Heap} {locs : List Loc} {cells slots : Nat} {Q : State → Prop} {ls : Array Slot} {D : va_G} {A : Nat → Prop} {H0 : Heap} {cA : Nat → ClassId} {o : Nat → Int64} {ad ln : Nat → Nat} {iv : Nat → Nat → Int32} {n : Nat} {S : Nat}
    (F : gF p s m meth c cX6_checkByte 4 RX6 wsX6_checkByte args (some .int)) (hRf : 3 ≤ R.frames) (hRl : 66 ≤ R.locals) (hRc : cells ≤ R.cells) (hRs : slots ≤ R.slots) (hK : va_K D vwCl (gT cA) s) (hN : NW s) (hA : ∀ q, H0.size ≤ q → A q) (hn : 68 ≤ n) (hln : ∀ k, ln k < 2 ^ 31) (hs : iv 46 2 = nI S) (hS9 : S < 2 ^ 30) (hv47 : S ≤ ln 47)
    (hS : gS D cA A H0 o ad ln iv n H locs) (hl : lv_has ls 4 [(0, .ref (ad 0))])
    (kret : ∀ (r : Int32) (iv' : Nat → Nat → Int32) (H : Heap) (locs : List Loc) (ls : Array Slot) (pc : Nat), decode cX6_checkByte pc = .ok (.ireturn, 1) → (r = jrem (bsum (hsum (fun i9 => if i9 = 0 then nI 67 else if i9 = 1 then nI 84 else if i9 = 2 then iv 0 0 else if i9 = 3 then iv 0 1 else if i9 = 4 then iv 25 5 else iv 46 1) 6) (fun i => (if iv 47 (2 * i) = -1 then nI 15 else if nI 14 < iv 47 (2 * i) then nI 14 else iv 47 (2 * i)) + nI 16 * (if 2 * i + 1 < S then (if iv 47 (2 * i + 1) = -1 then nI 15 else if nI 14 < iv 47 (2 * i + 1) then nI 14 else iv 47 (2 * i + 1)) else nI 0)) ((S + 1) / 2)) (nI 251) ∧ iv' = iv) → gS D cA A H0 o ad ln iv' n H locs → W p l e R s m args below meth c H locs cells slots Q (F0 m pc ls [.int r])) :
    W p l e R s m args below meth c H locs cells slots Q (F0 m 0 ls []) := by
  obtain ⟨hx, hb, hml, hown, hts, hr, hlocks⟩ := F
  refine lv_iconst (v := nI 0) hx hb dX6_checkByte_0 (by decide) ?_
  refine gx_as (y := (hsum (fun i9 => if i9 = 0 then nI 67 else if i9 = 1 then nI 84 else if i9 = 2 then iv 0 0 else if i9 = 3 then iv 0 1 else if i9 = 4 then iv 25 5 else iv 46 1) 0)) rfl ?_
  refine lv_istore_n (lv' := [(1, .int (hsum (fun i9 => if i9 = 0 then nI 67 else if i9 = 1 then nI 84 else if i9 = 2 then iv 0 0 else if i9 = 3 then iv 0 1 else if i9 = 4 then iv 25 5 else iv 46 1) 0)), (0, .ref (ad 0))]) hx hb dX6_checkByte_1 rfl hl (by decide) rfl (fun ls hl => ?_)
  refine lv_iconst (v := nI 0) hx hb dX6_checkByte_2 (by decide) ?_
  refine lv_istore_n (lv' := [(2, .int (nI 0)), (1, .int (hsum (fun i9 => if i9 = 0 then nI 67 else if i9 = 1 then nI 84 else if i9 = 2 then iv 0 0 else if i9 = 3 then iv 0 1 else if i9 = 4 then iv 25 5 else iv 46 1) 0)), (0, .ref (ad 0))]) hx hb dX6_checkByte_3 rfl hl (by decide) rfl (fun ls hl => ?_)
  have L4 : ∀ (N : Nat) (i : Nat), 6 - i < N → (i ≤ 6) → ∀ (H : Heap) (locs : List Loc) (ls : Array Slot), gS D cA A H0 o ad ln iv n H locs → lv_has ls 4 [(0, .ref (ad 0)), (1, .int (hsum (fun i9 => if i9 = 0 then nI 67 else if i9 = 1 then nI 84 else if i9 = 2 then iv 0 0 else if i9 = 3 then iv 0 1 else if i9 = 4 then iv 25 5 else iv 46 1) i)), (2, .int (nI i))] → W p l e R s m args below meth c H locs cells slots Q (F0 m 4 ls []) := by
    intro N
    induction N with
    | zero => intro i hm; exact absurd hm (Nat.not_lt_zero _)
    | succ N ih4 =>
      intro i hm hi H locs ls hS hl
      refine lv_iload_n hx hb dX6_checkByte_4 rfl (lv_at hl 2 rfl) ?_
      refine lv_bipush (v := nI 6) hx hb dX6_checkByte_5 (by decide) ?_
      refine lv_icmp_ge (tgt := 24) hx hb dX6_checkByte_7 (by decide) (fun c_7 => ?_) (fun c_7 => ?_)
      · skip
        rw [nI_leI (by omega) (by omega)] at c_7
        have e6 : i = 6 := by omega
        subst e6
        refine lv_aload_n hx hb dX6_checkByte_24 rfl (lv_at hl 0 rfl) ?_
        refine gx_get (ci := 9) (v := .ref (ad 46)) (C := RX6) (T := TX6) (N := 15) hx hb hts (fun _ h => inX6_checkByte_RX6 h) hown hK hS 0 (by omega) rfl rfl 13 (by decide) (hts (.fieldLink RX6 79 "CosetTables" "table" "LCosetTables$Table;") (by decide +kernel)) rfl dX6_checkByte_25 ?_
        refine gc_i (gx_runV (As := []) (rest := []) ⟨hx, hb, hml, hown, hts⟩ hK hN hS 46 (by omega) rfl rfl (ct_X5_bodyBytes l D cA o ad ln n H.size iv (S := S) hn hln hs hS9) (cwV 0 hts gX6_checkByte_X5_bodyBytes rfl rfl rfl (by decide +kernel) ⟨gle hRf rfl, gle hRl rfl⟩) rfl rfl hl.1 rfl (lv_room (Nat.le_of_ble_eq_true rfl)) dX6_checkByte_28 ⟨hRc, hRs⟩) hS hA (fun z iv2 H locs hp2 hS => ?_)
        obtain ⟨ez, ev2⟩ := hp2
        rw [ev2] at hS
        refine gx_as (y := nI ((S + 1) / 2)) ez ?_
        skip
        refine lv_istore_n (lv' := [(2, .int (nI ((S + 1) / 2))), (0, .ref (ad 0)), (1, .int (bsum (hsum (fun i9 => if i9 = 0 then nI 67 else if i9 = 1 then nI 84 else if i9 = 2 then iv 0 0 else if i9 = 3 then iv 0 1 else if i9 = 4 then iv 25 5 else iv 46 1) 6) (fun i => (if iv 47 (2 * i) = -1 then nI 15 else if nI 14 < iv 47 (2 * i) then nI 14 else iv 47 (2 * i)) + nI 16 * (if 2 * i + 1 < S then (if iv 47 (2 * i + 1) = -1 then nI 15 else if nI 14 < iv 47 (2 * i + 1) then nI 14 else iv 47 (2 * i + 1)) else nI 0)) 0))]) hx hb dX6_checkByte_31 rfl hl (by decide) rfl (fun ls hl => ?_)
        refine lv_iconst (v := nI 0) hx hb dX6_checkByte_32 (by decide) ?_
        refine lv_istore_n (lv' := [(3, .int (nI 0)), (2, .int (nI ((S + 1) / 2))), (0, .ref (ad 0)), (1, .int (bsum (hsum (fun i9 => if i9 = 0 then nI 67 else if i9 = 1 then nI 84 else if i9 = 2 then iv 0 0 else if i9 = 3 then iv 0 1 else if i9 = 4 then iv 25 5 else iv 46 1) 6) (fun i => (if iv 47 (2 * i) = -1 then nI 15 else if nI 14 < iv 47 (2 * i) then nI 14 else iv 47 (2 * i)) + nI 16 * (if 2 * i + 1 < S then (if iv 47 (2 * i + 1) = -1 then nI 15 else if nI 14 < iv 47 (2 * i + 1) then nI 14 else iv 47 (2 * i + 1)) else nI 0)) 0))]) hx hb dX6_checkByte_33 rfl hl (by decide) rfl (fun ls hl => ?_)
        have L34 : ∀ (N : Nat) (k : Nat), (S + 1) / 2 - k < N → (k ≤ (S + 1) / 2) → ∀ (H : Heap) (locs : List Loc) (ls : Array Slot), gS D cA A H0 o ad ln iv n H locs → lv_has ls 4 [(0, .ref (ad 0)), (1, .int (bsum (hsum (fun i9 => if i9 = 0 then nI 67 else if i9 = 1 then nI 84 else if i9 = 2 then iv 0 0 else if i9 = 3 then iv 0 1 else if i9 = 4 then iv 25 5 else iv 46 1) 6) (fun i => (if iv 47 (2 * i) = -1 then nI 15 else if nI 14 < iv 47 (2 * i) then nI 14 else iv 47 (2 * i)) + nI 16 * (if 2 * i + 1 < S then (if iv 47 (2 * i + 1) = -1 then nI 15 else if nI 14 < iv 47 (2 * i + 1) then nI 14 else iv 47 (2 * i + 1)) else nI 0)) k)), (2, .int (nI ((S + 1) / 2))), (3, .int (nI k))] → W p l e R s m args below meth c H locs cells slots Q (F0 m 34 ls []) := by
          intro N
          induction N with
          | zero => intro k hm; exact absurd hm (Nat.not_lt_zero _)
          | succ N ih34 =>
            intro k hm hk H locs ls hS hl
            refine lv_iload_n hx hb dX6_checkByte_34 rfl (lv_at hl 3 rfl) ?_
            refine lv_iload_n hx hb dX6_checkByte_35 rfl (lv_at hl 2 rfl) ?_
            refine lv_icmp_ge (tgt := 60) hx hb dX6_checkByte_36 (by decide) (fun c_36 => ?_) (fun c_36 => ?_)
            · skip
              rw [nI_leI (by omega) (by omega)] at c_36
              refine lv_iload_n hx hb dX6_checkByte_60 rfl (lv_at hl 1 rfl) ?_
              refine lv_sipush (v := nI 251) hx hb dX6_checkByte_61 (by decide) ?_
              refine lv_irem hx hb dX6_checkByte_64 (by decide) ?_
              refine gx_as (y := jrem (bsum (hsum (fun i9 => if i9 = 0 then nI 67 else if i9 = 1 then nI 84 else if i9 = 2 then iv 0 0 else if i9 = 3 then iv 0 1 else if i9 = 4 then iv 25 5 else iv 46 1) 6) (fun i => (if iv 47 (2 * i) = -1 then nI 15 else if nI 14 < iv 47 (2 * i) then nI 14 else iv 47 (2 * i)) + nI 16 * (if 2 * i + 1 < S then (if iv 47 (2 * i + 1) = -1 then nI 15 else if nI 14 < iv 47 (2 * i + 1) then nI 14 else iv 47 (2 * i + 1)) else nI 0)) k) (nI 251)) rfl ?_
              exact kret _ iv _ _ _ _ dX6_checkByte_65 (⟨by rw [show (S + 1) / 2 = k by omega], rfl⟩) hS
            · skip
              rw [nI_leI (by omega) (by omega)] at c_36
              refine lv_iload_n hx hb dX6_checkByte_39 rfl (lv_at hl 1 rfl) ?_
              refine lv_aload_n hx hb dX6_checkByte_40 rfl (lv_at hl 0 rfl) ?_
              refine gx_get (ci := 9) (v := .ref (ad 46)) (C := RX6) (T := TX6) (N := 15) hx hb hts (fun _ h => inX6_checkByte_RX6 h) hown hK hS 0 (by omega) rfl rfl 13 (by decide) (hts (.fieldLink RX6 79 "CosetTables" "table" "LCosetTables$Table;") (by decide +kernel)) rfl dX6_checkByte_41 ?_
              refine lv_iload_n hx hb dX6_checkByte_44 rfl (lv_at hl 3 rfl) ?_
              refine gc_i (gx_runV (As := [.int (nI k)]) (rest := [.int (bsum (hsum (fun i9 => if i9 = 0 then nI 67 else if i9 = 1 then nI 84 else if i9 = 2 then iv 0 0 else if i9 = 3 then iv 0 1 else if i9 = 4 then iv 25 5 else iv 46 1) 6) (fun i => (if iv 47 (2 * i) = -1 then nI 15 else if nI 14 < iv 47 (2 * i) then nI 14 else iv 47 (2 * i)) + nI 16 * (if 2 * i + 1 < S then (if iv 47 (2 * i + 1) = -1 then nI 15 else if nI 14 < iv 47 (2 * i + 1) then nI 14 else iv 47 (2 * i + 1)) else nI 0)) k)]) ⟨hx, hb, hml, hown, hts⟩ hK hN hS 46 (by omega) rfl rfl (ct_X5_bodyByte l D cA o ad ln n H.size iv (i := k) (S := S) hn hln hs hS9 (by omega) hv47) (cwV 1 hts gX6_checkByte_X5_bodyByte rfl rfl rfl (by decide +kernel) ⟨gle hRf rfl, gle hRl rfl⟩) rfl rfl hl.1 rfl (lv_room (Nat.le_of_ble_eq_true rfl)) dX6_checkByte_45 ⟨hRc, hRs⟩) hS hA (fun x iv3 H locs hp3 hS => ?_)
              obtain ⟨ex, ev3⟩ := hp3
              rw [ev3] at hS
              skip
              refine lv_iadd hx hb dX6_checkByte_48 ?_
              refine lv_sipush (v := nI 251) hx hb dX6_checkByte_49 (by decide) ?_
              refine lv_irem hx hb dX6_checkByte_52 (by decide) ?_
              refine gx_as (y := (bsum (hsum (fun i9 => if i9 = 0 then nI 67 else if i9 = 1 then nI 84 else if i9 = 2 then iv 0 0 else if i9 = 3 then iv 0 1 else if i9 = 4 then iv 25 5 else iv 46 1) 6) (fun i => (if iv 47 (2 * i) = -1 then nI 15 else if nI 14 < iv 47 (2 * i) then nI 14 else iv 47 (2 * i)) + nI 16 * (if 2 * i + 1 < S then (if iv 47 (2 * i + 1) = -1 then nI 15 else if nI 14 < iv 47 (2 * i + 1) then nI 14 else iv 47 (2 * i + 1)) else nI 0)) (k + 1))) (by rw [ex]; rfl) ?_
              refine gx_as (y := (bsum (hsum (fun i9 => if i9 = 0 then nI 67 else if i9 = 1 then nI 84 else if i9 = 2 then iv 0 0 else if i9 = 3 then iv 0 1 else if i9 = 4 then iv 25 5 else iv 46 1) 6) (fun i => (if iv 47 (2 * i) = -1 then nI 15 else if nI 14 < iv 47 (2 * i) then nI 14 else iv 47 (2 * i)) + nI 16 * (if 2 * i + 1 < S then (if iv 47 (2 * i + 1) = -1 then nI 15 else if nI 14 < iv 47 (2 * i + 1) then nI 14 else iv 47 (2 * i + 1)) else nI 0)) (k + 1))) rfl ?_
              refine lv_istore_n (lv' := [(1, .int (bsum (hsum (fun i9 => if i9 = 0 then nI 67 else if i9 = 1 then nI 84 else if i9 = 2 then iv 0 0 else if i9 = 3 then iv 0 1 else if i9 = 4 then iv 25 5 else iv 46 1) 6) (fun i => (if iv 47 (2 * i) = -1 then nI 15 else if nI 14 < iv 47 (2 * i) then nI 14 else iv 47 (2 * i)) + nI 16 * (if 2 * i + 1 < S then (if iv 47 (2 * i + 1) = -1 then nI 15 else if nI 14 < iv 47 (2 * i + 1) then nI 14 else iv 47 (2 * i + 1)) else nI 0)) (k + 1))), (0, .ref (ad 0)), (2, .int (nI ((S + 1) / 2))), (3, .int (nI k))]) hx hb dX6_checkByte_53 rfl hl (by decide) rfl (fun ls hl => ?_)
              refine lv_iinc (v := nI (k + 1)) (lv' := [(3, .int (nI (k + 1))), (1, .int (bsum (hsum (fun i9 => if i9 = 0 then nI 67 else if i9 = 1 then nI 84 else if i9 = 2 then iv 0 0 else if i9 = 3 then iv 0 1 else if i9 = 4 then iv 25 5 else iv 46 1) 6) (fun i => (if iv 47 (2 * i) = -1 then nI 15 else if nI 14 < iv 47 (2 * i) then nI 14 else iv 47 (2 * i)) + nI 16 * (if 2 * i + 1 < S then (if iv 47 (2 * i + 1) = -1 then nI 15 else if nI 14 < iv 47 (2 * i + 1) then nI 14 else iv 47 (2 * i + 1)) else nI 0)) (k + 1))), (0, .ref (ad 0)), (2, .int (nI ((S + 1) / 2)))]) hx hb dX6_checkByte_54 hl (k := 3) rfl (nI_1 k) (by decide) rfl (fun ls hl => ?_)
              refine lv_goto (tgt := 34) hx hb dX6_checkByte_57 (by decide) ?_
              exact ih34 (k + 1) (by omega) (by omega) _ _ _ hS (lv_sub hl [2, 1, 3, 0] rfl)
        exact L34 _ 0 (Nat.lt_succ_self _) (Nat.zero_le _) _ _ _ hS (lv_sub hl [2, 3, 1, 0] rfl)
      · skip
        rw [nI_leI (by omega) (by omega)] at c_7
        refine lv_iload_n hx hb dX6_checkByte_10 rfl (lv_at hl 1 rfl) ?_
        refine lv_aload_n hx hb dX6_checkByte_11 rfl (lv_at hl 0 rfl) ?_
        refine lv_iload_n hx hb dX6_checkByte_12 rfl (lv_at hl 2 rfl) ?_
        refine gc_i (gx_runV (As := [.int (nI i)]) (rest := [.int (hsum (fun i9 => if i9 = 0 then nI 67 else if i9 = 1 then nI 84 else if i9 = 2 then iv 0 0 else if i9 = 3 then iv 0 1 else if i9 = 4 then iv 25 5 else iv 46 1) i)]) ⟨hx, hb, hml, hown, hts⟩ hK hN hS 0 (by omega) rfl rfl (ct_X6_headerByte l D cA o ad ln n H.size iv (i9 := i) hn hln (by omega)) (cwV 1 hts gX6_checkByte_X6_headerByte rfl rfl rfl (by decide +kernel) ⟨gle hRf rfl, gle hRl rfl⟩) rfl rfl hl.1 rfl (lv_room (Nat.le_of_ble_eq_true rfl)) dX6_checkByte_13 ⟨hRc, hRs⟩) hS hA (fun y iv1 H locs hp1 hS => ?_)
        obtain ⟨ey, ev1⟩ := hp1
        rw [ev1] at hS
        skip
        refine lv_iadd hx hb dX6_checkByte_16 ?_
        refine gx_as (y := (hsum (fun i9 => if i9 = 0 then nI 67 else if i9 = 1 then nI 84 else if i9 = 2 then iv 0 0 else if i9 = 3 then iv 0 1 else if i9 = 4 then iv 25 5 else iv 46 1) (i + 1))) (by rw [ey]; rfl) ?_
        refine gx_as (y := (hsum (fun i9 => if i9 = 0 then nI 67 else if i9 = 1 then nI 84 else if i9 = 2 then iv 0 0 else if i9 = 3 then iv 0 1 else if i9 = 4 then iv 25 5 else iv 46 1) (i + 1))) rfl ?_
        refine lv_istore_n (lv' := [(1, .int (hsum (fun i9 => if i9 = 0 then nI 67 else if i9 = 1 then nI 84 else if i9 = 2 then iv 0 0 else if i9 = 3 then iv 0 1 else if i9 = 4 then iv 25 5 else iv 46 1) (i + 1))), (0, .ref (ad 0)), (2, .int (nI i))]) hx hb dX6_checkByte_17 rfl hl (by decide) rfl (fun ls hl => ?_)
        refine lv_iinc (v := nI (i + 1)) (lv' := [(2, .int (nI (i + 1))), (1, .int (hsum (fun i9 => if i9 = 0 then nI 67 else if i9 = 1 then nI 84 else if i9 = 2 then iv 0 0 else if i9 = 3 then iv 0 1 else if i9 = 4 then iv 25 5 else iv 46 1) (i + 1))), (0, .ref (ad 0))]) hx hb dX6_checkByte_18 hl (k := 2) rfl (nI_1 i) (by decide) rfl (fun ls hl => ?_)
        refine lv_goto (tgt := 4) hx hb dX6_checkByte_21 (by decide) ?_
        exact ih4 (i + 1) (by omega) (by omega) _ _ _ hS (lv_sub hl [2, 1, 0] rfl)
  exact L4 _ 0 (Nat.lt_succ_self _) (Nat.zero_le _) _ _ _ hS (lv_sub hl [2, 1, 0] rfl)
set_option maxRecDepth 100000 in
theorem ct_X6_checkByte (l : Launch) (D : va_G) (cA : Nat → ClassId) (o : Nat → Int64) (ad ln : Nat → Nat) (n sz : Nat) (iv : Nat → Nat → Int32) (S : Nat) (hn : 68 ≤ n) (hln : ∀ k, ln k < 2 ^ 31) (hs : iv 46 2 = nI S) (hS9 : S < 2 ^ 30) (hv47 : S ≤ ln 47) : gMi l yX6_checkByte wsX6_checkByte { frames := 3, cells := 0, slots := 0, locals := 66 } D cA o ad ln n sz iv [.ref (ad 0)] (fun (r : Int32) iv' => r = jrem (bsum (hsum (fun i9 => if i9 = 0 then nI 67 else if i9 = 1 then nI 84 else if i9 = 2 then iv 0 0 else if i9 = 3 then iv 0 1 else if i9 = 4 then iv 25 5 else iv 46 1) 6) (fun i => (if iv 47 (2 * i) = -1 then nI 15 else if nI 14 < iv 47 (2 * i) then nI 14 else iv 47 (2 * i)) + nI 16 * (if 2 * i + 1 < S then (if iv 47 (2 * i + 1) = -1 then nI 15 else if nI 14 < iv 47 (2 * i + 1) then nI 14 else iv 47 (2 * i + 1)) else nI 0)) ((S + 1) / 2)) (nI 251) ∧ iv' = iv) := by
  refine Met.ofW (cc := cX6_checkByte) (maxL := 4) (ret := (some .int)) (by decide) rfl ?_
  intro p e s m args below meth c s₁ B hml hv__
  obtain ⟨rfl, hv__⟩ := hv__
  obtain ⟨hsz, hS, hK, hN, hA⟩ := gS.entry hv__
  have hl := lv_entry ([.ref (ad 0)]) (n := 4) (Nat.le_of_ble_eq_true rfl)
  rw [lg_entry_eq]
  generalize (lg_sl ([.ref (ad 0)]) ++ List.replicate (4 - (lg_sl ([.ref (ad 0)])).length) Slot.unset).toArray = ls at hl ⊢
  exact bd_X6_checkByte (S := S) ⟨B.exec, B.bytes, hml, findClass_of_methodNamed B.named, atoms_spec (ws := wsX6_checkByte) B.pre, B.returns, B.notSynchronized⟩ (Nat.le_refl _) (Nat.le_refl _) (Nat.le_refl _) (Nat.le_refl _) hK hN hA hn hln hs hS9 hv47 hS hl (fun r iv' H locs ls pc hd hp hS => gx_iret B.exec B.bytes B.returns B.notSynchronized hS hp hd)

theorem inX6_file_RX5 : ∀ {w : Cond}, w ∈ u_ws RX5 TX5 6 → w ∈ wsX6_file := fun {w} h => by first | exact List.mem_cons_of_mem _ (List.mem_append_right _ h) | (revert h; revert w; show ∀ w ∈ u_ws RX5 TX5 6, w ∈ wsX6_file; decide +kernel)
theorem inX6_file_RX6 : ∀ {w : Cond}, w ∈ u_ws RX6 TX6 15 → w ∈ wsX6_file := fun {w} h => by first | exact List.mem_cons_of_mem _ (List.mem_append_right _ h) | (revert h; revert w; show ∀ w ∈ u_ws RX6 TX6 15, w ∈ wsX6_file; decide +kernel)
set_option maxHeartbeats 4000000 in
set_option maxRecDepth 100000 in
theorem bd_X6_file {p : Program} {l : Launch} {e : Env} {R : Room} {s : State} {m : MethodId} {args : Array Value} {below : List Frame} {meth : Method} {c : Code} {H : Heap} {locs : List Loc} {cells slots : Nat} {Q : State → Prop} {ls : Array Slot} {D : va_G} {A : Nat → Prop} {H0 : Heap} {cA : Nat → ClassId} {o : Nat → Int64} {ad ln : Nat → Nat} {iv : Nat → Nat → Int32} {n : Nat} {i8 : Int32} {S : Nat}
    (F : gF p s m meth c cX6_file 3 RX6 wsX6_file args (some .int)) (hRf : 4 ≤ R.frames) (hRl : 89 ≤ R.locals) (hRc : cells ≤ R.cells) (hRs : slots ≤ R.slots) (hK : va_K D vwCl (gT cA) s) (hN : NW s) (hA : ∀ q, H0.size ≤ q → A q) (hn : 68 ≤ n) (hln : ∀ k, ln k < 2 ^ 31) (hbt : iv 46 0 ≠ 0 → iv 46 2 = nI S ∧ S < 2 ^ 30 ∧ S ≤ ln 47)
    (hS : gS D cA A H0 o ad ln iv n H locs) (hl : lv_has ls 3 [(0, .ref (ad 0)), (1, .int i8)])
    (kret : ∀ (r : Int32) (iv' : Nat → Nat → Int32) (H : Heap) (locs : List Loc) (ls : Array Slot) (pc : Nat), decode cX6_file pc = .ok (.ireturn, 1) → (r = (if iv 46 0 = 0 ∨ i8 < 0 then -1 else if tn i8 < 6 then (fun i9 => if i9 = 0 then nI 67 else if i9 = 1 then nI 84 else if i9 = 2 then iv 0 0 else if i9 = 3 then iv 0 1 else if i9 = 4 then iv 25 5 else iv 46 1) (tn i8) else if tn i8 < 6 + (S + 1) / 2 then (fun i => (if iv 47 (2 * i) = -1 then nI 15 else if nI 14 < iv 47 (2 * i) then nI 14 else iv 47 (2 * i)) + nI 16 * (if 2 * i + 1 < S then (if iv 47 (2 * i + 1) = -1 then nI 15 else if nI 14 < iv 47 (2 * i + 1) then nI 14 else iv 47 (2 * i + 1)) else nI 0)) (tn i8 - 6) else if tn i8 = 6 + (S + 1) / 2 then jrem (bsum (hsum (fun i9 => if i9 = 0 then nI 67 else if i9 = 1 then nI 84 else if i9 = 2 then iv 0 0 else if i9 = 3 then iv 0 1 else if i9 = 4 then iv 25 5 else iv 46 1) 6) (fun i => (if iv 47 (2 * i) = -1 then nI 15 else if nI 14 < iv 47 (2 * i) then nI 14 else iv 47 (2 * i)) + nI 16 * (if 2 * i + 1 < S then (if iv 47 (2 * i + 1) = -1 then nI 15 else if nI 14 < iv 47 (2 * i + 1) then nI 14 else iv 47 (2 * i + 1)) else nI 0)) ((S + 1) / 2)) (nI 251) else -1) ∧ iv' = iv) → gS D cA A H0 o ad ln iv' n H locs → W p l e R s m args below meth c H locs cells slots Q (F0 m pc ls [.int r])) :
    W p l e R s m args below meth c H locs cells slots Q (F0 m 0 ls []) := by
  obtain ⟨hx, hb, hml, hown, hts, hr, hlocks⟩ := F
  refine lv_aload_n hx hb dX6_file_0 rfl (lv_at hl 0 rfl) ?_
  refine gx_get (ci := 9) (v := .ref (ad 46)) (C := RX6) (T := TX6) (N := 15) hx hb hts (fun _ h => inX6_file_RX6 h) hown hK hS 0 (by omega) rfl rfl 13 (by decide) (hts (.fieldLink RX6 79 "CosetTables" "table" "LCosetTables$Table;") (by decide +kernel)) rfl dX6_file_1 ?_
  refine gx_getN (ci := 8) (v := .int (iv 46 0)) (C := RX5) (T := TX5) (N := 6) hx hb hts (fun _ h => inX6_file_RX5 h) hown hK hS 46 (by omega) rfl rfl 0 (by decide) (nf_RX6_184 hN) rfl dX6_file_4 ?_
  refine lv_if_eq (tgt := 14) hx hb dX6_file_7 (by decide) (fun c_7 => ?_) (fun c_7 => ?_)
  · skip
    refine lv_iconst (v := (-1)) hx hb dX6_file_14 (by decide) ?_
    exact kret _ iv _ _ _ _ dX6_file_15 (⟨by rw [if_pos (Or.inl c_7)], rfl⟩) hS
  · skip
    refine lv_iload_n hx hb dX6_file_10 rfl (lv_at hl 1 rfl) ?_
    refine lv_if_ge (tgt := 16) hx hb dX6_file_11 (by decide) (fun c_11 => ?_) (fun c_11 => ?_)
    · skip
      obtain ⟨hs, hS9, hv47⟩ := hbt c_7
      have c_11 : ¬ i8 < 0 := Int32.not_lt.mpr c_11
      obtain ⟨kk, hkk, ekk⟩ := nI_of c_11
      have etn : tn i8 = kk := by rw [ekk]; exact nI_clamp hkk
      have hno : ¬ (iv 46 0 = 0 ∨ i8 < 0) := fun h => h.elim c_7 c_11
      rw [ekk] at hl
      rw [etn] at kret
      refine lv_bipush (v := nI 6) hx hb dX6_file_16 (by decide) ?_
      refine lv_aload_n hx hb dX6_file_18 rfl (lv_at hl 0 rfl) ?_
      refine gx_get (ci := 9) (v := .ref (ad 46)) (C := RX6) (T := TX6) (N := 15) hx hb hts (fun _ h => inX6_file_RX6 h) hown hK hS 0 (by omega) rfl rfl 13 (by decide) (hts (.fieldLink RX6 79 "CosetTables" "table" "LCosetTables$Table;") (by decide +kernel)) rfl dX6_file_19 ?_
      refine gc_i (gx_runV (As := []) (rest := [.int (nI 6)]) ⟨hx, hb, hml, hown, hts⟩ hK hN hS 46 (by omega) rfl rfl (ct_X5_bodyBytes l D cA o ad ln n H.size iv (S := S) hn hln hs hS9) (cwV 0 hts gX6_file_X5_bodyBytes rfl rfl rfl (by decide +kernel) ⟨gle hRf rfl, gle hRl rfl⟩) rfl rfl hl.1 rfl (lv_room (Nat.le_of_ble_eq_true rfl)) dX6_file_22 ⟨hRc, hRs⟩) hS hA (fun y iv1 H locs hp1 hS => ?_)
      obtain ⟨ey, ev1⟩ := hp1
      rw [ev1] at hS
      refine gx_as (y := nI ((S + 1) / 2)) ey ?_
      skip
      refine lv_iadd hx hb dX6_file_25 ?_
      refine gx_as (y := nI (6 + ((S + 1) / 2))) (nI_add _ _) ?_
      refine lv_istore_n (lv' := [(2, .int (nI (6 + ((S + 1) / 2)))), (0, .ref (ad 0)), (1, .int (nI kk))]) hx hb dX6_file_26 rfl hl (by decide) rfl (fun ls hl => ?_)
      refine lv_iload_n hx hb dX6_file_27 rfl (lv_at hl 2 rfl) ?_
      refine lv_bipush (v := nI 6) hx hb dX6_file_28 (by decide) ?_
      refine lv_icmp_ge (tgt := 39) hx hb dX6_file_30 (by decide) (fun c_30 => ?_) (fun c_30 => ?_)
      · skip
        rw [nI_leI (by omega) (by omega)] at c_30
        refine lv_iload_n hx hb dX6_file_39 rfl (lv_at hl 2 rfl) ?_
        refine lv_iload_n hx hb dX6_file_40 rfl (lv_at hl 0 rfl) ?_
        refine lv_icmp_ge (tgt := 56) hx hb dX6_file_41 (by decide) (fun c_41 => ?_) (fun c_41 => ?_)
        · skip
          rw [nI_leI (by omega) (by omega)] at c_41
          refine lv_iload_n hx hb dX6_file_56 rfl (lv_at hl 2 rfl) ?_
          refine lv_iload_n hx hb dX6_file_57 rfl (lv_at hl 0 rfl) ?_
          refine lv_icmp_ne (tgt := 68) hx hb dX6_file_58 (by decide) (fun c_58 => ?_) (fun c_58 => ?_)
          · skip
            rw [nI_eq (by omega) (by omega)] at c_58
            refine lv_iconst (v := (-1)) hx hb dX6_file_68 (by decide) ?_
            exact kret _ iv _ _ _ _ dX6_file_69 (⟨by rw [if_neg hno, if_neg (show ¬ kk < 6 by omega), if_neg (show ¬ kk < 6 + (S + 1) / 2 by omega), if_neg (show ¬ kk = 6 + (S + 1) / 2 by omega)], rfl⟩) hS
          · skip
            rw [nI_eq (by omega) (by omega)] at c_58
            refine lv_aload_n hx hb dX6_file_61 rfl (lv_at hl 1 rfl) ?_
            refine gc_i (gx_runV (As := []) (rest := []) ⟨hx, hb, hml, hown, hts⟩ hK hN hS 0 (by omega) rfl rfl (ct_X6_checkByte l D cA o ad ln n H.size iv (S := S) hn hln hs hS9 hv47) (cwV 0 hts gX6_file_X6_checkByte rfl rfl rfl (by decide +kernel) ⟨gle hRf rfl, gle hRl rfl⟩) rfl rfl hl.1 rfl (lv_room (Nat.le_of_ble_eq_true rfl)) dX6_file_62 ⟨hRc, hRs⟩) hS hA (fun w iv4 H locs hp4 hS => ?_)
            obtain ⟨ew, ev4⟩ := hp4
            rw [ev4] at hS
            skip
            refine lv_goto (tgt := 69) hx hb dX6_file_65 (by decide) ?_
            exact kret _ iv _ _ _ _ dX6_file_69 (⟨by rw [if_neg hno, if_neg (show ¬ kk < 6 by omega), if_neg (show ¬ kk < 6 + (S + 1) / 2 by omega), if_pos (show kk = 6 + (S + 1) / 2 by omega), ew], rfl⟩) hS
        · skip
          rw [nI_leI (by omega) (by omega)] at c_41
          refine lv_aload_n hx hb dX6_file_44 rfl (lv_at hl 1 rfl) ?_
          refine gx_get (ci := 9) (v := .ref (ad 46)) (C := RX6) (T := TX6) (N := 15) hx hb hts (fun _ h => inX6_file_RX6 h) hown hK hS 0 (by omega) rfl rfl 13 (by decide) (hts (.fieldLink RX6 79 "CosetTables" "table" "LCosetTables$Table;") (by decide +kernel)) rfl dX6_file_45 ?_
          refine lv_iload_n hx hb dX6_file_48 rfl (lv_at hl 2 rfl) ?_
          refine lv_bipush (v := nI 6) hx hb dX6_file_49 (by decide) ?_
          refine lv_isub hx hb dX6_file_51 ?_
          refine gx_as (y := nI (kk - 6)) (pk_sub (by omega)) ?_
          refine gc_i (gx_runV (As := [.int (nI (kk - 6))]) (rest := []) ⟨hx, hb, hml, hown, hts⟩ hK hN hS 46 (by omega) rfl rfl (ct_X5_bodyByte l D cA o ad ln n H.size iv (i := kk - 6) (S := S) hn hln hs hS9 (by omega) hv47) (cwV 1 hts gX6_file_X5_bodyByte rfl rfl rfl (by decide +kernel) ⟨gle hRf rfl, gle hRl rfl⟩) rfl rfl hl.1 rfl (lv_room (Nat.le_of_ble_eq_true rfl)) dX6_file_52 ⟨hRc, hRs⟩) hS hA (fun x iv3 H locs hp3 hS => ?_)
          obtain ⟨ex, ev3⟩ := hp3
          rw [ev3] at hS
          skip
          exact kret _ iv _ _ _ _ dX6_file_55 (⟨by rw [if_neg hno, if_neg (show ¬ kk < 6 by omega), if_pos (show kk < 6 + (S + 1) / 2 by omega), ex], rfl⟩) hS
      · skip
        rw [nI_leI (by omega) (by omega)] at c_30
        refine lv_aload_n hx hb dX6_file_33 rfl (lv_at hl 1 rfl) ?_
        refine lv_iload_n hx hb dX6_file_34 rfl (lv_at hl 2 rfl) ?_
        refine gc_i (gx_runV (As := [.int (nI kk)]) (rest := []) ⟨hx, hb, hml, hown, hts⟩ hK hN hS 0 (by omega) rfl rfl (ct_X6_headerByte l D cA o ad ln n H.size iv (i9 := kk) hn hln (by omega)) (cwV 1 hts gX6_file_X6_headerByte rfl rfl rfl (by decide +kernel) ⟨gle hRf rfl, gle hRl rfl⟩) rfl rfl hl.1 rfl (lv_room (Nat.le_of_ble_eq_true rfl)) dX6_file_35 ⟨hRc, hRs⟩) hS hA (fun z iv2 H locs hp2 hS => ?_)
        obtain ⟨ez, ev2⟩ := hp2
        rw [ev2] at hS
        skip
        exact kret _ iv _ _ _ _ dX6_file_38 (⟨by rw [if_neg hno, if_pos (show kk < 6 by omega), ez], rfl⟩) hS
    · skip
      refine lv_iconst (v := (-1)) hx hb dX6_file_14 (by decide) ?_
      exact kret _ iv _ _ _ _ dX6_file_15 (⟨by rw [if_pos (Or.inr (Int32.not_le.mp c_11))], rfl⟩) hS
set_option maxRecDepth 100000 in
theorem ct_X6_file (l : Launch) (D : va_G) (cA : Nat → ClassId) (o : Nat → Int64) (ad ln : Nat → Nat) (n sz : Nat) (iv : Nat → Nat → Int32) (i8 : Int32) (S : Nat) (hn : 68 ≤ n) (hln : ∀ k, ln k < 2 ^ 31) (hbt : iv 46 0 ≠ 0 → iv 46 2 = nI S ∧ S < 2 ^ 30 ∧ S ≤ ln 47) : gMi l yX6_file wsX6_file { frames := 4, cells := 0, slots := 0, locals := 89 } D cA o ad ln n sz iv [.ref (ad 0), .int i8] (fun (r : Int32) iv' => r = (if iv 46 0 = 0 ∨ i8 < 0 then -1 else if tn i8 < 6 then (fun i9 => if i9 = 0 then nI 67 else if i9 = 1 then nI 84 else if i9 = 2 then iv 0 0 else if i9 = 3 then iv 0 1 else if i9 = 4 then iv 25 5 else iv 46 1) (tn i8) else if tn i8 < 6 + (S + 1) / 2 then (fun i => (if iv 47 (2 * i) = -1 then nI 15 else if nI 14 < iv 47 (2 * i) then nI 14 else iv 47 (2 * i)) + nI 16 * (if 2 * i + 1 < S then (if iv 47 (2 * i + 1) = -1 then nI 15 else if nI 14 < iv 47 (2 * i + 1) then nI 14 else iv 47 (2 * i + 1)) else nI 0)) (tn i8 - 6) else if tn i8 = 6 + (S + 1) / 2 then jrem (bsum (hsum (fun i9 => if i9 = 0 then nI 67 else if i9 = 1 then nI 84 else if i9 = 2 then iv 0 0 else if i9 = 3 then iv 0 1 else if i9 = 4 then iv 25 5 else iv 46 1) 6) (fun i => (if iv 47 (2 * i) = -1 then nI 15 else if nI 14 < iv 47 (2 * i) then nI 14 else iv 47 (2 * i)) + nI 16 * (if 2 * i + 1 < S then (if iv 47 (2 * i + 1) = -1 then nI 15 else if nI 14 < iv 47 (2 * i + 1) then nI 14 else iv 47 (2 * i + 1)) else nI 0)) ((S + 1) / 2)) (nI 251) else -1) ∧ iv' = iv) := by
  refine Met.ofW (cc := cX6_file) (maxL := 3) (ret := (some .int)) (by decide) rfl ?_
  intro p e s m args below meth c s₁ B hml hv__
  obtain ⟨rfl, hv__⟩ := hv__
  obtain ⟨hsz, hS, hK, hN, hA⟩ := gS.entry hv__
  have hl := lv_entry ([.ref (ad 0), .int i8]) (n := 3) (Nat.le_of_ble_eq_true rfl)
  rw [lg_entry_eq]
  generalize (lg_sl ([.ref (ad 0), .int i8]) ++ List.replicate (3 - (lg_sl ([.ref (ad 0), .int i8])).length) Slot.unset).toArray = ls at hl ⊢
  exact bd_X6_file (i8 := i8) (S := S) ⟨B.exec, B.bytes, hml, findClass_of_methodNamed B.named, atoms_spec (ws := wsX6_file) B.pre, B.returns, B.notSynchronized⟩ (Nat.le_refl _) (Nat.le_refl _) (Nat.le_refl _) (Nat.le_refl _) hK hN hA hn hln hbt hS hl (fun r iv' H locs ls pc hd hp hS => gx_iret B.exec B.bytes B.returns B.notSynchronized hS hp hd)

theorem inX6_fewestTimes_RX5 : ∀ {w : Cond}, w ∈ u_ws RX5 TX5 6 → w ∈ wsX6_fewestTimes := fun {w} h => by first | exact List.mem_cons_of_mem _ (List.mem_append_right _ h) | (revert h; revert w; show ∀ w ∈ u_ws RX5 TX5 6, w ∈ wsX6_fewestTimes; decide +kernel)
theorem inX6_fewestTimes_RX6 : ∀ {w : Cond}, w ∈ u_ws RX6 TX6 15 → w ∈ wsX6_fewestTimes := fun {w} h => by first | exact List.mem_cons_of_mem _ (List.mem_append_right _ h) | (revert h; revert w; show ∀ w ∈ u_ws RX6 TX6 15, w ∈ wsX6_fewestTimes; decide +kernel)
set_option maxHeartbeats 4000000 in
set_option maxRecDepth 100000 in
theorem bd_X6_fewestTimes {p : Program} {l : Launch} {e : Env} {R : Room} {s : State} {m : MethodId} {args : Array Value} {below : List Frame} {meth : Method} {c : Code} {H : Heap} {locs : List Loc} {cells slots : Nat} {Q : State → Prop} {ls : Array Slot} {D : va_G} {A : Nat → Prop} {H0 : Heap} {cA : Nat → ClassId} {o : Nat → Int64} {ad ln : Nat → Nat} {iv : Nat → Nat → Int32} {n : Nat} {j9 m9 mc9 P c9 T : Nat} {x9 : Int32} {pc9 w t : Nat → Nat} {G9 Ad : Nat → Nat → Nat}
    (F : gF p s m meth c cX6_fewestTimes 6 RX6 wsX6_fewestTimes args (some .int)) (hRf : 4 ≤ R.frames) (hRl : 87 ≤ R.locals) (hRc : cells ≤ R.cells) (hRs : slots ≤ R.slots) (hK : va_K D vwCl (gT cA) s) (hN : NW s) (hA : ∀ q, H0.size ≤ q → A q) (hn : 68 ≤ n) (hln : ∀ k, ln k < 2 ^ 31) (hLn : lnOk ln P) (hc9 : iv 25 5 = nI c9) (hc4 : c9 ≤ 4) (hT0 : iv 25 1 = nI T) (hT1 : 0 < T) (hT3 : T ≤ 3) (hP : P ≤ 8) (hpc : ∀ i, i < c9 → iv 27 i = nI (pc9 i)) (hpi : inj pc9 P c9) (hP0 : iv 25 0 = nI P) (hnw : holdsAt iv 29 c9 pc9 w t) (hwi : inj w P c9) (htT : ∀ i, i < c9 → t i < T) (hin9 : ∀ p, p < P → vp_in (iv 30 p) P) (hw33 : ∀ p, p < P → vp_in (iv 33 p) P) (hmv : ∀ j, j < mc9 → moveAt iv (2 + 3 * j) P T (G9 j) (Ad j) ∧ inj (G9 j) P P) (hmc6 : mc9 ≤ 6) (hb9 : iv 46 0 = 1) (hm9 : iv 46 1 = nI m9) (hm92 : m9 < 2) (hl47 : ff P c9 * T ^ c9 ≤ ln 47) (hj9 : j9 < mc9)
    (hS : gS D cA A H0 o ad ln iv n H locs) (hl : lv_has ls 6 [(0, .ref (ad 0)), (1, .int (nI j9)), (2, .int x9)])
    (kret : ∀ (r : Int32) (iv' : Nat → Nat → Int32) (H : Heap) (locs : List Loc) (ls : Array Slot) (pc : Nat), decode cX6_fewestTimes pc = .ok (.ireturn, 1) → (r = nI (fs0 (fun k => okv (iv 47 (num P T c9 (fun i => itg (G9 j9) k (w i)) (atw T (G9 j9) (Ad j9) w t k))) x9) (if m9 = 0 then 1 else ordr P T (G9 j9) (Ad j9) - 1) 1) ∧ (∀ p, p < P → vp_in (iv' 33 p) P) ∧ ∀ q, q ≠ 33 → q ≠ 34 → iv' q = iv q) → gS D cA A H0 o ad ln iv' n H locs → W p l e R s m args below meth c H locs cells slots Q (F0 m pc ls [.int r])) :
    W p l e R s m args below meth c H locs cells slots Q (F0 m 0 ls []) := by
  obtain ⟨hx, hb, hml, hown, hts, hr, hlocks⟩ := F
  obtain ⟨hL1, hL2, ⟨h26, h27, h28⟩, ⟨h30, h31, h33, h34, h36, h37⟩, h39, h40, h41⟩ := hLn
  obtain ⟨hmj, hGi⟩ := hmv j9 hj9
  have hpw := pw_le4 hT3 hc4
  have hff := ff_le4 hP hc4
  have hm99 := Nat.mul_le_mul hff hpw
  have hor := ordr_in P T (G9 j9) (Ad j9)
  obtain ⟨mo, hmo⟩ : ∃ mo, mo = (if m9 = 0 then 1 else ordr P T (G9 j9) (Ad j9) - 1) := ⟨_, rfl⟩
  rw [← hmo] at kret
  have hmo64 : mo ≤ 64 := by rw [hmo]; split <;> omega
  refine lv_aload_n hx hb dX6_fewestTimes_0 rfl (lv_at hl 0 rfl) ?_
  refine lv_iload_n hx hb dX6_fewestTimes_1 rfl (lv_at hl 1 rfl) ?_
  refine lv_aload_n hx hb dX6_fewestTimes_2 rfl (lv_at hl 0 rfl) ?_
  refine gx_get (ci := 9) (v := .ref (ad 46)) (C := RX6) (T := TX6) (N := 15) hx hb hts (fun _ h => inX6_fewestTimes_RX6 h) hown hK hS 0 (by omega) rfl rfl 13 (by decide) (hts (.fieldLink RX6 79 "CosetTables" "table" "LCosetTables$Table;") (by decide +kernel)) rfl dX6_fewestTimes_3 ?_
  refine gx_getN (ci := 8) (v := .int (iv 46 1)) (C := RX5) (T := TX5) (N := 6) hx hb hts (fun _ h => inX6_fewestTimes_RX5 h) hown hK hS 46 (by omega) rfl rfl 1 (by decide) (nf_RX6_241 hN) rfl dX6_fewestTimes_6 ?_
  refine gx_as (y := nI m9) hm9 ?_
  refine gc_i (gx_runV (As := [.int (nI j9), .int (nI m9)]) (rest := []) ⟨hx, hb, hml, hown, hts⟩ hK hN hS 0 (by omega) rfl rfl (ct_X6_mostRepeats l D cA o ad ln n H.size iv (j9 := j9) (m9 := m9) (P := P) (T := T) (G9 := G9 j9) (Ad := Ad j9) hn hln hT1 hT3 hP h33 h34 (by omega) (by omega) (hL1 j9 (by omega)).1 (hL1 j9 (by omega)).2 hmj hw33) (cwV 2 hts gX6_fewestTimes_X6_mostRepeats rfl rfl rfl (by decide +kernel) ⟨gle hRf rfl, gle hRl rfl⟩) rfl rfl hl.1 rfl (lv_room (Nat.le_of_ble_eq_true rfl)) dX6_fewestTimes_9 ⟨hRc, hRs⟩) hS hA (fun y iv1 H locs hp1 hS => ?_)
  obtain ⟨ey, hy1, hy2⟩ := hp1
  rw [← hmo] at ey
  refine gx_as (y := nI mo) ey ?_
  refine lv_istore_n (lv' := [(3, .int (nI mo)), (0, .ref (ad 0)), (1, .int (nI j9)), (2, .int x9)]) hx hb dX6_fewestTimes_12 rfl hl (by decide) rfl (fun ls hl => ?_)
  refine lv_aload_n hx hb dX6_fewestTimes_13 rfl (lv_at hl 1 rfl) ?_
  refine gx_get (ci := 9) (v := .ref (ad 32)) (C := RX6) (T := TX6) (N := 15) hx hb hts (fun _ h => inX6_fewestTimes_RX6 h) hown hK hS 0 (by omega) rfl rfl 8 (by decide) (hts (.fieldLink RX6 55 "CosetTables" "walker" "LCosetTables$State;") (by decide +kernel)) rfl dX6_fewestTimes_14 ?_
  refine lv_aload_n hx hb dX6_fewestTimes_17 rfl (lv_at hl 1 rfl) ?_
  refine gx_get (ci := 9) (v := .ref (ad 29)) (C := RX6) (T := TX6) (N := 15) hx hb hts (fun _ h => inX6_fewestTimes_RX6 h) hown hK hS 0 (by omega) rfl rfl 7 (by decide) (hts (.fieldLink RX6 51 "CosetTables" "now" "LCosetTables$State;") (by decide +kernel)) rfl dX6_fewestTimes_18 ?_
  refine gc_v (gx_runV (As := [.ref (ad 29)]) (rest := []) ⟨hx, hb, hml, hown, hts⟩ hK hN hS 32 (by omega) rfl rfl (ct_X3_copy l D cA o ad ln n H.size iv1 (b := 32) (b2 := 29) (P := P) hn hln (by decide) (by decide) (by decide) h33 h34 h30 h31 hP) (cwV 1 hts gX6_fewestTimes_X3_copy rfl rfl rfl (by decide +kernel) ⟨gle hRf rfl, gle hRl rfl⟩) rfl rfl hl.1 rfl (lv_room (Nat.le_of_ble_eq_true rfl)) dX6_fewestTimes_21 ⟨hRc, hRs⟩) hS hA (fun iv2 H locs hp2 hS => ?_)
  have ho2 : ∀ q, q ≠ 33 → q ≠ 34 → iv2 q = iv q := fun q q1 q2 => by rw [hp2.2.2 q q1 q2, hy2 q q1 q2]
  have hh2 : holdsAt iv2 32 c9 pc9 (fun q => itg (G9 j9) 0 (w q)) (atw T (G9 j9) (Ad j9) w t 0) := by
    refine ⟨fun q hq => ?_, fun q hq => ?_⟩
    · rw [hp2.1, if_pos (hpi.1 q hq), show iv1 (29 + 1) = iv 30 from hy2 30 (by decide) (by decide)]; exact hnw.1 q hq
    · rw [hp2.2.1, if_pos (hpi.1 q hq), show iv1 (29 + 2) = iv 31 from hy2 31 (by decide) (by decide)]; exact hnw.2 q hq
  have hin2 : ∀ p, p < P → vp_in (iv2 33 p) P := fun p hp => by
    rw [show iv2 33 p = _ from hp2.1 p, if_pos hp, show iv1 (29 + 1) = iv 30 from hy2 30 (by decide) (by decide)]; exact hin9 p hp
  refine lv_iconst (v := nI 1) hx hb dX6_fewestTimes_24 (by decide) ?_
  refine gx_as (y := nI (0 + 1)) rfl ?_
  refine lv_istore (lv' := [(4, .int (nI (0 + 1))), (3, .int (nI mo)), (0, .ref (ad 0)), (1, .int (nI j9)), (2, .int x9)]) hx hb dX6_fewestTimes_25 hl (by decide) rfl (fun ls hl => ?_)
  have L27 : ∀ (N : Nat) (i : Nat) (iv3 : Nat → Nat → Int32), mo - i < N → (i ≤ mo) → (holdsAt iv3 32 c9 pc9 (fun q => itg (G9 j9) i (w q)) (atw T (G9 j9) (Ad j9) w t i)) → (∀ p, p < P → vp_in (iv3 33 p) P) → (fs0 (fun k => okv (iv 47 (num P T c9 (fun i => itg (G9 j9) k (w i)) (atw T (G9 j9) (Ad j9) w t k))) x9) (mo - i) (i + 1) = fs0 (fun k => okv (iv 47 (num P T c9 (fun i => itg (G9 j9) k (w i)) (atw T (G9 j9) (Ad j9) w t k))) x9) mo 1) → (∀ q, q ≠ 33 → q ≠ 34 → iv3 q = iv q) → ∀ (H : Heap) (locs : List Loc) (ls : Array Slot), gS D cA A H0 o ad ln iv3 n H locs → lv_has ls 6 [(0, .ref (ad 0)), (1, .int (nI j9)), (2, .int x9), (3, .int (nI mo)), (4, .int (nI (i + 1)))] → W p l e R s m args below meth c H locs cells slots Q (F0 m 27 ls []) := by
    intro N
    induction N with
    | zero => intro i iv3 hm; exact absurd hm (Nat.not_lt_zero _)
    | succ N ih27 =>
      intro i iv3 hm hi h1 h2 h3 h4 H locs ls hS hl
      refine lv_iload hx hb dX6_fewestTimes_27 (lv_at hl 4 rfl) ?_
      refine lv_iload_n hx hb dX6_fewestTimes_29 rfl (lv_at hl 3 rfl) ?_
      refine lv_icmp_gt (tgt := 88) hx hb dX6_fewestTimes_30 (by decide) (fun c_30 => ?_) (fun c_30 => ?_)
      · skip
        rw [nI_ltI (by omega) (by omega)] at c_30
        have e0 : mo - i = 0 := by omega
        rw [e0] at h3
        refine lv_iconst (v := nI 0) hx hb dX6_fewestTimes_88 (by decide) ?_
        exact kret _ iv3 _ _ _ _ dX6_fewestTimes_89 (⟨by rw [← h3]; rfl, h2, h4⟩) hS
      · skip
        rw [nI_ltI (by omega) (by omega)] at c_30
        have e0 : mo - i = (mo - (i + 1)) + 1 := by omega
        have hmj3 : moveAt iv3 (2 + 3 * j9) P T (G9 j9) (Ad j9) := by
          unfold moveAt
          rw [h4 _ (by omega) (by omega), h4 _ (by omega) (by omega), h4 _ (by omega) (by omega)]
          exact hmj
        refine lv_aload_n hx hb dX6_fewestTimes_33 rfl (lv_at hl 0 rfl) ?_
        refine gx_get (ci := 9) (v := .ref (ad 32)) (C := RX6) (T := TX6) (N := 15) hx hb hts (fun _ h => inX6_fewestTimes_RX6 h) hown hK hS 0 (by omega) rfl rfl 8 (by decide) (hts (.fieldLink RX6 55 "CosetTables" "walker" "LCosetTables$State;") (by decide +kernel)) rfl dX6_fewestTimes_34 ?_
        refine lv_aload_n hx hb dX6_fewestTimes_37 rfl (lv_at hl 0 rfl) ?_
        refine gx_get (ci := 9) (v := .ref (ad 1)) (C := RX6) (T := TX6) (N := 15) hx hb hts (fun _ h => inX6_fewestTimes_RX6 h) hown hK hS 0 (by omega) rfl rfl 2 (by decide) (hts (.fieldLink RX6 27 "CosetTables" "moves" "[LCosetTables$Move;") (by decide +kernel)) rfl dX6_fewestTimes_38 ?_
        refine lv_iload_n hx hb dX6_fewestTimes_41 rfl (lv_at hl 1 rfl) ?_
        refine gx_ldmove hx hb hK hS (by omega) j9 (by omega) rfl dX6_fewestTimes_42 ?_
        refine gc_v (gx_runV (As := [.ref (ad (2 + 3 * j9))]) (rest := []) ⟨hx, hb, hml, hown, hts⟩ hK hN hS 32 (by omega) rfl rfl (ct_X3_follow l D cA o ad ln n H.size iv3 (b := 32) (v := 2 + 3 * j9) (P := P) hn hln (by decide) (isM_mv (by omega)) h33 h34 (hL1 j9 (by omega)).1 (hL1 j9 (by omega)).2 hP (by rw [hmj3.1]; exact nI_ne0 hT1 (by omega)) h2) (cwV 1 hts gX6_fewestTimes_X3_follow rfl rfl rfl (by decide +kernel) ⟨gle hRf rfl, gle hRl rfl⟩) rfl rfl hl.1 rfl (lv_room (Nat.le_of_ble_eq_true rfl)) dX6_fewestTimes_43 ⟨hRc, hRs⟩) hS hA (fun iv4 H locs hp4 hS => ?_)
        have hh4 := holds_follow hT1 hT3 hP hmj3 hpi (itg_inj hGi hwi i) (atw_lt hT1 htT i) h1 hp4
        have hin4 := in_follow hP hmj3 h2 hp4
        have ho4 : ∀ q, q ≠ 33 → q ≠ 34 → iv4 q = iv q := fun q q1 q2 => by rw [hp4.2.2 q q1 q2, h4 q q1 q2]
        have hwi4 := itg_inj hGi hwi (i + 1)
        have htT4 := atw_lt (G := G9 j9) (Ad := Ad j9) (w := w) hT1 htT (i + 1)
        have hnl := num_lt hwi4 htT4
        obtain ⟨N9, hN9⟩ : ∃ N9, N9 = num P T c9 (fun q => itg (G9 j9) (i + 1) (w q)) (atw T (G9 j9) (Ad j9) w t (i + 1)) := ⟨_, rfl⟩
        rw [← hN9] at hnl
        refine lv_aload_n hx hb dX6_fewestTimes_46 rfl (lv_at hl 0 rfl) ?_
        refine gx_get (ci := 9) (v := .ref (ad 46)) (C := RX6) (T := TX6) (N := 15) hx hb hts (fun _ h => inX6_fewestTimes_RX6 h) hown hK hS 0 (by omega) rfl rfl 13 (by decide) (hts (.fieldLink RX6 79 "CosetTables" "table" "LCosetTables$Table;") (by decide +kernel)) rfl dX6_fewestTimes_47 ?_
        refine lv_aload_n hx hb dX6_fewestTimes_50 rfl (lv_at hl 0 rfl) ?_
        refine gx_get (ci := 9) (v := .ref (ad 25)) (C := RX6) (T := TX6) (N := 15) hx hb hts (fun _ h => inX6_fewestTimes_RX6 h) hown hK hS 0 (by omega) rfl rfl 6 (by decide) (hts (.fieldLink RX6 42 "CosetTables" "numbering" "LCosetTables$Numbering;") (by decide +kernel)) rfl dX6_fewestTimes_51 ?_
        refine lv_aload_n hx hb dX6_fewestTimes_54 rfl (lv_at hl 0 rfl) ?_
        refine gx_get (ci := 9) (v := .ref (ad 32)) (C := RX6) (T := TX6) (N := 15) hx hb hts (fun _ h => inX6_fewestTimes_RX6 h) hown hK hS 0 (by omega) rfl rfl 8 (by decide) (hts (.fieldLink RX6 55 "CosetTables" "walker" "LCosetTables$State;") (by decide +kernel)) rfl dX6_fewestTimes_55 ?_
        refine gc_i (gx_runV (As := [.ref (ad 32)]) (rest := [.ref (ad 46)]) ⟨hx, hb, hml, hown, hts⟩ hK hN hS 25 (by omega) rfl rfl (ct_X1_numberOf l D cA o ad ln n H.size iv4 (b := 32) (P := P) (c9 := c9) (T := T) (pc9 := pc9) (w := fun q => itg (G9 j9) (i + 1) (w q)) (t := atw T (G9 j9) (Ad j9) w t (i + 1)) hn hln (by rw [ho4 25 (by decide) (by decide)]; exact hc9) hc4 (by rw [ho4 25 (by decide) (by decide)]; exact hT0) hT1 hT3 (by decide) h34 h33 hP h27 (by rw [ho4 27 (by decide) (by decide)]; exact hpc) hpi (by rw [ho4 25 (by decide) (by decide)]; exact hP0) hh4.1 hh4.2 hwi4 htT4) (cwV 1 hts gX6_fewestTimes_X1_numberOf rfl rfl rfl (by decide +kernel) ⟨gle hRf rfl, gle hRl rfl⟩) rfl rfl hl.1 rfl (lv_room (Nat.le_of_ble_eq_true rfl)) dX6_fewestTimes_58 ⟨hRc, hRs⟩) hS hA (fun z iv5 H locs hp5 hS => ?_)
        obtain ⟨ez, ev5⟩ := hp5
        rw [← hN9] at ez
        rw [ev5] at hS
        refine gx_as (y := nI N9) ez ?_
        skip
        refine gc_i (gx_runV (As := [.int (nI N9)]) (rest := []) ⟨hx, hb, hml, hown, hts⟩ hK hN hS 46 (by omega) rfl rfl (ct_X5_look l D cA o ad ln n H.size iv4 (j := N9) hn hln (Or.inr (by omega))) (cwV 1 hts gX6_fewestTimes_X5_look rfl rfl rfl (by decide +kernel) ⟨gle hRf rfl, gle hRl rfl⟩) rfl rfl hl.1 rfl (lv_room (Nat.le_of_ble_eq_true rfl)) dX6_fewestTimes_61 ⟨hRc, hRs⟩) hS hA (fun u iv6 H locs hp6 hS => ?_)
        obtain ⟨eu, ev6⟩ := hp6
        rw [ev6] at hS
        rw [if_neg (by rw [ho4 46 (by decide) (by decide), hb9]; decide), ho4 47 (by decide) (by decide)] at eu
        have hcv : okv (iv 47 (num P T c9 (fun q => itg (G9 j9) (i + 1) (w q)) (atw T (G9 j9) (Ad j9) w t (i + 1)))) x9 = okv u x9 := by rw [eu, hN9]
        skip
        refine lv_istore (lv' := [(5, .int u), (0, .ref (ad 0)), (1, .int (nI j9)), (2, .int x9), (3, .int (nI mo)), (4, .int (nI (i + 1)))]) hx hb dX6_fewestTimes_64 hl (by decide) rfl (fun ls hl => ?_)
        refine lv_iload hx hb dX6_fewestTimes_66 (lv_at hl 0 rfl) ?_
        refine lv_if_lt (tgt := 82) hx hb dX6_fewestTimes_68 (by decide) (fun c_68 => ?_) (fun c_68 => ?_)
        · skip
          have hcn : okv u x9 = false := by unfold okv; simp [c_68]
          refine lv_iinc (v := nI ((i + 1) + 1)) (lv' := [(4, .int (nI ((i + 1) + 1))), (5, .int u), (0, .ref (ad 0)), (1, .int (nI j9)), (2, .int x9), (3, .int (nI mo))]) hx hb dX6_fewestTimes_82 hl (k := 5) rfl (nI_1 (i + 1)) (by decide) rfl (fun ls hl => ?_)
          refine lv_goto (tgt := 27) hx hb dX6_fewestTimes_85 (by decide) ?_
          exact ih27 (i + 1) iv4 (by omega) (by omega) hh4 hin4 (by rw [← h3, e0]; (conv => rhs; rw [fs0, hcv, hcn]); rfl) ho4 _ _ _ hS (lv_sub hl [2, 3, 4, 5, 0] rfl)
        · skip
          refine lv_iload hx hb dX6_fewestTimes_71 (lv_at hl 0 rfl) ?_
          refine lv_iconst (v := nI 3) hx hb dX6_fewestTimes_73 (by decide) ?_
          refine lv_irem hx hb dX6_fewestTimes_74 (by decide) ?_
          refine gx_as (y := (jrem u (nI 3))) rfl ?_
          refine lv_iload_n hx hb dX6_fewestTimes_75 rfl (lv_at hl 3 rfl) ?_
          refine lv_icmp_ne (tgt := 82) hx hb dX6_fewestTimes_76 (by decide) (fun c_76 => ?_) (fun c_76 => ?_)
          · skip
            have hcn : okv u x9 = false := by unfold okv; simp [c_76]
            refine lv_iinc (v := nI ((i + 1) + 1)) (lv' := [(4, .int (nI ((i + 1) + 1))), (5, .int u), (0, .ref (ad 0)), (1, .int (nI j9)), (2, .int x9), (3, .int (nI mo))]) hx hb dX6_fewestTimes_82 hl (k := 5) rfl (nI_1 (i + 1)) (by decide) rfl (fun ls hl => ?_)
            refine lv_goto (tgt := 27) hx hb dX6_fewestTimes_85 (by decide) ?_
            exact ih27 (i + 1) iv4 (by omega) (by omega) hh4 hin4 (by rw [← h3, e0]; (conv => rhs; rw [fs0, hcv, hcn]); rfl) ho4 _ _ _ hS (lv_sub hl [2, 3, 4, 5, 0] rfl)
          · skip
            have hcy : okv u x9 = true := by unfold okv; simp [c_76, c_68]
            refine lv_iload hx hb dX6_fewestTimes_79 (lv_at hl 5 rfl) ?_
            exact kret _ iv4 _ _ _ _ dX6_fewestTimes_81 (⟨by rw [← h3, e0, fs0, hcv, hcy]; rfl, hin4, ho4⟩) hS
  exact L27 _ 0 iv2 (Nat.lt_succ_self _) (Nat.zero_le _) hh2 hin2 rfl ho2 _ _ _ hS (lv_sub hl [2, 3, 4, 1, 0] rfl)
set_option maxRecDepth 100000 in
theorem ct_X6_fewestTimes (l : Launch) (D : va_G) (cA : Nat → ClassId) (o : Nat → Int64) (ad ln : Nat → Nat) (n sz : Nat) (iv : Nat → Nat → Int32) (j9 m9 mc9 P c9 T : Nat) (x9 : Int32) (pc9 w t : Nat → Nat) (G9 Ad : Nat → Nat → Nat) (hn : 68 ≤ n) (hln : ∀ k, ln k < 2 ^ 31) (hLn : lnOk ln P) (hc9 : iv 25 5 = nI c9) (hc4 : c9 ≤ 4) (hT0 : iv 25 1 = nI T) (hT1 : 0 < T) (hT3 : T ≤ 3) (hP : P ≤ 8) (hpc : ∀ i, i < c9 → iv 27 i = nI (pc9 i)) (hpi : inj pc9 P c9) (hP0 : iv 25 0 = nI P) (hnw : holdsAt iv 29 c9 pc9 w t) (hwi : inj w P c9) (htT : ∀ i, i < c9 → t i < T) (hin9 : ∀ p, p < P → vp_in (iv 30 p) P) (hw33 : ∀ p, p < P → vp_in (iv 33 p) P) (hmv : ∀ j, j < mc9 → moveAt iv (2 + 3 * j) P T (G9 j) (Ad j) ∧ inj (G9 j) P P) (hmc6 : mc9 ≤ 6) (hb9 : iv 46 0 = 1) (hm9 : iv 46 1 = nI m9) (hm92 : m9 < 2) (hl47 : ff P c9 * T ^ c9 ≤ ln 47) (hj9 : j9 < mc9) : gMi l yX6_fewestTimes wsX6_fewestTimes { frames := 4, cells := 0, slots := 0, locals := 87 } D cA o ad ln n sz iv [.ref (ad 0), .int (nI j9), .int x9] (fun (r : Int32) iv' => r = nI (fs0 (fun k => okv (iv 47 (num P T c9 (fun i => itg (G9 j9) k (w i)) (atw T (G9 j9) (Ad j9) w t k))) x9) (if m9 = 0 then 1 else ordr P T (G9 j9) (Ad j9) - 1) 1) ∧ (∀ p, p < P → vp_in (iv' 33 p) P) ∧ ∀ q, q ≠ 33 → q ≠ 34 → iv' q = iv q) := by
  refine Met.ofW (cc := cX6_fewestTimes) (maxL := 6) (ret := (some .int)) (by decide) rfl ?_
  intro p e s m args below meth c s₁ B hml hv__
  obtain ⟨rfl, hv__⟩ := hv__
  obtain ⟨hsz, hS, hK, hN, hA⟩ := gS.entry hv__
  have hl := lv_entry ([.ref (ad 0), .int (nI j9), .int x9]) (n := 6) (Nat.le_of_ble_eq_true rfl)
  rw [lg_entry_eq]
  generalize (lg_sl ([.ref (ad 0), .int (nI j9), .int x9]) ++ List.replicate (6 - (lg_sl ([.ref (ad 0), .int (nI j9), .int x9])).length) Slot.unset).toArray = ls at hl ⊢
  exact bd_X6_fewestTimes (j9 := j9) (m9 := m9) (mc9 := mc9) (P := P) (c9 := c9) (T := T) (x9 := x9) (pc9 := pc9) (w := w) (t := t) (G9 := G9) (Ad := Ad) ⟨B.exec, B.bytes, hml, findClass_of_methodNamed B.named, atoms_spec (ws := wsX6_fewestTimes) B.pre, B.returns, B.notSynchronized⟩ (Nat.le_refl _) (Nat.le_refl _) (Nat.le_refl _) (Nat.le_refl _) hK hN hA hn hln hLn hc9 hc4 hT0 hT1 hT3 hP hpc hpi hP0 hnw hwi htT hin9 hw33 hmv hmc6 hb9 hm9 hm92 hl47 hj9 hS hl (fun r iv' H locs ls pc hd hp hS => gx_iret B.exec B.bytes B.returns B.notSynchronized hS hp hd)

theorem inX6_down_RX6 : ∀ {w : Cond}, w ∈ u_ws RX6 TX6 15 → w ∈ wsX6_down := fun {w} h => by first | exact List.mem_cons_of_mem _ (List.mem_append_right _ h) | (revert h; revert w; show ∀ w ∈ u_ws RX6 TX6 15, w ∈ wsX6_down; decide +kernel)
set_option maxHeartbeats 4000000 in
set_option maxRecDepth 100000 in
theorem bd_X6_down {p : Program} {l : Launch} {e : Env} {R : Room} {s : State} {m : MethodId} {args : Array Value} {below : List Frame} {meth : Method} {c : Code} {H : Heap} {locs : List Loc} {cells slots : Nat} {Q : State → Prop} {ls : Array Slot} {D : va_G} {A : Nat → Prop} {H0 : Heap} {cA : Nat → ClassId} {o : Nat → Int64} {ad ln : Nat → Nat} {iv : Nat → Nat → Int32} {n : Nat} {m9 mc9 P c9 T : Nat} {pc9 w t : Nat → Nat} {G9 Ad : Nat → Nat → Nat}
    (F : gF p s m meth c cX6_down 5 RX6 wsX6_down args (some .int)) (hRf : 5 ≤ R.frames) (hRl : 112 ≤ R.locals) (hRc : cells ≤ R.cells) (hRs : slots ≤ R.slots) (hK : va_K D vwCl (gT cA) s) (hN : NW s) (hA : ∀ q, H0.size ≤ q → A q) (hn : 68 ≤ n) (hln : ∀ k, ln k < 2 ^ 31) (hLn : lnOk ln P) (hc9 : iv 25 5 = nI c9) (hc4 : c9 ≤ 4) (hT0 : iv 25 1 = nI T) (hT1 : 0 < T) (hT3 : T ≤ 3) (hP : P ≤ 8) (hpc : ∀ i, i < c9 → iv 27 i = nI (pc9 i)) (hpi : inj pc9 P c9) (hP0 : iv 25 0 = nI P) (hnw : holdsAt iv 29 c9 pc9 w t) (hwi : inj w P c9) (htT : ∀ i, i < c9 → t i < T) (hin9 : ∀ p, p < P → vp_in (iv 30 p) P) (hw33 : ∀ p, p < P → vp_in (iv 33 p) P) (hmc : iv 0 3 = nI mc9) (hmv : ∀ j, j < mc9 → moveAt iv (2 + 3 * j) P T (G9 j) (Ad j) ∧ inj (G9 j) P P) (hmc6 : mc9 ≤ 6) (hb9 : iv 46 0 = 0 ∨ iv 46 0 = 1) (hbb : iv 46 0 = 1 → iv 46 1 = nI m9 ∧ m9 < 2 ∧ ff P c9 * T ^ c9 ≤ ln 47)
    (hS : gS D cA A H0 o ad ln iv n H locs) (hl : lv_has ls 5 [(0, .ref (ad 0))])
    (kret : ∀ (r : Int32) (iv' : Nat → Nat → Int32) (H : Heap) (locs : List Loc) (ls : Array Slot) (pc : Nat), decode cX6_down pc = .ok (.ireturn, 1) → ((∀ v9, v9 = (if iv 46 0 = 0 then (-2) else iv 47 (num P T c9 w t)) → r = if v9 ≤ 0 then -1 else dwn (fun j9 => fs0 (fun k => okv (iv 47 (num P T c9 (fun i => itg (G9 j9) k (w i)) (atw T (G9 j9) (Ad j9) w t k))) (jrem (v9 - 1) (nI 3))) (if m9 = 0 then 1 else ordr P T (G9 j9) (Ad j9) - 1) 1) mc9 0) ∧ (∀ p, p < P → vp_in (iv' 33 p) P) ∧ ∀ q, q ≠ 33 → q ≠ 34 → iv' q = iv q) → gS D cA A H0 o ad ln iv' n H locs → W p l e R s m args below meth c H locs cells slots Q (F0 m pc ls [.int r])) :
    W p l e R s m args below meth c H locs cells slots Q (F0 m 0 ls []) := by
  obtain ⟨hx, hb, hml, hown, hts, hr, hlocks⟩ := F
  have hLn0 := hLn
  obtain ⟨hL1, hL2, ⟨h26, h27, h28⟩, ⟨h30, h31, h33, h34, h36, h37⟩, h39, h40, h41⟩ := hLn
  have hnl := num_lt hwi htT
  have hpw := pw_le4 hT3 hc4
  have hff := ff_le4 hP hc4
  have hm99 := Nat.mul_le_mul hff hpw
  refine lv_aload_n hx hb dX6_down_0 rfl (lv_at hl 0 rfl) ?_
  refine gx_get (ci := 9) (v := .ref (ad 46)) (C := RX6) (T := TX6) (N := 15) hx hb hts (fun _ h => inX6_down_RX6 h) hown hK hS 0 (by omega) rfl rfl 13 (by decide) (hts (.fieldLink RX6 79 "CosetTables" "table" "LCosetTables$Table;") (by decide +kernel)) rfl dX6_down_1 ?_
  refine lv_aload_n hx hb dX6_down_4 rfl (lv_at hl 0 rfl) ?_
  refine gx_get (ci := 9) (v := .ref (ad 25)) (C := RX6) (T := TX6) (N := 15) hx hb hts (fun _ h => inX6_down_RX6 h) hown hK hS 0 (by omega) rfl rfl 6 (by decide) (hts (.fieldLink RX6 42 "CosetTables" "numbering" "LCosetTables$Numbering;") (by decide +kernel)) rfl dX6_down_5 ?_
  refine lv_aload_n hx hb dX6_down_8 rfl (lv_at hl 0 rfl) ?_
  refine gx_get (ci := 9) (v := .ref (ad 29)) (C := RX6) (T := TX6) (N := 15) hx hb hts (fun _ h => inX6_down_RX6 h) hown hK hS 0 (by omega) rfl rfl 7 (by decide) (hts (.fieldLink RX6 51 "CosetTables" "now" "LCosetTables$State;") (by decide +kernel)) rfl dX6_down_9 ?_
  refine gc_i (gx_runV (As := [.ref (ad 29)]) (rest := [.ref (ad 46)]) ⟨hx, hb, hml, hown, hts⟩ hK hN hS 25 (by omega) rfl rfl (ct_X1_numberOf l D cA o ad ln n H.size iv (b := 29) (P := P) (c9 := c9) (T := T) (pc9 := pc9) (w := w) (t := t) hn hln hc9 hc4 hT0 hT1 hT3 (by decide) h31 h30 hP h27 hpc hpi hP0 hnw.1 hnw.2 hwi htT) (cwV 1 hts gX6_down_X1_numberOf rfl rfl rfl (by decide +kernel) ⟨gle hRf rfl, gle hRl rfl⟩) rfl rfl hl.1 rfl (lv_room (Nat.le_of_ble_eq_true rfl)) dX6_down_12 ⟨hRc, hRs⟩) hS hA (fun y iv1 H locs hp1 hS => ?_)
  obtain ⟨ey, ev1⟩ := hp1
  rw [ev1] at hS
  refine gx_as (y := nI (num P T c9 w t)) ey ?_
  skip
  refine gc_i (gx_runV (As := [.int (nI (num P T c9 w t))]) (rest := []) ⟨hx, hb, hml, hown, hts⟩ hK hN hS 46 (by omega) rfl rfl (ct_X5_look l D cA o ad ln n H.size iv (j := num P T c9 w t) hn hln (hb9.elim Or.inl (fun h => Or.inr (Nat.lt_of_lt_of_le hnl (hbb h).2.2)))) (cwV 1 hts gX6_down_X5_look rfl rfl rfl (by decide +kernel) ⟨gle hRf rfl, gle hRl rfl⟩) rfl rfl hl.1 rfl (lv_room (Nat.le_of_ble_eq_true rfl)) dX6_down_15 ⟨hRc, hRs⟩) hS hA (fun u iv2 H locs hp2 hS => ?_)
  obtain ⟨eu, ev2⟩ := hp2
  rw [ev2] at hS
  obtain ⟨ft9, hft⟩ : ∃ ft9, ft9 = (fun j9 => fs0 (fun k => okv (iv 47 (num P T c9 (fun i => itg (G9 j9) k (w i)) (atw T (G9 j9) (Ad j9) w t k))) (jrem (u - 1) (nI 3))) (if m9 = 0 then 1 else ordr P T (G9 j9) (Ad j9) - 1) 1) := ⟨_, rfl⟩
  skip
  refine lv_istore_n (lv' := [(1, .int u), (0, .ref (ad 0))]) hx hb dX6_down_18 rfl hl (by decide) rfl (fun ls hl => ?_)
  refine lv_iload_n hx hb dX6_down_19 rfl (lv_at hl 0 rfl) ?_
  refine lv_if_gt (tgt := 25) hx hb dX6_down_20 (by decide) (fun c_20 => ?_) (fun c_20 => ?_)
  · skip
    have hb1 : iv 46 0 = 1 := hb9.resolve_left (fun h => by rw [if_pos h] at eu; rw [eu] at c_20; exact absurd c_20 (by decide))
    obtain ⟨hm9, hm92, hl47⟩ := hbb hb1
    refine lv_iload_n hx hb dX6_down_25 rfl (lv_at hl 0 rfl) ?_
    refine lv_iconst (v := nI 1) hx hb dX6_down_26 (by decide) ?_
    refine lv_isub hx hb dX6_down_27 ?_
    refine lv_iconst (v := nI 3) hx hb dX6_down_28 (by decide) ?_
    refine lv_irem hx hb dX6_down_29 (by decide) ?_
    refine gx_as (y := (jrem (u - 1) (nI 3))) rfl ?_
    refine gx_as (y := (jrem (u - 1) (nI 3))) rfl ?_
    refine lv_istore_n (lv' := [(2, .int (jrem (u - 1) (nI 3))), (1, .int u), (0, .ref (ad 0))]) hx hb dX6_down_30 rfl hl (by decide) rfl (fun ls hl => ?_)
    refine lv_iconst (v := nI 0) hx hb dX6_down_31 (by decide) ?_
    refine lv_istore_n (lv' := [(3, .int (nI 0)), (2, .int (jrem (u - 1) (nI 3))), (1, .int u), (0, .ref (ad 0))]) hx hb dX6_down_32 rfl hl (by decide) rfl (fun ls hl => ?_)
    have L33 : ∀ (N : Nat) (i : Nat) (iv3 : Nat → Nat → Int32), mc9 - i < N → (i ≤ mc9) → (dwn ft9 (mc9 - i) i = dwn ft9 mc9 0) → (∀ p, p < P → vp_in (iv3 33 p) P) → (∀ q, q ≠ 33 → q ≠ 34 → iv3 q = iv q) → ∀ (H : Heap) (locs : List Loc) (ls : Array Slot), gS D cA A H0 o ad ln iv3 n H locs → lv_has ls 5 [(0, .ref (ad 0)), (1, .int u), (2, .int (jrem (u - 1) (nI 3))), (3, .int (nI i))] → W p l e R s m args below meth c H locs cells slots Q (F0 m 33 ls []) := by
      intro N
      induction N with
      | zero => intro i iv3 hm; exact absurd hm (Nat.not_lt_zero _)
      | succ N ih33 =>
        intro i iv3 hm hi h1 h2 h4 H locs ls hS hl
        refine lv_iload_n hx hb dX6_down_33 rfl (lv_at hl 3 rfl) ?_
        refine lv_aload_n hx hb dX6_down_34 rfl (lv_at hl 0 rfl) ?_
        refine gx_get (ci := 9) (v := .int (iv3 0 3)) (C := RX6) (T := TX6) (N := 15) hx hb hts (fun _ h => inX6_down_RX6 h) hown hK hS 0 (by omega) rfl rfl 3 (by decide) (hts (.fieldLink RX6 90 "CosetTables" "moveCount" "I") (by decide +kernel)) rfl dX6_down_35 ?_
        refine gx_as (y := nI mc9) (by rw [h4 0 (by decide) (by decide)]; exact hmc) ?_
        refine lv_icmp_ge (tgt := 68) hx hb dX6_down_38 (by decide) (fun c_38 => ?_) (fun c_38 => ?_)
        · skip
          rw [nI_leI (by omega) (by omega)] at c_38
          have e0 : mc9 - i = 0 := by omega
          rw [e0] at h1
          refine lv_iconst (v := (-1)) hx hb dX6_down_68 (by decide) ?_
          exact kret _ iv3 _ _ _ _ dX6_down_69 (⟨fun v9 hv9 => by rw [hv9, ← eu, if_neg (fun q9 => Int32.lt_irrefl (Int32.lt_of_lt_of_le c_20 q9)), ← hft, ← h1]; rfl, h2, h4⟩) hS
        · skip
          rw [nI_leI (by omega) (by omega)] at c_38
          have e0 : mc9 - i = (mc9 - (i + 1)) + 1 := by omega
          refine lv_aload_n hx hb dX6_down_41 rfl (lv_at hl 0 rfl) ?_
          refine lv_iload_n hx hb dX6_down_42 rfl (lv_at hl 3 rfl) ?_
          refine lv_iload_n hx hb dX6_down_43 rfl (lv_at hl 2 rfl) ?_
          refine gc_i (gx_runV (As := [.int (nI i), .int (jrem (u - 1) (nI 3))]) (rest := []) ⟨hx, hb, hml, hown, hts⟩ hK hN hS 0 (by omega) rfl rfl (ct_X6_fewestTimes l D cA o ad ln n H.size iv3 (j9 := i) (m9 := m9) (mc9 := mc9) (P := P) (c9 := c9) (T := T) (x9 := jrem (u - 1) (nI 3)) (pc9 := pc9) (w := w) (t := t) (G9 := G9) (Ad := Ad) hn hln hLn0 (by rw [h4 25 (by decide) (by decide)]; exact hc9) hc4 (by rw [h4 25 (by decide) (by decide)]; exact hT0) hT1 hT3 hP (by rw [h4 27 (by decide) (by decide)]; exact hpc) hpi (by rw [h4 25 (by decide) (by decide)]; exact hP0) (by unfold holdsAt; rw [show iv3 (29 + 1) = iv 30 from h4 30 (by decide) (by decide), show iv3 (29 + 2) = iv 31 from h4 31 (by decide) (by decide)]; exact hnw) hwi htT (by rw [h4 30 (by decide) (by decide)]; exact hin9) h2 (fun j hj => by unfold moveAt; rw [h4 _ (by omega) (by omega), h4 _ (by omega) (by omega), h4 _ (by omega) (by omega)]; exact hmv j hj) hmc6 (by rw [h4 46 (by decide) (by decide)]; exact hb1) (by rw [h4 46 (by decide) (by decide)]; exact hm9) hm92 hl47 (by omega)) (cwV 2 hts gX6_down_X6_fewestTimes rfl rfl rfl (by decide +kernel) ⟨gle hRf rfl, gle hRl rfl⟩) rfl rfl hl.1 rfl (lv_room (Nat.le_of_ble_eq_true rfl)) dX6_down_44 ⟨hRc, hRs⟩) hS hA (fun y2 iv4 H locs hp4 hS => ?_)
          obtain ⟨ey2, hy2, hy3⟩ := hp4
          rw [h4 47 (by decide) (by decide)] at ey2
          have ey3 : y2 = nI (ft9 i) := by rw [ey2, hft]
          have hf64 : ft9 i ≤ 65 := by
            rw [hft]
            have q1 := fs0_in (fun k => okv (iv 47 (num P T c9 (fun q => itg (G9 i) k (w q)) (atw T (G9 i) (Ad i) w t k))) (jrem (u - 1) (nI 3))) (if m9 = 0 then 1 else ordr P T (G9 i) (Ad i) - 1) 1
            have q2 := ordr_in P T (G9 i) (Ad i)
            refine Nat.le_trans q1 ?_
            split <;> omega
          refine gx_as (y := nI (ft9 i)) ey3 ?_
          refine lv_istore (lv' := [(4, .int (nI (ft9 i))), (0, .ref (ad 0)), (1, .int u), (2, .int (jrem (u - 1) (nI 3))), (3, .int (nI i))]) hx hb dX6_down_47 hl (by decide) rfl (fun ls hl => ?_)
          refine lv_iload hx hb dX6_down_49 (lv_at hl 0 rfl) ?_
          refine lv_if_le (tgt := 62) hx hb dX6_down_51 (by decide) (fun c_51 => ?_) (fun c_51 => ?_)
          · skip
            rw [show (0 : Int32) = nI 0 from rfl] at c_51
            rw [nI_leI (by omega) (by omega)] at c_51
            refine lv_iinc (v := nI (i + 1)) (lv' := [(3, .int (nI (i + 1))), (4, .int (nI (ft9 i))), (0, .ref (ad 0)), (1, .int u), (2, .int (jrem (u - 1) (nI 3)))]) hx hb dX6_down_62 hl (k := 4) rfl (nI_1 i) (by decide) rfl (fun ls hl => ?_)
            refine lv_goto (tgt := 33) hx hb dX6_down_65 (by decide) ?_
            exact ih33 (i + 1) iv4 (by omega) (by omega) (by rw [← h1, e0]; (conv => rhs; rw [dwn, if_neg (by omega)])) hy2 (fun q q1 q2 => by rw [hy3 q q1 q2, h4 q q1 q2]) _ _ _ hS (lv_sub hl [2, 3, 4, 0] rfl)
          · skip
            rw [show (0 : Int32) = nI 0 from rfl] at c_51
            rw [nI_leI (by omega) (by omega)] at c_51
            refine lv_bipush (v := nI 16) hx hb dX6_down_54 (by decide) ?_
            refine lv_iload_n hx hb dX6_down_56 rfl (lv_at hl 4 rfl) ?_
            refine lv_imul hx hb dX6_down_57 ?_
            refine gx_as (y := nI (16 * i)) (pk_mul _ _) ?_
            refine lv_iload hx hb dX6_down_58 (lv_at hl 0 rfl) ?_
            refine lv_iadd hx hb dX6_down_60 ?_
            refine gx_as (y := nI ((16 * i) + (ft9 i))) (nI_add _ _) ?_
            exact kret _ iv4 _ _ _ _ dX6_down_61 (⟨fun v9 hv9 => by rw [hv9, ← eu, if_neg (fun q9 => Int32.lt_irrefl (Int32.lt_of_lt_of_le c_20 q9)), ← hft, ← h1, e0, dwn, if_pos (by omega)], hy2, fun q q1 q2 => by rw [hy3 q q1 q2, h4 q q1 q2]⟩) hS
    exact L33 _ 0 iv (Nat.lt_succ_self _) (Nat.zero_le _) rfl hw33 (fun _ _ _ => rfl) _ _ _ hS (lv_sub hl [3, 2, 1, 0] rfl)
  · skip
    refine lv_iconst (v := (-1)) hx hb dX6_down_23 (by decide) ?_
    exact kret _ iv _ _ _ _ dX6_down_24 (⟨fun v9 hv9 => by rw [hv9, ← eu, if_pos (Int32.not_lt.mp c_20)], hw33, fun _ _ _ => rfl⟩) hS
set_option maxRecDepth 100000 in
theorem ct_X6_down (l : Launch) (D : va_G) (cA : Nat → ClassId) (o : Nat → Int64) (ad ln : Nat → Nat) (n sz : Nat) (iv : Nat → Nat → Int32) (m9 mc9 P c9 T : Nat) (pc9 w t : Nat → Nat) (G9 Ad : Nat → Nat → Nat) (hn : 68 ≤ n) (hln : ∀ k, ln k < 2 ^ 31) (hLn : lnOk ln P) (hc9 : iv 25 5 = nI c9) (hc4 : c9 ≤ 4) (hT0 : iv 25 1 = nI T) (hT1 : 0 < T) (hT3 : T ≤ 3) (hP : P ≤ 8) (hpc : ∀ i, i < c9 → iv 27 i = nI (pc9 i)) (hpi : inj pc9 P c9) (hP0 : iv 25 0 = nI P) (hnw : holdsAt iv 29 c9 pc9 w t) (hwi : inj w P c9) (htT : ∀ i, i < c9 → t i < T) (hin9 : ∀ p, p < P → vp_in (iv 30 p) P) (hw33 : ∀ p, p < P → vp_in (iv 33 p) P) (hmc : iv 0 3 = nI mc9) (hmv : ∀ j, j < mc9 → moveAt iv (2 + 3 * j) P T (G9 j) (Ad j) ∧ inj (G9 j) P P) (hmc6 : mc9 ≤ 6) (hb9 : iv 46 0 = 0 ∨ iv 46 0 = 1) (hbb : iv 46 0 = 1 → iv 46 1 = nI m9 ∧ m9 < 2 ∧ ff P c9 * T ^ c9 ≤ ln 47) : gMi l yX6_down wsX6_down { frames := 5, cells := 0, slots := 0, locals := 112 } D cA o ad ln n sz iv [.ref (ad 0)] (fun (r : Int32) iv' => (∀ v9, v9 = (if iv 46 0 = 0 then (-2) else iv 47 (num P T c9 w t)) → r = if v9 ≤ 0 then -1 else dwn (fun j9 => fs0 (fun k => okv (iv 47 (num P T c9 (fun i => itg (G9 j9) k (w i)) (atw T (G9 j9) (Ad j9) w t k))) (jrem (v9 - 1) (nI 3))) (if m9 = 0 then 1 else ordr P T (G9 j9) (Ad j9) - 1) 1) mc9 0) ∧ (∀ p, p < P → vp_in (iv' 33 p) P) ∧ ∀ q, q ≠ 33 → q ≠ 34 → iv' q = iv q) := by
  refine Met.ofW (cc := cX6_down) (maxL := 5) (ret := (some .int)) (by decide) rfl ?_
  intro p e s m args below meth c s₁ B hml hv__
  obtain ⟨rfl, hv__⟩ := hv__
  obtain ⟨hsz, hS, hK, hN, hA⟩ := gS.entry hv__
  have hl := lv_entry ([.ref (ad 0)]) (n := 5) (Nat.le_of_ble_eq_true rfl)
  rw [lg_entry_eq]
  generalize (lg_sl ([.ref (ad 0)]) ++ List.replicate (5 - (lg_sl ([.ref (ad 0)])).length) Slot.unset).toArray = ls at hl ⊢
  exact bd_X6_down (m9 := m9) (mc9 := mc9) (P := P) (c9 := c9) (T := T) (pc9 := pc9) (w := w) (t := t) (G9 := G9) (Ad := Ad) ⟨B.exec, B.bytes, hml, findClass_of_methodNamed B.named, atoms_spec (ws := wsX6_down) B.pre, B.returns, B.notSynchronized⟩ (Nat.le_refl _) (Nat.le_refl _) (Nat.le_refl _) (Nat.le_refl _) hK hN hA hn hln hLn hc9 hc4 hT0 hT1 hT3 hP hpc hpi hP0 hnw hwi htT hin9 hw33 hmc hmv hmc6 hb9 hbb hS hl (fun r iv' H locs ls pc hd hp hS => gx_iret B.exec B.bytes B.returns B.notSynchronized hS hp hd)
