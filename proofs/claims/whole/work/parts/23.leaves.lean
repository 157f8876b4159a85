theorem inX5_bodyByte_RX5 : ∀ {w : Cond}, w ∈ u_ws RX5 TX5 6 → w ∈ wsX5_bodyByte := fun {w} h => by first | exact List.mem_cons_of_mem _ (List.mem_append_right _ h) | (revert h; revert w; show ∀ w ∈ u_ws RX5 TX5 6, w ∈ wsX5_bodyByte; decide +kernel)
set_option maxHeartbeats 4000000 in
set_option maxRecDepth 100000 in
theorem bd_X5_bodyByte {p : Program} {l : Launch} {e : Env} {R : Room} {s : State} {m : MethodId} {args : Array Value} {below : List Frame} {meth : Method} {c : Code} {H : Heap} {locs : List Loc} {cells slots : Nat} {Q : State → Prop} {ls : Array Slot} {D : va_G} {A : Nat → Prop} {H0 : Heap} {cA : Nat → ClassId} {o : Nat → Int64} {ad ln : Nat → Nat} {iv : Nat → Nat → Int32} {n : Nat} {i S : Nat}
    (F : gF p s m meth c cX5_bodyByte 4 RX5 wsX5_bodyByte args (some .int)) (hRf : 2 ≤ R.frames) (hRl : 43 ≤ R.locals) (hRc : cells ≤ R.cells) (hRs : slots ≤ R.slots) (hK : va_K D vwCl (gT cA) s) (hN : NW s) (hA : ∀ q, H0.size ≤ q → A q) (hn : 68 ≤ n) (hln : ∀ k, ln k < 2 ^ 31) (hs : iv 46 2 = nI S) (hS9 : S < 2 ^ 30) (hi : 2 * i < S) (hv : S ≤ ln 47)
    (hS : gS D cA A H0 o ad ln iv n H locs) (hl : lv_has ls 4 [(0, .ref (ad 46)), (1, .int (nI i))])
    (kret : ∀ (r : Int32) (iv' : Nat → Nat → Int32) (H : Heap) (locs : List Loc) (ls : Array Slot) (pc : Nat), decode cX5_bodyByte pc = .ok (.ireturn, 1) → (r = (if iv 47 (2 * i) = -1 then nI 15 else if nI 14 < iv 47 (2 * i) then nI 14 else iv 47 (2 * i)) + nI 16 * (if 2 * i + 1 < S then (if iv 47 (2 * i + 1) = -1 then nI 15 else if nI 14 < iv 47 (2 * i + 1) then nI 14 else iv 47 (2 * i + 1)) else nI 0) ∧ iv' = iv) → gS D cA A H0 o ad ln iv' n H locs → W p l e R s m args below meth c H locs cells slots Q (F0 m pc ls [.int r])) :
    W p l e R s m args below meth c H locs cells slots Q (F0 m 0 ls []) := by
  obtain ⟨hx, hb, hml, hown, hts, hr, hlocks⟩ := F
  refine lv_iconst (v := nI 2) hx hb dX5_bodyByte_0 (by decide) ?_
  refine lv_iload_n hx hb dX5_bodyByte_1 rfl (lv_at hl 1 rfl) ?_
  refine lv_imul hx hb dX5_bodyByte_2 ?_
  refine gx_as (y := nI (2 * i)) (pk_mul _ _) ?_
  refine lv_istore_n (lv' := [(2, .int (nI (2 * i))), (0, .ref (ad 46)), (1, .int (nI i))]) hx hb dX5_bodyByte_3 rfl hl (by decide) rfl (fun ls hl => ?_)
  refine lv_iload_n hx hb dX5_bodyByte_4 rfl (lv_at hl 0 rfl) ?_
  refine lv_iconst (v := nI 1) hx hb dX5_bodyByte_5 (by decide) ?_
  refine lv_iadd hx hb dX5_bodyByte_6 ?_
  refine gx_as (y := nI ((2 * i) + 1)) (nI_add _ _) ?_
  refine lv_aload_n hx hb dX5_bodyByte_7 rfl (lv_at hl 1 rfl) ?_
  refine gx_get (ci := 8) (v := .int (iv 46 2)) (C := RX5) (T := TX5) (N := 6) hx hb hts (fun _ h => inX5_bodyByte_RX5 h) hown hK hS 46 (by omega) rfl rfl 2 (by decide) (hts (.fieldLink RX5 32 "CosetTables$Table" "states" "I") (by decide +kernel)) rfl dX5_bodyByte_8 ?_
  refine gx_as (y := nI S) hs ?_
  refine lv_icmp_ge (tgt := 24) hx hb dX5_bodyByte_11 (by decide) (fun c_11 => ?_) (fun c_11 => ?_)
  · skip
    rw [nI_leI (by omega) (by omega)] at c_11
    have ey : (if 2 * i + 1 < S then (if iv 47 (2 * i + 1) = -1 then nI 15 else if nI 14 < iv 47 (2 * i + 1) then nI 14 else iv 47 (2 * i + 1)) else nI 0) = nI 0 := if_neg (by omega)
    refine lv_iconst (v := nI 0) hx hb dX5_bodyByte_24 (by decide) ?_
    refine lv_istore_n (lv' := [(3, .int (nI 0)), (2, .int (nI (2 * i))), (0, .ref (ad 46)), (1, .int (nI i))]) hx hb dX5_bodyByte_25 rfl hl (by decide) rfl (fun ls hl => ?_)
    refine lv_aload_n hx hb dX5_bodyByte_26 rfl (lv_at hl 2 rfl) ?_
    refine lv_iload_n hx hb dX5_bodyByte_27 rfl (lv_at hl 1 rfl) ?_
    refine gc_i (gx_runV (As := [.int (nI (2 * i))]) (rest := []) ⟨hx, hb, hml, hown, hts⟩ hK hN hS 46 (by omega) rfl rfl (ct_X5_fourBits l D cA o ad ln n H.size iv (j := 2 * i) hn hln (by omega)) (cwV 1 hts gX5_bodyByte_X5_fourBits rfl rfl rfl (by decide +kernel) ⟨gle hRf rfl, gle hRl rfl⟩) rfl rfl hl.1 rfl (lv_room (Nat.le_of_ble_eq_true rfl)) dX5_bodyByte_28 ⟨hRc, hRs⟩) hS hA (fun z iv2 H locs hp2 hS => ?_)
    obtain ⟨ez, ev2⟩ := hp2
    rw [ev2] at hS
    skip
    refine lv_bipush (v := nI 16) hx hb dX5_bodyByte_31 (by decide) ?_
    refine lv_iload_n hx hb dX5_bodyByte_33 rfl (lv_at hl 0 rfl) ?_
    refine lv_imul hx hb dX5_bodyByte_34 ?_
    refine gx_as (y := nI (16 * 0)) (pk_mul _ _) ?_
    refine lv_iadd hx hb dX5_bodyByte_35 ?_
    exact kret _ iv _ _ _ _ dX5_bodyByte_36 (⟨by rw [ez, ey, pk_mul], rfl⟩) hS
  · skip
    rw [nI_leI (by omega) (by omega)] at c_11
    refine lv_aload_n hx hb dX5_bodyByte_14 rfl (lv_at hl 1 rfl) ?_
    refine lv_iload_n hx hb dX5_bodyByte_15 rfl (lv_at hl 0 rfl) ?_
    refine lv_iconst (v := nI 1) hx hb dX5_bodyByte_16 (by decide) ?_
    refine lv_iadd hx hb dX5_bodyByte_17 ?_
    refine gx_as (y := nI ((2 * i) + 1)) (nI_add _ _) ?_
    refine gc_i (gx_runV (As := [.int (nI ((2 * i) + 1))]) (rest := []) ⟨hx, hb, hml, hown, hts⟩ hK hN hS 46 (by omega) rfl rfl (ct_X5_fourBits l D cA o ad ln n H.size iv (j := 2 * i + 1) hn hln (by omega)) (cwV 1 hts gX5_bodyByte_X5_fourBits rfl rfl rfl (by decide +kernel) ⟨gle hRf rfl, gle hRl rfl⟩) rfl rfl hl.1 rfl (lv_room (Nat.le_of_ble_eq_true rfl)) dX5_bodyByte_18 ⟨hRc, hRs⟩) hS hA (fun y iv1 H locs hp1 hS => ?_)
    obtain ⟨ey, ev1⟩ := hp1
    rw [ev1] at hS
    skip
    refine lv_goto (tgt := 25) hx hb dX5_bodyByte_21 (by decide) ?_
    refine lv_istore_n (lv' := [(3, .int y), (2, .int (nI (2 * i))), (0, .ref (ad 46)), (1, .int (nI i))]) hx hb dX5_bodyByte_25 rfl hl (by decide) rfl (fun ls hl => ?_)
    refine lv_aload_n hx hb dX5_bodyByte_26 rfl (lv_at hl 2 rfl) ?_
    refine lv_iload_n hx hb dX5_bodyByte_27 rfl (lv_at hl 1 rfl) ?_
    refine gc_i (gx_runV (As := [.int (nI (2 * i))]) (rest := []) ⟨hx, hb, hml, hown, hts⟩ hK hN hS 46 (by omega) rfl rfl (ct_X5_fourBits l D cA o ad ln n H.size iv (j := 2 * i) hn hln (by omega)) (cwV 1 hts gX5_bodyByte_X5_fourBits rfl rfl rfl (by decide +kernel) ⟨gle hRf rfl, gle hRl rfl⟩) rfl rfl hl.1 rfl (lv_room (Nat.le_of_ble_eq_true rfl)) dX5_bodyByte_28 ⟨hRc, hRs⟩) hS hA (fun z iv2 H locs hp2 hS => ?_)
    obtain ⟨ez, ev2⟩ := hp2
    rw [ev2] at hS
    skip
    refine lv_bipush (v := nI 16) hx hb dX5_bodyByte_31 (by decide) ?_
    refine lv_iload_n hx hb dX5_bodyByte_33 rfl (lv_at hl 0 rfl) ?_
    refine lv_imul hx hb dX5_bodyByte_34 ?_
    refine lv_iadd hx hb dX5_bodyByte_35 ?_
    exact kret _ iv _ _ _ _ dX5_bodyByte_36 (⟨by rw [ez, ey, if_pos (show 2 * i + 1 < S by omega)], rfl⟩) hS
set_option maxRecDepth 100000 in
theorem ct_X5_bodyByte (l : Launch) (D : va_G) (cA : Nat → ClassId) (o : Nat → Int64) (ad ln : Nat → Nat) (n sz : Nat) (iv : Nat → Nat → Int32) (i S : Nat) (hn : 68 ≤ n) (hln : ∀ k, ln k < 2 ^ 31) (hs : iv 46 2 = nI S) (hS9 : S < 2 ^ 30) (hi : 2 * i < S) (hv : S ≤ ln 47) : gMi l yX5_bodyByte wsX5_bodyByte { frames := 2, cells := 0, slots := 0, locals := 43 } D cA o ad ln n sz iv [.ref (ad 46), .int (nI i)] (fun (r : Int32) iv' => r = (if iv 47 (2 * i) = -1 then nI 15 else if nI 14 < iv 47 (2 * i) then nI 14 else iv 47 (2 * i)) + nI 16 * (if 2 * i + 1 < S then (if iv 47 (2 * i + 1) = -1 then nI 15 else if nI 14 < iv 47 (2 * i + 1) then nI 14 else iv 47 (2 * i + 1)) else nI 0) ∧ iv' = iv) := by
  refine Met.ofW (cc := cX5_bodyByte) (maxL := 4) (ret := (some .int)) (by decide) rfl ?_
  intro p e s m args below meth c s₁ B hml hv__
  obtain ⟨rfl, hv__⟩ := hv__
  obtain ⟨hsz, hS, hK, hN, hA⟩ := gS.entry hv__
  have hl := lv_entry ([.ref (ad 46), .int (nI i)]) (n := 4) (Nat.le_of_ble_eq_true rfl)
  rw [lg_entry_eq]
  generalize (lg_sl ([.ref (ad 46), .int (nI i)]) ++ List.replicate (4 - (lg_sl ([.ref (ad 46), .int (nI i)])).length) Slot.unset).toArray = ls at hl ⊢
  exact bd_X5_bodyByte (i := i) (S := S) ⟨B.exec, B.bytes, hml, findClass_of_methodNamed B.named, atoms_spec (ws := wsX5_bodyByte) B.pre, B.returns, B.notSynchronized⟩ (Nat.le_refl _) (Nat.le_refl _) (Nat.le_refl _) (Nat.le_refl _) hK hN hA hn hln hs hS9 hi hv hS hl (fun r iv' H locs ls pc hd hp hS => gx_iret B.exec B.bytes B.returns B.notSynchronized hS hp hd)

theorem inX5_lowerThan_RX5 : ∀ {w : Cond}, w ∈ u_ws RX5 TX5 6 → w ∈ wsX5_lowerThan := fun {w} h => by first | exact List.mem_cons_of_mem _ (List.mem_append_right _ h) | (revert h; revert w; show ∀ w ∈ u_ws RX5 TX5 6, w ∈ wsX5_lowerThan; decide +kernel)
set_option maxHeartbeats 4000000 in
set_option maxRecDepth 100000 in
theorem bd_X5_lowerThan {p : Program} {l : Launch} {e : Env} {R : Room} {s : State} {m : MethodId} {args : Array Value} {below : List Frame} {meth : Method} {c : Code} {H : Heap} {locs : List Loc} {cells slots : Nat} {Q : State → Prop} {ls : Array Slot} {D : va_G} {A : Nat → Prop} {H0 : Heap} {cA : Nat → ClassId} {o : Nat → Int64} {ad ln : Nat → Nat} {iv : Nat → Nat → Int32} {n : Nat} {v : Int32} {C : Nat}
    (F : gF p s m meth c cX5_lowerThan 6 RX5 wsX5_lowerThan args (some .int)) (hRf : 0 ≤ R.frames) (hRl : 0 ≤ R.locals) (hRc : cells ≤ R.cells) (hRs : slots ≤ R.slots) (hK : va_K D vwCl (gT cA) s) (hN : NW s) (hA : ∀ q, H0.size ≤ q → A q) (hn : 68 ≤ n) (hln : ∀ k, ln k < 2 ^ 31) (hr9 : iv 46 3 = nI C) (hC : C < 2 ^ 30) (hq : C ≤ ln 48) (hqi : ∀ i, i < C → vp_in (iv 48 i) (ln 47)) (hso : ∀ i j, i ≤ j → j < C → iv 47 (tn (iv 48 i)) ≤ iv 47 (tn (iv 48 j)))
    (hS : gS D cA A H0 o ad ln iv n H locs) (hl : lv_has ls 6 [(0, .ref (ad 46)), (1, .int v)])
    (kret : ∀ (r : Int32) (iv' : Nat → Nat → Int32) (H : Heap) (locs : List Loc) (ls : Array Slot) (pc : Nat), decode cX5_lowerThan pc = .ok (.ireturn, 1) → ((∃ L, r = nI L ∧ cutAt (fun i => iv 47 (tn (iv 48 i))) C v L) ∧ iv' = iv) → gS D cA A H0 o ad ln iv' n H locs → W p l e R s m args below meth c H locs cells slots Q (F0 m pc ls [.int r])) :
    W p l e R s m args below meth c H locs cells slots Q (F0 m 0 ls []) := by
  obtain ⟨hx, hb, hml, hown, hts, hr, hlocks⟩ := F
  refine lv_iconst (v := nI 0) hx hb dX5_lowerThan_0 (by decide) ?_
  refine lv_istore_n (lv' := [(2, .int (nI 0)), (0, .ref (ad 46)), (1, .int v)]) hx hb dX5_lowerThan_1 rfl hl (by decide) rfl (fun ls hl => ?_)
  refine lv_aload_n hx hb dX5_lowerThan_2 rfl (lv_at hl 1 rfl) ?_
  refine gx_get (ci := 8) (v := .int (iv 46 3)) (C := RX5) (T := TX5) (N := 6) hx hb hts (fun _ h => inX5_lowerThan_RX5 h) hown hK hS 46 (by omega) rfl rfl 3 (by decide) (hts (.fieldLink RX5 45 "CosetTables$Table" "reached" "I") (by decide +kernel)) rfl dX5_lowerThan_3 ?_
  refine gx_as (y := nI C) hr9 ?_
  refine lv_istore_n (lv' := [(3, .int (nI C)), (2, .int (nI 0)), (0, .ref (ad 46)), (1, .int v)]) hx hb dX5_lowerThan_6 rfl hl (by decide) rfl (fun ls hl => ?_)
  refine lv_iconst (v := nI 0) hx hb dX5_lowerThan_7 (by decide) ?_
  refine lv_istore (lv' := [(4, .int (nI 0)), (3, .int (nI C)), (2, .int (nI 0)), (0, .ref (ad 46)), (1, .int v)]) hx hb dX5_lowerThan_8 hl (by decide) rfl (fun ls hl => ?_)
  have L10 : ∀ (N : Nat) (h lo hi : Nat), 32 - h < N → (h ≤ 32) → (lo ≤ hi ∧ hi ≤ C ∧ hi - lo < 2 ^ (32 - h)) → (∀ i, i < lo → iv 47 (tn (iv 48 i)) < v) → (∀ i, hi ≤ i → i < C → ¬ iv 47 (tn (iv 48 i)) < v) → ∀ (H : Heap) (locs : List Loc) (ls : Array Slot), gS D cA A H0 o ad ln iv n H locs → lv_has ls 6 [(0, .ref (ad 46)), (1, .int v), (2, .int (nI lo)), (3, .int (nI hi)), (4, .int (nI h))] → W p l e R s m args below meth c H locs cells slots Q (F0 m 10 ls []) := by
    intro N
    induction N with
    | zero => intro h lo hi hm; exact absurd hm (Nat.not_lt_zero _)
    | succ N ih10 =>
      intro h lo hi hm hh hlh hlo hhi H locs ls hS hl
      refine lv_iload hx hb dX5_lowerThan_10 (lv_at hl 4 rfl) ?_
      refine lv_bipush (v := nI 32) hx hb dX5_lowerThan_12 (by decide) ?_
      refine lv_icmp_ge (tgt := 62) hx hb dX5_lowerThan_14 (by decide) (fun c_14 => ?_) (fun c_14 => ?_)
      · skip
        rw [nI_leI (by omega) (by omega)] at c_14
        have e0 : h = 32 := by omega
        subst e0
        have e1 : lo = hi := by have := hlh.2.2; simp at this; omega
        have hfin : cutAt (fun i => iv 47 (tn (iv 48 i))) C v lo := ⟨by omega, hlo, fun i h1 h2 => hhi i (by omega) h2⟩
        refine lv_iload_n hx hb dX5_lowerThan_62 rfl (lv_at hl 2 rfl) ?_
        exact kret _ iv _ _ _ _ dX5_lowerThan_63 (⟨⟨lo, rfl, hfin⟩, rfl⟩) hS
      · skip
        rw [nI_leI (by omega) (by omega)] at c_14
        refine lv_iload_n hx hb dX5_lowerThan_17 rfl (lv_at hl 2 rfl) ?_
        refine lv_iload_n hx hb dX5_lowerThan_18 rfl (lv_at hl 3 rfl) ?_
        refine lv_icmp_ge (tgt := 62) hx hb dX5_lowerThan_19 (by decide) (fun c_19 => ?_) (fun c_19 => ?_)
        · skip
          rw [nI_leI (by omega) (by omega)] at c_19
          have e1 : lo = hi := by omega
          have hfin : cutAt (fun i => iv 47 (tn (iv 48 i))) C v lo := ⟨by omega, hlo, fun i h1 h2 => hhi i (by omega) h2⟩
          refine lv_iload_n hx hb dX5_lowerThan_62 rfl (lv_at hl 2 rfl) ?_
          exact kret _ iv _ _ _ _ dX5_lowerThan_63 (⟨⟨lo, rfl, hfin⟩, rfl⟩) hS
        · skip
          rw [nI_leI (by omega) (by omega)] at c_19
          have hpw : 2 ^ (32 - h) = 2 * 2 ^ (32 - (h + 1)) := by rw [← Nat.pow_succ', show (32 - (h + 1)).succ = 32 - h by omega]
          refine lv_iload_n hx hb dX5_lowerThan_22 rfl (lv_at hl 2 rfl) ?_
          refine lv_iload_n hx hb dX5_lowerThan_23 rfl (lv_at hl 3 rfl) ?_
          refine lv_iadd hx hb dX5_lowerThan_24 ?_
          refine gx_as (y := nI (lo + hi)) (nI_add _ _) ?_
          refine lv_iconst (v := nI 2) hx hb dX5_lowerThan_25 (by decide) ?_
          refine lv_idiv hx hb dX5_lowerThan_26 (by decide) ?_
          refine gx_as (y := nI ((lo + hi) / 2)) (pk_div (by omega) (by decide) (by decide)) ?_
          refine lv_istore (lv' := [(5, .int (nI ((lo + hi) / 2))), (0, .ref (ad 46)), (1, .int v), (2, .int (nI lo)), (3, .int (nI hi)), (4, .int (nI h))]) hx hb dX5_lowerThan_27 hl (by decide) rfl (fun ls hl => ?_)
          refine lv_aload_n hx hb dX5_lowerThan_29 rfl (lv_at hl 1 rfl) ?_
          refine gx_get (ci := 8) (v := .ref (ad 47)) (C := RX5) (T := TX5) (N := 6) hx hb hts (fun _ h => inX5_lowerThan_RX5 h) hown hK hS 46 (by omega) rfl rfl 4 (by decide) (hts (.fieldLink RX5 9 "CosetTables$Table" "values" "[I") (by decide +kernel)) rfl dX5_lowerThan_30 ?_
          refine lv_aload_n hx hb dX5_lowerThan_33 rfl (lv_at hl 1 rfl) ?_
          refine gx_get (ci := 8) (v := .ref (ad 48)) (C := RX5) (T := TX5) (N := 6) hx hb hts (fun _ h => inX5_lowerThan_RX5 h) hown hK hS 46 (by omega) rfl rfl 5 (by decide) (hts (.fieldLink RX5 15 "CosetTables$Table" "queue" "[I") (by decide +kernel)) rfl dX5_lowerThan_34 ?_
          refine lv_iload hx hb dX5_lowerThan_37 (lv_at hl 0 rfl) ?_
          refine gx_ialdn hx hb hK hS 48 (by omega) (by decide) ((lo + hi) / 2) (by omega) (hln _) dX5_lowerThan_39 ?_
          refine gx_iald hx hb hK hS 47 (by omega) (by decide) (hqi _ (by omega)) dX5_lowerThan_40 ?_
          refine lv_iload_n hx hb dX5_lowerThan_41 rfl (lv_at hl 2 rfl) ?_
          refine lv_icmp_ge (tgt := 53) hx hb dX5_lowerThan_42 (by decide) (fun c_42 => ?_) (fun c_42 => ?_)
          · skip
            refine lv_iload hx hb dX5_lowerThan_53 (lv_at hl 0 rfl) ?_
            refine lv_istore_n (lv' := [(3, .int (nI ((lo + hi) / 2))), (5, .int (nI ((lo + hi) / 2))), (0, .ref (ad 46)), (1, .int v), (2, .int (nI lo)), (4, .int (nI h))]) hx hb dX5_lowerThan_55 rfl hl (by decide) rfl (fun ls hl => ?_)
            refine lv_iinc (v := nI (h + 1)) (lv' := [(4, .int (nI (h + 1))), (3, .int (nI ((lo + hi) / 2))), (5, .int (nI ((lo + hi) / 2))), (0, .ref (ad 46)), (1, .int v), (2, .int (nI lo))]) hx hb dX5_lowerThan_56 hl (k := 5) rfl (nI_1 h) (by decide) rfl (fun ls hl => ?_)
            refine lv_goto (tgt := 10) hx hb dX5_lowerThan_59 (by decide) ?_
            exact ih10 (h + 1) lo ((lo + hi) / 2) (by omega) (by omega) ⟨by omega, by omega, by omega⟩ hlo (fun i h1 h2 q9 => Int32.lt_irrefl (Int32.lt_of_le_of_lt c_42 (Int32.lt_of_le_of_lt (hso _ i h1 h2) q9))) _ _ _ hS (lv_sub hl [3, 4, 5, 1, 0] rfl)
          · skip
            refine lv_iload hx hb dX5_lowerThan_45 (lv_at hl 0 rfl) ?_
            refine lv_iconst (v := nI 1) hx hb dX5_lowerThan_47 (by decide) ?_
            refine lv_iadd hx hb dX5_lowerThan_48 ?_
            refine gx_as (y := nI (((lo + hi) / 2) + 1)) (nI_add _ _) ?_
            refine lv_istore_n (lv' := [(2, .int (nI (((lo + hi) / 2) + 1))), (5, .int (nI ((lo + hi) / 2))), (0, .ref (ad 46)), (1, .int v), (3, .int (nI hi)), (4, .int (nI h))]) hx hb dX5_lowerThan_49 rfl hl (by decide) rfl (fun ls hl => ?_)
            refine lv_goto (tgt := 56) hx hb dX5_lowerThan_50 (by decide) ?_
            refine lv_iinc (v := nI (h + 1)) (lv' := [(4, .int (nI (h + 1))), (2, .int (nI (((lo + hi) / 2) + 1))), (5, .int (nI ((lo + hi) / 2))), (0, .ref (ad 46)), (1, .int v), (3, .int (nI hi))]) hx hb dX5_lowerThan_56 hl (k := 5) rfl (nI_1 h) (by decide) rfl (fun ls hl => ?_)
            refine lv_goto (tgt := 10) hx hb dX5_lowerThan_59 (by decide) ?_
            exact ih10 (h + 1) ((lo + hi) / 2 + 1) hi (by omega) (by omega) ⟨by omega, by omega, by omega⟩ (fun i h1 => Int32.lt_of_le_of_lt (hso i ((lo + hi) / 2) (by omega) (by omega)) (Int32.not_le.mp c_42)) hhi _ _ _ hS (lv_sub hl [3, 4, 1, 5, 0] rfl)
  exact L10 _ 0 0 C (Nat.lt_succ_self _) (by omega) ⟨Nat.zero_le _, Nat.le_refl _, by omega⟩ lt_0 (fun i h1 h2 => absurd h2 (by omega)) _ _ _ hS (lv_sub hl [3, 4, 2, 1, 0] rfl)
set_option maxRecDepth 100000 in
theorem ct_X5_lowerThan (l : Launch) (D : va_G) (cA : Nat → ClassId) (o : Nat → Int64) (ad ln : Nat → Nat) (n sz : Nat) (iv : Nat → Nat → Int32) (v : Int32) (C : Nat) (hn : 68 ≤ n) (hln : ∀ k, ln k < 2 ^ 31) (hr9 : iv 46 3 = nI C) (hC : C < 2 ^ 30) (hq : C ≤ ln 48) (hqi : ∀ i, i < C → vp_in (iv 48 i) (ln 47)) (hso : ∀ i j, i ≤ j → j < C → iv 47 (tn (iv 48 i)) ≤ iv 47 (tn (iv 48 j))) : gMi l yX5_lowerThan wsX5_lowerThan { frames := 0, cells := 0, slots := 0, locals := 0 } D cA o ad ln n sz iv [.ref (ad 46), .int v] (fun (r : Int32) iv' => (∃ L, r = nI L ∧ cutAt (fun i => iv 47 (tn (iv 48 i))) C v L) ∧ iv' = iv) := by
  refine Met.ofW (cc := cX5_lowerThan) (maxL := 6) (ret := (some .int)) (by decide) rfl ?_
  intro p e s m args below meth c s₁ B hml hv__
  obtain ⟨rfl, hv__⟩ := hv__
  obtain ⟨hsz, hS, hK, hN, hA⟩ := gS.entry hv__
  have hl := lv_entry ([.ref (ad 46), .int v]) (n := 6) (Nat.le_of_ble_eq_true rfl)
  rw [lg_entry_eq]
  generalize (lg_sl ([.ref (ad 46), .int v]) ++ List.replicate (6 - (lg_sl ([.ref (ad 46), .int v])).length) Slot.unset).toArray = ls at hl ⊢
  exact bd_X5_lowerThan (v := v) (C := C) ⟨B.exec, B.bytes, hml, findClass_of_methodNamed B.named, atoms_spec (ws := wsX5_lowerThan) B.pre, B.returns, B.notSynchronized⟩ (Nat.le_refl _) (Nat.le_refl _) (Nat.le_refl _) (Nat.le_refl _) hK hN hA hn hln hr9 hC hq hqi hso hS hl (fun r iv' H locs ls pc hd hp hS => gx_iret B.exec B.bytes B.returns B.notSynchronized hS hp hd)

theorem inX4_after_RX4 : ∀ {w : Cond}, w ∈ u_ws RX4 TX4 6 → w ∈ wsX4_after := fun {w} h => by first | exact List.mem_cons_of_mem _ (List.mem_append_right _ h) | (revert h; revert w; show ∀ w ∈ u_ws RX4 TX4 6, w ∈ wsX4_after; decide +kernel)
set_option maxHeartbeats 4000000 in
set_option maxRecDepth 100000 in
theorem bd_X4_after {p : Program} {l : Launch} {e : Env} {R : Room} {s : State} {m : MethodId} {args : Array Value} {below : List Frame} {meth : Method} {c : Code} {H : Heap} {locs : List Loc} {cells slots : Nat} {Q : State → Prop} {ls : Array Slot} {D : va_G} {A : Nat → Prop} {H0 : Heap} {cA : Nat → ClassId} {o : Nat → Int64} {ad ln : Nat → Nat} {iv : Nat → Nat → Int32} {n : Nat} {x m9 a t u v w : Nat}
    (F : gF p s m meth c cX4_after 6 RX4 wsX4_after args (some .int)) (hRf : 0 ≤ R.frames) (hRl : 0 ≤ R.locals) (hRc : cells ≤ R.cells) (hRs : slots ≤ R.slots) (hK : va_K D vwCl (gT cA) s) (hN : NW s) (hA : ∀ q, H0.size ≤ q → A q) (hn : 68 ≤ n) (hln : ∀ k, ln k < 2 ^ 31) (ha : iv 42 1 = nI a) (ht : iv 42 2 = nI t) (h0 : 0 < t) (hx9 : x < a * t) (hm9 : m9 < 6) (hat : a * t ≤ 136080) (ha9 : a ≤ 1680) (ht9 : t ≤ 81) (hl1 : 6 * a ≤ ln 43) (hl2 : 6 * a ≤ ln 44) (hl3 : t * t ≤ ln 45) (e1 : iv 43 (m9 * a + x / t) = nI u) (e2 : iv 44 (m9 * a + x / t) = nI v) (hv : v < t) (e3 : iv 45 (x % t * t + v) = nI w)
    (hS : gS D cA A H0 o ad ln iv n H locs) (hl : lv_has ls 6 [(0, .ref (ad 42)), (1, .int (nI x)), (2, .int (nI m9))])
    (kret : ∀ (r : Int32) (iv' : Nat → Nat → Int32) (H : Heap) (locs : List Loc) (ls : Array Slot) (pc : Nat), decode cX4_after pc = .ok (.ireturn, 1) → (r = nI (u * t + w) ∧ iv' = iv) → gS D cA A H0 o ad ln iv' n H locs → W p l e R s m args below meth c H locs cells slots Q (F0 m pc ls [.int r])) :
    W p l e R s m args below meth c H locs cells slots Q (F0 m 0 ls []) := by
  obtain ⟨hx, hb, hml, hown, hts, hr, hlocks⟩ := F
  have h1 : x / t < a := Nat.div_lt_of_lt_mul (by rw [Nat.mul_comm]; exact hx9)
  have h2 : m9 * a + x / t < 6 * a := by
    have := Nat.mul_le_mul_right a (show m9 + 1 ≤ 6 by omega)
    rw [Nat.succ_mul] at this
    omega
  have h3 : x / t * t ≤ x := Nat.div_mul_le_self x t
  have h4 : x - x / t * t = x % t := by
    have := Nat.div_add_mod x t
    rw [Nat.mul_comm] at this
    omega
  have h5 : x % t < t := Nat.mod_lt _ h0
  have h6 : x % t * t + v < t * t := by
    have := Nat.mul_le_mul_right t (show x % t + 1 ≤ t by omega)
    rw [Nat.succ_mul] at this
    omega
  refine lv_iload_n hx hb dX4_after_0 rfl (lv_at hl 1 rfl) ?_
  refine lv_aload_n hx hb dX4_after_1 rfl (lv_at hl 0 rfl) ?_
  refine gx_get (ci := 7) (v := .int (iv 42 2)) (C := RX4) (T := TX4) (N := 6) hx hb hts (fun _ h => inX4_after_RX4 h) hown hK hS 42 (by omega) rfl rfl 2 (by decide) (hts (.fieldLink RX4 15 "CosetTables$Steps" "twistings" "I") (by decide +kernel)) rfl dX4_after_2 ?_
  refine gx_as (y := nI t) ht ?_
  refine lv_idiv hx hb dX4_after_5 (nI_ne0 h0 (by omega)) ?_
  refine gx_as (y := nI (x / t)) (pk_div (by omega) h0 (by omega)) ?_
  refine lv_istore_n (lv' := [(3, .int (nI (x / t))), (0, .ref (ad 42)), (1, .int (nI x)), (2, .int (nI m9))]) hx hb dX4_after_6 rfl hl (by decide) rfl (fun ls hl => ?_)
  refine lv_iload_n hx hb dX4_after_7 rfl (lv_at hl 2 rfl) ?_
  refine lv_iload_n hx hb dX4_after_8 rfl (lv_at hl 0 rfl) ?_
  refine lv_aload_n hx hb dX4_after_9 rfl (lv_at hl 1 rfl) ?_
  refine gx_get (ci := 7) (v := .int (iv 42 2)) (C := RX4) (T := TX4) (N := 6) hx hb hts (fun _ h => inX4_after_RX4 h) hown hK hS 42 (by omega) rfl rfl 2 (by decide) (hts (.fieldLink RX4 15 "CosetTables$Steps" "twistings" "I") (by decide +kernel)) rfl dX4_after_10 ?_
  refine gx_as (y := nI t) ht ?_
  refine lv_imul hx hb dX4_after_13 ?_
  refine gx_as (y := nI ((x / t) * t)) (pk_mul _ _) ?_
  refine lv_isub hx hb dX4_after_14 ?_
  refine gx_as (y := nI (x % t)) (by rw [pk_sub h3, h4]) ?_
  refine lv_istore (lv' := [(4, .int (nI (x % t))), (3, .int (nI (x / t))), (0, .ref (ad 42)), (1, .int (nI x)), (2, .int (nI m9))]) hx hb dX4_after_15 hl (by decide) rfl (fun ls hl => ?_)
  refine lv_iload_n hx hb dX4_after_17 rfl (lv_at hl 4 rfl) ?_
  refine lv_aload_n hx hb dX4_after_18 rfl (lv_at hl 2 rfl) ?_
  refine gx_get (ci := 7) (v := .int (iv 42 1)) (C := RX4) (T := TX4) (N := 6) hx hb hts (fun _ h => inX4_after_RX4 h) hown hK hS 42 (by omega) rfl rfl 1 (by decide) (hts (.fieldLink RX4 9 "CosetTables$Steps" "arrangements" "I") (by decide +kernel)) rfl dX4_after_19 ?_
  refine gx_as (y := nI a) ha ?_
  refine lv_imul hx hb dX4_after_22 ?_
  refine gx_as (y := nI (m9 * a)) (pk_mul _ _) ?_
  refine lv_iload_n hx hb dX4_after_23 rfl (lv_at hl 1 rfl) ?_
  refine lv_iadd hx hb dX4_after_24 ?_
  refine gx_as (y := nI ((m9 * a) + (x / t))) (nI_add _ _) ?_
  refine lv_istore (lv' := [(5, .int (nI ((m9 * a) + (x / t)))), (4, .int (nI (x % t))), (3, .int (nI (x / t))), (0, .ref (ad 42)), (1, .int (nI x)), (2, .int (nI m9))]) hx hb dX4_after_25 hl (by decide) rfl (fun ls hl => ?_)
  refine lv_aload_n hx hb dX4_after_27 rfl (lv_at hl 3 rfl) ?_
  refine gx_get (ci := 7) (v := .ref (ad 43)) (C := RX4) (T := TX4) (N := 6) hx hb hts (fun _ h => inX4_after_RX4 h) hown hK hS 42 (by omega) rfl rfl 3 (by decide) (hts (.fieldLink RX4 18 "CosetTables$Steps" "arrangementAfter" "[I") (by decide +kernel)) rfl dX4_after_28 ?_
  refine lv_iload hx hb dX4_after_31 (lv_at hl 0 rfl) ?_
  refine gx_ialdn hx hb hK hS 43 (by omega) (by decide) ((m9 * a) + (x / t)) (by omega) (hln _) dX4_after_33 ?_
  refine gx_as (y := nI u) e1 ?_
  refine lv_aload_n hx hb dX4_after_34 rfl (lv_at hl 3 rfl) ?_
  refine gx_get (ci := 7) (v := .int (iv 42 2)) (C := RX4) (T := TX4) (N := 6) hx hb hts (fun _ h => inX4_after_RX4 h) hown hK hS 42 (by omega) rfl rfl 2 (by decide) (hts (.fieldLink RX4 15 "CosetTables$Steps" "twistings" "I") (by decide +kernel)) rfl dX4_after_35 ?_
  refine gx_as (y := nI t) ht ?_
  refine lv_imul hx hb dX4_after_38 ?_
  refine gx_as (y := nI (u * t)) (pk_mul _ _) ?_
  refine lv_aload_n hx hb dX4_after_39 rfl (lv_at hl 3 rfl) ?_
  refine gx_get (ci := 7) (v := .ref (ad 45)) (C := RX4) (T := TX4) (N := 6) hx hb hts (fun _ h => inX4_after_RX4 h) hown hK hS 42 (by omega) rfl rfl 5 (by decide) (hts (.fieldLink RX4 25 "CosetTables$Steps" "twistingSums" "[I") (by decide +kernel)) rfl dX4_after_40 ?_
  refine lv_iload hx hb dX4_after_43 (lv_at hl 1 rfl) ?_
  refine lv_aload_n hx hb dX4_after_45 rfl (lv_at hl 3 rfl) ?_
  refine gx_get (ci := 7) (v := .int (iv 42 2)) (C := RX4) (T := TX4) (N := 6) hx hb hts (fun _ h => inX4_after_RX4 h) hown hK hS 42 (by omega) rfl rfl 2 (by decide) (hts (.fieldLink RX4 15 "CosetTables$Steps" "twistings" "I") (by decide +kernel)) rfl dX4_after_46 ?_
  refine gx_as (y := nI t) ht ?_
  refine lv_imul hx hb dX4_after_49 ?_
  refine gx_as (y := nI ((x % t) * t)) (pk_mul _ _) ?_
  refine lv_aload_n hx hb dX4_after_50 rfl (lv_at hl 3 rfl) ?_
  refine gx_get (ci := 7) (v := .ref (ad 44)) (C := RX4) (T := TX4) (N := 6) hx hb hts (fun _ h => inX4_after_RX4 h) hown hK hS 42 (by omega) rfl rfl 4 (by decide) (hts (.fieldLink RX4 22 "CosetTables$Steps" "twistingAdded" "[I") (by decide +kernel)) rfl dX4_after_51 ?_
  refine lv_iload hx hb dX4_after_54 (lv_at hl 0 rfl) ?_
  refine gx_ialdn hx hb hK hS 44 (by omega) (by decide) ((m9 * a) + (x / t)) (by omega) (hln _) dX4_after_56 ?_
  refine gx_as (y := nI v) e2 ?_
  refine lv_iadd hx hb dX4_after_57 ?_
  refine gx_as (y := nI (((x % t) * t) + v)) (nI_add _ _) ?_
  refine gx_ialdn hx hb hK hS 45 (by omega) (by decide) (((x % t) * t) + v) (by omega) (hln _) dX4_after_58 ?_
  refine gx_as (y := nI w) e3 ?_
  refine lv_iadd hx hb dX4_after_59 ?_
  refine gx_as (y := nI ((u * t) + w)) (nI_add _ _) ?_
  exact kret _ iv _ _ _ _ dX4_after_60 (⟨rfl, rfl⟩) hS
set_option maxRecDepth 100000 in
theorem ct_X4_after (l : Launch) (D : va_G) (cA : Nat → ClassId) (o : Nat → Int64) (ad ln : Nat → Nat) (n sz : Nat) (iv : Nat → Nat → Int32) (x m9 a t u v w : Nat) (hn : 68 ≤ n) (hln : ∀ k, ln k < 2 ^ 31) (ha : iv 42 1 = nI a) (ht : iv 42 2 = nI t) (h0 : 0 < t) (hx9 : x < a * t) (hm9 : m9 < 6) (hat : a * t ≤ 136080) (ha9 : a ≤ 1680) (ht9 : t ≤ 81) (hl1 : 6 * a ≤ ln 43) (hl2 : 6 * a ≤ ln 44) (hl3 : t * t ≤ ln 45) (e1 : iv 43 (m9 * a + x / t) = nI u) (e2 : iv 44 (m9 * a + x / t) = nI v) (hv : v < t) (e3 : iv 45 (x % t * t + v) = nI w) : gMi l yX4_after wsX4_after { frames := 0, cells := 0, slots := 0, locals := 0 } D cA o ad ln n sz iv [.ref (ad 42), .int (nI x), .int (nI m9)] (fun (r : Int32) iv' => r = nI (u * t + w) ∧ iv' = iv) := by
  refine Met.ofW (cc := cX4_after) (maxL := 6) (ret := (some .int)) (by decide) rfl ?_
  intro p e s m args below meth c s₁ B hml hv__
  obtain ⟨rfl, hv__⟩ := hv__
  obtain ⟨hsz, hS, hK, hN, hA⟩ := gS.entry hv__
  have hl := lv_entry ([.ref (ad 42), .int (nI x), .int (nI m9)]) (n := 6) (Nat.le_of_ble_eq_true rfl)
  rw [lg_entry_eq]
  generalize (lg_sl ([.ref (ad 42), .int (nI x), .int (nI m9)]) ++ List.replicate (6 - (lg_sl ([.ref (ad 42), .int (nI x), .int (nI m9)])).length) Slot.unset).toArray = ls at hl ⊢
  exact bd_X4_after (x := x) (m9 := m9) (a := a) (t := t) (u := u) (v := v) (w := w) ⟨B.exec, B.bytes, hml, findClass_of_methodNamed B.named, atoms_spec (ws := wsX4_after) B.pre, B.returns, B.notSynchronized⟩ (Nat.le_refl _) (Nat.le_refl _) (Nat.le_refl _) (Nat.le_refl _) hK hN hA hn hln ha ht h0 hx9 hm9 hat ha9 ht9 hl1 hl2 hl3 e1 e2 hv e3 hS hl (fun r iv' H locs ls pc hd hp hS => gx_iret B.exec B.bytes B.returns B.notSynchronized hS hp hd)

theorem inX2_root_RX2 : ∀ {w : Cond}, w ∈ u_ws RX2 TX2 8 → w ∈ wsX2_root := fun {w} h => by first | exact List.mem_cons_of_mem _ (List.mem_append_right _ h) | (revert h; revert w; show ∀ w ∈ u_ws RX2 TX2 8, w ∈ wsX2_root; decide +kernel)
set_option maxHeartbeats 4000000 in
set_option maxRecDepth 100000 in
theorem bd_X2_root {p : Program} {l : Launch} {e : Env} {R : Room} {s : State} {m : MethodId} {args : Array Value} {below : List Frame} {meth : Method} {c : Code} {H : Heap} {locs : List Loc} {cells slots : Nat} {Q : State → Prop} {ls : Array Slot} {D : va_G} {A : Nat → Prop} {H0 : Heap} {cA : Nat → ClassId} {o : Nat → Int64} {ad ln : Nat → Nat} {iv : Nat → Nat → Int32} {n : Nat} {x S : Nat} {lk : Nat → Nat}
    (F : gF p s m meth c cX2_root 4 RX2 wsX2_root args (some .int)) (hRf : 0 ≤ R.frames) (hRl : 0 ≤ R.locals) (hRc : cells ≤ R.cells) (hRs : slots ≤ R.slots) (hK : va_K D vwCl (gT cA) s) (hN : NW s) (hA : ∀ q, H0.size ≤ q → A q) (hn : 68 ≤ n) (hln : ∀ k, ln k < 2 ^ 31) (hs : iv 49 2 = nI S) (hS9 : S < 2 ^ 30) (hl9 : S ≤ ln 50) (hx9 : x < S) (hlk : ∀ k, k < S → iv 50 k = nI (lk k)) (hd9 : dn lk S)
    (hS : gS D cA A H0 o ad ln iv n H locs) (hl : lv_has ls 4 [(0, .ref (ad 49)), (1, .int (nI x))])
    (kret : ∀ (r : Int32) (iv' : Nat → Nat → Int32) (H : Heap) (locs : List Loc) (ls : Array Slot) (pc : Nat), decode cX2_root pc = .ok (.ireturn, 1) → (r = nI (root lk x) ∧ ∃ lk', (∀ k, k < S → iv' 50 k = nI (lk' k)) ∧ dn lk' S ∧ (∀ k, k < S → root lk' k = root lk k) ∧ ∀ q, q ≠ 50 → iv' q = iv q) → gS D cA A H0 o ad ln iv' n H locs → W p l e R s m args below meth c H locs cells slots Q (F0 m pc ls [.int r])) :
    W p l e R s m args below meth c H locs cells slots Q (F0 m 0 ls []) := by
  obtain ⟨hx, hb, hml, hown, hts, hr, hlocks⟩ := F
  refine lv_iload_n hx hb dX2_root_0 rfl (lv_at hl 1 rfl) ?_
  refine lv_istore_n (lv' := [(2, .int (nI x)), (0, .ref (ad 49)), (1, .int (nI x))]) hx hb dX2_root_1 rfl hl (by decide) rfl (fun ls hl => ?_)
  refine lv_iconst (v := nI 0) hx hb dX2_root_2 (by decide) ?_
  refine lv_istore_n (lv' := [(3, .int (nI 0)), (2, .int (nI x)), (0, .ref (ad 49)), (1, .int (nI x))]) hx hb dX2_root_3 rfl hl (by decide) rfl (fun ls hl => ?_)
  have L4 : ∀ (N : Nat) (i y : Nat) (lk1 : Nat → Nat) (iv1 : Nat → Nat → Int32), S - i < N → (i + y ≤ x) → (root lk y = root lk x) → (∀ k, k < S → iv1 50 k = nI (lk1 k)) → (dn lk1 S) → (∀ k, k < S → root lk1 k = root lk k) → (∀ q, q ≠ 50 → iv1 q = iv q) → ∀ (H : Heap) (locs : List Loc) (ls : Array Slot), gS D cA A H0 o ad ln iv1 n H locs → lv_has ls 4 [(0, .ref (ad 49)), (1, .int (nI x)), (2, .int (nI y)), (3, .int (nI i))] → W p l e R s m args below meth c H locs cells slots Q (F0 m 4 ls []) := by
    intro N
    induction N with
    | zero => intro i y lk1 iv1 hm; exact absurd hm (Nat.not_lt_zero _)
    | succ N ih4 =>
      intro i y lk1 iv1 hm hi hy h1 h2 h3 h4 H locs ls hS hl
      have hyS : y < S := by omega
      have g1 := h2 y hyS
      have g2 := h2 (lk1 y) (by omega)
      refine lv_iload_n hx hb dX2_root_4 rfl (lv_at hl 3 rfl) ?_
      refine lv_aload_n hx hb dX2_root_5 rfl (lv_at hl 0 rfl) ?_
      refine gx_get (ci := 5) (v := .int (iv1 49 2)) (C := RX2) (T := TX2) (N := 8) hx hb hts (fun _ h => inX2_root_RX2 h) hown hK hS 49 (by omega) rfl rfl 2 (by decide) (hts (.fieldLink RX2 29 "CosetTables$Orbits" "states" "I") (by decide +kernel)) rfl dX2_root_6 ?_
      refine gx_as (y := nI S) (by rw [h4 49 (by decide)]; exact hs) ?_
      refine lv_icmp_ge (tgt := 52) hx hb dX2_root_9 (by decide) (fun c_9 => ?_) (fun c_9 => ?_)
      · skip
        rw [nI_leI (by omega) (by omega)] at c_9
        omega
      · skip
        rw [nI_leI (by omega) (by omega)] at c_9
        refine lv_aload_n hx hb dX2_root_12 rfl (lv_at hl 0 rfl) ?_
        refine gx_get (ci := 5) (v := .ref (ad 50)) (C := RX2) (T := TX2) (N := 8) hx hb hts (fun _ h => inX2_root_RX2 h) hown hK hS 49 (by omega) rfl rfl 5 (by decide) (hts (.fieldLink RX2 7 "CosetTables$Orbits" "links" "[I") (by decide +kernel)) rfl dX2_root_13 ?_
        refine lv_iload_n hx hb dX2_root_16 rfl (lv_at hl 2 rfl) ?_
        refine gx_ialdn hx hb hK hS 50 (by omega) (by decide) y (by omega) (hln _) dX2_root_17 ?_
        refine gx_as (y := nI (lk1 y)) (h1 y (by omega)) ?_
        refine lv_iload_n hx hb dX2_root_18 rfl (lv_at hl 2 rfl) ?_
        refine lv_icmp_eq (tgt := 52) hx hb dX2_root_19 (by decide) (fun c_19 => ?_) (fun c_19 => ?_)
        · skip
          rw [nI_eq (by omega) (by omega)] at c_19
          skip
          refine lv_iload_n hx hb dX2_root_52 rfl (lv_at hl 2 rfl) ?_
          exact kret _ iv1 _ _ _ _ dX2_root_53 (⟨by rw [← hy, ← h3 y (by omega), root_fix c_19], lk1, h1, h2, h3, h4⟩) hS
        · skip
          rw [nI_eq (by omega) (by omega)] at c_19
          have h22 := root_up (y := lk1 (lk1 y)) h2 (show y < S by omega) (by omega) (by rw [root_step h2 (by omega), root_step h2 (by omega)]) (fun _ => by omega) (fun q9 => absurd q9 (by omega))
          refine lv_aload_n hx hb dX2_root_22 rfl (lv_at hl 0 rfl) ?_
          refine gx_get (ci := 5) (v := .ref (ad 50)) (C := RX2) (T := TX2) (N := 8) hx hb hts (fun _ h => inX2_root_RX2 h) hown hK hS 49 (by omega) rfl rfl 5 (by decide) (hts (.fieldLink RX2 7 "CosetTables$Orbits" "links" "[I") (by decide +kernel)) rfl dX2_root_23 ?_
          refine lv_iload_n hx hb dX2_root_26 rfl (lv_at hl 2 rfl) ?_
          refine lv_aload_n hx hb dX2_root_27 rfl (lv_at hl 0 rfl) ?_
          refine gx_get (ci := 5) (v := .ref (ad 50)) (C := RX2) (T := TX2) (N := 8) hx hb hts (fun _ h => inX2_root_RX2 h) hown hK hS 49 (by omega) rfl rfl 5 (by decide) (hts (.fieldLink RX2 7 "CosetTables$Orbits" "links" "[I") (by decide +kernel)) rfl dX2_root_28 ?_
          refine lv_aload_n hx hb dX2_root_31 rfl (lv_at hl 0 rfl) ?_
          refine gx_get (ci := 5) (v := .ref (ad 50)) (C := RX2) (T := TX2) (N := 8) hx hb hts (fun _ h => inX2_root_RX2 h) hown hK hS 49 (by omega) rfl rfl 5 (by decide) (hts (.fieldLink RX2 7 "CosetTables$Orbits" "links" "[I") (by decide +kernel)) rfl dX2_root_32 ?_
          refine lv_iload_n hx hb dX2_root_35 rfl (lv_at hl 2 rfl) ?_
          refine gx_ialdn hx hb hK hS 50 (by omega) (by decide) y (by omega) (hln _) dX2_root_36 ?_
          refine gx_as (y := nI (lk1 y)) (h1 y (by omega)) ?_
          refine gx_ialdn hx hb hK hS 50 (by omega) (by decide) (lk1 y) (by omega) (hln _) dX2_root_37 ?_
          refine gx_as (y := nI (lk1 (lk1 y))) (h1 _ (by omega)) ?_
          refine gx_iastn hx hb hK hS 50 (by omega) (by decide) y (by omega) (hln _) dX2_root_38 (fun H locs hS => ?_)
          obtain ⟨iv2, eiv2⟩ : ∃ z, z = up2 iv1 50 y (nI (lk1 (lk1 y))) := ⟨_, rfl⟩
          rw [← eiv2] at hS
          refine lv_aload_n hx hb dX2_root_39 rfl (lv_at hl 0 rfl) ?_
          refine gx_get (ci := 5) (v := .ref (ad 50)) (C := RX2) (T := TX2) (N := 8) hx hb hts (fun _ h => inX2_root_RX2 h) hown hK hS 49 (by omega) rfl rfl 5 (by decide) (hts (.fieldLink RX2 7 "CosetTables$Orbits" "links" "[I") (by decide +kernel)) rfl dX2_root_40 ?_
          refine lv_iload_n hx hb dX2_root_43 rfl (lv_at hl 2 rfl) ?_
          have h21 : ∀ k, k < S → iv2 50 k = nI (va_up lk1 y (lk1 (lk1 y)) k) := by
            intro k hk
            rw [eiv2, up2_eq]
            unfold va_up
            by_cases e9 : k = y
            · simp [e9]
            · simp [e9]; exact h1 k hk
          refine gx_ialdn hx hb hK hS 50 (by omega) (by decide) y (by omega) (hln _) dX2_root_44 ?_
          refine gx_as (y := nI (lk1 (lk1 y))) (by rw [h21 y (by omega), va_up_self]) ?_
          refine lv_istore_n (lv' := [(2, .int (nI (lk1 (lk1 y)))), (0, .ref (ad 49)), (1, .int (nI x)), (3, .int (nI i))]) hx hb dX2_root_45 rfl hl (by decide) rfl (fun ls hl => ?_)
          refine lv_iinc (v := nI (i + 1)) (lv' := [(3, .int (nI (i + 1))), (2, .int (nI (lk1 (lk1 y)))), (0, .ref (ad 49)), (1, .int (nI x))]) hx hb dX2_root_46 hl (k := 3) rfl (nI_1 i) (by decide) rfl (fun ls hl => ?_)
          refine lv_goto (tgt := 4) hx hb dX2_root_49 (by decide) ?_
          exact ih4 (i + 1) (lk1 (lk1 y)) (va_up lk1 y (lk1 (lk1 y))) iv2 (by omega) (by omega) (by rw [← h3 _ (by omega), root_step h2 (by omega), root_step h2 (by omega), h3 y (by omega), hy]) h21 h22.1 (fun k hk => by rw [h22.2 k hk, h3 k hk]) (fun q hq => by rw [eiv2, up2_row hq, h4 q hq]) _ _ _ hS (lv_sub hl [2, 3, 1, 0] rfl)
  exact L4 _ 0 x lk iv (Nat.lt_succ_self _) (by omega) rfl hlk hd9 (fun _ _ => rfl) (fun _ _ => rfl) _ _ _ hS (lv_sub hl [2, 3, 1, 0] rfl)
set_option maxRecDepth 100000 in
theorem ct_X2_root (l : Launch) (D : va_G) (cA : Nat → ClassId) (o : Nat → Int64) (ad ln : Nat → Nat) (n sz : Nat) (iv : Nat → Nat → Int32) (x S : Nat) (lk : Nat → Nat) (hn : 68 ≤ n) (hln : ∀ k, ln k < 2 ^ 31) (hs : iv 49 2 = nI S) (hS9 : S < 2 ^ 30) (hl9 : S ≤ ln 50) (hx9 : x < S) (hlk : ∀ k, k < S → iv 50 k = nI (lk k)) (hd9 : dn lk S) : gMi l yX2_root wsX2_root { frames := 0, cells := 0, slots := 0, locals := 0 } D cA o ad ln n sz iv [.ref (ad 49), .int (nI x)] (fun (r : Int32) iv' => r = nI (root lk x) ∧ ∃ lk', (∀ k, k < S → iv' 50 k = nI (lk' k)) ∧ dn lk' S ∧ (∀ k, k < S → root lk' k = root lk k) ∧ ∀ q, q ≠ 50 → iv' q = iv q) := by
  refine Met.ofW (cc := cX2_root) (maxL := 4) (ret := (some .int)) (by decide) rfl ?_
  intro p e s m args below meth c s₁ B hml hv__
  obtain ⟨rfl, hv__⟩ := hv__
  obtain ⟨hsz, hS, hK, hN, hA⟩ := gS.entry hv__
  have hl := lv_entry ([.ref (ad 49), .int (nI x)]) (n := 4) (Nat.le_of_ble_eq_true rfl)
  rw [lg_entry_eq]
  generalize (lg_sl ([.ref (ad 49), .int (nI x)]) ++ List.replicate (4 - (lg_sl ([.ref (ad 49), .int (nI x)])).length) Slot.unset).toArray = ls at hl ⊢
  exact bd_X2_root (x := x) (S := S) (lk := lk) ⟨B.exec, B.bytes, hml, findClass_of_methodNamed B.named, atoms_spec (ws := wsX2_root) B.pre, B.returns, B.notSynchronized⟩ (Nat.le_refl _) (Nat.le_refl _) (Nat.le_refl _) (Nat.le_refl _) hK hN hA hn hln hs hS9 hl9 hx9 hlk hd9 hS hl (fun r iv' H locs ls pc hd hp hS => gx_iret B.exec B.bytes B.returns B.notSynchronized hS hp hd)
