set_option maxHeartbeats 1000000 in
set_option maxRecDepth 100000 in
theorem bd_X6_requireIndex {p : Program} {l : Launch} {e : Env} {R : Room} {s : State} {m : MethodId} {args : Array Value} {below : List Frame} {meth : Method} {c : Code} {H : Heap} {locs : List Loc} {cells slots : Nat} {Q : State → Prop} {ls : Array Slot} {D : va_G} {A : Nat → Prop} {H0 : Heap} {cA : Nat → ClassId} {o : Nat → Int64} {ad ln : Nat → Nat} {iv : Nat → Nat → Int32} {n : Nat} {a b : Nat}
    (F : gF p s m meth c cX6_requireIndex 2 RX6 wsX6_requireIndex args none) (hRf : 0 ≤ R.frames) (hRl : 0 ≤ R.locals) (hRc : cells ≤ R.cells) (hRs : slots ≤ R.slots) (hK : va_K D vwCl (gT cA) s) (hN : NW s) (hA : ∀ q, H0.size ≤ q → A q) (hn : 68 ≤ n) (hln : ∀ k, ln k < 2 ^ 31) (hab : a < b) (hb9 : b < 2 ^ 31)
    (hS : gS D cA A H0 o ad ln iv n H locs) (hl : lv_has ls 2 [(0, .int (nI a)), (1, .int (nI b))])
    (kret : ∀ (iv' : Nat → Nat → Int32) (H : Heap) (locs : List Loc) (ls : Array Slot) (pc : Nat), decode cX6_requireIndex pc = .ok (.return_, 1) → (iv' = iv) → gS D cA A H0 o ad ln iv' n H locs → W p l e R s m args below meth c H locs cells slots Q (F0 m pc ls [])) :
    W p l e R s m args below meth c H locs cells slots Q (F0 m 0 ls []) := by
  obtain ⟨hx, hb, hml, hown, hts, hr, hlocks⟩ := F
  refine lv_iload_n hx hb dX6_requireIndex_0 rfl (lv_at hl 0 rfl) ?_
  refine lv_if_lt (tgt := 9) hx hb dX6_requireIndex_1 (by decide) (fun c_1 => ?_) (fun c_1 => ?_)
  · skip
    rw [show (0 : Int32) = nI 0 from rfl] at c_1
    rw [nI_ltI (by omega) (by omega)] at c_1
    omega
  · skip
    rw [show (0 : Int32) = nI 0 from rfl] at c_1
    rw [nI_ltI (by omega) (by omega)] at c_1
    refine lv_iload_n hx hb dX6_requireIndex_4 rfl (lv_at hl 0 rfl) ?_
    refine lv_iload_n hx hb dX6_requireIndex_5 rfl (lv_at hl 1 rfl) ?_
    refine lv_icmp_lt (tgt := 19) hx hb dX6_requireIndex_6 (by decide) (fun c_6 => ?_) (fun c_6 => ?_)
    · skip
      rw [nI_ltI (by omega) (by omega)] at c_6
      exact kret iv _ _ _ _ dX6_requireIndex_19 (rfl) hS
    · skip
      rw [nI_ltI (by omega) (by omega)] at c_6
      omega
set_option maxRecDepth 100000 in
theorem ct_X6_requireIndex (l : Launch) (D : va_G) (cA : Nat → ClassId) (o : Nat → Int64) (ad ln : Nat → Nat) (n sz : Nat) (iv : Nat → Nat → Int32) (a b : Nat) (hn : 68 ≤ n) (hln : ∀ k, ln k < 2 ^ 31) (hab : a < b) (hb9 : b < 2 ^ 31) : gMv l yX6_requireIndex wsX6_requireIndex { frames := 0, cells := 0, slots := 0, locals := 0 } D cA o ad ln n sz iv [.int (nI a), .int (nI b)] (fun iv' => iv' = iv) := by
  refine Met.ofW (cc := cX6_requireIndex) (maxL := 2) (ret := none) (by decide) rfl ?_
  intro p e s m args below meth c s₁ B hml hv__
  obtain ⟨rfl, hv__⟩ := hv__
  obtain ⟨hsz, hS, hK, hN, hA⟩ := gS.entry hv__
  have hl := lv_entry ([.int (nI a), .int (nI b)]) (n := 2) (Nat.le_of_ble_eq_true rfl)
  rw [lg_entry_eq]
  generalize (lg_sl ([.int (nI a), .int (nI b)]) ++ List.replicate (2 - (lg_sl ([.int (nI a), .int (nI b)])).length) Slot.unset).toArray = ls at hl ⊢
  exact bd_X6_requireIndex (a := a) (b := b) ⟨B.exec, B.bytes, hml, findClass_of_methodNamed B.named, atoms_spec (ws := wsX6_requireIndex) B.pre, B.returns, B.notSynchronized⟩ (Nat.le_refl _) (Nat.le_refl _) (Nat.le_refl _) (Nat.le_refl _) hK hN hA hn hln hab hb9 hS hl (fun iv' H locs ls pc hd hp hS => gx_vret B.exec B.bytes B.returns B.notSynchronized hS hp hd)

set_option maxHeartbeats 1000000 in
set_option maxRecDepth 100000 in
theorem bd_X6_buildX {p : Program} {l : Launch} {e : Env} {R : Room} {s : State} {m : MethodId} {args : Array Value} {below : List Frame} {meth : Method} {c : Code} {H : Heap} {locs : List Loc} {cells slots : Nat} {Q : State → Prop} {ls : Array Slot} {D : va_G} {A : Nat → Prop} {H0 : Heap} {cA : Nat → ClassId} {o : Nat → Int64} {ad ln : Nat → Nat} {iv : Nat → Nat → Int32} {n : Nat} {x9 : Int32}
    (F : gF p s m meth c cX6_build 3 RX6 wsX6_build args (some .int)) (hRf : 0 ≤ R.frames) (hRl : 0 ≤ R.locals) (hRc : cells ≤ R.cells) (hRs : slots ≤ R.slots) (hK : va_K D vwCl (gT cA) s) (hN : NW s) (hA : ∀ q, H0.size ≤ q → A q) (hn : 68 ≤ n) (hln : ∀ k, ln k < 2 ^ 31) (hx0 : ¬ x9 = 0) (hx1 : ¬ x9 = 1)
    (hS : gS D cA A H0 o ad ln iv n H locs) (hl : lv_has ls 3 [(0, .ref (ad 0)), (1, .int x9)])
    (kret : ∀ (r : Int32) (iv' : Nat → Nat → Int32) (H : Heap) (locs : List Loc) (ls : Array Slot) (pc : Nat), decode cX6_build pc = .ok (.ireturn, 1) → (r = -1 ∧ iv' = iv) → gS D cA A H0 o ad ln iv' n H locs → W p l e R s m args below meth c H locs cells slots Q (F0 m pc ls [.int r])) :
    W p l e R s m args below meth c H locs cells slots Q (F0 m 0 ls []) := by
  obtain ⟨hx, hb, hml, hown, hts, hr, hlocks⟩ := F
  refine lv_iload_n hx hb dX6_build_0 rfl (lv_at hl 1 rfl) ?_
  refine lv_if_eq (tgt := 11) hx hb dX6_build_1 (by decide) (fun c_1 => ?_) (fun c_1 => ?_)
  · skip
    exact absurd c_1 hx0
  · skip
    refine lv_iload_n hx hb dX6_build_4 rfl (lv_at hl 1 rfl) ?_
    refine lv_iconst (v := nI 1) hx hb dX6_build_5 (by decide) ?_
    refine lv_icmp_eq (tgt := 11) hx hb dX6_build_6 (by decide) (fun c_6 => ?_) (fun c_6 => ?_)
    · skip
      exact absurd c_6 hx1
    · skip
      refine lv_iconst (v := (-1)) hx hb dX6_build_9 (by decide) ?_
      exact kret _ iv _ _ _ _ dX6_build_10 (⟨rfl, rfl⟩) hS
set_option maxRecDepth 100000 in
theorem ct_X6_buildX (l : Launch) (D : va_G) (cA : Nat → ClassId) (o : Nat → Int64) (ad ln : Nat → Nat) (n sz : Nat) (iv : Nat → Nat → Int32) (x9 : Int32) (hn : 68 ≤ n) (hln : ∀ k, ln k < 2 ^ 31) (hx0 : ¬ x9 = 0) (hx1 : ¬ x9 = 1) : gMi l yX6_build wsX6_build { frames := 0, cells := 0, slots := 0, locals := 0 } D cA o ad ln n sz iv [.ref (ad 0), .int x9] (fun (r : Int32) iv' => r = -1 ∧ iv' = iv) := by
  refine Met.ofW (cc := cX6_build) (maxL := 3) (ret := (some .int)) (by decide) rfl ?_
  intro p e s m args below meth c s₁ B hml hv__
  obtain ⟨rfl, hv__⟩ := hv__
  obtain ⟨hsz, hS, hK, hN, hA⟩ := gS.entry hv__
  have hl := lv_entry ([.ref (ad 0), .int x9]) (n := 3) (Nat.le_of_ble_eq_true rfl)
  rw [lg_entry_eq]
  generalize (lg_sl ([.ref (ad 0), .int x9]) ++ List.replicate (3 - (lg_sl ([.ref (ad 0), .int x9])).length) Slot.unset).toArray = ls at hl ⊢
  exact bd_X6_buildX (x9 := x9) ⟨B.exec, B.bytes, hml, findClass_of_methodNamed B.named, atoms_spec (ws := wsX6_build) B.pre, B.returns, B.notSynchronized⟩ (Nat.le_refl _) (Nat.le_refl _) (Nat.le_refl _) (Nat.le_refl _) hK hN hA hn hln hx0 hx1 hS hl (fun r iv' H locs ls pc hd hp hS => gx_iret B.exec B.bytes B.returns B.notSynchronized hS hp hd)

theorem inX6_exchange_RX0 : ∀ {w : Cond}, w ∈ u_ws RX0 TX0 3 → w ∈ wsX6_exchange := fun {w} h => by first | exact List.mem_cons_of_mem _ (List.mem_append_right _ h) | (revert h; revert w; show ∀ w ∈ u_ws RX0 TX0 3, w ∈ wsX6_exchange; decide +kernel)
theorem inX6_exchange_RX6 : ∀ {w : Cond}, w ∈ u_ws RX6 TX6 15 → w ∈ wsX6_exchange := fun {w} h => by first | exact List.mem_cons_of_mem _ (List.mem_append_right _ h) | (revert h; revert w; show ∀ w ∈ u_ws RX6 TX6 15, w ∈ wsX6_exchange; decide +kernel)
set_option maxHeartbeats 1000000 in
set_option maxRecDepth 100000 in
theorem bd_X6_exchange {p : Program} {l : Launch} {e : Env} {R : Room} {s : State} {m : MethodId} {args : Array Value} {below : List Frame} {meth : Method} {c : Code} {H : Heap} {locs : List Loc} {cells slots : Nat} {Q : State → Prop} {ls : Array Slot} {D : va_G} {A : Nat → Prop} {H0 : Heap} {cA : Nat → ClassId} {o : Nat → Int64} {ad ln : Nat → Nat} {iv : Nat → Nat → Int32} {n : Nat} {m9 a b P mc9 : Nat}
    (F : gF p s m meth c cX6_exchange 4 RX6 wsX6_exchange args (some .boolean)) (hRf : 2 ≤ R.frames) (hRl : 40 ≤ R.locals) (hRc : cells ≤ R.cells) (hRs : slots ≤ R.slots) (hK : va_K D vwCl (gT cA) s) (hN : NW s) (hA : ∀ q, H0.size ≤ q → A q) (hn : 68 ≤ n) (hln : ∀ k, ln k < 2 ^ 31) (hLn : lnOk ln P) (hP : P ≤ 8) (hmc : iv 0 3 = nI mc9) (hmc6 : mc9 ≤ 6) (hm9 : m9 < mc9) (hP0 : iv 0 0 = nI P) (ha : a < P) (hb9 : b < P)
    (hS : gS D cA A H0 o ad ln iv n H locs) (hl : lv_has ls 4 [(0, .ref (ad 0)), (1, .int (nI m9)), (2, .int (nI a)), (3, .int (nI b))])
    (kret : ∀ (r : Int32) (iv' : Nat → Nat → Int32) (H : Heap) (locs : List Loc) (ls : Array Slot) (pc : Nat), decode cX6_exchange pc = .ok (.ireturn, 1) → ((r = 0 ∨ r = 1) ∧ (if a = b then r = 0 ∧ iv' = iv else r = 1 ∧ iv' = up2 (up2 (up2 (up2 (up2 (up2 (iv) (2 + 3 * m9 + 1) a (iv (2 + 3 * m9 + 1) b)) (2 + 3 * m9 + 1) b (iv (2 + 3 * m9 + 1) a)) (2 + 3 * m9 + 2) a ((up2 (up2 (iv) (2 + 3 * m9 + 1) a (iv (2 + 3 * m9 + 1) b)) (2 + 3 * m9 + 1) b (iv (2 + 3 * m9 + 1) a)) (2 + 3 * m9 + 2) b)) (2 + 3 * m9 + 2) b ((up2 (up2 (iv) (2 + 3 * m9 + 1) a (iv (2 + 3 * m9 + 1) b)) (2 + 3 * m9 + 1) b (iv (2 + 3 * m9 + 1) a)) (2 + 3 * m9 + 2) a)) 46 0 0) 49 0 0)) → gS D cA A H0 o ad ln iv' n H locs → W p l e R s m args below meth c H locs cells slots Q (F0 m pc ls [.int r])) :
    W p l e R s m args below meth c H locs cells slots Q (F0 m 0 ls []) := by
  obtain ⟨hx, hb, hml, hown, hts, hr, hlocks⟩ := F
  obtain ⟨hL1, hL2, ⟨h26, h27, h28⟩, ⟨h30, h31, h33, h34, h36, h37⟩, h39, h40, h41⟩ := hLn
  obtain ⟨hg1, hg2⟩ := hL1 m9 (by omega)
  refine lv_iload_n hx hb dX6_exchange_0 rfl (lv_at hl 1 rfl) ?_
  refine lv_aload_n hx hb dX6_exchange_1 rfl (lv_at hl 0 rfl) ?_
  refine gx_get (ci := 9) (v := .int (iv 0 3)) (C := RX6) (T := TX6) (N := 15) hx hb hts (fun _ h => inX6_exchange_RX6 h) hown hK hS 0 (by omega) rfl rfl 3 (by decide) (hts (.fieldLink RX6 90 "CosetTables" "moveCount" "I") (by decide +kernel)) rfl dX6_exchange_2 ?_
  refine gx_as (y := nI mc9) hmc ?_
  refine gc_v (gx_runS (As := [.int (nI m9), .int (nI mc9)]) (rest := []) ⟨hx, hb, hml, hown, hts⟩ hK hN hS (ct_X6_requireIndex l D cA o ad ln n H.size iv (a := m9) (b := mc9) hn hln (by omega) (by omega)) (va_cwS 2 hts gX6_exchange_X6_requireIndex rfl rfl rfl (by decide +kernel) ⟨gle hRf rfl, gle hRl rfl⟩) rfl rfl hl.1 rfl (lv_room (Nat.le_of_ble_eq_true rfl)) dX6_exchange_5 ⟨hRc, hRs⟩) hS hA (fun iv1 H locs hp1 hS => ?_)
  rw [hp1] at hS
  skip
  refine lv_iload_n hx hb dX6_exchange_8 rfl (lv_at hl 2 rfl) ?_
  refine lv_aload_n hx hb dX6_exchange_9 rfl (lv_at hl 0 rfl) ?_
  refine gx_get (ci := 9) (v := .int (iv 0 0)) (C := RX6) (T := TX6) (N := 15) hx hb hts (fun _ h => inX6_exchange_RX6 h) hown hK hS 0 (by omega) rfl rfl 0 (by decide) (hts (.fieldLink RX6 16 "CosetTables" "places" "I") (by decide +kernel)) rfl dX6_exchange_10 ?_
  refine gx_as (y := nI P) hP0 ?_
  refine gc_v (gx_runS (As := [.int (nI a), .int (nI P)]) (rest := []) ⟨hx, hb, hml, hown, hts⟩ hK hN hS (ct_X6_requireIndex l D cA o ad ln n H.size iv (a := a) (b := P) hn hln (by omega) (by omega)) (va_cwS 2 hts gX6_exchange_X6_requireIndex rfl rfl rfl (by decide +kernel) ⟨gle hRf rfl, gle hRl rfl⟩) rfl rfl hl.1 rfl (lv_room (Nat.le_of_ble_eq_true rfl)) dX6_exchange_13 ⟨hRc, hRs⟩) hS hA (fun iv2 H locs hp2 hS => ?_)
  rw [hp2] at hS
  skip
  refine lv_iload_n hx hb dX6_exchange_16 rfl (lv_at hl 3 rfl) ?_
  refine lv_aload_n hx hb dX6_exchange_17 rfl (lv_at hl 0 rfl) ?_
  refine gx_get (ci := 9) (v := .int (iv 0 0)) (C := RX6) (T := TX6) (N := 15) hx hb hts (fun _ h => inX6_exchange_RX6 h) hown hK hS 0 (by omega) rfl rfl 0 (by decide) (hts (.fieldLink RX6 16 "CosetTables" "places" "I") (by decide +kernel)) rfl dX6_exchange_18 ?_
  refine gx_as (y := nI P) hP0 ?_
  refine gc_v (gx_runS (As := [.int (nI b), .int (nI P)]) (rest := []) ⟨hx, hb, hml, hown, hts⟩ hK hN hS (ct_X6_requireIndex l D cA o ad ln n H.size iv (a := b) (b := P) hn hln (by omega) (by omega)) (va_cwS 2 hts gX6_exchange_X6_requireIndex rfl rfl rfl (by decide +kernel) ⟨gle hRf rfl, gle hRl rfl⟩) rfl rfl hl.1 rfl (lv_room (Nat.le_of_ble_eq_true rfl)) dX6_exchange_21 ⟨hRc, hRs⟩) hS hA (fun iv3 H locs hp3 hS => ?_)
  rw [hp3] at hS
  skip
  refine lv_iload_n hx hb dX6_exchange_24 rfl (lv_at hl 2 rfl) ?_
  refine lv_iload_n hx hb dX6_exchange_25 rfl (lv_at hl 3 rfl) ?_
  refine lv_icmp_ne (tgt := 31) hx hb dX6_exchange_26 (by decide) (fun c_26 => ?_) (fun c_26 => ?_)
  · skip
    rw [nI_eq (by omega) (by omega)] at c_26
    refine lv_aload_n hx hb dX6_exchange_31 rfl (lv_at hl 0 rfl) ?_
    refine gx_get (ci := 9) (v := .ref (ad 1)) (C := RX6) (T := TX6) (N := 15) hx hb hts (fun _ h => inX6_exchange_RX6 h) hown hK hS 0 (by omega) rfl rfl 2 (by decide) (hts (.fieldLink RX6 27 "CosetTables" "moves" "[LCosetTables$Move;") (by decide +kernel)) rfl dX6_exchange_32 ?_
    refine lv_iload_n hx hb dX6_exchange_35 rfl (lv_at hl 1 rfl) ?_
    refine gx_ldmove hx hb hK hS (by omega) m9 (by omega) rfl dX6_exchange_36 ?_
    refine gx_getN (ci := 3) (v := .ref (ad ((2 + 3 * m9) + 1))) (C := RX0) (T := TX0) (N := 3) hx hb hts (fun _ h => inX6_exchange_RX0 h) hown hK hS (2 + 3 * m9) (by omega) (sch_M (isM_mv (show m9 < 6 by omega))) rfl 1 (by decide) (nf_RX6_99 hN) rfl dX6_exchange_37 ?_
    refine lv_iload_n hx hb dX6_exchange_40 rfl (lv_at hl 2 rfl) ?_
    refine lv_iload_n hx hb dX6_exchange_41 rfl (lv_at hl 3 rfl) ?_
    refine gc_v (gx_runS (As := [.ref (ad ((2 + 3 * m9) + 1)), .int (nI a), .int (nI b)]) (rest := []) ⟨hx, hb, hml, hown, hts⟩ hK hN hS (ct_X6_swap l D cA o ad ln n H.size iv (k := 2 + 3 * m9 + 1) (a := a) (b := b) trivial hln (by omega) (isM1 (isM_mv (by omega))) (by omega) (by omega) c_26) (va_cwS 3 hts gX6_exchange_X6_swap rfl rfl rfl (by decide +kernel) ⟨gle hRf rfl, gle hRl rfl⟩) rfl rfl hl.1 rfl (lv_room (Nat.le_of_ble_eq_true rfl)) dX6_exchange_42 ⟨hRc, hRs⟩) hS hA (fun iv4 H locs hp4 hS => ?_)
    refine lv_aload_n hx hb dX6_exchange_45 rfl (lv_at hl 0 rfl) ?_
    refine gx_get (ci := 9) (v := .ref (ad 1)) (C := RX6) (T := TX6) (N := 15) hx hb hts (fun _ h => inX6_exchange_RX6 h) hown hK hS 0 (by omega) rfl rfl 2 (by decide) (hts (.fieldLink RX6 27 "CosetTables" "moves" "[LCosetTables$Move;") (by decide +kernel)) rfl dX6_exchange_46 ?_
    refine lv_iload_n hx hb dX6_exchange_49 rfl (lv_at hl 1 rfl) ?_
    refine gx_ldmove hx hb hK hS (by omega) m9 (by omega) rfl dX6_exchange_50 ?_
    refine gx_getN (ci := 3) (v := .ref (ad ((2 + 3 * m9) + 2))) (C := RX0) (T := TX0) (N := 3) hx hb hts (fun _ h => inX6_exchange_RX0 h) hown hK hS (2 + 3 * m9) (by omega) (sch_M (isM_mv (show m9 < 6 by omega))) rfl 2 (by decide) (nf_RX6_106 hN) rfl dX6_exchange_51 ?_
    refine lv_iload_n hx hb dX6_exchange_54 rfl (lv_at hl 2 rfl) ?_
    refine lv_iload_n hx hb dX6_exchange_55 rfl (lv_at hl 3 rfl) ?_
    refine gc_v (gx_runS (As := [.ref (ad ((2 + 3 * m9) + 2)), .int (nI a), .int (nI b)]) (rest := []) ⟨hx, hb, hml, hown, hts⟩ hK hN hS (ct_X6_swap l D cA o ad ln n H.size iv4 (k := 2 + 3 * m9 + 2) (a := a) (b := b) trivial hln (by omega) (isM2 (isM_mv (by omega))) (by omega) (by omega) c_26) (va_cwS 3 hts gX6_exchange_X6_swap rfl rfl rfl (by decide +kernel) ⟨gle hRf rfl, gle hRl rfl⟩) rfl rfl hl.1 rfl (lv_room (Nat.le_of_ble_eq_true rfl)) dX6_exchange_56 ⟨hRc, hRs⟩) hS hA (fun iv5 H locs hp5 hS => ?_)
    refine lv_aload_n hx hb dX6_exchange_59 rfl (lv_at hl 0 rfl) ?_
    refine gc_v (gx_runV (As := []) (rest := []) ⟨hx, hb, hml, hown, hts⟩ hK hN hS 0 (by omega) rfl rfl (ct_X6_movesChanged l D cA o ad ln n H.size iv5 hn hln) (cwV 0 hts gX6_exchange_X6_movesChanged rfl rfl rfl (by decide +kernel) ⟨gle hRf rfl, gle hRl rfl⟩) rfl rfl hl.1 rfl (lv_room (Nat.le_of_ble_eq_true rfl)) dX6_exchange_60 ⟨hRc, hRs⟩) hS hA (fun iv6 H locs hp6 hS => ?_)
    refine lv_iconst (v := nI 1) hx hb dX6_exchange_63 (by decide) ?_
    exact kret _ iv6 _ _ _ _ dX6_exchange_64 (⟨Or.inr rfl, by rw [if_neg c_26, hp6, hp5, hp4]; exact ⟨rfl, rfl⟩⟩) hS
  · skip
    rw [nI_eq (by omega) (by omega)] at c_26
    refine lv_iconst (v := nI 0) hx hb dX6_exchange_29 (by decide) ?_
    exact kret _ iv _ _ _ _ dX6_exchange_30 (⟨Or.inl rfl, by rw [if_pos c_26]; exact ⟨rfl, rfl⟩⟩) hS
set_option maxRecDepth 100000 in
theorem ct_X6_exchange (l : Launch) (D : va_G) (cA : Nat → ClassId) (o : Nat → Int64) (ad ln : Nat → Nat) (n sz : Nat) (iv : Nat → Nat → Int32) (m9 a b P mc9 : Nat) (hn : 68 ≤ n) (hln : ∀ k, ln k < 2 ^ 31) (hLn : lnOk ln P) (hP : P ≤ 8) (hmc : iv 0 3 = nI mc9) (hmc6 : mc9 ≤ 6) (hm9 : m9 < mc9) (hP0 : iv 0 0 = nI P) (ha : a < P) (hb9 : b < P) : gMi l yX6_exchange wsX6_exchange { frames := 2, cells := 0, slots := 0, locals := 40 } D cA o ad ln n sz iv [.ref (ad 0), .int (nI m9), .int (nI a), .int (nI b)] (fun (r : Int32) iv' => (r = 0 ∨ r = 1) ∧ (if a = b then r = 0 ∧ iv' = iv else r = 1 ∧ iv' = up2 (up2 (up2 (up2 (up2 (up2 (iv) (2 + 3 * m9 + 1) a (iv (2 + 3 * m9 + 1) b)) (2 + 3 * m9 + 1) b (iv (2 + 3 * m9 + 1) a)) (2 + 3 * m9 + 2) a ((up2 (up2 (iv) (2 + 3 * m9 + 1) a (iv (2 + 3 * m9 + 1) b)) (2 + 3 * m9 + 1) b (iv (2 + 3 * m9 + 1) a)) (2 + 3 * m9 + 2) b)) (2 + 3 * m9 + 2) b ((up2 (up2 (iv) (2 + 3 * m9 + 1) a (iv (2 + 3 * m9 + 1) b)) (2 + 3 * m9 + 1) b (iv (2 + 3 * m9 + 1) a)) (2 + 3 * m9 + 2) a)) 46 0 0) 49 0 0)) := by
  refine Met.ofW (cc := cX6_exchange) (maxL := 4) (ret := (some .boolean)) (by decide) rfl ?_
  intro p e s m args below meth c s₁ B hml hv__
  obtain ⟨rfl, hv__⟩ := hv__
  obtain ⟨hsz, hS, hK, hN, hA⟩ := gS.entry hv__
  have hl := lv_entry ([.ref (ad 0), .int (nI m9), .int (nI a), .int (nI b)]) (n := 4) (Nat.le_of_ble_eq_true rfl)
  rw [lg_entry_eq]
  generalize (lg_sl ([.ref (ad 0), .int (nI m9), .int (nI a), .int (nI b)]) ++ List.replicate (4 - (lg_sl ([.ref (ad 0), .int (nI m9), .int (nI a), .int (nI b)])).length) Slot.unset).toArray = ls at hl ⊢
  exact bd_X6_exchange (m9 := m9) (a := a) (b := b) (P := P) (mc9 := mc9) ⟨B.exec, B.bytes, hml, findClass_of_methodNamed B.named, atoms_spec (ws := wsX6_exchange) B.pre, B.returns, B.notSynchronized⟩ (Nat.le_refl _) (Nat.le_refl _) (Nat.le_refl _) (Nat.le_refl _) hK hN hA hn hln hLn hP hmc hmc6 hm9 hP0 ha hb9 hS hl (fun r iv' H locs ls pc hd hp hS => gx_zret B.exec B.bytes B.returns B.notSynchronized (hp.1) hS hp hd)

theorem inX6_adds_RX0 : ∀ {w : Cond}, w ∈ u_ws RX0 TX0 3 → w ∈ wsX6_adds := fun {w} h => by first | exact List.mem_cons_of_mem _ (List.mem_append_right _ h) | (revert h; revert w; show ∀ w ∈ u_ws RX0 TX0 3, w ∈ wsX6_adds; decide +kernel)
theorem inX6_adds_RX6 : ∀ {w : Cond}, w ∈ u_ws RX6 TX6 15 → w ∈ wsX6_adds := fun {w} h => by first | exact List.mem_cons_of_mem _ (List.mem_append_right _ h) | (revert h; revert w; show ∀ w ∈ u_ws RX6 TX6 15, w ∈ wsX6_adds; decide +kernel)
set_option maxHeartbeats 1000000 in
set_option maxRecDepth 100000 in
theorem bd_X6_adds {p : Program} {l : Launch} {e : Env} {R : Room} {s : State} {m : MethodId} {args : Array Value} {below : List Frame} {meth : Method} {c : Code} {H : Heap} {locs : List Loc} {cells slots : Nat} {Q : State → Prop} {ls : Array Slot} {D : va_G} {A : Nat → Prop} {H0 : Heap} {cA : Nat → ClassId} {o : Nat → Int64} {ad ln : Nat → Nat} {iv : Nat → Nat → Int32} {n : Nat} {m9 a b P T mc9 : Nat}
    (F : gF p s m meth c cX6_adds 4 RX6 wsX6_adds args (some .boolean)) (hRf : 2 ≤ R.frames) (hRl : 40 ≤ R.locals) (hRc : cells ≤ R.cells) (hRs : slots ≤ R.slots) (hK : va_K D vwCl (gT cA) s) (hN : NW s) (hA : ∀ q, H0.size ≤ q → A q) (hn : 68 ≤ n) (hln : ∀ k, ln k < 2 ^ 31) (hLn : lnOk ln P) (hP : P ≤ 8) (hmc : iv 0 3 = nI mc9) (hmc6 : mc9 ≤ 6) (hm9 : m9 < mc9) (hP0 : iv 0 0 = nI P) (ha : a < P) (hT : iv 0 1 = nI T) (hT3 : T ≤ 3) (hb9 : b < T)
    (hS : gS D cA A H0 o ad ln iv n H locs) (hl : lv_has ls 4 [(0, .ref (ad 0)), (1, .int (nI m9)), (2, .int (nI a)), (3, .int (nI b))])
    (kret : ∀ (r : Int32) (iv' : Nat → Nat → Int32) (H : Heap) (locs : List Loc) (ls : Array Slot) (pc : Nat), decode cX6_adds pc = .ok (.ireturn, 1) → ((r = 0 ∨ r = 1) ∧ (if iv (2 + 3 * m9 + 2) a = nI b then r = 0 ∧ iv' = iv else r = 1 ∧ iv' = up2 (up2 (up2 iv (2 + 3 * m9 + 2) a (nI b)) 46 0 0) 49 0 0)) → gS D cA A H0 o ad ln iv' n H locs → W p l e R s m args below meth c H locs cells slots Q (F0 m pc ls [.int r])) :
    W p l e R s m args below meth c H locs cells slots Q (F0 m 0 ls []) := by
  obtain ⟨hx, hb, hml, hown, hts, hr, hlocks⟩ := F
  obtain ⟨hL1, hL2, ⟨h26, h27, h28⟩, ⟨h30, h31, h33, h34, h36, h37⟩, h39, h40, h41⟩ := hLn
  obtain ⟨hg1, hg2⟩ := hL1 m9 (by omega)
  refine lv_iload_n hx hb dX6_adds_0 rfl (lv_at hl 1 rfl) ?_
  refine lv_aload_n hx hb dX6_adds_1 rfl (lv_at hl 0 rfl) ?_
  refine gx_get (ci := 9) (v := .int (iv 0 3)) (C := RX6) (T := TX6) (N := 15) hx hb hts (fun _ h => inX6_adds_RX6 h) hown hK hS 0 (by omega) rfl rfl 3 (by decide) (hts (.fieldLink RX6 90 "CosetTables" "moveCount" "I") (by decide +kernel)) rfl dX6_adds_2 ?_
  refine gx_as (y := nI mc9) hmc ?_
  refine gc_v (gx_runS (As := [.int (nI m9), .int (nI mc9)]) (rest := []) ⟨hx, hb, hml, hown, hts⟩ hK hN hS (ct_X6_requireIndex l D cA o ad ln n H.size iv (a := m9) (b := mc9) hn hln (by omega) (by omega)) (va_cwS 2 hts gX6_adds_X6_requireIndex rfl rfl rfl (by decide +kernel) ⟨gle hRf rfl, gle hRl rfl⟩) rfl rfl hl.1 rfl (lv_room (Nat.le_of_ble_eq_true rfl)) dX6_adds_5 ⟨hRc, hRs⟩) hS hA (fun iv1 H locs hp1 hS => ?_)
  rw [hp1] at hS
  skip
  refine lv_iload_n hx hb dX6_adds_8 rfl (lv_at hl 2 rfl) ?_
  refine lv_aload_n hx hb dX6_adds_9 rfl (lv_at hl 0 rfl) ?_
  refine gx_get (ci := 9) (v := .int (iv 0 0)) (C := RX6) (T := TX6) (N := 15) hx hb hts (fun _ h => inX6_adds_RX6 h) hown hK hS 0 (by omega) rfl rfl 0 (by decide) (hts (.fieldLink RX6 16 "CosetTables" "places" "I") (by decide +kernel)) rfl dX6_adds_10 ?_
  refine gx_as (y := nI P) hP0 ?_
  refine gc_v (gx_runS (As := [.int (nI a), .int (nI P)]) (rest := []) ⟨hx, hb, hml, hown, hts⟩ hK hN hS (ct_X6_requireIndex l D cA o ad ln n H.size iv (a := a) (b := P) hn hln (by omega) (by omega)) (va_cwS 2 hts gX6_adds_X6_requireIndex rfl rfl rfl (by decide +kernel) ⟨gle hRf rfl, gle hRl rfl⟩) rfl rfl hl.1 rfl (lv_room (Nat.le_of_ble_eq_true rfl)) dX6_adds_13 ⟨hRc, hRs⟩) hS hA (fun iv2 H locs hp2 hS => ?_)
  rw [hp2] at hS
  skip
  refine lv_iload_n hx hb dX6_adds_16 rfl (lv_at hl 3 rfl) ?_
  refine lv_if_lt (tgt := 28) hx hb dX6_adds_17 (by decide) (fun c_17 => ?_) (fun c_17 => ?_)
  · skip
    rw [show (0 : Int32) = nI 0 from rfl] at c_17
    rw [nI_ltI (by omega) (by omega)] at c_17
    omega
  · skip
    rw [show (0 : Int32) = nI 0 from rfl] at c_17
    rw [nI_ltI (by omega) (by omega)] at c_17
    refine lv_iload_n hx hb dX6_adds_20 rfl (lv_at hl 3 rfl) ?_
    refine lv_aload_n hx hb dX6_adds_21 rfl (lv_at hl 0 rfl) ?_
    refine gx_get (ci := 9) (v := .int (iv 0 1)) (C := RX6) (T := TX6) (N := 15) hx hb hts (fun _ h => inX6_adds_RX6 h) hown hK hS 0 (by omega) rfl rfl 1 (by decide) (hts (.fieldLink RX6 22 "CosetTables" "twists" "I") (by decide +kernel)) rfl dX6_adds_22 ?_
    refine gx_as (y := nI T) hT ?_
    refine lv_icmp_lt (tgt := 38) hx hb dX6_adds_25 (by decide) (fun c_25 => ?_) (fun c_25 => ?_)
    · skip
      rw [nI_ltI (by omega) (by omega)] at c_25
      refine lv_aload_n hx hb dX6_adds_38 rfl (lv_at hl 0 rfl) ?_
      refine gx_get (ci := 9) (v := .ref (ad 1)) (C := RX6) (T := TX6) (N := 15) hx hb hts (fun _ h => inX6_adds_RX6 h) hown hK hS 0 (by omega) rfl rfl 2 (by decide) (hts (.fieldLink RX6 27 "CosetTables" "moves" "[LCosetTables$Move;") (by decide +kernel)) rfl dX6_adds_39 ?_
      refine lv_iload_n hx hb dX6_adds_42 rfl (lv_at hl 1 rfl) ?_
      refine gx_ldmove hx hb hK hS (by omega) m9 (by omega) rfl dX6_adds_43 ?_
      refine gx_getN (ci := 3) (v := .ref (ad ((2 + 3 * m9) + 2))) (C := RX0) (T := TX0) (N := 3) hx hb hts (fun _ h => inX6_adds_RX0 h) hown hK hS (2 + 3 * m9) (by omega) (sch_M (isM_mv (show m9 < 6 by omega))) rfl 2 (by decide) (nf_RX6_106 hN) rfl dX6_adds_44 ?_
      refine lv_iload_n hx hb dX6_adds_47 rfl (lv_at hl 2 rfl) ?_
      refine gx_ialdn hx hb hK hS ((2 + 3 * m9) + 2) (by omega) (isM2 (isM_mv (by omega))) a (by show a < ln (2 + 3 * m9 + 2); omega) (hln _) dX6_adds_48 ?_
      refine lv_iload_n hx hb dX6_adds_49 rfl (lv_at hl 3 rfl) ?_
      refine lv_icmp_ne (tgt := 55) hx hb dX6_adds_50 (by decide) (fun c_50 => ?_) (fun c_50 => ?_)
      · skip
        refine lv_aload_n hx hb dX6_adds_55 rfl (lv_at hl 0 rfl) ?_
        refine gx_get (ci := 9) (v := .ref (ad 1)) (C := RX6) (T := TX6) (N := 15) hx hb hts (fun _ h => inX6_adds_RX6 h) hown hK hS 0 (by omega) rfl rfl 2 (by decide) (hts (.fieldLink RX6 27 "CosetTables" "moves" "[LCosetTables$Move;") (by decide +kernel)) rfl dX6_adds_56 ?_
        refine lv_iload_n hx hb dX6_adds_59 rfl (lv_at hl 1 rfl) ?_
        refine gx_ldmove hx hb hK hS (by omega) m9 (by omega) rfl dX6_adds_60 ?_
        refine gx_getN (ci := 3) (v := .ref (ad ((2 + 3 * m9) + 2))) (C := RX0) (T := TX0) (N := 3) hx hb hts (fun _ h => inX6_adds_RX0 h) hown hK hS (2 + 3 * m9) (by omega) (sch_M (isM_mv (show m9 < 6 by omega))) rfl 2 (by decide) (nf_RX6_106 hN) rfl dX6_adds_61 ?_
        refine lv_iload_n hx hb dX6_adds_64 rfl (lv_at hl 2 rfl) ?_
        refine lv_iload_n hx hb dX6_adds_65 rfl (lv_at hl 3 rfl) ?_
        refine gx_iastn hx hb hK hS ((2 + 3 * m9) + 2) (by omega) (isM2 (isM_mv (by omega))) a (by show a < ln (2 + 3 * m9 + 2); omega) (hln _) dX6_adds_66 (fun H locs hS => ?_)
        obtain ⟨iv4, eiv4⟩ : ∃ z, z = up2 iv ((2 + 3 * m9) + 2) a (nI b) := ⟨_, rfl⟩
        rw [← eiv4] at hS
        refine lv_aload_n hx hb dX6_adds_67 rfl (lv_at hl 0 rfl) ?_
        refine gc_v (gx_runV (As := []) (rest := []) ⟨hx, hb, hml, hown, hts⟩ hK hN hS 0 (by omega) rfl rfl (ct_X6_movesChanged l D cA o ad ln n H.size iv4 hn hln) (cwV 0 hts gX6_adds_X6_movesChanged rfl rfl rfl (by decide +kernel) ⟨gle hRf rfl, gle hRl rfl⟩) rfl rfl hl.1 rfl (lv_room (Nat.le_of_ble_eq_true rfl)) dX6_adds_68 ⟨hRc, hRs⟩) hS hA (fun iv5 H locs hp5 hS => ?_)
        refine lv_iconst (v := nI 1) hx hb dX6_adds_71 (by decide) ?_
        exact kret _ iv5 _ _ _ _ dX6_adds_72 (⟨Or.inr rfl, by rw [if_neg c_50, hp5, eiv4]; exact ⟨rfl, rfl⟩⟩) hS
      · skip
        refine lv_iconst (v := nI 0) hx hb dX6_adds_53 (by decide) ?_
        exact kret _ iv _ _ _ _ dX6_adds_54 (⟨Or.inl rfl, by rw [if_pos c_50]; exact ⟨rfl, rfl⟩⟩) hS
    · skip
      rw [nI_ltI (by omega) (by omega)] at c_25
      omega
set_option maxRecDepth 100000 in
theorem ct_X6_adds (l : Launch) (D : va_G) (cA : Nat → ClassId) (o : Nat → Int64) (ad ln : Nat → Nat) (n sz : Nat) (iv : Nat → Nat → Int32) (m9 a b P T mc9 : Nat) (hn : 68 ≤ n) (hln : ∀ k, ln k < 2 ^ 31) (hLn : lnOk ln P) (hP : P ≤ 8) (hmc : iv 0 3 = nI mc9) (hmc6 : mc9 ≤ 6) (hm9 : m9 < mc9) (hP0 : iv 0 0 = nI P) (ha : a < P) (hT : iv 0 1 = nI T) (hT3 : T ≤ 3) (hb9 : b < T) : gMi l yX6_adds wsX6_adds { frames := 2, cells := 0, slots := 0, locals := 40 } D cA o ad ln n sz iv [.ref (ad 0), .int (nI m9), .int (nI a), .int (nI b)] (fun (r : Int32) iv' => (r = 0 ∨ r = 1) ∧ (if iv (2 + 3 * m9 + 2) a = nI b then r = 0 ∧ iv' = iv else r = 1 ∧ iv' = up2 (up2 (up2 iv (2 + 3 * m9 + 2) a (nI b)) 46 0 0) 49 0 0)) := by
  refine Met.ofW (cc := cX6_adds) (maxL := 4) (ret := (some .boolean)) (by decide) rfl ?_
  intro p e s m args below meth c s₁ B hml hv__
  obtain ⟨rfl, hv__⟩ := hv__
  obtain ⟨hsz, hS, hK, hN, hA⟩ := gS.entry hv__
  have hl := lv_entry ([.ref (ad 0), .int (nI m9), .int (nI a), .int (nI b)]) (n := 4) (Nat.le_of_ble_eq_true rfl)
  rw [lg_entry_eq]
  generalize (lg_sl ([.ref (ad 0), .int (nI m9), .int (nI a), .int (nI b)]) ++ List.replicate (4 - (lg_sl ([.ref (ad 0), .int (nI m9), .int (nI a), .int (nI b)])).length) Slot.unset).toArray = ls at hl ⊢
  exact bd_X6_adds (m9 := m9) (a := a) (b := b) (P := P) (T := T) (mc9 := mc9) ⟨B.exec, B.bytes, hml, findClass_of_methodNamed B.named, atoms_spec (ws := wsX6_adds) B.pre, B.returns, B.notSynchronized⟩ (Nat.le_refl _) (Nat.le_refl _) (Nat.le_refl _) (Nat.le_refl _) hK hN hA hn hln hLn hP hmc hmc6 hm9 hP0 ha hT hT3 hb9 hS hl (fun r iv' H locs ls pc hd hp hS => gx_zret B.exec B.bytes B.returns B.notSynchronized (hp.1) hS hp hd)

theorem inX6_order_RX6 : ∀ {w : Cond}, w ∈ u_ws RX6 TX6 15 → w ∈ wsX6_order := fun {w} h => by first | exact List.mem_cons_of_mem _ (List.mem_append_right _ h) | (revert h; revert w; show ∀ w ∈ u_ws RX6 TX6 15, w ∈ wsX6_order; decide +kernel)
set_option maxHeartbeats 1000000 in
set_option maxRecDepth 100000 in
theorem bd_X6_order {p : Program} {l : Launch} {e : Env} {R : Room} {s : State} {m : MethodId} {args : Array Value} {below : List Frame} {meth : Method} {c : Code} {H : Heap} {locs : List Loc} {cells slots : Nat} {Q : State → Prop} {ls : Array Slot} {D : va_G} {A : Nat → Prop} {H0 : Heap} {cA : Nat → ClassId} {o : Nat → Int64} {ad ln : Nat → Nat} {iv : Nat → Nat → Int32} {n : Nat} {m9 P T mc9 : Nat} {G9 Ad : Nat → Nat}
    (F : gF p s m meth c cX6_order 2 RX6 wsX6_order args (some .int)) (hRf : 3 ≤ R.frames) (hRl : 65 ≤ R.locals) (hRc : cells ≤ R.cells) (hRs : slots ≤ R.slots) (hK : va_K D vwCl (gT cA) s) (hN : NW s) (hA : ∀ q, H0.size ≤ q → A q) (hn : 68 ≤ n) (hln : ∀ k, ln k < 2 ^ 31) (hLn : lnOk ln P) (hP : P ≤ 8) (hmc : iv 0 3 = nI mc9) (hmc6 : mc9 ≤ 6) (hm9 : m9 < mc9) (hT1 : 0 < T) (hT3 : T ≤ 3) (hmv : moveAt iv (2 + 3 * m9) P T G9 Ad)
    (hS : gS D cA A H0 o ad ln iv n H locs) (hl : lv_has ls 2 [(0, .ref (ad 0)), (1, .int (nI m9))])
    (kret : ∀ (r : Int32) (iv' : Nat → Nat → Int32) (H : Heap) (locs : List Loc) (ls : Array Slot) (pc : Nat), decode cX6_order pc = .ok (.ireturn, 1) → (r = nI (ordr P T G9 Ad) ∧ (∀ p, p < P → vp_in (iv' 33 p) P) ∧ ∀ q, q ≠ 33 → q ≠ 34 → iv' q = iv q) → gS D cA A H0 o ad ln iv' n H locs → W p l e R s m args below meth c H locs cells slots Q (F0 m pc ls [.int r])) :
    W p l e R s m args below meth c H locs cells slots Q (F0 m 0 ls []) := by
  obtain ⟨hx, hb, hml, hown, hts, hr, hlocks⟩ := F
  obtain ⟨hL1, hL2, ⟨h26, h27, h28⟩, ⟨h30, h31, h33, h34, h36, h37⟩, h39, h40, h41⟩ := hLn
  obtain ⟨hg1, hg2⟩ := hL1 m9 (by omega)
  refine lv_iload_n hx hb dX6_order_0 rfl (lv_at hl 1 rfl) ?_
  refine lv_aload_n hx hb dX6_order_1 rfl (lv_at hl 0 rfl) ?_
  refine gx_get (ci := 9) (v := .int (iv 0 3)) (C := RX6) (T := TX6) (N := 15) hx hb hts (fun _ h => inX6_order_RX6 h) hown hK hS 0 (by omega) rfl rfl 3 (by decide) (hts (.fieldLink RX6 90 "CosetTables" "moveCount" "I") (by decide +kernel)) rfl dX6_order_2 ?_
  refine gx_as (y := nI mc9) hmc ?_
  refine gc_v (gx_runS (As := [.int (nI m9), .int (nI mc9)]) (rest := []) ⟨hx, hb, hml, hown, hts⟩ hK hN hS (ct_X6_requireIndex l D cA o ad ln n H.size iv (a := m9) (b := mc9) hn hln (by omega) (by omega)) (va_cwS 2 hts gX6_order_X6_requireIndex rfl rfl rfl (by decide +kernel) ⟨gle hRf rfl, gle hRl rfl⟩) rfl rfl hl.1 rfl (lv_room (Nat.le_of_ble_eq_true rfl)) dX6_order_5 ⟨hRc, hRs⟩) hS hA (fun iv1 H locs hp1 hS => ?_)
  rw [hp1] at hS
  skip
  refine lv_aload_n hx hb dX6_order_8 rfl (lv_at hl 0 rfl) ?_
  refine lv_aload_n hx hb dX6_order_9 rfl (lv_at hl 0 rfl) ?_
  refine gx_get (ci := 9) (v := .ref (ad 1)) (C := RX6) (T := TX6) (N := 15) hx hb hts (fun _ h => inX6_order_RX6 h) hown hK hS 0 (by omega) rfl rfl 2 (by decide) (hts (.fieldLink RX6 27 "CosetTables" "moves" "[LCosetTables$Move;") (by decide +kernel)) rfl dX6_order_10 ?_
  refine lv_iload_n hx hb dX6_order_13 rfl (lv_at hl 1 rfl) ?_
  refine gx_ldmove hx hb hK hS (by omega) m9 (by omega) rfl dX6_order_14 ?_
  refine gc_i (gx_runV (As := [.ref (ad (2 + 3 * m9))]) (rest := []) ⟨hx, hb, hml, hown, hts⟩ hK hN hS 0 (by omega) rfl rfl (ct_X6_orderOf l D cA o ad ln n H.size iv (v := 2 + 3 * m9) (P := P) (T := T) (G9 := G9) (Ad := Ad) hn hln hT1 hT3 hP h33 h34 (isM_mv (by omega)) hg1 hg2 hmv) (cwV 1 hts gX6_order_X6_orderOf rfl rfl rfl (by decide +kernel) ⟨gle hRf rfl, gle hRl rfl⟩) rfl rfl hl.1 rfl (lv_room (Nat.le_of_ble_eq_true rfl)) dX6_order_15 ⟨hRc, hRs⟩) hS hA (fun y iv2 H locs hp2 hS => ?_)
  exact kret _ iv2 _ _ _ _ dX6_order_18 (hp2) hS
set_option maxRecDepth 100000 in
theorem ct_X6_order (l : Launch) (D : va_G) (cA : Nat → ClassId) (o : Nat → Int64) (ad ln : Nat → Nat) (n sz : Nat) (iv : Nat → Nat → Int32) (m9 P T mc9 : Nat) (G9 Ad : Nat → Nat) (hn : 68 ≤ n) (hln : ∀ k, ln k < 2 ^ 31) (hLn : lnOk ln P) (hP : P ≤ 8) (hmc : iv 0 3 = nI mc9) (hmc6 : mc9 ≤ 6) (hm9 : m9 < mc9) (hT1 : 0 < T) (hT3 : T ≤ 3) (hmv : moveAt iv (2 + 3 * m9) P T G9 Ad) : gMi l yX6_order wsX6_order { frames := 3, cells := 0, slots := 0, locals := 65 } D cA o ad ln n sz iv [.ref (ad 0), .int (nI m9)] (fun (r : Int32) iv' => r = nI (ordr P T G9 Ad) ∧ (∀ p, p < P → vp_in (iv' 33 p) P) ∧ ∀ q, q ≠ 33 → q ≠ 34 → iv' q = iv q) := by
  refine Met.ofW (cc := cX6_order) (maxL := 2) (ret := (some .int)) (by decide) rfl ?_
  intro p e s m args below meth c s₁ B hml hv__
  obtain ⟨rfl, hv__⟩ := hv__
  obtain ⟨hsz, hS, hK, hN, hA⟩ := gS.entry hv__
  have hl := lv_entry ([.ref (ad 0), .int (nI m9)]) (n := 2) (Nat.le_of_ble_eq_true rfl)
  rw [lg_entry_eq]
  generalize (lg_sl ([.ref (ad 0), .int (nI m9)]) ++ List.replicate (2 - (lg_sl ([.ref (ad 0), .int (nI m9)])).length) Slot.unset).toArray = ls at hl ⊢
  exact bd_X6_order (m9 := m9) (P := P) (T := T) (mc9 := mc9) (G9 := G9) (Ad := Ad) ⟨B.exec, B.bytes, hml, findClass_of_methodNamed B.named, atoms_spec (ws := wsX6_order) B.pre, B.returns, B.notSynchronized⟩ (Nat.le_refl _) (Nat.le_refl _) (Nat.le_refl _) (Nat.le_refl _) hK hN hA hn hln hLn hP hmc hmc6 hm9 hT1 hT3 hmv hS hl (fun r iv' H locs ls pc hd hp hS => gx_iret B.exec B.bytes B.returns B.notSynchronized hS hp hd)

theorem inX6_choose_RX1 : ∀ {w : Cond}, w ∈ u_ws RX1 TX1 8 → w ∈ wsX6_choose := fun {w} h => by first | exact List.mem_cons_of_mem _ (List.mem_append_right _ h) | (revert h; revert w; show ∀ w ∈ u_ws RX1 TX1 8, w ∈ wsX6_choose; decide +kernel)
theorem inX6_choose_RX6 : ∀ {w : Cond}, w ∈ u_ws RX6 TX6 15 → w ∈ wsX6_choose := fun {w} h => by first | exact List.mem_cons_of_mem _ (List.mem_append_right _ h) | (revert h; revert w; show ∀ w ∈ u_ws RX6 TX6 15, w ∈ wsX6_choose; decide +kernel)
set_option maxHeartbeats 1000000 in
set_option maxRecDepth 100000 in
theorem bd_X6_choose {p : Program} {l : Launch} {e : Env} {R : Room} {s : State} {m : MethodId} {args : Array Value} {below : List Frame} {meth : Method} {c : Code} {H : Heap} {locs : List Loc} {cells slots : Nat} {Q : State → Prop} {ls : Array Slot} {D : va_G} {A : Nat → Prop} {H0 : Heap} {cA : Nat → ClassId} {o : Nat → Int64} {ad ln : Nat → Nat} {iv : Nat → Nat → Int32} {n : Nat} {p9 P T c9 : Nat} {v9 : Int32} {ch : Nat → Bool}
    (F : gF p s m meth c cX6_choose 3 RX6 wsX6_choose args (some .boolean)) (hRf : 2 ≤ R.frames) (hRl : 43 ≤ R.locals) (hRc : cells ≤ R.cells) (hRs : slots ≤ R.slots) (hK : va_K D vwCl (gT cA) s) (hN : NW s) (hA : ∀ q, H0.size ≤ q → A q) (hn : 68 ≤ n) (hln : ∀ k, ln k < 2 ^ 31) (hLn : lnOk ln P) (hP : P ≤ 8) (hP0 : iv 0 0 = nI P) (hP1 : iv 25 0 = nI P) (hT0 : iv 25 1 = nI T) (hT3 : T ≤ 3) (hp9 : p9 < P) (hv9 : v9 = 0 ∨ v9 = 1) (h01 : ∀ j, iv 26 j = 0 ∨ iv 26 j = 1) (hc9 : iv 25 5 = nI c9) (hc4 : c9 ≤ 4) (hch : ∀ p, p < P → up2 iv 26 p9 v9 26 p = if ch p then 1 else 0) (hcc : ¬ iv 26 p9 = v9 → (v9 = 0 ∨ c9 < 4) → cnt ch P ≤ 4)
    (hS : gS D cA A H0 o ad ln iv n H locs) (hl : lv_has ls 3 [(0, .ref (ad 0)), (1, .int (nI p9)), (2, .int v9)])
    (kret : ∀ (r : Int32) (iv' : Nat → Nat → Int32) (H : Heap) (locs : List Loc) (ls : Array Slot) (pc : Nat), decode cX6_choose pc = .ok (.ireturn, 1) → ((r = 0 ∨ r = 1) ∧ (if iv 26 p9 = v9 ∨ (¬ v9 = 0 ∧ 4 ≤ c9) then r = 0 ∧ iv' = iv else r = 1 ∧ (∀ p, iv' 26 p = up2 iv 26 p9 v9 26 p) ∧ (iv' 25 5 = nI (cnt ch P) ∧ iv' 25 6 = nI (ff P (cnt ch P)) ∧ iv' 25 7 = nI (T ^ cnt ch P)) ∧ (∀ p, p < P → ch p = true → iv' 27 (cnt ch p) = nI p) ∧ (∀ j, j ≠ 5 → j ≠ 6 → j ≠ 7 → iv' 25 j = iv 25 j) ∧ (iv' 46 0 = 0 ∧ ∀ j, j ≠ 0 → iv' 46 j = iv 46 j) ∧ (iv' 49 0 = 0 ∧ ∀ j, j ≠ 0 → iv' 49 j = iv 49 j) ∧ (∀ p, p < P → iv' 30 p = nI p ∧ iv' 31 p = 0) ∧ ∀ q, q ≠ 25 → q ≠ 26 → q ≠ 27 → q ≠ 30 → q ≠ 31 → q ≠ 46 → q ≠ 49 → iv' q = iv q)) → gS D cA A H0 o ad ln iv' n H locs → W p l e R s m args below meth c H locs cells slots Q (F0 m pc ls [.int r])) :
    W p l e R s m args below meth c H locs cells slots Q (F0 m 0 ls []) := by
  obtain ⟨hx, hb, hml, hown, hts, hr, hlocks⟩ := F
  obtain ⟨hL1, hL2, ⟨h26, h27, h28⟩, ⟨h30, h31, h33, h34, h36, h37⟩, h39, h40, h41⟩ := hLn
  have J37 : ∀ (z9 : Nat), (¬ iv 26 p9 = v9 ∧ (v9 = 0 ∨ c9 < 4)) → ∀ (H : Heap) (locs : List Loc) (ls : Array Slot), gS D cA A H0 o ad ln iv n H locs → lv_has ls 3 [(0, .ref (ad 0)), (1, .int (nI p9)), (2, .int v9)] → W p l e R s m args below meth c H locs cells slots Q (F0 m 37 ls []) := by
    intro z9 hgo H locs ls hS hl
    refine lv_aload_n hx hb dX6_choose_37 rfl (lv_at hl 0 rfl) ?_
    refine gx_get (ci := 9) (v := .ref (ad 25)) (C := RX6) (T := TX6) (N := 15) hx hb hts (fun _ h => inX6_choose_RX6 h) hown hK hS 0 (by omega) rfl rfl 6 (by decide) (hts (.fieldLink RX6 42 "CosetTables" "numbering" "LCosetTables$Numbering;") (by decide +kernel)) rfl dX6_choose_38 ?_
    refine lv_iload_n hx hb dX6_choose_41 rfl (lv_at hl 1 rfl) ?_
    refine lv_iload_n hx hb dX6_choose_42 rfl (lv_at hl 2 rfl) ?_
    refine gc_v (gx_runV (As := [.int (nI p9), .int v9]) (rest := []) ⟨hx, hb, hml, hown, hts⟩ hK hN hS 25 (by omega) rfl rfl (ct_X1_change l D cA o ad ln n H.size iv (j9 := p9) (P := P) (T := T) (v9 := v9) (ch := ch) hn hln hP1 hP hT0 hT3 h26 h27 hp9 hv9 hch (hcc hgo.1 hgo.2)) (cwV 2 hts gX6_choose_X1_change rfl rfl rfl (by decide +kernel) ⟨gle hRf rfl, gle hRl rfl⟩) rfl rfl hl.1 rfl (lv_room (Nat.le_of_ble_eq_true rfl)) dX6_choose_43 ⟨hRc, hRs⟩) hS hA (fun iv2 H locs hp2 hS => ?_)
    refine lv_aload_n hx hb dX6_choose_46 rfl (lv_at hl 0 rfl) ?_
    refine gx_get (ci := 9) (v := .ref (ad 46)) (C := RX6) (T := TX6) (N := 15) hx hb hts (fun _ h => inX6_choose_RX6 h) hown hK hS 0 (by omega) rfl rfl 13 (by decide) (hts (.fieldLink RX6 79 "CosetTables" "table" "LCosetTables$Table;") (by decide +kernel)) rfl dX6_choose_47 ?_
    refine gc_v (gx_runV (As := []) (rest := []) ⟨hx, hb, hml, hown, hts⟩ hK hN hS 46 (by omega) rfl rfl (ct_X5_drop l D cA o ad ln n H.size iv2 hn hln) (cwV 0 hts gX6_choose_X5_drop rfl rfl rfl (by decide +kernel) ⟨gle hRf rfl, gle hRl rfl⟩) rfl rfl hl.1 rfl (lv_room (Nat.le_of_ble_eq_true rfl)) dX6_choose_50 ⟨hRc, hRs⟩) hS hA (fun iv3 H locs hp3 hS => ?_)
    refine lv_aload_n hx hb dX6_choose_53 rfl (lv_at hl 0 rfl) ?_
    refine gx_get (ci := 9) (v := .ref (ad 49)) (C := RX6) (T := TX6) (N := 15) hx hb hts (fun _ h => inX6_choose_RX6 h) hown hK hS 0 (by omega) rfl rfl 14 (by decide) (hts (.fieldLink RX6 86 "CosetTables" "orbits" "LCosetTables$Orbits;") (by decide +kernel)) rfl dX6_choose_54 ?_
    refine gc_v (gx_runV (As := []) (rest := []) ⟨hx, hb, hml, hown, hts⟩ hK hN hS 49 (by omega) rfl rfl (ct_X2_forget l D cA o ad ln n H.size iv3 hn hln) (cwV 0 hts gX6_choose_X2_forget rfl rfl rfl (by decide +kernel) ⟨gle hRf rfl, gle hRl rfl⟩) rfl rfl hl.1 rfl (lv_room (Nat.le_of_ble_eq_true rfl)) dX6_choose_57 ⟨hRc, hRs⟩) hS hA (fun iv4 H locs hp4 hS => ?_)
    refine lv_aload_n hx hb dX6_choose_60 rfl (lv_at hl 0 rfl) ?_
    refine gx_get (ci := 9) (v := .ref (ad 29)) (C := RX6) (T := TX6) (N := 15) hx hb hts (fun _ h => inX6_choose_RX6 h) hown hK hS 0 (by omega) rfl rfl 7 (by decide) (hts (.fieldLink RX6 51 "CosetTables" "now" "LCosetTables$State;") (by decide +kernel)) rfl dX6_choose_61 ?_
    refine gc_v (gx_runV (As := []) (rest := []) ⟨hx, hb, hml, hown, hts⟩ hK hN hS 29 (by omega) rfl rfl (ct_X3_goHome l D cA o ad ln n H.size iv4 (b := 29) hn hln (by decide)) (cwV 0 hts gX6_choose_X3_goHome rfl rfl rfl (by decide +kernel) ⟨gle hRf rfl, gle hRl rfl⟩) rfl rfl hl.1 rfl (lv_room (Nat.le_of_ble_eq_true rfl)) dX6_choose_64 ⟨hRc, hRs⟩) hS hA (fun iv5 H locs hp5 hS => ?_)
    refine lv_iconst (v := nI 1) hx hb dX6_choose_67 (by decide) ?_
    exact kret _ iv5 _ _ _ _ dX6_choose_68 (⟨Or.inr rfl, by
      rw [if_neg (by rcases hgo with ⟨g1, g2⟩; intro q; rcases q with q | ⟨q1, q2⟩; exact g1 q; rcases g2 with g2 | g2; exact q1 g2; omega)]
      obtain ⟨s1, s2, s3, s4, s5, s6, s7⟩ := hp2
      have k5 : ∀ q, q ≠ 30 → q ≠ 31 → iv5 q = iv4 q := fun q x1 x2 => by rw [hp5, wr1_o x2, wr1_o x1]
      have k4 : ∀ q, q ≠ 46 → q ≠ 49 → iv4 q = iv2 q := fun q x1 x2 => by rw [hp4, up2_row x2, hp3, up2_row x1]
      refine ⟨rfl, fun p => by rw [k5 26 (by decide) (by decide), k4 26 (by decide) (by decide)]; exact s1 p, ⟨by rw [k5 25 (by decide) (by decide), k4 25 (by decide) (by decide)]; exact s2, by rw [k5 25 (by decide) (by decide), k4 25 (by decide) (by decide)]; exact s3, by rw [k5 25 (by decide) (by decide), k4 25 (by decide) (by decide)]; exact s4⟩, fun p h1 h2 => by rw [k5 27 (by decide) (by decide), k4 27 (by decide) (by decide)]; exact s5 p h1 h2, fun j x1 x2 x3 => by rw [k5 25 (by decide) (by decide), k4 25 (by decide) (by decide)]; exact s6 j x1 x2 x3, ⟨by rw [k5 46 (by decide) (by decide), hp4, up2_row (by decide), hp3, up2_s], fun j hj => by rw [k5 46 (by decide) (by decide), hp4, up2_row (by decide), hp3, up2_n (by omega), s7 46 (by decide) (by decide) (by decide)]⟩, ⟨by rw [k5 49 (by decide) (by decide), hp4, up2_s], fun j hj => by rw [k5 49 (by decide) (by decide), hp4, up2_n (by omega), hp3, up2_row (by decide), s7 49 (by decide) (by decide) (by decide)]⟩, fun p hp => ⟨?_, ?_⟩, fun q x1 x2 x3 x4 x5 x6 x7 => by rw [k5 q x4 x5, k4 q x6 x7, s7 q x1 x2 x3]⟩
      · rw [hp5, wr1_o (by decide), show (30 : Nat) = 29 + 1 from rfl, wr1_at, if_pos (by show p < ln 30; omega)]
      · rw [hp5, show (31 : Nat) = 29 + 2 from rfl, wr1_at, if_pos (by show p < ln 31; omega)]⟩) hS
  refine lv_iload_n hx hb dX6_choose_0 rfl (lv_at hl 1 rfl) ?_
  refine lv_aload_n hx hb dX6_choose_1 rfl (lv_at hl 0 rfl) ?_
  refine gx_get (ci := 9) (v := .int (iv 0 0)) (C := RX6) (T := TX6) (N := 15) hx hb hts (fun _ h => inX6_choose_RX6 h) hown hK hS 0 (by omega) rfl rfl 0 (by decide) (hts (.fieldLink RX6 16 "CosetTables" "places" "I") (by decide +kernel)) rfl dX6_choose_2 ?_
  refine gx_as (y := nI P) hP0 ?_
  refine gc_v (gx_runS (As := [.int (nI p9), .int (nI P)]) (rest := []) ⟨hx, hb, hml, hown, hts⟩ hK hN hS (ct_X6_requireIndex l D cA o ad ln n H.size iv (a := p9) (b := P) hn hln (by omega) (by omega)) (va_cwS 2 hts gX6_choose_X6_requireIndex rfl rfl rfl (by decide +kernel) ⟨gle hRf rfl, gle hRl rfl⟩) rfl rfl hl.1 rfl (lv_room (Nat.le_of_ble_eq_true rfl)) dX6_choose_5 ⟨hRc, hRs⟩) hS hA (fun iv1 H locs hp1 hS => ?_)
  rw [hp1] at hS
  skip
  refine lv_aload_n hx hb dX6_choose_8 rfl (lv_at hl 0 rfl) ?_
  refine gx_get (ci := 9) (v := .ref (ad 25)) (C := RX6) (T := TX6) (N := 15) hx hb hts (fun _ h => inX6_choose_RX6 h) hown hK hS 0 (by omega) rfl rfl 6 (by decide) (hts (.fieldLink RX6 42 "CosetTables" "numbering" "LCosetTables$Numbering;") (by decide +kernel)) rfl dX6_choose_9 ?_
  refine lv_iload_n hx hb dX6_choose_12 rfl (lv_at hl 1 rfl) ?_
  refine gc_i (gx_runV (As := [.int (nI p9)]) (rest := []) ⟨hx, hb, hml, hown, hts⟩ hK hN hS 25 (by omega) rfl rfl (ct_X1_has l D cA o ad ln n H.size iv (j := p9) hn hln (by omega) h01) (cwV 1 hts gX6_choose_X1_has rfl rfl rfl (by decide +kernel) ⟨gle hRf rfl, gle hRl rfl⟩) rfl rfl hl.1 rfl (lv_room (Nat.le_of_ble_eq_true rfl)) dX6_choose_13 ⟨hRc, hRs⟩) hS hA (fun y iv8 H locs hp8 hS => ?_)
  obtain ⟨_, eyb, ev8⟩ := hp8
  rw [ev8] at hS
  skip
  refine lv_iload_n hx hb dX6_choose_16 rfl (lv_at hl 2 rfl) ?_
  refine lv_icmp_eq (tgt := 35) hx hb dX6_choose_17 (by decide) (fun c_17 => ?_) (fun c_17 => ?_)
  · skip
    refine lv_iconst (v := nI 0) hx hb dX6_choose_35 (by decide) ?_
    exact kret _ iv _ _ _ _ dX6_choose_36 (⟨Or.inl rfl, by rw [if_pos (by first | exact Or.inl (by rw [← eyb]; exact c_17) | exact Or.inr ⟨c_21, by omega⟩)]; exact ⟨rfl, rfl⟩⟩) hS
  · skip
    refine lv_iload_n hx hb dX6_choose_20 rfl (lv_at hl 2 rfl) ?_
    refine lv_if_eq (tgt := 37) hx hb dX6_choose_21 (by decide) (fun c_21 => ?_) (fun c_21 => ?_)
    · skip
      exact J37 0 ⟨by rw [← eyb]; exact c_17, Or.inl c_21⟩ _ _ _ hS (lv_sub hl [0, 1, 2] rfl)
    · skip
      refine lv_aload_n hx hb dX6_choose_24 rfl (lv_at hl 0 rfl) ?_
      refine gx_get (ci := 9) (v := .ref (ad 25)) (C := RX6) (T := TX6) (N := 15) hx hb hts (fun _ h => inX6_choose_RX6 h) hown hK hS 0 (by omega) rfl rfl 6 (by decide) (hts (.fieldLink RX6 42 "CosetTables" "numbering" "LCosetTables$Numbering;") (by decide +kernel)) rfl dX6_choose_25 ?_
      refine gx_getN (ci := 4) (v := .int (iv 25 5)) (C := RX1) (T := TX1) (N := 8) hx hb hts (fun _ h => inX6_choose_RX1 h) hown hK hS 25 (by omega) rfl rfl 5 (by decide) (nf_RX6_124 hN) rfl dX6_choose_28 ?_
      refine gx_as (y := nI c9) hc9 ?_
      refine lv_iconst (v := nI 4) hx hb dX6_choose_31 (by decide) ?_
      refine lv_icmp_lt (tgt := 37) hx hb dX6_choose_32 (by decide) (fun c_32 => ?_) (fun c_32 => ?_)
      · skip
        rw [nI_ltI (by omega) (by omega)] at c_32
        exact J37 0 ⟨by rw [← eyb]; exact c_17, Or.inr c_32⟩ _ _ _ hS (lv_sub hl [0, 1, 2] rfl)
      · skip
        rw [nI_ltI (by omega) (by omega)] at c_32
        refine lv_iconst (v := nI 0) hx hb dX6_choose_35 (by decide) ?_
        exact kret _ iv _ _ _ _ dX6_choose_36 (⟨Or.inl rfl, by rw [if_pos (by first | exact Or.inl (by rw [← eyb]; exact c_17) | exact Or.inr ⟨c_21, by omega⟩)]; exact ⟨rfl, rfl⟩⟩) hS
set_option maxRecDepth 100000 in
theorem ct_X6_choose (l : Launch) (D : va_G) (cA : Nat → ClassId) (o : Nat → Int64) (ad ln : Nat → Nat) (n sz : Nat) (iv : Nat → Nat → Int32) (p9 P T c9 : Nat) (v9 : Int32) (ch : Nat → Bool) (hn : 68 ≤ n) (hln : ∀ k, ln k < 2 ^ 31) (hLn : lnOk ln P) (hP : P ≤ 8) (hP0 : iv 0 0 = nI P) (hP1 : iv 25 0 = nI P) (hT0 : iv 25 1 = nI T) (hT3 : T ≤ 3) (hp9 : p9 < P) (hv9 : v9 = 0 ∨ v9 = 1) (h01 : ∀ j, iv 26 j = 0 ∨ iv 26 j = 1) (hc9 : iv 25 5 = nI c9) (hc4 : c9 ≤ 4) (hch : ∀ p, p < P → up2 iv 26 p9 v9 26 p = if ch p then 1 else 0) (hcc : ¬ iv 26 p9 = v9 → (v9 = 0 ∨ c9 < 4) → cnt ch P ≤ 4) : gMi l yX6_choose wsX6_choose { frames := 2, cells := 0, slots := 0, locals := 43 } D cA o ad ln n sz iv [.ref (ad 0), .int (nI p9), .int v9] (fun (r : Int32) iv' => (r = 0 ∨ r = 1) ∧ (if iv 26 p9 = v9 ∨ (¬ v9 = 0 ∧ 4 ≤ c9) then r = 0 ∧ iv' = iv else r = 1 ∧ (∀ p, iv' 26 p = up2 iv 26 p9 v9 26 p) ∧ (iv' 25 5 = nI (cnt ch P) ∧ iv' 25 6 = nI (ff P (cnt ch P)) ∧ iv' 25 7 = nI (T ^ cnt ch P)) ∧ (∀ p, p < P → ch p = true → iv' 27 (cnt ch p) = nI p) ∧ (∀ j, j ≠ 5 → j ≠ 6 → j ≠ 7 → iv' 25 j = iv 25 j) ∧ (iv' 46 0 = 0 ∧ ∀ j, j ≠ 0 → iv' 46 j = iv 46 j) ∧ (iv' 49 0 = 0 ∧ ∀ j, j ≠ 0 → iv' 49 j = iv 49 j) ∧ (∀ p, p < P → iv' 30 p = nI p ∧ iv' 31 p = 0) ∧ ∀ q, q ≠ 25 → q ≠ 26 → q ≠ 27 → q ≠ 30 → q ≠ 31 → q ≠ 46 → q ≠ 49 → iv' q = iv q)) := by
  refine Met.ofW (cc := cX6_choose) (maxL := 3) (ret := (some .boolean)) (by decide) rfl ?_
  intro p e s m args below meth c s₁ B hml hv__
  obtain ⟨rfl, hv__⟩ := hv__
  obtain ⟨hsz, hS, hK, hN, hA⟩ := gS.entry hv__
  have hl := lv_entry ([.ref (ad 0), .int (nI p9), .int v9]) (n := 3) (Nat.le_of_ble_eq_true rfl)
  rw [lg_entry_eq]
  generalize (lg_sl ([.ref (ad 0), .int (nI p9), .int v9]) ++ List.replicate (3 - (lg_sl ([.ref (ad 0), .int (nI p9), .int v9])).length) Slot.unset).toArray = ls at hl ⊢
  exact bd_X6_choose (p9 := p9) (P := P) (T := T) (c9 := c9) (v9 := v9) (ch := ch) ⟨B.exec, B.bytes, hml, findClass_of_methodNamed B.named, atoms_spec (ws := wsX6_choose) B.pre, B.returns, B.notSynchronized⟩ (Nat.le_refl _) (Nat.le_refl _) (Nat.le_refl _) (Nat.le_refl _) hK hN hA hn hln hLn hP hP0 hP1 hT0 hT3 hp9 hv9 h01 hc9 hc4 hch hcc hS hl (fun r iv' H locs ls pc hd hp hS => gx_zret B.exec B.bytes B.returns B.notSynchronized (hp.1) hS hp hd)

theorem inX6_set_RX6 : ∀ {w : Cond}, w ∈ u_ws RX6 TX6 15 → w ∈ wsX6_set := fun {w} h => by first | exact List.mem_cons_of_mem _ (List.mem_append_right _ h) | (revert h; revert w; show ∀ w ∈ u_ws RX6 TX6 15, w ∈ wsX6_set; decide +kernel)
set_option maxHeartbeats 1000000 in
set_option maxRecDepth 100000 in
theorem bd_X6_set {p : Program} {l : Launch} {e : Env} {R : Room} {s : State} {m : MethodId} {args : Array Value} {below : List Frame} {meth : Method} {c : Code} {H : Heap} {locs : List Loc} {cells slots : Nat} {Q : State → Prop} {ls : Array Slot} {D : va_G} {A : Nat → Prop} {H0 : Heap} {cA : Nat → ClassId} {o : Nat → Int64} {ad ln : Nat → Nat} {iv : Nat → Nat → Int32} {n : Nat} {x P c9 T : Nat} {pc9 : Nat → Nat}
    (F : gF p s m meth c cX6_set 2 RX6 wsX6_set args none) (hRf : 3 ≤ R.frames) (hRl : 72 ≤ R.locals) (hRc : cells ≤ R.cells) (hRs : slots ≤ R.slots) (hK : va_K D vwCl (gT cA) s) (hN : NW s) (hA : ∀ q, H0.size ≤ q → A q) (hn : 68 ≤ n) (hln : ∀ k, ln k < 2 ^ 31) (hLn : lnOk ln P) (hc9 : iv 25 5 = nI c9) (hc4 : c9 ≤ 4) (hT0 : iv 25 1 = nI T) (hT1 : 0 < T) (hT3 : T ≤ 3) (hP : P ≤ 8) (hpc : ∀ i, i < c9 → iv 27 i = nI (pc9 i)) (hpi : inj pc9 P c9) (hP0 : iv 25 0 = nI P) (ha9 : iv 25 6 = nI (ff P c9)) (ht9 : iv 25 7 = nI (T ^ c9)) (hx9 : x < ff P c9 * T ^ c9)
    (hS : gS D cA A H0 o ad ln iv n H locs) (hl : lv_has ls 2 [(0, .ref (ad 0)), (1, .int (nI x))])
    (kret : ∀ (iv' : Nat → Nat → Int32) (H : Heap) (locs : List Loc) (ls : Array Slot) (pc : Nat), decode cX6_set pc = .ok (.return_, 1) → ((∃ w, inj w P c9 ∧ holdsAt iv' 29 c9 pc9 w (fun i => x % T ^ c9 / T ^ (c9 - 1 - i) % T) ∧ ∀ i, i < c9 → rkw w i = rky P c9 (x / T ^ c9) i) ∧ (∀ p, (∀ i, i < c9 → p ≠ pc9 i) → iv' 30 p = iv 30 p ∧ iv' 31 p = iv 31 p) ∧ ∀ q, q ≠ 30 → q ≠ 31 → q ≠ 28 → iv' q = iv q) → gS D cA A H0 o ad ln iv' n H locs → W p l e R s m args below meth c H locs cells slots Q (F0 m pc ls [])) :
    W p l e R s m args below meth c H locs cells slots Q (F0 m 0 ls []) := by
  obtain ⟨hx, hb, hml, hown, hts, hr, hlocks⟩ := F
  obtain ⟨hL1, hL2, ⟨h26, h27, h28⟩, ⟨h30, h31, h33, h34, h36, h37⟩, h39, h40, h41⟩ := hLn
  have hff := ff_le4 hP hc4
  have hpw := pw_le4 hT3 hc4
  have hfw := Nat.mul_le_mul hff hpw
  refine lv_iload_n hx hb dX6_set_0 rfl (lv_at hl 1 rfl) ?_
  refine lv_aload_n hx hb dX6_set_1 rfl (lv_at hl 0 rfl) ?_
  refine gx_get (ci := 9) (v := .ref (ad 25)) (C := RX6) (T := TX6) (N := 15) hx hb hts (fun _ h => inX6_set_RX6 h) hown hK hS 0 (by omega) rfl rfl 6 (by decide) (hts (.fieldLink RX6 42 "CosetTables" "numbering" "LCosetTables$Numbering;") (by decide +kernel)) rfl dX6_set_2 ?_
  refine gc_i (gx_runV (As := []) (rest := [.int (nI x)]) ⟨hx, hb, hml, hown, hts⟩ hK hN hS 25 (by omega) rfl rfl (ct_X1_stateCount l D cA o ad ln n H.size iv hn hln) (cwV 0 hts gX6_set_X1_stateCount rfl rfl rfl (by decide +kernel) ⟨gle hRf rfl, gle hRl rfl⟩) rfl rfl hl.1 rfl (lv_room (Nat.le_of_ble_eq_true rfl)) dX6_set_5 ⟨hRc, hRs⟩) hS hA (fun y iv1 H locs hp1 hS => ?_)
  obtain ⟨ey, ev1⟩ := hp1
  rw [ev1] at hS
  refine gx_as (y := nI (ff P c9 * T ^ c9)) (by rw [ey, ha9, ht9]; exact pk_mul _ _) ?_
  skip
  refine gc_v (gx_runS (As := [.int (nI x), .int (nI (ff P c9 * T ^ c9))]) (rest := []) ⟨hx, hb, hml, hown, hts⟩ hK hN hS (ct_X6_requireIndex l D cA o ad ln n H.size iv (a := x) (b := ff P c9 * T ^ c9) hn hln (by omega) (by omega)) (va_cwS 2 hts gX6_set_X6_requireIndex rfl rfl rfl (by decide +kernel) ⟨gle hRf rfl, gle hRl rfl⟩) rfl rfl hl.1 rfl (lv_room (Nat.le_of_ble_eq_true rfl)) dX6_set_8 ⟨hRc, hRs⟩) hS hA (fun iv2 H locs hp2 hS => ?_)
  rw [hp2] at hS
  skip
  refine lv_aload_n hx hb dX6_set_11 rfl (lv_at hl 0 rfl) ?_
  refine gx_get (ci := 9) (v := .ref (ad 25)) (C := RX6) (T := TX6) (N := 15) hx hb hts (fun _ h => inX6_set_RX6 h) hown hK hS 0 (by omega) rfl rfl 6 (by decide) (hts (.fieldLink RX6 42 "CosetTables" "numbering" "LCosetTables$Numbering;") (by decide +kernel)) rfl dX6_set_12 ?_
  refine lv_iload_n hx hb dX6_set_15 rfl (lv_at hl 1 rfl) ?_
  refine lv_aload_n hx hb dX6_set_16 rfl (lv_at hl 0 rfl) ?_
  refine gx_get (ci := 9) (v := .ref (ad 29)) (C := RX6) (T := TX6) (N := 15) hx hb hts (fun _ h => inX6_set_RX6 h) hown hK hS 0 (by omega) rfl rfl 7 (by decide) (hts (.fieldLink RX6 51 "CosetTables" "now" "LCosetTables$State;") (by decide +kernel)) rfl dX6_set_17 ?_
  refine gc_v (gx_runV (As := [.int (nI x), .ref (ad 29)]) (rest := []) ⟨hx, hb, hml, hown, hts⟩ hK hN hS 25 (by omega) rfl rfl (ct_X1_read l D cA o ad ln n H.size iv (x := x) (b := 29) (P := P) (c9 := c9) (T := T) (pc9 := pc9) hn hln hc9 hc4 hT0 hT1 hT3 (by decide) h31 h30 hP h27 hpc hpi hP0 h28 ht9 (by omega)) (cwV 2 hts gX6_set_X1_read rfl rfl rfl (by decide +kernel) ⟨gle hRf rfl, gle hRl rfl⟩) rfl rfl hl.1 rfl (lv_room (Nat.le_of_ble_eq_true rfl)) dX6_set_20 ⟨hRc, hRs⟩) hS hA (fun iv3 H locs hp3 hS => ?_)
  exact kret iv3 _ _ _ _ dX6_set_23 (hp3) hS
set_option maxRecDepth 100000 in
theorem ct_X6_set (l : Launch) (D : va_G) (cA : Nat → ClassId) (o : Nat → Int64) (ad ln : Nat → Nat) (n sz : Nat) (iv : Nat → Nat → Int32) (x P c9 T : Nat) (pc9 : Nat → Nat) (hn : 68 ≤ n) (hln : ∀ k, ln k < 2 ^ 31) (hLn : lnOk ln P) (hc9 : iv 25 5 = nI c9) (hc4 : c9 ≤ 4) (hT0 : iv 25 1 = nI T) (hT1 : 0 < T) (hT3 : T ≤ 3) (hP : P ≤ 8) (hpc : ∀ i, i < c9 → iv 27 i = nI (pc9 i)) (hpi : inj pc9 P c9) (hP0 : iv 25 0 = nI P) (ha9 : iv 25 6 = nI (ff P c9)) (ht9 : iv 25 7 = nI (T ^ c9)) (hx9 : x < ff P c9 * T ^ c9) : gMv l yX6_set wsX6_set { frames := 3, cells := 0, slots := 0, locals := 72 } D cA o ad ln n sz iv [.ref (ad 0), .int (nI x)] (fun iv' => (∃ w, inj w P c9 ∧ holdsAt iv' 29 c9 pc9 w (fun i => x % T ^ c9 / T ^ (c9 - 1 - i) % T) ∧ ∀ i, i < c9 → rkw w i = rky P c9 (x / T ^ c9) i) ∧ (∀ p, (∀ i, i < c9 → p ≠ pc9 i) → iv' 30 p = iv 30 p ∧ iv' 31 p = iv 31 p) ∧ ∀ q, q ≠ 30 → q ≠ 31 → q ≠ 28 → iv' q = iv q) := by
  refine Met.ofW (cc := cX6_set) (maxL := 2) (ret := none) (by decide) rfl ?_
  intro p e s m args below meth c s₁ B hml hv__
  obtain ⟨rfl, hv__⟩ := hv__
  obtain ⟨hsz, hS, hK, hN, hA⟩ := gS.entry hv__
  have hl := lv_entry ([.ref (ad 0), .int (nI x)]) (n := 2) (Nat.le_of_ble_eq_true rfl)
  rw [lg_entry_eq]
  generalize (lg_sl ([.ref (ad 0), .int (nI x)]) ++ List.replicate (2 - (lg_sl ([.ref (ad 0), .int (nI x)])).length) Slot.unset).toArray = ls at hl ⊢
  exact bd_X6_set (x := x) (P := P) (c9 := c9) (T := T) (pc9 := pc9) ⟨B.exec, B.bytes, hml, findClass_of_methodNamed B.named, atoms_spec (ws := wsX6_set) B.pre, B.returns, B.notSynchronized⟩ (Nat.le_refl _) (Nat.le_refl _) (Nat.le_refl _) (Nat.le_refl _) hK hN hA hn hln hLn hc9 hc4 hT0 hT1 hT3 hP hpc hpi hP0 ha9 ht9 hx9 hS hl (fun iv' H locs ls pc hd hp hS => gx_vret B.exec B.bytes B.returns B.notSynchronized hS hp hd)

theorem inX6_value_RX6 : ∀ {w : Cond}, w ∈ u_ws RX6 TX6 15 → w ∈ wsX6_value := fun {w} h => by first | exact List.mem_cons_of_mem _ (List.mem_append_right _ h) | (revert h; revert w; show ∀ w ∈ u_ws RX6 TX6 15, w ∈ wsX6_value; decide +kernel)
set_option maxHeartbeats 1000000 in
set_option maxRecDepth 100000 in
theorem bd_X6_value {p : Program} {l : Launch} {e : Env} {R : Room} {s : State} {m : MethodId} {args : Array Value} {below : List Frame} {meth : Method} {c : Code} {H : Heap} {locs : List Loc} {cells slots : Nat} {Q : State → Prop} {ls : Array Slot} {D : va_G} {A : Nat → Prop} {H0 : Heap} {cA : Nat → ClassId} {o : Nat → Int64} {ad ln : Nat → Nat} {iv : Nat → Nat → Int32} {n : Nat} {x P c9 T : Nat}
    (F : gF p s m meth c cX6_value 2 RX6 wsX6_value args (some .int)) (hRf : 1 ≤ R.frames) (hRl : 21 ≤ R.locals) (hRc : cells ≤ R.cells) (hRs : slots ≤ R.slots) (hK : va_K D vwCl (gT cA) s) (hN : NW s) (hA : ∀ q, H0.size ≤ q → A q) (hn : 68 ≤ n) (hln : ∀ k, ln k < 2 ^ 31) (hc4 : c9 ≤ 4) (hT3 : T ≤ 3) (hP : P ≤ 8) (ha9 : iv 25 6 = nI (ff P c9)) (ht9 : iv 25 7 = nI (T ^ c9)) (hx9 : x < ff P c9 * T ^ c9) (hj : iv 46 0 = 0 ∨ x < ln 47)
    (hS : gS D cA A H0 o ad ln iv n H locs) (hl : lv_has ls 2 [(0, .ref (ad 0)), (1, .int (nI x))])
    (kret : ∀ (r : Int32) (iv' : Nat → Nat → Int32) (H : Heap) (locs : List Loc) (ls : Array Slot) (pc : Nat), decode cX6_value pc = .ok (.ireturn, 1) → (r = (if iv 46 0 = 0 then (-2) else iv 47 x) ∧ iv' = iv) → gS D cA A H0 o ad ln iv' n H locs → W p l e R s m args below meth c H locs cells slots Q (F0 m pc ls [.int r])) :
    W p l e R s m args below meth c H locs cells slots Q (F0 m 0 ls []) := by
  obtain ⟨hx, hb, hml, hown, hts, hr, hlocks⟩ := F
  have hff := ff_le4 hP hc4
  have hpw := pw_le4 hT3 hc4
  have hfw := Nat.mul_le_mul hff hpw
  refine lv_iload_n hx hb dX6_value_0 rfl (lv_at hl 1 rfl) ?_
  refine lv_aload_n hx hb dX6_value_1 rfl (lv_at hl 0 rfl) ?_
  refine gx_get (ci := 9) (v := .ref (ad 25)) (C := RX6) (T := TX6) (N := 15) hx hb hts (fun _ h => inX6_value_RX6 h) hown hK hS 0 (by omega) rfl rfl 6 (by decide) (hts (.fieldLink RX6 42 "CosetTables" "numbering" "LCosetTables$Numbering;") (by decide +kernel)) rfl dX6_value_2 ?_
  refine gc_i (gx_runV (As := []) (rest := [.int (nI x)]) ⟨hx, hb, hml, hown, hts⟩ hK hN hS 25 (by omega) rfl rfl (ct_X1_stateCount l D cA o ad ln n H.size iv hn hln) (cwV 0 hts gX6_value_X1_stateCount rfl rfl rfl (by decide +kernel) ⟨gle hRf rfl, gle hRl rfl⟩) rfl rfl hl.1 rfl (lv_room (Nat.le_of_ble_eq_true rfl)) dX6_value_5 ⟨hRc, hRs⟩) hS hA (fun y iv1 H locs hp1 hS => ?_)
  obtain ⟨ey, ev1⟩ := hp1
  rw [ev1] at hS
  refine gx_as (y := nI (ff P c9 * T ^ c9)) (by rw [ey, ha9, ht9]; exact pk_mul _ _) ?_
  skip
  refine gc_v (gx_runS (As := [.int (nI x), .int (nI (ff P c9 * T ^ c9))]) (rest := []) ⟨hx, hb, hml, hown, hts⟩ hK hN hS (ct_X6_requireIndex l D cA o ad ln n H.size iv (a := x) (b := ff P c9 * T ^ c9) hn hln (by omega) (by omega)) (va_cwS 2 hts gX6_value_X6_requireIndex rfl rfl rfl (by decide +kernel) ⟨gle hRf rfl, gle hRl rfl⟩) rfl rfl hl.1 rfl (lv_room (Nat.le_of_ble_eq_true rfl)) dX6_value_8 ⟨hRc, hRs⟩) hS hA (fun iv2 H locs hp2 hS => ?_)
  rw [hp2] at hS
  skip
  refine lv_aload_n hx hb dX6_value_11 rfl (lv_at hl 0 rfl) ?_
  refine gx_get (ci := 9) (v := .ref (ad 46)) (C := RX6) (T := TX6) (N := 15) hx hb hts (fun _ h => inX6_value_RX6 h) hown hK hS 0 (by omega) rfl rfl 13 (by decide) (hts (.fieldLink RX6 79 "CosetTables" "table" "LCosetTables$Table;") (by decide +kernel)) rfl dX6_value_12 ?_
  refine lv_iload_n hx hb dX6_value_15 rfl (lv_at hl 1 rfl) ?_
  refine gc_i (gx_runV (As := [.int (nI x)]) (rest := []) ⟨hx, hb, hml, hown, hts⟩ hK hN hS 46 (by omega) rfl rfl (ct_X5_look l D cA o ad ln n H.size iv (j := x) hn hln hj) (cwV 1 hts gX6_value_X5_look rfl rfl rfl (by decide +kernel) ⟨gle hRf rfl, gle hRl rfl⟩) rfl rfl hl.1 rfl (lv_room (Nat.le_of_ble_eq_true rfl)) dX6_value_16 ⟨hRc, hRs⟩) hS hA (fun z iv3 H locs hp3 hS => ?_)
  exact kret _ iv3 _ _ _ _ dX6_value_19 (hp3) hS
set_option maxRecDepth 100000 in
theorem ct_X6_value (l : Launch) (D : va_G) (cA : Nat → ClassId) (o : Nat → Int64) (ad ln : Nat → Nat) (n sz : Nat) (iv : Nat → Nat → Int32) (x P c9 T : Nat) (hn : 68 ≤ n) (hln : ∀ k, ln k < 2 ^ 31) (hc4 : c9 ≤ 4) (hT3 : T ≤ 3) (hP : P ≤ 8) (ha9 : iv 25 6 = nI (ff P c9)) (ht9 : iv 25 7 = nI (T ^ c9)) (hx9 : x < ff P c9 * T ^ c9) (hj : iv 46 0 = 0 ∨ x < ln 47) : gMi l yX6_value wsX6_value { frames := 1, cells := 0, slots := 0, locals := 21 } D cA o ad ln n sz iv [.ref (ad 0), .int (nI x)] (fun (r : Int32) iv' => r = (if iv 46 0 = 0 then (-2) else iv 47 x) ∧ iv' = iv) := by
  refine Met.ofW (cc := cX6_value) (maxL := 2) (ret := (some .int)) (by decide) rfl ?_
  intro p e s m args below meth c s₁ B hml hv__
  obtain ⟨rfl, hv__⟩ := hv__
  obtain ⟨hsz, hS, hK, hN, hA⟩ := gS.entry hv__
  have hl := lv_entry ([.ref (ad 0), .int (nI x)]) (n := 2) (Nat.le_of_ble_eq_true rfl)
  rw [lg_entry_eq]
  generalize (lg_sl ([.ref (ad 0), .int (nI x)]) ++ List.replicate (2 - (lg_sl ([.ref (ad 0), .int (nI x)])).length) Slot.unset).toArray = ls at hl ⊢
  exact bd_X6_value (x := x) (P := P) (c9 := c9) (T := T) ⟨B.exec, B.bytes, hml, findClass_of_methodNamed B.named, atoms_spec (ws := wsX6_value) B.pre, B.returns, B.notSynchronized⟩ (Nat.le_refl _) (Nat.le_refl _) (Nat.le_refl _) (Nat.le_refl _) hK hN hA hn hln hc4 hT3 hP ha9 ht9 hx9 hj hS hl (fun r iv' H locs ls pc hd hp hS => gx_iret B.exec B.bytes B.returns B.notSynchronized hS hp hd)

theorem inX6_place_RX3 : ∀ {w : Cond}, w ∈ u_ws RX3 TX3 2 → w ∈ wsX6_place := fun {w} h => by first | exact List.mem_cons_of_mem _ (List.mem_append_right _ h) | (revert h; revert w; show ∀ w ∈ u_ws RX3 TX3 2, w ∈ wsX6_place; decide +kernel)
theorem inX6_place_RX6 : ∀ {w : Cond}, w ∈ u_ws RX6 TX6 15 → w ∈ wsX6_place := fun {w} h => by first | exact List.mem_cons_of_mem _ (List.mem_append_right _ h) | (revert h; revert w; show ∀ w ∈ u_ws RX6 TX6 15, w ∈ wsX6_place; decide +kernel)
set_option maxHeartbeats 1000000 in
set_option maxRecDepth 100000 in
theorem bd_X6_place {p : Program} {l : Launch} {e : Env} {R : Room} {s : State} {m : MethodId} {args : Array Value} {below : List Frame} {meth : Method} {c : Code} {H : Heap} {locs : List Loc} {cells slots : Nat} {Q : State → Prop} {ls : Array Slot} {D : va_G} {A : Nat → Prop} {H0 : Heap} {cA : Nat → ClassId} {o : Nat → Int64} {ad ln : Nat → Nat} {iv : Nat → Nat → Int32} {n : Nat} {p9 P : Nat}
    (F : gF p s m meth c cX6_place 2 RX6 wsX6_place args (some .int)) (hRf : 1 ≤ R.frames) (hRl : 21 ≤ R.locals) (hRc : cells ≤ R.cells) (hRs : slots ≤ R.slots) (hK : va_K D vwCl (gT cA) s) (hN : NW s) (hA : ∀ q, H0.size ≤ q → A q) (hn : 68 ≤ n) (hln : ∀ k, ln k < 2 ^ 31) (hLn : lnOk ln P) (hP : P ≤ 8) (hP0 : iv 0 0 = nI P) (hp9 : p9 < P) (h01 : ∀ j, iv 26 j = 0 ∨ iv 26 j = 1)
    (hS : gS D cA A H0 o ad ln iv n H locs) (hl : lv_has ls 2 [(0, .ref (ad 0)), (1, .int (nI p9))])
    (kret : ∀ (r : Int32) (iv' : Nat → Nat → Int32) (H : Heap) (locs : List Loc) (ls : Array Slot) (pc : Nat), decode cX6_place pc = .ok (.ireturn, 1) → (r = (if iv 26 p9 = 0 then (-1) else iv 30 p9) ∧ iv' = iv) → gS D cA A H0 o ad ln iv' n H locs → W p l e R s m args below meth c H locs cells slots Q (F0 m pc ls [.int r])) :
    W p l e R s m args below meth c H locs cells slots Q (F0 m 0 ls []) := by
  obtain ⟨hx, hb, hml, hown, hts, hr, hlocks⟩ := F
  obtain ⟨hL1, hL2, ⟨h26, h27, h28⟩, ⟨h30, h31, h33, h34, h36, h37⟩, h39, h40, h41⟩ := hLn
  refine lv_iload_n hx hb dX6_place_0 rfl (lv_at hl 1 rfl) ?_
  refine lv_aload_n hx hb dX6_place_1 rfl (lv_at hl 0 rfl) ?_
  refine gx_get (ci := 9) (v := .int (iv 0 0)) (C := RX6) (T := TX6) (N := 15) hx hb hts (fun _ h => inX6_place_RX6 h) hown hK hS 0 (by omega) rfl rfl 0 (by decide) (hts (.fieldLink RX6 16 "CosetTables" "places" "I") (by decide +kernel)) rfl dX6_place_2 ?_
  refine gx_as (y := nI P) hP0 ?_
  refine gc_v (gx_runS (As := [.int (nI p9), .int (nI P)]) (rest := []) ⟨hx, hb, hml, hown, hts⟩ hK hN hS (ct_X6_requireIndex l D cA o ad ln n H.size iv (a := p9) (b := P) hn hln (by omega) (by omega)) (va_cwS 2 hts gX6_place_X6_requireIndex rfl rfl rfl (by decide +kernel) ⟨gle hRf rfl, gle hRl rfl⟩) rfl rfl hl.1 rfl (lv_room (Nat.le_of_ble_eq_true rfl)) dX6_place_5 ⟨hRc, hRs⟩) hS hA (fun iv1 H locs hp1 hS => ?_)
  rw [hp1] at hS
  skip
  refine lv_aload_n hx hb dX6_place_8 rfl (lv_at hl 0 rfl) ?_
  refine gx_get (ci := 9) (v := .ref (ad 25)) (C := RX6) (T := TX6) (N := 15) hx hb hts (fun _ h => inX6_place_RX6 h) hown hK hS 0 (by omega) rfl rfl 6 (by decide) (hts (.fieldLink RX6 42 "CosetTables" "numbering" "LCosetTables$Numbering;") (by decide +kernel)) rfl dX6_place_9 ?_
  refine lv_iload_n hx hb dX6_place_12 rfl (lv_at hl 1 rfl) ?_
  refine gc_i (gx_runV (As := [.int (nI p9)]) (rest := []) ⟨hx, hb, hml, hown, hts⟩ hK hN hS 25 (by omega) rfl rfl (ct_X1_has l D cA o ad ln n H.size iv (j := p9) hn hln (by omega) h01) (cwV 1 hts gX6_place_X1_has rfl rfl rfl (by decide +kernel) ⟨gle hRf rfl, gle hRl rfl⟩) rfl rfl hl.1 rfl (lv_room (Nat.le_of_ble_eq_true rfl)) dX6_place_13 ⟨hRc, hRs⟩) hS hA (fun y iv2 H locs hp2 hS => ?_)
  obtain ⟨_, eyb, ev2⟩ := hp2
  rw [ev2] at hS
  skip
  refine lv_if_eq (tgt := 31) hx hb dX6_place_16 (by decide) (fun c_16 => ?_) (fun c_16 => ?_)
  · skip
    rw [eyb] at c_16
    refine lv_iconst (v := (-1)) hx hb dX6_place_31 (by decide) ?_
    exact kret _ iv _ _ _ _ dX6_place_32 (⟨by first | rw [if_pos c_16] | rw [if_neg c_16], rfl⟩) hS
  · skip
    rw [eyb] at c_16
    refine lv_aload_n hx hb dX6_place_19 rfl (lv_at hl 0 rfl) ?_
    refine gx_get (ci := 9) (v := .ref (ad 29)) (C := RX6) (T := TX6) (N := 15) hx hb hts (fun _ h => inX6_place_RX6 h) hown hK hS 0 (by omega) rfl rfl 7 (by decide) (hts (.fieldLink RX6 51 "CosetTables" "now" "LCosetTables$State;") (by decide +kernel)) rfl dX6_place_20 ?_
    refine gx_getN (ci := 6) (v := .ref (ad 30)) (C := RX3) (T := TX3) (N := 2) hx hb hts (fun _ h => inX6_place_RX3 h) hown hK hS 29 (by omega) rfl rfl 0 (by decide) (nf_RX6_152 hN) rfl dX6_place_23 ?_
    refine lv_iload_n hx hb dX6_place_26 rfl (lv_at hl 1 rfl) ?_
    refine gx_ialdn hx hb hK hS 30 (by omega) (by decide) p9 (by omega) (hln _) dX6_place_27 ?_
    refine lv_goto (tgt := 32) hx hb dX6_place_28 (by decide) ?_
    exact kret _ iv _ _ _ _ dX6_place_32 (⟨by first | rw [if_pos c_16] | rw [if_neg c_16], rfl⟩) hS
set_option maxRecDepth 100000 in
theorem ct_X6_place (l : Launch) (D : va_G) (cA : Nat → ClassId) (o : Nat → Int64) (ad ln : Nat → Nat) (n sz : Nat) (iv : Nat → Nat → Int32) (p9 P : Nat) (hn : 68 ≤ n) (hln : ∀ k, ln k < 2 ^ 31) (hLn : lnOk ln P) (hP : P ≤ 8) (hP0 : iv 0 0 = nI P) (hp9 : p9 < P) (h01 : ∀ j, iv 26 j = 0 ∨ iv 26 j = 1) : gMi l yX6_place wsX6_place { frames := 1, cells := 0, slots := 0, locals := 21 } D cA o ad ln n sz iv [.ref (ad 0), .int (nI p9)] (fun (r : Int32) iv' => r = (if iv 26 p9 = 0 then (-1) else iv 30 p9) ∧ iv' = iv) := by
  refine Met.ofW (cc := cX6_place) (maxL := 2) (ret := (some .int)) (by decide) rfl ?_
  intro p e s m args below meth c s₁ B hml hv__
  obtain ⟨rfl, hv__⟩ := hv__
  obtain ⟨hsz, hS, hK, hN, hA⟩ := gS.entry hv__
  have hl := lv_entry ([.ref (ad 0), .int (nI p9)]) (n := 2) (Nat.le_of_ble_eq_true rfl)
  rw [lg_entry_eq]
  generalize (lg_sl ([.ref (ad 0), .int (nI p9)]) ++ List.replicate (2 - (lg_sl ([.ref (ad 0), .int (nI p9)])).length) Slot.unset).toArray = ls at hl ⊢
  exact bd_X6_place (p9 := p9) (P := P) ⟨B.exec, B.bytes, hml, findClass_of_methodNamed B.named, atoms_spec (ws := wsX6_place) B.pre, B.returns, B.notSynchronized⟩ (Nat.le_refl _) (Nat.le_refl _) (Nat.le_refl _) (Nat.le_refl _) hK hN hA hn hln hLn hP hP0 hp9 h01 hS hl (fun r iv' H locs ls pc hd hp hS => gx_iret B.exec B.bytes B.returns B.notSynchronized hS hp hd)

theorem inX6_twist_RX3 : ∀ {w : Cond}, w ∈ u_ws RX3 TX3 2 → w ∈ wsX6_twist := fun {w} h => by first | exact List.mem_cons_of_mem _ (List.mem_append_right _ h) | (revert h; revert w; show ∀ w ∈ u_ws RX3 TX3 2, w ∈ wsX6_twist; decide +kernel)
theorem inX6_twist_RX6 : ∀ {w : Cond}, w ∈ u_ws RX6 TX6 15 → w ∈ wsX6_twist := fun {w} h => by first | exact List.mem_cons_of_mem _ (List.mem_append_right _ h) | (revert h; revert w; show ∀ w ∈ u_ws RX6 TX6 15, w ∈ wsX6_twist; decide +kernel)
set_option maxHeartbeats 1000000 in
set_option maxRecDepth 100000 in
theorem bd_X6_twist {p : Program} {l : Launch} {e : Env} {R : Room} {s : State} {m : MethodId} {args : Array Value} {below : List Frame} {meth : Method} {c : Code} {H : Heap} {locs : List Loc} {cells slots : Nat} {Q : State → Prop} {ls : Array Slot} {D : va_G} {A : Nat → Prop} {H0 : Heap} {cA : Nat → ClassId} {o : Nat → Int64} {ad ln : Nat → Nat} {iv : Nat → Nat → Int32} {n : Nat} {p9 P : Nat}
    (F : gF p s m meth c cX6_twist 2 RX6 wsX6_twist args (some .int)) (hRf : 1 ≤ R.frames) (hRl : 21 ≤ R.locals) (hRc : cells ≤ R.cells) (hRs : slots ≤ R.slots) (hK : va_K D vwCl (gT cA) s) (hN : NW s) (hA : ∀ q, H0.size ≤ q → A q) (hn : 68 ≤ n) (hln : ∀ k, ln k < 2 ^ 31) (hLn : lnOk ln P) (hP : P ≤ 8) (hP0 : iv 0 0 = nI P) (hp9 : p9 < P) (h01 : ∀ j, iv 26 j = 0 ∨ iv 26 j = 1)
    (hS : gS D cA A H0 o ad ln iv n H locs) (hl : lv_has ls 2 [(0, .ref (ad 0)), (1, .int (nI p9))])
    (kret : ∀ (r : Int32) (iv' : Nat → Nat → Int32) (H : Heap) (locs : List Loc) (ls : Array Slot) (pc : Nat), decode cX6_twist pc = .ok (.ireturn, 1) → (r = (if iv 26 p9 = 0 then (-1) else iv 31 p9) ∧ iv' = iv) → gS D cA A H0 o ad ln iv' n H locs → W p l e R s m args below meth c H locs cells slots Q (F0 m pc ls [.int r])) :
    W p l e R s m args below meth c H locs cells slots Q (F0 m 0 ls []) := by
  obtain ⟨hx, hb, hml, hown, hts, hr, hlocks⟩ := F
  obtain ⟨hL1, hL2, ⟨h26, h27, h28⟩, ⟨h30, h31, h33, h34, h36, h37⟩, h39, h40, h41⟩ := hLn
  refine lv_iload_n hx hb dX6_twist_0 rfl (lv_at hl 1 rfl) ?_
  refine lv_aload_n hx hb dX6_twist_1 rfl (lv_at hl 0 rfl) ?_
  refine gx_get (ci := 9) (v := .int (iv 0 0)) (C := RX6) (T := TX6) (N := 15) hx hb hts (fun _ h => inX6_twist_RX6 h) hown hK hS 0 (by omega) rfl rfl 0 (by decide) (hts (.fieldLink RX6 16 "CosetTables" "places" "I") (by decide +kernel)) rfl dX6_twist_2 ?_
  refine gx_as (y := nI P) hP0 ?_
  refine gc_v (gx_runS (As := [.int (nI p9), .int (nI P)]) (rest := []) ⟨hx, hb, hml, hown, hts⟩ hK hN hS (ct_X6_requireIndex l D cA o ad ln n H.size iv (a := p9) (b := P) hn hln (by omega) (by omega)) (va_cwS 2 hts gX6_twist_X6_requireIndex rfl rfl rfl (by decide +kernel) ⟨gle hRf rfl, gle hRl rfl⟩) rfl rfl hl.1 rfl (lv_room (Nat.le_of_ble_eq_true rfl)) dX6_twist_5 ⟨hRc, hRs⟩) hS hA (fun iv1 H locs hp1 hS => ?_)
  rw [hp1] at hS
  skip
  refine lv_aload_n hx hb dX6_twist_8 rfl (lv_at hl 0 rfl) ?_
  refine gx_get (ci := 9) (v := .ref (ad 25)) (C := RX6) (T := TX6) (N := 15) hx hb hts (fun _ h => inX6_twist_RX6 h) hown hK hS 0 (by omega) rfl rfl 6 (by decide) (hts (.fieldLink RX6 42 "CosetTables" "numbering" "LCosetTables$Numbering;") (by decide +kernel)) rfl dX6_twist_9 ?_
  refine lv_iload_n hx hb dX6_twist_12 rfl (lv_at hl 1 rfl) ?_
  refine gc_i (gx_runV (As := [.int (nI p9)]) (rest := []) ⟨hx, hb, hml, hown, hts⟩ hK hN hS 25 (by omega) rfl rfl (ct_X1_has l D cA o ad ln n H.size iv (j := p9) hn hln (by omega) h01) (cwV 1 hts gX6_twist_X1_has rfl rfl rfl (by decide +kernel) ⟨gle hRf rfl, gle hRl rfl⟩) rfl rfl hl.1 rfl (lv_room (Nat.le_of_ble_eq_true rfl)) dX6_twist_13 ⟨hRc, hRs⟩) hS hA (fun y iv2 H locs hp2 hS => ?_)
  obtain ⟨_, eyb, ev2⟩ := hp2
  rw [ev2] at hS
  skip
  refine lv_if_eq (tgt := 31) hx hb dX6_twist_16 (by decide) (fun c_16 => ?_) (fun c_16 => ?_)
  · skip
    rw [eyb] at c_16
    refine lv_iconst (v := (-1)) hx hb dX6_twist_31 (by decide) ?_
    exact kret _ iv _ _ _ _ dX6_twist_32 (⟨by first | rw [if_pos c_16] | rw [if_neg c_16], rfl⟩) hS
  · skip
    rw [eyb] at c_16
    refine lv_aload_n hx hb dX6_twist_19 rfl (lv_at hl 0 rfl) ?_
    refine gx_get (ci := 9) (v := .ref (ad 29)) (C := RX6) (T := TX6) (N := 15) hx hb hts (fun _ h => inX6_twist_RX6 h) hown hK hS 0 (by omega) rfl rfl 7 (by decide) (hts (.fieldLink RX6 51 "CosetTables" "now" "LCosetTables$State;") (by decide +kernel)) rfl dX6_twist_20 ?_
    refine gx_getN (ci := 6) (v := .ref (ad 31)) (C := RX3) (T := TX3) (N := 2) hx hb hts (fun _ h => inX6_twist_RX3 h) hown hK hS 29 (by omega) rfl rfl 1 (by decide) (nf_RX6_155 hN) rfl dX6_twist_23 ?_
    refine lv_iload_n hx hb dX6_twist_26 rfl (lv_at hl 1 rfl) ?_
    refine gx_ialdn hx hb hK hS 31 (by omega) (by decide) p9 (by omega) (hln _) dX6_twist_27 ?_
    refine lv_goto (tgt := 32) hx hb dX6_twist_28 (by decide) ?_
    exact kret _ iv _ _ _ _ dX6_twist_32 (⟨by first | rw [if_pos c_16] | rw [if_neg c_16], rfl⟩) hS
set_option maxRecDepth 100000 in
theorem ct_X6_twist (l : Launch) (D : va_G) (cA : Nat → ClassId) (o : Nat → Int64) (ad ln : Nat → Nat) (n sz : Nat) (iv : Nat → Nat → Int32) (p9 P : Nat) (hn : 68 ≤ n) (hln : ∀ k, ln k < 2 ^ 31) (hLn : lnOk ln P) (hP : P ≤ 8) (hP0 : iv 0 0 = nI P) (hp9 : p9 < P) (h01 : ∀ j, iv 26 j = 0 ∨ iv 26 j = 1) : gMi l yX6_twist wsX6_twist { frames := 1, cells := 0, slots := 0, locals := 21 } D cA o ad ln n sz iv [.ref (ad 0), .int (nI p9)] (fun (r : Int32) iv' => r = (if iv 26 p9 = 0 then (-1) else iv 31 p9) ∧ iv' = iv) := by
  refine Met.ofW (cc := cX6_twist) (maxL := 2) (ret := (some .int)) (by decide) rfl ?_
  intro p e s m args below meth c s₁ B hml hv__
  obtain ⟨rfl, hv__⟩ := hv__
  obtain ⟨hsz, hS, hK, hN, hA⟩ := gS.entry hv__
  have hl := lv_entry ([.ref (ad 0), .int (nI p9)]) (n := 2) (Nat.le_of_ble_eq_true rfl)
  rw [lg_entry_eq]
  generalize (lg_sl ([.ref (ad 0), .int (nI p9)]) ++ List.replicate (2 - (lg_sl ([.ref (ad 0), .int (nI p9)])).length) Slot.unset).toArray = ls at hl ⊢
  exact bd_X6_twist (p9 := p9) (P := P) ⟨B.exec, B.bytes, hml, findClass_of_methodNamed B.named, atoms_spec (ws := wsX6_twist) B.pre, B.returns, B.notSynchronized⟩ (Nat.le_refl _) (Nat.le_refl _) (Nat.le_refl _) (Nat.le_refl _) hK hN hA hn hln hLn hP hP0 hp9 h01 hS hl (fun r iv' H locs ls pc hd hp hS => gx_iret B.exec B.bytes B.returns B.notSynchronized hS hp hd)

theorem inX6_apply_RX6 : ∀ {w : Cond}, w ∈ u_ws RX6 TX6 15 → w ∈ wsX6_apply := fun {w} h => by first | exact List.mem_cons_of_mem _ (List.mem_append_right _ h) | (revert h; revert w; show ∀ w ∈ u_ws RX6 TX6 15, w ∈ wsX6_apply; decide +kernel)
set_option maxHeartbeats 1000000 in
set_option maxRecDepth 100000 in
theorem bd_X6_apply {p : Program} {l : Launch} {e : Env} {R : Room} {s : State} {m : MethodId} {args : Array Value} {below : List Frame} {meth : Method} {c : Code} {H : Heap} {locs : List Loc} {cells slots : Nat} {Q : State → Prop} {ls : Array Slot} {D : va_G} {A : Nat → Prop} {H0 : Heap} {cA : Nat → ClassId} {o : Nat → Int64} {ad ln : Nat → Nat} {iv : Nat → Nat → Int32} {n : Nat} {m9 P T mc9 : Nat} {G9 Ad : Nat → Nat}
    (F : gF p s m meth c cX6_apply 2 RX6 wsX6_apply args none) (hRf : 1 ≤ R.frames) (hRl : 23 ≤ R.locals) (hRc : cells ≤ R.cells) (hRs : slots ≤ R.slots) (hK : va_K D vwCl (gT cA) s) (hN : NW s) (hA : ∀ q, H0.size ≤ q → A q) (hn : 68 ≤ n) (hln : ∀ k, ln k < 2 ^ 31) (hLn : lnOk ln P) (hP : P ≤ 8) (hmc : iv 0 3 = nI mc9) (hmc6 : mc9 ≤ 6) (hm9 : m9 < mc9) (hT1 : 0 < T) (hT3 : T ≤ 3) (hmv : moveAt iv (2 + 3 * m9) P T G9 Ad) (hin9 : ∀ p, p < P → vp_in (iv 30 p) P)
    (hS : gS D cA A H0 o ad ln iv n H locs) (hl : lv_has ls 2 [(0, .ref (ad 0)), (1, .int (nI m9))])
    (kret : ∀ (iv' : Nat → Nat → Int32) (H : Heap) (locs : List Loc) (ls : Array Slot) (pc : Nat), decode cX6_apply pc = .ok (.return_, 1) → (follows iv iv' 29 (2 + 3 * m9) P) → gS D cA A H0 o ad ln iv' n H locs → W p l e R s m args below meth c H locs cells slots Q (F0 m pc ls [])) :
    W p l e R s m args below meth c H locs cells slots Q (F0 m 0 ls []) := by
  obtain ⟨hx, hb, hml, hown, hts, hr, hlocks⟩ := F
  obtain ⟨hL1, hL2, ⟨h26, h27, h28⟩, ⟨h30, h31, h33, h34, h36, h37⟩, h39, h40, h41⟩ := hLn
  obtain ⟨hg1, hg2⟩ := hL1 m9 (by omega)
  refine lv_iload_n hx hb dX6_apply_0 rfl (lv_at hl 1 rfl) ?_
  refine lv_aload_n hx hb dX6_apply_1 rfl (lv_at hl 0 rfl) ?_
  refine gx_get (ci := 9) (v := .int (iv 0 3)) (C := RX6) (T := TX6) (N := 15) hx hb hts (fun _ h => inX6_apply_RX6 h) hown hK hS 0 (by omega) rfl rfl 3 (by decide) (hts (.fieldLink RX6 90 "CosetTables" "moveCount" "I") (by decide +kernel)) rfl dX6_apply_2 ?_
  refine gx_as (y := nI mc9) hmc ?_
  refine gc_v (gx_runS (As := [.int (nI m9), .int (nI mc9)]) (rest := []) ⟨hx, hb, hml, hown, hts⟩ hK hN hS (ct_X6_requireIndex l D cA o ad ln n H.size iv (a := m9) (b := mc9) hn hln (by omega) (by omega)) (va_cwS 2 hts gX6_apply_X6_requireIndex rfl rfl rfl (by decide +kernel) ⟨gle hRf rfl, gle hRl rfl⟩) rfl rfl hl.1 rfl (lv_room (Nat.le_of_ble_eq_true rfl)) dX6_apply_5 ⟨hRc, hRs⟩) hS hA (fun iv1 H locs hp1 hS => ?_)
  rw [hp1] at hS
  skip
  refine lv_aload_n hx hb dX6_apply_8 rfl (lv_at hl 0 rfl) ?_
  refine gx_get (ci := 9) (v := .ref (ad 29)) (C := RX6) (T := TX6) (N := 15) hx hb hts (fun _ h => inX6_apply_RX6 h) hown hK hS 0 (by omega) rfl rfl 7 (by decide) (hts (.fieldLink RX6 51 "CosetTables" "now" "LCosetTables$State;") (by decide +kernel)) rfl dX6_apply_9 ?_
  refine lv_aload_n hx hb dX6_apply_12 rfl (lv_at hl 0 rfl) ?_
  refine gx_get (ci := 9) (v := .ref (ad 1)) (C := RX6) (T := TX6) (N := 15) hx hb hts (fun _ h => inX6_apply_RX6 h) hown hK hS 0 (by omega) rfl rfl 2 (by decide) (hts (.fieldLink RX6 27 "CosetTables" "moves" "[LCosetTables$Move;") (by decide +kernel)) rfl dX6_apply_13 ?_
  refine lv_iload_n hx hb dX6_apply_16 rfl (lv_at hl 1 rfl) ?_
  refine gx_ldmove hx hb hK hS (by omega) m9 (by omega) rfl dX6_apply_17 ?_
  refine gc_v (gx_runV (As := [.ref (ad (2 + 3 * m9))]) (rest := []) ⟨hx, hb, hml, hown, hts⟩ hK hN hS 29 (by omega) rfl rfl (ct_X3_follow l D cA o ad ln n H.size iv (b := 29) (v := 2 + 3 * m9) (P := P) hn hln (by decide) (isM_mv (by omega)) h30 h31 hg1 hg2 hP (by rw [hmv.1]; exact nI_ne0 hT1 (by omega)) hin9) (cwV 1 hts gX6_apply_X3_follow rfl rfl rfl (by decide +kernel) ⟨gle hRf rfl, gle hRl rfl⟩) rfl rfl hl.1 rfl (lv_room (Nat.le_of_ble_eq_true rfl)) dX6_apply_18 ⟨hRc, hRs⟩) hS hA (fun iv2 H locs hp2 hS => ?_)
  exact kret iv2 _ _ _ _ dX6_apply_21 (hp2) hS
set_option maxRecDepth 100000 in
theorem ct_X6_apply (l : Launch) (D : va_G) (cA : Nat → ClassId) (o : Nat → Int64) (ad ln : Nat → Nat) (n sz : Nat) (iv : Nat → Nat → Int32) (m9 P T mc9 : Nat) (G9 Ad : Nat → Nat) (hn : 68 ≤ n) (hln : ∀ k, ln k < 2 ^ 31) (hLn : lnOk ln P) (hP : P ≤ 8) (hmc : iv 0 3 = nI mc9) (hmc6 : mc9 ≤ 6) (hm9 : m9 < mc9) (hT1 : 0 < T) (hT3 : T ≤ 3) (hmv : moveAt iv (2 + 3 * m9) P T G9 Ad) (hin9 : ∀ p, p < P → vp_in (iv 30 p) P) : gMv l yX6_apply wsX6_apply { frames := 1, cells := 0, slots := 0, locals := 23 } D cA o ad ln n sz iv [.ref (ad 0), .int (nI m9)] (fun iv' => follows iv iv' 29 (2 + 3 * m9) P) := by
  refine Met.ofW (cc := cX6_apply) (maxL := 2) (ret := none) (by decide) rfl ?_
  intro p e s m args below meth c s₁ B hml hv__
  obtain ⟨rfl, hv__⟩ := hv__
  obtain ⟨hsz, hS, hK, hN, hA⟩ := gS.entry hv__
  have hl := lv_entry ([.ref (ad 0), .int (nI m9)]) (n := 2) (Nat.le_of_ble_eq_true rfl)
  rw [lg_entry_eq]
  generalize (lg_sl ([.ref (ad 0), .int (nI m9)]) ++ List.replicate (2 - (lg_sl ([.ref (ad 0), .int (nI m9)])).length) Slot.unset).toArray = ls at hl ⊢
  exact bd_X6_apply (m9 := m9) (P := P) (T := T) (mc9 := mc9) (G9 := G9) (Ad := Ad) ⟨B.exec, B.bytes, hml, findClass_of_methodNamed B.named, atoms_spec (ws := wsX6_apply) B.pre, B.returns, B.notSynchronized⟩ (Nat.le_refl _) (Nat.le_refl _) (Nat.le_refl _) (Nat.le_refl _) hK hN hA hn hln hLn hP hmc hmc6 hm9 hT1 hT3 hmv hin9 hS hl (fun iv' H locs ls pc hd hp hS => gx_vret B.exec B.bytes B.returns B.notSynchronized hS hp hd)

theorem inX6_packed_RX5 : ∀ {w : Cond}, w ∈ u_ws RX5 TX5 6 → w ∈ wsX6_packed := fun {w} h => by first | exact List.mem_cons_of_mem _ (List.mem_append_right _ h) | (revert h; revert w; show ∀ w ∈ u_ws RX5 TX5 6, w ∈ wsX6_packed; decide +kernel)
theorem inX6_packed_RX6 : ∀ {w : Cond}, w ∈ u_ws RX6 TX6 15 → w ∈ wsX6_packed := fun {w} h => by first | exact List.mem_cons_of_mem _ (List.mem_append_right _ h) | (revert h; revert w; show ∀ w ∈ u_ws RX6 TX6 15, w ∈ wsX6_packed; decide +kernel)
set_option maxHeartbeats 1000000 in
set_option maxRecDepth 100000 in
theorem bd_X6_packed {p : Program} {l : Launch} {e : Env} {R : Room} {s : State} {m : MethodId} {args : Array Value} {below : List Frame} {meth : Method} {c : Code} {H : Heap} {locs : List Loc} {cells slots : Nat} {Q : State → Prop} {ls : Array Slot} {D : va_G} {A : Nat → Prop} {H0 : Heap} {cA : Nat → ClassId} {o : Nat → Int64} {ad ln : Nat → Nat} {iv : Nat → Nat → Int32} {n : Nat} {bt S : Nat} {k9 : Int32}
    (F : gF p s m meth c cX6_packed 3 RX6 wsX6_packed args (some .long)) (hRf : 3 ≤ R.frames) (hRl : 72 ≤ R.locals) (hRc : cells ≤ R.cells) (hRs : slots ≤ R.slots) (hK : va_K D vwCl (gT cA) s) (hN : NW s) (hA : ∀ q, H0.size ≤ q → A q) (hn : 68 ≤ n) (hln : ∀ k, ln k < 2 ^ 31) (hbt : bt = 2 ∨ bt = 4) (hb9 : ¬ iv 46 0 = 0 → iv 46 2 = nI S ∧ 0 < S ∧ S ≤ 2 ^ 20 ∧ S ≤ ln 47)
    (hS : gS D cA A H0 o ad ln iv n H locs) (hl : lv_has ls 3 [(0, .ref (ad 0)), (1, .int (nI bt)), (2, .int k9)])
    (kret : ∀ (r : Int64) (iv' : Nat → Nat → Int32) (H : Heap) (locs : List Loc) (ls : Array Slot) (pc : Nat), decode cX6_packed pc = .ok (.lreturn, 1) → (r = (if iv 46 0 = 0 then 0 else if k9 < 0 ∨ nI ((S - 1) / (64 / bt)) < k9 then 0 else orl (entl bt (iv 47) (tn k9 * (64 / bt))) (min (64 / bt) (S - tn k9 * (64 / bt)))) ∧ iv' = iv) → gS D cA A H0 o ad ln iv' n H locs → W p l e R s m args below meth c H locs cells slots Q (F0 m pc ls [.long r])) :
    W p l e R s m args below meth c H locs cells slots Q (F0 m 0 ls []) := by
  obtain ⟨hx, hb, hml, hown, hts, hr, hlocks⟩ := F
  have J20 : ∀ (z9 : Nat), (z9 = 0) → ∀ (H : Heap) (locs : List Loc) (ls : Array Slot), gS D cA A H0 o ad ln iv n H locs → lv_has ls 3 [(0, .ref (ad 0)), (1, .int (nI bt)), (2, .int k9)] → W p l e R s m args below meth c H locs cells slots Q (F0 m 20 ls []) := by
    intro z9 hz9 H locs ls hS hl
    refine lv_aload_n hx hb dX6_packed_20 rfl (lv_at hl 0 rfl) ?_
    refine gx_get (ci := 9) (v := .ref (ad 46)) (C := RX6) (T := TX6) (N := 15) hx hb hts (fun _ h => inX6_packed_RX6 h) hown hK hS 0 (by omega) rfl rfl 13 (by decide) (hts (.fieldLink RX6 79 "CosetTables" "table" "LCosetTables$Table;") (by decide +kernel)) rfl dX6_packed_21 ?_
    refine gx_getN (ci := 8) (v := .int (iv 46 0)) (C := RX5) (T := TX5) (N := 6) hx hb hts (fun _ h => inX6_packed_RX5 h) hown hK hS 46 (by omega) rfl rfl 0 (by decide) (nf_RX6_184 hN) rfl dX6_packed_24 ?_
    refine lv_if_eq (tgt := 42) hx hb dX6_packed_27 (by decide) (fun c_27 => ?_) (fun c_27 => ?_)
    · skip
      refine lv_lconst (v := 0) hx hb dX6_packed_42 (by decide) ?_
      exact kret _ iv _ _ _ _ dX6_packed_43 (by first | exact ⟨by rw [if_pos c_27], rfl⟩ | (obtain ⟨e1, e2⟩ := hp2; exact ⟨by rw [if_neg c_27]; exact e1, e2⟩)) hS
    · skip
      obtain ⟨q1, q2, q3, q4⟩ := hb9 c_27
      refine lv_aload_n hx hb dX6_packed_30 rfl (lv_at hl 0 rfl) ?_
      refine gx_get (ci := 9) (v := .ref (ad 46)) (C := RX6) (T := TX6) (N := 15) hx hb hts (fun _ h => inX6_packed_RX6 h) hown hK hS 0 (by omega) rfl rfl 13 (by decide) (hts (.fieldLink RX6 79 "CosetTables" "table" "LCosetTables$Table;") (by decide +kernel)) rfl dX6_packed_31 ?_
      refine lv_iload_n hx hb dX6_packed_34 rfl (lv_at hl 1 rfl) ?_
      refine lv_iload_n hx hb dX6_packed_35 rfl (lv_at hl 2 rfl) ?_
      refine gc_l (gx_runV (As := [.int (nI bt), .int k9]) (rest := []) ⟨hx, hb, hml, hown, hts⟩ hK hN hS 46 (by omega) rfl rfl (ct_X5_word l D cA o ad ln n H.size iv (bt := bt) (S := S) (k9 := k9) hn hln hbt q1 q2 q3 q4) (cwV 2 hts gX6_packed_X5_word rfl rfl rfl (by decide +kernel) ⟨gle hRf rfl, gle hRl rfl⟩) rfl rfl hl.1 rfl (lv_room (Nat.le_of_ble_eq_true rfl)) dX6_packed_36 ⟨hRc, hRs⟩) hS hA (fun z iv2 H locs hp2 hS => ?_)
      refine lv_goto (tgt := 43) hx hb dX6_packed_39 (by decide) ?_
      exact kret _ iv2 _ _ _ _ dX6_packed_43 (by first | exact ⟨by rw [if_pos c_27], rfl⟩ | (obtain ⟨e1, e2⟩ := hp2; exact ⟨by rw [if_neg c_27]; exact e1, e2⟩)) hS
  refine lv_iload_n hx hb dX6_packed_0 rfl (lv_at hl 1 rfl) ?_
  refine lv_iconst (v := nI 2) hx hb dX6_packed_1 (by decide) ?_
  refine lv_icmp_eq (tgt := 20) hx hb dX6_packed_2 (by decide) (fun c_2 => ?_) (fun c_2 => ?_)
  · skip
    rw [nI_eq (by omega) (by omega)] at c_2
    exact J20 0 rfl _ _ _ hS (lv_sub hl [0, 1, 2] rfl)
  · skip
    rw [nI_eq (by omega) (by omega)] at c_2
    refine lv_iload_n hx hb dX6_packed_5 rfl (lv_at hl 1 rfl) ?_
    refine lv_iconst (v := nI 4) hx hb dX6_packed_6 (by decide) ?_
    refine lv_icmp_eq (tgt := 20) hx hb dX6_packed_7 (by decide) (fun c_7 => ?_) (fun c_7 => ?_)
    · skip
      rw [nI_eq (by omega) (by omega)] at c_7
      exact J20 0 rfl _ _ _ hS (lv_sub hl [0, 1, 2] rfl)
    · skip
      rw [nI_eq (by omega) (by omega)] at c_7
      omega
set_option maxRecDepth 100000 in
theorem ct_X6_packed (l : Launch) (D : va_G) (cA : Nat → ClassId) (o : Nat → Int64) (ad ln : Nat → Nat) (n sz : Nat) (iv : Nat → Nat → Int32) (bt S : Nat) (k9 : Int32) (hn : 68 ≤ n) (hln : ∀ k, ln k < 2 ^ 31) (hbt : bt = 2 ∨ bt = 4) (hb9 : ¬ iv 46 0 = 0 → iv 46 2 = nI S ∧ 0 < S ∧ S ≤ 2 ^ 20 ∧ S ≤ ln 47) : gMl l yX6_packed wsX6_packed { frames := 3, cells := 0, slots := 0, locals := 72 } D cA o ad ln n sz iv [.ref (ad 0), .int (nI bt), .int k9] (fun (r : Int64) iv' => r = (if iv 46 0 = 0 then 0 else if k9 < 0 ∨ nI ((S - 1) / (64 / bt)) < k9 then 0 else orl (entl bt (iv 47) (tn k9 * (64 / bt))) (min (64 / bt) (S - tn k9 * (64 / bt)))) ∧ iv' = iv) := by
  refine Met.ofW (cc := cX6_packed) (maxL := 3) (ret := (some .long)) (by decide) rfl ?_
  intro p e s m args below meth c s₁ B hml hv__
  obtain ⟨rfl, hv__⟩ := hv__
  obtain ⟨hsz, hS, hK, hN, hA⟩ := gS.entry hv__
  have hl := lv_entry ([.ref (ad 0), .int (nI bt), .int k9]) (n := 3) (Nat.le_of_ble_eq_true rfl)
  rw [lg_entry_eq]
  generalize (lg_sl ([.ref (ad 0), .int (nI bt), .int k9]) ++ List.replicate (3 - (lg_sl ([.ref (ad 0), .int (nI bt), .int k9])).length) Slot.unset).toArray = ls at hl ⊢
  exact bd_X6_packed (bt := bt) (S := S) (k9 := k9) ⟨B.exec, B.bytes, hml, findClass_of_methodNamed B.named, atoms_spec (ws := wsX6_packed) B.pre, B.returns, B.notSynchronized⟩ (Nat.le_refl _) (Nat.le_refl _) (Nat.le_refl _) (Nat.le_refl _) hK hN hA hn hln hbt hb9 hS hl (fun r iv' H locs ls pc hd hp hS => gx_lret B.exec B.bytes B.returns B.notSynchronized hS hp hd)

theorem inX6_turn_RX6 : ∀ {w : Cond}, w ∈ u_ws RX6 TX6 15 → w ∈ wsX6_turn := fun {w} h => by first | exact List.mem_cons_of_mem _ (List.mem_append_right _ h) | (revert h; revert w; show ∀ w ∈ u_ws RX6 TX6 15, w ∈ wsX6_turn; decide +kernel)
set_option maxHeartbeats 1000000 in
set_option maxRecDepth 100000 in
theorem bd_X6_turn {p : Program} {l : Launch} {e : Env} {R : Room} {s : State} {m : MethodId} {args : Array Value} {below : List Frame} {meth : Method} {c : Code} {H : Heap} {locs : List Loc} {cells slots : Nat} {Q : State → Prop} {ls : Array Slot} {D : va_G} {A : Nat → Prop} {H0 : Heap} {cA : Nat → ClassId} {o : Nat → Int64} {ad ln : Nat → Nat} {iv : Nat → Nat → Int32} {n : Nat} {s9 a b P sc9 : Nat}
    (F : gF p s m meth c cX6_turn 4 RX6 wsX6_turn args (some .boolean)) (hRf : 1 ≤ R.frames) (hRl : 23 ≤ R.locals) (hRc : cells ≤ R.cells) (hRs : slots ≤ R.slots) (hK : va_K D vwCl (gT cA) s) (hN : NW s) (hA : ∀ q, H0.size ≤ q → A q) (hn : 68 ≤ n) (hln : ∀ k, ln k < 2 ^ 31) (hLn : lnOk ln P) (hP : P ≤ 8) (hsc : iv 0 5 = nI sc9) (hsc4 : sc9 ≤ 4) (hs9 : s9 < sc9) (hP0 : iv 0 0 = nI P) (ha : a < P) (hb9 : b < P)
    (hS : gS D cA A H0 o ad ln iv n H locs) (hl : lv_has ls 4 [(0, .ref (ad 0)), (1, .int (nI s9)), (2, .int (nI a)), (3, .int (nI b))])
    (kret : ∀ (r : Int32) (iv' : Nat → Nat → Int32) (H : Heap) (locs : List Loc) (ls : Array Slot) (pc : Nat), decode cX6_turn pc = .ok (.ireturn, 1) → ((r = 0 ∨ r = 1) ∧ (if a = b then r = 0 ∧ iv' = iv else r = 1 ∧ iv' = up2 (up2 (up2 (iv) (21 + s9) a (iv (21 + s9) b)) (21 + s9) b (iv (21 + s9) a)) 49 0 0)) → gS D cA A H0 o ad ln iv' n H locs → W p l e R s m args below meth c H locs cells slots Q (F0 m pc ls [.int r])) :
    W p l e R s m args below meth c H locs cells slots Q (F0 m 0 ls []) := by
  obtain ⟨hx, hb, hml, hown, hts, hr, hlocks⟩ := F
  obtain ⟨hL1, hL2, ⟨h26, h27, h28⟩, ⟨h30, h31, h33, h34, h36, h37⟩, h39, h40, h41⟩ := hLn
  have hg1 := hL2 s9 (by omega)
  refine lv_iload_n hx hb dX6_turn_0 rfl (lv_at hl 1 rfl) ?_
  refine lv_aload_n hx hb dX6_turn_1 rfl (lv_at hl 0 rfl) ?_
  refine gx_get (ci := 9) (v := .int (iv 0 5)) (C := RX6) (T := TX6) (N := 15) hx hb hts (fun _ h => inX6_turn_RX6 h) hown hK hS 0 (by omega) rfl rfl 5 (by decide) (hts (.fieldLink RX6 200 "CosetTables" "symmetryCount" "I") (by decide +kernel)) rfl dX6_turn_2 ?_
  refine gx_as (y := nI sc9) hsc ?_
  refine gc_v (gx_runS (As := [.int (nI s9), .int (nI sc9)]) (rest := []) ⟨hx, hb, hml, hown, hts⟩ hK hN hS (ct_X6_requireIndex l D cA o ad ln n H.size iv (a := s9) (b := sc9) hn hln (by omega) (by omega)) (va_cwS 2 hts gX6_turn_X6_requireIndex rfl rfl rfl (by decide +kernel) ⟨gle hRf rfl, gle hRl rfl⟩) rfl rfl hl.1 rfl (lv_room (Nat.le_of_ble_eq_true rfl)) dX6_turn_5 ⟨hRc, hRs⟩) hS hA (fun iv1 H locs hp1 hS => ?_)
  rw [hp1] at hS
  skip
  refine lv_iload_n hx hb dX6_turn_8 rfl (lv_at hl 2 rfl) ?_
  refine lv_aload_n hx hb dX6_turn_9 rfl (lv_at hl 0 rfl) ?_
  refine gx_get (ci := 9) (v := .int (iv 0 0)) (C := RX6) (T := TX6) (N := 15) hx hb hts (fun _ h => inX6_turn_RX6 h) hown hK hS 0 (by omega) rfl rfl 0 (by decide) (hts (.fieldLink RX6 16 "CosetTables" "places" "I") (by decide +kernel)) rfl dX6_turn_10 ?_
  refine gx_as (y := nI P) hP0 ?_
  refine gc_v (gx_runS (As := [.int (nI a), .int (nI P)]) (rest := []) ⟨hx, hb, hml, hown, hts⟩ hK hN hS (ct_X6_requireIndex l D cA o ad ln n H.size iv (a := a) (b := P) hn hln (by omega) (by omega)) (va_cwS 2 hts gX6_turn_X6_requireIndex rfl rfl rfl (by decide +kernel) ⟨gle hRf rfl, gle hRl rfl⟩) rfl rfl hl.1 rfl (lv_room (Nat.le_of_ble_eq_true rfl)) dX6_turn_13 ⟨hRc, hRs⟩) hS hA (fun iv2 H locs hp2 hS => ?_)
  rw [hp2] at hS
  skip
  refine lv_iload_n hx hb dX6_turn_16 rfl (lv_at hl 3 rfl) ?_
  refine lv_aload_n hx hb dX6_turn_17 rfl (lv_at hl 0 rfl) ?_
  refine gx_get (ci := 9) (v := .int (iv 0 0)) (C := RX6) (T := TX6) (N := 15) hx hb hts (fun _ h => inX6_turn_RX6 h) hown hK hS 0 (by omega) rfl rfl 0 (by decide) (hts (.fieldLink RX6 16 "CosetTables" "places" "I") (by decide +kernel)) rfl dX6_turn_18 ?_
  refine gx_as (y := nI P) hP0 ?_
  refine gc_v (gx_runS (As := [.int (nI b), .int (nI P)]) (rest := []) ⟨hx, hb, hml, hown, hts⟩ hK hN hS (ct_X6_requireIndex l D cA o ad ln n H.size iv (a := b) (b := P) hn hln (by omega) (by omega)) (va_cwS 2 hts gX6_turn_X6_requireIndex rfl rfl rfl (by decide +kernel) ⟨gle hRf rfl, gle hRl rfl⟩) rfl rfl hl.1 rfl (lv_room (Nat.le_of_ble_eq_true rfl)) dX6_turn_21 ⟨hRc, hRs⟩) hS hA (fun iv3 H locs hp3 hS => ?_)
  rw [hp3] at hS
  skip
  refine lv_iload_n hx hb dX6_turn_24 rfl (lv_at hl 2 rfl) ?_
  refine lv_iload_n hx hb dX6_turn_25 rfl (lv_at hl 3 rfl) ?_
  refine lv_icmp_ne (tgt := 31) hx hb dX6_turn_26 (by decide) (fun c_26 => ?_) (fun c_26 => ?_)
  · skip
    rw [nI_eq (by omega) (by omega)] at c_26
    refine lv_aload_n hx hb dX6_turn_31 rfl (lv_at hl 0 rfl) ?_
    refine gx_get (ci := 9) (v := .ref (ad 20)) (C := RX6) (T := TX6) (N := 15) hx hb hts (fun _ h => inX6_turn_RX6 h) hown hK hS 0 (by omega) rfl rfl 4 (by decide) (hts (.fieldLink RX6 36 "CosetTables" "symmetries" "[[I") (by decide +kernel)) rfl dX6_turn_32 ?_
    refine lv_iload_n hx hb dX6_turn_35 rfl (lv_at hl 1 rfl) ?_
    refine gx_ldsym hx hb hK hS (by omega) s9 (by omega) rfl dX6_turn_36 ?_
    refine lv_iload_n hx hb dX6_turn_37 rfl (lv_at hl 2 rfl) ?_
    refine lv_iload_n hx hb dX6_turn_38 rfl (lv_at hl 3 rfl) ?_
    refine gc_v (gx_runS (As := [.ref (ad (21 + s9)), .int (nI a), .int (nI b)]) (rest := []) ⟨hx, hb, hml, hown, hts⟩ hK hN hS (ct_X6_swap l D cA o ad ln n H.size iv (k := 21 + s9) (a := a) (b := b) trivial hln (by omega) (isI_sy (by omega)) (by omega) (by omega) c_26) (va_cwS 3 hts gX6_turn_X6_swap rfl rfl rfl (by decide +kernel) ⟨gle hRf rfl, gle hRl rfl⟩) rfl rfl hl.1 rfl (lv_room (Nat.le_of_ble_eq_true rfl)) dX6_turn_39 ⟨hRc, hRs⟩) hS hA (fun iv4 H locs hp4 hS => ?_)
    refine lv_aload_n hx hb dX6_turn_42 rfl (lv_at hl 0 rfl) ?_
    refine gx_get (ci := 9) (v := .ref (ad 49)) (C := RX6) (T := TX6) (N := 15) hx hb hts (fun _ h => inX6_turn_RX6 h) hown hK hS 0 (by omega) rfl rfl 14 (by decide) (hts (.fieldLink RX6 86 "CosetTables" "orbits" "LCosetTables$Orbits;") (by decide +kernel)) rfl dX6_turn_43 ?_
    refine gc_v (gx_runV (As := []) (rest := []) ⟨hx, hb, hml, hown, hts⟩ hK hN hS 49 (by omega) rfl rfl (ct_X2_forget l D cA o ad ln n H.size iv4 hn hln) (cwV 0 hts gX6_turn_X2_forget rfl rfl rfl (by decide +kernel) ⟨gle hRf rfl, gle hRl rfl⟩) rfl rfl hl.1 rfl (lv_room (Nat.le_of_ble_eq_true rfl)) dX6_turn_46 ⟨hRc, hRs⟩) hS hA (fun iv5 H locs hp5 hS => ?_)
    refine lv_iconst (v := nI 1) hx hb dX6_turn_49 (by decide) ?_
    exact kret _ iv5 _ _ _ _ dX6_turn_50 (⟨Or.inr rfl, by rw [if_neg c_26, hp5, hp4]; exact ⟨rfl, rfl⟩⟩) hS
  · skip
    rw [nI_eq (by omega) (by omega)] at c_26
    refine lv_iconst (v := nI 0) hx hb dX6_turn_29 (by decide) ?_
    exact kret _ iv _ _ _ _ dX6_turn_30 (⟨Or.inl rfl, by rw [if_pos c_26]; exact ⟨rfl, rfl⟩⟩) hS
set_option maxRecDepth 100000 in
theorem ct_X6_turn (l : Launch) (D : va_G) (cA : Nat → ClassId) (o : Nat → Int64) (ad ln : Nat → Nat) (n sz : Nat) (iv : Nat → Nat → Int32) (s9 a b P sc9 : Nat) (hn : 68 ≤ n) (hln : ∀ k, ln k < 2 ^ 31) (hLn : lnOk ln P) (hP : P ≤ 8) (hsc : iv 0 5 = nI sc9) (hsc4 : sc9 ≤ 4) (hs9 : s9 < sc9) (hP0 : iv 0 0 = nI P) (ha : a < P) (hb9 : b < P) : gMi l yX6_turn wsX6_turn { frames := 1, cells := 0, slots := 0, locals := 23 } D cA o ad ln n sz iv [.ref (ad 0), .int (nI s9), .int (nI a), .int (nI b)] (fun (r : Int32) iv' => (r = 0 ∨ r = 1) ∧ (if a = b then r = 0 ∧ iv' = iv else r = 1 ∧ iv' = up2 (up2 (up2 (iv) (21 + s9) a (iv (21 + s9) b)) (21 + s9) b (iv (21 + s9) a)) 49 0 0)) := by
  refine Met.ofW (cc := cX6_turn) (maxL := 4) (ret := (some .boolean)) (by decide) rfl ?_
  intro p e s m args below meth c s₁ B hml hv__
  obtain ⟨rfl, hv__⟩ := hv__
  obtain ⟨hsz, hS, hK, hN, hA⟩ := gS.entry hv__
  have hl := lv_entry ([.ref (ad 0), .int (nI s9), .int (nI a), .int (nI b)]) (n := 4) (Nat.le_of_ble_eq_true rfl)
  rw [lg_entry_eq]
  generalize (lg_sl ([.ref (ad 0), .int (nI s9), .int (nI a), .int (nI b)]) ++ List.replicate (4 - (lg_sl ([.ref (ad 0), .int (nI s9), .int (nI a), .int (nI b)])).length) Slot.unset).toArray = ls at hl ⊢
  exact bd_X6_turn (s9 := s9) (a := a) (b := b) (P := P) (sc9 := sc9) ⟨B.exec, B.bytes, hml, findClass_of_methodNamed B.named, atoms_spec (ws := wsX6_turn) B.pre, B.returns, B.notSynchronized⟩ (Nat.le_refl _) (Nat.le_refl _) (Nat.le_refl _) (Nat.le_refl _) hK hN hA hn hln hLn hP hsc hsc4 hs9 hP0 ha hb9 hS hl (fun r iv' H locs ls pc hd hp hS => gx_zret B.exec B.bytes B.returns B.notSynchronized (hp.1) hS hp hd)

theorem inX6_good_RX6 : ∀ {w : Cond}, w ∈ u_ws RX6 TX6 15 → w ∈ wsX6_good := fun {w} h => by first | exact List.mem_cons_of_mem _ (List.mem_append_right _ h) | (revert h; revert w; show ∀ w ∈ u_ws RX6 TX6 15, w ∈ wsX6_good; decide +kernel)
set_option maxHeartbeats 1000000 in
set_option maxRecDepth 100000 in
theorem bd_X6_good {p : Program} {l : Launch} {e : Env} {R : Room} {s : State} {m : MethodId} {args : Array Value} {below : List Frame} {meth : Method} {c : Code} {H : Heap} {locs : List Loc} {cells slots : Nat} {Q : State → Prop} {ls : Array Slot} {D : va_G} {A : Nat → Prop} {H0 : Heap} {cA : Nat → ClassId} {o : Nat → Int64} {ad ln : Nat → Nat} {iv : Nat → Nat → Int32} {n : Nat} {s9 P mc9 sc9 : Nat}
    (F : gF p s m meth c cX6_good 2 RX6 wsX6_good args (some .boolean)) (hRf : 3 ≤ R.frames) (hRl : 69 ≤ R.locals) (hRc : cells ≤ R.cells) (hRs : slots ≤ R.slots) (hK : va_K D vwCl (gT cA) s) (hN : NW s) (hA : ∀ q, H0.size ≤ q → A q) (hn : 68 ≤ n) (hln : ∀ k, ln k < 2 ^ 31) (hLn : lnOk ln P) (hP : P ≤ 8) (hsc : iv 0 5 = nI sc9) (hsc4 : sc9 ≤ 4) (hs9 : s9 < sc9) (hP0 : iv 0 0 = nI P) (hmc : iv 0 3 = nI mc9) (hmc6 : mc9 ≤ 6) (hgo : ∀ j, j < 6 → ∀ p, p < P → vp_in (iv (2 + 3 * j + 1) p) P) (hsy : ∀ p, p < P → vp_in (iv (21 + s9) p) P) (h01 : ∀ j, iv 26 j = 0 ∨ iv 26 j = 1)
    (hS : gS D cA A H0 o ad ln iv n H locs) (hl : lv_has ls 2 [(0, .ref (ad 0)), (1, .int (nI s9))])
    (kret : ∀ (r : Int32) (iv' : Nat → Nat → Int32) (H : Heap) (locs : List Loc) (ls : Array Slot) (pc : Nat), decode cX6_good pc = .ok (.ireturn, 1) → ((r = 0 ∨ r = 1) ∧ (r = 1 ↔ goodAt iv P mc9 (21 + s9)) ∧ iv' = iv) → gS D cA A H0 o ad ln iv' n H locs → W p l e R s m args below meth c H locs cells slots Q (F0 m pc ls [.int r])) :
    W p l e R s m args below meth c H locs cells slots Q (F0 m 0 ls []) := by
  obtain ⟨hx, hb, hml, hown, hts, hr, hlocks⟩ := F
  refine lv_iload_n hx hb dX6_good_0 rfl (lv_at hl 1 rfl) ?_
  refine lv_aload_n hx hb dX6_good_1 rfl (lv_at hl 0 rfl) ?_
  refine gx_get (ci := 9) (v := .int (iv 0 5)) (C := RX6) (T := TX6) (N := 15) hx hb hts (fun _ h => inX6_good_RX6 h) hown hK hS 0 (by omega) rfl rfl 5 (by decide) (hts (.fieldLink RX6 200 "CosetTables" "symmetryCount" "I") (by decide +kernel)) rfl dX6_good_2 ?_
  refine gx_as (y := nI sc9) hsc ?_
  refine gc_v (gx_runS (As := [.int (nI s9), .int (nI sc9)]) (rest := []) ⟨hx, hb, hml, hown, hts⟩ hK hN hS (ct_X6_requireIndex l D cA o ad ln n H.size iv (a := s9) (b := sc9) hn hln (by omega) (by omega)) (va_cwS 2 hts gX6_good_X6_requireIndex rfl rfl rfl (by decide +kernel) ⟨gle hRf rfl, gle hRl rfl⟩) rfl rfl hl.1 rfl (lv_room (Nat.le_of_ble_eq_true rfl)) dX6_good_5 ⟨hRc, hRs⟩) hS hA (fun iv1 H locs hp1 hS => ?_)
  rw [hp1] at hS
  skip
  refine lv_aload_n hx hb dX6_good_8 rfl (lv_at hl 0 rfl) ?_
  refine lv_aload_n hx hb dX6_good_9 rfl (lv_at hl 0 rfl) ?_
  refine gx_get (ci := 9) (v := .ref (ad 20)) (C := RX6) (T := TX6) (N := 15) hx hb hts (fun _ h => inX6_good_RX6 h) hown hK hS 0 (by omega) rfl rfl 4 (by decide) (hts (.fieldLink RX6 36 "CosetTables" "symmetries" "[[I") (by decide +kernel)) rfl dX6_good_10 ?_
  refine lv_iload_n hx hb dX6_good_13 rfl (lv_at hl 1 rfl) ?_
  refine gx_ldsym hx hb hK hS (by omega) s9 (by omega) rfl dX6_good_14 ?_
  refine gc_i (gx_runV (As := [.ref (ad (21 + s9))]) (rest := []) ⟨hx, hb, hml, hown, hts⟩ hK hN hS 0 (by omega) rfl rfl (ct_X6_isGood l D cA o ad ln n H.size iv (k := 21 + s9) (P := P) (mc9 := mc9) hn hln hLn hP hP0 hmc hmc6 (by omega) hgo hsy h01) (cwV 1 hts gX6_good_X6_isGood rfl rfl rfl (by decide +kernel) ⟨gle hRf rfl, gle hRl rfl⟩) rfl rfl hl.1 rfl (lv_room (Nat.le_of_ble_eq_true rfl)) dX6_good_15 ⟨hRc, hRs⟩) hS hA (fun y iv2 H locs hp2 hS => ?_)
  exact kret _ iv2 _ _ _ _ dX6_good_18 (hp2) hS
set_option maxRecDepth 100000 in
theorem ct_X6_good (l : Launch) (D : va_G) (cA : Nat → ClassId) (o : Nat → Int64) (ad ln : Nat → Nat) (n sz : Nat) (iv : Nat → Nat → Int32) (s9 P mc9 sc9 : Nat) (hn : 68 ≤ n) (hln : ∀ k, ln k < 2 ^ 31) (hLn : lnOk ln P) (hP : P ≤ 8) (hsc : iv 0 5 = nI sc9) (hsc4 : sc9 ≤ 4) (hs9 : s9 < sc9) (hP0 : iv 0 0 = nI P) (hmc : iv 0 3 = nI mc9) (hmc6 : mc9 ≤ 6) (hgo : ∀ j, j < 6 → ∀ p, p < P → vp_in (iv (2 + 3 * j + 1) p) P) (hsy : ∀ p, p < P → vp_in (iv (21 + s9) p) P) (h01 : ∀ j, iv 26 j = 0 ∨ iv 26 j = 1) : gMi l yX6_good wsX6_good { frames := 3, cells := 0, slots := 0, locals := 69 } D cA o ad ln n sz iv [.ref (ad 0), .int (nI s9)] (fun (r : Int32) iv' => (r = 0 ∨ r = 1) ∧ (r = 1 ↔ goodAt iv P mc9 (21 + s9)) ∧ iv' = iv) := by
  refine Met.ofW (cc := cX6_good) (maxL := 2) (ret := (some .boolean)) (by decide) rfl ?_
  intro p e s m args below meth c s₁ B hml hv__
  obtain ⟨rfl, hv__⟩ := hv__
  obtain ⟨hsz, hS, hK, hN, hA⟩ := gS.entry hv__
  have hl := lv_entry ([.ref (ad 0), .int (nI s9)]) (n := 2) (Nat.le_of_ble_eq_true rfl)
  rw [lg_entry_eq]
  generalize (lg_sl ([.ref (ad 0), .int (nI s9)]) ++ List.replicate (2 - (lg_sl ([.ref (ad 0), .int (nI s9)])).length) Slot.unset).toArray = ls at hl ⊢
  exact bd_X6_good (s9 := s9) (P := P) (mc9 := mc9) (sc9 := sc9) ⟨B.exec, B.bytes, hml, findClass_of_methodNamed B.named, atoms_spec (ws := wsX6_good) B.pre, B.returns, B.notSynchronized⟩ (Nat.le_refl _) (Nat.le_refl _) (Nat.le_refl _) (Nat.le_refl _) hK hN hA hn hln hLn hP hsc hsc4 hs9 hP0 hmc hmc6 hgo hsy h01 hS hl (fun r iv' H locs ls pc hd hp hS => gx_zret B.exec B.bytes B.returns B.notSynchronized (hp.1) hS hp hd)
