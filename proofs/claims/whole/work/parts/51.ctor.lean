theorem inX0_init_RX0 : ∀ {w : Cond}, w ∈ u_ws RX0 TX0 3 → w ∈ wsX0_init := fun {w} h => by first | exact List.mem_cons_of_mem _ (List.mem_append_right _ h) | (revert h; revert w; show ∀ w ∈ u_ws RX0 TX0 3, w ∈ wsX0_init; decide +kernel)
set_option maxHeartbeats 4000000 in
set_option maxRecDepth 100000 in
theorem cc_X0_init (l : Launch) (D : va_G) (cA : Nat → ClassId) (sz a : Nat) (P T : Nat) (hPb : P ≤ 8) : Met l yX0_init wsX0_init { frames := 4, cells := 2, slots := P + P, locals := 100 } (va_Pc [.ref a, .int (nI P), .int (nI T)] (cPre D cA [(a, .inr (3, [.int 0, .null, .null]))] sz)) (va_Qv (fun _ : Nat → Nat => True) (cAt D (va_A [(a, .inr (3, [.int 0, .null, .null]))] sz) (fun u => [(a, .inr (3, [.int (nI T), .ref (u 0), .ref (u 1)])), (u 0, eD cA P), (u 1, eI cA P)])) (va_A [(a, .inr (3, [.int 0, .null, .null]))] sz)) 2 (P + P) (va_A [(a, .inr (3, [.int 0, .null, .null]))] sz) := by
  refine Met.ofW (cc := cX0_init) (maxL := 3) (ret := none) (by decide) rfl ?_
  intro p e s m args below meth c s₁ B hml hv
  obtain ⟨rfl, hsz, hP, hK, hD0, hN⟩ := hv
  have hx := B.exec
  have hb := B.bytes
  have hr := B.returns
  have hts := atoms_spec (ws := wsX0_init) B.pre
  have hown : s.vm.findClass RX0 = some m.cls := findClass_of_methodNamed B.named
  have hini : meth.name = "<init>" := (name_of_methodNamed B.named B.method).1
  subst hsz
  have hD := hD0.self (sz := s.heap.size)
  generalize hAe : va_A [(a, .inr (3, [.int 0, .null, .null]))] s.heap.size = A at hD ⊢
  have hA : ∀ q : Nat, s.heap.size ≤ q → A q := fun q h => by rw [← hAe]; exact Or.inr h
  have hS : va_S A s.heap s.heap [] := va_S.rf
  have hRf : 4 ≤ (headSpec wsX0_init { frames := 4, cells := 2, slots := P + P, locals := 100 }).room.frames := Nat.le_refl _
  have hRl : 100 ≤ (headSpec wsX0_init { frames := 4, cells := 2, slots := P + P, locals := 100 }).room.locals := Nat.le_refl _
  have hRc : 2 ≤ (headSpec wsX0_init { frames := 4, cells := 2, slots := P + P, locals := 100 }).room.cells := Nat.le_refl _
  have hRs : P + P ≤ (headSpec wsX0_init { frames := 4, cells := 2, slots := P + P, locals := 100 }).room.slots := Nat.le_refl _
  have hl := lv_entry ([.ref a, .int (nI P), .int (nI T)]) (n := 3) (Nat.le_of_ble_eq_true rfl)
  rw [lg_entry_eq]
  generalize (lg_sl ([.ref a, .int (nI P), .int (nI T)]) ++ List.replicate (3 - (lg_sl ([.ref a, .int (nI P), .int (nI T)])).length) Slot.unset).toArray = ls at hl ⊢
  have hl : lv_has ls 3 [(0, .ref a), (1, .int (nI P)), (2, .int (nI T))] := hl
  refine lv_aload_n hx hb dX0_init_0 rfl (lv_at hl 0 rfl) ?_
  refine W.objInit hx hb hown (hts (.methodLink RX0 1 objectInit) (by decide +kernel)) (hts (.instanceMethod objectInit) (by decide +kernel)) (hts (.code objectInit ⟨#[0xb1]⟩ 1 none) (by decide +kernel)) rfl (by rw [hml]; exact hl.1) rfl dX0_init_1 (gle hRf rfl) (gle hRl rfl) ?_
  refine W.eq (g2 := F0 m 4 ls []) rfl ?_
  refine lv_aload_n hx hb dX0_init_4 rfl (lv_at hl 0 rfl) ?_
  refine lv_iload_n hx hb dX0_init_5 rfl (lv_at hl 2 rfl) ?_
  refine va_putF (D := D) (ci := 3) (v := .int (nI T)) (ty := .int) (C := RX0) (T := TX0) (N := 3) hx hb hts (fun _ h => inX0_init_RX0 h) tyX0 tyX0_ok nmX0 hown hK hP hD hS 0 rfl rfl 0 (by decide) (hts (.fieldLink RX0 7 "CosetTables$Move" "twists" "I") (by decide +kernel)) (fun _ h9 => h9) rfl hini rfl (by decide +kernel) rfl rfl (Nat.le_of_ble_eq_true rfl) dX0_init_6 (fun H locs hP hD hS => ?_)
  have hP : va_P D vwCl [(a, .inr (3, [.int (nI T), .null, .null]))] H := hP
  have hD : va_D A [(a, .inr (3, [.int (nI T), .null, .null]))] := hD
  refine lv_aload_n hx hb dX0_init_9 rfl (lv_at hl 0 rfl) ?_
  refine lv_iload_n hx hb dX0_init_10 rfl (lv_at hl 1 rfl) ?_
  have hFc := va_free (wc := []) hD hS hA [] rfl
  refine va_callr (va_runSN (As := [.int (nI P)]) (rest := [.ref a]) ⟨hx, hb, hml, hown, hts⟩ (cc_rowThatLeavesAll l D cA _ P (by omega)) ⟨va_cnB 1 hts gX0_init_X6_rowThatLeavesAll_n13 rfl rfl rfl (nf_RX0_13 hN) (hts (.initialized RX6) (by decide +kernel)) (by decide +kernel) ⟨gle hRf rfl, gle hRl rfl⟩, hts (.static yX6_rowThatLeavesAll) (by decide +kernel), trivial⟩ ⟨cPre_blind, fun U hU hW => ⟨rfl, cPre_of (ws := []) (fun k q hk => by simp at hk) (hD.sub (ws' := []) [] (by decide) rfl) hK hN hU hW⟩⟩ rfl rfl hl.1 rfl (lv_room (Nat.le_of_ble_eq_true rfl)) dX0_init_11 ⟨by omega, by omega⟩) hS (fun q9 _ h => hFc q9 h) hFc (fun u q1 t H1 locs1 ht hvm hw hB hz hk1 hS => ?_)
  obtain ⟨hP1, hD1⟩ := hB
  rw [ht] at hP1
  obtain ⟨hP, hD⟩ := va_join (wr := [(a, .inr (3, [.int (nI T), .null, .null]))]) (w1 := [(q1, eD cA P)]) hP hD [] [0] rfl rfl (by decide) (by decide) hk1 hFc hP1 hD1
  generalize H1 = H at hP hS ⊢
  have hP : va_P D vwCl [(a, .inr (3, [.int (nI T), .null, .null])), (q1, eD cA P)] H := hP
  have hD : va_D A [(a, .inr (3, [.int (nI T), .null, .null])), (q1, eD cA P)] := hD
  refine va_putF (D := D) (ci := 3) (v := .ref q1) (ty := (.array .int)) (C := RX0) (T := TX0) (N := 3) hx hb hts (fun _ h => inX0_init_RX0 h) tyX0 tyX0_ok nmX0 hown hK hP hD hS 0 rfl rfl 1 (by decide) (hts (.fieldLink RX0 19 "CosetTables$Move" "goal" "[I") (by decide +kernel)) (fun _ h9 => h9) rfl hini rfl (by decide +kernel) rfl rfl (Nat.le_of_ble_eq_true rfl) dX0_init_14 (fun H locs hP hD hS => ?_)
  have hP : va_P D vwCl [(a, .inr (3, [.int (nI T), .ref q1, .null])), (q1, eD cA P)] H := hP
  have hD : va_D A [(a, .inr (3, [.int (nI T), .ref q1, .null])), (q1, eD cA P)] := hD
  refine lv_aload_n hx hb dX0_init_17 rfl (lv_at hl 0 rfl) ?_
  refine lv_iload_n hx hb dX0_init_18 rfl (lv_at hl 1 rfl) ?_
  refine cy_newI (N := P) hx hb (hts (.arrayClass .int) (by decide +kernel)) hK hP hD hS hA (by omega) (by omega) (by omega) dX0_init_19 (fun q2 H hP hD hS => ?_)
  have hP : va_P D vwCl [(a, .inr (3, [.int (nI T), .ref q1, .null])), (q1, eD cA P), (q2, eI cA P)] H := hP
  have hD : va_D A [(a, .inr (3, [.int (nI T), .ref q1, .null])), (q1, eD cA P), (q2, eI cA P)] := hD
  refine va_putF (D := D) (ci := 3) (v := .ref q2) (ty := (.array .int)) (C := RX0) (T := TX0) (N := 3) hx hb hts (fun _ h => inX0_init_RX0 h) tyX0 tyX0_ok nmX0 hown hK hP hD hS 0 rfl rfl 2 (by decide) (hts (.fieldLink RX0 23 "CosetTables$Move" "added" "[I") (by decide +kernel)) (fun _ h9 => h9) rfl hini rfl (by decide +kernel) rfl rfl (Nat.le_of_ble_eq_true rfl) dX0_init_21 (fun H locs hP hD hS => ?_)
  have hP : va_P D vwCl [(a, .inr (3, [.int (nI T), .ref q1, .ref q2])), (q1, eD cA P), (q2, eI cA P)] H := hP
  have hD : va_D A [(a, .inr (3, [.int (nI T), .ref q1, .ref q2])), (q1, eD cA P), (q2, eI cA P)] := hD
  refine W.widen (k := 2) (n := P + P) (by omega) (by omega) ?_
  exact W.vret hx hb hr (fun t ht hW => ⟨⟨fun i => if i = 0 then q1 else q2, rfl, trivial, by unfold cAt; rw [ht]; exact ⟨hP, hD⟩⟩, hS.F ht⟩) hS.2.2 dX0_init_24

theorem inX3_init_RX3 : ∀ {w : Cond}, w ∈ u_ws RX3 TX3 2 → w ∈ wsX3_init := fun {w} h => by first | exact List.mem_cons_of_mem _ (List.mem_append_right _ h) | (revert h; revert w; show ∀ w ∈ u_ws RX3 TX3 2, w ∈ wsX3_init; decide +kernel)
set_option maxHeartbeats 4000000 in
set_option maxRecDepth 100000 in
theorem cc_X3_init (l : Launch) (D : va_G) (cA : Nat → ClassId) (sz a : Nat) (P : Nat) (hPb : P ≤ 8) : Met l yX3_init wsX3_init { frames := 4, cells := 2, slots := P + P, locals := 100 } (va_Pc [.ref a, .int (nI P)] (cPre D cA [(a, .inr (6, [.null, .null]))] sz)) (va_Qv (fun _ : Nat → Nat => True) (cAt D (va_A [(a, .inr (6, [.null, .null]))] sz) (fun u => [(a, .inr (6, [.ref (u 0), .ref (u 1)])), (u 0, eD cA P), (u 1, eI cA P)])) (va_A [(a, .inr (6, [.null, .null]))] sz)) 2 (P + P) (va_A [(a, .inr (6, [.null, .null]))] sz) := by
  refine Met.ofW (cc := cX3_init) (maxL := 2) (ret := none) (by decide) rfl ?_
  intro p e s m args below meth c s₁ B hml hv
  obtain ⟨rfl, hsz, hP, hK, hD0, hN⟩ := hv
  have hx := B.exec
  have hb := B.bytes
  have hr := B.returns
  have hts := atoms_spec (ws := wsX3_init) B.pre
  have hown : s.vm.findClass RX3 = some m.cls := findClass_of_methodNamed B.named
  have hini : meth.name = "<init>" := (name_of_methodNamed B.named B.method).1
  subst hsz
  have hD := hD0.self (sz := s.heap.size)
  generalize hAe : va_A [(a, .inr (6, [.null, .null]))] s.heap.size = A at hD ⊢
  have hA : ∀ q : Nat, s.heap.size ≤ q → A q := fun q h => by rw [← hAe]; exact Or.inr h
  have hS : va_S A s.heap s.heap [] := va_S.rf
  have hRf : 4 ≤ (headSpec wsX3_init { frames := 4, cells := 2, slots := P + P, locals := 100 }).room.frames := Nat.le_refl _
  have hRl : 100 ≤ (headSpec wsX3_init { frames := 4, cells := 2, slots := P + P, locals := 100 }).room.locals := Nat.le_refl _
  have hRc : 2 ≤ (headSpec wsX3_init { frames := 4, cells := 2, slots := P + P, locals := 100 }).room.cells := Nat.le_refl _
  have hRs : P + P ≤ (headSpec wsX3_init { frames := 4, cells := 2, slots := P + P, locals := 100 }).room.slots := Nat.le_refl _
  have hl := lv_entry ([.ref a, .int (nI P)]) (n := 2) (Nat.le_of_ble_eq_true rfl)
  rw [lg_entry_eq]
  generalize (lg_sl ([.ref a, .int (nI P)]) ++ List.replicate (2 - (lg_sl ([.ref a, .int (nI P)])).length) Slot.unset).toArray = ls at hl ⊢
  have hl : lv_has ls 2 [(0, .ref a), (1, .int (nI P))] := hl
  refine lv_aload_n hx hb dX3_init_0 rfl (lv_at hl 0 rfl) ?_
  refine W.objInit hx hb hown (hts (.methodLink RX3 1 objectInit) (by decide +kernel)) (hts (.instanceMethod objectInit) (by decide +kernel)) (hts (.code objectInit ⟨#[0xb1]⟩ 1 none) (by decide +kernel)) rfl (by rw [hml]; exact hl.1) rfl dX3_init_1 (gle hRf rfl) (gle hRl rfl) ?_
  refine W.eq (g2 := F0 m 4 ls []) rfl ?_
  refine lv_aload_n hx hb dX3_init_4 rfl (lv_at hl 0 rfl) ?_
  refine lv_iload_n hx hb dX3_init_5 rfl (lv_at hl 1 rfl) ?_
  have hFc := va_free (wc := []) hD hS hA [] rfl
  refine va_callr (va_runSN (As := [.int (nI P)]) (rest := [.ref a]) ⟨hx, hb, hml, hown, hts⟩ (cc_rowThatLeavesAll l D cA _ P (by omega)) ⟨va_cnB 1 hts gX3_init_X6_rowThatLeavesAll_n7 rfl rfl rfl (nf_RX3_7 hN) (hts (.initialized RX6) (by decide +kernel)) (by decide +kernel) ⟨gle hRf rfl, gle hRl rfl⟩, hts (.static yX6_rowThatLeavesAll) (by decide +kernel), trivial⟩ ⟨cPre_blind, fun U hU hW => ⟨rfl, cPre_of (ws := []) (fun k q hk => by simp at hk) (hD.sub (ws' := []) [] (by decide) rfl) hK hN hU hW⟩⟩ rfl rfl hl.1 rfl (lv_room (Nat.le_of_ble_eq_true rfl)) dX3_init_6 ⟨by omega, by omega⟩) hS (fun q9 _ h => hFc q9 h) hFc (fun u q1 t H1 locs1 ht hvm hw hB hz hk1 hS => ?_)
  obtain ⟨hP1, hD1⟩ := hB
  rw [ht] at hP1
  obtain ⟨hP, hD⟩ := va_join (wr := [(a, .inr (6, [.null, .null]))]) (w1 := [(q1, eD cA P)]) hP hD [] [0] rfl rfl (by decide) (by decide) hk1 hFc hP1 hD1
  generalize H1 = H at hP hS ⊢
  have hP : va_P D vwCl [(a, .inr (6, [.null, .null])), (q1, eD cA P)] H := hP
  have hD : va_D A [(a, .inr (6, [.null, .null])), (q1, eD cA P)] := hD
  refine va_putF (D := D) (ci := 6) (v := .ref q1) (ty := (.array .int)) (C := RX3) (T := TX3) (N := 2) hx hb hts (fun _ h => inX3_init_RX3 h) tyX3 tyX3_ok nmX3 hown hK hP hD hS 0 rfl rfl 0 (by decide) (hts (.fieldLink RX3 13 "CosetTables$State" "at" "[I") (by decide +kernel)) (fun _ h9 => h9) rfl hini rfl (by decide +kernel) rfl rfl (Nat.le_of_ble_eq_true rfl) dX3_init_9 (fun H locs hP hD hS => ?_)
  have hP : va_P D vwCl [(a, .inr (6, [.ref q1, .null])), (q1, eD cA P)] H := hP
  have hD : va_D A [(a, .inr (6, [.ref q1, .null])), (q1, eD cA P)] := hD
  refine lv_aload_n hx hb dX3_init_12 rfl (lv_at hl 0 rfl) ?_
  refine lv_iload_n hx hb dX3_init_13 rfl (lv_at hl 1 rfl) ?_
  refine cy_newI (N := P) hx hb (hts (.arrayClass .int) (by decide +kernel)) hK hP hD hS hA (by omega) (by omega) (by omega) dX3_init_14 (fun q2 H hP hD hS => ?_)
  have hP : va_P D vwCl [(a, .inr (6, [.ref q1, .null])), (q1, eD cA P), (q2, eI cA P)] H := hP
  have hD : va_D A [(a, .inr (6, [.ref q1, .null])), (q1, eD cA P), (q2, eI cA P)] := hD
  refine va_putF (D := D) (ci := 6) (v := .ref q2) (ty := (.array .int)) (C := RX3) (T := TX3) (N := 2) hx hb hts (fun _ h => inX3_init_RX3 h) tyX3 tyX3_ok nmX3 hown hK hP hD hS 0 rfl rfl 1 (by decide) (hts (.fieldLink RX3 19 "CosetTables$State" "turned" "[I") (by decide +kernel)) (fun _ h9 => h9) rfl hini rfl (by decide +kernel) rfl rfl (Nat.le_of_ble_eq_true rfl) dX3_init_16 (fun H locs hP hD hS => ?_)
  have hP : va_P D vwCl [(a, .inr (6, [.ref q1, .ref q2])), (q1, eD cA P), (q2, eI cA P)] H := hP
  have hD : va_D A [(a, .inr (6, [.ref q1, .ref q2])), (q1, eD cA P), (q2, eI cA P)] := hD
  refine W.widen (k := 2) (n := P + P) (by omega) (by omega) ?_
  exact W.vret hx hb hr (fun t ht hW => ⟨⟨fun i => if i = 0 then q1 else q2, rfl, trivial, by unfold cAt; rw [ht]; exact ⟨hP, hD⟩⟩, hS.F ht⟩) hS.2.2 dX3_init_19

theorem inX1_init_RX1 : ∀ {w : Cond}, w ∈ u_ws RX1 TX1 8 → w ∈ wsX1_init := fun {w} h => by first | exact List.mem_cons_of_mem _ (List.mem_append_right _ h) | (revert h; revert w; show ∀ w ∈ u_ws RX1 TX1 8, w ∈ wsX1_init; decide +kernel)
set_option maxHeartbeats 4000000 in
set_option maxRecDepth 100000 in
theorem cc_X1_init (l : Launch) (D : va_G) (cA : Nat → ClassId) (sz a : Nat) (P T : Nat) (hPb : P ≤ 8) : Met l yX1_init wsX1_init { frames := 4, cells := 3, slots := P + 8, locals := 100 } (va_Pc [.ref a, .int (nI P), .int (nI T)] (cPre D cA [(a, .inr (4, [.int 0, .int 0, .null, .null, .null, .int 0, .int 0, .int 0]))] sz)) (va_Qv (fun _ : Nat → Nat => True) (cAt D (va_A [(a, .inr (4, [.int 0, .int 0, .null, .null, .null, .int 0, .int 0, .int 0]))] sz) (fun u => [(a, .inr (4, [.int (nI P), .int (nI T), .ref (u 0), .ref (u 1), .ref (u 2), .int 0, .int (nI 1), .int (nI 1)])), (u 0, eZ cA P), (u 1, eI cA 4), (u 2, eI cA 4)])) (va_A [(a, .inr (4, [.int 0, .int 0, .null, .null, .null, .int 0, .int 0, .int 0]))] sz)) 3 (P + 8) (va_A [(a, .inr (4, [.int 0, .int 0, .null, .null, .null, .int 0, .int 0, .int 0]))] sz) := by
  refine Met.ofW (cc := cX1_init) (maxL := 3) (ret := none) (by decide) rfl ?_
  intro p e s m args below meth c s₁ B hml hv
  obtain ⟨rfl, hsz, hP, hK, hD0, hN⟩ := hv
  have hx := B.exec
  have hb := B.bytes
  have hr := B.returns
  have hts := atoms_spec (ws := wsX1_init) B.pre
  have hown : s.vm.findClass RX1 = some m.cls := findClass_of_methodNamed B.named
  have hini : meth.name = "<init>" := (name_of_methodNamed B.named B.method).1
  subst hsz
  have hD := hD0.self (sz := s.heap.size)
  generalize hAe : va_A [(a, .inr (4, [.int 0, .int 0, .null, .null, .null, .int 0, .int 0, .int 0]))] s.heap.size = A at hD ⊢
  have hA : ∀ q : Nat, s.heap.size ≤ q → A q := fun q h => by rw [← hAe]; exact Or.inr h
  have hS : va_S A s.heap s.heap [] := va_S.rf
  have hRf : 4 ≤ (headSpec wsX1_init { frames := 4, cells := 3, slots := P + 8, locals := 100 }).room.frames := Nat.le_refl _
  have hRl : 100 ≤ (headSpec wsX1_init { frames := 4, cells := 3, slots := P + 8, locals := 100 }).room.locals := Nat.le_refl _
  have hRc : 3 ≤ (headSpec wsX1_init { frames := 4, cells := 3, slots := P + 8, locals := 100 }).room.cells := Nat.le_refl _
  have hRs : P + 8 ≤ (headSpec wsX1_init { frames := 4, cells := 3, slots := P + 8, locals := 100 }).room.slots := Nat.le_refl _
  have hl := lv_entry ([.ref a, .int (nI P), .int (nI T)]) (n := 3) (Nat.le_of_ble_eq_true rfl)
  rw [lg_entry_eq]
  generalize (lg_sl ([.ref a, .int (nI P), .int (nI T)]) ++ List.replicate (3 - (lg_sl ([.ref a, .int (nI P), .int (nI T)])).length) Slot.unset).toArray = ls at hl ⊢
  have hl : lv_has ls 3 [(0, .ref a), (1, .int (nI P)), (2, .int (nI T))] := hl
  refine lv_aload_n hx hb dX1_init_0 rfl (lv_at hl 0 rfl) ?_
  refine W.objInit hx hb hown (hts (.methodLink RX1 3 objectInit) (by decide +kernel)) (hts (.instanceMethod objectInit) (by decide +kernel)) (hts (.code objectInit ⟨#[0xb1]⟩ 1 none) (by decide +kernel)) rfl (by rw [hml]; exact hl.1) rfl dX1_init_1 (gle hRf rfl) (gle hRl rfl) ?_
  refine W.eq (g2 := F0 m 4 ls []) rfl ?_
  refine lv_aload_n hx hb dX1_init_4 rfl (lv_at hl 0 rfl) ?_
  refine lv_iload_n hx hb dX1_init_5 rfl (lv_at hl 1 rfl) ?_
  refine va_putF (D := D) (ci := 4) (v := .int (nI P)) (ty := .int) (C := RX1) (T := TX1) (N := 8) hx hb hts (fun _ h => inX1_init_RX1 h) tyX1 tyX1_ok nmX1 hown hK hP hD hS 0 rfl rfl 0 (by decide) (hts (.fieldLink RX1 9 "CosetTables$Numbering" "places" "I") (by decide +kernel)) (fun _ h9 => h9) rfl hini rfl (by decide +kernel) rfl rfl (Nat.le_of_ble_eq_true rfl) dX1_init_6 (fun H locs hP hD hS => ?_)
  have hP : va_P D vwCl [(a, .inr (4, [.int (nI P), .int 0, .null, .null, .null, .int 0, .int 0, .int 0]))] H := hP
  have hD : va_D A [(a, .inr (4, [.int (nI P), .int 0, .null, .null, .null, .int 0, .int 0, .int 0]))] := hD
  refine lv_aload_n hx hb dX1_init_9 rfl (lv_at hl 0 rfl) ?_
  refine lv_iload_n hx hb dX1_init_10 rfl (lv_at hl 2 rfl) ?_
  refine va_putF (D := D) (ci := 4) (v := .int (nI T)) (ty := .int) (C := RX1) (T := TX1) (N := 8) hx hb hts (fun _ h => inX1_init_RX1 h) tyX1 tyX1_ok nmX1 hown hK hP hD hS 0 rfl rfl 1 (by decide) (hts (.fieldLink RX1 15 "CosetTables$Numbering" "twists" "I") (by decide +kernel)) (fun _ h9 => h9) rfl hini rfl (by decide +kernel) rfl rfl (Nat.le_of_ble_eq_true rfl) dX1_init_11 (fun H locs hP hD hS => ?_)
  have hP : va_P D vwCl [(a, .inr (4, [.int (nI P), .int (nI T), .null, .null, .null, .int 0, .int 0, .int 0]))] H := hP
  have hD : va_D A [(a, .inr (4, [.int (nI P), .int (nI T), .null, .null, .null, .int 0, .int 0, .int 0]))] := hD
  refine lv_aload_n hx hb dX1_init_14 rfl (lv_at hl 0 rfl) ?_
  refine lv_iload_n hx hb dX1_init_15 rfl (lv_at hl 1 rfl) ?_
  refine cy_newZ (N := P) hx hb (hts (.arrayClass .boolean) (by decide +kernel)) hK hP hD hS hA (by omega) (by omega) (by omega) dX1_init_16 (fun q1 H hP hD hS => ?_)
  have hP : va_P D vwCl [(a, .inr (4, [.int (nI P), .int (nI T), .null, .null, .null, .int 0, .int 0, .int 0])), (q1, eZ cA P)] H := hP
  have hD : va_D A [(a, .inr (4, [.int (nI P), .int (nI T), .null, .null, .null, .int 0, .int 0, .int 0])), (q1, eZ cA P)] := hD
  refine va_putF (D := D) (ci := 4) (v := .ref q1) (ty := (.array .boolean)) (C := RX1) (T := TX1) (N := 8) hx hb hts (fun _ h => inX1_init_RX1 h) tyX1 tyX1_ok nmX1 hown hK hP hD hS 0 rfl rfl 2 (by decide) (hts (.fieldLink RX1 18 "CosetTables$Numbering" "chosen" "[Z") (by decide +kernel)) (fun _ h9 => h9) rfl hini rfl (by decide +kernel) rfl rfl (Nat.le_of_ble_eq_true rfl) dX1_init_18 (fun H locs hP hD hS => ?_)
  have hP : va_P D vwCl [(a, .inr (4, [.int (nI P), .int (nI T), .ref q1, .null, .null, .int 0, .int 0, .int 0])), (q1, eZ cA P)] H := hP
  have hD : va_D A [(a, .inr (4, [.int (nI P), .int (nI T), .ref q1, .null, .null, .int 0, .int 0, .int 0])), (q1, eZ cA P)] := hD
  refine lv_aload_n hx hb dX1_init_21 rfl (lv_at hl 0 rfl) ?_
  refine lv_iconst (v := nI 4) hx hb dX1_init_22 (by decide) ?_
  refine cy_newI (N := 4) hx hb (hts (.arrayClass .int) (by decide +kernel)) hK hP hD hS hA (by omega) (by omega) (by omega) dX1_init_23 (fun q2 H hP hD hS => ?_)
  have hP : va_P D vwCl [(a, .inr (4, [.int (nI P), .int (nI T), .ref q1, .null, .null, .int 0, .int 0, .int 0])), (q1, eZ cA P), (q2, eI cA 4)] H := hP
  have hD : va_D A [(a, .inr (4, [.int (nI P), .int (nI T), .ref q1, .null, .null, .int 0, .int 0, .int 0])), (q1, eZ cA P), (q2, eI cA 4)] := hD
  refine va_putF (D := D) (ci := 4) (v := .ref q2) (ty := (.array .int)) (C := RX1) (T := TX1) (N := 8) hx hb hts (fun _ h => inX1_init_RX1 h) tyX1 tyX1_ok nmX1 hown hK hP hD hS 0 rfl rfl 3 (by decide) (hts (.fieldLink RX1 22 "CosetTables$Numbering" "pieces" "[I") (by decide +kernel)) (fun _ h9 => h9) rfl hini rfl (by decide +kernel) rfl rfl (Nat.le_of_ble_eq_true rfl) dX1_init_25 (fun H locs hP hD hS => ?_)
  have hP : va_P D vwCl [(a, .inr (4, [.int (nI P), .int (nI T), .ref q1, .ref q2, .null, .int 0, .int 0, .int 0])), (q1, eZ cA P), (q2, eI cA 4)] H := hP
  have hD : va_D A [(a, .inr (4, [.int (nI P), .int (nI T), .ref q1, .ref q2, .null, .int 0, .int 0, .int 0])), (q1, eZ cA P), (q2, eI cA 4)] := hD
  refine lv_aload_n hx hb dX1_init_28 rfl (lv_at hl 0 rfl) ?_
  refine lv_iconst (v := nI 4) hx hb dX1_init_29 (by decide) ?_
  refine cy_newI (N := 4) hx hb (hts (.arrayClass .int) (by decide +kernel)) hK hP hD hS hA (by omega) (by omega) (by omega) dX1_init_30 (fun q3 H hP hD hS => ?_)
  have hP : va_P D vwCl [(a, .inr (4, [.int (nI P), .int (nI T), .ref q1, .ref q2, .null, .int 0, .int 0, .int 0])), (q1, eZ cA P), (q2, eI cA 4), (q3, eI cA 4)] H := hP
  have hD : va_D A [(a, .inr (4, [.int (nI P), .int (nI T), .ref q1, .ref q2, .null, .int 0, .int 0, .int 0])), (q1, eZ cA P), (q2, eI cA 4), (q3, eI cA 4)] := hD
  refine va_putF (D := D) (ci := 4) (v := .ref q3) (ty := (.array .int)) (C := RX1) (T := TX1) (N := 8) hx hb hts (fun _ h => inX1_init_RX1 h) tyX1 tyX1_ok nmX1 hown hK hP hD hS 0 rfl rfl 4 (by decide) (hts (.fieldLink RX1 26 "CosetTables$Numbering" "ranks" "[I") (by decide +kernel)) (fun _ h9 => h9) rfl hini rfl (by decide +kernel) rfl rfl (Nat.le_of_ble_eq_true rfl) dX1_init_32 (fun H locs hP hD hS => ?_)
  have hP : va_P D vwCl [(a, .inr (4, [.int (nI P), .int (nI T), .ref q1, .ref q2, .ref q3, .int 0, .int 0, .int 0])), (q1, eZ cA P), (q2, eI cA 4), (q3, eI cA 4)] H := hP
  have hD : va_D A [(a, .inr (4, [.int (nI P), .int (nI T), .ref q1, .ref q2, .ref q3, .int 0, .int 0, .int 0])), (q1, eZ cA P), (q2, eI cA 4), (q3, eI cA 4)] := hD
  refine lv_aload_n hx hb dX1_init_35 rfl (lv_at hl 0 rfl) ?_
  refine lv_iconst (v := nI 1) hx hb dX1_init_36 (by decide) ?_
  refine va_put (D := D) (ci := 4) (v := .int (nI 1)) (ty := .int) (C := RX1) (T := TX1) (N := 8) hx hb hts (fun _ h => inX1_init_RX1 h) tyX1 tyX1_ok nmX1 hown hK hP hD hS 0 rfl rfl 6 (by decide) (hts (.fieldLink RX1 29 "CosetTables$Numbering" "arrangements" "I") (by decide +kernel)) (fun _ h9 => h9) rfl (by decide +kernel) rfl rfl (Nat.le_of_ble_eq_true rfl) dX1_init_37 (fun H locs hP hD hS => ?_)
  have hP : va_P D vwCl [(a, .inr (4, [.int (nI P), .int (nI T), .ref q1, .ref q2, .ref q3, .int 0, .int (nI 1), .int 0])), (q1, eZ cA P), (q2, eI cA 4), (q3, eI cA 4)] H := hP
  have hD : va_D A [(a, .inr (4, [.int (nI P), .int (nI T), .ref q1, .ref q2, .ref q3, .int 0, .int (nI 1), .int 0])), (q1, eZ cA P), (q2, eI cA 4), (q3, eI cA 4)] := hD
  refine lv_aload_n hx hb dX1_init_40 rfl (lv_at hl 0 rfl) ?_
  refine lv_iconst (v := nI 1) hx hb dX1_init_41 (by decide) ?_
  refine va_put (D := D) (ci := 4) (v := .int (nI 1)) (ty := .int) (C := RX1) (T := TX1) (N := 8) hx hb hts (fun _ h => inX1_init_RX1 h) tyX1 tyX1_ok nmX1 hown hK hP hD hS 0 rfl rfl 7 (by decide) (hts (.fieldLink RX1 32 "CosetTables$Numbering" "twistings" "I") (by decide +kernel)) (fun _ h9 => h9) rfl (by decide +kernel) rfl rfl (Nat.le_of_ble_eq_true rfl) dX1_init_42 (fun H locs hP hD hS => ?_)
  have hP : va_P D vwCl [(a, .inr (4, [.int (nI P), .int (nI T), .ref q1, .ref q2, .ref q3, .int 0, .int (nI 1), .int (nI 1)])), (q1, eZ cA P), (q2, eI cA 4), (q3, eI cA 4)] H := hP
  have hD : va_D A [(a, .inr (4, [.int (nI P), .int (nI T), .ref q1, .ref q2, .ref q3, .int 0, .int (nI 1), .int (nI 1)])), (q1, eZ cA P), (q2, eI cA 4), (q3, eI cA 4)] := hD
  refine W.widen (k := 3) (n := P + 8) (by omega) (by omega) ?_
  exact W.vret hx hb hr (fun t ht hW => ⟨⟨fun i => if i = 0 then q1 else if i = 1 then q2 else q3, rfl, trivial, by unfold cAt; rw [ht]; exact ⟨hP, hD⟩⟩, hS.F ht⟩) hS.2.2 dX1_init_45

theorem inX4_init_RX4 : ∀ {w : Cond}, w ∈ u_ws RX4 TX4 6 → w ∈ wsX4_init := fun {w} h => by first | exact List.mem_cons_of_mem _ (List.mem_append_right _ h) | (revert h; revert w; show ∀ w ∈ u_ws RX4 TX4 6, w ∈ wsX4_init; decide +kernel)
set_option maxHeartbeats 4000000 in
set_option maxRecDepth 100000 in
theorem cc_X4_init (l : Launch) (D : va_G) (cA : Nat → ClassId) (sz a : Nat)  : Met l yX4_init wsX4_init { frames := 4, cells := 3, slots := 0, locals := 100 } (va_Pc [.ref a] (cPre D cA [(a, .inr (7, [.int 0, .int 0, .int 0, .null, .null, .null]))] sz)) (va_Qv (fun _ : Nat → Nat => True) (cAt D (va_A [(a, .inr (7, [.int 0, .int 0, .int 0, .null, .null, .null]))] sz) (fun u => [(a, .inr (7, [.int 0, .int (nI 1), .int (nI 1), .ref (u 0), .ref (u 1), .ref (u 2)])), (u 0, eI cA 0), (u 1, eI cA 0), (u 2, eI cA 0)])) (va_A [(a, .inr (7, [.int 0, .int 0, .int 0, .null, .null, .null]))] sz)) 3 (0) (va_A [(a, .inr (7, [.int 0, .int 0, .int 0, .null, .null, .null]))] sz) := by
  refine Met.ofW (cc := cX4_init) (maxL := 1) (ret := none) (by decide) rfl ?_
  intro p e s m args below meth c s₁ B hml hv
  obtain ⟨rfl, hsz, hP, hK, hD0, hN⟩ := hv
  have hx := B.exec
  have hb := B.bytes
  have hr := B.returns
  have hts := atoms_spec (ws := wsX4_init) B.pre
  have hown : s.vm.findClass RX4 = some m.cls := findClass_of_methodNamed B.named
  have hini : meth.name = "<init>" := (name_of_methodNamed B.named B.method).1
  subst hsz
  have hD := hD0.self (sz := s.heap.size)
  generalize hAe : va_A [(a, .inr (7, [.int 0, .int 0, .int 0, .null, .null, .null]))] s.heap.size = A at hD ⊢
  have hA : ∀ q : Nat, s.heap.size ≤ q → A q := fun q h => by rw [← hAe]; exact Or.inr h
  have hS : va_S A s.heap s.heap [] := va_S.rf
  have hRf : 4 ≤ (headSpec wsX4_init { frames := 4, cells := 3, slots := 0, locals := 100 }).room.frames := Nat.le_refl _
  have hRl : 100 ≤ (headSpec wsX4_init { frames := 4, cells := 3, slots := 0, locals := 100 }).room.locals := Nat.le_refl _
  have hRc : 3 ≤ (headSpec wsX4_init { frames := 4, cells := 3, slots := 0, locals := 100 }).room.cells := Nat.le_refl _
  have hRs : 0 ≤ (headSpec wsX4_init { frames := 4, cells := 3, slots := 0, locals := 100 }).room.slots := Nat.le_refl _
  have hl := lv_entry ([.ref a]) (n := 1) (Nat.le_of_ble_eq_true rfl)
  rw [lg_entry_eq]
  generalize (lg_sl ([.ref a]) ++ List.replicate (1 - (lg_sl ([.ref a])).length) Slot.unset).toArray = ls at hl ⊢
  have hl : lv_has ls 1 [(0, .ref a)] := hl
  refine lv_aload_n hx hb dX4_init_0 rfl (lv_at hl 0 rfl) ?_
  refine W.objInit hx hb hown (hts (.methodLink RX4 3 objectInit) (by decide +kernel)) (hts (.instanceMethod objectInit) (by decide +kernel)) (hts (.code objectInit ⟨#[0xb1]⟩ 1 none) (by decide +kernel)) rfl (by rw [hml]; exact hl.1) rfl dX4_init_1 (gle hRf rfl) (gle hRl rfl) ?_
  refine W.eq (g2 := F0 m 4 ls []) rfl ?_
  refine lv_aload_n hx hb dX4_init_4 rfl (lv_at hl 0 rfl) ?_
  refine lv_iconst (v := nI 1) hx hb dX4_init_5 (by decide) ?_
  refine va_put (D := D) (ci := 7) (v := .int (nI 1)) (ty := .int) (C := RX4) (T := TX4) (N := 6) hx hb hts (fun _ h => inX4_init_RX4 h) tyX4 tyX4_ok nmX4 hown hK hP hD hS 0 rfl rfl 1 (by decide) (hts (.fieldLink RX4 9 "CosetTables$Steps" "arrangements" "I") (by decide +kernel)) (fun _ h9 => h9) rfl (by decide +kernel) rfl rfl (Nat.le_of_ble_eq_true rfl) dX4_init_6 (fun H locs hP hD hS => ?_)
  have hP : va_P D vwCl [(a, .inr (7, [.int 0, .int (nI 1), .int 0, .null, .null, .null]))] H := hP
  have hD : va_D A [(a, .inr (7, [.int 0, .int (nI 1), .int 0, .null, .null, .null]))] := hD
  refine lv_aload_n hx hb dX4_init_9 rfl (lv_at hl 0 rfl) ?_
  refine lv_iconst (v := nI 1) hx hb dX4_init_10 (by decide) ?_
  refine va_put (D := D) (ci := 7) (v := .int (nI 1)) (ty := .int) (C := RX4) (T := TX4) (N := 6) hx hb hts (fun _ h => inX4_init_RX4 h) tyX4 tyX4_ok nmX4 hown hK hP hD hS 0 rfl rfl 2 (by decide) (hts (.fieldLink RX4 15 "CosetTables$Steps" "twistings" "I") (by decide +kernel)) (fun _ h9 => h9) rfl (by decide +kernel) rfl rfl (Nat.le_of_ble_eq_true rfl) dX4_init_11 (fun H locs hP hD hS => ?_)
  have hP : va_P D vwCl [(a, .inr (7, [.int 0, .int (nI 1), .int (nI 1), .null, .null, .null]))] H := hP
  have hD : va_D A [(a, .inr (7, [.int 0, .int (nI 1), .int (nI 1), .null, .null, .null]))] := hD
  refine lv_aload_n hx hb dX4_init_14 rfl (lv_at hl 0 rfl) ?_
  refine lv_iconst (v := nI 0) hx hb dX4_init_15 (by decide) ?_
  refine cy_newI (N := 0) hx hb (hts (.arrayClass .int) (by decide +kernel)) hK hP hD hS hA (by omega) (by omega) (by omega) dX4_init_16 (fun q1 H hP hD hS => ?_)
  have hP : va_P D vwCl [(a, .inr (7, [.int 0, .int (nI 1), .int (nI 1), .null, .null, .null])), (q1, eI cA 0)] H := hP
  have hD : va_D A [(a, .inr (7, [.int 0, .int (nI 1), .int (nI 1), .null, .null, .null])), (q1, eI cA 0)] := hD
  refine va_put (D := D) (ci := 7) (v := .ref q1) (ty := (.array .int)) (C := RX4) (T := TX4) (N := 6) hx hb hts (fun _ h => inX4_init_RX4 h) tyX4 tyX4_ok nmX4 hown hK hP hD hS 0 rfl rfl 3 (by decide) (hts (.fieldLink RX4 18 "CosetTables$Steps" "arrangementAfter" "[I") (by decide +kernel)) (fun _ h9 => h9) rfl (by decide +kernel) rfl rfl (Nat.le_of_ble_eq_true rfl) dX4_init_18 (fun H locs hP hD hS => ?_)
  have hP : va_P D vwCl [(a, .inr (7, [.int 0, .int (nI 1), .int (nI 1), .ref q1, .null, .null])), (q1, eI cA 0)] H := hP
  have hD : va_D A [(a, .inr (7, [.int 0, .int (nI 1), .int (nI 1), .ref q1, .null, .null])), (q1, eI cA 0)] := hD
  refine lv_aload_n hx hb dX4_init_21 rfl (lv_at hl 0 rfl) ?_
  refine lv_iconst (v := nI 0) hx hb dX4_init_22 (by decide) ?_
  refine cy_newI (N := 0) hx hb (hts (.arrayClass .int) (by decide +kernel)) hK hP hD hS hA (by omega) (by omega) (by omega) dX4_init_23 (fun q2 H hP hD hS => ?_)
  have hP : va_P D vwCl [(a, .inr (7, [.int 0, .int (nI 1), .int (nI 1), .ref q1, .null, .null])), (q1, eI cA 0), (q2, eI cA 0)] H := hP
  have hD : va_D A [(a, .inr (7, [.int 0, .int (nI 1), .int (nI 1), .ref q1, .null, .null])), (q1, eI cA 0), (q2, eI cA 0)] := hD
  refine va_put (D := D) (ci := 7) (v := .ref q2) (ty := (.array .int)) (C := RX4) (T := TX4) (N := 6) hx hb hts (fun _ h => inX4_init_RX4 h) tyX4 tyX4_ok nmX4 hown hK hP hD hS 0 rfl rfl 4 (by decide) (hts (.fieldLink RX4 22 "CosetTables$Steps" "twistingAdded" "[I") (by decide +kernel)) (fun _ h9 => h9) rfl (by decide +kernel) rfl rfl (Nat.le_of_ble_eq_true rfl) dX4_init_25 (fun H locs hP hD hS => ?_)
  have hP : va_P D vwCl [(a, .inr (7, [.int 0, .int (nI 1), .int (nI 1), .ref q1, .ref q2, .null])), (q1, eI cA 0), (q2, eI cA 0)] H := hP
  have hD : va_D A [(a, .inr (7, [.int 0, .int (nI 1), .int (nI 1), .ref q1, .ref q2, .null])), (q1, eI cA 0), (q2, eI cA 0)] := hD
  refine lv_aload_n hx hb dX4_init_28 rfl (lv_at hl 0 rfl) ?_
  refine lv_iconst (v := nI 0) hx hb dX4_init_29 (by decide) ?_
  refine cy_newI (N := 0) hx hb (hts (.arrayClass .int) (by decide +kernel)) hK hP hD hS hA (by omega) (by omega) (by omega) dX4_init_30 (fun q3 H hP hD hS => ?_)
  have hP : va_P D vwCl [(a, .inr (7, [.int 0, .int (nI 1), .int (nI 1), .ref q1, .ref q2, .null])), (q1, eI cA 0), (q2, eI cA 0), (q3, eI cA 0)] H := hP
  have hD : va_D A [(a, .inr (7, [.int 0, .int (nI 1), .int (nI 1), .ref q1, .ref q2, .null])), (q1, eI cA 0), (q2, eI cA 0), (q3, eI cA 0)] := hD
  refine va_put (D := D) (ci := 7) (v := .ref q3) (ty := (.array .int)) (C := RX4) (T := TX4) (N := 6) hx hb hts (fun _ h => inX4_init_RX4 h) tyX4 tyX4_ok nmX4 hown hK hP hD hS 0 rfl rfl 5 (by decide) (hts (.fieldLink RX4 25 "CosetTables$Steps" "twistingSums" "[I") (by decide +kernel)) (fun _ h9 => h9) rfl (by decide +kernel) rfl rfl (Nat.le_of_ble_eq_true rfl) dX4_init_32 (fun H locs hP hD hS => ?_)
  have hP : va_P D vwCl [(a, .inr (7, [.int 0, .int (nI 1), .int (nI 1), .ref q1, .ref q2, .ref q3])), (q1, eI cA 0), (q2, eI cA 0), (q3, eI cA 0)] H := hP
  have hD : va_D A [(a, .inr (7, [.int 0, .int (nI 1), .int (nI 1), .ref q1, .ref q2, .ref q3])), (q1, eI cA 0), (q2, eI cA 0), (q3, eI cA 0)] := hD
  refine W.widen (k := 3) (n := 0) (by omega) (by omega) ?_
  exact W.vret hx hb hr (fun t ht hW => ⟨⟨fun i => if i = 0 then q1 else if i = 1 then q2 else q3, rfl, trivial, by unfold cAt; rw [ht]; exact ⟨hP, hD⟩⟩, hS.F ht⟩) hS.2.2 dX4_init_35

theorem inX5_init_RX5 : ∀ {w : Cond}, w ∈ u_ws RX5 TX5 6 → w ∈ wsX5_init := fun {w} h => by first | exact List.mem_cons_of_mem _ (List.mem_append_right _ h) | (revert h; revert w; show ∀ w ∈ u_ws RX5 TX5 6, w ∈ wsX5_init; decide +kernel)
set_option maxHeartbeats 4000000 in
set_option maxRecDepth 100000 in
theorem cc_X5_init (l : Launch) (D : va_G) (cA : Nat → ClassId) (sz a : Nat)  : Met l yX5_init wsX5_init { frames := 4, cells := 2, slots := 0, locals := 100 } (va_Pc [.ref a] (cPre D cA [(a, .inr (8, [.int 0, .int 0, .int 0, .int 0, .null, .null]))] sz)) (va_Qv (fun _ : Nat → Nat => True) (cAt D (va_A [(a, .inr (8, [.int 0, .int 0, .int 0, .int 0, .null, .null]))] sz) (fun u => [(a, .inr (8, [.int 0, .int 0, .int 0, .int 0, .ref (u 0), .ref (u 1)])), (u 0, eI cA 0), (u 1, eI cA 0)])) (va_A [(a, .inr (8, [.int 0, .int 0, .int 0, .int 0, .null, .null]))] sz)) 2 (0) (va_A [(a, .inr (8, [.int 0, .int 0, .int 0, .int 0, .null, .null]))] sz) := by
  refine Met.ofW (cc := cX5_init) (maxL := 1) (ret := none) (by decide) rfl ?_
  intro p e s m args below meth c s₁ B hml hv
  obtain ⟨rfl, hsz, hP, hK, hD0, hN⟩ := hv
  have hx := B.exec
  have hb := B.bytes
  have hr := B.returns
  have hts := atoms_spec (ws := wsX5_init) B.pre
  have hown : s.vm.findClass RX5 = some m.cls := findClass_of_methodNamed B.named
  have hini : meth.name = "<init>" := (name_of_methodNamed B.named B.method).1
  subst hsz
  have hD := hD0.self (sz := s.heap.size)
  generalize hAe : va_A [(a, .inr (8, [.int 0, .int 0, .int 0, .int 0, .null, .null]))] s.heap.size = A at hD ⊢
  have hA : ∀ q : Nat, s.heap.size ≤ q → A q := fun q h => by rw [← hAe]; exact Or.inr h
  have hS : va_S A s.heap s.heap [] := va_S.rf
  have hRf : 4 ≤ (headSpec wsX5_init { frames := 4, cells := 2, slots := 0, locals := 100 }).room.frames := Nat.le_refl _
  have hRl : 100 ≤ (headSpec wsX5_init { frames := 4, cells := 2, slots := 0, locals := 100 }).room.locals := Nat.le_refl _
  have hRc : 2 ≤ (headSpec wsX5_init { frames := 4, cells := 2, slots := 0, locals := 100 }).room.cells := Nat.le_refl _
  have hRs : 0 ≤ (headSpec wsX5_init { frames := 4, cells := 2, slots := 0, locals := 100 }).room.slots := Nat.le_refl _
  have hl := lv_entry ([.ref a]) (n := 1) (Nat.le_of_ble_eq_true rfl)
  rw [lg_entry_eq]
  generalize (lg_sl ([.ref a]) ++ List.replicate (1 - (lg_sl ([.ref a])).length) Slot.unset).toArray = ls at hl ⊢
  have hl : lv_has ls 1 [(0, .ref a)] := hl
  refine lv_aload_n hx hb dX5_init_0 rfl (lv_at hl 0 rfl) ?_
  refine W.objInit hx hb hown (hts (.methodLink RX5 3 objectInit) (by decide +kernel)) (hts (.instanceMethod objectInit) (by decide +kernel)) (hts (.code objectInit ⟨#[0xb1]⟩ 1 none) (by decide +kernel)) rfl (by rw [hml]; exact hl.1) rfl dX5_init_1 (gle hRf rfl) (gle hRl rfl) ?_
  refine W.eq (g2 := F0 m 4 ls []) rfl ?_
  refine lv_aload_n hx hb dX5_init_4 rfl (lv_at hl 0 rfl) ?_
  refine lv_iconst (v := nI 0) hx hb dX5_init_5 (by decide) ?_
  refine cy_newI (N := 0) hx hb (hts (.arrayClass .int) (by decide +kernel)) hK hP hD hS hA (by omega) (by omega) (by omega) dX5_init_6 (fun q1 H hP hD hS => ?_)
  have hP : va_P D vwCl [(a, .inr (8, [.int 0, .int 0, .int 0, .int 0, .null, .null])), (q1, eI cA 0)] H := hP
  have hD : va_D A [(a, .inr (8, [.int 0, .int 0, .int 0, .int 0, .null, .null])), (q1, eI cA 0)] := hD
  refine va_put (D := D) (ci := 8) (v := .ref q1) (ty := (.array .int)) (C := RX5) (T := TX5) (N := 6) hx hb hts (fun _ h => inX5_init_RX5 h) tyX5 tyX5_ok nmX5 hown hK hP hD hS 0 rfl rfl 4 (by decide) (hts (.fieldLink RX5 9 "CosetTables$Table" "values" "[I") (by decide +kernel)) (fun _ h9 => h9) rfl (by decide +kernel) rfl rfl (Nat.le_of_ble_eq_true rfl) dX5_init_8 (fun H locs hP hD hS => ?_)
  have hP : va_P D vwCl [(a, .inr (8, [.int 0, .int 0, .int 0, .int 0, .ref q1, .null])), (q1, eI cA 0)] H := hP
  have hD : va_D A [(a, .inr (8, [.int 0, .int 0, .int 0, .int 0, .ref q1, .null])), (q1, eI cA 0)] := hD
  refine lv_aload_n hx hb dX5_init_11 rfl (lv_at hl 0 rfl) ?_
  refine lv_iconst (v := nI 0) hx hb dX5_init_12 (by decide) ?_
  refine cy_newI (N := 0) hx hb (hts (.arrayClass .int) (by decide +kernel)) hK hP hD hS hA (by omega) (by omega) (by omega) dX5_init_13 (fun q2 H hP hD hS => ?_)
  have hP : va_P D vwCl [(a, .inr (8, [.int 0, .int 0, .int 0, .int 0, .ref q1, .null])), (q1, eI cA 0), (q2, eI cA 0)] H := hP
  have hD : va_D A [(a, .inr (8, [.int 0, .int 0, .int 0, .int 0, .ref q1, .null])), (q1, eI cA 0), (q2, eI cA 0)] := hD
  refine va_put (D := D) (ci := 8) (v := .ref q2) (ty := (.array .int)) (C := RX5) (T := TX5) (N := 6) hx hb hts (fun _ h => inX5_init_RX5 h) tyX5 tyX5_ok nmX5 hown hK hP hD hS 0 rfl rfl 5 (by decide) (hts (.fieldLink RX5 15 "CosetTables$Table" "queue" "[I") (by decide +kernel)) (fun _ h9 => h9) rfl (by decide +kernel) rfl rfl (Nat.le_of_ble_eq_true rfl) dX5_init_15 (fun H locs hP hD hS => ?_)
  have hP : va_P D vwCl [(a, .inr (8, [.int 0, .int 0, .int 0, .int 0, .ref q1, .ref q2])), (q1, eI cA 0), (q2, eI cA 0)] H := hP
  have hD : va_D A [(a, .inr (8, [.int 0, .int 0, .int 0, .int 0, .ref q1, .ref q2])), (q1, eI cA 0), (q2, eI cA 0)] := hD
  refine W.widen (k := 2) (n := 0) (by omega) (by omega) ?_
  exact W.vret hx hb hr (fun t ht hW => ⟨⟨fun i => if i = 0 then q1 else q2, rfl, trivial, by unfold cAt; rw [ht]; exact ⟨hP, hD⟩⟩, hS.F ht⟩) hS.2.2 dX5_init_18

theorem inX2_init_RX2 : ∀ {w : Cond}, w ∈ u_ws RX2 TX2 8 → w ∈ wsX2_init := fun {w} h => by first | exact List.mem_cons_of_mem _ (List.mem_append_right _ h) | (revert h; revert w; show ∀ w ∈ u_ws RX2 TX2 8, w ∈ wsX2_init; decide +kernel)
set_option maxHeartbeats 4000000 in
set_option maxRecDepth 100000 in
theorem cc_X2_init (l : Launch) (D : va_G) (cA : Nat → ClassId) (sz a : Nat)  : Met l yX2_init wsX2_init { frames := 4, cells := 3, slots := 0, locals := 100 } (va_Pc [.ref a] (cPre D cA [(a, .inr (5, [.int 0, .int 0, .int 0, .int 0, .int 0, .null, .null, .null]))] sz)) (va_Qv (fun _ : Nat → Nat => True) (cAt D (va_A [(a, .inr (5, [.int 0, .int 0, .int 0, .int 0, .int 0, .null, .null, .null]))] sz) (fun u => [(a, .inr (5, [.int 0, .int 0, .int 0, .int 0, .int 0, .ref (u 0), .ref (u 1), .ref (u 2)])), (u 0, eI cA 0), (u 1, eI cA 0), (u 2, eI cA 0)])) (va_A [(a, .inr (5, [.int 0, .int 0, .int 0, .int 0, .int 0, .null, .null, .null]))] sz)) 3 (0) (va_A [(a, .inr (5, [.int 0, .int 0, .int 0, .int 0, .int 0, .null, .null, .null]))] sz) := by
  refine Met.ofW (cc := cX2_init) (maxL := 1) (ret := none) (by decide) rfl ?_
  intro p e s m args below meth c s₁ B hml hv
  obtain ⟨rfl, hsz, hP, hK, hD0, hN⟩ := hv
  have hx := B.exec
  have hb := B.bytes
  have hr := B.returns
  have hts := atoms_spec (ws := wsX2_init) B.pre
  have hown : s.vm.findClass RX2 = some m.cls := findClass_of_methodNamed B.named
  have hini : meth.name = "<init>" := (name_of_methodNamed B.named B.method).1
  subst hsz
  have hD := hD0.self (sz := s.heap.size)
  generalize hAe : va_A [(a, .inr (5, [.int 0, .int 0, .int 0, .int 0, .int 0, .null, .null, .null]))] s.heap.size = A at hD ⊢
  have hA : ∀ q : Nat, s.heap.size ≤ q → A q := fun q h => by rw [← hAe]; exact Or.inr h
  have hS : va_S A s.heap s.heap [] := va_S.rf
  have hRf : 4 ≤ (headSpec wsX2_init { frames := 4, cells := 3, slots := 0, locals := 100 }).room.frames := Nat.le_refl _
  have hRl : 100 ≤ (headSpec wsX2_init { frames := 4, cells := 3, slots := 0, locals := 100 }).room.locals := Nat.le_refl _
  have hRc : 3 ≤ (headSpec wsX2_init { frames := 4, cells := 3, slots := 0, locals := 100 }).room.cells := Nat.le_refl _
  have hRs : 0 ≤ (headSpec wsX2_init { frames := 4, cells := 3, slots := 0, locals := 100 }).room.slots := Nat.le_refl _
  have hl := lv_entry ([.ref a]) (n := 1) (Nat.le_of_ble_eq_true rfl)
  rw [lg_entry_eq]
  generalize (lg_sl ([.ref a]) ++ List.replicate (1 - (lg_sl ([.ref a])).length) Slot.unset).toArray = ls at hl ⊢
  have hl : lv_has ls 1 [(0, .ref a)] := hl
  refine lv_aload_n hx hb dX2_init_0 rfl (lv_at hl 0 rfl) ?_
  refine W.objInit hx hb hown (hts (.methodLink RX2 1 objectInit) (by decide +kernel)) (hts (.instanceMethod objectInit) (by decide +kernel)) (hts (.code objectInit ⟨#[0xb1]⟩ 1 none) (by decide +kernel)) rfl (by rw [hml]; exact hl.1) rfl dX2_init_1 (gle hRf rfl) (gle hRl rfl) ?_
  refine W.eq (g2 := F0 m 4 ls []) rfl ?_
  refine lv_aload_n hx hb dX2_init_4 rfl (lv_at hl 0 rfl) ?_
  refine lv_iconst (v := nI 0) hx hb dX2_init_5 (by decide) ?_
  refine cy_newI (N := 0) hx hb (hts (.arrayClass .int) (by decide +kernel)) hK hP hD hS hA (by omega) (by omega) (by omega) dX2_init_6 (fun q1 H hP hD hS => ?_)
  have hP : va_P D vwCl [(a, .inr (5, [.int 0, .int 0, .int 0, .int 0, .int 0, .null, .null, .null])), (q1, eI cA 0)] H := hP
  have hD : va_D A [(a, .inr (5, [.int 0, .int 0, .int 0, .int 0, .int 0, .null, .null, .null])), (q1, eI cA 0)] := hD
  refine va_put (D := D) (ci := 5) (v := .ref q1) (ty := (.array .int)) (C := RX2) (T := TX2) (N := 8) hx hb hts (fun _ h => inX2_init_RX2 h) tyX2 tyX2_ok nmX2 hown hK hP hD hS 0 rfl rfl 5 (by decide) (hts (.fieldLink RX2 7 "CosetTables$Orbits" "links" "[I") (by decide +kernel)) (fun _ h9 => h9) rfl (by decide +kernel) rfl rfl (Nat.le_of_ble_eq_true rfl) dX2_init_8 (fun H locs hP hD hS => ?_)
  have hP : va_P D vwCl [(a, .inr (5, [.int 0, .int 0, .int 0, .int 0, .int 0, .ref q1, .null, .null])), (q1, eI cA 0)] H := hP
  have hD : va_D A [(a, .inr (5, [.int 0, .int 0, .int 0, .int 0, .int 0, .ref q1, .null, .null])), (q1, eI cA 0)] := hD
  refine lv_aload_n hx hb dX2_init_11 rfl (lv_at hl 0 rfl) ?_
  refine lv_iconst (v := nI 0) hx hb dX2_init_12 (by decide) ?_
  refine cy_newI (N := 0) hx hb (hts (.arrayClass .int) (by decide +kernel)) hK hP hD hS hA (by omega) (by omega) (by omega) dX2_init_13 (fun q2 H hP hD hS => ?_)
  have hP : va_P D vwCl [(a, .inr (5, [.int 0, .int 0, .int 0, .int 0, .int 0, .ref q1, .null, .null])), (q1, eI cA 0), (q2, eI cA 0)] H := hP
  have hD : va_D A [(a, .inr (5, [.int 0, .int 0, .int 0, .int 0, .int 0, .ref q1, .null, .null])), (q1, eI cA 0), (q2, eI cA 0)] := hD
  refine va_put (D := D) (ci := 5) (v := .ref q2) (ty := (.array .int)) (C := RX2) (T := TX2) (N := 8) hx hb hts (fun _ h => inX2_init_RX2 h) tyX2 tyX2_ok nmX2 hown hK hP hD hS 0 rfl rfl 6 (by decide) (hts (.fieldLink RX2 13 "CosetTables$Orbits" "arrangementImages" "[I") (by decide +kernel)) (fun _ h9 => h9) rfl (by decide +kernel) rfl rfl (Nat.le_of_ble_eq_true rfl) dX2_init_15 (fun H locs hP hD hS => ?_)
  have hP : va_P D vwCl [(a, .inr (5, [.int 0, .int 0, .int 0, .int 0, .int 0, .ref q1, .ref q2, .null])), (q1, eI cA 0), (q2, eI cA 0)] H := hP
  have hD : va_D A [(a, .inr (5, [.int 0, .int 0, .int 0, .int 0, .int 0, .ref q1, .ref q2, .null])), (q1, eI cA 0), (q2, eI cA 0)] := hD
  refine lv_aload_n hx hb dX2_init_18 rfl (lv_at hl 0 rfl) ?_
  refine lv_iconst (v := nI 0) hx hb dX2_init_19 (by decide) ?_
  refine cy_newI (N := 0) hx hb (hts (.arrayClass .int) (by decide +kernel)) hK hP hD hS hA (by omega) (by omega) (by omega) dX2_init_20 (fun q3 H hP hD hS => ?_)
  have hP : va_P D vwCl [(a, .inr (5, [.int 0, .int 0, .int 0, .int 0, .int 0, .ref q1, .ref q2, .null])), (q1, eI cA 0), (q2, eI cA 0), (q3, eI cA 0)] H := hP
  have hD : va_D A [(a, .inr (5, [.int 0, .int 0, .int 0, .int 0, .int 0, .ref q1, .ref q2, .null])), (q1, eI cA 0), (q2, eI cA 0), (q3, eI cA 0)] := hD
  refine va_put (D := D) (ci := 5) (v := .ref q3) (ty := (.array .int)) (C := RX2) (T := TX2) (N := 8) hx hb hts (fun _ h => inX2_init_RX2 h) tyX2 tyX2_ok nmX2 hown hK hP hD hS 0 rfl rfl 7 (by decide) (hts (.fieldLink RX2 16 "CosetTables$Orbits" "twistingImages" "[I") (by decide +kernel)) (fun _ h9 => h9) rfl (by decide +kernel) rfl rfl (Nat.le_of_ble_eq_true rfl) dX2_init_22 (fun H locs hP hD hS => ?_)
  have hP : va_P D vwCl [(a, .inr (5, [.int 0, .int 0, .int 0, .int 0, .int 0, .ref q1, .ref q2, .ref q3])), (q1, eI cA 0), (q2, eI cA 0), (q3, eI cA 0)] H := hP
  have hD : va_D A [(a, .inr (5, [.int 0, .int 0, .int 0, .int 0, .int 0, .ref q1, .ref q2, .ref q3])), (q1, eI cA 0), (q2, eI cA 0), (q3, eI cA 0)] := hD
  refine W.widen (k := 3) (n := 0) (by omega) (by omega) ?_
  exact W.vret hx hb hr (fun t ht hW => ⟨⟨fun i => if i = 0 then q1 else if i = 1 then q2 else q3, rfl, trivial, by unfold cAt; rw [ht]; exact ⟨hP, hD⟩⟩, hS.F ht⟩) hS.2.2 dX2_init_25
