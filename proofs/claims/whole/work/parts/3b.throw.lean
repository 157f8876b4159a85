theorem gx_ent {p : Program} {l : Launch} {e : Env} {R : Room} {s : State} {m : MethodId} {args : Array Value} {below : List Frame} {meth : Method} {c : Code} {Q : State → Prop} {g : JFrame} {D : va_G} {cA : Nat → ClassId} {A : Nat → Prop} {o : Nat → Int64} {ad ln : Nat → Nat} {iv : Nat → Nat → Int32} {n : Nat} (hS : gS D cA A s.heap o ad ln iv n s.heap []) (k : ∀ (H : Heap) (locs : List Loc), gS D cA A s.heap o ad ln iv n H locs → W p l e R s m args below meth c H locs 0 0 Q g) : W p l e R s m args below meth c s.heap [] 0 0 Q g := k _ _ hS
set_option maxHeartbeats 1000000 in
set_option maxRecDepth 100000 in
theorem cx_X6_exchangeT1 (l : Launch) (hst : l.stackTraces = false) (D : va_G) (cA : Nat → ClassId) (o : Nat → Int64) (ad ln : Nat → Nat) (n sz : Nat) (iv : Nat → Nat → Int32) (x1 x2 x3 : Int32) (mc9 : Nat) (hn : 68 ≤ n) (hln : ∀ k, ln k < 2 ^ 31) (hmc : iv 0 3 = nI mc9) (hmc6 : mc9 ≤ 6) (hbad : x1 < 0 ∨ ¬ x1 < nI mc9) : gMx l yX6_exchange (wsX6_exchange ++ atA) { frames := 8, cells := 1, slots := 6, locals := 116 } D cA o ad ln n sz iv [.ref (ad 0), .int x1, .int x2, .int x3] RJx00060 (nQi (gA cA o ad ln iv n sz)) := by
  refine vx_ofW (cc := cX6_exchange) (maxL := 4) (ret := (some .boolean)) (by decide) rfl ?_
  intro p e s m args below meth c s₁ B hml htab hv__
  obtain ⟨rfl, hv__, hX⟩ := hv__
  obtain ⟨hsz, hS, hK, hN, hA⟩ := gS.entry hv__
  have hx := B.exec
  have hb := B.bytes
  have hown : s.vm.findClass RX6 = some m.cls := findClass_of_methodNamed B.named
  have hts0 := atoms_spec (ws := wsX6_exchange ++ atA) B.pre
  have hts : ∀ w ∈ wsX6_exchange, w.before [.ref (ad 0), .int x1, .int x2, .int x3].toArray s = true := fun w hw => hts0 w (List.mem_append_left _ hw)
  have hRf : 8 ≤ (headSpec (wsX6_exchange ++ atA) { frames := 8, cells := 1, slots := 6, locals := 116 }).room.frames := Nat.le_refl _
  have hRl : 116 ≤ (headSpec (wsX6_exchange ++ atA) { frames := 8, cells := 1, slots := 6, locals := 116 }).room.locals := Nat.le_refl _
  have hRc : 0 ≤ (headSpec (wsX6_exchange ++ atA) { frames := 8, cells := 1, slots := 6, locals := 116 }).room.cells := Nat.zero_le _
  have hRs : 0 ≤ (headSpec (wsX6_exchange ++ atA) { frames := 8, cells := 1, slots := 6, locals := 116 }).room.slots := Nat.zero_le _
  have hl := lv_entry ([.ref (ad 0), .int x1, .int x2, .int x3]) (n := 4) (Nat.le_of_ble_eq_true rfl)
  rw [lg_entry_eq]
  generalize (lg_sl ([.ref (ad 0), .int x1, .int x2, .int x3]) ++ List.replicate (4 - (lg_sl ([.ref (ad 0), .int x1, .int x2, .int x3])).length) Slot.unset).toArray = ls at hl ⊢
  have hl : lv_has ls 4 [(0, .ref (ad 0)), (1, .int x1), (2, .int x2), (3, .int x3)] := hl
  refine gx_ent hS (fun H locs hS => ?_)
  refine lv_iload_n hx hb dX6_exchange_0 rfl (lv_at hl 1 rfl) ?_
  refine lv_aload_n hx hb dX6_exchange_1 rfl (lv_at hl 0 rfl) ?_
  refine gx_get (ci := 9) (v := .int (iv 0 3)) (C := RX6) (T := TX6) (N := 15) hx hb hts (fun _ h => inX6_exchange_RX6 h) hown hK hS 0 (by omega) rfl rfl 3 (by decide) (hts (.fieldLink RX6 90 "CosetTables" "moveCount" "I") (by decide +kernel)) rfl dX6_exchange_2 ?_
  refine gx_as (y := nI mc9) hmc ?_
  exact gx_reqX (x := x1) (b := nI mc9) ⟨hx, hb, hml, hown, hts0⟩ hst hK hN hX hS hA htab B.notSynchronized hbad (va_cwS 2 hts0 (atA_in gX6_exchange_X6_requireIndex) rfl rfl rfl (by decide +kernel) ⟨gle hRf rfl, gle hRl rfl⟩) hl.1 (lv_room (Nat.le_of_ble_eq_true rfl)) dX6_exchange_5 rfl rfl ⟨Nat.le_refl _, Nat.le_refl _⟩

set_option maxHeartbeats 1000000 in
set_option maxRecDepth 100000 in
theorem cx_X6_exchangeT2 (l : Launch) (hst : l.stackTraces = false) (D : va_G) (cA : Nat → ClassId) (o : Nat → Int64) (ad ln : Nat → Nat) (n sz : Nat) (iv : Nat → Nat → Int32) (x2 x3 : Int32) (m9 P mc9 : Nat) (hn : 68 ≤ n) (hln : ∀ k, ln k < 2 ^ 31) (hmc : iv 0 3 = nI mc9) (hmc6 : mc9 ≤ 6) (hP0 : iv 0 0 = nI P) (hP : P ≤ 8) (hm9 : m9 < mc9) (hbad : x2 < 0 ∨ ¬ x2 < nI P) : gMx l yX6_exchange (wsX6_exchange ++ atA) { frames := 8, cells := 1, slots := 6, locals := 116 } D cA o ad ln n sz iv [.ref (ad 0), .int (nI m9), .int x2, .int x3] RJx00060 (nQi (gA cA o ad ln iv n sz)) := by
  refine vx_ofW (cc := cX6_exchange) (maxL := 4) (ret := (some .boolean)) (by decide) rfl ?_
  intro p e s m args below meth c s₁ B hml htab hv__
  obtain ⟨rfl, hv__, hX⟩ := hv__
  obtain ⟨hsz, hS, hK, hN, hA⟩ := gS.entry hv__
  have hx := B.exec
  have hb := B.bytes
  have hown : s.vm.findClass RX6 = some m.cls := findClass_of_methodNamed B.named
  have hts0 := atoms_spec (ws := wsX6_exchange ++ atA) B.pre
  have hts : ∀ w ∈ wsX6_exchange, w.before [.ref (ad 0), .int (nI m9), .int x2, .int x3].toArray s = true := fun w hw => hts0 w (List.mem_append_left _ hw)
  have hRf : 8 ≤ (headSpec (wsX6_exchange ++ atA) { frames := 8, cells := 1, slots := 6, locals := 116 }).room.frames := Nat.le_refl _
  have hRl : 116 ≤ (headSpec (wsX6_exchange ++ atA) { frames := 8, cells := 1, slots := 6, locals := 116 }).room.locals := Nat.le_refl _
  have hRc : 0 ≤ (headSpec (wsX6_exchange ++ atA) { frames := 8, cells := 1, slots := 6, locals := 116 }).room.cells := Nat.zero_le _
  have hRs : 0 ≤ (headSpec (wsX6_exchange ++ atA) { frames := 8, cells := 1, slots := 6, locals := 116 }).room.slots := Nat.zero_le _
  have hl := lv_entry ([.ref (ad 0), .int (nI m9), .int x2, .int x3]) (n := 4) (Nat.le_of_ble_eq_true rfl)
  rw [lg_entry_eq]
  generalize (lg_sl ([.ref (ad 0), .int (nI m9), .int x2, .int x3]) ++ List.replicate (4 - (lg_sl ([.ref (ad 0), .int (nI m9), .int x2, .int x3])).length) Slot.unset).toArray = ls at hl ⊢
  have hl : lv_has ls 4 [(0, .ref (ad 0)), (1, .int (nI m9)), (2, .int x2), (3, .int x3)] := hl
  refine gx_ent hS (fun H locs hS => ?_)
  refine lv_iload_n hx hb dX6_exchange_0 rfl (lv_at hl 1 rfl) ?_
  refine lv_aload_n hx hb dX6_exchange_1 rfl (lv_at hl 0 rfl) ?_
  refine gx_get (ci := 9) (v := .int (iv 0 3)) (C := RX6) (T := TX6) (N := 15) hx hb hts (fun _ h => inX6_exchange_RX6 h) hown hK hS 0 (by omega) rfl rfl 3 (by decide) (hts (.fieldLink RX6 90 "CosetTables" "moveCount" "I") (by decide +kernel)) rfl dX6_exchange_2 ?_
  refine gx_as (y := nI mc9) hmc ?_
  refine gc_v (gx_runS (As := [.int (nI m9), .int (nI mc9)]) (rest := []) ⟨hx, hb, hml, hown, hts⟩ hK hN hS (ct_X6_requireIndex l D cA o ad ln n H.size iv (a := m9) (b := mc9) hn hln (by omega) (by omega)) (va_cwS 2 hts gX6_exchange_X6_requireIndex rfl rfl rfl (by decide +kernel) ⟨gle hRf rfl, gle hRl rfl⟩) rfl rfl hl.1 rfl (lv_room (Nat.le_of_ble_eq_true rfl)) dX6_exchange_5 ⟨hRc, hRs⟩) hS hA (fun iv1 H locs hp1 hS => ?_)
  rw [hp1] at hS
  skip
  refine lv_iload_n hx hb dX6_exchange_8 rfl (lv_at hl 2 rfl) ?_
  refine lv_aload_n hx hb dX6_exchange_9 rfl (lv_at hl 0 rfl) ?_
  refine gx_get (ci := 9) (v := .int (iv 0 0)) (C := RX6) (T := TX6) (N := 15) hx hb hts (fun _ h => inX6_exchange_RX6 h) hown hK hS 0 (by omega) rfl rfl 0 (by decide) (hts (.fieldLink RX6 16 "CosetTables" "places" "I") (by decide +kernel)) rfl dX6_exchange_10 ?_
  refine gx_as (y := nI P) hP0 ?_
  exact gx_reqX (x := x2) (b := nI P) ⟨hx, hb, hml, hown, hts0⟩ hst hK hN hX hS hA htab B.notSynchronized hbad (va_cwS 2 hts0 (atA_in gX6_exchange_X6_requireIndex) rfl rfl rfl (by decide +kernel) ⟨gle hRf rfl, gle hRl rfl⟩) hl.1 (lv_room (Nat.le_of_ble_eq_true rfl)) dX6_exchange_13 rfl rfl ⟨Nat.le_refl _, Nat.le_refl _⟩

set_option maxHeartbeats 1000000 in
set_option maxRecDepth 100000 in
theorem cx_X6_exchangeT3 (l : Launch) (hst : l.stackTraces = false) (D : va_G) (cA : Nat → ClassId) (o : Nat → Int64) (ad ln : Nat → Nat) (n sz : Nat) (iv : Nat → Nat → Int32) (x3 : Int32) (m9 a P mc9 : Nat) (hn : 68 ≤ n) (hln : ∀ k, ln k < 2 ^ 31) (hmc : iv 0 3 = nI mc9) (hmc6 : mc9 ≤ 6) (hP0 : iv 0 0 = nI P) (hP : P ≤ 8) (hm9 : m9 < mc9) (ha9 : a < P) (hbad : x3 < 0 ∨ ¬ x3 < nI P) : gMx l yX6_exchange (wsX6_exchange ++ atA) { frames := 8, cells := 1, slots := 6, locals := 116 } D cA o ad ln n sz iv [.ref (ad 0), .int (nI m9), .int (nI a), .int x3] RJx00060 (nQi (gA cA o ad ln iv n sz)) := by
  refine vx_ofW (cc := cX6_exchange) (maxL := 4) (ret := (some .boolean)) (by decide) rfl ?_
  intro p e s m args below meth c s₁ B hml htab hv__
  obtain ⟨rfl, hv__, hX⟩ := hv__
  obtain ⟨hsz, hS, hK, hN, hA⟩ := gS.entry hv__
  have hx := B.exec
  have hb := B.bytes
  have hown : s.vm.findClass RX6 = some m.cls := findClass_of_methodNamed B.named
  have hts0 := atoms_spec (ws := wsX6_exchange ++ atA) B.pre
  have hts : ∀ w ∈ wsX6_exchange, w.before [.ref (ad 0), .int (nI m9), .int (nI a), .int x3].toArray s = true := fun w hw => hts0 w (List.mem_append_left _ hw)
  have hRf : 8 ≤ (headSpec (wsX6_exchange ++ atA) { frames := 8, cells := 1, slots := 6, locals := 116 }).room.frames := Nat.le_refl _
  have hRl : 116 ≤ (headSpec (wsX6_exchange ++ atA) { frames := 8, cells := 1, slots := 6, locals := 116 }).room.locals := Nat.le_refl _
  have hRc : 0 ≤ (headSpec (wsX6_exchange ++ atA) { frames := 8, cells := 1, slots := 6, locals := 116 }).room.cells := Nat.zero_le _
  have hRs : 0 ≤ (headSpec (wsX6_exchange ++ atA) { frames := 8, cells := 1, slots := 6, locals := 116 }).room.slots := Nat.zero_le _
  have hl := lv_entry ([.ref (ad 0), .int (nI m9), .int (nI a), .int x3]) (n := 4) (Nat.le_of_ble_eq_true rfl)
  rw [lg_entry_eq]
  generalize (lg_sl ([.ref (ad 0), .int (nI m9), .int (nI a), .int x3]) ++ List.replicate (4 - (lg_sl ([.ref (ad 0), .int (nI m9), .int (nI a), .int x3])).length) Slot.unset).toArray = ls at hl ⊢
  have hl : lv_has ls 4 [(0, .ref (ad 0)), (1, .int (nI m9)), (2, .int (nI a)), (3, .int x3)] := hl
  refine gx_ent hS (fun H locs hS => ?_)
  refine lv_iload_n hx hb dX6_exchange_0 rfl (lv_at hl 1 rfl) ?_
  refine lv_aload_n hx hb dX6_exchange_1 rfl (lv_at hl 0 rfl) ?_
  refine gx_get (ci := 9) (v := .int (iv 0 3)) (C := RX6) (T := TX6) (N := 15) hx hb hts (fun _ h => inX6_exchange_RX6 h) hown hK hS 0 (by omega) rfl rfl 3 (by decide) (hts (.fieldLink RX6 90 "CosetTables" "moveCount" "I") (by decide +kernel)) rfl dX6_exchange_2 ?_
  refine gx_as (y := nI mc9) hmc ?_
  refine gc_v (gx_runS (As := [.int (nI m9), .int (nI mc9)]) (rest := []) ⟨hx, hb, hml, hown, hts⟩ hK hN hS (ct_X6_requireIndex l D cA o ad ln n H.size iv (a := m9) (b := mc9) hn hln (by omega) (by omega)) (va_cwS 2 hts gX6_exchange_X6_requireIndex rfl rfl rfl (by decide +kernel) ⟨gle hRf rfl, gle hRl rfl⟩) rfl rfl hl.1 rfl (lv_room (Nat.le_of_ble_eq_true rfl)) dX6_exchange_5 ⟨hRc, hRs⟩) hS hA (fun iv1 H locs hp1 hS => ?_)
  rw [hp1] at hS
  skip
  refine lv_iload_n hx hb dX6_exchange_8 rfl (lv_at hl 2 rfl) ?_
  refine lv_aload_n hx hb dX6_exchange_9 rfl (lv_at hl 0 rfl) ?_
  refine gx_get (ci := 9) (v := .int (iv 0 0)) (C := RX6) (T := TX6) (N := 15) hx hb hts (fun _ h => inX6_exchange_RX6 h) hown hK hS 0 (by omega) rfl rfl 0 (by decide) (hts (.fieldLink RX6 16 "CosetTables" "places" "I") (by decide +kernel)) rfl dX6_exchange_10 ?_
  refine gx_as (y := nI P) hP0 ?_
  refine gc_v (gx_runS (As := [.int (nI a), .int (nI P)]) (rest := []) ⟨hx, hb, hml, hown, hts⟩ hK hN hS (ct_X6_requireIndex l D cA o ad ln n H.size iv (a := a) (b := P) hn hln (by omega) (by omega)) (va_cwS 2 hts gX6_exchange_X6_requireIndex rfl rfl rfl (by decide +kernel) ⟨gle hRf rfl, gle hRl rfl⟩) rfl rfl hl.1 rfl (lv_room (Nat.le_of_ble_eq_true rfl)) dX6_exchange_13 ⟨hRc, hRs⟩) hS hA (fun iv2 H locs hp2 hS => ?_)
  rw [hp2] at hS
  skip
  refine lv_iload_n hx hb dX6_exchange_16 rfl (lv_at hl 3 rfl) ?_
  refine lv_aload_n hx hb dX6_exchange_17 rfl (lv_at hl 0 rfl) ?_
  refine gx_get (ci := 9) (v := .int (iv 0 0)) (C := RX6) (T := TX6) (N := 15) hx hb hts (fun _ h => inX6_exchange_RX6 h) hown hK hS 0 (by omega) rfl rfl 0 (by decide) (hts (.fieldLink RX6 16 "CosetTables" "places" "I") (by decide +kernel)) rfl dX6_exchange_18 ?_
  refine gx_as (y := nI P) hP0 ?_
  exact gx_reqX (x := x3) (b := nI P) ⟨hx, hb, hml, hown, hts0⟩ hst hK hN hX hS hA htab B.notSynchronized hbad (va_cwS 2 hts0 (atA_in gX6_exchange_X6_requireIndex) rfl rfl rfl (by decide +kernel) ⟨gle hRf rfl, gle hRl rfl⟩) hl.1 (lv_room (Nat.le_of_ble_eq_true rfl)) dX6_exchange_21 rfl rfl ⟨Nat.le_refl _, Nat.le_refl _⟩

set_option maxHeartbeats 1000000 in
set_option maxRecDepth 100000 in
theorem cx_X6_turnT1 (l : Launch) (hst : l.stackTraces = false) (D : va_G) (cA : Nat → ClassId) (o : Nat → Int64) (ad ln : Nat → Nat) (n sz : Nat) (iv : Nat → Nat → Int32) (x1 x2 x3 : Int32) (sc9 : Nat) (hn : 68 ≤ n) (hln : ∀ k, ln k < 2 ^ 31) (hmc : iv 0 5 = nI sc9) (hmc6 : sc9 ≤ 4) (hbad : x1 < 0 ∨ ¬ x1 < nI sc9) : gMx l yX6_turn (wsX6_turn ++ atA) { frames := 8, cells := 1, slots := 6, locals := 116 } D cA o ad ln n sz iv [.ref (ad 0), .int x1, .int x2, .int x3] RJx00060 (nQi (gA cA o ad ln iv n sz)) := by
  refine vx_ofW (cc := cX6_turn) (maxL := 4) (ret := (some .boolean)) (by decide) rfl ?_
  intro p e s m args below meth c s₁ B hml htab hv__
  obtain ⟨rfl, hv__, hX⟩ := hv__
  obtain ⟨hsz, hS, hK, hN, hA⟩ := gS.entry hv__
  have hx := B.exec
  have hb := B.bytes
  have hown : s.vm.findClass RX6 = some m.cls := findClass_of_methodNamed B.named
  have hts0 := atoms_spec (ws := wsX6_turn ++ atA) B.pre
  have hts : ∀ w ∈ wsX6_turn, w.before [.ref (ad 0), .int x1, .int x2, .int x3].toArray s = true := fun w hw => hts0 w (List.mem_append_left _ hw)
  have hRf : 8 ≤ (headSpec (wsX6_turn ++ atA) { frames := 8, cells := 1, slots := 6, locals := 116 }).room.frames := Nat.le_refl _
  have hRl : 116 ≤ (headSpec (wsX6_turn ++ atA) { frames := 8, cells := 1, slots := 6, locals := 116 }).room.locals := Nat.le_refl _
  have hRc : 0 ≤ (headSpec (wsX6_turn ++ atA) { frames := 8, cells := 1, slots := 6, locals := 116 }).room.cells := Nat.zero_le _
  have hRs : 0 ≤ (headSpec (wsX6_turn ++ atA) { frames := 8, cells := 1, slots := 6, locals := 116 }).room.slots := Nat.zero_le _
  have hl := lv_entry ([.ref (ad 0), .int x1, .int x2, .int x3]) (n := 4) (Nat.le_of_ble_eq_true rfl)
  rw [lg_entry_eq]
  generalize (lg_sl ([.ref (ad 0), .int x1, .int x2, .int x3]) ++ List.replicate (4 - (lg_sl ([.ref (ad 0), .int x1, .int x2, .int x3])).length) Slot.unset).toArray = ls at hl ⊢
  have hl : lv_has ls 4 [(0, .ref (ad 0)), (1, .int x1), (2, .int x2), (3, .int x3)] := hl
  refine gx_ent hS (fun H locs hS => ?_)
  refine lv_iload_n hx hb dX6_turn_0 rfl (lv_at hl 1 rfl) ?_
  refine lv_aload_n hx hb dX6_turn_1 rfl (lv_at hl 0 rfl) ?_
  refine gx_get (ci := 9) (v := .int (iv 0 5)) (C := RX6) (T := TX6) (N := 15) hx hb hts (fun _ h => inX6_turn_RX6 h) hown hK hS 0 (by omega) rfl rfl 5 (by decide) (hts (.fieldLink RX6 200 "CosetTables" "symmetryCount" "I") (by decide +kernel)) rfl dX6_turn_2 ?_
  refine gx_as (y := nI sc9) hmc ?_
  exact gx_reqX (x := x1) (b := nI sc9) ⟨hx, hb, hml, hown, hts0⟩ hst hK hN hX hS hA htab B.notSynchronized hbad (va_cwS 2 hts0 (atA_in gX6_turn_X6_requireIndex) rfl rfl rfl (by decide +kernel) ⟨gle hRf rfl, gle hRl rfl⟩) hl.1 (lv_room (Nat.le_of_ble_eq_true rfl)) dX6_turn_5 rfl rfl ⟨Nat.le_refl _, Nat.le_refl _⟩

set_option maxHeartbeats 1000000 in
set_option maxRecDepth 100000 in
theorem cx_X6_turnT2 (l : Launch) (hst : l.stackTraces = false) (D : va_G) (cA : Nat → ClassId) (o : Nat → Int64) (ad ln : Nat → Nat) (n sz : Nat) (iv : Nat → Nat → Int32) (x2 x3 : Int32) (m9 P sc9 : Nat) (hn : 68 ≤ n) (hln : ∀ k, ln k < 2 ^ 31) (hmc : iv 0 5 = nI sc9) (hmc6 : sc9 ≤ 4) (hP0 : iv 0 0 = nI P) (hP : P ≤ 8) (hm9 : m9 < sc9) (hbad : x2 < 0 ∨ ¬ x2 < nI P) : gMx l yX6_turn (wsX6_turn ++ atA) { frames := 8, cells := 1, slots := 6, locals := 116 } D cA o ad ln n sz iv [.ref (ad 0), .int (nI m9), .int x2, .int x3] RJx00060 (nQi (gA cA o ad ln iv n sz)) := by
  refine vx_ofW (cc := cX6_turn) (maxL := 4) (ret := (some .boolean)) (by decide) rfl ?_
  intro p e s m args below meth c s₁ B hml htab hv__
  obtain ⟨rfl, hv__, hX⟩ := hv__
  obtain ⟨hsz, hS, hK, hN, hA⟩ := gS.entry hv__
  have hx := B.exec
  have hb := B.bytes
  have hown : s.vm.findClass RX6 = some m.cls := findClass_of_methodNamed B.named
  have hts0 := atoms_spec (ws := wsX6_turn ++ atA) B.pre
  have hts : ∀ w ∈ wsX6_turn, w.before [.ref (ad 0), .int (nI m9), .int x2, .int x3].toArray s = true := fun w hw => hts0 w (List.mem_append_left _ hw)
  have hRf : 8 ≤ (headSpec (wsX6_turn ++ atA) { frames := 8, cells := 1, slots := 6, locals := 116 }).room.frames := Nat.le_refl _
  have hRl : 116 ≤ (headSpec (wsX6_turn ++ atA) { frames := 8, cells := 1, slots := 6, locals := 116 }).room.locals := Nat.le_refl _
  have hRc : 0 ≤ (headSpec (wsX6_turn ++ atA) { frames := 8, cells := 1, slots := 6, locals := 116 }).room.cells := Nat.zero_le _
  have hRs : 0 ≤ (headSpec (wsX6_turn ++ atA) { frames := 8, cells := 1, slots := 6, locals := 116 }).room.slots := Nat.zero_le _
  have hl := lv_entry ([.ref (ad 0), .int (nI m9), .int x2, .int x3]) (n := 4) (Nat.le_of_ble_eq_true rfl)
  rw [lg_entry_eq]
  generalize (lg_sl ([.ref (ad 0), .int (nI m9), .int x2, .int x3]) ++ List.replicate (4 - (lg_sl ([.ref (ad 0), .int (nI m9), .int x2, .int x3])).length) Slot.unset).toArray = ls at hl ⊢
  have hl : lv_has ls 4 [(0, .ref (ad 0)), (1, .int (nI m9)), (2, .int x2), (3, .int x3)] := hl
  refine gx_ent hS (fun H locs hS => ?_)
  refine lv_iload_n hx hb dX6_turn_0 rfl (lv_at hl 1 rfl) ?_
  refine lv_aload_n hx hb dX6_turn_1 rfl (lv_at hl 0 rfl) ?_
  refine gx_get (ci := 9) (v := .int (iv 0 5)) (C := RX6) (T := TX6) (N := 15) hx hb hts (fun _ h => inX6_turn_RX6 h) hown hK hS 0 (by omega) rfl rfl 5 (by decide) (hts (.fieldLink RX6 200 "CosetTables" "symmetryCount" "I") (by decide +kernel)) rfl dX6_turn_2 ?_
  refine gx_as (y := nI sc9) hmc ?_
  refine gc_v (gx_runS (As := [.int (nI m9), .int (nI sc9)]) (rest := []) ⟨hx, hb, hml, hown, hts⟩ hK hN hS (ct_X6_requireIndex l D cA o ad ln n H.size iv (a := m9) (b := sc9) hn hln (by omega) (by omega)) (va_cwS 2 hts gX6_turn_X6_requireIndex rfl rfl rfl (by decide +kernel) ⟨gle hRf rfl, gle hRl rfl⟩) rfl rfl hl.1 rfl (lv_room (Nat.le_of_ble_eq_true rfl)) dX6_turn_5 ⟨hRc, hRs⟩) hS hA (fun iv1 H locs hp1 hS => ?_)
  rw [hp1] at hS
  skip
  refine lv_iload_n hx hb dX6_turn_8 rfl (lv_at hl 2 rfl) ?_
  refine lv_aload_n hx hb dX6_turn_9 rfl (lv_at hl 0 rfl) ?_
  refine gx_get (ci := 9) (v := .int (iv 0 0)) (C := RX6) (T := TX6) (N := 15) hx hb hts (fun _ h => inX6_turn_RX6 h) hown hK hS 0 (by omega) rfl rfl 0 (by decide) (hts (.fieldLink RX6 16 "CosetTables" "places" "I") (by decide +kernel)) rfl dX6_turn_10 ?_
  refine gx_as (y := nI P) hP0 ?_
  exact gx_reqX (x := x2) (b := nI P) ⟨hx, hb, hml, hown, hts0⟩ hst hK hN hX hS hA htab B.notSynchronized hbad (va_cwS 2 hts0 (atA_in gX6_turn_X6_requireIndex) rfl rfl rfl (by decide +kernel) ⟨gle hRf rfl, gle hRl rfl⟩) hl.1 (lv_room (Nat.le_of_ble_eq_true rfl)) dX6_turn_13 rfl rfl ⟨Nat.le_refl _, Nat.le_refl _⟩

set_option maxHeartbeats 1000000 in
set_option maxRecDepth 100000 in
theorem cx_X6_turnT3 (l : Launch) (hst : l.stackTraces = false) (D : va_G) (cA : Nat → ClassId) (o : Nat → Int64) (ad ln : Nat → Nat) (n sz : Nat) (iv : Nat → Nat → Int32) (x3 : Int32) (m9 a P sc9 : Nat) (hn : 68 ≤ n) (hln : ∀ k, ln k < 2 ^ 31) (hmc : iv 0 5 = nI sc9) (hmc6 : sc9 ≤ 4) (hP0 : iv 0 0 = nI P) (hP : P ≤ 8) (hm9 : m9 < sc9) (ha9 : a < P) (hbad : x3 < 0 ∨ ¬ x3 < nI P) : gMx l yX6_turn (wsX6_turn ++ atA) { frames := 8, cells := 1, slots := 6, locals := 116 } D cA o ad ln n sz iv [.ref (ad 0), .int (nI m9), .int (nI a), .int x3] RJx00060 (nQi (gA cA o ad ln iv n sz)) := by
  refine vx_ofW (cc := cX6_turn) (maxL := 4) (ret := (some .boolean)) (by decide) rfl ?_
  intro p e s m args below meth c s₁ B hml htab hv__
  obtain ⟨rfl, hv__, hX⟩ := hv__
  obtain ⟨hsz, hS, hK, hN, hA⟩ := gS.entry hv__
  have hx := B.exec
  have hb := B.bytes
  have hown : s.vm.findClass RX6 = some m.cls := findClass_of_methodNamed B.named
  have hts0 := atoms_spec (ws := wsX6_turn ++ atA) B.pre
  have hts : ∀ w ∈ wsX6_turn, w.before [.ref (ad 0), .int (nI m9), .int (nI a), .int x3].toArray s = true := fun w hw => hts0 w (List.mem_append_left _ hw)
  have hRf : 8 ≤ (headSpec (wsX6_turn ++ atA) { frames := 8, cells := 1, slots := 6, locals := 116 }).room.frames := Nat.le_refl _
  have hRl : 116 ≤ (headSpec (wsX6_turn ++ atA) { frames := 8, cells := 1, slots := 6, locals := 116 }).room.locals := Nat.le_refl _
  have hRc : 0 ≤ (headSpec (wsX6_turn ++ atA) { frames := 8, cells := 1, slots := 6, locals := 116 }).room.cells := Nat.zero_le _
  have hRs : 0 ≤ (headSpec (wsX6_turn ++ atA) { frames := 8, cells := 1, slots := 6, locals := 116 }).room.slots := Nat.zero_le _
  have hl := lv_entry ([.ref (ad 0), .int (nI m9), .int (nI a), .int x3]) (n := 4) (Nat.le_of_ble_eq_true rfl)
  rw [lg_entry_eq]
  generalize (lg_sl ([.ref (ad 0), .int (nI m9), .int (nI a), .int x3]) ++ List.replicate (4 - (lg_sl ([.ref (ad 0), .int (nI m9), .int (nI a), .int x3])).length) Slot.unset).toArray = ls at hl ⊢
  have hl : lv_has ls 4 [(0, .ref (ad 0)), (1, .int (nI m9)), (2, .int (nI a)), (3, .int x3)] := hl
  refine gx_ent hS (fun H locs hS => ?_)
  refine lv_iload_n hx hb dX6_turn_0 rfl (lv_at hl 1 rfl) ?_
  refine lv_aload_n hx hb dX6_turn_1 rfl (lv_at hl 0 rfl) ?_
  refine gx_get (ci := 9) (v := .int (iv 0 5)) (C := RX6) (T := TX6) (N := 15) hx hb hts (fun _ h => inX6_turn_RX6 h) hown hK hS 0 (by omega) rfl rfl 5 (by decide) (hts (.fieldLink RX6 200 "CosetTables" "symmetryCount" "I") (by decide +kernel)) rfl dX6_turn_2 ?_
  refine gx_as (y := nI sc9) hmc ?_
  refine gc_v (gx_runS (As := [.int (nI m9), .int (nI sc9)]) (rest := []) ⟨hx, hb, hml, hown, hts⟩ hK hN hS (ct_X6_requireIndex l D cA o ad ln n H.size iv (a := m9) (b := sc9) hn hln (by omega) (by omega)) (va_cwS 2 hts gX6_turn_X6_requireIndex rfl rfl rfl (by decide +kernel) ⟨gle hRf rfl, gle hRl rfl⟩) rfl rfl hl.1 rfl (lv_room (Nat.le_of_ble_eq_true rfl)) dX6_turn_5 ⟨hRc, hRs⟩) hS hA (fun iv1 H locs hp1 hS => ?_)
  rw [hp1] at hS
  skip
  refine lv_iload_n hx hb dX6_turn_8 rfl (lv_at hl 2 rfl) ?_
  refine lv_aload_n hx hb dX6_turn_9 rfl (lv_at hl 0 rfl) ?_
  refine gx_get (ci := 9) (v := .int (iv 0 0)) (C := RX6) (T := TX6) (N := 15) hx hb hts (fun _ h => inX6_turn_RX6 h) hown hK hS 0 (by omega) rfl rfl 0 (by decide) (hts (.fieldLink RX6 16 "CosetTables" "places" "I") (by decide +kernel)) rfl dX6_turn_10 ?_
  refine gx_as (y := nI P) hP0 ?_
  refine gc_v (gx_runS (As := [.int (nI a), .int (nI P)]) (rest := []) ⟨hx, hb, hml, hown, hts⟩ hK hN hS (ct_X6_requireIndex l D cA o ad ln n H.size iv (a := a) (b := P) hn hln (by omega) (by omega)) (va_cwS 2 hts gX6_turn_X6_requireIndex rfl rfl rfl (by decide +kernel) ⟨gle hRf rfl, gle hRl rfl⟩) rfl rfl hl.1 rfl (lv_room (Nat.le_of_ble_eq_true rfl)) dX6_turn_13 ⟨hRc, hRs⟩) hS hA (fun iv2 H locs hp2 hS => ?_)
  rw [hp2] at hS
  skip
  refine lv_iload_n hx hb dX6_turn_16 rfl (lv_at hl 3 rfl) ?_
  refine lv_aload_n hx hb dX6_turn_17 rfl (lv_at hl 0 rfl) ?_
  refine gx_get (ci := 9) (v := .int (iv 0 0)) (C := RX6) (T := TX6) (N := 15) hx hb hts (fun _ h => inX6_turn_RX6 h) hown hK hS 0 (by omega) rfl rfl 0 (by decide) (hts (.fieldLink RX6 16 "CosetTables" "places" "I") (by decide +kernel)) rfl dX6_turn_18 ?_
  refine gx_as (y := nI P) hP0 ?_
  exact gx_reqX (x := x3) (b := nI P) ⟨hx, hb, hml, hown, hts0⟩ hst hK hN hX hS hA htab B.notSynchronized hbad (va_cwS 2 hts0 (atA_in gX6_turn_X6_requireIndex) rfl rfl rfl (by decide +kernel) ⟨gle hRf rfl, gle hRl rfl⟩) hl.1 (lv_room (Nat.le_of_ble_eq_true rfl)) dX6_turn_21 rfl rfl ⟨Nat.le_refl _, Nat.le_refl _⟩

set_option maxHeartbeats 1000000 in
set_option maxRecDepth 100000 in
theorem cx_X6_addsT1 (l : Launch) (hst : l.stackTraces = false) (D : va_G) (cA : Nat → ClassId) (o : Nat → Int64) (ad ln : Nat → Nat) (n sz : Nat) (iv : Nat → Nat → Int32) (x1 x2 x3 : Int32) (mc9 : Nat) (hn : 68 ≤ n) (hln : ∀ k, ln k < 2 ^ 31) (hmc : iv 0 3 = nI mc9) (hmc6 : mc9 ≤ 6) (hbad : x1 < 0 ∨ ¬ x1 < nI mc9) : gMx l yX6_adds (wsX6_adds ++ atA) { frames := 8, cells := 1, slots := 6, locals := 116 } D cA o ad ln n sz iv [.ref (ad 0), .int x1, .int x2, .int x3] RJx00060 (nQi (gA cA o ad ln iv n sz)) := by
  refine vx_ofW (cc := cX6_adds) (maxL := 4) (ret := (some .boolean)) (by decide) rfl ?_
  intro p e s m args below meth c s₁ B hml htab hv__
  obtain ⟨rfl, hv__, hX⟩ := hv__
  obtain ⟨hsz, hS, hK, hN, hA⟩ := gS.entry hv__
  have hx := B.exec
  have hb := B.bytes
  have hown : s.vm.findClass RX6 = some m.cls := findClass_of_methodNamed B.named
  have hts0 := atoms_spec (ws := wsX6_adds ++ atA) B.pre
  have hts : ∀ w ∈ wsX6_adds, w.before [.ref (ad 0), .int x1, .int x2, .int x3].toArray s = true := fun w hw => hts0 w (List.mem_append_left _ hw)
  have hRf : 8 ≤ (headSpec (wsX6_adds ++ atA) { frames := 8, cells := 1, slots := 6, locals := 116 }).room.frames := Nat.le_refl _
  have hRl : 116 ≤ (headSpec (wsX6_adds ++ atA) { frames := 8, cells := 1, slots := 6, locals := 116 }).room.locals := Nat.le_refl _
  have hRc : 0 ≤ (headSpec (wsX6_adds ++ atA) { frames := 8, cells := 1, slots := 6, locals := 116 }).room.cells := Nat.zero_le _
  have hRs : 0 ≤ (headSpec (wsX6_adds ++ atA) { frames := 8, cells := 1, slots := 6, locals := 116 }).room.slots := Nat.zero_le _
  have hl := lv_entry ([.ref (ad 0), .int x1, .int x2, .int x3]) (n := 4) (Nat.le_of_ble_eq_true rfl)
  rw [lg_entry_eq]
  generalize (lg_sl ([.ref (ad 0), .int x1, .int x2, .int x3]) ++ List.replicate (4 - (lg_sl ([.ref (ad 0), .int x1, .int x2, .int x3])).length) Slot.unset).toArray = ls at hl ⊢
  have hl : lv_has ls 4 [(0, .ref (ad 0)), (1, .int x1), (2, .int x2), (3, .int x3)] := hl
  refine gx_ent hS (fun H locs hS => ?_)
  refine lv_iload_n hx hb dX6_adds_0 rfl (lv_at hl 1 rfl) ?_
  refine lv_aload_n hx hb dX6_adds_1 rfl (lv_at hl 0 rfl) ?_
  refine gx_get (ci := 9) (v := .int (iv 0 3)) (C := RX6) (T := TX6) (N := 15) hx hb hts (fun _ h => inX6_adds_RX6 h) hown hK hS 0 (by omega) rfl rfl 3 (by decide) (hts (.fieldLink RX6 90 "CosetTables" "moveCount" "I") (by decide +kernel)) rfl dX6_adds_2 ?_
  refine gx_as (y := nI mc9) hmc ?_
  exact gx_reqX (x := x1) (b := nI mc9) ⟨hx, hb, hml, hown, hts0⟩ hst hK hN hX hS hA htab B.notSynchronized hbad (va_cwS 2 hts0 (atA_in gX6_adds_X6_requireIndex) rfl rfl rfl (by decide +kernel) ⟨gle hRf rfl, gle hRl rfl⟩) hl.1 (lv_room (Nat.le_of_ble_eq_true rfl)) dX6_adds_5 rfl rfl ⟨Nat.le_refl _, Nat.le_refl _⟩

set_option maxHeartbeats 1000000 in
set_option maxRecDepth 100000 in
theorem cx_X6_addsT2 (l : Launch) (hst : l.stackTraces = false) (D : va_G) (cA : Nat → ClassId) (o : Nat → Int64) (ad ln : Nat → Nat) (n sz : Nat) (iv : Nat → Nat → Int32) (x2 x3 : Int32) (m9 P mc9 : Nat) (hn : 68 ≤ n) (hln : ∀ k, ln k < 2 ^ 31) (hmc : iv 0 3 = nI mc9) (hmc6 : mc9 ≤ 6) (hP0 : iv 0 0 = nI P) (hP : P ≤ 8) (hm9 : m9 < mc9) (hbad : x2 < 0 ∨ ¬ x2 < nI P) : gMx l yX6_adds (wsX6_adds ++ atA) { frames := 8, cells := 1, slots := 6, locals := 116 } D cA o ad ln n sz iv [.ref (ad 0), .int (nI m9), .int x2, .int x3] RJx00060 (nQi (gA cA o ad ln iv n sz)) := by
  refine vx_ofW (cc := cX6_adds) (maxL := 4) (ret := (some .boolean)) (by decide) rfl ?_
  intro p e s m args below meth c s₁ B hml htab hv__
  obtain ⟨rfl, hv__, hX⟩ := hv__
  obtain ⟨hsz, hS, hK, hN, hA⟩ := gS.entry hv__
  have hx := B.exec
  have hb := B.bytes
  have hown : s.vm.findClass RX6 = some m.cls := findClass_of_methodNamed B.named
  have hts0 := atoms_spec (ws := wsX6_adds ++ atA) B.pre
  have hts : ∀ w ∈ wsX6_adds, w.before [.ref (ad 0), .int (nI m9), .int x2, .int x3].toArray s = true := fun w hw => hts0 w (List.mem_append_left _ hw)
  have hRf : 8 ≤ (headSpec (wsX6_adds ++ atA) { frames := 8, cells := 1, slots := 6, locals := 116 }).room.frames := Nat.le_refl _
  have hRl : 116 ≤ (headSpec (wsX6_adds ++ atA) { frames := 8, cells := 1, slots := 6, locals := 116 }).room.locals := Nat.le_refl _
  have hRc : 0 ≤ (headSpec (wsX6_adds ++ atA) { frames := 8, cells := 1, slots := 6, locals := 116 }).room.cells := Nat.zero_le _
  have hRs : 0 ≤ (headSpec (wsX6_adds ++ atA) { frames := 8, cells := 1, slots := 6, locals := 116 }).room.slots := Nat.zero_le _
  have hl := lv_entry ([.ref (ad 0), .int (nI m9), .int x2, .int x3]) (n := 4) (Nat.le_of_ble_eq_true rfl)
  rw [lg_entry_eq]
  generalize (lg_sl ([.ref (ad 0), .int (nI m9), .int x2, .int x3]) ++ List.replicate (4 - (lg_sl ([.ref (ad 0), .int (nI m9), .int x2, .int x3])).length) Slot.unset).toArray = ls at hl ⊢
  have hl : lv_has ls 4 [(0, .ref (ad 0)), (1, .int (nI m9)), (2, .int x2), (3, .int x3)] := hl
  refine gx_ent hS (fun H locs hS => ?_)
  refine lv_iload_n hx hb dX6_adds_0 rfl (lv_at hl 1 rfl) ?_
  refine lv_aload_n hx hb dX6_adds_1 rfl (lv_at hl 0 rfl) ?_
  refine gx_get (ci := 9) (v := .int (iv 0 3)) (C := RX6) (T := TX6) (N := 15) hx hb hts (fun _ h => inX6_adds_RX6 h) hown hK hS 0 (by omega) rfl rfl 3 (by decide) (hts (.fieldLink RX6 90 "CosetTables" "moveCount" "I") (by decide +kernel)) rfl dX6_adds_2 ?_
  refine gx_as (y := nI mc9) hmc ?_
  refine gc_v (gx_runS (As := [.int (nI m9), .int (nI mc9)]) (rest := []) ⟨hx, hb, hml, hown, hts⟩ hK hN hS (ct_X6_requireIndex l D cA o ad ln n H.size iv (a := m9) (b := mc9) hn hln (by omega) (by omega)) (va_cwS 2 hts gX6_adds_X6_requireIndex rfl rfl rfl (by decide +kernel) ⟨gle hRf rfl, gle hRl rfl⟩) rfl rfl hl.1 rfl (lv_room (Nat.le_of_ble_eq_true rfl)) dX6_adds_5 ⟨hRc, hRs⟩) hS hA (fun iv1 H locs hp1 hS => ?_)
  rw [hp1] at hS
  skip
  refine lv_iload_n hx hb dX6_adds_8 rfl (lv_at hl 2 rfl) ?_
  refine lv_aload_n hx hb dX6_adds_9 rfl (lv_at hl 0 rfl) ?_
  refine gx_get (ci := 9) (v := .int (iv 0 0)) (C := RX6) (T := TX6) (N := 15) hx hb hts (fun _ h => inX6_adds_RX6 h) hown hK hS 0 (by omega) rfl rfl 0 (by decide) (hts (.fieldLink RX6 16 "CosetTables" "places" "I") (by decide +kernel)) rfl dX6_adds_10 ?_
  refine gx_as (y := nI P) hP0 ?_
  exact gx_reqX (x := x2) (b := nI P) ⟨hx, hb, hml, hown, hts0⟩ hst hK hN hX hS hA htab B.notSynchronized hbad (va_cwS 2 hts0 (atA_in gX6_adds_X6_requireIndex) rfl rfl rfl (by decide +kernel) ⟨gle hRf rfl, gle hRl rfl⟩) hl.1 (lv_room (Nat.le_of_ble_eq_true rfl)) dX6_adds_13 rfl rfl ⟨Nat.le_refl _, Nat.le_refl _⟩

set_option maxHeartbeats 1000000 in
set_option maxRecDepth 100000 in
theorem cx_X6_addsT3 (l : Launch) (hst : l.stackTraces = false) (D : va_G) (cA : Nat → ClassId) (o : Nat → Int64) (ad ln : Nat → Nat) (n sz : Nat) (iv : Nat → Nat → Int32) (x3 : Int32) (m9 a P T mc9 : Nat) (hn : 68 ≤ n) (hln : ∀ k, ln k < 2 ^ 31) (hmc : iv 0 3 = nI mc9) (hmc6 : mc9 ≤ 6) (hP0 : iv 0 0 = nI P) (hP : P ≤ 8) (hT : iv 0 1 = nI T) (hm9 : m9 < mc9) (ha9 : a < P) (hbad : x3 < 0 ∨ ¬ x3 < nI T) : gMx l yX6_adds (wsX6_adds ++ atA) { frames := 8, cells := 1, slots := 6, locals := 116 } D cA o ad ln n sz iv [.ref (ad 0), .int (nI m9), .int (nI a), .int x3] RIA (nQi (gA cA o ad ln iv n sz)) := by
  refine vx_ofW (cc := cX6_adds) (maxL := 4) (ret := (some .boolean)) (by decide) rfl ?_
  intro p e s m args below meth c s₁ B hml htab hv__
  obtain ⟨rfl, hv__, hX⟩ := hv__
  obtain ⟨hsz, hS, hK, hN, hA⟩ := gS.entry hv__
  have hx := B.exec
  have hb := B.bytes
  have hown : s.vm.findClass RX6 = some m.cls := findClass_of_methodNamed B.named
  have hts0 := atoms_spec (ws := wsX6_adds ++ atA) B.pre
  have hts : ∀ w ∈ wsX6_adds, w.before [.ref (ad 0), .int (nI m9), .int (nI a), .int x3].toArray s = true := fun w hw => hts0 w (List.mem_append_left _ hw)
  have hRf : 8 ≤ (headSpec (wsX6_adds ++ atA) { frames := 8, cells := 1, slots := 6, locals := 116 }).room.frames := Nat.le_refl _
  have hRl : 116 ≤ (headSpec (wsX6_adds ++ atA) { frames := 8, cells := 1, slots := 6, locals := 116 }).room.locals := Nat.le_refl _
  have hRc : 0 ≤ (headSpec (wsX6_adds ++ atA) { frames := 8, cells := 1, slots := 6, locals := 116 }).room.cells := Nat.zero_le _
  have hRs : 0 ≤ (headSpec (wsX6_adds ++ atA) { frames := 8, cells := 1, slots := 6, locals := 116 }).room.slots := Nat.zero_le _
  have hl := lv_entry ([.ref (ad 0), .int (nI m9), .int (nI a), .int x3]) (n := 4) (Nat.le_of_ble_eq_true rfl)
  rw [lg_entry_eq]
  generalize (lg_sl ([.ref (ad 0), .int (nI m9), .int (nI a), .int x3]) ++ List.replicate (4 - (lg_sl ([.ref (ad 0), .int (nI m9), .int (nI a), .int x3])).length) Slot.unset).toArray = ls at hl ⊢
  have hl : lv_has ls 4 [(0, .ref (ad 0)), (1, .int (nI m9)), (2, .int (nI a)), (3, .int x3)] := hl
  refine gx_ent hS (fun H locs hS => ?_)
  refine lv_iload_n hx hb dX6_adds_0 rfl (lv_at hl 1 rfl) ?_
  refine lv_aload_n hx hb dX6_adds_1 rfl (lv_at hl 0 rfl) ?_
  refine gx_get (ci := 9) (v := .int (iv 0 3)) (C := RX6) (T := TX6) (N := 15) hx hb hts (fun _ h => inX6_adds_RX6 h) hown hK hS 0 (by omega) rfl rfl 3 (by decide) (hts (.fieldLink RX6 90 "CosetTables" "moveCount" "I") (by decide +kernel)) rfl dX6_adds_2 ?_
  refine gx_as (y := nI mc9) hmc ?_
  refine gc_v (gx_runS (As := [.int (nI m9), .int (nI mc9)]) (rest := []) ⟨hx, hb, hml, hown, hts⟩ hK hN hS (ct_X6_requireIndex l D cA o ad ln n H.size iv (a := m9) (b := mc9) hn hln (by omega) (by omega)) (va_cwS 2 hts gX6_adds_X6_requireIndex rfl rfl rfl (by decide +kernel) ⟨gle hRf rfl, gle hRl rfl⟩) rfl rfl hl.1 rfl (lv_room (Nat.le_of_ble_eq_true rfl)) dX6_adds_5 ⟨hRc, hRs⟩) hS hA (fun iv1 H locs hp1 hS => ?_)
  rw [hp1] at hS
  skip
  refine lv_iload_n hx hb dX6_adds_8 rfl (lv_at hl 2 rfl) ?_
  refine lv_aload_n hx hb dX6_adds_9 rfl (lv_at hl 0 rfl) ?_
  refine gx_get (ci := 9) (v := .int (iv 0 0)) (C := RX6) (T := TX6) (N := 15) hx hb hts (fun _ h => inX6_adds_RX6 h) hown hK hS 0 (by omega) rfl rfl 0 (by decide) (hts (.fieldLink RX6 16 "CosetTables" "places" "I") (by decide +kernel)) rfl dX6_adds_10 ?_
  refine gx_as (y := nI P) hP0 ?_
  refine gc_v (gx_runS (As := [.int (nI a), .int (nI P)]) (rest := []) ⟨hx, hb, hml, hown, hts⟩ hK hN hS (ct_X6_requireIndex l D cA o ad ln n H.size iv (a := a) (b := P) hn hln (by omega) (by omega)) (va_cwS 2 hts gX6_adds_X6_requireIndex rfl rfl rfl (by decide +kernel) ⟨gle hRf rfl, gle hRl rfl⟩) rfl rfl hl.1 rfl (lv_room (Nat.le_of_ble_eq_true rfl)) dX6_adds_13 ⟨hRc, hRs⟩) hS hA (fun iv2 H locs hp2 hS => ?_)
  rw [hp2] at hS
  skip
  refine lv_iload_n hx hb dX6_adds_16 rfl (lv_at hl 3 rfl) ?_
  refine lv_if_lt (tgt := 28) hx hb dX6_adds_17 (by decide) (fun c_17 => ?_) (fun c_17 => ?_)
  · skip
    obtain ⟨hU, hQ, -, ⟨sa4, hR4⟩, ⟨sa5, hR5⟩, hcast, -⟩ := hX
    refine vx_throwS (own := RX6) (cls := RIA) (text := "such a twist can't be added") (names := nmI) (ik := 109) (is := 111) (ic := 113) (sa := sa4) (A := gA cA o ad ln iv n sz) hx hb hst hown (by decide +kernel) (by decide +kernel) (hts _ (by decide +kernel)) (hts _ (by decide +kernel)) hR4 (vx_hat (B := ngI) (fun w hw => hts w (List.mem_cons_of_mem _ (List.mem_append_left _ (List.mem_append_right _ hw)))) (by decide +kernel) (fun w hw => ng_use (Or.inr hw) (hcast w (Or.inr hw)))) (by decide +kernel) hU hQ hS.2.2 (hl.1.trans hml.symm) dX6_adds_28 dX6_adds_31 dX6_adds_32 dX6_adds_34 dX6_adds_37 (fun z hz => (htab z hz).elim) (gle hRf rfl) (gle hRl rfl) (by decide) (by decide) B.notSynchronized (fun t ha hle hk => ?_) hS.2.2.2.2 (by decide) (by decide)
    obtain ⟨g1, g2⟩ := hS.grown hle hk
    exact ⟨(), trivial, ⟨rfl, g1⟩, g2⟩
  · skip
    refine lv_iload_n hx hb dX6_adds_20 rfl (lv_at hl 3 rfl) ?_
    refine lv_aload_n hx hb dX6_adds_21 rfl (lv_at hl 0 rfl) ?_
    refine gx_get (ci := 9) (v := .int (iv 0 1)) (C := RX6) (T := TX6) (N := 15) hx hb hts (fun _ h => inX6_adds_RX6 h) hown hK hS 0 (by omega) rfl rfl 1 (by decide) (hts (.fieldLink RX6 22 "CosetTables" "twists" "I") (by decide +kernel)) rfl dX6_adds_22 ?_
    refine gx_as (y := nI T) hT ?_
    refine lv_icmp_lt (tgt := 38) hx hb dX6_adds_25 (by decide) (fun c_25 => ?_) (fun c_25 => ?_)
    · skip
      exact absurd hbad (fun q => q.elim c_17 (fun q => q c_25))
    · skip
      obtain ⟨hU, hQ, -, ⟨sa4, hR4⟩, ⟨sa5, hR5⟩, hcast, -⟩ := hX
      refine vx_throwS (own := RX6) (cls := RIA) (text := "such a twist can't be added") (names := nmI) (ik := 109) (is := 111) (ic := 113) (sa := sa4) (A := gA cA o ad ln iv n sz) hx hb hst hown (by decide +kernel) (by decide +kernel) (hts _ (by decide +kernel)) (hts _ (by decide +kernel)) hR4 (vx_hat (B := ngI) (fun w hw => hts w (List.mem_cons_of_mem _ (List.mem_append_left _ (List.mem_append_right _ hw)))) (by decide +kernel) (fun w hw => ng_use (Or.inr hw) (hcast w (Or.inr hw)))) (by decide +kernel) hU hQ hS.2.2 (hl.1.trans hml.symm) dX6_adds_28 dX6_adds_31 dX6_adds_32 dX6_adds_34 dX6_adds_37 (fun z hz => (htab z hz).elim) (gle hRf rfl) (gle hRl rfl) (by decide) (by decide) B.notSynchronized (fun t ha hle hk => ?_) hS.2.2.2.2 (by decide) (by decide)
      obtain ⟨g1, g2⟩ := hS.grown hle hk
      exact ⟨(), trivial, ⟨rfl, g1⟩, g2⟩

set_option maxHeartbeats 1000000 in
set_option maxRecDepth 100000 in
theorem cx_X6_orderT (l : Launch) (hst : l.stackTraces = false) (D : va_G) (cA : Nat → ClassId) (o : Nat → Int64) (ad ln : Nat → Nat) (n sz : Nat) (iv : Nat → Nat → Int32) (x1 : Int32) (mc9 : Nat) (hn : 68 ≤ n) (hln : ∀ k, ln k < 2 ^ 31) (hmc : iv 0 3 = nI mc9) (hbad : x1 < 0 ∨ ¬ x1 < nI mc9) : gMx l yX6_order (wsX6_order ++ atA) { frames := 8, cells := 1, slots := 6, locals := 116 } D cA o ad ln n sz iv [.ref (ad 0), .int x1] RJx00060 (nQi (gA cA o ad ln iv n sz)) := by
  refine vx_ofW (cc := cX6_order) (maxL := 2) (ret := (some .int)) (by decide) rfl ?_
  intro p e s m args below meth c s₁ B hml htab hv__
  obtain ⟨rfl, hv__, hX⟩ := hv__
  obtain ⟨hsz, hS, hK, hN, hA⟩ := gS.entry hv__
  have hx := B.exec
  have hb := B.bytes
  have hown : s.vm.findClass RX6 = some m.cls := findClass_of_methodNamed B.named
  have hts0 := atoms_spec (ws := wsX6_order ++ atA) B.pre
  have hts : ∀ w ∈ wsX6_order, w.before [.ref (ad 0), .int x1].toArray s = true := fun w hw => hts0 w (List.mem_append_left _ hw)
  have hRf : 8 ≤ (headSpec (wsX6_order ++ atA) { frames := 8, cells := 1, slots := 6, locals := 116 }).room.frames := Nat.le_refl _
  have hRl : 116 ≤ (headSpec (wsX6_order ++ atA) { frames := 8, cells := 1, slots := 6, locals := 116 }).room.locals := Nat.le_refl _
  have hRc : 0 ≤ (headSpec (wsX6_order ++ atA) { frames := 8, cells := 1, slots := 6, locals := 116 }).room.cells := Nat.zero_le _
  have hRs : 0 ≤ (headSpec (wsX6_order ++ atA) { frames := 8, cells := 1, slots := 6, locals := 116 }).room.slots := Nat.zero_le _
  have hl := lv_entry ([.ref (ad 0), .int x1]) (n := 2) (Nat.le_of_ble_eq_true rfl)
  rw [lg_entry_eq]
  generalize (lg_sl ([.ref (ad 0), .int x1]) ++ List.replicate (2 - (lg_sl ([.ref (ad 0), .int x1])).length) Slot.unset).toArray = ls at hl ⊢
  have hl : lv_has ls 2 [(0, .ref (ad 0)), (1, .int x1)] := hl
  refine gx_ent hS (fun H locs hS => ?_)
  refine lv_iload_n hx hb dX6_order_0 rfl (lv_at hl 1 rfl) ?_
  refine lv_aload_n hx hb dX6_order_1 rfl (lv_at hl 0 rfl) ?_
  refine gx_get (ci := 9) (v := .int (iv 0 3)) (C := RX6) (T := TX6) (N := 15) hx hb hts (fun _ h => inX6_order_RX6 h) hown hK hS 0 (by omega) rfl rfl 3 (by decide) (hts (.fieldLink RX6 90 "CosetTables" "moveCount" "I") (by decide +kernel)) rfl dX6_order_2 ?_
  refine gx_as (y := nI mc9) hmc ?_
  exact gx_reqX (x := x1) (b := nI mc9) ⟨hx, hb, hml, hown, hts0⟩ hst hK hN hX hS hA htab B.notSynchronized hbad (va_cwS 2 hts0 (atA_in gX6_order_X6_requireIndex) rfl rfl rfl (by decide +kernel) ⟨gle hRf rfl, gle hRl rfl⟩) hl.1 (lv_room (Nat.le_of_ble_eq_true rfl)) dX6_order_5 rfl rfl ⟨Nat.le_refl _, Nat.le_refl _⟩

set_option maxHeartbeats 1000000 in
set_option maxRecDepth 100000 in
theorem cx_X6_applyT (l : Launch) (hst : l.stackTraces = false) (D : va_G) (cA : Nat → ClassId) (o : Nat → Int64) (ad ln : Nat → Nat) (n sz : Nat) (iv : Nat → Nat → Int32) (x1 : Int32) (mc9 : Nat) (hn : 68 ≤ n) (hln : ∀ k, ln k < 2 ^ 31) (hmc : iv 0 3 = nI mc9) (hbad : x1 < 0 ∨ ¬ x1 < nI mc9) : gMx l yX6_apply (wsX6_apply ++ atA) { frames := 8, cells := 1, slots := 6, locals := 116 } D cA o ad ln n sz iv [.ref (ad 0), .int x1] RJx00060 (nQv (gA cA o ad ln iv n sz)) := by
  refine vx_ofW (cc := cX6_apply) (maxL := 2) (ret := none) (by decide) rfl ?_
  intro p e s m args below meth c s₁ B hml htab hv__
  obtain ⟨rfl, hv__, hX⟩ := hv__
  obtain ⟨hsz, hS, hK, hN, hA⟩ := gS.entry hv__
  have hx := B.exec
  have hb := B.bytes
  have hown : s.vm.findClass RX6 = some m.cls := findClass_of_methodNamed B.named
  have hts0 := atoms_spec (ws := wsX6_apply ++ atA) B.pre
  have hts : ∀ w ∈ wsX6_apply, w.before [.ref (ad 0), .int x1].toArray s = true := fun w hw => hts0 w (List.mem_append_left _ hw)
  have hRf : 8 ≤ (headSpec (wsX6_apply ++ atA) { frames := 8, cells := 1, slots := 6, locals := 116 }).room.frames := Nat.le_refl _
  have hRl : 116 ≤ (headSpec (wsX6_apply ++ atA) { frames := 8, cells := 1, slots := 6, locals := 116 }).room.locals := Nat.le_refl _
  have hRc : 0 ≤ (headSpec (wsX6_apply ++ atA) { frames := 8, cells := 1, slots := 6, locals := 116 }).room.cells := Nat.zero_le _
  have hRs : 0 ≤ (headSpec (wsX6_apply ++ atA) { frames := 8, cells := 1, slots := 6, locals := 116 }).room.slots := Nat.zero_le _
  have hl := lv_entry ([.ref (ad 0), .int x1]) (n := 2) (Nat.le_of_ble_eq_true rfl)
  rw [lg_entry_eq]
  generalize (lg_sl ([.ref (ad 0), .int x1]) ++ List.replicate (2 - (lg_sl ([.ref (ad 0), .int x1])).length) Slot.unset).toArray = ls at hl ⊢
  have hl : lv_has ls 2 [(0, .ref (ad 0)), (1, .int x1)] := hl
  refine gx_ent hS (fun H locs hS => ?_)
  refine lv_iload_n hx hb dX6_apply_0 rfl (lv_at hl 1 rfl) ?_
  refine lv_aload_n hx hb dX6_apply_1 rfl (lv_at hl 0 rfl) ?_
  refine gx_get (ci := 9) (v := .int (iv 0 3)) (C := RX6) (T := TX6) (N := 15) hx hb hts (fun _ h => inX6_apply_RX6 h) hown hK hS 0 (by omega) rfl rfl 3 (by decide) (hts (.fieldLink RX6 90 "CosetTables" "moveCount" "I") (by decide +kernel)) rfl dX6_apply_2 ?_
  refine gx_as (y := nI mc9) hmc ?_
  exact gx_reqX (x := x1) (b := nI mc9) ⟨hx, hb, hml, hown, hts0⟩ hst hK hN hX hS hA htab B.notSynchronized hbad (va_cwS 2 hts0 (atA_in gX6_apply_X6_requireIndex) rfl rfl rfl (by decide +kernel) ⟨gle hRf rfl, gle hRl rfl⟩) hl.1 (lv_room (Nat.le_of_ble_eq_true rfl)) dX6_apply_5 rfl rfl ⟨Nat.le_refl _, Nat.le_refl _⟩

set_option maxHeartbeats 1000000 in
set_option maxRecDepth 100000 in
theorem cx_X6_goodT (l : Launch) (hst : l.stackTraces = false) (D : va_G) (cA : Nat → ClassId) (o : Nat → Int64) (ad ln : Nat → Nat) (n sz : Nat) (iv : Nat → Nat → Int32) (x1 : Int32) (sc9 : Nat) (hn : 68 ≤ n) (hln : ∀ k, ln k < 2 ^ 31) (hmc : iv 0 5 = nI sc9) (hbad : x1 < 0 ∨ ¬ x1 < nI sc9) : gMx l yX6_good (wsX6_good ++ atA) { frames := 8, cells := 1, slots := 6, locals := 116 } D cA o ad ln n sz iv [.ref (ad 0), .int x1] RJx00060 (nQi (gA cA o ad ln iv n sz)) := by
  refine vx_ofW (cc := cX6_good) (maxL := 2) (ret := (some .boolean)) (by decide) rfl ?_
  intro p e s m args below meth c s₁ B hml htab hv__
  obtain ⟨rfl, hv__, hX⟩ := hv__
  obtain ⟨hsz, hS, hK, hN, hA⟩ := gS.entry hv__
  have hx := B.exec
  have hb := B.bytes
  have hown : s.vm.findClass RX6 = some m.cls := findClass_of_methodNamed B.named
  have hts0 := atoms_spec (ws := wsX6_good ++ atA) B.pre
  have hts : ∀ w ∈ wsX6_good, w.before [.ref (ad 0), .int x1].toArray s = true := fun w hw => hts0 w (List.mem_append_left _ hw)
  have hRf : 8 ≤ (headSpec (wsX6_good ++ atA) { frames := 8, cells := 1, slots := 6, locals := 116 }).room.frames := Nat.le_refl _
  have hRl : 116 ≤ (headSpec (wsX6_good ++ atA) { frames := 8, cells := 1, slots := 6, locals := 116 }).room.locals := Nat.le_refl _
  have hRc : 0 ≤ (headSpec (wsX6_good ++ atA) { frames := 8, cells := 1, slots := 6, locals := 116 }).room.cells := Nat.zero_le _
  have hRs : 0 ≤ (headSpec (wsX6_good ++ atA) { frames := 8, cells := 1, slots := 6, locals := 116 }).room.slots := Nat.zero_le _
  have hl := lv_entry ([.ref (ad 0), .int x1]) (n := 2) (Nat.le_of_ble_eq_true rfl)
  rw [lg_entry_eq]
  generalize (lg_sl ([.ref (ad 0), .int x1]) ++ List.replicate (2 - (lg_sl ([.ref (ad 0), .int x1])).length) Slot.unset).toArray = ls at hl ⊢
  have hl : lv_has ls 2 [(0, .ref (ad 0)), (1, .int x1)] := hl
  refine gx_ent hS (fun H locs hS => ?_)
  refine lv_iload_n hx hb dX6_good_0 rfl (lv_at hl 1 rfl) ?_
  refine lv_aload_n hx hb dX6_good_1 rfl (lv_at hl 0 rfl) ?_
  refine gx_get (ci := 9) (v := .int (iv 0 5)) (C := RX6) (T := TX6) (N := 15) hx hb hts (fun _ h => inX6_good_RX6 h) hown hK hS 0 (by omega) rfl rfl 5 (by decide) (hts (.fieldLink RX6 200 "CosetTables" "symmetryCount" "I") (by decide +kernel)) rfl dX6_good_2 ?_
  refine gx_as (y := nI sc9) hmc ?_
  exact gx_reqX (x := x1) (b := nI sc9) ⟨hx, hb, hml, hown, hts0⟩ hst hK hN hX hS hA htab B.notSynchronized hbad (va_cwS 2 hts0 (atA_in gX6_good_X6_requireIndex) rfl rfl rfl (by decide +kernel) ⟨gle hRf rfl, gle hRl rfl⟩) hl.1 (lv_room (Nat.le_of_ble_eq_true rfl)) dX6_good_5 rfl rfl ⟨Nat.le_refl _, Nat.le_refl _⟩

set_option maxHeartbeats 1000000 in
set_option maxRecDepth 100000 in
theorem cx_X6_chooseT (l : Launch) (hst : l.stackTraces = false) (D : va_G) (cA : Nat → ClassId) (o : Nat → Int64) (ad ln : Nat → Nat) (n sz : Nat) (iv : Nat → Nat → Int32) (x1 x2 : Int32) (P : Nat) (hn : 68 ≤ n) (hln : ∀ k, ln k < 2 ^ 31) (hmc : iv 0 0 = nI P) (hbad : x1 < 0 ∨ ¬ x1 < nI P) : gMx l yX6_choose (wsX6_choose ++ atA) { frames := 8, cells := 1, slots := 6, locals := 116 } D cA o ad ln n sz iv [.ref (ad 0), .int x1, .int x2] RJx00060 (nQi (gA cA o ad ln iv n sz)) := by
  refine vx_ofW (cc := cX6_choose) (maxL := 3) (ret := (some .boolean)) (by decide) rfl ?_
  intro p e s m args below meth c s₁ B hml htab hv__
  obtain ⟨rfl, hv__, hX⟩ := hv__
  obtain ⟨hsz, hS, hK, hN, hA⟩ := gS.entry hv__
  have hx := B.exec
  have hb := B.bytes
  have hown : s.vm.findClass RX6 = some m.cls := findClass_of_methodNamed B.named
  have hts0 := atoms_spec (ws := wsX6_choose ++ atA) B.pre
  have hts : ∀ w ∈ wsX6_choose, w.before [.ref (ad 0), .int x1, .int x2].toArray s = true := fun w hw => hts0 w (List.mem_append_left _ hw)
  have hRf : 8 ≤ (headSpec (wsX6_choose ++ atA) { frames := 8, cells := 1, slots := 6, locals := 116 }).room.frames := Nat.le_refl _
  have hRl : 116 ≤ (headSpec (wsX6_choose ++ atA) { frames := 8, cells := 1, slots := 6, locals := 116 }).room.locals := Nat.le_refl _
  have hRc : 0 ≤ (headSpec (wsX6_choose ++ atA) { frames := 8, cells := 1, slots := 6, locals := 116 }).room.cells := Nat.zero_le _
  have hRs : 0 ≤ (headSpec (wsX6_choose ++ atA) { frames := 8, cells := 1, slots := 6, locals := 116 }).room.slots := Nat.zero_le _
  have hl := lv_entry ([.ref (ad 0), .int x1, .int x2]) (n := 3) (Nat.le_of_ble_eq_true rfl)
  rw [lg_entry_eq]
  generalize (lg_sl ([.ref (ad 0), .int x1, .int x2]) ++ List.replicate (3 - (lg_sl ([.ref (ad 0), .int x1, .int x2])).length) Slot.unset).toArray = ls at hl ⊢
  have hl : lv_has ls 3 [(0, .ref (ad 0)), (1, .int x1), (2, .int x2)] := hl
  refine gx_ent hS (fun H locs hS => ?_)
  refine lv_iload_n hx hb dX6_choose_0 rfl (lv_at hl 1 rfl) ?_
  refine lv_aload_n hx hb dX6_choose_1 rfl (lv_at hl 0 rfl) ?_
  refine gx_get (ci := 9) (v := .int (iv 0 0)) (C := RX6) (T := TX6) (N := 15) hx hb hts (fun _ h => inX6_choose_RX6 h) hown hK hS 0 (by omega) rfl rfl 0 (by decide) (hts (.fieldLink RX6 16 "CosetTables" "places" "I") (by decide +kernel)) rfl dX6_choose_2 ?_
  refine gx_as (y := nI P) hmc ?_
  exact gx_reqX (x := x1) (b := nI P) ⟨hx, hb, hml, hown, hts0⟩ hst hK hN hX hS hA htab B.notSynchronized hbad (va_cwS 2 hts0 (atA_in gX6_choose_X6_requireIndex) rfl rfl rfl (by decide +kernel) ⟨gle hRf rfl, gle hRl rfl⟩) hl.1 (lv_room (Nat.le_of_ble_eq_true rfl)) dX6_choose_5 rfl rfl ⟨Nat.le_refl _, Nat.le_refl _⟩

set_option maxHeartbeats 1000000 in
set_option maxRecDepth 100000 in
theorem cx_X6_placeT (l : Launch) (hst : l.stackTraces = false) (D : va_G) (cA : Nat → ClassId) (o : Nat → Int64) (ad ln : Nat → Nat) (n sz : Nat) (iv : Nat → Nat → Int32) (x1 : Int32) (P : Nat) (hn : 68 ≤ n) (hln : ∀ k, ln k < 2 ^ 31) (hmc : iv 0 0 = nI P) (hbad : x1 < 0 ∨ ¬ x1 < nI P) : gMx l yX6_place (wsX6_place ++ atA) { frames := 8, cells := 1, slots := 6, locals := 116 } D cA o ad ln n sz iv [.ref (ad 0), .int x1] RJx00060 (nQi (gA cA o ad ln iv n sz)) := by
  refine vx_ofW (cc := cX6_place) (maxL := 2) (ret := (some .int)) (by decide) rfl ?_
  intro p e s m args below meth c s₁ B hml htab hv__
  obtain ⟨rfl, hv__, hX⟩ := hv__
  obtain ⟨hsz, hS, hK, hN, hA⟩ := gS.entry hv__
  have hx := B.exec
  have hb := B.bytes
  have hown : s.vm.findClass RX6 = some m.cls := findClass_of_methodNamed B.named
  have hts0 := atoms_spec (ws := wsX6_place ++ atA) B.pre
  have hts : ∀ w ∈ wsX6_place, w.before [.ref (ad 0), .int x1].toArray s = true := fun w hw => hts0 w (List.mem_append_left _ hw)
  have hRf : 8 ≤ (headSpec (wsX6_place ++ atA) { frames := 8, cells := 1, slots := 6, locals := 116 }).room.frames := Nat.le_refl _
  have hRl : 116 ≤ (headSpec (wsX6_place ++ atA) { frames := 8, cells := 1, slots := 6, locals := 116 }).room.locals := Nat.le_refl _
  have hRc : 0 ≤ (headSpec (wsX6_place ++ atA) { frames := 8, cells := 1, slots := 6, locals := 116 }).room.cells := Nat.zero_le _
  have hRs : 0 ≤ (headSpec (wsX6_place ++ atA) { frames := 8, cells := 1, slots := 6, locals := 116 }).room.slots := Nat.zero_le _
  have hl := lv_entry ([.ref (ad 0), .int x1]) (n := 2) (Nat.le_of_ble_eq_true rfl)
  rw [lg_entry_eq]
  generalize (lg_sl ([.ref (ad 0), .int x1]) ++ List.replicate (2 - (lg_sl ([.ref (ad 0), .int x1])).length) Slot.unset).toArray = ls at hl ⊢
  have hl : lv_has ls 2 [(0, .ref (ad 0)), (1, .int x1)] := hl
  refine gx_ent hS (fun H locs hS => ?_)
  refine lv_iload_n hx hb dX6_place_0 rfl (lv_at hl 1 rfl) ?_
  refine lv_aload_n hx hb dX6_place_1 rfl (lv_at hl 0 rfl) ?_
  refine gx_get (ci := 9) (v := .int (iv 0 0)) (C := RX6) (T := TX6) (N := 15) hx hb hts (fun _ h => inX6_place_RX6 h) hown hK hS 0 (by omega) rfl rfl 0 (by decide) (hts (.fieldLink RX6 16 "CosetTables" "places" "I") (by decide +kernel)) rfl dX6_place_2 ?_
  refine gx_as (y := nI P) hmc ?_
  exact gx_reqX (x := x1) (b := nI P) ⟨hx, hb, hml, hown, hts0⟩ hst hK hN hX hS hA htab B.notSynchronized hbad (va_cwS 2 hts0 (atA_in gX6_place_X6_requireIndex) rfl rfl rfl (by decide +kernel) ⟨gle hRf rfl, gle hRl rfl⟩) hl.1 (lv_room (Nat.le_of_ble_eq_true rfl)) dX6_place_5 rfl rfl ⟨Nat.le_refl _, Nat.le_refl _⟩

set_option maxHeartbeats 1000000 in
set_option maxRecDepth 100000 in
theorem cx_X6_twistT (l : Launch) (hst : l.stackTraces = false) (D : va_G) (cA : Nat → ClassId) (o : Nat → Int64) (ad ln : Nat → Nat) (n sz : Nat) (iv : Nat → Nat → Int32) (x1 : Int32) (P : Nat) (hn : 68 ≤ n) (hln : ∀ k, ln k < 2 ^ 31) (hmc : iv 0 0 = nI P) (hbad : x1 < 0 ∨ ¬ x1 < nI P) : gMx l yX6_twist (wsX6_twist ++ atA) { frames := 8, cells := 1, slots := 6, locals := 116 } D cA o ad ln n sz iv [.ref (ad 0), .int x1] RJx00060 (nQi (gA cA o ad ln iv n sz)) := by
  refine vx_ofW (cc := cX6_twist) (maxL := 2) (ret := (some .int)) (by decide) rfl ?_
  intro p e s m args below meth c s₁ B hml htab hv__
  obtain ⟨rfl, hv__, hX⟩ := hv__
  obtain ⟨hsz, hS, hK, hN, hA⟩ := gS.entry hv__
  have hx := B.exec
  have hb := B.bytes
  have hown : s.vm.findClass RX6 = some m.cls := findClass_of_methodNamed B.named
  have hts0 := atoms_spec (ws := wsX6_twist ++ atA) B.pre
  have hts : ∀ w ∈ wsX6_twist, w.before [.ref (ad 0), .int x1].toArray s = true := fun w hw => hts0 w (List.mem_append_left _ hw)
  have hRf : 8 ≤ (headSpec (wsX6_twist ++ atA) { frames := 8, cells := 1, slots := 6, locals := 116 }).room.frames := Nat.le_refl _
  have hRl : 116 ≤ (headSpec (wsX6_twist ++ atA) { frames := 8, cells := 1, slots := 6, locals := 116 }).room.locals := Nat.le_refl _
  have hRc : 0 ≤ (headSpec (wsX6_twist ++ atA) { frames := 8, cells := 1, slots := 6, locals := 116 }).room.cells := Nat.zero_le _
  have hRs : 0 ≤ (headSpec (wsX6_twist ++ atA) { frames := 8, cells := 1, slots := 6, locals := 116 }).room.slots := Nat.zero_le _
  have hl := lv_entry ([.ref (ad 0), .int x1]) (n := 2) (Nat.le_of_ble_eq_true rfl)
  rw [lg_entry_eq]
  generalize (lg_sl ([.ref (ad 0), .int x1]) ++ List.replicate (2 - (lg_sl ([.ref (ad 0), .int x1])).length) Slot.unset).toArray = ls at hl ⊢
  have hl : lv_has ls 2 [(0, .ref (ad 0)), (1, .int x1)] := hl
  refine gx_ent hS (fun H locs hS => ?_)
  refine lv_iload_n hx hb dX6_twist_0 rfl (lv_at hl 1 rfl) ?_
  refine lv_aload_n hx hb dX6_twist_1 rfl (lv_at hl 0 rfl) ?_
  refine gx_get (ci := 9) (v := .int (iv 0 0)) (C := RX6) (T := TX6) (N := 15) hx hb hts (fun _ h => inX6_twist_RX6 h) hown hK hS 0 (by omega) rfl rfl 0 (by decide) (hts (.fieldLink RX6 16 "CosetTables" "places" "I") (by decide +kernel)) rfl dX6_twist_2 ?_
  refine gx_as (y := nI P) hmc ?_
  exact gx_reqX (x := x1) (b := nI P) ⟨hx, hb, hml, hown, hts0⟩ hst hK hN hX hS hA htab B.notSynchronized hbad (va_cwS 2 hts0 (atA_in gX6_twist_X6_requireIndex) rfl rfl rfl (by decide +kernel) ⟨gle hRf rfl, gle hRl rfl⟩) hl.1 (lv_room (Nat.le_of_ble_eq_true rfl)) dX6_twist_5 rfl rfl ⟨Nat.le_refl _, Nat.le_refl _⟩

set_option maxHeartbeats 1000000 in
set_option maxRecDepth 100000 in
theorem cx_X6_setT (l : Launch) (hst : l.stackTraces = false) (D : va_G) (cA : Nat → ClassId) (o : Nat → Int64) (ad ln : Nat → Nat) (n sz : Nat) (iv : Nat → Nat → Int32) (x1 : Int32) (P T c9 : Nat) (hn : 68 ≤ n) (hln : ∀ k, ln k < 2 ^ 31) (ha9 : iv 25 6 = nI (ff P c9)) (ht9 : iv 25 7 = nI (T ^ c9)) (hbad : x1 < 0 ∨ ¬ x1 < nI (ff P c9 * T ^ c9)) : gMx l yX6_set (wsX6_set ++ atA) { frames := 8, cells := 1, slots := 6, locals := 116 } D cA o ad ln n sz iv [.ref (ad 0), .int x1] RJx00060 (nQv (gA cA o ad ln iv n sz)) := by
  refine vx_ofW (cc := cX6_set) (maxL := 2) (ret := none) (by decide) rfl ?_
  intro p e s m args below meth c s₁ B hml htab hv__
  obtain ⟨rfl, hv__, hX⟩ := hv__
  obtain ⟨hsz, hS, hK, hN, hA⟩ := gS.entry hv__
  have hx := B.exec
  have hb := B.bytes
  have hown : s.vm.findClass RX6 = some m.cls := findClass_of_methodNamed B.named
  have hts0 := atoms_spec (ws := wsX6_set ++ atA) B.pre
  have hts : ∀ w ∈ wsX6_set, w.before [.ref (ad 0), .int x1].toArray s = true := fun w hw => hts0 w (List.mem_append_left _ hw)
  have hRf : 8 ≤ (headSpec (wsX6_set ++ atA) { frames := 8, cells := 1, slots := 6, locals := 116 }).room.frames := Nat.le_refl _
  have hRl : 116 ≤ (headSpec (wsX6_set ++ atA) { frames := 8, cells := 1, slots := 6, locals := 116 }).room.locals := Nat.le_refl _
  have hRc : 0 ≤ (headSpec (wsX6_set ++ atA) { frames := 8, cells := 1, slots := 6, locals := 116 }).room.cells := Nat.zero_le _
  have hRs : 0 ≤ (headSpec (wsX6_set ++ atA) { frames := 8, cells := 1, slots := 6, locals := 116 }).room.slots := Nat.zero_le _
  have hl := lv_entry ([.ref (ad 0), .int x1]) (n := 2) (Nat.le_of_ble_eq_true rfl)
  rw [lg_entry_eq]
  generalize (lg_sl ([.ref (ad 0), .int x1]) ++ List.replicate (2 - (lg_sl ([.ref (ad 0), .int x1])).length) Slot.unset).toArray = ls at hl ⊢
  have hl : lv_has ls 2 [(0, .ref (ad 0)), (1, .int x1)] := hl
  refine gx_ent hS (fun H locs hS => ?_)
  refine lv_iload_n hx hb dX6_set_0 rfl (lv_at hl 1 rfl) ?_
  refine lv_aload_n hx hb dX6_set_1 rfl (lv_at hl 0 rfl) ?_
  refine gx_get (ci := 9) (v := .ref (ad 25)) (C := RX6) (T := TX6) (N := 15) hx hb hts (fun _ h => inX6_set_RX6 h) hown hK hS 0 (by omega) rfl rfl 6 (by decide) (hts (.fieldLink RX6 42 "CosetTables" "numbering" "LCosetTables$Numbering;") (by decide +kernel)) rfl dX6_set_2 ?_
  refine gc_i (gx_runV (As := []) (rest := [.int x1]) ⟨hx, hb, hml, hown, hts⟩ hK hN hS 25 (by omega) rfl rfl (ct_X1_stateCount l D cA o ad ln n H.size iv hn hln) (cwV 0 hts gX6_set_X1_stateCount rfl rfl rfl (by decide +kernel) ⟨gle hRf rfl, gle hRl rfl⟩) rfl rfl hl.1 rfl (lv_room (Nat.le_of_ble_eq_true rfl)) dX6_set_5 ⟨hRc, hRs⟩) hS hA (fun y iv1 H locs hp1 hS => ?_)
  obtain ⟨ey, ev1⟩ := hp1
  rw [ev1] at hS
  refine gx_as (y := nI (ff P c9 * T ^ c9)) (by rw [ey, ha9, ht9]; exact pk_mul _ _) ?_
  skip
  exact gx_reqX (x := x1) (b := nI (ff P c9 * T ^ c9)) ⟨hx, hb, hml, hown, hts0⟩ hst hK hN hX hS hA htab B.notSynchronized hbad (va_cwS 2 hts0 (atA_in gX6_set_X6_requireIndex) rfl rfl rfl (by decide +kernel) ⟨gle hRf rfl, gle hRl rfl⟩) hl.1 (lv_room (Nat.le_of_ble_eq_true rfl)) dX6_set_8 rfl rfl ⟨Nat.le_refl _, Nat.le_refl _⟩

set_option maxHeartbeats 1000000 in
set_option maxRecDepth 100000 in
theorem cx_X6_valueT (l : Launch) (hst : l.stackTraces = false) (D : va_G) (cA : Nat → ClassId) (o : Nat → Int64) (ad ln : Nat → Nat) (n sz : Nat) (iv : Nat → Nat → Int32) (x1 : Int32) (P T c9 : Nat) (hn : 68 ≤ n) (hln : ∀ k, ln k < 2 ^ 31) (ha9 : iv 25 6 = nI (ff P c9)) (ht9 : iv 25 7 = nI (T ^ c9)) (hbad : x1 < 0 ∨ ¬ x1 < nI (ff P c9 * T ^ c9)) : gMx l yX6_value (wsX6_value ++ atA) { frames := 8, cells := 1, slots := 6, locals := 116 } D cA o ad ln n sz iv [.ref (ad 0), .int x1] RJx00060 (nQi (gA cA o ad ln iv n sz)) := by
  refine vx_ofW (cc := cX6_value) (maxL := 2) (ret := (some .int)) (by decide) rfl ?_
  intro p e s m args below meth c s₁ B hml htab hv__
  obtain ⟨rfl, hv__, hX⟩ := hv__
  obtain ⟨hsz, hS, hK, hN, hA⟩ := gS.entry hv__
  have hx := B.exec
  have hb := B.bytes
  have hown : s.vm.findClass RX6 = some m.cls := findClass_of_methodNamed B.named
  have hts0 := atoms_spec (ws := wsX6_value ++ atA) B.pre
  have hts : ∀ w ∈ wsX6_value, w.before [.ref (ad 0), .int x1].toArray s = true := fun w hw => hts0 w (List.mem_append_left _ hw)
  have hRf : 8 ≤ (headSpec (wsX6_value ++ atA) { frames := 8, cells := 1, slots := 6, locals := 116 }).room.frames := Nat.le_refl _
  have hRl : 116 ≤ (headSpec (wsX6_value ++ atA) { frames := 8, cells := 1, slots := 6, locals := 116 }).room.locals := Nat.le_refl _
  have hRc : 0 ≤ (headSpec (wsX6_value ++ atA) { frames := 8, cells := 1, slots := 6, locals := 116 }).room.cells := Nat.zero_le _
  have hRs : 0 ≤ (headSpec (wsX6_value ++ atA) { frames := 8, cells := 1, slots := 6, locals := 116 }).room.slots := Nat.zero_le _
  have hl := lv_entry ([.ref (ad 0), .int x1]) (n := 2) (Nat.le_of_ble_eq_true rfl)
  rw [lg_entry_eq]
  generalize (lg_sl ([.ref (ad 0), .int x1]) ++ List.replicate (2 - (lg_sl ([.ref (ad 0), .int x1])).length) Slot.unset).toArray = ls at hl ⊢
  have hl : lv_has ls 2 [(0, .ref (ad 0)), (1, .int x1)] := hl
  refine gx_ent hS (fun H locs hS => ?_)
  refine lv_iload_n hx hb dX6_value_0 rfl (lv_at hl 1 rfl) ?_
  refine lv_aload_n hx hb dX6_value_1 rfl (lv_at hl 0 rfl) ?_
  refine gx_get (ci := 9) (v := .ref (ad 25)) (C := RX6) (T := TX6) (N := 15) hx hb hts (fun _ h => inX6_value_RX6 h) hown hK hS 0 (by omega) rfl rfl 6 (by decide) (hts (.fieldLink RX6 42 "CosetTables" "numbering" "LCosetTables$Numbering;") (by decide +kernel)) rfl dX6_value_2 ?_
  refine gc_i (gx_runV (As := []) (rest := [.int x1]) ⟨hx, hb, hml, hown, hts⟩ hK hN hS 25 (by omega) rfl rfl (ct_X1_stateCount l D cA o ad ln n H.size iv hn hln) (cwV 0 hts gX6_value_X1_stateCount rfl rfl rfl (by decide +kernel) ⟨gle hRf rfl, gle hRl rfl⟩) rfl rfl hl.1 rfl (lv_room (Nat.le_of_ble_eq_true rfl)) dX6_value_5 ⟨hRc, hRs⟩) hS hA (fun y iv1 H locs hp1 hS => ?_)
  obtain ⟨ey, ev1⟩ := hp1
  rw [ev1] at hS
  refine gx_as (y := nI (ff P c9 * T ^ c9)) (by rw [ey, ha9, ht9]; exact pk_mul _ _) ?_
  skip
  exact gx_reqX (x := x1) (b := nI (ff P c9 * T ^ c9)) ⟨hx, hb, hml, hown, hts0⟩ hst hK hN hX hS hA htab B.notSynchronized hbad (va_cwS 2 hts0 (atA_in gX6_value_X6_requireIndex) rfl rfl rfl (by decide +kernel) ⟨gle hRf rfl, gle hRl rfl⟩) hl.1 (lv_room (Nat.le_of_ble_eq_true rfl)) dX6_value_8 rfl rfl ⟨Nat.le_refl _, Nat.le_refl _⟩

set_option maxHeartbeats 1000000 in
set_option maxRecDepth 100000 in
theorem cx_X6_leastT (l : Launch) (hst : l.stackTraces = false) (D : va_G) (cA : Nat → ClassId) (o : Nat → Int64) (ad ln : Nat → Nat) (n sz : Nat) (iv : Nat → Nat → Int32) (x1 : Int32) (P T c9 : Nat) (hn : 68 ≤ n) (hln : ∀ k, ln k < 2 ^ 31) (ha9 : iv 25 6 = nI (ff P c9)) (ht9 : iv 25 7 = nI (T ^ c9)) (hbad : x1 < 0 ∨ ¬ x1 < nI (ff P c9 * T ^ c9)) : gMx l yX6_least (wsX6_least ++ atA) { frames := 8, cells := 1, slots := 6, locals := 116 } D cA o ad ln n sz iv [.ref (ad 0), .int x1] RJx00060 (nQi (gA cA o ad ln iv n sz)) := by
  refine vx_ofW (cc := cX6_least) (maxL := 2) (ret := (some .int)) (by decide) rfl ?_
  intro p e s m args below meth c s₁ B hml htab hv__
  obtain ⟨rfl, hv__, hX⟩ := hv__
  obtain ⟨hsz, hS, hK, hN, hA⟩ := gS.entry hv__
  have hx := B.exec
  have hb := B.bytes
  have hown : s.vm.findClass RX6 = some m.cls := findClass_of_methodNamed B.named
  have hts0 := atoms_spec (ws := wsX6_least ++ atA) B.pre
  have hts : ∀ w ∈ wsX6_least, w.before [.ref (ad 0), .int x1].toArray s = true := fun w hw => hts0 w (List.mem_append_left _ hw)
  have hRf : 8 ≤ (headSpec (wsX6_least ++ atA) { frames := 8, cells := 1, slots := 6, locals := 116 }).room.frames := Nat.le_refl _
  have hRl : 116 ≤ (headSpec (wsX6_least ++ atA) { frames := 8, cells := 1, slots := 6, locals := 116 }).room.locals := Nat.le_refl _
  have hRc : 0 ≤ (headSpec (wsX6_least ++ atA) { frames := 8, cells := 1, slots := 6, locals := 116 }).room.cells := Nat.zero_le _
  have hRs : 0 ≤ (headSpec (wsX6_least ++ atA) { frames := 8, cells := 1, slots := 6, locals := 116 }).room.slots := Nat.zero_le _
  have hl := lv_entry ([.ref (ad 0), .int x1]) (n := 2) (Nat.le_of_ble_eq_true rfl)
  rw [lg_entry_eq]
  generalize (lg_sl ([.ref (ad 0), .int x1]) ++ List.replicate (2 - (lg_sl ([.ref (ad 0), .int x1])).length) Slot.unset).toArray = ls at hl ⊢
  have hl : lv_has ls 2 [(0, .ref (ad 0)), (1, .int x1)] := hl
  refine gx_ent hS (fun H locs hS => ?_)
  refine lv_iload_n hx hb dX6_least_0 rfl (lv_at hl 1 rfl) ?_
  refine lv_aload_n hx hb dX6_least_1 rfl (lv_at hl 0 rfl) ?_
  refine gx_get (ci := 9) (v := .ref (ad 25)) (C := RX6) (T := TX6) (N := 15) hx hb hts (fun _ h => inX6_least_RX6 h) hown hK hS 0 (by omega) rfl rfl 6 (by decide) (hts (.fieldLink RX6 42 "CosetTables" "numbering" "LCosetTables$Numbering;") (by decide +kernel)) rfl dX6_least_2 ?_
  refine gc_i (gx_runV (As := []) (rest := [.int x1]) ⟨hx, hb, hml, hown, hts⟩ hK hN hS 25 (by omega) rfl rfl (ct_X1_stateCount l D cA o ad ln n H.size iv hn hln) (cwV 0 hts gX6_least_X1_stateCount rfl rfl rfl (by decide +kernel) ⟨gle hRf rfl, gle hRl rfl⟩) rfl rfl hl.1 rfl (lv_room (Nat.le_of_ble_eq_true rfl)) dX6_least_5 ⟨hRc, hRs⟩) hS hA (fun y iv1 H locs hp1 hS => ?_)
  obtain ⟨ey, ev1⟩ := hp1
  rw [ev1] at hS
  refine gx_as (y := nI (ff P c9 * T ^ c9)) (by rw [ey, ha9, ht9]; exact pk_mul _ _) ?_
  skip
  exact gx_reqX (x := x1) (b := nI (ff P c9 * T ^ c9)) ⟨hx, hb, hml, hown, hts0⟩ hst hK hN hX hS hA htab B.notSynchronized hbad (va_cwS 2 hts0 (atA_in gX6_least_X6_requireIndex) rfl rfl rfl (by decide +kernel) ⟨gle hRf rfl, gle hRl rfl⟩) hl.1 (lv_room (Nat.le_of_ble_eq_true rfl)) dX6_least_8 rfl rfl ⟨Nat.le_refl _, Nat.le_refl _⟩

set_option maxHeartbeats 1000000 in
set_option maxRecDepth 100000 in
theorem cx_X6_packedT (l : Launch) (hst : l.stackTraces = false) (D : va_G) (cA : Nat → ClassId) (o : Nat → Int64) (ad ln : Nat → Nat) (n sz : Nat) (iv : Nat → Nat → Int32) (x1 x2 : Int32) (hn : 68 ≤ n) (hln : ∀ k, ln k < 2 ^ 31) (hb2 : ¬ x1 = nI 2) (hb4 : ¬ x1 = nI 4) : gMx l yX6_packed (wsX6_packed ++ atA) { frames := 8, cells := 1, slots := 6, locals := 116 } D cA o ad ln n sz iv [.ref (ad 0), .int x1, .int x2] RIA (nQl (gA cA o ad ln iv n sz)) := by
  refine vx_ofW (cc := cX6_packed) (maxL := 3) (ret := (some .long)) (by decide) rfl ?_
  intro p e s m args below meth c s₁ B hml htab hv__
  obtain ⟨rfl, hv__, hX⟩ := hv__
  obtain ⟨hsz, hS, hK, hN, hA⟩ := gS.entry hv__
  have hx := B.exec
  have hb := B.bytes
  have hown : s.vm.findClass RX6 = some m.cls := findClass_of_methodNamed B.named
  have hts0 := atoms_spec (ws := wsX6_packed ++ atA) B.pre
  have hts : ∀ w ∈ wsX6_packed, w.before [.ref (ad 0), .int x1, .int x2].toArray s = true := fun w hw => hts0 w (List.mem_append_left _ hw)
  have hRf : 8 ≤ (headSpec (wsX6_packed ++ atA) { frames := 8, cells := 1, slots := 6, locals := 116 }).room.frames := Nat.le_refl _
  have hRl : 116 ≤ (headSpec (wsX6_packed ++ atA) { frames := 8, cells := 1, slots := 6, locals := 116 }).room.locals := Nat.le_refl _
  have hRc : 0 ≤ (headSpec (wsX6_packed ++ atA) { frames := 8, cells := 1, slots := 6, locals := 116 }).room.cells := Nat.zero_le _
  have hRs : 0 ≤ (headSpec (wsX6_packed ++ atA) { frames := 8, cells := 1, slots := 6, locals := 116 }).room.slots := Nat.zero_le _
  have hl := lv_entry ([.ref (ad 0), .int x1, .int x2]) (n := 3) (Nat.le_of_ble_eq_true rfl)
  rw [lg_entry_eq]
  generalize (lg_sl ([.ref (ad 0), .int x1, .int x2]) ++ List.replicate (3 - (lg_sl ([.ref (ad 0), .int x1, .int x2])).length) Slot.unset).toArray = ls at hl ⊢
  have hl : lv_has ls 3 [(0, .ref (ad 0)), (1, .int x1), (2, .int x2)] := hl
  refine gx_ent hS (fun H locs hS => ?_)
  refine lv_iload_n hx hb dX6_packed_0 rfl (lv_at hl 1 rfl) ?_
  refine lv_iconst (v := nI 2) hx hb dX6_packed_1 (by decide) ?_
  refine lv_icmp_eq (tgt := 20) hx hb dX6_packed_2 (by decide) (fun c_2 => ?_) (fun c_2 => ?_)
  · skip
    exact absurd c_2 hb2
  · skip
    refine lv_iload_n hx hb dX6_packed_5 rfl (lv_at hl 1 rfl) ?_
    refine lv_iconst (v := nI 4) hx hb dX6_packed_6 (by decide) ?_
    refine lv_icmp_eq (tgt := 20) hx hb dX6_packed_7 (by decide) (fun c_7 => ?_) (fun c_7 => ?_)
    · skip
      exact absurd c_7 hb4
    · skip
      obtain ⟨hU, hQ, -, ⟨sa4, hR4⟩, ⟨sa5, hR5⟩, hcast, -⟩ := hX
      refine vx_throwS (own := RX6) (cls := RIA) (text := "bits must be 2 or 4") (names := nmI) (ik := 109) (is := 191) (ic := 113) (sa := sa5) (A := gA cA o ad ln iv n sz) hx hb hst hown (by decide +kernel) (by decide +kernel) (hts _ (by decide +kernel)) (hts _ (by decide +kernel)) hR5 (vx_hat (B := ngI) (fun w hw => hts w (List.mem_cons_of_mem _ (List.mem_append_left _ (List.mem_append_right _ hw)))) (by decide +kernel) (fun w hw => ng_use (Or.inr hw) (hcast w (Or.inr hw)))) (by decide +kernel) hU hQ hS.2.2 (hl.1.trans hml.symm) dX6_packed_10 dX6_packed_13 dX6_packed_14 dX6_packed_16 dX6_packed_19 (fun z hz => (htab z hz).elim) (gle hRf rfl) (gle hRl rfl) (by decide) (by decide) B.notSynchronized (fun t ha hle hk => ?_) hS.2.2.2.2 (by decide) (by decide)
      obtain ⟨g1, g2⟩ := hS.grown hle hk
      exact ⟨(), trivial, ⟨rfl, g1⟩, g2⟩
