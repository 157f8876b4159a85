theorem inX7_apply_RX7 : ∀ {w : Cond}, w ∈ u_ws RX7 TX7 23 → w ∈ wsX7_apply := fun {w} h => by first | exact List.mem_cons_of_mem _ (List.mem_append_right _ h) | (revert h; revert w; show ∀ w ∈ u_ws RX7 TX7 23, w ∈ wsX7_apply; decide +kernel)
set_option maxHeartbeats 1000000 in
set_option maxRecDepth 100000 in
theorem bd_X7_apply {p : Program} {l : Launch} {e : Env} {R : Room} {s : State} {m : MethodId} {args : Array Value} {below : List Frame} {meth : Method} {c : Code} {H : Heap} {locs : List Loc} {cells slots : Nat} {Q : State → Prop} {ls : Array Slot} {D : va_G} {A : Nat → Prop} {H0 : Heap} {cA : Nat → ClassId} {o : Nat → Int64} {ad ln : Nat → Nat} {iv : Nat → Nat → Int32} {n : Nat} {m8 mc9 x P c9 T : Nat} {G9 Ad : Nat → Nat}
    (F : gF p s m meth c cX7_apply 2 RX7 wsX7_apply args none) (hRf : 2 ≤ R.frames) (hRl : 48 ≤ R.locals) (hRc : cells ≤ R.cells) (hRs : slots ≤ R.slots) (hK : va_K D vwCl (gT cA) s) (hN : NW s) (hA : ∀ q, H0.size ≤ q → A q) (hn : 68 ≤ n) (hln : ∀ k, ln k < 2 ^ 31) (hRn : rln ln) (hc9 : iv 53 7 = nI c9) (hc4 : c9 ≤ 4) (hT0 : iv 53 2 = nI T) (hT1 : 0 < T) (hT3 : T ≤ 3) (hP0 : iv 53 1 = nI P) (hP : P ≤ 8) (hmv : rmove iv m8 P T G9 Ad) (hm6 : m8 < 6) (hcP : c9 ≤ P) (hGi : inj G9 P P) (hmc : iv 53 3 = nI mc9) (hmc6 : mc9 ≤ 6) (hm9 : m8 < mc9) (hx0 : iv 53 11 = nI x) (hx9 : x < 2 ^ 20)
    (hS : gS D cA A H0 o ad ln iv n H locs) (hl : lv_has ls 2 [(0, .ref (ad 53)), (1, .int (nI m8))])
    (kret : ∀ (iv' : Nat → Nat → Int32) (H : Heap) (locs : List Loc) (ls : Array Slot) (pc : Nat), decode cX7_apply pc = .ok (.return_, 1) → (iv' 53 11 = nI (num P T c9 (fun j => G9 (dw P c9 (x / T ^ c9) j)) (fun j => (dt T c9 x j + Ad (dw P c9 (x / T ^ c9) j)) % T)) ∧ iv' 53 0 = 0 ∧ (∀ j, j ≠ 0 → j ≠ 11 → iv' 53 j = iv 53 j) ∧ ∀ q, q ≠ 53 → q ≠ 58 → q ≠ 59 → iv' q = iv q) → gS D cA A H0 o ad ln iv' n H locs → W p l e R s m args below meth c H locs cells slots Q (F0 m pc ls [])) :
    W p l e R s m args below meth c H locs cells slots Q (F0 m 0 ls []) := by
  obtain ⟨hx, hb, hml, hown, hts, hr, hlocks⟩ := F
  have hRn9 := hRn
  obtain ⟨r54, r55, r56, r57, r58, r59, r60, r61, r62, r63, r64, r65, r66⟩ := hRn
  have hok : ok9 (nI m8) (iv 53 3) := by rw [hmc]; exact ok9_nI hm9 (by omega)
  obtain ⟨hd1, hd2⟩ := dw_ok (y := x / T ^ c9) hcP
  refine lv_aload_n hx hb dX7_apply_0 rfl (lv_at hl 0 rfl) ?_
  refine lv_iconst (v := nI 1) hx hb dX7_apply_1 (by decide) ?_
  refine lv_aload_n hx hb dX7_apply_2 rfl (lv_at hl 0 rfl) ?_
  refine lv_iload_n hx hb dX7_apply_3 rfl (lv_at hl 1 rfl) ?_
  refine gc_i (gx_runV (As := [.int (nI m8)]) (rest := [.int (nI 1), .ref (ad 53)]) ⟨hx, hb, hml, hown, hts⟩ hK hN hS 53 (by omega) rfl rfl (ct_X7_isMove l D cA o ad ln n H.size iv (x := nI m8) hn hln) (cwV 1 hts gX7_apply_X7_isMove rfl rfl rfl (by decide +kernel) ⟨gle hRf rfl, gle hRl rfl⟩) rfl rfl hl.1 rfl (lv_room (Nat.le_of_ble_eq_true rfl)) dX7_apply_4 ⟨hRc, hRs⟩) hS hA (fun y1 iv1 H locs hp1 hS => ?_)
  obtain ⟨h011, hi1, ev1⟩ := hp1
  rw [ev1] at hS
  skip
  refine lv_if_ne (tgt := 14) hx hb dX7_apply_7 (by decide) (fun c_7 => ?_) (fun c_7 => ?_)
  · skip
    refine lv_iconst (v := nI 0) hx hb dX7_apply_14 (by decide) ?_
    refine gc_i (gx_runV (As := [.int (nI 1), .int (nI 0)]) (rest := []) ⟨hx, hb, hml, hown, hts⟩ hK hN hS 53 (by omega) rfl rfl (ct_X7_throwsIf l D cA o ad ln n H.size iv (x := nI 1) (v := nI 0) hn hln (Or.inl rfl)) (cwV 2 hts gX7_apply_X7_throwsIf rfl rfl rfl (by decide +kernel) ⟨gle hRf rfl, gle hRl rfl⟩) rfl rfl hl.1 rfl (lv_room (Nat.le_of_ble_eq_true rfl)) dX7_apply_15 ⟨hRc, hRs⟩) hS hA (fun z iv4 H locs hp4 hS => ?_)
    obtain ⟨_, ez, et⟩ := hp4
    have et : iv4 = up2 iv 53 0 0 := et
    refine gx_as (y := nI 0) ez ?_
    refine lv_if_eq (tgt := 22) hx hb dX7_apply_18 (by decide) (fun c_18 => ?_) (fun c_18 => ?_)
    · skip
      rw [show (0 : Int32) = nI 0 from rfl] at c_18
      rw [nI_eq (by omega) (by omega)] at c_18
      refine lv_aload_n hx hb dX7_apply_22 rfl (lv_at hl 0 rfl) ?_
      refine lv_aload_n hx hb dX7_apply_23 rfl (lv_at hl 0 rfl) ?_
      refine gx_get (ci := 10) (v := .int (iv4 53 11)) (C := RX7) (T := TX7) (N := 23) hx hb hts (fun _ h => inX7_apply_RX7 h) hown hK hS 53 (by omega) rfl rfl 11 (by decide) (hts (.fieldLink RX7 90 "CosetTablesModel" "state" "I") (by decide +kernel)) rfl dX7_apply_24 ?_
      refine gx_as (y := nI x) (by rw [et, up2_n (by decide)]; exact hx0) ?_
      refine gc_v (gx_runV (As := [.int (nI x)]) (rest := []) ⟨hx, hb, hml, hown, hts⟩ hK hN hS 53 (by omega) rfl rfl (ct_X7_take l D cA o ad ln n H.size iv4 (x := x) (P := P) (c9 := c9) (T := T) hn hln hRn9 (by rw [et, up2_n (by decide)]; exact hc9) hc4 (by rw [et, up2_n (by decide)]; exact hT0) hT1 hT3 (by rw [et, up2_n (by decide)]; exact hP0) hP hcP hx9) (cwV 1 hts gX7_apply_X7_take rfl rfl rfl (by decide +kernel) ⟨gle hRf rfl, gle hRl rfl⟩) rfl rfl hl.1 rfl (lv_room (Nat.le_of_ble_eq_true rfl)) dX7_apply_27 ⟨hRc, hRs⟩) hS hA (fun iv5 H locs hp5 hS => ?_)
      obtain ⟨⟨a1, a2⟩, a3⟩ := hp5
      have o53 : iv5 53 = iv4 53 := a3 53 (by decide) (by decide)
      have hmv5 : rmove iv5 m8 P T G9 Ad := fun q hq => by rw [a3 54 (by decide) (by decide), a3 55 (by decide) (by decide), et, up2_row (by decide), up2_row (by decide)]; exact hmv q hq
      refine lv_aload_n hx hb dX7_apply_30 rfl (lv_at hl 0 rfl) ?_
      refine lv_iload_n hx hb dX7_apply_31 rfl (lv_at hl 1 rfl) ?_
      refine gc_v (gx_runV (As := [.int (nI m8)]) (rest := []) ⟨hx, hb, hml, hown, hts⟩ hK hN hS 53 (by omega) rfl rfl (ct_X7_act l D cA o ad ln n H.size iv5 (m8 := m8) (P := P) (c9 := c9) (T := T) (w := dw P c9 (x / T ^ c9)) (t := dt T c9 x) (G9 := G9) (Ad := Ad) hn hln hRn9 (by rw [o53, et, up2_n (by decide)]; exact hc9) hc4 (by rw [o53, et, up2_n (by decide)]; exact hT0) hT1 hT3 (by rw [o53, et, up2_n (by decide)]; exact hP0) hP hmv5 hm6 a1 a2 hd1 (fun i _ => Nat.mod_lt _ hT1)) (cwV 1 hts gX7_apply_X7_act rfl rfl rfl (by decide +kernel) ⟨gle hRf rfl, gle hRl rfl⟩) rfl rfl hl.1 rfl (lv_room (Nat.le_of_ble_eq_true rfl)) dX7_apply_32 ⟨hRc, hRs⟩) hS hA (fun iv6 H locs hp6 hS => ?_)
      obtain ⟨⟨b1, b2⟩, b3⟩ := hp6
      have p53 : iv6 53 = iv4 53 := (b3 53 (by decide) (by decide)).trans o53
      refine lv_aload_n hx hb dX7_apply_35 rfl (lv_at hl 0 rfl) ?_
      refine lv_aload_n hx hb dX7_apply_36 rfl (lv_at hl 0 rfl) ?_
      refine gc_i (gx_runV (As := []) (rest := [.ref (ad 53)]) ⟨hx, hb, hml, hown, hts⟩ hK hN hS 53 (by omega) rfl rfl (ct_X7_numberOf l D cA o ad ln n H.size iv6 (P := P) (c9 := c9) (T := T) (w := fun j => G9 (dw P c9 (x / T ^ c9) j)) (t := fun j => (dt T c9 x j + Ad (dw P c9 (x / T ^ c9) j)) % T) hn hln hRn9 (by rw [p53, et, up2_n (by decide)]; exact hc9) hc4 (by rw [p53, et, up2_n (by decide)]; exact hT0) hT1 hT3 (by rw [p53, et, up2_n (by decide)]; exact hP0) hP b1 b2 (inj_comp hd1 hGi) (fun i _ => Nat.mod_lt _ hT1)) (cwV 0 hts gX7_apply_X7_numberOf rfl rfl rfl (by decide +kernel) ⟨gle hRf rfl, gle hRl rfl⟩) rfl rfl hl.1 rfl (lv_room (Nat.le_of_ble_eq_true rfl)) dX7_apply_37 ⟨hRc, hRs⟩) hS hA (fun y iv7 H locs hp7 hS => ?_)
      obtain ⟨ey, ev7⟩ := hp7
      rw [ev7] at hS
      skip
      refine gx_put (ci := 10) (x := y) (ty := .int) (C := RX7) (T := TX7) (N := 23) hx hb hts (fun _ h => inX7_apply_RX7 h) tyX7 tyX7_ok nmX7 hown hK hS 53 (by omega) rfl rfl 11 (by decide) (hts (.fieldLink RX7 90 "CosetTablesModel" "state" "I") (by decide +kernel)) rfl (by decide +kernel) rfl rfl (Nat.le_of_ble_eq_true rfl) rfl dX7_apply_40 (fun H locs hS => ?_)
      obtain ⟨iv8, eiv8⟩ : ∃ z, z = up2 iv6 53 11 (y) := ⟨_, rfl⟩
      rw [← eiv8] at hS
      exact kret iv8 _ _ _ _ dX7_apply_43 (⟨by rw [eiv8, up2_s, ey], by rw [eiv8, up2_n (by decide), p53, et, up2_s], fun j x1 x2 => by rw [eiv8, up2_n (fun q => x2 q.2), p53, et, up2_n (fun q => x1 q.2)], fun q x1 x2 x3 => by rw [eiv8, up2_row x1, b3 q x2 x3, a3 q x2 x3, et, up2_row x1]⟩) hS
    · skip
      rw [show (0 : Int32) = nI 0 from rfl] at c_18
      rw [nI_eq (by omega) (by omega)] at c_18
      omega
  · skip
    exact absurd (hi1.mpr hok) (by rw [c_7]; decide)
set_option maxRecDepth 100000 in
theorem ct_X7_apply (l : Launch) (D : va_G) (cA : Nat → ClassId) (o : Nat → Int64) (ad ln : Nat → Nat) (n sz : Nat) (iv : Nat → Nat → Int32) (m8 mc9 x P c9 T : Nat) (G9 Ad : Nat → Nat) (hn : 68 ≤ n) (hln : ∀ k, ln k < 2 ^ 31) (hRn : rln ln) (hc9 : iv 53 7 = nI c9) (hc4 : c9 ≤ 4) (hT0 : iv 53 2 = nI T) (hT1 : 0 < T) (hT3 : T ≤ 3) (hP0 : iv 53 1 = nI P) (hP : P ≤ 8) (hmv : rmove iv m8 P T G9 Ad) (hm6 : m8 < 6) (hcP : c9 ≤ P) (hGi : inj G9 P P) (hmc : iv 53 3 = nI mc9) (hmc6 : mc9 ≤ 6) (hm9 : m8 < mc9) (hx0 : iv 53 11 = nI x) (hx9 : x < 2 ^ 20) : gMv l yX7_apply wsX7_apply { frames := 2, cells := 0, slots := 0, locals := 48 } D cA o ad ln n sz iv [.ref (ad 53), .int (nI m8)] (fun iv' => iv' 53 11 = nI (num P T c9 (fun j => G9 (dw P c9 (x / T ^ c9) j)) (fun j => (dt T c9 x j + Ad (dw P c9 (x / T ^ c9) j)) % T)) ∧ iv' 53 0 = 0 ∧ (∀ j, j ≠ 0 → j ≠ 11 → iv' 53 j = iv 53 j) ∧ ∀ q, q ≠ 53 → q ≠ 58 → q ≠ 59 → iv' q = iv q) := by
  refine Met.ofW (cc := cX7_apply) (maxL := 2) (ret := none) (by decide) rfl ?_
  intro p e s m args below meth c s₁ B hml hv__
  obtain ⟨rfl, hv__⟩ := hv__
  obtain ⟨hsz, hS, hK, hN, hA⟩ := gS.entry hv__
  have hl := lv_entry ([.ref (ad 53), .int (nI m8)]) (n := 2) (Nat.le_of_ble_eq_true rfl)
  rw [lg_entry_eq]
  generalize (lg_sl ([.ref (ad 53), .int (nI m8)]) ++ List.replicate (2 - (lg_sl ([.ref (ad 53), .int (nI m8)])).length) Slot.unset).toArray = ls at hl ⊢
  exact bd_X7_apply (m8 := m8) (mc9 := mc9) (x := x) (P := P) (c9 := c9) (T := T) (G9 := G9) (Ad := Ad) ⟨B.exec, B.bytes, hml, findClass_of_methodNamed B.named, atoms_spec (ws := wsX7_apply) B.pre, B.returns, B.notSynchronized⟩ (Nat.le_refl _) (Nat.le_refl _) (Nat.le_refl _) (Nat.le_refl _) hK hN hA hn hln hRn hc9 hc4 hT0 hT1 hT3 hP0 hP hmv hm6 hcP hGi hmc hmc6 hm9 hx0 hx9 hS hl (fun iv' H locs ls pc hd hp hS => gx_vret B.exec B.bytes B.returns B.notSynchronized hS hp hd)

set_option maxHeartbeats 1000000 in
set_option maxRecDepth 100000 in
theorem bd_X7_applyB {p : Program} {l : Launch} {e : Env} {R : Room} {s : State} {m : MethodId} {args : Array Value} {below : List Frame} {meth : Method} {c : Code} {H : Heap} {locs : List Loc} {cells slots : Nat} {Q : State → Prop} {ls : Array Slot} {D : va_G} {A : Nat → Prop} {H0 : Heap} {cA : Nat → ClassId} {o : Nat → Int64} {ad ln : Nat → Nat} {iv : Nat → Nat → Int32} {n : Nat} {x : Int32}
    (F : gF p s m meth c cX7_apply 2 RX7 wsX7_apply args none) (hRf : 1 ≤ R.frames) (hRl : 22 ≤ R.locals) (hRc : cells ≤ R.cells) (hRs : slots ≤ R.slots) (hK : va_K D vwCl (gT cA) s) (hN : NW s) (hA : ∀ q, H0.size ≤ q → A q) (hn : 68 ≤ n) (hln : ∀ k, ln k < 2 ^ 31) (hbad : ¬ ok9 x (iv 53 3))
    (hS : gS D cA A H0 o ad ln iv n H locs) (hl : lv_has ls 2 [(0, .ref (ad 53)), (1, .int x)])
    (kret : ∀ (iv' : Nat → Nat → Int32) (H : Heap) (locs : List Loc) (ls : Array Slot) (pc : Nat), decode cX7_apply pc = .ok (.return_, 1) → (iv' = up2 iv 53 0 1) → gS D cA A H0 o ad ln iv' n H locs → W p l e R s m args below meth c H locs cells slots Q (F0 m pc ls [])) :
    W p l e R s m args below meth c H locs cells slots Q (F0 m 0 ls []) := by
  obtain ⟨hx, hb, hml, hown, hts, hr, hlocks⟩ := F
  refine lv_aload_n hx hb dX7_apply_0 rfl (lv_at hl 0 rfl) ?_
  refine lv_iconst (v := nI 1) hx hb dX7_apply_1 (by decide) ?_
  refine lv_aload_n hx hb dX7_apply_2 rfl (lv_at hl 0 rfl) ?_
  refine lv_iload_n hx hb dX7_apply_3 rfl (lv_at hl 1 rfl) ?_
  refine gc_i (gx_runV (As := [.int x]) (rest := [.int (nI 1), .ref (ad 53)]) ⟨hx, hb, hml, hown, hts⟩ hK hN hS 53 (by omega) rfl rfl (ct_X7_isMove l D cA o ad ln n H.size iv (x := x) hn hln) (cwV 1 hts gX7_apply_X7_isMove rfl rfl rfl (by decide +kernel) ⟨gle hRf rfl, gle hRl rfl⟩) rfl rfl hl.1 rfl (lv_room (Nat.le_of_ble_eq_true rfl)) dX7_apply_4 ⟨hRc, hRs⟩) hS hA (fun y1 iv1 H locs hp1 hS => ?_)
  obtain ⟨h011, hi1, ev1⟩ := hp1
  rw [ev1] at hS
  skip
  refine lv_if_ne (tgt := 14) hx hb dX7_apply_7 (by decide) (fun c_7 => ?_) (fun c_7 => ?_)
  · skip
    exact absurd (hi1.mp (h011.resolve_left c_7)) hbad
  · skip
    refine lv_iconst (v := nI 1) hx hb dX7_apply_10 (by decide) ?_
    refine lv_goto (tgt := 15) hx hb dX7_apply_11 (by decide) ?_
    refine gc_i (gx_runV (As := [.int (nI 1), .int (nI 1)]) (rest := []) ⟨hx, hb, hml, hown, hts⟩ hK hN hS 53 (by omega) rfl rfl (ct_X7_throwsIf l D cA o ad ln n H.size iv (x := nI 1) (v := nI 1) hn hln (Or.inr rfl)) (cwV 2 hts gX7_apply_X7_throwsIf rfl rfl rfl (by decide +kernel) ⟨gle hRf rfl, gle hRl rfl⟩) rfl rfl hl.1 rfl (lv_room (Nat.le_of_ble_eq_true rfl)) dX7_apply_15 ⟨hRc, hRs⟩) hS hA (fun z iv4 H locs hp4 hS => ?_)
    obtain ⟨_, ez, et⟩ := hp4
    have et : iv4 = up2 iv 53 0 1 := et
    refine gx_as (y := nI 1) ez ?_
    refine lv_if_eq (tgt := 22) hx hb dX7_apply_18 (by decide) (fun c_18 => ?_) (fun c_18 => ?_)
    · skip
      rw [show (0 : Int32) = nI 0 from rfl] at c_18
      rw [nI_eq (by omega) (by omega)] at c_18
      omega
    · skip
      rw [show (0 : Int32) = nI 0 from rfl] at c_18
      rw [nI_eq (by omega) (by omega)] at c_18
      exact kret iv4 _ _ _ _ dX7_apply_21 (et) hS
set_option maxRecDepth 100000 in
theorem ct_X7_applyB (l : Launch) (D : va_G) (cA : Nat → ClassId) (o : Nat → Int64) (ad ln : Nat → Nat) (n sz : Nat) (iv : Nat → Nat → Int32) (x : Int32) (hn : 68 ≤ n) (hln : ∀ k, ln k < 2 ^ 31) (hbad : ¬ ok9 x (iv 53 3)) : gMv l yX7_apply wsX7_apply { frames := 1, cells := 0, slots := 0, locals := 22 } D cA o ad ln n sz iv [.ref (ad 53), .int x] (fun iv' => iv' = up2 iv 53 0 1) := by
  refine Met.ofW (cc := cX7_apply) (maxL := 2) (ret := none) (by decide) rfl ?_
  intro p e s m args below meth c s₁ B hml hv__
  obtain ⟨rfl, hv__⟩ := hv__
  obtain ⟨hsz, hS, hK, hN, hA⟩ := gS.entry hv__
  have hl := lv_entry ([.ref (ad 53), .int x]) (n := 2) (Nat.le_of_ble_eq_true rfl)
  rw [lg_entry_eq]
  generalize (lg_sl ([.ref (ad 53), .int x]) ++ List.replicate (2 - (lg_sl ([.ref (ad 53), .int x])).length) Slot.unset).toArray = ls at hl ⊢
  exact bd_X7_applyB (x := x) ⟨B.exec, B.bytes, hml, findClass_of_methodNamed B.named, atoms_spec (ws := wsX7_apply) B.pre, B.returns, B.notSynchronized⟩ (Nat.le_refl _) (Nat.le_refl _) (Nat.le_refl _) (Nat.le_refl _) hK hN hA hn hln hbad hS hl (fun iv' H locs ls pc hd hp hS => gx_vret B.exec B.bytes B.returns B.notSynchronized hS hp hd)

theorem inX7_orderOf_RX7 : ∀ {w : Cond}, w ∈ u_ws RX7 TX7 23 → w ∈ wsX7_orderOf := fun {w} h => by first | exact List.mem_cons_of_mem _ (List.mem_append_right _ h) | (revert h; revert w; show ∀ w ∈ u_ws RX7 TX7 23, w ∈ wsX7_orderOf; decide +kernel)
set_option maxHeartbeats 1000000 in
set_option maxRecDepth 100000 in
theorem bd_X7_orderOf {p : Program} {l : Launch} {e : Env} {R : Room} {s : State} {m : MethodId} {args : Array Value} {below : List Frame} {meth : Method} {c : Code} {H : Heap} {locs : List Loc} {cells slots : Nat} {Q : State → Prop} {ls : Array Slot} {D : va_G} {A : Nat → Prop} {H0 : Heap} {cA : Nat → ClassId} {o : Nat → Int64} {ad ln : Nat → Nat} {iv : Nat → Nat → Int32} {n : Nat} {m8 P T N0 : Nat} {G9 Ad : Nat → Nat}
    (F : gF p s m meth c cX7_orderOf 8 RX7 wsX7_orderOf args (some .int)) (hRf : 0 ≤ R.frames) (hRl : 0 ≤ R.locals) (hRc : cells ≤ R.cells) (hRs : slots ≤ R.slots) (hK : va_K D vwCl (gT cA) s) (hN : NW s) (hA : ∀ q, H0.size ≤ q → A q) (hn : 68 ≤ n) (hln : ∀ k, ln k < 2 ^ 31) (hRn : rln ln) (hT0 : iv 53 2 = nI T) (hT1 : 0 < T) (hT3 : T ≤ 3) (hP0 : iv 53 1 = nI P) (hP : P ≤ 8) (hmv : rmove iv m8 P T G9 Ad) (hm6 : m8 < 6) (hN1 : 1 ≤ N0) (hN2 : N0 ≤ 63) (hN3 : hmB P T G9 Ad N0 = true)
    (hS : gS D cA A H0 o ad ln iv n H locs) (hl : lv_has ls 8 [(0, .ref (ad 53)), (1, .int (nI m8))])
    (kret : ∀ (r : Int32) (iv' : Nat → Nat → Int32) (H : Heap) (locs : List Loc) (ls : Array Slot) (pc : Nat), decode cX7_orderOf pc = .ok (.ireturn, 1) → (r = nI (ordr P T G9 Ad) ∧ iv' = iv) → gS D cA A H0 o ad ln iv' n H locs → W p l e R s m args below meth c H locs cells slots Q (F0 m pc ls [.int r])) :
    W p l e R s m args below meth c H locs cells slots Q (F0 m 0 ls []) := by
  obtain ⟨hx, hb, hml, hown, hts, hr, hlocks⟩ := F
  have hRn9 := hRn
  obtain ⟨r54, r55, r56, r57, r58, r59, r60, r61, r62, r63, r64, r65, r66⟩ := hRn
  have hG8 : ∀ q, q < P → G9 q < P := fun q hq => (hmv q hq).2.1
  have hA8 : ∀ q, q < P → Ad q < 3 := fun q hq => by have := (hmv q hq).2.2.2; omega
  refine lv_iconst (v := nI 0) hx hb dX7_orderOf_0 (by decide) ?_
  refine lv_istore_n (lv' := [(2, .int (nI 0)), (0, .ref (ad 53)), (1, .int (nI m8))]) hx hb dX7_orderOf_1 rfl hl (by decide) rfl (fun ls hl => ?_)
  refine lv_iconst (v := nI 0) hx hb dX7_orderOf_2 (by decide) ?_
  refine lv_istore_n (lv' := [(3, .int (nI 0)), (2, .int (nI 0)), (0, .ref (ad 53)), (1, .int (nI m8))]) hx hb dX7_orderOf_3 rfl hl (by decide) rfl (fun ls hl => ?_)
  have L4 : ∀ (N : Nat) (n8 : Nat) (v8 : Int32), N0 - n8 < N → (v8 = 0 ∨ v8 = 1) → (∀ j, 1 ≤ j → j < n8 → hmB P T G9 Ad j = false) → (v8 = 1 → 1 ≤ n8 ∧ hmB P T G9 Ad n8 = true) → (v8 = 0 → n8 = 0 ∨ hmB P T G9 Ad n8 = false) → (n8 ≤ N0) → ∀ (H : Heap) (locs : List Loc) (ls : Array Slot), gS D cA A H0 o ad ln iv n H locs → lv_has ls 8 [(0, .ref (ad 53)), (1, .int (nI m8)), (2, .int (nI n8)), (3, .int v8)] → W p l e R s m args below meth c H locs cells slots Q (F0 m 4 ls []) := by
    intro N
    induction N with
    | zero => intro n8 v8 hm; exact absurd hm (Nat.not_lt_zero _)
    | succ N ih4 =>
      intro n8 v8 hm hv8 h1 h2 h3 hn8 H locs ls hS hl
      refine lv_iload_n hx hb dX7_orderOf_4 rfl (lv_at hl 3 rfl) ?_
      refine lv_if_ne (tgt := 114) hx hb dX7_orderOf_5 (by decide) (fun c_5 => ?_) (fun c_5 => ?_)
      · skip
        obtain ⟨u1, u2⟩ := h2 (hv8.resolve_left c_5)
        refine lv_iload_n hx hb dX7_orderOf_114 rfl (lv_at hl 2 rfl) ?_
        exact kret _ iv _ _ _ _ dX7_orderOf_115 (⟨congrArg nI (lst_found u1 (by omega) u2 (fun j a b => h1 j a b)).symm, rfl⟩) hS
      · skip
        have hlt8 : n8 < N0 := by
          rcases Nat.lt_or_ge n8 N0 with u | u
          · exact u
          · have e : n8 = N0 := by omega
            rcases h3 c_5 with w8 | w8
            · omega
            · rw [e, hN3] at w8; exact absurd w8 (by decide)
        have h1n : ∀ j, 1 ≤ j → j < n8 + 1 → hmB P T G9 Ad j = false := fun j a b => by
          rcases Nat.lt_or_ge j n8 with u | u
          · exact h1 j a u
          · have e : j = n8 := by omega
            rcases h3 c_5 with w8 | w8
            · omega
            · rw [e]; exact w8
        refine lv_iinc (v := nI (n8 + 1)) (lv' := [(2, .int (nI (n8 + 1))), (0, .ref (ad 53)), (1, .int (nI m8)), (3, .int v8)]) hx hb dX7_orderOf_8 hl (k := 2) rfl (nI_1 n8) (by decide) rfl (fun ls hl => ?_)
        refine lv_iconst (v := nI 1) hx hb dX7_orderOf_11 (by decide) ?_
        refine lv_istore_n (lv' := [(3, .int (nI 1)), (2, .int (nI (n8 + 1))), (0, .ref (ad 53)), (1, .int (nI m8))]) hx hb dX7_orderOf_12 rfl hl (by decide) rfl (fun ls hl => ?_)
        refine lv_iconst (v := nI 0) hx hb dX7_orderOf_13 (by decide) ?_
        refine lv_istore (lv' := [(4, .int (nI 0)), (3, .int (nI 1)), (2, .int (nI (n8 + 1))), (0, .ref (ad 53)), (1, .int (nI m8))]) hx hb dX7_orderOf_14 hl (by decide) rfl (fun ls hl => ?_)
        have L16 : ∀ (N : Nat) (p8 : Nat) (v9 : Int32), P - p8 < N → (p8 ≤ P) → ((v9 = 1 ∧ ∀ q, q < p8 → (itg G9 (n8 + 1) q = q ∧ tws T G9 Ad (n8 + 1) q = 0)) ∨ (v9 = 0 ∧ ∃ q, q < P ∧ ¬ (itg G9 (n8 + 1) q = q ∧ tws T G9 Ad (n8 + 1) q = 0))) → ∀ (H : Heap) (locs : List Loc) (ls : Array Slot), gS D cA A H0 o ad ln iv n H locs → lv_has ls 8 [(0, .ref (ad 53)), (1, .int (nI m8)), (2, .int (nI (n8 + 1))), (3, .int v9), (4, .int (nI p8))] → W p l e R s m args below meth c H locs cells slots Q (F0 m 16 ls []) := by
          intro N
          induction N with
          | zero => intro p8 v9 hm; exact absurd hm (Nat.not_lt_zero _)
          | succ N ih16 =>
            intro p8 v9 hm hp8 hv9 H locs ls hS hl
            refine lv_iload hx hb dX7_orderOf_16 (lv_at hl 4 rfl) ?_
            refine lv_aload_n hx hb dX7_orderOf_18 rfl (lv_at hl 0 rfl) ?_
            refine gx_get (ci := 10) (v := .int (iv 53 1)) (C := RX7) (T := TX7) (N := 23) hx hb hts (fun _ h => inX7_orderOf_RX7 h) hown hK hS 53 (by omega) rfl rfl 1 (by decide) (hts (.fieldLink RX7 51 "CosetTablesModel" "places" "I") (by decide +kernel)) rfl dX7_orderOf_19 ?_
            refine gx_as (y := nI P) hP0 ?_
            refine lv_icmp_ge (tgt := 111) hx hb dX7_orderOf_22 (by decide) (fun c_22 => ?_) (fun c_22 => ?_)
            · skip
              rw [nI_leI (by omega) (by omega)] at c_22
              have hfin : (v9 = 1 → hmB P T G9 Ad (n8 + 1) = true) ∧ (v9 = 0 → hmB P T G9 Ad (n8 + 1) = false) := by
                refine ⟨fun u => hmB_iff.mpr (fun q hq => ?_), fun u => ?_⟩
                · rcases hv9 with w8 | w8
                  · exact w8.2 q (by omega)
                  · rw [w8.1] at u; exact absurd u (by decide)
                · rcases hv9 with w8 | ⟨_, q, q1, q2⟩
                  · rw [w8.1] at u; exact absurd u (by decide)
                  · exact Bool.eq_false_iff.mpr (fun z8 => q2 (hmB_iff.mp z8 q q1))
              refine lv_goto (tgt := 4) hx hb dX7_orderOf_111 (by decide) ?_
              exact ih4 (n8 + 1) v9 (by omega) (by rcases hv9 with q | q; exact Or.inr q.1; exact Or.inl q.1) h1n (fun q => ⟨by omega, hfin.1 q⟩) (fun q => Or.inr (hfin.2 q)) (by omega) _ _ _ hS (lv_sub hl [0, 1, 2, 3] rfl)
            · skip
              rw [nI_leI (by omega) (by omega)] at c_22
              refine lv_iload_n hx hb dX7_orderOf_25 rfl (lv_at hl 3 rfl) ?_
              refine lv_if_eq (tgt := 111) hx hb dX7_orderOf_26 (by decide) (fun c_26 => ?_) (fun c_26 => ?_)
              · skip
                have hfin : (v9 = 1 → hmB P T G9 Ad (n8 + 1) = true) ∧ (v9 = 0 → hmB P T G9 Ad (n8 + 1) = false) := by
                  refine ⟨fun u => by rw [c_26] at u; exact absurd u (by decide), fun u => ?_⟩
                  rcases hv9 with w8 | ⟨_, q, q1, q2⟩
                  · rw [w8.1] at u; exact absurd u (by decide)
                  · exact Bool.eq_false_iff.mpr (fun z8 => q2 (hmB_iff.mp z8 q q1))
                refine lv_goto (tgt := 4) hx hb dX7_orderOf_111 (by decide) ?_
                exact ih4 (n8 + 1) v9 (by omega) (by rcases hv9 with q | q; exact Or.inr q.1; exact Or.inl q.1) h1n (fun q => ⟨by omega, hfin.1 q⟩) (fun q => Or.inr (hfin.2 q)) (by omega) _ _ _ hS (lv_sub hl [0, 1, 2, 3] rfl)
              · skip
                have hv9b : ∀ q, q < p8 → (itg G9 (n8 + 1) q = q ∧ tws T G9 Ad (n8 + 1) q = 0) := by
                  rcases hv9 with w8 | w8
                  · exact w8.2
                  · exact absurd w8.1 c_26
                refine lv_iload hx hb dX7_orderOf_29 (lv_at hl 4 rfl) ?_
                refine gx_as (y := nI (itg G9 0 p8)) rfl ?_
                refine lv_istore (lv' := [(5, .int (nI (itg G9 0 p8))), (0, .ref (ad 53)), (1, .int (nI m8)), (2, .int (nI (n8 + 1))), (3, .int v9), (4, .int (nI p8))]) hx hb dX7_orderOf_31 hl (by decide) rfl (fun ls hl => ?_)
                refine lv_iconst (v := nI 0) hx hb dX7_orderOf_33 (by decide) ?_
                refine gx_as (y := nI (twn G9 Ad 0 p8)) rfl ?_
                refine lv_istore (lv' := [(6, .int (nI (twn G9 Ad 0 p8))), (5, .int (nI (itg G9 0 p8))), (0, .ref (ad 53)), (1, .int (nI m8)), (2, .int (nI (n8 + 1))), (3, .int v9), (4, .int (nI p8))]) hx hb dX7_orderOf_34 hl (by decide) rfl (fun ls hl => ?_)
                refine lv_iconst (v := nI 0) hx hb dX7_orderOf_36 (by decide) ?_
                refine lv_istore (lv' := [(7, .int (nI 0)), (6, .int (nI (twn G9 Ad 0 p8))), (5, .int (nI (itg G9 0 p8))), (0, .ref (ad 53)), (1, .int (nI m8)), (2, .int (nI (n8 + 1))), (3, .int v9), (4, .int (nI p8))]) hx hb dX7_orderOf_37 hl (by decide) rfl (fun ls hl => ?_)
                have L39 : ∀ (N : Nat) (k : Nat), n8 + 1 - k < N → (k ≤ n8 + 1) → ∀ (H : Heap) (locs : List Loc) (ls : Array Slot), gS D cA A H0 o ad ln iv n H locs → lv_has ls 8 [(0, .ref (ad 53)), (1, .int (nI m8)), (2, .int (nI (n8 + 1))), (3, .int v9), (4, .int (nI p8)), (5, .int (nI (itg G9 k p8))), (6, .int (nI (twn G9 Ad k p8))), (7, .int (nI k))] → W p l e R s m args below meth c H locs cells slots Q (F0 m 39 ls []) := by
                  intro N
                  induction N with
                  | zero => intro k hm; exact absurd hm (Nat.not_lt_zero _)
                  | succ N ih39 =>
                    intro k hm hk H locs ls hS hl
                    have hit := itg_in hG8 k (show p8 < P by omega)
                    have htw := twn_le hG8 hA8 (show p8 < P by omega) k
                    obtain ⟨m1, m2, m3, m4⟩ := hmv _ hit
                    refine lv_iload hx hb dX7_orderOf_39 (lv_at hl 7 rfl) ?_
                    refine lv_iload_n hx hb dX7_orderOf_41 rfl (lv_at hl 2 rfl) ?_
                    refine lv_icmp_ge (tgt := 82) hx hb dX7_orderOf_42 (by decide) (fun c_42 => ?_) (fun c_42 => ?_)
                    · skip
                      rw [nI_leI (by omega) (by omega)] at c_42
                      have ek : k = n8 + 1 := by omega
                      rw [ek] at hl hit htw
                      refine lv_iload hx hb dX7_orderOf_82 (lv_at hl 5 rfl) ?_
                      refine lv_iload hx hb dX7_orderOf_84 (lv_at hl 4 rfl) ?_
                      refine lv_icmp_ne (tgt := 103) hx hb dX7_orderOf_86 (by decide) (fun c_86 => ?_) (fun c_86 => ?_)
                      · skip
                        rw [nI_eq (by omega) (by omega)] at c_86
                        refine lv_iconst (v := nI 0) hx hb dX7_orderOf_103 (by decide) ?_
                        refine lv_istore_n (lv' := [(3, .int (nI 0)), (0, .ref (ad 53)), (1, .int (nI m8)), (2, .int (nI (n8 + 1))), (4, .int (nI p8)), (5, .int (nI (itg G9 (n8 + 1) p8))), (6, .int (nI (twn G9 Ad (n8 + 1) p8))), (7, .int (nI (n8 + 1)))]) hx hb dX7_orderOf_104 rfl hl (by decide) rfl (fun ls hl => ?_)
                        refine lv_iinc (v := nI (p8 + 1)) (lv' := [(4, .int (nI (p8 + 1))), (3, .int (nI 0)), (0, .ref (ad 53)), (1, .int (nI m8)), (2, .int (nI (n8 + 1))), (5, .int (nI (itg G9 (n8 + 1) p8))), (6, .int (nI (twn G9 Ad (n8 + 1) p8))), (7, .int (nI (n8 + 1)))]) hx hb dX7_orderOf_105 hl (k := 4) rfl (nI_1 p8) (by decide) rfl (fun ls hl => ?_)
                        refine lv_goto (tgt := 16) hx hb dX7_orderOf_108 (by decide) ?_
                        exact ih16 (p8 + 1) _ (by omega) (by omega) (by first | exact Or.inl ⟨rfl, fun q hq => by rcases Nat.lt_or_ge q p8 with u | u; exact hv9b q u; have e : q = p8 := (by omega); rw [e]; exact ⟨c_86, by rw [tws_twn]; exact c_96⟩⟩ | exact Or.inr ⟨rfl, p8, by omega, fun u => c_86 u.1⟩ | exact Or.inr ⟨rfl, p8, by omega, fun u => c_96 (by rw [← tws_twn]; exact u.2)⟩) _ _ _ hS (lv_sub hl [2, 3, 4, 1, 0] rfl)
                      · skip
                        rw [nI_eq (by omega) (by omega)] at c_86
                        refine lv_iload hx hb dX7_orderOf_89 (lv_at hl 6 rfl) ?_
                        refine lv_aload_n hx hb dX7_orderOf_91 rfl (lv_at hl 0 rfl) ?_
                        refine gx_get (ci := 10) (v := .int (iv 53 2)) (C := RX7) (T := TX7) (N := 23) hx hb hts (fun _ h => inX7_orderOf_RX7 h) hown hK hS 53 (by omega) rfl rfl 2 (by decide) (hts (.fieldLink RX7 55 "CosetTablesModel" "twists" "I") (by decide +kernel)) rfl dX7_orderOf_92 ?_
                        refine gx_as (y := nI T) hT0 ?_
                        refine lv_irem hx hb dX7_orderOf_95 (nI_ne0 hT1 (by omega)) ?_
                        refine gx_as (y := nI (twn G9 Ad (n8 + 1) p8 % T)) (grem (by omega) hT1 (by omega)) ?_
                        have hmt : twn G9 Ad (n8 + 1) p8 % T < T := Nat.mod_lt _ hT1
                        refine lv_if_ne (tgt := 103) hx hb dX7_orderOf_96 (by decide) (fun c_96 => ?_) (fun c_96 => ?_)
                        · skip
                          rw [show (0 : Int32) = nI 0 from rfl] at c_96
                          rw [nI_eq (by omega) (by omega)] at c_96
                          refine lv_iconst (v := nI 0) hx hb dX7_orderOf_103 (by decide) ?_
                          refine lv_istore_n (lv' := [(3, .int (nI 0)), (0, .ref (ad 53)), (1, .int (nI m8)), (2, .int (nI (n8 + 1))), (4, .int (nI p8)), (5, .int (nI (itg G9 (n8 + 1) p8))), (6, .int (nI (twn G9 Ad (n8 + 1) p8))), (7, .int (nI (n8 + 1)))]) hx hb dX7_orderOf_104 rfl hl (by decide) rfl (fun ls hl => ?_)
                          refine lv_iinc (v := nI (p8 + 1)) (lv' := [(4, .int (nI (p8 + 1))), (3, .int (nI 0)), (0, .ref (ad 53)), (1, .int (nI m8)), (2, .int (nI (n8 + 1))), (5, .int (nI (itg G9 (n8 + 1) p8))), (6, .int (nI (twn G9 Ad (n8 + 1) p8))), (7, .int (nI (n8 + 1)))]) hx hb dX7_orderOf_105 hl (k := 4) rfl (nI_1 p8) (by decide) rfl (fun ls hl => ?_)
                          refine lv_goto (tgt := 16) hx hb dX7_orderOf_108 (by decide) ?_
                          exact ih16 (p8 + 1) _ (by omega) (by omega) (by first | exact Or.inl ⟨rfl, fun q hq => by rcases Nat.lt_or_ge q p8 with u | u; exact hv9b q u; have e : q = p8 := (by omega); rw [e]; exact ⟨c_86, by rw [tws_twn]; exact c_96⟩⟩ | exact Or.inr ⟨rfl, p8, by omega, fun u => c_86 u.1⟩ | exact Or.inr ⟨rfl, p8, by omega, fun u => c_96 (by rw [← tws_twn]; exact u.2)⟩) _ _ _ hS (lv_sub hl [2, 3, 4, 1, 0] rfl)
                        · skip
                          rw [show (0 : Int32) = nI 0 from rfl] at c_96
                          rw [nI_eq (by omega) (by omega)] at c_96
                          refine lv_iconst (v := nI 1) hx hb dX7_orderOf_99 (by decide) ?_
                          refine lv_goto (tgt := 104) hx hb dX7_orderOf_100 (by decide) ?_
                          refine lv_istore_n (lv' := [(3, .int (nI 1)), (0, .ref (ad 53)), (1, .int (nI m8)), (2, .int (nI (n8 + 1))), (4, .int (nI p8)), (5, .int (nI (itg G9 (n8 + 1) p8))), (6, .int (nI (twn G9 Ad (n8 + 1) p8))), (7, .int (nI (n8 + 1)))]) hx hb dX7_orderOf_104 rfl hl (by decide) rfl (fun ls hl => ?_)
                          refine lv_iinc (v := nI (p8 + 1)) (lv' := [(4, .int (nI (p8 + 1))), (3, .int (nI 1)), (0, .ref (ad 53)), (1, .int (nI m8)), (2, .int (nI (n8 + 1))), (5, .int (nI (itg G9 (n8 + 1) p8))), (6, .int (nI (twn G9 Ad (n8 + 1) p8))), (7, .int (nI (n8 + 1)))]) hx hb dX7_orderOf_105 hl (k := 4) rfl (nI_1 p8) (by decide) rfl (fun ls hl => ?_)
                          refine lv_goto (tgt := 16) hx hb dX7_orderOf_108 (by decide) ?_
                          exact ih16 (p8 + 1) _ (by omega) (by omega) (by first | exact Or.inl ⟨rfl, fun q hq => by rcases Nat.lt_or_ge q p8 with u | u; exact hv9b q u; have e : q = p8 := (by omega); rw [e]; exact ⟨c_86, by rw [tws_twn]; exact c_96⟩⟩ | exact Or.inr ⟨rfl, p8, by omega, fun u => c_86 u.1⟩ | exact Or.inr ⟨rfl, p8, by omega, fun u => c_96 (by rw [← tws_twn]; exact u.2)⟩) _ _ _ hS (lv_sub hl [2, 3, 4, 1, 0] rfl)
                    · skip
                      rw [nI_leI (by omega) (by omega)] at c_42
                      refine lv_iload hx hb dX7_orderOf_45 (lv_at hl 6 rfl) ?_
                      refine lv_aload_n hx hb dX7_orderOf_47 rfl (lv_at hl 0 rfl) ?_
                      refine gx_get (ci := 10) (v := .ref (ad 55)) (C := RX7) (T := TX7) (N := 23) hx hb hts (fun _ h => inX7_orderOf_RX7 h) hown hK hS 53 (by omega) rfl rfl 5 (by decide) (hts (.fieldLink RX7 13 "CosetTablesModel" "add" "[I") (by decide +kernel)) rfl dX7_orderOf_48 ?_
                      refine lv_bipush (v := nI 8) hx hb dX7_orderOf_51 (by decide) ?_
                      refine lv_iload_n hx hb dX7_orderOf_53 rfl (lv_at hl 1 rfl) ?_
                      refine lv_imul hx hb dX7_orderOf_54 ?_
                      refine gx_as (y := nI (8 * m8)) (pk_mul _ _) ?_
                      refine lv_iload hx hb dX7_orderOf_55 (lv_at hl 5 rfl) ?_
                      refine lv_iadd hx hb dX7_orderOf_57 ?_
                      refine gx_as (y := nI ((8 * m8) + (itg G9 k p8))) (nI_add _ _) ?_
                      refine gx_ialdn hx hb hK hS 55 (by omega) (by decide) ((8 * m8) + (itg G9 k p8)) (by omega) (hln _) dX7_orderOf_58 ?_
                      refine gx_as (y := nI (Ad (itg G9 k p8))) m3 ?_
                      refine lv_iadd hx hb dX7_orderOf_59 ?_
                      refine gx_as (y := nI ((twn G9 Ad k p8) + (Ad (itg G9 k p8)))) (nI_add _ _) ?_
                      refine gx_as (y := nI (twn G9 Ad (k + 1) p8)) rfl ?_
                      refine lv_istore (lv' := [(6, .int (nI (twn G9 Ad (k + 1) p8))), (0, .ref (ad 53)), (1, .int (nI m8)), (2, .int (nI (n8 + 1))), (3, .int v9), (4, .int (nI p8)), (5, .int (nI (itg G9 k p8))), (7, .int (nI k))]) hx hb dX7_orderOf_60 hl (by decide) rfl (fun ls hl => ?_)
                      refine lv_aload_n hx hb dX7_orderOf_62 rfl (lv_at hl 1 rfl) ?_
                      refine gx_get (ci := 10) (v := .ref (ad 54)) (C := RX7) (T := TX7) (N := 23) hx hb hts (fun _ h => inX7_orderOf_RX7 h) hown hK hS 53 (by omega) rfl rfl 4 (by decide) (hts (.fieldLink RX7 7 "CosetTablesModel" "to" "[I") (by decide +kernel)) rfl dX7_orderOf_63 ?_
                      refine lv_bipush (v := nI 8) hx hb dX7_orderOf_66 (by decide) ?_
                      refine lv_iload_n hx hb dX7_orderOf_68 rfl (lv_at hl 2 rfl) ?_
                      refine lv_imul hx hb dX7_orderOf_69 ?_
                      refine gx_as (y := nI (8 * m8)) (pk_mul _ _) ?_
                      refine lv_iload hx hb dX7_orderOf_70 (lv_at hl 6 rfl) ?_
                      refine lv_iadd hx hb dX7_orderOf_72 ?_
                      refine gx_as (y := nI ((8 * m8) + (itg G9 k p8))) (nI_add _ _) ?_
                      refine gx_ialdn hx hb hK hS 54 (by omega) (by decide) ((8 * m8) + (itg G9 k p8)) (by omega) (hln _) dX7_orderOf_73 ?_
                      refine gx_as (y := nI (itg G9 (k + 1) p8)) m1 ?_
                      refine lv_istore (lv' := [(5, .int (nI (itg G9 (k + 1) p8))), (6, .int (nI (twn G9 Ad (k + 1) p8))), (0, .ref (ad 53)), (1, .int (nI m8)), (2, .int (nI (n8 + 1))), (3, .int v9), (4, .int (nI p8)), (7, .int (nI k))]) hx hb dX7_orderOf_74 hl (by decide) rfl (fun ls hl => ?_)
                      refine lv_iinc (v := nI (k + 1)) (lv' := [(7, .int (nI (k + 1))), (5, .int (nI (itg G9 (k + 1) p8))), (6, .int (nI (twn G9 Ad (k + 1) p8))), (0, .ref (ad 53)), (1, .int (nI m8)), (2, .int (nI (n8 + 1))), (3, .int v9), (4, .int (nI p8))]) hx hb dX7_orderOf_76 hl (k := 7) rfl (nI_1 k) (by decide) rfl (fun ls hl => ?_)
                      refine lv_goto (tgt := 39) hx hb dX7_orderOf_79 (by decide) ?_
                      exact ih39 (k + 1) (by omega) (by omega) _ _ _ hS (lv_sub hl [3, 4, 5, 6, 7, 1, 2, 0] rfl)
                exact L39 _ 0 (Nat.lt_succ_self _) (Nat.zero_le _) _ _ _ hS (lv_sub hl [3, 4, 5, 6, 7, 2, 1, 0] rfl)
        exact L16 _ 0 (nI 1) (Nat.lt_succ_self _) (Nat.zero_le _) (Or.inl ⟨rfl, lt_0⟩) _ _ _ hS (lv_sub hl [3, 4, 2, 1, 0] rfl)
  exact L4 _ 0 (nI 0) (Nat.lt_succ_self _) (Or.inl rfl) (fun j a b => absurd b (Nat.not_lt_zero j)) (fun q => absurd q (by decide)) (fun _ => Or.inl rfl) (Nat.zero_le _) _ _ _ hS (lv_sub hl [2, 3, 1, 0] rfl)
set_option maxRecDepth 100000 in
theorem ct_X7_orderOf (l : Launch) (D : va_G) (cA : Nat → ClassId) (o : Nat → Int64) (ad ln : Nat → Nat) (n sz : Nat) (iv : Nat → Nat → Int32) (m8 P T N0 : Nat) (G9 Ad : Nat → Nat) (hn : 68 ≤ n) (hln : ∀ k, ln k < 2 ^ 31) (hRn : rln ln) (hT0 : iv 53 2 = nI T) (hT1 : 0 < T) (hT3 : T ≤ 3) (hP0 : iv 53 1 = nI P) (hP : P ≤ 8) (hmv : rmove iv m8 P T G9 Ad) (hm6 : m8 < 6) (hN1 : 1 ≤ N0) (hN2 : N0 ≤ 63) (hN3 : hmB P T G9 Ad N0 = true) : gMi l yX7_orderOf wsX7_orderOf { frames := 0, cells := 0, slots := 0, locals := 0 } D cA o ad ln n sz iv [.ref (ad 53), .int (nI m8)] (fun (r : Int32) iv' => r = nI (ordr P T G9 Ad) ∧ iv' = iv) := by
  refine Met.ofW (cc := cX7_orderOf) (maxL := 8) (ret := (some .int)) (by decide) rfl ?_
  intro p e s m args below meth c s₁ B hml hv__
  obtain ⟨rfl, hv__⟩ := hv__
  obtain ⟨hsz, hS, hK, hN, hA⟩ := gS.entry hv__
  have hl := lv_entry ([.ref (ad 53), .int (nI m8)]) (n := 8) (Nat.le_of_ble_eq_true rfl)
  rw [lg_entry_eq]
  generalize (lg_sl ([.ref (ad 53), .int (nI m8)]) ++ List.replicate (8 - (lg_sl ([.ref (ad 53), .int (nI m8)])).length) Slot.unset).toArray = ls at hl ⊢
  exact bd_X7_orderOf (m8 := m8) (P := P) (T := T) (N0 := N0) (G9 := G9) (Ad := Ad) ⟨B.exec, B.bytes, hml, findClass_of_methodNamed B.named, atoms_spec (ws := wsX7_orderOf) B.pre, B.returns, B.notSynchronized⟩ (Nat.le_refl _) (Nat.le_refl _) (Nat.le_refl _) (Nat.le_refl _) hK hN hA hn hln hRn hT0 hT1 hT3 hP0 hP hmv hm6 hN1 hN2 hN3 hS hl (fun r iv' H locs ls pc hd hp hS => gx_iret B.exec B.bytes B.returns B.notSynchronized hS hp hd)

theorem inX7_order_RX7 : ∀ {w : Cond}, w ∈ u_ws RX7 TX7 23 → w ∈ wsX7_order := fun {w} h => by first | exact List.mem_cons_of_mem _ (List.mem_append_right _ h) | (revert h; revert w; show ∀ w ∈ u_ws RX7 TX7 23, w ∈ wsX7_order; decide +kernel)
set_option maxHeartbeats 1000000 in
set_option maxRecDepth 100000 in
theorem bd_X7_order {p : Program} {l : Launch} {e : Env} {R : Room} {s : State} {m : MethodId} {args : Array Value} {below : List Frame} {meth : Method} {c : Code} {H : Heap} {locs : List Loc} {cells slots : Nat} {Q : State → Prop} {ls : Array Slot} {D : va_G} {A : Nat → Prop} {H0 : Heap} {cA : Nat → ClassId} {o : Nat → Int64} {ad ln : Nat → Nat} {iv : Nat → Nat → Int32} {n : Nat} {m8 mc9 P T N0 : Nat} {G9 Ad : Nat → Nat}
    (F : gF p s m meth c cX7_order 2 RX7 wsX7_order args (some .int)) (hRf : 1 ≤ R.frames) (hRl : 27 ≤ R.locals) (hRc : cells ≤ R.cells) (hRs : slots ≤ R.slots) (hK : va_K D vwCl (gT cA) s) (hN : NW s) (hA : ∀ q, H0.size ≤ q → A q) (hn : 68 ≤ n) (hln : ∀ k, ln k < 2 ^ 31) (hRn : rln ln) (hT0 : iv 53 2 = nI T) (hT1 : 0 < T) (hT3 : T ≤ 3) (hP0 : iv 53 1 = nI P) (hP : P ≤ 8) (hmv : rmove iv m8 P T G9 Ad) (hm6 : m8 < 6) (hN1 : 1 ≤ N0) (hN2 : N0 ≤ 63) (hN3 : hmB P T G9 Ad N0 = true) (hmc : iv 53 3 = nI mc9) (hmc6 : mc9 ≤ 6) (hm9 : m8 < mc9)
    (hS : gS D cA A H0 o ad ln iv n H locs) (hl : lv_has ls 2 [(0, .ref (ad 53)), (1, .int (nI m8))])
    (kret : ∀ (r : Int32) (iv' : Nat → Nat → Int32) (H : Heap) (locs : List Loc) (ls : Array Slot) (pc : Nat), decode cX7_order pc = .ok (.ireturn, 1) → (r = nI (ordr P T G9 Ad) ∧ iv' = up2 iv 53 0 0) → gS D cA A H0 o ad ln iv' n H locs → W p l e R s m args below meth c H locs cells slots Q (F0 m pc ls [.int r])) :
    W p l e R s m args below meth c H locs cells slots Q (F0 m 0 ls []) := by
  obtain ⟨hx, hb, hml, hown, hts, hr, hlocks⟩ := F
  have hRn9 := hRn
  have hok : ok9 (nI m8) (iv 53 3) := by rw [hmc]; exact ok9_nI hm9 (by omega)
  refine lv_aload_n hx hb dX7_order_0 rfl (lv_at hl 0 rfl) ?_
  refine lv_iconst (v := nI 1) hx hb dX7_order_1 (by decide) ?_
  refine lv_aload_n hx hb dX7_order_2 rfl (lv_at hl 0 rfl) ?_
  refine lv_iload_n hx hb dX7_order_3 rfl (lv_at hl 1 rfl) ?_
  refine gc_i (gx_runV (As := [.int (nI m8)]) (rest := [.int (nI 1), .ref (ad 53)]) ⟨hx, hb, hml, hown, hts⟩ hK hN hS 53 (by omega) rfl rfl (ct_X7_isMove l D cA o ad ln n H.size iv (x := nI m8) hn hln) (cwV 1 hts gX7_order_X7_isMove rfl rfl rfl (by decide +kernel) ⟨gle hRf rfl, gle hRl rfl⟩) rfl rfl hl.1 rfl (lv_room (Nat.le_of_ble_eq_true rfl)) dX7_order_4 ⟨hRc, hRs⟩) hS hA (fun y1 iv1 H locs hp1 hS => ?_)
  obtain ⟨h011, hi1, ev1⟩ := hp1
  rw [ev1] at hS
  skip
  refine lv_if_ne (tgt := 14) hx hb dX7_order_7 (by decide) (fun c_7 => ?_) (fun c_7 => ?_)
  · skip
    refine lv_iconst (v := nI 0) hx hb dX7_order_14 (by decide) ?_
    refine gc_i (gx_runV (As := [.int (nI 1), .int (nI 0)]) (rest := []) ⟨hx, hb, hml, hown, hts⟩ hK hN hS 53 (by omega) rfl rfl (ct_X7_throwsIf l D cA o ad ln n H.size iv (x := nI 1) (v := nI 0) hn hln (Or.inl rfl)) (cwV 2 hts gX7_order_X7_throwsIf rfl rfl rfl (by decide +kernel) ⟨gle hRf rfl, gle hRl rfl⟩) rfl rfl hl.1 rfl (lv_room (Nat.le_of_ble_eq_true rfl)) dX7_order_15 ⟨hRc, hRs⟩) hS hA (fun z iv4 H locs hp4 hS => ?_)
    obtain ⟨_, ez, et⟩ := hp4
    have et : iv4 = up2 iv 53 0 0 := et
    refine gx_as (y := nI 0) ez ?_
    refine lv_if_eq (tgt := 25) hx hb dX7_order_18 (by decide) (fun c_18 => ?_) (fun c_18 => ?_)
    · skip
      rw [show (0 : Int32) = nI 0 from rfl] at c_18
      rw [nI_eq (by omega) (by omega)] at c_18
      refine lv_aload_n hx hb dX7_order_25 rfl (lv_at hl 0 rfl) ?_
      refine lv_iload_n hx hb dX7_order_26 rfl (lv_at hl 1 rfl) ?_
      refine gc_i (gx_runV (As := [.int (nI m8)]) (rest := []) ⟨hx, hb, hml, hown, hts⟩ hK hN hS 53 (by omega) rfl rfl (ct_X7_orderOf l D cA o ad ln n H.size iv4 (m8 := m8) (P := P) (T := T) (N0 := N0) (G9 := G9) (Ad := Ad) hn hln hRn9 (by rw [et, up2_n (by decide)]; exact hT0) hT1 hT3 (by rw [et, up2_n (by decide)]; exact hP0) hP (fun q hq => by rw [et, up2_row (by decide), up2_row (by decide)]; exact hmv q hq) hm6 hN1 hN2 hN3) (cwV 1 hts gX7_order_X7_orderOf rfl rfl rfl (by decide +kernel) ⟨gle hRf rfl, gle hRl rfl⟩) rfl rfl hl.1 rfl (lv_room (Nat.le_of_ble_eq_true rfl)) dX7_order_27 ⟨hRc, hRs⟩) hS hA (fun y iv5 H locs hp5 hS => ?_)
      obtain ⟨ey, ev5⟩ := hp5
      rw [ev5] at hS
      skip
      exact kret _ iv4 _ _ _ _ dX7_order_30 (⟨ey, et⟩) hS
    · skip
      rw [show (0 : Int32) = nI 0 from rfl] at c_18
      rw [nI_eq (by omega) (by omega)] at c_18
      omega
  · skip
    exact absurd (hi1.mpr hok) (by rw [c_7]; decide)
set_option maxRecDepth 100000 in
theorem ct_X7_order (l : Launch) (D : va_G) (cA : Nat → ClassId) (o : Nat → Int64) (ad ln : Nat → Nat) (n sz : Nat) (iv : Nat → Nat → Int32) (m8 mc9 P T N0 : Nat) (G9 Ad : Nat → Nat) (hn : 68 ≤ n) (hln : ∀ k, ln k < 2 ^ 31) (hRn : rln ln) (hT0 : iv 53 2 = nI T) (hT1 : 0 < T) (hT3 : T ≤ 3) (hP0 : iv 53 1 = nI P) (hP : P ≤ 8) (hmv : rmove iv m8 P T G9 Ad) (hm6 : m8 < 6) (hN1 : 1 ≤ N0) (hN2 : N0 ≤ 63) (hN3 : hmB P T G9 Ad N0 = true) (hmc : iv 53 3 = nI mc9) (hmc6 : mc9 ≤ 6) (hm9 : m8 < mc9) : gMi l yX7_order wsX7_order { frames := 1, cells := 0, slots := 0, locals := 27 } D cA o ad ln n sz iv [.ref (ad 53), .int (nI m8)] (fun (r : Int32) iv' => r = nI (ordr P T G9 Ad) ∧ iv' = up2 iv 53 0 0) := by
  refine Met.ofW (cc := cX7_order) (maxL := 2) (ret := (some .int)) (by decide) rfl ?_
  intro p e s m args below meth c s₁ B hml hv__
  obtain ⟨rfl, hv__⟩ := hv__
  obtain ⟨hsz, hS, hK, hN, hA⟩ := gS.entry hv__
  have hl := lv_entry ([.ref (ad 53), .int (nI m8)]) (n := 2) (Nat.le_of_ble_eq_true rfl)
  rw [lg_entry_eq]
  generalize (lg_sl ([.ref (ad 53), .int (nI m8)]) ++ List.replicate (2 - (lg_sl ([.ref (ad 53), .int (nI m8)])).length) Slot.unset).toArray = ls at hl ⊢
  exact bd_X7_order (m8 := m8) (mc9 := mc9) (P := P) (T := T) (N0 := N0) (G9 := G9) (Ad := Ad) ⟨B.exec, B.bytes, hml, findClass_of_methodNamed B.named, atoms_spec (ws := wsX7_order) B.pre, B.returns, B.notSynchronized⟩ (Nat.le_refl _) (Nat.le_refl _) (Nat.le_refl _) (Nat.le_refl _) hK hN hA hn hln hRn hT0 hT1 hT3 hP0 hP hmv hm6 hN1 hN2 hN3 hmc hmc6 hm9 hS hl (fun r iv' H locs ls pc hd hp hS => gx_iret B.exec B.bytes B.returns B.notSynchronized hS hp hd)

set_option maxHeartbeats 1000000 in
set_option maxRecDepth 100000 in
theorem bd_X7_orderB {p : Program} {l : Launch} {e : Env} {R : Room} {s : State} {m : MethodId} {args : Array Value} {below : List Frame} {meth : Method} {c : Code} {H : Heap} {locs : List Loc} {cells slots : Nat} {Q : State → Prop} {ls : Array Slot} {D : va_G} {A : Nat → Prop} {H0 : Heap} {cA : Nat → ClassId} {o : Nat → Int64} {ad ln : Nat → Nat} {iv : Nat → Nat → Int32} {n : Nat} {x : Int32}
    (F : gF p s m meth c cX7_order 2 RX7 wsX7_order args (some .int)) (hRf : 1 ≤ R.frames) (hRl : 22 ≤ R.locals) (hRc : cells ≤ R.cells) (hRs : slots ≤ R.slots) (hK : va_K D vwCl (gT cA) s) (hN : NW s) (hA : ∀ q, H0.size ≤ q → A q) (hn : 68 ≤ n) (hln : ∀ k, ln k < 2 ^ 31) (hbad : ¬ ok9 x (iv 53 3))
    (hS : gS D cA A H0 o ad ln iv n H locs) (hl : lv_has ls 2 [(0, .ref (ad 53)), (1, .int x)])
    (kret : ∀ (r : Int32) (iv' : Nat → Nat → Int32) (H : Heap) (locs : List Loc) (ls : Array Slot) (pc : Nat), decode cX7_order pc = .ok (.ireturn, 1) → (r = 0 ∧ iv' = up2 iv 53 0 1) → gS D cA A H0 o ad ln iv' n H locs → W p l e R s m args below meth c H locs cells slots Q (F0 m pc ls [.int r])) :
    W p l e R s m args below meth c H locs cells slots Q (F0 m 0 ls []) := by
  obtain ⟨hx, hb, hml, hown, hts, hr, hlocks⟩ := F
  refine lv_aload_n hx hb dX7_order_0 rfl (lv_at hl 0 rfl) ?_
  refine lv_iconst (v := nI 1) hx hb dX7_order_1 (by decide) ?_
  refine lv_aload_n hx hb dX7_order_2 rfl (lv_at hl 0 rfl) ?_
  refine lv_iload_n hx hb dX7_order_3 rfl (lv_at hl 1 rfl) ?_
  refine gc_i (gx_runV (As := [.int x]) (rest := [.int (nI 1), .ref (ad 53)]) ⟨hx, hb, hml, hown, hts⟩ hK hN hS 53 (by omega) rfl rfl (ct_X7_isMove l D cA o ad ln n H.size iv (x := x) hn hln) (cwV 1 hts gX7_order_X7_isMove rfl rfl rfl (by decide +kernel) ⟨gle hRf rfl, gle hRl rfl⟩) rfl rfl hl.1 rfl (lv_room (Nat.le_of_ble_eq_true rfl)) dX7_order_4 ⟨hRc, hRs⟩) hS hA (fun y1 iv1 H locs hp1 hS => ?_)
  obtain ⟨h011, hi1, ev1⟩ := hp1
  rw [ev1] at hS
  skip
  refine lv_if_ne (tgt := 14) hx hb dX7_order_7 (by decide) (fun c_7 => ?_) (fun c_7 => ?_)
  · skip
    exact absurd (hi1.mp (h011.resolve_left c_7)) hbad
  · skip
    refine lv_iconst (v := nI 1) hx hb dX7_order_10 (by decide) ?_
    refine lv_goto (tgt := 15) hx hb dX7_order_11 (by decide) ?_
    refine gc_i (gx_runV (As := [.int (nI 1), .int (nI 1)]) (rest := []) ⟨hx, hb, hml, hown, hts⟩ hK hN hS 53 (by omega) rfl rfl (ct_X7_throwsIf l D cA o ad ln n H.size iv (x := nI 1) (v := nI 1) hn hln (Or.inr rfl)) (cwV 2 hts gX7_order_X7_throwsIf rfl rfl rfl (by decide +kernel) ⟨gle hRf rfl, gle hRl rfl⟩) rfl rfl hl.1 rfl (lv_room (Nat.le_of_ble_eq_true rfl)) dX7_order_15 ⟨hRc, hRs⟩) hS hA (fun z iv4 H locs hp4 hS => ?_)
    obtain ⟨_, ez, et⟩ := hp4
    have et : iv4 = up2 iv 53 0 1 := et
    refine gx_as (y := nI 1) ez ?_
    refine lv_if_eq (tgt := 25) hx hb dX7_order_18 (by decide) (fun c_18 => ?_) (fun c_18 => ?_)
    · skip
      rw [show (0 : Int32) = nI 0 from rfl] at c_18
      rw [nI_eq (by omega) (by omega)] at c_18
      omega
    · skip
      rw [show (0 : Int32) = nI 0 from rfl] at c_18
      rw [nI_eq (by omega) (by omega)] at c_18
      refine lv_iconst (v := nI 0) hx hb dX7_order_21 (by decide) ?_
      refine lv_goto (tgt := 30) hx hb dX7_order_22 (by decide) ?_
      exact kret _ iv4 _ _ _ _ dX7_order_30 (⟨rfl, et⟩) hS
set_option maxRecDepth 100000 in
theorem ct_X7_orderB (l : Launch) (D : va_G) (cA : Nat → ClassId) (o : Nat → Int64) (ad ln : Nat → Nat) (n sz : Nat) (iv : Nat → Nat → Int32) (x : Int32) (hn : 68 ≤ n) (hln : ∀ k, ln k < 2 ^ 31) (hbad : ¬ ok9 x (iv 53 3)) : gMi l yX7_order wsX7_order { frames := 1, cells := 0, slots := 0, locals := 22 } D cA o ad ln n sz iv [.ref (ad 53), .int x] (fun (r : Int32) iv' => r = 0 ∧ iv' = up2 iv 53 0 1) := by
  refine Met.ofW (cc := cX7_order) (maxL := 2) (ret := (some .int)) (by decide) rfl ?_
  intro p e s m args below meth c s₁ B hml hv__
  obtain ⟨rfl, hv__⟩ := hv__
  obtain ⟨hsz, hS, hK, hN, hA⟩ := gS.entry hv__
  have hl := lv_entry ([.ref (ad 53), .int x]) (n := 2) (Nat.le_of_ble_eq_true rfl)
  rw [lg_entry_eq]
  generalize (lg_sl ([.ref (ad 53), .int x]) ++ List.replicate (2 - (lg_sl ([.ref (ad 53), .int x])).length) Slot.unset).toArray = ls at hl ⊢
  exact bd_X7_orderB (x := x) ⟨B.exec, B.bytes, hml, findClass_of_methodNamed B.named, atoms_spec (ws := wsX7_order) B.pre, B.returns, B.notSynchronized⟩ (Nat.le_refl _) (Nat.le_refl _) (Nat.le_refl _) (Nat.le_refl _) hK hN hA hn hln hbad hS hl (fun r iv' H locs ls pc hd hp hS => gx_iret B.exec B.bytes B.returns B.notSynchronized hS hp hd)

theorem inX7_times_RX7 : ∀ {w : Cond}, w ∈ u_ws RX7 TX7 23 → w ∈ wsX7_times := fun {w} h => by first | exact List.mem_cons_of_mem _ (List.mem_append_right _ h) | (revert h; revert w; show ∀ w ∈ u_ws RX7 TX7 23, w ∈ wsX7_times; decide +kernel)
set_option maxHeartbeats 1000000 in
set_option maxRecDepth 100000 in
theorem bd_X7_times {p : Program} {l : Launch} {e : Env} {R : Room} {s : State} {m : MethodId} {args : Array Value} {below : List Frame} {meth : Method} {c : Code} {H : Heap} {locs : List Loc} {cells slots : Nat} {Q : State → Prop} {ls : Array Slot} {D : va_G} {A : Nat → Prop} {H0 : Heap} {cA : Nat → ClassId} {o : Nat → Int64} {ad ln : Nat → Nat} {iv : Nat → Nat → Int32} {n : Nat} {m8 k9 P T N0 : Nat} {G9 Ad : Nat → Nat}
    (F : gF p s m meth c cX7_times 3 RX7 wsX7_times args (some .int)) (hRf : 1 ≤ R.frames) (hRl : 27 ≤ R.locals) (hRc : cells ≤ R.cells) (hRs : slots ≤ R.slots) (hK : va_K D vwCl (gT cA) s) (hN : NW s) (hA : ∀ q, H0.size ≤ q → A q) (hn : 68 ≤ n) (hln : ∀ k, ln k < 2 ^ 31) (hRn : rln ln) (hT0 : iv 53 2 = nI T) (hT1 : 0 < T) (hT3 : T ≤ 3) (hP0 : iv 53 1 = nI P) (hP : P ≤ 8) (hmv : rmove iv m8 P T G9 Ad) (hm6 : m8 < 6) (hN1 : 1 ≤ N0) (hN2 : N0 ≤ 63) (hN3 : hmB P T G9 Ad N0 = true) (hk9 : k9 < 2)
    (hS : gS D cA A H0 o ad ln iv n H locs) (hl : lv_has ls 3 [(0, .ref (ad 53)), (1, .int (nI m8)), (2, .int (nI k9))])
    (kret : ∀ (r : Int32) (iv' : Nat → Nat → Int32) (H : Heap) (locs : List Loc) (ls : Array Slot) (pc : Nat), decode cX7_times pc = .ok (.ireturn, 1) → (r = nI (if k9 = 0 then 1 else ordr P T G9 Ad - 1) ∧ iv' = iv) → gS D cA A H0 o ad ln iv' n H locs → W p l e R s m args below meth c H locs cells slots Q (F0 m pc ls [.int r])) :
    W p l e R s m args below meth c H locs cells slots Q (F0 m 0 ls []) := by
  obtain ⟨hx, hb, hml, hown, hts, hr, hlocks⟩ := F
  have hRn9 := hRn
  have hoi := ordr_in P T G9 Ad
  refine lv_iload_n hx hb dX7_times_0 rfl (lv_at hl 2 rfl) ?_
  refine lv_if_ne (tgt := 8) hx hb dX7_times_1 (by decide) (fun c_1 => ?_) (fun c_1 => ?_)
  · skip
    rw [show (0 : Int32) = nI 0 from rfl] at c_1
    rw [nI_eq (by omega) (by omega)] at c_1
    refine lv_aload_n hx hb dX7_times_8 rfl (lv_at hl 0 rfl) ?_
    refine lv_iload_n hx hb dX7_times_9 rfl (lv_at hl 1 rfl) ?_
    refine gc_i (gx_runV (As := [.int (nI m8)]) (rest := []) ⟨hx, hb, hml, hown, hts⟩ hK hN hS 53 (by omega) rfl rfl (ct_X7_orderOf l D cA o ad ln n H.size iv (m8 := m8) (P := P) (T := T) (N0 := N0) (G9 := G9) (Ad := Ad) hn hln hRn9 hT0 hT1 hT3 hP0 hP hmv hm6 hN1 hN2 hN3) (cwV 1 hts gX7_times_X7_orderOf rfl rfl rfl (by decide +kernel) ⟨gle hRf rfl, gle hRl rfl⟩) rfl rfl hl.1 rfl (lv_room (Nat.le_of_ble_eq_true rfl)) dX7_times_10 ⟨hRc, hRs⟩) hS hA (fun y iv5 H locs hp5 hS => ?_)
    obtain ⟨ey, ev5⟩ := hp5
    rw [ev5] at hS
    refine gx_as (y := nI (ordr P T G9 Ad)) ey ?_
    skip
    refine lv_iconst (v := nI 1) hx hb dX7_times_13 (by decide) ?_
    refine lv_isub hx hb dX7_times_14 ?_
    refine gx_as (y := nI (ordr P T G9 Ad - 1)) (pk_sub (by omega)) ?_
    exact kret _ iv _ _ _ _ dX7_times_15 (⟨by first | rw [if_pos c_1] | rw [if_neg c_1], rfl⟩) hS
  · skip
    rw [show (0 : Int32) = nI 0 from rfl] at c_1
    rw [nI_eq (by omega) (by omega)] at c_1
    refine lv_iconst (v := nI 1) hx hb dX7_times_4 (by decide) ?_
    refine lv_goto (tgt := 15) hx hb dX7_times_5 (by decide) ?_
    exact kret _ iv _ _ _ _ dX7_times_15 (⟨by first | rw [if_pos c_1] | rw [if_neg c_1], rfl⟩) hS
set_option maxRecDepth 100000 in
theorem ct_X7_times (l : Launch) (D : va_G) (cA : Nat → ClassId) (o : Nat → Int64) (ad ln : Nat → Nat) (n sz : Nat) (iv : Nat → Nat → Int32) (m8 k9 P T N0 : Nat) (G9 Ad : Nat → Nat) (hn : 68 ≤ n) (hln : ∀ k, ln k < 2 ^ 31) (hRn : rln ln) (hT0 : iv 53 2 = nI T) (hT1 : 0 < T) (hT3 : T ≤ 3) (hP0 : iv 53 1 = nI P) (hP : P ≤ 8) (hmv : rmove iv m8 P T G9 Ad) (hm6 : m8 < 6) (hN1 : 1 ≤ N0) (hN2 : N0 ≤ 63) (hN3 : hmB P T G9 Ad N0 = true) (hk9 : k9 < 2) : gMi l yX7_times wsX7_times { frames := 1, cells := 0, slots := 0, locals := 27 } D cA o ad ln n sz iv [.ref (ad 53), .int (nI m8), .int (nI k9)] (fun (r : Int32) iv' => r = nI (if k9 = 0 then 1 else ordr P T G9 Ad - 1) ∧ iv' = iv) := by
  refine Met.ofW (cc := cX7_times) (maxL := 3) (ret := (some .int)) (by decide) rfl ?_
  intro p e s m args below meth c s₁ B hml hv__
  obtain ⟨rfl, hv__⟩ := hv__
  obtain ⟨hsz, hS, hK, hN, hA⟩ := gS.entry hv__
  have hl := lv_entry ([.ref (ad 53), .int (nI m8), .int (nI k9)]) (n := 3) (Nat.le_of_ble_eq_true rfl)
  rw [lg_entry_eq]
  generalize (lg_sl ([.ref (ad 53), .int (nI m8), .int (nI k9)]) ++ List.replicate (3 - (lg_sl ([.ref (ad 53), .int (nI m8), .int (nI k9)])).length) Slot.unset).toArray = ls at hl ⊢
  exact bd_X7_times (m8 := m8) (k9 := k9) (P := P) (T := T) (N0 := N0) (G9 := G9) (Ad := Ad) ⟨B.exec, B.bytes, hml, findClass_of_methodNamed B.named, atoms_spec (ws := wsX7_times) B.pre, B.returns, B.notSynchronized⟩ (Nat.le_refl _) (Nat.le_refl _) (Nat.le_refl _) (Nat.le_refl _) hK hN hA hn hln hRn hT0 hT1 hT3 hP0 hP hmv hm6 hN1 hN2 hN3 hk9 hS hl (fun r iv' H locs ls pc hd hp hS => gx_iret B.exec B.bytes B.returns B.notSynchronized hS hp hd)

theorem inX7_choose_RX7 : ∀ {w : Cond}, w ∈ u_ws RX7 TX7 23 → w ∈ wsX7_choose := fun {w} h => by first | exact List.mem_cons_of_mem _ (List.mem_append_right _ h) | (revert h; revert w; show ∀ w ∈ u_ws RX7 TX7 23, w ∈ wsX7_choose; decide +kernel)
set_option maxHeartbeats 1000000 in
set_option maxRecDepth 100000 in
theorem bd_X7_choose {p : Program} {l : Launch} {e : Env} {R : Room} {s : State} {m : MethodId} {args : Array Value} {below : List Frame} {meth : Method} {c : Code} {H : Heap} {locs : List Loc} {cells slots : Nat} {Q : State → Prop} {ls : Array Slot} {D : va_G} {A : Nat → Prop} {H0 : Heap} {cA : Nat → ClassId} {o : Nat → Int64} {ad ln : Nat → Nat} {iv : Nat → Nat → Int32} {n : Nat} {p9 P T c9 : Nat} {v9 : Int32} {ch : Nat → Bool}
    (F : gF p s m meth c cX7_choose 4 RX7 wsX7_choose args (some .boolean)) (hRf : 3 ≤ R.frames) (hRl : 68 ≤ R.locals) (hRc : cells ≤ R.cells) (hRs : slots ≤ R.slots) (hK : va_K D vwCl (gT cA) s) (hN : NW s) (hA : ∀ q, H0.size ≤ q → A q) (hn : 68 ≤ n) (hln : ∀ k, ln k < 2 ^ 31) (hRn : rln ln) (hc9 : iv 53 7 = nI c9) (hc4 : c9 ≤ 4) (hT0 : iv 53 2 = nI T) (hT1 : 0 < T) (hT3 : T ≤ 3) (hP0 : iv 53 1 = nI P) (hP : P ≤ 8) (hp9 : p9 < P) (hv9 : v9 = 0 ∨ v9 = 1) (hch : ∀ p, p < P → up2 iv 56 p9 v9 56 p = if ch p then 1 else 0) (hcc : ¬ iv 56 p9 = v9 → (v9 = 0 ∨ ¬ c9 = 4) → cnt ch P ≤ 4)
    (hS : gS D cA A H0 o ad ln iv n H locs) (hl : lv_has ls 4 [(0, .ref (ad 53)), (1, .int (nI p9)), (2, .int v9)])
    (kret : ∀ (r : Int32) (iv' : Nat → Nat → Int32) (H : Heap) (locs : List Loc) (ls : Array Slot) (pc : Nat), decode cX7_choose pc = .ok (.ireturn, 1) → ((r = 0 ∨ r = 1) ∧ (if iv 56 p9 = v9 ∨ (¬ v9 = 0 ∧ c9 = 4) then r = 0 ∧ iv' = up2 iv 53 0 0 else r = 1 ∧ (∀ p, iv' 56 p = up2 iv 56 p9 v9 56 p) ∧ (iv' 53 0 = 0 ∧ iv' 53 7 = nI (cnt ch P) ∧ iv' 53 11 = nI (num P T (cnt ch P) (pcs ch P) (fun _ => 0)) ∧ iv' 53 12 = 0) ∧ (∀ i, i < cnt ch P → iv' 57 i = nI (pcs ch P i)) ∧ (∀ j, j ≠ 0 → j ≠ 7 → j ≠ 11 → j ≠ 12 → iv' 53 j = iv 53 j) ∧ ∀ q, q ≠ 53 → q ≠ 56 → q ≠ 57 → q ≠ 58 → q ≠ 59 → iv' q = iv q)) → gS D cA A H0 o ad ln iv' n H locs → W p l e R s m args below meth c H locs cells slots Q (F0 m pc ls [.int r])) :
    W p l e R s m args below meth c H locs cells slots Q (F0 m 0 ls []) := by
  obtain ⟨hx, hb, hml, hown, hts, hr, hlocks⟩ := F
  have hRn9 := hRn
  obtain ⟨r54, r55, r56, r57, r58, r59, r60, r61, r62, r63, r64, r65, r66⟩ := hRn
  have hok : ok9 (nI p9) (iv 53 1) := by rw [hP0]; exact ok9_nI hp9 (by omega)
  have J45 : ∀ (iv4 : Nat → Nat → Int32), (iv4 = up2 iv 53 0 0) → (¬ iv 56 p9 = v9 ∧ (v9 = 0 ∨ ¬ c9 = 4)) → ∀ (H : Heap) (locs : List Loc) (ls : Array Slot), gS D cA A H0 o ad ln iv4 n H locs → lv_has ls 4 [(0, .ref (ad 53)), (1, .int (nI p9)), (2, .int v9)] → W p l e R s m args below meth c H locs cells slots Q (F0 m 45 ls []) := by
    intro iv4 et hgo H locs ls hS hl
    have hcc4 := hcc hgo.1 hgo.2
    refine lv_aload_n hx hb dX7_choose_45 rfl (lv_at hl 0 rfl) ?_
    refine gx_get (ci := 10) (v := .ref (ad 56)) (C := RX7) (T := TX7) (N := 23) hx hb hts (fun _ h => inX7_choose_RX7 h) hown hK hS 53 (by omega) rfl rfl 6 (by decide) (hts (.fieldLink RX7 16 "CosetTablesModel" "isChosen" "[Z") (by decide +kernel)) rfl dX7_choose_46 ?_
    refine lv_iload_n hx hb dX7_choose_49 rfl (lv_at hl 1 rfl) ?_
    refine lv_iload_n hx hb dX7_choose_50 rfl (lv_at hl 2 rfl) ?_
    refine gx_zastn hx hb hK hS 56 (by omega) (by decide) p9 (by omega) (hln _) (by first | exact Or.inl rfl | exact Or.inr rfl | assumption) dX7_choose_51 (fun H locs hS => ?_)
    obtain ⟨iv5, eiv5⟩ : ∃ z, z = up2 iv4 56 p9 (v9) := ⟨_, rfl⟩
    rw [← eiv5] at hS
    refine lv_aload_n hx hb dX7_choose_52 rfl (lv_at hl 0 rfl) ?_
    refine lv_iconst (v := nI 0) hx hb dX7_choose_53 (by decide) ?_
    refine gx_put (ci := 10) (x := nI 0) (ty := .int) (C := RX7) (T := TX7) (N := 23) hx hb hts (fun _ h => inX7_choose_RX7 h) tyX7 tyX7_ok nmX7 hown hK hS 53 (by omega) rfl rfl 7 (by decide) (hts (.fieldLink RX7 83 "CosetTablesModel" "chosen" "I") (by decide +kernel)) rfl (by decide +kernel) rfl rfl (Nat.le_of_ble_eq_true rfl) rfl dX7_choose_54 (fun H locs hS => ?_)
    obtain ⟨iv6, eiv6⟩ : ∃ z, z = up2 iv5 53 7 (nI 0) := ⟨_, rfl⟩
    rw [← eiv6] at hS
    refine lv_iconst (v := nI 0) hx hb dX7_choose_57 (by decide) ?_
    refine lv_istore_n (lv' := [(3, .int (nI 0)), (0, .ref (ad 53)), (1, .int (nI p9)), (2, .int v9)]) hx hb dX7_choose_58 rfl hl (by decide) rfl (fun ls hl => ?_)
    have L59 : ∀ (N : Nat) (i : Nat) (iv7 : Nat → Nat → Int32), P - i < N → (i ≤ P) → (iv7 53 7 = nI (cnt ch i)) → (∀ p, p < i → ch p = true → iv7 57 (cnt ch p) = nI p) → (∀ j, j ≠ 7 → iv7 53 j = iv4 53 j) → (∀ q, q ≠ 53 → q ≠ 57 → iv7 q = iv5 q) → ∀ (H : Heap) (locs : List Loc) (ls : Array Slot), gS D cA A H0 o ad ln iv7 n H locs → lv_has ls 4 [(0, .ref (ad 53)), (3, .int (nI i))] → W p l e R s m args below meth c H locs cells slots Q (F0 m 59 ls []) := by
      intro N
      induction N with
      | zero => intro i iv7 hm; exact absurd hm (Nat.not_lt_zero _)
      | succ N ih59 =>
        intro i iv7 hm hi h1 h2 h3 h4 H locs ls hS hl
        have hcm := cnt_mono ch hi
        refine lv_iload_n hx hb dX7_choose_59 rfl (lv_at hl 1 rfl) ?_
        refine lv_aload_n hx hb dX7_choose_60 rfl (lv_at hl 0 rfl) ?_
        refine gx_get (ci := 10) (v := .int (iv7 53 1)) (C := RX7) (T := TX7) (N := 23) hx hb hts (fun _ h => inX7_choose_RX7 h) hown hK hS 53 (by omega) rfl rfl 1 (by decide) (hts (.fieldLink RX7 51 "CosetTablesModel" "places" "I") (by decide +kernel)) rfl dX7_choose_61 ?_
        refine gx_as (y := nI P) (by rw [h3 1 (by decide), et, up2_n (by decide)]; exact hP0) ?_
        refine lv_icmp_ge (tgt := 105) hx hb dX7_choose_64 (by decide) (fun c_64 => ?_) (fun c_64 => ?_)
        · skip
          rw [nI_leI (by omega) (by omega)] at c_64
          have ei : i = P := by omega
          rw [ei] at h1 h2
          refine lv_aload_n hx hb dX7_choose_105 rfl (lv_at hl 0 rfl) ?_
          refine lv_iconst (v := nI 0) hx hb dX7_choose_106 (by decide) ?_
          refine gx_put (ci := 10) (x := nI 0) (ty := .boolean) (C := RX7) (T := TX7) (N := 23) hx hb hts (fun _ h => inX7_choose_RX7 h) tyX7 tyX7_ok nmX7 hown hK hS 53 (by omega) rfl rfl 12 (by decide) (hts (.fieldLink RX7 64 "CosetTablesModel" "isBuilt" "Z") (by decide +kernel)) rfl (by decide +kernel) (gx_nz (by first | exact Or.inl rfl | exact Or.inr rfl | assumption)) (gx_fz (by first | exact Or.inl rfl | exact Or.inr rfl | assumption)) (Nat.le_of_ble_eq_true rfl) rfl dX7_choose_107 (fun H locs hS => ?_)
          obtain ⟨iv10, eiv10⟩ : ∃ z, z = up2 iv7 53 12 (nI 0) := ⟨_, rfl⟩
          rw [← eiv10] at hS
          refine lv_aload_n hx hb dX7_choose_110 rfl (lv_at hl 0 rfl) ?_
          refine lv_aload_n hx hb dX7_choose_111 rfl (lv_at hl 0 rfl) ?_
          have o53 : ∀ j, j ≠ 7 → j ≠ 12 → j ≠ 0 → iv10 53 j = iv 53 j := fun j x1 x2 x3 => by rw [eiv10, up2_n (fun q => x2 q.2), h3 j x1, et, up2_n (fun q => x3 q.2)]
          refine gc_i (gx_runV (As := []) (rest := [.ref (ad 53)]) ⟨hx, hb, hml, hown, hts⟩ hK hN hS 53 (by omega) rfl rfl (ct_X7_goal l D cA o ad ln n H.size iv10 (P := P) (c9 := cnt ch P) (T := T) (pc9 := pcs ch P) hn hln hRn9 (by rw [eiv10, up2_n (by decide)]; exact h1) hcc4 (by rw [o53 2 (by decide) (by decide) (by decide)]; exact hT0) hT1 hT3 (by rw [o53 1 (by decide) (by decide) (by decide)]; exact hP0) hP (fun j hj => by rw [eiv10, up2_row (by decide)]; exact pcs_row h2 hj) pcs_inj) (cwV 0 hts gX7_choose_X7_goal rfl rfl rfl (by decide +kernel) ⟨gle hRf rfl, gle hRl rfl⟩) rfl rfl hl.1 rfl (lv_room (Nat.le_of_ble_eq_true rfl)) dX7_choose_112 ⟨hRc, hRs⟩) hS hA (fun y iv11 H locs hp11 hS => ?_)
          obtain ⟨ey, _, a3⟩ := hp11
          refine gx_put (ci := 10) (x := y) (ty := .int) (C := RX7) (T := TX7) (N := 23) hx hb hts (fun _ h => inX7_choose_RX7 h) tyX7 tyX7_ok nmX7 hown hK hS 53 (by omega) rfl rfl 11 (by decide) (hts (.fieldLink RX7 90 "CosetTablesModel" "state" "I") (by decide +kernel)) rfl (by decide +kernel) rfl rfl (Nat.le_of_ble_eq_true rfl) rfl dX7_choose_115 (fun H locs hS => ?_)
          obtain ⟨iv12, eiv12⟩ : ∃ z, z = up2 iv11 53 11 (y) := ⟨_, rfl⟩
          rw [← eiv12] at hS
          refine lv_iconst (v := nI 1) hx hb dX7_choose_118 (by decide) ?_
          exact kret _ iv12 _ _ _ _ dX7_choose_119 (⟨Or.inr rfl, by
                rw [if_neg (fun u => by rcases u with u | ⟨u1, u2⟩; exact hgo.1 u; rcases hgo.2 with w8 | w8; exact u1 w8; exact w8 u2)]
                have f : ∀ q, q ≠ 53 → q ≠ 58 → q ≠ 59 → iv12 q = iv7 q := fun q x1 x2 x3 => by rw [eiv12, up2_row x1, a3 q x2 x3, eiv10, up2_row x1]
                have f53 : ∀ j, j ≠ 11 → iv12 53 j = iv10 53 j := fun j hj => by rw [eiv12, up2_n (fun q => hj q.2), a3 53 (by decide) (by decide)]
                refine ⟨rfl, fun p => ?_, ⟨?_, ?_, ?_, ?_⟩, fun j hj => ?_, fun j x1 x2 x3 x4 => ?_, fun q x1 x2 x3 x4 x5 => ?_⟩
                · rw [f 56 (by decide) (by decide) (by decide), h4 56 (by decide) (by decide), eiv5, et]; simp [up2_eq]
                · rw [f53 0 (by decide), eiv10, up2_n (by decide), h3 0 (by decide), et, up2_s]
                · rw [f53 7 (by decide), eiv10, up2_n (by decide)]; exact h1
                · rw [eiv12, up2_s, ey]
                · rw [f53 12 (by decide), eiv10, up2_s]; rfl
                · rw [f 57 (by decide) (by decide) (by decide)]; exact pcs_row h2 hj
                · rw [f53 j x3, o53 j x2 x4 x1]
                · rw [f q x1 x4 x5, h4 q x1 x3, eiv5, up2_row x2, et, up2_row x1]⟩) hS
        · skip
          rw [nI_leI (by omega) (by omega)] at c_64
          refine lv_aload_n hx hb dX7_choose_67 rfl (lv_at hl 0 rfl) ?_
          refine gx_get (ci := 10) (v := .ref (ad 56)) (C := RX7) (T := TX7) (N := 23) hx hb hts (fun _ h => inX7_choose_RX7 h) hown hK hS 53 (by omega) rfl rfl 6 (by decide) (hts (.fieldLink RX7 16 "CosetTablesModel" "isChosen" "[Z") (by decide +kernel)) rfl dX7_choose_68 ?_
          refine lv_iload_n hx hb dX7_choose_71 rfl (lv_at hl 1 rfl) ?_
          refine gx_zaldn hx hb hK hS 56 (by omega) (by decide) i (by omega) (hln _) dX7_choose_72 ?_
          refine gx_as (y := (if ch i then 1 else 0)) (by rw [h4 56 (by decide) (by decide), eiv5, ← hch i (by omega), et]; simp [up2_eq]) ?_
          refine lv_if_ne (tgt := 79) hx hb dX7_choose_73 (by decide) (fun c_73 => ?_) (fun c_73 => ?_)
          · skip
            have hci : ch i = true := by
              cases u : ch i
              · rw [u] at c_73; exact absurd rfl c_73
              · rfl
            have hcs := cnt_mono ch (show i + 1 ≤ P by omega)
            rw [cnt_s, if_pos hci] at hcs
            refine lv_aload_n hx hb dX7_choose_79 rfl (lv_at hl 0 rfl) ?_
            refine gx_get (ci := 10) (v := .ref (ad 57)) (C := RX7) (T := TX7) (N := 23) hx hb hts (fun _ h => inX7_choose_RX7 h) hown hK hS 53 (by omega) rfl rfl 8 (by decide) (hts (.fieldLink RX7 20 "CosetTablesModel" "pieces" "[I") (by decide +kernel)) rfl dX7_choose_80 ?_
            refine lv_aload_n hx hb dX7_choose_83 rfl (lv_at hl 0 rfl) ?_
            refine gx_get (ci := 10) (v := .int (iv7 53 7)) (C := RX7) (T := TX7) (N := 23) hx hb hts (fun _ h => inX7_choose_RX7 h) hown hK hS 53 (by omega) rfl rfl 7 (by decide) (hts (.fieldLink RX7 83 "CosetTablesModel" "chosen" "I") (by decide +kernel)) rfl dX7_choose_84 ?_
            refine gx_as (y := nI (cnt ch i)) h1 ?_
            refine lv_iload_n hx hb dX7_choose_87 rfl (lv_at hl 1 rfl) ?_
            refine gx_iastn hx hb hK hS 57 (by omega) (by decide) (cnt ch i) (by omega) (hln _) dX7_choose_88 (fun H locs hS => ?_)
            obtain ⟨iv8, eiv8⟩ : ∃ z, z = up2 iv7 57 (cnt ch i) (nI i) := ⟨_, rfl⟩
            rw [← eiv8] at hS
            refine lv_aload_n hx hb dX7_choose_89 rfl (lv_at hl 0 rfl) ?_
            refine lv_dup hx hb dX7_choose_90 rfl ?_
            refine gx_get (ci := 10) (v := .int (iv8 53 7)) (C := RX7) (T := TX7) (N := 23) hx hb hts (fun _ h => inX7_choose_RX7 h) hown hK hS 53 (by omega) rfl rfl 7 (by decide) (hts (.fieldLink RX7 83 "CosetTablesModel" "chosen" "I") (by decide +kernel)) rfl dX7_choose_91 ?_
            refine gx_as (y := nI (cnt ch i)) (by rw [eiv8, up2_row (by decide)]; exact h1) ?_
            refine lv_iconst (v := nI 1) hx hb dX7_choose_94 (by decide) ?_
            refine lv_iadd hx hb dX7_choose_95 ?_
            refine gx_as (y := nI ((cnt ch i) + 1)) (nI_add _ _) ?_
            refine gx_put (ci := 10) (x := nI ((cnt ch i) + 1)) (ty := .int) (C := RX7) (T := TX7) (N := 23) hx hb hts (fun _ h => inX7_choose_RX7 h) tyX7 tyX7_ok nmX7 hown hK hS 53 (by omega) rfl rfl 7 (by decide) (hts (.fieldLink RX7 83 "CosetTablesModel" "chosen" "I") (by decide +kernel)) rfl (by decide +kernel) rfl rfl (Nat.le_of_ble_eq_true rfl) rfl dX7_choose_96 (fun H locs hS => ?_)
            obtain ⟨iv9, eiv9⟩ : ∃ z, z = up2 iv8 53 7 (nI ((cnt ch i) + 1)) := ⟨_, rfl⟩
            rw [← eiv9] at hS
            refine lv_iinc (v := nI (i + 1)) (lv' := [(3, .int (nI (i + 1))), (0, .ref (ad 53))]) hx hb dX7_choose_99 hl (k := 1) rfl (nI_1 i) (by decide) rfl (fun ls hl => ?_)
            refine lv_goto (tgt := 59) hx hb dX7_choose_102 (by decide) ?_
            exact ih59 (i + 1) iv9 (by omega) (by omega) (by rw [eiv9, up2_s, cnt_s, if_pos hci]) (fun p hp hc => by rw [eiv9, up2_row (by decide), eiv8]; rcases Nat.lt_or_ge p i with u | u; (have hcp := cnt_mono ch (show p + 1 ≤ i by omega); rw [cnt_s, if_pos hc] at hcp; rw [up2_n (by omega)]; exact h2 p u hc); (have e : p = i := (by omega); rw [e, up2_s])) (fun j hj => by rw [eiv9, up2_n (fun q => hj q.2), eiv8, up2_row (by decide), h3 j hj]) (fun q x1 x2 => by rw [eiv9, up2_row x1, eiv8, up2_row x2, h4 q x1 x2]) _ _ _ hS (lv_sub hl [1, 0] rfl)
          · skip
            have hci : ¬ ch i = true := fun u => by rw [if_pos u] at c_73; exact absurd c_73 (by decide)
            refine lv_goto (tgt := 99) hx hb dX7_choose_76 (by decide) ?_
            refine lv_iinc (v := nI (i + 1)) (lv' := [(3, .int (nI (i + 1))), (0, .ref (ad 53))]) hx hb dX7_choose_99 hl (k := 1) rfl (nI_1 i) (by decide) rfl (fun ls hl => ?_)
            refine lv_goto (tgt := 59) hx hb dX7_choose_102 (by decide) ?_
            exact ih59 (i + 1) iv7 (by omega) (by omega) (by rw [cnt_s, if_neg hci]; exact h1) (fun p hp hc => by rcases Nat.lt_or_ge p i with u | u; exact h2 p u hc; have e : p = i := (by omega); rw [e] at hc; exact absurd hc hci) h3 h4 _ _ _ hS (lv_sub hl [1, 0] rfl)
    exact L59 _ 0 iv6 (Nat.lt_succ_self _) (Nat.zero_le _) (by rw [eiv6, up2_s]; rfl) (fun p h => absurd h (Nat.not_lt_zero p)) (fun j hj => by rw [eiv6, up2_n (fun q => hj q.2), eiv5, up2_row (by decide)]) (fun q x1 x2 => by rw [eiv6, up2_row x1]) _ _ _ hS (lv_sub hl [1, 0] rfl)
  refine lv_aload_n hx hb dX7_choose_0 rfl (lv_at hl 0 rfl) ?_
  refine lv_iconst (v := nI 1) hx hb dX7_choose_1 (by decide) ?_
  refine lv_aload_n hx hb dX7_choose_2 rfl (lv_at hl 0 rfl) ?_
  refine lv_iload_n hx hb dX7_choose_3 rfl (lv_at hl 1 rfl) ?_
  refine gc_i (gx_runV (As := [.int (nI p9)]) (rest := [.int (nI 1), .ref (ad 53)]) ⟨hx, hb, hml, hown, hts⟩ hK hN hS 53 (by omega) rfl rfl (ct_X7_isPlace l D cA o ad ln n H.size iv (x := nI p9) hn hln) (cwV 1 hts gX7_choose_X7_isPlace rfl rfl rfl (by decide +kernel) ⟨gle hRf rfl, gle hRl rfl⟩) rfl rfl hl.1 rfl (lv_room (Nat.le_of_ble_eq_true rfl)) dX7_choose_4 ⟨hRc, hRs⟩) hS hA (fun y1 iv1 H locs hp1 hS => ?_)
  obtain ⟨h011, hi1, ev1⟩ := hp1
  rw [ev1] at hS
  skip
  refine lv_if_ne (tgt := 14) hx hb dX7_choose_7 (by decide) (fun c_7 => ?_) (fun c_7 => ?_)
  · skip
    refine lv_iconst (v := nI 0) hx hb dX7_choose_14 (by decide) ?_
    refine gc_i (gx_runV (As := [.int (nI 1), .int (nI 0)]) (rest := []) ⟨hx, hb, hml, hown, hts⟩ hK hN hS 53 (by omega) rfl rfl (ct_X7_throwsIf l D cA o ad ln n H.size iv (x := nI 1) (v := nI 0) hn hln (Or.inl rfl)) (cwV 2 hts gX7_choose_X7_throwsIf rfl rfl rfl (by decide +kernel) ⟨gle hRf rfl, gle hRl rfl⟩) rfl rfl hl.1 rfl (lv_room (Nat.le_of_ble_eq_true rfl)) dX7_choose_15 ⟨hRc, hRs⟩) hS hA (fun z iv4 H locs hp4 hS => ?_)
    obtain ⟨_, ez, et⟩ := hp4
    have et : iv4 = up2 iv 53 0 0 := et
    refine gx_as (y := nI 0) ez ?_
    refine lv_if_ne (tgt := 43) hx hb dX7_choose_18 (by decide) (fun c_18 => ?_) (fun c_18 => ?_)
    · skip
      rw [show (0 : Int32) = nI 0 from rfl] at c_18
      rw [nI_eq (by omega) (by omega)] at c_18
      omega
    · skip
      rw [show (0 : Int32) = nI 0 from rfl] at c_18
      rw [nI_eq (by omega) (by omega)] at c_18
      refine lv_aload_n hx hb dX7_choose_21 rfl (lv_at hl 0 rfl) ?_
      refine gx_get (ci := 10) (v := .ref (ad 56)) (C := RX7) (T := TX7) (N := 23) hx hb hts (fun _ h => inX7_choose_RX7 h) hown hK hS 53 (by omega) rfl rfl 6 (by decide) (hts (.fieldLink RX7 16 "CosetTablesModel" "isChosen" "[Z") (by decide +kernel)) rfl dX7_choose_22 ?_
      refine lv_iload_n hx hb dX7_choose_25 rfl (lv_at hl 1 rfl) ?_
      refine gx_zaldn hx hb hK hS 56 (by omega) (by decide) p9 (by omega) (hln _) dX7_choose_26 ?_
      refine lv_topi (fun g eg => ?_)
      refine lv_iload_n hx hb dX7_choose_27 rfl (lv_at hl 2 rfl) ?_
      refine lv_icmp_eq (tgt := 43) hx hb dX7_choose_28 (by decide) (fun c_28 => ?_) (fun c_28 => ?_)
      · skip
        refine lv_iconst (v := nI 0) hx hb dX7_choose_43 (by decide) ?_
        exact kret _ iv4 _ _ _ _ dX7_choose_44 (⟨Or.inl rfl, by rw [if_pos (by first | exact Or.inl (by rw [← c_28, eg, et, up2_row (by decide)]) | exact Or.inr ⟨c_32, c_40⟩)]; exact ⟨rfl, et⟩⟩) hS
      · skip
        have hg0 : ¬ iv 56 p9 = v9 := fun q => c_28 (by rw [eg, et, up2_row (by decide), q])
        refine lv_iload_n hx hb dX7_choose_31 rfl (lv_at hl 2 rfl) ?_
        refine lv_if_eq (tgt := 45) hx hb dX7_choose_32 (by decide) (fun c_32 => ?_) (fun c_32 => ?_)
        · skip
          exact J45 iv4 et ⟨hg0, Or.inl c_32⟩ _ _ _ hS (lv_sub hl [0, 1, 2] rfl)
        · skip
          refine lv_aload_n hx hb dX7_choose_35 rfl (lv_at hl 0 rfl) ?_
          refine gx_get (ci := 10) (v := .int (iv4 53 7)) (C := RX7) (T := TX7) (N := 23) hx hb hts (fun _ h => inX7_choose_RX7 h) hown hK hS 53 (by omega) rfl rfl 7 (by decide) (hts (.fieldLink RX7 83 "CosetTablesModel" "chosen" "I") (by decide +kernel)) rfl dX7_choose_36 ?_
          refine gx_as (y := nI c9) (by rw [et, up2_n (by decide)]; exact hc9) ?_
          refine lv_iconst (v := nI 4) hx hb dX7_choose_39 (by decide) ?_
          refine lv_icmp_ne (tgt := 45) hx hb dX7_choose_40 (by decide) (fun c_40 => ?_) (fun c_40 => ?_)
          · skip
            rw [nI_eq (by omega) (by omega)] at c_40
            exact J45 iv4 et ⟨hg0, Or.inr c_40⟩ _ _ _ hS (lv_sub hl [0, 1, 2] rfl)
          · skip
            rw [nI_eq (by omega) (by omega)] at c_40
            refine lv_iconst (v := nI 0) hx hb dX7_choose_43 (by decide) ?_
            exact kret _ iv4 _ _ _ _ dX7_choose_44 (⟨Or.inl rfl, by rw [if_pos (by first | exact Or.inl (by rw [← c_28, eg, et, up2_row (by decide)]) | exact Or.inr ⟨c_32, c_40⟩)]; exact ⟨rfl, et⟩⟩) hS
  · skip
    exact absurd (hi1.mpr hok) (by rw [c_7]; decide)
set_option maxRecDepth 100000 in
theorem ct_X7_choose (l : Launch) (D : va_G) (cA : Nat → ClassId) (o : Nat → Int64) (ad ln : Nat → Nat) (n sz : Nat) (iv : Nat → Nat → Int32) (p9 P T c9 : Nat) (v9 : Int32) (ch : Nat → Bool) (hn : 68 ≤ n) (hln : ∀ k, ln k < 2 ^ 31) (hRn : rln ln) (hc9 : iv 53 7 = nI c9) (hc4 : c9 ≤ 4) (hT0 : iv 53 2 = nI T) (hT1 : 0 < T) (hT3 : T ≤ 3) (hP0 : iv 53 1 = nI P) (hP : P ≤ 8) (hp9 : p9 < P) (hv9 : v9 = 0 ∨ v9 = 1) (hch : ∀ p, p < P → up2 iv 56 p9 v9 56 p = if ch p then 1 else 0) (hcc : ¬ iv 56 p9 = v9 → (v9 = 0 ∨ ¬ c9 = 4) → cnt ch P ≤ 4) : gMi l yX7_choose wsX7_choose { frames := 3, cells := 0, slots := 0, locals := 68 } D cA o ad ln n sz iv [.ref (ad 53), .int (nI p9), .int v9] (fun (r : Int32) iv' => (r = 0 ∨ r = 1) ∧ (if iv 56 p9 = v9 ∨ (¬ v9 = 0 ∧ c9 = 4) then r = 0 ∧ iv' = up2 iv 53 0 0 else r = 1 ∧ (∀ p, iv' 56 p = up2 iv 56 p9 v9 56 p) ∧ (iv' 53 0 = 0 ∧ iv' 53 7 = nI (cnt ch P) ∧ iv' 53 11 = nI (num P T (cnt ch P) (pcs ch P) (fun _ => 0)) ∧ iv' 53 12 = 0) ∧ (∀ i, i < cnt ch P → iv' 57 i = nI (pcs ch P i)) ∧ (∀ j, j ≠ 0 → j ≠ 7 → j ≠ 11 → j ≠ 12 → iv' 53 j = iv 53 j) ∧ ∀ q, q ≠ 53 → q ≠ 56 → q ≠ 57 → q ≠ 58 → q ≠ 59 → iv' q = iv q)) := by
  refine Met.ofW (cc := cX7_choose) (maxL := 4) (ret := (some .boolean)) (by decide) rfl ?_
  intro p e s m args below meth c s₁ B hml hv__
  obtain ⟨rfl, hv__⟩ := hv__
  obtain ⟨hsz, hS, hK, hN, hA⟩ := gS.entry hv__
  have hl := lv_entry ([.ref (ad 53), .int (nI p9), .int v9]) (n := 4) (Nat.le_of_ble_eq_true rfl)
  rw [lg_entry_eq]
  generalize (lg_sl ([.ref (ad 53), .int (nI p9), .int v9]) ++ List.replicate (4 - (lg_sl ([.ref (ad 53), .int (nI p9), .int v9])).length) Slot.unset).toArray = ls at hl ⊢
  exact bd_X7_choose (p9 := p9) (P := P) (T := T) (c9 := c9) (v9 := v9) (ch := ch) ⟨B.exec, B.bytes, hml, findClass_of_methodNamed B.named, atoms_spec (ws := wsX7_choose) B.pre, B.returns, B.notSynchronized⟩ (Nat.le_refl _) (Nat.le_refl _) (Nat.le_refl _) (Nat.le_refl _) hK hN hA hn hln hRn hc9 hc4 hT0 hT1 hT3 hP0 hP hp9 hv9 hch hcc hS hl (fun r iv' H locs ls pc hd hp hS => gx_zret B.exec B.bytes B.returns B.notSynchronized (hp.1) hS hp hd)

set_option maxHeartbeats 1000000 in
set_option maxRecDepth 100000 in
theorem bd_X7_chooseB {p : Program} {l : Launch} {e : Env} {R : Room} {s : State} {m : MethodId} {args : Array Value} {below : List Frame} {meth : Method} {c : Code} {H : Heap} {locs : List Loc} {cells slots : Nat} {Q : State → Prop} {ls : Array Slot} {D : va_G} {A : Nat → Prop} {H0 : Heap} {cA : Nat → ClassId} {o : Nat → Int64} {ad ln : Nat → Nat} {iv : Nat → Nat → Int32} {n : Nat} {x v9 : Int32}
    (F : gF p s m meth c cX7_choose 4 RX7 wsX7_choose args (some .boolean)) (hRf : 1 ≤ R.frames) (hRl : 22 ≤ R.locals) (hRc : cells ≤ R.cells) (hRs : slots ≤ R.slots) (hK : va_K D vwCl (gT cA) s) (hN : NW s) (hA : ∀ q, H0.size ≤ q → A q) (hn : 68 ≤ n) (hln : ∀ k, ln k < 2 ^ 31) (hbad : ¬ ok9 x (iv 53 1))
    (hS : gS D cA A H0 o ad ln iv n H locs) (hl : lv_has ls 4 [(0, .ref (ad 53)), (1, .int x), (2, .int v9)])
    (kret : ∀ (r : Int32) (iv' : Nat → Nat → Int32) (H : Heap) (locs : List Loc) (ls : Array Slot) (pc : Nat), decode cX7_choose pc = .ok (.ireturn, 1) → ((r = 0 ∨ r = 1) ∧ r = 0 ∧ iv' = up2 iv 53 0 1) → gS D cA A H0 o ad ln iv' n H locs → W p l e R s m args below meth c H locs cells slots Q (F0 m pc ls [.int r])) :
    W p l e R s m args below meth c H locs cells slots Q (F0 m 0 ls []) := by
  obtain ⟨hx, hb, hml, hown, hts, hr, hlocks⟩ := F
  refine lv_aload_n hx hb dX7_choose_0 rfl (lv_at hl 0 rfl) ?_
  refine lv_iconst (v := nI 1) hx hb dX7_choose_1 (by decide) ?_
  refine lv_aload_n hx hb dX7_choose_2 rfl (lv_at hl 0 rfl) ?_
  refine lv_iload_n hx hb dX7_choose_3 rfl (lv_at hl 1 rfl) ?_
  refine gc_i (gx_runV (As := [.int x]) (rest := [.int (nI 1), .ref (ad 53)]) ⟨hx, hb, hml, hown, hts⟩ hK hN hS 53 (by omega) rfl rfl (ct_X7_isPlace l D cA o ad ln n H.size iv (x := x) hn hln) (cwV 1 hts gX7_choose_X7_isPlace rfl rfl rfl (by decide +kernel) ⟨gle hRf rfl, gle hRl rfl⟩) rfl rfl hl.1 rfl (lv_room (Nat.le_of_ble_eq_true rfl)) dX7_choose_4 ⟨hRc, hRs⟩) hS hA (fun y1 iv1 H locs hp1 hS => ?_)
  obtain ⟨h011, hi1, ev1⟩ := hp1
  rw [ev1] at hS
  skip
  refine lv_if_ne (tgt := 14) hx hb dX7_choose_7 (by decide) (fun c_7 => ?_) (fun c_7 => ?_)
  · skip
    exact absurd (hi1.mp (h011.resolve_left c_7)) hbad
  · skip
    refine lv_iconst (v := nI 1) hx hb dX7_choose_10 (by decide) ?_
    refine lv_goto (tgt := 15) hx hb dX7_choose_11 (by decide) ?_
    refine gc_i (gx_runV (As := [.int (nI 1), .int (nI 1)]) (rest := []) ⟨hx, hb, hml, hown, hts⟩ hK hN hS 53 (by omega) rfl rfl (ct_X7_throwsIf l D cA o ad ln n H.size iv (x := nI 1) (v := nI 1) hn hln (Or.inr rfl)) (cwV 2 hts gX7_choose_X7_throwsIf rfl rfl rfl (by decide +kernel) ⟨gle hRf rfl, gle hRl rfl⟩) rfl rfl hl.1 rfl (lv_room (Nat.le_of_ble_eq_true rfl)) dX7_choose_15 ⟨hRc, hRs⟩) hS hA (fun z iv4 H locs hp4 hS => ?_)
    obtain ⟨_, ez, et⟩ := hp4
    have et : iv4 = up2 iv 53 0 1 := et
    refine gx_as (y := nI 1) ez ?_
    refine lv_if_ne (tgt := 43) hx hb dX7_choose_18 (by decide) (fun c_18 => ?_) (fun c_18 => ?_)
    · skip
      rw [show (0 : Int32) = nI 0 from rfl] at c_18
      rw [nI_eq (by omega) (by omega)] at c_18
      refine lv_iconst (v := nI 0) hx hb dX7_choose_43 (by decide) ?_
      exact kret _ iv4 _ _ _ _ dX7_choose_44 (⟨Or.inl rfl, rfl, et⟩) hS
    · skip
      rw [show (0 : Int32) = nI 0 from rfl] at c_18
      rw [nI_eq (by omega) (by omega)] at c_18
      omega
set_option maxRecDepth 100000 in
theorem ct_X7_chooseB (l : Launch) (D : va_G) (cA : Nat → ClassId) (o : Nat → Int64) (ad ln : Nat → Nat) (n sz : Nat) (iv : Nat → Nat → Int32) (x v9 : Int32) (hn : 68 ≤ n) (hln : ∀ k, ln k < 2 ^ 31) (hbad : ¬ ok9 x (iv 53 1)) : gMi l yX7_choose wsX7_choose { frames := 1, cells := 0, slots := 0, locals := 22 } D cA o ad ln n sz iv [.ref (ad 53), .int x, .int v9] (fun (r : Int32) iv' => (r = 0 ∨ r = 1) ∧ r = 0 ∧ iv' = up2 iv 53 0 1) := by
  refine Met.ofW (cc := cX7_choose) (maxL := 4) (ret := (some .boolean)) (by decide) rfl ?_
  intro p e s m args below meth c s₁ B hml hv__
  obtain ⟨rfl, hv__⟩ := hv__
  obtain ⟨hsz, hS, hK, hN, hA⟩ := gS.entry hv__
  have hl := lv_entry ([.ref (ad 53), .int x, .int v9]) (n := 4) (Nat.le_of_ble_eq_true rfl)
  rw [lg_entry_eq]
  generalize (lg_sl ([.ref (ad 53), .int x, .int v9]) ++ List.replicate (4 - (lg_sl ([.ref (ad 53), .int x, .int v9])).length) Slot.unset).toArray = ls at hl ⊢
  exact bd_X7_chooseB (x := x) (v9 := v9) ⟨B.exec, B.bytes, hml, findClass_of_methodNamed B.named, atoms_spec (ws := wsX7_choose) B.pre, B.returns, B.notSynchronized⟩ (Nat.le_refl _) (Nat.le_refl _) (Nat.le_refl _) (Nat.le_refl _) hK hN hA hn hln hbad hS hl (fun r iv' H locs ls pc hd hp hS => gx_zret B.exec B.bytes B.returns B.notSynchronized (hp.1) hS hp hd)

theorem inX7_value_RX7 : ∀ {w : Cond}, w ∈ u_ws RX7 TX7 23 → w ∈ wsX7_value := fun {w} h => by first | exact List.mem_cons_of_mem _ (List.mem_append_right _ h) | (revert h; revert w; show ∀ w ∈ u_ws RX7 TX7 23, w ∈ wsX7_value; decide +kernel)
set_option maxHeartbeats 1000000 in
set_option maxRecDepth 100000 in
theorem bd_X7_value {p : Program} {l : Launch} {e : Env} {R : Room} {s : State} {m : MethodId} {args : Array Value} {below : List Frame} {meth : Method} {c : Code} {H : Heap} {locs : List Loc} {cells slots : Nat} {Q : State → Prop} {ls : Array Slot} {D : va_G} {A : Nat → Prop} {H0 : Heap} {cA : Nat → ClassId} {o : Nat → Int64} {ad ln : Nat → Nat} {iv : Nat → Nat → Int32} {n : Nat} {x P c9 T : Nat}
    (F : gF p s m meth c cX7_value 2 RX7 wsX7_value args (some .int)) (hRf : 2 ≤ R.frames) (hRl : 43 ≤ R.locals) (hRc : cells ≤ R.cells) (hRs : slots ≤ R.slots) (hK : va_K D vwCl (gT cA) s) (hN : NW s) (hA : ∀ q, H0.size ≤ q → A q) (hn : 68 ≤ n) (hln : ∀ k, ln k < 2 ^ 31) (hRn : rln ln) (hc9 : iv 53 7 = nI c9) (hc4 : c9 ≤ 4) (hT0 : iv 53 2 = nI T) (hT1 : 0 < T) (hT3 : T ≤ 3) (hP0 : iv 53 1 = nI P) (hP : P ≤ 8) (hcP : c9 ≤ P) (hx9 : x < ff P c9 * T ^ c9) (hxl : x < 136080)
    (hS : gS D cA A H0 o ad ln iv n H locs) (hl : lv_has ls 2 [(0, .ref (ad 53)), (1, .int (nI x))])
    (kret : ∀ (r : Int32) (iv' : Nat → Nat → Int32) (H : Heap) (locs : List Loc) (ls : Array Slot) (pc : Nat), decode cX7_value pc = .ok (.ireturn, 1) → (r = (if iv 53 12 = 0 then (-2) else iv 60 x) ∧ iv' = up2 iv 53 0 0) → gS D cA A H0 o ad ln iv' n H locs → W p l e R s m args below meth c H locs cells slots Q (F0 m pc ls [.int r])) :
    W p l e R s m args below meth c H locs cells slots Q (F0 m 0 ls []) := by
  obtain ⟨hx, hb, hml, hown, hts, hr, hlocks⟩ := F
  have hRn9 := hRn
  obtain ⟨r54, r55, r56, r57, r58, r59, r60, r61, r62, r63, r64, r65, r66⟩ := hRn
  have hff := ff_le4 hP hc4
  have hpw := pw_le4 hT3 hc4
  have hfw := Nat.mul_le_mul hff hpw
  have hok : ok9 (nI x) (nI (ff P c9 * T ^ c9)) := ok9_nI hx9 (by omega)
  refine lv_aload_n hx hb dX7_value_0 rfl (lv_at hl 0 rfl) ?_
  refine lv_iconst (v := nI 1) hx hb dX7_value_1 (by decide) ?_
  refine lv_aload_n hx hb dX7_value_2 rfl (lv_at hl 0 rfl) ?_
  refine lv_iload_n hx hb dX7_value_3 rfl (lv_at hl 1 rfl) ?_
  refine gc_i (gx_runV (As := [.int (nI x)]) (rest := [.int (nI 1), .ref (ad 53)]) ⟨hx, hb, hml, hown, hts⟩ hK hN hS 53 (by omega) rfl rfl (ct_X7_isState l D cA o ad ln n H.size iv (x := nI x) (P := P) (c9 := c9) (T := T) hn hln hc9 hc4 hT0 hT1 hT3 hP0 hP hcP) (cwV 1 hts gX7_value_X7_isState rfl rfl rfl (by decide +kernel) ⟨gle hRf rfl, gle hRl rfl⟩) rfl rfl hl.1 rfl (lv_room (Nat.le_of_ble_eq_true rfl)) dX7_value_4 ⟨hRc, hRs⟩) hS hA (fun y1 iv1 H locs hp1 hS => ?_)
  obtain ⟨h011, hi1, ev1⟩ := hp1
  rw [ev1] at hS
  skip
  refine lv_if_ne (tgt := 14) hx hb dX7_value_7 (by decide) (fun c_7 => ?_) (fun c_7 => ?_)
  · skip
    refine lv_iconst (v := nI 0) hx hb dX7_value_14 (by decide) ?_
    refine gc_i (gx_runV (As := [.int (nI 1), .int (nI 0)]) (rest := []) ⟨hx, hb, hml, hown, hts⟩ hK hN hS 53 (by omega) rfl rfl (ct_X7_throwsIf l D cA o ad ln n H.size iv (x := nI 1) (v := nI 0) hn hln (Or.inl rfl)) (cwV 2 hts gX7_value_X7_throwsIf rfl rfl rfl (by decide +kernel) ⟨gle hRf rfl, gle hRl rfl⟩) rfl rfl hl.1 rfl (lv_room (Nat.le_of_ble_eq_true rfl)) dX7_value_15 ⟨hRc, hRs⟩) hS hA (fun z iv4 H locs hp4 hS => ?_)
    obtain ⟨_, ez, et⟩ := hp4
    have et : iv4 = up2 iv 53 0 0 := et
    refine gx_as (y := nI 0) ez ?_
    refine lv_if_eq (tgt := 23) hx hb dX7_value_18 (by decide) (fun c_18 => ?_) (fun c_18 => ?_)
    · skip
      rw [show (0 : Int32) = nI 0 from rfl] at c_18
      rw [nI_eq (by omega) (by omega)] at c_18
      refine lv_aload_n hx hb dX7_value_23 rfl (lv_at hl 0 rfl) ?_
      refine gx_get (ci := 10) (v := .int (iv4 53 12)) (C := RX7) (T := TX7) (N := 23) hx hb hts (fun _ h => inX7_value_RX7 h) hown hK hS 53 (by omega) rfl rfl 12 (by decide) (hts (.fieldLink RX7 64 "CosetTablesModel" "isBuilt" "Z") (by decide +kernel)) rfl dX7_value_24 ?_
      refine gx_as (y := (iv 53 12)) (by rw [et, up2_n (by decide)]) ?_
      refine lv_if_eq (tgt := 39) hx hb dX7_value_27 (by decide) (fun c_27 => ?_) (fun c_27 => ?_)
      · skip
        refine lv_bipush (v := (-2)) hx hb dX7_value_39 (by decide) ?_
        exact kret _ iv4 _ _ _ _ dX7_value_41 (⟨by first | rw [if_pos c_27] | rw [if_neg c_27], et⟩) hS
      · skip
        refine lv_aload_n hx hb dX7_value_30 rfl (lv_at hl 0 rfl) ?_
        refine gx_get (ci := 10) (v := .ref (ad 60)) (C := RX7) (T := TX7) (N := 23) hx hb hts (fun _ h => inX7_value_RX7 h) hown hK hS 53 (by omega) rfl rfl 15 (by decide) (hts (.fieldLink RX7 30 "CosetTablesModel" "values" "[I") (by decide +kernel)) rfl dX7_value_31 ?_
        refine lv_iload_n hx hb dX7_value_34 rfl (lv_at hl 1 rfl) ?_
        refine gx_ialdn hx hb hK hS 60 (by omega) (by decide) x (by omega) (hln _) dX7_value_35 ?_
        refine gx_as (y := (iv 60 x)) (by rw [et, up2_row (by decide)]) ?_
        refine lv_goto (tgt := 41) hx hb dX7_value_36 (by decide) ?_
        exact kret _ iv4 _ _ _ _ dX7_value_41 (⟨by first | rw [if_pos c_27] | rw [if_neg c_27], et⟩) hS
    · skip
      rw [show (0 : Int32) = nI 0 from rfl] at c_18
      rw [nI_eq (by omega) (by omega)] at c_18
      omega
  · skip
    exact absurd (hi1.mpr hok) (by rw [c_7]; decide)
set_option maxRecDepth 100000 in
theorem ct_X7_value (l : Launch) (D : va_G) (cA : Nat → ClassId) (o : Nat → Int64) (ad ln : Nat → Nat) (n sz : Nat) (iv : Nat → Nat → Int32) (x P c9 T : Nat) (hn : 68 ≤ n) (hln : ∀ k, ln k < 2 ^ 31) (hRn : rln ln) (hc9 : iv 53 7 = nI c9) (hc4 : c9 ≤ 4) (hT0 : iv 53 2 = nI T) (hT1 : 0 < T) (hT3 : T ≤ 3) (hP0 : iv 53 1 = nI P) (hP : P ≤ 8) (hcP : c9 ≤ P) (hx9 : x < ff P c9 * T ^ c9) (hxl : x < 136080) : gMi l yX7_value wsX7_value { frames := 2, cells := 0, slots := 0, locals := 43 } D cA o ad ln n sz iv [.ref (ad 53), .int (nI x)] (fun (r : Int32) iv' => r = (if iv 53 12 = 0 then (-2) else iv 60 x) ∧ iv' = up2 iv 53 0 0) := by
  refine Met.ofW (cc := cX7_value) (maxL := 2) (ret := (some .int)) (by decide) rfl ?_
  intro p e s m args below meth c s₁ B hml hv__
  obtain ⟨rfl, hv__⟩ := hv__
  obtain ⟨hsz, hS, hK, hN, hA⟩ := gS.entry hv__
  have hl := lv_entry ([.ref (ad 53), .int (nI x)]) (n := 2) (Nat.le_of_ble_eq_true rfl)
  rw [lg_entry_eq]
  generalize (lg_sl ([.ref (ad 53), .int (nI x)]) ++ List.replicate (2 - (lg_sl ([.ref (ad 53), .int (nI x)])).length) Slot.unset).toArray = ls at hl ⊢
  exact bd_X7_value (x := x) (P := P) (c9 := c9) (T := T) ⟨B.exec, B.bytes, hml, findClass_of_methodNamed B.named, atoms_spec (ws := wsX7_value) B.pre, B.returns, B.notSynchronized⟩ (Nat.le_refl _) (Nat.le_refl _) (Nat.le_refl _) (Nat.le_refl _) hK hN hA hn hln hRn hc9 hc4 hT0 hT1 hT3 hP0 hP hcP hx9 hxl hS hl (fun r iv' H locs ls pc hd hp hS => gx_iret B.exec B.bytes B.returns B.notSynchronized hS hp hd)

set_option maxHeartbeats 1000000 in
set_option maxRecDepth 100000 in
theorem bd_X7_valueB {p : Program} {l : Launch} {e : Env} {R : Room} {s : State} {m : MethodId} {args : Array Value} {below : List Frame} {meth : Method} {c : Code} {H : Heap} {locs : List Loc} {cells slots : Nat} {Q : State → Prop} {ls : Array Slot} {D : va_G} {A : Nat → Prop} {H0 : Heap} {cA : Nat → ClassId} {o : Nat → Int64} {ad ln : Nat → Nat} {iv : Nat → Nat → Int32} {n : Nat} {x : Int32} {P c9 T : Nat}
    (F : gF p s m meth c cX7_value 2 RX7 wsX7_value args (some .int)) (hRf : 2 ≤ R.frames) (hRl : 43 ≤ R.locals) (hRc : cells ≤ R.cells) (hRs : slots ≤ R.slots) (hK : va_K D vwCl (gT cA) s) (hN : NW s) (hA : ∀ q, H0.size ≤ q → A q) (hn : 68 ≤ n) (hln : ∀ k, ln k < 2 ^ 31) (hc9 : iv 53 7 = nI c9) (hc4 : c9 ≤ 4) (hT0 : iv 53 2 = nI T) (hT1 : 0 < T) (hT3 : T ≤ 3) (hP0 : iv 53 1 = nI P) (hP : P ≤ 8) (hcP : c9 ≤ P) (hbad : ¬ ok9 x (nI (ff P c9 * T ^ c9)))
    (hS : gS D cA A H0 o ad ln iv n H locs) (hl : lv_has ls 2 [(0, .ref (ad 53)), (1, .int x)])
    (kret : ∀ (r : Int32) (iv' : Nat → Nat → Int32) (H : Heap) (locs : List Loc) (ls : Array Slot) (pc : Nat), decode cX7_value pc = .ok (.ireturn, 1) → (r = 0 ∧ iv' = up2 iv 53 0 1) → gS D cA A H0 o ad ln iv' n H locs → W p l e R s m args below meth c H locs cells slots Q (F0 m pc ls [.int r])) :
    W p l e R s m args below meth c H locs cells slots Q (F0 m 0 ls []) := by
  obtain ⟨hx, hb, hml, hown, hts, hr, hlocks⟩ := F
  refine lv_aload_n hx hb dX7_value_0 rfl (lv_at hl 0 rfl) ?_
  refine lv_iconst (v := nI 1) hx hb dX7_value_1 (by decide) ?_
  refine lv_aload_n hx hb dX7_value_2 rfl (lv_at hl 0 rfl) ?_
  refine lv_iload_n hx hb dX7_value_3 rfl (lv_at hl 1 rfl) ?_
  refine gc_i (gx_runV (As := [.int x]) (rest := [.int (nI 1), .ref (ad 53)]) ⟨hx, hb, hml, hown, hts⟩ hK hN hS 53 (by omega) rfl rfl (ct_X7_isState l D cA o ad ln n H.size iv (x := x) (P := P) (c9 := c9) (T := T) hn hln hc9 hc4 hT0 hT1 hT3 hP0 hP hcP) (cwV 1 hts gX7_value_X7_isState rfl rfl rfl (by decide +kernel) ⟨gle hRf rfl, gle hRl rfl⟩) rfl rfl hl.1 rfl (lv_room (Nat.le_of_ble_eq_true rfl)) dX7_value_4 ⟨hRc, hRs⟩) hS hA (fun y1 iv1 H locs hp1 hS => ?_)
  obtain ⟨h011, hi1, ev1⟩ := hp1
  rw [ev1] at hS
  skip
  refine lv_if_ne (tgt := 14) hx hb dX7_value_7 (by decide) (fun c_7 => ?_) (fun c_7 => ?_)
  · skip
    exact absurd (hi1.mp (h011.resolve_left c_7)) hbad
  · skip
    refine lv_iconst (v := nI 1) hx hb dX7_value_10 (by decide) ?_
    refine lv_goto (tgt := 15) hx hb dX7_value_11 (by decide) ?_
    refine gc_i (gx_runV (As := [.int (nI 1), .int (nI 1)]) (rest := []) ⟨hx, hb, hml, hown, hts⟩ hK hN hS 53 (by omega) rfl rfl (ct_X7_throwsIf l D cA o ad ln n H.size iv (x := nI 1) (v := nI 1) hn hln (Or.inr rfl)) (cwV 2 hts gX7_value_X7_throwsIf rfl rfl rfl (by decide +kernel) ⟨gle hRf rfl, gle hRl rfl⟩) rfl rfl hl.1 rfl (lv_room (Nat.le_of_ble_eq_true rfl)) dX7_value_15 ⟨hRc, hRs⟩) hS hA (fun z iv4 H locs hp4 hS => ?_)
    obtain ⟨_, ez, et⟩ := hp4
    have et : iv4 = up2 iv 53 0 1 := et
    refine gx_as (y := nI 1) ez ?_
    refine lv_if_eq (tgt := 23) hx hb dX7_value_18 (by decide) (fun c_18 => ?_) (fun c_18 => ?_)
    · skip
      rw [show (0 : Int32) = nI 0 from rfl] at c_18
      rw [nI_eq (by omega) (by omega)] at c_18
      omega
    · skip
      rw [show (0 : Int32) = nI 0 from rfl] at c_18
      rw [nI_eq (by omega) (by omega)] at c_18
      refine lv_iconst (v := nI 0) hx hb dX7_value_21 (by decide) ?_
      exact kret _ iv4 _ _ _ _ dX7_value_22 (⟨rfl, et⟩) hS
set_option maxRecDepth 100000 in
theorem ct_X7_valueB (l : Launch) (D : va_G) (cA : Nat → ClassId) (o : Nat → Int64) (ad ln : Nat → Nat) (n sz : Nat) (iv : Nat → Nat → Int32) (x : Int32) (P c9 T : Nat) (hn : 68 ≤ n) (hln : ∀ k, ln k < 2 ^ 31) (hc9 : iv 53 7 = nI c9) (hc4 : c9 ≤ 4) (hT0 : iv 53 2 = nI T) (hT1 : 0 < T) (hT3 : T ≤ 3) (hP0 : iv 53 1 = nI P) (hP : P ≤ 8) (hcP : c9 ≤ P) (hbad : ¬ ok9 x (nI (ff P c9 * T ^ c9))) : gMi l yX7_value wsX7_value { frames := 2, cells := 0, slots := 0, locals := 43 } D cA o ad ln n sz iv [.ref (ad 53), .int x] (fun (r : Int32) iv' => r = 0 ∧ iv' = up2 iv 53 0 1) := by
  refine Met.ofW (cc := cX7_value) (maxL := 2) (ret := (some .int)) (by decide) rfl ?_
  intro p e s m args below meth c s₁ B hml hv__
  obtain ⟨rfl, hv__⟩ := hv__
  obtain ⟨hsz, hS, hK, hN, hA⟩ := gS.entry hv__
  have hl := lv_entry ([.ref (ad 53), .int x]) (n := 2) (Nat.le_of_ble_eq_true rfl)
  rw [lg_entry_eq]
  generalize (lg_sl ([.ref (ad 53), .int x]) ++ List.replicate (2 - (lg_sl ([.ref (ad 53), .int x])).length) Slot.unset).toArray = ls at hl ⊢
  exact bd_X7_valueB (x := x) (P := P) (c9 := c9) (T := T) ⟨B.exec, B.bytes, hml, findClass_of_methodNamed B.named, atoms_spec (ws := wsX7_value) B.pre, B.returns, B.notSynchronized⟩ (Nat.le_refl _) (Nat.le_refl _) (Nat.le_refl _) (Nat.le_refl _) hK hN hA hn hln hc9 hc4 hT0 hT1 hT3 hP0 hP hcP hbad hS hl (fun r iv' H locs ls pc hd hp hS => gx_iret B.exec B.bytes B.returns B.notSynchronized hS hp hd)

theorem inX7_count_RX7 : ∀ {w : Cond}, w ∈ u_ws RX7 TX7 23 → w ∈ wsX7_count := fun {w} h => by first | exact List.mem_cons_of_mem _ (List.mem_append_right _ h) | (revert h; revert w; show ∀ w ∈ u_ws RX7 TX7 23, w ∈ wsX7_count; decide +kernel)
set_option maxHeartbeats 1000000 in
set_option maxRecDepth 100000 in
theorem bd_X7_count {p : Program} {l : Launch} {e : Env} {R : Room} {s : State} {m : MethodId} {args : Array Value} {below : List Frame} {meth : Method} {c : Code} {H : Heap} {locs : List Loc} {cells slots : Nat} {Q : State → Prop} {ls : Array Slot} {D : va_G} {A : Nat → Prop} {H0 : Heap} {cA : Nat → ClassId} {o : Nat → Int64} {ad ln : Nat → Nat} {iv : Nat → Nat → Int32} {n : Nat} {v9 : Int32} {S8 : Nat}
    (F : gF p s m meth c cX7_count 4 RX7 wsX7_count args (some .int)) (hRf : 0 ≤ R.frames) (hRl : 0 ≤ R.locals) (hRc : cells ≤ R.cells) (hRs : slots ≤ R.slots) (hK : va_K D vwCl (gT cA) s) (hN : NW s) (hA : ∀ q, H0.size ≤ q → A q) (hn : 68 ≤ n) (hln : ∀ k, ln k < 2 ^ 31) (hRn : rln ln) (hs : ¬ iv 53 12 = 0 → iv 53 14 = nI S8 ∧ S8 ≤ 136080)
    (hS : gS D cA A H0 o ad ln iv n H locs) (hl : lv_has ls 4 [(0, .ref (ad 53)), (1, .int v9)])
    (kret : ∀ (r : Int32) (iv' : Nat → Nat → Int32) (H : Heap) (locs : List Loc) (ls : Array Slot) (pc : Nat), decode cX7_count pc = .ok (.ireturn, 1) → (r = (if iv 53 12 = 0 then (-1) else nI (cnt (fun x => iv 60 x == v9) S8)) ∧ iv' = up2 iv 53 0 0) → gS D cA A H0 o ad ln iv' n H locs → W p l e R s m args below meth c H locs cells slots Q (F0 m pc ls [.int r])) :
    W p l e R s m args below meth c H locs cells slots Q (F0 m 0 ls []) := by
  obtain ⟨hx, hb, hml, hown, hts, hr, hlocks⟩ := F
  have hRn9 := hRn
  obtain ⟨r54, r55, r56, r57, r58, r59, r60, r61, r62, r63, r64, r65, r66⟩ := hRn
  refine lv_aload_n hx hb dX7_count_0 rfl (lv_at hl 0 rfl) ?_
  refine lv_iconst (v := nI 0) hx hb dX7_count_1 (by decide) ?_
  refine gx_put (ci := 10) (x := nI 0) (ty := .int) (C := RX7) (T := TX7) (N := 23) hx hb hts (fun _ h => inX7_count_RX7 h) tyX7 tyX7_ok nmX7 hown hK hS 53 (by omega) rfl rfl 0 (by decide) (hts (.fieldLink RX7 58 "CosetTablesModel" "thrown" "I") (by decide +kernel)) rfl (by decide +kernel) rfl rfl (Nat.le_of_ble_eq_true rfl) rfl dX7_count_2 (fun H locs hS => ?_)
  obtain ⟨iv1, eiv1⟩ : ∃ z, z = up2 iv 53 0 (nI 0) := ⟨_, rfl⟩
  rw [← eiv1] at hS
  refine lv_aload_n hx hb dX7_count_5 rfl (lv_at hl 0 rfl) ?_
  refine gx_get (ci := 10) (v := .int (iv1 53 12)) (C := RX7) (T := TX7) (N := 23) hx hb hts (fun _ h => inX7_count_RX7 h) hown hK hS 53 (by omega) rfl rfl 12 (by decide) (hts (.fieldLink RX7 64 "CosetTablesModel" "isBuilt" "Z") (by decide +kernel)) rfl dX7_count_6 ?_
  refine gx_as (y := (iv 53 12)) (by rw [eiv1, up2_n (by decide)]) ?_
  refine lv_if_ne (tgt := 14) hx hb dX7_count_9 (by decide) (fun c_9 => ?_) (fun c_9 => ?_)
  · skip
    obtain ⟨hs1, hs2⟩ := hs c_9
    refine lv_iconst (v := nI 0) hx hb dX7_count_14 (by decide) ?_
    refine gx_as (y := nI (cnt (fun x => iv 60 x == v9) 0)) rfl ?_
    refine lv_istore_n (lv' := [(2, .int (nI (cnt (fun x => iv 60 x == v9) 0))), (0, .ref (ad 53)), (1, .int v9)]) hx hb dX7_count_15 rfl hl (by decide) rfl (fun ls hl => ?_)
    refine lv_iconst (v := nI 0) hx hb dX7_count_16 (by decide) ?_
    refine lv_istore_n (lv' := [(3, .int (nI 0)), (2, .int (nI (cnt (fun x => iv 60 x == v9) 0))), (0, .ref (ad 53)), (1, .int v9)]) hx hb dX7_count_17 rfl hl (by decide) rfl (fun ls hl => ?_)
    have L18 : ∀ (N : Nat) (i : Nat), S8 - i < N → (i ≤ S8) → ∀ (H : Heap) (locs : List Loc) (ls : Array Slot), gS D cA A H0 o ad ln iv1 n H locs → lv_has ls 4 [(0, .ref (ad 53)), (1, .int v9), (2, .int (nI (cnt (fun x => iv 60 x == v9) i))), (3, .int (nI i))] → W p l e R s m args below meth c H locs cells slots Q (F0 m 18 ls []) := by
      intro N
      induction N with
      | zero => intro i hm; exact absurd hm (Nat.not_lt_zero _)
      | succ N ih18 =>
        intro i hm hi H locs ls hS hl
        refine lv_iload_n hx hb dX7_count_18 rfl (lv_at hl 3 rfl) ?_
        refine lv_aload_n hx hb dX7_count_19 rfl (lv_at hl 0 rfl) ?_
        refine gx_get (ci := 10) (v := .int (iv1 53 14)) (C := RX7) (T := TX7) (N := 23) hx hb hts (fun _ h => inX7_count_RX7 h) hown hK hS 53 (by omega) rfl rfl 14 (by decide) (hts (.fieldLink RX7 116 "CosetTablesModel" "size" "I") (by decide +kernel)) rfl dX7_count_20 ?_
        refine gx_as (y := nI S8) (by rw [eiv1, up2_n (by decide)]; exact hs1) ?_
        refine lv_icmp_ge (tgt := 50) hx hb dX7_count_23 (by decide) (fun c_23 => ?_) (fun c_23 => ?_)
        · skip
          rw [nI_leI (by omega) (by omega)] at c_23
          have ei : i = S8 := by omega
          refine lv_iload_n hx hb dX7_count_50 rfl (lv_at hl 2 rfl) ?_
          exact kret _ iv1 _ _ _ _ dX7_count_51 (⟨by rw [if_neg c_9, show S8 = i by omega], by rw [eiv1]; rfl⟩) hS
        · skip
          rw [nI_leI (by omega) (by omega)] at c_23
          refine lv_iload_n hx hb dX7_count_26 rfl (lv_at hl 2 rfl) ?_
          refine lv_aload_n hx hb dX7_count_27 rfl (lv_at hl 0 rfl) ?_
          refine gx_get (ci := 10) (v := .ref (ad 60)) (C := RX7) (T := TX7) (N := 23) hx hb hts (fun _ h => inX7_count_RX7 h) hown hK hS 53 (by omega) rfl rfl 15 (by decide) (hts (.fieldLink RX7 30 "CosetTablesModel" "values" "[I") (by decide +kernel)) rfl dX7_count_28 ?_
          refine lv_iload_n hx hb dX7_count_31 rfl (lv_at hl 3 rfl) ?_
          refine gx_ialdn hx hb hK hS 60 (by omega) (by decide) i (by omega) (hln _) dX7_count_32 ?_
          refine gx_as (y := (iv 60 i)) (by rw [eiv1, up2_row (by decide)]) ?_
          refine lv_iload_n hx hb dX7_count_33 rfl (lv_at hl 1 rfl) ?_
          refine lv_icmp_ne (tgt := 41) hx hb dX7_count_34 (by decide) (fun c_34 => ?_) (fun c_34 => ?_)
          · skip
            refine lv_iconst (v := nI 0) hx hb dX7_count_41 (by decide) ?_
            refine lv_iadd hx hb dX7_count_42 ?_
            refine gx_as (y := nI ((cnt (fun x => iv 60 x == v9) i) + 0)) (nI_add _ _) ?_
            refine gx_as (y := nI (cnt (fun x => iv 60 x == v9) (i + 1))) (by rw [cnt_s]; first | rw [if_pos (by simpa using c_34)] | rw [if_neg (by simpa using c_34)]) ?_
            refine lv_istore_n (lv' := [(2, .int (nI (cnt (fun x => iv 60 x == v9) (i + 1)))), (0, .ref (ad 53)), (1, .int v9), (3, .int (nI i))]) hx hb dX7_count_43 rfl hl (by decide) rfl (fun ls hl => ?_)
            refine lv_iinc (v := nI (i + 1)) (lv' := [(3, .int (nI (i + 1))), (2, .int (nI (cnt (fun x => iv 60 x == v9) (i + 1)))), (0, .ref (ad 53)), (1, .int v9)]) hx hb dX7_count_44 hl (k := 3) rfl (nI_1 i) (by decide) rfl (fun ls hl => ?_)
            refine lv_goto (tgt := 18) hx hb dX7_count_47 (by decide) ?_
            exact ih18 (i + 1) (by omega) (by omega) _ _ _ hS (lv_sub hl [2, 3, 1, 0] rfl)
          · skip
            refine lv_iconst (v := nI 1) hx hb dX7_count_37 (by decide) ?_
            refine lv_goto (tgt := 42) hx hb dX7_count_38 (by decide) ?_
            refine lv_iadd hx hb dX7_count_42 ?_
            refine gx_as (y := nI ((cnt (fun x => iv 60 x == v9) i) + 1)) (nI_add _ _) ?_
            refine gx_as (y := nI (cnt (fun x => iv 60 x == v9) (i + 1))) (by rw [cnt_s]; first | rw [if_pos (by simpa using c_34)] | rw [if_neg (by simpa using c_34)]) ?_
            refine lv_istore_n (lv' := [(2, .int (nI (cnt (fun x => iv 60 x == v9) (i + 1)))), (0, .ref (ad 53)), (1, .int v9), (3, .int (nI i))]) hx hb dX7_count_43 rfl hl (by decide) rfl (fun ls hl => ?_)
            refine lv_iinc (v := nI (i + 1)) (lv' := [(3, .int (nI (i + 1))), (2, .int (nI (cnt (fun x => iv 60 x == v9) (i + 1)))), (0, .ref (ad 53)), (1, .int v9)]) hx hb dX7_count_44 hl (k := 3) rfl (nI_1 i) (by decide) rfl (fun ls hl => ?_)
            refine lv_goto (tgt := 18) hx hb dX7_count_47 (by decide) ?_
            exact ih18 (i + 1) (by omega) (by omega) _ _ _ hS (lv_sub hl [2, 3, 1, 0] rfl)
    exact L18 _ 0 (Nat.lt_succ_self _) (Nat.zero_le _) _ _ _ hS (lv_sub hl [2, 3, 1, 0] rfl)
  · skip
    refine lv_iconst (v := (-1)) hx hb dX7_count_12 (by decide) ?_
    exact kret _ iv1 _ _ _ _ dX7_count_13 (⟨by rw [if_pos c_9], by rw [eiv1]; rfl⟩) hS
set_option maxRecDepth 100000 in
theorem ct_X7_count (l : Launch) (D : va_G) (cA : Nat → ClassId) (o : Nat → Int64) (ad ln : Nat → Nat) (n sz : Nat) (iv : Nat → Nat → Int32) (v9 : Int32) (S8 : Nat) (hn : 68 ≤ n) (hln : ∀ k, ln k < 2 ^ 31) (hRn : rln ln) (hs : ¬ iv 53 12 = 0 → iv 53 14 = nI S8 ∧ S8 ≤ 136080) : gMi l yX7_count wsX7_count { frames := 0, cells := 0, slots := 0, locals := 0 } D cA o ad ln n sz iv [.ref (ad 53), .int v9] (fun (r : Int32) iv' => r = (if iv 53 12 = 0 then (-1) else nI (cnt (fun x => iv 60 x == v9) S8)) ∧ iv' = up2 iv 53 0 0) := by
  refine Met.ofW (cc := cX7_count) (maxL := 4) (ret := (some .int)) (by decide) rfl ?_
  intro p e s m args below meth c s₁ B hml hv__
  obtain ⟨rfl, hv__⟩ := hv__
  obtain ⟨hsz, hS, hK, hN, hA⟩ := gS.entry hv__
  have hl := lv_entry ([.ref (ad 53), .int v9]) (n := 4) (Nat.le_of_ble_eq_true rfl)
  rw [lg_entry_eq]
  generalize (lg_sl ([.ref (ad 53), .int v9]) ++ List.replicate (4 - (lg_sl ([.ref (ad 53), .int v9])).length) Slot.unset).toArray = ls at hl ⊢
  exact bd_X7_count (v9 := v9) (S8 := S8) ⟨B.exec, B.bytes, hml, findClass_of_methodNamed B.named, atoms_spec (ws := wsX7_count) B.pre, B.returns, B.notSynchronized⟩ (Nat.le_refl _) (Nat.le_refl _) (Nat.le_refl _) (Nat.le_refl _) hK hN hA hn hln hRn hs hS hl (fun r iv' H locs ls pc hd hp hS => gx_iret B.exec B.bytes B.returns B.notSynchronized hS hp hd)

theorem inX7_bitsOf_RX7 : ∀ {w : Cond}, w ∈ u_ws RX7 TX7 23 → w ∈ wsX7_bitsOf := fun {w} h => by first | exact List.mem_cons_of_mem _ (List.mem_append_right _ h) | (revert h; revert w; show ∀ w ∈ u_ws RX7 TX7 23, w ∈ wsX7_bitsOf; decide +kernel)
set_option maxHeartbeats 1000000 in
set_option maxRecDepth 100000 in
theorem bd_X7_bitsOf {p : Program} {l : Launch} {e : Env} {R : Room} {s : State} {m : MethodId} {args : Array Value} {below : List Frame} {meth : Method} {c : Code} {H : Heap} {locs : List Loc} {cells slots : Nat} {Q : State → Prop} {ls : Array Slot} {D : va_G} {A : Nat → Prop} {H0 : Heap} {cA : Nat → ClassId} {o : Nat → Int64} {ad ln : Nat → Nat} {iv : Nat → Nat → Int32} {n : Nat} {x bt : Nat}
    (F : gF p s m meth c cX7_bitsOf 4 RX7 wsX7_bitsOf args (some .int)) (hRf : 0 ≤ R.frames) (hRl : 0 ≤ R.locals) (hRc : cells ≤ R.cells) (hRs : slots ≤ R.slots) (hK : va_K D vwCl (gT cA) s) (hN : NW s) (hA : ∀ q, H0.size ≤ q → A q) (hn : 68 ≤ n) (hln : ∀ k, ln k < 2 ^ 31) (hRn : rln ln) (hx9 : x < 136080) (hbt : bt < 2 ^ 31)
    (hS : gS D cA A H0 o ad ln iv n H locs) (hl : lv_has ls 4 [(0, .ref (ad 53)), (1, .int (nI x)), (2, .int (nI bt))])
    (kret : ∀ (r : Int32) (iv' : Nat → Nat → Int32) (H : Heap) (locs : List Loc) (ls : Array Slot) (pc : Nat), decode cX7_bitsOf pc = .ok (.ireturn, 1) → (r = rbit bt (iv 60 x) ∧ iv' = iv) → gS D cA A H0 o ad ln iv' n H locs → W p l e R s m args below meth c H locs cells slots Q (F0 m pc ls [.int r])) :
    W p l e R s m args below meth c H locs cells slots Q (F0 m 0 ls []) := by
  obtain ⟨hx, hb, hml, hown, hts, hr, hlocks⟩ := F
  have hRn9 := hRn
  obtain ⟨r54, r55, r56, r57, r58, r59, r60, r61, r62, r63, r64, r65, r66⟩ := hRn
  refine lv_aload_n hx hb dX7_bitsOf_0 rfl (lv_at hl 0 rfl) ?_
  refine gx_get (ci := 10) (v := .ref (ad 60)) (C := RX7) (T := TX7) (N := 23) hx hb hts (fun _ h => inX7_bitsOf_RX7 h) hown hK hS 53 (by omega) rfl rfl 15 (by decide) (hts (.fieldLink RX7 30 "CosetTablesModel" "values" "[I") (by decide +kernel)) rfl dX7_bitsOf_1 ?_
  refine lv_iload_n hx hb dX7_bitsOf_4 rfl (lv_at hl 1 rfl) ?_
  refine gx_ialdn hx hb hK hS 60 (by omega) (by decide) x (by omega) (hln _) dX7_bitsOf_5 ?_
  refine lv_topi (fun v8 ev8 => ?_)
  refine lv_istore_n (lv' := [(3, .int v8), (0, .ref (ad 53)), (1, .int (nI x)), (2, .int (nI bt))]) hx hb dX7_bitsOf_6 rfl hl (by decide) rfl (fun ls hl => ?_)
  refine lv_iload_n hx hb dX7_bitsOf_7 rfl (lv_at hl 3 rfl) ?_
  refine lv_iconst (v := nI 2) hx hb dX7_bitsOf_8 (by decide) ?_
  refine lv_icmp_ne (tgt := 24) hx hb dX7_bitsOf_9 (by decide) (fun c_9 => ?_) (fun c_9 => ?_)
  · skip
    rw [nI_eq (by omega) (by omega)] at c_9
    refine lv_iload_n hx hb dX7_bitsOf_24 rfl (lv_at hl 0 rfl) ?_
    refine lv_if_ge (tgt := 33) hx hb dX7_bitsOf_25 (by decide) (fun c_25 => ?_) (fun c_25 => ?_)
    · skip
      refine lv_iload_n hx hb dX7_bitsOf_33 rfl (lv_at hl 0 rfl) ?_
      refine lv_bipush (v := nI 14) hx hb dX7_bitsOf_34 (by decide) ?_
      refine lv_icmp_le (tgt := 44) hx hb dX7_bitsOf_36 (by decide) (fun c_36 => ?_) (fun c_36 => ?_)
      · skip
        refine lv_iload_n hx hb dX7_bitsOf_44 rfl (lv_at hl 0 rfl) ?_
        exact kret _ iv _ _ _ _ dX7_bitsOf_45 (⟨by unfold rbit; rw [if_neg c_9, ← ev8]; first | rw [if_pos (by rw [← Int32.not_le]; exact c_25)] | (rw [if_neg (by rw [Int32.not_lt]; exact c_25)]; first | rw [if_pos (by rw [← Int32.not_le]; exact c_36)] | rw [if_neg (by rw [Int32.not_lt]; exact c_36)]), rfl⟩) hS
      · skip
        refine lv_bipush (v := nI 14) hx hb dX7_bitsOf_39 (by decide) ?_
        refine lv_goto (tgt := 45) hx hb dX7_bitsOf_41 (by decide) ?_
        exact kret _ iv _ _ _ _ dX7_bitsOf_45 (⟨by unfold rbit; rw [if_neg c_9, ← ev8]; first | rw [if_pos (by rw [← Int32.not_le]; exact c_25)] | (rw [if_neg (by rw [Int32.not_lt]; exact c_25)]; first | rw [if_pos (by rw [← Int32.not_le]; exact c_36)] | rw [if_neg (by rw [Int32.not_lt]; exact c_36)]), rfl⟩) hS
    · skip
      refine lv_bipush (v := nI 15) hx hb dX7_bitsOf_28 (by decide) ?_
      refine lv_goto (tgt := 45) hx hb dX7_bitsOf_30 (by decide) ?_
      exact kret _ iv _ _ _ _ dX7_bitsOf_45 (⟨by unfold rbit; rw [if_neg c_9, ← ev8]; first | rw [if_pos (by rw [← Int32.not_le]; exact c_25)] | (rw [if_neg (by rw [Int32.not_lt]; exact c_25)]; first | rw [if_pos (by rw [← Int32.not_le]; exact c_36)] | rw [if_neg (by rw [Int32.not_lt]; exact c_36)]), rfl⟩) hS
  · skip
    rw [nI_eq (by omega) (by omega)] at c_9
    refine lv_iload_n hx hb dX7_bitsOf_12 rfl (lv_at hl 0 rfl) ?_
    refine lv_if_ge (tgt := 20) hx hb dX7_bitsOf_13 (by decide) (fun c_13 => ?_) (fun c_13 => ?_)
    · skip
      refine lv_iload_n hx hb dX7_bitsOf_20 rfl (lv_at hl 0 rfl) ?_
      refine lv_iconst (v := nI 3) hx hb dX7_bitsOf_21 (by decide) ?_
      refine lv_irem hx hb dX7_bitsOf_22 (by decide) ?_
      exact kret _ iv _ _ _ _ dX7_bitsOf_23 (⟨by unfold rbit; rw [if_pos c_9, ← ev8]; first | (rw [if_neg (by rw [Int32.not_lt]; exact c_13)]; rfl) | rw [if_pos (by rw [← Int32.not_le]; exact c_13)], rfl⟩) hS
    · skip
      refine lv_iconst (v := nI 3) hx hb dX7_bitsOf_16 (by decide) ?_
      refine lv_goto (tgt := 23) hx hb dX7_bitsOf_17 (by decide) ?_
      exact kret _ iv _ _ _ _ dX7_bitsOf_23 (⟨by unfold rbit; rw [if_pos c_9, ← ev8]; first | (rw [if_neg (by rw [Int32.not_lt]; exact c_13)]; rfl) | rw [if_pos (by rw [← Int32.not_le]; exact c_13)], rfl⟩) hS
set_option maxRecDepth 100000 in
theorem ct_X7_bitsOf (l : Launch) (D : va_G) (cA : Nat → ClassId) (o : Nat → Int64) (ad ln : Nat → Nat) (n sz : Nat) (iv : Nat → Nat → Int32) (x bt : Nat) (hn : 68 ≤ n) (hln : ∀ k, ln k < 2 ^ 31) (hRn : rln ln) (hx9 : x < 136080) (hbt : bt < 2 ^ 31) : gMi l yX7_bitsOf wsX7_bitsOf { frames := 0, cells := 0, slots := 0, locals := 0 } D cA o ad ln n sz iv [.ref (ad 53), .int (nI x), .int (nI bt)] (fun (r : Int32) iv' => r = rbit bt (iv 60 x) ∧ iv' = iv) := by
  refine Met.ofW (cc := cX7_bitsOf) (maxL := 4) (ret := (some .int)) (by decide) rfl ?_
  intro p e s m args below meth c s₁ B hml hv__
  obtain ⟨rfl, hv__⟩ := hv__
  obtain ⟨hsz, hS, hK, hN, hA⟩ := gS.entry hv__
  have hl := lv_entry ([.ref (ad 53), .int (nI x), .int (nI bt)]) (n := 4) (Nat.le_of_ble_eq_true rfl)
  rw [lg_entry_eq]
  generalize (lg_sl ([.ref (ad 53), .int (nI x), .int (nI bt)]) ++ List.replicate (4 - (lg_sl ([.ref (ad 53), .int (nI x), .int (nI bt)])).length) Slot.unset).toArray = ls at hl ⊢
  exact bd_X7_bitsOf (x := x) (bt := bt) ⟨B.exec, B.bytes, hml, findClass_of_methodNamed B.named, atoms_spec (ws := wsX7_bitsOf) B.pre, B.returns, B.notSynchronized⟩ (Nat.le_refl _) (Nat.le_refl _) (Nat.le_refl _) (Nat.le_refl _) hK hN hA hn hln hRn hx9 hbt hS hl (fun r iv' H locs ls pc hd hp hS => gx_iret B.exec B.bytes B.returns B.notSynchronized hS hp hd)
