theorem inX1_read_RX1 : ∀ {w : Cond}, w ∈ u_ws RX1 TX1 8 → w ∈ wsX1_read := fun {w} h => by first | exact List.mem_cons_of_mem _ (List.mem_append_right _ h) | (revert h; revert w; show ∀ w ∈ u_ws RX1 TX1 8, w ∈ wsX1_read; decide +kernel)
set_option maxHeartbeats 4000000 in
set_option maxRecDepth 100000 in
theorem bd_X1_read {p : Program} {l : Launch} {e : Env} {R : Room} {s : State} {m : MethodId} {args : Array Value} {below : List Frame} {meth : Method} {c : Code} {H : Heap} {locs : List Loc} {cells slots : Nat} {Q : State → Prop} {ls : Array Slot} {D : va_G} {A : Nat → Prop} {H0 : Heap} {cA : Nat → ClassId} {o : Nat → Int64} {ad ln : Nat → Nat} {iv : Nat → Nat → Int32} {n : Nat} {x b P c9 T : Nat} {pc9 : Nat → Nat}
    (F : gF p s m meth c cX1_read 3 RX1 wsX1_read args none) (hRf : 2 ≤ R.frames) (hRl : 50 ≤ R.locals) (hRc : cells ≤ R.cells) (hRs : slots ≤ R.slots) (hK : va_K D vwCl (gT cA) s) (hN : NW s) (hA : ∀ q, H0.size ≤ q → A q) (hn : 68 ≤ n) (hln : ∀ k, ln k < 2 ^ 31) (hc9 : iv 25 5 = nI c9) (hc4 : c9 ≤ 4) (hT0 : iv 25 1 = nI T) (hT1 : 0 < T) (hT3 : T ≤ 3) (hSb : isS b = true) (hP2 : ln (b + 2) = P) (hP1 : ln (b + 1) = P) (hP : P ≤ 8) (h27 : ln 27 = 4) (hpc : ∀ i, i < c9 → iv 27 i = nI (pc9 i)) (hpi : inj pc9 P c9) (hP0 : iv 25 0 = nI P) (h28 : ln 28 = 4) (htw : iv 25 7 = nI (T ^ c9)) (hx9 : x < 2 ^ 20)
    (hS : gS D cA A H0 o ad ln iv n H locs) (hl : lv_has ls 3 [(0, .ref (ad 25)), (1, .int (nI x)), (2, .ref (ad b))])
    (kret : ∀ (iv' : Nat → Nat → Int32) (H : Heap) (locs : List Loc) (ls : Array Slot) (pc : Nat), decode cX1_read pc = .ok (.return_, 1) → ((∃ w, inj w P c9 ∧ holdsAt iv' b c9 pc9 w (fun i => x % T ^ c9 / T ^ (c9 - 1 - i) % T) ∧ ∀ i, i < c9 → rkw w i = rky P c9 (x / T ^ c9) i) ∧ (∀ p, (∀ i, i < c9 → p ≠ pc9 i) → iv' (b + 1) p = iv (b + 1) p ∧ iv' (b + 2) p = iv (b + 2) p) ∧ ∀ q, q ≠ b + 1 → q ≠ b + 2 → q ≠ 28 → iv' q = iv q) → gS D cA A H0 o ad ln iv' n H locs → W p l e R s m args below meth c H locs cells slots Q (F0 m pc ls [])) :
    W p l e R s m args below meth c H locs cells slots Q (F0 m 0 ls []) := by
  obtain ⟨hx, hb, hml, hown, hts, hr, hlocks⟩ := F
  have hb0 := isS_in hSb
  have hpw := pw_le4 hT3 hc4
  have hpp : 0 < T ^ c9 := Nat.pow_pos hT1
  have hxm : x % T ^ c9 ≤ x := Nat.mod_le _ _
  have hxd : x / T ^ c9 ≤ x := Nat.div_le_self _ _
  refine lv_aload_n hx hb dX1_read_0 rfl (lv_at hl 0 rfl) ?_
  refine lv_iload_n hx hb dX1_read_1 rfl (lv_at hl 1 rfl) ?_
  refine lv_aload_n hx hb dX1_read_2 rfl (lv_at hl 0 rfl) ?_
  refine gx_get (ci := 4) (v := .int (iv 25 7)) (C := RX1) (T := TX1) (N := 8) hx hb hts (fun _ h => inX1_read_RX1 h) hown hK hS 25 (by omega) rfl rfl 7 (by decide) (hts (.fieldLink RX1 32 "CosetTables$Numbering" "twistings" "I") (by decide +kernel)) rfl dX1_read_3 ?_
  refine gx_as (y := nI (T ^ c9)) htw ?_
  refine lv_irem hx hb dX1_read_6 (nI_ne0 hpp (by omega)) ?_
  refine gx_as (y := nI (x % T ^ c9)) (grem (by omega) hpp (by omega)) ?_
  refine lv_aload_n hx hb dX1_read_7 rfl (lv_at hl 2 rfl) ?_
  refine gc_v (gx_runV (As := [.int (nI (x % T ^ c9)), .ref (ad b)]) (rest := []) ⟨hx, hb, hml, hown, hts⟩ hK hN hS 25 (by omega) rfl rfl (ct_X1_readTwisting l D cA o ad ln n H.size iv (x := x % T ^ c9) (b := b) (P := P) (c9 := c9) (T := T) (pc9 := pc9) hn hln hc9 hc4 hT0 hT1 hT3 hSb hP2 hP1 hP h27 hpc hpi (by omega)) (cwV 2 hts gX1_read_X1_readTwisting rfl rfl rfl (by decide +kernel) ⟨gle hRf rfl, gle hRl rfl⟩) rfl rfl hl.1 rfl (lv_room (Nat.le_of_ble_eq_true rfl)) dX1_read_8 ⟨hRc, hRs⟩) hS hA (fun iv1 H locs hp1 hS => ?_)
  obtain ⟨a1, a2, a3⟩ := hp1
  refine lv_aload_n hx hb dX1_read_11 rfl (lv_at hl 0 rfl) ?_
  refine lv_iload_n hx hb dX1_read_12 rfl (lv_at hl 1 rfl) ?_
  refine lv_aload_n hx hb dX1_read_13 rfl (lv_at hl 0 rfl) ?_
  refine gx_get (ci := 4) (v := .int (iv1 25 7)) (C := RX1) (T := TX1) (N := 8) hx hb hts (fun _ h => inX1_read_RX1 h) hown hK hS 25 (by omega) rfl rfl 7 (by decide) (hts (.fieldLink RX1 32 "CosetTables$Numbering" "twistings" "I") (by decide +kernel)) rfl dX1_read_14 ?_
  refine gx_as (y := nI (T ^ c9)) (by rw [a3 25 (by omega)]; exact htw) ?_
  refine lv_idiv hx hb dX1_read_17 (nI_ne0 hpp (by omega)) ?_
  refine gx_as (y := nI (x / T ^ c9)) (pk_div (by omega) hpp (by omega)) ?_
  refine lv_aload_n hx hb dX1_read_18 rfl (lv_at hl 2 rfl) ?_
  refine gc_v (gx_runV (As := [.int (nI (x / T ^ c9)), .ref (ad b)]) (rest := []) ⟨hx, hb, hml, hown, hts⟩ hK hN hS 25 (by omega) rfl rfl (ct_X1_readArrangement l D cA o ad ln n H.size iv1 (y := x / T ^ c9) (b := b) (P := P) (c9 := c9) (pc9 := pc9) hn hln (by rw [a3 25 (by omega)]; exact hc9) hc4 hSb hP2 hP1 hP h27 (fun i hi => by rw [a3 27 (by omega)]; exact hpc i hi) hpi (by rw [a3 25 (by omega)]; exact hP0) h28 (by omega)) (cwV 2 hts gX1_read_X1_readArrangement rfl rfl rfl (by decide +kernel) ⟨gle hRf rfl, gle hRl rfl⟩) rfl rfl hl.1 rfl (lv_room (Nat.le_of_ble_eq_true rfl)) dX1_read_19 ⟨hRc, hRs⟩) hS hA (fun iv2 H locs hp2 hS => ?_)
  obtain ⟨⟨w, w1, w2, w3⟩, w4, w5⟩ := hp2
  exact kret iv2 _ _ _ _ dX1_read_22 (⟨⟨w, w1, ⟨w2, fun i hi => by rw [w5 (b + 2) (by omega) (by omega)]; exact a1 i hi⟩, w3⟩, fun p hp => ⟨by rw [w4 p hp, a3 (b + 1) (by omega)], by rw [w5 (b + 2) (by omega) (by omega), a2 p hp]⟩, fun q h1 h2 h3 => by rw [w5 q h1 h3, a3 q h2]⟩) hS
set_option maxRecDepth 100000 in
theorem ct_X1_read (l : Launch) (D : va_G) (cA : Nat → ClassId) (o : Nat → Int64) (ad ln : Nat → Nat) (n sz : Nat) (iv : Nat → Nat → Int32) (x b P c9 T : Nat) (pc9 : Nat → Nat) (hn : 68 ≤ n) (hln : ∀ k, ln k < 2 ^ 31) (hc9 : iv 25 5 = nI c9) (hc4 : c9 ≤ 4) (hT0 : iv 25 1 = nI T) (hT1 : 0 < T) (hT3 : T ≤ 3) (hSb : isS b = true) (hP2 : ln (b + 2) = P) (hP1 : ln (b + 1) = P) (hP : P ≤ 8) (h27 : ln 27 = 4) (hpc : ∀ i, i < c9 → iv 27 i = nI (pc9 i)) (hpi : inj pc9 P c9) (hP0 : iv 25 0 = nI P) (h28 : ln 28 = 4) (htw : iv 25 7 = nI (T ^ c9)) (hx9 : x < 2 ^ 20) : gMv l yX1_read wsX1_read { frames := 2, cells := 0, slots := 0, locals := 50 } D cA o ad ln n sz iv [.ref (ad 25), .int (nI x), .ref (ad b)] (fun iv' => (∃ w, inj w P c9 ∧ holdsAt iv' b c9 pc9 w (fun i => x % T ^ c9 / T ^ (c9 - 1 - i) % T) ∧ ∀ i, i < c9 → rkw w i = rky P c9 (x / T ^ c9) i) ∧ (∀ p, (∀ i, i < c9 → p ≠ pc9 i) → iv' (b + 1) p = iv (b + 1) p ∧ iv' (b + 2) p = iv (b + 2) p) ∧ ∀ q, q ≠ b + 1 → q ≠ b + 2 → q ≠ 28 → iv' q = iv q) := by
  refine Met.ofW (cc := cX1_read) (maxL := 3) (ret := none) (by decide) rfl ?_
  intro p e s m args below meth c s₁ B hml hv__
  obtain ⟨rfl, hv__⟩ := hv__
  obtain ⟨hsz, hS, hK, hN, hA⟩ := gS.entry hv__
  have hl := lv_entry ([.ref (ad 25), .int (nI x), .ref (ad b)]) (n := 3) (Nat.le_of_ble_eq_true rfl)
  rw [lg_entry_eq]
  generalize (lg_sl ([.ref (ad 25), .int (nI x), .ref (ad b)]) ++ List.replicate (3 - (lg_sl ([.ref (ad 25), .int (nI x), .ref (ad b)])).length) Slot.unset).toArray = ls at hl ⊢
  exact bd_X1_read (x := x) (b := b) (P := P) (c9 := c9) (T := T) (pc9 := pc9) ⟨B.exec, B.bytes, hml, findClass_of_methodNamed B.named, atoms_spec (ws := wsX1_read) B.pre, B.returns, B.notSynchronized⟩ (Nat.le_refl _) (Nat.le_refl _) (Nat.le_refl _) (Nat.le_refl _) hK hN hA hn hln hc9 hc4 hT0 hT1 hT3 hSb hP2 hP1 hP h27 hpc hpi hP0 h28 htw hx9 hS hl (fun iv' H locs ls pc hd hp hS => gx_vret B.exec B.bytes B.returns B.notSynchronized hS hp hd)

theorem inX1_change_RX1 : ∀ {w : Cond}, w ∈ u_ws RX1 TX1 8 → w ∈ wsX1_change := fun {w} h => by first | exact List.mem_cons_of_mem _ (List.mem_append_right _ h) | (revert h; revert w; show ∀ w ∈ u_ws RX1 TX1 8, w ∈ wsX1_change; decide +kernel)
set_option maxHeartbeats 4000000 in
set_option maxRecDepth 100000 in
theorem bd_X1_change {p : Program} {l : Launch} {e : Env} {R : Room} {s : State} {m : MethodId} {args : Array Value} {below : List Frame} {meth : Method} {c : Code} {H : Heap} {locs : List Loc} {cells slots : Nat} {Q : State → Prop} {ls : Array Slot} {D : va_G} {A : Nat → Prop} {H0 : Heap} {cA : Nat → ClassId} {o : Nat → Int64} {ad ln : Nat → Nat} {iv : Nat → Nat → Int32} {n : Nat} {j9 P T : Nat} {v9 : Int32} {ch : Nat → Bool}
    (F : gF p s m meth c cX1_change 4 RX1 wsX1_change args none) (hRf : 0 ≤ R.frames) (hRl : 0 ≤ R.locals) (hRc : cells ≤ R.cells) (hRs : slots ≤ R.slots) (hK : va_K D vwCl (gT cA) s) (hN : NW s) (hA : ∀ q, H0.size ≤ q → A q) (hn : 68 ≤ n) (hln : ∀ k, ln k < 2 ^ 31) (hP0 : iv 25 0 = nI P) (hP : P ≤ 8) (hT0 : iv 25 1 = nI T) (hT3 : T ≤ 3) (h26 : ln 26 = P) (h27 : ln 27 = 4) (hj : j9 < P) (hv9 : v9 = 0 ∨ v9 = 1) (hch : ∀ p, p < P → up2 iv 26 j9 v9 26 p = if ch p then 1 else 0) (hc4 : cnt ch P ≤ 4)
    (hS : gS D cA A H0 o ad ln iv n H locs) (hl : lv_has ls 4 [(0, .ref (ad 25)), (1, .int (nI j9)), (2, .int v9)])
    (kret : ∀ (iv' : Nat → Nat → Int32) (H : Heap) (locs : List Loc) (ls : Array Slot) (pc : Nat), decode cX1_change pc = .ok (.return_, 1) → ((∀ p, iv' 26 p = up2 iv 26 j9 v9 26 p) ∧ iv' 25 5 = nI (cnt ch P) ∧ iv' 25 6 = nI (ff P (cnt ch P)) ∧ iv' 25 7 = nI (T ^ cnt ch P) ∧ (∀ p, p < P → ch p = true → iv' 27 (cnt ch p) = nI p) ∧ (∀ j, j ≠ 5 → j ≠ 6 → j ≠ 7 → iv' 25 j = iv 25 j) ∧ ∀ q, q ≠ 25 → q ≠ 26 → q ≠ 27 → iv' q = iv q) → gS D cA A H0 o ad ln iv' n H locs → W p l e R s m args below meth c H locs cells slots Q (F0 m pc ls [])) :
    W p l e R s m args below meth c H locs cells slots Q (F0 m 0 ls []) := by
  obtain ⟨hx, hb, hml, hown, hts, hr, hlocks⟩ := F
  refine lv_aload_n hx hb dX1_change_0 rfl (lv_at hl 0 rfl) ?_
  refine gx_get (ci := 4) (v := .ref (ad 26)) (C := RX1) (T := TX1) (N := 8) hx hb hts (fun _ h => inX1_change_RX1 h) hown hK hS 25 (by omega) rfl rfl 2 (by decide) (hts (.fieldLink RX1 18 "CosetTables$Numbering" "chosen" "[Z") (by decide +kernel)) rfl dX1_change_1 ?_
  refine lv_iload_n hx hb dX1_change_4 rfl (lv_at hl 1 rfl) ?_
  refine lv_iload_n hx hb dX1_change_5 rfl (lv_at hl 2 rfl) ?_
  refine gx_zastn hx hb hK hS 26 (by omega) (by decide) j9 (by omega) (hln _) (by first | exact Or.inl rfl | exact Or.inr rfl | assumption) dX1_change_6 (fun H locs hS => ?_)
  obtain ⟨iv1, eiv1⟩ : ∃ z, z = up2 iv 26 j9 (v9) := ⟨_, rfl⟩
  rw [← eiv1] at hS
  refine lv_aload_n hx hb dX1_change_7 rfl (lv_at hl 0 rfl) ?_
  refine lv_iconst (v := nI 0) hx hb dX1_change_8 (by decide) ?_
  refine gx_put (ci := 4) (x := nI 0) (ty := .int) (C := RX1) (T := TX1) (N := 8) hx hb hts (fun _ h => inX1_change_RX1 h) tyX1 tyX1_ok nmX1 hown hK hS 25 (by omega) rfl rfl 5 (by decide) (hts (.fieldLink RX1 35 "CosetTables$Numbering" "chosenCount" "I") (by decide +kernel)) rfl (by decide +kernel) rfl rfl (Nat.le_of_ble_eq_true rfl) rfl dX1_change_9 (fun H locs hS => ?_)
  obtain ⟨iv2, eiv2⟩ : ∃ z, z = up2 iv1 25 5 (nI 0) := ⟨_, rfl⟩
  rw [← eiv2] at hS
  refine lv_aload_n hx hb dX1_change_12 rfl (lv_at hl 0 rfl) ?_
  refine lv_iconst (v := nI 1) hx hb dX1_change_13 (by decide) ?_
  refine gx_put (ci := 4) (x := nI 1) (ty := .int) (C := RX1) (T := TX1) (N := 8) hx hb hts (fun _ h => inX1_change_RX1 h) tyX1 tyX1_ok nmX1 hown hK hS 25 (by omega) rfl rfl 6 (by decide) (hts (.fieldLink RX1 29 "CosetTables$Numbering" "arrangements" "I") (by decide +kernel)) rfl (by decide +kernel) rfl rfl (Nat.le_of_ble_eq_true rfl) rfl dX1_change_14 (fun H locs hS => ?_)
  obtain ⟨iv3, eiv3⟩ : ∃ z, z = up2 iv2 25 6 (nI 1) := ⟨_, rfl⟩
  rw [← eiv3] at hS
  refine lv_aload_n hx hb dX1_change_17 rfl (lv_at hl 0 rfl) ?_
  refine lv_iconst (v := nI 1) hx hb dX1_change_18 (by decide) ?_
  refine gx_put (ci := 4) (x := nI 1) (ty := .int) (C := RX1) (T := TX1) (N := 8) hx hb hts (fun _ h => inX1_change_RX1 h) tyX1 tyX1_ok nmX1 hown hK hS 25 (by omega) rfl rfl 7 (by decide) (hts (.fieldLink RX1 32 "CosetTables$Numbering" "twistings" "I") (by decide +kernel)) rfl (by decide +kernel) rfl rfl (Nat.le_of_ble_eq_true rfl) rfl dX1_change_19 (fun H locs hS => ?_)
  obtain ⟨iv4, eiv4⟩ : ∃ z, z = up2 iv3 25 7 (nI 1) := ⟨_, rfl⟩
  rw [← eiv4] at hS
  refine lv_iconst (v := nI 0) hx hb dX1_change_22 (by decide) ?_
  refine lv_istore_n (lv' := [(3, .int (nI 0)), (0, .ref (ad 25)), (1, .int (nI j9)), (2, .int v9)]) hx hb dX1_change_23 rfl hl (by decide) rfl (fun ls hl => ?_)
  have L24 : ∀ (N : Nat) (i : Nat) (iv5 : Nat → Nat → Int32), P - i < N → (i ≤ P) → (∀ p, iv5 26 p = up2 iv 26 j9 v9 26 p) → (iv5 25 5 = nI (cnt ch i)) → (iv5 25 6 = nI (ff P (cnt ch i))) → (iv5 25 7 = nI (T ^ cnt ch i)) → (∀ p, p < i → ch p = true → iv5 27 (cnt ch p) = nI p) → (∀ j, j ≠ 5 → j ≠ 6 → j ≠ 7 → iv5 25 j = iv 25 j) → (∀ q, q ≠ 25 → q ≠ 26 → q ≠ 27 → iv5 q = iv q) → ∀ (H : Heap) (locs : List Loc) (ls : Array Slot), gS D cA A H0 o ad ln iv5 n H locs → lv_has ls 4 [(0, .ref (ad 25)), (1, .int (nI j9)), (2, .int v9), (3, .int (nI i))] → W p l e R s m args below meth c H locs cells slots Q (F0 m 24 ls []) := by
    intro N
    induction N with
    | zero => intro i iv5 hm; exact absurd hm (Nat.not_lt_zero _)
    | succ N ih24 =>
      intro i iv5 hm hi h1 h2 h3 h4 h5 h6 h7 H locs ls hS hl
      have hci := cnt_mono ch hi
      have hcs := cnt_s ch i
      have hiP := cnt_le ch i
      refine lv_iload_n hx hb dX1_change_24 rfl (lv_at hl 3 rfl) ?_
      refine lv_aload_n hx hb dX1_change_25 rfl (lv_at hl 0 rfl) ?_
      refine gx_get (ci := 4) (v := .int (iv5 25 0)) (C := RX1) (T := TX1) (N := 8) hx hb hts (fun _ h => inX1_change_RX1 h) hown hK hS 25 (by omega) rfl rfl 0 (by decide) (hts (.fieldLink RX1 9 "CosetTables$Numbering" "places" "I") (by decide +kernel)) rfl dX1_change_26 ?_
      refine gx_as (y := nI P) (by rw [h6 0 (by decide) (by decide) (by decide)]; exact hP0) ?_
      refine lv_icmp_ge (tgt := 106) hx hb dX1_change_29 (by decide) (fun c_29 => ?_) (fun c_29 => ?_)
      · skip
        rw [nI_leI (by omega) (by omega)] at c_29
        exact kret iv5 _ _ _ _ dX1_change_106 (⟨h1, by rw [show P = i by omega]; exact h2, by rw [show cnt ch P = cnt ch i by rw [show P = i by omega]]; exact h3, by rw [show P = i by omega]; exact h4, fun p hp => h5 p (by omega), h6, h7⟩) hS
      · skip
        rw [nI_leI (by omega) (by omega)] at c_29
        refine lv_aload_n hx hb dX1_change_32 rfl (lv_at hl 0 rfl) ?_
        refine gx_get (ci := 4) (v := .ref (ad 26)) (C := RX1) (T := TX1) (N := 8) hx hb hts (fun _ h => inX1_change_RX1 h) hown hK hS 25 (by omega) rfl rfl 2 (by decide) (hts (.fieldLink RX1 18 "CosetTables$Numbering" "chosen" "[Z") (by decide +kernel)) rfl dX1_change_33 ?_
        refine lv_iload_n hx hb dX1_change_36 rfl (lv_at hl 3 rfl) ?_
        refine gx_zaldn hx hb hK hS 26 (by omega) (by decide) i (by omega) (hln _) dX1_change_37 ?_
        refine gx_as (y := (if ch i then 1 else 0)) (by rw [h1, hch i (by omega)]) ?_
        refine lv_if_eq (tgt := 100) hx hb dX1_change_38 (by decide) (fun c_38 => ?_) (fun c_38 => ?_)
        · skip
          have hf : ch i = false := by
            rcases hb9 : ch i with _ | _
            · rfl
            · rw [hb9] at c_38; exact absurd c_38 (by decide)
          rw [hf] at hcs
          simp at hcs
          have h5s : ∀ p, p < i + 1 → ch p = true → iv5 27 (cnt ch p) = nI p := fun p hp hq => by
            rcases Nat.lt_or_ge p i with q | q
            · exact h5 p q hq
            · rw [show p = i by omega, hf] at hq; exact absurd hq (by decide)
          refine lv_iinc (v := nI (i + 1)) (lv' := [(3, .int (nI (i + 1))), (0, .ref (ad 25)), (1, .int (nI j9)), (2, .int v9)]) hx hb dX1_change_100 hl (k := 3) rfl (nI_1 i) (by decide) rfl (fun ls hl => ?_)
          refine lv_goto (tgt := 24) hx hb dX1_change_103 (by decide) ?_
          exact ih24 (i + 1) iv5 (by omega) (by omega) h1 (by rw [hcs]; exact h2) (by rw [hcs]; exact h3) (by rw [hcs]; exact h4) h5s h6 h7 _ _ _ hS (lv_sub hl [1, 2, 3, 0] rfl)
        · skip
          have hf : ch i = true := by
            rcases hb9 : ch i with _ | _
            · rw [hb9] at c_38; exact absurd rfl c_38
            · rfl
          rw [hf] at hcs
          simp at hcs
          have hc2 := cnt_mono ch (show i + 1 ≤ P by omega)
          have hff := ff_le4 hP (show cnt ch i ≤ 4 by omega)
          have hpw := pw_le4 hT3 (show cnt ch i ≤ 4 by omega)
          refine lv_aload_n hx hb dX1_change_41 rfl (lv_at hl 0 rfl) ?_
          refine gx_get (ci := 4) (v := .int (iv5 25 5)) (C := RX1) (T := TX1) (N := 8) hx hb hts (fun _ h => inX1_change_RX1 h) hown hK hS 25 (by omega) rfl rfl 5 (by decide) (hts (.fieldLink RX1 35 "CosetTables$Numbering" "chosenCount" "I") (by decide +kernel)) rfl dX1_change_42 ?_
          refine gx_as (y := nI (cnt ch i)) h2 ?_
          refine lv_iconst (v := nI 4) hx hb dX1_change_45 (by decide) ?_
          refine lv_icmp_ge (tgt := 100) hx hb dX1_change_46 (by decide) (fun c_46 => ?_) (fun c_46 => ?_)
          · skip
            rw [nI_leI (by omega) (by omega)] at c_46
            omega
          · skip
            rw [nI_leI (by omega) (by omega)] at c_46
            refine lv_aload_n hx hb dX1_change_49 rfl (lv_at hl 0 rfl) ?_
            refine lv_dup hx hb dX1_change_50 rfl ?_
            refine gx_get (ci := 4) (v := .int (iv5 25 6)) (C := RX1) (T := TX1) (N := 8) hx hb hts (fun _ h => inX1_change_RX1 h) hown hK hS 25 (by omega) rfl rfl 6 (by decide) (hts (.fieldLink RX1 29 "CosetTables$Numbering" "arrangements" "I") (by decide +kernel)) rfl dX1_change_51 ?_
            refine gx_as (y := nI (ff P (cnt ch i))) h3 ?_
            refine lv_aload_n hx hb dX1_change_54 rfl (lv_at hl 0 rfl) ?_
            refine gx_get (ci := 4) (v := .int (iv5 25 0)) (C := RX1) (T := TX1) (N := 8) hx hb hts (fun _ h => inX1_change_RX1 h) hown hK hS 25 (by omega) rfl rfl 0 (by decide) (hts (.fieldLink RX1 9 "CosetTables$Numbering" "places" "I") (by decide +kernel)) rfl dX1_change_55 ?_
            refine gx_as (y := nI P) (by rw [h6 0 (by decide) (by decide) (by decide)]; exact hP0) ?_
            refine lv_aload_n hx hb dX1_change_58 rfl (lv_at hl 0 rfl) ?_
            refine gx_get (ci := 4) (v := .int (iv5 25 5)) (C := RX1) (T := TX1) (N := 8) hx hb hts (fun _ h => inX1_change_RX1 h) hown hK hS 25 (by omega) rfl rfl 5 (by decide) (hts (.fieldLink RX1 35 "CosetTables$Numbering" "chosenCount" "I") (by decide +kernel)) rfl dX1_change_59 ?_
            refine gx_as (y := nI (cnt ch i)) h2 ?_
            refine lv_isub hx hb dX1_change_62 ?_
            refine gx_as (y := nI (P - cnt ch i)) (pk_sub (by omega)) ?_
            refine lv_imul hx hb dX1_change_63 ?_
            refine gx_as (y := nI ((ff P (cnt ch i)) * (P - cnt ch i))) (pk_mul _ _) ?_
            refine gx_put (ci := 4) (x := nI ((ff P (cnt ch i)) * (P - cnt ch i))) (ty := .int) (C := RX1) (T := TX1) (N := 8) hx hb hts (fun _ h => inX1_change_RX1 h) tyX1 tyX1_ok nmX1 hown hK hS 25 (by omega) rfl rfl 6 (by decide) (hts (.fieldLink RX1 29 "CosetTables$Numbering" "arrangements" "I") (by decide +kernel)) rfl (by decide +kernel) rfl rfl (Nat.le_of_ble_eq_true rfl) rfl dX1_change_64 (fun H locs hS => ?_)
            obtain ⟨iv6, eiv6⟩ : ∃ z, z = up2 iv5 25 6 (nI ((ff P (cnt ch i)) * (P - cnt ch i))) := ⟨_, rfl⟩
            rw [← eiv6] at hS
            refine lv_aload_n hx hb dX1_change_67 rfl (lv_at hl 0 rfl) ?_
            refine lv_dup hx hb dX1_change_68 rfl ?_
            refine gx_get (ci := 4) (v := .int (iv6 25 7)) (C := RX1) (T := TX1) (N := 8) hx hb hts (fun _ h => inX1_change_RX1 h) hown hK hS 25 (by omega) rfl rfl 7 (by decide) (hts (.fieldLink RX1 32 "CosetTables$Numbering" "twistings" "I") (by decide +kernel)) rfl dX1_change_69 ?_
            refine gx_as (y := nI (T ^ cnt ch i)) (by rw [eiv6, up2_n (by decide)]; exact h4) ?_
            refine lv_aload_n hx hb dX1_change_72 rfl (lv_at hl 0 rfl) ?_
            refine gx_get (ci := 4) (v := .int (iv6 25 1)) (C := RX1) (T := TX1) (N := 8) hx hb hts (fun _ h => inX1_change_RX1 h) hown hK hS 25 (by omega) rfl rfl 1 (by decide) (hts (.fieldLink RX1 15 "CosetTables$Numbering" "twists" "I") (by decide +kernel)) rfl dX1_change_73 ?_
            refine gx_as (y := nI T) (by rw [eiv6, up2_n (by decide), h6 1 (by decide) (by decide) (by decide)]; exact hT0) ?_
            refine lv_imul hx hb dX1_change_76 ?_
            refine gx_as (y := nI ((T ^ cnt ch i) * T)) (pk_mul _ _) ?_
            refine gx_put (ci := 4) (x := nI ((T ^ cnt ch i) * T)) (ty := .int) (C := RX1) (T := TX1) (N := 8) hx hb hts (fun _ h => inX1_change_RX1 h) tyX1 tyX1_ok nmX1 hown hK hS 25 (by omega) rfl rfl 7 (by decide) (hts (.fieldLink RX1 32 "CosetTables$Numbering" "twistings" "I") (by decide +kernel)) rfl (by decide +kernel) rfl rfl (Nat.le_of_ble_eq_true rfl) rfl dX1_change_77 (fun H locs hS => ?_)
            obtain ⟨iv7, eiv7⟩ : ∃ z, z = up2 iv6 25 7 (nI ((T ^ cnt ch i) * T)) := ⟨_, rfl⟩
            rw [← eiv7] at hS
            refine lv_aload_n hx hb dX1_change_80 rfl (lv_at hl 0 rfl) ?_
            refine gx_get (ci := 4) (v := .ref (ad 27)) (C := RX1) (T := TX1) (N := 8) hx hb hts (fun _ h => inX1_change_RX1 h) hown hK hS 25 (by omega) rfl rfl 3 (by decide) (hts (.fieldLink RX1 22 "CosetTables$Numbering" "pieces" "[I") (by decide +kernel)) rfl dX1_change_81 ?_
            refine lv_aload_n hx hb dX1_change_84 rfl (lv_at hl 0 rfl) ?_
            refine gx_get (ci := 4) (v := .int (iv7 25 5)) (C := RX1) (T := TX1) (N := 8) hx hb hts (fun _ h => inX1_change_RX1 h) hown hK hS 25 (by omega) rfl rfl 5 (by decide) (hts (.fieldLink RX1 35 "CosetTables$Numbering" "chosenCount" "I") (by decide +kernel)) rfl dX1_change_85 ?_
            refine gx_as (y := nI (cnt ch i)) (by rw [eiv7, up2_n (by decide), eiv6, up2_n (by decide)]; exact h2) ?_
            refine lv_iload_n hx hb dX1_change_88 rfl (lv_at hl 3 rfl) ?_
            refine gx_iastn hx hb hK hS 27 (by omega) (by decide) (cnt ch i) (by omega) (hln _) dX1_change_89 (fun H locs hS => ?_)
            obtain ⟨iv8, eiv8⟩ : ∃ z, z = up2 iv7 27 (cnt ch i) (nI i) := ⟨_, rfl⟩
            rw [← eiv8] at hS
            refine lv_aload_n hx hb dX1_change_90 rfl (lv_at hl 0 rfl) ?_
            refine lv_dup hx hb dX1_change_91 rfl ?_
            refine gx_get (ci := 4) (v := .int (iv8 25 5)) (C := RX1) (T := TX1) (N := 8) hx hb hts (fun _ h => inX1_change_RX1 h) hown hK hS 25 (by omega) rfl rfl 5 (by decide) (hts (.fieldLink RX1 35 "CosetTables$Numbering" "chosenCount" "I") (by decide +kernel)) rfl dX1_change_92 ?_
            refine gx_as (y := nI (cnt ch i)) (by rw [eiv8, up2_row (by decide), eiv7, up2_n (by decide), eiv6, up2_n (by decide)]; exact h2) ?_
            refine lv_iconst (v := nI 1) hx hb dX1_change_95 (by decide) ?_
            refine lv_iadd hx hb dX1_change_96 ?_
            refine gx_as (y := nI ((cnt ch i) + 1)) (nI_add _ _) ?_
            refine gx_put (ci := 4) (x := nI ((cnt ch i) + 1)) (ty := .int) (C := RX1) (T := TX1) (N := 8) hx hb hts (fun _ h => inX1_change_RX1 h) tyX1 tyX1_ok nmX1 hown hK hS 25 (by omega) rfl rfl 5 (by decide) (hts (.fieldLink RX1 35 "CosetTables$Numbering" "chosenCount" "I") (by decide +kernel)) rfl (by decide +kernel) rfl rfl (Nat.le_of_ble_eq_true rfl) rfl dX1_change_97 (fun H locs hS => ?_)
            obtain ⟨iv9, eiv9⟩ : ∃ z, z = up2 iv8 25 5 (nI ((cnt ch i) + 1)) := ⟨_, rfl⟩
            rw [← eiv9] at hS
            refine lv_iinc (v := nI (i + 1)) (lv' := [(3, .int (nI (i + 1))), (0, .ref (ad 25)), (1, .int (nI j9)), (2, .int v9)]) hx hb dX1_change_100 hl (k := 3) rfl (nI_1 i) (by decide) rfl (fun ls hl => ?_)
            refine lv_goto (tgt := 24) hx hb dX1_change_103 (by decide) ?_
            exact ih24 (i + 1) iv9 (by omega) (by omega) (fun p => by rw [eiv9, up2_row (by decide), eiv8, up2_row (by decide), eiv7, up2_row (by decide), eiv6, up2_row (by decide), h1]) (by rw [eiv9, up2_s, hcs]) (by rw [eiv9, up2_n (by decide), eiv8, up2_row (by decide), eiv7, up2_n (by decide), eiv6, up2_s, hcs]; rfl) (by rw [eiv9, up2_n (by decide), eiv8, up2_row (by decide), eiv7, up2_s, hcs, Nat.pow_succ]) (fun p hp hq => by rw [eiv9, up2_row (by decide), eiv8, up2_eq]; rcases Nat.lt_or_ge p i with q | q <;> first | (rw [if_neg (fun q8 => by have := cnt_mono ch (show p + 1 ≤ i by omega); have h9 := cnt_s ch p; rw [hq] at h9; simp at h9; omega), eiv7, up2_row (by decide), eiv6, up2_row (by decide)]; exact h5 p q hq) | (rw [show p = i by omega, if_pos ⟨rfl, rfl⟩]; done)) (fun j a b c => by rw [eiv9, up2_n (by omega), eiv8, up2_row (by decide), eiv7, up2_n (by omega), eiv6, up2_n (by omega), h6 j a b c]) (fun q a b c => by rw [eiv9, up2_row a, eiv8, up2_row c, eiv7, up2_row a, eiv6, up2_row a, h7 q a b c]) _ _ _ hS (lv_sub hl [1, 2, 3, 0] rfl)
  exact L24 _ 0 iv4 (Nat.lt_succ_self _) (Nat.zero_le _) (fun p => by rw [eiv4, up2_row (by decide), eiv3, up2_row (by decide), eiv2, up2_row (by decide), eiv1]) (by rw [eiv4, up2_n (by decide), eiv3, up2_n (by decide), eiv2, up2_s]; rfl) (by rw [eiv4, up2_n (by decide), eiv3, up2_s]; rfl) (by rw [eiv4, up2_s]; rfl) lt_0 (fun j a b c => by rw [eiv4, up2_n (by omega), eiv3, up2_n (by omega), eiv2, up2_n (by omega), eiv1, up2_row (by decide)]) (fun q a b c => by rw [eiv4, up2_row a, eiv3, up2_row a, eiv2, up2_row a, eiv1, up2_row b]) _ _ _ hS (lv_sub hl [1, 2, 3, 0] rfl)
set_option maxRecDepth 100000 in
theorem ct_X1_change (l : Launch) (D : va_G) (cA : Nat → ClassId) (o : Nat → Int64) (ad ln : Nat → Nat) (n sz : Nat) (iv : Nat → Nat → Int32) (j9 P T : Nat) (v9 : Int32) (ch : Nat → Bool) (hn : 68 ≤ n) (hln : ∀ k, ln k < 2 ^ 31) (hP0 : iv 25 0 = nI P) (hP : P ≤ 8) (hT0 : iv 25 1 = nI T) (hT3 : T ≤ 3) (h26 : ln 26 = P) (h27 : ln 27 = 4) (hj : j9 < P) (hv9 : v9 = 0 ∨ v9 = 1) (hch : ∀ p, p < P → up2 iv 26 j9 v9 26 p = if ch p then 1 else 0) (hc4 : cnt ch P ≤ 4) : gMv l yX1_change wsX1_change { frames := 0, cells := 0, slots := 0, locals := 0 } D cA o ad ln n sz iv [.ref (ad 25), .int (nI j9), .int v9] (fun iv' => (∀ p, iv' 26 p = up2 iv 26 j9 v9 26 p) ∧ iv' 25 5 = nI (cnt ch P) ∧ iv' 25 6 = nI (ff P (cnt ch P)) ∧ iv' 25 7 = nI (T ^ cnt ch P) ∧ (∀ p, p < P → ch p = true → iv' 27 (cnt ch p) = nI p) ∧ (∀ j, j ≠ 5 → j ≠ 6 → j ≠ 7 → iv' 25 j = iv 25 j) ∧ ∀ q, q ≠ 25 → q ≠ 26 → q ≠ 27 → iv' q = iv q) := by
  refine Met.ofW (cc := cX1_change) (maxL := 4) (ret := none) (by decide) rfl ?_
  intro p e s m args below meth c s₁ B hml hv__
  obtain ⟨rfl, hv__⟩ := hv__
  obtain ⟨hsz, hS, hK, hN, hA⟩ := gS.entry hv__
  have hl := lv_entry ([.ref (ad 25), .int (nI j9), .int v9]) (n := 4) (Nat.le_of_ble_eq_true rfl)
  rw [lg_entry_eq]
  generalize (lg_sl ([.ref (ad 25), .int (nI j9), .int v9]) ++ List.replicate (4 - (lg_sl ([.ref (ad 25), .int (nI j9), .int v9])).length) Slot.unset).toArray = ls at hl ⊢
  exact bd_X1_change (j9 := j9) (P := P) (T := T) (v9 := v9) (ch := ch) ⟨B.exec, B.bytes, hml, findClass_of_methodNamed B.named, atoms_spec (ws := wsX1_change) B.pre, B.returns, B.notSynchronized⟩ (Nat.le_refl _) (Nat.le_refl _) (Nat.le_refl _) (Nat.le_refl _) hK hN hA hn hln hP0 hP hT0 hT3 h26 h27 hj hv9 hch hc4 hS hl (fun iv' H locs ls pc hd hp hS => gx_vret B.exec B.bytes B.returns B.notSynchronized hS hp hd)
