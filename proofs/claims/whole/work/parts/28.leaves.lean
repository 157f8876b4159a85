theorem inX5_spread_RX5 : ∀ {w : Cond}, w ∈ u_ws RX5 TX5 6 → w ∈ wsX5_spread := fun {w} h => by first | exact List.mem_cons_of_mem _ (List.mem_append_right _ h) | (revert h; revert w; show ∀ w ∈ u_ws RX5 TX5 6, w ∈ wsX5_spread; decide +kernel)
set_option maxHeartbeats 4000000 in
set_option maxRecDepth 100000 in
theorem bd_X5_spread {p : Program} {l : Launch} {e : Env} {R : Room} {s : State} {m : MethodId} {args : Array Value} {below : List Frame} {meth : Method} {c : Code} {H : Heap} {locs : List Loc} {cells slots : Nat} {Q : State → Prop} {ls : Array Slot} {D : va_G} {A : Nat → Prop} {H0 : Heap} {cA : Nat → ClassId} {o : Nat → Int64} {ad ln : Nat → Nat} {iv : Nat → Nat → Int32} {n : Nat} {fr m9 rp a t mc9 : Nat} {bk : Nat → Nat → Nat} {bs : BS}
    (F : gF p s m meth c cX5_spread 7 RX5 wsX5_spread args none) (hRf : 1 ≤ R.frames) (hRl : 25 ≤ R.locals) (hRc : cells ≤ R.cells) (hRs : slots ≤ R.slots) (hK : va_K D vwCl (gT cA) s) (hN : NW s) (hA : ∀ q, H0.size ≤ q → A q) (hn : 68 ≤ n) (hln : ∀ k, ln k < 2 ^ 31) (ha : iv 42 1 = nI a) (ht : iv 42 2 = nI t) (h0 : 0 < t) (hat : a * t ≤ 136080) (ha9 : a ≤ 1680) (ht9 : t ≤ 81) (hl1 : 6 * a ≤ ln 43) (hl2 : 6 * a ≤ ln 44) (hl3 : t * t ≤ ln 45) (hso : stepsOk iv a t mc9 bk) (hmc : mc9 ≤ 6) (hm9 : m9 < mc9) (hfr : fr < a * t) (hf0 : bs.1 fr ≠ 0) (hrp : rp < 2 ^ 20) (hl47 : a * t ≤ ln 47) (hl48 : a * t ≤ ln 48) (hok : bOk (a * t) bs) (htb : tabAt iv (a * t) bs)
    (hS : gS D cA A H0 o ad ln iv n H locs) (hl : lv_has ls 7 [(0, .ref (ad 46)), (1, .int (nI fr)), (2, .int (nI m9)), (3, .ref (ad 42)), (4, .int (nI rp))])
    (kret : ∀ (iv' : Nat → Nat → Int32) (H : Heap) (locs : List Loc) (ls : Array Slot) (pc : Nat), decode cX5_spread pc = .ok (.return_, 1) → (bOk (a * t) (spr (bk m9) fr rp fr bs) ∧ tabAt iv' (a * t) (spr (bk m9) fr rp fr bs) ∧ (∀ j, j ≠ 3 → iv' 46 j = iv 46 j) ∧ ∀ q, q ≠ 46 → q ≠ 47 → q ≠ 48 → iv' q = iv q) → gS D cA A H0 o ad ln iv' n H locs → W p l e R s m args below meth c H locs cells slots Q (F0 m pc ls [])) :
    W p l e R s m args below meth c H locs cells slots Q (F0 m 0 ls []) := by
  obtain ⟨hx, hb, hml, hown, hts, hr, hlocks⟩ := F
  refine lv_iload_n hx hb dX5_spread_0 rfl (lv_at hl 1 rfl) ?_
  refine lv_istore (lv' := [(5, .int (nI fr)), (0, .ref (ad 46)), (1, .int (nI fr)), (2, .int (nI m9)), (3, .ref (ad 42)), (4, .int (nI rp))]) hx hb dX5_spread_1 hl (by decide) rfl (fun ls hl => ?_)
  refine lv_iconst (v := nI 0) hx hb dX5_spread_3 (by decide) ?_
  refine lv_istore (lv' := [(6, .int (nI 0)), (5, .int (nI fr)), (0, .ref (ad 46)), (1, .int (nI fr)), (2, .int (nI m9)), (3, .ref (ad 42)), (4, .int (nI rp))]) hx hb dX5_spread_4 hl (by decide) rfl (fun ls hl => ?_)
  have L6 : ∀ (N : Nat) (i x : Nat) (s9 : BS) (iv1 : Nat → Nat → Int32), rp - i < N → (i ≤ rp) → (x < a * t) → (spr (bk m9) fr (rp - i) x s9 = spr (bk m9) fr rp fr bs) → (bOk (a * t) s9) → (tabAt iv1 (a * t) s9) → (s9.1 fr = bs.1 fr) → (∀ j, j ≠ 3 → iv1 46 j = iv 46 j) → (∀ q, q ≠ 46 → q ≠ 47 → q ≠ 48 → iv1 q = iv q) → ∀ (H : Heap) (locs : List Loc) (ls : Array Slot), gS D cA A H0 o ad ln iv1 n H locs → lv_has ls 7 [(0, .ref (ad 46)), (1, .int (nI fr)), (2, .int (nI m9)), (3, .ref (ad 42)), (4, .int (nI rp)), (5, .int (nI x)), (6, .int (nI i))] → W p l e R s m args below meth c H locs cells slots Q (F0 m 6 ls []) := by
    intro N
    induction N with
    | zero => intro i x s9 iv1 hm; exact absurd hm (Nat.not_lt_zero _)
    | succ N ih6 =>
      intro i x s9 iv1 hm hi hx9 h1 h2 h3 h4 h5 h6 H locs ls hS hl
      refine lv_iload hx hb dX5_spread_6 (lv_at hl 6 rfl) ?_
      refine lv_iload hx hb dX5_spread_8 (lv_at hl 4 rfl) ?_
      refine lv_icmp_ge (tgt := 95) hx hb dX5_spread_10 (by decide) (fun c_10 => ?_) (fun c_10 => ?_)
      · skip
        rw [nI_leI (by omega) (by omega)] at c_10
        have e0 : rp - i = 0 := by omega
        rw [e0] at h1
        exact kret iv1 _ _ _ _ dX5_spread_95 (by rw [← h1]; exact ⟨h2, h3, h5, h6⟩) hS
      · skip
        rw [nI_leI (by omega) (by omega)] at c_10
        have e0 : rp - i = (rp - (i + 1)) + 1 := by omega
        rw [e0] at h1
        obtain ⟨u, v, w, s1, s2, s3, s4, s5, s6⟩ := hso m9 hm9 x hx9
        refine lv_aload_n hx hb dX5_spread_13 rfl (lv_at hl 3 rfl) ?_
        refine lv_iload hx hb dX5_spread_14 (lv_at hl 5 rfl) ?_
        refine lv_iload_n hx hb dX5_spread_16 rfl (lv_at hl 2 rfl) ?_
        refine gc_i (gx_runV (As := [.int (nI x), .int (nI m9)]) (rest := []) ⟨hx, hb, hml, hown, hts⟩ hK hN hS 42 (by omega) rfl rfl (ct_X4_after l D cA o ad ln n H.size iv1 (x := x) (m9 := m9) (a := a) (t := t) (u := u) (v := v) (w := w) hn hln (by rw [h6 42 (by decide) (by decide) (by decide)]; exact ha) (by rw [h6 42 (by decide) (by decide) (by decide)]; exact ht) h0 hx9 (by omega) hat ha9 ht9 hl1 hl2 hl3 (by rw [h6 43 (by decide) (by decide) (by decide)]; exact s1) (by rw [h6 44 (by decide) (by decide) (by decide)]; exact s2) s3 (by rw [h6 45 (by decide) (by decide) (by decide)]; exact s4)) (cwV 2 hts gX5_spread_X4_after rfl rfl rfl (by decide +kernel) ⟨gle hRf rfl, gle hRl rfl⟩) rfl rfl hl.1 rfl (lv_room (Nat.le_of_ble_eq_true rfl)) dX5_spread_17 ⟨hRc, hRs⟩) hS hA (fun z iv2 H locs hp2 hS => ?_)
        obtain ⟨ez, ev2⟩ := hp2
        rw [s5] at ez
        rw [ev2] at hS
        obtain ⟨y, hy⟩ : ∃ y, y = bk m9 x := ⟨_, rfl⟩
        rw [← hy] at ez s6
        have hdy := h2.2.1 y s6
        have hdf := h2.2.1 fr hfr
        have hCS := bOk_C h2
        refine gx_as (y := nI y) ez ?_
        skip
        refine lv_istore (lv' := [(5, .int (nI y)), (0, .ref (ad 46)), (1, .int (nI fr)), (2, .int (nI m9)), (3, .ref (ad 42)), (4, .int (nI rp)), (6, .int (nI i))]) hx hb dX5_spread_20 hl (by decide) rfl (fun ls hl => ?_)
        refine lv_aload_n hx hb dX5_spread_22 rfl (lv_at hl 1 rfl) ?_
        refine gx_get (ci := 8) (v := .ref (ad 47)) (C := RX5) (T := TX5) (N := 6) hx hb hts (fun _ h => inX5_spread_RX5 h) hown hK hS 46 (by omega) rfl rfl 4 (by decide) (hts (.fieldLink RX5 9 "CosetTables$Table" "values" "[I") (by decide +kernel)) rfl dX5_spread_23 ?_
        refine lv_iload hx hb dX5_spread_26 (lv_at hl 0 rfl) ?_
        refine gx_ialdn hx hb hK hS 47 (by omega) (by decide) y (by omega) (hln _) dX5_spread_28 ?_
        refine gx_as (y := nI (s9.1 y) - 1) (h3.1 y s6) ?_
        refine lv_iconst (v := (-1)) hx hb dX5_spread_29 (by decide) ?_
        refine lv_icmp_ne (tgt := 72) hx hb dX5_spread_30 (by decide) (fun c_30 => ?_) (fun c_30 => ?_)
        · skip
          have hne : s9.1 y ≠ 0 := fun q9 => c_30 ((vm1_iff (by omega)).mpr q9)
          refine lv_aload_n hx hb dX5_spread_72 rfl (lv_at hl 1 rfl) ?_
          refine gx_get (ci := 8) (v := .ref (ad 47)) (C := RX5) (T := TX5) (N := 6) hx hb hts (fun _ h => inX5_spread_RX5 h) hown hK hS 46 (by omega) rfl rfl 4 (by decide) (hts (.fieldLink RX5 9 "CosetTables$Table" "values" "[I") (by decide +kernel)) rfl dX5_spread_73 ?_
          refine lv_iload hx hb dX5_spread_76 (lv_at hl 0 rfl) ?_
          refine gx_ialdn hx hb hK hS 47 (by omega) (by decide) y (by omega) (hln _) dX5_spread_78 ?_
          refine gx_as (y := nI (s9.1 y) - 1) (h3.1 y s6) ?_
          refine lv_aload_n hx hb dX5_spread_79 rfl (lv_at hl 1 rfl) ?_
          refine gx_get (ci := 8) (v := .ref (ad 47)) (C := RX5) (T := TX5) (N := 6) hx hb hts (fun _ h => inX5_spread_RX5 h) hown hK hS 46 (by omega) rfl rfl 4 (by decide) (hts (.fieldLink RX5 9 "CosetTables$Table" "values" "[I") (by decide +kernel)) rfl dX5_spread_80 ?_
          refine lv_iload_n hx hb dX5_spread_83 rfl (lv_at hl 2 rfl) ?_
          refine gx_ialdn hx hb hK hS 47 (by omega) (by decide) fr (by omega) (hln _) dX5_spread_84 ?_
          refine gx_as (y := nI (s9.1 fr) - 1) (h3.1 fr hfr) ?_
          refine lv_icmp_gt (tgt := 89) hx hb dX5_spread_85 (by decide) (fun c_85 => ?_) (fun c_85 => ?_)
          · skip
            have hgt := (vm1_lt (by omega) (by omega)).mp c_85
            refine lv_iinc (v := nI (i + 1)) (lv' := [(6, .int (nI (i + 1))), (5, .int (nI y)), (0, .ref (ad 46)), (1, .int (nI fr)), (2, .int (nI m9)), (3, .ref (ad 42)), (4, .int (nI rp))]) hx hb dX5_spread_89 hl (k := 6) rfl (nI_1 i) (by decide) rfl (fun ls hl => ?_)
            refine lv_goto (tgt := 6) hx hb dX5_spread_92 (by decide) ?_
            exact ih6 (i + 1) y s9 iv1 (by omega) (by omega) s6 (by rw [← h1]; conv => rhs; unfold spr; rw [← hy, if_neg hne, if_neg (by omega)]) h2 h3 h4 h5 h6 _ _ _ hS (lv_sub hl [2, 3, 4, 5, 6, 1, 0] rfl)
          · skip
            have hle : s9.1 y ≤ s9.1 fr := Nat.not_lt.mp (fun q9 => c_85 ((vm1_lt (by omega) (by omega)).mpr q9))
            exact kret iv1 _ _ _ _ dX5_spread_88 (by rw [← h1]; unfold spr; rw [← hy, if_neg hne, if_pos hle]; exact ⟨h2, h3, h5, h6⟩) hS
        · skip
          have hz : s9.1 y = 0 := (vm1_iff (by omega)).mp c_30
          obtain ⟨hlt, hok2⟩ := bOk_add h2 hfr s6 hz
          have hyf : fr ≠ y := fun q9 => hf0 (by rw [← h4, q9]; exact hz)
          refine lv_aload_n hx hb dX5_spread_33 rfl (lv_at hl 1 rfl) ?_
          refine gx_get (ci := 8) (v := .ref (ad 47)) (C := RX5) (T := TX5) (N := 6) hx hb hts (fun _ h => inX5_spread_RX5 h) hown hK hS 46 (by omega) rfl rfl 4 (by decide) (hts (.fieldLink RX5 9 "CosetTables$Table" "values" "[I") (by decide +kernel)) rfl dX5_spread_34 ?_
          refine lv_iload hx hb dX5_spread_37 (lv_at hl 0 rfl) ?_
          refine lv_aload_n hx hb dX5_spread_39 rfl (lv_at hl 1 rfl) ?_
          refine gx_get (ci := 8) (v := .ref (ad 47)) (C := RX5) (T := TX5) (N := 6) hx hb hts (fun _ h => inX5_spread_RX5 h) hown hK hS 46 (by omega) rfl rfl 4 (by decide) (hts (.fieldLink RX5 9 "CosetTables$Table" "values" "[I") (by decide +kernel)) rfl dX5_spread_40 ?_
          refine lv_iload_n hx hb dX5_spread_43 rfl (lv_at hl 2 rfl) ?_
          refine gx_ialdn hx hb hK hS 47 (by omega) (by decide) fr (by omega) (hln _) dX5_spread_44 ?_
          refine gx_as (y := nI (s9.1 fr) - 1) (h3.1 fr hfr) ?_
          refine lv_iconst (v := nI 1) hx hb dX5_spread_45 (by decide) ?_
          refine lv_iadd hx hb dX5_spread_46 ?_
          refine gx_as (y := nI (s9.1 fr + 1) - 1) (vm1_add _) ?_
          refine gx_iastn hx hb hK hS 47 (by omega) (by decide) y (by omega) (hln _) dX5_spread_47 (fun H locs hS => ?_)
          obtain ⟨iv3, eiv3⟩ : ∃ z, z = up2 iv1 47 y (nI (s9.1 fr + 1) - 1) := ⟨_, rfl⟩
          rw [← eiv3] at hS
          refine lv_aload_n hx hb dX5_spread_48 rfl (lv_at hl 1 rfl) ?_
          refine gx_get (ci := 8) (v := .ref (ad 48)) (C := RX5) (T := TX5) (N := 6) hx hb hts (fun _ h => inX5_spread_RX5 h) hown hK hS 46 (by omega) rfl rfl 5 (by decide) (hts (.fieldLink RX5 15 "CosetTables$Table" "queue" "[I") (by decide +kernel)) rfl dX5_spread_49 ?_
          refine lv_aload_n hx hb dX5_spread_52 rfl (lv_at hl 1 rfl) ?_
          refine gx_get (ci := 8) (v := .int (iv3 46 3)) (C := RX5) (T := TX5) (N := 6) hx hb hts (fun _ h => inX5_spread_RX5 h) hown hK hS 46 (by omega) rfl rfl 3 (by decide) (hts (.fieldLink RX5 45 "CosetTables$Table" "reached" "I") (by decide +kernel)) rfl dX5_spread_53 ?_
          refine gx_as (y := nI s9.2.2) (by rw [eiv3, up2_row (by decide)]; exact h3.2.2) ?_
          refine lv_iload hx hb dX5_spread_56 (lv_at hl 0 rfl) ?_
          refine gx_iastn hx hb hK hS 48 (by omega) (by decide) s9.2.2 (by omega) (hln _) dX5_spread_58 (fun H locs hS => ?_)
          obtain ⟨iv4, eiv4⟩ : ∃ z, z = up2 iv3 48 s9.2.2 (nI y) := ⟨_, rfl⟩
          rw [← eiv4] at hS
          refine lv_aload_n hx hb dX5_spread_59 rfl (lv_at hl 1 rfl) ?_
          refine lv_dup hx hb dX5_spread_60 rfl ?_
          refine gx_get (ci := 8) (v := .int (iv4 46 3)) (C := RX5) (T := TX5) (N := 6) hx hb hts (fun _ h => inX5_spread_RX5 h) hown hK hS 46 (by omega) rfl rfl 3 (by decide) (hts (.fieldLink RX5 45 "CosetTables$Table" "reached" "I") (by decide +kernel)) rfl dX5_spread_61 ?_
          refine gx_as (y := nI s9.2.2) (by rw [eiv4, up2_row (by decide), eiv3, up2_row (by decide)]; exact h3.2.2) ?_
          refine lv_iconst (v := nI 1) hx hb dX5_spread_64 (by decide) ?_
          refine lv_iadd hx hb dX5_spread_65 ?_
          refine gx_as (y := nI (s9.2.2 + 1)) (nI_add _ _) ?_
          refine gx_put (ci := 8) (x := nI (s9.2.2 + 1)) (ty := .int) (C := RX5) (T := TX5) (N := 6) hx hb hts (fun _ h => inX5_spread_RX5 h) tyX5 tyX5_ok nmX5 hown hK hS 46 (by omega) rfl rfl 3 (by decide) (hts (.fieldLink RX5 45 "CosetTables$Table" "reached" "I") (by decide +kernel)) rfl (by decide +kernel) rfl rfl (Nat.le_of_ble_eq_true rfl) rfl dX5_spread_66 (fun H locs hS => ?_)
          obtain ⟨iv5, eiv5⟩ : ∃ z, z = up2 iv4 46 3 (nI (s9.2.2 + 1)) := ⟨_, rfl⟩
          rw [← eiv5] at hS
          refine lv_goto (tgt := 89) hx hb dX5_spread_69 (by decide) ?_
          refine lv_iinc (v := nI (i + 1)) (lv' := [(6, .int (nI (i + 1))), (5, .int (nI y)), (0, .ref (ad 46)), (1, .int (nI fr)), (2, .int (nI m9)), (3, .ref (ad 42)), (4, .int (nI rp))]) hx hb dX5_spread_89 hl (k := 6) rfl (nI_1 i) (by decide) rfl (fun ls hl => ?_)
          refine lv_goto (tgt := 6) hx hb dX5_spread_92 (by decide) ?_
          exact ih6 (i + 1) y (va_up s9.1 y (s9.1 fr + 1), va_up s9.2.1 s9.2.2 y, s9.2.2 + 1) iv5 (by omega) (by omega) s6 (by rw [← h1]; conv => rhs; unfold spr; rw [← hy, if_pos hz]) hok2 ⟨fun x9 hx8 => by rw [eiv5, up2_row (by decide), eiv4, up2_row (by decide), eiv3, up2_eq]; show _ = nI (va_up s9.1 y (s9.1 fr + 1) x9) - 1; unfold va_up; by_cases e9 : x9 = y <;> simp only [e9, and_self, if_true, if_false, and_false, true_and] <;> exact h3.1 x9 hx8, fun i9 hi9 => by rw [eiv5, up2_row (by decide), eiv4, up2_eq, eiv3, up2_row (by decide)]; show _ = nI (va_up s9.2.1 s9.2.2 y i9); unfold va_up; by_cases e9 : i9 = s9.2.2 <;> simp only [e9, and_self, if_true, if_false, and_false, true_and] <;> exact h3.2.1 i9 (by have hi9 : i9 < s9.2.2 + 1 := hi9; omega), by rw [eiv5, up2_s]⟩ (by show va_up s9.1 y _ fr = _; rw [va_up_ne _ _ hyf]; exact h4) (fun j hj => by rw [eiv5, up2_n (by omega), eiv4, up2_row (by decide), eiv3, up2_row (by decide), h5 j hj]) (fun q q1 q2 q3 => by rw [eiv5, up2_row q1, eiv4, up2_row q3, eiv3, up2_row q2, h6 q q1 q2 q3]) _ _ _ hS (lv_sub hl [2, 3, 4, 5, 6, 1, 0] rfl)
  exact L6 _ 0 fr bs iv (Nat.lt_succ_self _) (Nat.zero_le _) hfr rfl hok htb rfl (fun _ _ => rfl) (fun _ _ _ _ => rfl) _ _ _ hS (lv_sub hl [2, 3, 4, 5, 6, 1, 0] rfl)
set_option maxRecDepth 100000 in
theorem ct_X5_spread (l : Launch) (D : va_G) (cA : Nat → ClassId) (o : Nat → Int64) (ad ln : Nat → Nat) (n sz : Nat) (iv : Nat → Nat → Int32) (fr m9 rp a t mc9 : Nat) (bk : Nat → Nat → Nat) (bs : BS) (hn : 68 ≤ n) (hln : ∀ k, ln k < 2 ^ 31) (ha : iv 42 1 = nI a) (ht : iv 42 2 = nI t) (h0 : 0 < t) (hat : a * t ≤ 136080) (ha9 : a ≤ 1680) (ht9 : t ≤ 81) (hl1 : 6 * a ≤ ln 43) (hl2 : 6 * a ≤ ln 44) (hl3 : t * t ≤ ln 45) (hso : stepsOk iv a t mc9 bk) (hmc : mc9 ≤ 6) (hm9 : m9 < mc9) (hfr : fr < a * t) (hf0 : bs.1 fr ≠ 0) (hrp : rp < 2 ^ 20) (hl47 : a * t ≤ ln 47) (hl48 : a * t ≤ ln 48) (hok : bOk (a * t) bs) (htb : tabAt iv (a * t) bs) : gMv l yX5_spread wsX5_spread { frames := 1, cells := 0, slots := 0, locals := 25 } D cA o ad ln n sz iv [.ref (ad 46), .int (nI fr), .int (nI m9), .ref (ad 42), .int (nI rp)] (fun iv' => bOk (a * t) (spr (bk m9) fr rp fr bs) ∧ tabAt iv' (a * t) (spr (bk m9) fr rp fr bs) ∧ (∀ j, j ≠ 3 → iv' 46 j = iv 46 j) ∧ ∀ q, q ≠ 46 → q ≠ 47 → q ≠ 48 → iv' q = iv q) := by
  refine Met.ofW (cc := cX5_spread) (maxL := 7) (ret := none) (by decide) rfl ?_
  intro p e s m args below meth c s₁ B hml hv__
  obtain ⟨rfl, hv__⟩ := hv__
  obtain ⟨hsz, hS, hK, hN, hA⟩ := gS.entry hv__
  have hl := lv_entry ([.ref (ad 46), .int (nI fr), .int (nI m9), .ref (ad 42), .int (nI rp)]) (n := 7) (Nat.le_of_ble_eq_true rfl)
  rw [lg_entry_eq]
  generalize (lg_sl ([.ref (ad 46), .int (nI fr), .int (nI m9), .ref (ad 42), .int (nI rp)]) ++ List.replicate (7 - (lg_sl ([.ref (ad 46), .int (nI fr), .int (nI m9), .ref (ad 42), .int (nI rp)])).length) Slot.unset).toArray = ls at hl ⊢
  exact bd_X5_spread (fr := fr) (m9 := m9) (rp := rp) (a := a) (t := t) (mc9 := mc9) (bk := bk) (bs := bs) ⟨B.exec, B.bytes, hml, findClass_of_methodNamed B.named, atoms_spec (ws := wsX5_spread) B.pre, B.returns, B.notSynchronized⟩ (Nat.le_refl _) (Nat.le_refl _) (Nat.le_refl _) (Nat.le_refl _) hK hN hA hn hln ha ht h0 hat ha9 ht9 hl1 hl2 hl3 hso hmc hm9 hfr hf0 hrp hl47 hl48 hok htb hS hl (fun iv' H locs ls pc hd hp hS => gx_vret B.exec B.bytes B.returns B.notSynchronized hS hp hd)
