theorem inX4_learn_RX4 : ∀ {w : Cond}, w ∈ u_ws RX4 TX4 6 → w ∈ wsX4_learn := fun {w} h => by first | exact List.mem_cons_of_mem _ (List.mem_append_right _ h) | (revert h; revert w; show ∀ w ∈ u_ws RX4 TX4 6, w ∈ wsX4_learn; decide +kernel)
set_option maxHeartbeats 4000000 in
set_option maxRecDepth 100000 in
theorem bd_X4_learn {p : Program} {l : Launch} {e : Env} {R : Room} {s : State} {m : MethodId} {args : Array Value} {below : List Frame} {meth : Method} {c : Code} {H : Heap} {locs : List Loc} {cells slots : Nat} {Q : State → Prop} {ls : Array Slot} {D : va_G} {A : Nat → Prop} {H0 : Heap} {cA : Nat → ClassId} {o : Nat → Int64} {ad ln : Nat → Nat} {iv : Nat → Nat → Int32} {n : Nat} {m9 v b P c9 T a t : Nat} {pc9 G9 Ad : Nat → Nat}
    (F : gF p s m meth c cX4_learn 7 RX4 wsX4_learn args none) (hRf : 3 ≤ R.frames) (hRl : 72 ≤ R.locals) (hRc : cells ≤ R.cells) (hRs : slots ≤ R.slots) (hK : va_K D vwCl (gT cA) s) (hN : NW s) (hA : ∀ q, H0.size ≤ q → A q) (hn : 68 ≤ n) (hln : ∀ k, ln k < 2 ^ 31) (hc9 : iv 25 5 = nI c9) (hc4 : c9 ≤ 4) (hT0 : iv 25 1 = nI T) (hT1 : 0 < T) (hT3 : T ≤ 3) (hSb : isS b = true) (hP2 : ln (b + 2) = P) (hP1 : ln (b + 1) = P) (hP : P ≤ 8) (h27 : ln 27 = 4) (hpc : ∀ i, i < c9 → iv 27 i = nI (pc9 i)) (hpi : inj pc9 P c9) (hP0 : iv 25 0 = nI P) (h28 : ln 28 = 4) (htw : iv 25 7 = nI (T ^ c9)) (ha : iv 42 1 = nI a) (ht : iv 42 2 = nI t) (hae : a = ff P c9) (hte : t = T ^ c9) (hm9 : m9 < 6) (hl1 : 6 * a ≤ ln 43) (hl2 : 6 * a ≤ ln 44) (hMv : isM v = true) (hP3 : ln (v + 1) = P) (hP4 : ln (v + 2) = P) (hmv : moveAt iv v P T G9 Ad) (hGi : inj G9 P P) (hwk : ∀ p, p < P → vp_in (iv (b + 1) p) P)
    (hS : gS D cA A H0 o ad ln iv n H locs) (hl : lv_has ls 7 [(0, .ref (ad 42)), (1, .int (nI m9)), (2, .ref (ad v)), (3, .ref (ad 25)), (4, .ref (ad b))])
    (kret : ∀ (iv' : Nat → Nat → Int32) (H : Heap) (locs : List Loc) (ls : Array Slot) (pc : Nat), decode cX4_learn pc = .ok (.return_, 1) → ((∀ k, k < a → ∃ w, inj w P c9 ∧ (∀ i, i < c9 → rkw w i = rky P c9 k i) ∧ iv' 43 (m9 * a + k) = nI (num P T c9 (fun i => G9 (w i)) (fun i => Ad (w i)) / t) ∧ iv' 44 (m9 * a + k) = nI (num P T c9 (fun i => G9 (w i)) (fun i => Ad (w i)) % t)) ∧ (∀ p, p < P → vp_in (iv' (b + 1) p) P) ∧ (∀ j, j < m9 * a ∨ m9 * a + a ≤ j → iv' 43 j = iv 43 j ∧ iv' 44 j = iv 44 j) ∧ ∀ q, q ≠ 28 → q ≠ b + 1 → q ≠ b + 2 → q ≠ 43 → q ≠ 44 → iv' q = iv q) → gS D cA A H0 o ad ln iv' n H locs → W p l e R s m args below meth c H locs cells slots Q (F0 m pc ls [])) :
    W p l e R s m args below meth c H locs cells slots Q (F0 m 0 ls []) := by
  obtain ⟨hx, hb, hml, hown, hts, hr, hlocks⟩ := F
  have hb0 := isS_in hSb
  have hv0 := isM_in hMv
  have hpw := pw_le4 hT3 hc4
  have hpp : 0 < T ^ c9 := Nat.pow_pos hT1
  have hff := ff_le4 hP hc4
  have hma : m9 * a + a ≤ 6 * a := by
    have := Nat.mul_le_mul_right a (show m9 + 1 ≤ 6 by omega)
    rw [Nat.succ_mul] at this
    exact this
  have hat9 : a * t ≤ 4096 * 81 := Nat.mul_le_mul (by omega) (by omega)
  refine lv_iconst (v := nI 0) hx hb dX4_learn_0 (by decide) ?_
  refine lv_istore (lv' := [(5, .int (nI 0)), (0, .ref (ad 42)), (1, .int (nI m9)), (2, .ref (ad v)), (3, .ref (ad 25)), (4, .ref (ad b))]) hx hb dX4_learn_1 hl (by decide) rfl (fun ls hl => ?_)
  have L3 : ∀ (N : Nat) (i : Nat) (iv1 : Nat → Nat → Int32), a - i < N → (i ≤ a) → (∀ k, k < i → ∃ w, inj w P c9 ∧ (∀ i, i < c9 → rkw w i = rky P c9 k i) ∧ iv1 43 (m9 * a + k) = nI (num P T c9 (fun i => G9 (w i)) (fun i => Ad (w i)) / t) ∧ iv1 44 (m9 * a + k) = nI (num P T c9 (fun i => G9 (w i)) (fun i => Ad (w i)) % t)) → (∀ p, p < P → vp_in (iv1 (b + 1) p) P) → (∀ j, j < m9 * a ∨ m9 * a + a ≤ j → iv1 43 j = iv 43 j ∧ iv1 44 j = iv 44 j) → (∀ q, q ≠ 28 → q ≠ b + 1 → q ≠ b + 2 → q ≠ 43 → q ≠ 44 → iv1 q = iv q) → ∀ (H : Heap) (locs : List Loc) (ls : Array Slot), gS D cA A H0 o ad ln iv1 n H locs → lv_has ls 7 [(0, .ref (ad 42)), (1, .int (nI m9)), (2, .ref (ad v)), (3, .ref (ad 25)), (4, .ref (ad b)), (5, .int (nI i))] → W p l e R s m args below meth c H locs cells slots Q (F0 m 3 ls []) := by
    intro N
    induction N with
    | zero => intro i iv1 hm; exact absurd hm (Nat.not_lt_zero _)
    | succ N ih3 =>
      intro i iv1 hm hi h1 h2 h3 h4 H locs ls hS hl
      refine lv_iload hx hb dX4_learn_3 (lv_at hl 5 rfl) ?_
      refine lv_aload_n hx hb dX4_learn_5 rfl (lv_at hl 0 rfl) ?_
      refine gx_get (ci := 7) (v := .int (iv1 42 1)) (C := RX4) (T := TX4) (N := 6) hx hb hts (fun _ h => inX4_learn_RX4 h) hown hK hS 42 (by omega) rfl rfl 1 (by decide) (hts (.fieldLink RX4 9 "CosetTables$Steps" "arrangements" "I") (by decide +kernel)) rfl dX4_learn_6 ?_
      refine gx_as (y := nI a) (by rw [h4 42 (by omega) (by omega) (by omega) (by omega) (by omega)]; exact ha) ?_
      refine lv_icmp_ge (tgt := 87) hx hb dX4_learn_9 (by decide) (fun c_9 => ?_) (fun c_9 => ?_)
      · skip
        rw [nI_leI (by omega) (by omega)] at c_9
        exact kret iv1 _ _ _ _ dX4_learn_87 (⟨fun k hk => h1 k (by omega), h2, h3, h4⟩) hS
      · skip
        rw [nI_leI (by omega) (by omega)] at c_9
        have hit : i * t + t ≤ a * t := by
          have := Nat.mul_le_mul_right t (show i + 1 ≤ a by omega)
          rw [Nat.succ_mul] at this
          exact this
        have o25 := h4 25 (by omega) (by omega) (by omega) (by omega) (by omega)
        have o27 := h4 27 (by omega) (by omega) (by omega) (by omega) (by omega)
        have o42 := h4 42 (by omega) (by omega) (by omega) (by omega) (by omega)
        have ov := h4 v (by omega) (by omega) (by omega) (by omega) (by omega)
        have ov1 := h4 (v + 1) (by omega) (by omega) (by omega) (by omega) (by omega)
        have ov2 := h4 (v + 2) (by omega) (by omega) (by omega) (by omega) (by omega)
        refine lv_aload_n hx hb dX4_learn_12 rfl (lv_at hl 3 rfl) ?_
        refine lv_iload hx hb dX4_learn_13 (lv_at hl 5 rfl) ?_
        refine lv_aload_n hx hb dX4_learn_15 rfl (lv_at hl 0 rfl) ?_
        refine gx_get (ci := 7) (v := .int (iv1 42 2)) (C := RX4) (T := TX4) (N := 6) hx hb hts (fun _ h => inX4_learn_RX4 h) hown hK hS 42 (by omega) rfl rfl 2 (by decide) (hts (.fieldLink RX4 15 "CosetTables$Steps" "twistings" "I") (by decide +kernel)) rfl dX4_learn_16 ?_
        refine gx_as (y := nI t) (by rw [o42]; exact ht) ?_
        refine lv_imul hx hb dX4_learn_19 ?_
        refine gx_as (y := nI (i * t)) (pk_mul _ _) ?_
        refine lv_aload hx hb dX4_learn_20 (lv_at hl 4 rfl) ?_
        refine gc_v (gx_runV (As := [.int (nI (i * t)), .ref (ad b)]) (rest := []) ⟨hx, hb, hml, hown, hts⟩ hK hN hS 25 (by omega) rfl rfl (ct_X1_read l D cA o ad ln n H.size iv1 (x := i * t) (b := b) (P := P) (c9 := c9) (T := T) (pc9 := pc9) hn hln (by rw [o25]; exact hc9) hc4 (by rw [o25]; exact hT0) hT1 hT3 hSb hP2 hP1 hP h27 (by rw [o27]; exact hpc) hpi (by rw [o25]; exact hP0) h28 (by rw [o25]; exact htw) (by omega)) (cwV 2 hts gX4_learn_X1_read rfl rfl rfl (by decide +kernel) ⟨gle hRf rfl, gle hRl rfl⟩) rfl rfl hl.1 rfl (lv_room (Nat.le_of_ble_eq_true rfl)) dX4_learn_22 ⟨hRc, hRs⟩) hS hA (fun iv2 H locs hp2 hS => ?_)
        obtain ⟨⟨w, w1, w2, w3⟩, w4, w5⟩ := hp2
        have hw2 : holdsAt iv2 b c9 pc9 w (fun _ => 0) := ⟨w2.1, fun j hj => by rw [w2.2 j hj, hte]; exact congrArg nI (zdig hT1)⟩
        have hwr : ∀ j, j < c9 → rkw w j = rky P c9 i j := fun j hj => by rw [w3 j hj, hte, Nat.mul_div_cancel _ hpp]
        have hin2 : ∀ p, p < P → vp_in (iv2 (b + 1) p) P := by
          intro p hp
          by_cases hex : ∃ j, j < c9 ∧ p = pc9 j
          · obtain ⟨j, hj, rfl⟩ := hex
            rw [hw2.1 j hj]
            exact vp_in_nI (w1.1 j hj) (by omega)
          · rw [(w4 p (fun j hj q9 => hex ⟨j, hj, q9⟩)).1]
            exact h2 p hp
        have hmv2 : moveAt iv2 v P T G9 Ad := by
          unfold moveAt
          rw [w5 v (by omega) (by omega) (by omega), w5 (v + 1) (by omega) (by omega) (by omega), w5 (v + 2) (by omega) (by omega) (by omega), ov, ov1, ov2]
          exact hmv
        refine lv_aload hx hb dX4_learn_25 (lv_at hl 4 rfl) ?_
        refine lv_aload_n hx hb dX4_learn_27 rfl (lv_at hl 2 rfl) ?_
        refine gc_v (gx_runV (As := [.ref (ad v)]) (rest := []) ⟨hx, hb, hml, hown, hts⟩ hK hN hS b (by omega) (sch_S hSb) rfl (ct_X3_follow l D cA o ad ln n H.size iv2 (b := b) (v := v) (P := P) hn hln hSb hMv hP1 hP2 hP3 hP4 hP (by rw [hmv2.1]; exact nI_ne0 hT1 (by omega)) hin2) (cwV 1 hts gX4_learn_X3_follow rfl rfl rfl (by decide +kernel) ⟨gle hRf rfl, gle hRl rfl⟩) rfl rfl hl.1 rfl (lv_room (Nat.le_of_ble_eq_true rfl)) dX4_learn_28 ⟨hRc, hRs⟩) hS hA (fun iv3 H locs hp3 hS => ?_)
        have hw3 := holds_follow hT1 hT3 hP hmv2 hpi w1 (fun _ _ => hT1) hw2 hp3
        have hAd : ∀ j, j < c9 → (0 + Ad (w j)) % T = Ad (w j) := fun j hj => by rw [Nat.zero_add]; exact Nat.mod_eq_of_lt (hmv.2 _ (w1.1 j hj)).2.2.2
        have f3 : ∀ q, q ≠ 28 → q ≠ b + 1 → q ≠ b + 2 → iv3 q = iv1 q := fun q q1 q2 q3 => by rw [hp3.2.2 q q2 q3, w5 q q2 q3 q1]
        have hwi3 := inj_comp w1 hGi
        have hnl := num_lt (T := T) (t := fun j => Ad (w j)) hwi3 (fun j hj => (hmv.2 _ (w1.1 j hj)).2.2.2)
        rw [← hae, ← hte] at hnl
        obtain ⟨N9, hN9⟩ : ∃ N9, N9 = num P T c9 (fun j => G9 (w j)) (fun j => Ad (w j)) := ⟨_, rfl⟩
        rw [← hN9] at hnl
        refine lv_aload_n hx hb dX4_learn_31 rfl (lv_at hl 3 rfl) ?_
        refine lv_aload hx hb dX4_learn_32 (lv_at hl 4 rfl) ?_
        refine gc_i (gx_runV (As := [.ref (ad b)]) (rest := []) ⟨hx, hb, hml, hown, hts⟩ hK hN hS 25 (by omega) rfl rfl (ct_X1_numberOf l D cA o ad ln n H.size iv3 (b := b) (P := P) (c9 := c9) (T := T) (pc9 := pc9) (w := fun j => G9 (w j)) (t := fun j => Ad (w j)) hn hln (by rw [f3 25 (by omega) (by omega) (by omega), o25]; exact hc9) hc4 (by rw [f3 25 (by omega) (by omega) (by omega), o25]; exact hT0) hT1 hT3 hSb hP2 hP1 hP h27 (by rw [f3 27 (by omega) (by omega) (by omega), o27]; exact hpc) hpi (by rw [f3 25 (by omega) (by omega) (by omega), o25]; exact hP0) hw3.1 (fun j hj => by rw [hw3.2 j hj]; simp only []; rw [hAd j hj]) hwi3 (fun j hj => (hmv.2 _ (w1.1 j hj)).2.2.2)) (cwV 1 hts gX4_learn_X1_numberOf rfl rfl rfl (by decide +kernel) ⟨gle hRf rfl, gle hRl rfl⟩) rfl rfl hl.1 rfl (lv_room (Nat.le_of_ble_eq_true rfl)) dX4_learn_34 ⟨hRc, hRs⟩) hS hA (fun z iv4 H locs hp4 hS => ?_)
        obtain ⟨ez, ev4⟩ := hp4
        rw [← hN9] at ez
        rw [ev4] at hS
        have htp : 0 < t := by rw [hte]; exact hpp
        have hNd : N9 / t < a := Nat.div_lt_of_lt_mul (by rw [Nat.mul_comm]; exact hnl)
        refine gx_as (y := nI N9) ez ?_
        skip
        refine lv_istore (lv' := [(6, .int (nI N9)), (0, .ref (ad 42)), (1, .int (nI m9)), (2, .ref (ad v)), (3, .ref (ad 25)), (4, .ref (ad b)), (5, .int (nI i))]) hx hb dX4_learn_37 hl (by decide) rfl (fun ls hl => ?_)
        refine lv_aload_n hx hb dX4_learn_39 rfl (lv_at hl 1 rfl) ?_
        refine gx_get (ci := 7) (v := .ref (ad 43)) (C := RX4) (T := TX4) (N := 6) hx hb hts (fun _ h => inX4_learn_RX4 h) hown hK hS 42 (by omega) rfl rfl 3 (by decide) (hts (.fieldLink RX4 18 "CosetTables$Steps" "arrangementAfter" "[I") (by decide +kernel)) rfl dX4_learn_40 ?_
        refine lv_iload_n hx hb dX4_learn_43 rfl (lv_at hl 2 rfl) ?_
        refine lv_aload_n hx hb dX4_learn_44 rfl (lv_at hl 1 rfl) ?_
        refine gx_get (ci := 7) (v := .int (iv3 42 1)) (C := RX4) (T := TX4) (N := 6) hx hb hts (fun _ h => inX4_learn_RX4 h) hown hK hS 42 (by omega) rfl rfl 1 (by decide) (hts (.fieldLink RX4 9 "CosetTables$Steps" "arrangements" "I") (by decide +kernel)) rfl dX4_learn_45 ?_
        refine gx_as (y := nI a) (by rw [f3 42 (by omega) (by omega) (by omega), o42]; exact ha) ?_
        refine lv_imul hx hb dX4_learn_48 ?_
        refine gx_as (y := nI (m9 * a)) (pk_mul _ _) ?_
        refine lv_iload hx hb dX4_learn_49 (lv_at hl 6 rfl) ?_
        refine lv_iadd hx hb dX4_learn_51 ?_
        refine gx_as (y := nI ((m9 * a) + i)) (nI_add _ _) ?_
        refine lv_iload hx hb dX4_learn_52 (lv_at hl 0 rfl) ?_
        refine lv_aload_n hx hb dX4_learn_54 rfl (lv_at hl 1 rfl) ?_
        refine gx_get (ci := 7) (v := .int (iv3 42 2)) (C := RX4) (T := TX4) (N := 6) hx hb hts (fun _ h => inX4_learn_RX4 h) hown hK hS 42 (by omega) rfl rfl 2 (by decide) (hts (.fieldLink RX4 15 "CosetTables$Steps" "twistings" "I") (by decide +kernel)) rfl dX4_learn_55 ?_
        refine gx_as (y := nI t) (by rw [f3 42 (by omega) (by omega) (by omega), o42]; exact ht) ?_
        refine lv_idiv hx hb dX4_learn_58 (nI_ne0 htp (by omega)) ?_
        refine gx_as (y := nI (N9 / t)) (pk_div (by omega) htp (by omega)) ?_
        refine gx_iastn hx hb hK hS 43 (by omega) (by decide) ((m9 * a) + i) (by omega) (hln _) dX4_learn_59 (fun H locs hS => ?_)
        obtain ⟨iv5, eiv5⟩ : ∃ z, z = up2 iv3 43 ((m9 * a) + i) (nI (N9 / t)) := ⟨_, rfl⟩
        rw [← eiv5] at hS
        refine lv_aload_n hx hb dX4_learn_60 rfl (lv_at hl 1 rfl) ?_
        refine gx_get (ci := 7) (v := .ref (ad 44)) (C := RX4) (T := TX4) (N := 6) hx hb hts (fun _ h => inX4_learn_RX4 h) hown hK hS 42 (by omega) rfl rfl 4 (by decide) (hts (.fieldLink RX4 22 "CosetTables$Steps" "twistingAdded" "[I") (by decide +kernel)) rfl dX4_learn_61 ?_
        refine lv_iload_n hx hb dX4_learn_64 rfl (lv_at hl 2 rfl) ?_
        refine lv_aload_n hx hb dX4_learn_65 rfl (lv_at hl 1 rfl) ?_
        refine gx_get (ci := 7) (v := .int (iv5 42 1)) (C := RX4) (T := TX4) (N := 6) hx hb hts (fun _ h => inX4_learn_RX4 h) hown hK hS 42 (by omega) rfl rfl 1 (by decide) (hts (.fieldLink RX4 9 "CosetTables$Steps" "arrangements" "I") (by decide +kernel)) rfl dX4_learn_66 ?_
        refine gx_as (y := nI a) (by rw [eiv5, up2_row (by decide), f3 42 (by omega) (by omega) (by omega), o42]; exact ha) ?_
        refine lv_imul hx hb dX4_learn_69 ?_
        refine gx_as (y := nI (m9 * a)) (pk_mul _ _) ?_
        refine lv_iload hx hb dX4_learn_70 (lv_at hl 6 rfl) ?_
        refine lv_iadd hx hb dX4_learn_72 ?_
        refine gx_as (y := nI ((m9 * a) + i)) (nI_add _ _) ?_
        refine lv_iload hx hb dX4_learn_73 (lv_at hl 0 rfl) ?_
        refine lv_aload_n hx hb dX4_learn_75 rfl (lv_at hl 1 rfl) ?_
        refine gx_get (ci := 7) (v := .int (iv5 42 2)) (C := RX4) (T := TX4) (N := 6) hx hb hts (fun _ h => inX4_learn_RX4 h) hown hK hS 42 (by omega) rfl rfl 2 (by decide) (hts (.fieldLink RX4 15 "CosetTables$Steps" "twistings" "I") (by decide +kernel)) rfl dX4_learn_76 ?_
        refine gx_as (y := nI t) (by rw [eiv5, up2_row (by decide), f3 42 (by omega) (by omega) (by omega), o42]; exact ht) ?_
        refine lv_irem hx hb dX4_learn_79 (nI_ne0 htp (by omega)) ?_
        refine gx_as (y := nI (N9 % t)) (grem (by omega) htp (by omega)) ?_
        refine gx_iastn hx hb hK hS 44 (by omega) (by decide) ((m9 * a) + i) (by omega) (hln _) dX4_learn_80 (fun H locs hS => ?_)
        obtain ⟨iv6, eiv6⟩ : ∃ z, z = up2 iv5 44 ((m9 * a) + i) (nI (N9 % t)) := ⟨_, rfl⟩
        rw [← eiv6] at hS
        have o56 : ∀ q, q ≠ 43 → q ≠ 44 → iv6 q = iv3 q := fun q q1 q2 => by rw [eiv6, up2_row q2, eiv5, up2_row q1]
        have hwk2 : ∀ p, p < P → vp_in (iv3 (b + 1) p) P := by
          intro p hp
          rw [hp3.1, if_pos hp]
          unfold fo1
          have hq := hin2 p hp
          obtain ⟨j, hj, ej⟩ := vp_in_of hq (by omega)
          rw [ej, show tn (nI j) = j from nI_clamp (by omega), (hmv2.2 j hj).1]
          exact vp_in_nI (hmv2.2 j hj).2.1 (by omega)
        have hrow : ∀ k, k < i + 1 → ∃ w, inj w P c9 ∧ (∀ i, i < c9 → rkw w i = rky P c9 k i) ∧ iv6 43 (m9 * a + k) = nI (num P T c9 (fun i => G9 (w i)) (fun i => Ad (w i)) / t) ∧ iv6 44 (m9 * a + k) = nI (num P T c9 (fun i => G9 (w i)) (fun i => Ad (w i)) % t) := by
          intro k hk
          rcases Nat.lt_or_ge k i with q | q
          · obtain ⟨w', a1, a2, a3, a4⟩ := h1 k q
            refine ⟨w', a1, a2, ?_, ?_⟩
            · rw [eiv6, up2_row (by decide), eiv5, up2_n (by omega), f3 43 (by omega) (by omega) (by omega)]; exact a3
            · rw [eiv6, up2_n (by omega), eiv5, up2_row (by decide), f3 44 (by omega) (by omega) (by omega)]; exact a4
          · have e9 : k = i := by omega
            subst e9
            refine ⟨w, w1, hwr, ?_, ?_⟩
            · rw [eiv6, up2_row (by decide), eiv5, up2_s, hN9]
            · rw [eiv6, up2_s, hN9]
        refine lv_iinc (v := nI (i + 1)) (lv' := [(5, .int (nI (i + 1))), (6, .int (nI N9)), (0, .ref (ad 42)), (1, .int (nI m9)), (2, .ref (ad v)), (3, .ref (ad 25)), (4, .ref (ad b))]) hx hb dX4_learn_81 hl (k := 6) rfl (nI_1 i) (by decide) rfl (fun ls hl => ?_)
        refine lv_goto (tgt := 3) hx hb dX4_learn_84 (by decide) ?_
        exact ih3 (i + 1) iv6 (by omega) (by omega) hrow (fun p hp => by rw [o56 (b + 1) (by omega) (by omega)]; exact hwk2 p hp) (fun j hj => ⟨by rw [eiv6, up2_row (by decide), eiv5, up2_n (by omega), f3 43 (by omega) (by omega) (by omega)]; exact (h3 j hj).1, by rw [eiv6, up2_n (by omega), eiv5, up2_row (by decide), f3 44 (by omega) (by omega) (by omega)]; exact (h3 j hj).2⟩) (fun q q1 q2 q3 q4 q5 => by rw [o56 q q4 q5, f3 q q1 q2 q3, h4 q q1 q2 q3 q4 q5]) _ _ _ hS (lv_sub hl [2, 3, 4, 5, 6, 0] rfl)
  exact L3 _ 0 iv (Nat.lt_succ_self _) (Nat.zero_le _) lt_0 hwk (fun _ _ => ⟨rfl, rfl⟩) (fun _ _ _ _ _ _ => rfl) _ _ _ hS (lv_sub hl [1, 2, 3, 4, 5, 0] rfl)
set_option maxRecDepth 100000 in
theorem ct_X4_learn (l : Launch) (D : va_G) (cA : Nat → ClassId) (o : Nat → Int64) (ad ln : Nat → Nat) (n sz : Nat) (iv : Nat → Nat → Int32) (m9 v b P c9 T a t : Nat) (pc9 G9 Ad : Nat → Nat) (hn : 68 ≤ n) (hln : ∀ k, ln k < 2 ^ 31) (hc9 : iv 25 5 = nI c9) (hc4 : c9 ≤ 4) (hT0 : iv 25 1 = nI T) (hT1 : 0 < T) (hT3 : T ≤ 3) (hSb : isS b = true) (hP2 : ln (b + 2) = P) (hP1 : ln (b + 1) = P) (hP : P ≤ 8) (h27 : ln 27 = 4) (hpc : ∀ i, i < c9 → iv 27 i = nI (pc9 i)) (hpi : inj pc9 P c9) (hP0 : iv 25 0 = nI P) (h28 : ln 28 = 4) (htw : iv 25 7 = nI (T ^ c9)) (ha : iv 42 1 = nI a) (ht : iv 42 2 = nI t) (hae : a = ff P c9) (hte : t = T ^ c9) (hm9 : m9 < 6) (hl1 : 6 * a ≤ ln 43) (hl2 : 6 * a ≤ ln 44) (hMv : isM v = true) (hP3 : ln (v + 1) = P) (hP4 : ln (v + 2) = P) (hmv : moveAt iv v P T G9 Ad) (hGi : inj G9 P P) (hwk : ∀ p, p < P → vp_in (iv (b + 1) p) P) : gMv l yX4_learn wsX4_learn { frames := 3, cells := 0, slots := 0, locals := 72 } D cA o ad ln n sz iv [.ref (ad 42), .int (nI m9), .ref (ad v), .ref (ad 25), .ref (ad b)] (fun iv' => (∀ k, k < a → ∃ w, inj w P c9 ∧ (∀ i, i < c9 → rkw w i = rky P c9 k i) ∧ iv' 43 (m9 * a + k) = nI (num P T c9 (fun i => G9 (w i)) (fun i => Ad (w i)) / t) ∧ iv' 44 (m9 * a + k) = nI (num P T c9 (fun i => G9 (w i)) (fun i => Ad (w i)) % t)) ∧ (∀ p, p < P → vp_in (iv' (b + 1) p) P) ∧ (∀ j, j < m9 * a ∨ m9 * a + a ≤ j → iv' 43 j = iv 43 j ∧ iv' 44 j = iv 44 j) ∧ ∀ q, q ≠ 28 → q ≠ b + 1 → q ≠ b + 2 → q ≠ 43 → q ≠ 44 → iv' q = iv q) := by
  refine Met.ofW (cc := cX4_learn) (maxL := 7) (ret := none) (by decide) rfl ?_
  intro p e s m args below meth c s₁ B hml hv__
  obtain ⟨rfl, hv__⟩ := hv__
  obtain ⟨hsz, hS, hK, hN, hA⟩ := gS.entry hv__
  have hl := lv_entry ([.ref (ad 42), .int (nI m9), .ref (ad v), .ref (ad 25), .ref (ad b)]) (n := 7) (Nat.le_of_ble_eq_true rfl)
  rw [lg_entry_eq]
  generalize (lg_sl ([.ref (ad 42), .int (nI m9), .ref (ad v), .ref (ad 25), .ref (ad b)]) ++ List.replicate (7 - (lg_sl ([.ref (ad 42), .int (nI m9), .ref (ad v), .ref (ad 25), .ref (ad b)])).length) Slot.unset).toArray = ls at hl ⊢
  exact bd_X4_learn (m9 := m9) (v := v) (b := b) (P := P) (c9 := c9) (T := T) (a := a) (t := t) (pc9 := pc9) (G9 := G9) (Ad := Ad) ⟨B.exec, B.bytes, hml, findClass_of_methodNamed B.named, atoms_spec (ws := wsX4_learn) B.pre, B.returns, B.notSynchronized⟩ (Nat.le_refl _) (Nat.le_refl _) (Nat.le_refl _) (Nat.le_refl _) hK hN hA hn hln hc9 hc4 hT0 hT1 hT3 hSb hP2 hP1 hP h27 hpc hpi hP0 h28 htw ha ht hae hte hm9 hl1 hl2 hMv hP3 hP4 hmv hGi hwk hS hl (fun iv' H locs ls pc hd hp hS => gx_vret B.exec B.bytes B.returns B.notSynchronized hS hp hd)
