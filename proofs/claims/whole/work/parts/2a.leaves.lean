theorem inX2_learn_RX2 : ∀ {w : Cond}, w ∈ u_ws RX2 TX2 8 → w ∈ wsX2_learn := fun {w} h => by first | exact List.mem_cons_of_mem _ (List.mem_append_right _ h) | (revert h; revert w; show ∀ w ∈ u_ws RX2 TX2 8, w ∈ wsX2_learn; decide +kernel)
set_option maxHeartbeats 4000000 in
set_option maxRecDepth 100000 in
theorem bd_X2_learn {p : Program} {l : Launch} {e : Env} {R : Room} {s : State} {m : MethodId} {args : Array Value} {below : List Frame} {meth : Method} {c : Code} {H : Heap} {locs : List Loc} {cells slots : Nat} {Q : State → Prop} {ls : Array Slot} {D : va_G} {A : Nat → Prop} {H0 : Heap} {cA : Nat → ClassId} {o : Nat → Int64} {ad ln : Nat → Nat} {iv : Nat → Nat → Int32} {n : Nat} {k b b2 P c9 T a t : Nat} {pc9 Sg si : Nat → Nat}
    (F : gF p s m meth c cX2_learn 6 RX2 wsX2_learn args none) (hRf : 3 ≤ R.frames) (hRl : 72 ≤ R.locals) (hRc : cells ≤ R.cells) (hRs : slots ≤ R.slots) (hK : va_K D vwCl (gT cA) s) (hN : NW s) (hA : ∀ q, H0.size ≤ q → A q) (hn : 68 ≤ n) (hln : ∀ k, ln k < 2 ^ 31) (hc9 : iv 25 5 = nI c9) (hc4 : c9 ≤ 4) (hT0 : iv 25 1 = nI T) (hT1 : 0 < T) (hT3 : T ≤ 3) (hSb : isS b = true) (hP2 : ln (b + 2) = P) (hP1 : ln (b + 1) = P) (hP : P ≤ 8) (h27 : ln 27 = 4) (hpc : ∀ i, i < c9 → iv 27 i = nI (pc9 i)) (hpi : inj pc9 P c9) (hP0 : iv 25 0 = nI P) (h28 : ln 28 = 4) (htw : iv 25 7 = nI (T ^ c9)) (hSb2 : isS b2 = true) (hbb : b ≠ b2) (hQ2 : ln (b2 + 2) = P) (hQ1 : ln (b2 + 1) = P) (hk : 21 ≤ k ∧ k < 25) (hP5 : ln k = P) (ha : iv 49 3 = nI a) (ht : iv 49 4 = nI t) (hae : a = ff P c9) (hte : t = T ^ c9) (hl1 : a ≤ ln 51) (hl2 : t ≤ ln 52) (hks : ∀ p, p < P → iv k p = nI (Sg p)) (hSi : inj Sg P P) (hsi : symIx Sg pc9 si c9) (hwk : ∀ p, p < P → vp_in (iv (b + 1) p) P)
    (hS : gS D cA A H0 o ad ln iv n H locs) (hl : lv_has ls 6 [(0, .ref (ad 49)), (1, .ref (ad k)), (2, .ref (ad 25)), (3, .ref (ad b)), (4, .ref (ad b2))])
    (kret : ∀ (iv' : Nat → Nat → Int32) (H : Heap) (locs : List Loc) (ls : Array Slot) (pc : Nat), decode cX2_learn pc = .ok (.return_, 1) → ((∀ r9, r9 < a → ∃ w, inj w P c9 ∧ (∀ i, i < c9 → rkw w i = rky P c9 r9 i) ∧ iv' 51 r9 = nI (num P T c9 (fun i => Sg (w (si i))) (fun _ => 0) / t)) ∧ (∀ x9, x9 < t → ∃ w, inj w P c9 ∧ (∀ i, i < c9 → rkw w i = rky P c9 0 i) ∧ iv' 52 x9 = nI (num P T c9 (fun i => Sg (w (si i))) (fun i => x9 / T ^ (c9 - 1 - si i) % T) % t)) ∧ (∀ p, p < P → vp_in (iv' (b + 1) p) P) ∧ ∀ q, q ≠ 28 → q ≠ b + 1 → q ≠ b + 2 → q ≠ b2 + 1 → q ≠ b2 + 2 → q ≠ 51 → q ≠ 52 → iv' q = iv q) → gS D cA A H0 o ad ln iv' n H locs → W p l e R s m args below meth c H locs cells slots Q (F0 m pc ls [])) :
    W p l e R s m args below meth c H locs cells slots Q (F0 m 0 ls []) := by
  obtain ⟨hx, hb, hml, hown, hts, hr, hlocks⟩ := F
  have hb0 := isS_in hSb
  have hv0 := isS_in hSb2
  have hpw := pw_le4 hT3 hc4
  have hpp : 0 < T ^ c9 := Nat.pow_pos hT1
  have hff := ff_le4 hP hc4
  have htp : 0 < t := by rw [hte]; exact hpp
  have hat9 : a * t ≤ 4096 * 81 := Nat.mul_le_mul (by omega) (by omega)
  have hkI : isI k = true := by
    have := isI_sy (j := k - 21) (by omega)
    rwa [show 21 + (k - 21) = k by omega] at this
  refine lv_iconst (v := nI 0) hx hb dX2_learn_0 (by decide) ?_
  refine lv_istore (lv' := [(5, .int (nI 0)), (0, .ref (ad 49)), (1, .ref (ad k)), (2, .ref (ad 25)), (3, .ref (ad b)), (4, .ref (ad b2))]) hx hb dX2_learn_1 hl (by decide) rfl (fun ls hl => ?_)
  have L3 : ∀ (N : Nat) (i : Nat) (iv1 : Nat → Nat → Int32), a - i < N → (i ≤ a) → (∀ r9, r9 < i → ∃ w, inj w P c9 ∧ (∀ i, i < c9 → rkw w i = rky P c9 r9 i) ∧ iv1 51 r9 = nI (num P T c9 (fun i => Sg (w (si i))) (fun _ => 0) / t)) → (∀ p, p < P → vp_in (iv1 (b + 1) p) P) → (∀ q, q ≠ 28 → q ≠ b + 1 → q ≠ b + 2 → q ≠ b2 + 1 → q ≠ b2 + 2 → q ≠ 51 → q ≠ 52 → iv1 q = iv q) → ∀ (H : Heap) (locs : List Loc) (ls : Array Slot), gS D cA A H0 o ad ln iv1 n H locs → lv_has ls 6 [(0, .ref (ad 49)), (1, .ref (ad k)), (2, .ref (ad 25)), (3, .ref (ad b)), (4, .ref (ad b2)), (5, .int (nI i))] → W p l e R s m args below meth c H locs cells slots Q (F0 m 3 ls []) := by
    intro N
    induction N with
    | zero => intro i iv1 hm; exact absurd hm (Nat.not_lt_zero _)
    | succ N ih3 =>
      intro i iv1 hm hi h1 h2 h4 H locs ls hS hl
      have o25 := h4 25 (by omega) (by omega) (by omega) (by omega) (by omega) (by omega) (by omega)
      have o27 := h4 27 (by omega) (by omega) (by omega) (by omega) (by omega) (by omega) (by omega)
      have o49 := h4 49 (by omega) (by omega) (by omega) (by omega) (by omega) (by omega) (by omega)
      have ok := h4 k (by omega) (by omega) (by omega) (by omega) (by omega) (by omega) (by omega)
      refine lv_iload hx hb dX2_learn_3 (lv_at hl 5 rfl) ?_
      refine lv_aload_n hx hb dX2_learn_5 rfl (lv_at hl 0 rfl) ?_
      refine gx_get (ci := 5) (v := .int (iv1 49 3)) (C := RX2) (T := TX2) (N := 8) hx hb hts (fun _ h => inX2_learn_RX2 h) hown hK hS 49 (by omega) rfl rfl 3 (by decide) (hts (.fieldLink RX2 36 "CosetTables$Orbits" "arrangements" "I") (by decide +kernel)) rfl dX2_learn_6 ?_
      refine gx_as (y := nI a) (by rw [o49]; exact ha) ?_
      refine lv_icmp_ge (tgt := 55) hx hb dX2_learn_9 (by decide) (fun c_9 => ?_) (fun c_9 => ?_)
      · skip
        rw [nI_leI (by omega) (by omega)] at c_9
        refine lv_iconst (v := nI 0) hx hb dX2_learn_55 (by decide) ?_
        refine lv_istore (lv' := [(5, .int (nI 0)), (0, .ref (ad 49)), (1, .ref (ad k)), (2, .ref (ad 25)), (3, .ref (ad b)), (4, .ref (ad b2))]) hx hb dX2_learn_56 hl (by decide) rfl (fun ls hl => ?_)
        have L58 : ∀ (N : Nat) (x : Nat) (iv6 : Nat → Nat → Int32), t - x < N → (x ≤ t) → (∀ r9, r9 < a → ∃ w, inj w P c9 ∧ (∀ i, i < c9 → rkw w i = rky P c9 r9 i) ∧ iv6 51 r9 = nI (num P T c9 (fun i => Sg (w (si i))) (fun _ => 0) / t)) → (∀ x9, x9 < x → ∃ w, inj w P c9 ∧ (∀ i, i < c9 → rkw w i = rky P c9 0 i) ∧ iv6 52 x9 = nI (num P T c9 (fun i => Sg (w (si i))) (fun i => x9 / T ^ (c9 - 1 - si i) % T) % t)) → (∀ p, p < P → vp_in (iv6 (b + 1) p) P) → (∀ q, q ≠ 28 → q ≠ b + 1 → q ≠ b + 2 → q ≠ b2 + 1 → q ≠ b2 + 2 → q ≠ 51 → q ≠ 52 → iv6 q = iv q) → ∀ (H : Heap) (locs : List Loc) (ls : Array Slot), gS D cA A H0 o ad ln iv6 n H locs → lv_has ls 6 [(0, .ref (ad 49)), (1, .ref (ad k)), (2, .ref (ad 25)), (3, .ref (ad b)), (4, .ref (ad b2)), (5, .int (nI x))] → W p l e R s m args below meth c H locs cells slots Q (F0 m 58 ls []) := by
          intro N
          induction N with
          | zero => intro x iv6 hm; exact absurd hm (Nat.not_lt_zero _)
          | succ N ih58 =>
            intro x iv6 hm hx9 g0 g1 g2 g4 H locs ls hS hl
            have p25 := g4 25 (by omega) (by omega) (by omega) (by omega) (by omega) (by omega) (by omega)
            have p27 := g4 27 (by omega) (by omega) (by omega) (by omega) (by omega) (by omega) (by omega)
            have p49 := g4 49 (by omega) (by omega) (by omega) (by omega) (by omega) (by omega) (by omega)
            have pk := g4 k (by omega) (by omega) (by omega) (by omega) (by omega) (by omega) (by omega)
            refine lv_iload hx hb dX2_learn_58 (lv_at hl 5 rfl) ?_
            refine lv_aload_n hx hb dX2_learn_60 rfl (lv_at hl 0 rfl) ?_
            refine gx_get (ci := 5) (v := .int (iv6 49 4)) (C := RX2) (T := TX2) (N := 8) hx hb hts (fun _ h => inX2_learn_RX2 h) hown hK hS 49 (by omega) rfl rfl 4 (by decide) (hts (.fieldLink RX2 40 "CosetTables$Orbits" "twistings" "I") (by decide +kernel)) rfl dX2_learn_61 ?_
            refine gx_as (y := nI t) (by rw [p49]; exact ht) ?_
            refine lv_icmp_ge (tgt := 105) hx hb dX2_learn_64 (by decide) (fun c_64 => ?_) (fun c_64 => ?_)
            · skip
              rw [nI_leI (by omega) (by omega)] at c_64
              exact kret iv6 _ _ _ _ dX2_learn_105 (⟨g0, fun x9 hx8 => g1 x9 (by omega), g2, g4⟩) hS
            · skip
              rw [nI_leI (by omega) (by omega)] at c_64
              refine lv_aload_n hx hb dX2_learn_67 rfl (lv_at hl 2 rfl) ?_
              refine lv_iload hx hb dX2_learn_68 (lv_at hl 5 rfl) ?_
              refine lv_aload_n hx hb dX2_learn_70 rfl (lv_at hl 3 rfl) ?_
              refine gc_v (gx_runV (As := [.int (nI x), .ref (ad b)]) (rest := []) ⟨hx, hb, hml, hown, hts⟩ hK hN hS 25 (by omega) rfl rfl (ct_X1_read l D cA o ad ln n H.size iv6 (x := x) (b := b) (P := P) (c9 := c9) (T := T) (pc9 := pc9) hn hln (by rw [p25]; exact hc9) hc4 (by rw [p25]; exact hT0) hT1 hT3 hSb hP2 hP1 hP h27 (by rw [p27]; exact hpc) hpi (by rw [p25]; exact hP0) h28 (by rw [p25]; exact htw) (by omega)) (cwV 2 hts gX2_learn_X1_read rfl rfl rfl (by decide +kernel) ⟨gle hRf rfl, gle hRl rfl⟩) rfl rfl hl.1 rfl (lv_room (Nat.le_of_ble_eq_true rfl)) dX2_learn_71 ⟨hRc, hRs⟩) hS hA (fun iv7 H locs hp7 hS => ?_)
              obtain ⟨⟨w, w1, w2, w3⟩, w4, w5⟩ := hp7
              have w2 : holdsAt iv7 b c9 pc9 w (fun i => x / T ^ (c9 - 1 - i) % T) := ⟨w2.1, fun j hj => by rw [w2.2 j hj]; exact congrArg nI (by rw [← hte, Nat.mod_eq_of_lt (show x < t by omega)])⟩
              have hwr : ∀ j, j < c9 → rkw w j = rky P c9 0 j := fun j hj => by rw [w3 j hj, ← hte, Nat.div_eq_of_lt (show x < t by omega)]
              have hin2 : ∀ p, p < P → vp_in (iv7 (b + 1) p) P := by
                intro p hp
                by_cases hex : ∃ j, j < c9 ∧ p = pc9 j
                · obtain ⟨j, hj, rfl⟩ := hex
                  rw [w2.1 j hj]
                  exact vp_in_nI (w1.1 j hj) (by omega)
                · rw [(w4 p (fun j hj q9 => hex ⟨j, hj, q9⟩)).1]
                  exact g2 p hp
              have hk2 : ∀ p, p < P → iv7 k p = nI (Sg p) := fun p hp => by rw [w5 k (by omega) (by omega) (by omega), pk]; exact hks p hp
              refine lv_aload hx hb dX2_learn_74 (lv_at hl 4 rfl) ?_
              refine lv_aload_n hx hb dX2_learn_76 rfl (lv_at hl 3 rfl) ?_
              refine lv_aload_n hx hb dX2_learn_77 rfl (lv_at hl 1 rfl) ?_
              refine gc_v (gx_runV (As := [.ref (ad b), .ref (ad k)]) (rest := []) ⟨hx, hb, hml, hown, hts⟩ hK hN hS b2 (by omega) (sch_S hSb2) rfl (ct_X3_becomeImage l D cA o ad ln n H.size iv7 (b := b2) (b2 := b) (k := k) (P := P) hn hln hSb2 hSb (fun q9 => hbb q9.symm) hk hQ1 hQ2 hP1 hP2 hP5 hP hin2 (fun p hp => by rw [hk2 p hp]; exact vp_in_nI (hSi.1 p hp) (by omega))) (cwV 2 hts gX2_learn_X3_becomeImage rfl rfl rfl (by decide +kernel) ⟨gle hRf rfl, gle hRl rfl⟩) rfl rfl hl.1 rfl (lv_room (Nat.le_of_ble_eq_true rfl)) dX2_learn_78 ⟨hRc, hRs⟩) hS hA (fun iv8 H locs hp8 hS => ?_)
              have hw3 := holds_image hP (by omega) hk2 hSi hpi w1 hsi w2 hp8
              have hwi3 := inj_image hSi hpi w1 hsi
              have f8 : ∀ q, q ≠ 28 → q ≠ b + 1 → q ≠ b + 2 → q ≠ b2 + 1 → q ≠ b2 + 2 → iv8 q = iv6 q := fun q q1 q2 q3 q4 q5 => by rw [hp8, wr2_o q4 q5, w5 q q2 q3 q1]
              have hnl := num_lt (T := T) (t := fun i => x / T ^ (c9 - 1 - si i) % T) hwi3 (fun _ _ => Nat.mod_lt _ hT1)
              rw [← hae, ← hte] at hnl
              obtain ⟨N9, hN9⟩ : ∃ N9, N9 = num P T c9 (fun i => Sg (w (si i))) (fun i => x / T ^ (c9 - 1 - si i) % T) := ⟨_, rfl⟩
              rw [← hN9] at hnl
              refine lv_aload_n hx hb dX2_learn_81 rfl (lv_at hl 0 rfl) ?_
              refine gx_get (ci := 5) (v := .ref (ad 52)) (C := RX2) (T := TX2) (N := 8) hx hb hts (fun _ h => inX2_learn_RX2 h) hown hK hS 49 (by omega) rfl rfl 7 (by decide) (hts (.fieldLink RX2 16 "CosetTables$Orbits" "twistingImages" "[I") (by decide +kernel)) rfl dX2_learn_82 ?_
              refine lv_iload hx hb dX2_learn_85 (lv_at hl 5 rfl) ?_
              refine lv_aload_n hx hb dX2_learn_87 rfl (lv_at hl 2 rfl) ?_
              refine lv_aload hx hb dX2_learn_88 (lv_at hl 4 rfl) ?_
              refine gc_i (gx_runV (As := [.ref (ad b2)]) (rest := [.int (nI x), .ref (ad 52)]) ⟨hx, hb, hml, hown, hts⟩ hK hN hS 25 (by omega) rfl rfl (ct_X1_numberOf l D cA o ad ln n H.size iv8 (b := b2) (P := P) (c9 := c9) (T := T) (pc9 := pc9) (w := fun i => Sg (w (si i))) (t := fun i => x / T ^ (c9 - 1 - si i) % T) hn hln (by rw [f8 25 (by omega) (by omega) (by omega) (by omega) (by omega), p25]; exact hc9) hc4 (by rw [f8 25 (by omega) (by omega) (by omega) (by omega) (by omega), p25]; exact hT0) hT1 hT3 hSb2 hQ2 hQ1 hP h27 (by rw [f8 27 (by omega) (by omega) (by omega) (by omega) (by omega), p27]; exact hpc) hpi (by rw [f8 25 (by omega) (by omega) (by omega) (by omega) (by omega), p25]; exact hP0) hw3.1 hw3.2 hwi3 (fun _ _ => Nat.mod_lt _ hT1)) (cwV 1 hts gX2_learn_X1_numberOf rfl rfl rfl (by decide +kernel) ⟨gle hRf rfl, gle hRl rfl⟩) rfl rfl hl.1 rfl (lv_room (Nat.le_of_ble_eq_true rfl)) dX2_learn_90 ⟨hRc, hRs⟩) hS hA (fun z iv9 H locs hp9 hS => ?_)
              obtain ⟨ez, ev9⟩ := hp9
              rw [← hN9] at ez
              rw [ev9] at hS
              have hNm : N9 % t < t := Nat.mod_lt _ htp
              refine gx_as (y := nI N9) ez ?_
              skip
              refine lv_aload_n hx hb dX2_learn_93 rfl (lv_at hl 0 rfl) ?_
              refine gx_get (ci := 5) (v := .int (iv8 49 4)) (C := RX2) (T := TX2) (N := 8) hx hb hts (fun _ h => inX2_learn_RX2 h) hown hK hS 49 (by omega) rfl rfl 4 (by decide) (hts (.fieldLink RX2 40 "CosetTables$Orbits" "twistings" "I") (by decide +kernel)) rfl dX2_learn_94 ?_
              refine gx_as (y := nI t) (by rw [f8 49 (by omega) (by omega) (by omega) (by omega) (by omega), p49]; exact ht) ?_
              refine lv_irem hx hb dX2_learn_97 (nI_ne0 htp (by omega)) ?_
              refine gx_as (y := nI (N9 % t)) (grem (by omega) htp (by omega)) ?_
              refine gx_iastn hx hb hK hS 52 (by omega) (by decide) x (by omega) (hln _) dX2_learn_98 (fun H locs hS => ?_)
              obtain ⟨iva, eiva⟩ : ∃ z, z = up2 iv8 52 x (nI (N9 % t)) := ⟨_, rfl⟩
              rw [← eiva] at hS
              have hrow2 : ∀ x9, x9 < x + 1 → ∃ w, inj w P c9 ∧ (∀ i, i < c9 → rkw w i = rky P c9 0 i) ∧ iva 52 x9 = nI (num P T c9 (fun i => Sg (w (si i))) (fun i => x9 / T ^ (c9 - 1 - si i) % T) % t) := by
                intro k9 hk9
                rcases Nat.lt_or_ge k9 x with q | q
                · obtain ⟨w', a1, a2, a3⟩ := g1 k9 q
                  exact ⟨w', a1, a2, by rw [eiva, up2_n (by omega), f8 52 (by omega) (by omega) (by omega) (by omega) (by omega)]; exact a3⟩
                · have e9 : k9 = x := by omega
                  subst e9
                  exact ⟨w, w1, hwr, by rw [eiva, up2_s, hN9]⟩
              refine lv_iinc (v := nI (x + 1)) (lv' := [(5, .int (nI (x + 1))), (0, .ref (ad 49)), (1, .ref (ad k)), (2, .ref (ad 25)), (3, .ref (ad b)), (4, .ref (ad b2))]) hx hb dX2_learn_99 hl (k := 5) rfl (nI_1 x) (by decide) rfl (fun ls hl => ?_)
              refine lv_goto (tgt := 58) hx hb dX2_learn_102 (by decide) ?_
              exact ih58 (x + 1) iva (by omega) (by omega) (fun r9 hr => by obtain ⟨w', a1, a2, a3⟩ := g0 r9 hr; exact ⟨w', a1, a2, by rw [eiva, up2_row (by decide), f8 51 (by omega) (by omega) (by omega) (by omega) (by omega)]; exact a3⟩) hrow2 (fun p hp => by rw [eiva, up2_row (by omega), hp8, wr2_o (by omega) (by omega)]; exact hin2 p hp) (fun q q1 q2 q3 q4 q5 q6 q7 => by rw [eiva, up2_row q7, f8 q q1 q2 q3 q4 q5, g4 q q1 q2 q3 q4 q5 q6 q7]) _ _ _ hS (lv_sub hl [1, 2, 3, 4, 5, 0] rfl)
        exact L58 _ 0 iv1 (Nat.lt_succ_self _) (Nat.zero_le _) (fun r9 hr => h1 r9 (by omega)) lt_0 h2 h4 _ _ _ hS (lv_sub hl [1, 2, 3, 4, 5, 0] rfl)
      · skip
        rw [nI_leI (by omega) (by omega)] at c_9
        have hit : i * t + t ≤ a * t := by
          have := Nat.mul_le_mul_right t (show i + 1 ≤ a by omega)
          rw [Nat.succ_mul] at this
          exact this
        refine lv_aload_n hx hb dX2_learn_12 rfl (lv_at hl 2 rfl) ?_
        refine lv_iload hx hb dX2_learn_13 (lv_at hl 5 rfl) ?_
        refine lv_aload_n hx hb dX2_learn_15 rfl (lv_at hl 0 rfl) ?_
        refine gx_get (ci := 5) (v := .int (iv1 49 4)) (C := RX2) (T := TX2) (N := 8) hx hb hts (fun _ h => inX2_learn_RX2 h) hown hK hS 49 (by omega) rfl rfl 4 (by decide) (hts (.fieldLink RX2 40 "CosetTables$Orbits" "twistings" "I") (by decide +kernel)) rfl dX2_learn_16 ?_
        refine gx_as (y := nI t) (by rw [o49]; exact ht) ?_
        refine lv_imul hx hb dX2_learn_19 ?_
        refine gx_as (y := nI (i * t)) (pk_mul _ _) ?_
        refine lv_aload_n hx hb dX2_learn_20 rfl (lv_at hl 3 rfl) ?_
        refine gc_v (gx_runV (As := [.int (nI (i * t)), .ref (ad b)]) (rest := []) ⟨hx, hb, hml, hown, hts⟩ hK hN hS 25 (by omega) rfl rfl (ct_X1_read l D cA o ad ln n H.size iv1 (x := i * t) (b := b) (P := P) (c9 := c9) (T := T) (pc9 := pc9) hn hln (by rw [o25]; exact hc9) hc4 (by rw [o25]; exact hT0) hT1 hT3 hSb hP2 hP1 hP h27 (by rw [o27]; exact hpc) hpi (by rw [o25]; exact hP0) h28 (by rw [o25]; exact htw) (by omega)) (cwV 2 hts gX2_learn_X1_read rfl rfl rfl (by decide +kernel) ⟨gle hRf rfl, gle hRl rfl⟩) rfl rfl hl.1 rfl (lv_room (Nat.le_of_ble_eq_true rfl)) dX2_learn_21 ⟨hRc, hRs⟩) hS hA (fun iv2 H locs hp2 hS => ?_)
        obtain ⟨⟨w, w1, w2, w3⟩, w4, w5⟩ := hp2
        have w2 : holdsAt iv2 b c9 pc9 w (fun _ => 0) := ⟨w2.1, fun j hj => by rw [w2.2 j hj, hte]; exact congrArg nI (zdig hT1)⟩
        have hwr : ∀ j, j < c9 → rkw w j = rky P c9 i j := fun j hj => by rw [w3 j hj, hte, Nat.mul_div_cancel _ hpp]
        have hin2 : ∀ p, p < P → vp_in (iv2 (b + 1) p) P := by
          intro p hp
          by_cases hex : ∃ j, j < c9 ∧ p = pc9 j
          · obtain ⟨j, hj, rfl⟩ := hex
            rw [w2.1 j hj]
            exact vp_in_nI (w1.1 j hj) (by omega)
          · rw [(w4 p (fun j hj q9 => hex ⟨j, hj, q9⟩)).1]
            exact h2 p hp
        have hk2 : ∀ p, p < P → iv2 k p = nI (Sg p) := fun p hp => by rw [w5 k (by omega) (by omega) (by omega), ok]; exact hks p hp
        refine lv_aload hx hb dX2_learn_24 (lv_at hl 4 rfl) ?_
        refine lv_aload_n hx hb dX2_learn_26 rfl (lv_at hl 3 rfl) ?_
        refine lv_aload_n hx hb dX2_learn_27 rfl (lv_at hl 1 rfl) ?_
        refine gc_v (gx_runV (As := [.ref (ad b), .ref (ad k)]) (rest := []) ⟨hx, hb, hml, hown, hts⟩ hK hN hS b2 (by omega) (sch_S hSb2) rfl (ct_X3_becomeImage l D cA o ad ln n H.size iv2 (b := b2) (b2 := b) (k := k) (P := P) hn hln hSb2 hSb (fun q9 => hbb q9.symm) hk hQ1 hQ2 hP1 hP2 hP5 hP hin2 (fun p hp => by rw [hk2 p hp]; exact vp_in_nI (hSi.1 p hp) (by omega))) (cwV 2 hts gX2_learn_X3_becomeImage rfl rfl rfl (by decide +kernel) ⟨gle hRf rfl, gle hRl rfl⟩) rfl rfl hl.1 rfl (lv_room (Nat.le_of_ble_eq_true rfl)) dX2_learn_28 ⟨hRc, hRs⟩) hS hA (fun iv3 H locs hp3 hS => ?_)
        have hw3 := holds_image hP (by omega) hk2 hSi hpi w1 hsi w2 hp3
        have hwi3 := inj_image hSi hpi w1 hsi
        have f3 : ∀ q, q ≠ 28 → q ≠ b + 1 → q ≠ b + 2 → q ≠ b2 + 1 → q ≠ b2 + 2 → iv3 q = iv1 q := fun q q1 q2 q3 q4 q5 => by rw [hp3, wr2_o q4 q5, w5 q q2 q3 q1]
        have hnl := num_lt (T := T) (t := fun _ => 0) hwi3 (fun _ _ => hT1)
        rw [← hae, ← hte] at hnl
        obtain ⟨N9, hN9⟩ : ∃ N9, N9 = num P T c9 (fun i => Sg (w (si i))) (fun _ => 0) := ⟨_, rfl⟩
        rw [← hN9] at hnl
        refine lv_aload_n hx hb dX2_learn_31 rfl (lv_at hl 0 rfl) ?_
        refine gx_get (ci := 5) (v := .ref (ad 51)) (C := RX2) (T := TX2) (N := 8) hx hb hts (fun _ h => inX2_learn_RX2 h) hown hK hS 49 (by omega) rfl rfl 6 (by decide) (hts (.fieldLink RX2 13 "CosetTables$Orbits" "arrangementImages" "[I") (by decide +kernel)) rfl dX2_learn_32 ?_
        refine lv_iload hx hb dX2_learn_35 (lv_at hl 5 rfl) ?_
        refine lv_aload_n hx hb dX2_learn_37 rfl (lv_at hl 2 rfl) ?_
        refine lv_aload hx hb dX2_learn_38 (lv_at hl 4 rfl) ?_
        refine gc_i (gx_runV (As := [.ref (ad b2)]) (rest := [.int (nI i), .ref (ad 51)]) ⟨hx, hb, hml, hown, hts⟩ hK hN hS 25 (by omega) rfl rfl (ct_X1_numberOf l D cA o ad ln n H.size iv3 (b := b2) (P := P) (c9 := c9) (T := T) (pc9 := pc9) (w := fun i => Sg (w (si i))) (t := fun _ => 0) hn hln (by rw [f3 25 (by omega) (by omega) (by omega) (by omega) (by omega), o25]; exact hc9) hc4 (by rw [f3 25 (by omega) (by omega) (by omega) (by omega) (by omega), o25]; exact hT0) hT1 hT3 hSb2 hQ2 hQ1 hP h27 (by rw [f3 27 (by omega) (by omega) (by omega) (by omega) (by omega), o27]; exact hpc) hpi (by rw [f3 25 (by omega) (by omega) (by omega) (by omega) (by omega), o25]; exact hP0) hw3.1 hw3.2 hwi3 (fun _ _ => hT1)) (cwV 1 hts gX2_learn_X1_numberOf rfl rfl rfl (by decide +kernel) ⟨gle hRf rfl, gle hRl rfl⟩) rfl rfl hl.1 rfl (lv_room (Nat.le_of_ble_eq_true rfl)) dX2_learn_40 ⟨hRc, hRs⟩) hS hA (fun z iv4 H locs hp4 hS => ?_)
        obtain ⟨ez, ev4⟩ := hp4
        rw [← hN9] at ez
        rw [ev4] at hS
        have hNd : N9 / t < a := Nat.div_lt_of_lt_mul (by rw [Nat.mul_comm]; exact hnl)
        refine gx_as (y := nI N9) ez ?_
        skip
        refine lv_aload_n hx hb dX2_learn_43 rfl (lv_at hl 0 rfl) ?_
        refine gx_get (ci := 5) (v := .int (iv3 49 4)) (C := RX2) (T := TX2) (N := 8) hx hb hts (fun _ h => inX2_learn_RX2 h) hown hK hS 49 (by omega) rfl rfl 4 (by decide) (hts (.fieldLink RX2 40 "CosetTables$Orbits" "twistings" "I") (by decide +kernel)) rfl dX2_learn_44 ?_
        refine gx_as (y := nI t) (by rw [f3 49 (by omega) (by omega) (by omega) (by omega) (by omega), o49]; exact ht) ?_
        refine lv_idiv hx hb dX2_learn_47 (nI_ne0 htp (by omega)) ?_
        refine gx_as (y := nI (N9 / t)) (pk_div (by omega) htp (by omega)) ?_
        refine gx_iastn hx hb hK hS 51 (by omega) (by decide) i (by omega) (hln _) dX2_learn_48 (fun H locs hS => ?_)
        obtain ⟨iv5, eiv5⟩ : ∃ z, z = up2 iv3 51 i (nI (N9 / t)) := ⟨_, rfl⟩
        rw [← eiv5] at hS
        have hrow : ∀ r9, r9 < i + 1 → ∃ w, inj w P c9 ∧ (∀ i, i < c9 → rkw w i = rky P c9 r9 i) ∧ iv5 51 r9 = nI (num P T c9 (fun i => Sg (w (si i))) (fun _ => 0) / t) := by
          intro k9 hk9
          rcases Nat.lt_or_ge k9 i with q | q
          · obtain ⟨w', a1, a2, a3⟩ := h1 k9 q
            exact ⟨w', a1, a2, by rw [eiv5, up2_n (by omega), f3 51 (by omega) (by omega) (by omega) (by omega) (by omega)]; exact a3⟩
          · have e9 : k9 = i := by omega
            subst e9
            exact ⟨w, w1, hwr, by rw [eiv5, up2_s, hN9]⟩
        refine lv_iinc (v := nI (i + 1)) (lv' := [(5, .int (nI (i + 1))), (0, .ref (ad 49)), (1, .ref (ad k)), (2, .ref (ad 25)), (3, .ref (ad b)), (4, .ref (ad b2))]) hx hb dX2_learn_49 hl (k := 5) rfl (nI_1 i) (by decide) rfl (fun ls hl => ?_)
        refine lv_goto (tgt := 3) hx hb dX2_learn_52 (by decide) ?_
        exact ih3 (i + 1) iv5 (by omega) (by omega) hrow (fun p hp => by rw [eiv5, up2_row (by omega), hp3, wr2_o (by omega) (by omega)]; exact hin2 p hp) (fun q q1 q2 q3 q4 q5 q6 q7 => by rw [eiv5, up2_row q6, f3 q q1 q2 q3 q4 q5, h4 q q1 q2 q3 q4 q5 q6 q7]) _ _ _ hS (lv_sub hl [1, 2, 3, 4, 5, 0] rfl)
  exact L3 _ 0 iv (Nat.lt_succ_self _) (Nat.zero_le _) lt_0 hwk (fun _ _ _ _ _ _ _ _ => rfl) _ _ _ hS (lv_sub hl [1, 2, 3, 4, 5, 0] rfl)
set_option maxRecDepth 100000 in
theorem ct_X2_learn (l : Launch) (D : va_G) (cA : Nat → ClassId) (o : Nat → Int64) (ad ln : Nat → Nat) (n sz : Nat) (iv : Nat → Nat → Int32) (k b b2 P c9 T a t : Nat) (pc9 Sg si : Nat → Nat) (hn : 68 ≤ n) (hln : ∀ k, ln k < 2 ^ 31) (hc9 : iv 25 5 = nI c9) (hc4 : c9 ≤ 4) (hT0 : iv 25 1 = nI T) (hT1 : 0 < T) (hT3 : T ≤ 3) (hSb : isS b = true) (hP2 : ln (b + 2) = P) (hP1 : ln (b + 1) = P) (hP : P ≤ 8) (h27 : ln 27 = 4) (hpc : ∀ i, i < c9 → iv 27 i = nI (pc9 i)) (hpi : inj pc9 P c9) (hP0 : iv 25 0 = nI P) (h28 : ln 28 = 4) (htw : iv 25 7 = nI (T ^ c9)) (hSb2 : isS b2 = true) (hbb : b ≠ b2) (hQ2 : ln (b2 + 2) = P) (hQ1 : ln (b2 + 1) = P) (hk : 21 ≤ k ∧ k < 25) (hP5 : ln k = P) (ha : iv 49 3 = nI a) (ht : iv 49 4 = nI t) (hae : a = ff P c9) (hte : t = T ^ c9) (hl1 : a ≤ ln 51) (hl2 : t ≤ ln 52) (hks : ∀ p, p < P → iv k p = nI (Sg p)) (hSi : inj Sg P P) (hsi : symIx Sg pc9 si c9) (hwk : ∀ p, p < P → vp_in (iv (b + 1) p) P) : gMv l yX2_learn wsX2_learn { frames := 3, cells := 0, slots := 0, locals := 72 } D cA o ad ln n sz iv [.ref (ad 49), .ref (ad k), .ref (ad 25), .ref (ad b), .ref (ad b2)] (fun iv' => (∀ r9, r9 < a → ∃ w, inj w P c9 ∧ (∀ i, i < c9 → rkw w i = rky P c9 r9 i) ∧ iv' 51 r9 = nI (num P T c9 (fun i => Sg (w (si i))) (fun _ => 0) / t)) ∧ (∀ x9, x9 < t → ∃ w, inj w P c9 ∧ (∀ i, i < c9 → rkw w i = rky P c9 0 i) ∧ iv' 52 x9 = nI (num P T c9 (fun i => Sg (w (si i))) (fun i => x9 / T ^ (c9 - 1 - si i) % T) % t)) ∧ (∀ p, p < P → vp_in (iv' (b + 1) p) P) ∧ ∀ q, q ≠ 28 → q ≠ b + 1 → q ≠ b + 2 → q ≠ b2 + 1 → q ≠ b2 + 2 → q ≠ 51 → q ≠ 52 → iv' q = iv q) := by
  refine Met.ofW (cc := cX2_learn) (maxL := 6) (ret := none) (by decide) rfl ?_
  intro p e s m args below meth c s₁ B hml hv__
  obtain ⟨rfl, hv__⟩ := hv__
  obtain ⟨hsz, hS, hK, hN, hA⟩ := gS.entry hv__
  have hl := lv_entry ([.ref (ad 49), .ref (ad k), .ref (ad 25), .ref (ad b), .ref (ad b2)]) (n := 6) (Nat.le_of_ble_eq_true rfl)
  rw [lg_entry_eq]
  generalize (lg_sl ([.ref (ad 49), .ref (ad k), .ref (ad 25), .ref (ad b), .ref (ad b2)]) ++ List.replicate (6 - (lg_sl ([.ref (ad 49), .ref (ad k), .ref (ad 25), .ref (ad b), .ref (ad b2)])).length) Slot.unset).toArray = ls at hl ⊢
  exact bd_X2_learn (k := k) (b := b) (b2 := b2) (P := P) (c9 := c9) (T := T) (a := a) (t := t) (pc9 := pc9) (Sg := Sg) (si := si) ⟨B.exec, B.bytes, hml, findClass_of_methodNamed B.named, atoms_spec (ws := wsX2_learn) B.pre, B.returns, B.notSynchronized⟩ (Nat.le_refl _) (Nat.le_refl _) (Nat.le_refl _) (Nat.le_refl _) hK hN hA hn hln hc9 hc4 hT0 hT1 hT3 hSb hP2 hP1 hP h27 hpc hpi hP0 h28 htw hSb2 hbb hQ2 hQ1 hk hP5 ha ht hae hte hl1 hl2 hks hSi hsi hwk hS hl (fun iv' H locs ls pc hd hp hS => gx_vret B.exec B.bytes B.returns B.notSynchronized hS hp hd)
