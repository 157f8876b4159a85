def tabR (iv : Nat → Nat → Int32) (S : Nat) (s : BS) : Prop := (∀ x, x < S → iv 60 x = nI (s.1 x) - 1) ∧ ∀ i, i < s.2.2 → iv 61 i = nI (s.2.1 i)
theorem vm1_neg {a : Nat} (h : a < 2 ^ 30) : nI a - 1 < 0 ↔ a = 0 := by
  rcases Nat.eq_zero_or_pos a with q | q
  · subst q
    exact ⟨fun _ => rfl, fun _ => by decide⟩
  · obtain ⟨b, rfl⟩ : ∃ b, a = b + 1 := ⟨a - 1, by omega⟩
    rw [nI_pred]
    exact ⟨fun u => absurd u (nI_pos (by omega)), fun u => by omega⟩
theorem tabR_add {iv iv' : Nat → Nat → Int32} {S fr y : Nat} {s : BS} {v : Int32} (h : tabR iv S s) (hv : v = nI (s.1 fr + 1) - 1) (hy : y < S) (e60 : iv' 60 = up2 iv 60 y v 60) (e61 : iv' 61 = up2 iv 61 s.2.2 (nI y) 61) : tabR iv' S (add1 fr y s) := by
  refine ⟨fun x hx => ?_, fun i hi => ?_⟩
  · rw [e60, up2_eq]
    by_cases q : x = y
    · rw [if_pos ⟨rfl, q⟩, q, show (add1 fr y s).1 y = s.1 fr + 1 from va_up_self _ _ _, hv]
    · rw [if_neg (fun u => q u.2), show (add1 fr y s).1 x = s.1 x from va_up_ne _ _ q]
      exact h.1 x hx
  · have hi : i < s.2.2 + 1 := hi
    rw [e61, up2_eq]
    by_cases q : i = s.2.2
    · rw [if_pos ⟨rfl, q⟩, q, show (add1 fr y s).2.1 s.2.2 = y from va_up_self _ _ _]
    · rw [if_neg (fun u => q u.2), show (add1 fr y s).2.1 i = s.2.1 i from va_up_ne _ _ q]
      exact h.2 i (by omega)
theorem le1_bad {x : Int32} (h0 : ¬ x = 0) (h1 : ¬ x = 1) (hn : ¬ x < 0) (h : x ≤ nI 1) : False := by
  obtain ⟨k, hk, e⟩ := nI_of hn
  rw [e] at h h0 h1
  rw [nI_leI hk (by decide)] at h
  rcases Nat.eq_zero_or_pos k with q | q
  · rw [q] at h0; exact h0 rfl
  · rw [show k = 1 by omega] at h1; exact h1 rfl
theorem inX7_build_RX7 : ∀ {w : Cond}, w ∈ u_ws RX7 TX7 23 → w ∈ wsX7_build := fun {w} h => by first | exact List.mem_cons_of_mem _ (List.mem_append_right _ h) | (revert h; revert w; show ∀ w ∈ u_ws RX7 TX7 23, w ∈ wsX7_build; decide +kernel)
set_option maxHeartbeats 1000000 in
set_option maxRecDepth 100000 in
theorem bd_X7_build {p : Program} {l : Launch} {e : Env} {R : Room} {s : State} {m : MethodId} {args : Array Value} {below : List Frame} {meth : Method} {c : Code} {H : Heap} {locs : List Loc} {cells slots : Nat} {Q : State → Prop} {ls : Array Slot} {D : va_G} {A : Nat → Prop} {H0 : Heap} {cA : Nat → ClassId} {o : Nat → Int64} {ad ln : Nat → Nat} {iv : Nat → Nat → Int32} {n : Nat} {k9 mc9 P c9 T S8 g0 : Nat} {pc9 rp : Nat → Nat} {G9 Ad bk : Nat → Nat → Nat}
    (F : gF p s m meth c cX7_build 9 RX7 wsX7_build args (some .int)) (hRf : 3 ≤ R.frames) (hRl : 68 ≤ R.locals) (hRc : cells ≤ R.cells) (hRs : slots ≤ R.slots) (hK : va_K D vwCl (gT cA) s) (hN : NW s) (hA : ∀ q, H0.size ≤ q → A q) (hn : 68 ≤ n) (hln : ∀ k, ln k < 2 ^ 31) (hRn : rln ln) (hc9 : iv 53 7 = nI c9) (hc4 : c9 ≤ 4) (hT0 : iv 53 2 = nI T) (hT1 : 0 < T) (hT3 : T ≤ 3) (hP0 : iv 53 1 = nI P) (hP : P ≤ 8) (hpc : ∀ i, i < c9 → iv 57 i = nI (pc9 i)) (hpi : inj pc9 P c9) (hmc : iv 53 3 = nI mc9) (hmc6 : mc9 ≤ 6) (hmv : ∀ j, j < mc9 → rmove iv j P T (G9 j) (Ad j) ∧ inj (G9 j) P P) (hNo : ∀ j, j < mc9 → ∃ N0, 1 ≤ N0 ∧ N0 ≤ 63 ∧ hmB P T (G9 j) (Ad j) N0 = true) (hrp : ∀ j, j < mc9 → rp j = if k9 = 0 then 1 else ordr P T (G9 j) (Ad j) - 1) (hk9 : k9 < 2) (hS8 : S8 = ff P c9 * T ^ c9) (hS9 : S8 ≤ 136080) (hg0 : g0 = num P T c9 pc9 (fun _ => 0)) (hbk : ∀ j, j < mc9 → ∀ x, bk j x = bkN P T c9 (G9 j) (Ad j) x)
    (hS : gS D cA A H0 o ad ln iv n H locs) (hl : lv_has ls 9 [(0, .ref (ad 53)), (1, .int (nI k9))])
    (kret : ∀ (r : Int32) (iv' : Nat → Nat → Int32) (H : Heap) (locs : List Loc) (ls : Array Slot) (pc : Nat), decode cX7_build pc = .ok (.ireturn, 1) → ((iv' 53 0 = 0 ∧ iv' 53 12 = 1 ∧ iv' 53 13 = nI k9 ∧ iv' 53 14 = nI S8 ∧ ∀ j, j ≠ 0 → j ≠ 12 → j ≠ 13 → j ≠ 14 → iv' 53 j = iv 53 j) ∧ (∀ x, x < S8 → iv' 60 x = nI ((bfsR bk rp mc9 (bs0 g0) S8).1 x) - 1) ∧ r = nI ((bfsR bk rp mc9 (bs0 g0) S8).1 ((bfsR bk rp mc9 (bs0 g0) S8).2.1 ((bfsR bk rp mc9 (bs0 g0) S8).2.2 - 1))) - 1 ∧ ∀ q, q ≠ 53 → q ≠ 58 → q ≠ 59 → q ≠ 60 → q ≠ 61 → iv' q = iv q) → gS D cA A H0 o ad ln iv' n H locs → W p l e R s m args below meth c H locs cells slots Q (F0 m pc ls [.int r])) :
    W p l e R s m args below meth c H locs cells slots Q (F0 m 0 ls []) := by
  obtain ⟨hx, hb, hml, hown, hts, hr, hlocks⟩ := F
  have hRn9 := hRn
  obtain ⟨r54, r55, r56, r57, r58, r59, r60, r61, r62, r63, r64, r65, r66⟩ := hRn
  have hcP := inj_le_P hpi
  have hgl : g0 < S8 := by rw [hg0, hS8]; exact num_lt hpi (fun _ _ => hT1)
  have hbS : ∀ j, j < mc9 → ∀ x, x < S8 → bk j x < S8 := fun j hj x _ => by rw [hbk j hj, hS8]; exact bkN_lt hT1 hcP (hmv j hj).2
  have hZ := fun i => Zb_bfsR (rp := rp) hgl hbS i
  refine lv_aload_n hx hb dX7_build_0 rfl (lv_at hl 0 rfl) ?_
  refine lv_iconst (v := nI 0) hx hb dX7_build_1 (by decide) ?_
  refine gx_put (ci := 10) (x := nI 0) (ty := .int) (C := RX7) (T := TX7) (N := 23) hx hb hts (fun _ h => inX7_build_RX7 h) tyX7 tyX7_ok nmX7 hown hK hS 53 (by omega) rfl rfl 0 (by decide) (hts (.fieldLink RX7 58 "CosetTablesModel" "thrown" "I") (by decide +kernel)) rfl (by decide +kernel) rfl rfl (Nat.le_of_ble_eq_true rfl) rfl dX7_build_2 (fun H locs hS => ?_)
  obtain ⟨iv0, eiv0⟩ : ∃ z, z = up2 iv 53 0 (nI 0) := ⟨_, rfl⟩
  rw [← eiv0] at hS
  refine lv_iload_n hx hb dX7_build_5 rfl (lv_at hl 1 rfl) ?_
  refine lv_if_lt (tgt := 14) hx hb dX7_build_6 (by decide) (fun c_6 => ?_) (fun c_6 => ?_)
  · skip
    rw [show (0 : Int32) = nI 0 from rfl] at c_6
    rw [nI_ltI (by omega) (by omega)] at c_6
    omega
  · skip
    rw [show (0 : Int32) = nI 0 from rfl] at c_6
    rw [nI_ltI (by omega) (by omega)] at c_6
    refine lv_iload_n hx hb dX7_build_9 rfl (lv_at hl 1 rfl) ?_
    refine lv_iconst (v := nI 1) hx hb dX7_build_10 (by decide) ?_
    refine lv_icmp_le (tgt := 16) hx hb dX7_build_11 (by decide) (fun c_11 => ?_) (fun c_11 => ?_)
    · skip
      rw [nI_leI (by omega) (by omega)] at c_11
      refine lv_aload_n hx hb dX7_build_16 rfl (lv_at hl 0 rfl) ?_
      refine lv_aload_n hx hb dX7_build_17 rfl (lv_at hl 0 rfl) ?_
      refine gc_i (gx_runV (As := []) (rest := [.ref (ad 53)]) ⟨hx, hb, hml, hown, hts⟩ hK hN hS 53 (by omega) rfl rfl (ct_X7_countStates l D cA o ad ln n H.size iv0 (P := P) (c9 := c9) (T := T) hn hln (by rw [eiv0, up2_n (by decide)]; exact hc9) hc4 (by rw [eiv0, up2_n (by decide)]; exact hT0) hT1 hT3 (by rw [eiv0, up2_n (by decide)]; exact hP0) hP hcP) (cwV 0 hts gX7_build_X7_countStates rfl rfl rfl (by decide +kernel) ⟨gle hRf rfl, gle hRl rfl⟩) rfl rfl hl.1 rfl (lv_room (Nat.le_of_ble_eq_true rfl)) dX7_build_18 ⟨hRc, hRs⟩) hS hA (fun y iv1 H locs hp1 hS => ?_)
      obtain ⟨ey, ev1⟩ := hp1
      rw [ev1] at hS
      rw [← hS8] at ey
      refine gx_as (y := nI S8) ey ?_
      skip
      refine gx_put (ci := 10) (x := nI S8) (ty := .int) (C := RX7) (T := TX7) (N := 23) hx hb hts (fun _ h => inX7_build_RX7 h) tyX7 tyX7_ok nmX7 hown hK hS 53 (by omega) rfl rfl 14 (by decide) (hts (.fieldLink RX7 116 "CosetTablesModel" "size" "I") (by decide +kernel)) rfl (by decide +kernel) rfl rfl (Nat.le_of_ble_eq_true rfl) rfl dX7_build_21 (fun H locs hS => ?_)
      obtain ⟨iv2, eiv2⟩ : ∃ z, z = up2 iv0 53 14 (nI S8) := ⟨_, rfl⟩
      rw [← eiv2] at hS
      refine lv_iconst (v := nI 0) hx hb dX7_build_24 (by decide) ?_
      refine lv_istore_n (lv' := [(2, .int (nI 0)), (0, .ref (ad 53)), (1, .int (nI k9))]) hx hb dX7_build_25 rfl hl (by decide) rfl (fun ls hl => ?_)
      have L26 : ∀ (N : Nat) (i : Nat) (iv3 : Nat → Nat → Int32), S8 - i < N → (i ≤ S8) → (∀ x, x < i → iv3 60 x = (-1)) → (∀ q, q ≠ 60 → iv3 q = iv2 q) → ∀ (H : Heap) (locs : List Loc) (ls : Array Slot), gS D cA A H0 o ad ln iv3 n H locs → lv_has ls 9 [(0, .ref (ad 53)), (1, .int (nI k9)), (2, .int (nI i))] → W p l e R s m args below meth c H locs cells slots Q (F0 m 26 ls []) := by
        intro N
        induction N with
        | zero => intro i iv3 hm; exact absurd hm (Nat.not_lt_zero _)
        | succ N ih26 =>
          intro i iv3 hm hi h1 h3 H locs ls hS hl
          refine lv_iload_n hx hb dX7_build_26 rfl (lv_at hl 2 rfl) ?_
          refine lv_aload_n hx hb dX7_build_27 rfl (lv_at hl 0 rfl) ?_
          refine gx_get (ci := 10) (v := .int (iv3 53 14)) (C := RX7) (T := TX7) (N := 23) hx hb hts (fun _ h => inX7_build_RX7 h) hown hK hS 53 (by omega) rfl rfl 14 (by decide) (hts (.fieldLink RX7 116 "CosetTablesModel" "size" "I") (by decide +kernel)) rfl dX7_build_28 ?_
          refine gx_as (y := nI S8) (by rw [h3 53 (by decide), eiv2, up2_s]) ?_
          refine lv_icmp_ge (tgt := 47) hx hb dX7_build_31 (by decide) (fun c_31 => ?_) (fun c_31 => ?_)
          · skip
            rw [nI_leI (by omega) (by omega)] at c_31
            have ei : i = S8 := by omega
            rw [ei] at h1
            have k53 : ∀ j, j ≠ 0 → j ≠ 14 → iv2 53 j = iv 53 j := fun j x1 x2 => by rw [eiv2, up2_n (fun u => x2 u.2), eiv0, up2_n (fun u => x1 u.2)]
            refine lv_iconst (v := nI 1) hx hb dX7_build_47 (by decide) ?_
            refine lv_istore_n (lv' := [(2, .int (nI 1)), (0, .ref (ad 53)), (1, .int (nI k9))]) hx hb dX7_build_48 rfl hl (by decide) rfl (fun ls hl => ?_)
            refine lv_aload_n hx hb dX7_build_49 rfl (lv_at hl 1 rfl) ?_
            refine gx_get (ci := 10) (v := .ref (ad 61)) (C := RX7) (T := TX7) (N := 23) hx hb hts (fun _ h => inX7_build_RX7 h) hown hK hS 53 (by omega) rfl rfl 16 (by decide) (hts (.fieldLink RX7 33 "CosetTablesModel" "queue" "[I") (by decide +kernel)) rfl dX7_build_50 ?_
            refine lv_iconst (v := nI 0) hx hb dX7_build_53 (by decide) ?_
            refine lv_aload_n hx hb dX7_build_54 rfl (lv_at hl 1 rfl) ?_
            refine gc_i (gx_runV (As := []) (rest := [.int (nI 0), .ref (ad 61)]) ⟨hx, hb, hml, hown, hts⟩ hK hN hS 53 (by omega) rfl rfl (ct_X7_goal l D cA o ad ln n H.size iv3 (P := P) (c9 := c9) (T := T) (pc9 := pc9) hn hln hRn9 (by rw [h3 53 (by decide), k53 7 (by decide) (by decide)]; exact hc9) hc4 (by rw [h3 53 (by decide), k53 2 (by decide) (by decide)]; exact hT0) hT1 hT3 (by rw [h3 53 (by decide), k53 1 (by decide) (by decide)]; exact hP0) hP (by rw [h3 57 (by decide), eiv2, up2_row (by decide), eiv0, up2_row (by decide)]; exact hpc) hpi) (cwV 0 hts gX7_build_X7_goal rfl rfl rfl (by decide +kernel) ⟨gle hRf rfl, gle hRl rfl⟩) rfl rfl hl.1 rfl (lv_room (Nat.le_of_ble_eq_true rfl)) dX7_build_55 ⟨hRc, hRs⟩) hS hA (fun y6 iv6 H locs hp6 hS => ?_)
            obtain ⟨ey6, _, f6⟩ := hp6
            rw [← hg0] at ey6
            refine gx_as (y := nI g0) ey6 ?_
            refine gx_iastn hx hb hK hS 61 (by omega) (by decide) 0 (by omega) (hln _) dX7_build_58 (fun H locs hS => ?_)
            obtain ⟨iv7, eiv7⟩ : ∃ z, z = up2 iv6 61 0 (nI g0) := ⟨_, rfl⟩
            rw [← eiv7] at hS
            refine lv_aload_n hx hb dX7_build_59 rfl (lv_at hl 1 rfl) ?_
            refine gx_get (ci := 10) (v := .ref (ad 60)) (C := RX7) (T := TX7) (N := 23) hx hb hts (fun _ h => inX7_build_RX7 h) hown hK hS 53 (by omega) rfl rfl 15 (by decide) (hts (.fieldLink RX7 30 "CosetTablesModel" "values" "[I") (by decide +kernel)) rfl dX7_build_60 ?_
            refine lv_aload_n hx hb dX7_build_63 rfl (lv_at hl 1 rfl) ?_
            refine gx_get (ci := 10) (v := .ref (ad 61)) (C := RX7) (T := TX7) (N := 23) hx hb hts (fun _ h => inX7_build_RX7 h) hown hK hS 53 (by omega) rfl rfl 16 (by decide) (hts (.fieldLink RX7 33 "CosetTablesModel" "queue" "[I") (by decide +kernel)) rfl dX7_build_64 ?_
            refine lv_iconst (v := nI 0) hx hb dX7_build_67 (by decide) ?_
            refine gx_ialdn hx hb hK hS 61 (by omega) (by decide) 0 (by omega) (hln _) dX7_build_68 ?_
            refine gx_as (y := nI g0) (by rw [eiv7, up2_s]) ?_
            refine lv_iconst (v := nI 0) hx hb dX7_build_69 (by decide) ?_
            refine gx_iastn hx hb hK hS 60 (by omega) (by decide) g0 (by omega) (hln _) dX7_build_70 (fun H locs hS => ?_)
            obtain ⟨iv8, eiv8⟩ : ∃ z, z = up2 iv7 60 g0 (nI 0) := ⟨_, rfl⟩
            rw [← eiv8] at hS
            have h8 : ∀ q, q ≠ 58 → q ≠ 59 → q ≠ 60 → q ≠ 61 → iv8 q = iv2 q := fun q x1 x2 x3 x4 => by rw [eiv8, up2_row x3, eiv7, up2_row x4, f6 q x1 x2, h3 q x3]
            have htab : tabR iv8 S8 (bs0 g0) := by
              refine ⟨fun x hx => ?_, fun j hj => ?_⟩
              · rw [eiv8, up2_eq, eiv7, up2_row (by decide), f6 60 (by decide) (by decide)]
                show _ = nI (if x = g0 then 1 else 0) - 1
                by_cases q : x = g0
                · rw [if_pos ⟨rfl, q⟩, if_pos q]; decide
                · rw [if_neg (fun u => q u.2), if_neg q, h1 x hx]; decide
              · have hj : j < 1 := hj
                rw [eiv8, up2_row (by decide), eiv7, show j = 0 by omega, up2_s]
                rfl
            refine lv_iconst (v := nI 0) hx hb dX7_build_71 (by decide) ?_
            refine lv_istore_n (lv' := [(3, .int (nI 0)), (2, .int (nI 1)), (0, .ref (ad 53)), (1, .int (nI k9))]) hx hb dX7_build_72 rfl hl (by decide) rfl (fun ls hl => ?_)
            refine lv_iconst (v := nI 0) hx hb dX7_build_73 (by decide) ?_
            refine lv_istore (lv' := [(4, .int (nI 0)), (3, .int (nI 0)), (2, .int (nI 1)), (0, .ref (ad 53)), (1, .int (nI k9))]) hx hb dX7_build_74 hl (by decide) rfl (fun ls hl => ?_)
            have L76 : ∀ (N : Nat) (i : Nat) (v8 : Int32) (iv9 : Nat → Nat → Int32), S8 - i < N → (i ≤ (bfsR bk rp mc9 (bs0 g0) i).2.2) → (tabR iv9 S8 (bfsR bk rp mc9 (bs0 g0) i)) → (v8 = if i = 0 then 0 else nI ((bfsR bk rp mc9 (bs0 g0) i).1 ((bfsR bk rp mc9 (bs0 g0) i).2.1 (i - 1))) - 1) → (∀ q, q ≠ 58 → q ≠ 59 → q ≠ 60 → q ≠ 61 → iv9 q = iv2 q) → ∀ (H : Heap) (locs : List Loc) (ls : Array Slot), gS D cA A H0 o ad ln iv9 n H locs → lv_has ls 9 [(0, .ref (ad 53)), (1, .int (nI k9)), (2, .int (nI ((bfsR bk rp mc9 (bs0 g0) i).2.2))), (3, .int v8), (4, .int (nI i))] → W p l e R s m args below meth c H locs cells slots Q (F0 m 76 ls []) := by
              intro N
              induction N with
              | zero => intro i v8 iv9 hm; exact absurd hm (Nat.not_lt_zero _)
              | succ N ih76 =>
                intro i v8 iv9 hm hi ht9 hv8 h9 H locs ls hS hl
                obtain ⟨⟨z1, z2, z3, z4, z5, z6, z7, z8⟩, z9⟩ := hZ i
                have hC := bOk_C z1
                refine lv_iload hx hb dX7_build_76 (lv_at hl 4 rfl) ?_
                refine lv_iload_n hx hb dX7_build_78 rfl (lv_at hl 2 rfl) ?_
                refine lv_icmp_ge (tgt := 201) hx hb dX7_build_79 (by decide) (fun c_79 => ?_) (fun c_79 => ?_)
                · skip
                  rw [nI_leI (by omega) (by omega)] at c_79
                  refine lv_aload_n hx hb dX7_build_201 rfl (lv_at hl 0 rfl) ?_
                  refine lv_iconst (v := nI 1) hx hb dX7_build_202 (by decide) ?_
                  have eC : i = (bfsR bk rp mc9 (bs0 g0) i).2.2 := by omega
                  have hBS : bfsR bk rp mc9 (bs0 g0) S8 = (bfsR bk rp mc9 (bs0 g0) i) := bfsR_stop (by omega) (by omega)
                  have hC1 : 0 < (bfsR bk rp mc9 (bs0 g0) i).2.2 := by
                    obtain ⟨j8, j81, _⟩ := z3 g0 hgl (by rw [z8]; decide)
                    omega
                  refine gx_put (ci := 10) (x := nI 1) (ty := .boolean) (C := RX7) (T := TX7) (N := 23) hx hb hts (fun _ h => inX7_build_RX7 h) tyX7 tyX7_ok nmX7 hown hK hS 53 (by omega) rfl rfl 12 (by decide) (hts (.fieldLink RX7 64 "CosetTablesModel" "isBuilt" "Z") (by decide +kernel)) rfl (by decide +kernel) (gx_nz (by first | exact Or.inl rfl | exact Or.inr rfl | assumption)) (gx_fz (by first | exact Or.inl rfl | exact Or.inr rfl | assumption)) (Nat.le_of_ble_eq_true rfl) rfl dX7_build_203 (fun H locs hS => ?_)
                  obtain ⟨iv20, eiv20⟩ : ∃ z, z = up2 iv9 53 12 (nI 1) := ⟨_, rfl⟩
                  rw [← eiv20] at hS
                  refine lv_aload_n hx hb dX7_build_206 rfl (lv_at hl 0 rfl) ?_
                  refine lv_iload_n hx hb dX7_build_207 rfl (lv_at hl 1 rfl) ?_
                  refine gx_put (ci := 10) (x := nI k9) (ty := .int) (C := RX7) (T := TX7) (N := 23) hx hb hts (fun _ h => inX7_build_RX7 h) tyX7 tyX7_ok nmX7 hown hK hS 53 (by omega) rfl rfl 13 (by decide) (hts (.fieldLink RX7 126 "CosetTablesModel" "measured" "I") (by decide +kernel)) rfl (by decide +kernel) rfl rfl (Nat.le_of_ble_eq_true rfl) rfl dX7_build_208 (fun H locs hS => ?_)
                  obtain ⟨iv21, eiv21⟩ : ∃ z, z = up2 iv20 53 13 (nI k9) := ⟨_, rfl⟩
                  rw [← eiv21] at hS
                  refine lv_iload_n hx hb dX7_build_211 rfl (lv_at hl 3 rfl) ?_
                  exact kret _ iv21 _ _ _ _ dX7_build_212 (⟨⟨by rw [eiv21, up2_n (by decide), eiv20, up2_n (by decide), h9 53 (by decide) (by decide) (by decide) (by decide), eiv2, up2_n (by decide), eiv0, up2_s]; rfl, by rw [eiv21, up2_n (by decide), eiv20, up2_s]; rfl, by rw [eiv21, up2_s], by rw [eiv21, up2_n (by decide), eiv20, up2_n (by decide), h9 53 (by decide) (by decide) (by decide) (by decide), eiv2, up2_s], fun j x1 x2 x3 x4 => by rw [eiv21, up2_n (fun u => x3 u.2), eiv20, up2_n (fun u => x2 u.2), h9 53 (by decide) (by decide) (by decide) (by decide)]; exact k53 j x1 x4⟩, fun x hx => by rw [eiv21, up2_row (by decide), eiv20, up2_row (by decide), hBS]; exact ht9.1 x hx, by rw [hv8, if_neg (by omega), hBS, ← eC], fun q x1 x2 x3 x4 x5 => by rw [eiv21, up2_row x1, eiv20, up2_row x1, h9 q x2 x3 x4 x5, eiv2, up2_row x1, eiv0, up2_row x1]⟩) hS
                · skip
                  rw [nI_leI (by omega) (by omega)] at c_79
                  have hlt : i < (bfsR bk rp mc9 (bs0 g0) i).2.2 := by omega
                  obtain ⟨fr, hfr⟩ : ∃ fr, fr = (bfsR bk rp mc9 (bs0 g0) i).2.1 i := ⟨_, rfl⟩
                  have hfS : fr < S8 := by rw [hfr]; exact z1.2.2 i hlt
                  have hfr0 : (bfsR bk rp mc9 (bs0 g0) i).1 fr ≠ 0 := by rw [hfr]; exact z2 i hlt
                  have hz1 := z1.2.1 fr hfS
                  refine lv_aload_n hx hb dX7_build_82 rfl (lv_at hl 0 rfl) ?_
                  refine gx_get (ci := 10) (v := .ref (ad 60)) (C := RX7) (T := TX7) (N := 23) hx hb hts (fun _ h => inX7_build_RX7 h) hown hK hS 53 (by omega) rfl rfl 15 (by decide) (hts (.fieldLink RX7 30 "CosetTablesModel" "values" "[I") (by decide +kernel)) rfl dX7_build_83 ?_
                  refine lv_aload_n hx hb dX7_build_86 rfl (lv_at hl 0 rfl) ?_
                  refine gx_get (ci := 10) (v := .ref (ad 61)) (C := RX7) (T := TX7) (N := 23) hx hb hts (fun _ h => inX7_build_RX7 h) hown hK hS 53 (by omega) rfl rfl 16 (by decide) (hts (.fieldLink RX7 33 "CosetTablesModel" "queue" "[I") (by decide +kernel)) rfl dX7_build_87 ?_
                  refine lv_iload hx hb dX7_build_90 (lv_at hl 4 rfl) ?_
                  refine gx_ialdn hx hb hK hS 61 (by omega) (by decide) i (by omega) (hln _) dX7_build_92 ?_
                  refine gx_as (y := nI fr) (by rw [ht9.2 i hlt, hfr]) ?_
                  refine gx_ialdn hx hb hK hS 60 (by omega) (by decide) fr (by omega) (hln _) dX7_build_93 ?_
                  refine gx_as (y := (nI ((bfsR bk rp mc9 (bs0 g0) i).1 fr) - 1)) (ht9.1 fr hfS) ?_
                  refine gx_as (y := (nI ((bfsR bk rp mc9 (bs0 g0) i).1 fr) - 1)) rfl ?_
                  refine lv_istore_n (lv' := [(3, .int (nI ((bfsR bk rp mc9 (bs0 g0) i).1 fr) - 1)), (0, .ref (ad 53)), (1, .int (nI k9)), (2, .int (nI ((bfsR bk rp mc9 (bs0 g0) i).2.2))), (4, .int (nI i))]) hx hb dX7_build_94 rfl hl (by decide) rfl (fun ls hl => ?_)
                  refine lv_iconst (v := nI 0) hx hb dX7_build_95 (by decide) ?_
                  refine lv_istore (lv' := [(5, .int (nI 0)), (3, .int (nI ((bfsR bk rp mc9 (bs0 g0) i).1 fr) - 1)), (0, .ref (ad 53)), (1, .int (nI k9)), (2, .int (nI ((bfsR bk rp mc9 (bs0 g0) i).2.2))), (4, .int (nI i))]) hx hb dX7_build_96 hl (by decide) rfl (fun ls hl => ?_)
                  have L98 : ∀ (N : Nat) (j : Nat) (iv10 : Nat → Nat → Int32), mc9 - j < N → (j ≤ mc9) → (tabR iv10 S8 (expR bk rp fr j (bfsR bk rp mc9 (bs0 g0) i))) → (∀ q, q ≠ 58 → q ≠ 59 → q ≠ 60 → q ≠ 61 → iv10 q = iv2 q) → ∀ (H : Heap) (locs : List Loc) (ls : Array Slot), gS D cA A H0 o ad ln iv10 n H locs → lv_has ls 9 [(0, .ref (ad 53)), (1, .int (nI k9)), (2, .int (nI ((expR bk rp fr j (bfsR bk rp mc9 (bs0 g0) i)).2.2))), (3, .int (nI ((bfsR bk rp mc9 (bs0 g0) i).1 fr) - 1)), (4, .int (nI i)), (5, .int (nI j))] → W p l e R s m args below meth c H locs cells slots Q (F0 m 98 ls []) := by
                    intro N
                    induction N with
                    | zero => intro j iv10 hm; exact absurd hm (Nat.not_lt_zero _)
                    | succ N ih98 =>
                      intro j iv10 hm hj t10 h10 H locs ls hS hl
                      obtain ⟨hJ2, hmo2, _⟩ := Jb_expR (rp := rp) hbS ⟨z1, z2, z3, z4, z5, z6, z7, z8⟩ hlt hfr.symm j hj
                      have o53 : iv10 53 = iv2 53 := h10 53 (by decide) (by decide) (by decide) (by decide)
                      refine lv_iload hx hb dX7_build_98 (lv_at hl 5 rfl) ?_
                      refine lv_aload_n hx hb dX7_build_100 rfl (lv_at hl 0 rfl) ?_
                      refine gx_get (ci := 10) (v := .int (iv10 53 3)) (C := RX7) (T := TX7) (N := 23) hx hb hts (fun _ h => inX7_build_RX7 h) hown hK hS 53 (by omega) rfl rfl 3 (by decide) (hts (.fieldLink RX7 61 "CosetTablesModel" "moves" "I") (by decide +kernel)) rfl dX7_build_101 ?_
                      refine gx_as (y := nI mc9) (by rw [o53, k53 3 (by decide) (by decide)]; exact hmc) ?_
                      refine lv_icmp_ge (tgt := 195) hx hb dX7_build_104 (by decide) (fun c_104 => ?_) (fun c_104 => ?_)
                      · skip
                        rw [nI_leI (by omega) (by omega)] at c_104
                        have ej : j = mc9 := by omega
                        subst ej
                        have hst : bfsR bk rp j (bs0 g0) (i + 1) = expR bk rp fr j (bfsR bk rp j (bs0 g0) i) := by
                          show (if i < (bfsR bk rp j (bs0 g0) i).2.2 then _ else _) = _
                          rw [if_pos hlt, hfr]
                        rw [← hst] at hl
                        rw [hfr] at hl
                        refine lv_iinc (v := nI (i + 1)) (lv' := [(4, .int (nI (i + 1))), (0, .ref (ad 53)), (1, .int (nI k9)), (2, .int (nI ((bfsR bk rp j (bs0 g0) (i + 1)).2.2))), (3, .int (nI ((bfsR bk rp j (bs0 g0) i).1 ((bfsR bk rp j (bs0 g0) i).2.1 i)) - 1)), (5, .int (nI j))]) hx hb dX7_build_195 hl (k := 4) rfl (nI_1 i) (by decide) rfl (fun ls hl => ?_)
                        refine lv_goto (tgt := 76) hx hb dX7_build_198 (by decide) ?_
                        exact ih76 (i + 1) _ iv10 (by omega) (by rw [hst]; exact Nat.lt_of_lt_of_le hlt hmo2.1) (by rw [hst]; exact t10) (by rw [if_neg (by omega), hst, Nat.add_sub_cancel, hmo2.2.1 i hlt, hmo2.2.2 _ (z2 i hlt)]) h10 _ _ _ hS (lv_sub hl [1, 2, 3, 4, 0] rfl)
                      · skip
                        rw [nI_leI (by omega) (by omega)] at c_104
                        obtain ⟨N0, n1, n2, n3⟩ := hNo j (by omega)
                        have hor := ordr_in P T (G9 j) (Ad j)
                        have hrj := hrp j (by omega)
                        have hrj64 : rp j ≤ 64 := by rw [hrj]; split <;> omega
                        have hmv10 : rmove iv10 j P T (G9 j) (Ad j) := fun q hq => by rw [h10 54 (by decide) (by decide) (by decide) (by decide), h10 55 (by decide) (by decide) (by decide) (by decide), eiv2, up2_row (by decide), up2_row (by decide), eiv0, up2_row (by decide), up2_row (by decide)]; exact (hmv j (by omega)).1 q hq
                        refine lv_aload_n hx hb dX7_build_107 rfl (lv_at hl 0 rfl) ?_
                        refine lv_iload hx hb dX7_build_108 (lv_at hl 5 rfl) ?_
                        refine lv_iload_n hx hb dX7_build_110 rfl (lv_at hl 1 rfl) ?_
                        refine gc_i (gx_runV (As := [.int (nI j), .int (nI k9)]) (rest := []) ⟨hx, hb, hml, hown, hts⟩ hK hN hS 53 (by omega) rfl rfl (ct_X7_times l D cA o ad ln n H.size iv10 (m8 := j) (k9 := k9) (P := P) (T := T) (N0 := N0) (G9 := G9 j) (Ad := Ad j) hn hln hRn9 (by rw [o53, k53 2 (by decide) (by decide)]; exact hT0) hT1 hT3 (by rw [o53, k53 1 (by decide) (by decide)]; exact hP0) hP hmv10 (by omega) n1 n2 n3 hk9) (cwV 2 hts gX7_build_X7_times rfl rfl rfl (by decide +kernel) ⟨gle hRf rfl, gle hRl rfl⟩) rfl rfl hl.1 rfl (lv_room (Nat.le_of_ble_eq_true rfl)) dX7_build_111 ⟨hRc, hRs⟩) hS hA (fun y3 iv13 H locs hp13 hS => ?_)
                        obtain ⟨ey3, ev13⟩ := hp13
                        rw [ev13] at hS
                        rw [← hrj] at ey3
                        refine gx_as (y := nI (rp j)) ey3 ?_
                        skip
                        refine lv_istore (lv' := [(6, .int (nI (rp j))), (0, .ref (ad 53)), (1, .int (nI k9)), (2, .int (nI ((expR bk rp fr j (bfsR bk rp mc9 (bs0 g0) i)).2.2))), (3, .int (nI ((bfsR bk rp mc9 (bs0 g0) i).1 fr) - 1)), (4, .int (nI i)), (5, .int (nI j))]) hx hb dX7_build_114 hl (by decide) rfl (fun ls hl => ?_)
                        refine lv_aload_n hx hb dX7_build_116 rfl (lv_at hl 1 rfl) ?_
                        refine lv_aload_n hx hb dX7_build_117 rfl (lv_at hl 1 rfl) ?_
                        refine gx_get (ci := 10) (v := .ref (ad 61)) (C := RX7) (T := TX7) (N := 23) hx hb hts (fun _ h => inX7_build_RX7 h) hown hK hS 53 (by omega) rfl rfl 16 (by decide) (hts (.fieldLink RX7 33 "CosetTablesModel" "queue" "[I") (by decide +kernel)) rfl dX7_build_118 ?_
                        refine lv_iload hx hb dX7_build_121 (lv_at hl 5 rfl) ?_
                        refine gx_ialdn hx hb hK hS 61 (by omega) (by decide) i (by omega) (hln _) dX7_build_123 ?_
                        refine gx_as (y := nI fr) (by rw [t10.2 i (Nat.lt_of_lt_of_le hlt hmo2.1), hmo2.2.1 i hlt, hfr]) ?_
                        refine gc_v (gx_runV (As := [.int (nI fr)]) (rest := []) ⟨hx, hb, hml, hown, hts⟩ hK hN hS 53 (by omega) rfl rfl (ct_X7_take l D cA o ad ln n H.size iv10 (x := fr) (P := P) (c9 := c9) (T := T) hn hln hRn9 (by rw [o53, k53 7 (by decide) (by decide)]; exact hc9) hc4 (by rw [o53, k53 2 (by decide) (by decide)]; exact hT0) hT1 hT3 (by rw [o53, k53 1 (by decide) (by decide)]; exact hP0) hP hcP (by omega)) (cwV 1 hts gX7_build_X7_take rfl rfl rfl (by decide +kernel) ⟨gle hRf rfl, gle hRl rfl⟩) rfl rfl hl.1 rfl (lv_room (Nat.le_of_ble_eq_true rfl)) dX7_build_124 ⟨hRc, hRs⟩) hS hA (fun iv11 H locs hp11 hS => ?_)
                        obtain ⟨a11, f11⟩ := hp11
                        have t11 : tabR iv11 S8 (expR bk rp fr j (bfsR bk rp mc9 (bs0 g0) i)) := ⟨fun x hx => by rw [f11 60 (by decide) (by decide)]; exact t10.1 x hx, fun q hq => by rw [f11 61 (by decide) (by decide)]; exact t10.2 q hq⟩
                        have h11 : ∀ q, q ≠ 58 → q ≠ 59 → q ≠ 60 → q ≠ 61 → iv11 q = iv2 q := fun q x1 x2 x3 x4 => by rw [f11 q x1 x2, h10 q x1 x2 x3 x4]
                        refine lv_iconst (v := nI 0) hx hb dX7_build_127 (by decide) ?_
                        refine lv_istore (lv' := [(7, .int (nI 0)), (6, .int (nI (rp j))), (0, .ref (ad 53)), (1, .int (nI k9)), (2, .int (nI ((expR bk rp fr j (bfsR bk rp mc9 (bs0 g0) i)).2.2))), (3, .int (nI ((bfsR bk rp mc9 (bs0 g0) i).1 fr) - 1)), (4, .int (nI i)), (5, .int (nI j))]) hx hb dX7_build_128 hl (by decide) rfl (fun ls hl => ?_)
                        have L130 : ∀ (N : Nat) (t8 x8 : Nat) (s8 : BS) (iv12 : Nat → Nat → Int32), rp j - t8 < N → (t8 ≤ rp j) → (sprR (bk j) fr (rp j) fr (expR bk rp fr j (bfsR bk rp mc9 (bs0 g0) i)) = sprR (bk j) fr (rp j - t8) x8 s8) → (x8 < S8) → (rAt iv12 c9 (dw P c9 (x8 / T ^ c9)) (dt T c9 x8)) → (bOk S8 s8) → (s8.1 fr = (bfsR bk rp mc9 (bs0 g0) i).1 fr) → (tabR iv12 S8 s8) → (∀ q, q ≠ 58 → q ≠ 59 → q ≠ 60 → q ≠ 61 → iv12 q = iv2 q) → ∀ (H : Heap) (locs : List Loc) (ls : Array Slot), gS D cA A H0 o ad ln iv12 n H locs → lv_has ls 9 [(0, .ref (ad 53)), (1, .int (nI k9)), (2, .int (nI s8.2.2)), (3, .int (nI ((bfsR bk rp mc9 (bs0 g0) i).1 fr) - 1)), (4, .int (nI i)), (5, .int (nI j)), (6, .int (nI (rp j))), (7, .int (nI t8))] → W p l e R s m args below meth c H locs cells slots Q (F0 m 130 ls []) := by
                          intro N
                          induction N with
                          | zero => intro t8 x8 s8 iv12 hm; exact absurd hm (Nat.not_lt_zero _)
                          | succ N ih130 =>
                            intro t8 x8 s8 iv12 hm ht8 hsp hx8 ha8 ho8 hd8 t12 h12 H locs ls hS hl
                            have hC8 := bOk_C ho8
                            have p53 : iv12 53 = iv2 53 := h12 53 (by decide) (by decide) (by decide) (by decide)
                            refine lv_iload hx hb dX7_build_130 (lv_at hl 7 rfl) ?_
                            refine lv_iload hx hb dX7_build_132 (lv_at hl 6 rfl) ?_
                            refine lv_icmp_ge (tgt := 189) hx hb dX7_build_134 (by decide) (fun c_134 => ?_) (fun c_134 => ?_)
                            · skip
                              rw [nI_leI (by omega) (by omega)] at c_134
                              have et8 : t8 = rp j := by omega
                              have hfin : expR bk rp fr (j + 1) (bfsR bk rp mc9 (bs0 g0) i) = s8 := by
                                show sprR (bk j) fr (rp j) fr (expR bk rp fr j (bfsR bk rp mc9 (bs0 g0) i)) = s8
                                rw [hsp, et8, Nat.sub_self]
                                rfl
                              rw [← hfin] at hl
                              refine lv_iinc (v := nI (j + 1)) (lv' := [(5, .int (nI (j + 1))), (0, .ref (ad 53)), (1, .int (nI k9)), (2, .int (nI ((expR bk rp fr (j + 1) (bfsR bk rp mc9 (bs0 g0) i)).2.2))), (3, .int (nI ((bfsR bk rp mc9 (bs0 g0) i).1 fr) - 1)), (4, .int (nI i)), (6, .int (nI (rp j))), (7, .int (nI t8))]) hx hb dX7_build_189 hl (k := 5) rfl (nI_1 j) (by decide) rfl (fun ls hl => ?_)
                              refine lv_goto (tgt := 98) hx hb dX7_build_192 (by decide) ?_
                              exact ih98 (j + 1) iv12 (by omega) (by omega) (by rw [show expR bk rp fr (j + 1) (bfsR bk rp mc9 (bs0 g0) i) = s8 from hfin]; exact t12) h12 _ _ _ hS (lv_sub hl [1, 2, 3, 4, 5, 0] rfl)
                            · skip
                              rw [nI_leI (by omega) (by omega)] at c_134
                              have esp : rp j - t8 = (rp j - (t8 + 1)) + 1 := by omega
                              obtain ⟨x9, hx9e⟩ : ∃ x9, x9 = bkN P T c9 (G9 j) (Ad j) x8 := ⟨_, rfl⟩
                              have hbx : bk j x8 = x9 := by rw [hbk j (by omega), hx9e]
                              have hx9 : x9 < S8 := by rw [← hbx]; exact hbS j (by omega) x8 hx8
                              have hmv12 : rmove iv12 j P T (G9 j) (Ad j) := fun q hq => by rw [h12 54 (by decide) (by decide) (by decide) (by decide), h12 55 (by decide) (by decide) (by decide) (by decide), eiv2, up2_row (by decide), up2_row (by decide), eiv0, up2_row (by decide), up2_row (by decide)]; exact (hmv j (by omega)).1 q hq
                              have hz8 := ho8.2.1 x9 hx9
                              obtain ⟨hdw1, _⟩ := dw_ok (y := x8 / T ^ c9) hcP
                              refine lv_aload_n hx hb dX7_build_137 rfl (lv_at hl 0 rfl) ?_
                              refine lv_iload hx hb dX7_build_138 (lv_at hl 5 rfl) ?_
                              refine gc_v (gx_runV (As := [.int (nI j)]) (rest := []) ⟨hx, hb, hml, hown, hts⟩ hK hN hS 53 (by omega) rfl rfl (ct_X7_actBack l D cA o ad ln n H.size iv12 (m8 := j) (P := P) (c9 := c9) (T := T) (w := dw P c9 (x8 / T ^ c9)) (t := dt T c9 x8) (G9 := G9 j) (Ad := Ad j) hn hln hRn9 (by rw [p53, k53 7 (by decide) (by decide)]; exact hc9) hc4 (by rw [p53, k53 2 (by decide) (by decide)]; exact hT0) hT1 hT3 (by rw [p53, k53 1 (by decide) (by decide)]; exact hP0) hP hmv12 (by omega) ha8.1 ha8.2 hdw1 (fun _ _ => dt_lt hT1) (hmv j (by omega)).2) (cwV 1 hts gX7_build_X7_actBack rfl rfl rfl (by decide +kernel) ⟨gle hRf rfl, gle hRl rfl⟩) rfl rfl hl.1 rfl (lv_room (Nat.le_of_ble_eq_true rfl)) dX7_build_140 ⟨hRc, hRs⟩) hS hA (fun iv14 H locs hp14 hS => ?_)
                              obtain ⟨b14, f14⟩ := hp14
                              have q53 : iv14 53 = iv2 53 := (f14 53 (by decide) (by decide)).trans p53
                              have hwi9 := inj_comp hdw1 (ginv_inj (hmv j (by omega)).2)
                              have htT9 : ∀ i, i < c9 → (dt T c9 x8 i + T - Ad j (ginv P (G9 j) (dw P c9 (x8 / T ^ c9) i))) % T < T := fun _ _ => Nat.mod_lt _ hT1
                              have a14 : rAt iv14 c9 (dw P c9 (x9 / T ^ c9)) (dt T c9 x9) := by
                                refine ⟨fun q hq => ?_, fun q hq => ?_⟩
                                · rw [b14.1 q hq, hx9e]
                                  unfold bkN
                                  rw [dw_num hT1 hwi9 htT9 hq]
                                · rw [b14.2 q hq, hx9e]
                                  unfold bkN
                                  rw [num_dt hT1 htT9 hq]
                              have t14 : tabR iv14 S8 s8 := ⟨fun x hx => by rw [f14 60 (by decide) (by decide)]; exact t12.1 x hx, fun q hq => by rw [f14 61 (by decide) (by decide)]; exact t12.2 q hq⟩
                              have h14 : ∀ q, q ≠ 58 → q ≠ 59 → q ≠ 60 → q ≠ 61 → iv14 q = iv2 q := fun q x1 x2 x3 x4 => by rw [f14 q x1 x2, h12 q x1 x2 x3 x4]
                              refine lv_aload_n hx hb dX7_build_143 rfl (lv_at hl 0 rfl) ?_
                              refine gc_i (gx_runV (As := []) (rest := []) ⟨hx, hb, hml, hown, hts⟩ hK hN hS 53 (by omega) rfl rfl (ct_X7_numberOf l D cA o ad ln n H.size iv14 (P := P) (c9 := c9) (T := T) (w := fun i => ginv P (G9 j) (dw P c9 (x8 / T ^ c9) i)) (t := fun i => (dt T c9 x8 i + T - Ad j (ginv P (G9 j) (dw P c9 (x8 / T ^ c9) i))) % T) hn hln hRn9 (by rw [q53, k53 7 (by decide) (by decide)]; exact hc9) hc4 (by rw [q53, k53 2 (by decide) (by decide)]; exact hT0) hT1 hT3 (by rw [q53, k53 1 (by decide) (by decide)]; exact hP0) hP b14.1 b14.2 hwi9 htT9) (cwV 0 hts gX7_build_X7_numberOf rfl rfl rfl (by decide +kernel) ⟨gle hRf rfl, gle hRl rfl⟩) rfl rfl hl.1 rfl (lv_room (Nat.le_of_ble_eq_true rfl)) dX7_build_144 ⟨hRc, hRs⟩) hS hA (fun y5 iv15 H locs hp15 hS => ?_)
                              obtain ⟨ey5, ev15⟩ := hp15
                              rw [ev15] at hS
                              have ey5 : y5 = nI x9 := by rw [ey5, hx9e]; rfl
                              refine gx_as (y := nI x9) ey5 ?_
                              skip
                              refine lv_istore (lv' := [(8, .int (nI x9)), (0, .ref (ad 53)), (1, .int (nI k9)), (2, .int (nI s8.2.2)), (3, .int (nI ((bfsR bk rp mc9 (bs0 g0) i).1 fr) - 1)), (4, .int (nI i)), (5, .int (nI j)), (6, .int (nI (rp j))), (7, .int (nI t8))]) hx hb dX7_build_147 hl (by decide) rfl (fun ls hl => ?_)
                              refine lv_aload_n hx hb dX7_build_149 rfl (lv_at hl 1 rfl) ?_
                              refine gx_get (ci := 10) (v := .ref (ad 60)) (C := RX7) (T := TX7) (N := 23) hx hb hts (fun _ h => inX7_build_RX7 h) hown hK hS 53 (by omega) rfl rfl 15 (by decide) (hts (.fieldLink RX7 30 "CosetTablesModel" "values" "[I") (by decide +kernel)) rfl dX7_build_150 ?_
                              refine lv_iload hx hb dX7_build_153 (lv_at hl 0 rfl) ?_
                              refine gx_ialdn hx hb hK hS 60 (by omega) (by decide) x9 (by omega) (hln _) dX7_build_155 ?_
                              refine gx_as (y := (nI (s8.1 x9) - 1)) (t14.1 x9 hx9) ?_
                              refine lv_if_lt (tgt := 162) hx hb dX7_build_156 (by decide) (fun c_156 => ?_) (fun c_156 => ?_)
                              · skip
                                rw [vm1_neg (by omega)] at c_156
                                have hd0 : s8.1 x9 = 0 := c_156
                                obtain ⟨hC9, hok2⟩ := bOk_add (fr := fr) ho8 hfS hx9 hd0
                                refine lv_aload_n hx hb dX7_build_162 rfl (lv_at hl 1 rfl) ?_
                                refine gx_get (ci := 10) (v := .ref (ad 60)) (C := RX7) (T := TX7) (N := 23) hx hb hts (fun _ h => inX7_build_RX7 h) hown hK hS 53 (by omega) rfl rfl 15 (by decide) (hts (.fieldLink RX7 30 "CosetTablesModel" "values" "[I") (by decide +kernel)) rfl dX7_build_163 ?_
                                refine lv_iload hx hb dX7_build_166 (lv_at hl 0 rfl) ?_
                                refine lv_iload_n hx hb dX7_build_168 rfl (lv_at hl 4 rfl) ?_
                                refine lv_iconst (v := nI 1) hx hb dX7_build_169 (by decide) ?_
                                refine lv_iadd hx hb dX7_build_170 ?_
                                refine gx_iastn hx hb hK hS 60 (by omega) (by decide) x9 (by omega) (hln _) dX7_build_171 (fun H locs hS => ?_)
                                obtain ⟨iv17, eiv17⟩ : ∃ z, z = up2 iv14 60 x9 (((nI ((bfsR bk rp mc9 (bs0 g0) i).1 fr) - 1)) + (nI 1)) := ⟨_, rfl⟩
                                rw [← eiv17] at hS
                                refine lv_aload_n hx hb dX7_build_172 rfl (lv_at hl 1 rfl) ?_
                                refine gx_get (ci := 10) (v := .ref (ad 61)) (C := RX7) (T := TX7) (N := 23) hx hb hts (fun _ h => inX7_build_RX7 h) hown hK hS 53 (by omega) rfl rfl 16 (by decide) (hts (.fieldLink RX7 33 "CosetTablesModel" "queue" "[I") (by decide +kernel)) rfl dX7_build_173 ?_
                                refine lv_iload_n hx hb dX7_build_176 rfl (lv_at hl 3 rfl) ?_
                                refine lv_iload hx hb dX7_build_177 (lv_at hl 0 rfl) ?_
                                refine gx_iastn hx hb hK hS 61 (by omega) (by decide) s8.2.2 (by omega) (hln _) dX7_build_179 (fun H locs hS => ?_)
                                obtain ⟨iv16, eiv16⟩ : ∃ z, z = up2 iv17 61 s8.2.2 (nI x9) := ⟨_, rfl⟩
                                rw [← eiv16] at hS
                                have t16 : tabR iv16 S8 (add1 fr x9 s8) := tabR_add (iv := iv14) (v := nI ((bfsR bk rp mc9 (bs0 g0) i).1 fr) - 1 + nI 1) t14 (by rw [vm1_add, hd8]) hx9 (by rw [eiv16, up2_row (by decide), eiv17]) (by rw [eiv16]; funext z; rw [up2_eq, up2_eq, eiv17, up2_row (by decide)])
                                have a16 : rAt iv16 c9 (dw P c9 (x9 / T ^ c9)) (dt T c9 x9) := ⟨fun q hq => by rw [eiv16, up2_row (by decide), eiv17, up2_row (by decide)]; exact a14.1 q hq, fun q hq => by rw [eiv16, up2_row (by decide), eiv17, up2_row (by decide)]; exact a14.2 q hq⟩
                                have h16 : ∀ q, q ≠ 58 → q ≠ 59 → q ≠ 60 → q ≠ 61 → iv16 q = iv2 q := fun q x1 x2 x3 x4 => by rw [eiv16, up2_row x4, eiv17, up2_row x3, h14 q x1 x2 x3 x4]
                                refine lv_iinc (v := nI (s8.2.2 + 1)) (lv' := [(2, .int (nI (s8.2.2 + 1))), (8, .int (nI x9)), (0, .ref (ad 53)), (1, .int (nI k9)), (3, .int (nI ((bfsR bk rp mc9 (bs0 g0) i).1 fr) - 1)), (4, .int (nI i)), (5, .int (nI j)), (6, .int (nI (rp j))), (7, .int (nI t8))]) hx hb dX7_build_180 hl (k := 3) rfl (nI_1 s8.2.2) (by decide) rfl (fun ls hl => ?_)
                                refine lv_iinc (v := nI (t8 + 1)) (lv' := [(7, .int (nI (t8 + 1))), (2, .int (nI (s8.2.2 + 1))), (8, .int (nI x9)), (0, .ref (ad 53)), (1, .int (nI k9)), (3, .int (nI ((bfsR bk rp mc9 (bs0 g0) i).1 fr) - 1)), (4, .int (nI i)), (5, .int (nI j)), (6, .int (nI (rp j)))]) hx hb dX7_build_183 hl (k := 8) rfl (nI_1 t8) (by decide) rfl (fun ls hl => ?_)
                                refine lv_goto (tgt := 130) hx hb dX7_build_186 (by decide) ?_
                                exact ih130 (t8 + 1) x9 (add1 fr x9 s8) iv16 (by omega) (by omega) (by rw [hsp, esp]; show (if s8.1 (bk j x8) = 0 then _ else _) = _; rw [hbx, if_pos hd0]; rfl) hx9 a16 hok2 (by rw [(mono_add (fr := fr) hd0).2.2 fr (by rw [hd8]; exact hfr0)]; exact hd8) t16 h16 _ _ _ hS (lv_sub hl [3, 4, 1, 5, 6, 7, 8, 0] rfl)
                              · skip
                                rw [vm1_neg (by omega)] at c_156
                                have hd0 : ¬ s8.1 x9 = 0 := c_156
                                refine lv_goto (tgt := 183) hx hb dX7_build_159 (by decide) ?_
                                refine lv_iinc (v := nI (t8 + 1)) (lv' := [(7, .int (nI (t8 + 1))), (8, .int (nI x9)), (0, .ref (ad 53)), (1, .int (nI k9)), (2, .int (nI s8.2.2)), (3, .int (nI ((bfsR bk rp mc9 (bs0 g0) i).1 fr) - 1)), (4, .int (nI i)), (5, .int (nI j)), (6, .int (nI (rp j)))]) hx hb dX7_build_183 hl (k := 8) rfl (nI_1 t8) (by decide) rfl (fun ls hl => ?_)
                                refine lv_goto (tgt := 130) hx hb dX7_build_186 (by decide) ?_
                                exact ih130 (t8 + 1) x9 s8 iv14 (by omega) (by omega) (by rw [hsp, esp]; show (if s8.1 (bk j x8) = 0 then _ else _) = _; rw [hbx, if_neg hd0]) hx9 a14 ho8 hd8 t14 h14 _ _ _ hS (lv_sub hl [2, 3, 4, 5, 6, 7, 8, 0] rfl)
                        exact L130 _ 0 fr (expR bk rp fr j (bfsR bk rp mc9 (bs0 g0) i)) iv11 (Nat.lt_succ_self _) (Nat.zero_le _) (by rw [Nat.sub_zero]) hfS a11 hJ2.1 (hmo2.2.2 fr hfr0) t11 h11 _ _ _ hS (lv_sub hl [2, 3, 4, 5, 6, 7, 1, 0] rfl)
                  exact L98 _ 0 iv9 (Nat.lt_succ_self _) (Nat.zero_le _) ht9 h9 _ _ _ hS (lv_sub hl [2, 3, 4, 1, 5, 0] rfl)
            exact L76 _ 0 (nI 0) iv8 (Nat.lt_succ_self _) (Nat.zero_le _) htab (by rw [if_pos rfl]; rfl) h8 _ _ _ hS (lv_sub hl [3, 4, 2, 1, 0] rfl)
          · skip
            rw [nI_leI (by omega) (by omega)] at c_31
            refine lv_aload_n hx hb dX7_build_34 rfl (lv_at hl 0 rfl) ?_
            refine gx_get (ci := 10) (v := .ref (ad 60)) (C := RX7) (T := TX7) (N := 23) hx hb hts (fun _ h => inX7_build_RX7 h) hown hK hS 53 (by omega) rfl rfl 15 (by decide) (hts (.fieldLink RX7 30 "CosetTablesModel" "values" "[I") (by decide +kernel)) rfl dX7_build_35 ?_
            refine lv_iload_n hx hb dX7_build_38 rfl (lv_at hl 2 rfl) ?_
            refine lv_iconst (v := (-1)) hx hb dX7_build_39 (by decide) ?_
            refine gx_iastn hx hb hK hS 60 (by omega) (by decide) i (by omega) (hln _) dX7_build_40 (fun H locs hS => ?_)
            obtain ⟨iv4, eiv4⟩ : ∃ z, z = up2 iv3 60 i ((-1)) := ⟨_, rfl⟩
            rw [← eiv4] at hS
            refine lv_iinc (v := nI (i + 1)) (lv' := [(2, .int (nI (i + 1))), (0, .ref (ad 53)), (1, .int (nI k9))]) hx hb dX7_build_41 hl (k := 2) rfl (nI_1 i) (by decide) rfl (fun ls hl => ?_)
            refine lv_goto (tgt := 26) hx hb dX7_build_44 (by decide) ?_
            exact ih26 (i + 1) iv4 (by omega) (by omega) (fun x hx => by rw [eiv4, up2_eq]; by_cases q : x = i <;> first | (rw [if_pos ⟨rfl, q⟩]; done) | (rw [if_neg (fun u => q u.2)]; exact h1 x (by omega))) (fun q hq => by rw [eiv4, up2_row hq, h3 q hq]) _ _ _ hS (lv_sub hl [1, 2, 0] rfl)
      exact L26 _ 0 iv2 (Nat.lt_succ_self _) (Nat.zero_le _) lt_0 (fun _ _ => rfl) _ _ _ hS (lv_sub hl [1, 2, 0] rfl)
    · skip
      rw [nI_leI (by omega) (by omega)] at c_11
      omega
set_option maxRecDepth 100000 in
theorem ct_X7_build (l : Launch) (D : va_G) (cA : Nat → ClassId) (o : Nat → Int64) (ad ln : Nat → Nat) (n sz : Nat) (iv : Nat → Nat → Int32) (k9 mc9 P c9 T S8 g0 : Nat) (pc9 rp : Nat → Nat) (G9 Ad bk : Nat → Nat → Nat) (hn : 68 ≤ n) (hln : ∀ k, ln k < 2 ^ 31) (hRn : rln ln) (hc9 : iv 53 7 = nI c9) (hc4 : c9 ≤ 4) (hT0 : iv 53 2 = nI T) (hT1 : 0 < T) (hT3 : T ≤ 3) (hP0 : iv 53 1 = nI P) (hP : P ≤ 8) (hpc : ∀ i, i < c9 → iv 57 i = nI (pc9 i)) (hpi : inj pc9 P c9) (hmc : iv 53 3 = nI mc9) (hmc6 : mc9 ≤ 6) (hmv : ∀ j, j < mc9 → rmove iv j P T (G9 j) (Ad j) ∧ inj (G9 j) P P) (hNo : ∀ j, j < mc9 → ∃ N0, 1 ≤ N0 ∧ N0 ≤ 63 ∧ hmB P T (G9 j) (Ad j) N0 = true) (hrp : ∀ j, j < mc9 → rp j = if k9 = 0 then 1 else ordr P T (G9 j) (Ad j) - 1) (hk9 : k9 < 2) (hS8 : S8 = ff P c9 * T ^ c9) (hS9 : S8 ≤ 136080) (hg0 : g0 = num P T c9 pc9 (fun _ => 0)) (hbk : ∀ j, j < mc9 → ∀ x, bk j x = bkN P T c9 (G9 j) (Ad j) x) : gMi l yX7_build wsX7_build { frames := 3, cells := 0, slots := 0, locals := 68 } D cA o ad ln n sz iv [.ref (ad 53), .int (nI k9)] (fun (r : Int32) iv' => (iv' 53 0 = 0 ∧ iv' 53 12 = 1 ∧ iv' 53 13 = nI k9 ∧ iv' 53 14 = nI S8 ∧ ∀ j, j ≠ 0 → j ≠ 12 → j ≠ 13 → j ≠ 14 → iv' 53 j = iv 53 j) ∧ (∀ x, x < S8 → iv' 60 x = nI ((bfsR bk rp mc9 (bs0 g0) S8).1 x) - 1) ∧ r = nI ((bfsR bk rp mc9 (bs0 g0) S8).1 ((bfsR bk rp mc9 (bs0 g0) S8).2.1 ((bfsR bk rp mc9 (bs0 g0) S8).2.2 - 1))) - 1 ∧ ∀ q, q ≠ 53 → q ≠ 58 → q ≠ 59 → q ≠ 60 → q ≠ 61 → iv' q = iv q) := by
  refine Met.ofW (cc := cX7_build) (maxL := 9) (ret := (some .int)) (by decide) rfl ?_
  intro p e s m args below meth c s₁ B hml hv__
  obtain ⟨rfl, hv__⟩ := hv__
  obtain ⟨hsz, hS, hK, hN, hA⟩ := gS.entry hv__
  have hl := lv_entry ([.ref (ad 53), .int (nI k9)]) (n := 9) (Nat.le_of_ble_eq_true rfl)
  rw [lg_entry_eq]
  generalize (lg_sl ([.ref (ad 53), .int (nI k9)]) ++ List.replicate (9 - (lg_sl ([.ref (ad 53), .int (nI k9)])).length) Slot.unset).toArray = ls at hl ⊢
  exact bd_X7_build (k9 := k9) (mc9 := mc9) (P := P) (c9 := c9) (T := T) (S8 := S8) (g0 := g0) (pc9 := pc9) (rp := rp) (G9 := G9) (Ad := Ad) (bk := bk) ⟨B.exec, B.bytes, hml, findClass_of_methodNamed B.named, atoms_spec (ws := wsX7_build) B.pre, B.returns, B.notSynchronized⟩ (Nat.le_refl _) (Nat.le_refl _) (Nat.le_refl _) (Nat.le_refl _) hK hN hA hn hln hRn hc9 hc4 hT0 hT1 hT3 hP0 hP hpc hpi hmc hmc6 hmv hNo hrp hk9 hS8 hS9 hg0 hbk hS hl (fun r iv' H locs ls pc hd hp hS => gx_iret B.exec B.bytes B.returns B.notSynchronized hS hp hd)

set_option maxHeartbeats 1000000 in
set_option maxRecDepth 100000 in
theorem bd_X7_buildX {p : Program} {l : Launch} {e : Env} {R : Room} {s : State} {m : MethodId} {args : Array Value} {below : List Frame} {meth : Method} {c : Code} {H : Heap} {locs : List Loc} {cells slots : Nat} {Q : State → Prop} {ls : Array Slot} {D : va_G} {A : Nat → Prop} {H0 : Heap} {cA : Nat → ClassId} {o : Nat → Int64} {ad ln : Nat → Nat} {iv : Nat → Nat → Int32} {n : Nat} {x9 : Int32}
    (F : gF p s m meth c cX7_build 9 RX7 wsX7_build args (some .int)) (hRf : 0 ≤ R.frames) (hRl : 0 ≤ R.locals) (hRc : cells ≤ R.cells) (hRs : slots ≤ R.slots) (hK : va_K D vwCl (gT cA) s) (hN : NW s) (hA : ∀ q, H0.size ≤ q → A q) (hn : 68 ≤ n) (hln : ∀ k, ln k < 2 ^ 31) (hx0 : ¬ x9 = 0) (hx1 : ¬ x9 = 1)
    (hS : gS D cA A H0 o ad ln iv n H locs) (hl : lv_has ls 9 [(0, .ref (ad 53)), (1, .int x9)])
    (kret : ∀ (r : Int32) (iv' : Nat → Nat → Int32) (H : Heap) (locs : List Loc) (ls : Array Slot) (pc : Nat), decode cX7_build pc = .ok (.ireturn, 1) → (r = -1 ∧ iv' = up2 iv 53 0 0) → gS D cA A H0 o ad ln iv' n H locs → W p l e R s m args below meth c H locs cells slots Q (F0 m pc ls [.int r])) :
    W p l e R s m args below meth c H locs cells slots Q (F0 m 0 ls []) := by
  obtain ⟨hx, hb, hml, hown, hts, hr, hlocks⟩ := F
  refine lv_aload_n hx hb dX7_build_0 rfl (lv_at hl 0 rfl) ?_
  refine lv_iconst (v := nI 0) hx hb dX7_build_1 (by decide) ?_
  refine gx_put (ci := 10) (x := nI 0) (ty := .int) (C := RX7) (T := TX7) (N := 23) hx hb hts (fun _ h => inX7_build_RX7 h) tyX7 tyX7_ok nmX7 hown hK hS 53 (by omega) rfl rfl 0 (by decide) (hts (.fieldLink RX7 58 "CosetTablesModel" "thrown" "I") (by decide +kernel)) rfl (by decide +kernel) rfl rfl (Nat.le_of_ble_eq_true rfl) rfl dX7_build_2 (fun H locs hS => ?_)
  obtain ⟨iv0, eiv0⟩ : ∃ z, z = up2 iv 53 0 (nI 0) := ⟨_, rfl⟩
  rw [← eiv0] at hS
  refine lv_iload_n hx hb dX7_build_5 rfl (lv_at hl 1 rfl) ?_
  refine lv_if_lt (tgt := 14) hx hb dX7_build_6 (by decide) (fun c_6 => ?_) (fun c_6 => ?_)
  · skip
    refine lv_iconst (v := (-1)) hx hb dX7_build_14 (by decide) ?_
    exact kret _ iv0 _ _ _ _ dX7_build_15 (⟨rfl, by rw [eiv0]; rfl⟩) hS
  · skip
    refine lv_iload_n hx hb dX7_build_9 rfl (lv_at hl 1 rfl) ?_
    refine lv_iconst (v := nI 1) hx hb dX7_build_10 (by decide) ?_
    refine lv_icmp_le (tgt := 16) hx hb dX7_build_11 (by decide) (fun c_11 => ?_) (fun c_11 => ?_)
    · skip
      exact absurd c_11 (fun q => le1_bad hx0 hx1 c_6 q)
    · skip
      refine lv_iconst (v := (-1)) hx hb dX7_build_14 (by decide) ?_
      exact kret _ iv0 _ _ _ _ dX7_build_15 (⟨rfl, by rw [eiv0]; rfl⟩) hS
set_option maxRecDepth 100000 in
theorem ct_X7_buildX (l : Launch) (D : va_G) (cA : Nat → ClassId) (o : Nat → Int64) (ad ln : Nat → Nat) (n sz : Nat) (iv : Nat → Nat → Int32) (x9 : Int32) (hn : 68 ≤ n) (hln : ∀ k, ln k < 2 ^ 31) (hx0 : ¬ x9 = 0) (hx1 : ¬ x9 = 1) : gMi l yX7_build wsX7_build { frames := 0, cells := 0, slots := 0, locals := 0 } D cA o ad ln n sz iv [.ref (ad 53), .int x9] (fun (r : Int32) iv' => r = -1 ∧ iv' = up2 iv 53 0 0) := by
  refine Met.ofW (cc := cX7_build) (maxL := 9) (ret := (some .int)) (by decide) rfl ?_
  intro p e s m args below meth c s₁ B hml hv__
  obtain ⟨rfl, hv__⟩ := hv__
  obtain ⟨hsz, hS, hK, hN, hA⟩ := gS.entry hv__
  have hl := lv_entry ([.ref (ad 53), .int x9]) (n := 9) (Nat.le_of_ble_eq_true rfl)
  rw [lg_entry_eq]
  generalize (lg_sl ([.ref (ad 53), .int x9]) ++ List.replicate (9 - (lg_sl ([.ref (ad 53), .int x9])).length) Slot.unset).toArray = ls at hl ⊢
  exact bd_X7_buildX (x9 := x9) ⟨B.exec, B.bytes, hml, findClass_of_methodNamed B.named, atoms_spec (ws := wsX7_build) B.pre, B.returns, B.notSynchronized⟩ (Nat.le_refl _) (Nat.le_refl _) (Nat.le_refl _) (Nat.le_refl _) hK hN hA hn hln hx0 hx1 hS hl (fun r iv' H locs ls pc hd hp hS => gx_iret B.exec B.bytes B.returns B.notSynchronized hS hp hd)

theorem inX7_down_RX7 : ∀ {w : Cond}, w ∈ u_ws RX7 TX7 23 → w ∈ wsX7_down := fun {w} h => by first | exact List.mem_cons_of_mem _ (List.mem_append_right _ h) | (revert h; revert w; show ∀ w ∈ u_ws RX7 TX7 23, w ∈ wsX7_down; decide +kernel)
set_option maxHeartbeats 1000000 in
set_option maxRecDepth 100000 in
theorem bd_X7_down {p : Program} {l : Launch} {e : Env} {R : Room} {s : State} {m : MethodId} {args : Array Value} {below : List Frame} {meth : Method} {c : Code} {H : Heap} {locs : List Loc} {cells slots : Nat} {Q : State → Prop} {ls : Array Slot} {D : va_G} {A : Nat → Prop} {H0 : Heap} {cA : Nat → ClassId} {o : Nat → Int64} {ad ln : Nat → Nat} {iv : Nat → Nat → Int32} {n : Nat} {k9 mc9 P c9 T : Nat} {w t rp : Nat → Nat} {G9 Ad : Nat → Nat → Nat} {v9 : Int32}
    (F : gF p s m meth c cX7_down 5 RX7 wsX7_down args (some .int)) (hRf : 2 ≤ R.frames) (hRl : 49 ≤ R.locals) (hRc : cells ≤ R.cells) (hRs : slots ≤ R.slots) (hK : va_K D vwCl (gT cA) s) (hN : NW s) (hA : ∀ q, H0.size ≤ q → A q) (hn : 68 ≤ n) (hln : ∀ k, ln k < 2 ^ 31) (hRn : rln ln) (hc9 : iv 53 7 = nI c9) (hc4 : c9 ≤ 4) (hT0 : iv 53 2 = nI T) (hT1 : 0 < T) (hT3 : T ≤ 3) (hP0 : iv 53 1 = nI P) (hP : P ≤ 8) (hmc : iv 53 3 = nI mc9) (hmc6 : mc9 ≤ 6) (hmv : ∀ j, j < mc9 → rmove iv j P T (G9 j) (Ad j) ∧ inj (G9 j) P P) (hNo : ∀ j, j < mc9 → ∃ N0, 1 ≤ N0 ∧ N0 ≤ 63 ∧ hmB P T (G9 j) (Ad j) N0 = true) (hrp : ∀ j, j < mc9 → rp j = if k9 = 0 then 1 else ordr P T (G9 j) (Ad j) - 1) (hk0 : iv 53 13 = nI k9) (hk9 : k9 < 2) (hwi : inj w P c9) (htT : ∀ i, i < c9 → t i < T) (hx0 : iv 53 11 = nI (num P T c9 w t)) (hS9 : ff P c9 * T ^ c9 ≤ 136080) (hv9 : v9 = iv 60 (num P T c9 w t))
    (hS : gS D cA A H0 o ad ln iv n H locs) (hl : lv_has ls 5 [(0, .ref (ad 53))])
    (kret : ∀ (r : Int32) (iv' : Nat → Nat → Int32) (H : Heap) (locs : List Loc) (ls : Array Slot) (pc : Nat), decode cX7_down pc = .ok (.ireturn, 1) → (r = (if iv 53 12 = 0 ∨ v9 < 1 then (-1) else dwn (fun j => (fs0 (fun k => okv (iv 60 (num P T c9 (fun q => itg (G9 j) k (w q)) (atw T (G9 j) (Ad j) w t k))) (jrem (v9 - 1) (nI 3))) (rp j) 1)) mc9 0) ∧ (iv' 53 0 = 0 ∧ ∀ j, j ≠ 0 → iv' 53 j = iv 53 j) ∧ ∀ q, q ≠ 53 → q ≠ 58 → q ≠ 59 → iv' q = iv q) → gS D cA A H0 o ad ln iv' n H locs → W p l e R s m args below meth c H locs cells slots Q (F0 m pc ls [.int r])) :
    W p l e R s m args below meth c H locs cells slots Q (F0 m 0 ls []) := by
  obtain ⟨hx, hb, hml, hown, hts, hr, hlocks⟩ := F
  have hRn9 := hRn
  obtain ⟨r54, r55, r56, r57, r58, r59, r60, r61, r62, r63, r64, r65, r66⟩ := hRn
  have hcP := inj_le_P hwi
  have hnl := num_lt hwi htT
  obtain ⟨ft9, hft⟩ : ∃ ft9, ft9 = (fun j => (fs0 (fun k => okv (iv 60 (num P T c9 (fun q => itg (G9 j) k (w q)) (atw T (G9 j) (Ad j) w t k))) (jrem (v9 - 1) (nI 3))) (rp j) 1)) := ⟨_, rfl⟩
  rw [← hft] at kret
  refine lv_aload_n hx hb dX7_down_0 rfl (lv_at hl 0 rfl) ?_
  refine lv_iconst (v := nI 0) hx hb dX7_down_1 (by decide) ?_
  refine gx_put (ci := 10) (x := nI 0) (ty := .int) (C := RX7) (T := TX7) (N := 23) hx hb hts (fun _ h => inX7_down_RX7 h) tyX7 tyX7_ok nmX7 hown hK hS 53 (by omega) rfl rfl 0 (by decide) (hts (.fieldLink RX7 58 "CosetTablesModel" "thrown" "I") (by decide +kernel)) rfl (by decide +kernel) rfl rfl (Nat.le_of_ble_eq_true rfl) rfl dX7_down_2 (fun H locs hS => ?_)
  obtain ⟨iv1, eiv1⟩ : ∃ z, z = up2 iv 53 0 (nI 0) := ⟨_, rfl⟩
  rw [← eiv1] at hS
  refine lv_aload_n hx hb dX7_down_5 rfl (lv_at hl 0 rfl) ?_
  refine gx_get (ci := 10) (v := .int (iv1 53 12)) (C := RX7) (T := TX7) (N := 23) hx hb hts (fun _ h => inX7_down_RX7 h) hown hK hS 53 (by omega) rfl rfl 12 (by decide) (hts (.fieldLink RX7 64 "CosetTablesModel" "isBuilt" "Z") (by decide +kernel)) rfl dX7_down_6 ?_
  refine gx_as (y := (iv 53 12)) (by rw [eiv1, up2_n (by decide)]) ?_
  refine lv_if_eq (tgt := 25) hx hb dX7_down_9 (by decide) (fun c_9 => ?_) (fun c_9 => ?_)
  · skip
    refine lv_iconst (v := (-1)) hx hb dX7_down_25 (by decide) ?_
    exact kret _ iv1 _ _ _ _ dX7_down_26 (⟨by rw [if_pos (by first | exact Or.inl c_9 | exact Or.inr (by rw [← Int32.not_le]; exact c_22))], ⟨by rw [eiv1, up2_s]; rfl, fun j hj => by rw [eiv1, up2_n (fun u => hj u.2)]⟩, fun q x1 x2 x3 => by rw [eiv1, up2_row x1]⟩) hS
  · skip
    refine lv_aload_n hx hb dX7_down_12 rfl (lv_at hl 0 rfl) ?_
    refine gx_get (ci := 10) (v := .ref (ad 60)) (C := RX7) (T := TX7) (N := 23) hx hb hts (fun _ h => inX7_down_RX7 h) hown hK hS 53 (by omega) rfl rfl 15 (by decide) (hts (.fieldLink RX7 30 "CosetTablesModel" "values" "[I") (by decide +kernel)) rfl dX7_down_13 ?_
    refine lv_aload_n hx hb dX7_down_16 rfl (lv_at hl 0 rfl) ?_
    refine gx_get (ci := 10) (v := .int (iv1 53 11)) (C := RX7) (T := TX7) (N := 23) hx hb hts (fun _ h => inX7_down_RX7 h) hown hK hS 53 (by omega) rfl rfl 11 (by decide) (hts (.fieldLink RX7 90 "CosetTablesModel" "state" "I") (by decide +kernel)) rfl dX7_down_17 ?_
    refine gx_as (y := nI (num P T c9 w t)) (by rw [eiv1, up2_n (by decide)]; exact hx0) ?_
    refine gx_ialdn hx hb hK hS 60 (by omega) (by decide) (num P T c9 w t) (by omega) (hln _) dX7_down_20 ?_
    refine gx_as (y := v9) (by rw [eiv1, up2_row (by decide), hv9]) ?_
    refine lv_iconst (v := nI 1) hx hb dX7_down_21 (by decide) ?_
    refine lv_icmp_ge (tgt := 27) hx hb dX7_down_22 (by decide) (fun c_22 => ?_) (fun c_22 => ?_)
    · skip
      have hne : ¬ (iv 53 12 = 0 ∨ v9 < 1) := fun u => u.elim c_9 (fun u => by rw [← Int32.not_le] at u; exact u c_22)
      have k53 : ∀ j, j ≠ 0 → iv1 53 j = iv 53 j := fun j x1 => by rw [eiv1, up2_n (fun u => x1 u.2)]
      refine lv_iconst (v := nI 0) hx hb dX7_down_27 (by decide) ?_
      refine lv_istore_n (lv' := [(1, .int (nI 0)), (0, .ref (ad 53))]) hx hb dX7_down_28 rfl hl (by decide) rfl (fun ls hl => ?_)
      have L29 : ∀ (N : Nat) (j : Nat) (iv2 : Nat → Nat → Int32), mc9 - j < N → (j ≤ mc9) → (dwn ft9 (mc9 - j) j = dwn ft9 mc9 0) → (∀ q, q ≠ 58 → q ≠ 59 → iv2 q = iv1 q) → ∀ (H : Heap) (locs : List Loc) (ls : Array Slot), gS D cA A H0 o ad ln iv2 n H locs → lv_has ls 5 [(0, .ref (ad 53)), (1, .int (nI j))] → W p l e R s m args below meth c H locs cells slots Q (F0 m 29 ls []) := by
        intro N
        induction N with
        | zero => intro j iv2 hm; exact absurd hm (Nat.not_lt_zero _)
        | succ N ih29 =>
          intro j iv2 hm hj h1 h2 H locs ls hS hl
          have o53 : iv2 53 = iv1 53 := h2 53 (by decide) (by decide)
          refine lv_iload_n hx hb dX7_down_29 rfl (lv_at hl 1 rfl) ?_
          refine lv_aload_n hx hb dX7_down_30 rfl (lv_at hl 0 rfl) ?_
          refine gx_get (ci := 10) (v := .int (iv2 53 3)) (C := RX7) (T := TX7) (N := 23) hx hb hts (fun _ h => inX7_down_RX7 h) hown hK hS 53 (by omega) rfl rfl 3 (by decide) (hts (.fieldLink RX7 61 "CosetTablesModel" "moves" "I") (by decide +kernel)) rfl dX7_down_31 ?_
          refine gx_as (y := nI mc9) (by rw [o53, k53 3 (by decide)]; exact hmc) ?_
          refine lv_icmp_ge (tgt := 122) hx hb dX7_down_34 (by decide) (fun c_34 => ?_) (fun c_34 => ?_)
          · skip
            rw [nI_leI (by omega) (by omega)] at c_34
            have e0 : mc9 - j = 0 := by omega
            rw [e0] at h1
            refine lv_iconst (v := (-1)) hx hb dX7_down_122 (by decide) ?_
            exact kret _ iv2 _ _ _ _ dX7_down_123 (⟨by rw [if_neg hne, ← h1]; rfl, ⟨by rw [o53, eiv1, up2_s]; rfl, fun q hq => by rw [o53, k53 q hq]⟩, fun q x1 x2 x3 => by rw [h2 q x2 x3, eiv1, up2_row x1]⟩) hS
          · skip
            rw [nI_leI (by omega) (by omega)] at c_34
            have e0 : mc9 - j = (mc9 - (j + 1)) + 1 := by omega
            obtain ⟨N0, n1, n2, n3⟩ := hNo j (by omega)
            have hor := ordr_in P T (G9 j) (Ad j)
            have hrj := hrp j (by omega)
            have hrj64 : rp j ≤ 64 := by rw [hrj]; split <;> omega
            have hmv2 : rmove iv2 j P T (G9 j) (Ad j) := fun q hq => by rw [h2 54 (by decide) (by decide), h2 55 (by decide) (by decide), eiv1, up2_row (by decide), up2_row (by decide)]; exact (hmv j (by omega)).1 q hq
            have hfj : ft9 j = fs0 (fun k => okv (iv 60 (num P T c9 (fun q => itg (G9 j) k (w q)) (atw T (G9 j) (Ad j) w t k))) (jrem (v9 - 1) (nI 3))) (rp j) 1 := by rw [hft]
            refine lv_aload_n hx hb dX7_down_37 rfl (lv_at hl 0 rfl) ?_
            refine lv_iload_n hx hb dX7_down_38 rfl (lv_at hl 1 rfl) ?_
            refine lv_aload_n hx hb dX7_down_39 rfl (lv_at hl 0 rfl) ?_
            refine gx_get (ci := 10) (v := .int (iv2 53 13)) (C := RX7) (T := TX7) (N := 23) hx hb hts (fun _ h => inX7_down_RX7 h) hown hK hS 53 (by omega) rfl rfl 13 (by decide) (hts (.fieldLink RX7 126 "CosetTablesModel" "measured" "I") (by decide +kernel)) rfl dX7_down_40 ?_
            refine gx_as (y := nI k9) (by rw [o53, k53 13 (by decide)]; exact hk0) ?_
            refine gc_i (gx_runV (As := [.int (nI j), .int (nI k9)]) (rest := []) ⟨hx, hb, hml, hown, hts⟩ hK hN hS 53 (by omega) rfl rfl (ct_X7_times l D cA o ad ln n H.size iv2 (m8 := j) (k9 := k9) (P := P) (T := T) (N0 := N0) (G9 := G9 j) (Ad := Ad j) hn hln hRn9 (by rw [o53, k53 2 (by decide)]; exact hT0) hT1 hT3 (by rw [o53, k53 1 (by decide)]; exact hP0) hP hmv2 (by omega) n1 n2 n3 hk9) (cwV 2 hts gX7_down_X7_times rfl rfl rfl (by decide +kernel) ⟨gle hRf rfl, gle hRl rfl⟩) rfl rfl hl.1 rfl (lv_room (Nat.le_of_ble_eq_true rfl)) dX7_down_43 ⟨hRc, hRs⟩) hS hA (fun y3 iv3 H locs hp3 hS => ?_)
            obtain ⟨ey3, ev3⟩ := hp3
            rw [ev3] at hS
            rw [← hrj] at ey3
            refine gx_as (y := nI (rp j)) ey3 ?_
            skip
            refine lv_istore_n (lv' := [(2, .int (nI (rp j))), (0, .ref (ad 53)), (1, .int (nI j))]) hx hb dX7_down_46 rfl hl (by decide) rfl (fun ls hl => ?_)
            refine lv_aload_n hx hb dX7_down_47 rfl (lv_at hl 1 rfl) ?_
            refine lv_aload_n hx hb dX7_down_48 rfl (lv_at hl 1 rfl) ?_
            refine gx_get (ci := 10) (v := .int (iv2 53 11)) (C := RX7) (T := TX7) (N := 23) hx hb hts (fun _ h => inX7_down_RX7 h) hown hK hS 53 (by omega) rfl rfl 11 (by decide) (hts (.fieldLink RX7 90 "CosetTablesModel" "state" "I") (by decide +kernel)) rfl dX7_down_49 ?_
            refine gx_as (y := nI (num P T c9 w t)) (by rw [o53, k53 11 (by decide)]; exact hx0) ?_
            refine gc_v (gx_runV (As := [.int (nI (num P T c9 w t))]) (rest := []) ⟨hx, hb, hml, hown, hts⟩ hK hN hS 53 (by omega) rfl rfl (ct_X7_take l D cA o ad ln n H.size iv2 (x := num P T c9 w t) (P := P) (c9 := c9) (T := T) hn hln hRn9 (by rw [o53, k53 7 (by decide)]; exact hc9) hc4 (by rw [o53, k53 2 (by decide)]; exact hT0) hT1 hT3 (by rw [o53, k53 1 (by decide)]; exact hP0) hP hcP (by omega)) (cwV 1 hts gX7_down_X7_take rfl rfl rfl (by decide +kernel) ⟨gle hRf rfl, gle hRl rfl⟩) rfl rfl hl.1 rfl (lv_room (Nat.le_of_ble_eq_true rfl)) dX7_down_52 ⟨hRc, hRs⟩) hS hA (fun iv4 H locs hp4 hS => ?_)
            obtain ⟨b4, f4⟩ := hp4
            have a4 : rAt iv4 c9 (fun q => itg (G9 j) 0 (w q)) (atw T (G9 j) (Ad j) w t 0) := ⟨fun q hq => by rw [b4.1 q hq, dw_num hT1 hwi htT hq]; rfl, fun q hq => by rw [b4.2 q hq, num_dt hT1 htT hq]; rfl⟩
            have h4 : ∀ q, q ≠ 58 → q ≠ 59 → iv4 q = iv1 q := fun q x1 x2 => by rw [f4 q x1 x2, h2 q x1 x2]
            refine lv_iconst (v := nI 1) hx hb dX7_down_55 (by decide) ?_
            refine gx_as (y := nI (0 + 1)) rfl ?_
            refine lv_istore_n (lv' := [(3, .int (nI (0 + 1))), (2, .int (nI (rp j))), (0, .ref (ad 53)), (1, .int (nI j))]) hx hb dX7_down_56 rfl hl (by decide) rfl (fun ls hl => ?_)
            have L57 : ∀ (N : Nat) (i : Nat) (iv5 : Nat → Nat → Int32), rp j - i < N → (i ≤ rp j) → (rAt iv5 c9 (fun q => itg (G9 j) i (w q)) (atw T (G9 j) (Ad j) w t i)) → (fs0 (fun k => okv (iv 60 (num P T c9 (fun q => itg (G9 j) k (w q)) (atw T (G9 j) (Ad j) w t k))) (jrem (v9 - 1) (nI 3))) (rp j - i) (i + 1) = fs0 (fun k => okv (iv 60 (num P T c9 (fun q => itg (G9 j) k (w q)) (atw T (G9 j) (Ad j) w t k))) (jrem (v9 - 1) (nI 3))) (rp j) 1) → (∀ q, q ≠ 58 → q ≠ 59 → iv5 q = iv1 q) → ∀ (H : Heap) (locs : List Loc) (ls : Array Slot), gS D cA A H0 o ad ln iv5 n H locs → lv_has ls 5 [(0, .ref (ad 53)), (1, .int (nI j)), (2, .int (nI (rp j))), (3, .int (nI (i + 1)))] → W p l e R s m args below meth c H locs cells slots Q (F0 m 57 ls []) := by
              intro N
              induction N with
              | zero => intro i iv5 hm; exact absurd hm (Nat.not_lt_zero _)
              | succ N ih57 =>
                intro i iv5 hm hi ha5 h3 h5 H locs ls hS hl
                have p53 : iv5 53 = iv1 53 := h5 53 (by decide) (by decide)
                refine lv_iload_n hx hb dX7_down_57 rfl (lv_at hl 3 rfl) ?_
                refine lv_iload_n hx hb dX7_down_58 rfl (lv_at hl 2 rfl) ?_
                refine lv_icmp_gt (tgt := 116) hx hb dX7_down_59 (by decide) (fun c_59 => ?_) (fun c_59 => ?_)
                · skip
                  rw [nI_ltI (by omega) (by omega)] at c_59
                  have e1 : rp j - i = 0 := by omega
                  rw [e1] at h3
                  have hf0 : ft9 j = 0 := by rw [hfj, ← h3]; rfl
                  refine lv_iinc (v := nI (j + 1)) (lv' := [(1, .int (nI (j + 1))), (0, .ref (ad 53)), (2, .int (nI (rp j))), (3, .int (nI (i + 1)))]) hx hb dX7_down_116 hl (k := 1) rfl (nI_1 j) (by decide) rfl (fun ls hl => ?_)
                  refine lv_goto (tgt := 29) hx hb dX7_down_119 (by decide) ?_
                  exact ih29 (j + 1) iv5 (by omega) (by omega) (by rw [← h1, e0]; (conv => rhs; rw [dwn, if_neg (by rw [hf0]; exact Nat.lt_irrefl 0)])) h5 _ _ _ hS (lv_sub hl [1, 0] rfl)
                · skip
                  rw [nI_ltI (by omega) (by omega)] at c_59
                  have e1 : rp j - i = (rp j - (i + 1)) + 1 := by omega
                  have hmv5 : rmove iv5 j P T (G9 j) (Ad j) := fun q hq => by rw [h5 54 (by decide) (by decide), h5 55 (by decide) (by decide), eiv1, up2_row (by decide), up2_row (by decide)]; exact (hmv j (by omega)).1 q hq
                  refine lv_aload_n hx hb dX7_down_62 rfl (lv_at hl 0 rfl) ?_
                  refine lv_iload_n hx hb dX7_down_63 rfl (lv_at hl 1 rfl) ?_
                  refine gc_v (gx_runV (As := [.int (nI j)]) (rest := []) ⟨hx, hb, hml, hown, hts⟩ hK hN hS 53 (by omega) rfl rfl (ct_X7_act l D cA o ad ln n H.size iv5 (m8 := j) (P := P) (c9 := c9) (T := T) (w := fun q => itg (G9 j) i (w q)) (t := atw T (G9 j) (Ad j) w t i) (G9 := G9 j) (Ad := Ad j) hn hln hRn9 (by rw [p53, k53 7 (by decide)]; exact hc9) hc4 (by rw [p53, k53 2 (by decide)]; exact hT0) hT1 hT3 (by rw [p53, k53 1 (by decide)]; exact hP0) hP hmv5 (by omega) ha5.1 ha5.2 (itg_inj (hmv j (by omega)).2 hwi i) (atw_lt hT1 htT i)) (cwV 1 hts gX7_down_X7_act rfl rfl rfl (by decide +kernel) ⟨gle hRf rfl, gle hRl rfl⟩) rfl rfl hl.1 rfl (lv_room (Nat.le_of_ble_eq_true rfl)) dX7_down_64 ⟨hRc, hRs⟩) hS hA (fun iv6 H locs hp6 hS => ?_)
                  obtain ⟨b6, f6⟩ := hp6
                  have b6 : rAt iv6 c9 (fun q => itg (G9 j) (i + 1) (w q)) (atw T (G9 j) (Ad j) w t (i + 1)) := b6
                  have h6 : ∀ q, q ≠ 58 → q ≠ 59 → iv6 q = iv1 q := fun q x1 x2 => by rw [f6 q x1 x2, h5 q x1 x2]
                  have q53 : iv6 53 = iv1 53 := h6 53 (by decide) (by decide)
                  have hwi6 := itg_inj (hmv j (by omega)).2 hwi (i + 1)
                  have htT6 := atw_lt (G := G9 j) (Ad := Ad j) (w := w) hT1 htT (i + 1)
                  have hnl6 := num_lt hwi6 htT6
                  obtain ⟨N9, hN9⟩ : ∃ N9, N9 = num P T c9 (fun q => itg (G9 j) (i + 1) (w q)) (atw T (G9 j) (Ad j) w t (i + 1)) := ⟨_, rfl⟩
                  rw [← hN9] at hnl6
                  refine lv_aload_n hx hb dX7_down_67 rfl (lv_at hl 0 rfl) ?_
                  refine gx_get (ci := 10) (v := .ref (ad 60)) (C := RX7) (T := TX7) (N := 23) hx hb hts (fun _ h => inX7_down_RX7 h) hown hK hS 53 (by omega) rfl rfl 15 (by decide) (hts (.fieldLink RX7 30 "CosetTablesModel" "values" "[I") (by decide +kernel)) rfl dX7_down_68 ?_
                  refine lv_aload_n hx hb dX7_down_71 rfl (lv_at hl 0 rfl) ?_
                  refine gc_i (gx_runV (As := []) (rest := [.ref (ad 60)]) ⟨hx, hb, hml, hown, hts⟩ hK hN hS 53 (by omega) rfl rfl (ct_X7_numberOf l D cA o ad ln n H.size iv6 (P := P) (c9 := c9) (T := T) (w := fun q => itg (G9 j) (i + 1) (w q)) (t := atw T (G9 j) (Ad j) w t (i + 1)) hn hln hRn9 (by rw [q53, k53 7 (by decide)]; exact hc9) hc4 (by rw [q53, k53 2 (by decide)]; exact hT0) hT1 hT3 (by rw [q53, k53 1 (by decide)]; exact hP0) hP b6.1 b6.2 hwi6 htT6) (cwV 0 hts gX7_down_X7_numberOf rfl rfl rfl (by decide +kernel) ⟨gle hRf rfl, gle hRl rfl⟩) rfl rfl hl.1 rfl (lv_room (Nat.le_of_ble_eq_true rfl)) dX7_down_72 ⟨hRc, hRs⟩) hS hA (fun z7 iv7 H locs hp7 hS => ?_)
                  obtain ⟨ez7, ev7⟩ := hp7
                  rw [← hN9] at ez7
                  rw [ev7] at hS
                  refine gx_as (y := nI N9) ez7 ?_
                  skip
                  refine gx_ialdn hx hb hK hS 60 (by omega) (by decide) N9 (by omega) (hln _) dX7_down_75 ?_
                  refine lv_topi (fun u eu => ?_)
                  have eu : u = iv 60 N9 := by rw [eu, h6 60 (by decide) (by decide), eiv1, up2_row (by decide)]
                  have hcv : okv (iv 60 (num P T c9 (fun q => itg (G9 j) (i + 1) (w q)) (atw T (G9 j) (Ad j) w t (i + 1)))) (jrem (v9 - 1) (nI 3)) = okv u (jrem (v9 - 1) (nI 3)) := by rw [eu, hN9]
                  refine lv_istore (lv' := [(4, .int u), (0, .ref (ad 53)), (1, .int (nI j)), (2, .int (nI (rp j))), (3, .int (nI (i + 1)))]) hx hb dX7_down_76 hl (by decide) rfl (fun ls hl => ?_)
                  refine lv_iload hx hb dX7_down_78 (lv_at hl 0 rfl) ?_
                  refine lv_if_lt (tgt := 110) hx hb dX7_down_80 (by decide) (fun c_80 => ?_) (fun c_80 => ?_)
                  · skip
                    have hcn : okv u (jrem (v9 - 1) (nI 3)) = false := by unfold okv; simp [c_80]
                    refine lv_iinc (v := nI ((i + 1) + 1)) (lv' := [(3, .int (nI ((i + 1) + 1))), (4, .int u), (0, .ref (ad 53)), (1, .int (nI j)), (2, .int (nI (rp j)))]) hx hb dX7_down_110 hl (k := 4) rfl (nI_1 (i + 1)) (by decide) rfl (fun ls hl => ?_)
                    refine lv_goto (tgt := 57) hx hb dX7_down_113 (by decide) ?_
                    exact ih57 (i + 1) iv6 (by omega) (by omega) b6 (by rw [← h3, e1]; (conv => rhs; rw [fs0, hcv, hcn]); rfl) h6 _ _ _ hS (lv_sub hl [2, 3, 4, 0] rfl)
                  · skip
                    refine lv_iload hx hb dX7_down_83 (lv_at hl 0 rfl) ?_
                    refine lv_iconst (v := nI 3) hx hb dX7_down_85 (by decide) ?_
                    refine lv_irem hx hb dX7_down_86 (by decide) ?_
                    refine gx_as (y := (jrem u (nI 3))) rfl ?_
                    refine lv_aload_n hx hb dX7_down_87 rfl (lv_at hl 1 rfl) ?_
                    refine gx_get (ci := 10) (v := .ref (ad 60)) (C := RX7) (T := TX7) (N := 23) hx hb hts (fun _ h => inX7_down_RX7 h) hown hK hS 53 (by omega) rfl rfl 15 (by decide) (hts (.fieldLink RX7 30 "CosetTablesModel" "values" "[I") (by decide +kernel)) rfl dX7_down_88 ?_
                    refine lv_aload_n hx hb dX7_down_91 rfl (lv_at hl 1 rfl) ?_
                    refine gx_get (ci := 10) (v := .int (iv6 53 11)) (C := RX7) (T := TX7) (N := 23) hx hb hts (fun _ h => inX7_down_RX7 h) hown hK hS 53 (by omega) rfl rfl 11 (by decide) (hts (.fieldLink RX7 90 "CosetTablesModel" "state" "I") (by decide +kernel)) rfl dX7_down_92 ?_
                    refine gx_as (y := nI (num P T c9 w t)) (by rw [q53, k53 11 (by decide)]; exact hx0) ?_
                    refine gx_ialdn hx hb hK hS 60 (by omega) (by decide) (num P T c9 w t) (by omega) (hln _) dX7_down_95 ?_
                    refine gx_as (y := v9) (by rw [h6 60 (by decide) (by decide), eiv1, up2_row (by decide), hv9]) ?_
                    refine lv_iconst (v := nI 1) hx hb dX7_down_96 (by decide) ?_
                    refine lv_isub hx hb dX7_down_97 ?_
                    refine lv_iconst (v := nI 3) hx hb dX7_down_98 (by decide) ?_
                    refine lv_irem hx hb dX7_down_99 (by decide) ?_
                    refine gx_as (y := (jrem (v9 - 1) (nI 3))) rfl ?_
                    refine lv_icmp_ne (tgt := 110) hx hb dX7_down_100 (by decide) (fun c_100 => ?_) (fun c_100 => ?_)
                    · skip
                      have hcn : okv u (jrem (v9 - 1) (nI 3)) = false := by unfold okv; simp [c_100]
                      refine lv_iinc (v := nI ((i + 1) + 1)) (lv' := [(3, .int (nI ((i + 1) + 1))), (4, .int u), (0, .ref (ad 53)), (1, .int (nI j)), (2, .int (nI (rp j)))]) hx hb dX7_down_110 hl (k := 4) rfl (nI_1 (i + 1)) (by decide) rfl (fun ls hl => ?_)
                      refine lv_goto (tgt := 57) hx hb dX7_down_113 (by decide) ?_
                      exact ih57 (i + 1) iv6 (by omega) (by omega) b6 (by rw [← h3, e1]; (conv => rhs; rw [fs0, hcv, hcn]); rfl) h6 _ _ _ hS (lv_sub hl [2, 3, 4, 0] rfl)
                    · skip
                      have hcy : okv u (jrem (v9 - 1) (nI 3)) = true := by unfold okv; simp [c_100, c_80]
                      have hfi : ft9 j = i + 1 := by rw [hfj, ← h3, e1, fs0, hcv, hcy]; rfl
                      refine lv_bipush (v := nI 16) hx hb dX7_down_103 (by decide) ?_
                      refine lv_iload_n hx hb dX7_down_105 rfl (lv_at hl 2 rfl) ?_
                      refine lv_imul hx hb dX7_down_106 ?_
                      refine gx_as (y := nI (16 * j)) (pk_mul _ _) ?_
                      refine lv_iload_n hx hb dX7_down_107 rfl (lv_at hl 4 rfl) ?_
                      refine lv_iadd hx hb dX7_down_108 ?_
                      refine gx_as (y := nI ((16 * j) + (i + 1))) (nI_add _ _) ?_
                      exact kret _ iv6 _ _ _ _ dX7_down_109 (⟨by rw [if_neg hne, ← h1, e0, dwn, if_pos (by omega), hfi], ⟨by rw [q53, eiv1, up2_s]; rfl, fun q hq => by rw [q53, k53 q hq]⟩, fun q x1 x2 x3 => by rw [h6 q x2 x3, eiv1, up2_row x1]⟩) hS
            exact L57 _ 0 iv4 (Nat.lt_succ_self _) (Nat.zero_le _) a4 (by rw [Nat.sub_zero]) h4 _ _ _ hS (lv_sub hl [2, 3, 1, 0] rfl)
      exact L29 _ 0 iv1 (Nat.lt_succ_self _) (Nat.zero_le _) rfl (fun _ _ _ => rfl) _ _ _ hS (lv_sub hl [1, 0] rfl)
    · skip
      refine lv_iconst (v := (-1)) hx hb dX7_down_25 (by decide) ?_
      exact kret _ iv1 _ _ _ _ dX7_down_26 (⟨by rw [if_pos (by first | exact Or.inl c_9 | exact Or.inr (by rw [← Int32.not_le]; exact c_22))], ⟨by rw [eiv1, up2_s]; rfl, fun j hj => by rw [eiv1, up2_n (fun u => hj u.2)]⟩, fun q x1 x2 x3 => by rw [eiv1, up2_row x1]⟩) hS
set_option maxRecDepth 100000 in
theorem ct_X7_down (l : Launch) (D : va_G) (cA : Nat → ClassId) (o : Nat → Int64) (ad ln : Nat → Nat) (n sz : Nat) (iv : Nat → Nat → Int32) (k9 mc9 P c9 T : Nat) (w t rp : Nat → Nat) (G9 Ad : Nat → Nat → Nat) (v9 : Int32) (hn : 68 ≤ n) (hln : ∀ k, ln k < 2 ^ 31) (hRn : rln ln) (hc9 : iv 53 7 = nI c9) (hc4 : c9 ≤ 4) (hT0 : iv 53 2 = nI T) (hT1 : 0 < T) (hT3 : T ≤ 3) (hP0 : iv 53 1 = nI P) (hP : P ≤ 8) (hmc : iv 53 3 = nI mc9) (hmc6 : mc9 ≤ 6) (hmv : ∀ j, j < mc9 → rmove iv j P T (G9 j) (Ad j) ∧ inj (G9 j) P P) (hNo : ∀ j, j < mc9 → ∃ N0, 1 ≤ N0 ∧ N0 ≤ 63 ∧ hmB P T (G9 j) (Ad j) N0 = true) (hrp : ∀ j, j < mc9 → rp j = if k9 = 0 then 1 else ordr P T (G9 j) (Ad j) - 1) (hk0 : iv 53 13 = nI k9) (hk9 : k9 < 2) (hwi : inj w P c9) (htT : ∀ i, i < c9 → t i < T) (hx0 : iv 53 11 = nI (num P T c9 w t)) (hS9 : ff P c9 * T ^ c9 ≤ 136080) (hv9 : v9 = iv 60 (num P T c9 w t)) : gMi l yX7_down wsX7_down { frames := 2, cells := 0, slots := 0, locals := 49 } D cA o ad ln n sz iv [.ref (ad 53)] (fun (r : Int32) iv' => r = (if iv 53 12 = 0 ∨ v9 < 1 then (-1) else dwn (fun j => (fs0 (fun k => okv (iv 60 (num P T c9 (fun q => itg (G9 j) k (w q)) (atw T (G9 j) (Ad j) w t k))) (jrem (v9 - 1) (nI 3))) (rp j) 1)) mc9 0) ∧ (iv' 53 0 = 0 ∧ ∀ j, j ≠ 0 → iv' 53 j = iv 53 j) ∧ ∀ q, q ≠ 53 → q ≠ 58 → q ≠ 59 → iv' q = iv q) := by
  refine Met.ofW (cc := cX7_down) (maxL := 5) (ret := (some .int)) (by decide) rfl ?_
  intro p e s m args below meth c s₁ B hml hv__
  obtain ⟨rfl, hv__⟩ := hv__
  obtain ⟨hsz, hS, hK, hN, hA⟩ := gS.entry hv__
  have hl := lv_entry ([.ref (ad 53)]) (n := 5) (Nat.le_of_ble_eq_true rfl)
  rw [lg_entry_eq]
  generalize (lg_sl ([.ref (ad 53)]) ++ List.replicate (5 - (lg_sl ([.ref (ad 53)])).length) Slot.unset).toArray = ls at hl ⊢
  exact bd_X7_down (k9 := k9) (mc9 := mc9) (P := P) (c9 := c9) (T := T) (w := w) (t := t) (rp := rp) (G9 := G9) (Ad := Ad) (v9 := v9) ⟨B.exec, B.bytes, hml, findClass_of_methodNamed B.named, atoms_spec (ws := wsX7_down) B.pre, B.returns, B.notSynchronized⟩ (Nat.le_refl _) (Nat.le_refl _) (Nat.le_refl _) (Nat.le_refl _) hK hN hA hn hln hRn hc9 hc4 hT0 hT1 hT3 hP0 hP hmc hmc6 hmv hNo hrp hk0 hk9 hwi htT hx0 hS9 hv9 hS hl (fun r iv' H locs ls pc hd hp hS => gx_iret B.exec B.bytes B.returns B.notSynchronized hS hp hd)
