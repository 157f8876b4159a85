theorem inX5_word_RX5 : ∀ {w : Cond}, w ∈ u_ws RX5 TX5 6 → w ∈ wsX5_word := fun {w} h => by first | exact List.mem_cons_of_mem _ (List.mem_append_right _ h) | (revert h; revert w; show ∀ w ∈ u_ws RX5 TX5 6, w ∈ wsX5_word; decide +kernel)
set_option maxHeartbeats 4000000 in
set_option maxRecDepth 100000 in
theorem bd_X5_word {p : Program} {l : Launch} {e : Env} {R : Room} {s : State} {m : MethodId} {args : Array Value} {below : List Frame} {meth : Method} {c : Code} {H : Heap} {locs : List Loc} {cells slots : Nat} {Q : State → Prop} {ls : Array Slot} {D : va_G} {A : Nat → Prop} {H0 : Heap} {cA : Nat → ClassId} {o : Nat → Int64} {ad ln : Nat → Nat} {iv : Nat → Nat → Int32} {n : Nat} {bt S : Nat} {k9 : Int32}
    (F : gF p s m meth c cX5_word 10 RX5 wsX5_word args (some .long)) (hRf : 2 ≤ R.frames) (hRl : 43 ≤ R.locals) (hRc : cells ≤ R.cells) (hRs : slots ≤ R.slots) (hK : va_K D vwCl (gT cA) s) (hN : NW s) (hA : ∀ q, H0.size ≤ q → A q) (hn : 68 ≤ n) (hln : ∀ k, ln k < 2 ^ 31) (hbt : bt = 2 ∨ bt = 4) (hs : iv 46 2 = nI S) (hS0 : 0 < S) (hS9 : S ≤ 2 ^ 20) (hl47 : S ≤ ln 47)
    (hS : gS D cA A H0 o ad ln iv n H locs) (hl : lv_has ls 10 [(0, .ref (ad 46)), (1, .int (nI bt)), (2, .int k9)])
    (kret : ∀ (r : Int64) (iv' : Nat → Nat → Int32) (H : Heap) (locs : List Loc) (ls : Array Slot) (pc : Nat), decode cX5_word pc = .ok (.lreturn, 1) → (r = (if k9 < 0 ∨ nI ((S - 1) / (64 / bt)) < k9 then 0 else orl (entl bt (iv 47) (tn k9 * (64 / bt))) (min (64 / bt) (S - tn k9 * (64 / bt)))) ∧ iv' = iv) → gS D cA A H0 o ad ln iv' n H locs → W p l e R s m args below meth c H locs cells slots Q (F0 m pc ls [.long r])) :
    W p l e R s m args below meth c H locs cells slots Q (F0 m 0 ls []) := by
  obtain ⟨hx, hb, hml, hown, hts, hr, hlocks⟩ := F
  have he9 : 16 ≤ 64 / bt ∧ 64 / bt ≤ 32 := by rcases hbt with h | h <;> subst h <;> decide
  refine lv_iload_n hx hb dX5_word_0 rfl (lv_at hl 1 rfl) ?_
  refine lv_iconst (v := nI 2) hx hb dX5_word_1 (by decide) ?_
  refine lv_icmp_ne (tgt := 10) hx hb dX5_word_2 (by decide) (fun c_2 => ?_) (fun c_2 => ?_)
  · skip
    rw [nI_eq (by omega) (by omega)] at c_2
    have hb2 : bt = 4 := by omega
    refine lv_bipush (v := nI 16) hx hb dX5_word_10 (by decide) ?_
    refine gx_as (y := nI (64 / bt)) (by rw [hb2]) ?_
    refine lv_istore_n (lv' := [(3, .int (nI (64 / bt))), (0, .ref (ad 46)), (1, .int (nI bt)), (2, .int k9)]) hx hb dX5_word_12 rfl hl (by decide) rfl (fun ls hl => ?_)
    refine lv_iload_n hx hb dX5_word_13 rfl (lv_at hl 3 rfl) ?_
    refine lv_if_lt (tgt := 29) hx hb dX5_word_14 (by decide) (fun c_14 => ?_) (fun c_14 => ?_)
    · skip
      refine lv_lconst (v := 0) hx hb dX5_word_29 (by decide) ?_
      exact kret _ iv _ _ _ _ dX5_word_30 (⟨by rw [if_pos (Or.inl c_14)], rfl⟩) hS
    · skip
      refine lv_iload_n hx hb dX5_word_17 rfl (lv_at hl 3 rfl) ?_
      refine lv_aload_n hx hb dX5_word_18 rfl (lv_at hl 1 rfl) ?_
      refine gx_get (ci := 8) (v := .int (iv 46 2)) (C := RX5) (T := TX5) (N := 6) hx hb hts (fun _ h => inX5_word_RX5 h) hown hK hS 46 (by omega) rfl rfl 2 (by decide) (hts (.fieldLink RX5 32 "CosetTables$Table" "states" "I") (by decide +kernel)) rfl dX5_word_19 ?_
      refine gx_as (y := nI S) hs ?_
      refine lv_iconst (v := nI 1) hx hb dX5_word_22 (by decide) ?_
      refine lv_isub hx hb dX5_word_23 ?_
      refine gx_as (y := nI (S - 1)) (pk_sub hS0) ?_
      refine lv_iload_n hx hb dX5_word_24 rfl (lv_at hl 0 rfl) ?_
      refine lv_idiv hx hb dX5_word_25 (nI_ne0 (by omega) (by omega)) ?_
      refine gx_as (y := nI ((S - 1) / (64 / bt))) (pk_div (by omega) (by omega) (by omega)) ?_
      refine lv_icmp_le (tgt := 31) hx hb dX5_word_26 (by decide) (fun c_26 => ?_) (fun c_26 => ?_)
      · skip
        obtain ⟨kk, hkk, ekk⟩ := nI_of c_14
        have hk2 : kk ≤ (S - 1) / (64 / bt) := by
          have q1 : (S - 1) / (64 / bt) ≤ S - 1 := Nat.div_le_self _ _
          rw [ekk] at c_26
          exact (nI_leI hkk (by omega)).mp c_26
        have hk3 : kk * (64 / bt) ≤ S - 1 := Nat.le_trans (Nat.mul_le_mul_right _ hk2) (Nat.div_mul_le_self _ _)
        have hk4 : tn k9 = kk := by rw [ekk]; exact nI_clamp hkk
        have hk5 : ¬ (k9 < 0 ∨ nI ((S - 1) / (64 / bt)) < k9) := fun h9 => h9.elim c_14 (fun h8 => Int32.lt_irrefl (Int32.lt_of_lt_of_le h8 c_26))
        rw [ekk] at hl
        refine lv_lconst (v := 0) hx hb dX5_word_31 (by decide) ?_
        refine lv_lstore (lv' := [(4, .long (0)), (3, .int (nI (64 / bt))), (0, .ref (ad 46)), (1, .int (nI bt)), (2, .int (nI kk))]) hx hb dX5_word_32 hl (by decide) rfl (fun ls hl => ?_)
        refine lv_iload_n hx hb dX5_word_34 rfl (lv_at hl 4 rfl) ?_
        refine lv_iload_n hx hb dX5_word_35 rfl (lv_at hl 1 rfl) ?_
        refine lv_imul hx hb dX5_word_36 ?_
        refine gx_as (y := nI (kk * (64 / bt))) (pk_mul _ _) ?_
        refine lv_istore (lv' := [(6, .int (nI (kk * (64 / bt)))), (4, .long (0)), (3, .int (nI (64 / bt))), (0, .ref (ad 46)), (1, .int (nI bt)), (2, .int (nI kk))]) hx hb dX5_word_37 hl (by decide) rfl (fun ls hl => ?_)
        refine lv_iconst (v := nI 0) hx hb dX5_word_39 (by decide) ?_
        refine lv_istore (lv' := [(7, .int (nI 0)), (6, .int (nI (kk * (64 / bt)))), (4, .long (0)), (3, .int (nI (64 / bt))), (0, .ref (ad 46)), (1, .int (nI bt)), (2, .int (nI kk))]) hx hb dX5_word_40 hl (by decide) rfl (fun ls hl => ?_)
        have L42 : ∀ (N : Nat) (i : Nat), 64 / bt - i < N → (i ≤ 64 / bt) → (kk * (64 / bt) + i ≤ S) → ∀ (H : Heap) (locs : List Loc) (ls : Array Slot), gS D cA A H0 o ad ln iv n H locs → lv_has ls 10 [(0, .ref (ad 46)), (1, .int (nI bt)), (2, .int (nI kk)), (3, .int (nI (64 / bt))), (4, .long (orl (entl bt (iv 47) (kk * (64 / bt))) i)), (6, .int (nI (kk * (64 / bt)))), (7, .int (nI i))] → W p l e R s m args below meth c H locs cells slots Q (F0 m 42 ls []) := by
          intro N
          induction N with
          | zero => intro i hm; exact absurd hm (Nat.not_lt_zero _)
          | succ N ih42 =>
            intro i hm hi hi2 H locs ls hS hl
            refine lv_iload hx hb dX5_word_42 (lv_at hl 6 rfl) ?_
            refine lv_iload_n hx hb dX5_word_44 rfl (lv_at hl 3 rfl) ?_
            refine lv_icmp_ge (tgt := 108) hx hb dX5_word_45 (by decide) (fun c_45 => ?_) (fun c_45 => ?_)
            · skip
              rw [nI_leI (by omega) (by omega)] at c_45
              refine lv_lload hx hb dX5_word_108 (lv_at hl 4 rfl) ?_
              exact kret _ iv _ _ _ _ dX5_word_110 (⟨by rw [if_neg hk5, hk4, show min (64 / bt) (S - kk * (64 / bt)) = i by omega], rfl⟩) hS
            · skip
              rw [nI_leI (by omega) (by omega)] at c_45
              refine lv_iload hx hb dX5_word_48 (lv_at hl 5 rfl) ?_
              refine lv_iload hx hb dX5_word_50 (lv_at hl 6 rfl) ?_
              refine lv_iadd hx hb dX5_word_52 ?_
              refine gx_as (y := nI ((kk * (64 / bt)) + i)) (nI_add _ _) ?_
              refine lv_aload_n hx hb dX5_word_53 rfl (lv_at hl 0 rfl) ?_
              refine gx_get (ci := 8) (v := .int (iv 46 2)) (C := RX5) (T := TX5) (N := 6) hx hb hts (fun _ h => inX5_word_RX5 h) hown hK hS 46 (by omega) rfl rfl 2 (by decide) (hts (.fieldLink RX5 32 "CosetTables$Table" "states" "I") (by decide +kernel)) rfl dX5_word_54 ?_
              refine gx_as (y := nI S) hs ?_
              refine lv_icmp_ge (tgt := 108) hx hb dX5_word_57 (by decide) (fun c_57 => ?_) (fun c_57 => ?_)
              · skip
                rw [nI_leI (by omega) (by omega)] at c_57
                refine lv_lload hx hb dX5_word_108 (lv_at hl 4 rfl) ?_
                exact kret _ iv _ _ _ _ dX5_word_110 (⟨by rw [if_neg hk5, hk4, show min (64 / bt) (S - kk * (64 / bt)) = i by omega], rfl⟩) hS
              · skip
                rw [nI_leI (by omega) (by omega)] at c_57
                refine lv_iload_n hx hb dX5_word_60 rfl (lv_at hl 1 rfl) ?_
                refine lv_iconst (v := nI 2) hx hb dX5_word_61 (by decide) ?_
                refine lv_icmp_ne (tgt := 78) hx hb dX5_word_62 (by decide) (fun c_62 => ?_) (fun c_62 => ?_)
                · skip
                  rw [nI_eq (by omega) (by omega)] at c_62
                  refine lv_aload_n hx hb dX5_word_78 rfl (lv_at hl 0 rfl) ?_
                  refine lv_iload hx hb dX5_word_79 (lv_at hl 5 rfl) ?_
                  refine lv_iload hx hb dX5_word_81 (lv_at hl 6 rfl) ?_
                  refine lv_iadd hx hb dX5_word_83 ?_
                  refine gx_as (y := nI ((kk * (64 / bt)) + i)) (nI_add _ _) ?_
                  refine gc_i (gx_runV (As := [.int (nI ((kk * (64 / bt)) + i))]) (rest := []) ⟨hx, hb, hml, hown, hts⟩ hK hN hS 46 (by omega) rfl rfl (ct_X5_fourBits l D cA o ad ln n H.size iv (j := kk * (64 / bt) + i) hn hln (by omega)) (cwV 1 hts gX5_word_X5_fourBits rfl rfl rfl (by decide +kernel) ⟨gle hRf rfl, gle hRl rfl⟩) rfl rfl hl.1 rfl (lv_room (Nat.le_of_ble_eq_true rfl)) dX5_word_84 ⟨hRc, hRs⟩) hS hA (fun y iv1 H locs hp1 hS => ?_)
                  obtain ⟨ey, ev1⟩ := hp1
                  rw [ev1] at hS
                  refine gx_as (y := ent bt (iv 47 (kk * (64 / bt) + i))) (by rw [ey, ent, if_neg c_62]; rfl) ?_
                  skip
                  refine lv_i2l (v := Int32.toInt64 (ent bt (iv 47 (kk * (64 / bt) + i)))) hx hb dX5_word_87 rfl ?_
                  refine gx_asl (y := Int32.toInt64 (ent bt (iv 47 (kk * (64 / bt) + i)))) rfl ?_
                  refine lv_lstore (lv' := [(8, .long (Int32.toInt64 (ent bt (iv 47 (kk * (64 / bt) + i))))), (0, .ref (ad 46)), (1, .int (nI bt)), (2, .int (nI kk)), (3, .int (nI (64 / bt))), (4, .long (orl (entl bt (iv 47) (kk * (64 / bt))) i)), (6, .int (nI (kk * (64 / bt)))), (7, .int (nI i))]) hx hb dX5_word_88 hl (by decide) rfl (fun ls hl => ?_)
                  refine lv_lload hx hb dX5_word_90 (lv_at hl 5 rfl) ?_
                  refine lv_lload hx hb dX5_word_92 (lv_at hl 0 rfl) ?_
                  refine lv_iload hx hb dX5_word_94 (lv_at hl 7 rfl) ?_
                  refine lv_iload_n hx hb dX5_word_96 rfl (lv_at hl 2 rfl) ?_
                  refine lv_imul hx hb dX5_word_97 ?_
                  refine gx_as (y := nI (i * bt)) (pk_mul _ _) ?_
                  refine lv_lshl (v := (Int32.toInt64 (ent bt (iv 47 (kk * (64 / bt) + i)))) <<< (Int32.toInt64 (nI (i * bt)) &&& 63)) hx hb dX5_word_98 rfl ?_
                  refine lv_lor hx hb dX5_word_99 ?_
                  refine gx_asl (y := orl (entl bt (iv 47) (kk * (64 / bt))) (i + 1)) rfl ?_
                  refine lv_lstore (lv' := [(4, .long (orl (entl bt (iv 47) (kk * (64 / bt))) (i + 1))), (8, .long (Int32.toInt64 (ent bt (iv 47 (kk * (64 / bt) + i))))), (0, .ref (ad 46)), (1, .int (nI bt)), (2, .int (nI kk)), (3, .int (nI (64 / bt))), (6, .int (nI (kk * (64 / bt)))), (7, .int (nI i))]) hx hb dX5_word_100 hl (by decide) rfl (fun ls hl => ?_)
                  refine lv_iinc (v := nI (i + 1)) (lv' := [(7, .int (nI (i + 1))), (4, .long (orl (entl bt (iv 47) (kk * (64 / bt))) (i + 1))), (8, .long (Int32.toInt64 (ent bt (iv 47 (kk * (64 / bt) + i))))), (0, .ref (ad 46)), (1, .int (nI bt)), (2, .int (nI kk)), (3, .int (nI (64 / bt))), (6, .int (nI (kk * (64 / bt))))]) hx hb dX5_word_102 hl (k := 7) rfl (nI_1 i) (by decide) rfl (fun ls hl => ?_)
                  refine lv_goto (tgt := 42) hx hb dX5_word_105 (by decide) ?_
                  exact ih42 (i + 1) (by omega) (by omega) (by omega) _ _ _ hS (lv_sub hl [3, 4, 5, 6, 1, 7, 0] rfl)
                · skip
                  rw [nI_eq (by omega) (by omega)] at c_62
                  refine lv_aload_n hx hb dX5_word_65 rfl (lv_at hl 0 rfl) ?_
                  refine lv_iload hx hb dX5_word_66 (lv_at hl 5 rfl) ?_
                  refine lv_iload hx hb dX5_word_68 (lv_at hl 6 rfl) ?_
                  refine lv_iadd hx hb dX5_word_70 ?_
                  refine gx_as (y := nI ((kk * (64 / bt)) + i)) (nI_add _ _) ?_
                  refine gc_i (gx_runV (As := [.int (nI ((kk * (64 / bt)) + i))]) (rest := []) ⟨hx, hb, hml, hown, hts⟩ hK hN hS 46 (by omega) rfl rfl (ct_X5_twoBits l D cA o ad ln n H.size iv (j := kk * (64 / bt) + i) hn hln (by omega)) (cwV 1 hts gX5_word_X5_twoBits rfl rfl rfl (by decide +kernel) ⟨gle hRf rfl, gle hRl rfl⟩) rfl rfl hl.1 rfl (lv_room (Nat.le_of_ble_eq_true rfl)) dX5_word_71 ⟨hRc, hRs⟩) hS hA (fun y iv1 H locs hp1 hS => ?_)
                  obtain ⟨ey, ev1⟩ := hp1
                  rw [ev1] at hS
                  refine gx_as (y := ent bt (iv 47 (kk * (64 / bt) + i))) (by rw [ey, ent, if_pos c_62]; rfl) ?_
                  skip
                  refine lv_i2l (v := Int32.toInt64 (ent bt (iv 47 (kk * (64 / bt) + i)))) hx hb dX5_word_74 rfl ?_
                  refine lv_goto (tgt := 88) hx hb dX5_word_75 (by decide) ?_
                  refine gx_asl (y := Int32.toInt64 (ent bt (iv 47 (kk * (64 / bt) + i)))) rfl ?_
                  refine lv_lstore (lv' := [(8, .long (Int32.toInt64 (ent bt (iv 47 (kk * (64 / bt) + i))))), (0, .ref (ad 46)), (1, .int (nI bt)), (2, .int (nI kk)), (3, .int (nI (64 / bt))), (4, .long (orl (entl bt (iv 47) (kk * (64 / bt))) i)), (6, .int (nI (kk * (64 / bt)))), (7, .int (nI i))]) hx hb dX5_word_88 hl (by decide) rfl (fun ls hl => ?_)
                  refine lv_lload hx hb dX5_word_90 (lv_at hl 5 rfl) ?_
                  refine lv_lload hx hb dX5_word_92 (lv_at hl 0 rfl) ?_
                  refine lv_iload hx hb dX5_word_94 (lv_at hl 7 rfl) ?_
                  refine lv_iload_n hx hb dX5_word_96 rfl (lv_at hl 2 rfl) ?_
                  refine lv_imul hx hb dX5_word_97 ?_
                  refine gx_as (y := nI (i * bt)) (pk_mul _ _) ?_
                  refine lv_lshl (v := (Int32.toInt64 (ent bt (iv 47 (kk * (64 / bt) + i)))) <<< (Int32.toInt64 (nI (i * bt)) &&& 63)) hx hb dX5_word_98 rfl ?_
                  refine lv_lor hx hb dX5_word_99 ?_
                  refine gx_asl (y := orl (entl bt (iv 47) (kk * (64 / bt))) (i + 1)) rfl ?_
                  refine lv_lstore (lv' := [(4, .long (orl (entl bt (iv 47) (kk * (64 / bt))) (i + 1))), (8, .long (Int32.toInt64 (ent bt (iv 47 (kk * (64 / bt) + i))))), (0, .ref (ad 46)), (1, .int (nI bt)), (2, .int (nI kk)), (3, .int (nI (64 / bt))), (6, .int (nI (kk * (64 / bt)))), (7, .int (nI i))]) hx hb dX5_word_100 hl (by decide) rfl (fun ls hl => ?_)
                  refine lv_iinc (v := nI (i + 1)) (lv' := [(7, .int (nI (i + 1))), (4, .long (orl (entl bt (iv 47) (kk * (64 / bt))) (i + 1))), (8, .long (Int32.toInt64 (ent bt (iv 47 (kk * (64 / bt) + i))))), (0, .ref (ad 46)), (1, .int (nI bt)), (2, .int (nI kk)), (3, .int (nI (64 / bt))), (6, .int (nI (kk * (64 / bt))))]) hx hb dX5_word_102 hl (k := 7) rfl (nI_1 i) (by decide) rfl (fun ls hl => ?_)
                  refine lv_goto (tgt := 42) hx hb dX5_word_105 (by decide) ?_
                  exact ih42 (i + 1) (by omega) (by omega) (by omega) _ _ _ hS (lv_sub hl [3, 4, 5, 6, 1, 7, 0] rfl)
        exact L42 _ 0 (Nat.lt_succ_self _) (Nat.zero_le _) (by omega) _ _ _ hS (lv_sub hl [4, 5, 6, 3, 2, 1, 0] rfl)
      · skip
        refine lv_lconst (v := 0) hx hb dX5_word_29 (by decide) ?_
        exact kret _ iv _ _ _ _ dX5_word_30 (⟨by rw [if_pos (Or.inr (Int32.not_le.mp c_26))], rfl⟩) hS
  · skip
    rw [nI_eq (by omega) (by omega)] at c_2
    have hb2 : bt = 2 := c_2
    refine lv_bipush (v := nI 32) hx hb dX5_word_5 (by decide) ?_
    refine lv_goto (tgt := 12) hx hb dX5_word_7 (by decide) ?_
    refine gx_as (y := nI (64 / bt)) (by rw [hb2]) ?_
    refine lv_istore_n (lv' := [(3, .int (nI (64 / bt))), (0, .ref (ad 46)), (1, .int (nI bt)), (2, .int k9)]) hx hb dX5_word_12 rfl hl (by decide) rfl (fun ls hl => ?_)
    refine lv_iload_n hx hb dX5_word_13 rfl (lv_at hl 3 rfl) ?_
    refine lv_if_lt (tgt := 29) hx hb dX5_word_14 (by decide) (fun c_14 => ?_) (fun c_14 => ?_)
    · skip
      refine lv_lconst (v := 0) hx hb dX5_word_29 (by decide) ?_
      exact kret _ iv _ _ _ _ dX5_word_30 (⟨by rw [if_pos (Or.inl c_14)], rfl⟩) hS
    · skip
      refine lv_iload_n hx hb dX5_word_17 rfl (lv_at hl 3 rfl) ?_
      refine lv_aload_n hx hb dX5_word_18 rfl (lv_at hl 1 rfl) ?_
      refine gx_get (ci := 8) (v := .int (iv 46 2)) (C := RX5) (T := TX5) (N := 6) hx hb hts (fun _ h => inX5_word_RX5 h) hown hK hS 46 (by omega) rfl rfl 2 (by decide) (hts (.fieldLink RX5 32 "CosetTables$Table" "states" "I") (by decide +kernel)) rfl dX5_word_19 ?_
      refine gx_as (y := nI S) hs ?_
      refine lv_iconst (v := nI 1) hx hb dX5_word_22 (by decide) ?_
      refine lv_isub hx hb dX5_word_23 ?_
      refine gx_as (y := nI (S - 1)) (pk_sub hS0) ?_
      refine lv_iload_n hx hb dX5_word_24 rfl (lv_at hl 0 rfl) ?_
      refine lv_idiv hx hb dX5_word_25 (nI_ne0 (by omega) (by omega)) ?_
      refine gx_as (y := nI ((S - 1) / (64 / bt))) (pk_div (by omega) (by omega) (by omega)) ?_
      refine lv_icmp_le (tgt := 31) hx hb dX5_word_26 (by decide) (fun c_26 => ?_) (fun c_26 => ?_)
      · skip
        obtain ⟨kk, hkk, ekk⟩ := nI_of c_14
        have hk2 : kk ≤ (S - 1) / (64 / bt) := by
          have q1 : (S - 1) / (64 / bt) ≤ S - 1 := Nat.div_le_self _ _
          rw [ekk] at c_26
          exact (nI_leI hkk (by omega)).mp c_26
        have hk3 : kk * (64 / bt) ≤ S - 1 := Nat.le_trans (Nat.mul_le_mul_right _ hk2) (Nat.div_mul_le_self _ _)
        have hk4 : tn k9 = kk := by rw [ekk]; exact nI_clamp hkk
        have hk5 : ¬ (k9 < 0 ∨ nI ((S - 1) / (64 / bt)) < k9) := fun h9 => h9.elim c_14 (fun h8 => Int32.lt_irrefl (Int32.lt_of_lt_of_le h8 c_26))
        rw [ekk] at hl
        refine lv_lconst (v := 0) hx hb dX5_word_31 (by decide) ?_
        refine lv_lstore (lv' := [(4, .long (0)), (3, .int (nI (64 / bt))), (0, .ref (ad 46)), (1, .int (nI bt)), (2, .int (nI kk))]) hx hb dX5_word_32 hl (by decide) rfl (fun ls hl => ?_)
        refine lv_iload_n hx hb dX5_word_34 rfl (lv_at hl 4 rfl) ?_
        refine lv_iload_n hx hb dX5_word_35 rfl (lv_at hl 1 rfl) ?_
        refine lv_imul hx hb dX5_word_36 ?_
        refine gx_as (y := nI (kk * (64 / bt))) (pk_mul _ _) ?_
        refine lv_istore (lv' := [(6, .int (nI (kk * (64 / bt)))), (4, .long (0)), (3, .int (nI (64 / bt))), (0, .ref (ad 46)), (1, .int (nI bt)), (2, .int (nI kk))]) hx hb dX5_word_37 hl (by decide) rfl (fun ls hl => ?_)
        refine lv_iconst (v := nI 0) hx hb dX5_word_39 (by decide) ?_
        refine lv_istore (lv' := [(7, .int (nI 0)), (6, .int (nI (kk * (64 / bt)))), (4, .long (0)), (3, .int (nI (64 / bt))), (0, .ref (ad 46)), (1, .int (nI bt)), (2, .int (nI kk))]) hx hb dX5_word_40 hl (by decide) rfl (fun ls hl => ?_)
        have L42 : ∀ (N : Nat) (i : Nat), 64 / bt - i < N → (i ≤ 64 / bt) → (kk * (64 / bt) + i ≤ S) → ∀ (H : Heap) (locs : List Loc) (ls : Array Slot), gS D cA A H0 o ad ln iv n H locs → lv_has ls 10 [(0, .ref (ad 46)), (1, .int (nI bt)), (2, .int (nI kk)), (3, .int (nI (64 / bt))), (4, .long (orl (entl bt (iv 47) (kk * (64 / bt))) i)), (6, .int (nI (kk * (64 / bt)))), (7, .int (nI i))] → W p l e R s m args below meth c H locs cells slots Q (F0 m 42 ls []) := by
          intro N
          induction N with
          | zero => intro i hm; exact absurd hm (Nat.not_lt_zero _)
          | succ N ih42 =>
            intro i hm hi hi2 H locs ls hS hl
            refine lv_iload hx hb dX5_word_42 (lv_at hl 6 rfl) ?_
            refine lv_iload_n hx hb dX5_word_44 rfl (lv_at hl 3 rfl) ?_
            refine lv_icmp_ge (tgt := 108) hx hb dX5_word_45 (by decide) (fun c_45 => ?_) (fun c_45 => ?_)
            · skip
              rw [nI_leI (by omega) (by omega)] at c_45
              refine lv_lload hx hb dX5_word_108 (lv_at hl 4 rfl) ?_
              exact kret _ iv _ _ _ _ dX5_word_110 (⟨by rw [if_neg hk5, hk4, show min (64 / bt) (S - kk * (64 / bt)) = i by omega], rfl⟩) hS
            · skip
              rw [nI_leI (by omega) (by omega)] at c_45
              refine lv_iload hx hb dX5_word_48 (lv_at hl 5 rfl) ?_
              refine lv_iload hx hb dX5_word_50 (lv_at hl 6 rfl) ?_
              refine lv_iadd hx hb dX5_word_52 ?_
              refine gx_as (y := nI ((kk * (64 / bt)) + i)) (nI_add _ _) ?_
              refine lv_aload_n hx hb dX5_word_53 rfl (lv_at hl 0 rfl) ?_
              refine gx_get (ci := 8) (v := .int (iv 46 2)) (C := RX5) (T := TX5) (N := 6) hx hb hts (fun _ h => inX5_word_RX5 h) hown hK hS 46 (by omega) rfl rfl 2 (by decide) (hts (.fieldLink RX5 32 "CosetTables$Table" "states" "I") (by decide +kernel)) rfl dX5_word_54 ?_
              refine gx_as (y := nI S) hs ?_
              refine lv_icmp_ge (tgt := 108) hx hb dX5_word_57 (by decide) (fun c_57 => ?_) (fun c_57 => ?_)
              · skip
                rw [nI_leI (by omega) (by omega)] at c_57
                refine lv_lload hx hb dX5_word_108 (lv_at hl 4 rfl) ?_
                exact kret _ iv _ _ _ _ dX5_word_110 (⟨by rw [if_neg hk5, hk4, show min (64 / bt) (S - kk * (64 / bt)) = i by omega], rfl⟩) hS
              · skip
                rw [nI_leI (by omega) (by omega)] at c_57
                refine lv_iload_n hx hb dX5_word_60 rfl (lv_at hl 1 rfl) ?_
                refine lv_iconst (v := nI 2) hx hb dX5_word_61 (by decide) ?_
                refine lv_icmp_ne (tgt := 78) hx hb dX5_word_62 (by decide) (fun c_62 => ?_) (fun c_62 => ?_)
                · skip
                  rw [nI_eq (by omega) (by omega)] at c_62
                  refine lv_aload_n hx hb dX5_word_78 rfl (lv_at hl 0 rfl) ?_
                  refine lv_iload hx hb dX5_word_79 (lv_at hl 5 rfl) ?_
                  refine lv_iload hx hb dX5_word_81 (lv_at hl 6 rfl) ?_
                  refine lv_iadd hx hb dX5_word_83 ?_
                  refine gx_as (y := nI ((kk * (64 / bt)) + i)) (nI_add _ _) ?_
                  refine gc_i (gx_runV (As := [.int (nI ((kk * (64 / bt)) + i))]) (rest := []) ⟨hx, hb, hml, hown, hts⟩ hK hN hS 46 (by omega) rfl rfl (ct_X5_fourBits l D cA o ad ln n H.size iv (j := kk * (64 / bt) + i) hn hln (by omega)) (cwV 1 hts gX5_word_X5_fourBits rfl rfl rfl (by decide +kernel) ⟨gle hRf rfl, gle hRl rfl⟩) rfl rfl hl.1 rfl (lv_room (Nat.le_of_ble_eq_true rfl)) dX5_word_84 ⟨hRc, hRs⟩) hS hA (fun y iv1 H locs hp1 hS => ?_)
                  obtain ⟨ey, ev1⟩ := hp1
                  rw [ev1] at hS
                  refine gx_as (y := ent bt (iv 47 (kk * (64 / bt) + i))) (by rw [ey, ent, if_neg c_62]; rfl) ?_
                  skip
                  refine lv_i2l (v := Int32.toInt64 (ent bt (iv 47 (kk * (64 / bt) + i)))) hx hb dX5_word_87 rfl ?_
                  refine gx_asl (y := Int32.toInt64 (ent bt (iv 47 (kk * (64 / bt) + i)))) rfl ?_
                  refine lv_lstore (lv' := [(8, .long (Int32.toInt64 (ent bt (iv 47 (kk * (64 / bt) + i))))), (0, .ref (ad 46)), (1, .int (nI bt)), (2, .int (nI kk)), (3, .int (nI (64 / bt))), (4, .long (orl (entl bt (iv 47) (kk * (64 / bt))) i)), (6, .int (nI (kk * (64 / bt)))), (7, .int (nI i))]) hx hb dX5_word_88 hl (by decide) rfl (fun ls hl => ?_)
                  refine lv_lload hx hb dX5_word_90 (lv_at hl 5 rfl) ?_
                  refine lv_lload hx hb dX5_word_92 (lv_at hl 0 rfl) ?_
                  refine lv_iload hx hb dX5_word_94 (lv_at hl 7 rfl) ?_
                  refine lv_iload_n hx hb dX5_word_96 rfl (lv_at hl 2 rfl) ?_
                  refine lv_imul hx hb dX5_word_97 ?_
                  refine gx_as (y := nI (i * bt)) (pk_mul _ _) ?_
                  refine lv_lshl (v := (Int32.toInt64 (ent bt (iv 47 (kk * (64 / bt) + i)))) <<< (Int32.toInt64 (nI (i * bt)) &&& 63)) hx hb dX5_word_98 rfl ?_
                  refine lv_lor hx hb dX5_word_99 ?_
                  refine gx_asl (y := orl (entl bt (iv 47) (kk * (64 / bt))) (i + 1)) rfl ?_
                  refine lv_lstore (lv' := [(4, .long (orl (entl bt (iv 47) (kk * (64 / bt))) (i + 1))), (8, .long (Int32.toInt64 (ent bt (iv 47 (kk * (64 / bt) + i))))), (0, .ref (ad 46)), (1, .int (nI bt)), (2, .int (nI kk)), (3, .int (nI (64 / bt))), (6, .int (nI (kk * (64 / bt)))), (7, .int (nI i))]) hx hb dX5_word_100 hl (by decide) rfl (fun ls hl => ?_)
                  refine lv_iinc (v := nI (i + 1)) (lv' := [(7, .int (nI (i + 1))), (4, .long (orl (entl bt (iv 47) (kk * (64 / bt))) (i + 1))), (8, .long (Int32.toInt64 (ent bt (iv 47 (kk * (64 / bt) + i))))), (0, .ref (ad 46)), (1, .int (nI bt)), (2, .int (nI kk)), (3, .int (nI (64 / bt))), (6, .int (nI (kk * (64 / bt))))]) hx hb dX5_word_102 hl (k := 7) rfl (nI_1 i) (by decide) rfl (fun ls hl => ?_)
                  refine lv_goto (tgt := 42) hx hb dX5_word_105 (by decide) ?_
                  exact ih42 (i + 1) (by omega) (by omega) (by omega) _ _ _ hS (lv_sub hl [3, 4, 5, 6, 1, 7, 0] rfl)
                · skip
                  rw [nI_eq (by omega) (by omega)] at c_62
                  refine lv_aload_n hx hb dX5_word_65 rfl (lv_at hl 0 rfl) ?_
                  refine lv_iload hx hb dX5_word_66 (lv_at hl 5 rfl) ?_
                  refine lv_iload hx hb dX5_word_68 (lv_at hl 6 rfl) ?_
                  refine lv_iadd hx hb dX5_word_70 ?_
                  refine gx_as (y := nI ((kk * (64 / bt)) + i)) (nI_add _ _) ?_
                  refine gc_i (gx_runV (As := [.int (nI ((kk * (64 / bt)) + i))]) (rest := []) ⟨hx, hb, hml, hown, hts⟩ hK hN hS 46 (by omega) rfl rfl (ct_X5_twoBits l D cA o ad ln n H.size iv (j := kk * (64 / bt) + i) hn hln (by omega)) (cwV 1 hts gX5_word_X5_twoBits rfl rfl rfl (by decide +kernel) ⟨gle hRf rfl, gle hRl rfl⟩) rfl rfl hl.1 rfl (lv_room (Nat.le_of_ble_eq_true rfl)) dX5_word_71 ⟨hRc, hRs⟩) hS hA (fun y iv1 H locs hp1 hS => ?_)
                  obtain ⟨ey, ev1⟩ := hp1
                  rw [ev1] at hS
                  refine gx_as (y := ent bt (iv 47 (kk * (64 / bt) + i))) (by rw [ey, ent, if_pos c_62]; rfl) ?_
                  skip
                  refine lv_i2l (v := Int32.toInt64 (ent bt (iv 47 (kk * (64 / bt) + i)))) hx hb dX5_word_74 rfl ?_
                  refine lv_goto (tgt := 88) hx hb dX5_word_75 (by decide) ?_
                  refine gx_asl (y := Int32.toInt64 (ent bt (iv 47 (kk * (64 / bt) + i)))) rfl ?_
                  refine lv_lstore (lv' := [(8, .long (Int32.toInt64 (ent bt (iv 47 (kk * (64 / bt) + i))))), (0, .ref (ad 46)), (1, .int (nI bt)), (2, .int (nI kk)), (3, .int (nI (64 / bt))), (4, .long (orl (entl bt (iv 47) (kk * (64 / bt))) i)), (6, .int (nI (kk * (64 / bt)))), (7, .int (nI i))]) hx hb dX5_word_88 hl (by decide) rfl (fun ls hl => ?_)
                  refine lv_lload hx hb dX5_word_90 (lv_at hl 5 rfl) ?_
                  refine lv_lload hx hb dX5_word_92 (lv_at hl 0 rfl) ?_
                  refine lv_iload hx hb dX5_word_94 (lv_at hl 7 rfl) ?_
                  refine lv_iload_n hx hb dX5_word_96 rfl (lv_at hl 2 rfl) ?_
                  refine lv_imul hx hb dX5_word_97 ?_
                  refine gx_as (y := nI (i * bt)) (pk_mul _ _) ?_
                  refine lv_lshl (v := (Int32.toInt64 (ent bt (iv 47 (kk * (64 / bt) + i)))) <<< (Int32.toInt64 (nI (i * bt)) &&& 63)) hx hb dX5_word_98 rfl ?_
                  refine lv_lor hx hb dX5_word_99 ?_
                  refine gx_asl (y := orl (entl bt (iv 47) (kk * (64 / bt))) (i + 1)) rfl ?_
                  refine lv_lstore (lv' := [(4, .long (orl (entl bt (iv 47) (kk * (64 / bt))) (i + 1))), (8, .long (Int32.toInt64 (ent bt (iv 47 (kk * (64 / bt) + i))))), (0, .ref (ad 46)), (1, .int (nI bt)), (2, .int (nI kk)), (3, .int (nI (64 / bt))), (6, .int (nI (kk * (64 / bt)))), (7, .int (nI i))]) hx hb dX5_word_100 hl (by decide) rfl (fun ls hl => ?_)
                  refine lv_iinc (v := nI (i + 1)) (lv' := [(7, .int (nI (i + 1))), (4, .long (orl (entl bt (iv 47) (kk * (64 / bt))) (i + 1))), (8, .long (Int32.toInt64 (ent bt (iv 47 (kk * (64 / bt) + i))))), (0, .ref (ad 46)), (1, .int (nI bt)), (2, .int (nI kk)), (3, .int (nI (64 / bt))), (6, .int (nI (kk * (64 / bt))))]) hx hb dX5_word_102 hl (k := 7) rfl (nI_1 i) (by decide) rfl (fun ls hl => ?_)
                  refine lv_goto (tgt := 42) hx hb dX5_word_105 (by decide) ?_
                  exact ih42 (i + 1) (by omega) (by omega) (by omega) _ _ _ hS (lv_sub hl [3, 4, 5, 6, 1, 7, 0] rfl)
        exact L42 _ 0 (Nat.lt_succ_self _) (Nat.zero_le _) (by omega) _ _ _ hS (lv_sub hl [4, 5, 6, 3, 2, 1, 0] rfl)
      · skip
        refine lv_lconst (v := 0) hx hb dX5_word_29 (by decide) ?_
        exact kret _ iv _ _ _ _ dX5_word_30 (⟨by rw [if_pos (Or.inr (Int32.not_le.mp c_26))], rfl⟩) hS
set_option maxRecDepth 100000 in
theorem ct_X5_word (l : Launch) (D : va_G) (cA : Nat → ClassId) (o : Nat → Int64) (ad ln : Nat → Nat) (n sz : Nat) (iv : Nat → Nat → Int32) (bt S : Nat) (k9 : Int32) (hn : 68 ≤ n) (hln : ∀ k, ln k < 2 ^ 31) (hbt : bt = 2 ∨ bt = 4) (hs : iv 46 2 = nI S) (hS0 : 0 < S) (hS9 : S ≤ 2 ^ 20) (hl47 : S ≤ ln 47) : gMl l yX5_word wsX5_word { frames := 2, cells := 0, slots := 0, locals := 43 } D cA o ad ln n sz iv [.ref (ad 46), .int (nI bt), .int k9] (fun (r : Int64) iv' => r = (if k9 < 0 ∨ nI ((S - 1) / (64 / bt)) < k9 then 0 else orl (entl bt (iv 47) (tn k9 * (64 / bt))) (min (64 / bt) (S - tn k9 * (64 / bt)))) ∧ iv' = iv) := by
  refine Met.ofW (cc := cX5_word) (maxL := 10) (ret := (some .long)) (by decide) rfl ?_
  intro p e s m args below meth c s₁ B hml hv__
  obtain ⟨rfl, hv__⟩ := hv__
  obtain ⟨hsz, hS, hK, hN, hA⟩ := gS.entry hv__
  have hl := lv_entry ([.ref (ad 46), .int (nI bt), .int k9]) (n := 10) (Nat.le_of_ble_eq_true rfl)
  rw [lg_entry_eq]
  generalize (lg_sl ([.ref (ad 46), .int (nI bt), .int k9]) ++ List.replicate (10 - (lg_sl ([.ref (ad 46), .int (nI bt), .int k9])).length) Slot.unset).toArray = ls at hl ⊢
  exact bd_X5_word (bt := bt) (S := S) (k9 := k9) ⟨B.exec, B.bytes, hml, findClass_of_methodNamed B.named, atoms_spec (ws := wsX5_word) B.pre, B.returns, B.notSynchronized⟩ (Nat.le_refl _) (Nat.le_refl _) (Nat.le_refl _) (Nat.le_refl _) hK hN hA hn hln hbt hs hS0 hS9 hl47 hS hl (fun r iv' H locs ls pc hd hp hS => gx_lret B.exec B.bytes B.returns B.notSynchronized hS hp hd)
