theorem inX7_take_RX7 : ∀ {w : Cond}, w ∈ u_ws RX7 TX7 23 → w ∈ wsX7_take := fun {w} h => by first | exact List.mem_cons_of_mem _ (List.mem_append_right _ h) | (revert h; revert w; show ∀ w ∈ u_ws RX7 TX7 23, w ∈ wsX7_take; decide +kernel)
set_option maxHeartbeats 1000000 in
set_option maxRecDepth 100000 in
theorem bd_X7_take {p : Program} {l : Launch} {e : Env} {R : Room} {s : State} {m : MethodId} {args : Array Value} {below : List Frame} {meth : Method} {c : Code} {H : Heap} {locs : List Loc} {cells slots : Nat} {Q : State → Prop} {ls : Array Slot} {D : va_G} {A : Nat → Prop} {H0 : Heap} {cA : Nat → ClassId} {o : Nat → Int64} {ad ln : Nat → Nat} {iv : Nat → Nat → Int32} {n : Nat} {x P c9 T : Nat}
    (F : gF p s m meth c cX7_take 6 RX7 wsX7_take args none) (hRf : 1 ≤ R.frames) (hRl : 23 ≤ R.locals) (hRc : cells ≤ R.cells) (hRs : slots ≤ R.slots) (hK : va_K D vwCl (gT cA) s) (hN : NW s) (hA : ∀ q, H0.size ≤ q → A q) (hn : 68 ≤ n) (hln : ∀ k, ln k < 2 ^ 31) (hRn : rln ln) (hc9 : iv 53 7 = nI c9) (hc4 : c9 ≤ 4) (hT0 : iv 53 2 = nI T) (hT1 : 0 < T) (hT3 : T ≤ 3) (hP0 : iv 53 1 = nI P) (hP : P ≤ 8) (hcP : c9 ≤ P) (hx9 : x < 2 ^ 20)
    (hS : gS D cA A H0 o ad ln iv n H locs) (hl : lv_has ls 6 [(0, .ref (ad 53)), (1, .int (nI x))])
    (kret : ∀ (iv' : Nat → Nat → Int32) (H : Heap) (locs : List Loc) (ls : Array Slot) (pc : Nat), decode cX7_take pc = .ok (.return_, 1) → (rAt iv' c9 (dw P c9 (x / T ^ c9)) (dt T c9 x) ∧ ∀ q, q ≠ 58 → q ≠ 59 → iv' q = iv q) → gS D cA A H0 o ad ln iv' n H locs → W p l e R s m args below meth c H locs cells slots Q (F0 m pc ls [])) :
    W p l e R s m args below meth c H locs cells slots Q (F0 m 0 ls []) := by
  obtain ⟨hx, hb, hml, hown, hts, hr, hlocks⟩ := F
  have hRn9 := hRn
  obtain ⟨r54, r55, r56, r57, r58, r59, r60, r61, r62, r63, r64, r65, r66⟩ := hRn
  have hY9 : x / T ^ c9 < 2 ^ 20 := Nat.lt_of_le_of_lt (Nat.div_le_self _ _) hx9
  obtain ⟨hd1, hd2⟩ := dw_ok (y := x / T ^ c9) hcP
  refine lv_iload_n hx hb dX7_take_0 rfl (lv_at hl 1 rfl) ?_
  refine gx_as (y := nI (x / T ^ (c9 - c9))) (by rw [Nat.sub_self, Nat.pow_zero, Nat.div_one]) ?_
  refine lv_istore_n (lv' := [(2, .int (nI (x / T ^ (c9 - c9)))), (0, .ref (ad 53)), (1, .int (nI x))]) hx hb dX7_take_1 rfl hl (by decide) rfl (fun ls hl => ?_)
  refine lv_aload_n hx hb dX7_take_2 rfl (lv_at hl 1 rfl) ?_
  refine gx_get (ci := 10) (v := .int (iv 53 7)) (C := RX7) (T := TX7) (N := 23) hx hb hts (fun _ h => inX7_take_RX7 h) hown hK hS 53 (by omega) rfl rfl 7 (by decide) (hts (.fieldLink RX7 83 "CosetTablesModel" "chosen" "I") (by decide +kernel)) rfl dX7_take_3 ?_
  refine gx_as (y := nI c9) hc9 ?_
  refine lv_iconst (v := nI 1) hx hb dX7_take_6 (by decide) ?_
  refine lv_isub hx hb dX7_take_7 ?_
  refine gx_as (y := (nI c9 - 1)) rfl ?_
  refine lv_istore_n (lv' := [(3, .int (nI c9 - 1)), (2, .int (nI (x / T ^ (c9 - c9)))), (0, .ref (ad 53)), (1, .int (nI x))]) hx hb dX7_take_8 rfl hl (by decide) rfl (fun ls hl => ?_)
  have L9 : ∀ (N : Nat) (k : Nat) (iv1 : Nat → Nat → Int32), k < N → (k ≤ c9) → (∀ i, k ≤ i → i < c9 → iv1 59 i = nI (dt T c9 x i)) → (∀ q, q ≠ 59 → iv1 q = iv q) → ∀ (H : Heap) (locs : List Loc) (ls : Array Slot), gS D cA A H0 o ad ln iv1 n H locs → lv_has ls 6 [(0, .ref (ad 53)), (1, .int (nI x)), (2, .int (nI (x / T ^ (c9 - k)))), (3, .int (nI k - 1))] → W p l e R s m args below meth c H locs cells slots Q (F0 m 9 ls []) := by
    intro N
    induction N with
    | zero => intro k iv1 hm; exact absurd hm (Nat.not_lt_zero _)
    | succ N ih9 =>
      intro k iv1 hm hk h1 h3 H locs ls hS hl
      refine lv_iload_n hx hb dX7_take_9 rfl (lv_at hl 3 rfl) ?_
      refine lv_if_lt (tgt := 38) hx hb dX7_take_10 (by decide) (fun c_10 => ?_) (fun c_10 => ?_)
      · skip
        have ek : k = 0 := by
          rcases Nat.eq_zero_or_pos k with q | q
          · exact q
          · exfalso
            obtain ⟨k, rfl⟩ : ∃ z, k = z + 1 := ⟨k - 1, by omega⟩
            rw [nI_pred] at c_10
            exact nI_pos (by omega) c_10
        have e8 : x / T ^ c9 = x / T ^ c9 / prd P c9 (c9 - c9) := by rw [Nat.sub_self]; unfold prd; rw [Nat.div_one]
        rw [ek, Nat.sub_zero, e8] at hl
        refine lv_aload_n hx hb dX7_take_38 rfl (lv_at hl 0 rfl) ?_
        refine gx_get (ci := 10) (v := .int (iv1 53 7)) (C := RX7) (T := TX7) (N := 23) hx hb hts (fun _ h => inX7_take_RX7 h) hown hK hS 53 (by omega) rfl rfl 7 (by decide) (hts (.fieldLink RX7 83 "CosetTablesModel" "chosen" "I") (by decide +kernel)) rfl dX7_take_39 ?_
        refine gx_as (y := nI c9) (by rw [h3 53 (by decide)]; exact hc9) ?_
        refine lv_iconst (v := nI 1) hx hb dX7_take_42 (by decide) ?_
        refine lv_isub hx hb dX7_take_43 ?_
        refine gx_as (y := (nI c9 - 1)) rfl ?_
        refine lv_istore_n (lv' := [(3, .int (nI c9 - 1)), (0, .ref (ad 53)), (1, .int (nI x)), (2, .int (nI (x / T ^ c9 / prd P c9 (c9 - c9))))]) hx hb dX7_take_44 rfl hl (by decide) rfl (fun ls hl => ?_)
        have L45 : ∀ (N : Nat) (k : Nat) (iv3 : Nat → Nat → Int32), k < N → (k ≤ c9) → (∀ i, k ≤ i → i < c9 → iv3 58 i = nI (rky P c9 (x / T ^ c9) i)) → (∀ q, q ≠ 58 → iv3 q = iv1 q) → ∀ (H : Heap) (locs : List Loc) (ls : Array Slot), gS D cA A H0 o ad ln iv3 n H locs → lv_has ls 6 [(0, .ref (ad 53)), (1, .int (nI x)), (2, .int (nI (x / T ^ c9 / prd P k (c9 - k)))), (3, .int (nI k - 1))] → W p l e R s m args below meth c H locs cells slots Q (F0 m 45 ls []) := by
          intro N
          induction N with
          | zero => intro k iv3 hm; exact absurd hm (Nat.not_lt_zero _)
          | succ N ih45 =>
            intro k iv3 hm hk g1 g3 H locs ls hS hl
            refine lv_iload_n hx hb dX7_take_45 rfl (lv_at hl 3 rfl) ?_
            refine lv_if_lt (tgt := 78) hx hb dX7_take_46 (by decide) (fun c_46 => ?_) (fun c_46 => ?_)
            · skip
              have ek : k = 0 := by
                rcases Nat.eq_zero_or_pos k with q | q
                · exact q
                · exfalso
                  obtain ⟨k, rfl⟩ : ∃ z, k = z + 1 := ⟨k - 1, by omega⟩
                  rw [nI_pred] at c_46
                  exact nI_pos (by omega) c_46
              
              refine lv_iconst (v := nI 0) hx hb dX7_take_78 (by decide) ?_
              refine lv_istore_n (lv' := [(3, .int (nI 0)), (0, .ref (ad 53)), (1, .int (nI x)), (2, .int (nI (x / T ^ c9 / prd P k (c9 - k))))]) hx hb dX7_take_79 rfl hl (by decide) rfl (fun ls hl => ?_)
              have L80 : ∀ (N : Nat) (i : Nat) (iv5 : Nat → Nat → Int32), c9 - i < N → (i ≤ c9) → (∀ j, j < i → iv5 58 j = nI ((dw P c9 (x / T ^ c9)) j)) → (∀ j, i ≤ j → j < c9 → iv5 58 j = nI (rky P c9 (x / T ^ c9) j)) → (∀ q, q ≠ 58 → iv5 q = iv1 q) → ∀ (H : Heap) (locs : List Loc) (ls : Array Slot), gS D cA A H0 o ad ln iv5 n H locs → lv_has ls 6 [(0, .ref (ad 53)), (3, .int (nI i))] → W p l e R s m args below meth c H locs cells slots Q (F0 m 80 ls []) := by
                intro N
                induction N with
                | zero => intro i iv5 hm; exact absurd hm (Nat.not_lt_zero _)
                | succ N ih80 =>
                  intro i iv5 hm hi j1 j2 j3 H locs ls hS hl
                  refine lv_iload_n hx hb dX7_take_80 rfl (lv_at hl 1 rfl) ?_
                  refine lv_aload_n hx hb dX7_take_81 rfl (lv_at hl 0 rfl) ?_
                  refine gx_get (ci := 10) (v := .int (iv5 53 7)) (C := RX7) (T := TX7) (N := 23) hx hb hts (fun _ h => inX7_take_RX7 h) hown hK hS 53 (by omega) rfl rfl 7 (by decide) (hts (.fieldLink RX7 83 "CosetTablesModel" "chosen" "I") (by decide +kernel)) rfl dX7_take_82 ?_
                  refine gx_as (y := nI c9) (by rw [j3 53 (by decide), h3 53 (by decide)]; exact hc9) ?_
                  refine lv_icmp_ge (tgt := 154) hx hb dX7_take_85 (by decide) (fun c_85 => ?_) (fun c_85 => ?_)
                  · skip
                    rw [nI_leI (by omega) (by omega)] at c_85
                    have ei : i = c9 := by omega
                    subst ei
                    exact kret iv5 _ _ _ _ dX7_take_154 (⟨⟨fun i hi => j1 i hi, fun i hi => by rw [j3 59 (by decide)]; exact h1 i (by omega) hi⟩, fun q x1 x2 => by rw [j3 q x1, h3 q x2]⟩) hS
                  · skip
                    rw [nI_leI (by omega) (by omega)] at c_85
                    have hq1 := hd1.1 i (by omega)
                    have hq2 := hd2 i (by omega)
                    have hq3 := inj_fre (inj_le hd1 (show i + 1 ≤ c9 by omega))
                    have hrk : rky P c9 (x / T ^ c9) i < P - i := rky_lt (by omega) hcP
                    have hcq : cnt (fre (dw P c9 (x / T ^ c9)) i) ((dw P c9 (x / T ^ c9)) i) = rky P c9 (x / T ^ c9) i := hq2
                    refine lv_aload_n hx hb dX7_take_88 rfl (lv_at hl 0 rfl) ?_
                    refine gx_get (ci := 10) (v := .ref (ad 58)) (C := RX7) (T := TX7) (N := 23) hx hb hts (fun _ h => inX7_take_RX7 h) hown hK hS 53 (by omega) rfl rfl 9 (by decide) (hts (.fieldLink RX7 23 "CosetTablesModel" "where" "[I") (by decide +kernel)) rfl dX7_take_89 ?_
                    refine lv_iload_n hx hb dX7_take_92 rfl (lv_at hl 1 rfl) ?_
                    refine gx_ialdn hx hb hK hS 58 (by omega) (by decide) i (by omega) (hln _) dX7_take_93 ?_
                    refine gx_as (y := nI (rky P c9 (x / T ^ c9) i)) (j2 i (by omega) (by omega)) ?_
                    refine gx_as (y := nI (rky P c9 (x / T ^ c9) i - cnt (fre (dw P c9 (x / T ^ c9)) i) 0)) rfl ?_
                    refine lv_istore (lv' := [(4, .int (nI (rky P c9 (x / T ^ c9) i - cnt (fre (dw P c9 (x / T ^ c9)) i) 0))), (0, .ref (ad 53)), (3, .int (nI i))]) hx hb dX7_take_94 hl (by decide) rfl (fun ls hl => ?_)
                    refine lv_iconst (v := nI 0) hx hb dX7_take_96 (by decide) ?_
                    refine lv_istore (lv' := [(5, .int (nI 0)), (4, .int (nI (rky P c9 (x / T ^ c9) i - cnt (fre (dw P c9 (x / T ^ c9)) i) 0))), (0, .ref (ad 53)), (3, .int (nI i))]) hx hb dX7_take_97 hl (by decide) rfl (fun ls hl => ?_)
                    have L99 : ∀ (N : Nat) (p8 : Nat), (dw P c9 (x / T ^ c9)) i - p8 < N → (p8 ≤ (dw P c9 (x / T ^ c9)) i) → ∀ (H : Heap) (locs : List Loc) (ls : Array Slot), gS D cA A H0 o ad ln iv5 n H locs → lv_has ls 6 [(0, .ref (ad 53)), (3, .int (nI i)), (4, .int (nI (rky P c9 (x / T ^ c9) i - cnt (fre (dw P c9 (x / T ^ c9)) i) p8))), (5, .int (nI p8))] → W p l e R s m args below meth c H locs cells slots Q (F0 m 99 ls []) := by
                      intro N
                      induction N with
                      | zero => intro p8 hm; exact absurd hm (Nat.not_lt_zero _)
                      | succ N ih99 =>
                        intro p8 hm hp8 H locs ls hS hl
                        have hmono := cnt_mono (fre (dw P c9 (x / T ^ c9)) i) hp8
                        refine lv_aload_n hx hb dX7_take_99 rfl (lv_at hl 0 rfl) ?_
                        refine lv_iload hx hb dX7_take_100 (lv_at hl 3 rfl) ?_
                        refine lv_iload_n hx hb dX7_take_102 rfl (lv_at hl 1 rfl) ?_
                        refine gc_i (gx_runV (As := [.int (nI p8), .int (nI i)]) (rest := []) ⟨hx, hb, hml, hown, hts⟩ hK hN hS 53 (by omega) rfl rfl (ct_X7_isFree l D cA o ad ln n H.size iv5 (p9 := p8) (k := i) (w := (dw P c9 (x / T ^ c9))) hn hln hRn9 (by omega) (by omega) (fun j hj => ⟨j1 j hj, by have := hd1.1 j (by omega); omega⟩)) (cwV 2 hts gX7_take_X7_isFree rfl rfl rfl (by decide +kernel) ⟨gle hRf rfl, gle hRl rfl⟩) rfl rfl hl.1 rfl (lv_room (Nat.le_of_ble_eq_true rfl)) dX7_take_103 ⟨hRc, hRs⟩) hS hA (fun y iv6 H locs hp6 hS => ?_)
                        obtain ⟨hy01, hyi, ev6⟩ := hp6
                        rw [ev6] at hS
                        skip
                        refine lv_if_eq (tgt := 114) hx hb dX7_take_106 (by decide) (fun c_106 => ?_) (fun c_106 => ?_)
                        · skip
                          have hfr : ¬ fre (dw P c9 (x / T ^ c9)) i p8 = true := fun q => by have := hyi.mpr q; rw [this] at c_106; exact absurd c_106 (by decide)
                          have hlt : p8 < (dw P c9 (x / T ^ c9)) i := by
                            rcases Nat.lt_or_ge p8 ((dw P c9 (x / T ^ c9)) i) with q | q
                            · exact q
                            · exact absurd (by rw [show p8 = (dw P c9 (x / T ^ c9)) i by omega]; exact hq3) hfr
                          refine lv_iload hx hb dX7_take_114 (lv_at hl 2 rfl) ?_
                          refine lv_aload_n hx hb dX7_take_116 rfl (lv_at hl 0 rfl) ?_
                          refine lv_iload hx hb dX7_take_117 (lv_at hl 3 rfl) ?_
                          refine lv_iload_n hx hb dX7_take_119 rfl (lv_at hl 1 rfl) ?_
                          refine gc_i (gx_runV (As := [.int (nI p8), .int (nI i)]) (rest := [.int (nI (rky P c9 (x / T ^ c9) i - cnt (fre (dw P c9 (x / T ^ c9)) i) p8))]) ⟨hx, hb, hml, hown, hts⟩ hK hN hS 53 (by omega) rfl rfl (ct_X7_isFree l D cA o ad ln n H.size iv5 (p9 := p8) (k := i) (w := (dw P c9 (x / T ^ c9))) hn hln hRn9 (by omega) (by omega) (fun j hj => ⟨j1 j hj, by have := hd1.1 j (by omega); omega⟩)) (cwV 2 hts gX7_take_X7_isFree rfl rfl rfl (by decide +kernel) ⟨gle hRf rfl, gle hRl rfl⟩) rfl rfl hl.1 rfl (lv_room (Nat.le_of_ble_eq_true rfl)) dX7_take_120 ⟨hRc, hRs⟩) hS hA (fun y2 iv8 H locs hp8 hS => ?_)
                          obtain ⟨hz01, hzi, ev8⟩ := hp8
                          rw [ev8] at hS
                          have hm8 := cnt_mono (fre (dw P c9 (x / T ^ c9)) i) (show p8 + 1 ≤ (dw P c9 (x / T ^ c9)) i by omega)
                          rw [cnt_s] at hm8
                          skip
                          refine lv_if_eq (tgt := 130) hx hb dX7_take_123 (by decide) (fun c_123 => ?_) (fun c_123 => ?_)
                          · skip
                            have hfr2 : ¬ fre (dw P c9 (x / T ^ c9)) i p8 = true := fun q => by have := hzi.mpr q; rw [this] at c_123; exact absurd c_123 (by decide)
                            rw [if_neg hfr2] at hm8
                            refine lv_iconst (v := nI 0) hx hb dX7_take_130 (by decide) ?_
                            refine lv_isub hx hb dX7_take_131 ?_
                            refine gx_as (y := nI (rky P c9 (x / T ^ c9) i - cnt (fre (dw P c9 (x / T ^ c9)) i) (p8 + 1))) (by rw [pk_sub (by omega), cnt_s]; first | (rw [if_pos hfr2]; exact congrArg nI (by omega)) | (rw [if_neg hfr2]; rfl)) ?_
                            refine lv_istore (lv' := [(4, .int (nI (rky P c9 (x / T ^ c9) i - cnt (fre (dw P c9 (x / T ^ c9)) i) (p8 + 1)))), (0, .ref (ad 53)), (3, .int (nI i)), (5, .int (nI p8))]) hx hb dX7_take_132 hl (by decide) rfl (fun ls hl => ?_)
                            refine lv_iinc (v := nI (p8 + 1)) (lv' := [(5, .int (nI (p8 + 1))), (4, .int (nI (rky P c9 (x / T ^ c9) i - cnt (fre (dw P c9 (x / T ^ c9)) i) (p8 + 1)))), (0, .ref (ad 53)), (3, .int (nI i))]) hx hb dX7_take_134 hl (k := 3) rfl (nI_1 p8) (by decide) rfl (fun ls hl => ?_)
                            refine lv_goto (tgt := 99) hx hb dX7_take_137 (by decide) ?_
                            exact ih99 (p8 + 1) (by omega) (by omega) _ _ _ hS (lv_sub hl [2, 3, 1, 0] rfl)
                          · skip
                            have hfr2 : fre (dw P c9 (x / T ^ c9)) i p8 = true := hzi.mp (hz01.resolve_left c_123)
                            rw [if_pos hfr2] at hm8
                            refine lv_iconst (v := nI 1) hx hb dX7_take_126 (by decide) ?_
                            refine lv_goto (tgt := 131) hx hb dX7_take_127 (by decide) ?_
                            refine lv_isub hx hb dX7_take_131 ?_
                            refine gx_as (y := nI (rky P c9 (x / T ^ c9) i - cnt (fre (dw P c9 (x / T ^ c9)) i) (p8 + 1))) (by rw [pk_sub (by omega), cnt_s]; first | (rw [if_pos hfr2]; exact congrArg nI (by omega)) | (rw [if_neg hfr2]; rfl)) ?_
                            refine lv_istore (lv' := [(4, .int (nI (rky P c9 (x / T ^ c9) i - cnt (fre (dw P c9 (x / T ^ c9)) i) (p8 + 1)))), (0, .ref (ad 53)), (3, .int (nI i)), (5, .int (nI p8))]) hx hb dX7_take_132 hl (by decide) rfl (fun ls hl => ?_)
                            refine lv_iinc (v := nI (p8 + 1)) (lv' := [(5, .int (nI (p8 + 1))), (4, .int (nI (rky P c9 (x / T ^ c9) i - cnt (fre (dw P c9 (x / T ^ c9)) i) (p8 + 1)))), (0, .ref (ad 53)), (3, .int (nI i))]) hx hb dX7_take_134 hl (k := 3) rfl (nI_1 p8) (by decide) rfl (fun ls hl => ?_)
                            refine lv_goto (tgt := 99) hx hb dX7_take_137 (by decide) ?_
                            exact ih99 (p8 + 1) (by omega) (by omega) _ _ _ hS (lv_sub hl [2, 3, 1, 0] rfl)
                        · skip
                          have hfr : fre (dw P c9 (x / T ^ c9)) i p8 = true := hyi.mp (hy01.resolve_left c_106)
                          refine lv_iload hx hb dX7_take_109 (lv_at hl 2 rfl) ?_
                          refine lv_if_le (tgt := 140) hx hb dX7_take_111 (by decide) (fun c_111 => ?_) (fun c_111 => ?_)
                          · skip
                            rw [show (0 : Int32) = nI 0 from rfl] at c_111
                            rw [nI_leI (by omega) (by omega)] at c_111
                            have ep : p8 = (dw P c9 (x / T ^ c9)) i := by
                              rcases Nat.lt_or_ge p8 ((dw P c9 (x / T ^ c9)) i) with q | q
                              · have h8 := cnt_mono (fre (dw P c9 (x / T ^ c9)) i) (show p8 + 1 ≤ (dw P c9 (x / T ^ c9)) i by omega)
                                rw [cnt_s, if_pos hfr] at h8
                                omega
                              · omega
                            refine lv_aload_n hx hb dX7_take_140 rfl (lv_at hl 0 rfl) ?_
                            refine gx_get (ci := 10) (v := .ref (ad 58)) (C := RX7) (T := TX7) (N := 23) hx hb hts (fun _ h => inX7_take_RX7 h) hown hK hS 53 (by omega) rfl rfl 9 (by decide) (hts (.fieldLink RX7 23 "CosetTablesModel" "where" "[I") (by decide +kernel)) rfl dX7_take_141 ?_
                            refine lv_iload_n hx hb dX7_take_144 rfl (lv_at hl 1 rfl) ?_
                            refine lv_iload hx hb dX7_take_145 (lv_at hl 3 rfl) ?_
                            refine gx_iastn hx hb hK hS 58 (by omega) (by decide) i (by omega) (hln _) dX7_take_147 (fun H locs hS => ?_)
                            obtain ⟨iv7, eiv7⟩ : ∃ z, z = up2 iv5 58 i (nI p8) := ⟨_, rfl⟩
                            rw [← eiv7] at hS
                            refine lv_iinc (v := nI (i + 1)) (lv' := [(3, .int (nI (i + 1))), (0, .ref (ad 53)), (4, .int (nI (rky P c9 (x / T ^ c9) i - cnt (fre (dw P c9 (x / T ^ c9)) i) p8))), (5, .int (nI p8))]) hx hb dX7_take_148 hl (k := 1) rfl (nI_1 i) (by decide) rfl (fun ls hl => ?_)
                            refine lv_goto (tgt := 80) hx hb dX7_take_151 (by decide) ?_
                            exact ih80 (i + 1) iv7 (by omega) (by omega) (fun j hj => by rw [eiv7, up2_eq]; by_cases e9 : j = i <;> first | (subst e9; rw [if_pos ⟨rfl, rfl⟩, ep]; done) | (rw [if_neg (fun q9 => e9 q9.2), j1 j (by omega)])) (fun j a1 a2 => by rw [eiv7, up2_n (by omega), j2 j (by omega) a2]) (fun q hq => by rw [eiv7, up2_row hq, j3 q hq]) _ _ _ hS (lv_sub hl [1, 0] rfl)
                          · skip
                            rw [show (0 : Int32) = nI 0 from rfl] at c_111
                            rw [nI_leI (by omega) (by omega)] at c_111
                            have hlt : p8 < (dw P c9 (x / T ^ c9)) i := by
                              rcases Nat.lt_or_ge p8 ((dw P c9 (x / T ^ c9)) i) with q | q
                              · exact q
                              · have e8 : p8 = (dw P c9 (x / T ^ c9)) i := by omega
                                rw [e8] at c_111
                                omega
                            refine lv_iload hx hb dX7_take_114 (lv_at hl 2 rfl) ?_
                            refine lv_aload_n hx hb dX7_take_116 rfl (lv_at hl 0 rfl) ?_
                            refine lv_iload hx hb dX7_take_117 (lv_at hl 3 rfl) ?_
                            refine lv_iload_n hx hb dX7_take_119 rfl (lv_at hl 1 rfl) ?_
                            refine gc_i (gx_runV (As := [.int (nI p8), .int (nI i)]) (rest := [.int (nI (rky P c9 (x / T ^ c9) i - cnt (fre (dw P c9 (x / T ^ c9)) i) p8))]) ⟨hx, hb, hml, hown, hts⟩ hK hN hS 53 (by omega) rfl rfl (ct_X7_isFree l D cA o ad ln n H.size iv5 (p9 := p8) (k := i) (w := (dw P c9 (x / T ^ c9))) hn hln hRn9 (by omega) (by omega) (fun j hj => ⟨j1 j hj, by have := hd1.1 j (by omega); omega⟩)) (cwV 2 hts gX7_take_X7_isFree rfl rfl rfl (by decide +kernel) ⟨gle hRf rfl, gle hRl rfl⟩) rfl rfl hl.1 rfl (lv_room (Nat.le_of_ble_eq_true rfl)) dX7_take_120 ⟨hRc, hRs⟩) hS hA (fun y2 iv8 H locs hp8 hS => ?_)
                            obtain ⟨hz01, hzi, ev8⟩ := hp8
                            rw [ev8] at hS
                            have hm8 := cnt_mono (fre (dw P c9 (x / T ^ c9)) i) (show p8 + 1 ≤ (dw P c9 (x / T ^ c9)) i by omega)
                            rw [cnt_s] at hm8
                            skip
                            refine lv_if_eq (tgt := 130) hx hb dX7_take_123 (by decide) (fun c_123 => ?_) (fun c_123 => ?_)
                            · skip
                              have hfr2 : ¬ fre (dw P c9 (x / T ^ c9)) i p8 = true := fun q => by have := hzi.mpr q; rw [this] at c_123; exact absurd c_123 (by decide)
                              rw [if_neg hfr2] at hm8
                              refine lv_iconst (v := nI 0) hx hb dX7_take_130 (by decide) ?_
                              refine lv_isub hx hb dX7_take_131 ?_
                              refine gx_as (y := nI (rky P c9 (x / T ^ c9) i - cnt (fre (dw P c9 (x / T ^ c9)) i) (p8 + 1))) (by rw [pk_sub (by omega), cnt_s]; first | (rw [if_pos hfr2]; exact congrArg nI (by omega)) | (rw [if_neg hfr2]; rfl)) ?_
                              refine lv_istore (lv' := [(4, .int (nI (rky P c9 (x / T ^ c9) i - cnt (fre (dw P c9 (x / T ^ c9)) i) (p8 + 1)))), (0, .ref (ad 53)), (3, .int (nI i)), (5, .int (nI p8))]) hx hb dX7_take_132 hl (by decide) rfl (fun ls hl => ?_)
                              refine lv_iinc (v := nI (p8 + 1)) (lv' := [(5, .int (nI (p8 + 1))), (4, .int (nI (rky P c9 (x / T ^ c9) i - cnt (fre (dw P c9 (x / T ^ c9)) i) (p8 + 1)))), (0, .ref (ad 53)), (3, .int (nI i))]) hx hb dX7_take_134 hl (k := 3) rfl (nI_1 p8) (by decide) rfl (fun ls hl => ?_)
                              refine lv_goto (tgt := 99) hx hb dX7_take_137 (by decide) ?_
                              exact ih99 (p8 + 1) (by omega) (by omega) _ _ _ hS (lv_sub hl [2, 3, 1, 0] rfl)
                            · skip
                              have hfr2 : fre (dw P c9 (x / T ^ c9)) i p8 = true := hzi.mp (hz01.resolve_left c_123)
                              rw [if_pos hfr2] at hm8
                              refine lv_iconst (v := nI 1) hx hb dX7_take_126 (by decide) ?_
                              refine lv_goto (tgt := 131) hx hb dX7_take_127 (by decide) ?_
                              refine lv_isub hx hb dX7_take_131 ?_
                              refine gx_as (y := nI (rky P c9 (x / T ^ c9) i - cnt (fre (dw P c9 (x / T ^ c9)) i) (p8 + 1))) (by rw [pk_sub (by omega), cnt_s]; first | (rw [if_pos hfr2]; exact congrArg nI (by omega)) | (rw [if_neg hfr2]; rfl)) ?_
                              refine lv_istore (lv' := [(4, .int (nI (rky P c9 (x / T ^ c9) i - cnt (fre (dw P c9 (x / T ^ c9)) i) (p8 + 1)))), (0, .ref (ad 53)), (3, .int (nI i)), (5, .int (nI p8))]) hx hb dX7_take_132 hl (by decide) rfl (fun ls hl => ?_)
                              refine lv_iinc (v := nI (p8 + 1)) (lv' := [(5, .int (nI (p8 + 1))), (4, .int (nI (rky P c9 (x / T ^ c9) i - cnt (fre (dw P c9 (x / T ^ c9)) i) (p8 + 1)))), (0, .ref (ad 53)), (3, .int (nI i))]) hx hb dX7_take_134 hl (k := 3) rfl (nI_1 p8) (by decide) rfl (fun ls hl => ?_)
                              refine lv_goto (tgt := 99) hx hb dX7_take_137 (by decide) ?_
                              exact ih99 (p8 + 1) (by omega) (by omega) _ _ _ hS (lv_sub hl [2, 3, 1, 0] rfl)
                    exact L99 _ 0 (Nat.lt_succ_self _) (Nat.zero_le _) _ _ _ hS (lv_sub hl [2, 3, 1, 0] rfl)
              exact L80 _ 0 iv3 (Nat.lt_succ_self _) (Nat.zero_le _) lt_0 (fun j _ h => g1 j (by omega) h) (fun q hq => g3 q hq) _ _ _ hS (lv_sub hl [1, 0] rfl)
            · skip
              obtain ⟨k, rfl⟩ : ∃ z, k = z + 1 := by
                rcases Nat.eq_zero_or_pos k with q | q
                · subst q; exact absurd gm1_0 c_46
                · exact ⟨k - 1, by omega⟩
              rw [nI_pred] at hl
              have hle : x / T ^ c9 / prd P (k + 1) (c9 - (k + 1)) < 2 ^ 20 := Nat.lt_of_le_of_lt (Nat.div_le_self _ _) hY9
              refine lv_aload_n hx hb dX7_take_49 rfl (lv_at hl 0 rfl) ?_
              refine gx_get (ci := 10) (v := .ref (ad 58)) (C := RX7) (T := TX7) (N := 23) hx hb hts (fun _ h => inX7_take_RX7 h) hown hK hS 53 (by omega) rfl rfl 9 (by decide) (hts (.fieldLink RX7 23 "CosetTablesModel" "where" "[I") (by decide +kernel)) rfl dX7_take_50 ?_
              refine lv_iload_n hx hb dX7_take_53 rfl (lv_at hl 3 rfl) ?_
              refine lv_iload_n hx hb dX7_take_54 rfl (lv_at hl 2 rfl) ?_
              refine lv_aload_n hx hb dX7_take_55 rfl (lv_at hl 0 rfl) ?_
              refine gx_get (ci := 10) (v := .int (iv3 53 1)) (C := RX7) (T := TX7) (N := 23) hx hb hts (fun _ h => inX7_take_RX7 h) hown hK hS 53 (by omega) rfl rfl 1 (by decide) (hts (.fieldLink RX7 51 "CosetTablesModel" "places" "I") (by decide +kernel)) rfl dX7_take_56 ?_
              refine gx_as (y := nI P) (by rw [g3 53 (by decide), h3 53 (by decide)]; exact hP0) ?_
              refine lv_iload_n hx hb dX7_take_59 rfl (lv_at hl 3 rfl) ?_
              refine lv_isub hx hb dX7_take_60 ?_
              refine gx_as (y := nI (P - k)) (pk_sub (by omega)) ?_
              refine lv_irem hx hb dX7_take_61 (nI_ne0 (by omega) (by omega)) ?_
              refine gx_as (y := nI (x / T ^ c9 / prd P (k + 1) (c9 - (k + 1)) % (P - k))) (grem (by omega) (by omega) (by omega)) ?_
              refine gx_iastn hx hb hK hS 58 (by omega) (by decide) k (by omega) (hln _) dX7_take_62 (fun H locs hS => ?_)
              obtain ⟨iv4, eiv4⟩ : ∃ z, z = up2 iv3 58 k (nI (x / T ^ c9 / prd P (k + 1) (c9 - (k + 1)) % (P - k))) := ⟨_, rfl⟩
              rw [← eiv4] at hS
              refine lv_iload_n hx hb dX7_take_63 rfl (lv_at hl 2 rfl) ?_
              refine lv_aload_n hx hb dX7_take_64 rfl (lv_at hl 0 rfl) ?_
              refine gx_get (ci := 10) (v := .int (iv4 53 1)) (C := RX7) (T := TX7) (N := 23) hx hb hts (fun _ h => inX7_take_RX7 h) hown hK hS 53 (by omega) rfl rfl 1 (by decide) (hts (.fieldLink RX7 51 "CosetTablesModel" "places" "I") (by decide +kernel)) rfl dX7_take_65 ?_
              refine gx_as (y := nI P) (by rw [eiv4, up2_row (by decide), g3 53 (by decide), h3 53 (by decide)]; exact hP0) ?_
              refine lv_iload_n hx hb dX7_take_68 rfl (lv_at hl 3 rfl) ?_
              refine lv_isub hx hb dX7_take_69 ?_
              refine gx_as (y := nI (P - k)) (pk_sub (by omega)) ?_
              refine lv_idiv hx hb dX7_take_70 (nI_ne0 (by omega) (by omega)) ?_
              refine gx_as (y := nI (x / T ^ c9 / prd P k (c9 - k))) (by rw [pk_div (by omega) (by omega) (by omega), Nat.div_div_eq_div_mul, prd_s (show k < c9 by omega), Nat.mul_comm]) ?_
              refine lv_istore_n (lv' := [(2, .int (nI (x / T ^ c9 / prd P k (c9 - k)))), (0, .ref (ad 53)), (1, .int (nI x)), (3, .int (nI k))]) hx hb dX7_take_71 rfl hl (by decide) rfl (fun ls hl => ?_)
              refine lv_iinc (v := (nI k - 1)) (lv' := [(3, .int (nI k - 1)), (2, .int (nI (x / T ^ c9 / prd P k (c9 - k)))), (0, .ref (ad 53)), (1, .int (nI x))]) hx hb dX7_take_72 hl (k := 3) rfl (gm1 _) (by decide) rfl (fun ls hl => ?_)
              refine lv_goto (tgt := 45) hx hb dX7_take_75 (by decide) ?_
              exact ih45 k iv4 (by omega) (by omega) (fun i a1 a2 => by rw [eiv4, up2_eq]; by_cases e9 : i = k <;> first | (subst e9; rw [if_pos ⟨rfl, rfl⟩]; rfl) | (rw [if_neg (fun q9 => e9 q9.2), g1 i (by omega) a2])) (fun q hq => by rw [eiv4, up2_row hq, g3 q hq]) _ _ _ hS (lv_sub hl [2, 3, 1, 0] rfl)
        exact L45 _ c9 iv1 (Nat.lt_succ_self _) (Nat.le_refl _) (fun i h1 h2 => absurd h2 (by omega)) (fun _ _ => rfl) _ _ _ hS (lv_sub hl [1, 2, 3, 0] rfl)
      · skip
        obtain ⟨k, rfl⟩ : ∃ z, k = z + 1 := by
          rcases Nat.eq_zero_or_pos k with q | q
          · subst q; exact absurd gm1_0 c_10
          · exact ⟨k - 1, by omega⟩
        rw [nI_pred] at hl
        have hle : x / T ^ (c9 - (k + 1)) < 2 ^ 20 := Nat.lt_of_le_of_lt (Nat.div_le_self _ _) hx9
        refine lv_aload_n hx hb dX7_take_13 rfl (lv_at hl 0 rfl) ?_
        refine gx_get (ci := 10) (v := .ref (ad 59)) (C := RX7) (T := TX7) (N := 23) hx hb hts (fun _ h => inX7_take_RX7 h) hown hK hS 53 (by omega) rfl rfl 10 (by decide) (hts (.fieldLink RX7 26 "CosetTablesModel" "twist" "[I") (by decide +kernel)) rfl dX7_take_14 ?_
        refine lv_iload_n hx hb dX7_take_17 rfl (lv_at hl 3 rfl) ?_
        refine lv_iload_n hx hb dX7_take_18 rfl (lv_at hl 2 rfl) ?_
        refine lv_aload_n hx hb dX7_take_19 rfl (lv_at hl 0 rfl) ?_
        refine gx_get (ci := 10) (v := .int (iv1 53 2)) (C := RX7) (T := TX7) (N := 23) hx hb hts (fun _ h => inX7_take_RX7 h) hown hK hS 53 (by omega) rfl rfl 2 (by decide) (hts (.fieldLink RX7 55 "CosetTablesModel" "twists" "I") (by decide +kernel)) rfl dX7_take_20 ?_
        refine gx_as (y := nI T) (by rw [h3 53 (by decide)]; exact hT0) ?_
        refine lv_irem hx hb dX7_take_23 (nI_ne0 hT1 (by omega)) ?_
        refine gx_as (y := nI (x / T ^ (c9 - (k + 1)) % T)) (grem (by omega) hT1 (by omega)) ?_
        refine gx_iastn hx hb hK hS 59 (by omega) (by decide) k (by omega) (hln _) dX7_take_24 (fun H locs hS => ?_)
        obtain ⟨iv2, eiv2⟩ : ∃ z, z = up2 iv1 59 k (nI (x / T ^ (c9 - (k + 1)) % T)) := ⟨_, rfl⟩
        rw [← eiv2] at hS
        refine lv_iload_n hx hb dX7_take_25 rfl (lv_at hl 2 rfl) ?_
        refine lv_aload_n hx hb dX7_take_26 rfl (lv_at hl 0 rfl) ?_
        refine gx_get (ci := 10) (v := .int (iv2 53 2)) (C := RX7) (T := TX7) (N := 23) hx hb hts (fun _ h => inX7_take_RX7 h) hown hK hS 53 (by omega) rfl rfl 2 (by decide) (hts (.fieldLink RX7 55 "CosetTablesModel" "twists" "I") (by decide +kernel)) rfl dX7_take_27 ?_
        refine gx_as (y := nI T) (by rw [eiv2, up2_row (by decide), h3 53 (by decide)]; exact hT0) ?_
        refine lv_idiv hx hb dX7_take_30 (nI_ne0 hT1 (by omega)) ?_
        refine gx_as (y := nI (x / T ^ (c9 - k))) (by rw [pk_div (by omega) hT1 (by omega), Nat.div_div_eq_div_mul, ← Nat.pow_succ, show (c9 - (k + 1)).succ = c9 - k by omega]) ?_
        refine lv_istore_n (lv' := [(2, .int (nI (x / T ^ (c9 - k)))), (0, .ref (ad 53)), (1, .int (nI x)), (3, .int (nI k))]) hx hb dX7_take_31 rfl hl (by decide) rfl (fun ls hl => ?_)
        refine lv_iinc (v := (nI k - 1)) (lv' := [(3, .int (nI k - 1)), (2, .int (nI (x / T ^ (c9 - k)))), (0, .ref (ad 53)), (1, .int (nI x))]) hx hb dX7_take_32 hl (k := 3) rfl (gm1 _) (by decide) rfl (fun ls hl => ?_)
        refine lv_goto (tgt := 9) hx hb dX7_take_35 (by decide) ?_
        exact ih9 k iv2 (by omega) (by omega) (fun i g1 g2 => by rw [eiv2, up2_eq]; by_cases e9 : i = k <;> first | (subst e9; rw [if_pos ⟨rfl, rfl⟩]; unfold dt; rw [show c9 - (i + 1) = c9 - 1 - i by omega]; done) | (rw [if_neg (fun q9 => e9 q9.2), h1 i (by omega) g2])) (fun q hq => by rw [eiv2, up2_row hq, h3 q hq]) _ _ _ hS (lv_sub hl [2, 3, 1, 0] rfl)
  exact L9 _ c9 iv (Nat.lt_succ_self _) (Nat.le_refl _) (fun i h1 h2 => absurd h2 (by omega)) (fun _ _ => rfl) _ _ _ hS (lv_sub hl [2, 3, 1, 0] rfl)
set_option maxRecDepth 100000 in
theorem ct_X7_take (l : Launch) (D : va_G) (cA : Nat → ClassId) (o : Nat → Int64) (ad ln : Nat → Nat) (n sz : Nat) (iv : Nat → Nat → Int32) (x P c9 T : Nat) (hn : 68 ≤ n) (hln : ∀ k, ln k < 2 ^ 31) (hRn : rln ln) (hc9 : iv 53 7 = nI c9) (hc4 : c9 ≤ 4) (hT0 : iv 53 2 = nI T) (hT1 : 0 < T) (hT3 : T ≤ 3) (hP0 : iv 53 1 = nI P) (hP : P ≤ 8) (hcP : c9 ≤ P) (hx9 : x < 2 ^ 20) : gMv l yX7_take wsX7_take { frames := 1, cells := 0, slots := 0, locals := 23 } D cA o ad ln n sz iv [.ref (ad 53), .int (nI x)] (fun iv' => rAt iv' c9 (dw P c9 (x / T ^ c9)) (dt T c9 x) ∧ ∀ q, q ≠ 58 → q ≠ 59 → iv' q = iv q) := by
  refine Met.ofW (cc := cX7_take) (maxL := 6) (ret := none) (by decide) rfl ?_
  intro p e s m args below meth c s₁ B hml hv__
  obtain ⟨rfl, hv__⟩ := hv__
  obtain ⟨hsz, hS, hK, hN, hA⟩ := gS.entry hv__
  have hl := lv_entry ([.ref (ad 53), .int (nI x)]) (n := 6) (Nat.le_of_ble_eq_true rfl)
  rw [lg_entry_eq]
  generalize (lg_sl ([.ref (ad 53), .int (nI x)]) ++ List.replicate (6 - (lg_sl ([.ref (ad 53), .int (nI x)])).length) Slot.unset).toArray = ls at hl ⊢
  exact bd_X7_take (x := x) (P := P) (c9 := c9) (T := T) ⟨B.exec, B.bytes, hml, findClass_of_methodNamed B.named, atoms_spec (ws := wsX7_take) B.pre, B.returns, B.notSynchronized⟩ (Nat.le_refl _) (Nat.le_refl _) (Nat.le_refl _) (Nat.le_refl _) hK hN hA hn hln hRn hc9 hc4 hT0 hT1 hT3 hP0 hP hcP hx9 hS hl (fun iv' H locs ls pc hd hp hS => gx_vret B.exec B.bytes B.returns B.notSynchronized hS hp hd)

theorem inX7_goal_RX7 : ∀ {w : Cond}, w ∈ u_ws RX7 TX7 23 → w ∈ wsX7_goal := fun {w} h => by first | exact List.mem_cons_of_mem _ (List.mem_append_right _ h) | (revert h; revert w; show ∀ w ∈ u_ws RX7 TX7 23, w ∈ wsX7_goal; decide +kernel)
set_option maxHeartbeats 1000000 in
set_option maxRecDepth 100000 in
theorem bd_X7_goal {p : Program} {l : Launch} {e : Env} {R : Room} {s : State} {m : MethodId} {args : Array Value} {below : List Frame} {meth : Method} {c : Code} {H : Heap} {locs : List Loc} {cells slots : Nat} {Q : State → Prop} {ls : Array Slot} {D : va_G} {A : Nat → Prop} {H0 : Heap} {cA : Nat → ClassId} {o : Nat → Int64} {ad ln : Nat → Nat} {iv : Nat → Nat → Int32} {n : Nat} {P c9 T : Nat} {pc9 : Nat → Nat}
    (F : gF p s m meth c cX7_goal 2 RX7 wsX7_goal args (some .int)) (hRf : 2 ≤ R.frames) (hRl : 47 ≤ R.locals) (hRc : cells ≤ R.cells) (hRs : slots ≤ R.slots) (hK : va_K D vwCl (gT cA) s) (hN : NW s) (hA : ∀ q, H0.size ≤ q → A q) (hn : 68 ≤ n) (hln : ∀ k, ln k < 2 ^ 31) (hRn : rln ln) (hc9 : iv 53 7 = nI c9) (hc4 : c9 ≤ 4) (hT0 : iv 53 2 = nI T) (hT1 : 0 < T) (hT3 : T ≤ 3) (hP0 : iv 53 1 = nI P) (hP : P ≤ 8) (hpc : ∀ i, i < c9 → iv 57 i = nI (pc9 i)) (hpi : inj pc9 P c9)
    (hS : gS D cA A H0 o ad ln iv n H locs) (hl : lv_has ls 2 [(0, .ref (ad 53))])
    (kret : ∀ (r : Int32) (iv' : Nat → Nat → Int32) (H : Heap) (locs : List Loc) (ls : Array Slot) (pc : Nat), decode cX7_goal pc = .ok (.ireturn, 1) → (r = nI (num P T c9 pc9 (fun _ => 0)) ∧ rAt iv' c9 pc9 (fun _ => 0) ∧ ∀ q, q ≠ 58 → q ≠ 59 → iv' q = iv q) → gS D cA A H0 o ad ln iv' n H locs → W p l e R s m args below meth c H locs cells slots Q (F0 m pc ls [.int r])) :
    W p l e R s m args below meth c H locs cells slots Q (F0 m 0 ls []) := by
  obtain ⟨hx, hb, hml, hown, hts, hr, hlocks⟩ := F
  have hRn9 := hRn
  obtain ⟨r54, r55, r56, r57, r58, r59, r60, r61, r62, r63, r64, r65, r66⟩ := hRn
  refine lv_iconst (v := nI 0) hx hb dX7_goal_0 (by decide) ?_
  refine lv_istore_n (lv' := [(1, .int (nI 0)), (0, .ref (ad 53))]) hx hb dX7_goal_1 rfl hl (by decide) rfl (fun ls hl => ?_)
  have L2 : ∀ (N : Nat) (i : Nat) (iv1 : Nat → Nat → Int32), c9 - i < N → (i ≤ c9) → (∀ j, j < i → iv1 58 j = nI (pc9 j) ∧ iv1 59 j = nI 0) → (∀ q, q ≠ 58 → q ≠ 59 → iv1 q = iv q) → ∀ (H : Heap) (locs : List Loc) (ls : Array Slot), gS D cA A H0 o ad ln iv1 n H locs → lv_has ls 2 [(0, .ref (ad 53)), (1, .int (nI i))] → W p l e R s m args below meth c H locs cells slots Q (F0 m 2 ls []) := by
    intro N
    induction N with
    | zero => intro i iv1 hm; exact absurd hm (Nat.not_lt_zero _)
    | succ N ih2 =>
      intro i iv1 hm hi h1 h3 H locs ls hS hl
      refine lv_iload_n hx hb dX7_goal_2 rfl (lv_at hl 1 rfl) ?_
      refine lv_aload_n hx hb dX7_goal_3 rfl (lv_at hl 0 rfl) ?_
      refine gx_get (ci := 10) (v := .int (iv1 53 7)) (C := RX7) (T := TX7) (N := 23) hx hb hts (fun _ h => inX7_goal_RX7 h) hown hK hS 53 (by omega) rfl rfl 7 (by decide) (hts (.fieldLink RX7 83 "CosetTablesModel" "chosen" "I") (by decide +kernel)) rfl dX7_goal_4 ?_
      refine gx_as (y := nI c9) (by rw [h3 53 (by decide) (by decide)]; exact hc9) ?_
      refine lv_icmp_ge (tgt := 35) hx hb dX7_goal_7 (by decide) (fun c_7 => ?_) (fun c_7 => ?_)
      · skip
        rw [nI_leI (by omega) (by omega)] at c_7
        have ei : i = c9 := by omega
        subst ei
        refine lv_aload_n hx hb dX7_goal_35 rfl (lv_at hl 0 rfl) ?_
        refine gc_i (gx_runV (As := []) (rest := []) ⟨hx, hb, hml, hown, hts⟩ hK hN hS 53 (by omega) rfl rfl (ct_X7_numberOf l D cA o ad ln n H.size iv1 (P := P) (c9 := i) (T := T) (w := pc9) (t := fun _ => 0) hn hln hRn9 (by rw [h3 53 (by decide) (by decide)]; exact hc9) hc4 (by rw [h3 53 (by decide) (by decide)]; exact hT0) hT1 hT3 (by rw [h3 53 (by decide) (by decide)]; exact hP0) hP (fun j hj => (h1 j hj).1) (fun j hj => (h1 j hj).2) hpi (fun _ _ => hT1)) (cwV 0 hts gX7_goal_X7_numberOf rfl rfl rfl (by decide +kernel) ⟨gle hRf rfl, gle hRl rfl⟩) rfl rfl hl.1 rfl (lv_room (Nat.le_of_ble_eq_true rfl)) dX7_goal_36 ⟨hRc, hRs⟩) hS hA (fun y iv4 H locs hp4 hS => ?_)
        obtain ⟨ey, ev4⟩ := hp4
        rw [ev4] at hS
        skip
        exact kret _ iv1 _ _ _ _ dX7_goal_39 (⟨ey, ⟨fun j hj => (h1 j hj).1, fun j hj => (h1 j hj).2⟩, h3⟩) hS
      · skip
        rw [nI_leI (by omega) (by omega)] at c_7
        refine lv_aload_n hx hb dX7_goal_10 rfl (lv_at hl 0 rfl) ?_
        refine gx_get (ci := 10) (v := .ref (ad 58)) (C := RX7) (T := TX7) (N := 23) hx hb hts (fun _ h => inX7_goal_RX7 h) hown hK hS 53 (by omega) rfl rfl 9 (by decide) (hts (.fieldLink RX7 23 "CosetTablesModel" "where" "[I") (by decide +kernel)) rfl dX7_goal_11 ?_
        refine lv_iload_n hx hb dX7_goal_14 rfl (lv_at hl 1 rfl) ?_
        refine lv_aload_n hx hb dX7_goal_15 rfl (lv_at hl 0 rfl) ?_
        refine gx_get (ci := 10) (v := .ref (ad 57)) (C := RX7) (T := TX7) (N := 23) hx hb hts (fun _ h => inX7_goal_RX7 h) hown hK hS 53 (by omega) rfl rfl 8 (by decide) (hts (.fieldLink RX7 20 "CosetTablesModel" "pieces" "[I") (by decide +kernel)) rfl dX7_goal_16 ?_
        refine lv_iload_n hx hb dX7_goal_19 rfl (lv_at hl 1 rfl) ?_
        refine gx_ialdn hx hb hK hS 57 (by omega) (by decide) i (by omega) (hln _) dX7_goal_20 ?_
        refine gx_as (y := nI (pc9 i)) (by rw [h3 57 (by decide) (by decide)]; exact hpc i (by omega)) ?_
        refine gx_iastn hx hb hK hS 58 (by omega) (by decide) i (by omega) (hln _) dX7_goal_21 (fun H locs hS => ?_)
        obtain ⟨iv2, eiv2⟩ : ∃ z, z = up2 iv1 58 i (nI (pc9 i)) := ⟨_, rfl⟩
        rw [← eiv2] at hS
        refine lv_aload_n hx hb dX7_goal_22 rfl (lv_at hl 0 rfl) ?_
        refine gx_get (ci := 10) (v := .ref (ad 59)) (C := RX7) (T := TX7) (N := 23) hx hb hts (fun _ h => inX7_goal_RX7 h) hown hK hS 53 (by omega) rfl rfl 10 (by decide) (hts (.fieldLink RX7 26 "CosetTablesModel" "twist" "[I") (by decide +kernel)) rfl dX7_goal_23 ?_
        refine lv_iload_n hx hb dX7_goal_26 rfl (lv_at hl 1 rfl) ?_
        refine lv_iconst (v := nI 0) hx hb dX7_goal_27 (by decide) ?_
        refine gx_iastn hx hb hK hS 59 (by omega) (by decide) i (by omega) (hln _) dX7_goal_28 (fun H locs hS => ?_)
        obtain ⟨iv3, eiv3⟩ : ∃ z, z = up2 iv2 59 i (nI 0) := ⟨_, rfl⟩
        rw [← eiv3] at hS
        refine lv_iinc (v := nI (i + 1)) (lv' := [(1, .int (nI (i + 1))), (0, .ref (ad 53))]) hx hb dX7_goal_29 hl (k := 1) rfl (nI_1 i) (by decide) rfl (fun ls hl => ?_)
        refine lv_goto (tgt := 2) hx hb dX7_goal_32 (by decide) ?_
        exact ih2 (i + 1) iv3 (by omega) (by omega) (fun j hj => by by_cases e9 : j = i <;> first | (subst e9; exact ⟨by rw [eiv3, up2_row (by decide), eiv2, up2_s], by rw [eiv3, up2_s]⟩) | exact ⟨by rw [eiv3, up2_row (by decide), eiv2, up2_n (fun q => e9 q.2)]; exact (h1 j (by omega)).1, by rw [eiv3, up2_n (fun q => e9 q.2), eiv2, up2_row (by decide)]; exact (h1 j (by omega)).2⟩) (fun q x1 x2 => by rw [eiv3, up2_row x2, eiv2, up2_row x1, h3 q x1 x2]) _ _ _ hS (lv_sub hl [1, 0] rfl)
  exact L2 _ 0 iv (Nat.lt_succ_self _) (Nat.zero_le _) lt_0 (fun _ _ _ => rfl) _ _ _ hS (lv_sub hl [1, 0] rfl)
set_option maxRecDepth 100000 in
theorem ct_X7_goal (l : Launch) (D : va_G) (cA : Nat → ClassId) (o : Nat → Int64) (ad ln : Nat → Nat) (n sz : Nat) (iv : Nat → Nat → Int32) (P c9 T : Nat) (pc9 : Nat → Nat) (hn : 68 ≤ n) (hln : ∀ k, ln k < 2 ^ 31) (hRn : rln ln) (hc9 : iv 53 7 = nI c9) (hc4 : c9 ≤ 4) (hT0 : iv 53 2 = nI T) (hT1 : 0 < T) (hT3 : T ≤ 3) (hP0 : iv 53 1 = nI P) (hP : P ≤ 8) (hpc : ∀ i, i < c9 → iv 57 i = nI (pc9 i)) (hpi : inj pc9 P c9) : gMi l yX7_goal wsX7_goal { frames := 2, cells := 0, slots := 0, locals := 47 } D cA o ad ln n sz iv [.ref (ad 53)] (fun (r : Int32) iv' => r = nI (num P T c9 pc9 (fun _ => 0)) ∧ rAt iv' c9 pc9 (fun _ => 0) ∧ ∀ q, q ≠ 58 → q ≠ 59 → iv' q = iv q) := by
  refine Met.ofW (cc := cX7_goal) (maxL := 2) (ret := (some .int)) (by decide) rfl ?_
  intro p e s m args below meth c s₁ B hml hv__
  obtain ⟨rfl, hv__⟩ := hv__
  obtain ⟨hsz, hS, hK, hN, hA⟩ := gS.entry hv__
  have hl := lv_entry ([.ref (ad 53)]) (n := 2) (Nat.le_of_ble_eq_true rfl)
  rw [lg_entry_eq]
  generalize (lg_sl ([.ref (ad 53)]) ++ List.replicate (2 - (lg_sl ([.ref (ad 53)])).length) Slot.unset).toArray = ls at hl ⊢
  exact bd_X7_goal (P := P) (c9 := c9) (T := T) (pc9 := pc9) ⟨B.exec, B.bytes, hml, findClass_of_methodNamed B.named, atoms_spec (ws := wsX7_goal) B.pre, B.returns, B.notSynchronized⟩ (Nat.le_refl _) (Nat.le_refl _) (Nat.le_refl _) (Nat.le_refl _) hK hN hA hn hln hRn hc9 hc4 hT0 hT1 hT3 hP0 hP hpc hpi hS hl (fun r iv' H locs ls pc hd hp hS => gx_iret B.exec B.bytes B.returns B.notSynchronized hS hp hd)

theorem inX7_isState_RX7 : ∀ {w : Cond}, w ∈ u_ws RX7 TX7 23 → w ∈ wsX7_isState := fun {w} h => by first | exact List.mem_cons_of_mem _ (List.mem_append_right _ h) | (revert h; revert w; show ∀ w ∈ u_ws RX7 TX7 23, w ∈ wsX7_isState; decide +kernel)
set_option maxHeartbeats 1000000 in
set_option maxRecDepth 100000 in
theorem bd_X7_isState {p : Program} {l : Launch} {e : Env} {R : Room} {s : State} {m : MethodId} {args : Array Value} {below : List Frame} {meth : Method} {c : Code} {H : Heap} {locs : List Loc} {cells slots : Nat} {Q : State → Prop} {ls : Array Slot} {D : va_G} {A : Nat → Prop} {H0 : Heap} {cA : Nat → ClassId} {o : Nat → Int64} {ad ln : Nat → Nat} {iv : Nat → Nat → Int32} {n : Nat} {x : Int32} {P c9 T : Nat}
    (F : gF p s m meth c cX7_isState 2 RX7 wsX7_isState args (some .boolean)) (hRf : 1 ≤ R.frames) (hRl : 22 ≤ R.locals) (hRc : cells ≤ R.cells) (hRs : slots ≤ R.slots) (hK : va_K D vwCl (gT cA) s) (hN : NW s) (hA : ∀ q, H0.size ≤ q → A q) (hn : 68 ≤ n) (hln : ∀ k, ln k < 2 ^ 31) (hc9 : iv 53 7 = nI c9) (hc4 : c9 ≤ 4) (hT0 : iv 53 2 = nI T) (hT1 : 0 < T) (hT3 : T ≤ 3) (hP0 : iv 53 1 = nI P) (hP : P ≤ 8) (hcP : c9 ≤ P)
    (hS : gS D cA A H0 o ad ln iv n H locs) (hl : lv_has ls 2 [(0, .ref (ad 53)), (1, .int x)])
    (kret : ∀ (r : Int32) (iv' : Nat → Nat → Int32) (H : Heap) (locs : List Loc) (ls : Array Slot) (pc : Nat), decode cX7_isState pc = .ok (.ireturn, 1) → ((r = 0 ∨ r = 1) ∧ (r = 1 ↔ ok9 x (nI (ff P c9 * T ^ c9))) ∧ iv' = iv) → gS D cA A H0 o ad ln iv' n H locs → W p l e R s m args below meth c H locs cells slots Q (F0 m pc ls [.int r])) :
    W p l e R s m args below meth c H locs cells slots Q (F0 m 0 ls []) := by
  obtain ⟨hx, hb, hml, hown, hts, hr, hlocks⟩ := F
  refine lv_iload_n hx hb dX7_isState_0 rfl (lv_at hl 1 rfl) ?_
  refine lv_if_lt (tgt := 16) hx hb dX7_isState_1 (by decide) (fun c_1 => ?_) (fun c_1 => ?_)
  · skip
    refine lv_iconst (v := nI 0) hx hb dX7_isState_16 (by decide) ?_
    exact kret _ iv _ _ _ _ dX7_isState_17 (by first | exact ⟨Or.inl rfl, ⟨fun q => absurd q (by decide), fun q => absurd c_1 q.1⟩, rfl⟩ | exact ⟨Or.inl rfl, ⟨fun q => absurd q (by decide), fun q => absurd q.2 (by rw [← Int32.not_le] at *; first | exact fun h => h c_9 | exact c_9)⟩, rfl⟩ | exact ⟨Or.inr rfl, ⟨fun _ => ⟨c_1, by rw [← Int32.not_le]; exact c_9⟩, fun _ => rfl⟩, rfl⟩) hS
  · skip
    refine lv_iload_n hx hb dX7_isState_4 rfl (lv_at hl 1 rfl) ?_
    refine lv_aload_n hx hb dX7_isState_5 rfl (lv_at hl 0 rfl) ?_
    refine gc_i (gx_runV (As := []) (rest := [.int x]) ⟨hx, hb, hml, hown, hts⟩ hK hN hS 53 (by omega) rfl rfl (ct_X7_countStates l D cA o ad ln n H.size iv (P := P) (c9 := c9) (T := T) hn hln hc9 hc4 hT0 hT1 hT3 hP0 hP hcP) (cwV 0 hts gX7_isState_X7_countStates rfl rfl rfl (by decide +kernel) ⟨gle hRf rfl, gle hRl rfl⟩) rfl rfl hl.1 rfl (lv_room (Nat.le_of_ble_eq_true rfl)) dX7_isState_6 ⟨hRc, hRs⟩) hS hA (fun y iv1 H locs hp1 hS => ?_)
    obtain ⟨ey, ev1⟩ := hp1
    rw [ev1] at hS
    refine gx_as (y := nI (ff P c9 * T ^ c9)) ey ?_
    skip
    refine lv_icmp_ge (tgt := 16) hx hb dX7_isState_9 (by decide) (fun c_9 => ?_) (fun c_9 => ?_)
    · skip
      refine lv_iconst (v := nI 0) hx hb dX7_isState_16 (by decide) ?_
      exact kret _ iv _ _ _ _ dX7_isState_17 (by first | exact ⟨Or.inl rfl, ⟨fun q => absurd q (by decide), fun q => absurd c_1 q.1⟩, rfl⟩ | exact ⟨Or.inl rfl, ⟨fun q => absurd q (by decide), fun q => absurd q.2 (by rw [← Int32.not_le] at *; first | exact fun h => h c_9 | exact c_9)⟩, rfl⟩ | exact ⟨Or.inr rfl, ⟨fun _ => ⟨c_1, by rw [← Int32.not_le]; exact c_9⟩, fun _ => rfl⟩, rfl⟩) hS
    · skip
      refine lv_iconst (v := nI 1) hx hb dX7_isState_12 (by decide) ?_
      refine lv_goto (tgt := 17) hx hb dX7_isState_13 (by decide) ?_
      exact kret _ iv _ _ _ _ dX7_isState_17 (by first | exact ⟨Or.inl rfl, ⟨fun q => absurd q (by decide), fun q => absurd c_1 q.1⟩, rfl⟩ | exact ⟨Or.inl rfl, ⟨fun q => absurd q (by decide), fun q => absurd q.2 (by rw [← Int32.not_le] at *; first | exact fun h => h c_9 | exact c_9)⟩, rfl⟩ | exact ⟨Or.inr rfl, ⟨fun _ => ⟨c_1, by rw [← Int32.not_le]; exact c_9⟩, fun _ => rfl⟩, rfl⟩) hS
set_option maxRecDepth 100000 in
theorem ct_X7_isState (l : Launch) (D : va_G) (cA : Nat → ClassId) (o : Nat → Int64) (ad ln : Nat → Nat) (n sz : Nat) (iv : Nat → Nat → Int32) (x : Int32) (P c9 T : Nat) (hn : 68 ≤ n) (hln : ∀ k, ln k < 2 ^ 31) (hc9 : iv 53 7 = nI c9) (hc4 : c9 ≤ 4) (hT0 : iv 53 2 = nI T) (hT1 : 0 < T) (hT3 : T ≤ 3) (hP0 : iv 53 1 = nI P) (hP : P ≤ 8) (hcP : c9 ≤ P) : gMi l yX7_isState wsX7_isState { frames := 1, cells := 0, slots := 0, locals := 22 } D cA o ad ln n sz iv [.ref (ad 53), .int x] (fun (r : Int32) iv' => (r = 0 ∨ r = 1) ∧ (r = 1 ↔ ok9 x (nI (ff P c9 * T ^ c9))) ∧ iv' = iv) := by
  refine Met.ofW (cc := cX7_isState) (maxL := 2) (ret := (some .boolean)) (by decide) rfl ?_
  intro p e s m args below meth c s₁ B hml hv__
  obtain ⟨rfl, hv__⟩ := hv__
  obtain ⟨hsz, hS, hK, hN, hA⟩ := gS.entry hv__
  have hl := lv_entry ([.ref (ad 53), .int x]) (n := 2) (Nat.le_of_ble_eq_true rfl)
  rw [lg_entry_eq]
  generalize (lg_sl ([.ref (ad 53), .int x]) ++ List.replicate (2 - (lg_sl ([.ref (ad 53), .int x])).length) Slot.unset).toArray = ls at hl ⊢
  exact bd_X7_isState (x := x) (P := P) (c9 := c9) (T := T) ⟨B.exec, B.bytes, hml, findClass_of_methodNamed B.named, atoms_spec (ws := wsX7_isState) B.pre, B.returns, B.notSynchronized⟩ (Nat.le_refl _) (Nat.le_refl _) (Nat.le_refl _) (Nat.le_refl _) hK hN hA hn hln hc9 hc4 hT0 hT1 hT3 hP0 hP hcP hS hl (fun r iv' H locs ls pc hd hp hS => gx_zret B.exec B.bytes B.returns B.notSynchronized (hp.1) hS hp hd)

theorem inX7_set_RX7 : ∀ {w : Cond}, w ∈ u_ws RX7 TX7 23 → w ∈ wsX7_set := fun {w} h => by first | exact List.mem_cons_of_mem _ (List.mem_append_right _ h) | (revert h; revert w; show ∀ w ∈ u_ws RX7 TX7 23, w ∈ wsX7_set; decide +kernel)
set_option maxHeartbeats 1000000 in
set_option maxRecDepth 100000 in
theorem bd_X7_set {p : Program} {l : Launch} {e : Env} {R : Room} {s : State} {m : MethodId} {args : Array Value} {below : List Frame} {meth : Method} {c : Code} {H : Heap} {locs : List Loc} {cells slots : Nat} {Q : State → Prop} {ls : Array Slot} {D : va_G} {A : Nat → Prop} {H0 : Heap} {cA : Nat → ClassId} {o : Nat → Int64} {ad ln : Nat → Nat} {iv : Nat → Nat → Int32} {n : Nat} {x P c9 T : Nat}
    (F : gF p s m meth c cX7_set 2 RX7 wsX7_set args none) (hRf : 2 ≤ R.frames) (hRl : 43 ≤ R.locals) (hRc : cells ≤ R.cells) (hRs : slots ≤ R.slots) (hK : va_K D vwCl (gT cA) s) (hN : NW s) (hA : ∀ q, H0.size ≤ q → A q) (hn : 68 ≤ n) (hln : ∀ k, ln k < 2 ^ 31) (hc9 : iv 53 7 = nI c9) (hc4 : c9 ≤ 4) (hT0 : iv 53 2 = nI T) (hT1 : 0 < T) (hT3 : T ≤ 3) (hP0 : iv 53 1 = nI P) (hP : P ≤ 8) (hcP : c9 ≤ P) (hx9 : x < ff P c9 * T ^ c9)
    (hS : gS D cA A H0 o ad ln iv n H locs) (hl : lv_has ls 2 [(0, .ref (ad 53)), (1, .int (nI x))])
    (kret : ∀ (iv' : Nat → Nat → Int32) (H : Heap) (locs : List Loc) (ls : Array Slot) (pc : Nat), decode cX7_set pc = .ok (.return_, 1) → (iv' = up2 (up2 iv 53 0 0) 53 11 (nI x)) → gS D cA A H0 o ad ln iv' n H locs → W p l e R s m args below meth c H locs cells slots Q (F0 m pc ls [])) :
    W p l e R s m args below meth c H locs cells slots Q (F0 m 0 ls []) := by
  obtain ⟨hx, hb, hml, hown, hts, hr, hlocks⟩ := F
  have hff := ff_le4 hP hc4
  have hpw := pw_le4 hT3 hc4
  have hfw := Nat.mul_le_mul hff hpw
  have hok : ok9 (nI x) (nI (ff P c9 * T ^ c9)) := ok9_nI hx9 (by omega)
  refine lv_aload_n hx hb dX7_set_0 rfl (lv_at hl 0 rfl) ?_
  refine lv_iconst (v := nI 1) hx hb dX7_set_1 (by decide) ?_
  refine lv_aload_n hx hb dX7_set_2 rfl (lv_at hl 0 rfl) ?_
  refine lv_iload_n hx hb dX7_set_3 rfl (lv_at hl 1 rfl) ?_
  refine gc_i (gx_runV (As := [.int (nI x)]) (rest := [.int (nI 1), .ref (ad 53)]) ⟨hx, hb, hml, hown, hts⟩ hK hN hS 53 (by omega) rfl rfl (ct_X7_isState l D cA o ad ln n H.size iv (x := nI x) (P := P) (c9 := c9) (T := T) hn hln hc9 hc4 hT0 hT1 hT3 hP0 hP hcP) (cwV 1 hts gX7_set_X7_isState rfl rfl rfl (by decide +kernel) ⟨gle hRf rfl, gle hRl rfl⟩) rfl rfl hl.1 rfl (lv_room (Nat.le_of_ble_eq_true rfl)) dX7_set_4 ⟨hRc, hRs⟩) hS hA (fun y1 iv1 H locs hp1 hS => ?_)
  obtain ⟨h011, hi1, ev1⟩ := hp1
  rw [ev1] at hS
  skip
  refine lv_if_ne (tgt := 14) hx hb dX7_set_7 (by decide) (fun c_7 => ?_) (fun c_7 => ?_)
  · skip
    refine lv_iconst (v := nI 0) hx hb dX7_set_14 (by decide) ?_
    refine gc_i (gx_runV (As := [.int (nI 1), .int (nI 0)]) (rest := []) ⟨hx, hb, hml, hown, hts⟩ hK hN hS 53 (by omega) rfl rfl (ct_X7_throwsIf l D cA o ad ln n H.size iv (x := nI 1) (v := nI 0) hn hln (Or.inl rfl)) (cwV 2 hts gX7_set_X7_throwsIf rfl rfl rfl (by decide +kernel) ⟨gle hRf rfl, gle hRl rfl⟩) rfl rfl hl.1 rfl (lv_room (Nat.le_of_ble_eq_true rfl)) dX7_set_15 ⟨hRc, hRs⟩) hS hA (fun z iv4 H locs hp4 hS => ?_)
    obtain ⟨_, ez, et⟩ := hp4
    have et : iv4 = up2 iv 53 0 0 := et
    refine gx_as (y := nI 0) ez ?_
    refine lv_if_eq (tgt := 22) hx hb dX7_set_18 (by decide) (fun c_18 => ?_) (fun c_18 => ?_)
    · skip
      rw [show (0 : Int32) = nI 0 from rfl] at c_18
      rw [nI_eq (by omega) (by omega)] at c_18
      refine lv_aload_n hx hb dX7_set_22 rfl (lv_at hl 0 rfl) ?_
      refine lv_iload_n hx hb dX7_set_23 rfl (lv_at hl 1 rfl) ?_
      refine gx_put (ci := 10) (x := nI x) (ty := .int) (C := RX7) (T := TX7) (N := 23) hx hb hts (fun _ h => inX7_set_RX7 h) tyX7 tyX7_ok nmX7 hown hK hS 53 (by omega) rfl rfl 11 (by decide) (hts (.fieldLink RX7 90 "CosetTablesModel" "state" "I") (by decide +kernel)) rfl (by decide +kernel) rfl rfl (Nat.le_of_ble_eq_true rfl) rfl dX7_set_24 (fun H locs hS => ?_)
      obtain ⟨iv5, eiv5⟩ : ∃ z, z = up2 iv4 53 11 (nI x) := ⟨_, rfl⟩
      rw [← eiv5] at hS
      exact kret iv5 _ _ _ _ dX7_set_27 (by rw [eiv5, et]) hS
    · skip
      rw [show (0 : Int32) = nI 0 from rfl] at c_18
      rw [nI_eq (by omega) (by omega)] at c_18
      omega
  · skip
    exact absurd (hi1.mpr hok) (by rw [c_7]; decide)
set_option maxRecDepth 100000 in
theorem ct_X7_set (l : Launch) (D : va_G) (cA : Nat → ClassId) (o : Nat → Int64) (ad ln : Nat → Nat) (n sz : Nat) (iv : Nat → Nat → Int32) (x P c9 T : Nat) (hn : 68 ≤ n) (hln : ∀ k, ln k < 2 ^ 31) (hc9 : iv 53 7 = nI c9) (hc4 : c9 ≤ 4) (hT0 : iv 53 2 = nI T) (hT1 : 0 < T) (hT3 : T ≤ 3) (hP0 : iv 53 1 = nI P) (hP : P ≤ 8) (hcP : c9 ≤ P) (hx9 : x < ff P c9 * T ^ c9) : gMv l yX7_set wsX7_set { frames := 2, cells := 0, slots := 0, locals := 43 } D cA o ad ln n sz iv [.ref (ad 53), .int (nI x)] (fun iv' => iv' = up2 (up2 iv 53 0 0) 53 11 (nI x)) := by
  refine Met.ofW (cc := cX7_set) (maxL := 2) (ret := none) (by decide) rfl ?_
  intro p e s m args below meth c s₁ B hml hv__
  obtain ⟨rfl, hv__⟩ := hv__
  obtain ⟨hsz, hS, hK, hN, hA⟩ := gS.entry hv__
  have hl := lv_entry ([.ref (ad 53), .int (nI x)]) (n := 2) (Nat.le_of_ble_eq_true rfl)
  rw [lg_entry_eq]
  generalize (lg_sl ([.ref (ad 53), .int (nI x)]) ++ List.replicate (2 - (lg_sl ([.ref (ad 53), .int (nI x)])).length) Slot.unset).toArray = ls at hl ⊢
  exact bd_X7_set (x := x) (P := P) (c9 := c9) (T := T) ⟨B.exec, B.bytes, hml, findClass_of_methodNamed B.named, atoms_spec (ws := wsX7_set) B.pre, B.returns, B.notSynchronized⟩ (Nat.le_refl _) (Nat.le_refl _) (Nat.le_refl _) (Nat.le_refl _) hK hN hA hn hln hc9 hc4 hT0 hT1 hT3 hP0 hP hcP hx9 hS hl (fun iv' H locs ls pc hd hp hS => gx_vret B.exec B.bytes B.returns B.notSynchronized hS hp hd)

set_option maxHeartbeats 1000000 in
set_option maxRecDepth 100000 in
theorem bd_X7_setB {p : Program} {l : Launch} {e : Env} {R : Room} {s : State} {m : MethodId} {args : Array Value} {below : List Frame} {meth : Method} {c : Code} {H : Heap} {locs : List Loc} {cells slots : Nat} {Q : State → Prop} {ls : Array Slot} {D : va_G} {A : Nat → Prop} {H0 : Heap} {cA : Nat → ClassId} {o : Nat → Int64} {ad ln : Nat → Nat} {iv : Nat → Nat → Int32} {n : Nat} {x : Int32} {P c9 T : Nat}
    (F : gF p s m meth c cX7_set 2 RX7 wsX7_set args none) (hRf : 2 ≤ R.frames) (hRl : 43 ≤ R.locals) (hRc : cells ≤ R.cells) (hRs : slots ≤ R.slots) (hK : va_K D vwCl (gT cA) s) (hN : NW s) (hA : ∀ q, H0.size ≤ q → A q) (hn : 68 ≤ n) (hln : ∀ k, ln k < 2 ^ 31) (hc9 : iv 53 7 = nI c9) (hc4 : c9 ≤ 4) (hT0 : iv 53 2 = nI T) (hT1 : 0 < T) (hT3 : T ≤ 3) (hP0 : iv 53 1 = nI P) (hP : P ≤ 8) (hcP : c9 ≤ P) (hbad : ¬ ok9 x (nI (ff P c9 * T ^ c9)))
    (hS : gS D cA A H0 o ad ln iv n H locs) (hl : lv_has ls 2 [(0, .ref (ad 53)), (1, .int x)])
    (kret : ∀ (iv' : Nat → Nat → Int32) (H : Heap) (locs : List Loc) (ls : Array Slot) (pc : Nat), decode cX7_set pc = .ok (.return_, 1) → (iv' = up2 iv 53 0 1) → gS D cA A H0 o ad ln iv' n H locs → W p l e R s m args below meth c H locs cells slots Q (F0 m pc ls [])) :
    W p l e R s m args below meth c H locs cells slots Q (F0 m 0 ls []) := by
  obtain ⟨hx, hb, hml, hown, hts, hr, hlocks⟩ := F
  refine lv_aload_n hx hb dX7_set_0 rfl (lv_at hl 0 rfl) ?_
  refine lv_iconst (v := nI 1) hx hb dX7_set_1 (by decide) ?_
  refine lv_aload_n hx hb dX7_set_2 rfl (lv_at hl 0 rfl) ?_
  refine lv_iload_n hx hb dX7_set_3 rfl (lv_at hl 1 rfl) ?_
  refine gc_i (gx_runV (As := [.int x]) (rest := [.int (nI 1), .ref (ad 53)]) ⟨hx, hb, hml, hown, hts⟩ hK hN hS 53 (by omega) rfl rfl (ct_X7_isState l D cA o ad ln n H.size iv (x := x) (P := P) (c9 := c9) (T := T) hn hln hc9 hc4 hT0 hT1 hT3 hP0 hP hcP) (cwV 1 hts gX7_set_X7_isState rfl rfl rfl (by decide +kernel) ⟨gle hRf rfl, gle hRl rfl⟩) rfl rfl hl.1 rfl (lv_room (Nat.le_of_ble_eq_true rfl)) dX7_set_4 ⟨hRc, hRs⟩) hS hA (fun y1 iv1 H locs hp1 hS => ?_)
  obtain ⟨h011, hi1, ev1⟩ := hp1
  rw [ev1] at hS
  skip
  refine lv_if_ne (tgt := 14) hx hb dX7_set_7 (by decide) (fun c_7 => ?_) (fun c_7 => ?_)
  · skip
    exact absurd (hi1.mp (h011.resolve_left c_7)) hbad
  · skip
    refine lv_iconst (v := nI 1) hx hb dX7_set_10 (by decide) ?_
    refine lv_goto (tgt := 15) hx hb dX7_set_11 (by decide) ?_
    refine gc_i (gx_runV (As := [.int (nI 1), .int (nI 1)]) (rest := []) ⟨hx, hb, hml, hown, hts⟩ hK hN hS 53 (by omega) rfl rfl (ct_X7_throwsIf l D cA o ad ln n H.size iv (x := nI 1) (v := nI 1) hn hln (Or.inr rfl)) (cwV 2 hts gX7_set_X7_throwsIf rfl rfl rfl (by decide +kernel) ⟨gle hRf rfl, gle hRl rfl⟩) rfl rfl hl.1 rfl (lv_room (Nat.le_of_ble_eq_true rfl)) dX7_set_15 ⟨hRc, hRs⟩) hS hA (fun z iv4 H locs hp4 hS => ?_)
    obtain ⟨_, ez, et⟩ := hp4
    have et : iv4 = up2 iv 53 0 1 := et
    refine gx_as (y := nI 1) ez ?_
    refine lv_if_eq (tgt := 22) hx hb dX7_set_18 (by decide) (fun c_18 => ?_) (fun c_18 => ?_)
    · skip
      rw [show (0 : Int32) = nI 0 from rfl] at c_18
      rw [nI_eq (by omega) (by omega)] at c_18
      omega
    · skip
      rw [show (0 : Int32) = nI 0 from rfl] at c_18
      rw [nI_eq (by omega) (by omega)] at c_18
      exact kret iv4 _ _ _ _ dX7_set_21 (et) hS
set_option maxRecDepth 100000 in
theorem ct_X7_setB (l : Launch) (D : va_G) (cA : Nat → ClassId) (o : Nat → Int64) (ad ln : Nat → Nat) (n sz : Nat) (iv : Nat → Nat → Int32) (x : Int32) (P c9 T : Nat) (hn : 68 ≤ n) (hln : ∀ k, ln k < 2 ^ 31) (hc9 : iv 53 7 = nI c9) (hc4 : c9 ≤ 4) (hT0 : iv 53 2 = nI T) (hT1 : 0 < T) (hT3 : T ≤ 3) (hP0 : iv 53 1 = nI P) (hP : P ≤ 8) (hcP : c9 ≤ P) (hbad : ¬ ok9 x (nI (ff P c9 * T ^ c9))) : gMv l yX7_set wsX7_set { frames := 2, cells := 0, slots := 0, locals := 43 } D cA o ad ln n sz iv [.ref (ad 53), .int x] (fun iv' => iv' = up2 iv 53 0 1) := by
  refine Met.ofW (cc := cX7_set) (maxL := 2) (ret := none) (by decide) rfl ?_
  intro p e s m args below meth c s₁ B hml hv__
  obtain ⟨rfl, hv__⟩ := hv__
  obtain ⟨hsz, hS, hK, hN, hA⟩ := gS.entry hv__
  have hl := lv_entry ([.ref (ad 53), .int x]) (n := 2) (Nat.le_of_ble_eq_true rfl)
  rw [lg_entry_eq]
  generalize (lg_sl ([.ref (ad 53), .int x]) ++ List.replicate (2 - (lg_sl ([.ref (ad 53), .int x])).length) Slot.unset).toArray = ls at hl ⊢
  exact bd_X7_setB (x := x) (P := P) (c9 := c9) (T := T) ⟨B.exec, B.bytes, hml, findClass_of_methodNamed B.named, atoms_spec (ws := wsX7_set) B.pre, B.returns, B.notSynchronized⟩ (Nat.le_refl _) (Nat.le_refl _) (Nat.le_refl _) (Nat.le_refl _) hK hN hA hn hln hc9 hc4 hT0 hT1 hT3 hP0 hP hcP hbad hS hl (fun iv' H locs ls pc hd hp hS => gx_vret B.exec B.bytes B.returns B.notSynchronized hS hp hd)

theorem inX7_number_RX7 : ∀ {w : Cond}, w ∈ u_ws RX7 TX7 23 → w ∈ wsX7_number := fun {w} h => by first | exact List.mem_cons_of_mem _ (List.mem_append_right _ h) | (revert h; revert w; show ∀ w ∈ u_ws RX7 TX7 23, w ∈ wsX7_number; decide +kernel)
set_option maxHeartbeats 1000000 in
set_option maxRecDepth 100000 in
theorem bd_X7_number {p : Program} {l : Launch} {e : Env} {R : Room} {s : State} {m : MethodId} {args : Array Value} {below : List Frame} {meth : Method} {c : Code} {H : Heap} {locs : List Loc} {cells slots : Nat} {Q : State → Prop} {ls : Array Slot} {D : va_G} {A : Nat → Prop} {H0 : Heap} {cA : Nat → ClassId} {o : Nat → Int64} {ad ln : Nat → Nat} {iv : Nat → Nat → Int32} {n : Nat} 
    (F : gF p s m meth c cX7_number 1 RX7 wsX7_number args (some .int)) (hRf : 0 ≤ R.frames) (hRl : 0 ≤ R.locals) (hRc : cells ≤ R.cells) (hRs : slots ≤ R.slots) (hK : va_K D vwCl (gT cA) s) (hN : NW s) (hA : ∀ q, H0.size ≤ q → A q) (hn : 68 ≤ n) (hln : ∀ k, ln k < 2 ^ 31) 
    (hS : gS D cA A H0 o ad ln iv n H locs) (hl : lv_has ls 1 [(0, .ref (ad 53))])
    (kret : ∀ (r : Int32) (iv' : Nat → Nat → Int32) (H : Heap) (locs : List Loc) (ls : Array Slot) (pc : Nat), decode cX7_number pc = .ok (.ireturn, 1) → (r = iv 53 11 ∧ iv' = up2 iv 53 0 0) → gS D cA A H0 o ad ln iv' n H locs → W p l e R s m args below meth c H locs cells slots Q (F0 m pc ls [.int r])) :
    W p l e R s m args below meth c H locs cells slots Q (F0 m 0 ls []) := by
  obtain ⟨hx, hb, hml, hown, hts, hr, hlocks⟩ := F
  refine lv_aload_n hx hb dX7_number_0 rfl (lv_at hl 0 rfl) ?_
  refine lv_iconst (v := nI 0) hx hb dX7_number_1 (by decide) ?_
  refine gx_put (ci := 10) (x := nI 0) (ty := .int) (C := RX7) (T := TX7) (N := 23) hx hb hts (fun _ h => inX7_number_RX7 h) tyX7 tyX7_ok nmX7 hown hK hS 53 (by omega) rfl rfl 0 (by decide) (hts (.fieldLink RX7 58 "CosetTablesModel" "thrown" "I") (by decide +kernel)) rfl (by decide +kernel) rfl rfl (Nat.le_of_ble_eq_true rfl) rfl dX7_number_2 (fun H locs hS => ?_)
  obtain ⟨iv1, eiv1⟩ : ∃ z, z = up2 iv 53 0 (nI 0) := ⟨_, rfl⟩
  rw [← eiv1] at hS
  refine lv_aload_n hx hb dX7_number_5 rfl (lv_at hl 0 rfl) ?_
  refine gx_get (ci := 10) (v := .int (iv1 53 11)) (C := RX7) (T := TX7) (N := 23) hx hb hts (fun _ h => inX7_number_RX7 h) hown hK hS 53 (by omega) rfl rfl 11 (by decide) (hts (.fieldLink RX7 90 "CosetTablesModel" "state" "I") (by decide +kernel)) rfl dX7_number_6 ?_
  exact kret _ iv1 _ _ _ _ dX7_number_9 (⟨by rw [eiv1, up2_n (by decide)], by rw [eiv1]; rfl⟩) hS
set_option maxRecDepth 100000 in
theorem ct_X7_number (l : Launch) (D : va_G) (cA : Nat → ClassId) (o : Nat → Int64) (ad ln : Nat → Nat) (n sz : Nat) (iv : Nat → Nat → Int32)  (hn : 68 ≤ n) (hln : ∀ k, ln k < 2 ^ 31)  : gMi l yX7_number wsX7_number { frames := 0, cells := 0, slots := 0, locals := 0 } D cA o ad ln n sz iv [.ref (ad 53)] (fun (r : Int32) iv' => r = iv 53 11 ∧ iv' = up2 iv 53 0 0) := by
  refine Met.ofW (cc := cX7_number) (maxL := 1) (ret := (some .int)) (by decide) rfl ?_
  intro p e s m args below meth c s₁ B hml hv__
  obtain ⟨rfl, hv__⟩ := hv__
  obtain ⟨hsz, hS, hK, hN, hA⟩ := gS.entry hv__
  have hl := lv_entry ([.ref (ad 53)]) (n := 1) (Nat.le_of_ble_eq_true rfl)
  rw [lg_entry_eq]
  generalize (lg_sl ([.ref (ad 53)]) ++ List.replicate (1 - (lg_sl ([.ref (ad 53)])).length) Slot.unset).toArray = ls at hl ⊢
  exact bd_X7_number  ⟨B.exec, B.bytes, hml, findClass_of_methodNamed B.named, atoms_spec (ws := wsX7_number) B.pre, B.returns, B.notSynchronized⟩ (Nat.le_refl _) (Nat.le_refl _) (Nat.le_refl _) (Nat.le_refl _) hK hN hA hn hln  hS hl (fun r iv' H locs ls pc hd hp hS => gx_iret B.exec B.bytes B.returns B.notSynchronized hS hp hd)

theorem inX7_rankOf_RX7 : ∀ {w : Cond}, w ∈ u_ws RX7 TX7 23 → w ∈ wsX7_rankOf := fun {w} h => by first | exact List.mem_cons_of_mem _ (List.mem_append_right _ h) | (revert h; revert w; show ∀ w ∈ u_ws RX7 TX7 23, w ∈ wsX7_rankOf; decide +kernel)
set_option maxHeartbeats 1000000 in
set_option maxRecDepth 100000 in
theorem bd_X7_rankOf {p : Program} {l : Launch} {e : Env} {R : Room} {s : State} {m : MethodId} {args : Array Value} {below : List Frame} {meth : Method} {c : Code} {H : Heap} {locs : List Loc} {cells slots : Nat} {Q : State → Prop} {ls : Array Slot} {D : va_G} {A : Nat → Prop} {H0 : Heap} {cA : Nat → ClassId} {o : Nat → Int64} {ad ln : Nat → Nat} {iv : Nat → Nat → Int32} {n : Nat} {p9 P c9 : Nat} {pc9 : Nat → Nat}
    (F : gF p s m meth c cX7_rankOf 3 RX7 wsX7_rankOf args (some .int)) (hRf : 0 ≤ R.frames) (hRl : 0 ≤ R.locals) (hRc : cells ≤ R.cells) (hRs : slots ≤ R.slots) (hK : va_K D vwCl (gT cA) s) (hN : NW s) (hA : ∀ q, H0.size ≤ q → A q) (hn : 68 ≤ n) (hln : ∀ k, ln k < 2 ^ 31) (hRn : rln ln) (hc9 : iv 53 7 = nI c9) (hc4 : c9 ≤ 4) (hP : P ≤ 8) (hpc : ∀ i, i < c9 → iv 57 i = nI (pc9 i)) (hpi : inj pc9 P c9) (hp9 : p9 < 2 ^ 31)
    (hS : gS D cA A H0 o ad ln iv n H locs) (hl : lv_has ls 3 [(0, .ref (ad 53)), (1, .int (nI p9))])
    (kret : ∀ (r : Int32) (iv' : Nat → Nat → Int32) (H : Heap) (locs : List Loc) (ls : Array Slot) (pc : Nat), decode cX7_rankOf pc = .ok (.ireturn, 1) → (((∃ k, k < c9 ∧ pc9 k = p9 ∧ r = nI k) ∨ ((∀ k, k < c9 → pc9 k ≠ p9) ∧ r = -1)) ∧ iv' = iv) → gS D cA A H0 o ad ln iv' n H locs → W p l e R s m args below meth c H locs cells slots Q (F0 m pc ls [.int r])) :
    W p l e R s m args below meth c H locs cells slots Q (F0 m 0 ls []) := by
  obtain ⟨hx, hb, hml, hown, hts, hr, hlocks⟩ := F
  have hRn9 := hRn
  obtain ⟨r54, r55, r56, r57, r58, r59, r60, r61, r62, r63, r64, r65, r66⟩ := hRn
  refine lv_iconst (v := nI 0) hx hb dX7_rankOf_0 (by decide) ?_
  refine lv_istore_n (lv' := [(2, .int (nI 0)), (0, .ref (ad 53)), (1, .int (nI p9))]) hx hb dX7_rankOf_1 rfl hl (by decide) rfl (fun ls hl => ?_)
  have L2 : ∀ (N : Nat) (k : Nat), c9 - k < N → (k ≤ c9) → (∀ i, i < k → pc9 i ≠ p9) → ∀ (H : Heap) (locs : List Loc) (ls : Array Slot), gS D cA A H0 o ad ln iv n H locs → lv_has ls 3 [(0, .ref (ad 53)), (1, .int (nI p9)), (2, .int (nI k))] → W p l e R s m args below meth c H locs cells slots Q (F0 m 2 ls []) := by
    intro N
    induction N with
    | zero => intro k hm; exact absurd hm (Nat.not_lt_zero _)
    | succ N ih2 =>
      intro k hm hk h1 H locs ls hS hl
      refine lv_iload_n hx hb dX7_rankOf_2 rfl (lv_at hl 2 rfl) ?_
      refine lv_aload_n hx hb dX7_rankOf_3 rfl (lv_at hl 0 rfl) ?_
      refine gx_get (ci := 10) (v := .int (iv 53 7)) (C := RX7) (T := TX7) (N := 23) hx hb hts (fun _ h => inX7_rankOf_RX7 h) hown hK hS 53 (by omega) rfl rfl 7 (by decide) (hts (.fieldLink RX7 83 "CosetTablesModel" "chosen" "I") (by decide +kernel)) rfl dX7_rankOf_4 ?_
      refine gx_as (y := nI c9) hc9 ?_
      refine lv_icmp_ge (tgt := 28) hx hb dX7_rankOf_7 (by decide) (fun c_7 => ?_) (fun c_7 => ?_)
      · skip
        rw [nI_leI (by omega) (by omega)] at c_7
        have ek : k = c9 := by omega
        subst ek
        refine lv_iconst (v := (-1)) hx hb dX7_rankOf_28 (by decide) ?_
        exact kret _ iv _ _ _ _ dX7_rankOf_29 (⟨Or.inr ⟨h1, rfl⟩, rfl⟩) hS
      · skip
        rw [nI_leI (by omega) (by omega)] at c_7
        have hpk := hpi.1 k (by omega)
        refine lv_aload_n hx hb dX7_rankOf_10 rfl (lv_at hl 0 rfl) ?_
        refine gx_get (ci := 10) (v := .ref (ad 57)) (C := RX7) (T := TX7) (N := 23) hx hb hts (fun _ h => inX7_rankOf_RX7 h) hown hK hS 53 (by omega) rfl rfl 8 (by decide) (hts (.fieldLink RX7 20 "CosetTablesModel" "pieces" "[I") (by decide +kernel)) rfl dX7_rankOf_11 ?_
        refine lv_iload_n hx hb dX7_rankOf_14 rfl (lv_at hl 2 rfl) ?_
        refine gx_ialdn hx hb hK hS 57 (by omega) (by decide) k (by omega) (hln _) dX7_rankOf_15 ?_
        refine gx_as (y := nI (pc9 k)) (hpc k (by omega)) ?_
        refine lv_iload_n hx hb dX7_rankOf_16 rfl (lv_at hl 1 rfl) ?_
        refine lv_icmp_ne (tgt := 22) hx hb dX7_rankOf_17 (by decide) (fun c_17 => ?_) (fun c_17 => ?_)
        · skip
          rw [nI_eq (by omega) (by omega)] at c_17
          refine lv_iinc (v := nI (k + 1)) (lv' := [(2, .int (nI (k + 1))), (0, .ref (ad 53)), (1, .int (nI p9))]) hx hb dX7_rankOf_22 hl (k := 2) rfl (nI_1 k) (by decide) rfl (fun ls hl => ?_)
          refine lv_goto (tgt := 2) hx hb dX7_rankOf_25 (by decide) ?_
          exact ih2 (k + 1) (by omega) (by omega) (fun i hi => by rcases Nat.lt_or_ge i k with q | q; exact h1 i q; have e : i = k := (by omega); rw [e]; exact c_17) _ _ _ hS (lv_sub hl [1, 2, 0] rfl)
        · skip
          rw [nI_eq (by omega) (by omega)] at c_17
          refine lv_iload_n hx hb dX7_rankOf_20 rfl (lv_at hl 2 rfl) ?_
          exact kret _ iv _ _ _ _ dX7_rankOf_21 (⟨Or.inl ⟨k, by omega, c_17, rfl⟩, rfl⟩) hS
  exact L2 _ 0 (Nat.lt_succ_self _) (Nat.zero_le _) lt_0 _ _ _ hS (lv_sub hl [1, 2, 0] rfl)
set_option maxRecDepth 100000 in
theorem ct_X7_rankOf (l : Launch) (D : va_G) (cA : Nat → ClassId) (o : Nat → Int64) (ad ln : Nat → Nat) (n sz : Nat) (iv : Nat → Nat → Int32) (p9 P c9 : Nat) (pc9 : Nat → Nat) (hn : 68 ≤ n) (hln : ∀ k, ln k < 2 ^ 31) (hRn : rln ln) (hc9 : iv 53 7 = nI c9) (hc4 : c9 ≤ 4) (hP : P ≤ 8) (hpc : ∀ i, i < c9 → iv 57 i = nI (pc9 i)) (hpi : inj pc9 P c9) (hp9 : p9 < 2 ^ 31) : gMi l yX7_rankOf wsX7_rankOf { frames := 0, cells := 0, slots := 0, locals := 0 } D cA o ad ln n sz iv [.ref (ad 53), .int (nI p9)] (fun (r : Int32) iv' => ((∃ k, k < c9 ∧ pc9 k = p9 ∧ r = nI k) ∨ ((∀ k, k < c9 → pc9 k ≠ p9) ∧ r = -1)) ∧ iv' = iv) := by
  refine Met.ofW (cc := cX7_rankOf) (maxL := 3) (ret := (some .int)) (by decide) rfl ?_
  intro p e s m args below meth c s₁ B hml hv__
  obtain ⟨rfl, hv__⟩ := hv__
  obtain ⟨hsz, hS, hK, hN, hA⟩ := gS.entry hv__
  have hl := lv_entry ([.ref (ad 53), .int (nI p9)]) (n := 3) (Nat.le_of_ble_eq_true rfl)
  rw [lg_entry_eq]
  generalize (lg_sl ([.ref (ad 53), .int (nI p9)]) ++ List.replicate (3 - (lg_sl ([.ref (ad 53), .int (nI p9)])).length) Slot.unset).toArray = ls at hl ⊢
  exact bd_X7_rankOf (p9 := p9) (P := P) (c9 := c9) (pc9 := pc9) ⟨B.exec, B.bytes, hml, findClass_of_methodNamed B.named, atoms_spec (ws := wsX7_rankOf) B.pre, B.returns, B.notSynchronized⟩ (Nat.le_refl _) (Nat.le_refl _) (Nat.le_refl _) (Nat.le_refl _) hK hN hA hn hln hRn hc9 hc4 hP hpc hpi hp9 hS hl (fun r iv' H locs ls pc hd hp hS => gx_iret B.exec B.bytes B.returns B.notSynchronized hS hp hd)

theorem inX7_place_RX7 : ∀ {w : Cond}, w ∈ u_ws RX7 TX7 23 → w ∈ wsX7_place := fun {w} h => by first | exact List.mem_cons_of_mem _ (List.mem_append_right _ h) | (revert h; revert w; show ∀ w ∈ u_ws RX7 TX7 23, w ∈ wsX7_place; decide +kernel)
set_option maxHeartbeats 1000000 in
set_option maxRecDepth 100000 in
theorem bd_X7_place {p : Program} {l : Launch} {e : Env} {R : Room} {s : State} {m : MethodId} {args : Array Value} {below : List Frame} {meth : Method} {c : Code} {H : Heap} {locs : List Loc} {cells slots : Nat} {Q : State → Prop} {ls : Array Slot} {D : va_G} {A : Nat → Prop} {H0 : Heap} {cA : Nat → ClassId} {o : Nat → Int64} {ad ln : Nat → Nat} {iv : Nat → Nat → Int32} {n : Nat} {p9 x P c9 T : Nat} {pc9 : Nat → Nat}
    (F : gF p s m meth c cX7_place 2 RX7 wsX7_place args (some .int)) (hRf : 2 ≤ R.frames) (hRl : 48 ≤ R.locals) (hRc : cells ≤ R.cells) (hRs : slots ≤ R.slots) (hK : va_K D vwCl (gT cA) s) (hN : NW s) (hA : ∀ q, H0.size ≤ q → A q) (hn : 68 ≤ n) (hln : ∀ k, ln k < 2 ^ 31) (hRn : rln ln) (hc9 : iv 53 7 = nI c9) (hc4 : c9 ≤ 4) (hT0 : iv 53 2 = nI T) (hT1 : 0 < T) (hT3 : T ≤ 3) (hP0 : iv 53 1 = nI P) (hP : P ≤ 8) (hpc : ∀ i, i < c9 → iv 57 i = nI (pc9 i)) (hpi : inj pc9 P c9) (hx0 : iv 53 11 = nI x) (hx9 : x < 2 ^ 20) (hp9 : p9 < P)
    (hS : gS D cA A H0 o ad ln iv n H locs) (hl : lv_has ls 2 [(0, .ref (ad 53)), (1, .int (nI p9))])
    (kret : ∀ (r : Int32) (iv' : Nat → Nat → Int32) (H : Heap) (locs : List Loc) (ls : Array Slot) (pc : Nat), decode cX7_place pc = .ok (.ireturn, 1) → (((∃ k, k < c9 ∧ pc9 k = p9 ∧ r = nI (dw P c9 (x / T ^ c9) k)) ∨ ((∀ k, k < c9 → pc9 k ≠ p9) ∧ r = -1)) ∧ (iv' 53 0 = 0 ∧ ∀ j, j ≠ 0 → iv' 53 j = iv 53 j) ∧ ∀ q, q ≠ 53 → q ≠ 58 → q ≠ 59 → iv' q = iv q) → gS D cA A H0 o ad ln iv' n H locs → W p l e R s m args below meth c H locs cells slots Q (F0 m pc ls [.int r])) :
    W p l e R s m args below meth c H locs cells slots Q (F0 m 0 ls []) := by
  obtain ⟨hx, hb, hml, hown, hts, hr, hlocks⟩ := F
  have hRn9 := hRn
  obtain ⟨r54, r55, r56, r57, r58, r59, r60, r61, r62, r63, r64, r65, r66⟩ := hRn
  have hcP := inj_le_P hpi
  have hok : ok9 (nI p9) (iv 53 1) := by rw [hP0]; exact ok9_nI hp9 (by omega)
  refine lv_aload_n hx hb dX7_place_0 rfl (lv_at hl 0 rfl) ?_
  refine lv_iconst (v := nI 1) hx hb dX7_place_1 (by decide) ?_
  refine lv_aload_n hx hb dX7_place_2 rfl (lv_at hl 0 rfl) ?_
  refine lv_iload_n hx hb dX7_place_3 rfl (lv_at hl 1 rfl) ?_
  refine gc_i (gx_runV (As := [.int (nI p9)]) (rest := [.int (nI 1), .ref (ad 53)]) ⟨hx, hb, hml, hown, hts⟩ hK hN hS 53 (by omega) rfl rfl (ct_X7_isPlace l D cA o ad ln n H.size iv (x := nI p9) hn hln) (cwV 1 hts gX7_place_X7_isPlace rfl rfl rfl (by decide +kernel) ⟨gle hRf rfl, gle hRl rfl⟩) rfl rfl hl.1 rfl (lv_room (Nat.le_of_ble_eq_true rfl)) dX7_place_4 ⟨hRc, hRs⟩) hS hA (fun y1 iv1 H locs hp1 hS => ?_)
  obtain ⟨h011, hi1, ev1⟩ := hp1
  rw [ev1] at hS
  skip
  refine lv_if_ne (tgt := 14) hx hb dX7_place_7 (by decide) (fun c_7 => ?_) (fun c_7 => ?_)
  · skip
    refine lv_iconst (v := nI 0) hx hb dX7_place_14 (by decide) ?_
    refine gc_i (gx_runV (As := [.int (nI 1), .int (nI 0)]) (rest := []) ⟨hx, hb, hml, hown, hts⟩ hK hN hS 53 (by omega) rfl rfl (ct_X7_throwsIf l D cA o ad ln n H.size iv (x := nI 1) (v := nI 0) hn hln (Or.inl rfl)) (cwV 2 hts gX7_place_X7_throwsIf rfl rfl rfl (by decide +kernel) ⟨gle hRf rfl, gle hRl rfl⟩) rfl rfl hl.1 rfl (lv_room (Nat.le_of_ble_eq_true rfl)) dX7_place_15 ⟨hRc, hRs⟩) hS hA (fun z iv4 H locs hp4 hS => ?_)
    obtain ⟨_, ez, et⟩ := hp4
    have et : iv4 = up2 iv 53 0 0 := et
    refine gx_as (y := nI 0) ez ?_
    refine lv_if_eq (tgt := 23) hx hb dX7_place_18 (by decide) (fun c_18 => ?_) (fun c_18 => ?_)
    · skip
      rw [show (0 : Int32) = nI 0 from rfl] at c_18
      rw [nI_eq (by omega) (by omega)] at c_18
      refine lv_aload_n hx hb dX7_place_23 rfl (lv_at hl 0 rfl) ?_
      refine lv_aload_n hx hb dX7_place_24 rfl (lv_at hl 0 rfl) ?_
      refine gx_get (ci := 10) (v := .int (iv4 53 11)) (C := RX7) (T := TX7) (N := 23) hx hb hts (fun _ h => inX7_place_RX7 h) hown hK hS 53 (by omega) rfl rfl 11 (by decide) (hts (.fieldLink RX7 90 "CosetTablesModel" "state" "I") (by decide +kernel)) rfl dX7_place_25 ?_
      refine gx_as (y := nI x) (by rw [et, up2_n (by decide)]; exact hx0) ?_
      refine gc_v (gx_runV (As := [.int (nI x)]) (rest := []) ⟨hx, hb, hml, hown, hts⟩ hK hN hS 53 (by omega) rfl rfl (ct_X7_take l D cA o ad ln n H.size iv4 (x := x) (P := P) (c9 := c9) (T := T) hn hln hRn9 (by rw [et, up2_n (by decide)]; exact hc9) hc4 (by rw [et, up2_n (by decide)]; exact hT0) hT1 hT3 (by rw [et, up2_n (by decide)]; exact hP0) hP hcP hx9) (cwV 1 hts gX7_place_X7_take rfl rfl rfl (by decide +kernel) ⟨gle hRf rfl, gle hRl rfl⟩) rfl rfl hl.1 rfl (lv_room (Nat.le_of_ble_eq_true rfl)) dX7_place_28 ⟨hRc, hRs⟩) hS hA (fun iv5 H locs hp5 hS => ?_)
      obtain ⟨⟨a1, a2⟩, a3⟩ := hp5
      have o53 : iv5 53 = iv4 53 := a3 53 (by decide) (by decide)
      have o57 : iv5 57 = iv4 57 := a3 57 (by decide) (by decide)
      refine lv_aload_n hx hb dX7_place_31 rfl (lv_at hl 0 rfl) ?_
      refine lv_iload_n hx hb dX7_place_32 rfl (lv_at hl 1 rfl) ?_
      refine gc_i (gx_runV (As := [.int (nI p9)]) (rest := []) ⟨hx, hb, hml, hown, hts⟩ hK hN hS 53 (by omega) rfl rfl (ct_X7_rankOf l D cA o ad ln n H.size iv5 (p9 := p9) (P := P) (c9 := c9) (pc9 := pc9) hn hln hRn9 (by rw [o53, et, up2_n (by decide)]; exact hc9) hc4 hP (by rw [o57, et, up2_row (by decide)]; exact hpc) hpi (by omega)) (cwV 1 hts gX7_place_X7_rankOf rfl rfl rfl (by decide +kernel) ⟨gle hRf rfl, gle hRl rfl⟩) rfl rfl hl.1 rfl (lv_room (Nat.le_of_ble_eq_true rfl)) dX7_place_33 ⟨hRc, hRs⟩) hS hA (fun y6 iv6 H locs hp6 hS => ?_)
      obtain ⟨hr6, ev6⟩ := hp6
      rw [ev6] at hS
      skip
      refine lv_if_ge (tgt := 43) hx hb dX7_place_36 (by decide) (fun c_36 => ?_) (fun c_36 => ?_)
      · skip
        obtain ⟨k, k1, k2, k3⟩ : ∃ k, k < c9 ∧ pc9 k = p9 ∧ y6 = nI k := by
          rcases hr6 with q | ⟨_, q⟩
          · exact q
          · rw [q] at c_36; exact absurd c_36 (by decide)
        refine lv_aload_n hx hb dX7_place_43 rfl (lv_at hl 0 rfl) ?_
        refine gx_get (ci := 10) (v := .ref (ad 58)) (C := RX7) (T := TX7) (N := 23) hx hb hts (fun _ h => inX7_place_RX7 h) hown hK hS 53 (by omega) rfl rfl 9 (by decide) (hts (.fieldLink RX7 23 "CosetTablesModel" "where" "[I") (by decide +kernel)) rfl dX7_place_44 ?_
        refine lv_aload_n hx hb dX7_place_47 rfl (lv_at hl 0 rfl) ?_
        refine lv_iload_n hx hb dX7_place_48 rfl (lv_at hl 1 rfl) ?_
        refine gc_i (gx_runV (As := [.int (nI p9)]) (rest := [.ref (ad 58)]) ⟨hx, hb, hml, hown, hts⟩ hK hN hS 53 (by omega) rfl rfl (ct_X7_rankOf l D cA o ad ln n H.size iv5 (p9 := p9) (P := P) (c9 := c9) (pc9 := pc9) hn hln hRn9 (by rw [o53, et, up2_n (by decide)]; exact hc9) hc4 hP (by rw [o57, et, up2_row (by decide)]; exact hpc) hpi (by omega)) (cwV 1 hts gX7_place_X7_rankOf rfl rfl rfl (by decide +kernel) ⟨gle hRf rfl, gle hRl rfl⟩) rfl rfl hl.1 rfl (lv_room (Nat.le_of_ble_eq_true rfl)) dX7_place_49 ⟨hRc, hRs⟩) hS hA (fun y7 iv7 H locs hp7 hS => ?_)
        obtain ⟨hr7, ev7⟩ := hp7
        rw [ev7] at hS
        have ey7 : y7 = nI k := by
          rcases hr7 with ⟨j, q1, q2, q3⟩ | ⟨q, _⟩
          · rw [q3, hpi.2 j k q1 k1 (q2.trans k2.symm)]
          · exact absurd k2 (q k k1)
        refine gx_as (y := nI k) ey7 ?_
        skip
        refine gx_ialdn hx hb hK hS 58 (by omega) (by decide) k (by omega) (hln _) dX7_place_52 ?_
        refine gx_as (y := nI (dw P c9 (x / T ^ c9) k)) (a1 k k1) ?_
        exact kret _ iv5 _ _ _ _ dX7_place_53 (⟨by first | exact Or.inl ⟨k, k1, k2, rfl⟩ | exact Or.inr ⟨hnn, rfl⟩, ⟨by rw [o53, et, up2_s], fun j hj => by rw [o53, et, up2_n (fun q => hj q.2)]⟩, fun q x1 x2 x3 => by rw [a3 q x2 x3, et, up2_row x1]⟩) hS
      · skip
        have hnn : (∀ k, k < c9 → pc9 k ≠ p9) := by
          rcases hr6 with ⟨k, k1, _, q⟩ | ⟨q, _⟩
          · rw [q] at c_36; exact absurd (nI_pos' (show k < 2 ^ 31 by omega)) c_36
          · exact q
        refine lv_iconst (v := (-1)) hx hb dX7_place_39 (by decide) ?_
        refine lv_goto (tgt := 53) hx hb dX7_place_40 (by decide) ?_
        exact kret _ iv5 _ _ _ _ dX7_place_53 (⟨by first | exact Or.inl ⟨k, k1, k2, rfl⟩ | exact Or.inr ⟨hnn, rfl⟩, ⟨by rw [o53, et, up2_s], fun j hj => by rw [o53, et, up2_n (fun q => hj q.2)]⟩, fun q x1 x2 x3 => by rw [a3 q x2 x3, et, up2_row x1]⟩) hS
    · skip
      rw [show (0 : Int32) = nI 0 from rfl] at c_18
      rw [nI_eq (by omega) (by omega)] at c_18
      omega
  · skip
    exact absurd (hi1.mpr hok) (by rw [c_7]; decide)
set_option maxRecDepth 100000 in
theorem ct_X7_place (l : Launch) (D : va_G) (cA : Nat → ClassId) (o : Nat → Int64) (ad ln : Nat → Nat) (n sz : Nat) (iv : Nat → Nat → Int32) (p9 x P c9 T : Nat) (pc9 : Nat → Nat) (hn : 68 ≤ n) (hln : ∀ k, ln k < 2 ^ 31) (hRn : rln ln) (hc9 : iv 53 7 = nI c9) (hc4 : c9 ≤ 4) (hT0 : iv 53 2 = nI T) (hT1 : 0 < T) (hT3 : T ≤ 3) (hP0 : iv 53 1 = nI P) (hP : P ≤ 8) (hpc : ∀ i, i < c9 → iv 57 i = nI (pc9 i)) (hpi : inj pc9 P c9) (hx0 : iv 53 11 = nI x) (hx9 : x < 2 ^ 20) (hp9 : p9 < P) : gMi l yX7_place wsX7_place { frames := 2, cells := 0, slots := 0, locals := 48 } D cA o ad ln n sz iv [.ref (ad 53), .int (nI p9)] (fun (r : Int32) iv' => ((∃ k, k < c9 ∧ pc9 k = p9 ∧ r = nI (dw P c9 (x / T ^ c9) k)) ∨ ((∀ k, k < c9 → pc9 k ≠ p9) ∧ r = -1)) ∧ (iv' 53 0 = 0 ∧ ∀ j, j ≠ 0 → iv' 53 j = iv 53 j) ∧ ∀ q, q ≠ 53 → q ≠ 58 → q ≠ 59 → iv' q = iv q) := by
  refine Met.ofW (cc := cX7_place) (maxL := 2) (ret := (some .int)) (by decide) rfl ?_
  intro p e s m args below meth c s₁ B hml hv__
  obtain ⟨rfl, hv__⟩ := hv__
  obtain ⟨hsz, hS, hK, hN, hA⟩ := gS.entry hv__
  have hl := lv_entry ([.ref (ad 53), .int (nI p9)]) (n := 2) (Nat.le_of_ble_eq_true rfl)
  rw [lg_entry_eq]
  generalize (lg_sl ([.ref (ad 53), .int (nI p9)]) ++ List.replicate (2 - (lg_sl ([.ref (ad 53), .int (nI p9)])).length) Slot.unset).toArray = ls at hl ⊢
  exact bd_X7_place (p9 := p9) (x := x) (P := P) (c9 := c9) (T := T) (pc9 := pc9) ⟨B.exec, B.bytes, hml, findClass_of_methodNamed B.named, atoms_spec (ws := wsX7_place) B.pre, B.returns, B.notSynchronized⟩ (Nat.le_refl _) (Nat.le_refl _) (Nat.le_refl _) (Nat.le_refl _) hK hN hA hn hln hRn hc9 hc4 hT0 hT1 hT3 hP0 hP hpc hpi hx0 hx9 hp9 hS hl (fun r iv' H locs ls pc hd hp hS => gx_iret B.exec B.bytes B.returns B.notSynchronized hS hp hd)

set_option maxHeartbeats 1000000 in
set_option maxRecDepth 100000 in
theorem bd_X7_placeB {p : Program} {l : Launch} {e : Env} {R : Room} {s : State} {m : MethodId} {args : Array Value} {below : List Frame} {meth : Method} {c : Code} {H : Heap} {locs : List Loc} {cells slots : Nat} {Q : State → Prop} {ls : Array Slot} {D : va_G} {A : Nat → Prop} {H0 : Heap} {cA : Nat → ClassId} {o : Nat → Int64} {ad ln : Nat → Nat} {iv : Nat → Nat → Int32} {n : Nat} {x : Int32}
    (F : gF p s m meth c cX7_place 2 RX7 wsX7_place args (some .int)) (hRf : 1 ≤ R.frames) (hRl : 22 ≤ R.locals) (hRc : cells ≤ R.cells) (hRs : slots ≤ R.slots) (hK : va_K D vwCl (gT cA) s) (hN : NW s) (hA : ∀ q, H0.size ≤ q → A q) (hn : 68 ≤ n) (hln : ∀ k, ln k < 2 ^ 31) (hbad : ¬ ok9 x (iv 53 1))
    (hS : gS D cA A H0 o ad ln iv n H locs) (hl : lv_has ls 2 [(0, .ref (ad 53)), (1, .int x)])
    (kret : ∀ (r : Int32) (iv' : Nat → Nat → Int32) (H : Heap) (locs : List Loc) (ls : Array Slot) (pc : Nat), decode cX7_place pc = .ok (.ireturn, 1) → (r = 0 ∧ iv' = up2 iv 53 0 1) → gS D cA A H0 o ad ln iv' n H locs → W p l e R s m args below meth c H locs cells slots Q (F0 m pc ls [.int r])) :
    W p l e R s m args below meth c H locs cells slots Q (F0 m 0 ls []) := by
  obtain ⟨hx, hb, hml, hown, hts, hr, hlocks⟩ := F
  refine lv_aload_n hx hb dX7_place_0 rfl (lv_at hl 0 rfl) ?_
  refine lv_iconst (v := nI 1) hx hb dX7_place_1 (by decide) ?_
  refine lv_aload_n hx hb dX7_place_2 rfl (lv_at hl 0 rfl) ?_
  refine lv_iload_n hx hb dX7_place_3 rfl (lv_at hl 1 rfl) ?_
  refine gc_i (gx_runV (As := [.int x]) (rest := [.int (nI 1), .ref (ad 53)]) ⟨hx, hb, hml, hown, hts⟩ hK hN hS 53 (by omega) rfl rfl (ct_X7_isPlace l D cA o ad ln n H.size iv (x := x) hn hln) (cwV 1 hts gX7_place_X7_isPlace rfl rfl rfl (by decide +kernel) ⟨gle hRf rfl, gle hRl rfl⟩) rfl rfl hl.1 rfl (lv_room (Nat.le_of_ble_eq_true rfl)) dX7_place_4 ⟨hRc, hRs⟩) hS hA (fun y1 iv1 H locs hp1 hS => ?_)
  obtain ⟨h011, hi1, ev1⟩ := hp1
  rw [ev1] at hS
  skip
  refine lv_if_ne (tgt := 14) hx hb dX7_place_7 (by decide) (fun c_7 => ?_) (fun c_7 => ?_)
  · skip
    exact absurd (hi1.mp (h011.resolve_left c_7)) hbad
  · skip
    refine lv_iconst (v := nI 1) hx hb dX7_place_10 (by decide) ?_
    refine lv_goto (tgt := 15) hx hb dX7_place_11 (by decide) ?_
    refine gc_i (gx_runV (As := [.int (nI 1), .int (nI 1)]) (rest := []) ⟨hx, hb, hml, hown, hts⟩ hK hN hS 53 (by omega) rfl rfl (ct_X7_throwsIf l D cA o ad ln n H.size iv (x := nI 1) (v := nI 1) hn hln (Or.inr rfl)) (cwV 2 hts gX7_place_X7_throwsIf rfl rfl rfl (by decide +kernel) ⟨gle hRf rfl, gle hRl rfl⟩) rfl rfl hl.1 rfl (lv_room (Nat.le_of_ble_eq_true rfl)) dX7_place_15 ⟨hRc, hRs⟩) hS hA (fun z iv4 H locs hp4 hS => ?_)
    obtain ⟨_, ez, et⟩ := hp4
    have et : iv4 = up2 iv 53 0 1 := et
    refine gx_as (y := nI 1) ez ?_
    refine lv_if_eq (tgt := 23) hx hb dX7_place_18 (by decide) (fun c_18 => ?_) (fun c_18 => ?_)
    · skip
      rw [show (0 : Int32) = nI 0 from rfl] at c_18
      rw [nI_eq (by omega) (by omega)] at c_18
      omega
    · skip
      rw [show (0 : Int32) = nI 0 from rfl] at c_18
      rw [nI_eq (by omega) (by omega)] at c_18
      refine lv_iconst (v := nI 0) hx hb dX7_place_21 (by decide) ?_
      exact kret _ iv4 _ _ _ _ dX7_place_22 (⟨rfl, et⟩) hS
set_option maxRecDepth 100000 in
theorem ct_X7_placeB (l : Launch) (D : va_G) (cA : Nat → ClassId) (o : Nat → Int64) (ad ln : Nat → Nat) (n sz : Nat) (iv : Nat → Nat → Int32) (x : Int32) (hn : 68 ≤ n) (hln : ∀ k, ln k < 2 ^ 31) (hbad : ¬ ok9 x (iv 53 1)) : gMi l yX7_place wsX7_place { frames := 1, cells := 0, slots := 0, locals := 22 } D cA o ad ln n sz iv [.ref (ad 53), .int x] (fun (r : Int32) iv' => r = 0 ∧ iv' = up2 iv 53 0 1) := by
  refine Met.ofW (cc := cX7_place) (maxL := 2) (ret := (some .int)) (by decide) rfl ?_
  intro p e s m args below meth c s₁ B hml hv__
  obtain ⟨rfl, hv__⟩ := hv__
  obtain ⟨hsz, hS, hK, hN, hA⟩ := gS.entry hv__
  have hl := lv_entry ([.ref (ad 53), .int x]) (n := 2) (Nat.le_of_ble_eq_true rfl)
  rw [lg_entry_eq]
  generalize (lg_sl ([.ref (ad 53), .int x]) ++ List.replicate (2 - (lg_sl ([.ref (ad 53), .int x])).length) Slot.unset).toArray = ls at hl ⊢
  exact bd_X7_placeB (x := x) ⟨B.exec, B.bytes, hml, findClass_of_methodNamed B.named, atoms_spec (ws := wsX7_place) B.pre, B.returns, B.notSynchronized⟩ (Nat.le_refl _) (Nat.le_refl _) (Nat.le_refl _) (Nat.le_refl _) hK hN hA hn hln hbad hS hl (fun r iv' H locs ls pc hd hp hS => gx_iret B.exec B.bytes B.returns B.notSynchronized hS hp hd)

theorem inX7_twist_RX7 : ∀ {w : Cond}, w ∈ u_ws RX7 TX7 23 → w ∈ wsX7_twist := fun {w} h => by first | exact List.mem_cons_of_mem _ (List.mem_append_right _ h) | (revert h; revert w; show ∀ w ∈ u_ws RX7 TX7 23, w ∈ wsX7_twist; decide +kernel)
set_option maxHeartbeats 1000000 in
set_option maxRecDepth 100000 in
theorem bd_X7_twist {p : Program} {l : Launch} {e : Env} {R : Room} {s : State} {m : MethodId} {args : Array Value} {below : List Frame} {meth : Method} {c : Code} {H : Heap} {locs : List Loc} {cells slots : Nat} {Q : State → Prop} {ls : Array Slot} {D : va_G} {A : Nat → Prop} {H0 : Heap} {cA : Nat → ClassId} {o : Nat → Int64} {ad ln : Nat → Nat} {iv : Nat → Nat → Int32} {n : Nat} {p9 x P c9 T : Nat} {pc9 : Nat → Nat}
    (F : gF p s m meth c cX7_twist 2 RX7 wsX7_twist args (some .int)) (hRf : 2 ≤ R.frames) (hRl : 48 ≤ R.locals) (hRc : cells ≤ R.cells) (hRs : slots ≤ R.slots) (hK : va_K D vwCl (gT cA) s) (hN : NW s) (hA : ∀ q, H0.size ≤ q → A q) (hn : 68 ≤ n) (hln : ∀ k, ln k < 2 ^ 31) (hRn : rln ln) (hc9 : iv 53 7 = nI c9) (hc4 : c9 ≤ 4) (hT0 : iv 53 2 = nI T) (hT1 : 0 < T) (hT3 : T ≤ 3) (hP0 : iv 53 1 = nI P) (hP : P ≤ 8) (hpc : ∀ i, i < c9 → iv 57 i = nI (pc9 i)) (hpi : inj pc9 P c9) (hx0 : iv 53 11 = nI x) (hx9 : x < 2 ^ 20) (hp9 : p9 < P)
    (hS : gS D cA A H0 o ad ln iv n H locs) (hl : lv_has ls 2 [(0, .ref (ad 53)), (1, .int (nI p9))])
    (kret : ∀ (r : Int32) (iv' : Nat → Nat → Int32) (H : Heap) (locs : List Loc) (ls : Array Slot) (pc : Nat), decode cX7_twist pc = .ok (.ireturn, 1) → (((∃ k, k < c9 ∧ pc9 k = p9 ∧ r = nI (dt T c9 x k)) ∨ ((∀ k, k < c9 → pc9 k ≠ p9) ∧ r = -1)) ∧ (iv' 53 0 = 0 ∧ ∀ j, j ≠ 0 → iv' 53 j = iv 53 j) ∧ ∀ q, q ≠ 53 → q ≠ 58 → q ≠ 59 → iv' q = iv q) → gS D cA A H0 o ad ln iv' n H locs → W p l e R s m args below meth c H locs cells slots Q (F0 m pc ls [.int r])) :
    W p l e R s m args below meth c H locs cells slots Q (F0 m 0 ls []) := by
  obtain ⟨hx, hb, hml, hown, hts, hr, hlocks⟩ := F
  have hRn9 := hRn
  obtain ⟨r54, r55, r56, r57, r58, r59, r60, r61, r62, r63, r64, r65, r66⟩ := hRn
  have hcP := inj_le_P hpi
  have hok : ok9 (nI p9) (iv 53 1) := by rw [hP0]; exact ok9_nI hp9 (by omega)
  refine lv_aload_n hx hb dX7_twist_0 rfl (lv_at hl 0 rfl) ?_
  refine lv_iconst (v := nI 1) hx hb dX7_twist_1 (by decide) ?_
  refine lv_aload_n hx hb dX7_twist_2 rfl (lv_at hl 0 rfl) ?_
  refine lv_iload_n hx hb dX7_twist_3 rfl (lv_at hl 1 rfl) ?_
  refine gc_i (gx_runV (As := [.int (nI p9)]) (rest := [.int (nI 1), .ref (ad 53)]) ⟨hx, hb, hml, hown, hts⟩ hK hN hS 53 (by omega) rfl rfl (ct_X7_isPlace l D cA o ad ln n H.size iv (x := nI p9) hn hln) (cwV 1 hts gX7_twist_X7_isPlace rfl rfl rfl (by decide +kernel) ⟨gle hRf rfl, gle hRl rfl⟩) rfl rfl hl.1 rfl (lv_room (Nat.le_of_ble_eq_true rfl)) dX7_twist_4 ⟨hRc, hRs⟩) hS hA (fun y1 iv1 H locs hp1 hS => ?_)
  obtain ⟨h011, hi1, ev1⟩ := hp1
  rw [ev1] at hS
  skip
  refine lv_if_ne (tgt := 14) hx hb dX7_twist_7 (by decide) (fun c_7 => ?_) (fun c_7 => ?_)
  · skip
    refine lv_iconst (v := nI 0) hx hb dX7_twist_14 (by decide) ?_
    refine gc_i (gx_runV (As := [.int (nI 1), .int (nI 0)]) (rest := []) ⟨hx, hb, hml, hown, hts⟩ hK hN hS 53 (by omega) rfl rfl (ct_X7_throwsIf l D cA o ad ln n H.size iv (x := nI 1) (v := nI 0) hn hln (Or.inl rfl)) (cwV 2 hts gX7_twist_X7_throwsIf rfl rfl rfl (by decide +kernel) ⟨gle hRf rfl, gle hRl rfl⟩) rfl rfl hl.1 rfl (lv_room (Nat.le_of_ble_eq_true rfl)) dX7_twist_15 ⟨hRc, hRs⟩) hS hA (fun z iv4 H locs hp4 hS => ?_)
    obtain ⟨_, ez, et⟩ := hp4
    have et : iv4 = up2 iv 53 0 0 := et
    refine gx_as (y := nI 0) ez ?_
    refine lv_if_eq (tgt := 23) hx hb dX7_twist_18 (by decide) (fun c_18 => ?_) (fun c_18 => ?_)
    · skip
      rw [show (0 : Int32) = nI 0 from rfl] at c_18
      rw [nI_eq (by omega) (by omega)] at c_18
      refine lv_aload_n hx hb dX7_twist_23 rfl (lv_at hl 0 rfl) ?_
      refine lv_aload_n hx hb dX7_twist_24 rfl (lv_at hl 0 rfl) ?_
      refine gx_get (ci := 10) (v := .int (iv4 53 11)) (C := RX7) (T := TX7) (N := 23) hx hb hts (fun _ h => inX7_twist_RX7 h) hown hK hS 53 (by omega) rfl rfl 11 (by decide) (hts (.fieldLink RX7 90 "CosetTablesModel" "state" "I") (by decide +kernel)) rfl dX7_twist_25 ?_
      refine gx_as (y := nI x) (by rw [et, up2_n (by decide)]; exact hx0) ?_
      refine gc_v (gx_runV (As := [.int (nI x)]) (rest := []) ⟨hx, hb, hml, hown, hts⟩ hK hN hS 53 (by omega) rfl rfl (ct_X7_take l D cA o ad ln n H.size iv4 (x := x) (P := P) (c9 := c9) (T := T) hn hln hRn9 (by rw [et, up2_n (by decide)]; exact hc9) hc4 (by rw [et, up2_n (by decide)]; exact hT0) hT1 hT3 (by rw [et, up2_n (by decide)]; exact hP0) hP hcP hx9) (cwV 1 hts gX7_twist_X7_take rfl rfl rfl (by decide +kernel) ⟨gle hRf rfl, gle hRl rfl⟩) rfl rfl hl.1 rfl (lv_room (Nat.le_of_ble_eq_true rfl)) dX7_twist_28 ⟨hRc, hRs⟩) hS hA (fun iv5 H locs hp5 hS => ?_)
      obtain ⟨⟨a1, a2⟩, a3⟩ := hp5
      have o53 : iv5 53 = iv4 53 := a3 53 (by decide) (by decide)
      have o57 : iv5 57 = iv4 57 := a3 57 (by decide) (by decide)
      refine lv_aload_n hx hb dX7_twist_31 rfl (lv_at hl 0 rfl) ?_
      refine lv_iload_n hx hb dX7_twist_32 rfl (lv_at hl 1 rfl) ?_
      refine gc_i (gx_runV (As := [.int (nI p9)]) (rest := []) ⟨hx, hb, hml, hown, hts⟩ hK hN hS 53 (by omega) rfl rfl (ct_X7_rankOf l D cA o ad ln n H.size iv5 (p9 := p9) (P := P) (c9 := c9) (pc9 := pc9) hn hln hRn9 (by rw [o53, et, up2_n (by decide)]; exact hc9) hc4 hP (by rw [o57, et, up2_row (by decide)]; exact hpc) hpi (by omega)) (cwV 1 hts gX7_twist_X7_rankOf rfl rfl rfl (by decide +kernel) ⟨gle hRf rfl, gle hRl rfl⟩) rfl rfl hl.1 rfl (lv_room (Nat.le_of_ble_eq_true rfl)) dX7_twist_33 ⟨hRc, hRs⟩) hS hA (fun y6 iv6 H locs hp6 hS => ?_)
      obtain ⟨hr6, ev6⟩ := hp6
      rw [ev6] at hS
      skip
      refine lv_if_ge (tgt := 43) hx hb dX7_twist_36 (by decide) (fun c_36 => ?_) (fun c_36 => ?_)
      · skip
        obtain ⟨k, k1, k2, k3⟩ : ∃ k, k < c9 ∧ pc9 k = p9 ∧ y6 = nI k := by
          rcases hr6 with q | ⟨_, q⟩
          · exact q
          · rw [q] at c_36; exact absurd c_36 (by decide)
        refine lv_aload_n hx hb dX7_twist_43 rfl (lv_at hl 0 rfl) ?_
        refine gx_get (ci := 10) (v := .ref (ad 59)) (C := RX7) (T := TX7) (N := 23) hx hb hts (fun _ h => inX7_twist_RX7 h) hown hK hS 53 (by omega) rfl rfl 10 (by decide) (hts (.fieldLink RX7 26 "CosetTablesModel" "twist" "[I") (by decide +kernel)) rfl dX7_twist_44 ?_
        refine lv_aload_n hx hb dX7_twist_47 rfl (lv_at hl 0 rfl) ?_
        refine lv_iload_n hx hb dX7_twist_48 rfl (lv_at hl 1 rfl) ?_
        refine gc_i (gx_runV (As := [.int (nI p9)]) (rest := [.ref (ad 59)]) ⟨hx, hb, hml, hown, hts⟩ hK hN hS 53 (by omega) rfl rfl (ct_X7_rankOf l D cA o ad ln n H.size iv5 (p9 := p9) (P := P) (c9 := c9) (pc9 := pc9) hn hln hRn9 (by rw [o53, et, up2_n (by decide)]; exact hc9) hc4 hP (by rw [o57, et, up2_row (by decide)]; exact hpc) hpi (by omega)) (cwV 1 hts gX7_twist_X7_rankOf rfl rfl rfl (by decide +kernel) ⟨gle hRf rfl, gle hRl rfl⟩) rfl rfl hl.1 rfl (lv_room (Nat.le_of_ble_eq_true rfl)) dX7_twist_49 ⟨hRc, hRs⟩) hS hA (fun y7 iv7 H locs hp7 hS => ?_)
        obtain ⟨hr7, ev7⟩ := hp7
        rw [ev7] at hS
        have ey7 : y7 = nI k := by
          rcases hr7 with ⟨j, q1, q2, q3⟩ | ⟨q, _⟩
          · rw [q3, hpi.2 j k q1 k1 (q2.trans k2.symm)]
          · exact absurd k2 (q k k1)
        refine gx_as (y := nI k) ey7 ?_
        skip
        refine gx_ialdn hx hb hK hS 59 (by omega) (by decide) k (by omega) (hln _) dX7_twist_52 ?_
        refine gx_as (y := nI (dt T c9 x k)) (a2 k k1) ?_
        exact kret _ iv5 _ _ _ _ dX7_twist_53 (⟨by first | exact Or.inl ⟨k, k1, k2, rfl⟩ | exact Or.inr ⟨hnn, rfl⟩, ⟨by rw [o53, et, up2_s], fun j hj => by rw [o53, et, up2_n (fun q => hj q.2)]⟩, fun q x1 x2 x3 => by rw [a3 q x2 x3, et, up2_row x1]⟩) hS
      · skip
        have hnn : (∀ k, k < c9 → pc9 k ≠ p9) := by
          rcases hr6 with ⟨k, k1, _, q⟩ | ⟨q, _⟩
          · rw [q] at c_36; exact absurd (nI_pos' (show k < 2 ^ 31 by omega)) c_36
          · exact q
        refine lv_iconst (v := (-1)) hx hb dX7_twist_39 (by decide) ?_
        refine lv_goto (tgt := 53) hx hb dX7_twist_40 (by decide) ?_
        exact kret _ iv5 _ _ _ _ dX7_twist_53 (⟨by first | exact Or.inl ⟨k, k1, k2, rfl⟩ | exact Or.inr ⟨hnn, rfl⟩, ⟨by rw [o53, et, up2_s], fun j hj => by rw [o53, et, up2_n (fun q => hj q.2)]⟩, fun q x1 x2 x3 => by rw [a3 q x2 x3, et, up2_row x1]⟩) hS
    · skip
      rw [show (0 : Int32) = nI 0 from rfl] at c_18
      rw [nI_eq (by omega) (by omega)] at c_18
      omega
  · skip
    exact absurd (hi1.mpr hok) (by rw [c_7]; decide)
set_option maxRecDepth 100000 in
theorem ct_X7_twist (l : Launch) (D : va_G) (cA : Nat → ClassId) (o : Nat → Int64) (ad ln : Nat → Nat) (n sz : Nat) (iv : Nat → Nat → Int32) (p9 x P c9 T : Nat) (pc9 : Nat → Nat) (hn : 68 ≤ n) (hln : ∀ k, ln k < 2 ^ 31) (hRn : rln ln) (hc9 : iv 53 7 = nI c9) (hc4 : c9 ≤ 4) (hT0 : iv 53 2 = nI T) (hT1 : 0 < T) (hT3 : T ≤ 3) (hP0 : iv 53 1 = nI P) (hP : P ≤ 8) (hpc : ∀ i, i < c9 → iv 57 i = nI (pc9 i)) (hpi : inj pc9 P c9) (hx0 : iv 53 11 = nI x) (hx9 : x < 2 ^ 20) (hp9 : p9 < P) : gMi l yX7_twist wsX7_twist { frames := 2, cells := 0, slots := 0, locals := 48 } D cA o ad ln n sz iv [.ref (ad 53), .int (nI p9)] (fun (r : Int32) iv' => ((∃ k, k < c9 ∧ pc9 k = p9 ∧ r = nI (dt T c9 x k)) ∨ ((∀ k, k < c9 → pc9 k ≠ p9) ∧ r = -1)) ∧ (iv' 53 0 = 0 ∧ ∀ j, j ≠ 0 → iv' 53 j = iv 53 j) ∧ ∀ q, q ≠ 53 → q ≠ 58 → q ≠ 59 → iv' q = iv q) := by
  refine Met.ofW (cc := cX7_twist) (maxL := 2) (ret := (some .int)) (by decide) rfl ?_
  intro p e s m args below meth c s₁ B hml hv__
  obtain ⟨rfl, hv__⟩ := hv__
  obtain ⟨hsz, hS, hK, hN, hA⟩ := gS.entry hv__
  have hl := lv_entry ([.ref (ad 53), .int (nI p9)]) (n := 2) (Nat.le_of_ble_eq_true rfl)
  rw [lg_entry_eq]
  generalize (lg_sl ([.ref (ad 53), .int (nI p9)]) ++ List.replicate (2 - (lg_sl ([.ref (ad 53), .int (nI p9)])).length) Slot.unset).toArray = ls at hl ⊢
  exact bd_X7_twist (p9 := p9) (x := x) (P := P) (c9 := c9) (T := T) (pc9 := pc9) ⟨B.exec, B.bytes, hml, findClass_of_methodNamed B.named, atoms_spec (ws := wsX7_twist) B.pre, B.returns, B.notSynchronized⟩ (Nat.le_refl _) (Nat.le_refl _) (Nat.le_refl _) (Nat.le_refl _) hK hN hA hn hln hRn hc9 hc4 hT0 hT1 hT3 hP0 hP hpc hpi hx0 hx9 hp9 hS hl (fun r iv' H locs ls pc hd hp hS => gx_iret B.exec B.bytes B.returns B.notSynchronized hS hp hd)

set_option maxHeartbeats 1000000 in
set_option maxRecDepth 100000 in
theorem bd_X7_twistB {p : Program} {l : Launch} {e : Env} {R : Room} {s : State} {m : MethodId} {args : Array Value} {below : List Frame} {meth : Method} {c : Code} {H : Heap} {locs : List Loc} {cells slots : Nat} {Q : State → Prop} {ls : Array Slot} {D : va_G} {A : Nat → Prop} {H0 : Heap} {cA : Nat → ClassId} {o : Nat → Int64} {ad ln : Nat → Nat} {iv : Nat → Nat → Int32} {n : Nat} {x : Int32}
    (F : gF p s m meth c cX7_twist 2 RX7 wsX7_twist args (some .int)) (hRf : 1 ≤ R.frames) (hRl : 22 ≤ R.locals) (hRc : cells ≤ R.cells) (hRs : slots ≤ R.slots) (hK : va_K D vwCl (gT cA) s) (hN : NW s) (hA : ∀ q, H0.size ≤ q → A q) (hn : 68 ≤ n) (hln : ∀ k, ln k < 2 ^ 31) (hbad : ¬ ok9 x (iv 53 1))
    (hS : gS D cA A H0 o ad ln iv n H locs) (hl : lv_has ls 2 [(0, .ref (ad 53)), (1, .int x)])
    (kret : ∀ (r : Int32) (iv' : Nat → Nat → Int32) (H : Heap) (locs : List Loc) (ls : Array Slot) (pc : Nat), decode cX7_twist pc = .ok (.ireturn, 1) → (r = 0 ∧ iv' = up2 iv 53 0 1) → gS D cA A H0 o ad ln iv' n H locs → W p l e R s m args below meth c H locs cells slots Q (F0 m pc ls [.int r])) :
    W p l e R s m args below meth c H locs cells slots Q (F0 m 0 ls []) := by
  obtain ⟨hx, hb, hml, hown, hts, hr, hlocks⟩ := F
  refine lv_aload_n hx hb dX7_twist_0 rfl (lv_at hl 0 rfl) ?_
  refine lv_iconst (v := nI 1) hx hb dX7_twist_1 (by decide) ?_
  refine lv_aload_n hx hb dX7_twist_2 rfl (lv_at hl 0 rfl) ?_
  refine lv_iload_n hx hb dX7_twist_3 rfl (lv_at hl 1 rfl) ?_
  refine gc_i (gx_runV (As := [.int x]) (rest := [.int (nI 1), .ref (ad 53)]) ⟨hx, hb, hml, hown, hts⟩ hK hN hS 53 (by omega) rfl rfl (ct_X7_isPlace l D cA o ad ln n H.size iv (x := x) hn hln) (cwV 1 hts gX7_twist_X7_isPlace rfl rfl rfl (by decide +kernel) ⟨gle hRf rfl, gle hRl rfl⟩) rfl rfl hl.1 rfl (lv_room (Nat.le_of_ble_eq_true rfl)) dX7_twist_4 ⟨hRc, hRs⟩) hS hA (fun y1 iv1 H locs hp1 hS => ?_)
  obtain ⟨h011, hi1, ev1⟩ := hp1
  rw [ev1] at hS
  skip
  refine lv_if_ne (tgt := 14) hx hb dX7_twist_7 (by decide) (fun c_7 => ?_) (fun c_7 => ?_)
  · skip
    exact absurd (hi1.mp (h011.resolve_left c_7)) hbad
  · skip
    refine lv_iconst (v := nI 1) hx hb dX7_twist_10 (by decide) ?_
    refine lv_goto (tgt := 15) hx hb dX7_twist_11 (by decide) ?_
    refine gc_i (gx_runV (As := [.int (nI 1), .int (nI 1)]) (rest := []) ⟨hx, hb, hml, hown, hts⟩ hK hN hS 53 (by omega) rfl rfl (ct_X7_throwsIf l D cA o ad ln n H.size iv (x := nI 1) (v := nI 1) hn hln (Or.inr rfl)) (cwV 2 hts gX7_twist_X7_throwsIf rfl rfl rfl (by decide +kernel) ⟨gle hRf rfl, gle hRl rfl⟩) rfl rfl hl.1 rfl (lv_room (Nat.le_of_ble_eq_true rfl)) dX7_twist_15 ⟨hRc, hRs⟩) hS hA (fun z iv4 H locs hp4 hS => ?_)
    obtain ⟨_, ez, et⟩ := hp4
    have et : iv4 = up2 iv 53 0 1 := et
    refine gx_as (y := nI 1) ez ?_
    refine lv_if_eq (tgt := 23) hx hb dX7_twist_18 (by decide) (fun c_18 => ?_) (fun c_18 => ?_)
    · skip
      rw [show (0 : Int32) = nI 0 from rfl] at c_18
      rw [nI_eq (by omega) (by omega)] at c_18
      omega
    · skip
      rw [show (0 : Int32) = nI 0 from rfl] at c_18
      rw [nI_eq (by omega) (by omega)] at c_18
      refine lv_iconst (v := nI 0) hx hb dX7_twist_21 (by decide) ?_
      exact kret _ iv4 _ _ _ _ dX7_twist_22 (⟨rfl, et⟩) hS
set_option maxRecDepth 100000 in
theorem ct_X7_twistB (l : Launch) (D : va_G) (cA : Nat → ClassId) (o : Nat → Int64) (ad ln : Nat → Nat) (n sz : Nat) (iv : Nat → Nat → Int32) (x : Int32) (hn : 68 ≤ n) (hln : ∀ k, ln k < 2 ^ 31) (hbad : ¬ ok9 x (iv 53 1)) : gMi l yX7_twist wsX7_twist { frames := 1, cells := 0, slots := 0, locals := 22 } D cA o ad ln n sz iv [.ref (ad 53), .int x] (fun (r : Int32) iv' => r = 0 ∧ iv' = up2 iv 53 0 1) := by
  refine Met.ofW (cc := cX7_twist) (maxL := 2) (ret := (some .int)) (by decide) rfl ?_
  intro p e s m args below meth c s₁ B hml hv__
  obtain ⟨rfl, hv__⟩ := hv__
  obtain ⟨hsz, hS, hK, hN, hA⟩ := gS.entry hv__
  have hl := lv_entry ([.ref (ad 53), .int x]) (n := 2) (Nat.le_of_ble_eq_true rfl)
  rw [lg_entry_eq]
  generalize (lg_sl ([.ref (ad 53), .int x]) ++ List.replicate (2 - (lg_sl ([.ref (ad 53), .int x])).length) Slot.unset).toArray = ls at hl ⊢
  exact bd_X7_twistB (x := x) ⟨B.exec, B.bytes, hml, findClass_of_methodNamed B.named, atoms_spec (ws := wsX7_twist) B.pre, B.returns, B.notSynchronized⟩ (Nat.le_refl _) (Nat.le_refl _) (Nat.le_refl _) (Nat.le_refl _) hK hN hA hn hln hbad hS hl (fun r iv' H locs ls pc hd hp hS => gx_iret B.exec B.bytes B.returns B.notSynchronized hS hp hd)

theorem inX7_act_RX7 : ∀ {w : Cond}, w ∈ u_ws RX7 TX7 23 → w ∈ wsX7_act := fun {w} h => by first | exact List.mem_cons_of_mem _ (List.mem_append_right _ h) | (revert h; revert w; show ∀ w ∈ u_ws RX7 TX7 23, w ∈ wsX7_act; decide +kernel)
set_option maxHeartbeats 1000000 in
set_option maxRecDepth 100000 in
theorem bd_X7_act {p : Program} {l : Launch} {e : Env} {R : Room} {s : State} {m : MethodId} {args : Array Value} {below : List Frame} {meth : Method} {c : Code} {H : Heap} {locs : List Loc} {cells slots : Nat} {Q : State → Prop} {ls : Array Slot} {D : va_G} {A : Nat → Prop} {H0 : Heap} {cA : Nat → ClassId} {o : Nat → Int64} {ad ln : Nat → Nat} {iv : Nat → Nat → Int32} {n : Nat} {m8 P c9 T : Nat} {w t G9 Ad : Nat → Nat}
    (F : gF p s m meth c cX7_act 4 RX7 wsX7_act args none) (hRf : 0 ≤ R.frames) (hRl : 0 ≤ R.locals) (hRc : cells ≤ R.cells) (hRs : slots ≤ R.slots) (hK : va_K D vwCl (gT cA) s) (hN : NW s) (hA : ∀ q, H0.size ≤ q → A q) (hn : 68 ≤ n) (hln : ∀ k, ln k < 2 ^ 31) (hRn : rln ln) (hc9 : iv 53 7 = nI c9) (hc4 : c9 ≤ 4) (hT0 : iv 53 2 = nI T) (hT1 : 0 < T) (hT3 : T ≤ 3) (hP0 : iv 53 1 = nI P) (hP : P ≤ 8) (hmv : rmove iv m8 P T G9 Ad) (hm6 : m8 < 6) (hw : ∀ i, i < c9 → iv 58 i = nI (w i)) (ht : ∀ i, i < c9 → iv 59 i = nI (t i)) (hwi : inj w P c9) (htT : ∀ i, i < c9 → t i < T) 
    (hS : gS D cA A H0 o ad ln iv n H locs) (hl : lv_has ls 4 [(0, .ref (ad 53)), (1, .int (nI m8))])
    (kret : ∀ (iv' : Nat → Nat → Int32) (H : Heap) (locs : List Loc) (ls : Array Slot) (pc : Nat), decode cX7_act pc = .ok (.return_, 1) → (rAt iv' c9 (fun j => G9 (w j)) (fun j => (t j + Ad (w j)) % T) ∧ ∀ q, q ≠ 58 → q ≠ 59 → iv' q = iv q) → gS D cA A H0 o ad ln iv' n H locs → W p l e R s m args below meth c H locs cells slots Q (F0 m pc ls [])) :
    W p l e R s m args below meth c H locs cells slots Q (F0 m 0 ls []) := by
  obtain ⟨hx, hb, hml, hown, hts, hr, hlocks⟩ := F
  have hRn9 := hRn
  obtain ⟨r54, r55, r56, r57, r58, r59, r60, r61, r62, r63, r64, r65, r66⟩ := hRn
  refine lv_iconst (v := nI 0) hx hb dX7_act_0 (by decide) ?_
  refine lv_istore_n (lv' := [(2, .int (nI 0)), (0, .ref (ad 53)), (1, .int (nI m8))]) hx hb dX7_act_1 rfl hl (by decide) rfl (fun ls hl => ?_)
  have L2 : ∀ (N : Nat) (i : Nat) (iv1 : Nat → Nat → Int32), c9 - i < N → (i ≤ c9) → (∀ j, j < i → iv1 58 j = nI (G9 (w j)) ∧ iv1 59 j = nI ((t j + Ad (w j)) % T)) → (∀ j, i ≤ j → j < c9 → iv1 58 j = nI (w j) ∧ iv1 59 j = nI (t j)) → (∀ q, q ≠ 58 → q ≠ 59 → iv1 q = iv q) → ∀ (H : Heap) (locs : List Loc) (ls : Array Slot), gS D cA A H0 o ad ln iv1 n H locs → lv_has ls 4 [(0, .ref (ad 53)), (1, .int (nI m8)), (2, .int (nI i))] → W p l e R s m args below meth c H locs cells slots Q (F0 m 2 ls []) := by
    intro N
    induction N with
    | zero => intro i iv1 hm; exact absurd hm (Nat.not_lt_zero _)
    | succ N ih2 =>
      intro i iv1 hm hi h1 h2 h3 H locs ls hS hl
      refine lv_iload_n hx hb dX7_act_2 rfl (lv_at hl 2 rfl) ?_
      refine lv_aload_n hx hb dX7_act_3 rfl (lv_at hl 0 rfl) ?_
      refine gx_get (ci := 10) (v := .int (iv1 53 7)) (C := RX7) (T := TX7) (N := 23) hx hb hts (fun _ h => inX7_act_RX7 h) hown hK hS 53 (by omega) rfl rfl 7 (by decide) (hts (.fieldLink RX7 83 "CosetTablesModel" "chosen" "I") (by decide +kernel)) rfl dX7_act_4 ?_
      refine gx_as (y := nI c9) (by rw [h3 53 (by decide) (by decide)]; exact hc9) ?_
      refine lv_icmp_ge (tgt := 69) hx hb dX7_act_7 (by decide) (fun c_7 => ?_) (fun c_7 => ?_)
      · skip
        rw [nI_leI (by omega) (by omega)] at c_7
        have ei : i = c9 := by omega
        subst ei
        exact kret iv1 _ _ _ _ dX7_act_69 (⟨⟨fun j hj => (h1 j hj).1, fun j hj => (h1 j hj).2⟩, h3⟩) hS
      · skip
        rw [nI_leI (by omega) (by omega)] at c_7
        have hwk := hwi.1 i (by omega)
        have htk := htT i (by omega)
        obtain ⟨m1, m2, m3, m4⟩ := hmv (w i) hwk
        have o53 : iv1 53 = iv 53 := h3 53 (by decide) (by decide)
        refine lv_aload_n hx hb dX7_act_10 rfl (lv_at hl 0 rfl) ?_
        refine gx_get (ci := 10) (v := .ref (ad 58)) (C := RX7) (T := TX7) (N := 23) hx hb hts (fun _ h => inX7_act_RX7 h) hown hK hS 53 (by omega) rfl rfl 9 (by decide) (hts (.fieldLink RX7 23 "CosetTablesModel" "where" "[I") (by decide +kernel)) rfl dX7_act_11 ?_
        refine lv_iload_n hx hb dX7_act_14 rfl (lv_at hl 2 rfl) ?_
        refine gx_ialdn hx hb hK hS 58 (by omega) (by decide) i (by omega) (hln _) dX7_act_15 ?_
        refine gx_as (y := nI (w i)) (h2 i (by omega) (by omega)).1 ?_
        refine lv_istore_n (lv' := [(3, .int (nI (w i))), (0, .ref (ad 53)), (1, .int (nI m8)), (2, .int (nI i))]) hx hb dX7_act_16 rfl hl (by decide) rfl (fun ls hl => ?_)
        refine lv_aload_n hx hb dX7_act_17 rfl (lv_at hl 1 rfl) ?_
        refine gx_get (ci := 10) (v := .ref (ad 59)) (C := RX7) (T := TX7) (N := 23) hx hb hts (fun _ h => inX7_act_RX7 h) hown hK hS 53 (by omega) rfl rfl 10 (by decide) (hts (.fieldLink RX7 26 "CosetTablesModel" "twist" "[I") (by decide +kernel)) rfl dX7_act_18 ?_
        refine lv_iload_n hx hb dX7_act_21 rfl (lv_at hl 3 rfl) ?_
        refine lv_aload_n hx hb dX7_act_22 rfl (lv_at hl 1 rfl) ?_
        refine gx_get (ci := 10) (v := .ref (ad 59)) (C := RX7) (T := TX7) (N := 23) hx hb hts (fun _ h => inX7_act_RX7 h) hown hK hS 53 (by omega) rfl rfl 10 (by decide) (hts (.fieldLink RX7 26 "CosetTablesModel" "twist" "[I") (by decide +kernel)) rfl dX7_act_23 ?_
        refine lv_iload_n hx hb dX7_act_26 rfl (lv_at hl 3 rfl) ?_
        refine gx_ialdn hx hb hK hS 59 (by omega) (by decide) i (by omega) (hln _) dX7_act_27 ?_
        refine gx_as (y := nI (t i)) (h2 i (by omega) (by omega)).2 ?_
        refine lv_aload_n hx hb dX7_act_28 rfl (lv_at hl 1 rfl) ?_
        refine gx_get (ci := 10) (v := .ref (ad 55)) (C := RX7) (T := TX7) (N := 23) hx hb hts (fun _ h => inX7_act_RX7 h) hown hK hS 53 (by omega) rfl rfl 5 (by decide) (hts (.fieldLink RX7 13 "CosetTablesModel" "add" "[I") (by decide +kernel)) rfl dX7_act_29 ?_
        refine lv_bipush (v := nI 8) hx hb dX7_act_32 (by decide) ?_
        refine lv_iload_n hx hb dX7_act_34 rfl (lv_at hl 2 rfl) ?_
        refine lv_imul hx hb dX7_act_35 ?_
        refine gx_as (y := nI (8 * m8)) (pk_mul _ _) ?_
        refine lv_iload_n hx hb dX7_act_36 rfl (lv_at hl 0 rfl) ?_
        refine lv_iadd hx hb dX7_act_37 ?_
        refine gx_as (y := nI ((8 * m8) + (w i))) (nI_add _ _) ?_
        refine gx_ialdn hx hb hK hS 55 (by omega) (by decide) ((8 * m8) + (w i)) (by omega) (hln _) dX7_act_38 ?_
        refine gx_as (y := nI (Ad (w i))) (by rw [h3 55 (by decide) (by decide)]; exact m3) ?_
        refine lv_iadd hx hb dX7_act_39 ?_
        refine gx_as (y := nI ((t i) + (Ad (w i)))) (nI_add _ _) ?_
        refine lv_aload_n hx hb dX7_act_40 rfl (lv_at hl 1 rfl) ?_
        refine gx_get (ci := 10) (v := .int (iv1 53 2)) (C := RX7) (T := TX7) (N := 23) hx hb hts (fun _ h => inX7_act_RX7 h) hown hK hS 53 (by omega) rfl rfl 2 (by decide) (hts (.fieldLink RX7 55 "CosetTablesModel" "twists" "I") (by decide +kernel)) rfl dX7_act_41 ?_
        refine gx_as (y := nI T) (by rw [o53]; exact hT0) ?_
        refine lv_irem hx hb dX7_act_44 (nI_ne0 hT1 (by omega)) ?_
        refine gx_as (y := nI ((t i + Ad (w i)) % T)) (grem (by omega) hT1 (by omega)) ?_
        refine gx_iastn hx hb hK hS 59 (by omega) (by decide) i (by omega) (hln _) dX7_act_45 (fun H locs hS => ?_)
        obtain ⟨iv2, eiv2⟩ : ∃ z, z = up2 iv1 59 i (nI ((t i + Ad (w i)) % T)) := ⟨_, rfl⟩
        rw [← eiv2] at hS
        refine lv_aload_n hx hb dX7_act_46 rfl (lv_at hl 1 rfl) ?_
        refine gx_get (ci := 10) (v := .ref (ad 58)) (C := RX7) (T := TX7) (N := 23) hx hb hts (fun _ h => inX7_act_RX7 h) hown hK hS 53 (by omega) rfl rfl 9 (by decide) (hts (.fieldLink RX7 23 "CosetTablesModel" "where" "[I") (by decide +kernel)) rfl dX7_act_47 ?_
        refine lv_iload_n hx hb dX7_act_50 rfl (lv_at hl 3 rfl) ?_
        refine lv_aload_n hx hb dX7_act_51 rfl (lv_at hl 1 rfl) ?_
        refine gx_get (ci := 10) (v := .ref (ad 54)) (C := RX7) (T := TX7) (N := 23) hx hb hts (fun _ h => inX7_act_RX7 h) hown hK hS 53 (by omega) rfl rfl 4 (by decide) (hts (.fieldLink RX7 7 "CosetTablesModel" "to" "[I") (by decide +kernel)) rfl dX7_act_52 ?_
        refine lv_bipush (v := nI 8) hx hb dX7_act_55 (by decide) ?_
        refine lv_iload_n hx hb dX7_act_57 rfl (lv_at hl 2 rfl) ?_
        refine lv_imul hx hb dX7_act_58 ?_
        refine gx_as (y := nI (8 * m8)) (pk_mul _ _) ?_
        refine lv_iload_n hx hb dX7_act_59 rfl (lv_at hl 0 rfl) ?_
        refine lv_iadd hx hb dX7_act_60 ?_
        refine gx_as (y := nI ((8 * m8) + (w i))) (nI_add _ _) ?_
        refine gx_ialdn hx hb hK hS 54 (by omega) (by decide) ((8 * m8) + (w i)) (by omega) (hln _) dX7_act_61 ?_
        refine gx_as (y := nI (G9 (w i))) (by rw [eiv2, up2_row (by decide), h3 54 (by decide) (by decide)]; exact m1) ?_
        refine gx_iastn hx hb hK hS 58 (by omega) (by decide) i (by omega) (hln _) dX7_act_62 (fun H locs hS => ?_)
        obtain ⟨iv3, eiv3⟩ : ∃ z, z = up2 iv2 58 i (nI (G9 (w i))) := ⟨_, rfl⟩
        rw [← eiv3] at hS
        refine lv_iinc (v := nI (i + 1)) (lv' := [(2, .int (nI (i + 1))), (3, .int (nI (w i))), (0, .ref (ad 53)), (1, .int (nI m8))]) hx hb dX7_act_63 hl (k := 3) rfl (nI_1 i) (by decide) rfl (fun ls hl => ?_)
        refine lv_goto (tgt := 2) hx hb dX7_act_66 (by decide) ?_
        exact ih2 (i + 1) iv3 (by omega) (by omega) (fun j hj => by by_cases e9 : j = i <;> first | (subst e9; exact ⟨by rw [eiv3, up2_s], by rw [eiv3, up2_row (by decide), eiv2, up2_s]⟩) | exact ⟨by rw [eiv3, up2_n (fun q => e9 q.2), eiv2, up2_row (by decide)]; exact (h1 j (by omega)).1, by rw [eiv3, up2_row (by decide), eiv2, up2_n (fun q => e9 q.2)]; exact (h1 j (by omega)).2⟩) (fun j a1 a2 => ⟨by rw [eiv3, up2_n (by omega), eiv2, up2_row (by decide)]; exact (h2 j (by omega) a2).1, by rw [eiv3, up2_row (by decide), eiv2, up2_n (by omega)]; exact (h2 j (by omega) a2).2⟩) (fun q x1 x2 => by rw [eiv3, up2_row x1, eiv2, up2_row x2, h3 q x1 x2]) _ _ _ hS (lv_sub hl [2, 3, 0] rfl)
  exact L2 _ 0 iv (Nat.lt_succ_self _) (Nat.zero_le _) lt_0 (fun j _ h => ⟨hw j h, ht j h⟩) (fun _ _ _ => rfl) _ _ _ hS (lv_sub hl [1, 2, 0] rfl)
set_option maxRecDepth 100000 in
theorem ct_X7_act (l : Launch) (D : va_G) (cA : Nat → ClassId) (o : Nat → Int64) (ad ln : Nat → Nat) (n sz : Nat) (iv : Nat → Nat → Int32) (m8 P c9 T : Nat) (w t G9 Ad : Nat → Nat) (hn : 68 ≤ n) (hln : ∀ k, ln k < 2 ^ 31) (hRn : rln ln) (hc9 : iv 53 7 = nI c9) (hc4 : c9 ≤ 4) (hT0 : iv 53 2 = nI T) (hT1 : 0 < T) (hT3 : T ≤ 3) (hP0 : iv 53 1 = nI P) (hP : P ≤ 8) (hmv : rmove iv m8 P T G9 Ad) (hm6 : m8 < 6) (hw : ∀ i, i < c9 → iv 58 i = nI (w i)) (ht : ∀ i, i < c9 → iv 59 i = nI (t i)) (hwi : inj w P c9) (htT : ∀ i, i < c9 → t i < T)  : gMv l yX7_act wsX7_act { frames := 0, cells := 0, slots := 0, locals := 0 } D cA o ad ln n sz iv [.ref (ad 53), .int (nI m8)] (fun iv' => rAt iv' c9 (fun j => G9 (w j)) (fun j => (t j + Ad (w j)) % T) ∧ ∀ q, q ≠ 58 → q ≠ 59 → iv' q = iv q) := by
  refine Met.ofW (cc := cX7_act) (maxL := 4) (ret := none) (by decide) rfl ?_
  intro p e s m args below meth c s₁ B hml hv__
  obtain ⟨rfl, hv__⟩ := hv__
  obtain ⟨hsz, hS, hK, hN, hA⟩ := gS.entry hv__
  have hl := lv_entry ([.ref (ad 53), .int (nI m8)]) (n := 4) (Nat.le_of_ble_eq_true rfl)
  rw [lg_entry_eq]
  generalize (lg_sl ([.ref (ad 53), .int (nI m8)]) ++ List.replicate (4 - (lg_sl ([.ref (ad 53), .int (nI m8)])).length) Slot.unset).toArray = ls at hl ⊢
  exact bd_X7_act (m8 := m8) (P := P) (c9 := c9) (T := T) (w := w) (t := t) (G9 := G9) (Ad := Ad) ⟨B.exec, B.bytes, hml, findClass_of_methodNamed B.named, atoms_spec (ws := wsX7_act) B.pre, B.returns, B.notSynchronized⟩ (Nat.le_refl _) (Nat.le_refl _) (Nat.le_refl _) (Nat.le_refl _) hK hN hA hn hln hRn hc9 hc4 hT0 hT1 hT3 hP0 hP hmv hm6 hw ht hwi htT hS hl (fun iv' H locs ls pc hd hp hS => gx_vret B.exec B.bytes B.returns B.notSynchronized hS hp hd)

theorem inX7_actBack_RX7 : ∀ {w : Cond}, w ∈ u_ws RX7 TX7 23 → w ∈ wsX7_actBack := fun {w} h => by first | exact List.mem_cons_of_mem _ (List.mem_append_right _ h) | (revert h; revert w; show ∀ w ∈ u_ws RX7 TX7 23, w ∈ wsX7_actBack; decide +kernel)
set_option maxHeartbeats 1000000 in
set_option maxRecDepth 100000 in
theorem bd_X7_actBack {p : Program} {l : Launch} {e : Env} {R : Room} {s : State} {m : MethodId} {args : Array Value} {below : List Frame} {meth : Method} {c : Code} {H : Heap} {locs : List Loc} {cells slots : Nat} {Q : State → Prop} {ls : Array Slot} {D : va_G} {A : Nat → Prop} {H0 : Heap} {cA : Nat → ClassId} {o : Nat → Int64} {ad ln : Nat → Nat} {iv : Nat → Nat → Int32} {n : Nat} {m8 P c9 T : Nat} {w t G9 Ad : Nat → Nat}
    (F : gF p s m meth c cX7_actBack 4 RX7 wsX7_actBack args none) (hRf : 0 ≤ R.frames) (hRl : 0 ≤ R.locals) (hRc : cells ≤ R.cells) (hRs : slots ≤ R.slots) (hK : va_K D vwCl (gT cA) s) (hN : NW s) (hA : ∀ q, H0.size ≤ q → A q) (hn : 68 ≤ n) (hln : ∀ k, ln k < 2 ^ 31) (hRn : rln ln) (hc9 : iv 53 7 = nI c9) (hc4 : c9 ≤ 4) (hT0 : iv 53 2 = nI T) (hT1 : 0 < T) (hT3 : T ≤ 3) (hP0 : iv 53 1 = nI P) (hP : P ≤ 8) (hmv : rmove iv m8 P T G9 Ad) (hm6 : m8 < 6) (hw : ∀ i, i < c9 → iv 58 i = nI (w i)) (ht : ∀ i, i < c9 → iv 59 i = nI (t i)) (hwi : inj w P c9) (htT : ∀ i, i < c9 → t i < T) (hGi : inj G9 P P)
    (hS : gS D cA A H0 o ad ln iv n H locs) (hl : lv_has ls 4 [(0, .ref (ad 53)), (1, .int (nI m8))])
    (kret : ∀ (iv' : Nat → Nat → Int32) (H : Heap) (locs : List Loc) (ls : Array Slot) (pc : Nat), decode cX7_actBack pc = .ok (.return_, 1) → (rAt iv' c9 (fun j => ginv P G9 (w j)) (fun j => (t j + T - Ad (ginv P G9 (w j))) % T) ∧ ∀ q, q ≠ 58 → q ≠ 59 → iv' q = iv q) → gS D cA A H0 o ad ln iv' n H locs → W p l e R s m args below meth c H locs cells slots Q (F0 m pc ls [])) :
    W p l e R s m args below meth c H locs cells slots Q (F0 m 0 ls []) := by
  obtain ⟨hx, hb, hml, hown, hts, hr, hlocks⟩ := F
  have hRn9 := hRn
  obtain ⟨r54, r55, r56, r57, r58, r59, r60, r61, r62, r63, r64, r65, r66⟩ := hRn
  refine lv_iconst (v := nI 0) hx hb dX7_actBack_0 (by decide) ?_
  refine lv_istore_n (lv' := [(2, .int (nI 0)), (0, .ref (ad 53)), (1, .int (nI m8))]) hx hb dX7_actBack_1 rfl hl (by decide) rfl (fun ls hl => ?_)
  have L2 : ∀ (N : Nat) (i : Nat) (iv1 : Nat → Nat → Int32), c9 - i < N → (i ≤ c9) → (∀ j, j < i → iv1 58 j = nI (ginv P G9 (w j)) ∧ iv1 59 j = nI ((t j + T - Ad (ginv P G9 (w j))) % T)) → (∀ j, i ≤ j → j < c9 → iv1 58 j = nI (w j) ∧ iv1 59 j = nI (t j)) → (∀ q, q ≠ 58 → q ≠ 59 → iv1 q = iv q) → ∀ (H : Heap) (locs : List Loc) (ls : Array Slot), gS D cA A H0 o ad ln iv1 n H locs → lv_has ls 4 [(0, .ref (ad 53)), (1, .int (nI m8)), (2, .int (nI i))] → W p l e R s m args below meth c H locs cells slots Q (F0 m 2 ls []) := by
    intro N
    induction N with
    | zero => intro i iv1 hm; exact absurd hm (Nat.not_lt_zero _)
    | succ N ih2 =>
      intro i iv1 hm hi h1 h2 h3 H locs ls hS hl
      refine lv_iload_n hx hb dX7_actBack_2 rfl (lv_at hl 2 rfl) ?_
      refine lv_aload_n hx hb dX7_actBack_3 rfl (lv_at hl 0 rfl) ?_
      refine gx_get (ci := 10) (v := .int (iv1 53 7)) (C := RX7) (T := TX7) (N := 23) hx hb hts (fun _ h => inX7_actBack_RX7 h) hown hK hS 53 (by omega) rfl rfl 7 (by decide) (hts (.fieldLink RX7 83 "CosetTablesModel" "chosen" "I") (by decide +kernel)) rfl dX7_actBack_4 ?_
      refine gx_as (y := nI c9) (by rw [h3 53 (by decide) (by decide)]; exact hc9) ?_
      refine lv_icmp_ge (tgt := 85) hx hb dX7_actBack_7 (by decide) (fun c_7 => ?_) (fun c_7 => ?_)
      · skip
        rw [nI_leI (by omega) (by omega)] at c_7
        have ei : i = c9 := by omega
        subst ei
        exact kret iv1 _ _ _ _ dX7_actBack_85 (⟨⟨fun j hj => (h1 j hj).1, fun j hj => (h1 j hj).2⟩, h3⟩) hS
      · skip
        rw [nI_leI (by omega) (by omega)] at c_7
        have hwk := hwi.1 i (by omega)
        have htk := htT i (by omega)
        have o53 : iv1 53 = iv 53 := h3 53 (by decide) (by decide)
        obtain ⟨q8, q81, q82⟩ := inj_surj hGi hwk
        have hg1 : ginv P G9 (w i) = q8 := by rw [← q82]; exact ginv_eq hGi q81
        have hg2 : G9 (ginv P G9 (w i)) = w i := by rw [hg1]; exact q82
        have hg3 : ginv P G9 (w i) < P := by rw [hg1]; exact q81
        refine lv_iconst (v := nI 0) hx hb dX7_actBack_10 (by decide) ?_
        refine lv_istore_n (lv' := [(3, .int (nI 0)), (0, .ref (ad 53)), (1, .int (nI m8)), (2, .int (nI i))]) hx hb dX7_actBack_11 rfl hl (by decide) rfl (fun ls hl => ?_)
        have L12 : ∀ (N : Nat) (p8 : Nat), ginv P G9 (w i) - p8 < N → (p8 ≤ ginv P G9 (w i)) → ∀ (H : Heap) (locs : List Loc) (ls : Array Slot), gS D cA A H0 o ad ln iv1 n H locs → lv_has ls 4 [(0, .ref (ad 53)), (1, .int (nI m8)), (2, .int (nI i)), (3, .int (nI p8))] → W p l e R s m args below meth c H locs cells slots Q (F0 m 12 ls []) := by
          intro N
          induction N with
          | zero => intro p8 hm; exact absurd hm (Nat.not_lt_zero _)
          | succ N ih12 =>
            intro p8 hm hp8 H locs ls hS hl
            refine lv_aload_n hx hb dX7_actBack_12 rfl (lv_at hl 0 rfl) ?_
            refine gx_get (ci := 10) (v := .ref (ad 54)) (C := RX7) (T := TX7) (N := 23) hx hb hts (fun _ h => inX7_actBack_RX7 h) hown hK hS 53 (by omega) rfl rfl 4 (by decide) (hts (.fieldLink RX7 7 "CosetTablesModel" "to" "[I") (by decide +kernel)) rfl dX7_actBack_13 ?_
            refine lv_bipush (v := nI 8) hx hb dX7_actBack_16 (by decide) ?_
            refine lv_iload_n hx hb dX7_actBack_18 rfl (lv_at hl 1 rfl) ?_
            refine lv_imul hx hb dX7_actBack_19 ?_
            refine gx_as (y := nI (8 * m8)) (pk_mul _ _) ?_
            refine lv_iload_n hx hb dX7_actBack_20 rfl (lv_at hl 3 rfl) ?_
            refine lv_iadd hx hb dX7_actBack_21 ?_
            refine gx_as (y := nI ((8 * m8) + p8)) (nI_add _ _) ?_
            obtain ⟨m1, m2, m3, m4⟩ := hmv p8 (by omega)
            refine gx_ialdn hx hb hK hS 54 (by omega) (by decide) ((8 * m8) + p8) (by omega) (hln _) dX7_actBack_22 ?_
            refine gx_as (y := nI (G9 p8)) (by rw [h3 54 (by decide) (by decide)]; exact m1) ?_
            refine lv_aload_n hx hb dX7_actBack_23 rfl (lv_at hl 0 rfl) ?_
            refine gx_get (ci := 10) (v := .ref (ad 58)) (C := RX7) (T := TX7) (N := 23) hx hb hts (fun _ h => inX7_actBack_RX7 h) hown hK hS 53 (by omega) rfl rfl 9 (by decide) (hts (.fieldLink RX7 23 "CosetTablesModel" "where" "[I") (by decide +kernel)) rfl dX7_actBack_24 ?_
            refine lv_iload_n hx hb dX7_actBack_27 rfl (lv_at hl 2 rfl) ?_
            refine gx_ialdn hx hb hK hS 58 (by omega) (by decide) i (by omega) (hln _) dX7_actBack_28 ?_
            refine gx_as (y := nI (w i)) (h2 i (by omega) (by omega)).1 ?_
            refine lv_icmp_eq (tgt := 38) hx hb dX7_actBack_29 (by decide) (fun c_29 => ?_) (fun c_29 => ?_)
            · skip
              rw [nI_eq (by omega) (by omega)] at c_29
              have hqw : ginv P G9 (w i) = p8 := by rw [← c_29]; exact ginv_eq hGi (by omega)
              refine lv_aload_n hx hb dX7_actBack_38 rfl (lv_at hl 0 rfl) ?_
              refine gx_get (ci := 10) (v := .ref (ad 58)) (C := RX7) (T := TX7) (N := 23) hx hb hts (fun _ h => inX7_actBack_RX7 h) hown hK hS 53 (by omega) rfl rfl 9 (by decide) (hts (.fieldLink RX7 23 "CosetTablesModel" "where" "[I") (by decide +kernel)) rfl dX7_actBack_39 ?_
              refine lv_iload_n hx hb dX7_actBack_42 rfl (lv_at hl 2 rfl) ?_
              refine lv_iload_n hx hb dX7_actBack_43 rfl (lv_at hl 3 rfl) ?_
              refine gx_iastn hx hb hK hS 58 (by omega) (by decide) i (by omega) (hln _) dX7_actBack_44 (fun H locs hS => ?_)
              obtain ⟨iv2, eiv2⟩ : ∃ z, z = up2 iv1 58 i (nI p8) := ⟨_, rfl⟩
              rw [← eiv2] at hS
              refine lv_aload_n hx hb dX7_actBack_45 rfl (lv_at hl 0 rfl) ?_
              refine gx_get (ci := 10) (v := .ref (ad 59)) (C := RX7) (T := TX7) (N := 23) hx hb hts (fun _ h => inX7_actBack_RX7 h) hown hK hS 53 (by omega) rfl rfl 10 (by decide) (hts (.fieldLink RX7 26 "CosetTablesModel" "twist" "[I") (by decide +kernel)) rfl dX7_actBack_46 ?_
              refine lv_iload_n hx hb dX7_actBack_49 rfl (lv_at hl 2 rfl) ?_
              refine lv_aload_n hx hb dX7_actBack_50 rfl (lv_at hl 0 rfl) ?_
              refine gx_get (ci := 10) (v := .ref (ad 59)) (C := RX7) (T := TX7) (N := 23) hx hb hts (fun _ h => inX7_actBack_RX7 h) hown hK hS 53 (by omega) rfl rfl 10 (by decide) (hts (.fieldLink RX7 26 "CosetTablesModel" "twist" "[I") (by decide +kernel)) rfl dX7_actBack_51 ?_
              refine lv_iload_n hx hb dX7_actBack_54 rfl (lv_at hl 2 rfl) ?_
              refine gx_ialdn hx hb hK hS 59 (by omega) (by decide) i (by omega) (hln _) dX7_actBack_55 ?_
              refine gx_as (y := nI (t i)) (by rw [eiv2, up2_row (by decide)]; exact (h2 i (by omega) (by omega)).2) ?_
              refine lv_aload_n hx hb dX7_actBack_56 rfl (lv_at hl 0 rfl) ?_
              refine gx_get (ci := 10) (v := .int (iv2 53 2)) (C := RX7) (T := TX7) (N := 23) hx hb hts (fun _ h => inX7_actBack_RX7 h) hown hK hS 53 (by omega) rfl rfl 2 (by decide) (hts (.fieldLink RX7 55 "CosetTablesModel" "twists" "I") (by decide +kernel)) rfl dX7_actBack_57 ?_
              refine gx_as (y := nI T) (by rw [eiv2, up2_row (by decide), o53]; exact hT0) ?_
              refine lv_iadd hx hb dX7_actBack_60 ?_
              refine gx_as (y := nI ((t i) + T)) (nI_add _ _) ?_
              refine lv_aload_n hx hb dX7_actBack_61 rfl (lv_at hl 0 rfl) ?_
              refine gx_get (ci := 10) (v := .ref (ad 55)) (C := RX7) (T := TX7) (N := 23) hx hb hts (fun _ h => inX7_actBack_RX7 h) hown hK hS 53 (by omega) rfl rfl 5 (by decide) (hts (.fieldLink RX7 13 "CosetTablesModel" "add" "[I") (by decide +kernel)) rfl dX7_actBack_62 ?_
              refine lv_bipush (v := nI 8) hx hb dX7_actBack_65 (by decide) ?_
              refine lv_iload_n hx hb dX7_actBack_67 rfl (lv_at hl 1 rfl) ?_
              refine lv_imul hx hb dX7_actBack_68 ?_
              refine gx_as (y := nI (8 * m8)) (pk_mul _ _) ?_
              refine lv_iload_n hx hb dX7_actBack_69 rfl (lv_at hl 3 rfl) ?_
              refine lv_iadd hx hb dX7_actBack_70 ?_
              refine gx_as (y := nI ((8 * m8) + p8)) (nI_add _ _) ?_
              refine gx_ialdn hx hb hK hS 55 (by omega) (by decide) ((8 * m8) + p8) (by omega) (hln _) dX7_actBack_71 ?_
              refine gx_as (y := nI (Ad p8)) (by rw [eiv2, up2_row (by decide), h3 55 (by decide) (by decide)]; exact m3) ?_
              refine lv_isub hx hb dX7_actBack_72 ?_
              refine gx_as (y := nI (t i + T - Ad p8)) (pk_sub (by omega)) ?_
              refine lv_aload_n hx hb dX7_actBack_73 rfl (lv_at hl 0 rfl) ?_
              refine gx_get (ci := 10) (v := .int (iv2 53 2)) (C := RX7) (T := TX7) (N := 23) hx hb hts (fun _ h => inX7_actBack_RX7 h) hown hK hS 53 (by omega) rfl rfl 2 (by decide) (hts (.fieldLink RX7 55 "CosetTablesModel" "twists" "I") (by decide +kernel)) rfl dX7_actBack_74 ?_
              refine gx_as (y := nI T) (by rw [eiv2, up2_row (by decide), o53]; exact hT0) ?_
              refine lv_irem hx hb dX7_actBack_77 (nI_ne0 hT1 (by omega)) ?_
              refine gx_as (y := nI ((t i + T - Ad p8) % T)) (grem (by omega) hT1 (by omega)) ?_
              refine gx_iastn hx hb hK hS 59 (by omega) (by decide) i (by omega) (hln _) dX7_actBack_78 (fun H locs hS => ?_)
              obtain ⟨iv3, eiv3⟩ : ∃ z, z = up2 iv2 59 i (nI ((t i + T - Ad p8) % T)) := ⟨_, rfl⟩
              rw [← eiv3] at hS
              refine lv_iinc (v := nI (i + 1)) (lv' := [(2, .int (nI (i + 1))), (0, .ref (ad 53)), (1, .int (nI m8)), (3, .int (nI p8))]) hx hb dX7_actBack_79 hl (k := 2) rfl (nI_1 i) (by decide) rfl (fun ls hl => ?_)
              refine lv_goto (tgt := 2) hx hb dX7_actBack_82 (by decide) ?_
              exact ih2 (i + 1) iv3 (by omega) (by omega) (fun j hj => by by_cases e9 : j = i <;> first | (subst e9; exact ⟨by rw [eiv3, up2_row (by decide), eiv2, up2_s, ← hqw], by rw [eiv3, up2_s, ← hqw]⟩) | exact ⟨by rw [eiv3, up2_row (by decide), eiv2, up2_n (fun q => e9 q.2)]; exact (h1 j (by omega)).1, by rw [eiv3, up2_n (fun q => e9 q.2), eiv2, up2_row (by decide)]; exact (h1 j (by omega)).2⟩) (fun j a1 a2 => ⟨by rw [eiv3, up2_row (by decide), eiv2, up2_n (by omega)]; exact (h2 j (by omega) a2).1, by rw [eiv3, up2_n (by omega), eiv2, up2_row (by decide)]; exact (h2 j (by omega) a2).2⟩) (fun q x1 x2 => by rw [eiv3, up2_row x2, eiv2, up2_row x1, h3 q x1 x2]) _ _ _ hS (lv_sub hl [1, 2, 0] rfl)
            · skip
              rw [nI_eq (by omega) (by omega)] at c_29
              have hne8 : ¬ p8 = ginv P G9 (w i) := fun q => c_29 (by rw [q]; exact hg2)
              refine lv_iinc (v := nI (p8 + 1)) (lv' := [(3, .int (nI (p8 + 1))), (0, .ref (ad 53)), (1, .int (nI m8)), (2, .int (nI i))]) hx hb dX7_actBack_32 hl (k := 3) rfl (nI_1 p8) (by decide) rfl (fun ls hl => ?_)
              refine lv_goto (tgt := 12) hx hb dX7_actBack_35 (by decide) ?_
              exact ih12 (p8 + 1) (by omega) (by omega) _ _ _ hS (lv_sub hl [1, 2, 3, 0] rfl)
        exact L12 _ 0 (Nat.lt_succ_self _) (Nat.zero_le _) _ _ _ hS (lv_sub hl [1, 2, 3, 0] rfl)
  exact L2 _ 0 iv (Nat.lt_succ_self _) (Nat.zero_le _) lt_0 (fun j _ h => ⟨hw j h, ht j h⟩) (fun _ _ _ => rfl) _ _ _ hS (lv_sub hl [1, 2, 0] rfl)
set_option maxRecDepth 100000 in
theorem ct_X7_actBack (l : Launch) (D : va_G) (cA : Nat → ClassId) (o : Nat → Int64) (ad ln : Nat → Nat) (n sz : Nat) (iv : Nat → Nat → Int32) (m8 P c9 T : Nat) (w t G9 Ad : Nat → Nat) (hn : 68 ≤ n) (hln : ∀ k, ln k < 2 ^ 31) (hRn : rln ln) (hc9 : iv 53 7 = nI c9) (hc4 : c9 ≤ 4) (hT0 : iv 53 2 = nI T) (hT1 : 0 < T) (hT3 : T ≤ 3) (hP0 : iv 53 1 = nI P) (hP : P ≤ 8) (hmv : rmove iv m8 P T G9 Ad) (hm6 : m8 < 6) (hw : ∀ i, i < c9 → iv 58 i = nI (w i)) (ht : ∀ i, i < c9 → iv 59 i = nI (t i)) (hwi : inj w P c9) (htT : ∀ i, i < c9 → t i < T) (hGi : inj G9 P P) : gMv l yX7_actBack wsX7_actBack { frames := 0, cells := 0, slots := 0, locals := 0 } D cA o ad ln n sz iv [.ref (ad 53), .int (nI m8)] (fun iv' => rAt iv' c9 (fun j => ginv P G9 (w j)) (fun j => (t j + T - Ad (ginv P G9 (w j))) % T) ∧ ∀ q, q ≠ 58 → q ≠ 59 → iv' q = iv q) := by
  refine Met.ofW (cc := cX7_actBack) (maxL := 4) (ret := none) (by decide) rfl ?_
  intro p e s m args below meth c s₁ B hml hv__
  obtain ⟨rfl, hv__⟩ := hv__
  obtain ⟨hsz, hS, hK, hN, hA⟩ := gS.entry hv__
  have hl := lv_entry ([.ref (ad 53), .int (nI m8)]) (n := 4) (Nat.le_of_ble_eq_true rfl)
  rw [lg_entry_eq]
  generalize (lg_sl ([.ref (ad 53), .int (nI m8)]) ++ List.replicate (4 - (lg_sl ([.ref (ad 53), .int (nI m8)])).length) Slot.unset).toArray = ls at hl ⊢
  exact bd_X7_actBack (m8 := m8) (P := P) (c9 := c9) (T := T) (w := w) (t := t) (G9 := G9) (Ad := Ad) ⟨B.exec, B.bytes, hml, findClass_of_methodNamed B.named, atoms_spec (ws := wsX7_actBack) B.pre, B.returns, B.notSynchronized⟩ (Nat.le_refl _) (Nat.le_refl _) (Nat.le_refl _) (Nat.le_refl _) hK hN hA hn hln hRn hc9 hc4 hT0 hT1 hT3 hP0 hP hmv hm6 hw ht hwi htT hGi hS hl (fun iv' H locs ls pc hd hp hS => gx_vret B.exec B.bytes B.returns B.notSynchronized hS hp hd)
