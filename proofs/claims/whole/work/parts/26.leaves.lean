set_option maxHeartbeats 4000000 in
set_option maxRecDepth 100000 in
theorem bd_J6_bitCount_0f7a4 {p : Program} {l : Launch} {e : Env} {R : Room} {s : State} {m : MethodId} {args : Array Value} {below : List Frame} {meth : Method} {c : Code} {H : Heap} {locs : List Loc} {cells slots : Nat} {Q : State → Prop} {ls : Array Slot} {D : va_G} {A : Nat → Prop} {H0 : Heap} {cA : Nat → ClassId} {o : Nat → Int64} {ad ln : Nat → Nat} {iv : Nat → Nat → Int32} {n : Nat} {x : Int32}
    (F : gF p s m meth c cJ6_bitCount_0f7a4 1 RJ6 wsJ6_bitCount_0f7a4 args (some .int)) (hRf : 0 ≤ R.frames) (hRl : 0 ≤ R.locals) (hRc : cells ≤ R.cells) (hRs : slots ≤ R.slots) (hK : va_K D vwCl (gT cA) s) (hN : NW s) (hA : ∀ q, H0.size ≤ q → A q) (hn : True) (hln : ∀ k, ln k < 2 ^ 31) 
    (hS : gS D cA A H0 o ad ln iv n H locs) (hl : lv_has ls 1 [(0, .int x)])
    (kret : ∀ (r : Int32) (iv' : Nat → Nat → Int32) (H : Heap) (locs : List Loc) (ls : Array Slot) (pc : Nat), decode cJ6_bitCount_0f7a4 pc = .ok (.ireturn, 1) → (r = bcv x ∧ iv' = iv) → gS D cA A H0 o ad ln iv' n H locs → W p l e R s m args below meth c H locs cells slots Q (F0 m pc ls [.int r])) :
    W p l e R s m args below meth c H locs cells slots Q (F0 m 0 ls []) := by
  obtain ⟨hx, hb, hml, hown, hts, hr, hlocks⟩ := F
  refine lv_iload_n hx hb dJ6_bitCount_0f7a4_0 rfl (lv_at hl 0 rfl) ?_
  refine lv_iload_n hx hb dJ6_bitCount_0f7a4_1 rfl (lv_at hl 0 rfl) ?_
  refine lv_iconst (v := nI 1) hx hb dJ6_bitCount_0f7a4_2 (by decide) ?_
  refine lv_iushr (v := (Int32.toUInt32 x >>> (Int32.toUInt32 (nI 1) &&& Int32.toUInt32 31)).toInt32) hx hb dJ6_bitCount_0f7a4_3 rfl ?_
  refine lv_ldcw (v := 1431655765) hx hb hown (hts (.constant RJ6 265 (1431655765)) (by decide +kernel)) dJ6_bitCount_0f7a4_4 ?_
  refine gx_as (y := nI 1431655765) (by decide) ?_
  refine lv_iand hx hb dJ6_bitCount_0f7a4_7 ?_
  refine lv_isub hx hb dJ6_bitCount_0f7a4_8 ?_
  refine lv_topi (fun x1 ex1 => ?_)
  refine lv_istore_n (lv' := [(0, .int x1)]) hx hb dJ6_bitCount_0f7a4_9 rfl hl (by decide) rfl (fun ls hl => ?_)
  refine lv_iload_n hx hb dJ6_bitCount_0f7a4_10 rfl (lv_at hl 0 rfl) ?_
  refine lv_ldcw (v := 858993459) hx hb hown (hts (.constant RJ6 266 (858993459)) (by decide +kernel)) dJ6_bitCount_0f7a4_11 ?_
  refine gx_as (y := nI 858993459) (by decide) ?_
  refine lv_iand hx hb dJ6_bitCount_0f7a4_14 ?_
  refine lv_iload_n hx hb dJ6_bitCount_0f7a4_15 rfl (lv_at hl 0 rfl) ?_
  refine lv_iconst (v := nI 2) hx hb dJ6_bitCount_0f7a4_16 (by decide) ?_
  refine lv_iushr (v := (Int32.toUInt32 x1 >>> (Int32.toUInt32 (nI 2) &&& Int32.toUInt32 31)).toInt32) hx hb dJ6_bitCount_0f7a4_17 rfl ?_
  refine lv_ldcw (v := 858993459) hx hb hown (hts (.constant RJ6 266 (858993459)) (by decide +kernel)) dJ6_bitCount_0f7a4_18 ?_
  refine gx_as (y := nI 858993459) (by decide) ?_
  refine lv_iand hx hb dJ6_bitCount_0f7a4_21 ?_
  refine lv_iadd hx hb dJ6_bitCount_0f7a4_22 ?_
  refine lv_topi (fun x2 ex2 => ?_)
  refine lv_istore_n (lv' := [(0, .int x2)]) hx hb dJ6_bitCount_0f7a4_23 rfl hl (by decide) rfl (fun ls hl => ?_)
  refine lv_iload_n hx hb dJ6_bitCount_0f7a4_24 rfl (lv_at hl 0 rfl) ?_
  refine lv_iload_n hx hb dJ6_bitCount_0f7a4_25 rfl (lv_at hl 0 rfl) ?_
  refine lv_iconst (v := nI 4) hx hb dJ6_bitCount_0f7a4_26 (by decide) ?_
  refine lv_iushr (v := (Int32.toUInt32 x2 >>> (Int32.toUInt32 (nI 4) &&& Int32.toUInt32 31)).toInt32) hx hb dJ6_bitCount_0f7a4_27 rfl ?_
  refine lv_iadd hx hb dJ6_bitCount_0f7a4_28 ?_
  refine lv_ldcw (v := 252645135) hx hb hown (hts (.constant RJ6 267 (252645135)) (by decide +kernel)) dJ6_bitCount_0f7a4_29 ?_
  refine gx_as (y := nI 252645135) (by decide) ?_
  refine lv_iand hx hb dJ6_bitCount_0f7a4_32 ?_
  refine lv_topi (fun x3 ex3 => ?_)
  refine lv_istore_n (lv' := [(0, .int x3)]) hx hb dJ6_bitCount_0f7a4_33 rfl hl (by decide) rfl (fun ls hl => ?_)
  refine lv_iload_n hx hb dJ6_bitCount_0f7a4_34 rfl (lv_at hl 0 rfl) ?_
  refine lv_iload_n hx hb dJ6_bitCount_0f7a4_35 rfl (lv_at hl 0 rfl) ?_
  refine lv_bipush (v := nI 8) hx hb dJ6_bitCount_0f7a4_36 (by decide) ?_
  refine lv_iushr (v := (Int32.toUInt32 x3 >>> (Int32.toUInt32 (nI 8) &&& Int32.toUInt32 31)).toInt32) hx hb dJ6_bitCount_0f7a4_38 rfl ?_
  refine lv_iadd hx hb dJ6_bitCount_0f7a4_39 ?_
  refine lv_topi (fun x4 ex4 => ?_)
  refine lv_istore_n (lv' := [(0, .int x4)]) hx hb dJ6_bitCount_0f7a4_40 rfl hl (by decide) rfl (fun ls hl => ?_)
  refine lv_iload_n hx hb dJ6_bitCount_0f7a4_41 rfl (lv_at hl 0 rfl) ?_
  refine lv_iload_n hx hb dJ6_bitCount_0f7a4_42 rfl (lv_at hl 0 rfl) ?_
  refine lv_bipush (v := nI 16) hx hb dJ6_bitCount_0f7a4_43 (by decide) ?_
  refine lv_iushr (v := (Int32.toUInt32 x4 >>> (Int32.toUInt32 (nI 16) &&& Int32.toUInt32 31)).toInt32) hx hb dJ6_bitCount_0f7a4_45 rfl ?_
  refine lv_iadd hx hb dJ6_bitCount_0f7a4_46 ?_
  refine lv_topi (fun x5 ex5 => ?_)
  refine lv_istore_n (lv' := [(0, .int x5)]) hx hb dJ6_bitCount_0f7a4_47 rfl hl (by decide) rfl (fun ls hl => ?_)
  refine lv_iload_n hx hb dJ6_bitCount_0f7a4_48 rfl (lv_at hl 0 rfl) ?_
  refine lv_bipush (v := nI 63) hx hb dJ6_bitCount_0f7a4_49 (by decide) ?_
  refine lv_iand hx hb dJ6_bitCount_0f7a4_51 ?_
  exact kret _ iv _ _ _ _ dJ6_bitCount_0f7a4_52 (⟨by rw [ex5, ex4, ex3, ex2, ex1]; rfl, rfl⟩) hS
set_option maxRecDepth 100000 in
theorem ct_J6_bitCount_0f7a4 (l : Launch) (D : va_G) (cA : Nat → ClassId) (o : Nat → Int64) (ad ln : Nat → Nat) (n sz : Nat) (iv : Nat → Nat → Int32) (x : Int32) (hn : True) (hln : ∀ k, ln k < 2 ^ 31)  : gMi l yJ6_bitCount_0f7a4 wsJ6_bitCount_0f7a4 { frames := 0, cells := 0, slots := 0, locals := 0 } D cA o ad ln n sz iv [.int x] (fun (r : Int32) iv' => r = bcv x ∧ iv' = iv) := by
  refine Met.ofW (cc := cJ6_bitCount_0f7a4) (maxL := 1) (ret := (some .int)) (by decide) rfl ?_
  intro p e s m args below meth c s₁ B hml hv__
  obtain ⟨rfl, hv__⟩ := hv__
  obtain ⟨hsz, hS, hK, hN, hA⟩ := gS.entry hv__
  have hl := lv_entry ([.int x]) (n := 1) (Nat.le_of_ble_eq_true rfl)
  rw [lg_entry_eq]
  generalize (lg_sl ([.int x]) ++ List.replicate (1 - (lg_sl ([.int x])).length) Slot.unset).toArray = ls at hl ⊢
  exact bd_J6_bitCount_0f7a4 (x := x) ⟨B.exec, B.bytes, hml, findClass_of_methodNamed B.named, atoms_spec (ws := wsJ6_bitCount_0f7a4) B.pre, B.returns, B.notSynchronized⟩ (Nat.le_refl _) (Nat.le_refl _) (Nat.le_refl _) (Nat.le_refl _) hK hN hA hn hln  hS hl (fun r iv' H locs ls pc hd hp hS => gx_iret B.exec B.bytes B.returns B.notSynchronized hS hp hd)

theorem inX1_readArrangement_RX1 : ∀ {w : Cond}, w ∈ u_ws RX1 TX1 8 → w ∈ wsX1_readArrangement := fun {w} h => by first | exact List.mem_cons_of_mem _ (List.mem_append_right _ h) | (revert h; revert w; show ∀ w ∈ u_ws RX1 TX1 8, w ∈ wsX1_readArrangement; decide +kernel)
theorem inX1_readArrangement_RX3 : ∀ {w : Cond}, w ∈ u_ws RX3 TX3 2 → w ∈ wsX1_readArrangement := fun {w} h => by first | exact List.mem_cons_of_mem _ (List.mem_append_right _ h) | (revert h; revert w; show ∀ w ∈ u_ws RX3 TX3 2, w ∈ wsX1_readArrangement; decide +kernel)
set_option maxHeartbeats 4000000 in
set_option maxRecDepth 100000 in
theorem bd_X1_readArrangement {p : Program} {l : Launch} {e : Env} {R : Room} {s : State} {m : MethodId} {args : Array Value} {below : List Frame} {meth : Method} {c : Code} {H : Heap} {locs : List Loc} {cells slots : Nat} {Q : State → Prop} {ls : Array Slot} {D : va_G} {A : Nat → Prop} {H0 : Heap} {cA : Nat → ClassId} {o : Nat → Int64} {ad ln : Nat → Nat} {iv : Nat → Nat → Int32} {n : Nat} {y b P c9 : Nat} {pc9 : Nat → Nat}
    (F : gF p s m meth c cX1_readArrangement 7 RX1 wsX1_readArrangement args none) (hRf : 1 ≤ R.frames) (hRl : 24 ≤ R.locals) (hRc : cells ≤ R.cells) (hRs : slots ≤ R.slots) (hK : va_K D vwCl (gT cA) s) (hN : NW s) (hA : ∀ q, H0.size ≤ q → A q) (hn : 68 ≤ n) (hln : ∀ k, ln k < 2 ^ 31) (hc9 : iv 25 5 = nI c9) (hc4 : c9 ≤ 4) (hSb : isS b = true) (hP2 : ln (b + 2) = P) (hP1 : ln (b + 1) = P) (hP : P ≤ 8) (h27 : ln 27 = 4) (hpc : ∀ i, i < c9 → iv 27 i = nI (pc9 i)) (hpi : inj pc9 P c9) (hP0 : iv 25 0 = nI P) (h28 : ln 28 = 4) (hy9 : y < 2 ^ 20)
    (hS : gS D cA A H0 o ad ln iv n H locs) (hl : lv_has ls 7 [(0, .ref (ad 25)), (1, .int (nI y)), (2, .ref (ad b))])
    (kret : ∀ (iv' : Nat → Nat → Int32) (H : Heap) (locs : List Loc) (ls : Array Slot) (pc : Nat), decode cX1_readArrangement pc = .ok (.return_, 1) → ((∃ w, inj w P c9 ∧ (∀ i, i < c9 → iv' (b + 1) (pc9 i) = nI (w i)) ∧ ∀ i, i < c9 → rkw w i = rky P c9 y i) ∧ (∀ p, (∀ i, i < c9 → p ≠ pc9 i) → iv' (b + 1) p = iv (b + 1) p) ∧ ∀ q, q ≠ b + 1 → q ≠ 28 → iv' q = iv q) → gS D cA A H0 o ad ln iv' n H locs → W p l e R s m args below meth c H locs cells slots Q (F0 m pc ls [])) :
    W p l e R s m args below meth c H locs cells slots Q (F0 m 0 ls []) := by
  obtain ⟨hx, hb, hml, hown, hts, hr, hlocks⟩ := F
  have hb0 := isS_in hSb
  have hcP := inj_le_P hpi
  refine lv_iload_n hx hb dX1_readArrangement_0 rfl (lv_at hl 1 rfl) ?_
  refine gx_as (y := nI (y / prd P c9 (c9 - c9))) (by rw [Nat.sub_self]; unfold prd; rw [Nat.div_one]) ?_
  refine lv_istore_n (lv' := [(3, .int (nI (y / prd P c9 (c9 - c9)))), (0, .ref (ad 25)), (1, .int (nI y)), (2, .ref (ad b))]) hx hb dX1_readArrangement_1 rfl hl (by decide) rfl (fun ls hl => ?_)
  refine lv_aload_n hx hb dX1_readArrangement_2 rfl (lv_at hl 1 rfl) ?_
  refine gx_get (ci := 4) (v := .int (iv 25 5)) (C := RX1) (T := TX1) (N := 8) hx hb hts (fun _ h => inX1_readArrangement_RX1 h) hown hK hS 25 (by omega) rfl rfl 5 (by decide) (hts (.fieldLink RX1 35 "CosetTables$Numbering" "chosenCount" "I") (by decide +kernel)) rfl dX1_readArrangement_3 ?_
  refine gx_as (y := nI c9) hc9 ?_
  refine lv_iconst (v := nI 1) hx hb dX1_readArrangement_6 (by decide) ?_
  refine lv_isub hx hb dX1_readArrangement_7 ?_
  refine gx_as (y := (nI c9 - 1)) rfl ?_
  refine lv_istore (lv' := [(4, .int (nI c9 - 1)), (3, .int (nI (y / prd P c9 (c9 - c9)))), (0, .ref (ad 25)), (1, .int (nI y)), (2, .ref (ad b))]) hx hb dX1_readArrangement_8 hl (by decide) rfl (fun ls hl => ?_)
  have L10 : ∀ (N : Nat) (k : Nat) (iv1 : Nat → Nat → Int32), k < N → (k ≤ c9) → (∀ i, k ≤ i → i < c9 → iv1 28 i = nI (rky P c9 y i)) → (∀ q, q ≠ 28 → iv1 q = iv q) → ∀ (H : Heap) (locs : List Loc) (ls : Array Slot), gS D cA A H0 o ad ln iv1 n H locs → lv_has ls 7 [(0, .ref (ad 25)), (1, .int (nI y)), (2, .ref (ad b)), (3, .int (nI (y / prd P k (c9 - k)))), (4, .int (nI k - 1))] → W p l e R s m args below meth c H locs cells slots Q (F0 m 10 ls []) := by
    intro N
    induction N with
    | zero => intro k iv1 hm; exact absurd hm (Nat.not_lt_zero _)
    | succ N ih10 =>
      intro k iv1 hm hk h1 h3 H locs ls hS hl
      refine lv_iload hx hb dX1_readArrangement_10 (lv_at hl 4 rfl) ?_
      refine lv_if_lt (tgt := 47) hx hb dX1_readArrangement_12 (by decide) (fun c_12 => ?_) (fun c_12 => ?_)
      · skip
        have ek : k = 0 := by
          rcases Nat.eq_zero_or_pos k with q | q
          · exact q
          · exfalso
            obtain ⟨k, rfl⟩ : ∃ z, k = z + 1 := ⟨k - 1, by omega⟩
            rw [nI_pred] at c_12
            exact nI_pos (by omega) c_12
        refine lv_iconst (v := nI 0) hx hb dX1_readArrangement_47 (by decide) ?_
        refine lv_istore (lv' := [(4, .int (nI 0)), (0, .ref (ad 25)), (1, .int (nI y)), (2, .ref (ad b)), (3, .int (nI (y / prd P k (c9 - k))))]) hx hb dX1_readArrangement_48 hl (by decide) rfl (fun ls hl => ?_)
        refine lv_iconst (v := nI 0) hx hb dX1_readArrangement_50 (by decide) ?_
        refine lv_istore (lv' := [(5, .int (nI 0)), (4, .int (nI 0)), (0, .ref (ad 25)), (1, .int (nI y)), (2, .ref (ad b)), (3, .int (nI (y / prd P k (c9 - k))))]) hx hb dX1_readArrangement_51 hl (by decide) rfl (fun ls hl => ?_)
        have L53 : ∀ (N : Nat) (i : Nat) (w : Nat → Nat) (iv3 : Nat → Nat → Int32), c9 - i < N → (i ≤ c9) → (inj w P i) → (∀ j, j < i → iv3 (b + 1) (pc9 j) = nI (w j)) → (∀ j, j < i → rkw w j = rky P c9 y j) → (∀ p, (∀ i, i < c9 → p ≠ pc9 i) → iv3 (b + 1) p = iv (b + 1) p) → (∀ q, q ≠ b + 1 → iv3 q = iv1 q) → ∀ (H : Heap) (locs : List Loc) (ls : Array Slot), gS D cA A H0 o ad ln iv3 n H locs → lv_has ls 7 [(0, .ref (ad 25)), (2, .ref (ad b)), (4, .int (nI (msk w i))), (5, .int (nI i))] → W p l e R s m args below meth c H locs cells slots Q (F0 m 53 ls []) := by
          intro N
          induction N with
          | zero => intro i w iv3 hm; exact absurd hm (Nat.not_lt_zero _)
          | succ N ih53 =>
            intro i w iv3 hm hi g1 g2 g3 g4 g5 H locs ls hS hl
            refine lv_iload hx hb dX1_readArrangement_53 (lv_at hl 3 rfl) ?_
            refine lv_aload_n hx hb dX1_readArrangement_55 rfl (lv_at hl 0 rfl) ?_
            refine gx_get (ci := 4) (v := .int (iv3 25 5)) (C := RX1) (T := TX1) (N := 8) hx hb hts (fun _ h => inX1_readArrangement_RX1 h) hown hK hS 25 (by omega) rfl rfl 5 (by decide) (hts (.fieldLink RX1 35 "CosetTables$Numbering" "chosenCount" "I") (by decide +kernel)) rfl dX1_readArrangement_56 ?_
            refine gx_as (y := nI c9) (by rw [g5 25 (by omega), h3 25 (by omega)]; exact hc9) ?_
            refine lv_icmp_ge (tgt := 106) hx hb dX1_readArrangement_59 (by decide) (fun c_59 => ?_) (fun c_59 => ?_)
            · skip
              rw [nI_leI (by omega) (by omega)] at c_59
              exact kret iv3 _ _ _ _ dX1_readArrangement_106 (⟨⟨w, by rw [show c9 = i by omega]; exact g1, fun j hj => g2 j (by omega), fun j hj => g3 j (by omega)⟩, g4, fun q hq1 hq2 => by rw [g5 q hq1, h3 q hq2]⟩) hS
            · skip
              rw [nI_leI (by omega) (by omega)] at c_59
              refine lv_aload_n hx hb dX1_readArrangement_62 rfl (lv_at hl 0 rfl) ?_
              refine lv_iload hx hb dX1_readArrangement_63 (lv_at hl 2 rfl) ?_
              refine lv_aload_n hx hb dX1_readArrangement_65 rfl (lv_at hl 0 rfl) ?_
              refine gx_get (ci := 4) (v := .ref (ad 28)) (C := RX1) (T := TX1) (N := 8) hx hb hts (fun _ h => inX1_readArrangement_RX1 h) hown hK hS 25 (by omega) rfl rfl 4 (by decide) (hts (.fieldLink RX1 26 "CosetTables$Numbering" "ranks" "[I") (by decide +kernel)) rfl dX1_readArrangement_66 ?_
              refine lv_iload hx hb dX1_readArrangement_69 (lv_at hl 3 rfl) ?_
              refine gx_ialdn hx hb hK hS 28 (by omega) (by decide) i (by omega) (hln _) dX1_readArrangement_71 ?_
              refine gx_as (y := nI (rky P c9 y i)) (by rw [g5 28 (by omega)]; exact h1 i (by omega) (by omega)) ?_
              have hmk := msk_lt hP g1
              have hcf := cnt_fre g1
              have hrk : rky P c9 y i < P - i := Nat.mod_lt _ (by omega)
              refine gc_i (gx_runV (As := [.int (nI (msk w i)), .int (nI (rky P c9 y i))]) (rest := []) ⟨hx, hb, hml, hown, hts⟩ hK hN hS 25 (by omega) rfl rfl (ct_X1_freePlace l D cA o ad ln n H.size iv3 (t := msk w i) (k := rky P c9 y i) (P := P) hn hln (by rw [g5 25 (by omega), h3 25 (by omega)]; exact hP0) hP (by omega) (by rw [show cnt (fbit (msk w i)) P = cnt (fre w i) P from cnt_congr (fun p _ => fbit_msk)]; omega)) (cwV 2 hts gX1_readArrangement_X1_freePlace rfl rfl rfl (by decide +kernel) ⟨gle hRf rfl, gle hRl rfl⟩) rfl rfl hl.1 rfl (lv_room (Nat.le_of_ble_eq_true rfl)) dX1_readArrangement_72 ⟨hRc, hRs⟩) hS hA (fun z iv5 H locs hp5 hS => ?_)
              obtain ⟨⟨q9, ez, hq1, hq2, hq3⟩, ev5⟩ := hp5
              rw [ev5] at hS
              obtain ⟨d1, d2, d3⟩ := dec_step g1 g3 hq1 hq2 hq3 rfl
              refine gx_as (y := nI q9) ez ?_
              skip
              refine lv_istore (lv' := [(6, .int (nI q9)), (0, .ref (ad 25)), (2, .ref (ad b)), (4, .int (nI (msk w i))), (5, .int (nI i))]) hx hb dX1_readArrangement_75 hl (by decide) rfl (fun ls hl => ?_)
              refine lv_aload_n hx hb dX1_readArrangement_77 rfl (lv_at hl 2 rfl) ?_
              refine gx_getN (ci := 6) (v := .ref (ad (b + 1))) (C := RX3) (T := TX3) (N := 2) hx hb hts (fun _ h => inX1_readArrangement_RX3 h) hown hK hS b (by omega) (sch_S hSb) rfl 0 (by decide) (nf_RX1_38 hN) rfl dX1_readArrangement_78 ?_
              refine lv_aload_n hx hb dX1_readArrangement_81 rfl (lv_at hl 1 rfl) ?_
              refine gx_get (ci := 4) (v := .ref (ad 27)) (C := RX1) (T := TX1) (N := 8) hx hb hts (fun _ h => inX1_readArrangement_RX1 h) hown hK hS 25 (by omega) rfl rfl 3 (by decide) (hts (.fieldLink RX1 22 "CosetTables$Numbering" "pieces" "[I") (by decide +kernel)) rfl dX1_readArrangement_82 ?_
              refine lv_iload hx hb dX1_readArrangement_85 (lv_at hl 4 rfl) ?_
              refine gx_ialdn hx hb hK hS 27 (by omega) (by decide) i (by omega) (hln _) dX1_readArrangement_87 ?_
              refine gx_as (y := nI (pc9 i)) (by rw [g5 27 (by omega), h3 27 (by omega)]; exact hpc i (by omega)) ?_
              refine lv_iload hx hb dX1_readArrangement_88 (lv_at hl 0 rfl) ?_
              have hpk := hpi.1 i (by omega)
              refine gx_iastn hx hb hK hS (b + 1) (by omega) (isS1 hSb) (pc9 i) (by omega) (hln _) dX1_readArrangement_90 (fun H locs hS => ?_)
              obtain ⟨iv4, eiv4⟩ : ∃ z, z = up2 iv3 (b + 1) (pc9 i) (nI q9) := ⟨_, rfl⟩
              rw [← eiv4] at hS
              refine lv_iload hx hb dX1_readArrangement_91 (lv_at hl 3 rfl) ?_
              refine lv_iconst (v := nI 1) hx hb dX1_readArrangement_93 (by decide) ?_
              refine lv_iload hx hb dX1_readArrangement_94 (lv_at hl 0 rfl) ?_
              refine lv_ishl hx hb dX1_readArrangement_96 ?_
              refine gx_as (y := nI (2 ^ q9)) (gshl1 (by omega)) ?_
              refine lv_ior hx hb dX1_readArrangement_97 ?_
              refine gx_as (y := nI (msk (va_up w i q9) (i + 1))) (by rw [nI_or, d3]) ?_
              refine lv_istore (lv' := [(4, .int (nI (msk (va_up w i q9) (i + 1)))), (6, .int (nI q9)), (0, .ref (ad 25)), (2, .ref (ad b)), (5, .int (nI i))]) hx hb dX1_readArrangement_98 hl (by decide) rfl (fun ls hl => ?_)
              refine lv_iinc (v := nI (i + 1)) (lv' := [(5, .int (nI (i + 1))), (4, .int (nI (msk (va_up w i q9) (i + 1)))), (6, .int (nI q9)), (0, .ref (ad 25)), (2, .ref (ad b))]) hx hb dX1_readArrangement_100 hl (k := 4) rfl (nI_1 i) (by decide) rfl (fun ls hl => ?_)
              refine lv_goto (tgt := 53) hx hb dX1_readArrangement_103 (by decide) ?_
              exact ih53 (i + 1) (va_up w i q9) iv4 (by omega) (by omega) d1 (fun j hj => by rw [eiv4, up2_eq]; by_cases e9 : j = i <;> first | (subst e9; rw [if_pos ⟨rfl, rfl⟩, va_up_self]; done) | (rw [if_neg (fun q8 => e9 (hpi.2 j i (by omega) (by omega) q8.2)), va_up_ne _ _ e9, g2 j (by omega)])) d2 (fun p hp => by rw [eiv4, up2_n (fun q8 => hp i (by omega) q8.2), g4 p hp]) (fun q hq => by rw [eiv4, up2_row hq, g5 q hq]) _ _ _ hS (lv_sub hl [3, 4, 1, 0] rfl)
        exact L53 _ 0 (fun _ => 0) iv1 (Nat.lt_succ_self _) (Nat.zero_le _) ⟨lt_0, fun j _ h => absurd h (Nat.not_lt_zero j)⟩ lt_0 lt_0 (fun p _ => by rw [h3 _ (by omega)]) (fun _ _ => rfl) _ _ _ hS (lv_sub hl [2, 4, 1, 0] rfl)
      · skip
        obtain ⟨k, rfl⟩ : ∃ z, k = z + 1 := by
          rcases Nat.eq_zero_or_pos k with q | q
          · subst q; exact absurd gm1_0 c_12
          · exact ⟨k - 1, by omega⟩
        rw [nI_pred] at hl
        have hle : y / prd P (k + 1) (c9 - (k + 1)) < 2 ^ 20 := Nat.lt_of_le_of_lt (Nat.div_le_self _ _) hy9
        refine lv_aload_n hx hb dX1_readArrangement_15 rfl (lv_at hl 0 rfl) ?_
        refine gx_get (ci := 4) (v := .ref (ad 28)) (C := RX1) (T := TX1) (N := 8) hx hb hts (fun _ h => inX1_readArrangement_RX1 h) hown hK hS 25 (by omega) rfl rfl 4 (by decide) (hts (.fieldLink RX1 26 "CosetTables$Numbering" "ranks" "[I") (by decide +kernel)) rfl dX1_readArrangement_16 ?_
        refine lv_iload hx hb dX1_readArrangement_19 (lv_at hl 4 rfl) ?_
        refine lv_iload_n hx hb dX1_readArrangement_21 rfl (lv_at hl 3 rfl) ?_
        refine lv_aload_n hx hb dX1_readArrangement_22 rfl (lv_at hl 0 rfl) ?_
        refine gx_get (ci := 4) (v := .int (iv1 25 0)) (C := RX1) (T := TX1) (N := 8) hx hb hts (fun _ h => inX1_readArrangement_RX1 h) hown hK hS 25 (by omega) rfl rfl 0 (by decide) (hts (.fieldLink RX1 9 "CosetTables$Numbering" "places" "I") (by decide +kernel)) rfl dX1_readArrangement_23 ?_
        refine gx_as (y := nI P) (by rw [h3 25 (by omega)]; exact hP0) ?_
        refine lv_iload hx hb dX1_readArrangement_26 (lv_at hl 4 rfl) ?_
        refine lv_isub hx hb dX1_readArrangement_28 ?_
        refine gx_as (y := nI (P - k)) (pk_sub (by omega)) ?_
        refine lv_irem hx hb dX1_readArrangement_29 (nI_ne0 (by omega) (by omega)) ?_
        refine gx_as (y := nI (y / prd P (k + 1) (c9 - (k + 1)) % (P - k))) (grem (by omega) (by omega) (by omega)) ?_
        refine gx_iastn hx hb hK hS 28 (by omega) (by decide) k (by omega) (hln _) dX1_readArrangement_30 (fun H locs hS => ?_)
        obtain ⟨iv2, eiv2⟩ : ∃ z, z = up2 iv1 28 k (nI (y / prd P (k + 1) (c9 - (k + 1)) % (P - k))) := ⟨_, rfl⟩
        rw [← eiv2] at hS
        refine lv_iload_n hx hb dX1_readArrangement_31 rfl (lv_at hl 3 rfl) ?_
        refine lv_aload_n hx hb dX1_readArrangement_32 rfl (lv_at hl 0 rfl) ?_
        refine gx_get (ci := 4) (v := .int (iv2 25 0)) (C := RX1) (T := TX1) (N := 8) hx hb hts (fun _ h => inX1_readArrangement_RX1 h) hown hK hS 25 (by omega) rfl rfl 0 (by decide) (hts (.fieldLink RX1 9 "CosetTables$Numbering" "places" "I") (by decide +kernel)) rfl dX1_readArrangement_33 ?_
        refine gx_as (y := nI P) (by rw [eiv2, up2_row (by omega), h3 25 (by omega)]; exact hP0) ?_
        refine lv_iload hx hb dX1_readArrangement_36 (lv_at hl 4 rfl) ?_
        refine lv_isub hx hb dX1_readArrangement_38 ?_
        refine gx_as (y := nI (P - k)) (pk_sub (by omega)) ?_
        refine lv_idiv hx hb dX1_readArrangement_39 (nI_ne0 (by omega) (by omega)) ?_
        refine gx_as (y := nI (y / prd P k (c9 - k))) (by rw [pk_div (by omega) (by omega) (by omega), Nat.div_div_eq_div_mul, prd_s (show k < c9 by omega), Nat.mul_comm]) ?_
        refine lv_istore_n (lv' := [(3, .int (nI (y / prd P k (c9 - k)))), (0, .ref (ad 25)), (1, .int (nI y)), (2, .ref (ad b)), (4, .int (nI k))]) hx hb dX1_readArrangement_40 rfl hl (by decide) rfl (fun ls hl => ?_)
        refine lv_iinc (v := (nI k - 1)) (lv' := [(4, .int (nI k - 1)), (3, .int (nI (y / prd P k (c9 - k)))), (0, .ref (ad 25)), (1, .int (nI y)), (2, .ref (ad b))]) hx hb dX1_readArrangement_41 hl (k := 4) rfl (gm1 _) (by decide) rfl (fun ls hl => ?_)
        refine lv_goto (tgt := 10) hx hb dX1_readArrangement_44 (by decide) ?_
        exact ih10 k iv2 (by omega) (by omega) (fun i g1 g2 => by rw [eiv2, up2_eq]; by_cases e9 : i = k <;> first | (subst e9; rw [if_pos ⟨rfl, rfl⟩]; rfl) | (rw [if_neg (fun q9 => e9 q9.2), h1 i (by omega) g2])) (fun q hq => by rw [eiv2, up2_row hq, h3 q hq]) _ _ _ hS (lv_sub hl [2, 3, 4, 1, 0] rfl)
  exact L10 _ c9 iv (Nat.lt_succ_self _) (Nat.le_refl _) (fun i h1 h2 => absurd h2 (by omega)) (fun _ _ => rfl) _ _ _ hS (lv_sub hl [2, 3, 4, 1, 0] rfl)
set_option maxRecDepth 100000 in
theorem ct_X1_readArrangement (l : Launch) (D : va_G) (cA : Nat → ClassId) (o : Nat → Int64) (ad ln : Nat → Nat) (n sz : Nat) (iv : Nat → Nat → Int32) (y b P c9 : Nat) (pc9 : Nat → Nat) (hn : 68 ≤ n) (hln : ∀ k, ln k < 2 ^ 31) (hc9 : iv 25 5 = nI c9) (hc4 : c9 ≤ 4) (hSb : isS b = true) (hP2 : ln (b + 2) = P) (hP1 : ln (b + 1) = P) (hP : P ≤ 8) (h27 : ln 27 = 4) (hpc : ∀ i, i < c9 → iv 27 i = nI (pc9 i)) (hpi : inj pc9 P c9) (hP0 : iv 25 0 = nI P) (h28 : ln 28 = 4) (hy9 : y < 2 ^ 20) : gMv l yX1_readArrangement wsX1_readArrangement { frames := 1, cells := 0, slots := 0, locals := 24 } D cA o ad ln n sz iv [.ref (ad 25), .int (nI y), .ref (ad b)] (fun iv' => (∃ w, inj w P c9 ∧ (∀ i, i < c9 → iv' (b + 1) (pc9 i) = nI (w i)) ∧ ∀ i, i < c9 → rkw w i = rky P c9 y i) ∧ (∀ p, (∀ i, i < c9 → p ≠ pc9 i) → iv' (b + 1) p = iv (b + 1) p) ∧ ∀ q, q ≠ b + 1 → q ≠ 28 → iv' q = iv q) := by
  refine Met.ofW (cc := cX1_readArrangement) (maxL := 7) (ret := none) (by decide) rfl ?_
  intro p e s m args below meth c s₁ B hml hv__
  obtain ⟨rfl, hv__⟩ := hv__
  obtain ⟨hsz, hS, hK, hN, hA⟩ := gS.entry hv__
  have hl := lv_entry ([.ref (ad 25), .int (nI y), .ref (ad b)]) (n := 7) (Nat.le_of_ble_eq_true rfl)
  rw [lg_entry_eq]
  generalize (lg_sl ([.ref (ad 25), .int (nI y), .ref (ad b)]) ++ List.replicate (7 - (lg_sl ([.ref (ad 25), .int (nI y), .ref (ad b)])).length) Slot.unset).toArray = ls at hl ⊢
  exact bd_X1_readArrangement (y := y) (b := b) (P := P) (c9 := c9) (pc9 := pc9) ⟨B.exec, B.bytes, hml, findClass_of_methodNamed B.named, atoms_spec (ws := wsX1_readArrangement) B.pre, B.returns, B.notSynchronized⟩ (Nat.le_refl _) (Nat.le_refl _) (Nat.le_refl _) (Nat.le_refl _) hK hN hA hn hln hc9 hc4 hSb hP2 hP1 hP h27 hpc hpi hP0 h28 hy9 hS hl (fun iv' H locs ls pc hd hp hS => gx_vret B.exec B.bytes B.returns B.notSynchronized hS hp hd)

theorem inX1_numberOf_RX1 : ∀ {w : Cond}, w ∈ u_ws RX1 TX1 8 → w ∈ wsX1_numberOf := fun {w} h => by first | exact List.mem_cons_of_mem _ (List.mem_append_right _ h) | (revert h; revert w; show ∀ w ∈ u_ws RX1 TX1 8, w ∈ wsX1_numberOf; decide +kernel)
theorem inX1_numberOf_RX3 : ∀ {w : Cond}, w ∈ u_ws RX3 TX3 2 → w ∈ wsX1_numberOf := fun {w} h => by first | exact List.mem_cons_of_mem _ (List.mem_append_right _ h) | (revert h; revert w; show ∀ w ∈ u_ws RX3 TX3 2, w ∈ wsX1_numberOf; decide +kernel)
set_option maxHeartbeats 4000000 in
set_option maxRecDepth 100000 in
theorem bd_X1_numberOf {p : Program} {l : Launch} {e : Env} {R : Room} {s : State} {m : MethodId} {args : Array Value} {below : List Frame} {meth : Method} {c : Code} {H : Heap} {locs : List Loc} {cells slots : Nat} {Q : State → Prop} {ls : Array Slot} {D : va_G} {A : Nat → Prop} {H0 : Heap} {cA : Nat → ClassId} {o : Nat → Int64} {ad ln : Nat → Nat} {iv : Nat → Nat → Int32} {n : Nat} {b P c9 T : Nat} {pc9 w t : Nat → Nat}
    (F : gF p s m meth c cX1_numberOf 7 RX1 wsX1_numberOf args (some .int)) (hRf : 1 ≤ R.frames) (hRl : 20 ≤ R.locals) (hRc : cells ≤ R.cells) (hRs : slots ≤ R.slots) (hK : va_K D vwCl (gT cA) s) (hN : NW s) (hA : ∀ q, H0.size ≤ q → A q) (hn : 68 ≤ n) (hln : ∀ k, ln k < 2 ^ 31) (hc9 : iv 25 5 = nI c9) (hc4 : c9 ≤ 4) (hT0 : iv 25 1 = nI T) (hT1 : 0 < T) (hT3 : T ≤ 3) (hSb : isS b = true) (hP2 : ln (b + 2) = P) (hP1 : ln (b + 1) = P) (hP : P ≤ 8) (h27 : ln 27 = 4) (hpc : ∀ i, i < c9 → iv 27 i = nI (pc9 i)) (hpi : inj pc9 P c9) (hP0 : iv 25 0 = nI P) (hw : ∀ i, i < c9 → iv (b + 1) (pc9 i) = nI (w i)) (ht : ∀ i, i < c9 → iv (b + 2) (pc9 i) = nI (t i)) (hwi : inj w P c9) (htT : ∀ i, i < c9 → t i < T)
    (hS : gS D cA A H0 o ad ln iv n H locs) (hl : lv_has ls 7 [(0, .ref (ad 25)), (1, .ref (ad b))])
    (kret : ∀ (r : Int32) (iv' : Nat → Nat → Int32) (H : Heap) (locs : List Loc) (ls : Array Slot) (pc : Nat), decode cX1_numberOf pc = .ok (.ireturn, 1) → (r = nI (num P T c9 w t) ∧ iv' = iv) → gS D cA A H0 o ad ln iv' n H locs → W p l e R s m args below meth c H locs cells slots Q (F0 m pc ls [.int r])) :
    W p l e R s m args below meth c H locs cells slots Q (F0 m 0 ls []) := by
  obtain ⟨hx, hb, hml, hown, hts, hr, hlocks⟩ := F
  have hb0 := isS_in hSb
  have hcP := inj_le_P hpi
  refine lv_iconst (v := nI 0) hx hb dX1_numberOf_0 (by decide) ?_
  refine lv_istore_n (lv' := [(2, .int (nI 0)), (0, .ref (ad 25)), (1, .ref (ad b))]) hx hb dX1_numberOf_1 rfl hl (by decide) rfl (fun ls hl => ?_)
  refine lv_iconst (v := nI 0) hx hb dX1_numberOf_2 (by decide) ?_
  refine lv_istore_n (lv' := [(3, .int (nI 0)), (2, .int (nI 0)), (0, .ref (ad 25)), (1, .ref (ad b))]) hx hb dX1_numberOf_3 rfl hl (by decide) rfl (fun ls hl => ?_)
  refine lv_iconst (v := nI 0) hx hb dX1_numberOf_4 (by decide) ?_
  refine lv_istore (lv' := [(4, .int (nI 0)), (3, .int (nI 0)), (2, .int (nI 0)), (0, .ref (ad 25)), (1, .ref (ad b))]) hx hb dX1_numberOf_5 hl (by decide) rfl (fun ls hl => ?_)
  have L7 : ∀ (N : Nat) (i : Nat), c9 - i < N → (i ≤ c9) → ∀ (H : Heap) (locs : List Loc) (ls : Array Slot), gS D cA A H0 o ad ln iv n H locs → lv_has ls 7 [(0, .ref (ad 25)), (1, .ref (ad b)), (2, .int (nI (numA P w i))), (3, .int (nI (msk w i))), (4, .int (nI i))] → W p l e R s m args below meth c H locs cells slots Q (F0 m 7 ls []) := by
    intro N
    induction N with
    | zero => intro i hm; exact absurd hm (Nat.not_lt_zero _)
    | succ N ih7 =>
      intro i hm hi H locs ls hS hl
      have hna := numA_lt (inj_le hwi hi)
      have hff := ff_le4 hP (show i ≤ 4 by omega)
      refine lv_iload hx hb dX1_numberOf_7 (lv_at hl 4 rfl) ?_
      refine lv_aload_n hx hb dX1_numberOf_9 rfl (lv_at hl 0 rfl) ?_
      refine gx_get (ci := 4) (v := .int (iv 25 5)) (C := RX1) (T := TX1) (N := 8) hx hb hts (fun _ h => inX1_numberOf_RX1 h) hown hK hS 25 (by omega) rfl rfl 5 (by decide) (hts (.fieldLink RX1 35 "CosetTables$Numbering" "chosenCount" "I") (by decide +kernel)) rfl dX1_numberOf_10 ?_
      refine gx_as (y := nI c9) hc9 ?_
      refine lv_icmp_ge (tgt := 72) hx hb dX1_numberOf_13 (by decide) (fun c_13 => ?_) (fun c_13 => ?_)
      · skip
        rw [nI_leI (by omega) (by omega)] at c_13
        have e9 : c9 = i := by omega
        subst e9
        refine lv_iconst (v := nI 0) hx hb dX1_numberOf_72 (by decide) ?_
        refine lv_istore (lv' := [(4, .int (nI 0)), (0, .ref (ad 25)), (1, .ref (ad b)), (2, .int (nI (numA P w c9))), (3, .int (nI (msk w c9)))]) hx hb dX1_numberOf_73 hl (by decide) rfl (fun ls hl => ?_)
        have L75 : ∀ (N : Nat) (k : Nat), c9 - k < N → (k ≤ c9) → ∀ (H : Heap) (locs : List Loc) (ls : Array Slot), gS D cA A H0 o ad ln iv n H locs → lv_has ls 7 [(0, .ref (ad 25)), (1, .ref (ad b)), (2, .int (nI (numT T t (numA P w c9) k))), (4, .int (nI k))] → W p l e R s m args below meth c H locs cells slots Q (F0 m 75 ls []) := by
          intro N
          induction N with
          | zero => intro k hm; exact absurd hm (Nat.not_lt_zero _)
          | succ N ih75 =>
            intro k hm hk H locs ls hS hl
            have hnt := numT_lt (T := T) (t := t) hna (i := k) (fun j hj => htT j (by omega))
            have hpw := pw_le4 hT3 (show k ≤ 4 by omega)
            have hm9 := Nat.mul_le_mul hff hpw
            refine lv_iload hx hb dX1_numberOf_75 (lv_at hl 3 rfl) ?_
            refine lv_aload_n hx hb dX1_numberOf_77 rfl (lv_at hl 0 rfl) ?_
            refine gx_get (ci := 4) (v := .int (iv 25 5)) (C := RX1) (T := TX1) (N := 8) hx hb hts (fun _ h => inX1_numberOf_RX1 h) hown hK hS 25 (by omega) rfl rfl 5 (by decide) (hts (.fieldLink RX1 35 "CosetTables$Numbering" "chosenCount" "I") (by decide +kernel)) rfl dX1_numberOf_78 ?_
            refine gx_as (y := nI c9) hc9 ?_
            refine lv_icmp_ge (tgt := 110) hx hb dX1_numberOf_81 (by decide) (fun c_81 => ?_) (fun c_81 => ?_)
            · skip
              rw [nI_leI (by omega) (by omega)] at c_81
              refine lv_iload_n hx hb dX1_numberOf_110 rfl (lv_at hl 2 rfl) ?_
              exact kret _ iv _ _ _ _ dX1_numberOf_111 (⟨by rw [show k = c9 by omega]; rfl, rfl⟩) hS
            · skip
              rw [nI_leI (by omega) (by omega)] at c_81
              refine lv_iload_n hx hb dX1_numberOf_84 rfl (lv_at hl 2 rfl) ?_
              refine lv_aload_n hx hb dX1_numberOf_85 rfl (lv_at hl 0 rfl) ?_
              refine gx_get (ci := 4) (v := .int (iv 25 1)) (C := RX1) (T := TX1) (N := 8) hx hb hts (fun _ h => inX1_numberOf_RX1 h) hown hK hS 25 (by omega) rfl rfl 1 (by decide) (hts (.fieldLink RX1 15 "CosetTables$Numbering" "twists" "I") (by decide +kernel)) rfl dX1_numberOf_86 ?_
              refine gx_as (y := nI T) hT0 ?_
              refine lv_imul hx hb dX1_numberOf_89 ?_
              refine gx_as (y := nI ((numT T t (numA P w c9) k) * T)) (pk_mul _ _) ?_
              refine lv_aload_n hx hb dX1_numberOf_90 rfl (lv_at hl 1 rfl) ?_
              refine gx_getN (ci := 6) (v := .ref (ad (b + 2))) (C := RX3) (T := TX3) (N := 2) hx hb hts (fun _ h => inX1_numberOf_RX3 h) hown hK hS b (by omega) (sch_S hSb) rfl 1 (by decide) (nf_RX1_49 hN) rfl dX1_numberOf_91 ?_
              refine lv_aload_n hx hb dX1_numberOf_94 rfl (lv_at hl 0 rfl) ?_
              refine gx_get (ci := 4) (v := .ref (ad 27)) (C := RX1) (T := TX1) (N := 8) hx hb hts (fun _ h => inX1_numberOf_RX1 h) hown hK hS 25 (by omega) rfl rfl 3 (by decide) (hts (.fieldLink RX1 22 "CosetTables$Numbering" "pieces" "[I") (by decide +kernel)) rfl dX1_numberOf_95 ?_
              refine lv_iload hx hb dX1_numberOf_98 (lv_at hl 3 rfl) ?_
              refine gx_ialdn hx hb hK hS 27 (by omega) (by decide) k (by omega) (hln _) dX1_numberOf_100 ?_
              refine gx_as (y := nI (pc9 k)) (hpc k (by omega)) ?_
              have hpk := hpi.1 k (by omega)
              refine gx_ialdn hx hb hK hS (b + 2) (by omega) (isS2 hSb) (pc9 k) (by omega) (hln _) dX1_numberOf_101 ?_
              refine gx_as (y := nI (t k)) (ht k (by omega)) ?_
              refine lv_iadd hx hb dX1_numberOf_102 ?_
              refine gx_as (y := nI (((numT T t (numA P w c9) k) * T) + (t k))) (nI_add _ _) ?_
              refine gx_as (y := nI (numT T t (numA P w c9) (k + 1))) rfl ?_
              refine lv_istore_n (lv' := [(2, .int (nI (numT T t (numA P w c9) (k + 1)))), (0, .ref (ad 25)), (1, .ref (ad b)), (4, .int (nI k))]) hx hb dX1_numberOf_103 rfl hl (by decide) rfl (fun ls hl => ?_)
              refine lv_iinc (v := nI (k + 1)) (lv' := [(4, .int (nI (k + 1))), (2, .int (nI (numT T t (numA P w c9) (k + 1)))), (0, .ref (ad 25)), (1, .ref (ad b))]) hx hb dX1_numberOf_104 hl (k := 3) rfl (nI_1 k) (by decide) rfl (fun ls hl => ?_)
              refine lv_goto (tgt := 75) hx hb dX1_numberOf_107 (by decide) ?_
              exact ih75 (k + 1) (by omega) (by omega) _ _ _ hS (lv_sub hl [2, 3, 1, 0] rfl)
        exact L75 _ 0 (Nat.lt_succ_self _) (Nat.zero_le _) _ _ _ hS (lv_sub hl [1, 2, 3, 0] rfl)
      · skip
        rw [nI_leI (by omega) (by omega)] at c_13
        have hpk := hpi.1 i (by omega)
        have hwk := hwi.1 i (by omega)
        have hmk := msk_lt hP (inj_le hwi hi)
        have hrp := rkw_pop (w := w) (i := i) (by omega)
        have hpw2 : 2 ^ w i ≤ 2 ^ 8 := Nat.pow_le_pow_right (by decide) (by omega)
        have hpos : 0 < 2 ^ w i := Nat.two_pow_pos _
        have hmul := Nat.mul_le_mul (show numA P w i ≤ 4096 by omega) (show P - i ≤ 8 by omega)
        refine lv_aload_n hx hb dX1_numberOf_16 rfl (lv_at hl 1 rfl) ?_
        refine gx_getN (ci := 6) (v := .ref (ad (b + 1))) (C := RX3) (T := TX3) (N := 2) hx hb hts (fun _ h => inX1_numberOf_RX3 h) hown hK hS b (by omega) (sch_S hSb) rfl 0 (by decide) (nf_RX1_38 hN) rfl dX1_numberOf_17 ?_
        refine lv_aload_n hx hb dX1_numberOf_20 rfl (lv_at hl 0 rfl) ?_
        refine gx_get (ci := 4) (v := .ref (ad 27)) (C := RX1) (T := TX1) (N := 8) hx hb hts (fun _ h => inX1_numberOf_RX1 h) hown hK hS 25 (by omega) rfl rfl 3 (by decide) (hts (.fieldLink RX1 22 "CosetTables$Numbering" "pieces" "[I") (by decide +kernel)) rfl dX1_numberOf_21 ?_
        refine lv_iload hx hb dX1_numberOf_24 (lv_at hl 4 rfl) ?_
        refine gx_ialdn hx hb hK hS 27 (by omega) (by decide) i (by omega) (hln _) dX1_numberOf_26 ?_
        refine gx_as (y := nI (pc9 i)) (hpc i (by omega)) ?_
        refine gx_ialdn hx hb hK hS (b + 1) (by omega) (isS1 hSb) (pc9 i) (by omega) (hln _) dX1_numberOf_27 ?_
        refine gx_as (y := nI (w i)) (hw i (by omega)) ?_
        refine lv_istore (lv' := [(5, .int (nI (w i))), (0, .ref (ad 25)), (1, .ref (ad b)), (2, .int (nI (numA P w i))), (3, .int (nI (msk w i))), (4, .int (nI i))]) hx hb dX1_numberOf_28 hl (by decide) rfl (fun ls hl => ?_)
        refine lv_iconst (v := nI 1) hx hb dX1_numberOf_30 (by decide) ?_
        refine lv_iload hx hb dX1_numberOf_31 (lv_at hl 0 rfl) ?_
        refine lv_ishl hx hb dX1_numberOf_33 ?_
        refine gx_as (y := nI (2 ^ w i)) (gshl1 (by omega)) ?_
        refine lv_iconst (v := nI 1) hx hb dX1_numberOf_34 (by decide) ?_
        refine lv_isub hx hb dX1_numberOf_35 ?_
        refine gx_as (y := nI (2 ^ w i - 1)) (pk_sub (by omega)) ?_
        refine lv_istore (lv' := [(6, .int (nI (2 ^ w i - 1))), (5, .int (nI (w i))), (0, .ref (ad 25)), (1, .ref (ad b)), (2, .int (nI (numA P w i))), (3, .int (nI (msk w i))), (4, .int (nI i))]) hx hb dX1_numberOf_36 hl (by decide) rfl (fun ls hl => ?_)
        refine lv_iload_n hx hb dX1_numberOf_38 rfl (lv_at hl 4 rfl) ?_
        refine lv_aload_n hx hb dX1_numberOf_39 rfl (lv_at hl 2 rfl) ?_
        refine gx_get (ci := 4) (v := .int (iv 25 0)) (C := RX1) (T := TX1) (N := 8) hx hb hts (fun _ h => inX1_numberOf_RX1 h) hown hK hS 25 (by omega) rfl rfl 0 (by decide) (hts (.fieldLink RX1 9 "CosetTables$Numbering" "places" "I") (by decide +kernel)) rfl dX1_numberOf_40 ?_
        refine gx_as (y := nI P) hP0 ?_
        refine lv_iload hx hb dX1_numberOf_43 (lv_at hl 6 rfl) ?_
        refine lv_isub hx hb dX1_numberOf_45 ?_
        refine gx_as (y := nI (P - i)) (pk_sub (by omega)) ?_
        refine lv_imul hx hb dX1_numberOf_46 ?_
        refine gx_as (y := nI ((numA P w i) * (P - i))) (pk_mul _ _) ?_
        refine lv_iload hx hb dX1_numberOf_47 (lv_at hl 1 rfl) ?_
        refine lv_iadd hx hb dX1_numberOf_49 ?_
        refine gx_as (y := nI (((numA P w i) * (P - i)) + (w i))) (nI_add _ _) ?_
        refine lv_iload_n hx hb dX1_numberOf_50 rfl (lv_at hl 5 rfl) ?_
        refine lv_iload hx hb dX1_numberOf_51 (lv_at hl 0 rfl) ?_
        refine lv_iand hx hb dX1_numberOf_53 ?_
        refine gx_as (y := nI (msk w i &&& (2 ^ w i - 1))) (nI_and _ _) ?_
        refine gc_i (gx_runS (As := [.int (nI (msk w i &&& (2 ^ w i - 1)))]) (rest := [.int (nI (((numA P w i) * (P - i)) + (w i)))]) ⟨hx, hb, hml, hown, hts⟩ hK hN hS (ct_J6_bitCount_0f7a4 l D cA o ad ln n H.size iv (x := nI (msk w i &&& (2 ^ w i - 1))) trivial hln) (va_cwS 1 hts gX1_numberOf_J6_bitCount_0f7a4 rfl rfl rfl (by decide +kernel) ⟨gle hRf rfl, gle hRl rfl⟩) rfl rfl hl.1 rfl (lv_room (Nat.le_of_ble_eq_true rfl)) dX1_numberOf_54 ⟨hRc, hRs⟩) hS hA (fun y iv1 H locs hp1 hS => ?_)
        obtain ⟨ey, ev1⟩ := hp1
        rw [ev1] at hS
        have hal : msk w i &&& (2 ^ w i - 1) < 256 := Nat.lt_of_le_of_lt Nat.and_le_left hmk
        refine gx_as (y := nI (pop8 (msk w i &&& (2 ^ w i - 1)))) (by rw [ey]; exact bcv_pop _ hal) ?_
        skip
        refine lv_isub hx hb dX1_numberOf_57 ?_
        refine gx_as (y := nI (numA P w (i + 1))) (by rw [pk_sub (by omega)]; show nI _ = nI (numA P w i * (P - i) + rkw w i); congr 1; omega) ?_
        refine lv_istore_n (lv' := [(2, .int (nI (numA P w (i + 1)))), (6, .int (nI (2 ^ w i - 1))), (5, .int (nI (w i))), (0, .ref (ad 25)), (1, .ref (ad b)), (3, .int (nI (msk w i))), (4, .int (nI i))]) hx hb dX1_numberOf_58 rfl hl (by decide) rfl (fun ls hl => ?_)
        refine lv_iload_n hx hb dX1_numberOf_59 rfl (lv_at hl 5 rfl) ?_
        refine lv_iconst (v := nI 1) hx hb dX1_numberOf_60 (by decide) ?_
        refine lv_iload hx hb dX1_numberOf_61 (lv_at hl 2 rfl) ?_
        refine lv_ishl hx hb dX1_numberOf_63 ?_
        refine gx_as (y := nI (2 ^ w i)) (gshl1 (by omega)) ?_
        refine lv_ior hx hb dX1_numberOf_64 ?_
        refine gx_as (y := nI (msk w (i + 1))) (nI_or _ _) ?_
        refine lv_istore_n (lv' := [(3, .int (nI (msk w (i + 1)))), (2, .int (nI (numA P w (i + 1)))), (6, .int (nI (2 ^ w i - 1))), (5, .int (nI (w i))), (0, .ref (ad 25)), (1, .ref (ad b)), (4, .int (nI i))]) hx hb dX1_numberOf_65 rfl hl (by decide) rfl (fun ls hl => ?_)
        refine lv_iinc (v := nI (i + 1)) (lv' := [(4, .int (nI (i + 1))), (3, .int (nI (msk w (i + 1)))), (2, .int (nI (numA P w (i + 1)))), (6, .int (nI (2 ^ w i - 1))), (5, .int (nI (w i))), (0, .ref (ad 25)), (1, .ref (ad b))]) hx hb dX1_numberOf_66 hl (k := 6) rfl (nI_1 i) (by decide) rfl (fun ls hl => ?_)
        refine lv_goto (tgt := 7) hx hb dX1_numberOf_69 (by decide) ?_
        exact ih7 (i + 1) (by omega) (by omega) _ _ _ hS (lv_sub hl [5, 6, 2, 1, 0] rfl)
  exact L7 _ 0 (Nat.lt_succ_self _) (Nat.zero_le _) _ _ _ hS (lv_sub hl [3, 4, 2, 1, 0] rfl)
set_option maxRecDepth 100000 in
theorem ct_X1_numberOf (l : Launch) (D : va_G) (cA : Nat → ClassId) (o : Nat → Int64) (ad ln : Nat → Nat) (n sz : Nat) (iv : Nat → Nat → Int32) (b P c9 T : Nat) (pc9 w t : Nat → Nat) (hn : 68 ≤ n) (hln : ∀ k, ln k < 2 ^ 31) (hc9 : iv 25 5 = nI c9) (hc4 : c9 ≤ 4) (hT0 : iv 25 1 = nI T) (hT1 : 0 < T) (hT3 : T ≤ 3) (hSb : isS b = true) (hP2 : ln (b + 2) = P) (hP1 : ln (b + 1) = P) (hP : P ≤ 8) (h27 : ln 27 = 4) (hpc : ∀ i, i < c9 → iv 27 i = nI (pc9 i)) (hpi : inj pc9 P c9) (hP0 : iv 25 0 = nI P) (hw : ∀ i, i < c9 → iv (b + 1) (pc9 i) = nI (w i)) (ht : ∀ i, i < c9 → iv (b + 2) (pc9 i) = nI (t i)) (hwi : inj w P c9) (htT : ∀ i, i < c9 → t i < T) : gMi l yX1_numberOf wsX1_numberOf { frames := 1, cells := 0, slots := 0, locals := 20 } D cA o ad ln n sz iv [.ref (ad 25), .ref (ad b)] (fun (r : Int32) iv' => r = nI (num P T c9 w t) ∧ iv' = iv) := by
  refine Met.ofW (cc := cX1_numberOf) (maxL := 7) (ret := (some .int)) (by decide) rfl ?_
  intro p e s m args below meth c s₁ B hml hv__
  obtain ⟨rfl, hv__⟩ := hv__
  obtain ⟨hsz, hS, hK, hN, hA⟩ := gS.entry hv__
  have hl := lv_entry ([.ref (ad 25), .ref (ad b)]) (n := 7) (Nat.le_of_ble_eq_true rfl)
  rw [lg_entry_eq]
  generalize (lg_sl ([.ref (ad 25), .ref (ad b)]) ++ List.replicate (7 - (lg_sl ([.ref (ad 25), .ref (ad b)])).length) Slot.unset).toArray = ls at hl ⊢
  exact bd_X1_numberOf (b := b) (P := P) (c9 := c9) (T := T) (pc9 := pc9) (w := w) (t := t) ⟨B.exec, B.bytes, hml, findClass_of_methodNamed B.named, atoms_spec (ws := wsX1_numberOf) B.pre, B.returns, B.notSynchronized⟩ (Nat.le_refl _) (Nat.le_refl _) (Nat.le_refl _) (Nat.le_refl _) hK hN hA hn hln hc9 hc4 hT0 hT1 hT3 hSb hP2 hP1 hP h27 hpc hpi hP0 hw ht hwi htT hS hl (fun r iv' H locs ls pc hd hp hS => gx_iret B.exec B.bytes B.returns B.notSynchronized hS hp hd)
