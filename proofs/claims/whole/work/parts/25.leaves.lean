theorem inX1_twistingSum_RX1 : ∀ {w : Cond}, w ∈ u_ws RX1 TX1 8 → w ∈ wsX1_twistingSum := fun {w} h => by first | exact List.mem_cons_of_mem _ (List.mem_append_right _ h) | (revert h; revert w; show ∀ w ∈ u_ws RX1 TX1 8, w ∈ wsX1_twistingSum; decide +kernel)
set_option maxHeartbeats 4000000 in
set_option maxRecDepth 100000 in
theorem bd_X1_twistingSum {p : Program} {l : Launch} {e : Env} {R : Room} {s : State} {m : MethodId} {args : Array Value} {below : List Frame} {meth : Method} {c : Code} {H : Heap} {locs : List Loc} {cells slots : Nat} {Q : State → Prop} {ls : Array Slot} {D : va_G} {A : Nat → Prop} {H0 : Heap} {cA : Nat → ClassId} {o : Nat → Int64} {ad ln : Nat → Nat} {iv : Nat → Nat → Int32} {n : Nat} {a b c9 T : Nat}
    (F : gF p s m meth c cX1_twistingSum 8 RX1 wsX1_twistingSum args (some .int)) (hRf : 0 ≤ R.frames) (hRl : 0 ≤ R.locals) (hRc : cells ≤ R.cells) (hRs : slots ≤ R.slots) (hK : va_K D vwCl (gT cA) s) (hN : NW s) (hA : ∀ q, H0.size ≤ q → A q) (hn : 68 ≤ n) (hln : ∀ k, ln k < 2 ^ 31) (hc9 : iv 25 5 = nI c9) (hc4 : c9 ≤ 4) (hT0 : iv 25 1 = nI T) (hT1 : 0 < T) (hT3 : T ≤ 3) (ha : a < 2 ^ 20) (hb9 : b < 2 ^ 20)
    (hS : gS D cA A H0 o ad ln iv n H locs) (hl : lv_has ls 8 [(0, .ref (ad 25)), (1, .int (nI a)), (2, .int (nI b))])
    (kret : ∀ (r : Int32) (iv' : Nat → Nat → Int32) (H : Heap) (locs : List Loc) (ls : Array Slot) (pc : Nat), decode cX1_twistingSum pc = .ok (.ireturn, 1) → (r = nI (tsum T c9 a b) ∧ iv' = iv) → gS D cA A H0 o ad ln iv' n H locs → W p l e R s m args below meth c H locs cells slots Q (F0 m pc ls [.int r])) :
    W p l e R s m args below meth c H locs cells slots Q (F0 m 0 ls []) := by
  obtain ⟨hx, hb, hml, hown, hts, hr, hlocks⟩ := F
  have hts9 := tsum_lt hT1 c9 a b
  have hp9 := pw_le4 hT3 hc4
  refine lv_iconst (v := nI 0) hx hb dX1_twistingSum_0 (by decide) ?_
  refine lv_istore_n (lv' := [(3, .int (nI 0)), (0, .ref (ad 25)), (1, .int (nI a)), (2, .int (nI b))]) hx hb dX1_twistingSum_1 rfl hl (by decide) rfl (fun ls hl => ?_)
  refine lv_iconst (v := nI 1) hx hb dX1_twistingSum_2 (by decide) ?_
  refine lv_istore (lv' := [(4, .int (nI 1)), (3, .int (nI 0)), (0, .ref (ad 25)), (1, .int (nI a)), (2, .int (nI b))]) hx hb dX1_twistingSum_3 hl (by decide) rfl (fun ls hl => ?_)
  refine lv_iload_n hx hb dX1_twistingSum_5 rfl (lv_at hl 3 rfl) ?_
  refine lv_istore (lv' := [(5, .int (nI a)), (4, .int (nI 1)), (3, .int (nI 0)), (0, .ref (ad 25)), (1, .int (nI a)), (2, .int (nI b))]) hx hb dX1_twistingSum_6 hl (by decide) rfl (fun ls hl => ?_)
  refine lv_iload_n hx hb dX1_twistingSum_8 rfl (lv_at hl 5 rfl) ?_
  refine lv_istore (lv' := [(6, .int (nI b)), (5, .int (nI a)), (4, .int (nI 1)), (3, .int (nI 0)), (0, .ref (ad 25)), (1, .int (nI a)), (2, .int (nI b))]) hx hb dX1_twistingSum_9 hl (by decide) rfl (fun ls hl => ?_)
  refine lv_iconst (v := nI 0) hx hb dX1_twistingSum_11 (by decide) ?_
  refine lv_istore (lv' := [(7, .int (nI 0)), (6, .int (nI b)), (5, .int (nI a)), (4, .int (nI 1)), (3, .int (nI 0)), (0, .ref (ad 25)), (1, .int (nI a)), (2, .int (nI b))]) hx hb dX1_twistingSum_12 hl (by decide) rfl (fun ls hl => ?_)
  have L14 : ∀ (N : Nat) (i sm x y : Nat), c9 - i < N → (i ≤ c9) → (x < 2 ^ 20) → (y < 2 ^ 20) → (sm + T ^ i * tsum T (c9 - i) x y = tsum T c9 a b) → ∀ (H : Heap) (locs : List Loc) (ls : Array Slot), gS D cA A H0 o ad ln iv n H locs → lv_has ls 8 [(0, .ref (ad 25)), (1, .int (nI a)), (2, .int (nI b)), (3, .int (nI sm)), (4, .int (nI (T ^ i))), (5, .int (nI x)), (6, .int (nI y)), (7, .int (nI i))] → W p l e R s m args below meth c H locs cells slots Q (F0 m 14 ls []) := by
    intro N
    induction N with
    | zero => intro i sm x y hm; exact absurd hm (Nat.not_lt_zero _)
    | succ N ih14 =>
      intro i sm x y hm hi hx9 hy9 hI H locs ls hS hl
      have hpi := pw_le4 hT3 (show i ≤ 4 by omega)
      refine lv_iload hx hb dX1_twistingSum_14 (lv_at hl 7 rfl) ?_
      refine lv_aload_n hx hb dX1_twistingSum_16 rfl (lv_at hl 0 rfl) ?_
      refine gx_get (ci := 4) (v := .int (iv 25 5)) (C := RX1) (T := TX1) (N := 8) hx hb hts (fun _ h => inX1_twistingSum_RX1 h) hown hK hS 25 (by omega) rfl rfl 5 (by decide) (hts (.fieldLink RX1 35 "CosetTables$Numbering" "chosenCount" "I") (by decide +kernel)) rfl dX1_twistingSum_17 ?_
      refine gx_as (y := nI c9) hc9 ?_
      refine lv_icmp_ge (tgt := 72) hx hb dX1_twistingSum_20 (by decide) (fun c_20 => ?_) (fun c_20 => ?_)
      · skip
        rw [nI_leI (by omega) (by omega)] at c_20
        have e9 : c9 - i = 0 := by omega
        rw [e9] at hI
        simp [tsum] at hI
        refine lv_iload_n hx hb dX1_twistingSum_72 rfl (lv_at hl 3 rfl) ?_
        exact kret _ iv _ _ _ _ dX1_twistingSum_73 (⟨by rw [hI], rfl⟩) hS
      · skip
        rw [nI_leI (by omega) (by omega)] at c_20
        have hcs : c9 - i = (c9 - (i + 1)) + 1 := by omega
        have hmm := Nat.mod_lt (x + y) hT1
        have hm2 := Nat.mul_le_mul (show (x + y) % T ≤ 3 by omega) hpi
        refine lv_iload_n hx hb dX1_twistingSum_23 rfl (lv_at hl 3 rfl) ?_
        refine lv_iload hx hb dX1_twistingSum_24 (lv_at hl 5 rfl) ?_
        refine lv_iload hx hb dX1_twistingSum_26 (lv_at hl 6 rfl) ?_
        refine lv_iadd hx hb dX1_twistingSum_28 ?_
        refine gx_as (y := nI (x + y)) (nI_add _ _) ?_
        refine lv_aload_n hx hb dX1_twistingSum_29 rfl (lv_at hl 0 rfl) ?_
        refine gx_get (ci := 4) (v := .int (iv 25 1)) (C := RX1) (T := TX1) (N := 8) hx hb hts (fun _ h => inX1_twistingSum_RX1 h) hown hK hS 25 (by omega) rfl rfl 1 (by decide) (hts (.fieldLink RX1 15 "CosetTables$Numbering" "twists" "I") (by decide +kernel)) rfl dX1_twistingSum_30 ?_
        refine gx_as (y := nI T) hT0 ?_
        refine lv_irem hx hb dX1_twistingSum_33 (nI_ne0 hT1 (by omega)) ?_
        refine gx_as (y := nI ((x + y) % T)) (grem (by omega) hT1 (by omega)) ?_
        refine lv_iload hx hb dX1_twistingSum_34 (lv_at hl 4 rfl) ?_
        refine lv_imul hx hb dX1_twistingSum_36 ?_
        refine gx_as (y := nI (((x + y) % T) * (T ^ i))) (pk_mul _ _) ?_
        refine lv_iadd hx hb dX1_twistingSum_37 ?_
        refine gx_as (y := nI (sm + (((x + y) % T) * (T ^ i)))) (nI_add _ _) ?_
        refine lv_istore_n (lv' := [(3, .int (nI (sm + (((x + y) % T) * (T ^ i))))), (0, .ref (ad 25)), (1, .int (nI a)), (2, .int (nI b)), (4, .int (nI (T ^ i))), (5, .int (nI x)), (6, .int (nI y)), (7, .int (nI i))]) hx hb dX1_twistingSum_38 rfl hl (by decide) rfl (fun ls hl => ?_)
        refine lv_iload hx hb dX1_twistingSum_39 (lv_at hl 5 rfl) ?_
        refine lv_aload_n hx hb dX1_twistingSum_41 rfl (lv_at hl 1 rfl) ?_
        refine gx_get (ci := 4) (v := .int (iv 25 1)) (C := RX1) (T := TX1) (N := 8) hx hb hts (fun _ h => inX1_twistingSum_RX1 h) hown hK hS 25 (by omega) rfl rfl 1 (by decide) (hts (.fieldLink RX1 15 "CosetTables$Numbering" "twists" "I") (by decide +kernel)) rfl dX1_twistingSum_42 ?_
        refine gx_as (y := nI T) hT0 ?_
        refine lv_idiv hx hb dX1_twistingSum_45 (nI_ne0 hT1 (by omega)) ?_
        refine gx_as (y := nI (x / T)) (pk_div (by omega) hT1 (by omega)) ?_
        refine lv_istore (lv' := [(5, .int (nI (x / T))), (3, .int (nI (sm + (((x + y) % T) * (T ^ i))))), (0, .ref (ad 25)), (1, .int (nI a)), (2, .int (nI b)), (4, .int (nI (T ^ i))), (6, .int (nI y)), (7, .int (nI i))]) hx hb dX1_twistingSum_46 hl (by decide) rfl (fun ls hl => ?_)
        refine lv_iload hx hb dX1_twistingSum_48 (lv_at hl 6 rfl) ?_
        refine lv_aload_n hx hb dX1_twistingSum_50 rfl (lv_at hl 2 rfl) ?_
        refine gx_get (ci := 4) (v := .int (iv 25 1)) (C := RX1) (T := TX1) (N := 8) hx hb hts (fun _ h => inX1_twistingSum_RX1 h) hown hK hS 25 (by omega) rfl rfl 1 (by decide) (hts (.fieldLink RX1 15 "CosetTables$Numbering" "twists" "I") (by decide +kernel)) rfl dX1_twistingSum_51 ?_
        refine gx_as (y := nI T) hT0 ?_
        refine lv_idiv hx hb dX1_twistingSum_54 (nI_ne0 hT1 (by omega)) ?_
        refine gx_as (y := nI (y / T)) (pk_div (by omega) hT1 (by omega)) ?_
        refine lv_istore (lv' := [(6, .int (nI (y / T))), (5, .int (nI (x / T))), (3, .int (nI (sm + (((x + y) % T) * (T ^ i))))), (0, .ref (ad 25)), (1, .int (nI a)), (2, .int (nI b)), (4, .int (nI (T ^ i))), (7, .int (nI i))]) hx hb dX1_twistingSum_55 hl (by decide) rfl (fun ls hl => ?_)
        refine lv_iload hx hb dX1_twistingSum_57 (lv_at hl 6 rfl) ?_
        refine lv_aload_n hx hb dX1_twistingSum_59 rfl (lv_at hl 3 rfl) ?_
        refine gx_get (ci := 4) (v := .int (iv 25 1)) (C := RX1) (T := TX1) (N := 8) hx hb hts (fun _ h => inX1_twistingSum_RX1 h) hown hK hS 25 (by omega) rfl rfl 1 (by decide) (hts (.fieldLink RX1 15 "CosetTables$Numbering" "twists" "I") (by decide +kernel)) rfl dX1_twistingSum_60 ?_
        refine gx_as (y := nI T) hT0 ?_
        refine lv_imul hx hb dX1_twistingSum_63 ?_
        refine gx_as (y := nI (T ^ (i + 1))) (by rw [pk_mul, Nat.pow_succ]) ?_
        refine lv_istore (lv' := [(4, .int (nI (T ^ (i + 1)))), (6, .int (nI (y / T))), (5, .int (nI (x / T))), (3, .int (nI (sm + (((x + y) % T) * (T ^ i))))), (0, .ref (ad 25)), (1, .int (nI a)), (2, .int (nI b)), (7, .int (nI i))]) hx hb dX1_twistingSum_64 hl (by decide) rfl (fun ls hl => ?_)
        refine lv_iinc (v := nI (i + 1)) (lv' := [(7, .int (nI (i + 1))), (4, .int (nI (T ^ (i + 1)))), (6, .int (nI (y / T))), (5, .int (nI (x / T))), (3, .int (nI (sm + (((x + y) % T) * (T ^ i))))), (0, .ref (ad 25)), (1, .int (nI a)), (2, .int (nI b))]) hx hb dX1_twistingSum_66 hl (k := 7) rfl (nI_1 i) (by decide) rfl (fun ls hl => ?_)
        refine lv_goto (tgt := 14) hx hb dX1_twistingSum_69 (by decide) ?_
        exact ih14 (i + 1) (sm + (x + y) % T * T ^ i) (x / T) (y / T) (by omega) (by omega) (Nat.lt_of_le_of_lt (Nat.div_le_self _ _) hx9) (Nat.lt_of_le_of_lt (Nat.div_le_self _ _) hy9) (by rw [← hI, hcs, tsum, Nat.mul_add, Nat.pow_succ, Nat.add_assoc, Nat.mul_assoc, Nat.mul_comm (T ^ i) ((x + y) % T)]) _ _ _ hS (lv_sub hl [5, 6, 7, 4, 1, 3, 2, 0] rfl)
  exact L14 _ 0 0 a b (Nat.lt_succ_self _) (Nat.zero_le _) ha hb9 (by simp) _ _ _ hS (lv_sub hl [5, 6, 7, 4, 3, 2, 1, 0] rfl)
set_option maxRecDepth 100000 in
theorem ct_X1_twistingSum (l : Launch) (D : va_G) (cA : Nat → ClassId) (o : Nat → Int64) (ad ln : Nat → Nat) (n sz : Nat) (iv : Nat → Nat → Int32) (a b c9 T : Nat) (hn : 68 ≤ n) (hln : ∀ k, ln k < 2 ^ 31) (hc9 : iv 25 5 = nI c9) (hc4 : c9 ≤ 4) (hT0 : iv 25 1 = nI T) (hT1 : 0 < T) (hT3 : T ≤ 3) (ha : a < 2 ^ 20) (hb9 : b < 2 ^ 20) : gMi l yX1_twistingSum wsX1_twistingSum { frames := 0, cells := 0, slots := 0, locals := 0 } D cA o ad ln n sz iv [.ref (ad 25), .int (nI a), .int (nI b)] (fun (r : Int32) iv' => r = nI (tsum T c9 a b) ∧ iv' = iv) := by
  refine Met.ofW (cc := cX1_twistingSum) (maxL := 8) (ret := (some .int)) (by decide) rfl ?_
  intro p e s m args below meth c s₁ B hml hv__
  obtain ⟨rfl, hv__⟩ := hv__
  obtain ⟨hsz, hS, hK, hN, hA⟩ := gS.entry hv__
  have hl := lv_entry ([.ref (ad 25), .int (nI a), .int (nI b)]) (n := 8) (Nat.le_of_ble_eq_true rfl)
  rw [lg_entry_eq]
  generalize (lg_sl ([.ref (ad 25), .int (nI a), .int (nI b)]) ++ List.replicate (8 - (lg_sl ([.ref (ad 25), .int (nI a), .int (nI b)])).length) Slot.unset).toArray = ls at hl ⊢
  exact bd_X1_twistingSum (a := a) (b := b) (c9 := c9) (T := T) ⟨B.exec, B.bytes, hml, findClass_of_methodNamed B.named, atoms_spec (ws := wsX1_twistingSum) B.pre, B.returns, B.notSynchronized⟩ (Nat.le_refl _) (Nat.le_refl _) (Nat.le_refl _) (Nat.le_refl _) hK hN hA hn hln hc9 hc4 hT0 hT1 hT3 ha hb9 hS hl (fun r iv' H locs ls pc hd hp hS => gx_iret B.exec B.bytes B.returns B.notSynchronized hS hp hd)

theorem inX1_readTwisting_RX1 : ∀ {w : Cond}, w ∈ u_ws RX1 TX1 8 → w ∈ wsX1_readTwisting := fun {w} h => by first | exact List.mem_cons_of_mem _ (List.mem_append_right _ h) | (revert h; revert w; show ∀ w ∈ u_ws RX1 TX1 8, w ∈ wsX1_readTwisting; decide +kernel)
theorem inX1_readTwisting_RX3 : ∀ {w : Cond}, w ∈ u_ws RX3 TX3 2 → w ∈ wsX1_readTwisting := fun {w} h => by first | exact List.mem_cons_of_mem _ (List.mem_append_right _ h) | (revert h; revert w; show ∀ w ∈ u_ws RX3 TX3 2, w ∈ wsX1_readTwisting; decide +kernel)
set_option maxHeartbeats 4000000 in
set_option maxRecDepth 100000 in
theorem bd_X1_readTwisting {p : Program} {l : Launch} {e : Env} {R : Room} {s : State} {m : MethodId} {args : Array Value} {below : List Frame} {meth : Method} {c : Code} {H : Heap} {locs : List Loc} {cells slots : Nat} {Q : State → Prop} {ls : Array Slot} {D : va_G} {A : Nat → Prop} {H0 : Heap} {cA : Nat → ClassId} {o : Nat → Int64} {ad ln : Nat → Nat} {iv : Nat → Nat → Int32} {n : Nat} {x b P c9 T : Nat} {pc9 : Nat → Nat}
    (F : gF p s m meth c cX1_readTwisting 5 RX1 wsX1_readTwisting args none) (hRf : 0 ≤ R.frames) (hRl : 0 ≤ R.locals) (hRc : cells ≤ R.cells) (hRs : slots ≤ R.slots) (hK : va_K D vwCl (gT cA) s) (hN : NW s) (hA : ∀ q, H0.size ≤ q → A q) (hn : 68 ≤ n) (hln : ∀ k, ln k < 2 ^ 31) (hc9 : iv 25 5 = nI c9) (hc4 : c9 ≤ 4) (hT0 : iv 25 1 = nI T) (hT1 : 0 < T) (hT3 : T ≤ 3) (hSb : isS b = true) (hP2 : ln (b + 2) = P) (hP1 : ln (b + 1) = P) (hP : P ≤ 8) (h27 : ln 27 = 4) (hpc : ∀ i, i < c9 → iv 27 i = nI (pc9 i)) (hpi : inj pc9 P c9) (hx9 : x < 2 ^ 20)
    (hS : gS D cA A H0 o ad ln iv n H locs) (hl : lv_has ls 5 [(0, .ref (ad 25)), (1, .int (nI x)), (2, .ref (ad b))])
    (kret : ∀ (iv' : Nat → Nat → Int32) (H : Heap) (locs : List Loc) (ls : Array Slot) (pc : Nat), decode cX1_readTwisting pc = .ok (.return_, 1) → ((∀ i, i < c9 → iv' (b + 2) (pc9 i) = nI (x / T ^ (c9 - 1 - i) % T)) ∧ (∀ p, (∀ i, i < c9 → p ≠ pc9 i) → iv' (b + 2) p = iv (b + 2) p) ∧ ∀ q, q ≠ b + 2 → iv' q = iv q) → gS D cA A H0 o ad ln iv' n H locs → W p l e R s m args below meth c H locs cells slots Q (F0 m pc ls [])) :
    W p l e R s m args below meth c H locs cells slots Q (F0 m 0 ls []) := by
  obtain ⟨hx, hb, hml, hown, hts, hr, hlocks⟩ := F
  have hb0 := isS_in hSb
  refine lv_iload_n hx hb dX1_readTwisting_0 rfl (lv_at hl 1 rfl) ?_
  refine gx_as (y := nI (x / T ^ (c9 - c9))) (by rw [Nat.sub_self, Nat.pow_zero, Nat.div_one]) ?_
  refine lv_istore_n (lv' := [(3, .int (nI (x / T ^ (c9 - c9)))), (0, .ref (ad 25)), (1, .int (nI x)), (2, .ref (ad b))]) hx hb dX1_readTwisting_1 rfl hl (by decide) rfl (fun ls hl => ?_)
  refine lv_aload_n hx hb dX1_readTwisting_2 rfl (lv_at hl 1 rfl) ?_
  refine gx_get (ci := 4) (v := .int (iv 25 5)) (C := RX1) (T := TX1) (N := 8) hx hb hts (fun _ h => inX1_readTwisting_RX1 h) hown hK hS 25 (by omega) rfl rfl 5 (by decide) (hts (.fieldLink RX1 35 "CosetTables$Numbering" "chosenCount" "I") (by decide +kernel)) rfl dX1_readTwisting_3 ?_
  refine gx_as (y := nI c9) hc9 ?_
  refine lv_iconst (v := nI 1) hx hb dX1_readTwisting_6 (by decide) ?_
  refine lv_isub hx hb dX1_readTwisting_7 ?_
  refine gx_as (y := (nI c9 - 1)) rfl ?_
  refine lv_istore (lv' := [(4, .int (nI c9 - 1)), (3, .int (nI (x / T ^ (c9 - c9)))), (0, .ref (ad 25)), (1, .int (nI x)), (2, .ref (ad b))]) hx hb dX1_readTwisting_8 hl (by decide) rfl (fun ls hl => ?_)
  have L10 : ∀ (N : Nat) (k : Nat) (iv1 : Nat → Nat → Int32), k < N → (k ≤ c9) → (∀ i, k ≤ i → i < c9 → iv1 (b + 2) (pc9 i) = nI (x / T ^ (c9 - 1 - i) % T)) → (∀ p, (∀ i, i < c9 → p ≠ pc9 i) → iv1 (b + 2) p = iv (b + 2) p) → (∀ q, q ≠ b + 2 → iv1 q = iv q) → ∀ (H : Heap) (locs : List Loc) (ls : Array Slot), gS D cA A H0 o ad ln iv1 n H locs → lv_has ls 5 [(0, .ref (ad 25)), (1, .int (nI x)), (2, .ref (ad b)), (3, .int (nI (x / T ^ (c9 - k)))), (4, .int (nI k - 1))] → W p l e R s m args below meth c H locs cells slots Q (F0 m 10 ls []) := by
    intro N
    induction N with
    | zero => intro k iv1 hm; exact absurd hm (Nat.not_lt_zero _)
    | succ N ih10 =>
      intro k iv1 hm hk h1 h2 h3 H locs ls hS hl
      refine lv_iload hx hb dX1_readTwisting_10 (lv_at hl 4 rfl) ?_
      refine lv_if_lt (tgt := 46) hx hb dX1_readTwisting_12 (by decide) (fun c_12 => ?_) (fun c_12 => ?_)
      · skip
        have ek : k = 0 := by
          rcases Nat.eq_zero_or_pos k with q | q
          · exact q
          · exfalso
            obtain ⟨k, rfl⟩ : ∃ z, k = z + 1 := ⟨k - 1, by omega⟩
            rw [nI_pred] at c_12
            exact nI_pos (by omega) c_12
        subst ek
        exact kret iv1 _ _ _ _ dX1_readTwisting_46 (⟨fun i hi => h1 i (Nat.zero_le _) hi, h2, h3⟩) hS
      · skip
        obtain ⟨k, rfl⟩ : ∃ z, k = z + 1 := by
          rcases Nat.eq_zero_or_pos k with q | q
          · subst q; exact absurd gm1_0 c_12
          · exact ⟨k - 1, by omega⟩
        rw [nI_pred] at hl
        have hle : x / T ^ (c9 - (k + 1)) < 2 ^ 20 := Nat.lt_of_le_of_lt (Nat.div_le_self _ _) hx9
        have hpk := hpi.1 k (by omega)
        refine lv_aload_n hx hb dX1_readTwisting_15 rfl (lv_at hl 2 rfl) ?_
        refine gx_getN (ci := 6) (v := .ref (ad (b + 2))) (C := RX3) (T := TX3) (N := 2) hx hb hts (fun _ h => inX1_readTwisting_RX3 h) hown hK hS b (by omega) (sch_S hSb) rfl 1 (by decide) (nf_RX1_49 hN) rfl dX1_readTwisting_16 ?_
        refine lv_aload_n hx hb dX1_readTwisting_19 rfl (lv_at hl 0 rfl) ?_
        refine gx_get (ci := 4) (v := .ref (ad 27)) (C := RX1) (T := TX1) (N := 8) hx hb hts (fun _ h => inX1_readTwisting_RX1 h) hown hK hS 25 (by omega) rfl rfl 3 (by decide) (hts (.fieldLink RX1 22 "CosetTables$Numbering" "pieces" "[I") (by decide +kernel)) rfl dX1_readTwisting_20 ?_
        refine lv_iload hx hb dX1_readTwisting_23 (lv_at hl 4 rfl) ?_
        refine gx_ialdn hx hb hK hS 27 (by omega) (by decide) k (by omega) (hln _) dX1_readTwisting_25 ?_
        refine gx_as (y := nI (pc9 k)) (by rw [h3 27 (by omega)]; exact hpc k (by omega)) ?_
        refine lv_iload_n hx hb dX1_readTwisting_26 rfl (lv_at hl 3 rfl) ?_
        refine lv_aload_n hx hb dX1_readTwisting_27 rfl (lv_at hl 0 rfl) ?_
        refine gx_get (ci := 4) (v := .int (iv1 25 1)) (C := RX1) (T := TX1) (N := 8) hx hb hts (fun _ h => inX1_readTwisting_RX1 h) hown hK hS 25 (by omega) rfl rfl 1 (by decide) (hts (.fieldLink RX1 15 "CosetTables$Numbering" "twists" "I") (by decide +kernel)) rfl dX1_readTwisting_28 ?_
        refine gx_as (y := nI T) (by rw [h3 25 (by omega)]; exact hT0) ?_
        refine lv_irem hx hb dX1_readTwisting_31 (nI_ne0 hT1 (by omega)) ?_
        refine gx_as (y := nI (x / T ^ (c9 - (k + 1)) % T)) (grem (by omega) hT1 (by omega)) ?_
        refine gx_iastn hx hb hK hS (b + 2) (by omega) (isS2 hSb) (pc9 k) (by omega) (hln _) dX1_readTwisting_32 (fun H locs hS => ?_)
        obtain ⟨iv2, eiv2⟩ : ∃ z, z = up2 iv1 (b + 2) (pc9 k) (nI (x / T ^ (c9 - (k + 1)) % T)) := ⟨_, rfl⟩
        rw [← eiv2] at hS
        refine lv_iload_n hx hb dX1_readTwisting_33 rfl (lv_at hl 3 rfl) ?_
        refine lv_aload_n hx hb dX1_readTwisting_34 rfl (lv_at hl 0 rfl) ?_
        refine gx_get (ci := 4) (v := .int (iv2 25 1)) (C := RX1) (T := TX1) (N := 8) hx hb hts (fun _ h => inX1_readTwisting_RX1 h) hown hK hS 25 (by omega) rfl rfl 1 (by decide) (hts (.fieldLink RX1 15 "CosetTables$Numbering" "twists" "I") (by decide +kernel)) rfl dX1_readTwisting_35 ?_
        refine gx_as (y := nI T) (by rw [eiv2, up2_row (by omega), h3 25 (by omega)]; exact hT0) ?_
        refine lv_idiv hx hb dX1_readTwisting_38 (nI_ne0 hT1 (by omega)) ?_
        refine gx_as (y := nI (x / T ^ (c9 - k))) (by rw [pk_div (by omega) hT1 (by omega), Nat.div_div_eq_div_mul, ← Nat.pow_succ, show (c9 - (k + 1)).succ = c9 - k by omega]) ?_
        refine lv_istore_n (lv' := [(3, .int (nI (x / T ^ (c9 - k)))), (0, .ref (ad 25)), (1, .int (nI x)), (2, .ref (ad b)), (4, .int (nI k))]) hx hb dX1_readTwisting_39 rfl hl (by decide) rfl (fun ls hl => ?_)
        refine lv_iinc (v := (nI k - 1)) (lv' := [(4, .int (nI k - 1)), (3, .int (nI (x / T ^ (c9 - k)))), (0, .ref (ad 25)), (1, .int (nI x)), (2, .ref (ad b))]) hx hb dX1_readTwisting_40 hl (k := 4) rfl (gm1 _) (by decide) rfl (fun ls hl => ?_)
        refine lv_goto (tgt := 10) hx hb dX1_readTwisting_43 (by decide) ?_
        exact ih10 k iv2 (by omega) (by omega) (fun i g1 g2 => by rw [eiv2, up2_eq]; by_cases e9 : i = k <;> first | (subst e9; rw [if_pos ⟨rfl, rfl⟩, show c9 - (i + 1) = c9 - 1 - i by omega]; done) | (rw [if_neg (fun q9 => e9 (hpi.2 i k g2 (by omega) q9.2)), h1 i (by omega) g2])) (fun p hp => by rw [eiv2, up2_n (fun q9 => hp k (by omega) q9.2), h2 p hp]) (fun q hq => by rw [eiv2, up2_row hq, h3 q hq]) _ _ _ hS (lv_sub hl [2, 3, 4, 1, 0] rfl)
  exact L10 _ c9 iv (Nat.lt_succ_self _) (Nat.le_refl _) (fun i h1 h2 => absurd h2 (by omega)) (fun _ _ => rfl) (fun _ _ => rfl) _ _ _ hS (lv_sub hl [2, 3, 4, 1, 0] rfl)
set_option maxRecDepth 100000 in
theorem ct_X1_readTwisting (l : Launch) (D : va_G) (cA : Nat → ClassId) (o : Nat → Int64) (ad ln : Nat → Nat) (n sz : Nat) (iv : Nat → Nat → Int32) (x b P c9 T : Nat) (pc9 : Nat → Nat) (hn : 68 ≤ n) (hln : ∀ k, ln k < 2 ^ 31) (hc9 : iv 25 5 = nI c9) (hc4 : c9 ≤ 4) (hT0 : iv 25 1 = nI T) (hT1 : 0 < T) (hT3 : T ≤ 3) (hSb : isS b = true) (hP2 : ln (b + 2) = P) (hP1 : ln (b + 1) = P) (hP : P ≤ 8) (h27 : ln 27 = 4) (hpc : ∀ i, i < c9 → iv 27 i = nI (pc9 i)) (hpi : inj pc9 P c9) (hx9 : x < 2 ^ 20) : gMv l yX1_readTwisting wsX1_readTwisting { frames := 0, cells := 0, slots := 0, locals := 0 } D cA o ad ln n sz iv [.ref (ad 25), .int (nI x), .ref (ad b)] (fun iv' => (∀ i, i < c9 → iv' (b + 2) (pc9 i) = nI (x / T ^ (c9 - 1 - i) % T)) ∧ (∀ p, (∀ i, i < c9 → p ≠ pc9 i) → iv' (b + 2) p = iv (b + 2) p) ∧ ∀ q, q ≠ b + 2 → iv' q = iv q) := by
  refine Met.ofW (cc := cX1_readTwisting) (maxL := 5) (ret := none) (by decide) rfl ?_
  intro p e s m args below meth c s₁ B hml hv__
  obtain ⟨rfl, hv__⟩ := hv__
  obtain ⟨hsz, hS, hK, hN, hA⟩ := gS.entry hv__
  have hl := lv_entry ([.ref (ad 25), .int (nI x), .ref (ad b)]) (n := 5) (Nat.le_of_ble_eq_true rfl)
  rw [lg_entry_eq]
  generalize (lg_sl ([.ref (ad 25), .int (nI x), .ref (ad b)]) ++ List.replicate (5 - (lg_sl ([.ref (ad 25), .int (nI x), .ref (ad b)])).length) Slot.unset).toArray = ls at hl ⊢
  exact bd_X1_readTwisting (x := x) (b := b) (P := P) (c9 := c9) (T := T) (pc9 := pc9) ⟨B.exec, B.bytes, hml, findClass_of_methodNamed B.named, atoms_spec (ws := wsX1_readTwisting) B.pre, B.returns, B.notSynchronized⟩ (Nat.le_refl _) (Nat.le_refl _) (Nat.le_refl _) (Nat.le_refl _) hK hN hA hn hln hc9 hc4 hT0 hT1 hT3 hSb hP2 hP1 hP h27 hpc hpi hx9 hS hl (fun iv' H locs ls pc hd hp hS => gx_vret B.exec B.bytes B.returns B.notSynchronized hS hp hd)
