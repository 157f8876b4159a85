theorem inX3_isHome_RX3 : ∀ {w : Cond}, w ∈ u_ws RX3 TX3 2 → w ∈ wsX3_isHome := fun {w} h => by first | exact List.mem_cons_of_mem _ (List.mem_append_right _ h) | (revert h; revert w; show ∀ w ∈ u_ws RX3 TX3 2, w ∈ wsX3_isHome; decide +kernel)
set_option maxHeartbeats 4000000 in
set_option maxRecDepth 100000 in
theorem bd_X3_isHome {p : Program} {l : Launch} {e : Env} {R : Room} {s : State} {m : MethodId} {args : Array Value} {below : List Frame} {meth : Method} {c : Code} {H : Heap} {locs : List Loc} {cells slots : Nat} {Q : State → Prop} {ls : Array Slot} {D : va_G} {A : Nat → Prop} {H0 : Heap} {cA : Nat → ClassId} {o : Nat → Int64} {ad ln : Nat → Nat} {iv : Nat → Nat → Int32} {n : Nat} {b P : Nat}
    (F : gF p s m meth c cX3_isHome 2 RX3 wsX3_isHome args (some .boolean)) (hRf : 0 ≤ R.frames) (hRl : 0 ≤ R.locals) (hRc : cells ≤ R.cells) (hRs : slots ≤ R.slots) (hK : va_K D vwCl (gT cA) s) (hN : NW s) (hA : ∀ q, H0.size ≤ q → A q) (hn : 68 ≤ n) (hln : ∀ k, ln k < 2 ^ 31) (hSb : isS b = true) (hP1 : ln (b + 1) = P) (hP2 : ln (b + 2) = P) (hP : P ≤ 8)
    (hS : gS D cA A H0 o ad ln iv n H locs) (hl : lv_has ls 2 [(0, .ref (ad b))])
    (kret : ∀ (r : Int32) (iv' : Nat → Nat → Int32) (H : Heap) (locs : List Loc) (ls : Array Slot) (pc : Nat), decode cX3_isHome pc = .ok (.ireturn, 1) → ((r = 0 ∨ r = 1) ∧ (r = 1 ↔ ∀ p, p < P → iv (b + 1) p = nI p ∧ iv (b + 2) p = 0) ∧ iv' = iv) → gS D cA A H0 o ad ln iv' n H locs → W p l e R s m args below meth c H locs cells slots Q (F0 m pc ls [.int r])) :
    W p l e R s m args below meth c H locs cells slots Q (F0 m 0 ls []) := by
  obtain ⟨hx, hb, hml, hown, hts, hr, hlocks⟩ := F
  have hb0 := isS_in hSb
  refine lv_iconst (v := nI 0) hx hb dX3_isHome_0 (by decide) ?_
  refine lv_istore_n (lv' := [(1, .int (nI 0)), (0, .ref (ad b))]) hx hb dX3_isHome_1 rfl hl (by decide) rfl (fun ls hl => ?_)
  have L2 : ∀ (N : Nat) (i : Nat), P - i < N → (i ≤ P) → (∀ p, p < i → iv (b + 1) p = nI p ∧ iv (b + 2) p = 0) → ∀ (H : Heap) (locs : List Loc) (ls : Array Slot), gS D cA A H0 o ad ln iv n H locs → lv_has ls 2 [(0, .ref (ad b)), (1, .int (nI i))] → W p l e R s m args below meth c H locs cells slots Q (F0 m 2 ls []) := by
    intro N
    induction N with
    | zero => intro i hm; exact absurd hm (Nat.not_lt_zero _)
    | succ N ih2 =>
      intro i hm hi hI H locs ls hS hl
      refine lv_iload_n hx hb dX3_isHome_2 rfl (lv_at hl 1 rfl) ?_
      refine lv_aload_n hx hb dX3_isHome_3 rfl (lv_at hl 0 rfl) ?_
      refine gx_get (ci := 6) (v := .ref (ad (b + 1))) (C := RX3) (T := TX3) (N := 2) hx hb hts (fun _ h => inX3_isHome_RX3 h) hown hK hS b (by omega) (sch_S hSb) rfl 0 (by decide) (hts (.fieldLink RX3 13 "CosetTables$State" "at" "[I") (by decide +kernel)) rfl dX3_isHome_4 ?_
      refine gx_alen hx hb hK hS (b + 1) (by omega) (isS1 hSb) dX3_isHome_7 ?_
      refine gx_as (y := nI P) (by rw [hP1]) ?_
      refine lv_icmp_ge (tgt := 38) hx hb dX3_isHome_8 (by decide) (fun c_8 => ?_) (fun c_8 => ?_)
      · skip
        rw [nI_leI (by omega) (by omega)] at c_8
        refine lv_iconst (v := nI 1) hx hb dX3_isHome_38 (by decide) ?_
        exact kret _ iv _ _ _ _ dX3_isHome_39 (by rw [show P = i by omega]; exact ⟨Or.inr rfl, ⟨fun _ => hI, fun _ => rfl⟩, rfl⟩) hS
      · skip
        rw [nI_leI (by omega) (by omega)] at c_8
        refine lv_aload_n hx hb dX3_isHome_11 rfl (lv_at hl 0 rfl) ?_
        refine gx_get (ci := 6) (v := .ref (ad (b + 1))) (C := RX3) (T := TX3) (N := 2) hx hb hts (fun _ h => inX3_isHome_RX3 h) hown hK hS b (by omega) (sch_S hSb) rfl 0 (by decide) (hts (.fieldLink RX3 13 "CosetTables$State" "at" "[I") (by decide +kernel)) rfl dX3_isHome_12 ?_
        refine lv_iload_n hx hb dX3_isHome_15 rfl (lv_at hl 1 rfl) ?_
        refine gx_ialdn hx hb hK hS (b + 1) (by omega) (isS1 hSb) i (by omega) (hln _) dX3_isHome_16 ?_
        refine lv_iload_n hx hb dX3_isHome_17 rfl (lv_at hl 1 rfl) ?_
        refine lv_icmp_ne (tgt := 30) hx hb dX3_isHome_18 (by decide) (fun c_18 => ?_) (fun c_18 => ?_)
        · skip
          refine lv_iconst (v := nI 0) hx hb dX3_isHome_30 (by decide) ?_
          exact kret _ iv _ _ _ _ dX3_isHome_31 ⟨Or.inl rfl, ⟨fun h => absurd h (by decide), fun h => absurd (h i (by omega)) (fun h9 => c_18 h9.1)⟩, rfl⟩ hS
        · skip
          refine lv_aload_n hx hb dX3_isHome_21 rfl (lv_at hl 0 rfl) ?_
          refine gx_get (ci := 6) (v := .ref (ad (b + 2))) (C := RX3) (T := TX3) (N := 2) hx hb hts (fun _ h => inX3_isHome_RX3 h) hown hK hS b (by omega) (sch_S hSb) rfl 1 (by decide) (hts (.fieldLink RX3 19 "CosetTables$State" "turned" "[I") (by decide +kernel)) rfl dX3_isHome_22 ?_
          refine lv_iload_n hx hb dX3_isHome_25 rfl (lv_at hl 1 rfl) ?_
          refine gx_ialdn hx hb hK hS (b + 2) (by omega) (isS2 hSb) i (by omega) (hln _) dX3_isHome_26 ?_
          refine lv_if_eq (tgt := 32) hx hb dX3_isHome_27 (by decide) (fun c_27 => ?_) (fun c_27 => ?_)
          · skip
            refine lv_iinc (v := nI (i + 1)) (lv' := [(1, .int (nI (i + 1))), (0, .ref (ad b))]) hx hb dX3_isHome_32 hl (k := 1) rfl (nI_1 i) (by decide) rfl (fun ls hl => ?_)
            refine lv_goto (tgt := 2) hx hb dX3_isHome_35 (by decide) ?_
            exact ih2 (i + 1) (by omega) (by omega) (lt_s hI ⟨c_18, c_27⟩) _ _ _ hS (lv_sub hl [1, 0] rfl)
          · skip
            refine lv_iconst (v := nI 0) hx hb dX3_isHome_30 (by decide) ?_
            exact kret _ iv _ _ _ _ dX3_isHome_31 ⟨Or.inl rfl, ⟨fun h => absurd h (by decide), fun h => absurd (h i (by omega)) (fun h9 => c_27 h9.2)⟩, rfl⟩ hS
  exact L2 _ 0 (Nat.lt_succ_self _) (Nat.zero_le _) (fun p h => absurd h (Nat.not_lt_zero p)) _ _ _ hS (lv_sub hl [1, 0] rfl)
set_option maxRecDepth 100000 in
theorem ct_X3_isHome (l : Launch) (D : va_G) (cA : Nat → ClassId) (o : Nat → Int64) (ad ln : Nat → Nat) (n sz : Nat) (iv : Nat → Nat → Int32) (b P : Nat) (hn : 68 ≤ n) (hln : ∀ k, ln k < 2 ^ 31) (hSb : isS b = true) (hP1 : ln (b + 1) = P) (hP2 : ln (b + 2) = P) (hP : P ≤ 8) : gMi l yX3_isHome wsX3_isHome { frames := 0, cells := 0, slots := 0, locals := 0 } D cA o ad ln n sz iv [.ref (ad b)] (fun (r : Int32) iv' => (r = 0 ∨ r = 1) ∧ (r = 1 ↔ ∀ p, p < P → iv (b + 1) p = nI p ∧ iv (b + 2) p = 0) ∧ iv' = iv) := by
  refine Met.ofW (cc := cX3_isHome) (maxL := 2) (ret := (some .boolean)) (by decide) rfl ?_
  intro p e s m args below meth c s₁ B hml hv__
  obtain ⟨rfl, hv__⟩ := hv__
  obtain ⟨hsz, hS, hK, hN, hA⟩ := gS.entry hv__
  have hl := lv_entry ([.ref (ad b)]) (n := 2) (Nat.le_of_ble_eq_true rfl)
  rw [lg_entry_eq]
  generalize (lg_sl ([.ref (ad b)]) ++ List.replicate (2 - (lg_sl ([.ref (ad b)])).length) Slot.unset).toArray = ls at hl ⊢
  exact bd_X3_isHome (b := b) (P := P) ⟨B.exec, B.bytes, hml, findClass_of_methodNamed B.named, atoms_spec (ws := wsX3_isHome) B.pre, B.returns, B.notSynchronized⟩ (Nat.le_refl _) (Nat.le_refl _) (Nat.le_refl _) (Nat.le_refl _) hK hN hA hn hln hSb hP1 hP2 hP hS hl (fun r iv' H locs ls pc hd hp hS => gx_zret B.exec B.bytes B.returns B.notSynchronized (hp.1) hS hp hd)

theorem inX3_copy_RX3 : ∀ {w : Cond}, w ∈ u_ws RX3 TX3 2 → w ∈ wsX3_copy := fun {w} h => by first | exact List.mem_cons_of_mem _ (List.mem_append_right _ h) | (revert h; revert w; show ∀ w ∈ u_ws RX3 TX3 2, w ∈ wsX3_copy; decide +kernel)
set_option maxHeartbeats 4000000 in
set_option maxRecDepth 100000 in
theorem bd_X3_copy {p : Program} {l : Launch} {e : Env} {R : Room} {s : State} {m : MethodId} {args : Array Value} {below : List Frame} {meth : Method} {c : Code} {H : Heap} {locs : List Loc} {cells slots : Nat} {Q : State → Prop} {ls : Array Slot} {D : va_G} {A : Nat → Prop} {H0 : Heap} {cA : Nat → ClassId} {o : Nat → Int64} {ad ln : Nat → Nat} {iv : Nat → Nat → Int32} {n : Nat} {b b2 P : Nat}
    (F : gF p s m meth c cX3_copy 3 RX3 wsX3_copy args none) (hRf : 0 ≤ R.frames) (hRl : 0 ≤ R.locals) (hRc : cells ≤ R.cells) (hRs : slots ≤ R.slots) (hK : va_K D vwCl (gT cA) s) (hN : NW s) (hA : ∀ q, H0.size ≤ q → A q) (hn : 68 ≤ n) (hln : ∀ k, ln k < 2 ^ 31) (hSb : isS b = true) (hSb2 : isS b2 = true) (hbb : b ≠ b2) (hP1 : ln (b + 1) = P) (hP2 : ln (b + 2) = P) (hP3 : ln (b2 + 1) = P) (hP4 : ln (b2 + 2) = P) (hP : P ≤ 8)
    (hS : gS D cA A H0 o ad ln iv n H locs) (hl : lv_has ls 3 [(0, .ref (ad b)), (1, .ref (ad b2))])
    (kret : ∀ (iv' : Nat → Nat → Int32) (H : Heap) (locs : List Loc) (ls : Array Slot) (pc : Nat), decode cX3_copy pc = .ok (.return_, 1) → (copied iv iv' b b2 P) → gS D cA A H0 o ad ln iv' n H locs → W p l e R s m args below meth c H locs cells slots Q (F0 m pc ls [])) :
    W p l e R s m args below meth c H locs cells slots Q (F0 m 0 ls []) := by
  obtain ⟨hx, hb, hml, hown, hts, hr, hlocks⟩ := F
  have hb0 := isS_in hSb
  have hv0 := isS_in hSb2
  refine lv_iconst (v := nI 0) hx hb dX3_copy_0 (by decide) ?_
  refine lv_istore_n (lv' := [(2, .int (nI 0)), (0, .ref (ad b)), (1, .ref (ad b2))]) hx hb dX3_copy_1 rfl hl (by decide) rfl (fun ls hl => ?_)
  have L2 : ∀ (N : Nat) (i : Nat) (iv1 : Nat → Nat → Int32), P - i < N → (i ≤ P) → (copied iv iv1 b b2 i) → ∀ (H : Heap) (locs : List Loc) (ls : Array Slot), gS D cA A H0 o ad ln iv1 n H locs → lv_has ls 3 [(0, .ref (ad b)), (1, .ref (ad b2)), (2, .int (nI i))] → W p l e R s m args below meth c H locs cells slots Q (F0 m 2 ls []) := by
    intro N
    induction N with
    | zero => intro i iv1 hm; exact absurd hm (Nat.not_lt_zero _)
    | succ N ih2 =>
      intro i iv1 hm hi hI H locs ls hS hl
      refine lv_iload_n hx hb dX3_copy_2 rfl (lv_at hl 2 rfl) ?_
      refine lv_aload_n hx hb dX3_copy_3 rfl (lv_at hl 0 rfl) ?_
      refine gx_get (ci := 6) (v := .ref (ad (b + 1))) (C := RX3) (T := TX3) (N := 2) hx hb hts (fun _ h => inX3_copy_RX3 h) hown hK hS b (by omega) (sch_S hSb) rfl 0 (by decide) (hts (.fieldLink RX3 13 "CosetTables$State" "at" "[I") (by decide +kernel)) rfl dX3_copy_4 ?_
      refine gx_alen hx hb hK hS (b + 1) (by omega) (isS1 hSb) dX3_copy_7 ?_
      refine gx_as (y := nI P) (by rw [hP1]) ?_
      refine lv_icmp_ge (tgt := 41) hx hb dX3_copy_8 (by decide) (fun c_8 => ?_) (fun c_8 => ?_)
      · skip
        rw [nI_leI (by omega) (by omega)] at c_8
        exact kret iv1 _ _ _ _ dX3_copy_41 (by rw [show P = i by omega]; exact hI) hS
      · skip
        rw [nI_leI (by omega) (by omega)] at c_8
        refine lv_aload_n hx hb dX3_copy_11 rfl (lv_at hl 0 rfl) ?_
        refine gx_get (ci := 6) (v := .ref (ad (b + 1))) (C := RX3) (T := TX3) (N := 2) hx hb hts (fun _ h => inX3_copy_RX3 h) hown hK hS b (by omega) (sch_S hSb) rfl 0 (by decide) (hts (.fieldLink RX3 13 "CosetTables$State" "at" "[I") (by decide +kernel)) rfl dX3_copy_12 ?_
        refine lv_iload_n hx hb dX3_copy_15 rfl (lv_at hl 2 rfl) ?_
        refine lv_aload_n hx hb dX3_copy_16 rfl (lv_at hl 1 rfl) ?_
        refine gx_get (ci := 6) (v := .ref (ad (b2 + 1))) (C := RX3) (T := TX3) (N := 2) hx hb hts (fun _ h => inX3_copy_RX3 h) hown hK hS b2 (by omega) (sch_S hSb2) rfl 0 (by decide) (hts (.fieldLink RX3 13 "CosetTables$State" "at" "[I") (by decide +kernel)) rfl dX3_copy_17 ?_
        refine lv_iload_n hx hb dX3_copy_20 rfl (lv_at hl 2 rfl) ?_
        refine gx_ialdn hx hb hK hS (b2 + 1) (by omega) (isS1 hSb2) i (by omega) (hln _) dX3_copy_21 ?_
        refine gx_as (y := iv (b2 + 1) i) (by rw [hI.2.2 (b2 + 1) (by omega) (by omega)]) ?_
        refine gx_iastn hx hb hK hS (b + 1) (by omega) (isS1 hSb) i (by omega) (hln _) dX3_copy_22 (fun H locs hS => ?_)
        obtain ⟨iv2, eiv2⟩ : ∃ z, z = up2 iv1 (b + 1) i (iv (b2 + 1) i) := ⟨_, rfl⟩
        rw [← eiv2] at hS
        refine lv_aload_n hx hb dX3_copy_23 rfl (lv_at hl 0 rfl) ?_
        refine gx_get (ci := 6) (v := .ref (ad (b + 2))) (C := RX3) (T := TX3) (N := 2) hx hb hts (fun _ h => inX3_copy_RX3 h) hown hK hS b (by omega) (sch_S hSb) rfl 1 (by decide) (hts (.fieldLink RX3 19 "CosetTables$State" "turned" "[I") (by decide +kernel)) rfl dX3_copy_24 ?_
        refine lv_iload_n hx hb dX3_copy_27 rfl (lv_at hl 2 rfl) ?_
        refine lv_aload_n hx hb dX3_copy_28 rfl (lv_at hl 1 rfl) ?_
        refine gx_get (ci := 6) (v := .ref (ad (b2 + 2))) (C := RX3) (T := TX3) (N := 2) hx hb hts (fun _ h => inX3_copy_RX3 h) hown hK hS b2 (by omega) (sch_S hSb2) rfl 1 (by decide) (hts (.fieldLink RX3 19 "CosetTables$State" "turned" "[I") (by decide +kernel)) rfl dX3_copy_29 ?_
        refine lv_iload_n hx hb dX3_copy_32 rfl (lv_at hl 2 rfl) ?_
        refine gx_ialdn hx hb hK hS (b2 + 2) (by omega) (isS2 hSb2) i (by omega) (hln _) dX3_copy_33 ?_
        refine gx_as (y := iv (b2 + 2) i) (by rw [eiv2, up2_row (by omega), hI.2.2 (b2 + 2) (by omega) (by omega)]) ?_
        refine gx_iastn hx hb hK hS (b + 2) (by omega) (isS2 hSb) i (by omega) (hln _) dX3_copy_34 (fun H locs hS => ?_)
        obtain ⟨iv3, eiv3⟩ : ∃ z, z = up2 iv2 (b + 2) i (iv (b2 + 2) i) := ⟨_, rfl⟩
        rw [← eiv3] at hS
        refine lv_iinc (v := nI (i + 1)) (lv' := [(2, .int (nI (i + 1))), (0, .ref (ad b)), (1, .ref (ad b2))]) hx hb dX3_copy_35 hl (k := 2) rfl (nI_1 i) (by decide) rfl (fun ls hl => ?_)
        refine lv_goto (tgt := 2) hx hb dX3_copy_38 (by decide) ?_
        exact ih2 (i + 1) iv3 (by omega) (by omega) (by rw [eiv3, eiv2]; exact copied_s hI) _ _ _ hS (lv_sub hl [1, 2, 0] rfl)
  exact L2 _ 0 iv (Nat.lt_succ_self _) (Nat.zero_le _) copied_0 _ _ _ hS (lv_sub hl [1, 2, 0] rfl)
set_option maxRecDepth 100000 in
theorem ct_X3_copy (l : Launch) (D : va_G) (cA : Nat → ClassId) (o : Nat → Int64) (ad ln : Nat → Nat) (n sz : Nat) (iv : Nat → Nat → Int32) (b b2 P : Nat) (hn : 68 ≤ n) (hln : ∀ k, ln k < 2 ^ 31) (hSb : isS b = true) (hSb2 : isS b2 = true) (hbb : b ≠ b2) (hP1 : ln (b + 1) = P) (hP2 : ln (b + 2) = P) (hP3 : ln (b2 + 1) = P) (hP4 : ln (b2 + 2) = P) (hP : P ≤ 8) : gMv l yX3_copy wsX3_copy { frames := 0, cells := 0, slots := 0, locals := 0 } D cA o ad ln n sz iv [.ref (ad b), .ref (ad b2)] (fun iv' => copied iv iv' b b2 P) := by
  refine Met.ofW (cc := cX3_copy) (maxL := 3) (ret := none) (by decide) rfl ?_
  intro p e s m args below meth c s₁ B hml hv__
  obtain ⟨rfl, hv__⟩ := hv__
  obtain ⟨hsz, hS, hK, hN, hA⟩ := gS.entry hv__
  have hl := lv_entry ([.ref (ad b), .ref (ad b2)]) (n := 3) (Nat.le_of_ble_eq_true rfl)
  rw [lg_entry_eq]
  generalize (lg_sl ([.ref (ad b), .ref (ad b2)]) ++ List.replicate (3 - (lg_sl ([.ref (ad b), .ref (ad b2)])).length) Slot.unset).toArray = ls at hl ⊢
  exact bd_X3_copy (b := b) (b2 := b2) (P := P) ⟨B.exec, B.bytes, hml, findClass_of_methodNamed B.named, atoms_spec (ws := wsX3_copy) B.pre, B.returns, B.notSynchronized⟩ (Nat.le_refl _) (Nat.le_refl _) (Nat.le_refl _) (Nat.le_refl _) hK hN hA hn hln hSb hSb2 hbb hP1 hP2 hP3 hP4 hP hS hl (fun iv' H locs ls pc hd hp hS => gx_vret B.exec B.bytes B.returns B.notSynchronized hS hp hd)

theorem inX3_becomeImage_RX3 : ∀ {w : Cond}, w ∈ u_ws RX3 TX3 2 → w ∈ wsX3_becomeImage := fun {w} h => by first | exact List.mem_cons_of_mem _ (List.mem_append_right _ h) | (revert h; revert w; show ∀ w ∈ u_ws RX3 TX3 2, w ∈ wsX3_becomeImage; decide +kernel)
set_option maxHeartbeats 4000000 in
set_option maxRecDepth 100000 in
theorem bd_X3_becomeImage {p : Program} {l : Launch} {e : Env} {R : Room} {s : State} {m : MethodId} {args : Array Value} {below : List Frame} {meth : Method} {c : Code} {H : Heap} {locs : List Loc} {cells slots : Nat} {Q : State → Prop} {ls : Array Slot} {D : va_G} {A : Nat → Prop} {H0 : Heap} {cA : Nat → ClassId} {o : Nat → Int64} {ad ln : Nat → Nat} {iv : Nat → Nat → Int32} {n : Nat} {b b2 k P : Nat}
    (F : gF p s m meth c cX3_becomeImage 4 RX3 wsX3_becomeImage args none) (hRf : 0 ≤ R.frames) (hRl : 0 ≤ R.locals) (hRc : cells ≤ R.cells) (hRs : slots ≤ R.slots) (hK : va_K D vwCl (gT cA) s) (hN : NW s) (hA : ∀ q, H0.size ≤ q → A q) (hn : 68 ≤ n) (hln : ∀ k, ln k < 2 ^ 31) (hSb : isS b = true) (hSb2 : isS b2 = true) (hbb : b ≠ b2) (hk : 21 ≤ k ∧ k < 25) (hP1 : ln (b + 1) = P) (hP2 : ln (b + 2) = P) (hP3 : ln (b2 + 1) = P) (hP4 : ln (b2 + 2) = P) (hP5 : ln k = P) (hP : P ≤ 8) (hat : ∀ p, p < P → vp_in (iv (b2 + 1) p) P) (hsy : ∀ p, p < P → vp_in (iv k p) P)
    (hS : gS D cA A H0 o ad ln iv n H locs) (hl : lv_has ls 4 [(0, .ref (ad b)), (1, .ref (ad b2)), (2, .ref (ad k))])
    (kret : ∀ (iv' : Nat → Nat → Int32) (H : Heap) (locs : List Loc) (ls : Array Slot) (pc : Nat), decode cX3_becomeImage pc = .ok (.return_, 1) → (iv' = wr2 iv (b + 1) (b + 2) (fun p => tn (iv k p)) (fun p => iv k (tn (iv (b2 + 1) p))) (fun p => iv (b2 + 2) p) P) → gS D cA A H0 o ad ln iv' n H locs → W p l e R s m args below meth c H locs cells slots Q (F0 m pc ls [])) :
    W p l e R s m args below meth c H locs cells slots Q (F0 m 0 ls []) := by
  obtain ⟨hx, hb, hml, hown, hts, hr, hlocks⟩ := F
  have hb0 := isS_in hSb
  have hv0 := isS_in hSb2
  have hkI : isI k = true := by
    have := isI_sy (j := k - 21) (by omega)
    rwa [show 21 + (k - 21) = k by omega] at this
  refine lv_iconst (v := nI 0) hx hb dX3_becomeImage_0 (by decide) ?_
  refine lv_istore_n (lv' := [(3, .int (nI 0)), (0, .ref (ad b)), (1, .ref (ad b2)), (2, .ref (ad k))]) hx hb dX3_becomeImage_1 rfl hl (by decide) rfl (fun ls hl => ?_)
  have L2 : ∀ (N : Nat) (i : Nat) (iv1 : Nat → Nat → Int32), P - i < N → (i ≤ P) → (iv1 = wr2 iv (b + 1) (b + 2) (fun p => tn (iv k p)) (fun p => iv k (tn (iv (b2 + 1) p))) (fun p => iv (b2 + 2) p) i) → ∀ (H : Heap) (locs : List Loc) (ls : Array Slot), gS D cA A H0 o ad ln iv1 n H locs → lv_has ls 4 [(0, .ref (ad b)), (1, .ref (ad b2)), (2, .ref (ad k)), (3, .int (nI i))] → W p l e R s m args below meth c H locs cells slots Q (F0 m 2 ls []) := by
    intro N
    induction N with
    | zero => intro i iv1 hm; exact absurd hm (Nat.not_lt_zero _)
    | succ N ih2 =>
      intro i iv1 hm hi hI H locs ls hS hl
      have ho : ∀ q, q ≠ b + 1 → q ≠ b + 2 → iv1 q = iv q := fun q h1 h2 => by rw [hI]; exact wr2_o h1 h2 i
      refine lv_iload_n hx hb dX3_becomeImage_2 rfl (lv_at hl 3 rfl) ?_
      refine lv_aload_n hx hb dX3_becomeImage_3 rfl (lv_at hl 0 rfl) ?_
      refine gx_get (ci := 6) (v := .ref (ad (b + 1))) (C := RX3) (T := TX3) (N := 2) hx hb hts (fun _ h => inX3_becomeImage_RX3 h) hown hK hS b (by omega) (sch_S hSb) rfl 0 (by decide) (hts (.fieldLink RX3 13 "CosetTables$State" "at" "[I") (by decide +kernel)) rfl dX3_becomeImage_4 ?_
      refine gx_alen hx hb hK hS (b + 1) (by omega) (isS1 hSb) dX3_becomeImage_7 ?_
      refine gx_as (y := nI P) (by rw [hP1]) ?_
      refine lv_icmp_ge (tgt := 47) hx hb dX3_becomeImage_8 (by decide) (fun c_8 => ?_) (fun c_8 => ?_)
      · skip
        rw [nI_leI (by omega) (by omega)] at c_8
        exact kret iv1 _ _ _ _ dX3_becomeImage_47 (by rw [show P = i by omega]; exact hI) hS
      · skip
        rw [nI_leI (by omega) (by omega)] at c_8
        refine lv_aload_n hx hb dX3_becomeImage_11 rfl (lv_at hl 0 rfl) ?_
        refine gx_get (ci := 6) (v := .ref (ad (b + 1))) (C := RX3) (T := TX3) (N := 2) hx hb hts (fun _ h => inX3_becomeImage_RX3 h) hown hK hS b (by omega) (sch_S hSb) rfl 0 (by decide) (hts (.fieldLink RX3 13 "CosetTables$State" "at" "[I") (by decide +kernel)) rfl dX3_becomeImage_12 ?_
        refine lv_aload_n hx hb dX3_becomeImage_15 rfl (lv_at hl 2 rfl) ?_
        refine lv_iload_n hx hb dX3_becomeImage_16 rfl (lv_at hl 3 rfl) ?_
        refine gx_ialdn hx hb hK hS k (by omega) hkI i (by omega) (hln _) dX3_becomeImage_17 ?_
        refine gx_as (y := iv k i) (by rw [ho k (by omega) (by omega)]) ?_
        refine lv_aload_n hx hb dX3_becomeImage_18 rfl (lv_at hl 2 rfl) ?_
        refine lv_aload_n hx hb dX3_becomeImage_19 rfl (lv_at hl 1 rfl) ?_
        refine gx_get (ci := 6) (v := .ref (ad (b2 + 1))) (C := RX3) (T := TX3) (N := 2) hx hb hts (fun _ h => inX3_becomeImage_RX3 h) hown hK hS b2 (by omega) (sch_S hSb2) rfl 0 (by decide) (hts (.fieldLink RX3 13 "CosetTables$State" "at" "[I") (by decide +kernel)) rfl dX3_becomeImage_20 ?_
        refine lv_iload_n hx hb dX3_becomeImage_23 rfl (lv_at hl 3 rfl) ?_
        refine gx_ialdn hx hb hK hS (b2 + 1) (by omega) (isS1 hSb2) i (by omega) (hln _) dX3_becomeImage_24 ?_
        refine gx_as (y := iv (b2 + 1) i) (by rw [ho (b2 + 1) (by omega) (by omega)]) ?_
        refine gx_iald hx hb hK hS k (by omega) hkI (by rw [hP5]; exact hat i (by omega)) dX3_becomeImage_25 ?_
        refine gx_as (y := iv k (tn (iv (b2 + 1) i))) (by rw [ho k (by omega) (by omega)]) ?_
        refine gx_iast hx hb hK hS (b + 1) (by omega) (isS1 hSb) (by rw [hP1]; exact hsy i (by omega)) dX3_becomeImage_26 (fun H locs hS => ?_)
        obtain ⟨iv2, eiv2⟩ : ∃ z, z = up2 iv1 (b + 1) (iv k i).toNatClampNeg (iv k (tn (iv (b2 + 1) i))) := ⟨_, rfl⟩
        rw [← eiv2] at hS
        refine lv_aload_n hx hb dX3_becomeImage_27 rfl (lv_at hl 0 rfl) ?_
        refine gx_get (ci := 6) (v := .ref (ad (b + 2))) (C := RX3) (T := TX3) (N := 2) hx hb hts (fun _ h => inX3_becomeImage_RX3 h) hown hK hS b (by omega) (sch_S hSb) rfl 1 (by decide) (hts (.fieldLink RX3 19 "CosetTables$State" "turned" "[I") (by decide +kernel)) rfl dX3_becomeImage_28 ?_
        refine lv_aload_n hx hb dX3_becomeImage_31 rfl (lv_at hl 2 rfl) ?_
        refine lv_iload_n hx hb dX3_becomeImage_32 rfl (lv_at hl 3 rfl) ?_
        refine gx_ialdn hx hb hK hS k (by omega) hkI i (by omega) (hln _) dX3_becomeImage_33 ?_
        refine gx_as (y := iv k i) (by rw [eiv2, up2_row (by omega), ho k (by omega) (by omega)]) ?_
        refine lv_aload_n hx hb dX3_becomeImage_34 rfl (lv_at hl 1 rfl) ?_
        refine gx_get (ci := 6) (v := .ref (ad (b2 + 2))) (C := RX3) (T := TX3) (N := 2) hx hb hts (fun _ h => inX3_becomeImage_RX3 h) hown hK hS b2 (by omega) (sch_S hSb2) rfl 1 (by decide) (hts (.fieldLink RX3 19 "CosetTables$State" "turned" "[I") (by decide +kernel)) rfl dX3_becomeImage_35 ?_
        refine lv_iload_n hx hb dX3_becomeImage_38 rfl (lv_at hl 3 rfl) ?_
        refine gx_ialdn hx hb hK hS (b2 + 2) (by omega) (isS2 hSb2) i (by omega) (hln _) dX3_becomeImage_39 ?_
        refine gx_as (y := iv (b2 + 2) i) (by rw [eiv2, up2_row (by omega), ho (b2 + 2) (by omega) (by omega)]) ?_
        refine gx_iast hx hb hK hS (b + 2) (by omega) (isS2 hSb) (by rw [hP2]; exact hsy i (by omega)) dX3_becomeImage_40 (fun H locs hS => ?_)
        obtain ⟨iv3, eiv3⟩ : ∃ z, z = up2 iv2 (b + 2) (iv k i).toNatClampNeg (iv (b2 + 2) i) := ⟨_, rfl⟩
        rw [← eiv3] at hS
        refine lv_iinc (v := nI (i + 1)) (lv' := [(3, .int (nI (i + 1))), (0, .ref (ad b)), (1, .ref (ad b2)), (2, .ref (ad k))]) hx hb dX3_becomeImage_41 hl (k := 3) rfl (nI_1 i) (by decide) rfl (fun ls hl => ?_)
        refine lv_goto (tgt := 2) hx hb dX3_becomeImage_44 (by decide) ?_
        exact ih2 (i + 1) iv3 (by omega) (by omega) (by rw [eiv3, eiv2, hI]; rfl) _ _ _ hS (lv_sub hl [1, 2, 3, 0] rfl)
  exact L2 _ 0 iv (Nat.lt_succ_self _) (Nat.zero_le _) rfl _ _ _ hS (lv_sub hl [1, 2, 3, 0] rfl)
set_option maxRecDepth 100000 in
theorem ct_X3_becomeImage (l : Launch) (D : va_G) (cA : Nat → ClassId) (o : Nat → Int64) (ad ln : Nat → Nat) (n sz : Nat) (iv : Nat → Nat → Int32) (b b2 k P : Nat) (hn : 68 ≤ n) (hln : ∀ k, ln k < 2 ^ 31) (hSb : isS b = true) (hSb2 : isS b2 = true) (hbb : b ≠ b2) (hk : 21 ≤ k ∧ k < 25) (hP1 : ln (b + 1) = P) (hP2 : ln (b + 2) = P) (hP3 : ln (b2 + 1) = P) (hP4 : ln (b2 + 2) = P) (hP5 : ln k = P) (hP : P ≤ 8) (hat : ∀ p, p < P → vp_in (iv (b2 + 1) p) P) (hsy : ∀ p, p < P → vp_in (iv k p) P) : gMv l yX3_becomeImage wsX3_becomeImage { frames := 0, cells := 0, slots := 0, locals := 0 } D cA o ad ln n sz iv [.ref (ad b), .ref (ad b2), .ref (ad k)] (fun iv' => iv' = wr2 iv (b + 1) (b + 2) (fun p => tn (iv k p)) (fun p => iv k (tn (iv (b2 + 1) p))) (fun p => iv (b2 + 2) p) P) := by
  refine Met.ofW (cc := cX3_becomeImage) (maxL := 4) (ret := none) (by decide) rfl ?_
  intro p e s m args below meth c s₁ B hml hv__
  obtain ⟨rfl, hv__⟩ := hv__
  obtain ⟨hsz, hS, hK, hN, hA⟩ := gS.entry hv__
  have hl := lv_entry ([.ref (ad b), .ref (ad b2), .ref (ad k)]) (n := 4) (Nat.le_of_ble_eq_true rfl)
  rw [lg_entry_eq]
  generalize (lg_sl ([.ref (ad b), .ref (ad b2), .ref (ad k)]) ++ List.replicate (4 - (lg_sl ([.ref (ad b), .ref (ad b2), .ref (ad k)])).length) Slot.unset).toArray = ls at hl ⊢
  exact bd_X3_becomeImage (b := b) (b2 := b2) (k := k) (P := P) ⟨B.exec, B.bytes, hml, findClass_of_methodNamed B.named, atoms_spec (ws := wsX3_becomeImage) B.pre, B.returns, B.notSynchronized⟩ (Nat.le_refl _) (Nat.le_refl _) (Nat.le_refl _) (Nat.le_refl _) hK hN hA hn hln hSb hSb2 hbb hk hP1 hP2 hP3 hP4 hP5 hP hat hsy hS hl (fun iv' H locs ls pc hd hp hS => gx_vret B.exec B.bytes B.returns B.notSynchronized hS hp hd)

theorem inX0_invert_RX0 : ∀ {w : Cond}, w ∈ u_ws RX0 TX0 3 → w ∈ wsX0_invert := fun {w} h => by first | exact List.mem_cons_of_mem _ (List.mem_append_right _ h) | (revert h; revert w; show ∀ w ∈ u_ws RX0 TX0 3, w ∈ wsX0_invert; decide +kernel)
set_option maxHeartbeats 4000000 in
set_option maxRecDepth 100000 in
theorem bd_X0_invert {p : Program} {l : Launch} {e : Env} {R : Room} {s : State} {m : MethodId} {args : Array Value} {below : List Frame} {meth : Method} {c : Code} {H : Heap} {locs : List Loc} {cells slots : Nat} {Q : State → Prop} {ls : Array Slot} {D : va_G} {A : Nat → Prop} {H0 : Heap} {cA : Nat → ClassId} {o : Nat → Int64} {ad ln : Nat → Nat} {iv : Nat → Nat → Int32} {n : Nat} {v u P : Nat}
    (F : gF p s m meth c cX0_invert 4 RX0 wsX0_invert args none) (hRf : 0 ≤ R.frames) (hRl : 0 ≤ R.locals) (hRc : cells ≤ R.cells) (hRs : slots ≤ R.slots) (hK : va_K D vwCl (gT cA) s) (hN : NW s) (hA : ∀ q, H0.size ≤ q → A q) (hn : 68 ≤ n) (hln : ∀ k, ln k < 2 ^ 31) (hMv : isM v = true) (hMu : isM u = true) (hvu : v ≠ u) (hP1 : ln (v + 1) = P) (hP2 : ln (v + 2) = P) (hP3 : ln (u + 1) = P) (hP4 : ln (u + 2) = P) (hP : P ≤ 8) (hT : ¬ iv v 0 = 0) (hgo : ∀ p, p < P → vp_in (iv (u + 1) p) P)
    (hS : gS D cA A H0 o ad ln iv n H locs) (hl : lv_has ls 4 [(0, .ref (ad v)), (1, .ref (ad u))])
    (kret : ∀ (iv' : Nat → Nat → Int32) (H : Heap) (locs : List Loc) (ls : Array Slot) (pc : Nat), decode cX0_invert pc = .ok (.return_, 1) → (iv' = wr2 iv (v + 1) (v + 2) (fun q => tn (iv (u + 1) q)) (fun q => nI q) (fun q => jrem (iv v 0 - iv (u + 2) q) (iv v 0)) P) → gS D cA A H0 o ad ln iv' n H locs → W p l e R s m args below meth c H locs cells slots Q (F0 m pc ls [])) :
    W p l e R s m args below meth c H locs cells slots Q (F0 m 0 ls []) := by
  obtain ⟨hx, hb, hml, hown, hts, hr, hlocks⟩ := F
  have hb0 := isM_in hMv
  have hv0 := isM_in hMu
  refine lv_iconst (v := nI 0) hx hb dX0_invert_0 (by decide) ?_
  refine lv_istore_n (lv' := [(2, .int (nI 0)), (0, .ref (ad v)), (1, .ref (ad u))]) hx hb dX0_invert_1 rfl hl (by decide) rfl (fun ls hl => ?_)
  have L2 : ∀ (N : Nat) (i : Nat) (iv1 : Nat → Nat → Int32), P - i < N → (i ≤ P) → (iv1 = wr2 iv (v + 1) (v + 2) (fun q => tn (iv (u + 1) q)) (fun q => nI q) (fun q => jrem (iv v 0 - iv (u + 2) q) (iv v 0)) i) → ∀ (H : Heap) (locs : List Loc) (ls : Array Slot), gS D cA A H0 o ad ln iv1 n H locs → lv_has ls 4 [(0, .ref (ad v)), (1, .ref (ad u)), (2, .int (nI i))] → W p l e R s m args below meth c H locs cells slots Q (F0 m 2 ls []) := by
    intro N
    induction N with
    | zero => intro i iv1 hm; exact absurd hm (Nat.not_lt_zero _)
    | succ N ih2 =>
      intro i iv1 hm hi hI H locs ls hS hl
      have ho : ∀ q, q ≠ v + 1 → q ≠ v + 2 → iv1 q = iv q := fun q h1 h2 => by rw [hI]; exact wr2_o h1 h2 i
      refine lv_iload_n hx hb dX0_invert_2 rfl (lv_at hl 2 rfl) ?_
      refine lv_aload_n hx hb dX0_invert_3 rfl (lv_at hl 0 rfl) ?_
      refine gx_get (ci := 3) (v := .ref (ad (v + 1))) (C := RX0) (T := TX0) (N := 3) hx hb hts (fun _ h => inX0_invert_RX0 h) hown hK hS v (by omega) (sch_M hMv) rfl 1 (by decide) (hts (.fieldLink RX0 19 "CosetTables$Move" "goal" "[I") (by decide +kernel)) rfl dX0_invert_4 ?_
      refine gx_alen hx hb hK hS (v + 1) (by omega) (isM1 hMv) dX0_invert_7 ?_
      refine gx_as (y := nI P) (by rw [hP1]) ?_
      refine lv_icmp_ge (tgt := 53) hx hb dX0_invert_8 (by decide) (fun c_8 => ?_) (fun c_8 => ?_)
      · skip
        rw [nI_leI (by omega) (by omega)] at c_8
        exact kret iv1 _ _ _ _ dX0_invert_53 (by rw [show P = i by omega]; exact hI) hS
      · skip
        rw [nI_leI (by omega) (by omega)] at c_8
        refine lv_aload_n hx hb dX0_invert_11 rfl (lv_at hl 1 rfl) ?_
        refine gx_get (ci := 3) (v := .ref (ad (u + 1))) (C := RX0) (T := TX0) (N := 3) hx hb hts (fun _ h => inX0_invert_RX0 h) hown hK hS u (by omega) (sch_M hMu) rfl 1 (by decide) (hts (.fieldLink RX0 19 "CosetTables$Move" "goal" "[I") (by decide +kernel)) rfl dX0_invert_12 ?_
        refine lv_iload_n hx hb dX0_invert_15 rfl (lv_at hl 2 rfl) ?_
        refine gx_ialdn hx hb hK hS (u + 1) (by omega) (isM1 hMu) i (by omega) (hln _) dX0_invert_16 ?_
        refine gx_as (y := iv (u + 1) i) (by rw [ho (u + 1) (by omega) (by omega)]) ?_
        refine lv_topi (fun q eq => ?_)
        refine lv_istore_n (lv' := [(3, .int q), (0, .ref (ad v)), (1, .ref (ad u)), (2, .int (nI i))]) hx hb dX0_invert_17 rfl hl (by decide) rfl (fun ls hl => ?_)
        refine lv_aload_n hx hb dX0_invert_18 rfl (lv_at hl 1 rfl) ?_
        refine gx_get (ci := 3) (v := .ref (ad (v + 1))) (C := RX0) (T := TX0) (N := 3) hx hb hts (fun _ h => inX0_invert_RX0 h) hown hK hS v (by omega) (sch_M hMv) rfl 1 (by decide) (hts (.fieldLink RX0 19 "CosetTables$Move" "goal" "[I") (by decide +kernel)) rfl dX0_invert_19 ?_
        refine lv_iload_n hx hb dX0_invert_22 rfl (lv_at hl 0 rfl) ?_
        refine lv_iload_n hx hb dX0_invert_23 rfl (lv_at hl 3 rfl) ?_
        refine gx_iast hx hb hK hS (v + 1) (by omega) (isM1 hMv) (by rw [hP1, eq]; exact hgo i (by omega)) dX0_invert_24 (fun H locs hS => ?_)
        obtain ⟨iv2, eiv2⟩ : ∃ z, z = up2 iv1 (v + 1) (q).toNatClampNeg (nI i) := ⟨_, rfl⟩
        rw [← eiv2] at hS
        refine lv_aload_n hx hb dX0_invert_25 rfl (lv_at hl 1 rfl) ?_
        refine gx_get (ci := 3) (v := .ref (ad (v + 2))) (C := RX0) (T := TX0) (N := 3) hx hb hts (fun _ h => inX0_invert_RX0 h) hown hK hS v (by omega) (sch_M hMv) rfl 2 (by decide) (hts (.fieldLink RX0 23 "CosetTables$Move" "added" "[I") (by decide +kernel)) rfl dX0_invert_26 ?_
        refine lv_iload_n hx hb dX0_invert_29 rfl (lv_at hl 0 rfl) ?_
        refine lv_aload_n hx hb dX0_invert_30 rfl (lv_at hl 1 rfl) ?_
        refine gx_get (ci := 3) (v := .int (iv2 v 0)) (C := RX0) (T := TX0) (N := 3) hx hb hts (fun _ h => inX0_invert_RX0 h) hown hK hS v (by omega) (sch_M hMv) rfl 0 (by decide) (hts (.fieldLink RX0 7 "CosetTables$Move" "twists" "I") (by decide +kernel)) rfl dX0_invert_31 ?_
        refine gx_as (y := iv v 0) (by rw [eiv2, up2_row (by omega), ho v (by omega) (by omega)]) ?_
        refine lv_aload_n hx hb dX0_invert_34 rfl (lv_at hl 2 rfl) ?_
        refine gx_get (ci := 3) (v := .ref (ad (u + 2))) (C := RX0) (T := TX0) (N := 3) hx hb hts (fun _ h => inX0_invert_RX0 h) hown hK hS u (by omega) (sch_M hMu) rfl 2 (by decide) (hts (.fieldLink RX0 23 "CosetTables$Move" "added" "[I") (by decide +kernel)) rfl dX0_invert_35 ?_
        refine lv_iload_n hx hb dX0_invert_38 rfl (lv_at hl 3 rfl) ?_
        refine gx_ialdn hx hb hK hS (u + 2) (by omega) (isM2 hMu) i (by omega) (hln _) dX0_invert_39 ?_
        refine gx_as (y := iv (u + 2) i) (by rw [eiv2, up2_row (by omega), ho (u + 2) (by omega) (by omega)]) ?_
        refine lv_isub hx hb dX0_invert_40 ?_
        refine lv_aload_n hx hb dX0_invert_41 rfl (lv_at hl 1 rfl) ?_
        refine gx_get (ci := 3) (v := .int (iv2 v 0)) (C := RX0) (T := TX0) (N := 3) hx hb hts (fun _ h => inX0_invert_RX0 h) hown hK hS v (by omega) (sch_M hMv) rfl 0 (by decide) (hts (.fieldLink RX0 7 "CosetTables$Move" "twists" "I") (by decide +kernel)) rfl dX0_invert_42 ?_
        refine gx_as (y := iv v 0) (by rw [eiv2, up2_row (by omega), ho v (by omega) (by omega)]) ?_
        refine lv_irem hx hb dX0_invert_45 hT ?_
        refine gx_as (y := jrem (iv v 0 - iv (u + 2) i) (iv v 0)) rfl ?_
        refine gx_iast hx hb hK hS (v + 2) (by omega) (isM2 hMv) (by rw [hP2, eq]; exact hgo i (by omega)) dX0_invert_46 (fun H locs hS => ?_)
        obtain ⟨iv3, eiv3⟩ : ∃ z, z = up2 iv2 (v + 2) (q).toNatClampNeg (jrem (iv v 0 - iv (u + 2) i) (iv v 0)) := ⟨_, rfl⟩
        rw [← eiv3] at hS
        refine lv_iinc (v := nI (i + 1)) (lv' := [(2, .int (nI (i + 1))), (3, .int q), (0, .ref (ad v)), (1, .ref (ad u))]) hx hb dX0_invert_47 hl (k := 3) rfl (nI_1 i) (by decide) rfl (fun ls hl => ?_)
        refine lv_goto (tgt := 2) hx hb dX0_invert_50 (by decide) ?_
        exact ih2 (i + 1) iv3 (by omega) (by omega) (by rw [eiv3, eiv2, hI, eq]; rfl) _ _ _ hS (lv_sub hl [2, 3, 0] rfl)
  exact L2 _ 0 iv (Nat.lt_succ_self _) (Nat.zero_le _) rfl _ _ _ hS (lv_sub hl [1, 2, 0] rfl)
set_option maxRecDepth 100000 in
theorem ct_X0_invert (l : Launch) (D : va_G) (cA : Nat → ClassId) (o : Nat → Int64) (ad ln : Nat → Nat) (n sz : Nat) (iv : Nat → Nat → Int32) (v u P : Nat) (hn : 68 ≤ n) (hln : ∀ k, ln k < 2 ^ 31) (hMv : isM v = true) (hMu : isM u = true) (hvu : v ≠ u) (hP1 : ln (v + 1) = P) (hP2 : ln (v + 2) = P) (hP3 : ln (u + 1) = P) (hP4 : ln (u + 2) = P) (hP : P ≤ 8) (hT : ¬ iv v 0 = 0) (hgo : ∀ p, p < P → vp_in (iv (u + 1) p) P) : gMv l yX0_invert wsX0_invert { frames := 0, cells := 0, slots := 0, locals := 0 } D cA o ad ln n sz iv [.ref (ad v), .ref (ad u)] (fun iv' => iv' = wr2 iv (v + 1) (v + 2) (fun q => tn (iv (u + 1) q)) (fun q => nI q) (fun q => jrem (iv v 0 - iv (u + 2) q) (iv v 0)) P) := by
  refine Met.ofW (cc := cX0_invert) (maxL := 4) (ret := none) (by decide) rfl ?_
  intro p e s m args below meth c s₁ B hml hv__
  obtain ⟨rfl, hv__⟩ := hv__
  obtain ⟨hsz, hS, hK, hN, hA⟩ := gS.entry hv__
  have hl := lv_entry ([.ref (ad v), .ref (ad u)]) (n := 4) (Nat.le_of_ble_eq_true rfl)
  rw [lg_entry_eq]
  generalize (lg_sl ([.ref (ad v), .ref (ad u)]) ++ List.replicate (4 - (lg_sl ([.ref (ad v), .ref (ad u)])).length) Slot.unset).toArray = ls at hl ⊢
  exact bd_X0_invert (v := v) (u := u) (P := P) ⟨B.exec, B.bytes, hml, findClass_of_methodNamed B.named, atoms_spec (ws := wsX0_invert) B.pre, B.returns, B.notSynchronized⟩ (Nat.le_refl _) (Nat.le_refl _) (Nat.le_refl _) (Nat.le_refl _) hK hN hA hn hln hMv hMu hvu hP1 hP2 hP3 hP4 hP hT hgo hS hl (fun iv' H locs ls pc hd hp hS => gx_vret B.exec B.bytes B.returns B.notSynchronized hS hp hd)

set_option maxHeartbeats 4000000 in
set_option maxRecDepth 100000 in
theorem bd_X6_leaveAll {p : Program} {l : Launch} {e : Env} {R : Room} {s : State} {m : MethodId} {args : Array Value} {below : List Frame} {meth : Method} {c : Code} {H : Heap} {locs : List Loc} {cells slots : Nat} {Q : State → Prop} {ls : Array Slot} {D : va_G} {A : Nat → Prop} {H0 : Heap} {cA : Nat → ClassId} {o : Nat → Int64} {ad ln : Nat → Nat} {iv : Nat → Nat → Int32} {n : Nat} {k : Nat}
    (F : gF p s m meth c cX6_leaveAll 2 RX6 wsX6_leaveAll args none) (hRf : 0 ≤ R.frames) (hRl : 0 ≤ R.locals) (hRc : cells ≤ R.cells) (hRs : slots ≤ R.slots) (hK : va_K D vwCl (gT cA) s) (hN : NW s) (hA : ∀ q, H0.size ≤ q → A q) (hn : True) (hln : ∀ k, ln k < 2 ^ 31) (hk : k < n) (hkI : isI k = true)
    (hS : gS D cA A H0 o ad ln iv n H locs) (hl : lv_has ls 2 [(0, .ref (ad k))])
    (kret : ∀ (iv' : Nat → Nat → Int32) (H : Heap) (locs : List Loc) (ls : Array Slot) (pc : Nat), decode cX6_leaveAll pc = .ok (.return_, 1) → (iv' = wr1 iv k (fun j => nI j) (ln k)) → gS D cA A H0 o ad ln iv' n H locs → W p l e R s m args below meth c H locs cells slots Q (F0 m pc ls [])) :
    W p l e R s m args below meth c H locs cells slots Q (F0 m 0 ls []) := by
  obtain ⟨hx, hb, hml, hown, hts, hr, hlocks⟩ := F
  refine lv_iconst (v := nI 0) hx hb dX6_leaveAll_0 (by decide) ?_
  refine lv_istore_n (lv' := [(1, .int (nI 0)), (0, .ref (ad k))]) hx hb dX6_leaveAll_1 rfl hl (by decide) rfl (fun ls hl => ?_)
  have L2 : ∀ (N : Nat) (i : Nat) (iv1 : Nat → Nat → Int32), ln k - i < N → (i ≤ ln k) → (iv1 = wr1 iv k (fun j => nI j) i) → ∀ (H : Heap) (locs : List Loc) (ls : Array Slot), gS D cA A H0 o ad ln iv1 n H locs → lv_has ls 2 [(0, .ref (ad k)), (1, .int (nI i))] → W p l e R s m args below meth c H locs cells slots Q (F0 m 2 ls []) := by
    intro N
    induction N with
    | zero => intro i iv1 hm; exact absurd hm (Nat.not_lt_zero _)
    | succ N ih2 =>
      intro i iv1 hm hi hI H locs ls hS hl
      have hL := hln k
      refine lv_iload_n hx hb dX6_leaveAll_2 rfl (lv_at hl 1 rfl) ?_
      refine lv_aload_n hx hb dX6_leaveAll_3 rfl (lv_at hl 0 rfl) ?_
      refine gx_alen hx hb hK hS k (by omega) hkI dX6_leaveAll_4 ?_
      refine lv_icmp_ge (tgt := 18) hx hb dX6_leaveAll_5 (by decide) (fun c_5 => ?_) (fun c_5 => ?_)
      · skip
        rw [nI_leI (by omega) (by omega)] at c_5
        exact kret iv1 _ _ _ _ dX6_leaveAll_18 (by rw [show ln k = i by omega]; exact hI) hS
      · skip
        rw [nI_leI (by omega) (by omega)] at c_5
        refine lv_aload_n hx hb dX6_leaveAll_8 rfl (lv_at hl 0 rfl) ?_
        refine lv_iload_n hx hb dX6_leaveAll_9 rfl (lv_at hl 1 rfl) ?_
        refine lv_iload_n hx hb dX6_leaveAll_10 rfl (lv_at hl 1 rfl) ?_
        refine gx_iastn hx hb hK hS k (by omega) hkI i (by omega) (hln _) dX6_leaveAll_11 (fun H locs hS => ?_)
        obtain ⟨iv2, eiv2⟩ : ∃ z, z = up2 iv1 k i (nI i) := ⟨_, rfl⟩
        rw [← eiv2] at hS
        refine lv_iinc (v := nI (i + 1)) (lv' := [(1, .int (nI (i + 1))), (0, .ref (ad k))]) hx hb dX6_leaveAll_12 hl (k := 1) rfl (nI_1 i) (by decide) rfl (fun ls hl => ?_)
        refine lv_goto (tgt := 2) hx hb dX6_leaveAll_15 (by decide) ?_
        exact ih2 (i + 1) iv2 (by omega) (by omega) (by rw [eiv2, hI]; exact wr1_s) _ _ _ hS (lv_sub hl [1, 0] rfl)
  exact L2 _ 0 iv (Nat.lt_succ_self _) (Nat.zero_le _) wr1_0.symm _ _ _ hS (lv_sub hl [1, 0] rfl)
set_option maxRecDepth 100000 in
theorem ct_X6_leaveAll (l : Launch) (D : va_G) (cA : Nat → ClassId) (o : Nat → Int64) (ad ln : Nat → Nat) (n sz : Nat) (iv : Nat → Nat → Int32) (k : Nat) (hn : True) (hln : ∀ k, ln k < 2 ^ 31) (hk : k < n) (hkI : isI k = true) : gMv l yX6_leaveAll wsX6_leaveAll { frames := 0, cells := 0, slots := 0, locals := 0 } D cA o ad ln n sz iv [.ref (ad k)] (fun iv' => iv' = wr1 iv k (fun j => nI j) (ln k)) := by
  refine Met.ofW (cc := cX6_leaveAll) (maxL := 2) (ret := none) (by decide) rfl ?_
  intro p e s m args below meth c s₁ B hml hv__
  obtain ⟨rfl, hv__⟩ := hv__
  obtain ⟨hsz, hS, hK, hN, hA⟩ := gS.entry hv__
  have hl := lv_entry ([.ref (ad k)]) (n := 2) (Nat.le_of_ble_eq_true rfl)
  rw [lg_entry_eq]
  generalize (lg_sl ([.ref (ad k)]) ++ List.replicate (2 - (lg_sl ([.ref (ad k)])).length) Slot.unset).toArray = ls at hl ⊢
  exact bd_X6_leaveAll (k := k) ⟨B.exec, B.bytes, hml, findClass_of_methodNamed B.named, atoms_spec (ws := wsX6_leaveAll) B.pre, B.returns, B.notSynchronized⟩ (Nat.le_refl _) (Nat.le_refl _) (Nat.le_refl _) (Nat.le_refl _) hK hN hA hn hln hk hkI hS hl (fun iv' H locs ls pc hd hp hS => gx_vret B.exec B.bytes B.returns B.notSynchronized hS hp hd)

set_option maxHeartbeats 4000000 in
set_option maxRecDepth 100000 in
theorem bd_X6_swap {p : Program} {l : Launch} {e : Env} {R : Room} {s : State} {m : MethodId} {args : Array Value} {below : List Frame} {meth : Method} {c : Code} {H : Heap} {locs : List Loc} {cells slots : Nat} {Q : State → Prop} {ls : Array Slot} {D : va_G} {A : Nat → Prop} {H0 : Heap} {cA : Nat → ClassId} {o : Nat → Int64} {ad ln : Nat → Nat} {iv : Nat → Nat → Int32} {n : Nat} {k a b : Nat}
    (F : gF p s m meth c cX6_swap 4 RX6 wsX6_swap args none) (hRf : 0 ≤ R.frames) (hRl : 0 ≤ R.locals) (hRc : cells ≤ R.cells) (hRs : slots ≤ R.slots) (hK : va_K D vwCl (gT cA) s) (hN : NW s) (hA : ∀ q, H0.size ≤ q → A q) (hn : True) (hln : ∀ k, ln k < 2 ^ 31) (hk : k < n) (hkI : isI k = true) (ha : a < ln k) (hb9 : b < ln k) (hab : a ≠ b)
    (hS : gS D cA A H0 o ad ln iv n H locs) (hl : lv_has ls 4 [(0, .ref (ad k)), (1, .int (nI a)), (2, .int (nI b))])
    (kret : ∀ (iv' : Nat → Nat → Int32) (H : Heap) (locs : List Loc) (ls : Array Slot) (pc : Nat), decode cX6_swap pc = .ok (.return_, 1) → (iv' = up2 (up2 iv k a (iv k b)) k b (iv k a)) → gS D cA A H0 o ad ln iv' n H locs → W p l e R s m args below meth c H locs cells slots Q (F0 m pc ls [])) :
    W p l e R s m args below meth c H locs cells slots Q (F0 m 0 ls []) := by
  obtain ⟨hx, hb, hml, hown, hts, hr, hlocks⟩ := F
  refine lv_aload_n hx hb dX6_swap_0 rfl (lv_at hl 0 rfl) ?_
  refine lv_iload_n hx hb dX6_swap_1 rfl (lv_at hl 1 rfl) ?_
  refine gx_ialdn hx hb hK hS k (by omega) hkI a (by omega) (hln _) dX6_swap_2 ?_
  refine lv_topi (fun x ex => ?_)
  refine lv_istore_n (lv' := [(3, .int x), (0, .ref (ad k)), (1, .int (nI a)), (2, .int (nI b))]) hx hb dX6_swap_3 rfl hl (by decide) rfl (fun ls hl => ?_)
  refine lv_aload_n hx hb dX6_swap_4 rfl (lv_at hl 1 rfl) ?_
  refine lv_iload_n hx hb dX6_swap_5 rfl (lv_at hl 2 rfl) ?_
  refine lv_aload_n hx hb dX6_swap_6 rfl (lv_at hl 1 rfl) ?_
  refine lv_iload_n hx hb dX6_swap_7 rfl (lv_at hl 3 rfl) ?_
  refine gx_ialdn hx hb hK hS k (by omega) hkI b (by omega) (hln _) dX6_swap_8 ?_
  refine gx_iastn hx hb hK hS k (by omega) hkI a (by omega) (hln _) dX6_swap_9 (fun H locs hS => ?_)
  obtain ⟨iv2, eiv2⟩ : ∃ z, z = up2 iv k a (iv k b) := ⟨_, rfl⟩
  rw [← eiv2] at hS
  refine lv_aload_n hx hb dX6_swap_10 rfl (lv_at hl 1 rfl) ?_
  refine lv_iload_n hx hb dX6_swap_11 rfl (lv_at hl 3 rfl) ?_
  refine lv_iload_n hx hb dX6_swap_12 rfl (lv_at hl 0 rfl) ?_
  refine gx_iastn hx hb hK hS k (by omega) hkI b (by omega) (hln _) dX6_swap_13 (fun H locs hS => ?_)
  obtain ⟨iv3, eiv3⟩ : ∃ z, z = up2 iv2 k b (x) := ⟨_, rfl⟩
  rw [← eiv3] at hS
  exact kret iv3 _ _ _ _ dX6_swap_14 (by rw [eiv3, eiv2, ex]) hS
set_option maxRecDepth 100000 in
theorem ct_X6_swap (l : Launch) (D : va_G) (cA : Nat → ClassId) (o : Nat → Int64) (ad ln : Nat → Nat) (n sz : Nat) (iv : Nat → Nat → Int32) (k a b : Nat) (hn : True) (hln : ∀ k, ln k < 2 ^ 31) (hk : k < n) (hkI : isI k = true) (ha : a < ln k) (hb9 : b < ln k) (hab : a ≠ b) : gMv l yX6_swap wsX6_swap { frames := 0, cells := 0, slots := 0, locals := 0 } D cA o ad ln n sz iv [.ref (ad k), .int (nI a), .int (nI b)] (fun iv' => iv' = up2 (up2 iv k a (iv k b)) k b (iv k a)) := by
  refine Met.ofW (cc := cX6_swap) (maxL := 4) (ret := none) (by decide) rfl ?_
  intro p e s m args below meth c s₁ B hml hv__
  obtain ⟨rfl, hv__⟩ := hv__
  obtain ⟨hsz, hS, hK, hN, hA⟩ := gS.entry hv__
  have hl := lv_entry ([.ref (ad k), .int (nI a), .int (nI b)]) (n := 4) (Nat.le_of_ble_eq_true rfl)
  rw [lg_entry_eq]
  generalize (lg_sl ([.ref (ad k), .int (nI a), .int (nI b)]) ++ List.replicate (4 - (lg_sl ([.ref (ad k), .int (nI a), .int (nI b)])).length) Slot.unset).toArray = ls at hl ⊢
  exact bd_X6_swap (k := k) (a := a) (b := b) ⟨B.exec, B.bytes, hml, findClass_of_methodNamed B.named, atoms_spec (ws := wsX6_swap) B.pre, B.returns, B.notSynchronized⟩ (Nat.le_refl _) (Nat.le_refl _) (Nat.le_refl _) (Nat.le_refl _) hK hN hA hn hln hk hkI ha hb9 hab hS hl (fun iv' H locs ls pc hd hp hS => gx_vret B.exec B.bytes B.returns B.notSynchronized hS hp hd)
