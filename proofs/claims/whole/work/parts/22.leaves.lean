theorem inX0_isImage_RX0 : ∀ {w : Cond}, w ∈ u_ws RX0 TX0 3 → w ∈ wsX0_isImage := fun {w} h => by first | exact List.mem_cons_of_mem _ (List.mem_append_right _ h) | (revert h; revert w; show ∀ w ∈ u_ws RX0 TX0 3, w ∈ wsX0_isImage; decide +kernel)
set_option maxHeartbeats 4000000 in
set_option maxRecDepth 100000 in
theorem bd_X0_isImage {p : Program} {l : Launch} {e : Env} {R : Room} {s : State} {m : MethodId} {args : Array Value} {below : List Frame} {meth : Method} {c : Code} {H : Heap} {locs : List Loc} {cells slots : Nat} {Q : State → Prop} {ls : Array Slot} {D : va_G} {A : Nat → Prop} {H0 : Heap} {cA : Nat → ClassId} {o : Nat → Int64} {ad ln : Nat → Nat} {iv : Nat → Nat → Int32} {n : Nat} {v u k P : Nat}
    (F : gF p s m meth c cX0_isImage 5 RX0 wsX0_isImage args (some .boolean)) (hRf : 0 ≤ R.frames) (hRl : 0 ≤ R.locals) (hRc : cells ≤ R.cells) (hRs : slots ≤ R.slots) (hK : va_K D vwCl (gT cA) s) (hN : NW s) (hA : ∀ q, H0.size ≤ q → A q) (hn : 68 ≤ n) (hln : ∀ k, ln k < 2 ^ 31) (hMv : isM v = true) (hMu : isM u = true) (hk : 21 ≤ k ∧ k < 25) (hP1 : ln (v + 1) = P) (hP2 : ln (v + 2) = P) (hP3 : ln (u + 1) = P) (hP4 : ln (u + 2) = P) (hP5 : ln k = P) (hP : P ≤ 8) (hgo : ∀ p, p < P → vp_in (iv (u + 1) p) P) (hsy : ∀ p, p < P → vp_in (iv k p) P)
    (hS : gS D cA A H0 o ad ln iv n H locs) (hl : lv_has ls 5 [(0, .ref (ad v)), (1, .ref (ad u)), (2, .ref (ad k))])
    (kret : ∀ (r : Int32) (iv' : Nat → Nat → Int32) (H : Heap) (locs : List Loc) (ls : Array Slot) (pc : Nat), decode cX0_isImage pc = .ok (.ireturn, 1) → ((r = 0 ∨ r = 1) ∧ (r = 1 ↔ ∀ q, q < P → iv (v + 1) (tn (iv k q)) = iv k (tn (iv (u + 1) q)) ∧ iv (v + 2) (tn (iv k q)) = iv (u + 2) q) ∧ iv' = iv) → gS D cA A H0 o ad ln iv' n H locs → W p l e R s m args below meth c H locs cells slots Q (F0 m pc ls [.int r])) :
    W p l e R s m args below meth c H locs cells slots Q (F0 m 0 ls []) := by
  obtain ⟨hx, hb, hml, hown, hts, hr, hlocks⟩ := F
  have hb0 := isM_in hMv
  have hv0 := isM_in hMu
  have hkI : isI k = true := by
    have := isI_sy (j := k - 21) (by omega)
    rwa [show 21 + (k - 21) = k by omega] at this
  refine lv_iconst (v := nI 0) hx hb dX0_isImage_0 (by decide) ?_
  refine lv_istore_n (lv' := [(3, .int (nI 0)), (0, .ref (ad v)), (1, .ref (ad u)), (2, .ref (ad k))]) hx hb dX0_isImage_1 rfl hl (by decide) rfl (fun ls hl => ?_)
  have L2 : ∀ (N : Nat) (i : Nat), P - i < N → (i ≤ P) → (∀ q, q < i → iv (v + 1) (tn (iv k q)) = iv k (tn (iv (u + 1) q)) ∧ iv (v + 2) (tn (iv k q)) = iv (u + 2) q) → ∀ (H : Heap) (locs : List Loc) (ls : Array Slot), gS D cA A H0 o ad ln iv n H locs → lv_has ls 5 [(0, .ref (ad v)), (1, .ref (ad u)), (2, .ref (ad k)), (3, .int (nI i))] → W p l e R s m args below meth c H locs cells slots Q (F0 m 2 ls []) := by
    intro N
    induction N with
    | zero => intro i hm; exact absurd hm (Nat.not_lt_zero _)
    | succ N ih2 =>
      intro i hm hi hI H locs ls hS hl
      refine lv_iload_n hx hb dX0_isImage_2 rfl (lv_at hl 3 rfl) ?_
      refine lv_aload_n hx hb dX0_isImage_3 rfl (lv_at hl 0 rfl) ?_
      refine gx_get (ci := 3) (v := .ref (ad (v + 1))) (C := RX0) (T := TX0) (N := 3) hx hb hts (fun _ h => inX0_isImage_RX0 h) hown hK hS v (by omega) (sch_M hMv) rfl 1 (by decide) (hts (.fieldLink RX0 19 "CosetTables$Move" "goal" "[I") (by decide +kernel)) rfl dX0_isImage_4 ?_
      refine gx_alen hx hb hK hS (v + 1) (by omega) (isM1 hMv) dX0_isImage_7 ?_
      refine gx_as (y := nI P) (by rw [hP1]) ?_
      refine lv_icmp_ge (tgt := 58) hx hb dX0_isImage_8 (by decide) (fun c_8 => ?_) (fun c_8 => ?_)
      · skip
        rw [nI_leI (by omega) (by omega)] at c_8
        refine lv_iconst (v := nI 1) hx hb dX0_isImage_58 (by decide) ?_
        exact kret _ iv _ _ _ _ dX0_isImage_59 (by rw [show P = i by omega]; exact ⟨Or.inr rfl, ⟨fun _ => hI, fun _ => rfl⟩, rfl⟩) hS
      · skip
        rw [nI_leI (by omega) (by omega)] at c_8
        refine lv_aload_n hx hb dX0_isImage_11 rfl (lv_at hl 2 rfl) ?_
        refine lv_iload_n hx hb dX0_isImage_12 rfl (lv_at hl 3 rfl) ?_
        refine gx_ialdn hx hb hK hS k (by omega) hkI i (by omega) (hln _) dX0_isImage_13 ?_
        refine lv_topi (fun x ex => ?_)
        refine lv_istore (lv' := [(4, .int x), (0, .ref (ad v)), (1, .ref (ad u)), (2, .ref (ad k)), (3, .int (nI i))]) hx hb dX0_isImage_14 hl (by decide) rfl (fun ls hl => ?_)
        refine lv_aload_n hx hb dX0_isImage_16 rfl (lv_at hl 1 rfl) ?_
        refine gx_get (ci := 3) (v := .ref (ad (v + 1))) (C := RX0) (T := TX0) (N := 3) hx hb hts (fun _ h => inX0_isImage_RX0 h) hown hK hS v (by omega) (sch_M hMv) rfl 1 (by decide) (hts (.fieldLink RX0 19 "CosetTables$Move" "goal" "[I") (by decide +kernel)) rfl dX0_isImage_17 ?_
        refine lv_iload hx hb dX0_isImage_20 (lv_at hl 0 rfl) ?_
        refine gx_iald hx hb hK hS (v + 1) (by omega) (isM1 hMv) (by rw [hP1, ex]; exact hsy i (by omega)) dX0_isImage_22 ?_
        refine lv_aload_n hx hb dX0_isImage_23 rfl (lv_at hl 3 rfl) ?_
        refine lv_aload_n hx hb dX0_isImage_24 rfl (lv_at hl 2 rfl) ?_
        refine gx_get (ci := 3) (v := .ref (ad (u + 1))) (C := RX0) (T := TX0) (N := 3) hx hb hts (fun _ h => inX0_isImage_RX0 h) hown hK hS u (by omega) (sch_M hMu) rfl 1 (by decide) (hts (.fieldLink RX0 19 "CosetTables$Move" "goal" "[I") (by decide +kernel)) rfl dX0_isImage_25 ?_
        refine lv_iload_n hx hb dX0_isImage_28 rfl (lv_at hl 4 rfl) ?_
        refine gx_ialdn hx hb hK hS (u + 1) (by omega) (isM1 hMu) i (by omega) (hln _) dX0_isImage_29 ?_
        refine gx_iald hx hb hK hS k (by omega) hkI (by rw [hP5]; exact hgo i (by omega)) dX0_isImage_30 ?_
        refine lv_icmp_ne (tgt := 50) hx hb dX0_isImage_31 (by decide) (fun c_31 => ?_) (fun c_31 => ?_)
        · skip
          refine lv_iconst (v := nI 0) hx hb dX0_isImage_50 (by decide) ?_
          exact kret _ iv _ _ _ _ dX0_isImage_51 ⟨Or.inl rfl, ⟨fun h => absurd h (by decide), fun h => absurd (h i (by omega)) (fun h9 => c_31 (by rw [ex]; exact h9.1))⟩, rfl⟩ hS
        · skip
          refine lv_aload_n hx hb dX0_isImage_34 rfl (lv_at hl 1 rfl) ?_
          refine gx_get (ci := 3) (v := .ref (ad (v + 2))) (C := RX0) (T := TX0) (N := 3) hx hb hts (fun _ h => inX0_isImage_RX0 h) hown hK hS v (by omega) (sch_M hMv) rfl 2 (by decide) (hts (.fieldLink RX0 23 "CosetTables$Move" "added" "[I") (by decide +kernel)) rfl dX0_isImage_35 ?_
          refine lv_iload hx hb dX0_isImage_38 (lv_at hl 0 rfl) ?_
          refine gx_iald hx hb hK hS (v + 2) (by omega) (isM2 hMv) (by rw [hP2, ex]; exact hsy i (by omega)) dX0_isImage_40 ?_
          refine lv_aload_n hx hb dX0_isImage_41 rfl (lv_at hl 2 rfl) ?_
          refine gx_get (ci := 3) (v := .ref (ad (u + 2))) (C := RX0) (T := TX0) (N := 3) hx hb hts (fun _ h => inX0_isImage_RX0 h) hown hK hS u (by omega) (sch_M hMu) rfl 2 (by decide) (hts (.fieldLink RX0 23 "CosetTables$Move" "added" "[I") (by decide +kernel)) rfl dX0_isImage_42 ?_
          refine lv_iload_n hx hb dX0_isImage_45 rfl (lv_at hl 4 rfl) ?_
          refine gx_ialdn hx hb hK hS (u + 2) (by omega) (isM2 hMu) i (by omega) (hln _) dX0_isImage_46 ?_
          refine lv_icmp_eq (tgt := 52) hx hb dX0_isImage_47 (by decide) (fun c_47 => ?_) (fun c_47 => ?_)
          · skip
            refine lv_iinc (v := nI (i + 1)) (lv' := [(3, .int (nI (i + 1))), (4, .int x), (0, .ref (ad v)), (1, .ref (ad u)), (2, .ref (ad k))]) hx hb dX0_isImage_52 hl (k := 4) rfl (nI_1 i) (by decide) rfl (fun ls hl => ?_)
            refine lv_goto (tgt := 2) hx hb dX0_isImage_55 (by decide) ?_
            exact ih2 (i + 1) (by omega) (by omega) (lt_s hI ⟨by rw [← ex]; exact c_31, by rw [← ex]; exact c_47⟩) _ _ _ hS (lv_sub hl [2, 3, 4, 0] rfl)
          · skip
            refine lv_iconst (v := nI 0) hx hb dX0_isImage_50 (by decide) ?_
            exact kret _ iv _ _ _ _ dX0_isImage_51 ⟨Or.inl rfl, ⟨fun h => absurd h (by decide), fun h => absurd (h i (by omega)) (fun h9 => c_47 (by rw [ex]; exact h9.2))⟩, rfl⟩ hS
  exact L2 _ 0 (Nat.lt_succ_self _) (Nat.zero_le _) lt_0 _ _ _ hS (lv_sub hl [1, 2, 3, 0] rfl)
set_option maxRecDepth 100000 in
theorem ct_X0_isImage (l : Launch) (D : va_G) (cA : Nat → ClassId) (o : Nat → Int64) (ad ln : Nat → Nat) (n sz : Nat) (iv : Nat → Nat → Int32) (v u k P : Nat) (hn : 68 ≤ n) (hln : ∀ k, ln k < 2 ^ 31) (hMv : isM v = true) (hMu : isM u = true) (hk : 21 ≤ k ∧ k < 25) (hP1 : ln (v + 1) = P) (hP2 : ln (v + 2) = P) (hP3 : ln (u + 1) = P) (hP4 : ln (u + 2) = P) (hP5 : ln k = P) (hP : P ≤ 8) (hgo : ∀ p, p < P → vp_in (iv (u + 1) p) P) (hsy : ∀ p, p < P → vp_in (iv k p) P) : gMi l yX0_isImage wsX0_isImage { frames := 0, cells := 0, slots := 0, locals := 0 } D cA o ad ln n sz iv [.ref (ad v), .ref (ad u), .ref (ad k)] (fun (r : Int32) iv' => (r = 0 ∨ r = 1) ∧ (r = 1 ↔ ∀ q, q < P → iv (v + 1) (tn (iv k q)) = iv k (tn (iv (u + 1) q)) ∧ iv (v + 2) (tn (iv k q)) = iv (u + 2) q) ∧ iv' = iv) := by
  refine Met.ofW (cc := cX0_isImage) (maxL := 5) (ret := (some .boolean)) (by decide) rfl ?_
  intro p e s m args below meth c s₁ B hml hv__
  obtain ⟨rfl, hv__⟩ := hv__
  obtain ⟨hsz, hS, hK, hN, hA⟩ := gS.entry hv__
  have hl := lv_entry ([.ref (ad v), .ref (ad u), .ref (ad k)]) (n := 5) (Nat.le_of_ble_eq_true rfl)
  rw [lg_entry_eq]
  generalize (lg_sl ([.ref (ad v), .ref (ad u), .ref (ad k)]) ++ List.replicate (5 - (lg_sl ([.ref (ad v), .ref (ad u), .ref (ad k)])).length) Slot.unset).toArray = ls at hl ⊢
  exact bd_X0_isImage (v := v) (u := u) (k := k) (P := P) ⟨B.exec, B.bytes, hml, findClass_of_methodNamed B.named, atoms_spec (ws := wsX0_isImage) B.pre, B.returns, B.notSynchronized⟩ (Nat.le_refl _) (Nat.le_refl _) (Nat.le_refl _) (Nat.le_refl _) hK hN hA hn hln hMv hMu hk hP1 hP2 hP3 hP4 hP5 hP hgo hsy hS hl (fun r iv' H locs ls pc hd hp hS => gx_zret B.exec B.bytes B.returns B.notSynchronized (hp.1) hS hp hd)

set_option maxHeartbeats 4000000 in
set_option maxRecDepth 100000 in
theorem bd_J7_fill_53178 {p : Program} {l : Launch} {e : Env} {R : Room} {s : State} {m : MethodId} {args : Array Value} {below : List Frame} {meth : Method} {c : Code} {H : Heap} {locs : List Loc} {cells slots : Nat} {Q : State → Prop} {ls : Array Slot} {D : va_G} {A : Nat → Prop} {H0 : Heap} {cA : Nat → ClassId} {o : Nat → Int64} {ad ln : Nat → Nat} {iv : Nat → Nat → Int32} {n : Nat} {k : Nat} {x : Int32}
    (F : gF p s m meth c cJ7_fill_53178 4 RJ7 wsJ7_fill_53178 args none) (hRf : 0 ≤ R.frames) (hRl : 0 ≤ R.locals) (hRc : cells ≤ R.cells) (hRs : slots ≤ R.slots) (hK : va_K D vwCl (gT cA) s) (hN : NW s) (hA : ∀ q, H0.size ≤ q → A q) (hn : True) (hln : ∀ k, ln k < 2 ^ 31) (hk : k < n) (hkI : isI k = true)
    (hS : gS D cA A H0 o ad ln iv n H locs) (hl : lv_has ls 4 [(0, .ref (ad k)), (1, .int x)])
    (kret : ∀ (iv' : Nat → Nat → Int32) (H : Heap) (locs : List Loc) (ls : Array Slot) (pc : Nat), decode cJ7_fill_53178 pc = .ok (.return_, 1) → (iv' = wr1 iv k (fun _ => x) (ln k)) → gS D cA A H0 o ad ln iv' n H locs → W p l e R s m args below meth c H locs cells slots Q (F0 m pc ls [])) :
    W p l e R s m args below meth c H locs cells slots Q (F0 m 0 ls []) := by
  obtain ⟨hx, hb, hml, hown, hts, hr, hlocks⟩ := F
  have hL := hln k
  refine lv_iconst (v := nI 0) hx hb dJ7_fill_53178_0 (by decide) ?_
  refine lv_istore_n (lv' := [(2, .int (nI 0)), (0, .ref (ad k)), (1, .int x)]) hx hb dJ7_fill_53178_1 rfl hl (by decide) rfl (fun ls hl => ?_)
  refine lv_aload_n hx hb dJ7_fill_53178_2 rfl (lv_at hl 1 rfl) ?_
  refine gx_alen hx hb hK hS k (by omega) hkI dJ7_fill_53178_3 ?_
  refine lv_istore_n (lv' := [(3, .int (nI (ln k))), (2, .int (nI 0)), (0, .ref (ad k)), (1, .int x)]) hx hb dJ7_fill_53178_4 rfl hl (by decide) rfl (fun ls hl => ?_)
  have L5 : ∀ (N : Nat) (i : Nat) (iv1 : Nat → Nat → Int32), ln k - i < N → (i ≤ ln k) → (iv1 = wr1 iv k (fun _ => x) i) → ∀ (H : Heap) (locs : List Loc) (ls : Array Slot), gS D cA A H0 o ad ln iv1 n H locs → lv_has ls 4 [(0, .ref (ad k)), (1, .int x), (2, .int (nI i)), (3, .int (nI (ln k)))] → W p l e R s m args below meth c H locs cells slots Q (F0 m 5 ls []) := by
    intro N
    induction N with
    | zero => intro i iv1 hm; exact absurd hm (Nat.not_lt_zero _)
    | succ N ih5 =>
      intro i iv1 hm hi hI H locs ls hS hl
      refine lv_iload_n hx hb dJ7_fill_53178_5 rfl (lv_at hl 2 rfl) ?_
      refine lv_iload_n hx hb dJ7_fill_53178_6 rfl (lv_at hl 3 rfl) ?_
      refine lv_icmp_ge (tgt := 20) hx hb dJ7_fill_53178_7 (by decide) (fun c_7 => ?_) (fun c_7 => ?_)
      · skip
        rw [nI_leI (by omega) (by omega)] at c_7
        exact kret iv1 _ _ _ _ dJ7_fill_53178_20 (by rw [show ln k = i by omega]; exact hI) hS
      · skip
        rw [nI_leI (by omega) (by omega)] at c_7
        refine lv_aload_n hx hb dJ7_fill_53178_10 rfl (lv_at hl 0 rfl) ?_
        refine lv_iload_n hx hb dJ7_fill_53178_11 rfl (lv_at hl 2 rfl) ?_
        refine lv_iload_n hx hb dJ7_fill_53178_12 rfl (lv_at hl 1 rfl) ?_
        refine gx_iastn hx hb hK hS k (by omega) hkI i (by omega) (hln _) dJ7_fill_53178_13 (fun H locs hS => ?_)
        obtain ⟨iv2, eiv2⟩ : ∃ z, z = up2 iv1 k i (x) := ⟨_, rfl⟩
        rw [← eiv2] at hS
        refine lv_iinc (v := nI (i + 1)) (lv' := [(2, .int (nI (i + 1))), (0, .ref (ad k)), (1, .int x), (3, .int (nI (ln k)))]) hx hb dJ7_fill_53178_14 hl (k := 2) rfl (nI_1 i) (by decide) rfl (fun ls hl => ?_)
        refine lv_goto (tgt := 5) hx hb dJ7_fill_53178_17 (by decide) ?_
        exact ih5 (i + 1) iv2 (by omega) (by omega) (by rw [eiv2, hI]; exact wr1_s) _ _ _ hS (lv_sub hl [1, 2, 0, 3] rfl)
  exact L5 _ 0 iv (Nat.lt_succ_self _) (Nat.zero_le _) wr1_0.symm _ _ _ hS (lv_sub hl [2, 3, 1, 0] rfl)
set_option maxRecDepth 100000 in
theorem ct_J7_fill_53178 (l : Launch) (D : va_G) (cA : Nat → ClassId) (o : Nat → Int64) (ad ln : Nat → Nat) (n sz : Nat) (iv : Nat → Nat → Int32) (k : Nat) (x : Int32) (hn : True) (hln : ∀ k, ln k < 2 ^ 31) (hk : k < n) (hkI : isI k = true) : gMv l yJ7_fill_53178 wsJ7_fill_53178 { frames := 0, cells := 0, slots := 0, locals := 0 } D cA o ad ln n sz iv [.ref (ad k), .int x] (fun iv' => iv' = wr1 iv k (fun _ => x) (ln k)) := by
  refine Met.ofW (cc := cJ7_fill_53178) (maxL := 4) (ret := none) (by decide) rfl ?_
  intro p e s m args below meth c s₁ B hml hv__
  obtain ⟨rfl, hv__⟩ := hv__
  obtain ⟨hsz, hS, hK, hN, hA⟩ := gS.entry hv__
  have hl := lv_entry ([.ref (ad k), .int x]) (n := 4) (Nat.le_of_ble_eq_true rfl)
  rw [lg_entry_eq]
  generalize (lg_sl ([.ref (ad k), .int x]) ++ List.replicate (4 - (lg_sl ([.ref (ad k), .int x])).length) Slot.unset).toArray = ls at hl ⊢
  exact bd_J7_fill_53178 (k := k) (x := x) ⟨B.exec, B.bytes, hml, findClass_of_methodNamed B.named, atoms_spec (ws := wsJ7_fill_53178) B.pre, B.returns, B.notSynchronized⟩ (Nat.le_refl _) (Nat.le_refl _) (Nat.le_refl _) (Nat.le_refl _) hK hN hA hn hln hk hkI hS hl (fun iv' H locs ls pc hd hp hS => gx_vret B.exec B.bytes B.returns B.notSynchronized hS hp hd)

theorem inX3_goHome_RX3 : ∀ {w : Cond}, w ∈ u_ws RX3 TX3 2 → w ∈ wsX3_goHome := fun {w} h => by first | exact List.mem_cons_of_mem _ (List.mem_append_right _ h) | (revert h; revert w; show ∀ w ∈ u_ws RX3 TX3 2, w ∈ wsX3_goHome; decide +kernel)
set_option maxHeartbeats 4000000 in
set_option maxRecDepth 100000 in
theorem bd_X3_goHome {p : Program} {l : Launch} {e : Env} {R : Room} {s : State} {m : MethodId} {args : Array Value} {below : List Frame} {meth : Method} {c : Code} {H : Heap} {locs : List Loc} {cells slots : Nat} {Q : State → Prop} {ls : Array Slot} {D : va_G} {A : Nat → Prop} {H0 : Heap} {cA : Nat → ClassId} {o : Nat → Int64} {ad ln : Nat → Nat} {iv : Nat → Nat → Int32} {n : Nat} {b : Nat}
    (F : gF p s m meth c cX3_goHome 1 RX3 wsX3_goHome args none) (hRf : 1 ≤ R.frames) (hRl : 23 ≤ R.locals) (hRc : cells ≤ R.cells) (hRs : slots ≤ R.slots) (hK : va_K D vwCl (gT cA) s) (hN : NW s) (hA : ∀ q, H0.size ≤ q → A q) (hn : 68 ≤ n) (hln : ∀ k, ln k < 2 ^ 31) (hSb : isS b = true)
    (hS : gS D cA A H0 o ad ln iv n H locs) (hl : lv_has ls 1 [(0, .ref (ad b))])
    (kret : ∀ (iv' : Nat → Nat → Int32) (H : Heap) (locs : List Loc) (ls : Array Slot) (pc : Nat), decode cX3_goHome pc = .ok (.return_, 1) → (iv' = wr1 (wr1 iv (b + 1) (fun j => nI j) (ln (b + 1))) (b + 2) (fun _ => 0) (ln (b + 2))) → gS D cA A H0 o ad ln iv' n H locs → W p l e R s m args below meth c H locs cells slots Q (F0 m pc ls [])) :
    W p l e R s m args below meth c H locs cells slots Q (F0 m 0 ls []) := by
  obtain ⟨hx, hb, hml, hown, hts, hr, hlocks⟩ := F
  have hb0 := isS_in hSb
  refine lv_aload_n hx hb dX3_goHome_0 rfl (lv_at hl 0 rfl) ?_
  refine gx_get (ci := 6) (v := .ref (ad (b + 1))) (C := RX3) (T := TX3) (N := 2) hx hb hts (fun _ h => inX3_goHome_RX3 h) hown hK hS b (by omega) (sch_S hSb) rfl 0 (by decide) (hts (.fieldLink RX3 13 "CosetTables$State" "at" "[I") (by decide +kernel)) rfl dX3_goHome_1 ?_
  refine gc_v (gx_runSN (As := [.ref (ad (b + 1))]) (rest := []) ⟨hx, hb, hml, hown, hts⟩ hK hN hS (ct_X6_leaveAll l D cA o ad ln n H.size iv (k := b + 1) trivial hln (by omega) (isS1 hSb)) ⟨va_cnB 1 hts gX3_goHome_X6_leaveAll_n22 rfl rfl rfl (nf_RX3_22 hN) (hts (.initialized RX6) (by decide +kernel)) (by decide +kernel) ⟨gle hRf rfl, gle hRl rfl⟩, hts (.static yX6_leaveAll) (by decide +kernel), trivial⟩ rfl rfl hl.1 rfl (lv_room (Nat.le_of_ble_eq_true rfl)) dX3_goHome_4 ⟨hRc, hRs⟩) hS hA (fun iv1 H locs hp1 hS => ?_)
  refine lv_aload_n hx hb dX3_goHome_7 rfl (lv_at hl 0 rfl) ?_
  refine gx_get (ci := 6) (v := .ref (ad (b + 2))) (C := RX3) (T := TX3) (N := 2) hx hb hts (fun _ h => inX3_goHome_RX3 h) hown hK hS b (by omega) (sch_S hSb) rfl 1 (by decide) (hts (.fieldLink RX3 19 "CosetTables$State" "turned" "[I") (by decide +kernel)) rfl dX3_goHome_8 ?_
  refine lv_iconst (v := nI 0) hx hb dX3_goHome_11 (by decide) ?_
  refine gc_v (gx_runS (As := [.ref (ad (b + 2)), .int (nI 0)]) (rest := []) ⟨hx, hb, hml, hown, hts⟩ hK hN hS (ct_J7_fill_53178 l D cA o ad ln n H.size iv1 (k := b + 2) (x := nI 0) trivial hln (by omega) (isS2 hSb)) (va_cwS 2 hts gX3_goHome_J7_fill_53178 rfl rfl rfl (by decide +kernel) ⟨gle hRf rfl, gle hRl rfl⟩) rfl rfl hl.1 rfl (lv_room (Nat.le_of_ble_eq_true rfl)) dX3_goHome_12 ⟨hRc, hRs⟩) hS hA (fun iv2 H locs hp2 hS => ?_)
  exact kret iv2 _ _ _ _ dX3_goHome_15 (by rw [hp2, hp1]; rfl) hS
set_option maxRecDepth 100000 in
theorem ct_X3_goHome (l : Launch) (D : va_G) (cA : Nat → ClassId) (o : Nat → Int64) (ad ln : Nat → Nat) (n sz : Nat) (iv : Nat → Nat → Int32) (b : Nat) (hn : 68 ≤ n) (hln : ∀ k, ln k < 2 ^ 31) (hSb : isS b = true) : gMv l yX3_goHome wsX3_goHome { frames := 1, cells := 0, slots := 0, locals := 23 } D cA o ad ln n sz iv [.ref (ad b)] (fun iv' => iv' = wr1 (wr1 iv (b + 1) (fun j => nI j) (ln (b + 1))) (b + 2) (fun _ => 0) (ln (b + 2))) := by
  refine Met.ofW (cc := cX3_goHome) (maxL := 1) (ret := none) (by decide) rfl ?_
  intro p e s m args below meth c s₁ B hml hv__
  obtain ⟨rfl, hv__⟩ := hv__
  obtain ⟨hsz, hS, hK, hN, hA⟩ := gS.entry hv__
  have hl := lv_entry ([.ref (ad b)]) (n := 1) (Nat.le_of_ble_eq_true rfl)
  rw [lg_entry_eq]
  generalize (lg_sl ([.ref (ad b)]) ++ List.replicate (1 - (lg_sl ([.ref (ad b)])).length) Slot.unset).toArray = ls at hl ⊢
  exact bd_X3_goHome (b := b) ⟨B.exec, B.bytes, hml, findClass_of_methodNamed B.named, atoms_spec (ws := wsX3_goHome) B.pre, B.returns, B.notSynchronized⟩ (Nat.le_refl _) (Nat.le_refl _) (Nat.le_refl _) (Nat.le_refl _) hK hN hA hn hln hSb hS hl (fun iv' H locs ls pc hd hp hS => gx_vret B.exec B.bytes B.returns B.notSynchronized hS hp hd)

theorem inX5_look_RX5 : ∀ {w : Cond}, w ∈ u_ws RX5 TX5 6 → w ∈ wsX5_look := fun {w} h => by first | exact List.mem_cons_of_mem _ (List.mem_append_right _ h) | (revert h; revert w; show ∀ w ∈ u_ws RX5 TX5 6, w ∈ wsX5_look; decide +kernel)
set_option maxHeartbeats 4000000 in
set_option maxRecDepth 100000 in
theorem bd_X5_look {p : Program} {l : Launch} {e : Env} {R : Room} {s : State} {m : MethodId} {args : Array Value} {below : List Frame} {meth : Method} {c : Code} {H : Heap} {locs : List Loc} {cells slots : Nat} {Q : State → Prop} {ls : Array Slot} {D : va_G} {A : Nat → Prop} {H0 : Heap} {cA : Nat → ClassId} {o : Nat → Int64} {ad ln : Nat → Nat} {iv : Nat → Nat → Int32} {n : Nat} {j : Nat}
    (F : gF p s m meth c cX5_look 2 RX5 wsX5_look args (some .int)) (hRf : 0 ≤ R.frames) (hRl : 0 ≤ R.locals) (hRc : cells ≤ R.cells) (hRs : slots ≤ R.slots) (hK : va_K D vwCl (gT cA) s) (hN : NW s) (hA : ∀ q, H0.size ≤ q → A q) (hn : 68 ≤ n) (hln : ∀ k, ln k < 2 ^ 31) (hj : iv 46 0 = 0 ∨ j < ln 47)
    (hS : gS D cA A H0 o ad ln iv n H locs) (hl : lv_has ls 2 [(0, .ref (ad 46)), (1, .int (nI j))])
    (kret : ∀ (r : Int32) (iv' : Nat → Nat → Int32) (H : Heap) (locs : List Loc) (ls : Array Slot) (pc : Nat), decode cX5_look pc = .ok (.ireturn, 1) → (r = (if iv 46 0 = 0 then (-2) else iv 47 j) ∧ iv' = iv) → gS D cA A H0 o ad ln iv' n H locs → W p l e R s m args below meth c H locs cells slots Q (F0 m pc ls [.int r])) :
    W p l e R s m args below meth c H locs cells slots Q (F0 m 0 ls []) := by
  obtain ⟨hx, hb, hml, hown, hts, hr, hlocks⟩ := F
  refine lv_aload_n hx hb dX5_look_0 rfl (lv_at hl 0 rfl) ?_
  refine gx_get (ci := 8) (v := .int (iv 46 0)) (C := RX5) (T := TX5) (N := 6) hx hb hts (fun _ h => inX5_look_RX5 h) hown hK hS 46 (by omega) rfl rfl 0 (by decide) (hts (.fieldLink RX5 18 "CosetTables$Table" "built" "Z") (by decide +kernel)) rfl dX5_look_1 ?_
  refine lv_if_eq (tgt := 16) hx hb dX5_look_4 (by decide) (fun c_4 => ?_) (fun c_4 => ?_)
  · skip
    refine lv_bipush (v := (-2)) hx hb dX5_look_16 (by decide) ?_
    exact kret _ iv _ _ _ _ dX5_look_18 (⟨by simp [c_4], rfl⟩) hS
  · skip
    have hj := hj.resolve_left c_4
    refine lv_aload_n hx hb dX5_look_7 rfl (lv_at hl 0 rfl) ?_
    refine gx_get (ci := 8) (v := .ref (ad 47)) (C := RX5) (T := TX5) (N := 6) hx hb hts (fun _ h => inX5_look_RX5 h) hown hK hS 46 (by omega) rfl rfl 4 (by decide) (hts (.fieldLink RX5 9 "CosetTables$Table" "values" "[I") (by decide +kernel)) rfl dX5_look_8 ?_
    refine lv_iload_n hx hb dX5_look_11 rfl (lv_at hl 1 rfl) ?_
    refine gx_ialdn hx hb hK hS 47 (by omega) (by decide) j (by omega) (hln _) dX5_look_12 ?_
    refine lv_goto (tgt := 18) hx hb dX5_look_13 (by decide) ?_
    exact kret _ iv _ _ _ _ dX5_look_18 (⟨by simp [c_4], rfl⟩) hS
set_option maxRecDepth 100000 in
theorem ct_X5_look (l : Launch) (D : va_G) (cA : Nat → ClassId) (o : Nat → Int64) (ad ln : Nat → Nat) (n sz : Nat) (iv : Nat → Nat → Int32) (j : Nat) (hn : 68 ≤ n) (hln : ∀ k, ln k < 2 ^ 31) (hj : iv 46 0 = 0 ∨ j < ln 47) : gMi l yX5_look wsX5_look { frames := 0, cells := 0, slots := 0, locals := 0 } D cA o ad ln n sz iv [.ref (ad 46), .int (nI j)] (fun (r : Int32) iv' => r = (if iv 46 0 = 0 then (-2) else iv 47 j) ∧ iv' = iv) := by
  refine Met.ofW (cc := cX5_look) (maxL := 2) (ret := (some .int)) (by decide) rfl ?_
  intro p e s m args below meth c s₁ B hml hv__
  obtain ⟨rfl, hv__⟩ := hv__
  obtain ⟨hsz, hS, hK, hN, hA⟩ := gS.entry hv__
  have hl := lv_entry ([.ref (ad 46), .int (nI j)]) (n := 2) (Nat.le_of_ble_eq_true rfl)
  rw [lg_entry_eq]
  generalize (lg_sl ([.ref (ad 46), .int (nI j)]) ++ List.replicate (2 - (lg_sl ([.ref (ad 46), .int (nI j)])).length) Slot.unset).toArray = ls at hl ⊢
  exact bd_X5_look (j := j) ⟨B.exec, B.bytes, hml, findClass_of_methodNamed B.named, atoms_spec (ws := wsX5_look) B.pre, B.returns, B.notSynchronized⟩ (Nat.le_refl _) (Nat.le_refl _) (Nat.le_refl _) (Nat.le_refl _) hK hN hA hn hln hj hS hl (fun r iv' H locs ls pc hd hp hS => gx_iret B.exec B.bytes B.returns B.notSynchronized hS hp hd)

theorem inX5_twoBits_RX5 : ∀ {w : Cond}, w ∈ u_ws RX5 TX5 6 → w ∈ wsX5_twoBits := fun {w} h => by first | exact List.mem_cons_of_mem _ (List.mem_append_right _ h) | (revert h; revert w; show ∀ w ∈ u_ws RX5 TX5 6, w ∈ wsX5_twoBits; decide +kernel)
set_option maxHeartbeats 4000000 in
set_option maxRecDepth 100000 in
theorem bd_X5_twoBits {p : Program} {l : Launch} {e : Env} {R : Room} {s : State} {m : MethodId} {args : Array Value} {below : List Frame} {meth : Method} {c : Code} {H : Heap} {locs : List Loc} {cells slots : Nat} {Q : State → Prop} {ls : Array Slot} {D : va_G} {A : Nat → Prop} {H0 : Heap} {cA : Nat → ClassId} {o : Nat → Int64} {ad ln : Nat → Nat} {iv : Nat → Nat → Int32} {n : Nat} {j : Nat}
    (F : gF p s m meth c cX5_twoBits 3 RX5 wsX5_twoBits args (some .int)) (hRf : 0 ≤ R.frames) (hRl : 0 ≤ R.locals) (hRc : cells ≤ R.cells) (hRs : slots ≤ R.slots) (hK : va_K D vwCl (gT cA) s) (hN : NW s) (hA : ∀ q, H0.size ≤ q → A q) (hn : 68 ≤ n) (hln : ∀ k, ln k < 2 ^ 31) (hj : j < ln 47)
    (hS : gS D cA A H0 o ad ln iv n H locs) (hl : lv_has ls 3 [(0, .ref (ad 46)), (1, .int (nI j))])
    (kret : ∀ (r : Int32) (iv' : Nat → Nat → Int32) (H : Heap) (locs : List Loc) (ls : Array Slot) (pc : Nat), decode cX5_twoBits pc = .ok (.ireturn, 1) → (r = (if iv 47 j = -1 then nI 3 else jrem (iv 47 j) (nI 3)) ∧ iv' = iv) → gS D cA A H0 o ad ln iv' n H locs → W p l e R s m args below meth c H locs cells slots Q (F0 m pc ls [.int r])) :
    W p l e R s m args below meth c H locs cells slots Q (F0 m 0 ls []) := by
  obtain ⟨hx, hb, hml, hown, hts, hr, hlocks⟩ := F
  refine lv_aload_n hx hb dX5_twoBits_0 rfl (lv_at hl 0 rfl) ?_
  refine gx_get (ci := 8) (v := .ref (ad 47)) (C := RX5) (T := TX5) (N := 6) hx hb hts (fun _ h => inX5_twoBits_RX5 h) hown hK hS 46 (by omega) rfl rfl 4 (by decide) (hts (.fieldLink RX5 9 "CosetTables$Table" "values" "[I") (by decide +kernel)) rfl dX5_twoBits_1 ?_
  refine lv_iload_n hx hb dX5_twoBits_4 rfl (lv_at hl 1 rfl) ?_
  refine gx_ialdn hx hb hK hS 47 (by omega) (by decide) j (by omega) (hln _) dX5_twoBits_5 ?_
  refine lv_topi (fun x ex => ?_)
  refine lv_istore_n (lv' := [(2, .int x), (0, .ref (ad 46)), (1, .int (nI j))]) hx hb dX5_twoBits_6 rfl hl (by decide) rfl (fun ls hl => ?_)
  refine lv_iload_n hx hb dX5_twoBits_7 rfl (lv_at hl 0 rfl) ?_
  refine lv_iconst (v := (-1)) hx hb dX5_twoBits_8 (by decide) ?_
  refine lv_icmp_ne (tgt := 16) hx hb dX5_twoBits_9 (by decide) (fun c_9 => ?_) (fun c_9 => ?_)
  · skip
    refine lv_iload_n hx hb dX5_twoBits_16 rfl (lv_at hl 0 rfl) ?_
    refine lv_iconst (v := nI 3) hx hb dX5_twoBits_17 (by decide) ?_
    refine lv_irem hx hb dX5_twoBits_18 (by decide) ?_
    exact kret _ iv _ _ _ _ dX5_twoBits_19 (⟨by simp [← ex, c_9, jrem], rfl⟩) hS
  · skip
    refine lv_iconst (v := nI 3) hx hb dX5_twoBits_12 (by decide) ?_
    refine lv_goto (tgt := 19) hx hb dX5_twoBits_13 (by decide) ?_
    exact kret _ iv _ _ _ _ dX5_twoBits_19 (⟨by simp [← ex, c_9, jrem], rfl⟩) hS
set_option maxRecDepth 100000 in
theorem ct_X5_twoBits (l : Launch) (D : va_G) (cA : Nat → ClassId) (o : Nat → Int64) (ad ln : Nat → Nat) (n sz : Nat) (iv : Nat → Nat → Int32) (j : Nat) (hn : 68 ≤ n) (hln : ∀ k, ln k < 2 ^ 31) (hj : j < ln 47) : gMi l yX5_twoBits wsX5_twoBits { frames := 0, cells := 0, slots := 0, locals := 0 } D cA o ad ln n sz iv [.ref (ad 46), .int (nI j)] (fun (r : Int32) iv' => r = (if iv 47 j = -1 then nI 3 else jrem (iv 47 j) (nI 3)) ∧ iv' = iv) := by
  refine Met.ofW (cc := cX5_twoBits) (maxL := 3) (ret := (some .int)) (by decide) rfl ?_
  intro p e s m args below meth c s₁ B hml hv__
  obtain ⟨rfl, hv__⟩ := hv__
  obtain ⟨hsz, hS, hK, hN, hA⟩ := gS.entry hv__
  have hl := lv_entry ([.ref (ad 46), .int (nI j)]) (n := 3) (Nat.le_of_ble_eq_true rfl)
  rw [lg_entry_eq]
  generalize (lg_sl ([.ref (ad 46), .int (nI j)]) ++ List.replicate (3 - (lg_sl ([.ref (ad 46), .int (nI j)])).length) Slot.unset).toArray = ls at hl ⊢
  exact bd_X5_twoBits (j := j) ⟨B.exec, B.bytes, hml, findClass_of_methodNamed B.named, atoms_spec (ws := wsX5_twoBits) B.pre, B.returns, B.notSynchronized⟩ (Nat.le_refl _) (Nat.le_refl _) (Nat.le_refl _) (Nat.le_refl _) hK hN hA hn hln hj hS hl (fun r iv' H locs ls pc hd hp hS => gx_iret B.exec B.bytes B.returns B.notSynchronized hS hp hd)

theorem inX5_fourBits_RX5 : ∀ {w : Cond}, w ∈ u_ws RX5 TX5 6 → w ∈ wsX5_fourBits := fun {w} h => by first | exact List.mem_cons_of_mem _ (List.mem_append_right _ h) | (revert h; revert w; show ∀ w ∈ u_ws RX5 TX5 6, w ∈ wsX5_fourBits; decide +kernel)
set_option maxHeartbeats 4000000 in
set_option maxRecDepth 100000 in
theorem bd_X5_fourBits {p : Program} {l : Launch} {e : Env} {R : Room} {s : State} {m : MethodId} {args : Array Value} {below : List Frame} {meth : Method} {c : Code} {H : Heap} {locs : List Loc} {cells slots : Nat} {Q : State → Prop} {ls : Array Slot} {D : va_G} {A : Nat → Prop} {H0 : Heap} {cA : Nat → ClassId} {o : Nat → Int64} {ad ln : Nat → Nat} {iv : Nat → Nat → Int32} {n : Nat} {j : Nat}
    (F : gF p s m meth c cX5_fourBits 3 RX5 wsX5_fourBits args (some .int)) (hRf : 1 ≤ R.frames) (hRl : 21 ≤ R.locals) (hRc : cells ≤ R.cells) (hRs : slots ≤ R.slots) (hK : va_K D vwCl (gT cA) s) (hN : NW s) (hA : ∀ q, H0.size ≤ q → A q) (hn : 68 ≤ n) (hln : ∀ k, ln k < 2 ^ 31) (hj : j < ln 47)
    (hS : gS D cA A H0 o ad ln iv n H locs) (hl : lv_has ls 3 [(0, .ref (ad 46)), (1, .int (nI j))])
    (kret : ∀ (r : Int32) (iv' : Nat → Nat → Int32) (H : Heap) (locs : List Loc) (ls : Array Slot) (pc : Nat), decode cX5_fourBits pc = .ok (.ireturn, 1) → (r = (if iv 47 j = -1 then nI 15 else if nI 14 < iv 47 j then nI 14 else iv 47 j) ∧ iv' = iv) → gS D cA A H0 o ad ln iv' n H locs → W p l e R s m args below meth c H locs cells slots Q (F0 m pc ls [.int r])) :
    W p l e R s m args below meth c H locs cells slots Q (F0 m 0 ls []) := by
  obtain ⟨hx, hb, hml, hown, hts, hr, hlocks⟩ := F
  refine lv_aload_n hx hb dX5_fourBits_0 rfl (lv_at hl 0 rfl) ?_
  refine gx_get (ci := 8) (v := .ref (ad 47)) (C := RX5) (T := TX5) (N := 6) hx hb hts (fun _ h => inX5_fourBits_RX5 h) hown hK hS 46 (by omega) rfl rfl 4 (by decide) (hts (.fieldLink RX5 9 "CosetTables$Table" "values" "[I") (by decide +kernel)) rfl dX5_fourBits_1 ?_
  refine lv_iload_n hx hb dX5_fourBits_4 rfl (lv_at hl 1 rfl) ?_
  refine gx_ialdn hx hb hK hS 47 (by omega) (by decide) j (by omega) (hln _) dX5_fourBits_5 ?_
  refine lv_topi (fun x ex => ?_)
  refine lv_istore_n (lv' := [(2, .int x), (0, .ref (ad 46)), (1, .int (nI j))]) hx hb dX5_fourBits_6 rfl hl (by decide) rfl (fun ls hl => ?_)
  refine lv_iload_n hx hb dX5_fourBits_7 rfl (lv_at hl 0 rfl) ?_
  refine lv_iconst (v := (-1)) hx hb dX5_fourBits_8 (by decide) ?_
  refine lv_icmp_ne (tgt := 17) hx hb dX5_fourBits_9 (by decide) (fun c_9 => ?_) (fun c_9 => ?_)
  · skip
    refine lv_iload_n hx hb dX5_fourBits_17 rfl (lv_at hl 0 rfl) ?_
    refine lv_bipush (v := nI 14) hx hb dX5_fourBits_18 (by decide) ?_
    refine va_mmin hx hb (hml.trans hl.1.symm) hown (hts (.methodLink RX5 71 Lib.Math.min.name) (by decide +kernel)) (hts (.static Lib.Math.min.name) (by decide +kernel)) (hts (.initialized "java/lang/Math") (by decide +kernel)) (hts (.code Lib.Math.min.name Lib.Math.min.code 2 (some .int)) (by decide +kernel)) (gle hRf rfl) (gle hRl rfl) hRc hRs dX5_fourBits_20 ?_
    exact kret _ iv _ _ _ _ dX5_fourBits_23 (⟨by simp [← ex, c_9], rfl⟩) hS
  · skip
    refine lv_bipush (v := nI 15) hx hb dX5_fourBits_12 (by decide) ?_
    refine lv_goto (tgt := 23) hx hb dX5_fourBits_14 (by decide) ?_
    exact kret _ iv _ _ _ _ dX5_fourBits_23 (⟨by simp [← ex, c_9], rfl⟩) hS
set_option maxRecDepth 100000 in
theorem ct_X5_fourBits (l : Launch) (D : va_G) (cA : Nat → ClassId) (o : Nat → Int64) (ad ln : Nat → Nat) (n sz : Nat) (iv : Nat → Nat → Int32) (j : Nat) (hn : 68 ≤ n) (hln : ∀ k, ln k < 2 ^ 31) (hj : j < ln 47) : gMi l yX5_fourBits wsX5_fourBits { frames := 1, cells := 0, slots := 0, locals := 21 } D cA o ad ln n sz iv [.ref (ad 46), .int (nI j)] (fun (r : Int32) iv' => r = (if iv 47 j = -1 then nI 15 else if nI 14 < iv 47 j then nI 14 else iv 47 j) ∧ iv' = iv) := by
  refine Met.ofW (cc := cX5_fourBits) (maxL := 3) (ret := (some .int)) (by decide) rfl ?_
  intro p e s m args below meth c s₁ B hml hv__
  obtain ⟨rfl, hv__⟩ := hv__
  obtain ⟨hsz, hS, hK, hN, hA⟩ := gS.entry hv__
  have hl := lv_entry ([.ref (ad 46), .int (nI j)]) (n := 3) (Nat.le_of_ble_eq_true rfl)
  rw [lg_entry_eq]
  generalize (lg_sl ([.ref (ad 46), .int (nI j)]) ++ List.replicate (3 - (lg_sl ([.ref (ad 46), .int (nI j)])).length) Slot.unset).toArray = ls at hl ⊢
  exact bd_X5_fourBits (j := j) ⟨B.exec, B.bytes, hml, findClass_of_methodNamed B.named, atoms_spec (ws := wsX5_fourBits) B.pre, B.returns, B.notSynchronized⟩ (Nat.le_refl _) (Nat.le_refl _) (Nat.le_refl _) (Nat.le_refl _) hK hN hA hn hln hj hS hl (fun r iv' H locs ls pc hd hp hS => gx_iret B.exec B.bytes B.returns B.notSynchronized hS hp hd)

theorem inX5_bodyBytes_RX5 : ∀ {w : Cond}, w ∈ u_ws RX5 TX5 6 → w ∈ wsX5_bodyBytes := fun {w} h => by first | exact List.mem_cons_of_mem _ (List.mem_append_right _ h) | (revert h; revert w; show ∀ w ∈ u_ws RX5 TX5 6, w ∈ wsX5_bodyBytes; decide +kernel)
set_option maxHeartbeats 4000000 in
set_option maxRecDepth 100000 in
theorem bd_X5_bodyBytes {p : Program} {l : Launch} {e : Env} {R : Room} {s : State} {m : MethodId} {args : Array Value} {below : List Frame} {meth : Method} {c : Code} {H : Heap} {locs : List Loc} {cells slots : Nat} {Q : State → Prop} {ls : Array Slot} {D : va_G} {A : Nat → Prop} {H0 : Heap} {cA : Nat → ClassId} {o : Nat → Int64} {ad ln : Nat → Nat} {iv : Nat → Nat → Int32} {n : Nat} {S : Nat}
    (F : gF p s m meth c cX5_bodyBytes 1 RX5 wsX5_bodyBytes args (some .int)) (hRf : 0 ≤ R.frames) (hRl : 0 ≤ R.locals) (hRc : cells ≤ R.cells) (hRs : slots ≤ R.slots) (hK : va_K D vwCl (gT cA) s) (hN : NW s) (hA : ∀ q, H0.size ≤ q → A q) (hn : 68 ≤ n) (hln : ∀ k, ln k < 2 ^ 31) (hs : iv 46 2 = nI S) (hS9 : S < 2 ^ 30)
    (hS : gS D cA A H0 o ad ln iv n H locs) (hl : lv_has ls 1 [(0, .ref (ad 46))])
    (kret : ∀ (r : Int32) (iv' : Nat → Nat → Int32) (H : Heap) (locs : List Loc) (ls : Array Slot) (pc : Nat), decode cX5_bodyBytes pc = .ok (.ireturn, 1) → (r = nI ((S + 1) / 2) ∧ iv' = iv) → gS D cA A H0 o ad ln iv' n H locs → W p l e R s m args below meth c H locs cells slots Q (F0 m pc ls [.int r])) :
    W p l e R s m args below meth c H locs cells slots Q (F0 m 0 ls []) := by
  obtain ⟨hx, hb, hml, hown, hts, hr, hlocks⟩ := F
  refine lv_aload_n hx hb dX5_bodyBytes_0 rfl (lv_at hl 0 rfl) ?_
  refine gx_get (ci := 8) (v := .int (iv 46 2)) (C := RX5) (T := TX5) (N := 6) hx hb hts (fun _ h => inX5_bodyBytes_RX5 h) hown hK hS 46 (by omega) rfl rfl 2 (by decide) (hts (.fieldLink RX5 32 "CosetTables$Table" "states" "I") (by decide +kernel)) rfl dX5_bodyBytes_1 ?_
  refine gx_as (y := nI S) hs ?_
  refine lv_iconst (v := nI 1) hx hb dX5_bodyBytes_4 (by decide) ?_
  refine lv_iadd hx hb dX5_bodyBytes_5 ?_
  refine gx_as (y := nI (S + 1)) (nI_add _ _) ?_
  refine lv_iconst (v := nI 2) hx hb dX5_bodyBytes_6 (by decide) ?_
  refine lv_idiv hx hb dX5_bodyBytes_7 (by decide) ?_
  refine gx_as (y := nI ((S + 1) / 2)) (pk_div (by omega) (by decide) (by decide)) ?_
  exact kret _ iv _ _ _ _ dX5_bodyBytes_8 (⟨rfl, rfl⟩) hS
set_option maxRecDepth 100000 in
theorem ct_X5_bodyBytes (l : Launch) (D : va_G) (cA : Nat → ClassId) (o : Nat → Int64) (ad ln : Nat → Nat) (n sz : Nat) (iv : Nat → Nat → Int32) (S : Nat) (hn : 68 ≤ n) (hln : ∀ k, ln k < 2 ^ 31) (hs : iv 46 2 = nI S) (hS9 : S < 2 ^ 30) : gMi l yX5_bodyBytes wsX5_bodyBytes { frames := 0, cells := 0, slots := 0, locals := 0 } D cA o ad ln n sz iv [.ref (ad 46)] (fun (r : Int32) iv' => r = nI ((S + 1) / 2) ∧ iv' = iv) := by
  refine Met.ofW (cc := cX5_bodyBytes) (maxL := 1) (ret := (some .int)) (by decide) rfl ?_
  intro p e s m args below meth c s₁ B hml hv__
  obtain ⟨rfl, hv__⟩ := hv__
  obtain ⟨hsz, hS, hK, hN, hA⟩ := gS.entry hv__
  have hl := lv_entry ([.ref (ad 46)]) (n := 1) (Nat.le_of_ble_eq_true rfl)
  rw [lg_entry_eq]
  generalize (lg_sl ([.ref (ad 46)]) ++ List.replicate (1 - (lg_sl ([.ref (ad 46)])).length) Slot.unset).toArray = ls at hl ⊢
  exact bd_X5_bodyBytes (S := S) ⟨B.exec, B.bytes, hml, findClass_of_methodNamed B.named, atoms_spec (ws := wsX5_bodyBytes) B.pre, B.returns, B.notSynchronized⟩ (Nat.le_refl _) (Nat.le_refl _) (Nat.le_refl _) (Nat.le_refl _) hK hN hA hn hln hs hS9 hS hl (fun r iv' H locs ls pc hd hp hS => gx_iret B.exec B.bytes B.returns B.notSynchronized hS hp hd)

theorem inX1_freePlace_RX1 : ∀ {w : Cond}, w ∈ u_ws RX1 TX1 8 → w ∈ wsX1_freePlace := fun {w} h => by first | exact List.mem_cons_of_mem _ (List.mem_append_right _ h) | (revert h; revert w; show ∀ w ∈ u_ws RX1 TX1 8, w ∈ wsX1_freePlace; decide +kernel)
set_option maxHeartbeats 4000000 in
set_option maxRecDepth 100000 in
theorem bd_X1_freePlace {p : Program} {l : Launch} {e : Env} {R : Room} {s : State} {m : MethodId} {args : Array Value} {below : List Frame} {meth : Method} {c : Code} {H : Heap} {locs : List Loc} {cells slots : Nat} {Q : State → Prop} {ls : Array Slot} {D : va_G} {A : Nat → Prop} {H0 : Heap} {cA : Nat → ClassId} {o : Nat → Int64} {ad ln : Nat → Nat} {iv : Nat → Nat → Int32} {n : Nat} {t k P : Nat}
    (F : gF p s m meth c cX1_freePlace 5 RX1 wsX1_freePlace args (some .int)) (hRf : 0 ≤ R.frames) (hRl : 0 ≤ R.locals) (hRc : cells ≤ R.cells) (hRs : slots ≤ R.slots) (hK : va_K D vwCl (gT cA) s) (hN : NW s) (hA : ∀ q, H0.size ≤ q → A q) (hn : 68 ≤ n) (hln : ∀ k, ln k < 2 ^ 31) (hP0 : iv 25 0 = nI P) (hP : P ≤ 8) (ht : t < 2 ^ 31) (hk : k < cnt (fbit t) P)
    (hS : gS D cA A H0 o ad ln iv n H locs) (hl : lv_has ls 5 [(0, .ref (ad 25)), (1, .int (nI t)), (2, .int (nI k))])
    (kret : ∀ (r : Int32) (iv' : Nat → Nat → Int32) (H : Heap) (locs : List Loc) (ls : Array Slot) (pc : Nat), decode cX1_freePlace pc = .ok (.ireturn, 1) → ((∃ q, r = nI q ∧ q < P ∧ fbit t q = true ∧ cnt (fbit t) q = k) ∧ iv' = iv) → gS D cA A H0 o ad ln iv' n H locs → W p l e R s m args below meth c H locs cells slots Q (F0 m pc ls [.int r])) :
    W p l e R s m args below meth c H locs cells slots Q (F0 m 0 ls []) := by
  obtain ⟨hx, hb, hml, hown, hts, hr, hlocks⟩ := F
  have hk8 := cnt_le (fbit t) P
  refine lv_iload_n hx hb dX1_freePlace_0 rfl (lv_at hl 2 rfl) ?_
  refine lv_istore_n (lv' := [(3, .int (nI k)), (0, .ref (ad 25)), (1, .int (nI t)), (2, .int (nI k))]) hx hb dX1_freePlace_1 rfl hl (by decide) rfl (fun ls hl => ?_)
  refine lv_iconst (v := nI 0) hx hb dX1_freePlace_2 (by decide) ?_
  refine lv_istore (lv' := [(4, .int (nI 0)), (3, .int (nI k)), (0, .ref (ad 25)), (1, .int (nI t)), (2, .int (nI k))]) hx hb dX1_freePlace_3 hl (by decide) rfl (fun ls hl => ?_)
  have L5 : ∀ (N : Nat) (i : Nat), P - i < N → (i ≤ P) → (cnt (fbit t) i ≤ k) → ∀ (H : Heap) (locs : List Loc) (ls : Array Slot), gS D cA A H0 o ad ln iv n H locs → lv_has ls 5 [(0, .ref (ad 25)), (1, .int (nI t)), (2, .int (nI k)), (3, .int (nI (k - cnt (fbit t) i))), (4, .int (nI i))] → W p l e R s m args below meth c H locs cells slots Q (F0 m 5 ls []) := by
    intro N
    induction N with
    | zero => intro i hm; exact absurd hm (Nat.not_lt_zero _)
    | succ N ih5 =>
      intro i hm hi hI H locs ls hS hl
      refine lv_iload hx hb dX1_freePlace_5 (lv_at hl 4 rfl) ?_
      refine lv_aload_n hx hb dX1_freePlace_7 rfl (lv_at hl 0 rfl) ?_
      refine gx_get (ci := 4) (v := .int (iv 25 0)) (C := RX1) (T := TX1) (N := 8) hx hb hts (fun _ h => inX1_freePlace_RX1 h) hown hK hS 25 (by omega) rfl rfl 0 (by decide) (hts (.fieldLink RX1 9 "CosetTables$Numbering" "places" "I") (by decide +kernel)) rfl dX1_freePlace_8 ?_
      refine gx_as (y := nI P) hP0 ?_
      refine lv_icmp_ge (tgt := 39) hx hb dX1_freePlace_11 (by decide) (fun c_11 => ?_) (fun c_11 => ?_)
      · skip
        rw [nI_leI (by omega) (by omega)] at c_11
        have e9 : P = i := by omega
        rw [e9] at hk
        omega
      · skip
        rw [nI_leI (by omega) (by omega)] at c_11
        refine lv_iload_n hx hb dX1_freePlace_14 rfl (lv_at hl 1 rfl) ?_
        refine lv_iload hx hb dX1_freePlace_15 (lv_at hl 4 rfl) ?_
        refine lv_ishr hx hb dX1_freePlace_17 ?_
        refine lv_iconst (v := nI 1) hx hb dX1_freePlace_18 (by decide) ?_
        refine lv_iand hx hb dX1_freePlace_19 ?_
        refine gx_as (y := nI (t / 2 ^ i % 2)) (gbit ht (by omega)) ?_
        refine lv_if_ne (tgt := 33) hx hb dX1_freePlace_20 (by decide) (fun c_20 => ?_) (fun c_20 => ?_)
        · skip
          rw [show (0 : Int32) = nI 0 from rfl] at c_20
          rw [nI_eq (by omega) (by omega)] at c_20
          have hf : fbit t i = false := by
            rw [Bool.eq_false_iff]; intro q9; exact c_20 (fbit_iff.mp q9)
          have e36 : cnt (fbit t) (i + 1) = cnt (fbit t) i := by rw [cnt_s, hf]; rfl
          have h36 : cnt (fbit t) (i + 1) ≤ k := by omega
          rw [← e36] at hl
          refine lv_iinc (v := nI (i + 1)) (lv' := [(4, .int (nI (i + 1))), (0, .ref (ad 25)), (1, .int (nI t)), (2, .int (nI k)), (3, .int (nI (k - cnt (fbit t) (i + 1))))]) hx hb dX1_freePlace_33 hl (k := 4) rfl (nI_1 i) (by decide) rfl (fun ls hl => ?_)
          refine lv_goto (tgt := 5) hx hb dX1_freePlace_36 (by decide) ?_
          exact ih5 (i + 1) (by omega) (by omega) h36 _ _ _ hS (lv_sub hl [1, 2, 3, 4, 0] rfl)
        · skip
          rw [show (0 : Int32) = nI 0 from rfl] at c_20
          rw [nI_eq (by omega) (by omega)] at c_20
          have hf : fbit t i = true := fbit_iff.mpr c_20
          have e36 : cnt (fbit t) (i + 1) = cnt (fbit t) i + 1 := by rw [cnt_s, hf]; rfl
          refine lv_iload_n hx hb dX1_freePlace_23 rfl (lv_at hl 3 rfl) ?_
          refine lv_if_ne (tgt := 30) hx hb dX1_freePlace_24 (by decide) (fun c_24 => ?_) (fun c_24 => ?_)
          · skip
            rw [show (0 : Int32) = nI 0 from rfl] at c_24
            rw [nI_eq (by omega) (by omega)] at c_24
            have h36 : cnt (fbit t) (i + 1) ≤ k := by omega
            refine lv_iinc (v := nI (k - cnt (fbit t) (i + 1))) (lv' := [(3, .int (nI (k - cnt (fbit t) (i + 1)))), (0, .ref (ad 25)), (1, .int (nI t)), (2, .int (nI k)), (4, .int (nI i))]) hx hb dX1_freePlace_30 hl (k := 3) rfl (by rw [gm1, show k - cnt (fbit t) i = k - cnt (fbit t) (i + 1) + 1 by omega]; exact nI_pred _) (by decide) rfl (fun ls hl => ?_)
            refine lv_iinc (v := nI (i + 1)) (lv' := [(4, .int (nI (i + 1))), (3, .int (nI (k - cnt (fbit t) (i + 1)))), (0, .ref (ad 25)), (1, .int (nI t)), (2, .int (nI k))]) hx hb dX1_freePlace_33 hl (k := 4) rfl (nI_1 i) (by decide) rfl (fun ls hl => ?_)
            refine lv_goto (tgt := 5) hx hb dX1_freePlace_36 (by decide) ?_
            exact ih5 (i + 1) (by omega) (by omega) h36 _ _ _ hS (lv_sub hl [2, 3, 4, 1, 0] rfl)
          · skip
            rw [show (0 : Int32) = nI 0 from rfl] at c_24
            rw [nI_eq (by omega) (by omega)] at c_24
            have e37 : cnt (fbit t) i = k := by omega
            refine lv_iload hx hb dX1_freePlace_27 (lv_at hl 4 rfl) ?_
            exact kret _ iv _ _ _ _ dX1_freePlace_29 (⟨⟨i, rfl, by omega, hf, e37⟩, rfl⟩) hS
  exact L5 _ 0 (Nat.lt_succ_self _) (Nat.zero_le _) (Nat.zero_le _) _ _ _ hS (lv_sub hl [2, 3, 4, 1, 0] rfl)
set_option maxRecDepth 100000 in
theorem ct_X1_freePlace (l : Launch) (D : va_G) (cA : Nat → ClassId) (o : Nat → Int64) (ad ln : Nat → Nat) (n sz : Nat) (iv : Nat → Nat → Int32) (t k P : Nat) (hn : 68 ≤ n) (hln : ∀ k, ln k < 2 ^ 31) (hP0 : iv 25 0 = nI P) (hP : P ≤ 8) (ht : t < 2 ^ 31) (hk : k < cnt (fbit t) P) : gMi l yX1_freePlace wsX1_freePlace { frames := 0, cells := 0, slots := 0, locals := 0 } D cA o ad ln n sz iv [.ref (ad 25), .int (nI t), .int (nI k)] (fun (r : Int32) iv' => (∃ q, r = nI q ∧ q < P ∧ fbit t q = true ∧ cnt (fbit t) q = k) ∧ iv' = iv) := by
  refine Met.ofW (cc := cX1_freePlace) (maxL := 5) (ret := (some .int)) (by decide) rfl ?_
  intro p e s m args below meth c s₁ B hml hv__
  obtain ⟨rfl, hv__⟩ := hv__
  obtain ⟨hsz, hS, hK, hN, hA⟩ := gS.entry hv__
  have hl := lv_entry ([.ref (ad 25), .int (nI t), .int (nI k)]) (n := 5) (Nat.le_of_ble_eq_true rfl)
  rw [lg_entry_eq]
  generalize (lg_sl ([.ref (ad 25), .int (nI t), .int (nI k)]) ++ List.replicate (5 - (lg_sl ([.ref (ad 25), .int (nI t), .int (nI k)])).length) Slot.unset).toArray = ls at hl ⊢
  exact bd_X1_freePlace (t := t) (k := k) (P := P) ⟨B.exec, B.bytes, hml, findClass_of_methodNamed B.named, atoms_spec (ws := wsX1_freePlace) B.pre, B.returns, B.notSynchronized⟩ (Nat.le_refl _) (Nat.le_refl _) (Nat.le_refl _) (Nat.le_refl _) hK hN hA hn hln hP0 hP ht hk hS hl (fun r iv' H locs ls pc hd hp hS => gx_iret B.exec B.bytes B.returns B.notSynchronized hS hp hd)
