/-- what the search in a table asks -/
theorem cnt_pre {iv : Nat → Nat → Int32} {S : Nat} {s : BS} {L47 L48 : Nat} (hS : S ≤ 136080) (h : TB S s) (ht : tabAt iv S s) (h47 : S ≤ L47) (h48 : S ≤ L48) (hl : L47 < 2 ^ 31) (e2 : iv 46 2 = nI S) : iv 46 2 = nI S ∧ S < 2 ^ 30 ∧ iv 46 3 = nI s.2.2 ∧ 0 < s.2.2 ∧ s.2.2 ≤ S ∧ s.2.2 ≤ L48 ∧ (∀ i, i < s.2.2 → vp_in (iv 48 i) L47) ∧ ∀ i j, i ≤ j → j < s.2.2 → iv 47 (tn (iv 48 i)) ≤ iv 47 (tn (iv 48 j)) := by
  obtain ⟨h1, h2, h3, h4, h5, h6⟩ := h
  obtain ⟨t1, t2, t3⟩ := ht
  have hC := bOk_C h1
  refine ⟨e2, by omega, t3, h6, by omega, by omega, fun i hi => ?_, fun i j hij hj => ?_⟩
  · rw [t2 i hi]
    have := h1.2.2 i hi
    exact vp_in_nI (by omega) hl
  · have hqi := h1.2.2 i (by omega)
    have hqj := h1.2.2 j hj
    have ai := h1.2.1 _ hqi
    have aj := h1.2.1 _ hqj
    rw [t2 i (by omega), t2 j hj, show tn (nI (s.2.1 i)) = s.2.1 i from nI_clamp (by omega), show tn (nI (s.2.1 j)) = s.2.1 j from nI_clamp (by omega), t1 _ hqi, t1 _ hqj, vm1_le (by omega) (by omega)]
    exact h5 i j hij hj
set_option maxHeartbeats 1000000 in
set_option maxRecDepth 100000 in
theorem bd_X7_downZ {p : Program} {l : Launch} {e : Env} {R : Room} {s : State} {m : MethodId} {args : Array Value} {below : List Frame} {meth : Method} {c : Code} {H : Heap} {locs : List Loc} {cells slots : Nat} {Q : State → Prop} {ls : Array Slot} {D : va_G} {A : Nat → Prop} {H0 : Heap} {cA : Nat → ClassId} {o : Nat → Int64} {ad ln : Nat → Nat} {iv : Nat → Nat → Int32} {n : Nat} 
    (F : gF p s m meth c cX7_down 5 RX7 wsX7_down args (some .int)) (hRf : 0 ≤ R.frames) (hRl : 0 ≤ R.locals) (hRc : cells ≤ R.cells) (hRs : slots ≤ R.slots) (hK : va_K D vwCl (gT cA) s) (hN : NW s) (hA : ∀ q, H0.size ≤ q → A q) (hn : 68 ≤ n) (hln : ∀ k, ln k < 2 ^ 31) (hz : iv 53 12 = 0)
    (hS : gS D cA A H0 o ad ln iv n H locs) (hl : lv_has ls 5 [(0, .ref (ad 53))])
    (kret : ∀ (r : Int32) (iv' : Nat → Nat → Int32) (H : Heap) (locs : List Loc) (ls : Array Slot) (pc : Nat), decode cX7_down pc = .ok (.ireturn, 1) → (r = -1 ∧ iv' = up2 iv 53 0 0) → gS D cA A H0 o ad ln iv' n H locs → W p l e R s m args below meth c H locs cells slots Q (F0 m pc ls [.int r])) :
    W p l e R s m args below meth c H locs cells slots Q (F0 m 0 ls []) := by
  obtain ⟨hx, hb, hml, hown, hts, hr, hlocks⟩ := F
  refine lv_aload_n hx hb dX7_down_0 rfl (lv_at hl 0 rfl) ?_
  refine lv_iconst (v := nI 0) hx hb dX7_down_1 (by decide) ?_
  refine gx_put (ci := 10) (x := nI 0) (ty := .int) (C := RX7) (T := TX7) (N := 23) hx hb hts (fun _ h => inX7_down_RX7 h) tyX7 tyX7_ok nmX7 hown hK hS 53 (by omega) rfl rfl 0 (by decide) (hts (.fieldLink RX7 58 "CosetTablesModel" "thrown" "I") (by decide +kernel)) rfl (by decide +kernel) rfl rfl (Nat.le_of_ble_eq_true rfl) rfl dX7_down_2 (fun H locs hS => ?_)
  obtain ⟨iv1, eiv1⟩ : ∃ z, z = up2 iv 53 0 (nI 0) := ⟨_, rfl⟩
  rw [← eiv1] at hS
  refine lv_aload_n hx hb dX7_down_5 rfl (lv_at hl 0 rfl) ?_
  refine gx_get (ci := 10) (v := .int (iv1 53 12)) (C := RX7) (T := TX7) (N := 23) hx hb hts (fun _ h => inX7_down_RX7 h) hown hK hS 53 (by omega) rfl rfl 12 (by decide) (hts (.fieldLink RX7 64 "CosetTablesModel" "isBuilt" "Z") (by decide +kernel)) rfl dX7_down_6 ?_
  refine gx_as (y := (iv 53 12)) (by rw [eiv1, up2_n (by decide)]) ?_
  refine lv_if_eq (tgt := 25) hx hb dX7_down_9 (by decide) (fun c_9 => ?_) (fun c_9 => ?_)
  · skip
    refine lv_iconst (v := (-1)) hx hb dX7_down_25 (by decide) ?_
    exact kret _ iv1 _ _ _ _ dX7_down_26 (⟨rfl, by rw [eiv1]; rfl⟩) hS
  · skip
    exact absurd hz c_9
set_option maxRecDepth 100000 in
theorem ct_X7_downZ (l : Launch) (D : va_G) (cA : Nat → ClassId) (o : Nat → Int64) (ad ln : Nat → Nat) (n sz : Nat) (iv : Nat → Nat → Int32)  (hn : 68 ≤ n) (hln : ∀ k, ln k < 2 ^ 31) (hz : iv 53 12 = 0) : gMi l yX7_down wsX7_down { frames := 0, cells := 0, slots := 0, locals := 0 } D cA o ad ln n sz iv [.ref (ad 53)] (fun (r : Int32) iv' => r = -1 ∧ iv' = up2 iv 53 0 0) := by
  refine Met.ofW (cc := cX7_down) (maxL := 5) (ret := (some .int)) (by decide) rfl ?_
  intro p e s m args below meth c s₁ B hml hv__
  obtain ⟨rfl, hv__⟩ := hv__
  obtain ⟨hsz, hS, hK, hN, hA⟩ := gS.entry hv__
  have hl := lv_entry ([.ref (ad 53)]) (n := 5) (Nat.le_of_ble_eq_true rfl)
  rw [lg_entry_eq]
  generalize (lg_sl ([.ref (ad 53)]) ++ List.replicate (5 - (lg_sl ([.ref (ad 53)])).length) Slot.unset).toArray = ls at hl ⊢
  exact bd_X7_downZ  ⟨B.exec, B.bytes, hml, findClass_of_methodNamed B.named, atoms_spec (ws := wsX7_down) B.pre, B.returns, B.notSynchronized⟩ (Nat.le_refl _) (Nat.le_refl _) (Nat.le_refl _) (Nat.le_refl _) hK hN hA hn hln hz hS hl (fun r iv' H locs ls pc hd hp hS => gx_iret B.exec B.bytes B.returns B.notSynchronized hS hp hd)

set_option maxHeartbeats 1000000 in
set_option maxRecDepth 100000 in
theorem bd_X7_fileZ {p : Program} {l : Launch} {e : Env} {R : Room} {s : State} {m : MethodId} {args : Array Value} {below : List Frame} {meth : Method} {c : Code} {H : Heap} {locs : List Loc} {cells slots : Nat} {Q : State → Prop} {ls : Array Slot} {D : va_G} {A : Nat → Prop} {H0 : Heap} {cA : Nat → ClassId} {o : Nat → Int64} {ad ln : Nat → Nat} {iv : Nat → Nat → Int32} {n : Nat} {i8 : Int32}
    (F : gF p s m meth c cX7_file 5 RX7 wsX7_file args (some .int)) (hRf : 0 ≤ R.frames) (hRl : 0 ≤ R.locals) (hRc : cells ≤ R.cells) (hRs : slots ≤ R.slots) (hK : va_K D vwCl (gT cA) s) (hN : NW s) (hA : ∀ q, H0.size ≤ q → A q) (hn : 68 ≤ n) (hln : ∀ k, ln k < 2 ^ 31) (hz : iv 53 12 = 0)
    (hS : gS D cA A H0 o ad ln iv n H locs) (hl : lv_has ls 5 [(0, .ref (ad 53)), (1, .int i8)])
    (kret : ∀ (r : Int32) (iv' : Nat → Nat → Int32) (H : Heap) (locs : List Loc) (ls : Array Slot) (pc : Nat), decode cX7_file pc = .ok (.ireturn, 1) → (r = -1 ∧ iv' = up2 iv 53 0 0) → gS D cA A H0 o ad ln iv' n H locs → W p l e R s m args below meth c H locs cells slots Q (F0 m pc ls [.int r])) :
    W p l e R s m args below meth c H locs cells slots Q (F0 m 0 ls []) := by
  obtain ⟨hx, hb, hml, hown, hts, hr, hlocks⟩ := F
  refine lv_aload_n hx hb dX7_file_0 rfl (lv_at hl 0 rfl) ?_
  refine lv_iconst (v := nI 0) hx hb dX7_file_1 (by decide) ?_
  refine gx_put (ci := 10) (x := nI 0) (ty := .int) (C := RX7) (T := TX7) (N := 23) hx hb hts (fun _ h => inX7_file_RX7 h) tyX7 tyX7_ok nmX7 hown hK hS 53 (by omega) rfl rfl 0 (by decide) (hts (.fieldLink RX7 58 "CosetTablesModel" "thrown" "I") (by decide +kernel)) rfl (by decide +kernel) rfl rfl (Nat.le_of_ble_eq_true rfl) rfl dX7_file_2 (fun H locs hS => ?_)
  obtain ⟨iv1, eiv1⟩ : ∃ z, z = up2 iv 53 0 (nI 0) := ⟨_, rfl⟩
  rw [← eiv1] at hS
  refine lv_bipush (v := nI 6) hx hb dX7_file_5 (by decide) ?_
  refine lv_aload_n hx hb dX7_file_7 rfl (lv_at hl 0 rfl) ?_
  refine gx_get (ci := 10) (v := .int (iv1 53 14)) (C := RX7) (T := TX7) (N := 23) hx hb hts (fun _ h => inX7_file_RX7 h) hown hK hS 53 (by omega) rfl rfl 14 (by decide) (hts (.fieldLink RX7 116 "CosetTablesModel" "size" "I") (by decide +kernel)) rfl dX7_file_8 ?_
  refine lv_iconst (v := nI 1) hx hb dX7_file_11 (by decide) ?_
  refine lv_iadd hx hb dX7_file_12 ?_
  refine lv_iconst (v := nI 2) hx hb dX7_file_13 (by decide) ?_
  refine lv_idiv hx hb dX7_file_14 (by decide) ?_
  refine lv_iadd hx hb dX7_file_15 ?_
  refine lv_topi (fun x1 ex1 => ?_)
  refine lv_istore_n (lv' := [(2, .int x1), (0, .ref (ad 53)), (1, .int i8)]) hx hb dX7_file_16 rfl hl (by decide) rfl (fun ls hl => ?_)
  refine lv_aload_n hx hb dX7_file_17 rfl (lv_at hl 1 rfl) ?_
  refine gx_get (ci := 10) (v := .int (iv1 53 12)) (C := RX7) (T := TX7) (N := 23) hx hb hts (fun _ h => inX7_file_RX7 h) hown hK hS 53 (by omega) rfl rfl 12 (by decide) (hts (.fieldLink RX7 64 "CosetTablesModel" "isBuilt" "Z") (by decide +kernel)) rfl dX7_file_18 ?_
  refine gx_as (y := (iv 53 12)) (by rw [eiv1, up2_n (by decide)]) ?_
  refine lv_if_eq (tgt := 33) hx hb dX7_file_21 (by decide) (fun c_21 => ?_) (fun c_21 => ?_)
  · skip
    refine lv_iconst (v := (-1)) hx hb dX7_file_33 (by decide) ?_
    exact kret _ iv1 _ _ _ _ dX7_file_34 (⟨rfl, by rw [eiv1]; rfl⟩) hS
  · skip
    exact absurd hz c_21
set_option maxRecDepth 100000 in
theorem ct_X7_fileZ (l : Launch) (D : va_G) (cA : Nat → ClassId) (o : Nat → Int64) (ad ln : Nat → Nat) (n sz : Nat) (iv : Nat → Nat → Int32) (i8 : Int32) (hn : 68 ≤ n) (hln : ∀ k, ln k < 2 ^ 31) (hz : iv 53 12 = 0) : gMi l yX7_file wsX7_file { frames := 0, cells := 0, slots := 0, locals := 0 } D cA o ad ln n sz iv [.ref (ad 53), .int i8] (fun (r : Int32) iv' => r = -1 ∧ iv' = up2 iv 53 0 0) := by
  refine Met.ofW (cc := cX7_file) (maxL := 5) (ret := (some .int)) (by decide) rfl ?_
  intro p e s m args below meth c s₁ B hml hv__
  obtain ⟨rfl, hv__⟩ := hv__
  obtain ⟨hsz, hS, hK, hN, hA⟩ := gS.entry hv__
  have hl := lv_entry ([.ref (ad 53), .int i8]) (n := 5) (Nat.le_of_ble_eq_true rfl)
  rw [lg_entry_eq]
  generalize (lg_sl ([.ref (ad 53), .int i8]) ++ List.replicate (5 - (lg_sl ([.ref (ad 53), .int i8])).length) Slot.unset).toArray = ls at hl ⊢
  exact bd_X7_fileZ (i8 := i8) ⟨B.exec, B.bytes, hml, findClass_of_methodNamed B.named, atoms_spec (ws := wsX7_file) B.pre, B.returns, B.notSynchronized⟩ (Nat.le_refl _) (Nat.le_refl _) (Nat.le_refl _) (Nat.le_refl _) hK hN hA hn hln hz hS hl (fun r iv' H locs ls pc hd hp hS => gx_iret B.exec B.bytes B.returns B.notSynchronized hS hp hd)
