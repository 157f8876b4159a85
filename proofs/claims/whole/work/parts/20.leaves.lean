theorem inX1_stateCount_RX1 : ∀ {w : Cond}, w ∈ u_ws RX1 TX1 8 → w ∈ wsX1_stateCount := fun {w} h => by first | exact List.mem_cons_of_mem _ (List.mem_append_right _ h) | (revert h; revert w; show ∀ w ∈ u_ws RX1 TX1 8, w ∈ wsX1_stateCount; decide +kernel)
set_option maxHeartbeats 4000000 in
set_option maxRecDepth 100000 in
theorem bd_X1_stateCount {p : Program} {l : Launch} {e : Env} {R : Room} {s : State} {m : MethodId} {args : Array Value} {below : List Frame} {meth : Method} {c : Code} {H : Heap} {locs : List Loc} {cells slots : Nat} {Q : State → Prop} {ls : Array Slot} {D : va_G} {A : Nat → Prop} {H0 : Heap} {cA : Nat → ClassId} {o : Nat → Int64} {ad ln : Nat → Nat} {iv : Nat → Nat → Int32} {n : Nat} 
    (F : gF p s m meth c cX1_stateCount 1 RX1 wsX1_stateCount args (some .int)) (hRf : 0 ≤ R.frames) (hRl : 0 ≤ R.locals) (hRc : cells ≤ R.cells) (hRs : slots ≤ R.slots) (hK : va_K D vwCl (gT cA) s) (hN : NW s) (hA : ∀ q, H0.size ≤ q → A q) (hn : 68 ≤ n) (hln : ∀ k, ln k < 2 ^ 31) 
    (hS : gS D cA A H0 o ad ln iv n H locs) (hl : lv_has ls 1 [(0, .ref (ad 25))])
    (kret : ∀ (r : Int32) (iv' : Nat → Nat → Int32) (H : Heap) (locs : List Loc) (ls : Array Slot) (pc : Nat), decode cX1_stateCount pc = .ok (.ireturn, 1) → (r = iv 25 6 * iv 25 7 ∧ iv' = iv) → gS D cA A H0 o ad ln iv' n H locs → W p l e R s m args below meth c H locs cells slots Q (F0 m pc ls [.int r])) :
    W p l e R s m args below meth c H locs cells slots Q (F0 m 0 ls []) := by
  obtain ⟨hx, hb, hml, hown, hts, hr, hlocks⟩ := F
  refine lv_aload_n hx hb dX1_stateCount_0 rfl (lv_at hl 0 rfl) ?_
  refine gx_get (ci := 4) (v := .int (iv 25 6)) (C := RX1) (T := TX1) (N := 8) hx hb hts (fun _ h => inX1_stateCount_RX1 h) hown hK hS 25 (by omega) rfl rfl 6 (by decide) (hts (.fieldLink RX1 29 "CosetTables$Numbering" "arrangements" "I") (by decide +kernel)) rfl dX1_stateCount_1 ?_
  refine lv_aload_n hx hb dX1_stateCount_4 rfl (lv_at hl 0 rfl) ?_
  refine gx_get (ci := 4) (v := .int (iv 25 7)) (C := RX1) (T := TX1) (N := 8) hx hb hts (fun _ h => inX1_stateCount_RX1 h) hown hK hS 25 (by omega) rfl rfl 7 (by decide) (hts (.fieldLink RX1 32 "CosetTables$Numbering" "twistings" "I") (by decide +kernel)) rfl dX1_stateCount_5 ?_
  refine lv_imul hx hb dX1_stateCount_8 ?_
  exact kret _ iv _ _ _ _ dX1_stateCount_9 (⟨rfl, rfl⟩) hS
set_option maxRecDepth 100000 in
theorem ct_X1_stateCount (l : Launch) (D : va_G) (cA : Nat → ClassId) (o : Nat → Int64) (ad ln : Nat → Nat) (n sz : Nat) (iv : Nat → Nat → Int32)  (hn : 68 ≤ n) (hln : ∀ k, ln k < 2 ^ 31)  : gMi l yX1_stateCount wsX1_stateCount { frames := 0, cells := 0, slots := 0, locals := 0 } D cA o ad ln n sz iv [.ref (ad 25)] (fun (r : Int32) iv' => r = iv 25 6 * iv 25 7 ∧ iv' = iv) := by
  refine Met.ofW (cc := cX1_stateCount) (maxL := 1) (ret := (some .int)) (by decide) rfl ?_
  intro p e s m args below meth c s₁ B hml hv__
  obtain ⟨rfl, hv__⟩ := hv__
  obtain ⟨hsz, hS, hK, hN, hA⟩ := gS.entry hv__
  have hl := lv_entry ([.ref (ad 25)]) (n := 1) (Nat.le_of_ble_eq_true rfl)
  rw [lg_entry_eq]
  generalize (lg_sl ([.ref (ad 25)]) ++ List.replicate (1 - (lg_sl ([.ref (ad 25)])).length) Slot.unset).toArray = ls at hl ⊢
  exact bd_X1_stateCount  ⟨B.exec, B.bytes, hml, findClass_of_methodNamed B.named, atoms_spec (ws := wsX1_stateCount) B.pre, B.returns, B.notSynchronized⟩ (Nat.le_refl _) (Nat.le_refl _) (Nat.le_refl _) (Nat.le_refl _) hK hN hA hn hln  hS hl (fun r iv' H locs ls pc hd hp hS => gx_iret B.exec B.bytes B.returns B.notSynchronized hS hp hd)

theorem inX2_forget_RX2 : ∀ {w : Cond}, w ∈ u_ws RX2 TX2 8 → w ∈ wsX2_forget := fun {w} h => by first | exact List.mem_cons_of_mem _ (List.mem_append_right _ h) | (revert h; revert w; show ∀ w ∈ u_ws RX2 TX2 8, w ∈ wsX2_forget; decide +kernel)
set_option maxHeartbeats 4000000 in
set_option maxRecDepth 100000 in
theorem bd_X2_forget {p : Program} {l : Launch} {e : Env} {R : Room} {s : State} {m : MethodId} {args : Array Value} {below : List Frame} {meth : Method} {c : Code} {H : Heap} {locs : List Loc} {cells slots : Nat} {Q : State → Prop} {ls : Array Slot} {D : va_G} {A : Nat → Prop} {H0 : Heap} {cA : Nat → ClassId} {o : Nat → Int64} {ad ln : Nat → Nat} {iv : Nat → Nat → Int32} {n : Nat} 
    (F : gF p s m meth c cX2_forget 1 RX2 wsX2_forget args none) (hRf : 0 ≤ R.frames) (hRl : 0 ≤ R.locals) (hRc : cells ≤ R.cells) (hRs : slots ≤ R.slots) (hK : va_K D vwCl (gT cA) s) (hN : NW s) (hA : ∀ q, H0.size ≤ q → A q) (hn : 68 ≤ n) (hln : ∀ k, ln k < 2 ^ 31) 
    (hS : gS D cA A H0 o ad ln iv n H locs) (hl : lv_has ls 1 [(0, .ref (ad 49))])
    (kret : ∀ (iv' : Nat → Nat → Int32) (H : Heap) (locs : List Loc) (ls : Array Slot) (pc : Nat), decode cX2_forget pc = .ok (.return_, 1) → (iv' = up2 iv 49 0 0) → gS D cA A H0 o ad ln iv' n H locs → W p l e R s m args below meth c H locs cells slots Q (F0 m pc ls [])) :
    W p l e R s m args below meth c H locs cells slots Q (F0 m 0 ls []) := by
  obtain ⟨hx, hb, hml, hown, hts, hr, hlocks⟩ := F
  refine lv_aload_n hx hb dX2_forget_0 rfl (lv_at hl 0 rfl) ?_
  refine lv_iconst (v := nI 0) hx hb dX2_forget_1 (by decide) ?_
  refine gx_put (ci := 5) (x := nI 0) (ty := .boolean) (C := RX2) (T := TX2) (N := 8) hx hb hts (fun _ h => inX2_forget_RX2 h) tyX2 tyX2_ok nmX2 hown hK hS 49 (by omega) rfl rfl 0 (by decide) (hts (.fieldLink RX2 19 "CosetTables$Orbits" "known" "Z") (by decide +kernel)) rfl (by decide +kernel) (gx_nz (by first | exact Or.inl rfl | exact Or.inr rfl | assumption)) (gx_fz (by first | exact Or.inl rfl | exact Or.inr rfl | assumption)) (Nat.le_of_ble_eq_true rfl) rfl dX2_forget_2 (fun H locs hS => ?_)
  obtain ⟨iv1, eiv1⟩ : ∃ z, z = up2 iv 49 0 (nI 0) := ⟨_, rfl⟩
  rw [← eiv1] at hS
  exact kret iv1 _ _ _ _ dX2_forget_5 (by assumption) hS
set_option maxRecDepth 100000 in
theorem ct_X2_forget (l : Launch) (D : va_G) (cA : Nat → ClassId) (o : Nat → Int64) (ad ln : Nat → Nat) (n sz : Nat) (iv : Nat → Nat → Int32)  (hn : 68 ≤ n) (hln : ∀ k, ln k < 2 ^ 31)  : gMv l yX2_forget wsX2_forget { frames := 0, cells := 0, slots := 0, locals := 0 } D cA o ad ln n sz iv [.ref (ad 49)] (fun iv' => iv' = up2 iv 49 0 0) := by
  refine Met.ofW (cc := cX2_forget) (maxL := 1) (ret := none) (by decide) rfl ?_
  intro p e s m args below meth c s₁ B hml hv__
  obtain ⟨rfl, hv__⟩ := hv__
  obtain ⟨hsz, hS, hK, hN, hA⟩ := gS.entry hv__
  have hl := lv_entry ([.ref (ad 49)]) (n := 1) (Nat.le_of_ble_eq_true rfl)
  rw [lg_entry_eq]
  generalize (lg_sl ([.ref (ad 49)]) ++ List.replicate (1 - (lg_sl ([.ref (ad 49)])).length) Slot.unset).toArray = ls at hl ⊢
  exact bd_X2_forget  ⟨B.exec, B.bytes, hml, findClass_of_methodNamed B.named, atoms_spec (ws := wsX2_forget) B.pre, B.returns, B.notSynchronized⟩ (Nat.le_refl _) (Nat.le_refl _) (Nat.le_refl _) (Nat.le_refl _) hK hN hA hn hln  hS hl (fun iv' H locs ls pc hd hp hS => gx_vret B.exec B.bytes B.returns B.notSynchronized hS hp hd)

theorem inX5_drop_RX5 : ∀ {w : Cond}, w ∈ u_ws RX5 TX5 6 → w ∈ wsX5_drop := fun {w} h => by first | exact List.mem_cons_of_mem _ (List.mem_append_right _ h) | (revert h; revert w; show ∀ w ∈ u_ws RX5 TX5 6, w ∈ wsX5_drop; decide +kernel)
set_option maxHeartbeats 4000000 in
set_option maxRecDepth 100000 in
theorem bd_X5_drop {p : Program} {l : Launch} {e : Env} {R : Room} {s : State} {m : MethodId} {args : Array Value} {below : List Frame} {meth : Method} {c : Code} {H : Heap} {locs : List Loc} {cells slots : Nat} {Q : State → Prop} {ls : Array Slot} {D : va_G} {A : Nat → Prop} {H0 : Heap} {cA : Nat → ClassId} {o : Nat → Int64} {ad ln : Nat → Nat} {iv : Nat → Nat → Int32} {n : Nat} 
    (F : gF p s m meth c cX5_drop 1 RX5 wsX5_drop args none) (hRf : 0 ≤ R.frames) (hRl : 0 ≤ R.locals) (hRc : cells ≤ R.cells) (hRs : slots ≤ R.slots) (hK : va_K D vwCl (gT cA) s) (hN : NW s) (hA : ∀ q, H0.size ≤ q → A q) (hn : 68 ≤ n) (hln : ∀ k, ln k < 2 ^ 31) 
    (hS : gS D cA A H0 o ad ln iv n H locs) (hl : lv_has ls 1 [(0, .ref (ad 46))])
    (kret : ∀ (iv' : Nat → Nat → Int32) (H : Heap) (locs : List Loc) (ls : Array Slot) (pc : Nat), decode cX5_drop pc = .ok (.return_, 1) → (iv' = up2 iv 46 0 0) → gS D cA A H0 o ad ln iv' n H locs → W p l e R s m args below meth c H locs cells slots Q (F0 m pc ls [])) :
    W p l e R s m args below meth c H locs cells slots Q (F0 m 0 ls []) := by
  obtain ⟨hx, hb, hml, hown, hts, hr, hlocks⟩ := F
  refine lv_aload_n hx hb dX5_drop_0 rfl (lv_at hl 0 rfl) ?_
  refine lv_iconst (v := nI 0) hx hb dX5_drop_1 (by decide) ?_
  refine gx_put (ci := 8) (x := nI 0) (ty := .boolean) (C := RX5) (T := TX5) (N := 6) hx hb hts (fun _ h => inX5_drop_RX5 h) tyX5 tyX5_ok nmX5 hown hK hS 46 (by omega) rfl rfl 0 (by decide) (hts (.fieldLink RX5 18 "CosetTables$Table" "built" "Z") (by decide +kernel)) rfl (by decide +kernel) (gx_nz (by first | exact Or.inl rfl | exact Or.inr rfl | assumption)) (gx_fz (by first | exact Or.inl rfl | exact Or.inr rfl | assumption)) (Nat.le_of_ble_eq_true rfl) rfl dX5_drop_2 (fun H locs hS => ?_)
  obtain ⟨iv1, eiv1⟩ : ∃ z, z = up2 iv 46 0 (nI 0) := ⟨_, rfl⟩
  rw [← eiv1] at hS
  exact kret iv1 _ _ _ _ dX5_drop_5 (by assumption) hS
set_option maxRecDepth 100000 in
theorem ct_X5_drop (l : Launch) (D : va_G) (cA : Nat → ClassId) (o : Nat → Int64) (ad ln : Nat → Nat) (n sz : Nat) (iv : Nat → Nat → Int32)  (hn : 68 ≤ n) (hln : ∀ k, ln k < 2 ^ 31)  : gMv l yX5_drop wsX5_drop { frames := 0, cells := 0, slots := 0, locals := 0 } D cA o ad ln n sz iv [.ref (ad 46)] (fun iv' => iv' = up2 iv 46 0 0) := by
  refine Met.ofW (cc := cX5_drop) (maxL := 1) (ret := none) (by decide) rfl ?_
  intro p e s m args below meth c s₁ B hml hv__
  obtain ⟨rfl, hv__⟩ := hv__
  obtain ⟨hsz, hS, hK, hN, hA⟩ := gS.entry hv__
  have hl := lv_entry ([.ref (ad 46)]) (n := 1) (Nat.le_of_ble_eq_true rfl)
  rw [lg_entry_eq]
  generalize (lg_sl ([.ref (ad 46)]) ++ List.replicate (1 - (lg_sl ([.ref (ad 46)])).length) Slot.unset).toArray = ls at hl ⊢
  exact bd_X5_drop  ⟨B.exec, B.bytes, hml, findClass_of_methodNamed B.named, atoms_spec (ws := wsX5_drop) B.pre, B.returns, B.notSynchronized⟩ (Nat.le_refl _) (Nat.le_refl _) (Nat.le_refl _) (Nat.le_refl _) hK hN hA hn hln  hS hl (fun iv' H locs ls pc hd hp hS => gx_vret B.exec B.bytes B.returns B.notSynchronized hS hp hd)

theorem inX1_has_RX1 : ∀ {w : Cond}, w ∈ u_ws RX1 TX1 8 → w ∈ wsX1_has := fun {w} h => by first | exact List.mem_cons_of_mem _ (List.mem_append_right _ h) | (revert h; revert w; show ∀ w ∈ u_ws RX1 TX1 8, w ∈ wsX1_has; decide +kernel)
set_option maxHeartbeats 4000000 in
set_option maxRecDepth 100000 in
theorem bd_X1_has {p : Program} {l : Launch} {e : Env} {R : Room} {s : State} {m : MethodId} {args : Array Value} {below : List Frame} {meth : Method} {c : Code} {H : Heap} {locs : List Loc} {cells slots : Nat} {Q : State → Prop} {ls : Array Slot} {D : va_G} {A : Nat → Prop} {H0 : Heap} {cA : Nat → ClassId} {o : Nat → Int64} {ad ln : Nat → Nat} {iv : Nat → Nat → Int32} {n : Nat} {j : Nat}
    (F : gF p s m meth c cX1_has 2 RX1 wsX1_has args (some .boolean)) (hRf : 0 ≤ R.frames) (hRl : 0 ≤ R.locals) (hRc : cells ≤ R.cells) (hRs : slots ≤ R.slots) (hK : va_K D vwCl (gT cA) s) (hN : NW s) (hA : ∀ q, H0.size ≤ q → A q) (hn : 68 ≤ n) (hln : ∀ k, ln k < 2 ^ 31) (hj : j < ln 26) (h01 : ∀ j, iv 26 j = 0 ∨ iv 26 j = 1)
    (hS : gS D cA A H0 o ad ln iv n H locs) (hl : lv_has ls 2 [(0, .ref (ad 25)), (1, .int (nI j))])
    (kret : ∀ (r : Int32) (iv' : Nat → Nat → Int32) (H : Heap) (locs : List Loc) (ls : Array Slot) (pc : Nat), decode cX1_has pc = .ok (.ireturn, 1) → ((r = 0 ∨ r = 1) ∧ r = iv 26 j ∧ iv' = iv) → gS D cA A H0 o ad ln iv' n H locs → W p l e R s m args below meth c H locs cells slots Q (F0 m pc ls [.int r])) :
    W p l e R s m args below meth c H locs cells slots Q (F0 m 0 ls []) := by
  obtain ⟨hx, hb, hml, hown, hts, hr, hlocks⟩ := F
  refine lv_aload_n hx hb dX1_has_0 rfl (lv_at hl 0 rfl) ?_
  refine gx_get (ci := 4) (v := .ref (ad 26)) (C := RX1) (T := TX1) (N := 8) hx hb hts (fun _ h => inX1_has_RX1 h) hown hK hS 25 (by omega) rfl rfl 2 (by decide) (hts (.fieldLink RX1 18 "CosetTables$Numbering" "chosen" "[Z") (by decide +kernel)) rfl dX1_has_1 ?_
  refine lv_iload_n hx hb dX1_has_4 rfl (lv_at hl 1 rfl) ?_
  refine gx_zaldn hx hb hK hS 26 (by omega) (by decide) j (by omega) (hln _) dX1_has_5 ?_
  exact kret _ iv _ _ _ _ dX1_has_6 (⟨h01 j, rfl, rfl⟩) hS
set_option maxRecDepth 100000 in
theorem ct_X1_has (l : Launch) (D : va_G) (cA : Nat → ClassId) (o : Nat → Int64) (ad ln : Nat → Nat) (n sz : Nat) (iv : Nat → Nat → Int32) (j : Nat) (hn : 68 ≤ n) (hln : ∀ k, ln k < 2 ^ 31) (hj : j < ln 26) (h01 : ∀ j, iv 26 j = 0 ∨ iv 26 j = 1) : gMi l yX1_has wsX1_has { frames := 0, cells := 0, slots := 0, locals := 0 } D cA o ad ln n sz iv [.ref (ad 25), .int (nI j)] (fun (r : Int32) iv' => (r = 0 ∨ r = 1) ∧ r = iv 26 j ∧ iv' = iv) := by
  refine Met.ofW (cc := cX1_has) (maxL := 2) (ret := (some .boolean)) (by decide) rfl ?_
  intro p e s m args below meth c s₁ B hml hv__
  obtain ⟨rfl, hv__⟩ := hv__
  obtain ⟨hsz, hS, hK, hN, hA⟩ := gS.entry hv__
  have hl := lv_entry ([.ref (ad 25), .int (nI j)]) (n := 2) (Nat.le_of_ble_eq_true rfl)
  rw [lg_entry_eq]
  generalize (lg_sl ([.ref (ad 25), .int (nI j)]) ++ List.replicate (2 - (lg_sl ([.ref (ad 25), .int (nI j)])).length) Slot.unset).toArray = ls at hl ⊢
  exact bd_X1_has (j := j) ⟨B.exec, B.bytes, hml, findClass_of_methodNamed B.named, atoms_spec (ws := wsX1_has) B.pre, B.returns, B.notSynchronized⟩ (Nat.le_refl _) (Nat.le_refl _) (Nat.le_refl _) (Nat.le_refl _) hK hN hA hn hln hj h01 hS hl (fun r iv' H locs ls pc hd hp hS => gx_zret B.exec B.bytes B.returns B.notSynchronized (hp.1) hS hp hd)

theorem inX3_follow_RX0 : ∀ {w : Cond}, w ∈ u_ws RX0 TX0 3 → w ∈ wsX3_follow := fun {w} h => by first | exact List.mem_cons_of_mem _ (List.mem_append_right _ h) | (revert h; revert w; show ∀ w ∈ u_ws RX0 TX0 3, w ∈ wsX3_follow; decide +kernel)
theorem inX3_follow_RX3 : ∀ {w : Cond}, w ∈ u_ws RX3 TX3 2 → w ∈ wsX3_follow := fun {w} h => by first | exact List.mem_cons_of_mem _ (List.mem_append_right _ h) | (revert h; revert w; show ∀ w ∈ u_ws RX3 TX3 2, w ∈ wsX3_follow; decide +kernel)
set_option maxHeartbeats 4000000 in
set_option maxRecDepth 100000 in
theorem bd_X3_follow {p : Program} {l : Launch} {e : Env} {R : Room} {s : State} {m : MethodId} {args : Array Value} {below : List Frame} {meth : Method} {c : Code} {H : Heap} {locs : List Loc} {cells slots : Nat} {Q : State → Prop} {ls : Array Slot} {D : va_G} {A : Nat → Prop} {H0 : Heap} {cA : Nat → ClassId} {o : Nat → Int64} {ad ln : Nat → Nat} {iv : Nat → Nat → Int32} {n : Nat} {b v P : Nat}
    (F : gF p s m meth c cX3_follow 4 RX3 wsX3_follow args none) (hRf : 0 ≤ R.frames) (hRl : 0 ≤ R.locals) (hRc : cells ≤ R.cells) (hRs : slots ≤ R.slots) (hK : va_K D vwCl (gT cA) s) (hN : NW s) (hA : ∀ q, H0.size ≤ q → A q) (hn : 68 ≤ n) (hln : ∀ k, ln k < 2 ^ 31) (hSb : isS b = true) (hMv : isM v = true) (hP1 : ln (b + 1) = P) (hP2 : ln (b + 2) = P) (hP3 : ln (v + 1) = P) (hP4 : ln (v + 2) = P) (hP : P ≤ 8) (hT : ¬ iv v 0 = 0) (hat : ∀ p, p < P → vp_in (iv (b + 1) p) P)
    (hS : gS D cA A H0 o ad ln iv n H locs) (hl : lv_has ls 4 [(0, .ref (ad b)), (1, .ref (ad v))])
    (kret : ∀ (iv' : Nat → Nat → Int32) (H : Heap) (locs : List Loc) (ls : Array Slot) (pc : Nat), decode cX3_follow pc = .ok (.return_, 1) → (follows iv iv' b v P) → gS D cA A H0 o ad ln iv' n H locs → W p l e R s m args below meth c H locs cells slots Q (F0 m pc ls [])) :
    W p l e R s m args below meth c H locs cells slots Q (F0 m 0 ls []) := by
  obtain ⟨hx, hb, hml, hown, hts, hr, hlocks⟩ := F
  have hb0 := isS_in hSb
  have hv0 := isM_in hMv
  refine lv_iconst (v := nI 0) hx hb dX3_follow_0 (by decide) ?_
  refine lv_istore_n (lv' := [(2, .int (nI 0)), (0, .ref (ad b)), (1, .ref (ad v))]) hx hb dX3_follow_1 rfl hl (by decide) rfl (fun ls hl => ?_)
  have L2 : ∀ (N : Nat) (i : Nat) (iv1 : Nat → Nat → Int32), P - i < N → (i ≤ P) → (follows iv iv1 b v i) → ∀ (H : Heap) (locs : List Loc) (ls : Array Slot), gS D cA A H0 o ad ln iv1 n H locs → lv_has ls 4 [(0, .ref (ad b)), (1, .ref (ad v)), (2, .int (nI i))] → W p l e R s m args below meth c H locs cells slots Q (F0 m 2 ls []) := by
    intro N
    induction N with
    | zero => intro i iv1 hm; exact absurd hm (Nat.not_lt_zero _)
    | succ N ih2 =>
      intro i iv1 hm hi hI H locs ls hS hl
      refine lv_iload_n hx hb dX3_follow_2 rfl (lv_at hl 2 rfl) ?_
      refine lv_aload_n hx hb dX3_follow_3 rfl (lv_at hl 0 rfl) ?_
      refine gx_get (ci := 6) (v := .ref (ad (b + 1))) (C := RX3) (T := TX3) (N := 2) hx hb hts (fun _ h => inX3_follow_RX3 h) hown hK hS b (by omega) (sch_S hSb) rfl 0 (by decide) (hts (.fieldLink RX3 13 "CosetTables$State" "at" "[I") (by decide +kernel)) rfl dX3_follow_4 ?_
      refine gx_alen hx hb hK hS (b + 1) (by omega) (isS1 hSb) dX3_follow_7 ?_
      refine gx_as (y := nI P) (by rw [hP1]) ?_
      refine lv_icmp_ge (tgt := 60) hx hb dX3_follow_8 (by decide) (fun c_8 => ?_) (fun c_8 => ?_)
      · skip
        rw [nI_leI (by omega) (by omega)] at c_8
        exact kret iv1 _ _ _ _ dX3_follow_60 (by rw [show P = i by omega]; exact hI) hS
      · skip
        rw [nI_leI (by omega) (by omega)] at c_8
        refine lv_aload_n hx hb dX3_follow_11 rfl (lv_at hl 0 rfl) ?_
        refine gx_get (ci := 6) (v := .ref (ad (b + 1))) (C := RX3) (T := TX3) (N := 2) hx hb hts (fun _ h => inX3_follow_RX3 h) hown hK hS b (by omega) (sch_S hSb) rfl 0 (by decide) (hts (.fieldLink RX3 13 "CosetTables$State" "at" "[I") (by decide +kernel)) rfl dX3_follow_12 ?_
        refine lv_iload_n hx hb dX3_follow_15 rfl (lv_at hl 2 rfl) ?_
        refine gx_ialdn hx hb hK hS (b + 1) (by omega) (isS1 hSb) i (by omega) (hln _) dX3_follow_16 ?_
        refine gx_as (y := iv (b + 1) i) (by rw [hI.1 i, if_neg (Nat.lt_irrefl i)]) ?_
        refine lv_topi (fun q eq => ?_)
        refine lv_istore_n (lv' := [(3, .int q), (0, .ref (ad b)), (1, .ref (ad v)), (2, .int (nI i))]) hx hb dX3_follow_17 rfl hl (by decide) rfl (fun ls hl => ?_)
        refine lv_aload_n hx hb dX3_follow_18 rfl (lv_at hl 1 rfl) ?_
        refine gx_get (ci := 6) (v := .ref (ad (b + 2))) (C := RX3) (T := TX3) (N := 2) hx hb hts (fun _ h => inX3_follow_RX3 h) hown hK hS b (by omega) (sch_S hSb) rfl 1 (by decide) (hts (.fieldLink RX3 19 "CosetTables$State" "turned" "[I") (by decide +kernel)) rfl dX3_follow_19 ?_
        refine lv_iload_n hx hb dX3_follow_22 rfl (lv_at hl 3 rfl) ?_
        refine lv_aload_n hx hb dX3_follow_23 rfl (lv_at hl 1 rfl) ?_
        refine gx_get (ci := 6) (v := .ref (ad (b + 2))) (C := RX3) (T := TX3) (N := 2) hx hb hts (fun _ h => inX3_follow_RX3 h) hown hK hS b (by omega) (sch_S hSb) rfl 1 (by decide) (hts (.fieldLink RX3 19 "CosetTables$State" "turned" "[I") (by decide +kernel)) rfl dX3_follow_24 ?_
        refine lv_iload_n hx hb dX3_follow_27 rfl (lv_at hl 3 rfl) ?_
        refine gx_ialdn hx hb hK hS (b + 2) (by omega) (isS2 hSb) i (by omega) (hln _) dX3_follow_28 ?_
        refine gx_as (y := iv (b + 2) i) (by rw [hI.2.1 i, if_neg (Nat.lt_irrefl i)]) ?_
        refine lv_aload_n hx hb dX3_follow_29 rfl (lv_at hl 2 rfl) ?_
        refine gx_getN (ci := 3) (v := .ref (ad (v + 2))) (C := RX0) (T := TX0) (N := 3) hx hb hts (fun _ h => inX3_follow_RX0 h) hown hK hS v (by omega) (sch_M hMv) rfl 2 (by decide) (nf_RX3_32 hN) rfl dX3_follow_30 ?_
        refine lv_iload_n hx hb dX3_follow_33 rfl (lv_at hl 0 rfl) ?_
        refine gx_iald hx hb hK hS (v + 2) (by omega) (isM2 hMv) (by rw [hP4, eq]; exact hat i (by omega)) dX3_follow_34 ?_
        refine gx_as (y := iv (v + 2) (tn (iv (b + 1) i))) (by rw [hI.2.2 (v + 2) (by omega) (by omega), eq]) ?_
        refine lv_iadd hx hb dX3_follow_35 ?_
        refine lv_aload_n hx hb dX3_follow_36 rfl (lv_at hl 2 rfl) ?_
        refine gx_getN (ci := 3) (v := .int (iv1 v 0)) (C := RX0) (T := TX0) (N := 3) hx hb hts (fun _ h => inX3_follow_RX0 h) hown hK hS v (by omega) (sch_M hMv) rfl 0 (by decide) (nf_RX3_37 hN) rfl dX3_follow_37 ?_
        refine gx_as (y := iv v 0) (by rw [hI.2.2 v (by omega) (by omega)]) ?_
        refine lv_irem hx hb dX3_follow_40 hT ?_
        refine gx_as (y := fo2 iv b v i) rfl ?_
        refine gx_iastn hx hb hK hS (b + 2) (by omega) (isS2 hSb) i (by omega) (hln _) dX3_follow_41 (fun H locs hS => ?_)
        obtain ⟨iv2, eiv2⟩ : ∃ z, z = up2 iv1 (b + 2) i (fo2 iv b v i) := ⟨_, rfl⟩
        rw [← eiv2] at hS
        refine lv_aload_n hx hb dX3_follow_42 rfl (lv_at hl 1 rfl) ?_
        refine gx_get (ci := 6) (v := .ref (ad (b + 1))) (C := RX3) (T := TX3) (N := 2) hx hb hts (fun _ h => inX3_follow_RX3 h) hown hK hS b (by omega) (sch_S hSb) rfl 0 (by decide) (hts (.fieldLink RX3 13 "CosetTables$State" "at" "[I") (by decide +kernel)) rfl dX3_follow_43 ?_
        refine lv_iload_n hx hb dX3_follow_46 rfl (lv_at hl 3 rfl) ?_
        refine lv_aload_n hx hb dX3_follow_47 rfl (lv_at hl 2 rfl) ?_
        refine gx_getN (ci := 3) (v := .ref (ad (v + 1))) (C := RX0) (T := TX0) (N := 3) hx hb hts (fun _ h => inX3_follow_RX0 h) hown hK hS v (by omega) (sch_M hMv) rfl 1 (by decide) (nf_RX3_41 hN) rfl dX3_follow_48 ?_
        refine lv_iload_n hx hb dX3_follow_51 rfl (lv_at hl 0 rfl) ?_
        refine gx_iald hx hb hK hS (v + 1) (by omega) (isM1 hMv) (by rw [hP3, eq]; exact hat i (by omega)) dX3_follow_52 ?_
        refine gx_as (y := fo1 iv b v i) (by rw [eiv2, up2_row (by omega), hI.2.2 (v + 1) (by omega) (by omega), eq]; rfl) ?_
        refine gx_iastn hx hb hK hS (b + 1) (by omega) (isS1 hSb) i (by omega) (hln _) dX3_follow_53 (fun H locs hS => ?_)
        obtain ⟨iv3, eiv3⟩ : ∃ z, z = up2 iv2 (b + 1) i (fo1 iv b v i) := ⟨_, rfl⟩
        rw [← eiv3] at hS
        refine lv_iinc (v := nI (i + 1)) (lv' := [(2, .int (nI (i + 1))), (3, .int q), (0, .ref (ad b)), (1, .ref (ad v))]) hx hb dX3_follow_54 hl (k := 3) rfl (nI_1 i) (by decide) rfl (fun ls hl => ?_)
        refine lv_goto (tgt := 2) hx hb dX3_follow_57 (by decide) ?_
        exact ih2 (i + 1) iv3 (by omega) (by omega) (by rw [eiv3, eiv2]; exact follows_s hI) _ _ _ hS (lv_sub hl [2, 3, 0] rfl)
  exact L2 _ 0 iv (Nat.lt_succ_self _) (Nat.zero_le _) follows_0 _ _ _ hS (lv_sub hl [1, 2, 0] rfl)
set_option maxRecDepth 100000 in
theorem ct_X3_follow (l : Launch) (D : va_G) (cA : Nat → ClassId) (o : Nat → Int64) (ad ln : Nat → Nat) (n sz : Nat) (iv : Nat → Nat → Int32) (b v P : Nat) (hn : 68 ≤ n) (hln : ∀ k, ln k < 2 ^ 31) (hSb : isS b = true) (hMv : isM v = true) (hP1 : ln (b + 1) = P) (hP2 : ln (b + 2) = P) (hP3 : ln (v + 1) = P) (hP4 : ln (v + 2) = P) (hP : P ≤ 8) (hT : ¬ iv v 0 = 0) (hat : ∀ p, p < P → vp_in (iv (b + 1) p) P) : gMv l yX3_follow wsX3_follow { frames := 0, cells := 0, slots := 0, locals := 0 } D cA o ad ln n sz iv [.ref (ad b), .ref (ad v)] (fun iv' => follows iv iv' b v P) := by
  refine Met.ofW (cc := cX3_follow) (maxL := 4) (ret := none) (by decide) rfl ?_
  intro p e s m args below meth c s₁ B hml hv__
  obtain ⟨rfl, hv__⟩ := hv__
  obtain ⟨hsz, hS, hK, hN, hA⟩ := gS.entry hv__
  have hl := lv_entry ([.ref (ad b), .ref (ad v)]) (n := 4) (Nat.le_of_ble_eq_true rfl)
  rw [lg_entry_eq]
  generalize (lg_sl ([.ref (ad b), .ref (ad v)]) ++ List.replicate (4 - (lg_sl ([.ref (ad b), .ref (ad v)])).length) Slot.unset).toArray = ls at hl ⊢
  exact bd_X3_follow (b := b) (v := v) (P := P) ⟨B.exec, B.bytes, hml, findClass_of_methodNamed B.named, atoms_spec (ws := wsX3_follow) B.pre, B.returns, B.notSynchronized⟩ (Nat.le_refl _) (Nat.le_refl _) (Nat.le_refl _) (Nat.le_refl _) hK hN hA hn hln hSb hMv hP1 hP2 hP3 hP4 hP hT hat hS hl (fun iv' H locs ls pc hd hp hS => gx_vret B.exec B.bytes B.returns B.notSynchronized hS hp hd)
