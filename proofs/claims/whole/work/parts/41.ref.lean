theorem inX7_thrown_RX7 : ∀ {w : Cond}, w ∈ u_ws RX7 TX7 23 → w ∈ wsX7_thrown := fun {w} h => by first | exact List.mem_cons_of_mem _ (List.mem_append_right _ h) | (revert h; revert w; show ∀ w ∈ u_ws RX7 TX7 23, w ∈ wsX7_thrown; decide +kernel)
set_option maxHeartbeats 1000000 in
set_option maxRecDepth 100000 in
theorem bd_X7_thrown {p : Program} {l : Launch} {e : Env} {R : Room} {s : State} {m : MethodId} {args : Array Value} {below : List Frame} {meth : Method} {c : Code} {H : Heap} {locs : List Loc} {cells slots : Nat} {Q : State → Prop} {ls : Array Slot} {D : va_G} {A : Nat → Prop} {H0 : Heap} {cA : Nat → ClassId} {o : Nat → Int64} {ad ln : Nat → Nat} {iv : Nat → Nat → Int32} {n : Nat} 
    (F : gF p s m meth c cX7_thrown 1 RX7 wsX7_thrown args (some .int)) (hRf : 0 ≤ R.frames) (hRl : 0 ≤ R.locals) (hRc : cells ≤ R.cells) (hRs : slots ≤ R.slots) (hK : va_K D vwCl (gT cA) s) (hN : NW s) (hA : ∀ q, H0.size ≤ q → A q) (hn : 68 ≤ n) (hln : ∀ k, ln k < 2 ^ 31) 
    (hS : gS D cA A H0 o ad ln iv n H locs) (hl : lv_has ls 1 [(0, .ref (ad 53))])
    (kret : ∀ (r : Int32) (iv' : Nat → Nat → Int32) (H : Heap) (locs : List Loc) (ls : Array Slot) (pc : Nat), decode cX7_thrown pc = .ok (.ireturn, 1) → (r = iv 53 0 ∧ iv' = iv) → gS D cA A H0 o ad ln iv' n H locs → W p l e R s m args below meth c H locs cells slots Q (F0 m pc ls [.int r])) :
    W p l e R s m args below meth c H locs cells slots Q (F0 m 0 ls []) := by
  obtain ⟨hx, hb, hml, hown, hts, hr, hlocks⟩ := F
  refine lv_aload_n hx hb dX7_thrown_0 rfl (lv_at hl 0 rfl) ?_
  refine gx_get (ci := 10) (v := .int (iv 53 0)) (C := RX7) (T := TX7) (N := 23) hx hb hts (fun _ h => inX7_thrown_RX7 h) hown hK hS 53 (by omega) rfl rfl 0 (by decide) (hts (.fieldLink RX7 58 "CosetTablesModel" "thrown" "I") (by decide +kernel)) rfl dX7_thrown_1 ?_
  exact kret _ iv _ _ _ _ dX7_thrown_4 (⟨rfl, rfl⟩) hS
set_option maxRecDepth 100000 in
theorem ct_X7_thrown (l : Launch) (D : va_G) (cA : Nat → ClassId) (o : Nat → Int64) (ad ln : Nat → Nat) (n sz : Nat) (iv : Nat → Nat → Int32)  (hn : 68 ≤ n) (hln : ∀ k, ln k < 2 ^ 31)  : gMi l yX7_thrown wsX7_thrown { frames := 0, cells := 0, slots := 0, locals := 0 } D cA o ad ln n sz iv [.ref (ad 53)] (fun (r : Int32) iv' => r = iv 53 0 ∧ iv' = iv) := by
  refine Met.ofW (cc := cX7_thrown) (maxL := 1) (ret := (some .int)) (by decide) rfl ?_
  intro p e s m args below meth c s₁ B hml hv__
  obtain ⟨rfl, hv__⟩ := hv__
  obtain ⟨hsz, hS, hK, hN, hA⟩ := gS.entry hv__
  have hl := lv_entry ([.ref (ad 53)]) (n := 1) (Nat.le_of_ble_eq_true rfl)
  rw [lg_entry_eq]
  generalize (lg_sl ([.ref (ad 53)]) ++ List.replicate (1 - (lg_sl ([.ref (ad 53)])).length) Slot.unset).toArray = ls at hl ⊢
  exact bd_X7_thrown  ⟨B.exec, B.bytes, hml, findClass_of_methodNamed B.named, atoms_spec (ws := wsX7_thrown) B.pre, B.returns, B.notSynchronized⟩ (Nat.le_refl _) (Nat.le_refl _) (Nat.le_refl _) (Nat.le_refl _) hK hN hA hn hln  hS hl (fun r iv' H locs ls pc hd hp hS => gx_iret B.exec B.bytes B.returns B.notSynchronized hS hp hd)

theorem inX7_throwsIf_RX7 : ∀ {w : Cond}, w ∈ u_ws RX7 TX7 23 → w ∈ wsX7_throwsIf := fun {w} h => by first | exact List.mem_cons_of_mem _ (List.mem_append_right _ h) | (revert h; revert w; show ∀ w ∈ u_ws RX7 TX7 23, w ∈ wsX7_throwsIf; decide +kernel)
set_option maxHeartbeats 1000000 in
set_option maxRecDepth 100000 in
theorem bd_X7_throwsIf {p : Program} {l : Launch} {e : Env} {R : Room} {s : State} {m : MethodId} {args : Array Value} {below : List Frame} {meth : Method} {c : Code} {H : Heap} {locs : List Loc} {cells slots : Nat} {Q : State → Prop} {ls : Array Slot} {D : va_G} {A : Nat → Prop} {H0 : Heap} {cA : Nat → ClassId} {o : Nat → Int64} {ad ln : Nat → Nat} {iv : Nat → Nat → Int32} {n : Nat} {x v : Int32}
    (F : gF p s m meth c cX7_throwsIf 3 RX7 wsX7_throwsIf args (some .boolean)) (hRf : 0 ≤ R.frames) (hRl : 0 ≤ R.locals) (hRc : cells ≤ R.cells) (hRs : slots ≤ R.slots) (hK : va_K D vwCl (gT cA) s) (hN : NW s) (hA : ∀ q, H0.size ≤ q → A q) (hn : 68 ≤ n) (hln : ∀ k, ln k < 2 ^ 31) (hv : v = 0 ∨ v = 1)
    (hS : gS D cA A H0 o ad ln iv n H locs) (hl : lv_has ls 3 [(0, .ref (ad 53)), (1, .int x), (2, .int v)])
    (kret : ∀ (r : Int32) (iv' : Nat → Nat → Int32) (H : Heap) (locs : List Loc) (ls : Array Slot) (pc : Nat), decode cX7_throwsIf pc = .ok (.ireturn, 1) → ((r = 0 ∨ r = 1) ∧ r = v ∧ iv' = up2 iv 53 0 (if v = 0 then 0 else x)) → gS D cA A H0 o ad ln iv' n H locs → W p l e R s m args below meth c H locs cells slots Q (F0 m pc ls [.int r])) :
    W p l e R s m args below meth c H locs cells slots Q (F0 m 0 ls []) := by
  obtain ⟨hx, hb, hml, hown, hts, hr, hlocks⟩ := F
  refine lv_aload_n hx hb dX7_throwsIf_0 rfl (lv_at hl 0 rfl) ?_
  refine lv_iload_n hx hb dX7_throwsIf_1 rfl (lv_at hl 2 rfl) ?_
  refine lv_if_eq (tgt := 9) hx hb dX7_throwsIf_2 (by decide) (fun c_2 => ?_) (fun c_2 => ?_)
  · skip
    refine lv_iconst (v := nI 0) hx hb dX7_throwsIf_9 (by decide) ?_
    refine gx_put (ci := 10) (x := nI 0) (ty := .int) (C := RX7) (T := TX7) (N := 23) hx hb hts (fun _ h => inX7_throwsIf_RX7 h) tyX7 tyX7_ok nmX7 hown hK hS 53 (by omega) rfl rfl 0 (by decide) (hts (.fieldLink RX7 58 "CosetTablesModel" "thrown" "I") (by decide +kernel)) rfl (by decide +kernel) rfl rfl (Nat.le_of_ble_eq_true rfl) rfl dX7_throwsIf_10 (fun H locs hS => ?_)
    obtain ⟨iv1, eiv1⟩ : ∃ z, z = up2 iv 53 0 (nI 0) := ⟨_, rfl⟩
    rw [← eiv1] at hS
    refine lv_iload_n hx hb dX7_throwsIf_13 rfl (lv_at hl 2 rfl) ?_
    exact kret _ iv1 _ _ _ _ dX7_throwsIf_14 (⟨hv, rfl, by first | rw [eiv1, if_pos c_2]; rfl | rw [eiv1, if_neg c_2]⟩) hS
  · skip
    refine lv_iload_n hx hb dX7_throwsIf_5 rfl (lv_at hl 1 rfl) ?_
    refine lv_goto (tgt := 10) hx hb dX7_throwsIf_6 (by decide) ?_
    refine gx_put (ci := 10) (x := x) (ty := .int) (C := RX7) (T := TX7) (N := 23) hx hb hts (fun _ h => inX7_throwsIf_RX7 h) tyX7 tyX7_ok nmX7 hown hK hS 53 (by omega) rfl rfl 0 (by decide) (hts (.fieldLink RX7 58 "CosetTablesModel" "thrown" "I") (by decide +kernel)) rfl (by decide +kernel) rfl rfl (Nat.le_of_ble_eq_true rfl) rfl dX7_throwsIf_10 (fun H locs hS => ?_)
    obtain ⟨iv1, eiv1⟩ : ∃ z, z = up2 iv 53 0 (x) := ⟨_, rfl⟩
    rw [← eiv1] at hS
    refine lv_iload_n hx hb dX7_throwsIf_13 rfl (lv_at hl 2 rfl) ?_
    exact kret _ iv1 _ _ _ _ dX7_throwsIf_14 (⟨hv, rfl, by first | rw [eiv1, if_pos c_2]; rfl | rw [eiv1, if_neg c_2]⟩) hS
set_option maxRecDepth 100000 in
theorem ct_X7_throwsIf (l : Launch) (D : va_G) (cA : Nat → ClassId) (o : Nat → Int64) (ad ln : Nat → Nat) (n sz : Nat) (iv : Nat → Nat → Int32) (x v : Int32) (hn : 68 ≤ n) (hln : ∀ k, ln k < 2 ^ 31) (hv : v = 0 ∨ v = 1) : gMi l yX7_throwsIf wsX7_throwsIf { frames := 0, cells := 0, slots := 0, locals := 0 } D cA o ad ln n sz iv [.ref (ad 53), .int x, .int v] (fun (r : Int32) iv' => (r = 0 ∨ r = 1) ∧ r = v ∧ iv' = up2 iv 53 0 (if v = 0 then 0 else x)) := by
  refine Met.ofW (cc := cX7_throwsIf) (maxL := 3) (ret := (some .boolean)) (by decide) rfl ?_
  intro p e s m args below meth c s₁ B hml hv__
  obtain ⟨rfl, hv__⟩ := hv__
  obtain ⟨hsz, hS, hK, hN, hA⟩ := gS.entry hv__
  have hl := lv_entry ([.ref (ad 53), .int x, .int v]) (n := 3) (Nat.le_of_ble_eq_true rfl)
  rw [lg_entry_eq]
  generalize (lg_sl ([.ref (ad 53), .int x, .int v]) ++ List.replicate (3 - (lg_sl ([.ref (ad 53), .int x, .int v])).length) Slot.unset).toArray = ls at hl ⊢
  exact bd_X7_throwsIf (x := x) (v := v) ⟨B.exec, B.bytes, hml, findClass_of_methodNamed B.named, atoms_spec (ws := wsX7_throwsIf) B.pre, B.returns, B.notSynchronized⟩ (Nat.le_refl _) (Nat.le_refl _) (Nat.le_refl _) (Nat.le_refl _) hK hN hA hn hln hv hS hl (fun r iv' H locs ls pc hd hp hS => gx_zret B.exec B.bytes B.returns B.notSynchronized (hp.1) hS hp hd)

theorem inX7_isMove_RX7 : ∀ {w : Cond}, w ∈ u_ws RX7 TX7 23 → w ∈ wsX7_isMove := fun {w} h => by first | exact List.mem_cons_of_mem _ (List.mem_append_right _ h) | (revert h; revert w; show ∀ w ∈ u_ws RX7 TX7 23, w ∈ wsX7_isMove; decide +kernel)
set_option maxHeartbeats 1000000 in
set_option maxRecDepth 100000 in
theorem bd_X7_isMove {p : Program} {l : Launch} {e : Env} {R : Room} {s : State} {m : MethodId} {args : Array Value} {below : List Frame} {meth : Method} {c : Code} {H : Heap} {locs : List Loc} {cells slots : Nat} {Q : State → Prop} {ls : Array Slot} {D : va_G} {A : Nat → Prop} {H0 : Heap} {cA : Nat → ClassId} {o : Nat → Int64} {ad ln : Nat → Nat} {iv : Nat → Nat → Int32} {n : Nat} {x : Int32}
    (F : gF p s m meth c cX7_isMove 2 RX7 wsX7_isMove args (some .boolean)) (hRf : 0 ≤ R.frames) (hRl : 0 ≤ R.locals) (hRc : cells ≤ R.cells) (hRs : slots ≤ R.slots) (hK : va_K D vwCl (gT cA) s) (hN : NW s) (hA : ∀ q, H0.size ≤ q → A q) (hn : 68 ≤ n) (hln : ∀ k, ln k < 2 ^ 31) 
    (hS : gS D cA A H0 o ad ln iv n H locs) (hl : lv_has ls 2 [(0, .ref (ad 53)), (1, .int x)])
    (kret : ∀ (r : Int32) (iv' : Nat → Nat → Int32) (H : Heap) (locs : List Loc) (ls : Array Slot) (pc : Nat), decode cX7_isMove pc = .ok (.ireturn, 1) → ((r = 0 ∨ r = 1) ∧ (r = 1 ↔ ok9 x (iv 53 3)) ∧ iv' = iv) → gS D cA A H0 o ad ln iv' n H locs → W p l e R s m args below meth c H locs cells slots Q (F0 m pc ls [.int r])) :
    W p l e R s m args below meth c H locs cells slots Q (F0 m 0 ls []) := by
  obtain ⟨hx, hb, hml, hown, hts, hr, hlocks⟩ := F
  refine lv_iload_n hx hb dX7_isMove_0 rfl (lv_at hl 1 rfl) ?_
  refine lv_if_lt (tgt := 16) hx hb dX7_isMove_1 (by decide) (fun c_1 => ?_) (fun c_1 => ?_)
  · skip
    refine lv_iconst (v := nI 0) hx hb dX7_isMove_16 (by decide) ?_
    exact kret _ iv _ _ _ _ dX7_isMove_17 (by first | exact ⟨Or.inl rfl, ⟨fun q => absurd q (by decide), fun q => absurd c_1 q.1⟩, rfl⟩ | exact ⟨Or.inl rfl, ⟨fun q => absurd q (by decide), fun q => absurd q.2 (by rw [← Int32.not_le] at *; first | exact fun h => h c_9 | exact c_9)⟩, rfl⟩ | exact ⟨Or.inr rfl, ⟨fun _ => ⟨c_1, by rw [← Int32.not_le]; exact c_9⟩, fun _ => rfl⟩, rfl⟩) hS
  · skip
    refine lv_iload_n hx hb dX7_isMove_4 rfl (lv_at hl 1 rfl) ?_
    refine lv_aload_n hx hb dX7_isMove_5 rfl (lv_at hl 0 rfl) ?_
    refine gx_get (ci := 10) (v := .int (iv 53 3)) (C := RX7) (T := TX7) (N := 23) hx hb hts (fun _ h => inX7_isMove_RX7 h) hown hK hS 53 (by omega) rfl rfl 3 (by decide) (hts (.fieldLink RX7 61 "CosetTablesModel" "moves" "I") (by decide +kernel)) rfl dX7_isMove_6 ?_
    refine lv_icmp_ge (tgt := 16) hx hb dX7_isMove_9 (by decide) (fun c_9 => ?_) (fun c_9 => ?_)
    · skip
      refine lv_iconst (v := nI 0) hx hb dX7_isMove_16 (by decide) ?_
      exact kret _ iv _ _ _ _ dX7_isMove_17 (by first | exact ⟨Or.inl rfl, ⟨fun q => absurd q (by decide), fun q => absurd c_1 q.1⟩, rfl⟩ | exact ⟨Or.inl rfl, ⟨fun q => absurd q (by decide), fun q => absurd q.2 (by rw [← Int32.not_le] at *; first | exact fun h => h c_9 | exact c_9)⟩, rfl⟩ | exact ⟨Or.inr rfl, ⟨fun _ => ⟨c_1, by rw [← Int32.not_le]; exact c_9⟩, fun _ => rfl⟩, rfl⟩) hS
    · skip
      refine lv_iconst (v := nI 1) hx hb dX7_isMove_12 (by decide) ?_
      refine lv_goto (tgt := 17) hx hb dX7_isMove_13 (by decide) ?_
      exact kret _ iv _ _ _ _ dX7_isMove_17 (by first | exact ⟨Or.inl rfl, ⟨fun q => absurd q (by decide), fun q => absurd c_1 q.1⟩, rfl⟩ | exact ⟨Or.inl rfl, ⟨fun q => absurd q (by decide), fun q => absurd q.2 (by rw [← Int32.not_le] at *; first | exact fun h => h c_9 | exact c_9)⟩, rfl⟩ | exact ⟨Or.inr rfl, ⟨fun _ => ⟨c_1, by rw [← Int32.not_le]; exact c_9⟩, fun _ => rfl⟩, rfl⟩) hS
set_option maxRecDepth 100000 in
theorem ct_X7_isMove (l : Launch) (D : va_G) (cA : Nat → ClassId) (o : Nat → Int64) (ad ln : Nat → Nat) (n sz : Nat) (iv : Nat → Nat → Int32) (x : Int32) (hn : 68 ≤ n) (hln : ∀ k, ln k < 2 ^ 31)  : gMi l yX7_isMove wsX7_isMove { frames := 0, cells := 0, slots := 0, locals := 0 } D cA o ad ln n sz iv [.ref (ad 53), .int x] (fun (r : Int32) iv' => (r = 0 ∨ r = 1) ∧ (r = 1 ↔ ok9 x (iv 53 3)) ∧ iv' = iv) := by
  refine Met.ofW (cc := cX7_isMove) (maxL := 2) (ret := (some .boolean)) (by decide) rfl ?_
  intro p e s m args below meth c s₁ B hml hv__
  obtain ⟨rfl, hv__⟩ := hv__
  obtain ⟨hsz, hS, hK, hN, hA⟩ := gS.entry hv__
  have hl := lv_entry ([.ref (ad 53), .int x]) (n := 2) (Nat.le_of_ble_eq_true rfl)
  rw [lg_entry_eq]
  generalize (lg_sl ([.ref (ad 53), .int x]) ++ List.replicate (2 - (lg_sl ([.ref (ad 53), .int x])).length) Slot.unset).toArray = ls at hl ⊢
  exact bd_X7_isMove (x := x) ⟨B.exec, B.bytes, hml, findClass_of_methodNamed B.named, atoms_spec (ws := wsX7_isMove) B.pre, B.returns, B.notSynchronized⟩ (Nat.le_refl _) (Nat.le_refl _) (Nat.le_refl _) (Nat.le_refl _) hK hN hA hn hln  hS hl (fun r iv' H locs ls pc hd hp hS => gx_zret B.exec B.bytes B.returns B.notSynchronized (hp.1) hS hp hd)

theorem inX7_isPlace_RX7 : ∀ {w : Cond}, w ∈ u_ws RX7 TX7 23 → w ∈ wsX7_isPlace := fun {w} h => by first | exact List.mem_cons_of_mem _ (List.mem_append_right _ h) | (revert h; revert w; show ∀ w ∈ u_ws RX7 TX7 23, w ∈ wsX7_isPlace; decide +kernel)
set_option maxHeartbeats 1000000 in
set_option maxRecDepth 100000 in
theorem bd_X7_isPlace {p : Program} {l : Launch} {e : Env} {R : Room} {s : State} {m : MethodId} {args : Array Value} {below : List Frame} {meth : Method} {c : Code} {H : Heap} {locs : List Loc} {cells slots : Nat} {Q : State → Prop} {ls : Array Slot} {D : va_G} {A : Nat → Prop} {H0 : Heap} {cA : Nat → ClassId} {o : Nat → Int64} {ad ln : Nat → Nat} {iv : Nat → Nat → Int32} {n : Nat} {x : Int32}
    (F : gF p s m meth c cX7_isPlace 2 RX7 wsX7_isPlace args (some .boolean)) (hRf : 0 ≤ R.frames) (hRl : 0 ≤ R.locals) (hRc : cells ≤ R.cells) (hRs : slots ≤ R.slots) (hK : va_K D vwCl (gT cA) s) (hN : NW s) (hA : ∀ q, H0.size ≤ q → A q) (hn : 68 ≤ n) (hln : ∀ k, ln k < 2 ^ 31) 
    (hS : gS D cA A H0 o ad ln iv n H locs) (hl : lv_has ls 2 [(0, .ref (ad 53)), (1, .int x)])
    (kret : ∀ (r : Int32) (iv' : Nat → Nat → Int32) (H : Heap) (locs : List Loc) (ls : Array Slot) (pc : Nat), decode cX7_isPlace pc = .ok (.ireturn, 1) → ((r = 0 ∨ r = 1) ∧ (r = 1 ↔ ok9 x (iv 53 1)) ∧ iv' = iv) → gS D cA A H0 o ad ln iv' n H locs → W p l e R s m args below meth c H locs cells slots Q (F0 m pc ls [.int r])) :
    W p l e R s m args below meth c H locs cells slots Q (F0 m 0 ls []) := by
  obtain ⟨hx, hb, hml, hown, hts, hr, hlocks⟩ := F
  refine lv_iload_n hx hb dX7_isPlace_0 rfl (lv_at hl 1 rfl) ?_
  refine lv_if_lt (tgt := 16) hx hb dX7_isPlace_1 (by decide) (fun c_1 => ?_) (fun c_1 => ?_)
  · skip
    refine lv_iconst (v := nI 0) hx hb dX7_isPlace_16 (by decide) ?_
    exact kret _ iv _ _ _ _ dX7_isPlace_17 (by first | exact ⟨Or.inl rfl, ⟨fun q => absurd q (by decide), fun q => absurd c_1 q.1⟩, rfl⟩ | exact ⟨Or.inl rfl, ⟨fun q => absurd q (by decide), fun q => absurd q.2 (by rw [← Int32.not_le] at *; first | exact fun h => h c_9 | exact c_9)⟩, rfl⟩ | exact ⟨Or.inr rfl, ⟨fun _ => ⟨c_1, by rw [← Int32.not_le]; exact c_9⟩, fun _ => rfl⟩, rfl⟩) hS
  · skip
    refine lv_iload_n hx hb dX7_isPlace_4 rfl (lv_at hl 1 rfl) ?_
    refine lv_aload_n hx hb dX7_isPlace_5 rfl (lv_at hl 0 rfl) ?_
    refine gx_get (ci := 10) (v := .int (iv 53 1)) (C := RX7) (T := TX7) (N := 23) hx hb hts (fun _ h => inX7_isPlace_RX7 h) hown hK hS 53 (by omega) rfl rfl 1 (by decide) (hts (.fieldLink RX7 51 "CosetTablesModel" "places" "I") (by decide +kernel)) rfl dX7_isPlace_6 ?_
    refine lv_icmp_ge (tgt := 16) hx hb dX7_isPlace_9 (by decide) (fun c_9 => ?_) (fun c_9 => ?_)
    · skip
      refine lv_iconst (v := nI 0) hx hb dX7_isPlace_16 (by decide) ?_
      exact kret _ iv _ _ _ _ dX7_isPlace_17 (by first | exact ⟨Or.inl rfl, ⟨fun q => absurd q (by decide), fun q => absurd c_1 q.1⟩, rfl⟩ | exact ⟨Or.inl rfl, ⟨fun q => absurd q (by decide), fun q => absurd q.2 (by rw [← Int32.not_le] at *; first | exact fun h => h c_9 | exact c_9)⟩, rfl⟩ | exact ⟨Or.inr rfl, ⟨fun _ => ⟨c_1, by rw [← Int32.not_le]; exact c_9⟩, fun _ => rfl⟩, rfl⟩) hS
    · skip
      refine lv_iconst (v := nI 1) hx hb dX7_isPlace_12 (by decide) ?_
      refine lv_goto (tgt := 17) hx hb dX7_isPlace_13 (by decide) ?_
      exact kret _ iv _ _ _ _ dX7_isPlace_17 (by first | exact ⟨Or.inl rfl, ⟨fun q => absurd q (by decide), fun q => absurd c_1 q.1⟩, rfl⟩ | exact ⟨Or.inl rfl, ⟨fun q => absurd q (by decide), fun q => absurd q.2 (by rw [← Int32.not_le] at *; first | exact fun h => h c_9 | exact c_9)⟩, rfl⟩ | exact ⟨Or.inr rfl, ⟨fun _ => ⟨c_1, by rw [← Int32.not_le]; exact c_9⟩, fun _ => rfl⟩, rfl⟩) hS
set_option maxRecDepth 100000 in
theorem ct_X7_isPlace (l : Launch) (D : va_G) (cA : Nat → ClassId) (o : Nat → Int64) (ad ln : Nat → Nat) (n sz : Nat) (iv : Nat → Nat → Int32) (x : Int32) (hn : 68 ≤ n) (hln : ∀ k, ln k < 2 ^ 31)  : gMi l yX7_isPlace wsX7_isPlace { frames := 0, cells := 0, slots := 0, locals := 0 } D cA o ad ln n sz iv [.ref (ad 53), .int x] (fun (r : Int32) iv' => (r = 0 ∨ r = 1) ∧ (r = 1 ↔ ok9 x (iv 53 1)) ∧ iv' = iv) := by
  refine Met.ofW (cc := cX7_isPlace) (maxL := 2) (ret := (some .boolean)) (by decide) rfl ?_
  intro p e s m args below meth c s₁ B hml hv__
  obtain ⟨rfl, hv__⟩ := hv__
  obtain ⟨hsz, hS, hK, hN, hA⟩ := gS.entry hv__
  have hl := lv_entry ([.ref (ad 53), .int x]) (n := 2) (Nat.le_of_ble_eq_true rfl)
  rw [lg_entry_eq]
  generalize (lg_sl ([.ref (ad 53), .int x]) ++ List.replicate (2 - (lg_sl ([.ref (ad 53), .int x])).length) Slot.unset).toArray = ls at hl ⊢
  exact bd_X7_isPlace (x := x) ⟨B.exec, B.bytes, hml, findClass_of_methodNamed B.named, atoms_spec (ws := wsX7_isPlace) B.pre, B.returns, B.notSynchronized⟩ (Nat.le_refl _) (Nat.le_refl _) (Nat.le_refl _) (Nat.le_refl _) hK hN hA hn hln  hS hl (fun r iv' H locs ls pc hd hp hS => gx_zret B.exec B.bytes B.returns B.notSynchronized (hp.1) hS hp hd)

theorem inX7_move_RX7 : ∀ {w : Cond}, w ∈ u_ws RX7 TX7 23 → w ∈ wsX7_move := fun {w} h => by first | exact List.mem_cons_of_mem _ (List.mem_append_right _ h) | (revert h; revert w; show ∀ w ∈ u_ws RX7 TX7 23, w ∈ wsX7_move; decide +kernel)
set_option maxHeartbeats 1000000 in
set_option maxRecDepth 100000 in
theorem bd_X7_move {p : Program} {l : Launch} {e : Env} {R : Room} {s : State} {m : MethodId} {args : Array Value} {below : List Frame} {meth : Method} {c : Code} {H : Heap} {locs : List Loc} {cells slots : Nat} {Q : State → Prop} {ls : Array Slot} {D : va_G} {A : Nat → Prop} {H0 : Heap} {cA : Nat → ClassId} {o : Nat → Int64} {ad ln : Nat → Nat} {iv : Nat → Nat → Int32} {n : Nat} {m8 : Nat}
    (F : gF p s m meth c cX7_move 2 RX7 wsX7_move args (some .int)) (hRf : 0 ≤ R.frames) (hRl : 0 ≤ R.locals) (hRc : cells ≤ R.cells) (hRs : slots ≤ R.slots) (hK : va_K D vwCl (gT cA) s) (hN : NW s) (hA : ∀ q, H0.size ≤ q → A q) (hn : 68 ≤ n) (hln : ∀ k, ln k < 2 ^ 31) (hRn : rln ln) (hm0 : iv 53 3 = nI m8) (hm6 : m8 ≤ 6)
    (hS : gS D cA A H0 o ad ln iv n H locs) (hl : lv_has ls 2 [(0, .ref (ad 53))])
    (kret : ∀ (r : Int32) (iv' : Nat → Nat → Int32) (H : Heap) (locs : List Loc) (ls : Array Slot) (pc : Nat), decode cX7_move pc = .ok (.ireturn, 1) → (if m8 = 6 then r = -1 ∧ iv' = up2 iv 53 0 0 else r = nI m8 ∧ (∀ j, iv' 53 j = if j = 0 then 0 else if j = 3 then nI (m8 + 1) else if j = 12 then 0 else iv 53 j) ∧ (∀ j, iv' 54 j = if 8 * m8 ≤ j ∧ j < 8 * m8 + 8 then nI (j - 8 * m8) else iv 54 j) ∧ (∀ j, iv' 55 j = if 8 * m8 ≤ j ∧ j < 8 * m8 + 8 then 0 else iv 55 j) ∧ ∀ q, q ≠ 53 → q ≠ 54 → q ≠ 55 → iv' q = iv q) → gS D cA A H0 o ad ln iv' n H locs → W p l e R s m args below meth c H locs cells slots Q (F0 m pc ls [.int r])) :
    W p l e R s m args below meth c H locs cells slots Q (F0 m 0 ls []) := by
  obtain ⟨hx, hb, hml, hown, hts, hr, hlocks⟩ := F
  have hRn9 := hRn
  obtain ⟨r54, r55, r56, r57, r58, r59, r60, r61, r62, r63, r64, r65, r66⟩ := hRn
  refine lv_aload_n hx hb dX7_move_0 rfl (lv_at hl 0 rfl) ?_
  refine lv_iconst (v := nI 0) hx hb dX7_move_1 (by decide) ?_
  refine gx_put (ci := 10) (x := nI 0) (ty := .int) (C := RX7) (T := TX7) (N := 23) hx hb hts (fun _ h => inX7_move_RX7 h) tyX7 tyX7_ok nmX7 hown hK hS 53 (by omega) rfl rfl 0 (by decide) (hts (.fieldLink RX7 58 "CosetTablesModel" "thrown" "I") (by decide +kernel)) rfl (by decide +kernel) rfl rfl (Nat.le_of_ble_eq_true rfl) rfl dX7_move_2 (fun H locs hS => ?_)
  obtain ⟨iv1, eiv1⟩ : ∃ z, z = up2 iv 53 0 (nI 0) := ⟨_, rfl⟩
  rw [← eiv1] at hS
  refine lv_aload_n hx hb dX7_move_5 rfl (lv_at hl 0 rfl) ?_
  refine gx_get (ci := 10) (v := .int (iv1 53 3)) (C := RX7) (T := TX7) (N := 23) hx hb hts (fun _ h => inX7_move_RX7 h) hown hK hS 53 (by omega) rfl rfl 3 (by decide) (hts (.fieldLink RX7 61 "CosetTablesModel" "moves" "I") (by decide +kernel)) rfl dX7_move_6 ?_
  refine gx_as (y := nI m8) (by rw [eiv1, up2_n (by decide)]; exact hm0) ?_
  refine lv_bipush (v := nI 6) hx hb dX7_move_9 (by decide) ?_
  refine lv_icmp_ne (tgt := 16) hx hb dX7_move_11 (by decide) (fun c_11 => ?_) (fun c_11 => ?_)
  · skip
    rw [nI_eq (by omega) (by omega)] at c_11
    refine lv_iconst (v := nI 0) hx hb dX7_move_16 (by decide) ?_
    refine lv_istore_n (lv' := [(1, .int (nI 0)), (0, .ref (ad 53))]) hx hb dX7_move_17 rfl hl (by decide) rfl (fun ls hl => ?_)
    have L18 : ∀ (N : Nat) (i : Nat) (iv2 : Nat → Nat → Int32), 8 - i < N → (i ≤ 8) → (∀ j, iv2 54 j = if 8 * m8 ≤ j ∧ j < 8 * m8 + i then nI (j - 8 * m8) else iv 54 j) → (∀ j, iv2 55 j = if 8 * m8 ≤ j ∧ j < 8 * m8 + i then 0 else iv 55 j) → (∀ q, q ≠ 54 → q ≠ 55 → iv2 q = iv1 q) → ∀ (H : Heap) (locs : List Loc) (ls : Array Slot), gS D cA A H0 o ad ln iv2 n H locs → lv_has ls 2 [(0, .ref (ad 53)), (1, .int (nI i))] → W p l e R s m args below meth c H locs cells slots Q (F0 m 18 ls []) := by
      intro N
      induction N with
      | zero => intro i iv2 hm; exact absurd hm (Nat.not_lt_zero _)
      | succ N ih18 =>
        intro i iv2 hm hi h1 h2 h3 H locs ls hS hl
        refine lv_iload_n hx hb dX7_move_18 rfl (lv_at hl 1 rfl) ?_
        refine lv_bipush (v := nI 8) hx hb dX7_move_19 (by decide) ?_
        refine lv_icmp_ge (tgt := 60) hx hb dX7_move_21 (by decide) (fun c_21 => ?_) (fun c_21 => ?_)
        · skip
          rw [nI_leI (by omega) (by omega)] at c_21
          have ei : i = 8 := by omega
          subst ei
          have o53 : iv2 53 = iv1 53 := h3 53 (by decide) (by decide)
          refine lv_aload_n hx hb dX7_move_60 rfl (lv_at hl 0 rfl) ?_
          refine lv_dup hx hb dX7_move_61 rfl ?_
          refine gx_get (ci := 10) (v := .int (iv2 53 3)) (C := RX7) (T := TX7) (N := 23) hx hb hts (fun _ h => inX7_move_RX7 h) hown hK hS 53 (by omega) rfl rfl 3 (by decide) (hts (.fieldLink RX7 61 "CosetTablesModel" "moves" "I") (by decide +kernel)) rfl dX7_move_62 ?_
          refine gx_as (y := nI m8) (by rw [o53, eiv1, up2_n (by decide)]; exact hm0) ?_
          refine lv_iconst (v := nI 1) hx hb dX7_move_65 (by decide) ?_
          refine lv_iadd hx hb dX7_move_66 ?_
          refine gx_as (y := nI (m8 + 1)) (nI_add _ _) ?_
          refine gx_put (ci := 10) (x := nI (m8 + 1)) (ty := .int) (C := RX7) (T := TX7) (N := 23) hx hb hts (fun _ h => inX7_move_RX7 h) tyX7 tyX7_ok nmX7 hown hK hS 53 (by omega) rfl rfl 3 (by decide) (hts (.fieldLink RX7 61 "CosetTablesModel" "moves" "I") (by decide +kernel)) rfl (by decide +kernel) rfl rfl (Nat.le_of_ble_eq_true rfl) rfl dX7_move_67 (fun H locs hS => ?_)
          obtain ⟨iv5, eiv5⟩ : ∃ z, z = up2 iv2 53 3 (nI (m8 + 1)) := ⟨_, rfl⟩
          rw [← eiv5] at hS
          refine lv_aload_n hx hb dX7_move_70 rfl (lv_at hl 0 rfl) ?_
          refine lv_iconst (v := nI 0) hx hb dX7_move_71 (by decide) ?_
          refine gx_put (ci := 10) (x := nI 0) (ty := .boolean) (C := RX7) (T := TX7) (N := 23) hx hb hts (fun _ h => inX7_move_RX7 h) tyX7 tyX7_ok nmX7 hown hK hS 53 (by omega) rfl rfl 12 (by decide) (hts (.fieldLink RX7 64 "CosetTablesModel" "isBuilt" "Z") (by decide +kernel)) rfl (by decide +kernel) (gx_nz (by first | exact Or.inl rfl | exact Or.inr rfl | assumption)) (gx_fz (by first | exact Or.inl rfl | exact Or.inr rfl | assumption)) (Nat.le_of_ble_eq_true rfl) rfl dX7_move_72 (fun H locs hS => ?_)
          obtain ⟨iv6, eiv6⟩ : ∃ z, z = up2 iv5 53 12 (nI 0) := ⟨_, rfl⟩
          rw [← eiv6] at hS
          refine lv_aload_n hx hb dX7_move_75 rfl (lv_at hl 0 rfl) ?_
          refine gx_get (ci := 10) (v := .int (iv6 53 3)) (C := RX7) (T := TX7) (N := 23) hx hb hts (fun _ h => inX7_move_RX7 h) hown hK hS 53 (by omega) rfl rfl 3 (by decide) (hts (.fieldLink RX7 61 "CosetTablesModel" "moves" "I") (by decide +kernel)) rfl dX7_move_76 ?_
          refine gx_as (y := nI (m8 + 1)) (by rw [eiv6, up2_n (by decide), eiv5, up2_s]) ?_
          refine lv_iconst (v := nI 1) hx hb dX7_move_79 (by decide) ?_
          refine lv_isub hx hb dX7_move_80 ?_
          refine gx_as (y := nI m8) (pk_sub (by omega)) ?_
          exact kret _ iv6 _ _ _ _ dX7_move_81 (by
                rw [if_neg c_11]
                refine ⟨rfl, fun j => ?_, fun j => by rw [eiv6, up2_row (by decide), eiv5, up2_row (by decide)]; exact h1 j, fun j => by rw [eiv6, up2_row (by decide), eiv5, up2_row (by decide)]; exact h2 j, fun q x1 x2 x3 => by rw [eiv6, up2_row x1, eiv5, up2_row x1, h3 q x2 x3, eiv1, up2_row x1]⟩
                rw [eiv6, up2_eq, eiv5, up2_eq, o53, eiv1, up2_eq]
                by_cases e0 : j = 0
                · subst e0; rfl
                by_cases e3 : j = 3
                · subst e3; rfl
                by_cases e12 : j = 12
                · subst e12; rfl
                simp [e0, e3, e12]) hS
        · skip
          rw [nI_leI (by omega) (by omega)] at c_21
          have o53 : iv2 53 = iv1 53 := h3 53 (by decide) (by decide)
          refine lv_aload_n hx hb dX7_move_24 rfl (lv_at hl 0 rfl) ?_
          refine gx_get (ci := 10) (v := .ref (ad 54)) (C := RX7) (T := TX7) (N := 23) hx hb hts (fun _ h => inX7_move_RX7 h) hown hK hS 53 (by omega) rfl rfl 4 (by decide) (hts (.fieldLink RX7 7 "CosetTablesModel" "to" "[I") (by decide +kernel)) rfl dX7_move_25 ?_
          refine lv_bipush (v := nI 8) hx hb dX7_move_28 (by decide) ?_
          refine lv_aload_n hx hb dX7_move_30 rfl (lv_at hl 0 rfl) ?_
          refine gx_get (ci := 10) (v := .int (iv2 53 3)) (C := RX7) (T := TX7) (N := 23) hx hb hts (fun _ h => inX7_move_RX7 h) hown hK hS 53 (by omega) rfl rfl 3 (by decide) (hts (.fieldLink RX7 61 "CosetTablesModel" "moves" "I") (by decide +kernel)) rfl dX7_move_31 ?_
          refine gx_as (y := nI m8) (by rw [o53, eiv1, up2_n (by decide)]; exact hm0) ?_
          refine lv_imul hx hb dX7_move_34 ?_
          refine gx_as (y := nI (8 * m8)) (pk_mul _ _) ?_
          refine lv_iload_n hx hb dX7_move_35 rfl (lv_at hl 1 rfl) ?_
          refine lv_iadd hx hb dX7_move_36 ?_
          refine gx_as (y := nI ((8 * m8) + i)) (nI_add _ _) ?_
          refine lv_iload_n hx hb dX7_move_37 rfl (lv_at hl 1 rfl) ?_
          refine gx_iastn hx hb hK hS 54 (by omega) (by decide) ((8 * m8) + i) (by omega) (hln _) dX7_move_38 (fun H locs hS => ?_)
          obtain ⟨iv3, eiv3⟩ : ∃ z, z = up2 iv2 54 ((8 * m8) + i) (nI i) := ⟨_, rfl⟩
          rw [← eiv3] at hS
          refine lv_aload_n hx hb dX7_move_39 rfl (lv_at hl 0 rfl) ?_
          refine gx_get (ci := 10) (v := .ref (ad 55)) (C := RX7) (T := TX7) (N := 23) hx hb hts (fun _ h => inX7_move_RX7 h) hown hK hS 53 (by omega) rfl rfl 5 (by decide) (hts (.fieldLink RX7 13 "CosetTablesModel" "add" "[I") (by decide +kernel)) rfl dX7_move_40 ?_
          refine lv_bipush (v := nI 8) hx hb dX7_move_43 (by decide) ?_
          refine lv_aload_n hx hb dX7_move_45 rfl (lv_at hl 0 rfl) ?_
          refine gx_get (ci := 10) (v := .int (iv3 53 3)) (C := RX7) (T := TX7) (N := 23) hx hb hts (fun _ h => inX7_move_RX7 h) hown hK hS 53 (by omega) rfl rfl 3 (by decide) (hts (.fieldLink RX7 61 "CosetTablesModel" "moves" "I") (by decide +kernel)) rfl dX7_move_46 ?_
          refine gx_as (y := nI m8) (by rw [eiv3, up2_row (by decide), o53, eiv1, up2_n (by decide)]; exact hm0) ?_
          refine lv_imul hx hb dX7_move_49 ?_
          refine gx_as (y := nI (8 * m8)) (pk_mul _ _) ?_
          refine lv_iload_n hx hb dX7_move_50 rfl (lv_at hl 1 rfl) ?_
          refine lv_iadd hx hb dX7_move_51 ?_
          refine gx_as (y := nI ((8 * m8) + i)) (nI_add _ _) ?_
          refine lv_iconst (v := nI 0) hx hb dX7_move_52 (by decide) ?_
          refine gx_iastn hx hb hK hS 55 (by omega) (by decide) ((8 * m8) + i) (by omega) (hln _) dX7_move_53 (fun H locs hS => ?_)
          obtain ⟨iv4, eiv4⟩ : ∃ z, z = up2 iv3 55 ((8 * m8) + i) (nI 0) := ⟨_, rfl⟩
          rw [← eiv4] at hS
          refine lv_iinc (v := nI (i + 1)) (lv' := [(1, .int (nI (i + 1))), (0, .ref (ad 53))]) hx hb dX7_move_54 hl (k := 1) rfl (nI_1 i) (by decide) rfl (fun ls hl => ?_)
          refine lv_goto (tgt := 18) hx hb dX7_move_57 (by decide) ?_
          exact ih18 (i + 1) iv4 (by omega) (by omega) (fun j => by rw [eiv4, up2_row (by decide), eiv3, up2_eq]; by_cases e : j = 8 * m8 + i <;> first | (subst e; rw [if_pos ⟨rfl, rfl⟩, if_pos (by omega), show 8 * m8 + i - 8 * m8 = i by omega]; done) | (rw [if_neg (fun q => e q.2), h1 j]; by_cases e2 : 8 * m8 ≤ j ∧ j < 8 * m8 + i <;> first | (rw [if_pos e2, if_pos (by omega)]; done) | (rw [if_neg e2, if_neg (by omega)]; done))) (fun j => by rw [eiv4, up2_eq]; by_cases e : j = 8 * m8 + i <;> first | (subst e; rw [if_pos ⟨rfl, rfl⟩, if_pos (by omega)]; rfl) | (rw [if_neg (fun q => e q.2), eiv3, up2_row (by decide), h2 j]; by_cases e2 : 8 * m8 ≤ j ∧ j < 8 * m8 + i <;> first | (rw [if_pos e2, if_pos (by omega)]; done) | (rw [if_neg e2, if_neg (by omega)]; done))) (fun q x1 x2 => by rw [eiv4, up2_row x2, eiv3, up2_row x1, h3 q x1 x2]) _ _ _ hS (lv_sub hl [1, 0] rfl)
    exact L18 _ 0 iv1 (Nat.lt_succ_self _) (Nat.zero_le _) (fun j => by rw [if_neg (by omega), eiv1, up2_row (by decide)]) (fun j => by rw [if_neg (by omega), eiv1, up2_row (by decide)]) (fun _ _ _ => rfl) _ _ _ hS (lv_sub hl [1, 0] rfl)
  · skip
    rw [nI_eq (by omega) (by omega)] at c_11
    refine lv_iconst (v := (-1)) hx hb dX7_move_14 (by decide) ?_
    exact kret _ iv1 _ _ _ _ dX7_move_15 (by rw [if_pos c_11]; exact ⟨rfl, by rw [eiv1]; rfl⟩) hS
set_option maxRecDepth 100000 in
theorem ct_X7_move (l : Launch) (D : va_G) (cA : Nat → ClassId) (o : Nat → Int64) (ad ln : Nat → Nat) (n sz : Nat) (iv : Nat → Nat → Int32) (m8 : Nat) (hn : 68 ≤ n) (hln : ∀ k, ln k < 2 ^ 31) (hRn : rln ln) (hm0 : iv 53 3 = nI m8) (hm6 : m8 ≤ 6) : gMi l yX7_move wsX7_move { frames := 0, cells := 0, slots := 0, locals := 0 } D cA o ad ln n sz iv [.ref (ad 53)] (fun (r : Int32) iv' => if m8 = 6 then r = -1 ∧ iv' = up2 iv 53 0 0 else r = nI m8 ∧ (∀ j, iv' 53 j = if j = 0 then 0 else if j = 3 then nI (m8 + 1) else if j = 12 then 0 else iv 53 j) ∧ (∀ j, iv' 54 j = if 8 * m8 ≤ j ∧ j < 8 * m8 + 8 then nI (j - 8 * m8) else iv 54 j) ∧ (∀ j, iv' 55 j = if 8 * m8 ≤ j ∧ j < 8 * m8 + 8 then 0 else iv 55 j) ∧ ∀ q, q ≠ 53 → q ≠ 54 → q ≠ 55 → iv' q = iv q) := by
  refine Met.ofW (cc := cX7_move) (maxL := 2) (ret := (some .int)) (by decide) rfl ?_
  intro p e s m args below meth c s₁ B hml hv__
  obtain ⟨rfl, hv__⟩ := hv__
  obtain ⟨hsz, hS, hK, hN, hA⟩ := gS.entry hv__
  have hl := lv_entry ([.ref (ad 53)]) (n := 2) (Nat.le_of_ble_eq_true rfl)
  rw [lg_entry_eq]
  generalize (lg_sl ([.ref (ad 53)]) ++ List.replicate (2 - (lg_sl ([.ref (ad 53)])).length) Slot.unset).toArray = ls at hl ⊢
  exact bd_X7_move (m8 := m8) ⟨B.exec, B.bytes, hml, findClass_of_methodNamed B.named, atoms_spec (ws := wsX7_move) B.pre, B.returns, B.notSynchronized⟩ (Nat.le_refl _) (Nat.le_refl _) (Nat.le_refl _) (Nat.le_refl _) hK hN hA hn hln hRn hm0 hm6 hS hl (fun r iv' H locs ls pc hd hp hS => gx_iret B.exec B.bytes B.returns B.notSynchronized hS hp hd)

theorem inX7_exchange_RX7 : ∀ {w : Cond}, w ∈ u_ws RX7 TX7 23 → w ∈ wsX7_exchange := fun {w} h => by first | exact List.mem_cons_of_mem _ (List.mem_append_right _ h) | (revert h; revert w; show ∀ w ∈ u_ws RX7 TX7 23, w ∈ wsX7_exchange; decide +kernel)
set_option maxHeartbeats 1000000 in
set_option maxRecDepth 100000 in
theorem bd_X7_exchange {p : Program} {l : Launch} {e : Env} {R : Room} {s : State} {m : MethodId} {args : Array Value} {below : List Frame} {meth : Method} {c : Code} {H : Heap} {locs : List Loc} {cells slots : Nat} {Q : State → Prop} {ls : Array Slot} {D : va_G} {A : Nat → Prop} {H0 : Heap} {cA : Nat → ClassId} {o : Nat → Int64} {ad ln : Nat → Nat} {iv : Nat → Nat → Int32} {n : Nat} {m8 a b P mc9 : Nat}
    (F : gF p s m meth c cX7_exchange 6 RX7 wsX7_exchange args (some .boolean)) (hRf : 1 ≤ R.frames) (hRl : 22 ≤ R.locals) (hRc : cells ≤ R.cells) (hRs : slots ≤ R.slots) (hK : va_K D vwCl (gT cA) s) (hN : NW s) (hA : ∀ q, H0.size ≤ q → A q) (hn : 68 ≤ n) (hln : ∀ k, ln k < 2 ^ 31) (hRn : rln ln) (hm0 : iv 53 3 = nI mc9) (hm6 : mc9 ≤ 6) (hm9 : m8 < mc9) (hP0 : iv 53 1 = nI P) (hP : P ≤ 8) (ha : a < P) (hb9 : b < P)
    (hS : gS D cA A H0 o ad ln iv n H locs) (hl : lv_has ls 6 [(0, .ref (ad 53)), (1, .int (nI m8)), (2, .int (nI a)), (3, .int (nI b))])
    (kret : ∀ (r : Int32) (iv' : Nat → Nat → Int32) (H : Heap) (locs : List Loc) (ls : Array Slot) (pc : Nat), decode cX7_exchange pc = .ok (.ireturn, 1) → ((r = 0 ∨ r = 1) ∧ (if a = b then r = 0 ∧ iv' = up2 iv 53 0 0 else r = 1 ∧ (∀ j, iv' 53 j = if j = 0 then 0 else if j = 12 then 0 else iv 53 j) ∧ (∀ j, iv' 54 j = if j = 8 * m8 + b then iv 54 (8 * m8 + a) else if j = 8 * m8 + a then iv 54 (8 * m8 + b) else iv 54 j) ∧ (∀ j, iv' 55 j = if j = 8 * m8 + b then iv 55 (8 * m8 + a) else if j = 8 * m8 + a then iv 55 (8 * m8 + b) else iv 55 j) ∧ ∀ q, q ≠ 53 → q ≠ 54 → q ≠ 55 → iv' q = iv q)) → gS D cA A H0 o ad ln iv' n H locs → W p l e R s m args below meth c H locs cells slots Q (F0 m pc ls [.int r])) :
    W p l e R s m args below meth c H locs cells slots Q (F0 m 0 ls []) := by
  obtain ⟨hx, hb, hml, hown, hts, hr, hlocks⟩ := F
  have hRn9 := hRn
  obtain ⟨r54, r55, r56, r57, r58, r59, r60, r61, r62, r63, r64, r65, r66⟩ := hRn
  refine lv_aload_n hx hb dX7_exchange_0 rfl (lv_at hl 0 rfl) ?_
  refine lv_iconst (v := nI 1) hx hb dX7_exchange_1 (by decide) ?_
  refine lv_aload_n hx hb dX7_exchange_2 rfl (lv_at hl 0 rfl) ?_
  refine lv_iload_n hx hb dX7_exchange_3 rfl (lv_at hl 1 rfl) ?_
  refine gc_i (gx_runV (As := [.int (nI m8)]) (rest := [.int (nI 1), .ref (ad 53)]) ⟨hx, hb, hml, hown, hts⟩ hK hN hS 53 (by omega) rfl rfl (ct_X7_isMove l D cA o ad ln n H.size iv (x := nI m8) hn hln) (cwV 1 hts gX7_exchange_X7_isMove rfl rfl rfl (by decide +kernel) ⟨gle hRf rfl, gle hRl rfl⟩) rfl rfl hl.1 rfl (lv_room (Nat.le_of_ble_eq_true rfl)) dX7_exchange_4 ⟨hRc, hRs⟩) hS hA (fun y1 iv1 H locs hp1 hS => ?_)
  obtain ⟨_, h1, ev1⟩ := hp1
  rw [ev1] at hS
  skip
  refine lv_if_eq (tgt := 26) hx hb dX7_exchange_7 (by decide) (fun c_7 => ?_) (fun c_7 => ?_)
  · skip
    exact absurd (h1.mpr (by rw [hm0]; exact ok9_nI (by omega) (by omega))) (by rw [c_7]; decide)
  · skip
    refine lv_aload_n hx hb dX7_exchange_10 rfl (lv_at hl 0 rfl) ?_
    refine lv_iload_n hx hb dX7_exchange_11 rfl (lv_at hl 2 rfl) ?_
    refine gc_i (gx_runV (As := [.int (nI a)]) (rest := [.int (nI 1), .ref (ad 53)]) ⟨hx, hb, hml, hown, hts⟩ hK hN hS 53 (by omega) rfl rfl (ct_X7_isPlace l D cA o ad ln n H.size iv (x := nI a) hn hln) (cwV 1 hts gX7_exchange_X7_isPlace rfl rfl rfl (by decide +kernel) ⟨gle hRf rfl, gle hRl rfl⟩) rfl rfl hl.1 rfl (lv_room (Nat.le_of_ble_eq_true rfl)) dX7_exchange_12 ⟨hRc, hRs⟩) hS hA (fun y2 iv2 H locs hp2 hS => ?_)
    obtain ⟨_, h2, ev2⟩ := hp2
    rw [ev2] at hS
    skip
    refine lv_if_eq (tgt := 26) hx hb dX7_exchange_15 (by decide) (fun c_15 => ?_) (fun c_15 => ?_)
    · skip
      exact absurd (h2.mpr (by rw [hP0]; exact ok9_nI (by omega) (by omega))) (by rw [c_15]; decide)
    · skip
      refine lv_aload_n hx hb dX7_exchange_18 rfl (lv_at hl 0 rfl) ?_
      refine lv_iload_n hx hb dX7_exchange_19 rfl (lv_at hl 3 rfl) ?_
      refine gc_i (gx_runV (As := [.int (nI b)]) (rest := [.int (nI 1), .ref (ad 53)]) ⟨hx, hb, hml, hown, hts⟩ hK hN hS 53 (by omega) rfl rfl (ct_X7_isPlace l D cA o ad ln n H.size iv (x := nI b) hn hln) (cwV 1 hts gX7_exchange_X7_isPlace rfl rfl rfl (by decide +kernel) ⟨gle hRf rfl, gle hRl rfl⟩) rfl rfl hl.1 rfl (lv_room (Nat.le_of_ble_eq_true rfl)) dX7_exchange_20 ⟨hRc, hRs⟩) hS hA (fun y3 iv3 H locs hp3 hS => ?_)
      obtain ⟨_, h3, ev3⟩ := hp3
      rw [ev3] at hS
      skip
      refine lv_if_ne (tgt := 30) hx hb dX7_exchange_23 (by decide) (fun c_23 => ?_) (fun c_23 => ?_)
      · skip
        refine lv_iconst (v := nI 0) hx hb dX7_exchange_30 (by decide) ?_
        refine gc_i (gx_runV (As := [.int (nI 1), .int (nI 0)]) (rest := []) ⟨hx, hb, hml, hown, hts⟩ hK hN hS 53 (by omega) rfl rfl (ct_X7_throwsIf l D cA o ad ln n H.size iv (x := nI 1) (v := nI 0) hn hln (by first | exact Or.inl rfl | exact Or.inr rfl)) (cwV 2 hts gX7_exchange_X7_throwsIf rfl rfl rfl (by decide +kernel) ⟨gle hRf rfl, gle hRl rfl⟩) rfl rfl hl.1 rfl (lv_room (Nat.le_of_ble_eq_true rfl)) dX7_exchange_31 ⟨hRc, hRs⟩) hS hA (fun z iv4 H locs hp4 hS => ?_)
        obtain ⟨_, ez, et⟩ := hp4
        refine gx_as (y := nI 0) ez ?_
        refine lv_if_ne (tgt := 42) hx hb dX7_exchange_34 (by decide) (fun c_34 => ?_) (fun c_34 => ?_)
        · skip
          rw [show (0 : Int32) = nI 0 from rfl] at c_34
          rw [nI_eq (by omega) (by omega)] at c_34
          omega
        · skip
          rw [show (0 : Int32) = nI 0 from rfl] at c_34
          rw [nI_eq (by omega) (by omega)] at c_34
          have et : iv4 = up2 iv 53 0 0 := et
          refine lv_iload_n hx hb dX7_exchange_37 rfl (lv_at hl 2 rfl) ?_
          refine lv_iload_n hx hb dX7_exchange_38 rfl (lv_at hl 3 rfl) ?_
          refine lv_icmp_ne (tgt := 44) hx hb dX7_exchange_39 (by decide) (fun c_39 => ?_) (fun c_39 => ?_)
          · skip
            rw [nI_eq (by omega) (by omega)] at c_39
            refine lv_aload_n hx hb dX7_exchange_44 rfl (lv_at hl 0 rfl) ?_
            refine gx_get (ci := 10) (v := .ref (ad 54)) (C := RX7) (T := TX7) (N := 23) hx hb hts (fun _ h => inX7_exchange_RX7 h) hown hK hS 53 (by omega) rfl rfl 4 (by decide) (hts (.fieldLink RX7 7 "CosetTablesModel" "to" "[I") (by decide +kernel)) rfl dX7_exchange_45 ?_
            refine lv_bipush (v := nI 8) hx hb dX7_exchange_48 (by decide) ?_
            refine lv_iload_n hx hb dX7_exchange_50 rfl (lv_at hl 1 rfl) ?_
            refine lv_imul hx hb dX7_exchange_51 ?_
            refine gx_as (y := nI (8 * m8)) (pk_mul _ _) ?_
            refine lv_iload_n hx hb dX7_exchange_52 rfl (lv_at hl 2 rfl) ?_
            refine lv_iadd hx hb dX7_exchange_53 ?_
            refine gx_as (y := nI ((8 * m8) + a)) (nI_add _ _) ?_
            refine gx_ialdn hx hb hK hS 54 (by omega) (by decide) ((8 * m8) + a) (by omega) (hln _) dX7_exchange_54 ?_
            refine lv_topi (fun g1 eg1 => ?_)
            refine lv_istore (lv' := [(4, .int g1), (0, .ref (ad 53)), (1, .int (nI m8)), (2, .int (nI a)), (3, .int (nI b))]) hx hb dX7_exchange_55 hl (by decide) rfl (fun ls hl => ?_)
            refine lv_aload_n hx hb dX7_exchange_57 rfl (lv_at hl 1 rfl) ?_
            refine gx_get (ci := 10) (v := .ref (ad 55)) (C := RX7) (T := TX7) (N := 23) hx hb hts (fun _ h => inX7_exchange_RX7 h) hown hK hS 53 (by omega) rfl rfl 5 (by decide) (hts (.fieldLink RX7 13 "CosetTablesModel" "add" "[I") (by decide +kernel)) rfl dX7_exchange_58 ?_
            refine lv_bipush (v := nI 8) hx hb dX7_exchange_61 (by decide) ?_
            refine lv_iload_n hx hb dX7_exchange_63 rfl (lv_at hl 2 rfl) ?_
            refine lv_imul hx hb dX7_exchange_64 ?_
            refine gx_as (y := nI (8 * m8)) (pk_mul _ _) ?_
            refine lv_iload_n hx hb dX7_exchange_65 rfl (lv_at hl 3 rfl) ?_
            refine lv_iadd hx hb dX7_exchange_66 ?_
            refine gx_as (y := nI ((8 * m8) + a)) (nI_add _ _) ?_
            refine gx_ialdn hx hb hK hS 55 (by omega) (by decide) ((8 * m8) + a) (by omega) (hln _) dX7_exchange_67 ?_
            refine lv_topi (fun g2 eg2 => ?_)
            refine lv_istore (lv' := [(5, .int g2), (4, .int g1), (0, .ref (ad 53)), (1, .int (nI m8)), (2, .int (nI a)), (3, .int (nI b))]) hx hb dX7_exchange_68 hl (by decide) rfl (fun ls hl => ?_)
            refine lv_aload_n hx hb dX7_exchange_70 rfl (lv_at hl 2 rfl) ?_
            refine gx_get (ci := 10) (v := .ref (ad 54)) (C := RX7) (T := TX7) (N := 23) hx hb hts (fun _ h => inX7_exchange_RX7 h) hown hK hS 53 (by omega) rfl rfl 4 (by decide) (hts (.fieldLink RX7 7 "CosetTablesModel" "to" "[I") (by decide +kernel)) rfl dX7_exchange_71 ?_
            refine lv_bipush (v := nI 8) hx hb dX7_exchange_74 (by decide) ?_
            refine lv_iload_n hx hb dX7_exchange_76 rfl (lv_at hl 3 rfl) ?_
            refine lv_imul hx hb dX7_exchange_77 ?_
            refine gx_as (y := nI (8 * m8)) (pk_mul _ _) ?_
            refine lv_iload_n hx hb dX7_exchange_78 rfl (lv_at hl 4 rfl) ?_
            refine lv_iadd hx hb dX7_exchange_79 ?_
            refine gx_as (y := nI ((8 * m8) + a)) (nI_add _ _) ?_
            refine lv_aload_n hx hb dX7_exchange_80 rfl (lv_at hl 2 rfl) ?_
            refine gx_get (ci := 10) (v := .ref (ad 54)) (C := RX7) (T := TX7) (N := 23) hx hb hts (fun _ h => inX7_exchange_RX7 h) hown hK hS 53 (by omega) rfl rfl 4 (by decide) (hts (.fieldLink RX7 7 "CosetTablesModel" "to" "[I") (by decide +kernel)) rfl dX7_exchange_81 ?_
            refine lv_bipush (v := nI 8) hx hb dX7_exchange_84 (by decide) ?_
            refine lv_iload_n hx hb dX7_exchange_86 rfl (lv_at hl 3 rfl) ?_
            refine lv_imul hx hb dX7_exchange_87 ?_
            refine gx_as (y := nI (8 * m8)) (pk_mul _ _) ?_
            refine lv_iload_n hx hb dX7_exchange_88 rfl (lv_at hl 5 rfl) ?_
            refine lv_iadd hx hb dX7_exchange_89 ?_
            refine gx_as (y := nI ((8 * m8) + b)) (nI_add _ _) ?_
            refine gx_ialdn hx hb hK hS 54 (by omega) (by decide) ((8 * m8) + b) (by omega) (hln _) dX7_exchange_90 ?_
            refine lv_topi (fun g3 eg3 => ?_)
            refine gx_iastn hx hb hK hS 54 (by omega) (by decide) ((8 * m8) + a) (by omega) (hln _) dX7_exchange_91 (fun H locs hS => ?_)
            obtain ⟨iv5, eiv5⟩ : ∃ z, z = up2 iv4 54 ((8 * m8) + a) (g3) := ⟨_, rfl⟩
            rw [← eiv5] at hS
            refine lv_aload_n hx hb dX7_exchange_92 rfl (lv_at hl 2 rfl) ?_
            refine gx_get (ci := 10) (v := .ref (ad 55)) (C := RX7) (T := TX7) (N := 23) hx hb hts (fun _ h => inX7_exchange_RX7 h) hown hK hS 53 (by omega) rfl rfl 5 (by decide) (hts (.fieldLink RX7 13 "CosetTablesModel" "add" "[I") (by decide +kernel)) rfl dX7_exchange_93 ?_
            refine lv_bipush (v := nI 8) hx hb dX7_exchange_96 (by decide) ?_
            refine lv_iload_n hx hb dX7_exchange_98 rfl (lv_at hl 3 rfl) ?_
            refine lv_imul hx hb dX7_exchange_99 ?_
            refine gx_as (y := nI (8 * m8)) (pk_mul _ _) ?_
            refine lv_iload_n hx hb dX7_exchange_100 rfl (lv_at hl 4 rfl) ?_
            refine lv_iadd hx hb dX7_exchange_101 ?_
            refine gx_as (y := nI ((8 * m8) + a)) (nI_add _ _) ?_
            refine lv_aload_n hx hb dX7_exchange_102 rfl (lv_at hl 2 rfl) ?_
            refine gx_get (ci := 10) (v := .ref (ad 55)) (C := RX7) (T := TX7) (N := 23) hx hb hts (fun _ h => inX7_exchange_RX7 h) hown hK hS 53 (by omega) rfl rfl 5 (by decide) (hts (.fieldLink RX7 13 "CosetTablesModel" "add" "[I") (by decide +kernel)) rfl dX7_exchange_103 ?_
            refine lv_bipush (v := nI 8) hx hb dX7_exchange_106 (by decide) ?_
            refine lv_iload_n hx hb dX7_exchange_108 rfl (lv_at hl 3 rfl) ?_
            refine lv_imul hx hb dX7_exchange_109 ?_
            refine gx_as (y := nI (8 * m8)) (pk_mul _ _) ?_
            refine lv_iload_n hx hb dX7_exchange_110 rfl (lv_at hl 5 rfl) ?_
            refine lv_iadd hx hb dX7_exchange_111 ?_
            refine gx_as (y := nI ((8 * m8) + b)) (nI_add _ _) ?_
            refine gx_ialdn hx hb hK hS 55 (by omega) (by decide) ((8 * m8) + b) (by omega) (hln _) dX7_exchange_112 ?_
            refine lv_topi (fun g4 eg4 => ?_)
            refine gx_iastn hx hb hK hS 55 (by omega) (by decide) ((8 * m8) + a) (by omega) (hln _) dX7_exchange_113 (fun H locs hS => ?_)
            obtain ⟨iv6, eiv6⟩ : ∃ z, z = up2 iv5 55 ((8 * m8) + a) (g4) := ⟨_, rfl⟩
            rw [← eiv6] at hS
            refine lv_aload_n hx hb dX7_exchange_114 rfl (lv_at hl 2 rfl) ?_
            refine gx_get (ci := 10) (v := .ref (ad 54)) (C := RX7) (T := TX7) (N := 23) hx hb hts (fun _ h => inX7_exchange_RX7 h) hown hK hS 53 (by omega) rfl rfl 4 (by decide) (hts (.fieldLink RX7 7 "CosetTablesModel" "to" "[I") (by decide +kernel)) rfl dX7_exchange_115 ?_
            refine lv_bipush (v := nI 8) hx hb dX7_exchange_118 (by decide) ?_
            refine lv_iload_n hx hb dX7_exchange_120 rfl (lv_at hl 3 rfl) ?_
            refine lv_imul hx hb dX7_exchange_121 ?_
            refine gx_as (y := nI (8 * m8)) (pk_mul _ _) ?_
            refine lv_iload_n hx hb dX7_exchange_122 rfl (lv_at hl 5 rfl) ?_
            refine lv_iadd hx hb dX7_exchange_123 ?_
            refine gx_as (y := nI ((8 * m8) + b)) (nI_add _ _) ?_
            refine lv_iload hx hb dX7_exchange_124 (lv_at hl 1 rfl) ?_
            refine gx_iastn hx hb hK hS 54 (by omega) (by decide) ((8 * m8) + b) (by omega) (hln _) dX7_exchange_126 (fun H locs hS => ?_)
            obtain ⟨iv7, eiv7⟩ : ∃ z, z = up2 iv6 54 ((8 * m8) + b) (g1) := ⟨_, rfl⟩
            rw [← eiv7] at hS
            refine lv_aload_n hx hb dX7_exchange_127 rfl (lv_at hl 2 rfl) ?_
            refine gx_get (ci := 10) (v := .ref (ad 55)) (C := RX7) (T := TX7) (N := 23) hx hb hts (fun _ h => inX7_exchange_RX7 h) hown hK hS 53 (by omega) rfl rfl 5 (by decide) (hts (.fieldLink RX7 13 "CosetTablesModel" "add" "[I") (by decide +kernel)) rfl dX7_exchange_128 ?_
            refine lv_bipush (v := nI 8) hx hb dX7_exchange_131 (by decide) ?_
            refine lv_iload_n hx hb dX7_exchange_133 rfl (lv_at hl 3 rfl) ?_
            refine lv_imul hx hb dX7_exchange_134 ?_
            refine gx_as (y := nI (8 * m8)) (pk_mul _ _) ?_
            refine lv_iload_n hx hb dX7_exchange_135 rfl (lv_at hl 5 rfl) ?_
            refine lv_iadd hx hb dX7_exchange_136 ?_
            refine gx_as (y := nI ((8 * m8) + b)) (nI_add _ _) ?_
            refine lv_iload hx hb dX7_exchange_137 (lv_at hl 0 rfl) ?_
            refine gx_iastn hx hb hK hS 55 (by omega) (by decide) ((8 * m8) + b) (by omega) (hln _) dX7_exchange_139 (fun H locs hS => ?_)
            obtain ⟨iv8, eiv8⟩ : ∃ z, z = up2 iv7 55 ((8 * m8) + b) (g2) := ⟨_, rfl⟩
            rw [← eiv8] at hS
            refine lv_aload_n hx hb dX7_exchange_140 rfl (lv_at hl 2 rfl) ?_
            refine lv_iconst (v := nI 0) hx hb dX7_exchange_141 (by decide) ?_
            refine gx_put (ci := 10) (x := nI 0) (ty := .boolean) (C := RX7) (T := TX7) (N := 23) hx hb hts (fun _ h => inX7_exchange_RX7 h) tyX7 tyX7_ok nmX7 hown hK hS 53 (by omega) rfl rfl 12 (by decide) (hts (.fieldLink RX7 64 "CosetTablesModel" "isBuilt" "Z") (by decide +kernel)) rfl (by decide +kernel) (gx_nz (by first | exact Or.inl rfl | exact Or.inr rfl | assumption)) (gx_fz (by first | exact Or.inl rfl | exact Or.inr rfl | assumption)) (Nat.le_of_ble_eq_true rfl) rfl dX7_exchange_142 (fun H locs hS => ?_)
            obtain ⟨iv9, eiv9⟩ : ∃ z, z = up2 iv8 53 12 (nI 0) := ⟨_, rfl⟩
            rw [← eiv9] at hS
            refine lv_iconst (v := nI 1) hx hb dX7_exchange_145 (by decide) ?_
            exact kret _ iv9 _ _ _ _ dX7_exchange_146 (⟨Or.inr rfl, by
                  rw [if_neg c_39]
                  refine ⟨rfl, fun j => ?_, fun j => ?_, fun j => ?_, fun q x1 x2 x3 => by rw [eiv9, up2_row x1, eiv8, up2_row x3, eiv7, up2_row x2, eiv6, up2_row x3, eiv5, up2_row x2, et, up2_row x1]⟩
                  · rw [eiv9, up2_eq, eiv8, up2_row (by decide), eiv7, up2_row (by decide), eiv6, up2_row (by decide), eiv5, up2_row (by decide), et, up2_eq]
                    by_cases e0 : j = 0
                    · subst e0; rfl
                    by_cases e12 : j = 12
                    · subst e12; rfl
                    simp [e0, e12]
                  · rw [eiv9, up2_row (by decide), eiv8, up2_row (by decide), eiv7, up2_eq, eiv6, up2_row (by decide), eiv5, up2_eq, eg1, eg3, et, up2_row (by decide)]
                    simp
                  · rw [eiv9, up2_row (by decide), eiv8, up2_eq, eiv7, up2_row (by decide), eiv6, up2_eq, eiv5, up2_row (by decide), eg2, eg4, eiv5, up2_row (by decide), et, up2_row (by decide)]
                    simp⟩) hS
          · skip
            rw [nI_eq (by omega) (by omega)] at c_39
            refine lv_iconst (v := nI 0) hx hb dX7_exchange_42 (by decide) ?_
            exact kret _ iv4 _ _ _ _ dX7_exchange_43 (⟨Or.inl rfl, by rw [if_pos c_39]; exact ⟨rfl, et⟩⟩) hS
      · skip
        exact absurd (h3.mpr (by rw [hP0]; exact ok9_nI (by omega) (by omega))) (by rw [c_23]; decide)
set_option maxRecDepth 100000 in
theorem ct_X7_exchange (l : Launch) (D : va_G) (cA : Nat → ClassId) (o : Nat → Int64) (ad ln : Nat → Nat) (n sz : Nat) (iv : Nat → Nat → Int32) (m8 a b P mc9 : Nat) (hn : 68 ≤ n) (hln : ∀ k, ln k < 2 ^ 31) (hRn : rln ln) (hm0 : iv 53 3 = nI mc9) (hm6 : mc9 ≤ 6) (hm9 : m8 < mc9) (hP0 : iv 53 1 = nI P) (hP : P ≤ 8) (ha : a < P) (hb9 : b < P) : gMi l yX7_exchange wsX7_exchange { frames := 1, cells := 0, slots := 0, locals := 22 } D cA o ad ln n sz iv [.ref (ad 53), .int (nI m8), .int (nI a), .int (nI b)] (fun (r : Int32) iv' => (r = 0 ∨ r = 1) ∧ (if a = b then r = 0 ∧ iv' = up2 iv 53 0 0 else r = 1 ∧ (∀ j, iv' 53 j = if j = 0 then 0 else if j = 12 then 0 else iv 53 j) ∧ (∀ j, iv' 54 j = if j = 8 * m8 + b then iv 54 (8 * m8 + a) else if j = 8 * m8 + a then iv 54 (8 * m8 + b) else iv 54 j) ∧ (∀ j, iv' 55 j = if j = 8 * m8 + b then iv 55 (8 * m8 + a) else if j = 8 * m8 + a then iv 55 (8 * m8 + b) else iv 55 j) ∧ ∀ q, q ≠ 53 → q ≠ 54 → q ≠ 55 → iv' q = iv q)) := by
  refine Met.ofW (cc := cX7_exchange) (maxL := 6) (ret := (some .boolean)) (by decide) rfl ?_
  intro p e s m args below meth c s₁ B hml hv__
  obtain ⟨rfl, hv__⟩ := hv__
  obtain ⟨hsz, hS, hK, hN, hA⟩ := gS.entry hv__
  have hl := lv_entry ([.ref (ad 53), .int (nI m8), .int (nI a), .int (nI b)]) (n := 6) (Nat.le_of_ble_eq_true rfl)
  rw [lg_entry_eq]
  generalize (lg_sl ([.ref (ad 53), .int (nI m8), .int (nI a), .int (nI b)]) ++ List.replicate (6 - (lg_sl ([.ref (ad 53), .int (nI m8), .int (nI a), .int (nI b)])).length) Slot.unset).toArray = ls at hl ⊢
  exact bd_X7_exchange (m8 := m8) (a := a) (b := b) (P := P) (mc9 := mc9) ⟨B.exec, B.bytes, hml, findClass_of_methodNamed B.named, atoms_spec (ws := wsX7_exchange) B.pre, B.returns, B.notSynchronized⟩ (Nat.le_refl _) (Nat.le_refl _) (Nat.le_refl _) (Nat.le_refl _) hK hN hA hn hln hRn hm0 hm6 hm9 hP0 hP ha hb9 hS hl (fun r iv' H locs ls pc hd hp hS => gx_zret B.exec B.bytes B.returns B.notSynchronized (hp.1) hS hp hd)

set_option maxHeartbeats 1000000 in
set_option maxRecDepth 100000 in
theorem bd_X7_exchangeB {p : Program} {l : Launch} {e : Env} {R : Room} {s : State} {m : MethodId} {args : Array Value} {below : List Frame} {meth : Method} {c : Code} {H : Heap} {locs : List Loc} {cells slots : Nat} {Q : State → Prop} {ls : Array Slot} {D : va_G} {A : Nat → Prop} {H0 : Heap} {cA : Nat → ClassId} {o : Nat → Int64} {ad ln : Nat → Nat} {iv : Nat → Nat → Int32} {n : Nat} {x1 x2 x3 : Int32}
    (F : gF p s m meth c cX7_exchange 6 RX7 wsX7_exchange args (some .boolean)) (hRf : 1 ≤ R.frames) (hRl : 22 ≤ R.locals) (hRc : cells ≤ R.cells) (hRs : slots ≤ R.slots) (hK : va_K D vwCl (gT cA) s) (hN : NW s) (hA : ∀ q, H0.size ≤ q → A q) (hn : 68 ≤ n) (hln : ∀ k, ln k < 2 ^ 31) (hbad : ¬ (ok9 x1 (iv 53 3) ∧ ok9 x2 (iv 53 1) ∧ ok9 x3 (iv 53 1)))
    (hS : gS D cA A H0 o ad ln iv n H locs) (hl : lv_has ls 6 [(0, .ref (ad 53)), (1, .int x1), (2, .int x2), (3, .int x3)])
    (kret : ∀ (r : Int32) (iv' : Nat → Nat → Int32) (H : Heap) (locs : List Loc) (ls : Array Slot) (pc : Nat), decode cX7_exchange pc = .ok (.ireturn, 1) → ((r = 0 ∨ r = 1) ∧ r = 0 ∧ iv' = up2 iv 53 0 1) → gS D cA A H0 o ad ln iv' n H locs → W p l e R s m args below meth c H locs cells slots Q (F0 m pc ls [.int r])) :
    W p l e R s m args below meth c H locs cells slots Q (F0 m 0 ls []) := by
  obtain ⟨hx, hb, hml, hown, hts, hr, hlocks⟩ := F
  refine lv_aload_n hx hb dX7_exchange_0 rfl (lv_at hl 0 rfl) ?_
  refine lv_iconst (v := nI 1) hx hb dX7_exchange_1 (by decide) ?_
  refine lv_aload_n hx hb dX7_exchange_2 rfl (lv_at hl 0 rfl) ?_
  refine lv_iload_n hx hb dX7_exchange_3 rfl (lv_at hl 1 rfl) ?_
  refine gc_i (gx_runV (As := [.int x1]) (rest := [.int (nI 1), .ref (ad 53)]) ⟨hx, hb, hml, hown, hts⟩ hK hN hS 53 (by omega) rfl rfl (ct_X7_isMove l D cA o ad ln n H.size iv (x := x1) hn hln) (cwV 1 hts gX7_exchange_X7_isMove rfl rfl rfl (by decide +kernel) ⟨gle hRf rfl, gle hRl rfl⟩) rfl rfl hl.1 rfl (lv_room (Nat.le_of_ble_eq_true rfl)) dX7_exchange_4 ⟨hRc, hRs⟩) hS hA (fun y1 iv1 H locs hp1 hS => ?_)
  obtain ⟨h011, hi1, ev1⟩ := hp1
  rw [ev1] at hS
  skip
  refine lv_if_eq (tgt := 26) hx hb dX7_exchange_7 (by decide) (fun c_7 => ?_) (fun c_7 => ?_)
  · skip
    refine lv_iconst (v := nI 1) hx hb dX7_exchange_26 (by decide) ?_
    refine lv_goto (tgt := 31) hx hb dX7_exchange_27 (by decide) ?_
    refine gc_i (gx_runV (As := [.int (nI 1), .int (nI 1)]) (rest := []) ⟨hx, hb, hml, hown, hts⟩ hK hN hS 53 (by omega) rfl rfl (ct_X7_throwsIf l D cA o ad ln n H.size iv (x := nI 1) (v := nI 1) hn hln (Or.inr rfl)) (cwV 2 hts gX7_exchange_X7_throwsIf rfl rfl rfl (by decide +kernel) ⟨gle hRf rfl, gle hRl rfl⟩) rfl rfl hl.1 rfl (lv_room (Nat.le_of_ble_eq_true rfl)) dX7_exchange_31 ⟨hRc, hRs⟩) hS hA (fun z iv4 H locs hp4 hS => ?_)
    obtain ⟨_, ez, et⟩ := hp4
    have et : iv4 = up2 iv 53 0 1 := et
    refine gx_as (y := nI 1) ez ?_
    refine lv_if_ne (tgt := 42) hx hb dX7_exchange_34 (by decide) (fun c_34 => ?_) (fun c_34 => ?_)
    · skip
      rw [show (0 : Int32) = nI 0 from rfl] at c_34
      rw [nI_eq (by omega) (by omega)] at c_34
      refine lv_iconst (v := nI 0) hx hb dX7_exchange_42 (by decide) ?_
      exact kret _ iv4 _ _ _ _ dX7_exchange_43 (⟨Or.inl rfl, rfl, et⟩) hS
    · skip
      rw [show (0 : Int32) = nI 0 from rfl] at c_34
      rw [nI_eq (by omega) (by omega)] at c_34
      omega
  · skip
    refine lv_aload_n hx hb dX7_exchange_10 rfl (lv_at hl 0 rfl) ?_
    refine lv_iload_n hx hb dX7_exchange_11 rfl (lv_at hl 2 rfl) ?_
    refine gc_i (gx_runV (As := [.int x2]) (rest := [.int (nI 1), .ref (ad 53)]) ⟨hx, hb, hml, hown, hts⟩ hK hN hS 53 (by omega) rfl rfl (ct_X7_isPlace l D cA o ad ln n H.size iv (x := x2) hn hln) (cwV 1 hts gX7_exchange_X7_isPlace rfl rfl rfl (by decide +kernel) ⟨gle hRf rfl, gle hRl rfl⟩) rfl rfl hl.1 rfl (lv_room (Nat.le_of_ble_eq_true rfl)) dX7_exchange_12 ⟨hRc, hRs⟩) hS hA (fun y2 iv2 H locs hp2 hS => ?_)
    obtain ⟨h012, hi2, ev2⟩ := hp2
    rw [ev2] at hS
    skip
    refine lv_if_eq (tgt := 26) hx hb dX7_exchange_15 (by decide) (fun c_15 => ?_) (fun c_15 => ?_)
    · skip
      refine lv_iconst (v := nI 1) hx hb dX7_exchange_26 (by decide) ?_
      refine lv_goto (tgt := 31) hx hb dX7_exchange_27 (by decide) ?_
      refine gc_i (gx_runV (As := [.int (nI 1), .int (nI 1)]) (rest := []) ⟨hx, hb, hml, hown, hts⟩ hK hN hS 53 (by omega) rfl rfl (ct_X7_throwsIf l D cA o ad ln n H.size iv (x := nI 1) (v := nI 1) hn hln (Or.inr rfl)) (cwV 2 hts gX7_exchange_X7_throwsIf rfl rfl rfl (by decide +kernel) ⟨gle hRf rfl, gle hRl rfl⟩) rfl rfl hl.1 rfl (lv_room (Nat.le_of_ble_eq_true rfl)) dX7_exchange_31 ⟨hRc, hRs⟩) hS hA (fun z iv4 H locs hp4 hS => ?_)
      obtain ⟨_, ez, et⟩ := hp4
      have et : iv4 = up2 iv 53 0 1 := et
      refine gx_as (y := nI 1) ez ?_
      refine lv_if_ne (tgt := 42) hx hb dX7_exchange_34 (by decide) (fun c_34 => ?_) (fun c_34 => ?_)
      · skip
        rw [show (0 : Int32) = nI 0 from rfl] at c_34
        rw [nI_eq (by omega) (by omega)] at c_34
        refine lv_iconst (v := nI 0) hx hb dX7_exchange_42 (by decide) ?_
        exact kret _ iv4 _ _ _ _ dX7_exchange_43 (⟨Or.inl rfl, rfl, et⟩) hS
      · skip
        rw [show (0 : Int32) = nI 0 from rfl] at c_34
        rw [nI_eq (by omega) (by omega)] at c_34
        omega
    · skip
      refine lv_aload_n hx hb dX7_exchange_18 rfl (lv_at hl 0 rfl) ?_
      refine lv_iload_n hx hb dX7_exchange_19 rfl (lv_at hl 3 rfl) ?_
      refine gc_i (gx_runV (As := [.int x3]) (rest := [.int (nI 1), .ref (ad 53)]) ⟨hx, hb, hml, hown, hts⟩ hK hN hS 53 (by omega) rfl rfl (ct_X7_isPlace l D cA o ad ln n H.size iv (x := x3) hn hln) (cwV 1 hts gX7_exchange_X7_isPlace rfl rfl rfl (by decide +kernel) ⟨gle hRf rfl, gle hRl rfl⟩) rfl rfl hl.1 rfl (lv_room (Nat.le_of_ble_eq_true rfl)) dX7_exchange_20 ⟨hRc, hRs⟩) hS hA (fun y3 iv3 H locs hp3 hS => ?_)
      obtain ⟨h013, hi3, ev3⟩ := hp3
      rw [ev3] at hS
      skip
      refine lv_if_ne (tgt := 30) hx hb dX7_exchange_23 (by decide) (fun c_23 => ?_) (fun c_23 => ?_)
      · skip
        exact absurd ⟨(hi1.mp (h011.resolve_left c_7)), (hi2.mp (h012.resolve_left c_15)), (hi3.mp (h013.resolve_left c_23))⟩ hbad
      · skip
        refine lv_iconst (v := nI 1) hx hb dX7_exchange_26 (by decide) ?_
        refine lv_goto (tgt := 31) hx hb dX7_exchange_27 (by decide) ?_
        refine gc_i (gx_runV (As := [.int (nI 1), .int (nI 1)]) (rest := []) ⟨hx, hb, hml, hown, hts⟩ hK hN hS 53 (by omega) rfl rfl (ct_X7_throwsIf l D cA o ad ln n H.size iv (x := nI 1) (v := nI 1) hn hln (Or.inr rfl)) (cwV 2 hts gX7_exchange_X7_throwsIf rfl rfl rfl (by decide +kernel) ⟨gle hRf rfl, gle hRl rfl⟩) rfl rfl hl.1 rfl (lv_room (Nat.le_of_ble_eq_true rfl)) dX7_exchange_31 ⟨hRc, hRs⟩) hS hA (fun z iv4 H locs hp4 hS => ?_)
        obtain ⟨_, ez, et⟩ := hp4
        have et : iv4 = up2 iv 53 0 1 := et
        refine gx_as (y := nI 1) ez ?_
        refine lv_if_ne (tgt := 42) hx hb dX7_exchange_34 (by decide) (fun c_34 => ?_) (fun c_34 => ?_)
        · skip
          rw [show (0 : Int32) = nI 0 from rfl] at c_34
          rw [nI_eq (by omega) (by omega)] at c_34
          refine lv_iconst (v := nI 0) hx hb dX7_exchange_42 (by decide) ?_
          exact kret _ iv4 _ _ _ _ dX7_exchange_43 (⟨Or.inl rfl, rfl, et⟩) hS
        · skip
          rw [show (0 : Int32) = nI 0 from rfl] at c_34
          rw [nI_eq (by omega) (by omega)] at c_34
          omega
set_option maxRecDepth 100000 in
theorem ct_X7_exchangeB (l : Launch) (D : va_G) (cA : Nat → ClassId) (o : Nat → Int64) (ad ln : Nat → Nat) (n sz : Nat) (iv : Nat → Nat → Int32) (x1 x2 x3 : Int32) (hn : 68 ≤ n) (hln : ∀ k, ln k < 2 ^ 31) (hbad : ¬ (ok9 x1 (iv 53 3) ∧ ok9 x2 (iv 53 1) ∧ ok9 x3 (iv 53 1))) : gMi l yX7_exchange wsX7_exchange { frames := 1, cells := 0, slots := 0, locals := 22 } D cA o ad ln n sz iv [.ref (ad 53), .int x1, .int x2, .int x3] (fun (r : Int32) iv' => (r = 0 ∨ r = 1) ∧ r = 0 ∧ iv' = up2 iv 53 0 1) := by
  refine Met.ofW (cc := cX7_exchange) (maxL := 6) (ret := (some .boolean)) (by decide) rfl ?_
  intro p e s m args below meth c s₁ B hml hv__
  obtain ⟨rfl, hv__⟩ := hv__
  obtain ⟨hsz, hS, hK, hN, hA⟩ := gS.entry hv__
  have hl := lv_entry ([.ref (ad 53), .int x1, .int x2, .int x3]) (n := 6) (Nat.le_of_ble_eq_true rfl)
  rw [lg_entry_eq]
  generalize (lg_sl ([.ref (ad 53), .int x1, .int x2, .int x3]) ++ List.replicate (6 - (lg_sl ([.ref (ad 53), .int x1, .int x2, .int x3])).length) Slot.unset).toArray = ls at hl ⊢
  exact bd_X7_exchangeB (x1 := x1) (x2 := x2) (x3 := x3) ⟨B.exec, B.bytes, hml, findClass_of_methodNamed B.named, atoms_spec (ws := wsX7_exchange) B.pre, B.returns, B.notSynchronized⟩ (Nat.le_refl _) (Nat.le_refl _) (Nat.le_refl _) (Nat.le_refl _) hK hN hA hn hln hbad hS hl (fun r iv' H locs ls pc hd hp hS => gx_zret B.exec B.bytes B.returns B.notSynchronized (hp.1) hS hp hd)

theorem inX7_adds_RX7 : ∀ {w : Cond}, w ∈ u_ws RX7 TX7 23 → w ∈ wsX7_adds := fun {w} h => by first | exact List.mem_cons_of_mem _ (List.mem_append_right _ h) | (revert h; revert w; show ∀ w ∈ u_ws RX7 TX7 23, w ∈ wsX7_adds; decide +kernel)
set_option maxHeartbeats 1000000 in
set_option maxRecDepth 100000 in
theorem bd_X7_adds {p : Program} {l : Launch} {e : Env} {R : Room} {s : State} {m : MethodId} {args : Array Value} {below : List Frame} {meth : Method} {c : Code} {H : Heap} {locs : List Loc} {cells slots : Nat} {Q : State → Prop} {ls : Array Slot} {D : va_G} {A : Nat → Prop} {H0 : Heap} {cA : Nat → ClassId} {o : Nat → Int64} {ad ln : Nat → Nat} {iv : Nat → Nat → Int32} {n : Nat} {m8 a b P T mc9 : Nat}
    (F : gF p s m meth c cX7_adds 4 RX7 wsX7_adds args (some .boolean)) (hRf : 1 ≤ R.frames) (hRl : 22 ≤ R.locals) (hRc : cells ≤ R.cells) (hRs : slots ≤ R.slots) (hK : va_K D vwCl (gT cA) s) (hN : NW s) (hA : ∀ q, H0.size ≤ q → A q) (hn : 68 ≤ n) (hln : ∀ k, ln k < 2 ^ 31) (hRn : rln ln) (hm0 : iv 53 3 = nI mc9) (hm6 : mc9 ≤ 6) (hm9 : m8 < mc9) (hP0 : iv 53 1 = nI P) (hP : P ≤ 8) (ha : a < P) (hT : iv 53 2 = nI T) (hT3 : T ≤ 3) (hb9 : b < T)
    (hS : gS D cA A H0 o ad ln iv n H locs) (hl : lv_has ls 4 [(0, .ref (ad 53)), (1, .int (nI m8)), (2, .int (nI a)), (3, .int (nI b))])
    (kret : ∀ (r : Int32) (iv' : Nat → Nat → Int32) (H : Heap) (locs : List Loc) (ls : Array Slot) (pc : Nat), decode cX7_adds pc = .ok (.ireturn, 1) → ((r = 0 ∨ r = 1) ∧ (if iv 55 (8 * m8 + a) = nI b then r = 0 ∧ iv' = up2 iv 53 0 0 else r = 1 ∧ iv' = up2 (up2 (up2 iv 53 0 0) 55 (8 * m8 + a) (nI b)) 53 12 0)) → gS D cA A H0 o ad ln iv' n H locs → W p l e R s m args below meth c H locs cells slots Q (F0 m pc ls [.int r])) :
    W p l e R s m args below meth c H locs cells slots Q (F0 m 0 ls []) := by
  obtain ⟨hx, hb, hml, hown, hts, hr, hlocks⟩ := F
  have hRn9 := hRn
  obtain ⟨r54, r55, r56, r57, r58, r59, r60, r61, r62, r63, r64, r65, r66⟩ := hRn
  refine lv_aload_n hx hb dX7_adds_0 rfl (lv_at hl 0 rfl) ?_
  refine lv_iconst (v := nI 1) hx hb dX7_adds_1 (by decide) ?_
  refine lv_aload_n hx hb dX7_adds_2 rfl (lv_at hl 0 rfl) ?_
  refine lv_iload_n hx hb dX7_adds_3 rfl (lv_at hl 1 rfl) ?_
  refine gc_i (gx_runV (As := [.int (nI m8)]) (rest := [.int (nI 1), .ref (ad 53)]) ⟨hx, hb, hml, hown, hts⟩ hK hN hS 53 (by omega) rfl rfl (ct_X7_isMove l D cA o ad ln n H.size iv (x := nI m8) hn hln) (cwV 1 hts gX7_adds_X7_isMove rfl rfl rfl (by decide +kernel) ⟨gle hRf rfl, gle hRl rfl⟩) rfl rfl hl.1 rfl (lv_room (Nat.le_of_ble_eq_true rfl)) dX7_adds_4 ⟨hRc, hRs⟩) hS hA (fun y1 iv1 H locs hp1 hS => ?_)
  obtain ⟨_, h1, ev1⟩ := hp1
  rw [ev1] at hS
  skip
  refine lv_if_eq (tgt := 18) hx hb dX7_adds_7 (by decide) (fun c_7 => ?_) (fun c_7 => ?_)
  · skip
    exact absurd (h1.mpr (by rw [hm0]; exact ok9_nI (by omega) (by omega))) (by rw [c_7]; decide)
  · skip
    refine lv_aload_n hx hb dX7_adds_10 rfl (lv_at hl 0 rfl) ?_
    refine lv_iload_n hx hb dX7_adds_11 rfl (lv_at hl 2 rfl) ?_
    refine gc_i (gx_runV (As := [.int (nI a)]) (rest := [.int (nI 1), .ref (ad 53)]) ⟨hx, hb, hml, hown, hts⟩ hK hN hS 53 (by omega) rfl rfl (ct_X7_isPlace l D cA o ad ln n H.size iv (x := nI a) hn hln) (cwV 1 hts gX7_adds_X7_isPlace rfl rfl rfl (by decide +kernel) ⟨gle hRf rfl, gle hRl rfl⟩) rfl rfl hl.1 rfl (lv_room (Nat.le_of_ble_eq_true rfl)) dX7_adds_12 ⟨hRc, hRs⟩) hS hA (fun y2 iv2 H locs hp2 hS => ?_)
    obtain ⟨_, h2, ev2⟩ := hp2
    rw [ev2] at hS
    skip
    refine lv_if_ne (tgt := 22) hx hb dX7_adds_15 (by decide) (fun c_15 => ?_) (fun c_15 => ?_)
    · skip
      refine lv_iconst (v := nI 0) hx hb dX7_adds_22 (by decide) ?_
      refine gc_i (gx_runV (As := [.int (nI 1), .int (nI 0)]) (rest := []) ⟨hx, hb, hml, hown, hts⟩ hK hN hS 53 (by omega) rfl rfl (ct_X7_throwsIf l D cA o ad ln n H.size iv (x := nI 1) (v := nI 0) hn hln (by first | exact Or.inl rfl | exact Or.inr rfl)) (cwV 2 hts gX7_adds_X7_throwsIf rfl rfl rfl (by decide +kernel) ⟨gle hRf rfl, gle hRl rfl⟩) rfl rfl hl.1 rfl (lv_room (Nat.le_of_ble_eq_true rfl)) dX7_adds_23 ⟨hRc, hRs⟩) hS hA (fun z iv4 H locs hp4 hS => ?_)
      obtain ⟨_, ez, et⟩ := hp4
      refine gx_as (y := nI 0) ez ?_
      refine lv_if_ne (tgt := 69) hx hb dX7_adds_26 (by decide) (fun c_26 => ?_) (fun c_26 => ?_)
      · skip
        rw [show (0 : Int32) = nI 0 from rfl] at c_26
        rw [nI_eq (by omega) (by omega)] at c_26
        omega
      · skip
        rw [show (0 : Int32) = nI 0 from rfl] at c_26
        rw [nI_eq (by omega) (by omega)] at c_26
        have et : iv4 = up2 iv 53 0 0 := et
        refine lv_aload_n hx hb dX7_adds_29 rfl (lv_at hl 0 rfl) ?_
        refine lv_iconst (v := nI 2) hx hb dX7_adds_30 (by decide) ?_
        refine lv_iload_n hx hb dX7_adds_31 rfl (lv_at hl 3 rfl) ?_
        refine lv_if_lt (tgt := 43) hx hb dX7_adds_32 (by decide) (fun c_32 => ?_) (fun c_32 => ?_)
        · skip
          rw [show (0 : Int32) = nI 0 from rfl] at c_32
          rw [nI_ltI (by omega) (by omega)] at c_32
          omega
        · skip
          rw [show (0 : Int32) = nI 0 from rfl] at c_32
          rw [nI_ltI (by omega) (by omega)] at c_32
          refine lv_iload_n hx hb dX7_adds_35 rfl (lv_at hl 3 rfl) ?_
          refine lv_aload_n hx hb dX7_adds_36 rfl (lv_at hl 0 rfl) ?_
          refine gx_get (ci := 10) (v := .int (iv4 53 2)) (C := RX7) (T := TX7) (N := 23) hx hb hts (fun _ h => inX7_adds_RX7 h) hown hK hS 53 (by omega) rfl rfl 2 (by decide) (hts (.fieldLink RX7 55 "CosetTablesModel" "twists" "I") (by decide +kernel)) rfl dX7_adds_37 ?_
          refine gx_as (y := nI T) (by rw [et, up2_n (by decide)]; exact hT) ?_
          refine lv_icmp_lt (tgt := 47) hx hb dX7_adds_40 (by decide) (fun c_40 => ?_) (fun c_40 => ?_)
          · skip
            rw [nI_ltI (by omega) (by omega)] at c_40
            refine lv_iconst (v := nI 0) hx hb dX7_adds_47 (by decide) ?_
            refine gc_i (gx_runV (As := [.int (nI 2), .int (nI 0)]) (rest := []) ⟨hx, hb, hml, hown, hts⟩ hK hN hS 53 (by omega) rfl rfl (ct_X7_throwsIf l D cA o ad ln n H.size iv4 (x := nI 2) (v := nI 0) hn hln (Or.inl rfl)) (cwV 2 hts gX7_adds_X7_throwsIf rfl rfl rfl (by decide +kernel) ⟨gle hRf rfl, gle hRl rfl⟩) rfl rfl hl.1 rfl (lv_room (Nat.le_of_ble_eq_true rfl)) dX7_adds_48 ⟨hRc, hRs⟩) hS hA (fun z2 iv5 H locs hp5 hS => ?_)
            obtain ⟨_, ez2, et2⟩ := hp5
            have et2 : iv5 = up2 iv 53 0 0 := by rw [et2, et, if_pos (show (nI 0 : Int32) = 0 from rfl), up2_up2]
            refine gx_as (y := nI 0) ez2 ?_
            refine lv_if_ne (tgt := 69) hx hb dX7_adds_51 (by decide) (fun c_51 => ?_) (fun c_51 => ?_)
            · skip
              rw [show (0 : Int32) = nI 0 from rfl] at c_51
              rw [nI_eq (by omega) (by omega)] at c_51
              omega
            · skip
              rw [show (0 : Int32) = nI 0 from rfl] at c_51
              rw [nI_eq (by omega) (by omega)] at c_51
              refine lv_aload_n hx hb dX7_adds_54 rfl (lv_at hl 0 rfl) ?_
              refine gx_get (ci := 10) (v := .ref (ad 55)) (C := RX7) (T := TX7) (N := 23) hx hb hts (fun _ h => inX7_adds_RX7 h) hown hK hS 53 (by omega) rfl rfl 5 (by decide) (hts (.fieldLink RX7 13 "CosetTablesModel" "add" "[I") (by decide +kernel)) rfl dX7_adds_55 ?_
              refine lv_bipush (v := nI 8) hx hb dX7_adds_58 (by decide) ?_
              refine lv_iload_n hx hb dX7_adds_60 rfl (lv_at hl 1 rfl) ?_
              refine lv_imul hx hb dX7_adds_61 ?_
              refine gx_as (y := nI (8 * m8)) (pk_mul _ _) ?_
              refine lv_iload_n hx hb dX7_adds_62 rfl (lv_at hl 2 rfl) ?_
              refine lv_iadd hx hb dX7_adds_63 ?_
              refine gx_as (y := nI ((8 * m8) + a)) (nI_add _ _) ?_
              refine gx_ialdn hx hb hK hS 55 (by omega) (by decide) ((8 * m8) + a) (by omega) (hln _) dX7_adds_64 ?_
              refine lv_topi (fun g1 eg1 => ?_)
              refine lv_iload_n hx hb dX7_adds_65 rfl (lv_at hl 3 rfl) ?_
              refine lv_icmp_ne (tgt := 71) hx hb dX7_adds_66 (by decide) (fun c_66 => ?_) (fun c_66 => ?_)
              · skip
                refine lv_aload_n hx hb dX7_adds_71 rfl (lv_at hl 0 rfl) ?_
                refine gx_get (ci := 10) (v := .ref (ad 55)) (C := RX7) (T := TX7) (N := 23) hx hb hts (fun _ h => inX7_adds_RX7 h) hown hK hS 53 (by omega) rfl rfl 5 (by decide) (hts (.fieldLink RX7 13 "CosetTablesModel" "add" "[I") (by decide +kernel)) rfl dX7_adds_72 ?_
                refine lv_bipush (v := nI 8) hx hb dX7_adds_75 (by decide) ?_
                refine lv_iload_n hx hb dX7_adds_77 rfl (lv_at hl 1 rfl) ?_
                refine lv_imul hx hb dX7_adds_78 ?_
                refine gx_as (y := nI (8 * m8)) (pk_mul _ _) ?_
                refine lv_iload_n hx hb dX7_adds_79 rfl (lv_at hl 2 rfl) ?_
                refine lv_iadd hx hb dX7_adds_80 ?_
                refine gx_as (y := nI ((8 * m8) + a)) (nI_add _ _) ?_
                refine lv_iload_n hx hb dX7_adds_81 rfl (lv_at hl 3 rfl) ?_
                refine gx_iastn hx hb hK hS 55 (by omega) (by decide) ((8 * m8) + a) (by omega) (hln _) dX7_adds_82 (fun H locs hS => ?_)
                obtain ⟨iv6, eiv6⟩ : ∃ z, z = up2 iv5 55 ((8 * m8) + a) (nI b) := ⟨_, rfl⟩
                rw [← eiv6] at hS
                refine lv_aload_n hx hb dX7_adds_83 rfl (lv_at hl 0 rfl) ?_
                refine lv_iconst (v := nI 0) hx hb dX7_adds_84 (by decide) ?_
                refine gx_put (ci := 10) (x := nI 0) (ty := .boolean) (C := RX7) (T := TX7) (N := 23) hx hb hts (fun _ h => inX7_adds_RX7 h) tyX7 tyX7_ok nmX7 hown hK hS 53 (by omega) rfl rfl 12 (by decide) (hts (.fieldLink RX7 64 "CosetTablesModel" "isBuilt" "Z") (by decide +kernel)) rfl (by decide +kernel) (gx_nz (by first | exact Or.inl rfl | exact Or.inr rfl | assumption)) (gx_fz (by first | exact Or.inl rfl | exact Or.inr rfl | assumption)) (Nat.le_of_ble_eq_true rfl) rfl dX7_adds_85 (fun H locs hS => ?_)
                obtain ⟨iv7, eiv7⟩ : ∃ z, z = up2 iv6 53 12 (nI 0) := ⟨_, rfl⟩
                rw [← eiv7] at hS
                refine lv_iconst (v := nI 1) hx hb dX7_adds_88 (by decide) ?_
                exact kret _ iv7 _ _ _ _ dX7_adds_89 (⟨Or.inr rfl, by rw [if_neg (fun q => c_66 (by rw [eg1, et2, up2_row (by decide), q]))]; exact ⟨rfl, by rw [eiv7, eiv6, et2]; rfl⟩⟩) hS
              · skip
                refine lv_iconst (v := nI 0) hx hb dX7_adds_69 (by decide) ?_
                exact kret _ iv5 _ _ _ _ dX7_adds_70 (⟨Or.inl rfl, by rw [if_pos (by rw [← c_66, eg1, et2, up2_row (by decide)])]; exact ⟨rfl, et2⟩⟩) hS
          · skip
            rw [nI_ltI (by omega) (by omega)] at c_40
            omega
    · skip
      exact absurd (h2.mpr (by rw [hP0]; exact ok9_nI (by omega) (by omega))) (by rw [c_15]; decide)
set_option maxRecDepth 100000 in
theorem ct_X7_adds (l : Launch) (D : va_G) (cA : Nat → ClassId) (o : Nat → Int64) (ad ln : Nat → Nat) (n sz : Nat) (iv : Nat → Nat → Int32) (m8 a b P T mc9 : Nat) (hn : 68 ≤ n) (hln : ∀ k, ln k < 2 ^ 31) (hRn : rln ln) (hm0 : iv 53 3 = nI mc9) (hm6 : mc9 ≤ 6) (hm9 : m8 < mc9) (hP0 : iv 53 1 = nI P) (hP : P ≤ 8) (ha : a < P) (hT : iv 53 2 = nI T) (hT3 : T ≤ 3) (hb9 : b < T) : gMi l yX7_adds wsX7_adds { frames := 1, cells := 0, slots := 0, locals := 22 } D cA o ad ln n sz iv [.ref (ad 53), .int (nI m8), .int (nI a), .int (nI b)] (fun (r : Int32) iv' => (r = 0 ∨ r = 1) ∧ (if iv 55 (8 * m8 + a) = nI b then r = 0 ∧ iv' = up2 iv 53 0 0 else r = 1 ∧ iv' = up2 (up2 (up2 iv 53 0 0) 55 (8 * m8 + a) (nI b)) 53 12 0)) := by
  refine Met.ofW (cc := cX7_adds) (maxL := 4) (ret := (some .boolean)) (by decide) rfl ?_
  intro p e s m args below meth c s₁ B hml hv__
  obtain ⟨rfl, hv__⟩ := hv__
  obtain ⟨hsz, hS, hK, hN, hA⟩ := gS.entry hv__
  have hl := lv_entry ([.ref (ad 53), .int (nI m8), .int (nI a), .int (nI b)]) (n := 4) (Nat.le_of_ble_eq_true rfl)
  rw [lg_entry_eq]
  generalize (lg_sl ([.ref (ad 53), .int (nI m8), .int (nI a), .int (nI b)]) ++ List.replicate (4 - (lg_sl ([.ref (ad 53), .int (nI m8), .int (nI a), .int (nI b)])).length) Slot.unset).toArray = ls at hl ⊢
  exact bd_X7_adds (m8 := m8) (a := a) (b := b) (P := P) (T := T) (mc9 := mc9) ⟨B.exec, B.bytes, hml, findClass_of_methodNamed B.named, atoms_spec (ws := wsX7_adds) B.pre, B.returns, B.notSynchronized⟩ (Nat.le_refl _) (Nat.le_refl _) (Nat.le_refl _) (Nat.le_refl _) hK hN hA hn hln hRn hm0 hm6 hm9 hP0 hP ha hT hT3 hb9 hS hl (fun r iv' H locs ls pc hd hp hS => gx_zret B.exec B.bytes B.returns B.notSynchronized (hp.1) hS hp hd)

set_option maxHeartbeats 1000000 in
set_option maxRecDepth 100000 in
theorem bd_X7_addsB {p : Program} {l : Launch} {e : Env} {R : Room} {s : State} {m : MethodId} {args : Array Value} {below : List Frame} {meth : Method} {c : Code} {H : Heap} {locs : List Loc} {cells slots : Nat} {Q : State → Prop} {ls : Array Slot} {D : va_G} {A : Nat → Prop} {H0 : Heap} {cA : Nat → ClassId} {o : Nat → Int64} {ad ln : Nat → Nat} {iv : Nat → Nat → Int32} {n : Nat} {x1 x2 x3 : Int32}
    (F : gF p s m meth c cX7_adds 4 RX7 wsX7_adds args (some .boolean)) (hRf : 1 ≤ R.frames) (hRl : 22 ≤ R.locals) (hRc : cells ≤ R.cells) (hRs : slots ≤ R.slots) (hK : va_K D vwCl (gT cA) s) (hN : NW s) (hA : ∀ q, H0.size ≤ q → A q) (hn : 68 ≤ n) (hln : ∀ k, ln k < 2 ^ 31) (hbad : ¬ (ok9 x1 (iv 53 3) ∧ ok9 x2 (iv 53 1)))
    (hS : gS D cA A H0 o ad ln iv n H locs) (hl : lv_has ls 4 [(0, .ref (ad 53)), (1, .int x1), (2, .int x2), (3, .int x3)])
    (kret : ∀ (r : Int32) (iv' : Nat → Nat → Int32) (H : Heap) (locs : List Loc) (ls : Array Slot) (pc : Nat), decode cX7_adds pc = .ok (.ireturn, 1) → ((r = 0 ∨ r = 1) ∧ r = 0 ∧ iv' = up2 iv 53 0 1) → gS D cA A H0 o ad ln iv' n H locs → W p l e R s m args below meth c H locs cells slots Q (F0 m pc ls [.int r])) :
    W p l e R s m args below meth c H locs cells slots Q (F0 m 0 ls []) := by
  obtain ⟨hx, hb, hml, hown, hts, hr, hlocks⟩ := F
  refine lv_aload_n hx hb dX7_adds_0 rfl (lv_at hl 0 rfl) ?_
  refine lv_iconst (v := nI 1) hx hb dX7_adds_1 (by decide) ?_
  refine lv_aload_n hx hb dX7_adds_2 rfl (lv_at hl 0 rfl) ?_
  refine lv_iload_n hx hb dX7_adds_3 rfl (lv_at hl 1 rfl) ?_
  refine gc_i (gx_runV (As := [.int x1]) (rest := [.int (nI 1), .ref (ad 53)]) ⟨hx, hb, hml, hown, hts⟩ hK hN hS 53 (by omega) rfl rfl (ct_X7_isMove l D cA o ad ln n H.size iv (x := x1) hn hln) (cwV 1 hts gX7_adds_X7_isMove rfl rfl rfl (by decide +kernel) ⟨gle hRf rfl, gle hRl rfl⟩) rfl rfl hl.1 rfl (lv_room (Nat.le_of_ble_eq_true rfl)) dX7_adds_4 ⟨hRc, hRs⟩) hS hA (fun y1 iv1 H locs hp1 hS => ?_)
  obtain ⟨h011, hi1, ev1⟩ := hp1
  rw [ev1] at hS
  skip
  refine lv_if_eq (tgt := 18) hx hb dX7_adds_7 (by decide) (fun c_7 => ?_) (fun c_7 => ?_)
  · skip
    refine lv_iconst (v := nI 1) hx hb dX7_adds_18 (by decide) ?_
    refine lv_goto (tgt := 23) hx hb dX7_adds_19 (by decide) ?_
    refine gc_i (gx_runV (As := [.int (nI 1), .int (nI 1)]) (rest := []) ⟨hx, hb, hml, hown, hts⟩ hK hN hS 53 (by omega) rfl rfl (ct_X7_throwsIf l D cA o ad ln n H.size iv (x := nI 1) (v := nI 1) hn hln (Or.inr rfl)) (cwV 2 hts gX7_adds_X7_throwsIf rfl rfl rfl (by decide +kernel) ⟨gle hRf rfl, gle hRl rfl⟩) rfl rfl hl.1 rfl (lv_room (Nat.le_of_ble_eq_true rfl)) dX7_adds_23 ⟨hRc, hRs⟩) hS hA (fun z iv4 H locs hp4 hS => ?_)
    obtain ⟨_, ez, et⟩ := hp4
    have et : iv4 = up2 iv 53 0 1 := et
    refine gx_as (y := nI 1) ez ?_
    refine lv_if_ne (tgt := 69) hx hb dX7_adds_26 (by decide) (fun c_26 => ?_) (fun c_26 => ?_)
    · skip
      rw [show (0 : Int32) = nI 0 from rfl] at c_26
      rw [nI_eq (by omega) (by omega)] at c_26
      refine lv_iconst (v := nI 0) hx hb dX7_adds_69 (by decide) ?_
      exact kret _ iv4 _ _ _ _ dX7_adds_70 (⟨Or.inl rfl, rfl, et⟩) hS
    · skip
      rw [show (0 : Int32) = nI 0 from rfl] at c_26
      rw [nI_eq (by omega) (by omega)] at c_26
      omega
  · skip
    refine lv_aload_n hx hb dX7_adds_10 rfl (lv_at hl 0 rfl) ?_
    refine lv_iload_n hx hb dX7_adds_11 rfl (lv_at hl 2 rfl) ?_
    refine gc_i (gx_runV (As := [.int x2]) (rest := [.int (nI 1), .ref (ad 53)]) ⟨hx, hb, hml, hown, hts⟩ hK hN hS 53 (by omega) rfl rfl (ct_X7_isPlace l D cA o ad ln n H.size iv (x := x2) hn hln) (cwV 1 hts gX7_adds_X7_isPlace rfl rfl rfl (by decide +kernel) ⟨gle hRf rfl, gle hRl rfl⟩) rfl rfl hl.1 rfl (lv_room (Nat.le_of_ble_eq_true rfl)) dX7_adds_12 ⟨hRc, hRs⟩) hS hA (fun y2 iv2 H locs hp2 hS => ?_)
    obtain ⟨h012, hi2, ev2⟩ := hp2
    rw [ev2] at hS
    skip
    refine lv_if_ne (tgt := 22) hx hb dX7_adds_15 (by decide) (fun c_15 => ?_) (fun c_15 => ?_)
    · skip
      exact absurd ⟨(hi1.mp (h011.resolve_left c_7)), (hi2.mp (h012.resolve_left c_15))⟩ hbad
    · skip
      refine lv_iconst (v := nI 1) hx hb dX7_adds_18 (by decide) ?_
      refine lv_goto (tgt := 23) hx hb dX7_adds_19 (by decide) ?_
      refine gc_i (gx_runV (As := [.int (nI 1), .int (nI 1)]) (rest := []) ⟨hx, hb, hml, hown, hts⟩ hK hN hS 53 (by omega) rfl rfl (ct_X7_throwsIf l D cA o ad ln n H.size iv (x := nI 1) (v := nI 1) hn hln (Or.inr rfl)) (cwV 2 hts gX7_adds_X7_throwsIf rfl rfl rfl (by decide +kernel) ⟨gle hRf rfl, gle hRl rfl⟩) rfl rfl hl.1 rfl (lv_room (Nat.le_of_ble_eq_true rfl)) dX7_adds_23 ⟨hRc, hRs⟩) hS hA (fun z iv4 H locs hp4 hS => ?_)
      obtain ⟨_, ez, et⟩ := hp4
      have et : iv4 = up2 iv 53 0 1 := et
      refine gx_as (y := nI 1) ez ?_
      refine lv_if_ne (tgt := 69) hx hb dX7_adds_26 (by decide) (fun c_26 => ?_) (fun c_26 => ?_)
      · skip
        rw [show (0 : Int32) = nI 0 from rfl] at c_26
        rw [nI_eq (by omega) (by omega)] at c_26
        refine lv_iconst (v := nI 0) hx hb dX7_adds_69 (by decide) ?_
        exact kret _ iv4 _ _ _ _ dX7_adds_70 (⟨Or.inl rfl, rfl, et⟩) hS
      · skip
        rw [show (0 : Int32) = nI 0 from rfl] at c_26
        rw [nI_eq (by omega) (by omega)] at c_26
        omega
set_option maxRecDepth 100000 in
theorem ct_X7_addsB (l : Launch) (D : va_G) (cA : Nat → ClassId) (o : Nat → Int64) (ad ln : Nat → Nat) (n sz : Nat) (iv : Nat → Nat → Int32) (x1 x2 x3 : Int32) (hn : 68 ≤ n) (hln : ∀ k, ln k < 2 ^ 31) (hbad : ¬ (ok9 x1 (iv 53 3) ∧ ok9 x2 (iv 53 1))) : gMi l yX7_adds wsX7_adds { frames := 1, cells := 0, slots := 0, locals := 22 } D cA o ad ln n sz iv [.ref (ad 53), .int x1, .int x2, .int x3] (fun (r : Int32) iv' => (r = 0 ∨ r = 1) ∧ r = 0 ∧ iv' = up2 iv 53 0 1) := by
  refine Met.ofW (cc := cX7_adds) (maxL := 4) (ret := (some .boolean)) (by decide) rfl ?_
  intro p e s m args below meth c s₁ B hml hv__
  obtain ⟨rfl, hv__⟩ := hv__
  obtain ⟨hsz, hS, hK, hN, hA⟩ := gS.entry hv__
  have hl := lv_entry ([.ref (ad 53), .int x1, .int x2, .int x3]) (n := 4) (Nat.le_of_ble_eq_true rfl)
  rw [lg_entry_eq]
  generalize (lg_sl ([.ref (ad 53), .int x1, .int x2, .int x3]) ++ List.replicate (4 - (lg_sl ([.ref (ad 53), .int x1, .int x2, .int x3])).length) Slot.unset).toArray = ls at hl ⊢
  exact bd_X7_addsB (x1 := x1) (x2 := x2) (x3 := x3) ⟨B.exec, B.bytes, hml, findClass_of_methodNamed B.named, atoms_spec (ws := wsX7_adds) B.pre, B.returns, B.notSynchronized⟩ (Nat.le_refl _) (Nat.le_refl _) (Nat.le_refl _) (Nat.le_refl _) hK hN hA hn hln hbad hS hl (fun r iv' H locs ls pc hd hp hS => gx_zret B.exec B.bytes B.returns B.notSynchronized (hp.1) hS hp hd)

set_option maxHeartbeats 1000000 in
set_option maxRecDepth 100000 in
theorem bd_X7_addsC {p : Program} {l : Launch} {e : Env} {R : Room} {s : State} {m : MethodId} {args : Array Value} {below : List Frame} {meth : Method} {c : Code} {H : Heap} {locs : List Loc} {cells slots : Nat} {Q : State → Prop} {ls : Array Slot} {D : va_G} {A : Nat → Prop} {H0 : Heap} {cA : Nat → ClassId} {o : Nat → Int64} {ad ln : Nat → Nat} {iv : Nat → Nat → Int32} {n : Nat} {m8 a P T mc9 : Nat} {x3 : Int32}
    (F : gF p s m meth c cX7_adds 4 RX7 wsX7_adds args (some .boolean)) (hRf : 1 ≤ R.frames) (hRl : 22 ≤ R.locals) (hRc : cells ≤ R.cells) (hRs : slots ≤ R.slots) (hK : va_K D vwCl (gT cA) s) (hN : NW s) (hA : ∀ q, H0.size ≤ q → A q) (hn : 68 ≤ n) (hln : ∀ k, ln k < 2 ^ 31) (hm0 : iv 53 3 = nI mc9) (hm6 : mc9 ≤ 6) (hm9 : m8 < mc9) (hP0 : iv 53 1 = nI P) (hP : P ≤ 8) (ha : a < P) (hT : iv 53 2 = nI T) (hbad : ¬ ok9 x3 (nI T))
    (hS : gS D cA A H0 o ad ln iv n H locs) (hl : lv_has ls 4 [(0, .ref (ad 53)), (1, .int (nI m8)), (2, .int (nI a)), (3, .int x3)])
    (kret : ∀ (r : Int32) (iv' : Nat → Nat → Int32) (H : Heap) (locs : List Loc) (ls : Array Slot) (pc : Nat), decode cX7_adds pc = .ok (.ireturn, 1) → ((r = 0 ∨ r = 1) ∧ r = 0 ∧ iv' = up2 iv 53 0 (nI 2)) → gS D cA A H0 o ad ln iv' n H locs → W p l e R s m args below meth c H locs cells slots Q (F0 m pc ls [.int r])) :
    W p l e R s m args below meth c H locs cells slots Q (F0 m 0 ls []) := by
  obtain ⟨hx, hb, hml, hown, hts, hr, hlocks⟩ := F
  refine lv_aload_n hx hb dX7_adds_0 rfl (lv_at hl 0 rfl) ?_
  refine lv_iconst (v := nI 1) hx hb dX7_adds_1 (by decide) ?_
  refine lv_aload_n hx hb dX7_adds_2 rfl (lv_at hl 0 rfl) ?_
  refine lv_iload_n hx hb dX7_adds_3 rfl (lv_at hl 1 rfl) ?_
  refine gc_i (gx_runV (As := [.int (nI m8)]) (rest := [.int (nI 1), .ref (ad 53)]) ⟨hx, hb, hml, hown, hts⟩ hK hN hS 53 (by omega) rfl rfl (ct_X7_isMove l D cA o ad ln n H.size iv (x := nI m8) hn hln) (cwV 1 hts gX7_adds_X7_isMove rfl rfl rfl (by decide +kernel) ⟨gle hRf rfl, gle hRl rfl⟩) rfl rfl hl.1 rfl (lv_room (Nat.le_of_ble_eq_true rfl)) dX7_adds_4 ⟨hRc, hRs⟩) hS hA (fun y1 iv1 H locs hp1 hS => ?_)
  obtain ⟨_, h1, ev1⟩ := hp1
  rw [ev1] at hS
  skip
  refine lv_if_eq (tgt := 18) hx hb dX7_adds_7 (by decide) (fun c_7 => ?_) (fun c_7 => ?_)
  · skip
    exact absurd (h1.mpr (by rw [hm0]; exact ok9_nI (by omega) (by omega))) (by rw [c_7]; decide)
  · skip
    refine lv_aload_n hx hb dX7_adds_10 rfl (lv_at hl 0 rfl) ?_
    refine lv_iload_n hx hb dX7_adds_11 rfl (lv_at hl 2 rfl) ?_
    refine gc_i (gx_runV (As := [.int (nI a)]) (rest := [.int (nI 1), .ref (ad 53)]) ⟨hx, hb, hml, hown, hts⟩ hK hN hS 53 (by omega) rfl rfl (ct_X7_isPlace l D cA o ad ln n H.size iv (x := nI a) hn hln) (cwV 1 hts gX7_adds_X7_isPlace rfl rfl rfl (by decide +kernel) ⟨gle hRf rfl, gle hRl rfl⟩) rfl rfl hl.1 rfl (lv_room (Nat.le_of_ble_eq_true rfl)) dX7_adds_12 ⟨hRc, hRs⟩) hS hA (fun y2 iv2 H locs hp2 hS => ?_)
    obtain ⟨_, h2, ev2⟩ := hp2
    rw [ev2] at hS
    skip
    refine lv_if_ne (tgt := 22) hx hb dX7_adds_15 (by decide) (fun c_15 => ?_) (fun c_15 => ?_)
    · skip
      refine lv_iconst (v := nI 0) hx hb dX7_adds_22 (by decide) ?_
      refine gc_i (gx_runV (As := [.int (nI 1), .int (nI 0)]) (rest := []) ⟨hx, hb, hml, hown, hts⟩ hK hN hS 53 (by omega) rfl rfl (ct_X7_throwsIf l D cA o ad ln n H.size iv (x := nI 1) (v := nI 0) hn hln (by first | exact Or.inl rfl | exact Or.inr rfl)) (cwV 2 hts gX7_adds_X7_throwsIf rfl rfl rfl (by decide +kernel) ⟨gle hRf rfl, gle hRl rfl⟩) rfl rfl hl.1 rfl (lv_room (Nat.le_of_ble_eq_true rfl)) dX7_adds_23 ⟨hRc, hRs⟩) hS hA (fun z iv4 H locs hp4 hS => ?_)
      obtain ⟨_, ez, et⟩ := hp4
      refine gx_as (y := nI 0) ez ?_
      refine lv_if_ne (tgt := 69) hx hb dX7_adds_26 (by decide) (fun c_26 => ?_) (fun c_26 => ?_)
      · skip
        rw [show (0 : Int32) = nI 0 from rfl] at c_26
        rw [nI_eq (by omega) (by omega)] at c_26
        omega
      · skip
        rw [show (0 : Int32) = nI 0 from rfl] at c_26
        rw [nI_eq (by omega) (by omega)] at c_26
        have et : iv4 = up2 iv 53 0 0 := et
        refine lv_aload_n hx hb dX7_adds_29 rfl (lv_at hl 0 rfl) ?_
        refine lv_iconst (v := nI 2) hx hb dX7_adds_30 (by decide) ?_
        refine lv_iload_n hx hb dX7_adds_31 rfl (lv_at hl 3 rfl) ?_
        refine lv_if_lt (tgt := 43) hx hb dX7_adds_32 (by decide) (fun c_32 => ?_) (fun c_32 => ?_)
        · skip
          refine lv_iconst (v := nI 1) hx hb dX7_adds_43 (by decide) ?_
          refine lv_goto (tgt := 48) hx hb dX7_adds_44 (by decide) ?_
          refine gc_i (gx_runV (As := [.int (nI 2), .int (nI 1)]) (rest := []) ⟨hx, hb, hml, hown, hts⟩ hK hN hS 53 (by omega) rfl rfl (ct_X7_throwsIf l D cA o ad ln n H.size iv4 (x := nI 2) (v := nI 1) hn hln (Or.inr rfl)) (cwV 2 hts gX7_adds_X7_throwsIf rfl rfl rfl (by decide +kernel) ⟨gle hRf rfl, gle hRl rfl⟩) rfl rfl hl.1 rfl (lv_room (Nat.le_of_ble_eq_true rfl)) dX7_adds_48 ⟨hRc, hRs⟩) hS hA (fun z2 iv5 H locs hp5 hS => ?_)
          obtain ⟨_, ez2, et2⟩ := hp5
          have et2 : iv5 = up2 iv 53 0 (nI 2) := by rw [et2, et, if_neg (by decide), up2_up2]
          refine gx_as (y := nI 1) ez2 ?_
          refine lv_if_ne (tgt := 69) hx hb dX7_adds_51 (by decide) (fun c_51 => ?_) (fun c_51 => ?_)
          · skip
            rw [show (0 : Int32) = nI 0 from rfl] at c_51
            rw [nI_eq (by omega) (by omega)] at c_51
            refine lv_iconst (v := nI 0) hx hb dX7_adds_69 (by decide) ?_
            exact kret _ iv5 _ _ _ _ dX7_adds_70 (⟨Or.inl rfl, rfl, et2⟩) hS
          · skip
            rw [show (0 : Int32) = nI 0 from rfl] at c_51
            rw [nI_eq (by omega) (by omega)] at c_51
            omega
        · skip
          refine lv_iload_n hx hb dX7_adds_35 rfl (lv_at hl 3 rfl) ?_
          refine lv_aload_n hx hb dX7_adds_36 rfl (lv_at hl 0 rfl) ?_
          refine gx_get (ci := 10) (v := .int (iv4 53 2)) (C := RX7) (T := TX7) (N := 23) hx hb hts (fun _ h => inX7_adds_RX7 h) hown hK hS 53 (by omega) rfl rfl 2 (by decide) (hts (.fieldLink RX7 55 "CosetTablesModel" "twists" "I") (by decide +kernel)) rfl dX7_adds_37 ?_
          refine gx_as (y := nI T) (by rw [et, up2_n (by decide)]; exact hT) ?_
          refine lv_icmp_lt (tgt := 47) hx hb dX7_adds_40 (by decide) (fun c_40 => ?_) (fun c_40 => ?_)
          · skip
            exact absurd ⟨c_32, c_40⟩ hbad
          · skip
            refine lv_iconst (v := nI 1) hx hb dX7_adds_43 (by decide) ?_
            refine lv_goto (tgt := 48) hx hb dX7_adds_44 (by decide) ?_
            refine gc_i (gx_runV (As := [.int (nI 2), .int (nI 1)]) (rest := []) ⟨hx, hb, hml, hown, hts⟩ hK hN hS 53 (by omega) rfl rfl (ct_X7_throwsIf l D cA o ad ln n H.size iv4 (x := nI 2) (v := nI 1) hn hln (Or.inr rfl)) (cwV 2 hts gX7_adds_X7_throwsIf rfl rfl rfl (by decide +kernel) ⟨gle hRf rfl, gle hRl rfl⟩) rfl rfl hl.1 rfl (lv_room (Nat.le_of_ble_eq_true rfl)) dX7_adds_48 ⟨hRc, hRs⟩) hS hA (fun z2 iv5 H locs hp5 hS => ?_)
            obtain ⟨_, ez2, et2⟩ := hp5
            have et2 : iv5 = up2 iv 53 0 (nI 2) := by rw [et2, et, if_neg (by decide), up2_up2]
            refine gx_as (y := nI 1) ez2 ?_
            refine lv_if_ne (tgt := 69) hx hb dX7_adds_51 (by decide) (fun c_51 => ?_) (fun c_51 => ?_)
            · skip
              rw [show (0 : Int32) = nI 0 from rfl] at c_51
              rw [nI_eq (by omega) (by omega)] at c_51
              refine lv_iconst (v := nI 0) hx hb dX7_adds_69 (by decide) ?_
              exact kret _ iv5 _ _ _ _ dX7_adds_70 (⟨Or.inl rfl, rfl, et2⟩) hS
            · skip
              rw [show (0 : Int32) = nI 0 from rfl] at c_51
              rw [nI_eq (by omega) (by omega)] at c_51
              omega
    · skip
      exact absurd (h2.mpr (by rw [hP0]; exact ok9_nI (by omega) (by omega))) (by rw [c_15]; decide)
set_option maxRecDepth 100000 in
theorem ct_X7_addsC (l : Launch) (D : va_G) (cA : Nat → ClassId) (o : Nat → Int64) (ad ln : Nat → Nat) (n sz : Nat) (iv : Nat → Nat → Int32) (m8 a P T mc9 : Nat) (x3 : Int32) (hn : 68 ≤ n) (hln : ∀ k, ln k < 2 ^ 31) (hm0 : iv 53 3 = nI mc9) (hm6 : mc9 ≤ 6) (hm9 : m8 < mc9) (hP0 : iv 53 1 = nI P) (hP : P ≤ 8) (ha : a < P) (hT : iv 53 2 = nI T) (hbad : ¬ ok9 x3 (nI T)) : gMi l yX7_adds wsX7_adds { frames := 1, cells := 0, slots := 0, locals := 22 } D cA o ad ln n sz iv [.ref (ad 53), .int (nI m8), .int (nI a), .int x3] (fun (r : Int32) iv' => (r = 0 ∨ r = 1) ∧ r = 0 ∧ iv' = up2 iv 53 0 (nI 2)) := by
  refine Met.ofW (cc := cX7_adds) (maxL := 4) (ret := (some .boolean)) (by decide) rfl ?_
  intro p e s m args below meth c s₁ B hml hv__
  obtain ⟨rfl, hv__⟩ := hv__
  obtain ⟨hsz, hS, hK, hN, hA⟩ := gS.entry hv__
  have hl := lv_entry ([.ref (ad 53), .int (nI m8), .int (nI a), .int x3]) (n := 4) (Nat.le_of_ble_eq_true rfl)
  rw [lg_entry_eq]
  generalize (lg_sl ([.ref (ad 53), .int (nI m8), .int (nI a), .int x3]) ++ List.replicate (4 - (lg_sl ([.ref (ad 53), .int (nI m8), .int (nI a), .int x3])).length) Slot.unset).toArray = ls at hl ⊢
  exact bd_X7_addsC (m8 := m8) (a := a) (P := P) (T := T) (mc9 := mc9) (x3 := x3) ⟨B.exec, B.bytes, hml, findClass_of_methodNamed B.named, atoms_spec (ws := wsX7_adds) B.pre, B.returns, B.notSynchronized⟩ (Nat.le_refl _) (Nat.le_refl _) (Nat.le_refl _) (Nat.le_refl _) hK hN hA hn hln hm0 hm6 hm9 hP0 hP ha hT hbad hS hl (fun r iv' H locs ls pc hd hp hS => gx_zret B.exec B.bytes B.returns B.notSynchronized (hp.1) hS hp hd)

theorem inX7_countStates_RX7 : ∀ {w : Cond}, w ∈ u_ws RX7 TX7 23 → w ∈ wsX7_countStates := fun {w} h => by first | exact List.mem_cons_of_mem _ (List.mem_append_right _ h) | (revert h; revert w; show ∀ w ∈ u_ws RX7 TX7 23, w ∈ wsX7_countStates; decide +kernel)
set_option maxHeartbeats 1000000 in
set_option maxRecDepth 100000 in
theorem bd_X7_countStates {p : Program} {l : Launch} {e : Env} {R : Room} {s : State} {m : MethodId} {args : Array Value} {below : List Frame} {meth : Method} {c : Code} {H : Heap} {locs : List Loc} {cells slots : Nat} {Q : State → Prop} {ls : Array Slot} {D : va_G} {A : Nat → Prop} {H0 : Heap} {cA : Nat → ClassId} {o : Nat → Int64} {ad ln : Nat → Nat} {iv : Nat → Nat → Int32} {n : Nat} {P c9 T : Nat}
    (F : gF p s m meth c cX7_countStates 3 RX7 wsX7_countStates args (some .int)) (hRf : 0 ≤ R.frames) (hRl : 0 ≤ R.locals) (hRc : cells ≤ R.cells) (hRs : slots ≤ R.slots) (hK : va_K D vwCl (gT cA) s) (hN : NW s) (hA : ∀ q, H0.size ≤ q → A q) (hn : 68 ≤ n) (hln : ∀ k, ln k < 2 ^ 31) (hc9 : iv 53 7 = nI c9) (hc4 : c9 ≤ 4) (hT0 : iv 53 2 = nI T) (hT1 : 0 < T) (hT3 : T ≤ 3) (hP0 : iv 53 1 = nI P) (hP : P ≤ 8) (hcP : c9 ≤ P)
    (hS : gS D cA A H0 o ad ln iv n H locs) (hl : lv_has ls 3 [(0, .ref (ad 53))])
    (kret : ∀ (r : Int32) (iv' : Nat → Nat → Int32) (H : Heap) (locs : List Loc) (ls : Array Slot) (pc : Nat), decode cX7_countStates pc = .ok (.ireturn, 1) → (r = nI (ff P c9 * T ^ c9) ∧ iv' = iv) → gS D cA A H0 o ad ln iv' n H locs → W p l e R s m args below meth c H locs cells slots Q (F0 m pc ls [.int r])) :
    W p l e R s m args below meth c H locs cells slots Q (F0 m 0 ls []) := by
  obtain ⟨hx, hb, hml, hown, hts, hr, hlocks⟩ := F
  refine lv_iconst (v := nI 1) hx hb dX7_countStates_0 (by decide) ?_
  refine gx_as (y := nI (ff P 0 * T ^ 0)) (by rfl) ?_
  refine lv_istore_n (lv' := [(1, .int (nI (ff P 0 * T ^ 0))), (0, .ref (ad 53))]) hx hb dX7_countStates_1 rfl hl (by decide) rfl (fun ls hl => ?_)
  refine lv_iconst (v := nI 0) hx hb dX7_countStates_2 (by decide) ?_
  refine lv_istore_n (lv' := [(2, .int (nI 0)), (1, .int (nI (ff P 0 * T ^ 0))), (0, .ref (ad 53))]) hx hb dX7_countStates_3 rfl hl (by decide) rfl (fun ls hl => ?_)
  have L4 : ∀ (N : Nat) (k : Nat), c9 - k < N → (k ≤ c9) → ∀ (H : Heap) (locs : List Loc) (ls : Array Slot), gS D cA A H0 o ad ln iv n H locs → lv_has ls 3 [(0, .ref (ad 53)), (1, .int (nI (ff P k * T ^ k))), (2, .int (nI k))] → W p l e R s m args below meth c H locs cells slots Q (F0 m 4 ls []) := by
    intro N
    induction N with
    | zero => intro k hm; exact absurd hm (Nat.not_lt_zero _)
    | succ N ih4 =>
      intro k hm hk H locs ls hS hl
      refine lv_iload_n hx hb dX7_countStates_4 rfl (lv_at hl 2 rfl) ?_
      refine lv_aload_n hx hb dX7_countStates_5 rfl (lv_at hl 0 rfl) ?_
      refine gx_get (ci := 10) (v := .int (iv 53 7)) (C := RX7) (T := TX7) (N := 23) hx hb hts (fun _ h => inX7_countStates_RX7 h) hown hK hS 53 (by omega) rfl rfl 7 (by decide) (hts (.fieldLink RX7 83 "CosetTablesModel" "chosen" "I") (by decide +kernel)) rfl dX7_countStates_6 ?_
      refine gx_as (y := nI c9) hc9 ?_
      refine lv_icmp_ge (tgt := 32) hx hb dX7_countStates_9 (by decide) (fun c_9 => ?_) (fun c_9 => ?_)
      · skip
        rw [nI_leI (by omega) (by omega)] at c_9
        have ek : k = c9 := by omega
        subst ek
        refine lv_iload_n hx hb dX7_countStates_32 rfl (lv_at hl 1 rfl) ?_
        exact kret _ iv _ _ _ _ dX7_countStates_33 (⟨rfl, rfl⟩) hS
      · skip
        rw [nI_leI (by omega) (by omega)] at c_9
        refine lv_iload_n hx hb dX7_countStates_12 rfl (lv_at hl 1 rfl) ?_
        refine lv_aload_n hx hb dX7_countStates_13 rfl (lv_at hl 0 rfl) ?_
        refine gx_get (ci := 10) (v := .int (iv 53 1)) (C := RX7) (T := TX7) (N := 23) hx hb hts (fun _ h => inX7_countStates_RX7 h) hown hK hS 53 (by omega) rfl rfl 1 (by decide) (hts (.fieldLink RX7 51 "CosetTablesModel" "places" "I") (by decide +kernel)) rfl dX7_countStates_14 ?_
        refine gx_as (y := nI P) hP0 ?_
        refine lv_iload_n hx hb dX7_countStates_17 rfl (lv_at hl 2 rfl) ?_
        refine lv_isub hx hb dX7_countStates_18 ?_
        refine gx_as (y := nI (P - k)) (pk_sub (by omega)) ?_
        refine lv_aload_n hx hb dX7_countStates_19 rfl (lv_at hl 0 rfl) ?_
        refine gx_get (ci := 10) (v := .int (iv 53 2)) (C := RX7) (T := TX7) (N := 23) hx hb hts (fun _ h => inX7_countStates_RX7 h) hown hK hS 53 (by omega) rfl rfl 2 (by decide) (hts (.fieldLink RX7 55 "CosetTablesModel" "twists" "I") (by decide +kernel)) rfl dX7_countStates_20 ?_
        refine gx_as (y := nI T) hT0 ?_
        refine lv_imul hx hb dX7_countStates_23 ?_
        refine gx_as (y := nI ((P - k) * T)) (pk_mul _ _) ?_
        refine lv_imul hx hb dX7_countStates_24 ?_
        refine gx_as (y := nI ((ff P k * T ^ k) * ((P - k) * T))) (pk_mul _ _) ?_
        refine gx_as (y := nI (ff P (k + 1) * T ^ (k + 1))) (by congr 1; show _ = ff P k * (P - k) * (T ^ k * T); rw [Nat.mul_mul_mul_comm]) ?_
        refine lv_istore_n (lv' := [(1, .int (nI (ff P (k + 1) * T ^ (k + 1)))), (0, .ref (ad 53)), (2, .int (nI k))]) hx hb dX7_countStates_25 rfl hl (by decide) rfl (fun ls hl => ?_)
        refine lv_iinc (v := nI (k + 1)) (lv' := [(2, .int (nI (k + 1))), (1, .int (nI (ff P (k + 1) * T ^ (k + 1)))), (0, .ref (ad 53))]) hx hb dX7_countStates_26 hl (k := 2) rfl (nI_1 k) (by decide) rfl (fun ls hl => ?_)
        refine lv_goto (tgt := 4) hx hb dX7_countStates_29 (by decide) ?_
        exact ih4 (k + 1) (by omega) (by omega) _ _ _ hS (lv_sub hl [2, 1, 0] rfl)
  exact L4 _ 0 (Nat.lt_succ_self _) (Nat.zero_le _) _ _ _ hS (lv_sub hl [2, 1, 0] rfl)
set_option maxRecDepth 100000 in
theorem ct_X7_countStates (l : Launch) (D : va_G) (cA : Nat → ClassId) (o : Nat → Int64) (ad ln : Nat → Nat) (n sz : Nat) (iv : Nat → Nat → Int32) (P c9 T : Nat) (hn : 68 ≤ n) (hln : ∀ k, ln k < 2 ^ 31) (hc9 : iv 53 7 = nI c9) (hc4 : c9 ≤ 4) (hT0 : iv 53 2 = nI T) (hT1 : 0 < T) (hT3 : T ≤ 3) (hP0 : iv 53 1 = nI P) (hP : P ≤ 8) (hcP : c9 ≤ P) : gMi l yX7_countStates wsX7_countStates { frames := 0, cells := 0, slots := 0, locals := 0 } D cA o ad ln n sz iv [.ref (ad 53)] (fun (r : Int32) iv' => r = nI (ff P c9 * T ^ c9) ∧ iv' = iv) := by
  refine Met.ofW (cc := cX7_countStates) (maxL := 3) (ret := (some .int)) (by decide) rfl ?_
  intro p e s m args below meth c s₁ B hml hv__
  obtain ⟨rfl, hv__⟩ := hv__
  obtain ⟨hsz, hS, hK, hN, hA⟩ := gS.entry hv__
  have hl := lv_entry ([.ref (ad 53)]) (n := 3) (Nat.le_of_ble_eq_true rfl)
  rw [lg_entry_eq]
  generalize (lg_sl ([.ref (ad 53)]) ++ List.replicate (3 - (lg_sl ([.ref (ad 53)])).length) Slot.unset).toArray = ls at hl ⊢
  exact bd_X7_countStates (P := P) (c9 := c9) (T := T) ⟨B.exec, B.bytes, hml, findClass_of_methodNamed B.named, atoms_spec (ws := wsX7_countStates) B.pre, B.returns, B.notSynchronized⟩ (Nat.le_refl _) (Nat.le_refl _) (Nat.le_refl _) (Nat.le_refl _) hK hN hA hn hln hc9 hc4 hT0 hT1 hT3 hP0 hP hcP hS hl (fun r iv' H locs ls pc hd hp hS => gx_iret B.exec B.bytes B.returns B.notSynchronized hS hp hd)

theorem inX7_size_RX7 : ∀ {w : Cond}, w ∈ u_ws RX7 TX7 23 → w ∈ wsX7_size := fun {w} h => by first | exact List.mem_cons_of_mem _ (List.mem_append_right _ h) | (revert h; revert w; show ∀ w ∈ u_ws RX7 TX7 23, w ∈ wsX7_size; decide +kernel)
set_option maxHeartbeats 1000000 in
set_option maxRecDepth 100000 in
theorem bd_X7_size {p : Program} {l : Launch} {e : Env} {R : Room} {s : State} {m : MethodId} {args : Array Value} {below : List Frame} {meth : Method} {c : Code} {H : Heap} {locs : List Loc} {cells slots : Nat} {Q : State → Prop} {ls : Array Slot} {D : va_G} {A : Nat → Prop} {H0 : Heap} {cA : Nat → ClassId} {o : Nat → Int64} {ad ln : Nat → Nat} {iv : Nat → Nat → Int32} {n : Nat} {P c9 T : Nat}
    (F : gF p s m meth c cX7_size 1 RX7 wsX7_size args (some .int)) (hRf : 1 ≤ R.frames) (hRl : 22 ≤ R.locals) (hRc : cells ≤ R.cells) (hRs : slots ≤ R.slots) (hK : va_K D vwCl (gT cA) s) (hN : NW s) (hA : ∀ q, H0.size ≤ q → A q) (hn : 68 ≤ n) (hln : ∀ k, ln k < 2 ^ 31) (hc9 : iv 53 7 = nI c9) (hc4 : c9 ≤ 4) (hT0 : iv 53 2 = nI T) (hT1 : 0 < T) (hT3 : T ≤ 3) (hP0 : iv 53 1 = nI P) (hP : P ≤ 8) (hcP : c9 ≤ P)
    (hS : gS D cA A H0 o ad ln iv n H locs) (hl : lv_has ls 1 [(0, .ref (ad 53))])
    (kret : ∀ (r : Int32) (iv' : Nat → Nat → Int32) (H : Heap) (locs : List Loc) (ls : Array Slot) (pc : Nat), decode cX7_size pc = .ok (.ireturn, 1) → (r = nI (ff P c9 * T ^ c9) ∧ iv' = up2 iv 53 0 0) → gS D cA A H0 o ad ln iv' n H locs → W p l e R s m args below meth c H locs cells slots Q (F0 m pc ls [.int r])) :
    W p l e R s m args below meth c H locs cells slots Q (F0 m 0 ls []) := by
  obtain ⟨hx, hb, hml, hown, hts, hr, hlocks⟩ := F
  refine lv_aload_n hx hb dX7_size_0 rfl (lv_at hl 0 rfl) ?_
  refine lv_iconst (v := nI 0) hx hb dX7_size_1 (by decide) ?_
  refine gx_put (ci := 10) (x := nI 0) (ty := .int) (C := RX7) (T := TX7) (N := 23) hx hb hts (fun _ h => inX7_size_RX7 h) tyX7 tyX7_ok nmX7 hown hK hS 53 (by omega) rfl rfl 0 (by decide) (hts (.fieldLink RX7 58 "CosetTablesModel" "thrown" "I") (by decide +kernel)) rfl (by decide +kernel) rfl rfl (Nat.le_of_ble_eq_true rfl) rfl dX7_size_2 (fun H locs hS => ?_)
  obtain ⟨iv1, eiv1⟩ : ∃ z, z = up2 iv 53 0 (nI 0) := ⟨_, rfl⟩
  rw [← eiv1] at hS
  refine lv_aload_n hx hb dX7_size_5 rfl (lv_at hl 0 rfl) ?_
  refine gc_i (gx_runV (As := []) (rest := []) ⟨hx, hb, hml, hown, hts⟩ hK hN hS 53 (by omega) rfl rfl (ct_X7_countStates l D cA o ad ln n H.size iv1 (P := P) (c9 := c9) (T := T) hn hln (by rw [eiv1, up2_n (by decide)]; exact hc9) hc4 (by rw [eiv1, up2_n (by decide)]; exact hT0) hT1 hT3 (by rw [eiv1, up2_n (by decide)]; exact hP0) hP hcP) (cwV 0 hts gX7_size_X7_countStates rfl rfl rfl (by decide +kernel) ⟨gle hRf rfl, gle hRl rfl⟩) rfl rfl hl.1 rfl (lv_room (Nat.le_of_ble_eq_true rfl)) dX7_size_6 ⟨hRc, hRs⟩) hS hA (fun y iv2 H locs hp2 hS => ?_)
  obtain ⟨ey, ev2⟩ := hp2
  exact kret _ iv2 _ _ _ _ dX7_size_9 (⟨ey, by rw [ev2, eiv1]; rfl⟩) hS
set_option maxRecDepth 100000 in
theorem ct_X7_size (l : Launch) (D : va_G) (cA : Nat → ClassId) (o : Nat → Int64) (ad ln : Nat → Nat) (n sz : Nat) (iv : Nat → Nat → Int32) (P c9 T : Nat) (hn : 68 ≤ n) (hln : ∀ k, ln k < 2 ^ 31) (hc9 : iv 53 7 = nI c9) (hc4 : c9 ≤ 4) (hT0 : iv 53 2 = nI T) (hT1 : 0 < T) (hT3 : T ≤ 3) (hP0 : iv 53 1 = nI P) (hP : P ≤ 8) (hcP : c9 ≤ P) : gMi l yX7_size wsX7_size { frames := 1, cells := 0, slots := 0, locals := 22 } D cA o ad ln n sz iv [.ref (ad 53)] (fun (r : Int32) iv' => r = nI (ff P c9 * T ^ c9) ∧ iv' = up2 iv 53 0 0) := by
  refine Met.ofW (cc := cX7_size) (maxL := 1) (ret := (some .int)) (by decide) rfl ?_
  intro p e s m args below meth c s₁ B hml hv__
  obtain ⟨rfl, hv__⟩ := hv__
  obtain ⟨hsz, hS, hK, hN, hA⟩ := gS.entry hv__
  have hl := lv_entry ([.ref (ad 53)]) (n := 1) (Nat.le_of_ble_eq_true rfl)
  rw [lg_entry_eq]
  generalize (lg_sl ([.ref (ad 53)]) ++ List.replicate (1 - (lg_sl ([.ref (ad 53)])).length) Slot.unset).toArray = ls at hl ⊢
  exact bd_X7_size (P := P) (c9 := c9) (T := T) ⟨B.exec, B.bytes, hml, findClass_of_methodNamed B.named, atoms_spec (ws := wsX7_size) B.pre, B.returns, B.notSynchronized⟩ (Nat.le_refl _) (Nat.le_refl _) (Nat.le_refl _) (Nat.le_refl _) hK hN hA hn hln hc9 hc4 hT0 hT1 hT3 hP0 hP hcP hS hl (fun r iv' H locs ls pc hd hp hS => gx_iret B.exec B.bytes B.returns B.notSynchronized hS hp hd)

theorem inX7_isFree_RX7 : ∀ {w : Cond}, w ∈ u_ws RX7 TX7 23 → w ∈ wsX7_isFree := fun {w} h => by first | exact List.mem_cons_of_mem _ (List.mem_append_right _ h) | (revert h; revert w; show ∀ w ∈ u_ws RX7 TX7 23, w ∈ wsX7_isFree; decide +kernel)
set_option maxHeartbeats 1000000 in
set_option maxRecDepth 100000 in
theorem bd_X7_isFree {p : Program} {l : Launch} {e : Env} {R : Room} {s : State} {m : MethodId} {args : Array Value} {below : List Frame} {meth : Method} {c : Code} {H : Heap} {locs : List Loc} {cells slots : Nat} {Q : State → Prop} {ls : Array Slot} {D : va_G} {A : Nat → Prop} {H0 : Heap} {cA : Nat → ClassId} {o : Nat → Int64} {ad ln : Nat → Nat} {iv : Nat → Nat → Int32} {n : Nat} {p9 k : Nat} {w : Nat → Nat}
    (F : gF p s m meth c cX7_isFree 4 RX7 wsX7_isFree args (some .boolean)) (hRf : 0 ≤ R.frames) (hRl : 0 ≤ R.locals) (hRc : cells ≤ R.cells) (hRs : slots ≤ R.slots) (hK : va_K D vwCl (gT cA) s) (hN : NW s) (hA : ∀ q, H0.size ≤ q → A q) (hn : 68 ≤ n) (hln : ∀ k, ln k < 2 ^ 31) (hRn : rln ln) (hk : k ≤ 4) (hp9 : p9 < 2 ^ 31) (hw : ∀ i, i < k → iv 58 i = nI (w i) ∧ w i < 2 ^ 31)
    (hS : gS D cA A H0 o ad ln iv n H locs) (hl : lv_has ls 4 [(0, .ref (ad 53)), (1, .int (nI p9)), (2, .int (nI k))])
    (kret : ∀ (r : Int32) (iv' : Nat → Nat → Int32) (H : Heap) (locs : List Loc) (ls : Array Slot) (pc : Nat), decode cX7_isFree pc = .ok (.ireturn, 1) → ((r = 0 ∨ r = 1) ∧ (r = 1 ↔ fre w k p9 = true) ∧ iv' = iv) → gS D cA A H0 o ad ln iv' n H locs → W p l e R s m args below meth c H locs cells slots Q (F0 m pc ls [.int r])) :
    W p l e R s m args below meth c H locs cells slots Q (F0 m 0 ls []) := by
  obtain ⟨hx, hb, hml, hown, hts, hr, hlocks⟩ := F
  have hRn9 := hRn
  obtain ⟨r54, r55, r56, r57, r58, r59, r60, r61, r62, r63, r64, r65, r66⟩ := hRn
  refine lv_iconst (v := nI 0) hx hb dX7_isFree_0 (by decide) ?_
  refine lv_istore_n (lv' := [(3, .int (nI 0)), (0, .ref (ad 53)), (1, .int (nI p9)), (2, .int (nI k))]) hx hb dX7_isFree_1 rfl hl (by decide) rfl (fun ls hl => ?_)
  have L2 : ∀ (N : Nat) (j : Nat), k - j < N → (j ≤ k) → (∀ i, i < j → w i ≠ p9) → ∀ (H : Heap) (locs : List Loc) (ls : Array Slot), gS D cA A H0 o ad ln iv n H locs → lv_has ls 4 [(0, .ref (ad 53)), (1, .int (nI p9)), (2, .int (nI k)), (3, .int (nI j))] → W p l e R s m args below meth c H locs cells slots Q (F0 m 2 ls []) := by
    intro N
    induction N with
    | zero => intro j hm; exact absurd hm (Nat.not_lt_zero _)
    | succ N ih2 =>
      intro j hm hj h1 H locs ls hS hl
      refine lv_iload_n hx hb dX7_isFree_2 rfl (lv_at hl 3 rfl) ?_
      refine lv_iload_n hx hb dX7_isFree_3 rfl (lv_at hl 2 rfl) ?_
      refine lv_icmp_ge (tgt := 25) hx hb dX7_isFree_4 (by decide) (fun c_4 => ?_) (fun c_4 => ?_)
      · skip
        rw [nI_leI (by omega) (by omega)] at c_4
        have ej : j = k := by omega
        subst ej
        refine lv_iconst (v := nI 1) hx hb dX7_isFree_25 (by decide) ?_
        exact kret _ iv _ _ _ _ dX7_isFree_26 (⟨Or.inr rfl, ⟨fun _ => fre_iff.mpr h1, fun _ => rfl⟩, rfl⟩) hS
      · skip
        rw [nI_leI (by omega) (by omega)] at c_4
        have hw2 := (hw j (by omega)).2
        refine lv_aload_n hx hb dX7_isFree_7 rfl (lv_at hl 0 rfl) ?_
        refine gx_get (ci := 10) (v := .ref (ad 58)) (C := RX7) (T := TX7) (N := 23) hx hb hts (fun _ h => inX7_isFree_RX7 h) hown hK hS 53 (by omega) rfl rfl 9 (by decide) (hts (.fieldLink RX7 23 "CosetTablesModel" "where" "[I") (by decide +kernel)) rfl dX7_isFree_8 ?_
        refine lv_iload_n hx hb dX7_isFree_11 rfl (lv_at hl 3 rfl) ?_
        refine gx_ialdn hx hb hK hS 58 (by omega) (by decide) j (by omega) (hln _) dX7_isFree_12 ?_
        refine gx_as (y := nI (w j)) (hw j (by omega)).1 ?_
        refine lv_iload_n hx hb dX7_isFree_13 rfl (lv_at hl 1 rfl) ?_
        refine lv_icmp_ne (tgt := 19) hx hb dX7_isFree_14 (by decide) (fun c_14 => ?_) (fun c_14 => ?_)
        · skip
          rw [nI_eq (by omega) (by omega)] at c_14
          refine lv_iinc (v := nI (j + 1)) (lv' := [(3, .int (nI (j + 1))), (0, .ref (ad 53)), (1, .int (nI p9)), (2, .int (nI k))]) hx hb dX7_isFree_19 hl (k := 3) rfl (nI_1 j) (by decide) rfl (fun ls hl => ?_)
          refine lv_goto (tgt := 2) hx hb dX7_isFree_22 (by decide) ?_
          exact ih2 (j + 1) (by omega) (by omega) (fun i hi => by rcases Nat.lt_or_ge i j with q | q; exact h1 i q; have e : i = j := (by omega); rw [e]; exact c_14) _ _ _ hS (lv_sub hl [1, 2, 3, 0] rfl)
        · skip
          rw [nI_eq (by omega) (by omega)] at c_14
          refine lv_iconst (v := nI 0) hx hb dX7_isFree_17 (by decide) ?_
          exact kret _ iv _ _ _ _ dX7_isFree_18 (⟨Or.inl rfl, ⟨fun q => absurd q (by decide), fun q => absurd c_14 (fre_iff.mp q j (by omega))⟩, rfl⟩) hS
  exact L2 _ 0 (Nat.lt_succ_self _) (Nat.zero_le _) lt_0 _ _ _ hS (lv_sub hl [1, 2, 3, 0] rfl)
set_option maxRecDepth 100000 in
theorem ct_X7_isFree (l : Launch) (D : va_G) (cA : Nat → ClassId) (o : Nat → Int64) (ad ln : Nat → Nat) (n sz : Nat) (iv : Nat → Nat → Int32) (p9 k : Nat) (w : Nat → Nat) (hn : 68 ≤ n) (hln : ∀ k, ln k < 2 ^ 31) (hRn : rln ln) (hk : k ≤ 4) (hp9 : p9 < 2 ^ 31) (hw : ∀ i, i < k → iv 58 i = nI (w i) ∧ w i < 2 ^ 31) : gMi l yX7_isFree wsX7_isFree { frames := 0, cells := 0, slots := 0, locals := 0 } D cA o ad ln n sz iv [.ref (ad 53), .int (nI p9), .int (nI k)] (fun (r : Int32) iv' => (r = 0 ∨ r = 1) ∧ (r = 1 ↔ fre w k p9 = true) ∧ iv' = iv) := by
  refine Met.ofW (cc := cX7_isFree) (maxL := 4) (ret := (some .boolean)) (by decide) rfl ?_
  intro p e s m args below meth c s₁ B hml hv__
  obtain ⟨rfl, hv__⟩ := hv__
  obtain ⟨hsz, hS, hK, hN, hA⟩ := gS.entry hv__
  have hl := lv_entry ([.ref (ad 53), .int (nI p9), .int (nI k)]) (n := 4) (Nat.le_of_ble_eq_true rfl)
  rw [lg_entry_eq]
  generalize (lg_sl ([.ref (ad 53), .int (nI p9), .int (nI k)]) ++ List.replicate (4 - (lg_sl ([.ref (ad 53), .int (nI p9), .int (nI k)])).length) Slot.unset).toArray = ls at hl ⊢
  exact bd_X7_isFree (p9 := p9) (k := k) (w := w) ⟨B.exec, B.bytes, hml, findClass_of_methodNamed B.named, atoms_spec (ws := wsX7_isFree) B.pre, B.returns, B.notSynchronized⟩ (Nat.le_refl _) (Nat.le_refl _) (Nat.le_refl _) (Nat.le_refl _) hK hN hA hn hln hRn hk hp9 hw hS hl (fun r iv' H locs ls pc hd hp hS => gx_zret B.exec B.bytes B.returns B.notSynchronized (hp.1) hS hp hd)

theorem inX7_numberOf_RX7 : ∀ {w : Cond}, w ∈ u_ws RX7 TX7 23 → w ∈ wsX7_numberOf := fun {w} h => by first | exact List.mem_cons_of_mem _ (List.mem_append_right _ h) | (revert h; revert w; show ∀ w ∈ u_ws RX7 TX7 23, w ∈ wsX7_numberOf; decide +kernel)
set_option maxHeartbeats 1000000 in
set_option maxRecDepth 100000 in
theorem bd_X7_numberOf {p : Program} {l : Launch} {e : Env} {R : Room} {s : State} {m : MethodId} {args : Array Value} {below : List Frame} {meth : Method} {c : Code} {H : Heap} {locs : List Loc} {cells slots : Nat} {Q : State → Prop} {ls : Array Slot} {D : va_G} {A : Nat → Prop} {H0 : Heap} {cA : Nat → ClassId} {o : Nat → Int64} {ad ln : Nat → Nat} {iv : Nat → Nat → Int32} {n : Nat} {P c9 T : Nat} {w t : Nat → Nat}
    (F : gF p s m meth c cX7_numberOf 5 RX7 wsX7_numberOf args (some .int)) (hRf : 1 ≤ R.frames) (hRl : 23 ≤ R.locals) (hRc : cells ≤ R.cells) (hRs : slots ≤ R.slots) (hK : va_K D vwCl (gT cA) s) (hN : NW s) (hA : ∀ q, H0.size ≤ q → A q) (hn : 68 ≤ n) (hln : ∀ k, ln k < 2 ^ 31) (hRn : rln ln) (hc9 : iv 53 7 = nI c9) (hc4 : c9 ≤ 4) (hT0 : iv 53 2 = nI T) (hT1 : 0 < T) (hT3 : T ≤ 3) (hP0 : iv 53 1 = nI P) (hP : P ≤ 8) (hw : ∀ i, i < c9 → iv 58 i = nI (w i)) (ht : ∀ i, i < c9 → iv 59 i = nI (t i)) (hwi : inj w P c9) (htT : ∀ i, i < c9 → t i < T)
    (hS : gS D cA A H0 o ad ln iv n H locs) (hl : lv_has ls 5 [(0, .ref (ad 53))])
    (kret : ∀ (r : Int32) (iv' : Nat → Nat → Int32) (H : Heap) (locs : List Loc) (ls : Array Slot) (pc : Nat), decode cX7_numberOf pc = .ok (.ireturn, 1) → (r = nI (num P T c9 w t) ∧ iv' = iv) → gS D cA A H0 o ad ln iv' n H locs → W p l e R s m args below meth c H locs cells slots Q (F0 m pc ls [.int r])) :
    W p l e R s m args below meth c H locs cells slots Q (F0 m 0 ls []) := by
  obtain ⟨hx, hb, hml, hown, hts, hr, hlocks⟩ := F
  have hRn9 := hRn
  obtain ⟨r54, r55, r56, r57, r58, r59, r60, r61, r62, r63, r64, r65, r66⟩ := hRn
  have hff := ff_le4 hP hc4
  have hcP := inj_le_P hwi
  refine lv_iconst (v := nI 0) hx hb dX7_numberOf_0 (by decide) ?_
  refine lv_istore_n (lv' := [(1, .int (nI 0)), (0, .ref (ad 53))]) hx hb dX7_numberOf_1 rfl hl (by decide) rfl (fun ls hl => ?_)
  refine lv_iconst (v := nI 0) hx hb dX7_numberOf_2 (by decide) ?_
  refine lv_istore_n (lv' := [(2, .int (nI 0)), (1, .int (nI 0)), (0, .ref (ad 53))]) hx hb dX7_numberOf_3 rfl hl (by decide) rfl (fun ls hl => ?_)
  have L4 : ∀ (N : Nat) (k : Nat), c9 - k < N → (k ≤ c9) → ∀ (H : Heap) (locs : List Loc) (ls : Array Slot), gS D cA A H0 o ad ln iv n H locs → lv_has ls 5 [(0, .ref (ad 53)), (1, .int (nI (numA P w k))), (2, .int (nI k))] → W p l e R s m args below meth c H locs cells slots Q (F0 m 4 ls []) := by
    intro N
    induction N with
    | zero => intro k hm; exact absurd hm (Nat.not_lt_zero _)
    | succ N ih4 =>
      intro k hm hk H locs ls hS hl
      refine lv_iload_n hx hb dX7_numberOf_4 rfl (lv_at hl 2 rfl) ?_
      refine lv_aload_n hx hb dX7_numberOf_5 rfl (lv_at hl 0 rfl) ?_
      refine gx_get (ci := 10) (v := .int (iv 53 7)) (C := RX7) (T := TX7) (N := 23) hx hb hts (fun _ h => inX7_numberOf_RX7 h) hown hK hS 53 (by omega) rfl rfl 7 (by decide) (hts (.fieldLink RX7 83 "CosetTablesModel" "chosen" "I") (by decide +kernel)) rfl dX7_numberOf_6 ?_
      refine gx_as (y := nI c9) hc9 ?_
      refine lv_icmp_ge (tgt := 69) hx hb dX7_numberOf_9 (by decide) (fun c_9 => ?_) (fun c_9 => ?_)
      · skip
        rw [nI_leI (by omega) (by omega)] at c_9
        have ek : k = c9 := by omega
        rw [ek] at hl
        refine lv_iconst (v := nI 0) hx hb dX7_numberOf_69 (by decide) ?_
        refine gx_as (y := nI 0) rfl ?_
        refine lv_istore_n (lv' := [(2, .int (nI 0)), (0, .ref (ad 53)), (1, .int (nI (numA P w c9)))]) hx hb dX7_numberOf_70 rfl hl (by decide) rfl (fun ls hl => ?_)
        have L71 : ∀ (N : Nat) (j : Nat), c9 - j < N → (j ≤ c9) → ∀ (H : Heap) (locs : List Loc) (ls : Array Slot), gS D cA A H0 o ad ln iv n H locs → lv_has ls 5 [(0, .ref (ad 53)), (1, .int (nI (numT T t (numA P w c9) j))), (2, .int (nI j))] → W p l e R s m args below meth c H locs cells slots Q (F0 m 71 ls []) := by
          intro N
          induction N with
          | zero => intro j hm; exact absurd hm (Nat.not_lt_zero _)
          | succ N ih71 =>
            intro j hm hj H locs ls hS hl
            refine lv_iload_n hx hb dX7_numberOf_71 rfl (lv_at hl 2 rfl) ?_
            refine lv_aload_n hx hb dX7_numberOf_72 rfl (lv_at hl 0 rfl) ?_
            refine gx_get (ci := 10) (v := .int (iv 53 7)) (C := RX7) (T := TX7) (N := 23) hx hb hts (fun _ h => inX7_numberOf_RX7 h) hown hK hS 53 (by omega) rfl rfl 7 (by decide) (hts (.fieldLink RX7 83 "CosetTablesModel" "chosen" "I") (by decide +kernel)) rfl dX7_numberOf_73 ?_
            refine gx_as (y := nI c9) hc9 ?_
            refine lv_icmp_ge (tgt := 99) hx hb dX7_numberOf_76 (by decide) (fun c_76 => ?_) (fun c_76 => ?_)
            · skip
              rw [nI_leI (by omega) (by omega)] at c_76
              have ej : j = c9 := by omega
              subst ej
              refine lv_iload_n hx hb dX7_numberOf_99 rfl (lv_at hl 1 rfl) ?_
              exact kret _ iv _ _ _ _ dX7_numberOf_100 (⟨rfl, rfl⟩) hS
            · skip
              rw [nI_leI (by omega) (by omega)] at c_76
              refine lv_iload_n hx hb dX7_numberOf_79 rfl (lv_at hl 1 rfl) ?_
              refine lv_aload_n hx hb dX7_numberOf_80 rfl (lv_at hl 0 rfl) ?_
              refine gx_get (ci := 10) (v := .int (iv 53 2)) (C := RX7) (T := TX7) (N := 23) hx hb hts (fun _ h => inX7_numberOf_RX7 h) hown hK hS 53 (by omega) rfl rfl 2 (by decide) (hts (.fieldLink RX7 55 "CosetTablesModel" "twists" "I") (by decide +kernel)) rfl dX7_numberOf_81 ?_
              refine gx_as (y := nI T) hT0 ?_
              refine lv_imul hx hb dX7_numberOf_84 ?_
              refine gx_as (y := nI ((numT T t (numA P w c9) j) * T)) (pk_mul _ _) ?_
              refine lv_aload_n hx hb dX7_numberOf_85 rfl (lv_at hl 0 rfl) ?_
              refine gx_get (ci := 10) (v := .ref (ad 59)) (C := RX7) (T := TX7) (N := 23) hx hb hts (fun _ h => inX7_numberOf_RX7 h) hown hK hS 53 (by omega) rfl rfl 10 (by decide) (hts (.fieldLink RX7 26 "CosetTablesModel" "twist" "[I") (by decide +kernel)) rfl dX7_numberOf_86 ?_
              refine lv_iload_n hx hb dX7_numberOf_89 rfl (lv_at hl 2 rfl) ?_
              refine gx_ialdn hx hb hK hS 59 (by omega) (by decide) j (by omega) (hln _) dX7_numberOf_90 ?_
              refine gx_as (y := nI (t j)) (ht j (by omega)) ?_
              refine lv_iadd hx hb dX7_numberOf_91 ?_
              refine gx_as (y := nI (((numT T t (numA P w c9) j) * T) + (t j))) (nI_add _ _) ?_
              refine gx_as (y := nI (numT T t (numA P w c9) (j + 1))) rfl ?_
              refine lv_istore_n (lv' := [(1, .int (nI (numT T t (numA P w c9) (j + 1)))), (0, .ref (ad 53)), (2, .int (nI j))]) hx hb dX7_numberOf_92 rfl hl (by decide) rfl (fun ls hl => ?_)
              refine lv_iinc (v := nI (j + 1)) (lv' := [(2, .int (nI (j + 1))), (1, .int (nI (numT T t (numA P w c9) (j + 1)))), (0, .ref (ad 53))]) hx hb dX7_numberOf_93 hl (k := 2) rfl (nI_1 j) (by decide) rfl (fun ls hl => ?_)
              refine lv_goto (tgt := 71) hx hb dX7_numberOf_96 (by decide) ?_
              exact ih71 (j + 1) (by omega) (by omega) _ _ _ hS (lv_sub hl [2, 1, 0] rfl)
        exact L71 _ 0 (Nat.lt_succ_self _) (Nat.zero_le _) _ _ _ hS (lv_sub hl [1, 2, 0] rfl)
      · skip
        rw [nI_leI (by omega) (by omega)] at c_9
        have hwk := hwi.1 k (by omega)
        refine lv_iconst (v := nI 0) hx hb dX7_numberOf_12 (by decide) ?_
        refine gx_as (y := nI (cnt (fre w k) 0)) rfl ?_
        refine lv_istore_n (lv' := [(3, .int (nI (cnt (fre w k) 0))), (0, .ref (ad 53)), (1, .int (nI (numA P w k))), (2, .int (nI k))]) hx hb dX7_numberOf_13 rfl hl (by decide) rfl (fun ls hl => ?_)
        refine lv_iconst (v := nI 0) hx hb dX7_numberOf_14 (by decide) ?_
        refine lv_istore (lv' := [(4, .int (nI 0)), (3, .int (nI (cnt (fre w k) 0))), (0, .ref (ad 53)), (1, .int (nI (numA P w k))), (2, .int (nI k))]) hx hb dX7_numberOf_15 hl (by decide) rfl (fun ls hl => ?_)
        have L17 : ∀ (N : Nat) (p8 : Nat), w k - p8 < N → (p8 ≤ w k) → ∀ (H : Heap) (locs : List Loc) (ls : Array Slot), gS D cA A H0 o ad ln iv n H locs → lv_has ls 5 [(0, .ref (ad 53)), (1, .int (nI (numA P w k))), (2, .int (nI k)), (3, .int (nI (cnt (fre w k) p8))), (4, .int (nI p8))] → W p l e R s m args below meth c H locs cells slots Q (F0 m 17 ls []) := by
          intro N
          induction N with
          | zero => intro p8 hm; exact absurd hm (Nat.not_lt_zero _)
          | succ N ih17 =>
            intro p8 hm hp H locs ls hS hl
            refine lv_iload hx hb dX7_numberOf_17 (lv_at hl 4 rfl) ?_
            refine lv_aload_n hx hb dX7_numberOf_19 rfl (lv_at hl 0 rfl) ?_
            refine gx_get (ci := 10) (v := .ref (ad 58)) (C := RX7) (T := TX7) (N := 23) hx hb hts (fun _ h => inX7_numberOf_RX7 h) hown hK hS 53 (by omega) rfl rfl 9 (by decide) (hts (.fieldLink RX7 23 "CosetTablesModel" "where" "[I") (by decide +kernel)) rfl dX7_numberOf_20 ?_
            refine lv_iload_n hx hb dX7_numberOf_23 rfl (lv_at hl 2 rfl) ?_
            refine gx_ialdn hx hb hK hS 58 (by omega) (by decide) k (by omega) (hln _) dX7_numberOf_24 ?_
            refine gx_as (y := nI (w k)) (hw k (by omega)) ?_
            refine lv_icmp_ge (tgt := 52) hx hb dX7_numberOf_25 (by decide) (fun c_25 => ?_) (fun c_25 => ?_)
            · skip
              rw [nI_leI (by omega) (by omega)] at c_25
              have ep : p8 = w k := by omega
              rw [ep] at hl
              refine lv_iload_n hx hb dX7_numberOf_52 rfl (lv_at hl 1 rfl) ?_
              refine lv_aload_n hx hb dX7_numberOf_53 rfl (lv_at hl 0 rfl) ?_
              refine gx_get (ci := 10) (v := .int (iv 53 1)) (C := RX7) (T := TX7) (N := 23) hx hb hts (fun _ h => inX7_numberOf_RX7 h) hown hK hS 53 (by omega) rfl rfl 1 (by decide) (hts (.fieldLink RX7 51 "CosetTablesModel" "places" "I") (by decide +kernel)) rfl dX7_numberOf_54 ?_
              refine gx_as (y := nI P) hP0 ?_
              refine lv_iload_n hx hb dX7_numberOf_57 rfl (lv_at hl 2 rfl) ?_
              refine lv_isub hx hb dX7_numberOf_58 ?_
              refine gx_as (y := nI (P - k)) (pk_sub (by omega)) ?_
              refine lv_imul hx hb dX7_numberOf_59 ?_
              refine gx_as (y := nI ((numA P w k) * (P - k))) (pk_mul _ _) ?_
              refine lv_iload_n hx hb dX7_numberOf_60 rfl (lv_at hl 3 rfl) ?_
              refine lv_iadd hx hb dX7_numberOf_61 ?_
              refine gx_as (y := nI (((numA P w k) * (P - k)) + (rkw w k))) (nI_add _ _) ?_
              refine gx_as (y := nI (numA P w (k + 1))) rfl ?_
              refine lv_istore_n (lv' := [(1, .int (nI (numA P w (k + 1)))), (0, .ref (ad 53)), (2, .int (nI k)), (3, .int (nI (rkw w k))), (4, .int (nI (w k)))]) hx hb dX7_numberOf_62 rfl hl (by decide) rfl (fun ls hl => ?_)
              refine lv_iinc (v := nI (k + 1)) (lv' := [(2, .int (nI (k + 1))), (1, .int (nI (numA P w (k + 1)))), (0, .ref (ad 53)), (3, .int (nI (rkw w k))), (4, .int (nI (w k)))]) hx hb dX7_numberOf_63 hl (k := 2) rfl (nI_1 k) (by decide) rfl (fun ls hl => ?_)
              refine lv_goto (tgt := 4) hx hb dX7_numberOf_66 (by decide) ?_
              exact ih4 (k + 1) (by omega) (by omega) _ _ _ hS (lv_sub hl [2, 1, 0] rfl)
            · skip
              rw [nI_leI (by omega) (by omega)] at c_25
              refine lv_iload_n hx hb dX7_numberOf_28 rfl (lv_at hl 3 rfl) ?_
              refine lv_aload_n hx hb dX7_numberOf_29 rfl (lv_at hl 0 rfl) ?_
              refine lv_iload hx hb dX7_numberOf_30 (lv_at hl 4 rfl) ?_
              refine lv_iload_n hx hb dX7_numberOf_32 rfl (lv_at hl 2 rfl) ?_
              refine gc_i (gx_runV (As := [.int (nI p8), .int (nI k)]) (rest := [.int (nI (cnt (fre w k) p8))]) ⟨hx, hb, hml, hown, hts⟩ hK hN hS 53 (by omega) rfl rfl (ct_X7_isFree l D cA o ad ln n H.size iv (p9 := p8) (k := k) (w := w) hn hln hRn9 (by omega) (by omega) (fun i hi => ⟨hw i (by omega), by have := hwi.1 i (by omega); omega⟩)) (cwV 2 hts gX7_numberOf_X7_isFree rfl rfl rfl (by decide +kernel) ⟨gle hRf rfl, gle hRl rfl⟩) rfl rfl hl.1 rfl (lv_room (Nat.le_of_ble_eq_true rfl)) dX7_numberOf_33 ⟨hRc, hRs⟩) hS hA (fun y iv1 H locs hp1 hS => ?_)
              obtain ⟨hy01, hyi, ev1⟩ := hp1
              rw [ev1] at hS
              skip
              refine lv_if_eq (tgt := 43) hx hb dX7_numberOf_36 (by decide) (fun c_36 => ?_) (fun c_36 => ?_)
              · skip
                have hfr : ¬ fre w k p8 = true := fun q => by have := hyi.mpr q; rw [this] at c_36; exact absurd c_36 (by decide)
                refine lv_iconst (v := nI 0) hx hb dX7_numberOf_43 (by decide) ?_
                refine lv_iadd hx hb dX7_numberOf_44 ?_
                refine gx_as (y := nI ((cnt (fre w k) p8) + 0)) (nI_add _ _) ?_
                refine gx_as (y := nI (cnt (fre w k) (p8 + 1))) (by rw [cnt_s]; first | rw [if_neg hfr] | rw [if_pos hfr]) ?_
                refine lv_istore_n (lv' := [(3, .int (nI (cnt (fre w k) (p8 + 1)))), (0, .ref (ad 53)), (1, .int (nI (numA P w k))), (2, .int (nI k)), (4, .int (nI p8))]) hx hb dX7_numberOf_45 rfl hl (by decide) rfl (fun ls hl => ?_)
                refine lv_iinc (v := nI (p8 + 1)) (lv' := [(4, .int (nI (p8 + 1))), (3, .int (nI (cnt (fre w k) (p8 + 1)))), (0, .ref (ad 53)), (1, .int (nI (numA P w k))), (2, .int (nI k))]) hx hb dX7_numberOf_46 hl (k := 4) rfl (nI_1 p8) (by decide) rfl (fun ls hl => ?_)
                refine lv_goto (tgt := 17) hx hb dX7_numberOf_49 (by decide) ?_
                exact ih17 (p8 + 1) (by omega) (by omega) _ _ _ hS (lv_sub hl [2, 3, 4, 1, 0] rfl)
              · skip
                have hfr : fre w k p8 = true := hyi.mp (hy01.resolve_left c_36)
                refine lv_iconst (v := nI 1) hx hb dX7_numberOf_39 (by decide) ?_
                refine lv_goto (tgt := 44) hx hb dX7_numberOf_40 (by decide) ?_
                refine lv_iadd hx hb dX7_numberOf_44 ?_
                refine gx_as (y := nI ((cnt (fre w k) p8) + 1)) (nI_add _ _) ?_
                refine gx_as (y := nI (cnt (fre w k) (p8 + 1))) (by rw [cnt_s]; first | rw [if_neg hfr] | rw [if_pos hfr]) ?_
                refine lv_istore_n (lv' := [(3, .int (nI (cnt (fre w k) (p8 + 1)))), (0, .ref (ad 53)), (1, .int (nI (numA P w k))), (2, .int (nI k)), (4, .int (nI p8))]) hx hb dX7_numberOf_45 rfl hl (by decide) rfl (fun ls hl => ?_)
                refine lv_iinc (v := nI (p8 + 1)) (lv' := [(4, .int (nI (p8 + 1))), (3, .int (nI (cnt (fre w k) (p8 + 1)))), (0, .ref (ad 53)), (1, .int (nI (numA P w k))), (2, .int (nI k))]) hx hb dX7_numberOf_46 hl (k := 4) rfl (nI_1 p8) (by decide) rfl (fun ls hl => ?_)
                refine lv_goto (tgt := 17) hx hb dX7_numberOf_49 (by decide) ?_
                exact ih17 (p8 + 1) (by omega) (by omega) _ _ _ hS (lv_sub hl [2, 3, 4, 1, 0] rfl)
        exact L17 _ 0 (Nat.lt_succ_self _) (Nat.zero_le _) _ _ _ hS (lv_sub hl [2, 3, 4, 1, 0] rfl)
  exact L4 _ 0 (Nat.lt_succ_self _) (Nat.zero_le _) _ _ _ hS (lv_sub hl [2, 1, 0] rfl)
set_option maxRecDepth 100000 in
theorem ct_X7_numberOf (l : Launch) (D : va_G) (cA : Nat → ClassId) (o : Nat → Int64) (ad ln : Nat → Nat) (n sz : Nat) (iv : Nat → Nat → Int32) (P c9 T : Nat) (w t : Nat → Nat) (hn : 68 ≤ n) (hln : ∀ k, ln k < 2 ^ 31) (hRn : rln ln) (hc9 : iv 53 7 = nI c9) (hc4 : c9 ≤ 4) (hT0 : iv 53 2 = nI T) (hT1 : 0 < T) (hT3 : T ≤ 3) (hP0 : iv 53 1 = nI P) (hP : P ≤ 8) (hw : ∀ i, i < c9 → iv 58 i = nI (w i)) (ht : ∀ i, i < c9 → iv 59 i = nI (t i)) (hwi : inj w P c9) (htT : ∀ i, i < c9 → t i < T) : gMi l yX7_numberOf wsX7_numberOf { frames := 1, cells := 0, slots := 0, locals := 23 } D cA o ad ln n sz iv [.ref (ad 53)] (fun (r : Int32) iv' => r = nI (num P T c9 w t) ∧ iv' = iv) := by
  refine Met.ofW (cc := cX7_numberOf) (maxL := 5) (ret := (some .int)) (by decide) rfl ?_
  intro p e s m args below meth c s₁ B hml hv__
  obtain ⟨rfl, hv__⟩ := hv__
  obtain ⟨hsz, hS, hK, hN, hA⟩ := gS.entry hv__
  have hl := lv_entry ([.ref (ad 53)]) (n := 5) (Nat.le_of_ble_eq_true rfl)
  rw [lg_entry_eq]
  generalize (lg_sl ([.ref (ad 53)]) ++ List.replicate (5 - (lg_sl ([.ref (ad 53)])).length) Slot.unset).toArray = ls at hl ⊢
  exact bd_X7_numberOf (P := P) (c9 := c9) (T := T) (w := w) (t := t) ⟨B.exec, B.bytes, hml, findClass_of_methodNamed B.named, atoms_spec (ws := wsX7_numberOf) B.pre, B.returns, B.notSynchronized⟩ (Nat.le_refl _) (Nat.le_refl _) (Nat.le_refl _) (Nat.le_refl _) hK hN hA hn hln hRn hc9 hc4 hT0 hT1 hT3 hP0 hP hw ht hwi htT hS hl (fun r iv' H locs ls pc hd hp hS => gx_iret B.exec B.bytes B.returns B.notSynchronized hS hp hd)
