theorem cnt_tt : ∀ n, cnt (fun _ => true) n = n
  | 0 => rfl
  | n + 1 => by rw [cnt_s, cnt_tt n]; rfl
theorem rky_lt {P c y i : Nat} (h : i < c) (hc : c ≤ P) : rky P c y i < P - i := Nat.mod_lt _ (by omega)
theorem fnd_ok {f : Nat → Bool} {k : Nat} : ∀ {P : Nat}, k < cnt f P → ∃ q, q < P ∧ f q = true ∧ cnt f q = k
  | 0, h => absurd h (Nat.not_lt_zero _)
  | P + 1, h => by
    rw [cnt_s] at h
    rcases Nat.lt_or_ge k (cnt f P) with h1 | h1
    · obtain ⟨q, a1, a2⟩ := fnd_ok h1
      exact ⟨q, by omega, a2⟩
    · by_cases e : f P = true
      · rw [if_pos e] at h
        exact ⟨P, by omega, e, by omega⟩
      · rw [if_neg e] at h
        omega
/-- every row of ranks has its places -/
theorem dws_ok {rk : Nat → Nat} {P c : Nat} (hc : c ≤ P) (hr : ∀ i, i < c → rk i < P - i) : ∀ {i : Nat}, i ≤ c → inj (dws rk P i) P i ∧ ∀ j, j < i → rkw (dws rk P i) j = rk j
  | 0, _ => ⟨⟨fun j h => absurd h (Nat.not_lt_zero j), fun j k h => absurd h (Nat.not_lt_zero j)⟩, fun j h => absurd h (Nat.not_lt_zero j)⟩
  | i + 1, hi => by
    obtain ⟨h1, h2⟩ := dws_ok hc hr (i := i) (by omega)
    have hcf := cnt_fre h1
    obtain ⟨q, q1, q2, q3⟩ := fnd_ok (f := fre (dws rk P i) i) (k := rk i) (P := P) (by have := hr i (by omega); omega)
    have e : dws rk P (i + 1) = va_up (dws rk P i) i q := by
      show va_up (dws rk P i) i (fnd (fre (dws rk P i) i) (rk i) P) = _
      rw [fnd_eq q1 q2 q3]
    rw [e]
    obtain ⟨a1, a2, -⟩ := dec_step (q := q) (k := rk i) (rk := rk) h1 h2 q1 (by rw [fbit_msk]; exact q2) (by rw [← q3]; exact cnt_congr (fun p _ => fbit_msk)) rfl
    exact ⟨a1, a2⟩
theorem dw_ok {P c y : Nat} (hc : c ≤ P) : inj (dw P c y) P c ∧ ∀ i, i < c → rkw (dw P c y) i = rky P c y i := by
  obtain ⟨h1, h2⟩ := dws_ok (rk := rky P c y) hc (fun i hi => rky_lt hi hc) (Nat.le_refl c)
  exact ⟨h1, h2⟩
theorem img_lt {P T c x : Nat} {Sg si pc : Nat → Nat} (hT : 0 < T) (hSi : inj Sg P P) (hpi : inj pc P c) (hsi : symIx Sg pc si c) (hx : x < ff P c * T ^ c) : imgF P T c Sg si x < ff P c * T ^ c := by
  have hc := inj_le_P hpi
  obtain ⟨w1, w2⟩ := dw_ok (y := x / T ^ c) hc
  obtain ⟨v1, v2⟩ := dw_ok (y := 0) hc
  have h1 := (ai_lt hT hSi hpi hsi w1 w2).2
  have h2 := (ti_lt (x := x % T ^ c) hT hsi v1 v2).2
  have h3 := Nat.mul_le_mul_right (T ^ c) h1
  rw [Nat.succ_mul] at h3
  unfold imgF
  omega
theorem inX6_workOutOrbits_RX2 : ∀ {w : Cond}, w ∈ u_ws RX2 TX2 8 → w ∈ wsX6_workOutOrbits := fun {w} h => by first | exact List.mem_cons_of_mem _ (List.mem_append_right _ h) | (revert h; revert w; show ∀ w ∈ u_ws RX2 TX2 8, w ∈ wsX6_workOutOrbits; decide +kernel)
theorem inX6_workOutOrbits_RX6 : ∀ {w : Cond}, w ∈ u_ws RX6 TX6 15 → w ∈ wsX6_workOutOrbits := fun {w} h => by first | exact List.mem_cons_of_mem _ (List.mem_append_right _ h) | (revert h; revert w; show ∀ w ∈ u_ws RX6 TX6 15, w ∈ wsX6_workOutOrbits; decide +kernel)
set_option maxHeartbeats 1000000 in
set_option maxRecDepth 100000 in
theorem bd_X6_workOutOrbitsK {p : Program} {l : Launch} {e : Env} {R : Room} {s : State} {m : MethodId} {args : Array Value} {below : List Frame} {meth : Method} {c : Code} {H : Heap} {locs : List Loc} {cells slots : Nat} {Q : State → Prop} {ls : Array Slot} {D : va_G} {A : Nat → Prop} {H0 : Heap} {cA : Nat → ClassId} {o : Nat → Int64} {ad ln : Nat → Nat} {iv : Nat → Nat → Int32} {n : Nat} 
    (F : gF p s m meth c cX6_workOutOrbits 2 RX6 wsX6_workOutOrbits args none) (hRf : 0 ≤ R.frames) (hRl : 0 ≤ R.locals) (hRc : cells ≤ R.cells) (hRs : slots ≤ R.slots) (hK : va_K D vwCl (gT cA) s) (hN : NW s) (hA : ∀ q, H0.size ≤ q → A q) (hn : 68 ≤ n) (hln : ∀ k, ln k < 2 ^ 31) (hkn : ¬ iv 49 0 = 0)
    (hS : gS D cA A H0 o ad ln iv n H locs) (hl : lv_has ls 2 [(0, .ref (ad 0))])
    (kret : ∀ (iv' : Nat → Nat → Int32) (H : Heap) (locs : List Loc) (ls : Array Slot) (pc : Nat), decode cX6_workOutOrbits pc = .ok (.return_, 1) → (iv' = iv) → gS D cA A H0 o ad ln iv' n H locs → W p l e R s m args below meth c H locs cells slots Q (F0 m pc ls [])) :
    W p l e R s m args below meth c H locs cells slots Q (F0 m 0 ls []) := by
  obtain ⟨hx, hb, hml, hown, hts, hr, hlocks⟩ := F
  refine lv_aload_n hx hb dX6_workOutOrbits_0 rfl (lv_at hl 0 rfl) ?_
  refine gx_get (ci := 9) (v := .ref (ad 49)) (C := RX6) (T := TX6) (N := 15) hx hb hts (fun _ h => inX6_workOutOrbits_RX6 h) hown hK hS 0 (by omega) rfl rfl 14 (by decide) (hts (.fieldLink RX6 86 "CosetTables" "orbits" "LCosetTables$Orbits;") (by decide +kernel)) rfl dX6_workOutOrbits_1 ?_
  refine gx_getN (ci := 5) (v := .int (iv 49 0)) (C := RX2) (T := TX2) (N := 8) hx hb hts (fun _ h => inX6_workOutOrbits_RX2 h) hown hK hS 49 (by omega) rfl rfl 0 (by decide) (nf_RX6_255 hN) rfl dX6_workOutOrbits_4 ?_
  refine lv_if_eq (tgt := 11) hx hb dX6_workOutOrbits_7 (by decide) (fun c_7 => ?_) (fun c_7 => ?_)
  · skip
    exact absurd c_7 hkn
  · skip
    exact kret iv _ _ _ _ dX6_workOutOrbits_10 (rfl) hS
set_option maxRecDepth 100000 in
theorem ct_X6_workOutOrbitsK (l : Launch) (D : va_G) (cA : Nat → ClassId) (o : Nat → Int64) (ad ln : Nat → Nat) (n sz : Nat) (iv : Nat → Nat → Int32)  (hn : 68 ≤ n) (hln : ∀ k, ln k < 2 ^ 31) (hkn : ¬ iv 49 0 = 0) : gMv l yX6_workOutOrbits wsX6_workOutOrbits { frames := 0, cells := 0, slots := 0, locals := 0 } D cA o ad ln n sz iv [.ref (ad 0)] (fun iv' => iv' = iv) := by
  refine Met.ofW (cc := cX6_workOutOrbits) (maxL := 2) (ret := none) (by decide) rfl ?_
  intro p e s m args below meth c s₁ B hml hv__
  obtain ⟨rfl, hv__⟩ := hv__
  obtain ⟨hsz, hS, hK, hN, hA⟩ := gS.entry hv__
  have hl := lv_entry ([.ref (ad 0)]) (n := 2) (Nat.le_of_ble_eq_true rfl)
  rw [lg_entry_eq]
  generalize (lg_sl ([.ref (ad 0)]) ++ List.replicate (2 - (lg_sl ([.ref (ad 0)])).length) Slot.unset).toArray = ls at hl ⊢
  exact bd_X6_workOutOrbitsK  ⟨B.exec, B.bytes, hml, findClass_of_methodNamed B.named, atoms_spec (ws := wsX6_workOutOrbits) B.pre, B.returns, B.notSynchronized⟩ (Nat.le_refl _) (Nat.le_refl _) (Nat.le_refl _) (Nat.le_refl _) hK hN hA hn hln hkn hS hl (fun iv' H locs ls pc hd hp hS => gx_vret B.exec B.bytes B.returns B.notSynchronized hS hp hd)

theorem inX6_classes_RX2 : ∀ {w : Cond}, w ∈ u_ws RX2 TX2 8 → w ∈ wsX6_classes := fun {w} h => by first | exact List.mem_cons_of_mem _ (List.mem_append_right _ h) | (revert h; revert w; show ∀ w ∈ u_ws RX2 TX2 8, w ∈ wsX6_classes; decide +kernel)
theorem inX6_classes_RX6 : ∀ {w : Cond}, w ∈ u_ws RX6 TX6 15 → w ∈ wsX6_classes := fun {w} h => by first | exact List.mem_cons_of_mem _ (List.mem_append_right _ h) | (revert h; revert w; show ∀ w ∈ u_ws RX6 TX6 15, w ∈ wsX6_classes; decide +kernel)
set_option maxHeartbeats 1000000 in
set_option maxRecDepth 100000 in
theorem bd_X6_classesK {p : Program} {l : Launch} {e : Env} {R : Room} {s : State} {m : MethodId} {args : Array Value} {below : List Frame} {meth : Method} {c : Code} {H : Heap} {locs : List Loc} {cells slots : Nat} {Q : State → Prop} {ls : Array Slot} {D : va_G} {A : Nat → Prop} {H0 : Heap} {cA : Nat → ClassId} {o : Nat → Int64} {ad ln : Nat → Nat} {iv : Nat → Nat → Int32} {n : Nat} 
    (F : gF p s m meth c cX6_classes 1 RX6 wsX6_classes args (some .int)) (hRf : 1 ≤ R.frames) (hRl : 21 ≤ R.locals) (hRc : cells ≤ R.cells) (hRs : slots ≤ R.slots) (hK : va_K D vwCl (gT cA) s) (hN : NW s) (hA : ∀ q, H0.size ≤ q → A q) (hn : 68 ≤ n) (hln : ∀ k, ln k < 2 ^ 31) (hkn : ¬ iv 49 0 = 0)
    (hS : gS D cA A H0 o ad ln iv n H locs) (hl : lv_has ls 1 [(0, .ref (ad 0))])
    (kret : ∀ (r : Int32) (iv' : Nat → Nat → Int32) (H : Heap) (locs : List Loc) (ls : Array Slot) (pc : Nat), decode cX6_classes pc = .ok (.ireturn, 1) → (r = iv 49 1 ∧ iv' = iv) → gS D cA A H0 o ad ln iv' n H locs → W p l e R s m args below meth c H locs cells slots Q (F0 m pc ls [.int r])) :
    W p l e R s m args below meth c H locs cells slots Q (F0 m 0 ls []) := by
  obtain ⟨hx, hb, hml, hown, hts, hr, hlocks⟩ := F
  refine lv_aload_n hx hb dX6_classes_0 rfl (lv_at hl 0 rfl) ?_
  refine gc_v (gx_runV (As := []) (rest := []) ⟨hx, hb, hml, hown, hts⟩ hK hN hS 0 (by omega) rfl rfl (ct_X6_workOutOrbitsK l D cA o ad ln n H.size iv hn hln hkn) (cwV 0 hts gX6_classes_X6_workOutOrbits rfl rfl rfl (by decide +kernel) ⟨gle hRf rfl, gle hRl rfl⟩) rfl rfl hl.1 rfl (lv_room (Nat.le_of_ble_eq_true rfl)) dX6_classes_1 ⟨hRc, hRs⟩) hS hA (fun iv1 H locs hp1 hS => ?_)
  rw [hp1] at hS
  skip
  refine lv_aload_n hx hb dX6_classes_4 rfl (lv_at hl 0 rfl) ?_
  refine gx_get (ci := 9) (v := .ref (ad 49)) (C := RX6) (T := TX6) (N := 15) hx hb hts (fun _ h => inX6_classes_RX6 h) hown hK hS 0 (by omega) rfl rfl 14 (by decide) (hts (.fieldLink RX6 86 "CosetTables" "orbits" "LCosetTables$Orbits;") (by decide +kernel)) rfl dX6_classes_5 ?_
  refine gx_getN (ci := 5) (v := .int (iv 49 1)) (C := RX2) (T := TX2) (N := 8) hx hb hts (fun _ h => inX6_classes_RX2 h) hown hK hS 49 (by omega) rfl rfl 1 (by decide) (nf_RX6_217 hN) rfl dX6_classes_8 ?_
  exact kret _ iv _ _ _ _ dX6_classes_11 (⟨rfl, rfl⟩) hS
set_option maxRecDepth 100000 in
theorem ct_X6_classesK (l : Launch) (D : va_G) (cA : Nat → ClassId) (o : Nat → Int64) (ad ln : Nat → Nat) (n sz : Nat) (iv : Nat → Nat → Int32)  (hn : 68 ≤ n) (hln : ∀ k, ln k < 2 ^ 31) (hkn : ¬ iv 49 0 = 0) : gMi l yX6_classes wsX6_classes { frames := 1, cells := 0, slots := 0, locals := 21 } D cA o ad ln n sz iv [.ref (ad 0)] (fun (r : Int32) iv' => r = iv 49 1 ∧ iv' = iv) := by
  refine Met.ofW (cc := cX6_classes) (maxL := 1) (ret := (some .int)) (by decide) rfl ?_
  intro p e s m args below meth c s₁ B hml hv__
  obtain ⟨rfl, hv__⟩ := hv__
  obtain ⟨hsz, hS, hK, hN, hA⟩ := gS.entry hv__
  have hl := lv_entry ([.ref (ad 0)]) (n := 1) (Nat.le_of_ble_eq_true rfl)
  rw [lg_entry_eq]
  generalize (lg_sl ([.ref (ad 0)]) ++ List.replicate (1 - (lg_sl ([.ref (ad 0)])).length) Slot.unset).toArray = ls at hl ⊢
  exact bd_X6_classesK  ⟨B.exec, B.bytes, hml, findClass_of_methodNamed B.named, atoms_spec (ws := wsX6_classes) B.pre, B.returns, B.notSynchronized⟩ (Nat.le_refl _) (Nat.le_refl _) (Nat.le_refl _) (Nat.le_refl _) hK hN hA hn hln hkn hS hl (fun r iv' H locs ls pc hd hp hS => gx_iret B.exec B.bytes B.returns B.notSynchronized hS hp hd)

set_option maxHeartbeats 1000000 in
set_option maxRecDepth 100000 in
theorem bd_X6_workOutOrbitsU {p : Program} {l : Launch} {e : Env} {R : Room} {s : State} {m : MethodId} {args : Array Value} {below : List Frame} {meth : Method} {c : Code} {H : Heap} {locs : List Loc} {cells slots : Nat} {Q : State → Prop} {ls : Array Slot} {D : va_G} {A : Nat → Prop} {H0 : Heap} {cA : Nat → ClassId} {o : Nat → Int64} {ad ln : Nat → Nat} {iv : Nat → Nat → Int32} {n : Nat} {mc9 sc9 P c9 T : Nat} {pc9 : Nat → Nat} {Sg si : Nat → Nat → Nat}
    (F : gF p s m meth c cX6_workOutOrbits 2 RX6 wsX6_workOutOrbits args none) (hRf : 4 ≤ R.frames) (hRl : 97 ≤ R.locals) (hRc : cells + (al (ln 50) (ff P c9 * T ^ c9) + al (ln 51) (ff P c9) + al (ln 52) (T ^ c9)) ≤ R.cells) (hRs : slots + (als (ln 50) (ff P c9 * T ^ c9) + als (ln 51) (ff P c9) + als (ln 52) (T ^ c9)) ≤ R.slots) (hK : va_K D vwCl (gT cA) s) (hN : NW s) (hA : ∀ q, H0.size ≤ q → A q) (hn : 68 ≤ n) (hln : ∀ k, ln k < 2 ^ 31) (hkn : iv 49 0 = 0) (hLn : lnOk ln P) (hc9 : iv 25 5 = nI c9) (hc4 : c9 ≤ 4) (hT0 : iv 25 1 = nI T) (hT1 : 0 < T) (hT3 : T ≤ 3) (hP : P ≤ 8) (hpc : ∀ i, i < c9 → iv 27 i = nI (pc9 i)) (hpi : inj pc9 P c9) (hP0 : iv 25 0 = nI P) (hP1 : iv 0 0 = nI P) (ha9 : iv 25 6 = nI (ff P c9)) (ht9 : iv 25 7 = nI (T ^ c9)) (hmc : iv 0 3 = nI mc9) (hmc6 : mc9 ≤ 6) (hgo : ∀ j, j < 6 → ∀ p, p < P → vp_in (iv (2 + 3 * j + 1) p) P) (h01 : ∀ j, iv 26 j = 0 ∨ iv 26 j = 1) (hsc : iv 0 5 = nI sc9) (hsc4 : sc9 ≤ 4) (hsy : ∀ j, j < sc9 → (∀ p, p < P → iv (21 + j) p = nI (Sg j p)) ∧ inj (Sg j) P P) (hsi : ∀ j, j < sc9 → goodAt iv P mc9 (21 + j) → symIx (Sg j) pc9 (si j) c9) (hw33 : ∀ p, p < P → vp_in (iv 33 p) P)
    (hS : gS D cA A H0 o ad ln iv n H locs) (hl : lv_has ls 2 [(0, .ref (ad 0))])
    (kret : ∀ (ad' ln' : Nat → Nat) (iv' : Nat → Nat → Int32) (H : Heap) (locs : List Loc) (ls : Array Slot) (pc : Nat), decode cX6_workOutOrbits pc = .ok (.return_, 1) → ((∀ i, i ≠ 50 → i ≠ 51 → i ≠ 52 → ad' i = ad i ∧ ln' i = ln i) ∧ (ln' 50 = max (ln 50) (ff P c9 * T ^ c9) ∧ ln' 51 = max (ln 51) (ff P c9) ∧ ln' 52 = max (ln 52) (T ^ c9)) ∧ (iv' 49 0 = 1 ∧ iv' 49 2 = nI (ff P c9 * T ^ c9)) ∧ (∃ lk, (∀ k, k < ff P c9 * T ^ c9 → iv' 50 k = nI (lk k)) ∧ clsTo lk (ff P c9 * T ^ c9) (fun j => imgF P T c9 (Sg j) (si j)) (fun j => goodAt iv P mc9 (21 + j)) sc9 ∧ iv' 49 1 = nI (nroot lk (ff P c9 * T ^ c9))) ∧ (∀ p, p < P → vp_in (iv' 33 p) P) ∧ ∀ q, q ≠ 28 → q ≠ 33 → q ≠ 34 → q ≠ 36 → q ≠ 37 → q ≠ 49 → q ≠ 50 → q ≠ 51 → q ≠ 52 → iv' q = iv q) → gS D cA A H0 o ad' ln' iv' n H locs → W p l e R s m args below meth c H locs (cells + (al (ln 50) (ff P c9 * T ^ c9) + al (ln 51) (ff P c9) + al (ln 52) (T ^ c9))) (slots + (als (ln 50) (ff P c9 * T ^ c9) + als (ln 51) (ff P c9) + als (ln 52) (T ^ c9))) Q (F0 m pc ls [])) :
    W p l e R s m args below meth c H locs cells slots Q (F0 m 0 ls []) := by
  obtain ⟨hx, hb, hml, hown, hts, hr, hlocks⟩ := F
  have hLn9 := hLn
  obtain ⟨hL1, hL2, ⟨h26, h27, h28⟩, ⟨h30, h31, h33, h34, h36, h37⟩, h39, h40, h41⟩ := hLn
  have hpw := pw_le4 hT3 hc4
  have hpp : 0 < T ^ c9 := Nat.pow_pos hT1
  have hff := ff_le4 hP hc4
  have hat := Nat.mul_le_mul hff hpw
  refine lv_aload_n hx hb dX6_workOutOrbits_0 rfl (lv_at hl 0 rfl) ?_
  refine gx_get (ci := 9) (v := .ref (ad 49)) (C := RX6) (T := TX6) (N := 15) hx hb hts (fun _ h => inX6_workOutOrbits_RX6 h) hown hK hS 0 (by omega) rfl rfl 14 (by decide) (hts (.fieldLink RX6 86 "CosetTables" "orbits" "LCosetTables$Orbits;") (by decide +kernel)) rfl dX6_workOutOrbits_1 ?_
  refine gx_getN (ci := 5) (v := .int (iv 49 0)) (C := RX2) (T := TX2) (N := 8) hx hb hts (fun _ h => inX6_workOutOrbits_RX2 h) hown hK hS 49 (by omega) rfl rfl 0 (by decide) (nf_RX6_255 hN) rfl dX6_workOutOrbits_4 ?_
  refine lv_if_eq (tgt := 11) hx hb dX6_workOutOrbits_7 (by decide) (fun c_7 => ?_) (fun c_7 => ?_)
  · skip
    refine lv_aload_n hx hb dX6_workOutOrbits_11 rfl (lv_at hl 0 rfl) ?_
    refine gx_get (ci := 9) (v := .ref (ad 49)) (C := RX6) (T := TX6) (N := 15) hx hb hts (fun _ h => inX6_workOutOrbits_RX6 h) hown hK hS 0 (by omega) rfl rfl 14 (by decide) (hts (.fieldLink RX6 86 "CosetTables" "orbits" "LCosetTables$Orbits;") (by decide +kernel)) rfl dX6_workOutOrbits_12 ?_
    refine lv_aload_n hx hb dX6_workOutOrbits_15 rfl (lv_at hl 0 rfl) ?_
    refine gx_get (ci := 9) (v := .ref (ad 25)) (C := RX6) (T := TX6) (N := 15) hx hb hts (fun _ h => inX6_workOutOrbits_RX6 h) hown hK hS 0 (by omega) rfl rfl 6 (by decide) (hts (.fieldLink RX6 42 "CosetTables" "numbering" "LCosetTables$Numbering;") (by decide +kernel)) rfl dX6_workOutOrbits_16 ?_
    refine gc_vxM (ct_X2_begin l D cA o ad ln n H.size iv (a := ff P c9) (t := T ^ c9) hn hln ha9 ht9 (by omega) (by omega) (by omega)) (fun hM => (gx_runV (As := [.ref (ad 25)]) (rest := []) ⟨hx, hb, hml, hown, hts⟩ hK hN hS 49 (by omega) rfl rfl hM (cwV 1 hts gX6_workOutOrbits_X2_begin rfl rfl rfl (by decide +kernel) ⟨gle hRf rfl, gle hRl rfl⟩) rfl rfl hl.1 rfl (lv_room (Nat.le_of_ble_eq_true rfl)) dX6_workOutOrbits_19 ⟨by omega, by omega⟩)) hS hA (fun ad1 ln1 iv1 H locs hp1 hS => ?_)
    obtain ⟨q1, ⟨q2a, q2b, q2c⟩, ⟨q3a, q3b, q3c, q3d, q3e⟩, q4, q5⟩ := hp1
    have hln0 := hln
    have hln : ∀ q, ln1 q < 2 ^ 31 := by
      intro q
      by_cases e1 : q = 50
      · have := hln0 50; rw [e1, q2a]; omega
      by_cases e2 : q = 51
      · have := hln0 51; rw [e2, q2b]; omega
      by_cases e3 : q = 52
      · have := hln0 52; rw [e3, q2c]; omega
      rw [(q1 q e1 e2 e3).2]; exact hln0 q
    have g27 : ln1 27 = 4 := by rw [(q1 27 (by decide) (by decide) (by decide)).2]; exact h27
    have g28 : ln1 28 = 4 := by rw [(q1 28 (by decide) (by decide) (by decide)).2]; exact h28
    have g33 : ln1 33 = P := by rw [(q1 33 (by decide) (by decide) (by decide)).2]; exact h33
    have g34 : ln1 34 = P := by rw [(q1 34 (by decide) (by decide) (by decide)).2]; exact h34
    have g36 : ln1 36 = P := by rw [(q1 36 (by decide) (by decide) (by decide)).2]; exact h36
    have g37 : ln1 37 = P := by rw [(q1 37 (by decide) (by decide) (by decide)).2]; exact h37
    have gLn : lnOk ln1 P := by
      refine ⟨fun j hj => ?_, fun j hj => ?_, ⟨?_, ?_, ?_⟩, ⟨?_, ?_, ?_, ?_, ?_, ?_⟩, ?_, ?_, ?_⟩ <;> first | (rw [(q1 _ (by omega) (by omega) (by omega)).2, (q1 _ (by omega) (by omega) (by omega)).2]; exact hL1 j hj) | (rw [(q1 _ (by omega) (by omega) (by omega)).2]; first | exact hL2 j hj | assumption)
    have hl : lv_has ls 2 [(0, .ref (ad1 0))] := by rw [(q1 0 (by decide) (by decide) (by decide)).1]; exact hl
    refine lv_iconst (v := nI 0) hx hb dX6_workOutOrbits_22 (by decide) ?_
    refine lv_istore_n (lv' := [(1, .int (nI 0)), (0, .ref (ad1 0))]) hx hb dX6_workOutOrbits_23 rfl hl (by decide) rfl (fun ls hl => ?_)
    have L24 : ∀ (N : Nat) (i : Nat) (iv2 : Nat → Nat → Int32), sc9 - i < N → (i ≤ sc9) → (∃ lk, (∀ k, k < ff P c9 * T ^ c9 → iv2 50 k = nI (lk k)) ∧ clsTo lk (ff P c9 * T ^ c9) (fun j => imgF P T c9 (Sg j) (si j)) (fun j => goodAt iv P mc9 (21 + j)) i ∧ iv2 49 1 = nI (nroot lk (ff P c9 * T ^ c9))) → (∀ p, p < P → vp_in (iv2 33 p) P) → (iv2 49 2 = nI (ff P c9 * T ^ c9) ∧ iv2 49 3 = nI (ff P c9) ∧ iv2 49 4 = nI (T ^ c9)) → (∀ q, q ≠ 28 → q ≠ 33 → q ≠ 34 → q ≠ 36 → q ≠ 37 → q ≠ 49 → q ≠ 50 → q ≠ 51 → q ≠ 52 → iv2 q = iv q) → ∀ (H : Heap) (locs : List Loc) (ls : Array Slot), gS D cA A H0 o ad1 ln1 iv2 n H locs → lv_has ls 2 [(0, .ref (ad1 0)), (1, .int (nI i))] → W p l e R s m args below meth c H locs (cells + (al (ln 50) (ff P c9 * T ^ c9) + al (ln 51) (ff P c9) + al (ln 52) (T ^ c9))) (slots + (als (ln 50) (ff P c9 * T ^ c9) + als (ln 51) (ff P c9) + als (ln 52) (T ^ c9))) Q (F0 m 24 ls []) := by
      intro N
      induction N with
      | zero => intro i iv2 hm; exact absurd hm (Nat.not_lt_zero _)
      | succ N ih24 =>
        intro i iv2 hm hi h1 h2 h3 h4 H locs ls hS hl
        have o0 : iv2 0 = iv 0 := h4 0 (by decide) (by decide) (by decide) (by decide) (by decide) (by decide) (by decide) (by decide) (by decide)
        have o25 : iv2 25 = iv 25 := h4 25 (by decide) (by decide) (by decide) (by decide) (by decide) (by decide) (by decide) (by decide) (by decide)
        have o26 : iv2 26 = iv 26 := h4 26 (by decide) (by decide) (by decide) (by decide) (by decide) (by decide) (by decide) (by decide) (by decide)
        have o27 : iv2 27 = iv 27 := h4 27 (by decide) (by decide) (by decide) (by decide) (by decide) (by decide) (by decide) (by decide) (by decide)
        refine lv_iload_n hx hb dX6_workOutOrbits_24 rfl (lv_at hl 1 rfl) ?_
        refine lv_aload_n hx hb dX6_workOutOrbits_25 rfl (lv_at hl 0 rfl) ?_
        refine gx_get (ci := 9) (v := .int (iv2 0 5)) (C := RX6) (T := TX6) (N := 15) hx hb hts (fun _ h => inX6_workOutOrbits_RX6 h) hown hK hS 0 (by omega) rfl rfl 5 (by decide) (hts (.fieldLink RX6 200 "CosetTables" "symmetryCount" "I") (by decide +kernel)) rfl dX6_workOutOrbits_26 ?_
        refine gx_as (y := nI sc9) (by rw [o0]; exact hsc) ?_
        refine lv_icmp_ge (tgt := 83) hx hb dX6_workOutOrbits_29 (by decide) (fun c_29 => ?_) (fun c_29 => ?_)
        · skip
          rw [nI_leI (by omega) (by omega)] at c_29
          have ei : i = sc9 := by omega
          subst ei
          refine lv_aload_n hx hb dX6_workOutOrbits_83 rfl (lv_at hl 0 rfl) ?_
          refine gx_get (ci := 9) (v := .ref (ad1 49)) (C := RX6) (T := TX6) (N := 15) hx hb hts (fun _ h => inX6_workOutOrbits_RX6 h) hown hK hS 0 (by omega) rfl rfl 14 (by decide) (hts (.fieldLink RX6 86 "CosetTables" "orbits" "LCosetTables$Orbits;") (by decide +kernel)) rfl dX6_workOutOrbits_84 ?_
          refine lv_iconst (v := nI 1) hx hb dX6_workOutOrbits_87 (by decide) ?_
          obtain ⟨lk, b1, b2, b3⟩ := h1
          refine gx_putN (ci := 5) (x := nI 1) (ty := .boolean) (C := RX2) (T := TX2) (N := 8) hx hb hts (fun _ h => inX6_workOutOrbits_RX2 h) tyX2 tyX2_ok nmX2 hown hK hS 49 (by omega) rfl rfl 0 (by decide) (nf_RX6_255 hN) rfl (by decide +kernel) (gx_nz (by first | exact Or.inl rfl | exact Or.inr rfl | assumption)) (gx_fz (by first | exact Or.inl rfl | exact Or.inr rfl | assumption)) (Nat.le_of_ble_eq_true rfl) rfl dX6_workOutOrbits_88 (fun H locs hS => ?_)
          obtain ⟨iv6, eiv6⟩ : ∃ z, z = up2 iv2 49 0 (nI 1) := ⟨_, rfl⟩
          rw [← eiv6] at hS
          refine W.widen (k := cells + (al (ln 50) (ff P c9 * T ^ c9) + al (ln 51) (ff P c9) + al (ln 52) (T ^ c9))) (n := slots + (als (ln 50) (ff P c9 * T ^ c9) + als (ln 51) (ff P c9) + als (ln 52) (T ^ c9))) (by omega) (by omega) ?_
          exact kret ad1 ln1 iv6 _ _ _ _ dX6_workOutOrbits_91 (⟨q1, ⟨q2a, q2b, q2c⟩, ⟨by rw [eiv6, up2_s]; rfl, by rw [eiv6, up2_n (by decide)]; exact h3.1⟩, ⟨lk, fun k hk => by rw [eiv6, up2_row (by decide)]; exact b1 k hk, b2, by rw [eiv6, up2_n (by decide)]; exact b3⟩, fun p hp => by rw [eiv6, up2_row (by decide)]; exact h2 p hp, fun q x1 x2 x3 x4 x5 x6 x7 x8 x9 => by rw [eiv6, up2_row x6, h4 q x1 x2 x3 x4 x5 x6 x7 x8 x9]⟩) hS
        · skip
          rw [nI_leI (by omega) (by omega)] at c_29
          obtain ⟨lk, b1, b2, b3⟩ := h1
          obtain ⟨hs1, hs2⟩ := hsy i (by omega)
          have hs3 : ∀ p, p < P → vp_in (iv2 (21 + i) p) P := fun p hp => by rw [h4 _ (by omega) (by omega) (by omega) (by omega) (by omega) (by omega) (by omega) (by omega) (by omega), hs1 p hp]; exact vp_in_nI (hs2.1 p hp) (by omega)
          refine lv_aload_n hx hb dX6_workOutOrbits_32 rfl (lv_at hl 0 rfl) ?_
          refine lv_aload_n hx hb dX6_workOutOrbits_33 rfl (lv_at hl 0 rfl) ?_
          refine gx_get (ci := 9) (v := .ref (ad1 20)) (C := RX6) (T := TX6) (N := 15) hx hb hts (fun _ h => inX6_workOutOrbits_RX6 h) hown hK hS 0 (by omega) rfl rfl 4 (by decide) (hts (.fieldLink RX6 36 "CosetTables" "symmetries" "[[I") (by decide +kernel)) rfl dX6_workOutOrbits_34 ?_
          refine lv_iload_n hx hb dX6_workOutOrbits_37 rfl (lv_at hl 1 rfl) ?_
          refine gx_ldsym hx hb hK hS (by omega) i (by omega) rfl dX6_workOutOrbits_38 ?_
          refine gc_i (gx_runV (As := [.ref (ad1 (21 + i))]) (rest := []) ⟨hx, hb, hml, hown, hts⟩ hK hN hS 0 (by omega) rfl rfl (ct_X6_isGood l D cA o ad1 ln1 n H.size iv2 (k := 21 + i) (P := P) (mc9 := mc9) hn hln gLn hP (by rw [o0]; exact hP1) (by rw [o0]; exact hmc) hmc6 (by omega) (fun j hj p hp => by rw [h4 _ (by omega) (by omega) (by omega) (by omega) (by omega) (by omega) (by omega) (by omega) (by omega)]; exact hgo j hj p hp) hs3 (by rw [o26]; exact h01)) (cwV 1 hts gX6_workOutOrbits_X6_isGood rfl rfl rfl (by decide +kernel) ⟨gle hRf rfl, gle hRl rfl⟩) rfl rfl hl.1 rfl (lv_room (Nat.le_of_ble_eq_true rfl)) dX6_workOutOrbits_39 ⟨by omega, by omega⟩) hS hA (fun y iv3 H locs hp3 hS => ?_)
          obtain ⟨hy01, hyg, ev3⟩ := hp3
          rw [ev3] at hS
          have hyg : y = 1 ↔ goodAt iv P mc9 (21 + i) := hyg.trans (goodAt_congr o26 (h4 _ (by omega) (by omega) (by omega) (by omega) (by omega) (by omega) (by omega) (by omega) (by omega)) (fun j hj => ⟨h4 _ (by omega) (by omega) (by omega) (by omega) (by omega) (by omega) (by omega) (by omega) (by omega), h4 _ (by omega) (by omega) (by omega) (by omega) (by omega) (by omega) (by omega) (by omega) (by omega)⟩))
          skip
          refine lv_if_eq (tgt := 77) hx hb dX6_workOutOrbits_42 (by decide) (fun c_42 => ?_) (fun c_42 => ?_)
          · skip
            have hng : ¬ goodAt iv P mc9 (21 + i) := fun q => by have := hyg.mpr q; rw [this] at c_42; exact absurd c_42 (by decide)
            refine lv_iinc (v := nI (i + 1)) (lv' := [(1, .int (nI (i + 1))), (0, .ref (ad1 0))]) hx hb dX6_workOutOrbits_77 hl (k := 1) rfl (nI_1 i) (by decide) rfl (fun ls hl => ?_)
            refine lv_goto (tgt := 24) hx hb dX6_workOutOrbits_80 (by decide) ?_
            exact ih24 (i + 1) iv2 (by omega) (by omega) ⟨lk, b1, clsTo_n b2 hng, b3⟩ h2 h3 h4 _ _ _ hS (lv_sub hl [1, 0] rfl)
          · skip
            have hgd : goodAt iv P mc9 (21 + i) := hyg.mp (by rcases hy01 with q | q; exact absurd q c_42; exact q)
            have hsx := hsi i (by omega) hgd
            refine lv_aload_n hx hb dX6_workOutOrbits_45 rfl (lv_at hl 0 rfl) ?_
            refine gx_get (ci := 9) (v := .ref (ad1 49)) (C := RX6) (T := TX6) (N := 15) hx hb hts (fun _ h => inX6_workOutOrbits_RX6 h) hown hK hS 0 (by omega) rfl rfl 14 (by decide) (hts (.fieldLink RX6 86 "CosetTables" "orbits" "LCosetTables$Orbits;") (by decide +kernel)) rfl dX6_workOutOrbits_46 ?_
            refine lv_aload_n hx hb dX6_workOutOrbits_49 rfl (lv_at hl 0 rfl) ?_
            refine gx_get (ci := 9) (v := .ref (ad1 20)) (C := RX6) (T := TX6) (N := 15) hx hb hts (fun _ h => inX6_workOutOrbits_RX6 h) hown hK hS 0 (by omega) rfl rfl 4 (by decide) (hts (.fieldLink RX6 36 "CosetTables" "symmetries" "[[I") (by decide +kernel)) rfl dX6_workOutOrbits_50 ?_
            refine lv_iload_n hx hb dX6_workOutOrbits_53 rfl (lv_at hl 1 rfl) ?_
            refine gx_ldsym hx hb hK hS (by omega) i (by omega) rfl dX6_workOutOrbits_54 ?_
            refine lv_aload_n hx hb dX6_workOutOrbits_55 rfl (lv_at hl 0 rfl) ?_
            refine gx_get (ci := 9) (v := .ref (ad1 25)) (C := RX6) (T := TX6) (N := 15) hx hb hts (fun _ h => inX6_workOutOrbits_RX6 h) hown hK hS 0 (by omega) rfl rfl 6 (by decide) (hts (.fieldLink RX6 42 "CosetTables" "numbering" "LCosetTables$Numbering;") (by decide +kernel)) rfl dX6_workOutOrbits_56 ?_
            refine lv_aload_n hx hb dX6_workOutOrbits_59 rfl (lv_at hl 0 rfl) ?_
            refine gx_get (ci := 9) (v := .ref (ad1 32)) (C := RX6) (T := TX6) (N := 15) hx hb hts (fun _ h => inX6_workOutOrbits_RX6 h) hown hK hS 0 (by omega) rfl rfl 8 (by decide) (hts (.fieldLink RX6 55 "CosetTables" "walker" "LCosetTables$State;") (by decide +kernel)) rfl dX6_workOutOrbits_60 ?_
            refine lv_aload_n hx hb dX6_workOutOrbits_63 rfl (lv_at hl 0 rfl) ?_
            refine gx_get (ci := 9) (v := .ref (ad1 35)) (C := RX6) (T := TX6) (N := 15) hx hb hts (fun _ h => inX6_workOutOrbits_RX6 h) hown hK hS 0 (by omega) rfl rfl 9 (by decide) (hts (.fieldLink RX6 58 "CosetTables" "mirror" "LCosetTables$State;") (by decide +kernel)) rfl dX6_workOutOrbits_64 ?_
            refine gc_v (gx_runV (As := [.ref (ad1 (21 + i)), .ref (ad1 25), .ref (ad1 32), .ref (ad1 35)]) (rest := []) ⟨hx, hb, hml, hown, hts⟩ hK hN hS 49 (by omega) rfl rfl (ct_X2_learn l D cA o ad1 ln1 n H.size iv2 (k := 21 + i) (b := 32) (b2 := 35) (P := P) (c9 := c9) (T := T) (a := ff P c9) (t := T ^ c9) (pc9 := pc9) (Sg := Sg i) (si := si i) hn hln (by rw [o25]; exact hc9) hc4 (by rw [o25]; exact hT0) hT1 hT3 (by decide) g34 g33 hP g27 (by rw [o27]; exact hpc) hpi (by rw [o25]; exact hP0) g28 (by rw [o25]; exact ht9) (by decide) (by decide) g37 g36 (by omega) (gLn.2.1 i (by omega)) h3.2.1 h3.2.2 rfl rfl (by omega) (by omega) (fun p hp => by rw [h4 _ (by omega) (by omega) (by omega) (by omega) (by omega) (by omega) (by omega) (by omega) (by omega)]; exact hs1 p hp) hs2 hsx h2) (cwV 4 hts gX6_workOutOrbits_X2_learn rfl rfl rfl (by decide +kernel) ⟨gle hRf rfl, gle hRl rfl⟩) rfl rfl hl.1 rfl (lv_room (Nat.le_of_ble_eq_true rfl)) dX6_workOutOrbits_67 ⟨by omega, by omega⟩) hS hA (fun iv4 H locs hp4 hS => ?_)
            obtain ⟨l1, l2, l3, lo⟩ := hp4
            have hai : ∀ r, r < ff P c9 → iv4 51 r = nI (aiF P T c9 (Sg i) (si i) r) ∧ aiF P T c9 (Sg i) (si i) r < ff P c9 := fun r hr => by
              obtain ⟨w, w1, w2, w3⟩ := l1 r hr
              have := ai_lt hT1 hs2 hpi hsx w1 w2
              exact ⟨by rw [w3, this.1], this.2⟩
            have hti : ∀ x, x < T ^ c9 → iv4 52 x = nI (tiF P T c9 (Sg i) (si i) x) ∧ tiF P T c9 (Sg i) (si i) x < T ^ c9 := fun x hx => by
              obtain ⟨w, w1, w2, w3⟩ := l2 x hx
              have := ti_lt (x := x) hT1 hsx w1 w2
              exact ⟨by rw [w3, this.1], this.2⟩
            have himg : ∀ j x, j < i → goodAt iv P mc9 (21 + j) → x < ff P c9 * T ^ c9 → imgF P T c9 (Sg j) (si j) x < ff P c9 * T ^ c9 := fun j x hj hg hx => img_lt hT1 (hsy j (by omega)).2 hpi (hsi j (by omega) hg) hx
            refine lv_aload_n hx hb dX6_workOutOrbits_70 rfl (lv_at hl 0 rfl) ?_
            refine gx_get (ci := 9) (v := .ref (ad1 49)) (C := RX6) (T := TX6) (N := 15) hx hb hts (fun _ h => inX6_workOutOrbits_RX6 h) hown hK hS 0 (by omega) rfl rfl 14 (by decide) (hts (.fieldLink RX6 86 "CosetTables" "orbits" "LCosetTables$Orbits;") (by decide +kernel)) rfl dX6_workOutOrbits_71 ?_
            refine gc_v (gx_runV (As := []) (rest := []) ⟨hx, hb, hml, hown, hts⟩ hK hN hS 49 (by omega) rfl rfl (ct_X2_joinImages l D cA o ad1 ln1 n H.size iv4 (S := ff P c9 * T ^ c9) (a := ff P c9) (t := T ^ c9) (lk := lk) (ai := aiF P T c9 (Sg i) (si i)) (ti := tiF P T c9 (Sg i) (si i)) hn hln (by rw [lo 49 (by decide) (by decide) (by decide) (by decide) (by decide) (by decide) (by decide)]; exact h3.1) (by omega) (by omega) (fun k hk => by rw [lo 50 (by decide) (by decide) (by decide) (by decide) (by decide) (by decide) (by decide)]; exact b1 k hk) b2.1 (by rw [lo 49 (by decide) (by decide) (by decide) (by decide) (by decide) (by decide) (by decide)]; exact b3) (by rw [lo 49 (by decide) (by decide) (by decide) (by decide) (by decide) (by decide) (by decide)]; exact h3.2.1) (by rw [lo 49 (by decide) (by decide) (by decide) (by decide) (by decide) (by decide) (by decide)]; exact h3.2.2) hpp rfl (by omega) (by omega) hai hti) (cwV 0 hts gX6_workOutOrbits_X2_joinImages rfl rfl rfl (by decide +kernel) ⟨gle hRf rfl, gle hRl rfl⟩) rfl rfl hl.1 rfl (lv_room (Nat.le_of_ble_eq_true rfl)) dX6_workOutOrbits_74 ⟨by omega, by omega⟩) hS hA (fun iv5 H locs hp5 hS => ?_)
            obtain ⟨lk2, j1, j2, j3, j4, j5⟩ := hp5
            refine lv_iinc (v := nI (i + 1)) (lv' := [(1, .int (nI (i + 1))), (0, .ref (ad1 0))]) hx hb dX6_workOutOrbits_77 hl (k := 1) rfl (nI_1 i) (by decide) rfl (fun ls hl => ?_)
            refine lv_goto (tgt := 24) hx hb dX6_workOutOrbits_80 (by decide) ?_
            exact ih24 (i + 1) iv5 (by omega) (by omega) ⟨lk2, j1, clsTo_s b2 hgd himg j2, j3⟩ (by rw [j5 33 (by decide) (by decide)]; exact l3) ⟨by rw [j4 2 (by decide), lo 49 (by decide) (by decide) (by decide) (by decide) (by decide) (by decide) (by decide)]; exact h3.1, by rw [j4 3 (by decide), lo 49 (by decide) (by decide) (by decide) (by decide) (by decide) (by decide) (by decide)]; exact h3.2.1, by rw [j4 4 (by decide), lo 49 (by decide) (by decide) (by decide) (by decide) (by decide) (by decide) (by decide)]; exact h3.2.2⟩ (fun q x1 x2 x3 x4 x5 x6 x7 x8 x9 => by rw [j5 q x7 x6, lo q x1 x2 x3 x4 x5 x8 x9, h4 q x1 x2 x3 x4 x5 x6 x7 x8 x9]) _ _ _ hS (lv_sub hl [1, 0] rfl)
    exact L24 _ 0 iv1 (Nat.lt_succ_self _) (Nat.zero_le _) ⟨fun k => k, fun k hk => q4 k (by omega), clsTo_0 (fun _ _ => rfl), by rw [q3b]; congr 1; unfold nroot; rw [cnt_congr (g := fun _ => true) (fun i hi => by simp)]; exact (cnt_tt _).symm⟩ (by rw [q5 33 (by decide) (by decide) (by decide) (by decide)]; exact hw33) ⟨q3c, q3d, q3e⟩ (fun q x1 x2 x3 x4 x5 x6 x7 x8 x9 => q5 q x6 x7 x8 x9) _ _ _ hS (lv_sub hl [1, 0] rfl)
  · skip
    exact absurd hkn c_7
set_option maxRecDepth 100000 in
theorem ct_X6_workOutOrbitsU (l : Launch) (D : va_G) (cA : Nat → ClassId) (o : Nat → Int64) (ad ln : Nat → Nat) (n sz : Nat) (iv : Nat → Nat → Int32) (mc9 sc9 P c9 T : Nat) (pc9 : Nat → Nat) (Sg si : Nat → Nat → Nat) (hn : 68 ≤ n) (hln : ∀ k, ln k < 2 ^ 31) (hkn : iv 49 0 = 0) (hLn : lnOk ln P) (hc9 : iv 25 5 = nI c9) (hc4 : c9 ≤ 4) (hT0 : iv 25 1 = nI T) (hT1 : 0 < T) (hT3 : T ≤ 3) (hP : P ≤ 8) (hpc : ∀ i, i < c9 → iv 27 i = nI (pc9 i)) (hpi : inj pc9 P c9) (hP0 : iv 25 0 = nI P) (hP1 : iv 0 0 = nI P) (ha9 : iv 25 6 = nI (ff P c9)) (ht9 : iv 25 7 = nI (T ^ c9)) (hmc : iv 0 3 = nI mc9) (hmc6 : mc9 ≤ 6) (hgo : ∀ j, j < 6 → ∀ p, p < P → vp_in (iv (2 + 3 * j + 1) p) P) (h01 : ∀ j, iv 26 j = 0 ∨ iv 26 j = 1) (hsc : iv 0 5 = nI sc9) (hsc4 : sc9 ≤ 4) (hsy : ∀ j, j < sc9 → (∀ p, p < P → iv (21 + j) p = nI (Sg j p)) ∧ inj (Sg j) P P) (hsi : ∀ j, j < sc9 → goodAt iv P mc9 (21 + j) → symIx (Sg j) pc9 (si j) c9) (hw33 : ∀ p, p < P → vp_in (iv 33 p) P) : gMvx l yX6_workOutOrbits wsX6_workOutOrbits { frames := 4, cells := al (ln 50) (ff P c9 * T ^ c9) + al (ln 51) (ff P c9) + al (ln 52) (T ^ c9), slots := als (ln 50) (ff P c9 * T ^ c9) + als (ln 51) (ff P c9) + als (ln 52) (T ^ c9), locals := 97 } D cA o ad ln n sz iv [.ref (ad 0)] (al (ln 50) (ff P c9 * T ^ c9) + al (ln 51) (ff P c9) + al (ln 52) (T ^ c9)) (als (ln 50) (ff P c9 * T ^ c9) + als (ln 51) (ff P c9) + als (ln 52) (T ^ c9)) (fun ad' ln' iv' => (∀ i, i ≠ 50 → i ≠ 51 → i ≠ 52 → ad' i = ad i ∧ ln' i = ln i) ∧ (ln' 50 = max (ln 50) (ff P c9 * T ^ c9) ∧ ln' 51 = max (ln 51) (ff P c9) ∧ ln' 52 = max (ln 52) (T ^ c9)) ∧ (iv' 49 0 = 1 ∧ iv' 49 2 = nI (ff P c9 * T ^ c9)) ∧ (∃ lk, (∀ k, k < ff P c9 * T ^ c9 → iv' 50 k = nI (lk k)) ∧ clsTo lk (ff P c9 * T ^ c9) (fun j => imgF P T c9 (Sg j) (si j)) (fun j => goodAt iv P mc9 (21 + j)) sc9 ∧ iv' 49 1 = nI (nroot lk (ff P c9 * T ^ c9))) ∧ (∀ p, p < P → vp_in (iv' 33 p) P) ∧ ∀ q, q ≠ 28 → q ≠ 33 → q ≠ 34 → q ≠ 36 → q ≠ 37 → q ≠ 49 → q ≠ 50 → q ≠ 51 → q ≠ 52 → iv' q = iv q) := by
  refine Met.ofW (cc := cX6_workOutOrbits) (maxL := 2) (ret := none) (by decide) rfl ?_
  intro p e s m args below meth c s₁ B hml hv__
  obtain ⟨rfl, hv__⟩ := hv__
  obtain ⟨hsz, hS, hK, hN, hA⟩ := gS.entry hv__
  have hl := lv_entry ([.ref (ad 0)]) (n := 2) (Nat.le_of_ble_eq_true rfl)
  rw [lg_entry_eq]
  generalize (lg_sl ([.ref (ad 0)]) ++ List.replicate (2 - (lg_sl ([.ref (ad 0)])).length) Slot.unset).toArray = ls at hl ⊢
  exact bd_X6_workOutOrbitsU (mc9 := mc9) (sc9 := sc9) (P := P) (c9 := c9) (T := T) (pc9 := pc9) (Sg := Sg) (si := si) ⟨B.exec, B.bytes, hml, findClass_of_methodNamed B.named, atoms_spec (ws := wsX6_workOutOrbits) B.pre, B.returns, B.notSynchronized⟩ (Nat.le_refl _) (Nat.le_refl _) (Nat.le_of_eq (Nat.zero_add _)) (Nat.le_of_eq (Nat.zero_add _)) hK hN hA hn hln hkn hLn hc9 hc4 hT0 hT1 hT3 hP hpc hpi hP0 hP1 ha9 ht9 hmc hmc6 hgo h01 hsc hsc4 hsy hsi hw33 hS hl (fun ad' ln' iv' H locs ls pc hd hp hS => by rw [Nat.zero_add, Nat.zero_add]; exact gx_vretx (post := fun ad' ln' iv' => (∀ i, i ≠ 50 → i ≠ 51 → i ≠ 52 → ad' i = ad i ∧ ln' i = ln i) ∧ (ln' 50 = max (ln 50) (ff P c9 * T ^ c9) ∧ ln' 51 = max (ln 51) (ff P c9) ∧ ln' 52 = max (ln 52) (T ^ c9)) ∧ (iv' 49 0 = 1 ∧ iv' 49 2 = nI (ff P c9 * T ^ c9)) ∧ (∃ lk, (∀ k, k < ff P c9 * T ^ c9 → iv' 50 k = nI (lk k)) ∧ clsTo lk (ff P c9 * T ^ c9) (fun j => imgF P T c9 (Sg j) (si j)) (fun j => goodAt iv P mc9 (21 + j)) sc9 ∧ iv' 49 1 = nI (nroot lk (ff P c9 * T ^ c9))) ∧ (∀ p, p < P → vp_in (iv' 33 p) P) ∧ ∀ q, q ≠ 28 → q ≠ 33 → q ≠ 34 → q ≠ 36 → q ≠ 37 → q ≠ 49 → q ≠ 50 → q ≠ 51 → q ≠ 52 → iv' q = iv q) B.exec B.bytes B.returns B.notSynchronized hS hp hd)

set_option maxHeartbeats 1000000 in
set_option maxRecDepth 100000 in
theorem bd_X6_classesU {p : Program} {l : Launch} {e : Env} {R : Room} {s : State} {m : MethodId} {args : Array Value} {below : List Frame} {meth : Method} {c : Code} {H : Heap} {locs : List Loc} {cells slots : Nat} {Q : State → Prop} {ls : Array Slot} {D : va_G} {A : Nat → Prop} {H0 : Heap} {cA : Nat → ClassId} {o : Nat → Int64} {ad ln : Nat → Nat} {iv : Nat → Nat → Int32} {n : Nat} {mc9 sc9 P c9 T : Nat} {pc9 : Nat → Nat} {Sg si : Nat → Nat → Nat}
    (F : gF p s m meth c cX6_classes 1 RX6 wsX6_classes args (some .int)) (hRf : 5 ≤ R.frames) (hRl : 118 ≤ R.locals) (hRc : cells + (al (ln 50) (ff P c9 * T ^ c9) + al (ln 51) (ff P c9) + al (ln 52) (T ^ c9)) ≤ R.cells) (hRs : slots + (als (ln 50) (ff P c9 * T ^ c9) + als (ln 51) (ff P c9) + als (ln 52) (T ^ c9)) ≤ R.slots) (hK : va_K D vwCl (gT cA) s) (hN : NW s) (hA : ∀ q, H0.size ≤ q → A q) (hn : 68 ≤ n) (hln : ∀ k, ln k < 2 ^ 31) (hkn : iv 49 0 = 0) (hLn : lnOk ln P) (hc9 : iv 25 5 = nI c9) (hc4 : c9 ≤ 4) (hT0 : iv 25 1 = nI T) (hT1 : 0 < T) (hT3 : T ≤ 3) (hP : P ≤ 8) (hpc : ∀ i, i < c9 → iv 27 i = nI (pc9 i)) (hpi : inj pc9 P c9) (hP0 : iv 25 0 = nI P) (hP1 : iv 0 0 = nI P) (ha9 : iv 25 6 = nI (ff P c9)) (ht9 : iv 25 7 = nI (T ^ c9)) (hmc : iv 0 3 = nI mc9) (hmc6 : mc9 ≤ 6) (hgo : ∀ j, j < 6 → ∀ p, p < P → vp_in (iv (2 + 3 * j + 1) p) P) (h01 : ∀ j, iv 26 j = 0 ∨ iv 26 j = 1) (hsc : iv 0 5 = nI sc9) (hsc4 : sc9 ≤ 4) (hsy : ∀ j, j < sc9 → (∀ p, p < P → iv (21 + j) p = nI (Sg j p)) ∧ inj (Sg j) P P) (hsi : ∀ j, j < sc9 → goodAt iv P mc9 (21 + j) → symIx (Sg j) pc9 (si j) c9) (hw33 : ∀ p, p < P → vp_in (iv 33 p) P)
    (hS : gS D cA A H0 o ad ln iv n H locs) (hl : lv_has ls 1 [(0, .ref (ad 0))])
    (kret : ∀ (r : Int32) (ad' ln' : Nat → Nat) (iv' : Nat → Nat → Int32) (H : Heap) (locs : List Loc) (ls : Array Slot) (pc : Nat), decode cX6_classes pc = .ok (.ireturn, 1) → (r = iv' 49 1 ∧ (∀ i, i ≠ 50 → i ≠ 51 → i ≠ 52 → ad' i = ad i ∧ ln' i = ln i) ∧ (ln' 50 = max (ln 50) (ff P c9 * T ^ c9) ∧ ln' 51 = max (ln 51) (ff P c9) ∧ ln' 52 = max (ln 52) (T ^ c9)) ∧ (iv' 49 0 = 1 ∧ iv' 49 2 = nI (ff P c9 * T ^ c9)) ∧ (∃ lk, (∀ k, k < ff P c9 * T ^ c9 → iv' 50 k = nI (lk k)) ∧ clsTo lk (ff P c9 * T ^ c9) (fun j => imgF P T c9 (Sg j) (si j)) (fun j => goodAt iv P mc9 (21 + j)) sc9 ∧ iv' 49 1 = nI (nroot lk (ff P c9 * T ^ c9))) ∧ (∀ p, p < P → vp_in (iv' 33 p) P) ∧ ∀ q, q ≠ 28 → q ≠ 33 → q ≠ 34 → q ≠ 36 → q ≠ 37 → q ≠ 49 → q ≠ 50 → q ≠ 51 → q ≠ 52 → iv' q = iv q) → gS D cA A H0 o ad' ln' iv' n H locs → W p l e R s m args below meth c H locs (cells + (al (ln 50) (ff P c9 * T ^ c9) + al (ln 51) (ff P c9) + al (ln 52) (T ^ c9))) (slots + (als (ln 50) (ff P c9 * T ^ c9) + als (ln 51) (ff P c9) + als (ln 52) (T ^ c9))) Q (F0 m pc ls [.int r])) :
    W p l e R s m args below meth c H locs cells slots Q (F0 m 0 ls []) := by
  obtain ⟨hx, hb, hml, hown, hts, hr, hlocks⟩ := F
  refine lv_aload_n hx hb dX6_classes_0 rfl (lv_at hl 0 rfl) ?_
  refine gc_vxM (ct_X6_workOutOrbitsU l D cA o ad ln n H.size iv (mc9 := mc9) (sc9 := sc9) (P := P) (c9 := c9) (T := T) (pc9 := pc9) (Sg := Sg) (si := si) hn hln hkn hLn hc9 hc4 hT0 hT1 hT3 hP hpc hpi hP0 hP1 ha9 ht9 hmc hmc6 hgo h01 hsc hsc4 hsy hsi hw33) (fun hM => (gx_runV (As := []) (rest := []) ⟨hx, hb, hml, hown, hts⟩ hK hN hS 0 (by omega) rfl rfl hM (cwV 0 hts gX6_classes_X6_workOutOrbits rfl rfl rfl (by decide +kernel) ⟨gle hRf rfl, gle hRl rfl⟩) rfl rfl hl.1 rfl (lv_room (Nat.le_of_ble_eq_true rfl)) dX6_classes_1 ⟨by omega, by omega⟩)) hS hA (fun ad1 ln1 iv1 H locs hp1 hS => ?_)
  have hl : lv_has ls 1 [(0, .ref (ad1 0))] := by rw [(hp1.1 0 (by decide) (by decide) (by decide)).1]; exact hl
  refine lv_aload_n hx hb dX6_classes_4 rfl (lv_at hl 0 rfl) ?_
  refine gx_get (ci := 9) (v := .ref (ad1 49)) (C := RX6) (T := TX6) (N := 15) hx hb hts (fun _ h => inX6_classes_RX6 h) hown hK hS 0 (by omega) rfl rfl 14 (by decide) (hts (.fieldLink RX6 86 "CosetTables" "orbits" "LCosetTables$Orbits;") (by decide +kernel)) rfl dX6_classes_5 ?_
  refine gx_getN (ci := 5) (v := .int (iv1 49 1)) (C := RX2) (T := TX2) (N := 8) hx hb hts (fun _ h => inX6_classes_RX2 h) hown hK hS 49 (by omega) rfl rfl 1 (by decide) (nf_RX6_217 hN) rfl dX6_classes_8 ?_
  refine W.widen (k := cells + (al (ln 50) (ff P c9 * T ^ c9) + al (ln 51) (ff P c9) + al (ln 52) (T ^ c9))) (n := slots + (als (ln 50) (ff P c9 * T ^ c9) + als (ln 51) (ff P c9) + als (ln 52) (T ^ c9))) (by omega) (by omega) ?_
  exact kret _ ad1 ln1 iv1 _ _ _ _ dX6_classes_11 (⟨rfl, hp1⟩) hS
set_option maxRecDepth 100000 in
theorem ct_X6_classesU (l : Launch) (D : va_G) (cA : Nat → ClassId) (o : Nat → Int64) (ad ln : Nat → Nat) (n sz : Nat) (iv : Nat → Nat → Int32) (mc9 sc9 P c9 T : Nat) (pc9 : Nat → Nat) (Sg si : Nat → Nat → Nat) (hn : 68 ≤ n) (hln : ∀ k, ln k < 2 ^ 31) (hkn : iv 49 0 = 0) (hLn : lnOk ln P) (hc9 : iv 25 5 = nI c9) (hc4 : c9 ≤ 4) (hT0 : iv 25 1 = nI T) (hT1 : 0 < T) (hT3 : T ≤ 3) (hP : P ≤ 8) (hpc : ∀ i, i < c9 → iv 27 i = nI (pc9 i)) (hpi : inj pc9 P c9) (hP0 : iv 25 0 = nI P) (hP1 : iv 0 0 = nI P) (ha9 : iv 25 6 = nI (ff P c9)) (ht9 : iv 25 7 = nI (T ^ c9)) (hmc : iv 0 3 = nI mc9) (hmc6 : mc9 ≤ 6) (hgo : ∀ j, j < 6 → ∀ p, p < P → vp_in (iv (2 + 3 * j + 1) p) P) (h01 : ∀ j, iv 26 j = 0 ∨ iv 26 j = 1) (hsc : iv 0 5 = nI sc9) (hsc4 : sc9 ≤ 4) (hsy : ∀ j, j < sc9 → (∀ p, p < P → iv (21 + j) p = nI (Sg j p)) ∧ inj (Sg j) P P) (hsi : ∀ j, j < sc9 → goodAt iv P mc9 (21 + j) → symIx (Sg j) pc9 (si j) c9) (hw33 : ∀ p, p < P → vp_in (iv 33 p) P) : gMix l yX6_classes wsX6_classes { frames := 5, cells := al (ln 50) (ff P c9 * T ^ c9) + al (ln 51) (ff P c9) + al (ln 52) (T ^ c9), slots := als (ln 50) (ff P c9 * T ^ c9) + als (ln 51) (ff P c9) + als (ln 52) (T ^ c9), locals := 118 } D cA o ad ln n sz iv [.ref (ad 0)] (al (ln 50) (ff P c9 * T ^ c9) + al (ln 51) (ff P c9) + al (ln 52) (T ^ c9)) (als (ln 50) (ff P c9 * T ^ c9) + als (ln 51) (ff P c9) + als (ln 52) (T ^ c9)) (fun (r : Int32) ad' ln' iv' => r = iv' 49 1 ∧ (∀ i, i ≠ 50 → i ≠ 51 → i ≠ 52 → ad' i = ad i ∧ ln' i = ln i) ∧ (ln' 50 = max (ln 50) (ff P c9 * T ^ c9) ∧ ln' 51 = max (ln 51) (ff P c9) ∧ ln' 52 = max (ln 52) (T ^ c9)) ∧ (iv' 49 0 = 1 ∧ iv' 49 2 = nI (ff P c9 * T ^ c9)) ∧ (∃ lk, (∀ k, k < ff P c9 * T ^ c9 → iv' 50 k = nI (lk k)) ∧ clsTo lk (ff P c9 * T ^ c9) (fun j => imgF P T c9 (Sg j) (si j)) (fun j => goodAt iv P mc9 (21 + j)) sc9 ∧ iv' 49 1 = nI (nroot lk (ff P c9 * T ^ c9))) ∧ (∀ p, p < P → vp_in (iv' 33 p) P) ∧ ∀ q, q ≠ 28 → q ≠ 33 → q ≠ 34 → q ≠ 36 → q ≠ 37 → q ≠ 49 → q ≠ 50 → q ≠ 51 → q ≠ 52 → iv' q = iv q) := by
  refine Met.ofW (cc := cX6_classes) (maxL := 1) (ret := (some .int)) (by decide) rfl ?_
  intro p e s m args below meth c s₁ B hml hv__
  obtain ⟨rfl, hv__⟩ := hv__
  obtain ⟨hsz, hS, hK, hN, hA⟩ := gS.entry hv__
  have hl := lv_entry ([.ref (ad 0)]) (n := 1) (Nat.le_of_ble_eq_true rfl)
  rw [lg_entry_eq]
  generalize (lg_sl ([.ref (ad 0)]) ++ List.replicate (1 - (lg_sl ([.ref (ad 0)])).length) Slot.unset).toArray = ls at hl ⊢
  exact bd_X6_classesU (mc9 := mc9) (sc9 := sc9) (P := P) (c9 := c9) (T := T) (pc9 := pc9) (Sg := Sg) (si := si) ⟨B.exec, B.bytes, hml, findClass_of_methodNamed B.named, atoms_spec (ws := wsX6_classes) B.pre, B.returns, B.notSynchronized⟩ (Nat.le_refl _) (Nat.le_refl _) (Nat.le_of_eq (Nat.zero_add _)) (Nat.le_of_eq (Nat.zero_add _)) hK hN hA hn hln hkn hLn hc9 hc4 hT0 hT1 hT3 hP hpc hpi hP0 hP1 ha9 ht9 hmc hmc6 hgo h01 hsc hsc4 hsy hsi hw33 hS hl (fun r ad' ln' iv' H locs ls pc hd hp hS => by rw [Nat.zero_add, Nat.zero_add]; exact gx_iretx (post := fun (r : Int32) ad' ln' iv' => r = iv' 49 1 ∧ (∀ i, i ≠ 50 → i ≠ 51 → i ≠ 52 → ad' i = ad i ∧ ln' i = ln i) ∧ (ln' 50 = max (ln 50) (ff P c9 * T ^ c9) ∧ ln' 51 = max (ln 51) (ff P c9) ∧ ln' 52 = max (ln 52) (T ^ c9)) ∧ (iv' 49 0 = 1 ∧ iv' 49 2 = nI (ff P c9 * T ^ c9)) ∧ (∃ lk, (∀ k, k < ff P c9 * T ^ c9 → iv' 50 k = nI (lk k)) ∧ clsTo lk (ff P c9 * T ^ c9) (fun j => imgF P T c9 (Sg j) (si j)) (fun j => goodAt iv P mc9 (21 + j)) sc9 ∧ iv' 49 1 = nI (nroot lk (ff P c9 * T ^ c9))) ∧ (∀ p, p < P → vp_in (iv' 33 p) P) ∧ ∀ q, q ≠ 28 → q ≠ 33 → q ≠ 34 → q ≠ 36 → q ≠ 37 → q ≠ 49 → q ≠ 50 → q ≠ 51 → q ≠ 52 → iv' q = iv q) B.exec B.bytes B.returns B.notSynchronized hS hp hd)

theorem inX6_least_RX2 : ∀ {w : Cond}, w ∈ u_ws RX2 TX2 8 → w ∈ wsX6_least := fun {w} h => by first | exact List.mem_cons_of_mem _ (List.mem_append_right _ h) | (revert h; revert w; show ∀ w ∈ u_ws RX2 TX2 8, w ∈ wsX6_least; decide +kernel)
theorem inX6_least_RX6 : ∀ {w : Cond}, w ∈ u_ws RX6 TX6 15 → w ∈ wsX6_least := fun {w} h => by first | exact List.mem_cons_of_mem _ (List.mem_append_right _ h) | (revert h; revert w; show ∀ w ∈ u_ws RX6 TX6 15, w ∈ wsX6_least; decide +kernel)
set_option maxHeartbeats 1000000 in
set_option maxRecDepth 100000 in
theorem bd_X6_leastK {p : Program} {l : Launch} {e : Env} {R : Room} {s : State} {m : MethodId} {args : Array Value} {below : List Frame} {meth : Method} {c : Code} {H : Heap} {locs : List Loc} {cells slots : Nat} {Q : State → Prop} {ls : Array Slot} {D : va_G} {A : Nat → Prop} {H0 : Heap} {cA : Nat → ClassId} {o : Nat → Int64} {ad ln : Nat → Nat} {iv : Nat → Nat → Int32} {n : Nat} {x P c9 T : Nat} {lk : Nat → Nat}
    (F : gF p s m meth c cX6_least 2 RX6 wsX6_least args (some .int)) (hRf : 5 ≤ R.frames) (hRl : 118 ≤ R.locals) (hRc : cells ≤ R.cells) (hRs : slots ≤ R.slots) (hK : va_K D vwCl (gT cA) s) (hN : NW s) (hA : ∀ q, H0.size ≤ q → A q) (hn : 68 ≤ n) (hln : ∀ k, ln k < 2 ^ 31) (hkn : ¬ iv 49 0 = 0) (hc4 : c9 ≤ 4) (hT3 : T ≤ 3) (hP : P ≤ 8) (ha9 : iv 25 6 = nI (ff P c9)) (ht9 : iv 25 7 = nI (T ^ c9)) (hs : iv 49 2 = nI (ff P c9 * T ^ c9)) (hl9 : ff P c9 * T ^ c9 ≤ ln 50) (hlk : ∀ k, k < ff P c9 * T ^ c9 → iv 50 k = nI (lk k)) (hd9 : dn lk (ff P c9 * T ^ c9)) (hx9 : x < ff P c9 * T ^ c9)
    (hS : gS D cA A H0 o ad ln iv n H locs) (hl : lv_has ls 2 [(0, .ref (ad 0)), (1, .int (nI x))])
    (kret : ∀ (r : Int32) (iv' : Nat → Nat → Int32) (H : Heap) (locs : List Loc) (ls : Array Slot) (pc : Nat), decode cX6_least pc = .ok (.ireturn, 1) → (r = nI (root lk x) ∧ ∃ lk', (∀ k, k < ff P c9 * T ^ c9 → iv' 50 k = nI (lk' k)) ∧ dn lk' (ff P c9 * T ^ c9) ∧ (∀ k, k < ff P c9 * T ^ c9 → root lk' k = root lk k) ∧ ∀ q, q ≠ 50 → iv' q = iv q) → gS D cA A H0 o ad ln iv' n H locs → W p l e R s m args below meth c H locs cells slots Q (F0 m pc ls [.int r])) :
    W p l e R s m args below meth c H locs cells slots Q (F0 m 0 ls []) := by
  obtain ⟨hx, hb, hml, hown, hts, hr, hlocks⟩ := F
  have hff := ff_le4 hP hc4
  have hpw := pw_le4 hT3 hc4
  have hfw := Nat.mul_le_mul hff hpw
  refine lv_iload_n hx hb dX6_least_0 rfl (lv_at hl 1 rfl) ?_
  refine lv_aload_n hx hb dX6_least_1 rfl (lv_at hl 0 rfl) ?_
  refine gx_get (ci := 9) (v := .ref (ad 25)) (C := RX6) (T := TX6) (N := 15) hx hb hts (fun _ h => inX6_least_RX6 h) hown hK hS 0 (by omega) rfl rfl 6 (by decide) (hts (.fieldLink RX6 42 "CosetTables" "numbering" "LCosetTables$Numbering;") (by decide +kernel)) rfl dX6_least_2 ?_
  refine gc_i (gx_runV (As := []) (rest := [.int (nI x)]) ⟨hx, hb, hml, hown, hts⟩ hK hN hS 25 (by omega) rfl rfl (ct_X1_stateCount l D cA o ad ln n H.size iv hn hln) (cwV 0 hts gX6_least_X1_stateCount rfl rfl rfl (by decide +kernel) ⟨gle hRf rfl, gle hRl rfl⟩) rfl rfl hl.1 rfl (lv_room (Nat.le_of_ble_eq_true rfl)) dX6_least_5 ⟨hRc, hRs⟩) hS hA (fun y iv1 H locs hp1 hS => ?_)
  obtain ⟨ey, ev1⟩ := hp1
  rw [ev1] at hS
  refine gx_as (y := nI (ff P c9 * T ^ c9)) (by rw [ey, ha9, ht9]; exact pk_mul _ _) ?_
  skip
  refine gc_v (gx_runS (As := [.int (nI x), .int (nI (ff P c9 * T ^ c9))]) (rest := []) ⟨hx, hb, hml, hown, hts⟩ hK hN hS (ct_X6_requireIndex l D cA o ad ln n H.size iv (a := x) (b := ff P c9 * T ^ c9) hn hln (by omega) (by omega)) (va_cwS 2 hts gX6_least_X6_requireIndex rfl rfl rfl (by decide +kernel) ⟨gle hRf rfl, gle hRl rfl⟩) rfl rfl hl.1 rfl (lv_room (Nat.le_of_ble_eq_true rfl)) dX6_least_8 ⟨hRc, hRs⟩) hS hA (fun iv2 H locs hp2 hS => ?_)
  rw [hp2] at hS
  skip
  refine lv_aload_n hx hb dX6_least_11 rfl (lv_at hl 0 rfl) ?_
  refine gc_v (gx_runV (As := []) (rest := []) ⟨hx, hb, hml, hown, hts⟩ hK hN hS 0 (by omega) rfl rfl (ct_X6_workOutOrbitsK l D cA o ad ln n H.size iv hn hln hkn) (cwV 0 hts gX6_least_X6_workOutOrbits rfl rfl rfl (by decide +kernel) ⟨gle hRf rfl, gle hRl rfl⟩) rfl rfl hl.1 rfl (lv_room (Nat.le_of_ble_eq_true rfl)) dX6_least_12 ⟨hRc, hRs⟩) hS hA (fun iv3 H locs hp3 hS => ?_)
  rw [hp3] at hS
  skip
  refine lv_aload_n hx hb dX6_least_15 rfl (lv_at hl 0 rfl) ?_
  refine gx_get (ci := 9) (v := .ref (ad 49)) (C := RX6) (T := TX6) (N := 15) hx hb hts (fun _ h => inX6_least_RX6 h) hown hK hS 0 (by omega) rfl rfl 14 (by decide) (hts (.fieldLink RX6 86 "CosetTables" "orbits" "LCosetTables$Orbits;") (by decide +kernel)) rfl dX6_least_16 ?_
  refine lv_iload_n hx hb dX6_least_19 rfl (lv_at hl 1 rfl) ?_
  refine gc_i (gx_runV (As := [.int (nI x)]) (rest := []) ⟨hx, hb, hml, hown, hts⟩ hK hN hS 49 (by omega) rfl rfl (ct_X2_root l D cA o ad ln n H.size iv (x := x) (S := ff P c9 * T ^ c9) (lk := lk) hn hln hs (by omega) hl9 hx9 hlk hd9) (cwV 1 hts gX6_least_X2_root rfl rfl rfl (by decide +kernel) ⟨gle hRf rfl, gle hRl rfl⟩) rfl rfl hl.1 rfl (lv_room (Nat.le_of_ble_eq_true rfl)) dX6_least_20 ⟨hRc, hRs⟩) hS hA (fun z iv4 H locs hp4 hS => ?_)
  exact kret _ iv4 _ _ _ _ dX6_least_23 (hp4) hS
set_option maxRecDepth 100000 in
theorem ct_X6_leastK (l : Launch) (D : va_G) (cA : Nat → ClassId) (o : Nat → Int64) (ad ln : Nat → Nat) (n sz : Nat) (iv : Nat → Nat → Int32) (x P c9 T : Nat) (lk : Nat → Nat) (hn : 68 ≤ n) (hln : ∀ k, ln k < 2 ^ 31) (hkn : ¬ iv 49 0 = 0) (hc4 : c9 ≤ 4) (hT3 : T ≤ 3) (hP : P ≤ 8) (ha9 : iv 25 6 = nI (ff P c9)) (ht9 : iv 25 7 = nI (T ^ c9)) (hs : iv 49 2 = nI (ff P c9 * T ^ c9)) (hl9 : ff P c9 * T ^ c9 ≤ ln 50) (hlk : ∀ k, k < ff P c9 * T ^ c9 → iv 50 k = nI (lk k)) (hd9 : dn lk (ff P c9 * T ^ c9)) (hx9 : x < ff P c9 * T ^ c9) : gMi l yX6_least wsX6_least { frames := 5, cells := 0, slots := 0, locals := 118 } D cA o ad ln n sz iv [.ref (ad 0), .int (nI x)] (fun (r : Int32) iv' => r = nI (root lk x) ∧ ∃ lk', (∀ k, k < ff P c9 * T ^ c9 → iv' 50 k = nI (lk' k)) ∧ dn lk' (ff P c9 * T ^ c9) ∧ (∀ k, k < ff P c9 * T ^ c9 → root lk' k = root lk k) ∧ ∀ q, q ≠ 50 → iv' q = iv q) := by
  refine Met.ofW (cc := cX6_least) (maxL := 2) (ret := (some .int)) (by decide) rfl ?_
  intro p e s m args below meth c s₁ B hml hv__
  obtain ⟨rfl, hv__⟩ := hv__
  obtain ⟨hsz, hS, hK, hN, hA⟩ := gS.entry hv__
  have hl := lv_entry ([.ref (ad 0), .int (nI x)]) (n := 2) (Nat.le_of_ble_eq_true rfl)
  rw [lg_entry_eq]
  generalize (lg_sl ([.ref (ad 0), .int (nI x)]) ++ List.replicate (2 - (lg_sl ([.ref (ad 0), .int (nI x)])).length) Slot.unset).toArray = ls at hl ⊢
  exact bd_X6_leastK (x := x) (P := P) (c9 := c9) (T := T) (lk := lk) ⟨B.exec, B.bytes, hml, findClass_of_methodNamed B.named, atoms_spec (ws := wsX6_least) B.pre, B.returns, B.notSynchronized⟩ (Nat.le_refl _) (Nat.le_refl _) (Nat.le_refl _) (Nat.le_refl _) hK hN hA hn hln hkn hc4 hT3 hP ha9 ht9 hs hl9 hlk hd9 hx9 hS hl (fun r iv' H locs ls pc hd hp hS => gx_iret B.exec B.bytes B.returns B.notSynchronized hS hp hd)

set_option maxHeartbeats 1000000 in
set_option maxRecDepth 100000 in
theorem bd_X6_leastU {p : Program} {l : Launch} {e : Env} {R : Room} {s : State} {m : MethodId} {args : Array Value} {below : List Frame} {meth : Method} {c : Code} {H : Heap} {locs : List Loc} {cells slots : Nat} {Q : State → Prop} {ls : Array Slot} {D : va_G} {A : Nat → Prop} {H0 : Heap} {cA : Nat → ClassId} {o : Nat → Int64} {ad ln : Nat → Nat} {iv : Nat → Nat → Int32} {n : Nat} {x mc9 sc9 P c9 T : Nat} {pc9 : Nat → Nat} {Sg si : Nat → Nat → Nat}
    (F : gF p s m meth c cX6_least 2 RX6 wsX6_least args (some .int)) (hRf : 5 ≤ R.frames) (hRl : 118 ≤ R.locals) (hRc : cells + (al (ln 50) (ff P c9 * T ^ c9) + al (ln 51) (ff P c9) + al (ln 52) (T ^ c9)) ≤ R.cells) (hRs : slots + (als (ln 50) (ff P c9 * T ^ c9) + als (ln 51) (ff P c9) + als (ln 52) (T ^ c9)) ≤ R.slots) (hK : va_K D vwCl (gT cA) s) (hN : NW s) (hA : ∀ q, H0.size ≤ q → A q) (hn : 68 ≤ n) (hln : ∀ k, ln k < 2 ^ 31) (hkn : iv 49 0 = 0) (hLn : lnOk ln P) (hc9 : iv 25 5 = nI c9) (hc4 : c9 ≤ 4) (hT0 : iv 25 1 = nI T) (hT1 : 0 < T) (hT3 : T ≤ 3) (hP : P ≤ 8) (hpc : ∀ i, i < c9 → iv 27 i = nI (pc9 i)) (hpi : inj pc9 P c9) (hP0 : iv 25 0 = nI P) (hP1 : iv 0 0 = nI P) (ha9 : iv 25 6 = nI (ff P c9)) (ht9 : iv 25 7 = nI (T ^ c9)) (hmc : iv 0 3 = nI mc9) (hmc6 : mc9 ≤ 6) (hgo : ∀ j, j < 6 → ∀ p, p < P → vp_in (iv (2 + 3 * j + 1) p) P) (h01 : ∀ j, iv 26 j = 0 ∨ iv 26 j = 1) (hsc : iv 0 5 = nI sc9) (hsc4 : sc9 ≤ 4) (hsy : ∀ j, j < sc9 → (∀ p, p < P → iv (21 + j) p = nI (Sg j p)) ∧ inj (Sg j) P P) (hsi : ∀ j, j < sc9 → goodAt iv P mc9 (21 + j) → symIx (Sg j) pc9 (si j) c9) (hw33 : ∀ p, p < P → vp_in (iv 33 p) P) (hx9 : x < ff P c9 * T ^ c9)
    (hS : gS D cA A H0 o ad ln iv n H locs) (hl : lv_has ls 2 [(0, .ref (ad 0)), (1, .int (nI x))])
    (kret : ∀ (r : Int32) (ad' ln' : Nat → Nat) (iv' : Nat → Nat → Int32) (H : Heap) (locs : List Loc) (ls : Array Slot) (pc : Nat), decode cX6_least pc = .ok (.ireturn, 1) → ((∀ i, i ≠ 50 → i ≠ 51 → i ≠ 52 → ad' i = ad i ∧ ln' i = ln i) ∧ (ln' 50 = max (ln 50) (ff P c9 * T ^ c9) ∧ ln' 51 = max (ln 51) (ff P c9) ∧ ln' 52 = max (ln 52) (T ^ c9)) ∧ (iv' 49 0 = 1 ∧ iv' 49 2 = nI (ff P c9 * T ^ c9)) ∧ (∃ lk, (∀ k, k < ff P c9 * T ^ c9 → iv' 50 k = nI (lk k)) ∧ clsTo lk (ff P c9 * T ^ c9) (fun j => imgF P T c9 (Sg j) (si j)) (fun j => goodAt iv P mc9 (21 + j)) sc9 ∧ iv' 49 1 = nI (nroot lk (ff P c9 * T ^ c9)) ∧ r = nI (root lk x)) ∧ (∀ p, p < P → vp_in (iv' 33 p) P) ∧ ∀ q, q ≠ 28 → q ≠ 33 → q ≠ 34 → q ≠ 36 → q ≠ 37 → q ≠ 49 → q ≠ 50 → q ≠ 51 → q ≠ 52 → iv' q = iv q) → gS D cA A H0 o ad' ln' iv' n H locs → W p l e R s m args below meth c H locs (cells + (al (ln 50) (ff P c9 * T ^ c9) + al (ln 51) (ff P c9) + al (ln 52) (T ^ c9))) (slots + (als (ln 50) (ff P c9 * T ^ c9) + als (ln 51) (ff P c9) + als (ln 52) (T ^ c9))) Q (F0 m pc ls [.int r])) :
    W p l e R s m args below meth c H locs cells slots Q (F0 m 0 ls []) := by
  obtain ⟨hx, hb, hml, hown, hts, hr, hlocks⟩ := F
  have hff := ff_le4 hP hc4
  have hpw := pw_le4 hT3 hc4
  have hfw := Nat.mul_le_mul hff hpw
  refine lv_iload_n hx hb dX6_least_0 rfl (lv_at hl 1 rfl) ?_
  refine lv_aload_n hx hb dX6_least_1 rfl (lv_at hl 0 rfl) ?_
  refine gx_get (ci := 9) (v := .ref (ad 25)) (C := RX6) (T := TX6) (N := 15) hx hb hts (fun _ h => inX6_least_RX6 h) hown hK hS 0 (by omega) rfl rfl 6 (by decide) (hts (.fieldLink RX6 42 "CosetTables" "numbering" "LCosetTables$Numbering;") (by decide +kernel)) rfl dX6_least_2 ?_
  refine gc_i (gx_runV (As := []) (rest := [.int (nI x)]) ⟨hx, hb, hml, hown, hts⟩ hK hN hS 25 (by omega) rfl rfl (ct_X1_stateCount l D cA o ad ln n H.size iv hn hln) (cwV 0 hts gX6_least_X1_stateCount rfl rfl rfl (by decide +kernel) ⟨gle hRf rfl, gle hRl rfl⟩) rfl rfl hl.1 rfl (lv_room (Nat.le_of_ble_eq_true rfl)) dX6_least_5 ⟨by omega, by omega⟩) hS hA (fun y iv1 H locs hp1 hS => ?_)
  obtain ⟨ey, ev1⟩ := hp1
  rw [ev1] at hS
  refine gx_as (y := nI (ff P c9 * T ^ c9)) (by rw [ey, ha9, ht9]; exact pk_mul _ _) ?_
  skip
  refine gc_v (gx_runS (As := [.int (nI x), .int (nI (ff P c9 * T ^ c9))]) (rest := []) ⟨hx, hb, hml, hown, hts⟩ hK hN hS (ct_X6_requireIndex l D cA o ad ln n H.size iv (a := x) (b := ff P c9 * T ^ c9) hn hln (by omega) (by omega)) (va_cwS 2 hts gX6_least_X6_requireIndex rfl rfl rfl (by decide +kernel) ⟨gle hRf rfl, gle hRl rfl⟩) rfl rfl hl.1 rfl (lv_room (Nat.le_of_ble_eq_true rfl)) dX6_least_8 ⟨by omega, by omega⟩) hS hA (fun iv2 H locs hp2 hS => ?_)
  rw [hp2] at hS
  skip
  refine lv_aload_n hx hb dX6_least_11 rfl (lv_at hl 0 rfl) ?_
  refine gc_vxM (ct_X6_workOutOrbitsU l D cA o ad ln n H.size iv (mc9 := mc9) (sc9 := sc9) (P := P) (c9 := c9) (T := T) (pc9 := pc9) (Sg := Sg) (si := si) hn hln hkn hLn hc9 hc4 hT0 hT1 hT3 hP hpc hpi hP0 hP1 ha9 ht9 hmc hmc6 hgo h01 hsc hsc4 hsy hsi hw33) (fun hM => (gx_runV (As := []) (rest := []) ⟨hx, hb, hml, hown, hts⟩ hK hN hS 0 (by omega) rfl rfl hM (cwV 0 hts gX6_least_X6_workOutOrbits rfl rfl rfl (by decide +kernel) ⟨gle hRf rfl, gle hRl rfl⟩) rfl rfl hl.1 rfl (lv_room (Nat.le_of_ble_eq_true rfl)) dX6_least_12 ⟨by omega, by omega⟩)) hS hA (fun ad1 ln1 iv3 H locs hp3 hS => ?_)
  obtain ⟨q1, ⟨q2a, q2b, q2c⟩, ⟨q3a, q3b⟩, ⟨lk, q4a, q4b, q4c⟩, q5, q6⟩ := hp3
  have hln0 := hln
  have hln : ∀ q, ln1 q < 2 ^ 31 := by
    intro q
    by_cases e1 : q = 50
    · have := hln0 50; rw [e1, q2a]; omega
    by_cases e2 : q = 51
    · have := hln0 51; rw [e2, q2b]; omega
    by_cases e3 : q = 52
    · have := hln0 52; rw [e3, q2c]; omega
    rw [(q1 q e1 e2 e3).2]; exact hln0 q
  have hl : lv_has ls 2 [(0, .ref (ad1 0)), (1, .int (nI x))] := by rw [(q1 0 (by decide) (by decide) (by decide)).1]; exact hl
  refine lv_aload_n hx hb dX6_least_15 rfl (lv_at hl 0 rfl) ?_
  refine gx_get (ci := 9) (v := .ref (ad1 49)) (C := RX6) (T := TX6) (N := 15) hx hb hts (fun _ h => inX6_least_RX6 h) hown hK hS 0 (by omega) rfl rfl 14 (by decide) (hts (.fieldLink RX6 86 "CosetTables" "orbits" "LCosetTables$Orbits;") (by decide +kernel)) rfl dX6_least_16 ?_
  refine lv_iload_n hx hb dX6_least_19 rfl (lv_at hl 1 rfl) ?_
  refine gc_i (gx_runV (As := [.int (nI x)]) (rest := []) ⟨hx, hb, hml, hown, hts⟩ hK hN hS 49 (by omega) rfl rfl (ct_X2_root l D cA o ad1 ln1 n H.size iv3 (x := x) (S := ff P c9 * T ^ c9) (lk := lk) hn hln q3b (by omega) (by omega) hx9 q4a q4b.1) (cwV 1 hts gX6_least_X2_root rfl rfl rfl (by decide +kernel) ⟨gle hRf rfl, gle hRl rfl⟩) rfl rfl hl.1 rfl (lv_room (Nat.le_of_ble_eq_true rfl)) dX6_least_20 ⟨by omega, by omega⟩) hS hA (fun z iv4 H locs hp4 hS => ?_)
  obtain ⟨e1, lk2, e2, e3, e4, e5⟩ := hp4
  refine W.widen (k := cells + (al (ln 50) (ff P c9 * T ^ c9) + al (ln 51) (ff P c9) + al (ln 52) (T ^ c9))) (n := slots + (als (ln 50) (ff P c9 * T ^ c9) + als (ln 51) (ff P c9) + als (ln 52) (T ^ c9))) (by omega) (by omega) ?_
  exact kret _ ad1 ln1 iv4 _ _ _ _ dX6_least_23 (⟨q1, ⟨q2a, q2b, q2c⟩, ⟨by rw [e5 49 (by decide)]; exact q3a, by rw [e5 49 (by decide)]; exact q3b⟩, ⟨lk2, e2, ⟨e3, fun x y hx hy => by rw [e4 x hx, e4 y hy]; exact q4b.2 x y hx hy⟩, by rw [e5 49 (by decide), q4c, nroot_congr q4b.1 e3 (fun k hk => (e4 k hk).symm)], by rw [e1, e4 x hx9]⟩, by rw [e5 33 (by decide)]; exact q5, fun q x1 x2 x3 x4 x5 x6 x7 x8 x9 => by rw [e5 q x7, q6 q x1 x2 x3 x4 x5 x6 x7 x8 x9]⟩) hS
set_option maxRecDepth 100000 in
theorem ct_X6_leastU (l : Launch) (D : va_G) (cA : Nat → ClassId) (o : Nat → Int64) (ad ln : Nat → Nat) (n sz : Nat) (iv : Nat → Nat → Int32) (x mc9 sc9 P c9 T : Nat) (pc9 : Nat → Nat) (Sg si : Nat → Nat → Nat) (hn : 68 ≤ n) (hln : ∀ k, ln k < 2 ^ 31) (hkn : iv 49 0 = 0) (hLn : lnOk ln P) (hc9 : iv 25 5 = nI c9) (hc4 : c9 ≤ 4) (hT0 : iv 25 1 = nI T) (hT1 : 0 < T) (hT3 : T ≤ 3) (hP : P ≤ 8) (hpc : ∀ i, i < c9 → iv 27 i = nI (pc9 i)) (hpi : inj pc9 P c9) (hP0 : iv 25 0 = nI P) (hP1 : iv 0 0 = nI P) (ha9 : iv 25 6 = nI (ff P c9)) (ht9 : iv 25 7 = nI (T ^ c9)) (hmc : iv 0 3 = nI mc9) (hmc6 : mc9 ≤ 6) (hgo : ∀ j, j < 6 → ∀ p, p < P → vp_in (iv (2 + 3 * j + 1) p) P) (h01 : ∀ j, iv 26 j = 0 ∨ iv 26 j = 1) (hsc : iv 0 5 = nI sc9) (hsc4 : sc9 ≤ 4) (hsy : ∀ j, j < sc9 → (∀ p, p < P → iv (21 + j) p = nI (Sg j p)) ∧ inj (Sg j) P P) (hsi : ∀ j, j < sc9 → goodAt iv P mc9 (21 + j) → symIx (Sg j) pc9 (si j) c9) (hw33 : ∀ p, p < P → vp_in (iv 33 p) P) (hx9 : x < ff P c9 * T ^ c9) : gMix l yX6_least wsX6_least { frames := 5, cells := al (ln 50) (ff P c9 * T ^ c9) + al (ln 51) (ff P c9) + al (ln 52) (T ^ c9), slots := als (ln 50) (ff P c9 * T ^ c9) + als (ln 51) (ff P c9) + als (ln 52) (T ^ c9), locals := 118 } D cA o ad ln n sz iv [.ref (ad 0), .int (nI x)] (al (ln 50) (ff P c9 * T ^ c9) + al (ln 51) (ff P c9) + al (ln 52) (T ^ c9)) (als (ln 50) (ff P c9 * T ^ c9) + als (ln 51) (ff P c9) + als (ln 52) (T ^ c9)) (fun (r : Int32) ad' ln' iv' => (∀ i, i ≠ 50 → i ≠ 51 → i ≠ 52 → ad' i = ad i ∧ ln' i = ln i) ∧ (ln' 50 = max (ln 50) (ff P c9 * T ^ c9) ∧ ln' 51 = max (ln 51) (ff P c9) ∧ ln' 52 = max (ln 52) (T ^ c9)) ∧ (iv' 49 0 = 1 ∧ iv' 49 2 = nI (ff P c9 * T ^ c9)) ∧ (∃ lk, (∀ k, k < ff P c9 * T ^ c9 → iv' 50 k = nI (lk k)) ∧ clsTo lk (ff P c9 * T ^ c9) (fun j => imgF P T c9 (Sg j) (si j)) (fun j => goodAt iv P mc9 (21 + j)) sc9 ∧ iv' 49 1 = nI (nroot lk (ff P c9 * T ^ c9)) ∧ r = nI (root lk x)) ∧ (∀ p, p < P → vp_in (iv' 33 p) P) ∧ ∀ q, q ≠ 28 → q ≠ 33 → q ≠ 34 → q ≠ 36 → q ≠ 37 → q ≠ 49 → q ≠ 50 → q ≠ 51 → q ≠ 52 → iv' q = iv q) := by
  refine Met.ofW (cc := cX6_least) (maxL := 2) (ret := (some .int)) (by decide) rfl ?_
  intro p e s m args below meth c s₁ B hml hv__
  obtain ⟨rfl, hv__⟩ := hv__
  obtain ⟨hsz, hS, hK, hN, hA⟩ := gS.entry hv__
  have hl := lv_entry ([.ref (ad 0), .int (nI x)]) (n := 2) (Nat.le_of_ble_eq_true rfl)
  rw [lg_entry_eq]
  generalize (lg_sl ([.ref (ad 0), .int (nI x)]) ++ List.replicate (2 - (lg_sl ([.ref (ad 0), .int (nI x)])).length) Slot.unset).toArray = ls at hl ⊢
  exact bd_X6_leastU (x := x) (mc9 := mc9) (sc9 := sc9) (P := P) (c9 := c9) (T := T) (pc9 := pc9) (Sg := Sg) (si := si) ⟨B.exec, B.bytes, hml, findClass_of_methodNamed B.named, atoms_spec (ws := wsX6_least) B.pre, B.returns, B.notSynchronized⟩ (Nat.le_refl _) (Nat.le_refl _) (Nat.le_of_eq (Nat.zero_add _)) (Nat.le_of_eq (Nat.zero_add _)) hK hN hA hn hln hkn hLn hc9 hc4 hT0 hT1 hT3 hP hpc hpi hP0 hP1 ha9 ht9 hmc hmc6 hgo h01 hsc hsc4 hsy hsi hw33 hx9 hS hl (fun r ad' ln' iv' H locs ls pc hd hp hS => by rw [Nat.zero_add, Nat.zero_add]; exact gx_iretx (post := fun (r : Int32) ad' ln' iv' => (∀ i, i ≠ 50 → i ≠ 51 → i ≠ 52 → ad' i = ad i ∧ ln' i = ln i) ∧ (ln' 50 = max (ln 50) (ff P c9 * T ^ c9) ∧ ln' 51 = max (ln 51) (ff P c9) ∧ ln' 52 = max (ln 52) (T ^ c9)) ∧ (iv' 49 0 = 1 ∧ iv' 49 2 = nI (ff P c9 * T ^ c9)) ∧ (∃ lk, (∀ k, k < ff P c9 * T ^ c9 → iv' 50 k = nI (lk k)) ∧ clsTo lk (ff P c9 * T ^ c9) (fun j => imgF P T c9 (Sg j) (si j)) (fun j => goodAt iv P mc9 (21 + j)) sc9 ∧ iv' 49 1 = nI (nroot lk (ff P c9 * T ^ c9)) ∧ r = nI (root lk x)) ∧ (∀ p, p < P → vp_in (iv' 33 p) P) ∧ ∀ q, q ≠ 28 → q ≠ 33 → q ≠ 34 → q ≠ 36 → q ≠ 37 → q ≠ 49 → q ≠ 50 → q ≠ 51 → q ≠ 52 → iv' q = iv q) B.exec B.bytes B.returns B.notSynchronized hS hp hd)
