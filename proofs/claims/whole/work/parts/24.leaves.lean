theorem inX5_having_RX5 : ∀ {w : Cond}, w ∈ u_ws RX5 TX5 6 → w ∈ wsX5_having := fun {w} h => by first | exact List.mem_cons_of_mem _ (List.mem_append_right _ h) | (revert h; revert w; show ∀ w ∈ u_ws RX5 TX5 6, w ∈ wsX5_having; decide +kernel)
set_option maxHeartbeats 4000000 in
set_option maxRecDepth 100000 in
theorem bd_X5_having {p : Program} {l : Launch} {e : Env} {R : Room} {s : State} {m : MethodId} {args : Array Value} {below : List Frame} {meth : Method} {c : Code} {H : Heap} {locs : List Loc} {cells slots : Nat} {Q : State → Prop} {ls : Array Slot} {D : va_G} {A : Nat → Prop} {H0 : Heap} {cA : Nat → ClassId} {o : Nat → Int64} {ad ln : Nat → Nat} {iv : Nat → Nat → Int32} {n : Nat} {v : Int32} {S C : Nat}
    (F : gF p s m meth c cX5_having 2 RX5 wsX5_having args (some .int)) (hRf : 1 ≤ R.frames) (hRl : 25 ≤ R.locals) (hRc : cells ≤ R.cells) (hRs : slots ≤ R.slots) (hK : va_K D vwCl (gT cA) s) (hN : NW s) (hA : ∀ q, H0.size ≤ q → A q) (hn : 68 ≤ n) (hln : ∀ k, ln k < 2 ^ 31) (hs : iv 46 2 = nI S) (hS9 : S < 2 ^ 30) (hr9 : iv 46 3 = nI C) (hC0 : 0 < C) (hCS : C ≤ S) (hq : C ≤ ln 48) (hqi : ∀ i, i < C → vp_in (iv 48 i) (ln 47)) (hso : ∀ i j, i ≤ j → j < C → iv 47 (tn (iv 48 i)) ≤ iv 47 (tn (iv 48 j)))
    (hS : gS D cA A H0 o ad ln iv n H locs) (hl : lv_has ls 2 [(0, .ref (ad 46)), (1, .int v)])
    (kret : ∀ (r : Int32) (iv' : Nat → Nat → Int32) (H : Heap) (locs : List Loc) (ls : Array Slot) (pc : Nat), decode cX5_having pc = .ok (.ireturn, 1) → ((if v = -1 then r = nI (S - C) else if v < 0 ∨ iv 47 (tn (iv 48 (C - 1))) < v then r = nI 0 else ∃ L1 L2, r = nI L2 - nI L1 ∧ cutAt (fun i => iv 47 (tn (iv 48 i))) C v L1 ∧ cutAt (fun i => iv 47 (tn (iv 48 i))) C (v + 1) L2) ∧ iv' = iv) → gS D cA A H0 o ad ln iv' n H locs → W p l e R s m args below meth c H locs cells slots Q (F0 m pc ls [.int r])) :
    W p l e R s m args below meth c H locs cells slots Q (F0 m 0 ls []) := by
  obtain ⟨hx, hb, hml, hown, hts, hr, hlocks⟩ := F
  refine lv_iload_n hx hb dX5_having_0 rfl (lv_at hl 1 rfl) ?_
  refine lv_iconst (v := (-1)) hx hb dX5_having_1 (by decide) ?_
  refine lv_icmp_ne (tgt := 15) hx hb dX5_having_2 (by decide) (fun c_2 => ?_) (fun c_2 => ?_)
  · skip
    refine lv_iload_n hx hb dX5_having_15 rfl (lv_at hl 1 rfl) ?_
    refine lv_if_lt (tgt := 39) hx hb dX5_having_16 (by decide) (fun c_16 => ?_) (fun c_16 => ?_)
    · skip
      refine lv_iconst (v := nI 0) hx hb dX5_having_39 (by decide) ?_
      exact kret _ iv _ _ _ _ dX5_having_40 (⟨by rw [if_neg c_2, if_pos (Or.inl c_16)], rfl⟩) hS
    · skip
      refine lv_iload_n hx hb dX5_having_19 rfl (lv_at hl 1 rfl) ?_
      refine lv_aload_n hx hb dX5_having_20 rfl (lv_at hl 0 rfl) ?_
      refine gx_get (ci := 8) (v := .ref (ad 47)) (C := RX5) (T := TX5) (N := 6) hx hb hts (fun _ h => inX5_having_RX5 h) hown hK hS 46 (by omega) rfl rfl 4 (by decide) (hts (.fieldLink RX5 9 "CosetTables$Table" "values" "[I") (by decide +kernel)) rfl dX5_having_21 ?_
      refine lv_aload_n hx hb dX5_having_24 rfl (lv_at hl 0 rfl) ?_
      refine gx_get (ci := 8) (v := .ref (ad 48)) (C := RX5) (T := TX5) (N := 6) hx hb hts (fun _ h => inX5_having_RX5 h) hown hK hS 46 (by omega) rfl rfl 5 (by decide) (hts (.fieldLink RX5 15 "CosetTables$Table" "queue" "[I") (by decide +kernel)) rfl dX5_having_25 ?_
      refine lv_aload_n hx hb dX5_having_28 rfl (lv_at hl 0 rfl) ?_
      refine gx_get (ci := 8) (v := .int (iv 46 3)) (C := RX5) (T := TX5) (N := 6) hx hb hts (fun _ h => inX5_having_RX5 h) hown hK hS 46 (by omega) rfl rfl 3 (by decide) (hts (.fieldLink RX5 45 "CosetTables$Table" "reached" "I") (by decide +kernel)) rfl dX5_having_29 ?_
      refine gx_as (y := nI C) hr9 ?_
      refine lv_iconst (v := nI 1) hx hb dX5_having_32 (by decide) ?_
      refine lv_isub hx hb dX5_having_33 ?_
      refine gx_as (y := nI (C - 1)) (by rw [show nI 1 = nI 1 from rfl, pk_sub hC0]) ?_
      refine gx_ialdn hx hb hK hS 48 (by omega) (by decide) (C - 1) (by omega) (hln _) dX5_having_34 ?_
      refine gx_iald hx hb hK hS 47 (by omega) (by decide) (hqi _ (by omega)) dX5_having_35 ?_
      refine lv_icmp_le (tgt := 41) hx hb dX5_having_36 (by decide) (fun c_36 => ?_) (fun c_36 => ?_)
      · skip
        refine lv_aload_n hx hb dX5_having_41 rfl (lv_at hl 0 rfl) ?_
        refine lv_iload_n hx hb dX5_having_42 rfl (lv_at hl 1 rfl) ?_
        refine lv_iconst (v := nI 1) hx hb dX5_having_43 (by decide) ?_
        refine lv_iadd hx hb dX5_having_44 ?_
        refine gc_i (gx_runV (As := [.int (v + (nI 1))]) (rest := []) ⟨hx, hb, hml, hown, hts⟩ hK hN hS 46 (by omega) rfl rfl (ct_X5_lowerThan l D cA o ad ln n H.size iv (v := v + nI 1) (C := C) hn hln hr9 (by omega) hq hqi hso) (cwV 1 hts gX5_having_X5_lowerThan rfl rfl rfl (by decide +kernel) ⟨gle hRf rfl, gle hRl rfl⟩) rfl rfl hl.1 rfl (lv_room (Nat.le_of_ble_eq_true rfl)) dX5_having_45 ⟨hRc, hRs⟩) hS hA (fun y iv1 H locs hp1 hS => ?_)
        obtain ⟨⟨L2, ey, hc2⟩, ev1⟩ := hp1
        rw [ev1] at hS
        skip
        refine lv_aload_n hx hb dX5_having_48 rfl (lv_at hl 0 rfl) ?_
        refine lv_iload_n hx hb dX5_having_49 rfl (lv_at hl 1 rfl) ?_
        refine gc_i (gx_runV (As := [.int v]) (rest := [.int y]) ⟨hx, hb, hml, hown, hts⟩ hK hN hS 46 (by omega) rfl rfl (ct_X5_lowerThan l D cA o ad ln n H.size iv (v := v) (C := C) hn hln hr9 (by omega) hq hqi hso) (cwV 1 hts gX5_having_X5_lowerThan rfl rfl rfl (by decide +kernel) ⟨gle hRf rfl, gle hRl rfl⟩) rfl rfl hl.1 rfl (lv_room (Nat.le_of_ble_eq_true rfl)) dX5_having_50 ⟨hRc, hRs⟩) hS hA (fun z iv2 H locs hp2 hS => ?_)
        obtain ⟨⟨L1, ez, hc1⟩, ev2⟩ := hp2
        rw [ev2] at hS
        skip
        refine lv_isub hx hb dX5_having_53 ?_
        exact kret _ iv _ _ _ _ dX5_having_54 (⟨by rw [if_neg c_2, if_neg (fun h9 => h9.elim c_16 (fun h8 => Int32.lt_irrefl (Int32.lt_of_lt_of_le h8 c_36)))]; exact ⟨L1, L2, by rw [ey, ez], hc1, hc2⟩, rfl⟩) hS
      · skip
        refine lv_iconst (v := nI 0) hx hb dX5_having_39 (by decide) ?_
        exact kret _ iv _ _ _ _ dX5_having_40 (⟨by rw [if_neg c_2, if_pos (Or.inr (Int32.not_le.mp c_36))], rfl⟩) hS
  · skip
    refine lv_aload_n hx hb dX5_having_5 rfl (lv_at hl 0 rfl) ?_
    refine gx_get (ci := 8) (v := .int (iv 46 2)) (C := RX5) (T := TX5) (N := 6) hx hb hts (fun _ h => inX5_having_RX5 h) hown hK hS 46 (by omega) rfl rfl 2 (by decide) (hts (.fieldLink RX5 32 "CosetTables$Table" "states" "I") (by decide +kernel)) rfl dX5_having_6 ?_
    refine gx_as (y := nI S) hs ?_
    refine lv_aload_n hx hb dX5_having_9 rfl (lv_at hl 0 rfl) ?_
    refine gx_get (ci := 8) (v := .int (iv 46 3)) (C := RX5) (T := TX5) (N := 6) hx hb hts (fun _ h => inX5_having_RX5 h) hown hK hS 46 (by omega) rfl rfl 3 (by decide) (hts (.fieldLink RX5 45 "CosetTables$Table" "reached" "I") (by decide +kernel)) rfl dX5_having_10 ?_
    refine gx_as (y := nI C) hr9 ?_
    refine lv_isub hx hb dX5_having_13 ?_
    refine gx_as (y := nI (S - C)) (pk_sub hCS) ?_
    exact kret _ iv _ _ _ _ dX5_having_14 (⟨by rw [if_pos c_2], rfl⟩) hS
set_option maxRecDepth 100000 in
theorem ct_X5_having (l : Launch) (D : va_G) (cA : Nat → ClassId) (o : Nat → Int64) (ad ln : Nat → Nat) (n sz : Nat) (iv : Nat → Nat → Int32) (v : Int32) (S C : Nat) (hn : 68 ≤ n) (hln : ∀ k, ln k < 2 ^ 31) (hs : iv 46 2 = nI S) (hS9 : S < 2 ^ 30) (hr9 : iv 46 3 = nI C) (hC0 : 0 < C) (hCS : C ≤ S) (hq : C ≤ ln 48) (hqi : ∀ i, i < C → vp_in (iv 48 i) (ln 47)) (hso : ∀ i j, i ≤ j → j < C → iv 47 (tn (iv 48 i)) ≤ iv 47 (tn (iv 48 j))) : gMi l yX5_having wsX5_having { frames := 1, cells := 0, slots := 0, locals := 25 } D cA o ad ln n sz iv [.ref (ad 46), .int v] (fun (r : Int32) iv' => (if v = -1 then r = nI (S - C) else if v < 0 ∨ iv 47 (tn (iv 48 (C - 1))) < v then r = nI 0 else ∃ L1 L2, r = nI L2 - nI L1 ∧ cutAt (fun i => iv 47 (tn (iv 48 i))) C v L1 ∧ cutAt (fun i => iv 47 (tn (iv 48 i))) C (v + 1) L2) ∧ iv' = iv) := by
  refine Met.ofW (cc := cX5_having) (maxL := 2) (ret := (some .int)) (by decide) rfl ?_
  intro p e s m args below meth c s₁ B hml hv__
  obtain ⟨rfl, hv__⟩ := hv__
  obtain ⟨hsz, hS, hK, hN, hA⟩ := gS.entry hv__
  have hl := lv_entry ([.ref (ad 46), .int v]) (n := 2) (Nat.le_of_ble_eq_true rfl)
  rw [lg_entry_eq]
  generalize (lg_sl ([.ref (ad 46), .int v]) ++ List.replicate (2 - (lg_sl ([.ref (ad 46), .int v])).length) Slot.unset).toArray = ls at hl ⊢
  exact bd_X5_having (v := v) (S := S) (C := C) ⟨B.exec, B.bytes, hml, findClass_of_methodNamed B.named, atoms_spec (ws := wsX5_having) B.pre, B.returns, B.notSynchronized⟩ (Nat.le_refl _) (Nat.le_refl _) (Nat.le_refl _) (Nat.le_refl _) hK hN hA hn hln hs hS9 hr9 hC0 hCS hq hqi hso hS hl (fun r iv' H locs ls pc hd hp hS => gx_iret B.exec B.bytes B.returns B.notSynchronized hS hp hd)

theorem inX2_join_RX2 : ∀ {w : Cond}, w ∈ u_ws RX2 TX2 8 → w ∈ wsX2_join := fun {w} h => by first | exact List.mem_cons_of_mem _ (List.mem_append_right _ h) | (revert h; revert w; show ∀ w ∈ u_ws RX2 TX2 8, w ∈ wsX2_join; decide +kernel)
set_option maxHeartbeats 4000000 in
set_option maxRecDepth 100000 in
theorem bd_X2_join {p : Program} {l : Launch} {e : Env} {R : Room} {s : State} {m : MethodId} {args : Array Value} {below : List Frame} {meth : Method} {c : Code} {H : Heap} {locs : List Loc} {cells slots : Nat} {Q : State → Prop} {ls : Array Slot} {D : va_G} {A : Nat → Prop} {H0 : Heap} {cA : Nat → ClassId} {o : Nat → Int64} {ad ln : Nat → Nat} {iv : Nat → Nat → Int32} {n : Nat} {a b S : Nat} {lk : Nat → Nat}
    (F : gF p s m meth c cX2_join 5 RX2 wsX2_join args none) (hRf : 1 ≤ R.frames) (hRl : 23 ≤ R.locals) (hRc : cells ≤ R.cells) (hRs : slots ≤ R.slots) (hK : va_K D vwCl (gT cA) s) (hN : NW s) (hA : ∀ q, H0.size ≤ q → A q) (hn : 68 ≤ n) (hln : ∀ k, ln k < 2 ^ 31) (hs : iv 49 2 = nI S) (hS9 : S < 2 ^ 30) (hl9 : S ≤ ln 50) (hlk : ∀ k, k < S → iv 50 k = nI (lk k)) (hd9 : dn lk S) (hoc : iv 49 1 = nI (nroot lk S)) (ha : a < S) (hb9 : b < S)
    (hS : gS D cA A H0 o ad ln iv n H locs) (hl : lv_has ls 5 [(0, .ref (ad 49)), (1, .int (nI a)), (2, .int (nI b))])
    (kret : ∀ (iv' : Nat → Nat → Int32) (H : Heap) (locs : List Loc) (ls : Array Slot) (pc : Nat), decode cX2_join pc = .ok (.return_, 1) → (∃ lk', (∀ k, k < S → iv' 50 k = nI (lk' k)) ∧ joined lk lk' S a b ∧ iv' 49 1 = nI (nroot lk' S) ∧ (∀ j, j ≠ 1 → iv' 49 j = iv 49 j) ∧ ∀ q, q ≠ 50 → q ≠ 49 → iv' q = iv q) → gS D cA A H0 o ad ln iv' n H locs → W p l e R s m args below meth c H locs cells slots Q (F0 m pc ls [])) :
    W p l e R s m args below meth c H locs cells slots Q (F0 m 0 ls []) := by
  obtain ⟨hx, hb, hml, hown, hts, hr, hlocks⟩ := F
  refine lv_aload_n hx hb dX2_join_0 rfl (lv_at hl 0 rfl) ?_
  refine lv_iload_n hx hb dX2_join_1 rfl (lv_at hl 1 rfl) ?_
  refine gc_i (gx_runV (As := [.int (nI a)]) (rest := []) ⟨hx, hb, hml, hown, hts⟩ hK hN hS 49 (by omega) rfl rfl (ct_X2_root l D cA o ad ln n H.size iv (x := a) (S := S) (lk := lk) hn hln hs hS9 hl9 ha hlk hd9) (cwV 1 hts gX2_join_X2_root rfl rfl rfl (by decide +kernel) ⟨gle hRf rfl, gle hRl rfl⟩) rfl rfl hl.1 rfl (lv_room (Nat.le_of_ble_eq_true rfl)) dX2_join_2 ⟨hRc, hRs⟩) hS hA (fun y iv1 H locs hp1 hS => ?_)
  obtain ⟨ey, lk1, h1, d1, r1, o1⟩ := hp1
  have hra := root_le hd9 a ha
  refine gx_as (y := nI (root lk a)) ey ?_
  refine lv_istore_n (lv' := [(3, .int (nI (root lk a))), (0, .ref (ad 49)), (1, .int (nI a)), (2, .int (nI b))]) hx hb dX2_join_5 rfl hl (by decide) rfl (fun ls hl => ?_)
  refine lv_aload_n hx hb dX2_join_6 rfl (lv_at hl 1 rfl) ?_
  refine lv_iload_n hx hb dX2_join_7 rfl (lv_at hl 3 rfl) ?_
  refine gc_i (gx_runV (As := [.int (nI b)]) (rest := []) ⟨hx, hb, hml, hown, hts⟩ hK hN hS 49 (by omega) rfl rfl (ct_X2_root l D cA o ad ln n H.size iv1 (x := b) (S := S) (lk := lk1) hn hln (by rw [o1 49 (by decide)]; exact hs) hS9 hl9 hb9 h1 d1) (cwV 1 hts gX2_join_X2_root rfl rfl rfl (by decide +kernel) ⟨gle hRf rfl, gle hRl rfl⟩) rfl rfl hl.1 rfl (lv_room (Nat.le_of_ble_eq_true rfl)) dX2_join_8 ⟨hRc, hRs⟩) hS hA (fun z iv2 H locs hp2 hS => ?_)
  obtain ⟨ez, lk2, h2, d2, r2, o2⟩ := hp2
  rw [r1 b hb9] at ez
  have hrb := root_le hd9 b hb9
  have r3 : ∀ k, k < S → root lk2 k = root lk k := fun k hk => by rw [r2 k hk, r1 k hk]
  have o3 : ∀ q, q ≠ 50 → iv2 q = iv q := fun q hq => by rw [o2 q hq, o1 q hq]
  have n3 : nroot lk2 S = nroot lk S := nroot_congr d2 hd9 r3
  refine gx_as (y := nI (root lk b)) ez ?_
  refine lv_istore (lv' := [(4, .int (nI (root lk b))), (3, .int (nI (root lk a))), (0, .ref (ad 49)), (1, .int (nI a)), (2, .int (nI b))]) hx hb dX2_join_11 hl (by decide) rfl (fun ls hl => ?_)
  refine lv_iload_n hx hb dX2_join_13 rfl (lv_at hl 1 rfl) ?_
  refine lv_iload hx hb dX2_join_14 (lv_at hl 0 rfl) ?_
  refine lv_icmp_eq (tgt := 46) hx hb dX2_join_16 (by decide) (fun c_16 => ?_) (fun c_16 => ?_)
  · skip
    rw [nI_eq (by omega) (by omega)] at c_16
    exact kret iv2 _ _ _ _ dX2_join_46 (⟨lk2, h2, joined_of d2 ha hb9 (by rw [r3 a ha, r3 b hb9]; exact c_16) (fun x y hx hy h => by rw [r3 x hx, r3 y hy]; exact h) (fun x y hx hy h => Or.inl (by rw [← r3 x hx, ← r3 y hy]; exact h)), by rw [o3 49 (by decide), n3]; exact hoc, fun j _ => by rw [o3 49 (by decide)], fun q h1 _ => o3 q h1⟩) hS
  · skip
    rw [nI_eq (by omega) (by omega)] at c_16
    have fa : lk2 (root lk a) = root lk a := by rw [← r3 a ha]; exact root_root d2 a ha
    have fb : lk2 (root lk b) = root lk b := by rw [← r3 b hb9]; exact root_root d2 b hb9
    refine lv_aload_n hx hb dX2_join_19 rfl (lv_at hl 2 rfl) ?_
    refine gx_get (ci := 5) (v := .ref (ad 50)) (C := RX2) (T := TX2) (N := 8) hx hb hts (fun _ h => inX2_join_RX2 h) hown hK hS 49 (by omega) rfl rfl 5 (by decide) (hts (.fieldLink RX2 7 "CosetTables$Orbits" "links" "[I") (by decide +kernel)) rfl dX2_join_20 ?_
    refine lv_iload_n hx hb dX2_join_23 rfl (lv_at hl 1 rfl) ?_
    refine lv_iload hx hb dX2_join_24 (lv_at hl 0 rfl) ?_
    refine va_mmax hx hb (hml.trans hl.1.symm) hown (hts (.methodLink RX2 76 Lib.Math.max.name) (by decide +kernel)) (hts (.static Lib.Math.max.name) (by decide +kernel)) (hts (.initialized "java/lang/Math") (by decide +kernel)) (hts (.code Lib.Math.max.name Lib.Math.max.code 2 (some .int)) (by decide +kernel)) (gle hRf rfl) (gle hRl rfl) hRc hRs dX2_join_26 ?_
    refine gx_as (y := nI (max (root lk a) (root lk b))) (nI_max (by omega) (by omega)) ?_
    refine lv_iload_n hx hb dX2_join_29 rfl (lv_at hl 1 rfl) ?_
    refine lv_iload hx hb dX2_join_30 (lv_at hl 0 rfl) ?_
    refine va_mmin hx hb (hml.trans hl.1.symm) hown (hts (.methodLink RX2 82 Lib.Math.min.name) (by decide +kernel)) (hts (.static Lib.Math.min.name) (by decide +kernel)) (hts (.initialized "java/lang/Math") (by decide +kernel)) (hts (.code Lib.Math.min.name Lib.Math.min.code 2 (some .int)) (by decide +kernel)) (gle hRf rfl) (gle hRl rfl) hRc hRs dX2_join_32 ?_
    refine gx_as (y := nI (min (root lk a) (root lk b))) (nI_min (by omega) (by omega)) ?_
    refine gx_iastn hx hb hK hS 50 (by omega) (by decide) (max (root lk a) (root lk b)) (by omega) (hln _) dX2_join_35 (fun H locs hS => ?_)
    obtain ⟨iv3, eiv3⟩ : ∃ z, z = up2 iv2 50 (max (root lk a) (root lk b)) (nI (min (root lk a) (root lk b))) := ⟨_, rfl⟩
    rw [← eiv3] at hS
    refine lv_aload_n hx hb dX2_join_36 rfl (lv_at hl 2 rfl) ?_
    refine lv_dup hx hb dX2_join_37 rfl ?_
    obtain ⟨M, hM⟩ : ∃ M, M = max (root lk a) (root lk b) := ⟨_, rfl⟩
    obtain ⟨c9, hc9⟩ : ∃ c9, c9 = min (root lk a) (root lk b) := ⟨_, rfl⟩
    rw [← hM, ← hc9] at eiv3
    have fM : lk2 M = M := by rcases Nat.le_total (root lk a) (root lk b) with q | q <;> (first | (rw [show M = root lk b by omega]; exact fb) | (rw [show M = root lk a by omega]; exact fa))
    have fc : lk2 c9 = c9 := by rcases Nat.le_total (root lk a) (root lk b) with q | q <;> (first | (rw [show c9 = root lk a by omega]; exact fa) | (rw [show c9 = root lk b by omega]; exact fb))
    obtain ⟨dj, rj⟩ := root_join (S := S) (M := M) (c := c9) d2 (by omega) (by omega) fM fc
    have nj := nroot_join (lk := lk2) (S := S) (M := M) (c := c9) (by omega) (by omega) fM
    refine gx_get (ci := 5) (v := .int (iv3 49 1)) (C := RX2) (T := TX2) (N := 8) hx hb hts (fun _ h => inX2_join_RX2 h) hown hK hS 49 (by omega) rfl rfl 1 (by decide) (hts (.fieldLink RX2 51 "CosetTables$Orbits" "orbitCount" "I") (by decide +kernel)) rfl dX2_join_38 ?_
    refine gx_as (y := nI (nroot lk S)) (by rw [eiv3, up2_row (by decide), o3 49 (by decide)]; exact hoc) ?_
    refine lv_iconst (v := nI 1) hx hb dX2_join_41 (by decide) ?_
    refine lv_isub hx hb dX2_join_42 ?_
    refine gx_as (y := nI (nroot (va_up lk2 M c9) S)) (by rw [show nroot lk S = nroot (va_up lk2 M c9) S + 1 by omega]; exact nI_pred _) ?_
    refine gx_put (ci := 5) (x := nI (nroot (va_up lk2 M c9) S)) (ty := .int) (C := RX2) (T := TX2) (N := 8) hx hb hts (fun _ h => inX2_join_RX2 h) tyX2 tyX2_ok nmX2 hown hK hS 49 (by omega) rfl rfl 1 (by decide) (hts (.fieldLink RX2 51 "CosetTables$Orbits" "orbitCount" "I") (by decide +kernel)) rfl (by decide +kernel) rfl rfl (Nat.le_of_ble_eq_true rfl) rfl dX2_join_43 (fun H locs hS => ?_)
    obtain ⟨iv4, eiv4⟩ : ∃ z, z = up2 iv3 49 1 (nI (nroot (va_up lk2 M c9) S)) := ⟨_, rfl⟩
    rw [← eiv4] at hS
    exact kret iv4 _ _ _ _ dX2_join_46 (⟨va_up lk2 M c9, fun k hk => by rw [eiv4, up2_row (by decide), eiv3, up2_eq]; unfold va_up; by_cases e9 : k = M <;> simp [e9]; exact h2 k hk, joined_of dj ha hb9 (by rw [rj a ha, rj b hb9, r3 a ha, r3 b hb9]; split <;> split <;> omega) (fun x y hx hy h => by rw [rj x hx, rj y hy, r3 x hx, r3 y hy, h]) (fun x y hx hy h => by rw [rj x hx, rj y hy, r3 x hx, r3 y hy] at h; revert h; split <;> split <;> omega), by rw [eiv4, up2_s], fun j hj => by rw [eiv4, up2_n (by omega), eiv3, up2_row (by decide), o3 49 (by decide)], fun q h1 h9 => by rw [eiv4, up2_row h9, eiv3, up2_row h1, o3 q h1]⟩) hS
set_option maxRecDepth 100000 in
theorem ct_X2_join (l : Launch) (D : va_G) (cA : Nat → ClassId) (o : Nat → Int64) (ad ln : Nat → Nat) (n sz : Nat) (iv : Nat → Nat → Int32) (a b S : Nat) (lk : Nat → Nat) (hn : 68 ≤ n) (hln : ∀ k, ln k < 2 ^ 31) (hs : iv 49 2 = nI S) (hS9 : S < 2 ^ 30) (hl9 : S ≤ ln 50) (hlk : ∀ k, k < S → iv 50 k = nI (lk k)) (hd9 : dn lk S) (hoc : iv 49 1 = nI (nroot lk S)) (ha : a < S) (hb9 : b < S) : gMv l yX2_join wsX2_join { frames := 1, cells := 0, slots := 0, locals := 23 } D cA o ad ln n sz iv [.ref (ad 49), .int (nI a), .int (nI b)] (fun iv' => ∃ lk', (∀ k, k < S → iv' 50 k = nI (lk' k)) ∧ joined lk lk' S a b ∧ iv' 49 1 = nI (nroot lk' S) ∧ (∀ j, j ≠ 1 → iv' 49 j = iv 49 j) ∧ ∀ q, q ≠ 50 → q ≠ 49 → iv' q = iv q) := by
  refine Met.ofW (cc := cX2_join) (maxL := 5) (ret := none) (by decide) rfl ?_
  intro p e s m args below meth c s₁ B hml hv__
  obtain ⟨rfl, hv__⟩ := hv__
  obtain ⟨hsz, hS, hK, hN, hA⟩ := gS.entry hv__
  have hl := lv_entry ([.ref (ad 49), .int (nI a), .int (nI b)]) (n := 5) (Nat.le_of_ble_eq_true rfl)
  rw [lg_entry_eq]
  generalize (lg_sl ([.ref (ad 49), .int (nI a), .int (nI b)]) ++ List.replicate (5 - (lg_sl ([.ref (ad 49), .int (nI a), .int (nI b)])).length) Slot.unset).toArray = ls at hl ⊢
  exact bd_X2_join (a := a) (b := b) (S := S) (lk := lk) ⟨B.exec, B.bytes, hml, findClass_of_methodNamed B.named, atoms_spec (ws := wsX2_join) B.pre, B.returns, B.notSynchronized⟩ (Nat.le_refl _) (Nat.le_refl _) (Nat.le_refl _) (Nat.le_refl _) hK hN hA hn hln hs hS9 hl9 hlk hd9 hoc ha hb9 hS hl (fun iv' H locs ls pc hd hp hS => gx_vret B.exec B.bytes B.returns B.notSynchronized hS hp hd)

theorem inX2_joinImages_RX2 : ∀ {w : Cond}, w ∈ u_ws RX2 TX2 8 → w ∈ wsX2_joinImages := fun {w} h => by first | exact List.mem_cons_of_mem _ (List.mem_append_right _ h) | (revert h; revert w; show ∀ w ∈ u_ws RX2 TX2 8, w ∈ wsX2_joinImages; decide +kernel)
set_option maxHeartbeats 4000000 in
set_option maxRecDepth 100000 in
theorem bd_X2_joinImages {p : Program} {l : Launch} {e : Env} {R : Room} {s : State} {m : MethodId} {args : Array Value} {below : List Frame} {meth : Method} {c : Code} {H : Heap} {locs : List Loc} {cells slots : Nat} {Q : State → Prop} {ls : Array Slot} {D : va_G} {A : Nat → Prop} {H0 : Heap} {cA : Nat → ClassId} {o : Nat → Int64} {ad ln : Nat → Nat} {iv : Nat → Nat → Int32} {n : Nat} {S a t : Nat} {lk ai ti : Nat → Nat}
    (F : gF p s m meth c cX2_joinImages 3 RX2 wsX2_joinImages args none) (hRf : 2 ≤ R.frames) (hRl : 47 ≤ R.locals) (hRc : cells ≤ R.cells) (hRs : slots ≤ R.slots) (hK : va_K D vwCl (gT cA) s) (hN : NW s) (hA : ∀ q, H0.size ≤ q → A q) (hn : 68 ≤ n) (hln : ∀ k, ln k < 2 ^ 31) (hs : iv 49 2 = nI S) (hS9 : S < 2 ^ 30) (hl9 : S ≤ ln 50) (hlk : ∀ k, k < S → iv 50 k = nI (lk k)) (hd9 : dn lk S) (hoc : iv 49 1 = nI (nroot lk S)) (ha : iv 49 3 = nI a) (ht : iv 49 4 = nI t) (h0 : 0 < t) (hSe : S = a * t) (hl51 : a ≤ ln 51) (hl52 : t ≤ ln 52) (hai : ∀ i, i < a → iv 51 i = nI (ai i) ∧ ai i < a) (hti : ∀ i, i < t → iv 52 i = nI (ti i) ∧ ti i < t)
    (hS : gS D cA A H0 o ad ln iv n H locs) (hl : lv_has ls 3 [(0, .ref (ad 49))])
    (kret : ∀ (iv' : Nat → Nat → Int32) (H : Heap) (locs : List Loc) (ls : Array Slot) (pc : Nat), decode cX2_joinImages pc = .ok (.return_, 1) → (∃ lk', (∀ k, k < S → iv' 50 k = nI (lk' k)) ∧ joinedTo lk lk' S (fun x => ai (x / t) * t + ti (x % t)) S ∧ iv' 49 1 = nI (nroot lk' S) ∧ (∀ j, j ≠ 1 → iv' 49 j = iv 49 j) ∧ ∀ q, q ≠ 50 → q ≠ 49 → iv' q = iv q) → gS D cA A H0 o ad ln iv' n H locs → W p l e R s m args below meth c H locs cells slots Q (F0 m pc ls [])) :
    W p l e R s m args below meth c H locs cells slots Q (F0 m 0 ls []) := by
  obtain ⟨hx, hb, hml, hown, hts, hr, hlocks⟩ := F
  have hg9 : ∀ x, x < S → ai (x / t) * t + ti (x % t) < S := by
    intro x hx
    have q1 : x / t < a := Nat.div_lt_of_lt_mul (by rw [Nat.mul_comm]; omega)
    have q2 := Nat.mul_le_mul_right t (show ai (x / t) + 1 ≤ a from (hai _ q1).2)
    rw [Nat.succ_mul] at q2
    have q3 := (hti (x % t) (Nat.mod_lt _ h0)).2
    omega
  have hta : a ≤ S := by
    rw [hSe]; exact Nat.le_mul_of_pos_right a h0
  have htt : 0 < a → t ≤ S := fun h => by rw [hSe]; exact Nat.le_mul_of_pos_left t h
  refine lv_iconst (v := nI 0) hx hb dX2_joinImages_0 (by decide) ?_
  refine lv_istore_n (lv' := [(1, .int (nI 0)), (0, .ref (ad 49))]) hx hb dX2_joinImages_1 rfl hl (by decide) rfl (fun ls hl => ?_)
  have L2 : ∀ (N : Nat) (i : Nat) (lk1 : Nat → Nat) (iv1 : Nat → Nat → Int32), a - i < N → (i ≤ a) → (∀ k, k < S → iv1 50 k = nI (lk1 k)) → (joinedTo lk lk1 S (fun x => ai (x / t) * t + ti (x % t)) (i * t)) → (iv1 49 1 = nI (nroot lk1 S)) → (∀ j, j ≠ 1 → iv1 49 j = iv 49 j) → (∀ q, q ≠ 50 → q ≠ 49 → iv1 q = iv q) → ∀ (H : Heap) (locs : List Loc) (ls : Array Slot), gS D cA A H0 o ad ln iv1 n H locs → lv_has ls 3 [(0, .ref (ad 49)), (1, .int (nI i))] → W p l e R s m args below meth c H locs cells slots Q (F0 m 2 ls []) := by
    intro N
    induction N with
    | zero => intro i lk1 iv1 hm; exact absurd hm (Nat.not_lt_zero _)
    | succ N ih2 =>
      intro i lk1 iv1 hm hi h1 h2 h3 h4 h5 H locs ls hS hl
      refine lv_iload_n hx hb dX2_joinImages_2 rfl (lv_at hl 1 rfl) ?_
      refine lv_aload_n hx hb dX2_joinImages_3 rfl (lv_at hl 0 rfl) ?_
      refine gx_get (ci := 5) (v := .int (iv1 49 3)) (C := RX2) (T := TX2) (N := 8) hx hb hts (fun _ h => inX2_joinImages_RX2 h) hown hK hS 49 (by omega) rfl rfl 3 (by decide) (hts (.fieldLink RX2 36 "CosetTables$Orbits" "arrangements" "I") (by decide +kernel)) rfl dX2_joinImages_4 ?_
      refine gx_as (y := nI a) (by rw [h4 3 (by decide)]; exact ha) ?_
      refine lv_icmp_ge (tgt := 62) hx hb dX2_joinImages_7 (by decide) (fun c_7 => ?_) (fun c_7 => ?_)
      · skip
        rw [nI_leI (by omega) (by omega)] at c_7
        exact kret iv1 _ _ _ _ dX2_joinImages_62 (⟨lk1, h1, by rw [hSe, show a = i by omega]; rw [hSe, show a = i by omega] at h2; exact h2, h3, h4, h5⟩) hS
      · skip
        rw [nI_leI (by omega) (by omega)] at c_7
        refine lv_iconst (v := nI 0) hx hb dX2_joinImages_10 (by decide) ?_
        refine lv_istore_n (lv' := [(2, .int (nI 0)), (0, .ref (ad 49)), (1, .int (nI i))]) hx hb dX2_joinImages_11 rfl hl (by decide) rfl (fun ls hl => ?_)
        have L12 : ∀ (N : Nat) (k : Nat) (lk2 : Nat → Nat) (iv2 : Nat → Nat → Int32), t - k < N → (k ≤ t) → (∀ k, k < S → iv2 50 k = nI (lk2 k)) → (joinedTo lk lk2 S (fun x => ai (x / t) * t + ti (x % t)) (i * t + k)) → (iv2 49 1 = nI (nroot lk2 S)) → (∀ j, j ≠ 1 → iv2 49 j = iv 49 j) → (∀ q, q ≠ 50 → q ≠ 49 → iv2 q = iv q) → ∀ (H : Heap) (locs : List Loc) (ls : Array Slot), gS D cA A H0 o ad ln iv2 n H locs → lv_has ls 3 [(0, .ref (ad 49)), (1, .int (nI i)), (2, .int (nI k))] → W p l e R s m args below meth c H locs cells slots Q (F0 m 12 ls []) := by
          intro N
          induction N with
          | zero => intro k lk2 iv2 hm; exact absurd hm (Nat.not_lt_zero _)
          | succ N ih12 =>
            intro k lk2 iv2 hm hk g1 g2 g3 g4 g5 H locs ls hS hl
            have hit : i * t + t ≤ S := by
              have q2 := Nat.mul_le_mul_right t (show i + 1 ≤ a by omega)
              rw [Nat.succ_mul] at q2
              omega
            have htS := htt (by omega)
            refine lv_iload_n hx hb dX2_joinImages_12 rfl (lv_at hl 2 rfl) ?_
            refine lv_aload_n hx hb dX2_joinImages_13 rfl (lv_at hl 0 rfl) ?_
            have htS2 := htt (by omega)
            refine gx_get (ci := 5) (v := .int (iv2 49 4)) (C := RX2) (T := TX2) (N := 8) hx hb hts (fun _ h => inX2_joinImages_RX2 h) hown hK hS 49 (by omega) rfl rfl 4 (by decide) (hts (.fieldLink RX2 40 "CosetTables$Orbits" "twistings" "I") (by decide +kernel)) rfl dX2_joinImages_14 ?_
            refine gx_as (y := nI t) (by rw [g4 4 (by decide)]; exact ht) ?_
            refine lv_icmp_ge (tgt := 56) hx hb dX2_joinImages_17 (by decide) (fun c_17 => ?_) (fun c_17 => ?_)
            · skip
              rw [nI_leI (by omega) (by omega)] at c_17
              refine lv_iinc (v := nI (i + 1)) (lv' := [(1, .int (nI (i + 1))), (0, .ref (ad 49)), (2, .int (nI k))]) hx hb dX2_joinImages_56 hl (k := 1) rfl (nI_1 i) (by decide) rfl (fun ls hl => ?_)
              refine lv_goto (tgt := 2) hx hb dX2_joinImages_59 (by decide) ?_
              exact ih2 (i + 1) lk2 iv2 (by omega) (by omega) g1 (by rw [Nat.succ_mul]; rw [show k = t by omega] at g2; exact g2) g3 g4 g5 _ _ _ hS (lv_sub hl [1, 0] rfl)
            · skip
              rw [nI_leI (by omega) (by omega)] at c_17
              refine lv_aload_n hx hb dX2_joinImages_20 rfl (lv_at hl 0 rfl) ?_
              refine lv_iload_n hx hb dX2_joinImages_21 rfl (lv_at hl 1 rfl) ?_
              refine lv_aload_n hx hb dX2_joinImages_22 rfl (lv_at hl 0 rfl) ?_
              refine gx_get (ci := 5) (v := .int (iv2 49 4)) (C := RX2) (T := TX2) (N := 8) hx hb hts (fun _ h => inX2_joinImages_RX2 h) hown hK hS 49 (by omega) rfl rfl 4 (by decide) (hts (.fieldLink RX2 40 "CosetTables$Orbits" "twistings" "I") (by decide +kernel)) rfl dX2_joinImages_23 ?_
              refine gx_as (y := nI t) (by rw [g4 4 (by decide)]; exact ht) ?_
              refine lv_imul hx hb dX2_joinImages_26 ?_
              refine gx_as (y := nI (i * t)) (pk_mul _ _) ?_
              refine lv_iload_n hx hb dX2_joinImages_27 rfl (lv_at hl 2 rfl) ?_
              refine lv_iadd hx hb dX2_joinImages_28 ?_
              refine gx_as (y := nI ((i * t) + k)) (nI_add _ _) ?_
              refine lv_aload_n hx hb dX2_joinImages_29 rfl (lv_at hl 0 rfl) ?_
              refine gx_get (ci := 5) (v := .ref (ad 51)) (C := RX2) (T := TX2) (N := 8) hx hb hts (fun _ h => inX2_joinImages_RX2 h) hown hK hS 49 (by omega) rfl rfl 6 (by decide) (hts (.fieldLink RX2 13 "CosetTables$Orbits" "arrangementImages" "[I") (by decide +kernel)) rfl dX2_joinImages_30 ?_
              refine lv_iload_n hx hb dX2_joinImages_33 rfl (lv_at hl 1 rfl) ?_
              refine gx_ialdn hx hb hK hS 51 (by omega) (by decide) i (by omega) (hln _) dX2_joinImages_34 ?_
              refine gx_as (y := nI (ai i)) (by rw [g5 51 (by decide) (by decide)]; exact (hai i (by omega)).1) ?_
              refine lv_aload_n hx hb dX2_joinImages_35 rfl (lv_at hl 0 rfl) ?_
              refine gx_get (ci := 5) (v := .int (iv2 49 4)) (C := RX2) (T := TX2) (N := 8) hx hb hts (fun _ h => inX2_joinImages_RX2 h) hown hK hS 49 (by omega) rfl rfl 4 (by decide) (hts (.fieldLink RX2 40 "CosetTables$Orbits" "twistings" "I") (by decide +kernel)) rfl dX2_joinImages_36 ?_
              refine gx_as (y := nI t) (by rw [g4 4 (by decide)]; exact ht) ?_
              refine lv_imul hx hb dX2_joinImages_39 ?_
              refine gx_as (y := nI ((ai i) * t)) (pk_mul _ _) ?_
              refine lv_aload_n hx hb dX2_joinImages_40 rfl (lv_at hl 0 rfl) ?_
              refine gx_get (ci := 5) (v := .ref (ad 52)) (C := RX2) (T := TX2) (N := 8) hx hb hts (fun _ h => inX2_joinImages_RX2 h) hown hK hS 49 (by omega) rfl rfl 7 (by decide) (hts (.fieldLink RX2 16 "CosetTables$Orbits" "twistingImages" "[I") (by decide +kernel)) rfl dX2_joinImages_41 ?_
              refine lv_iload_n hx hb dX2_joinImages_44 rfl (lv_at hl 2 rfl) ?_
              refine gx_ialdn hx hb hK hS 52 (by omega) (by decide) k (by omega) (hln _) dX2_joinImages_45 ?_
              refine gx_as (y := nI (ti k)) (by rw [g5 52 (by decide) (by decide)]; exact (hti k (by omega)).1) ?_
              refine lv_iadd hx hb dX2_joinImages_46 ?_
              refine gx_as (y := nI (((ai i) * t) + (ti k))) (nI_add _ _) ?_
              have q2 := Nat.mul_le_mul_right t (show ai i + 1 ≤ a from (hai i (by omega)).2)
              rw [Nat.succ_mul] at q2
              have q3 := (hti k (by omega)).2
              refine gc_v (gx_runV (As := [.int (nI ((i * t) + k)), .int (nI (((ai i) * t) + (ti k)))]) (rest := []) ⟨hx, hb, hml, hown, hts⟩ hK hN hS 49 (by omega) rfl rfl (ct_X2_join l D cA o ad ln n H.size iv2 (a := i * t + k) (b := ai i * t + ti k) (S := S) (lk := lk2) hn hln (by rw [g4 2 (by decide)]; exact hs) hS9 hl9 g1 g2.1 g3 (by omega) (by omega)) (cwV 2 hts gX2_joinImages_X2_join rfl rfl rfl (by decide +kernel) ⟨gle hRf rfl, gle hRl rfl⟩) rfl rfl hl.1 rfl (lv_room (Nat.le_of_ble_eq_true rfl)) dX2_joinImages_47 ⟨hRc, hRs⟩) hS hA (fun iv3 H locs hp3 hS => ?_)
              obtain ⟨lk3, f1, f2, f3, f4, f5⟩ := hp3
              refine lv_iinc (v := nI (k + 1)) (lv' := [(2, .int (nI (k + 1))), (0, .ref (ad 49)), (1, .int (nI i))]) hx hb dX2_joinImages_50 hl (k := 2) rfl (nI_1 k) (by decide) rfl (fun ls hl => ?_)
              refine lv_goto (tgt := 12) hx hb dX2_joinImages_53 (by decide) ?_
              exact ih12 (k + 1) lk3 iv3 (by omega) (by omega) f1 (joinedTo_s (K := i * t + k) (by omega) hg9 g2 (by rw [show (i * t + k) / t = i by rw [Nat.mul_comm, Nat.mul_add_div h0, Nat.div_eq_of_lt (by omega)]; omega, show (i * t + k) % t = k by rw [Nat.mul_comm, Nat.mul_add_mod, Nat.mod_eq_of_lt (by omega)]]; exact f2)) f3 (fun j hj => by rw [f4 j hj, g4 j hj]) (fun q hq1 hq2 => by rw [f5 q hq1 hq2, g5 q hq1 hq2]) _ _ _ hS (lv_sub hl [1, 2, 0] rfl)
        exact L12 _ 0 lk1 iv1 (Nat.lt_succ_self _) (Nat.zero_le _) h1 h2 h3 h4 h5 _ _ _ hS (lv_sub hl [1, 2, 0] rfl)
  exact L2 _ 0 lk iv (Nat.lt_succ_self _) (Nat.zero_le _) hlk (by rw [Nat.zero_mul]; exact joinedTo_0 hd9) hoc (fun _ _ => rfl) (fun _ _ _ => rfl) _ _ _ hS (lv_sub hl [1, 0] rfl)
set_option maxRecDepth 100000 in
theorem ct_X2_joinImages (l : Launch) (D : va_G) (cA : Nat → ClassId) (o : Nat → Int64) (ad ln : Nat → Nat) (n sz : Nat) (iv : Nat → Nat → Int32) (S a t : Nat) (lk ai ti : Nat → Nat) (hn : 68 ≤ n) (hln : ∀ k, ln k < 2 ^ 31) (hs : iv 49 2 = nI S) (hS9 : S < 2 ^ 30) (hl9 : S ≤ ln 50) (hlk : ∀ k, k < S → iv 50 k = nI (lk k)) (hd9 : dn lk S) (hoc : iv 49 1 = nI (nroot lk S)) (ha : iv 49 3 = nI a) (ht : iv 49 4 = nI t) (h0 : 0 < t) (hSe : S = a * t) (hl51 : a ≤ ln 51) (hl52 : t ≤ ln 52) (hai : ∀ i, i < a → iv 51 i = nI (ai i) ∧ ai i < a) (hti : ∀ i, i < t → iv 52 i = nI (ti i) ∧ ti i < t) : gMv l yX2_joinImages wsX2_joinImages { frames := 2, cells := 0, slots := 0, locals := 47 } D cA o ad ln n sz iv [.ref (ad 49)] (fun iv' => ∃ lk', (∀ k, k < S → iv' 50 k = nI (lk' k)) ∧ joinedTo lk lk' S (fun x => ai (x / t) * t + ti (x % t)) S ∧ iv' 49 1 = nI (nroot lk' S) ∧ (∀ j, j ≠ 1 → iv' 49 j = iv 49 j) ∧ ∀ q, q ≠ 50 → q ≠ 49 → iv' q = iv q) := by
  refine Met.ofW (cc := cX2_joinImages) (maxL := 3) (ret := none) (by decide) rfl ?_
  intro p e s m args below meth c s₁ B hml hv__
  obtain ⟨rfl, hv__⟩ := hv__
  obtain ⟨hsz, hS, hK, hN, hA⟩ := gS.entry hv__
  have hl := lv_entry ([.ref (ad 49)]) (n := 3) (Nat.le_of_ble_eq_true rfl)
  rw [lg_entry_eq]
  generalize (lg_sl ([.ref (ad 49)]) ++ List.replicate (3 - (lg_sl ([.ref (ad 49)])).length) Slot.unset).toArray = ls at hl ⊢
  exact bd_X2_joinImages (S := S) (a := a) (t := t) (lk := lk) (ai := ai) (ti := ti) ⟨B.exec, B.bytes, hml, findClass_of_methodNamed B.named, atoms_spec (ws := wsX2_joinImages) B.pre, B.returns, B.notSynchronized⟩ (Nat.le_refl _) (Nat.le_refl _) (Nat.le_refl _) (Nat.le_refl _) hK hN hA hn hln hs hS9 hl9 hlk hd9 hoc ha ht h0 hSe hl51 hl52 hai hti hS hl (fun iv' H locs ls pc hd hp hS => gx_vret B.exec B.bytes B.returns B.notSynchronized hS hp hd)
