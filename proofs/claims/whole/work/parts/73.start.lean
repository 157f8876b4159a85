/-! THE CLAIM OUT OF ONE WALK OF THE LAW'S BODY. Your part is whole_start (and what it stands on); all else here is the same for every law, but numbers. -/
def R_law : String := "CosetTablesLaw"
def lw_P (b : Addr) (xs : List Int32) (args : Array Value) (s : State) : Prop := args = #[.ref b] ∧ s.IntsAt b xs ∧ xs.length ≤ 2050 ∧ (Jvm.Cond.and given_1 narrow_1).before args s = true
def lw_Q (_ : Array Value) (s : State) (o : Outcome) (t : State) : Prop := o = .returned (some (.int 1)) ∧ Framed s o t [] 601024 7293000
def lw_Z (below : List Frame) (a : Array Value) (s : State) : State → Prop := fun t => ∃ o, t.status = .running ∧ Ended t below o ∧ lw_Q a s o t
/-- the law's own end, with 1 on the stack, nothing written that was there before, its room as the claim has it -/
theorem lw_ret {p : Program} {l : Launch} {e : Env} {s : State} {m : MethodId} {below : List Frame} {meth : Method} {c : Code} {b : Nat} (hx : p.tables.exec = Jvm.exec) (hb : c.code = code) (hr : meth.sig.returnType = ret) (hlocks : meth.locks = false) {pc : Nat} {H : Heap} {ls : Array Slot} (hdg : decode code pc = .ok (.ireturn, 1)) : W p l e room_1 s m #[Value.ref b] below meth c H [] 601024 7293000 (lw_Z below #[Value.ref b] s) (F0 m pc ls [.int 1]) := by
  intro T hT X
  obtain ⟨fs, hret, hrun, hended, hW, hframe⟩ := X.leave (v := some (.int 1)) (hlocks := hlocks) (fun h => by rw [hr] at h; cases h)
  have hmeth' : T.vm.method? m = some meth := X.method'
  refine ⟨T.setFrames fs, ?_, .returned (some (.int 1)), hrun, hended, rfl, ⟨_, rfl⟩, hW, hframe⟩
  jvm_step X.here [X.here.top, hx, hb, hdg, hmeth', hr, ret, narrow_b1]
  (try refine ⟨rfl, ?_⟩); (try refine ⟨rfl, ?_⟩)
  first | (intro acts; rw [hret _ acts rfl rfl rfl]) | rw [hret _ _ rfl rfl rfl]
  exact Steps.refl _
/-- what holds at the law's entry: the machine, the code, the tables' words (any of lw_tbl by 'hts w (by decide +kernel)'), the script of L ints xs at the cell b, what the Statement gives of the start (any of its parts by flat_of_before) -/
def lw_At (p : Program) (s : State) (m : MethodId) (meth : Method) (c : Code) (b L : Nat) (xs : Nat → Int32) : Prop :=
  p.tables.exec = Jvm.exec ∧ c.code = code ∧ meth.sig.returnType = ret ∧ c.maxLocals = 8 ∧ s.vm.findClass R_law = some m.cls ∧ (∀ w ∈ lw_tbl, w.before #[Value.ref b] s = true) ∧ va_X b L xs s s.heap ∧ b < s.heap.size ∧ meth.locks = false ∧ (Jvm.Cond.and given_1 narrow_1).before #[Value.ref b] s = true
set_option maxHeartbeats 8000000 in
set_option maxRecDepth 100000 in
theorem whole_start {p : Program} {e : Env} {s : State} {m : MethodId} {below : List Frame} {meth : Method} {c : Code} (l : Launch) (hst : l.stackTraces = false) {b L : Nat} {xs : Nat → Int32} (hL : L ≤ 2050) (C0 : lw_At p s m meth c b L xs) : W p l e room_1 s m #[Value.ref b] below meth c s.heap [] 0 0 (lw_Z below #[Value.ref b] s) (entryFrame m ([Value.ref b] : List Value).toArray 8) := by
  obtain ⟨hx, hb, hr, hml, hown, hts, hX, hbl, hlocks, hgv⟩ := id C0
  have hA : ∀ q : Nat, s.heap.size ≤ q → (fun q : Nat => s.heap.size ≤ q) q := fun _ h => h
  have hbA : ¬ (fun q : Nat => s.heap.size ≤ q) b := Nat.not_le.mpr hbl
  have hfl := flat_of_before _ hgv
  obtain ⟨k0, i0, hKn0⟩ := u_known (C := RJ0) (T := TJ0) (N := 4) (n := 4) hts wl_wsJ00 (hts (.instantiable RJ0 4) (by decide +kernel))
  obtain ⟨k1, i1, hKn1⟩ := u_known (C := RJ4) (T := TJ4) (N := 4) (n := 4) hts wl_wsJ40 (hts (.instantiable RJ4 4) (by decide +kernel))
  obtain ⟨k2, i2, hKn2⟩ := u_known (C := RJx00060) (T := TJx00060) (N := 6) (n := 6) hts wl_wsJx000600 (hts (.instantiable RJx00060 6) (by decide +kernel))
  obtain ⟨k3, i3, hKn3⟩ := u_known (C := RX0) (T := TX0) (N := 3) (n := 3) hts wl_wsX00 (hts (.instantiable RX0 3) (by decide +kernel))
  obtain ⟨k4, i4, hKn4⟩ := u_known (C := RX1) (T := TX1) (N := 8) (n := 8) hts wl_wsX10 (hts (.instantiable RX1 8) (by decide +kernel))
  obtain ⟨k5, i5, hKn5⟩ := u_known (C := RX2) (T := TX2) (N := 8) (n := 8) hts wl_wsX20 (hts (.instantiable RX2 8) (by decide +kernel))
  obtain ⟨k6, i6, hKn6⟩ := u_known (C := RX3) (T := TX3) (N := 2) (n := 2) hts wl_wsX30 (hts (.instantiable RX3 2) (by decide +kernel))
  obtain ⟨k7, i7, hKn7⟩ := u_known (C := RX4) (T := TX4) (N := 6) (n := 6) hts wl_wsX40 (hts (.instantiable RX4 6) (by decide +kernel))
  obtain ⟨k8, i8, hKn8⟩ := u_known (C := RX5) (T := TX5) (N := 6) (n := 6) hts wl_wsX50 (hts (.instantiable RX5 6) (by decide +kernel))
  obtain ⟨k9, i9, hKn9⟩ := u_known (C := RX6) (T := TX6) (N := 15) (n := 15) hts wl_wsX60 (hts (.instantiable RX6 15) (by decide +kernel))
  obtain ⟨k10, i10, hKn10⟩ := u_known (C := RX7) (T := TX7) (N := 23) (n := 23) hts wl_wsX70 (hts (.instantiable RX7 23) (by decide +kernel))
  obtain ⟨dC, dI, hKc⟩ : ∃ (dC : Nat → ClassId) (dI : Nat → Nat → Nat), ∀ (k : Nat) (q : vw_C), vwCl[k]? = some q → u_Kn s q.1 q.2.1 q.2.2 (dC k) (dI k) := by
    refine ⟨fun k => if k = 0 then k0 else if k = 1 then k1 else if k = 2 then k2 else if k = 3 then k3 else if k = 4 then k4 else if k = 5 then k5 else if k = 6 then k6 else if k = 7 then k7 else if k = 8 then k8 else if k = 9 then k9 else k10, fun k => if k = 0 then i0 else if k = 1 then i1 else if k = 2 then i2 else if k = 3 then i3 else if k = 4 then i4 else if k = 5 then i5 else if k = 6 then i6 else if k = 7 then i7 else if k = 8 then i8 else if k = 9 then i9 else i10, ?_⟩
    intro k q hq
    match k, hq with
    | 0, hq => cases hq; exact hKn0
    | 1, hq => cases hq; exact hKn1
    | 2, hq => cases hq; exact hKn2
    | 3, hq => cases hq; exact hKn3
    | 4, hq => cases hq; exact hKn4
    | 5, hq => cases hq; exact hKn5
    | 6, hq => cases hq; exact hKn6
    | 7, hq => cases hq; exact hKn7
    | 8, hq => cases hq; exact hKn8
    | 9, hq => cases hq; exact hKn9
    | 10, hq => cases hq; exact hKn10
    | k + 11, hq => simp [vwCl] at hq
  obtain ⟨cI, kI, pI, fI1, fI2, fI3⟩ := Cond.arrayClass_spec (hts (.arrayClass .int) (by decide +kernel))
  obtain ⟨cZ, kZ, pZ, fZ1, fZ2, fZ3⟩ := Cond.arrayClass_spec (hts (.arrayClass .boolean) (by decide +kernel))
  obtain ⟨cJ, kJ, pJ, fJ1, fJ2, fJ3⟩ := Cond.arrayClass_spec (hts (.arrayClass .long) (by decide +kernel))
  have hO1 : va_Nw (.arrayOver (.object RX0)) s := hts (.arrayOver (.object RX0)) (by decide +kernel)
  have hO2 : va_Nw (.arrayOver (.array .int)) s := hts (.arrayOver (.array .int)) (by decide +kernel)
  obtain ⟨pM, cM, kM, fM1, fM2, fM3, fM4, fM5⟩ := Cond.arrayOver_spec hO1
  obtain ⟨pR, cR, kR, fR1, fR2, fR3⟩ := aoA_spec hO2
  obtain ⟨cA, hcA⟩ : ∃ cA : Nat → ClassId, cA = fun k => if k = 0 then cI else if k = 1 then cZ else if k = 2 then cM else if k = 3 then cR else cJ := ⟨_, rfl⟩
  obtain ⟨D, hDe⟩ : ∃ D : va_G, D = (dC, dI) := ⟨_, rfl⟩
  have hK : va_K D vwCl (gT cA) s := by
    rw [hDe, hcA]
    refine ⟨hKc, ?_⟩
    intro k q hq
    match k, hq with
    | 0, hq => cases hq; exact ⟨fun n z => ⟨fun k h => (by cases h), kI, fI2, pI, fI3⟩, fI1⟩
    | 1, hq => cases hq; exact ⟨fun n z => ⟨fun k h => (by cases h), kZ, fZ2, pZ, fZ3⟩, fZ1⟩
    | 2, hq => cases hq; exact ⟨fun n z => ⟨fun k h => (by cases h), kM, fM3, pM, fM4⟩, kM, pM, fM3, fM4, fM1, fM5⟩
    | 3, hq => cases hq; exact ⟨fun n z => ⟨fun k h => (by cases h), kR, fR1, pR, fR2⟩, fR3⟩
    | 4, hq => cases hq; exact ⟨fun n z => ⟨fun k h => (by cases h), kJ, fJ2, pJ, fJ3⟩, fJ1⟩
    | k + 5, hq => simp at hq
  have hN : NW s := fun w hw => va_tabs (wl_nwT w hw) rfl (hts w (List.mem_append_right _ (wl_nw w hw)))
  obtain ⟨t1, _, _, _, e1, _⟩ := Cond.exactly_spec (hfl (.exactly (.string RX6 234) "java/lang/String") (by decide +kernel))
  obtain ⟨t2, _, _, _, e2, _⟩ := Cond.exactly_spec (hfl (.exactly (.string RX6 111) "java/lang/String") (by decide +kernel))
  obtain ⟨t3, _, _, _, e3, _⟩ := Cond.exactly_spec (hfl (.exactly (.string RX6 191) "java/lang/String") (by decide +kernel))
  have hGX : gX (fun q => s.heap.size ≤ q) s := ⟨vx_Zqof (hts (.laysStatic Bundle.tN "UNASSIGNED_STACK" Bundle.steD) (by decide +kernel)) (hts (.initialized Bundle.tN) (by decide +kernel)) (hfl (.isRef (.static Bundle.tN "UNASSIGNED_STACK" Bundle.steD)) (by decide +kernel)) (fun a ha => Nat.not_le.mpr ha), vx_Zqof (hts (.laysStatic Bundle.tN "SUPPRESSED_SENTINEL" Bundle.listD) (by decide +kernel)) (hts (.initialized Bundle.tN) (by decide +kernel)) (hfl (.isRef (.static Bundle.tN "SUPPRESSED_SENTINEL" Bundle.listD)) (by decide +kernel)) (fun a ha => Nat.not_le.mpr ha), ⟨t1, vk_R.of (hts (.stringRef RX6 234 "there is none of this number") (by decide +kernel)) e1⟩, ⟨t2, vk_R.of (hts (.stringRef RX6 111 "such a twist can't be added") (by decide +kernel)) e2⟩, ⟨t3, vk_R.of (hts (.stringRef RX6 191 "bits must be 2 or 4") (by decide +kernel)) e3⟩, fun w hw => va_tabs (wl_ngT w (List.mem_append.mpr hw)) rfl (hts w (List.mem_append_right _ (wl_ng w (List.mem_append.mpr hw)))), va_Nc.of (hfl (.not (.castable RIA RJx00060)) (by decide +kernel))⟩
  have hts2 : ∀ w ∈ wsL_law ++ atA, w.before #[Value.ref b] s = true := fun w h => (List.mem_append.mp h).elim (fun h => hts w (wl_law w h)) (fun h => hts w (wl_at w h))
  have hLX : LX p l room_1 s m c D cA b L xs := ⟨hx, hb, hml, hown, hts2, hX, hbl, hK, hN, hGX, hst, by decide, by decide, by decide, by decide, hL⟩
  have hRc : room_1.cells = 601024 := rfl
  have hRs : room_1.slots = 7293000 := rfl
  have K0 : ∀ (H : Heap) (locs : List Loc) (ls : Array Slot) (cells slots : Nat), (∀ q ∈ locs, s.heap.size ≤ q.base) → cells ≤ 600000 → slots ≤ 7000000 → W p l e room_1 s m #[.ref b] below meth c H locs cells slots (lw_Z below #[Value.ref b] s) (F0 m 1153 ls []) := fun H locs ls cells slots hlo hc hs => by
    refine lv_iconst (v := 1) hx hb dL_law_1153 (by decide) ?_
    refine va_forget hlo ?_
    refine W.widen (k := 601024) (n := 7293000) (by omega) (by omega) ?_
    exact lw_ret hx hb hr hlocks dL_law_1154
  have hXb : FrameBlind (va_Pc [.ref b, .int (nI 0)] (fun U => va_X b L xs U U.heap)) := fun a U g mk q => ⟨q.1, va_X.moved (u := U) (U := U.calling g mk a) (Vm.Alike.refl U.vm) q.2⟩
  have hXb1 : FrameBlind (va_Pc [.ref b, .int (nI 1)] (fun U => va_X b L xs U U.heap)) := fun a U g mk q => ⟨q.1, va_X.moved (u := U) (U := U.calling g mk a) (Vm.Alike.refl U.vm) q.2⟩
  have hS : va_S (fun q : Nat => s.heap.size ≤ q) s.heap s.heap [] := va_S.rf
  have hP : va_P D vwCl [] s.heap := fun k q h => by simp at h
  have hD : va_D (fun q : Nat => s.heap.size ≤ q) [] := ⟨fun i j p q h => by simp at h, fun k q h => by simp at h⟩
  obtain ⟨y0, hy0⟩ : ∃ y0, y0 = if 0 < L then xs 0 else 0 := ⟨_, rfl⟩
  obtain ⟨y1, hy1⟩ : ∃ y1, y1 = if 1 < L then xs 1 else 0 := ⟨_, rfl⟩
  obtain ⟨P, hPe⟩ : ∃ P, P = clQ 2 8 y0 := ⟨_, rfl⟩
  obtain ⟨T, hTe⟩ : ∃ T, T = clQ 1 3 y1 := ⟨_, rfl⟩
  have hPin := clQ_in (lo := 2) (hi := 8) (x := y0) (by decide) (by decide) (by decide)
  have hTin := clQ_in (lo := 1) (hi := 3) (x := y1) (by decide) (by decide) (by decide)
  rw [← hPe] at hPin
  rw [← hTe] at hTin
  have hl := lv_entry ([.ref b]) (n := 8) (Nat.le_of_ble_eq_true rfl)
  rw [lg_entry_eq]
  generalize (lg_sl ([.ref b]) ++ List.replicate (8 - (lg_sl ([.ref b])).length) Slot.unset).toArray = ls at hl ⊢
  have hl : lv_has ls 8 [(0, .ref b)] := hl
  refine va_new (ci := 9) (fs := [.int 0, .int 0, .null, .int 0, .null, .int 0, .null, .null, .null, .null, .null, .null, .null, .null, .null]) (C := RX6) (T := TX6) (N := 15) hx hb hts wl_wsX60 tyX6 tyX6_ok hown (hts (.classLink RL 8 RX6) (by decide +kernel)) (hts (.instantiable RX6 15) (by decide +kernel)) (hts (.initialized RX6) (by decide +kernel)) hK hP hD hS hA rfl (fun j hj => by rcases (show j = 0 ∨ j = 1 ∨ j = 2 ∨ j = 3 ∨ j = 4 ∨ j = 5 ∨ j = 6 ∨ j = 7 ∨ j = 8 ∨ j = 9 ∨ j = 10 ∨ j = 11 ∨ j = 12 ∨ j = 13 ∨ j = 14 by omega) with rfl | rfl | rfl | rfl | rfl | rfl | rfl | rfl | rfl | rfl | rfl | rfl | rfl | rfl | rfl <;> rfl) (by omega) (by omega) dL_law_0 (fun q0 H hP hD hS => ?_)
  have hP : va_P D vwCl [(q0, .inr (9, [.int 0, .int 0, .null, .int 0, .null, .int 0, .null, .null, .null, .null, .null, .null, .null, .null, .null]))] H := hP
  have hD : va_D (fun q : Nat => s.heap.size ≤ q) [(q0, .inr (9, [.int 0, .int 0, .null, .int 0, .null, .int 0, .null, .null, .null, .null, .null, .null, .null, .null, .null]))] := hD
  refine lv_dup hx hb dL_law_3 rfl ?_
  refine lv_aload_n hx hb dL_law_4 rfl (lv_at hl 0 rfl) ?_
  refine lv_iconst (v := nI 0) hx hb dL_law_5 (by decide) ?_
  have hXH := hX.kept (hS.2.1 b hbl hbA)
  refine va_calli (va_runS (As := [.ref b, .int (nI 0)]) (rest := [.ref q0, .ref q0]) ⟨hx, hb, hml, hown, hts2⟩ (cc_L_cell l b L 0 xs hL (by decide)) (va_cwS 2 hts2 (atA_lV gL_law_L_cell) rfl rfl rfl (by decide +kernel) ⟨Nat.le_of_ble_eq_true rfl, Nat.le_of_ble_eq_true rfl⟩) ⟨hXb, fun U hU hW => ⟨rfl, by show va_X b L xs U U.heap; rw [hU]; exact va_X.moved hW.alike hXH⟩⟩ rfl rfl hl.1 rfl (lv_room (Nat.le_of_ble_eq_true rfl)) dL_law_6 ⟨by omega, by omega⟩) hS (fun q _ h => h.elim) (fun q h => h.elim) (fun r9 u9 t9 H1 locs ht9 hvm9 hw9 hB9 hz9 hk9 hS => ?_)
  have hP := hP.kept (fun k x hx => hk9 x.1 ((hP k x hx).lt) (fun h => h))
  refine gx_as (y := y0) (by rw [hw9, hy0]) ?_
  generalize H1 = H at hP hS ⊢
  clear hz9 hk9 hB9 ht9
  refine lv_aload_n hx hb dL_law_9 rfl (lv_at hl 0 rfl) ?_
  refine lv_iconst (v := nI 1) hx hb dL_law_10 (by decide) ?_
  have hXH := hX.kept (hS.2.1 b hbl hbA)
  refine va_calli (va_runS (As := [.ref b, .int (nI 1)]) (rest := [.int y0, .ref q0, .ref q0]) ⟨hx, hb, hml, hown, hts2⟩ (cc_L_cell l b L 1 xs hL (by decide)) (va_cwS 2 hts2 (atA_lV gL_law_L_cell) rfl rfl rfl (by decide +kernel) ⟨Nat.le_of_ble_eq_true rfl, Nat.le_of_ble_eq_true rfl⟩) ⟨hXb1, fun U hU hW => ⟨rfl, by show va_X b L xs U U.heap; rw [hU]; exact va_X.moved hW.alike hXH⟩⟩ rfl rfl hl.1 rfl (lv_room (Nat.le_of_ble_eq_true rfl)) dL_law_11 ⟨by omega, by omega⟩) hS (fun q _ h => h.elim) (fun q h => h.elim) (fun r9 u9 t9 H1 locs ht9 hvm9 hw9 hB9 hz9 hk9 hS => ?_)
  have hP := hP.kept (fun k x hx => hk9 x.1 ((hP k x hx).lt) (fun h => h))
  refine gx_as (y := y1) (by rw [hw9, hy1]) ?_
  generalize H1 = H at hP hS ⊢
  clear hz9 hk9 hB9 ht9
  have hFc := va_free (wc := [(q0, .inr (9, [.int 0, .int 0, .null, .int 0, .null, .int 0, .null, .null, .null, .null, .null, .null, .null, .null, .null]))]) hD hS hA [0] rfl
  refine va_callv (va_runI (As := [.int y0, .int y1]) (rest := [.ref q0]) ⟨hx, hb, hml, hown, hts2⟩ (cc_X6_init l D cA _ q0 y0 y1 P T (fun _ => 0) hPe hTe) (cwI 2 hts2 (atA_lV gL_law_X6_init) rfl rfl rfl (hts (.initialized RX6) (by decide +kernel)) (hts (.methodLink RL 64 yX6_init) (by decide +kernel)) (hts (.instanceMethod yX6_init) (by decide +kernel)) rfl (by decide +kernel) ⟨Nat.le_of_ble_eq_true rfl, Nat.le_of_ble_eq_true rfl⟩) ⟨cPre6_blind, fun U hU hW => ⟨rfl, cPre_of hP hD hK hN hU hW, ao_warm hW hO1, ao_warm hW hO2⟩⟩ rfl rfl hl.1 rfl (lv_room (Nat.le_of_ble_eq_true rfl)) dL_law_14 ⟨by omega, by omega⟩) hS (fun q _ h => hFc q h) hFc (fun u t H1 locs ht hvm hw hB hz hk hS => ?_)
  obtain ⟨hP1, hD1⟩ := hB
  rw [ht] at hP1
  have hP := hP1
  have hD := hD1.weaken (B := fun q : Nat => s.heap.size ≤ q) (fun _ _ _ h => hFc _ h)
  generalize H1 = H at hP hS ⊢
  clear hz hk hP1 hD1 ht hFc
  obtain ⟨W1, hW1⟩ : ∃ W1, W1 = gw u (gC cA (fun _ => 0) u (ln0 P) (iv0 P T)) 53 := ⟨_, rfl⟩
  have hP : va_P D vwCl W1 H := by rw [hW1]; exact hP
  have hD : va_D (fun q : Nat => s.heap.size ≤ q) W1 := by rw [hW1]; exact hD
  have hlen : W1.length = 53 := by rw [hW1]; exact gw_len
  refine lv_astore_n (lv' := [(1, .ref q0), (0, .ref b)]) hx hb dL_law_17 rfl hl (by decide) rfl (fun ls hl => ?_)
  refine va_new (ci := 10) (fs := [.int 0, .int 0, .int 0, .int 0, .null, .null, .null, .int 0, .null, .null, .null, .int 0, .int 0, .int 0, .int 0, .null, .null, .null, .int 0, .null, .null, .null, .null]) (C := RX7) (T := TX7) (N := 23) hx hb hts wl_wsX70 tyX7 tyX7_ok hown (hts (.classLink RL 67 RX7) (by decide +kernel)) (hts (.instantiable RX7 23) (by decide +kernel)) (hts (.initialized RX7) (by decide +kernel)) hK hP hD hS hA rfl (fun j hj => by rcases (show j = 0 ∨ j = 1 ∨ j = 2 ∨ j = 3 ∨ j = 4 ∨ j = 5 ∨ j = 6 ∨ j = 7 ∨ j = 8 ∨ j = 9 ∨ j = 10 ∨ j = 11 ∨ j = 12 ∨ j = 13 ∨ j = 14 ∨ j = 15 ∨ j = 16 ∨ j = 17 ∨ j = 18 ∨ j = 19 ∨ j = 20 ∨ j = 21 ∨ j = 22 by omega) with rfl | rfl | rfl | rfl | rfl | rfl | rfl | rfl | rfl | rfl | rfl | rfl | rfl | rfl | rfl | rfl | rfl | rfl | rfl | rfl | rfl | rfl | rfl <;> rfl) (by omega) (by omega) dL_law_18 (fun q1 H hP hD hS => ?_)
  refine lv_dup hx hb dL_law_21 rfl ?_
  refine lv_aload_n hx hb dL_law_22 rfl (lv_at hl 1 rfl) ?_
  refine lv_iconst (v := nI 0) hx hb dL_law_23 (by decide) ?_
  have hXH := hX.kept (hS.2.1 b hbl hbA)
  refine va_calli (va_runS (As := [.ref b, .int (nI 0)]) (rest := [.ref q1, .ref q1]) ⟨hx, hb, hml, hown, hts2⟩ (cc_L_cell l b L 0 xs hL (by decide)) (va_cwS 2 hts2 (atA_lV gL_law_L_cell) rfl rfl rfl (by decide +kernel) ⟨Nat.le_of_ble_eq_true rfl, Nat.le_of_ble_eq_true rfl⟩) ⟨hXb, fun U hU hW => ⟨rfl, by show va_X b L xs U U.heap; rw [hU]; exact va_X.moved hW.alike hXH⟩⟩ rfl rfl hl.1 rfl (lv_room (Nat.le_of_ble_eq_true rfl)) dL_law_24 ⟨by omega, by omega⟩) hS (fun q _ h => h.elim) (fun q h => h.elim) (fun r9 u9 t9 H1 locs ht9 hvm9 hw9 hB9 hz9 hk9 hS => ?_)
  have hP := hP.kept (fun k x hx => hk9 x.1 ((hP k x hx).lt) (fun h => h))
  refine gx_as (y := y0) (by rw [hw9, hy0]) ?_
  generalize H1 = H at hP hS ⊢
  clear hz9 hk9 hB9 ht9
  refine lv_aload_n hx hb dL_law_27 rfl (lv_at hl 1 rfl) ?_
  refine lv_iconst (v := nI 1) hx hb dL_law_28 (by decide) ?_
  have hXH := hX.kept (hS.2.1 b hbl hbA)
  refine va_calli (va_runS (As := [.ref b, .int (nI 1)]) (rest := [.int y0, .ref q1, .ref q1]) ⟨hx, hb, hml, hown, hts2⟩ (cc_L_cell l b L 1 xs hL (by decide)) (va_cwS 2 hts2 (atA_lV gL_law_L_cell) rfl rfl rfl (by decide +kernel) ⟨Nat.le_of_ble_eq_true rfl, Nat.le_of_ble_eq_true rfl⟩) ⟨hXb1, fun U hU hW => ⟨rfl, by show va_X b L xs U U.heap; rw [hU]; exact va_X.moved hW.alike hXH⟩⟩ rfl rfl hl.1 rfl (lv_room (Nat.le_of_ble_eq_true rfl)) dL_law_29 ⟨by omega, by omega⟩) hS (fun q _ h => h.elim) (fun q h => h.elim) (fun r9 u9 t9 H1 locs ht9 hvm9 hw9 hB9 hz9 hk9 hS => ?_)
  have hP := hP.kept (fun k x hx => hk9 x.1 ((hP k x hx).lt) (fun h => h))
  refine gx_as (y := y1) (by rw [hw9, hy1]) ?_
  generalize H1 = H at hP hS ⊢
  clear hz9 hk9 hB9 ht9
  have hat : (W1 ++ [(q1, (.inr (10, [.int 0, .int 0, .int 0, .int 0, .null, .null, .null, .int 0, .null, .null, .null, .int 0, .int 0, .int 0, .int 0, .null, .null, .null, .int 0, .null, .null, .null, .null]) : va_E))])[53]? = some (q1, .inr (10, [.int 0, .int 0, .int 0, .int 0, .null, .null, .null, .int 0, .null, .null, .null, .int 0, .int 0, .int 0, .int 0, .null, .null, .null, .int 0, .null, .null, .null, .null])) := by
    rw [List.getElem?_append_right (by omega), hlen]
    rfl
  have hPc : va_P D vwCl [(q1, .inr (10, [.int 0, .int 0, .int 0, .int 0, .null, .null, .null, .int 0, .null, .null, .null, .int 0, .int 0, .int 0, .int 0, .null, .null, .null, .int 0, .null, .null, .null, .null]))] H := hP.sub (ws' := [(q1, .inr (10, [.int 0, .int 0, .int 0, .int 0, .null, .null, .null, .int 0, .null, .null, .null, .int 0, .int 0, .int 0, .int 0, .null, .null, .null, .int 0, .null, .null, .null, .null]))]) [53] (by simp only [List.filterMap, hat])
  have hDc : va_D (fun q : Nat => s.heap.size ≤ q) [(q1, .inr (10, [.int 0, .int 0, .int 0, .int 0, .null, .null, .null, .int 0, .null, .null, .null, .int 0, .int 0, .int 0, .int 0, .null, .null, .null, .int 0, .null, .null, .null, .null]))] := hD.sub (ws' := [(q1, .inr (10, [.int 0, .int 0, .int 0, .int 0, .null, .null, .null, .int 0, .null, .null, .null, .int 0, .int 0, .int 0, .int 0, .null, .null, .null, .int 0, .null, .null, .null, .null]))]) [53] (by decide) (by first | (simp only [List.map, hat]; done) | (simp [hat]; done))
  have hFc := va_free (wc := [(q1, .inr (10, [.int 0, .int 0, .int 0, .int 0, .null, .null, .null, .int 0, .null, .null, .null, .int 0, .int 0, .int 0, .int 0, .null, .null, .null, .int 0, .null, .null, .null, .null]))]) hD hS hA [53] (by simp only [List.map, hat])
  refine va_callv (va_runI (As := [.int y0, .int y1]) (rest := [.ref q1]) ⟨hx, hb, hml, hown, hts2⟩ (cc_X7_init l D cA _ q1 y0 y1) (cwI 2 hts2 (atA_lV gL_law_X7_init) rfl rfl rfl (hts (.initialized RX7) (by decide +kernel)) (hts (.methodLink RL 69 yX7_init) (by decide +kernel)) (hts (.instanceMethod yX7_init) (by decide +kernel)) rfl (by decide +kernel) ⟨Nat.le_of_ble_eq_true rfl, Nat.le_of_ble_eq_true rfl⟩) ⟨cPre_blind, fun U hU hW => ⟨rfl, cPre_of hPc hDc hK hN hU hW⟩⟩ rfl rfl hl.1 rfl (lv_room (Nat.le_of_ble_eq_true rfl)) dL_law_32 ⟨by omega, by omega⟩) hS (fun q _ h => hFc q h) hFc (fun u2 t H1 locs ht hvm hw2 hB hz hk hS => ?_)
  obtain ⟨hP1, hD1⟩ := hB
  rw [ht] at hP1
  rw [← hPe, ← hTe] at hP1 hD1
  obtain ⟨hP, hD⟩ := va_join (wc := [(q1, .inr (10, [.int 0, .int 0, .int 0, .int 0, .null, .null, .null, .int 0, .null, .null, .null, .int 0, .int 0, .int 0, .int 0, .null, .null, .null, .int 0, .null, .null, .null, .null]))]) (wr := W1) (w1 := [(q1, .inr (10, [.int 0, .int (nI P), .int (nI T), .int 0, .ref (u2 0), .ref (u2 1), .ref (u2 2), .int 0, .ref (u2 3), .ref (u2 4), .ref (u2 5), .int 0, .int 0, .int 0, .int 0, .ref (u2 6), .ref (u2 7), .ref (u2 8), .int 0, .ref (u2 9), .ref (u2 10), .ref (u2 11), .ref (u2 12)])), (u2 0, eI cA 48), (u2 1, eI cA 48), (u2 2, eZ cA 8), (u2 3, eI cA 4), (u2 4, eI cA 4), (u2 5, eI cA 4), (u2 6, eI cA 136080), (u2 7, eI cA 136080), (u2 8, eI cA 136080), (u2 9, eI cA 32), (u2 10, eI cA 4), (u2 11, eI cA 4), (u2 12, eZ cA 4)]) hP hD [53] (List.range 53) (by simp only [List.map, hat]) (rng_map hlen) (by decide) (fun i hi => by have := List.mem_range.mp hi; simp; omega) hk hFc hP1 hD1
  generalize H1 = H at hP hS ⊢
  clear hz hk hP1 hD1 ht hFc hPc hDc
  refine lv_astore_n (lv' := [(2, .ref q1), (1, .ref q0), (0, .ref b)]) hx hb dL_law_35 rfl hl (by decide) rfl (fun ls hl => ?_)
  refine lv_iconst (v := nI 1) hx hb dL_law_36 (by decide) ?_
  refine va_newa (atype := .long) (n := nI 1) (ty := .long) (N' := 1) (a0 := (1, .inr (.inl (fun _ => 0)))) hx hb (hts (.arrayClass .long) (by decide +kernel)) rfl hK hP hD hS hA (fun _ => rfl) (nI_pos (by decide)) (nI_clamp (by decide)) (by decide) (by omega) (by omega) dL_law_37 (fun q2 cN H hK1 hP hD hS => ?_)
  have ec := nmJ_eq hK hK1
  subst ec
  refine lv_astore_n (lv' := [(3, .ref q2), (2, .ref q1), (1, .ref q0), (0, .ref b)]) hx hb dL_law_39 rfl hl (by decide) rfl (fun ls hl => ?_)
  refine lv_iconst (v := nI 2) hx hb dL_law_40 (by decide) ?_
  refine lv_istore (lv' := [(4, .int (nI 2)), (3, .ref q2), (2, .ref q1), (1, .ref q0), (0, .ref b)]) hx hb dL_law_41 hl (by decide) rfl (fun ls hl => ?_)
  obtain ⟨ad, hade⟩ : ∃ ad : Nat → Nat, ad = fun i => if i < 53 then u i else if i = 53 then q1 else if i = 67 then q2 else u2 (i - 54) := ⟨_, rfl⟩
  have hw : u 0 = q0 := hw
  have ad0 : ad 0 = q0 := by rw [hade]; exact hw
  have ad53 : ad 53 = q1 := by rw [hade]; rfl
  have ad67 : ad 67 = q2 := by rw [hade]; rfl
  have hadu : ∀ i, i < 53 → ad i = u i := fun i hi => by rw [hade]; exact if_pos hi
  have had2 : ∀ i, i < 13 → ad (54 + i) = u2 i := fun i hi => by
    rw [hade]
    show (if 54 + i < 53 then u (54 + i) else if 54 + i = 53 then q1 else if 54 + i = 67 then q2 else u2 (54 + i - 54)) = u2 i
    rw [if_neg (by omega), if_neg (by omega), if_neg (by omega), show 54 + i - 54 = i by omega]
  rw [hW1, List.append_assoc, w0_eq hadu ad53 had2 ad67] at hP hD
  have hG : gS D cA (fun q => s.heap.size ≤ q) s.heap (fun _ => 0) ad (lnB P) (ivB P T) 68 H locs := ⟨hP, hD, hS⟩
  have hl : lv_has ls 8 [(4, .int (nI 2)), (3, .ref (ad 67)), (2, .ref (ad 53)), (1, .ref (ad 0)), (0, .ref b)] := by rw [ad0, ad53, ad67]; exact hl
  exact law_loop hLX K0 (L + 4) 2 (fun _ => 0) ad (lnB P) (ivB P T) H locs ls _ _ P T 0 0 (fun _ => false) (fun _ q => q) (fun _ _ => 0) (fun _ q => q) (fun _ => 0) (fun _ => 0) (by omega) (by omega) (by omega) (LI_start hPin.1 hPin.2 hTin.1 hTin.2) (by omega) (by omega) hG (lv_sub hl [4, 3, 2, 1, 0] rfl)
set_option maxHeartbeats 4000000 in
theorem lw_walk (l : Launch) (hst : l.stackTraces = false) (b : Addr) (xs : List Int32) : MetFree l x (headSpec (Jvm.Cond.code x code maxLocals ret :: tables_1) room_1) (lw_P b xs) (fun _ _ _ _ _ => True) lw_Q := by
  refine MetFree.of_bodyS (code := code) (maxLocals := maxLocals) (ret := ret) (by decide) ?_ ?_
  · intro args s m h hn
    obtain ⟨meth, c, h1, h2, h3, h4, h5, h6, -, -⟩ := Cond.code_spec hn (atoms_spec (ws := Jvm.Cond.code x code maxLocals ret :: tables_1) h _ List.mem_cons_self)
    exact ⟨meth, c, h1, h2, h3, h4, h5, h6⟩
  · intro p e s m args below meth c s₁ B hml0 hP _
    obtain ⟨rfl, hx, hbd, hgv⟩ := hP
    obtain ⟨scr, harrAt, hlist, hof, hsmall⟩ := hx
    obtain ⟨hcb, hkn, -, -⟩ := State.arrayAt?_spec harrAt
    have hown : s.vm.findClass R_law = some m.cls := findClass_of_methodNamed B.named
    have hts0 : ∀ c ∈ (Jvm.Cond.code x code maxLocals ret :: tables_1), c.before #[Value.ref b] s = true := atoms_spec (ws := Jvm.Cond.code x code maxLocals ret :: tables_1) B.pre
    have hts : ∀ w ∈ lw_tbl, w.before #[Value.ref b] s = true := k2_hts_sels lw_privs (fun w hw => hts0 w (List.mem_cons_of_mem _ hw)) lw_privs_ok
    have hml : c.maxLocals = 8 := B.maxLocals_eq (hts0 _ List.mem_cons_self)
    have X₀ : Stand p l e room_1 s m #[Value.ref b] below meth c s₁ [] 0 0 := Stand.of_body B
    have hh0 : s₁.heap = s.heap := by rw [B.state]; rfl
    have hsz : scr.slots.size = xs.length := by rw [← Array.length_toList, hlist, List.length_map]
    have hval : ∀ j : Nat, j < xs.length → scr.slots[j]? = some (.int (xs.getD j 0)) := fun j hj => by
      rw [← Array.getElem?_toList, hlist]
      simp [hj]
    have hbl : b < s.heap.size := (Array.getElem?_eq_some_iff.mp hcb).1
    have hX : va_X b xs.length (fun j => xs.getD j 0) s s.heap := ⟨scr, hcb, hof, hkn, hsz, hval⟩
    have K : W p l e room_1 s m #[Value.ref b] below meth c s₁.heap [] 0 0 (lw_Z below #[Value.ref b] s) (entryFrame m ([Value.ref b] : List Value).toArray 8) := by
      rw [hh0]
      exact whole_start l hst hbd ⟨B.exec, B.bytes, B.returns, hml, hown, hts, hX, hbl, B.notSynchronized, hgv⟩
    obtain ⟨t, a1, o, b1, b2, b3⟩ := K s₁ rfl X₀
    exact ⟨t, o, a1, b1, b2, b3⟩
theorem lw_pre_spec {args : Array Value} {s : State} (h : (Jvm.Cond.and given_1 narrow_1).before args s = true) (hr : rest_1_c.before args s = true) : ∃ (b : Addr) (xs : List Int32), lw_P b xs args s := by
  have hs := flat_of_before _ h
  have hq := flat_of_before _ hr
  have hc : (Cond.count 1).before args s = true := hs _ (by decide +kernel)
  have harr : (Cond.arrayOf (.arg 0) .int).before args s = true := hs _ (by decide +kernel)
  have hle : (Cond.le (.length (.arg 0)) (.int 2050)).before args s = true := hs _ (by decide +kernel)
  have hlen : (Cond.isInt (.length (.arg 0))).before args s = true := hq _ (by decide +kernel)
  have hall : (Cond.all (.arg 0) (.isInt (.elem (.arg 0) (.index 0)))).before args s = true := hq _ (by decide +kernel)
  obtain ⟨b, xs, hb, hx⟩ := State.ints_of_pre rfl harr hlen hall
  have hsm : xs.length < 2 ^ 31 := hx.choose_spec.2.2.2
  have hev : (Term.length (.arg 0)).eval args s none [] s = some (.int xs.length.toInt32) := hx.length_eval hb
  have hv := Cond.le_ints hev (show (Term.int 2050).eval args s none [] s = some (.int 2050) from rfl)
  have hd : xs.length.toInt32 ≤ 2050 := by
    simpa [Cond.before, Cond.holds, hv] using hle
  have hN : xs.length ≤ 2050 := (Int32.ofNat_le_ofNat hsm (by decide)).mp (show Int32.ofNat xs.length ≤ Int32.ofNat 2050 from hd)
  exact ⟨b, xs, Cond.one_arg hc (show args[0]? = some (.ref b) from hb), hx, hN, h⟩
theorem lw_comes (l : Launch) (hst : l.stackTraces = false) : Comes l x (Jvm.Cond.code x code maxLocals ret :: tables_1) room_1 (fun tb e args s => Calls_1 tb e args s ∧ rest_1 tb e args s ∧ Pre_1 tb e args s)
    (fun _ _ args s o t => lw_Q args s o t) := by
  intro p e ha hc hk s m args below hf hfit hheap happ hpre
  obtain ⟨b, xs, hP⟩ := lw_pre_spec hpre.2.2 hpre.2.1
  obtain ⟨k, o, h1, h2, h3, hQ⟩ := lw_walk l hst b xs p e ha hc hk s m args below hf ((Spec.applies_iff_loose hf).mp happ).1 hP trivial
  exact ⟨k, o, h1, h2, h3, hQ⟩
theorem lw_frame {s t : State} {o : Outcome} {args : Array Value} (h : Framed s o t [] 601024 7293000) :
    Framed s o t (fieldLocs frame_1_writes args s ++ arrayLocs frame_1_arrays args s ++ staticLocs frame_1_statics s) 601024 7293000 := h
theorem lw_limb (L : Cond) (hL : ∀ (args : Array Value) (s t : State), L.after args s (.returned (some (.int 1))) t = true) :
    ArmFor flags0 classFile x code maxLocals ret World_1 tables_1 room_1 Calls_1 rest_1 Pre_1
      (fun tb e a s o t => postC L tb e a s o t ∧ Framed s o t (fieldLocs frame_1_writes a s ++ arrayLocs frame_1_arrays a s ++ staticLocs frame_1_statics s) 601024 7293000) := by
  intro l hfl _ _ p e ha hc hk s m args below hf hfit hheap happ hpre
  have hst : l.stackTraces = false := by
    unfold Launch.stackTraces
    rw [hfl]
    decide
  obtain ⟨k, o, h1, h2, h3, rfl, hF⟩ := lw_comes l hst p e ha hc hk s m args below hf hfit hheap happ hpre
  exact ⟨k, _, h1, h2, h3, hL args s _, lw_frame hF⟩
theorem i_vc : Claimed_1_1 ∧ Claimed_1_2 := ⟨lw_limb limb_1_1 (fun args s t => by simp [limb_1_1, Cond.after, Cond.holds, Cond.value]), lw_limb limb_1_2 (fun args s t => Cond.after_iff.mpr (by
  first | (rw [show limb_1_2 = Cond.eq .result (.int 1) from rfl, Cond.eq_ints (x := 1) (y := 1) rfl rfl]; simp; done) | (simp [limb_1_2, Cond.value, Term.eval]; done)))⟩
