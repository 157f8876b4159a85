/-! what is made: rows and objects, each in a small world of its own -/
abbrev zr : Nat → Int32 := fun _ => 0
def idr (P : Nat) : Nat → Int32 := fun j => if j < P then nI j else 0
abbrev eI (cA : Nat → ClassId) (N : Nat) : va_E := .inl (cA 0, N, .inl zr)
abbrev eZ (cA : Nat → ClassId) (N : Nat) : va_E := .inl (cA 1, N, .inl zr)
abbrev eD (cA : Nat → ClassId) (N : Nat) : va_E := .inl (cA 0, N, .inl (idr N))
def cPre (D : va_G) (cA : Nat → ClassId) (ws : va_W) (sz : Nat) (U : State) : Prop := U.heap.size = sz ∧ va_P D vwCl ws U.heap ∧ va_K D vwCl (gT cA) U ∧ va_D (fun _ => True) ws ∧ NW U
def cAt (D : va_G) (A : Nat → Prop) (ws : (Nat → Nat) → va_W) (u : Nat → Nat) (t : State) : Prop := va_P D vwCl (ws u) t.heap ∧ va_D A (ws u)
theorem cPre_blind {D : va_G} {cA : Nat → ClassId} {ws : va_W} {sz : Nat} {av : List Value} : FrameBlind (va_Pc av (cPre D cA ws sz)) :=
  fun a U g mk q => by
    obtain ⟨q0, q1, qP, qK, qD, qN⟩ := q
    exact ⟨q0, q1, qP, va_K.moved (u := U) (U := U.calling g mk a) (Vm.Alike.refl U.vm) qK, qD, NW.same (s := U) rfl qN⟩
theorem cPre_of {D : va_G} {cA : Nat → ClassId} {ws : va_W} {A : Nat → Prop} {H : Heap} {s U : State} (hP : va_P D vwCl ws H) (hD : va_D A ws) (hK : va_K D vwCl (gT cA) s) (hN : NW s) (hU : U.heap = H) (hW : s.WarmedH U.vm) : cPre D cA ws H.size U :=
  ⟨by rw [hU], by rw [hU]; exact hP, va_K.moved hW.alike hK, hD.weaken (fun _ _ _ _ => trivial), NW.warm hW hN⟩
theorem nmI_eq {D : va_G} {cA : Nat → ClassId} {s : State} {c : ClassId} (hK : va_K D vwCl (gT cA) s) (hK1 : va_K D vwCl (gT cA ++ [(c, .int)]) s) : c = cA 0 :=
  Option.some.inj ((va_nm_int (hK1.2 5 (c, .int) rfl).2).symm.trans (va_nm_int (hK.2 0 (cA 0, .int) rfl).2))
theorem nmZ_eq {D : va_G} {cA : Nat → ClassId} {s : State} {c : ClassId} (hK : va_K D vwCl (gT cA) s) (hK1 : va_K D vwCl (gT cA ++ [(c, .boolean)]) s) : c = cA 1 := by
  have f1 : s.vm.findClass ("[" ++ FieldType.boolean.toString) = some c := (hK1.2 5 (c, .boolean) rfl).2
  have f2 : s.vm.findClass ("[" ++ FieldType.boolean.toString) = some (cA 1) := (hK.2 1 (cA 1, .boolean) rfl).2
  exact Option.some.inj (f1.symm.trans f2)
theorem nmJ_eq {D : va_G} {cA : Nat → ClassId} {s : State} {c : ClassId} (hK : va_K D vwCl (gT cA) s) (hK1 : va_K D vwCl (gT cA ++ [(c, .long)]) s) : c = cA 4 := by
  have f1 : s.vm.findClass ("[" ++ FieldType.long.toString) = some c := (hK1.2 5 (c, .long) rfl).2
  have f2 : s.vm.findClass ("[" ++ FieldType.long.toString) = some (cA 4) := (hK.2 4 (cA 4, .long) rfl).2
  exact Option.some.inj (f1.symm.trans f2)
section CYR
variable {p : Program} {l : Launch} {e : Env} {R : Room} {s : State} {m : MethodId} {args : Array Value} {below : List Frame} {meth : Method} {c : Code} {H : Heap} {locs : List Loc} {cells slots : Nat} {Q : State → Prop}
variable {cc : ByteArray} {pc : Nat} {ls : Array Slot} {rest : List Value} {D : va_G} {A : Nat → Prop} {H0 : Heap} {cA : Nat → ClassId} {ws : va_W}
theorem cy_newI (hexec : p.tables.exec = Jvm.exec) (hb : c.code = cc) (harr : (Cond.arrayClass .int).before args s = true) (hK : va_K D vwCl (gT cA) s) (hP : va_P D vwCl ws H) (hD : va_D A ws) (hS : va_S A H0 H locs) (hA : ∀ q, H0.size ≤ q → A q) {N : Nat} (hN : N ≤ 2 ^ 20) (hcells : cells + 1 ≤ R.cells) (hslots : slots + N ≤ R.slots) (hdg : decode cc pc = .ok (.newarray .int, 2))
    (kk : ∀ (q : Nat) (H1 : Heap), va_P D vwCl (ws ++ [(q, eI cA N)]) H1 → va_D A (ws ++ [(q, eI cA N)]) → va_S A H0 H1 locs → W p l e R s m args below meth c H1 locs (cells + 1) (slots + N) Q (F0 m (pc + 2) ls (.ref q :: rest))) : W p l e R s m args below meth c H locs cells slots Q (F0 m pc ls (.int (nI N) :: rest)) := by
  refine va_newa (atype := .int) (n := nI N) (ty := .int) (N' := N) (a0 := (N, .inl (fun _ => 0))) hexec hb harr rfl hK hP hD hS hA (fun _ => rfl) (nI_pos (by omega)) (nI_clamp (by omega)) (by show N * 4 ≤ 536870912; omega) hcells hslots hdg (fun q cN H1 hK1 hP1 hD1 hS1 => ?_)
  have ec := nmI_eq hK hK1
  subst ec
  exact kk q H1 hP1 hD1 hS1
theorem cy_newZ (hexec : p.tables.exec = Jvm.exec) (hb : c.code = cc) (harr : (Cond.arrayClass .boolean).before args s = true) (hK : va_K D vwCl (gT cA) s) (hP : va_P D vwCl ws H) (hD : va_D A ws) (hS : va_S A H0 H locs) (hA : ∀ q, H0.size ≤ q → A q) {N : Nat} (hN : N ≤ 2 ^ 20) (hcells : cells + 1 ≤ R.cells) (hslots : slots + N ≤ R.slots) (hdg : decode cc pc = .ok (.newarray .boolean, 2))
    (kk : ∀ (q : Nat) (H1 : Heap), va_P D vwCl (ws ++ [(q, eZ cA N)]) H1 → va_D A (ws ++ [(q, eZ cA N)]) → va_S A H0 H1 locs → W p l e R s m args below meth c H1 locs (cells + 1) (slots + N) Q (F0 m (pc + 2) ls (.ref q :: rest))) : W p l e R s m args below meth c H locs cells slots Q (F0 m pc ls (.int (nI N) :: rest)) := by
  refine va_newa (atype := .boolean) (n := nI N) (ty := .boolean) (N' := N) (a0 := (N, .inl (fun _ => 0))) hexec hb harr rfl hK hP hD hS hA (fun _ => rfl) (nI_pos (by omega)) (nI_clamp (by omega)) (by show N * 1 ≤ 536870912; omega) hcells hslots hdg (fun q cN H1 hK1 hP1 hD1 hS1 => ?_)
  have ec := nmZ_eq hK hK1
  subst ec
  exact kk q H1 hP1 hD1 hS1
end CYR
set_option maxHeartbeats 1000000 in
set_option maxRecDepth 100000 in
theorem cc_leaveAll (l : Launch) (D : va_G) (cA : Nat → ClassId) (sz a L : Nat) (r : Nat → Int32) (hL : L ≤ 2 ^ 20) : Met l yX6_leaveAll wsX6_leaveAll { frames := 0, cells := 0, slots := 0, locals := 0 } (va_Pc [.ref a] (cPre D cA [(a, .inl (cA 0, L, .inl r))] sz)) (va_Qv (fun _ : Nat → Nat => True) (cAt D (va_A [(a, .inl (cA 0, L, .inl r))] sz) (fun _ => [(a, .inl (cA 0, L, .inl (fun j => if j < L then nI j else r j)))])) (va_A [(a, .inl (cA 0, L, .inl r))] sz)) 0 0 (va_A [(a, .inl (cA 0, L, .inl r))] sz) := by
  refine Met.ofW (cc := cX6_leaveAll) (maxL := 2) (ret := none) (by decide) rfl ?_
  intro p e s m args below meth c s₁ B hml hv
  obtain ⟨rfl, hsz, hP, hK, hD0, hN⟩ := hv
  have hx := B.exec
  have hb := B.bytes
  have hr := B.returns
  subst hsz
  have hD := hD0.self (sz := s.heap.size)
  generalize hAe : va_A [(a, .inl (cA 0, L, .inl r))] s.heap.size = A at hD ⊢
  have hS : va_S A s.heap s.heap [] := va_S.rf
  have hl := lv_entry ([.ref a]) (n := 2) (Nat.le_of_ble_eq_true rfl)
  rw [lg_entry_eq]
  generalize (lg_sl ([.ref a]) ++ List.replicate (2 - (lg_sl ([.ref a])).length) Slot.unset).toArray = ls at hl ⊢
  have hl : lv_has ls 2 [(0, .ref a)] := hl
  refine lv_iconst (v := nI 0) hx hb dX6_leaveAll_0 (by decide) ?_
  refine lv_istore_n (lv' := [(1, .int (nI 0)), (0, .ref a)]) hx hb dX6_leaveAll_1 rfl hl (by decide) rfl (fun ls hl => ?_)
  have L2 : ∀ (N : Nat) (i : Nat) (f : Nat → Int32), L - i < N → i ≤ L → f = (fun j => if j < i then nI j else r j) → ∀ (H : Heap) (locs : List Loc) (ls : Array Slot), va_P D vwCl [(a, .inl (cA 0, L, .inl f))] H → va_D A [(a, .inl (cA 0, L, .inl f))] → va_S A s.heap H locs → lv_has ls 2 [(0, .ref a), (1, .int (nI i))] → W p l e (headSpec wsX6_leaveAll { frames := 0, cells := 0, slots := 0, locals := 0 }).room s m [Value.ref a].toArray below meth c H locs 0 0 (MQ below (va_Qv (fun _ : Nat → Nat => True) (cAt D A (fun _ => [(a, .inl (cA 0, L, .inl (fun j => if j < L then nI j else r j)))])) A) [Value.ref a].toArray s 0 0 A) (F0 m 2 ls []) := by
    intro N
    induction N with
    | zero => intro i f hm; exact absurd hm (Nat.not_lt_zero _)
    | succ N ih2 =>
      intro i f hm hi hf H locs ls hP hD hS hl
      refine lv_iload_n hx hb dX6_leaveAll_2 rfl (lv_at hl 1 rfl) ?_
      refine lv_aload_n hx hb dX6_leaveAll_3 rfl (lv_at hl 0 rfl) ?_
      refine va_alen (v := nI L) hx hb hK hP 0 0 rfl rfl rfl dX6_leaveAll_4 ?_
      refine lv_icmp_ge (tgt := 18) hx hb dX6_leaveAll_5 (by decide) (fun c_5 => ?_) (fun c_5 => ?_)
      · rw [nI_leI (by omega) (by omega)] at c_5
        have ei : i = L := by omega
        subst ei
        rw [hf] at hP hD
        exact W.vret hx hb hr (fun t ht hW => ⟨⟨fun i => i, rfl, trivial, by unfold cAt; rw [ht]; exact ⟨hP, hD⟩⟩, hS.F ht⟩) hS.2.2 dX6_leaveAll_18
      · rw [nI_leI (by omega) (by omega)] at c_5
        refine lv_aload_n hx hb dX6_leaveAll_8 rfl (lv_at hl 0 rfl) ?_
        refine lv_iload_n hx hb dX6_leaveAll_9 rfl (lv_at hl 1 rfl) ?_
        refine lv_iload_n hx hb dX6_leaveAll_10 rfl (lv_at hl 1 rfl) ?_
        refine va_iast hx hb hK hP hD hS 0 0 rfl rfl (vp_in_nI (by omega) (by omega)) dX6_leaveAll_11 (fun H locs hP hD hS => ?_)
        refine lv_iinc (v := nI (i + 1)) (lv' := [(1, .int (nI (i + 1))), (0, .ref a)]) hx hb dX6_leaveAll_12 hl (k := 1) rfl (nI_1 i) (by decide) rfl (fun ls hl => ?_)
        refine lv_goto (tgt := 2) hx hb dX6_leaveAll_15 (by decide) ?_
        refine ih2 (i + 1) (upd f (nI i).toNatClampNeg (nI i)) (by omega) (by omega) ?_ _ _ _ hP hD hS (lv_sub hl [1, 0] rfl)
        rw [nI_clamp (by omega), hf]
        funext j
        unfold upd
        by_cases q : j = i
        · subst q
          simp
        · by_cases w : j < i
          · simp [q, w, show j < i + 1 by omega]
          · simp [q, w, show ¬ j < i + 1 by omega]
  exact L2 _ 0 r (Nat.lt_succ_self _) (Nat.zero_le _) (by funext j; simp) _ _ _ hP hD hS (lv_sub hl [1, 0] rfl)
set_option maxHeartbeats 1000000 in
set_option maxRecDepth 100000 in
theorem cc_rowThatLeavesAll (l : Launch) (D : va_G) (cA : Nat → ClassId) (sz P : Nat) (hPb : P ≤ 2 ^ 20) : Met l yX6_rowThatLeavesAll wsX6_rowThatLeavesAll { frames := 1, cells := 1, slots := P, locals := 21 } (va_Pc [.int (nI P)] (cPre D cA [] sz)) (va_Qr (fun _ : Unit => True) (fun _ a t => va_P D vwCl [(a, eD cA P)] t.heap ∧ va_D (va_A [] sz) [(a, eD cA P)]) (va_A [] sz)) 1 P (va_A [] sz) := by
  refine Met.ofW (cc := cX6_rowThatLeavesAll) (maxL := 2) (ret := (some (.array .int))) (by decide) rfl ?_
  intro p e s m args below meth c s₁ B hml hv
  obtain ⟨rfl, hsz, hP, hK, hD0, hN⟩ := hv
  have hx := B.exec
  have hb := B.bytes
  have hr := B.returns
  have hts := atoms_spec (ws := wsX6_rowThatLeavesAll) B.pre
  have hown : s.vm.findClass RX6 = some m.cls := findClass_of_methodNamed B.named
  subst hsz
  have hD := hD0.self (sz := s.heap.size)
  generalize hAe : va_A [] s.heap.size = A at hD ⊢
  have hA : ∀ q : Nat, s.heap.size ≤ q → A q := fun q h => by rw [← hAe]; exact Or.inr h
  have hS : va_S A s.heap s.heap [] := va_S.rf
  have hRf : 1 ≤ (headSpec wsX6_rowThatLeavesAll { frames := 1, cells := 1, slots := P, locals := 21 }).room.frames := Nat.le_refl _
  have hRl : 21 ≤ (headSpec wsX6_rowThatLeavesAll { frames := 1, cells := 1, slots := P, locals := 21 }).room.locals := Nat.le_refl _
  have hRc : 0 + 1 ≤ (headSpec wsX6_rowThatLeavesAll { frames := 1, cells := 1, slots := P, locals := 21 }).room.cells := Nat.le_refl _
  have hRs : 0 + P ≤ (headSpec wsX6_rowThatLeavesAll { frames := 1, cells := 1, slots := P, locals := 21 }).room.slots := by show 0 + P ≤ P; omega
  have hl := lv_entry ([.int (nI P)]) (n := 2) (Nat.le_of_ble_eq_true rfl)
  rw [lg_entry_eq]
  generalize (lg_sl ([.int (nI P)]) ++ List.replicate (2 - (lg_sl ([.int (nI P)])).length) Slot.unset).toArray = ls at hl ⊢
  have hl : lv_has ls 2 [(0, .int (nI P))] := hl
  refine lv_iload_n hx hb dX6_rowThatLeavesAll_0 rfl (lv_at hl 0 rfl) ?_
  refine cy_newI hx hb (hts (.arrayClass .int) (by decide +kernel)) hK hP hD hS hA hPb hRc hRs dX6_rowThatLeavesAll_1 (fun q H hP hD hS => ?_)
  have hP : va_P D vwCl [(q, eI cA P)] H := hP
  have hD : va_D A [(q, eI cA P)] := hD
  refine lv_astore_n (lv' := [(1, .ref q), (0, .int (nI P))]) hx hb dX6_rowThatLeavesAll_3 rfl hl (by decide) rfl (fun ls hl => ?_)
  refine lv_aload_n hx hb dX6_rowThatLeavesAll_4 rfl (lv_at hl 0 rfl) ?_
  have hFc := va_free (wc := [(q, eI cA P)]) hD hS hA [0] rfl
  refine va_callv (va_runS (As := [.ref q]) (rest := []) ⟨hx, hb, hml, hown, hts⟩ (cc_leaveAll l D cA H.size q P zr hPb) (va_cwS 1 hts gX6_rowThatLeavesAll_X6_leaveAll rfl rfl rfl (by decide +kernel) ⟨gle hRf rfl, gle hRl rfl⟩) ⟨cPre_blind, fun U hU hW => ⟨rfl, cPre_of hP hD hK hN hU hW⟩⟩ rfl rfl hl.1 rfl (lv_room (Nat.le_of_ble_eq_true rfl)) dX6_rowThatLeavesAll_5 ⟨hRc, hRs⟩) hS (fun q9 _ h => hFc q9 h) hFc (fun u t H1 locs1 ht hvm hw hB hz hk hS1 => ?_)
  obtain ⟨hP1, hD1⟩ := hB
  rw [ht] at hP1
  have hD1 := hD1.weaken (B := A) (fun _ _ _ h => hFc _ h)
  refine lv_aload_n hx hb dX6_rowThatLeavesAll_8 rfl (lv_at hl 0 rfl) ?_
  refine W.widen (k := 1) (n := P) (by omega) (by omega) ?_
  exact W.aret (v := .ref q) hx hb B.returns (Or.inr ⟨_, rfl⟩) (Or.inr ⟨_, rfl⟩) (fun t ht hW => ⟨⟨(), q, rfl, trivial, by show va_P D vwCl _ t.heap ∧ _; rw [ht]; exact ⟨hP1, hD1⟩⟩, hS1.F ht⟩) hS1.2.2 dX6_rowThatLeavesAll_9
