/-! the law's own methods that catch -/
theorem met_mono {l : Launch} {y : MethodName} {ws : List Cond} {rm : Room} {Pc : Array Value → State → Prop} {Qc Qd : Array Value → State → Outcome → State → Prop} {mc ms : Nat} {free : Addr → Prop} (h : Met l y ws rm Pc Qc mc ms free) (hq : ∀ a st o t, Qc a st o t → Qd a st o t) : Met l y ws rm Pc Qd mc ms free := fun p e ha hc hk s m args below hf happ hP hK => by
  obtain ⟨k, o, h1, h2, h3, hQ, hL⟩ := h p e ha hc hk s m args below hf happ hP hK
  exact ⟨k, o, h1, h2, h3, hq _ _ _ _ hQ, hL⟩
theorem met_ofWH {l : Launch} {y : MethodName} {ws ws' : List Cond} {rm : Room} {Pc : Array Value → State → Prop} {Qc : Array Value → State → Outcome → State → Prop} {mc ms : Nat} {free : Addr → Prop} {cc : ByteArray} {maxL : Nat} {ret : Option FieldType} {hh : List (Nat × Nat × Nat × Nat)}
    (hy : plainName y.cls = true) (hw : ws = Cond.codeWith y cc maxL ret hh :: ws')
    (body : ∀ p e s m args below meth c s₁, BodyLoose p l y (headSpec ws rm) cc maxL ret e s m args below meth c s₁ → c.maxLocals = maxL → c.exceptionTable.toList = tableOf hh → Pc args s →
      W p l e (headSpec ws rm).room s m args below meth c s.heap [] 0 0 (MQ below Qc args s mc ms free) (entryFrame m args maxL)) : Met l y ws rm Pc Qc mc ms free := by
  have h : vx_Met l y ws rm Pc Qc (fun _ _ _ => False) mc ms free := by
    refine vx_ofWH (cc := cc) (maxL := maxL) (ret := ret) (hh := hh) hy hw ?_
    intro p e s m args below meth c s₁ B hml hP
    exact vx_ret (body p e s m args below meth c s₁ B hml (vx_table (x := y) B (atoms_spec (ws := ws) B.pre _ (by rw [hw]; exact List.mem_cons_self))) hP)
  exact fun p e ha hc hk s m args below hf happ hP hK => by
    obtain ⟨k, o, h1, h2, h3, hQ⟩ := h p e ha hc hk s m args below hf happ hP hK
    refine ⟨k, o, h1, h2, h3, ?_⟩
    rcases hQ with hQ | ⟨q, e9, hX⟩
    · exact hQ
    · obtain ⟨E, L, ce, hh, hF⟩ := hX
      exact hh.elim
abbrev gMox (l : Launch) (y : MethodName) (ws : List Cond) (rm : Room) (D : va_G) (cA : Nat → ClassId) (o : Nat → Int64) (ad ln : Nat → Nat) (n sz : Nat) (iv : Nat → Nat → Int32) (av : List Value) (mc ms : Nat) (Pr : State → Prop) (post : Int32 → (Nat → Int64) → (Nat → Nat) → (Nat → Nat) → (Nat → Nat → Int32) → Prop) : Prop :=
  Met l y ws rm (va_Pc av Pr) (va_Qi (fun (r : Int32) (u : (Nat → Int64) × (Nat → Nat) × (Nat → Nat) × (Nat → Nat → Int32)) => post r u.1 u.2.1 u.2.2.1 u.2.2.2) (fun u t => gAt D cA (gA cA o ad ln iv n sz) u.1 u.2.1 u.2.2.1 n u.2.2.2 t) (gA cA o ad ln iv n sz)) mc ms (gA cA o ad ln iv n sz)
theorem gMi_x {l : Launch} {y : MethodName} {ws : List Cond} {rm : Room} {D : va_G} {cA : Nat → ClassId} {o : Nat → Int64} {ad ln : Nat → Nat} {n sz : Nat} {iv : Nat → Nat → Int32} {av : List Value} {post : Int32 → (Nat → Nat → Int32) → Prop} (h : gMi l y ws rm D cA o ad ln n sz iv av post) : gMix l y ws rm D cA o ad ln n sz iv av 0 0 (fun r ad' ln' iv' => ad = ad' ∧ ln = ln' ∧ post r iv') :=
  met_mono h (fun a st oc t q => by
    obtain ⟨⟨r, u, h1, h2, h3⟩, h4⟩ := q
    exact ⟨⟨r, (ad, ln, u), h1, ⟨rfl, rfl, h2⟩, h3⟩, h4⟩)
theorem gC_o {cA : Nat → ClassId} {o o2 : Nat → Int64} {ad ln : Nat → Nat} {iv : Nat → Nat → Int32} : va_up (gC cA o ad ln iv) 67 (.inl (cA 4, 1, .inr (.inl o2))) = gC cA o2 ad ln iv := by
  funext k
  unfold va_up
  by_cases h : k = 67
  · subst h; rfl
  · rw [if_neg h]
    show sch cA o ad k (ln k) (iv k) = sch cA o2 ad k (ln k) (iv k)
    unfold sch
    simp only [if_neg h]
section GO
variable {p : Program} {l : Launch} {e : Env} {R : Room} {s : State} {m : MethodId} {args : Array Value} {below : List Frame} {meth : Method} {c : Code} {H : Heap} {locs : List Loc} {cells slots : Nat} {Q : State → Prop}
variable {cc : ByteArray} {pc : Nat} {ls : Array Slot} {rest : List Value} {D : va_G} {A : Nat → Prop} {H0 : Heap} {cA : Nat → ClassId} {o : Nat → Int64} {ad ln : Nat → Nat} {iv : Nat → Nat → Int32} {n : Nat}
theorem gx_last (hexec : p.tables.exec = Jvm.exec) (hb : c.code = cc) (hK : va_K D vwCl (gT cA) s) (hS : gS D cA A H0 o ad ln iv n H locs) (hn : 68 ≤ n) {a : Nat} (ha : a = ad 67) {x : Int64} (hdg : decode cc pc = .ok (.lastore, 1))
    (kk : ∀ (H1 : Heap) (locs1 : List Loc), gS D cA A H0 (va_up o 0 x) ad ln iv n H1 locs1 → W p l e R s m args below meth c H1 locs1 cells slots Q (F0 m (pc + 1) ls rest)) : W p l e R s m args below meth c H locs cells slots Q (F0 m pc ls (.long x :: .int (nI 0) :: .ref a :: rest)) := by
  subst ha
  refine va_last hexec hb hK hS.1 hS.2.1 hS.2.2 67 4 (gw_at (by omega)) rfl (vp_in_nI (N := 1) (by decide) (by decide)) hdg (fun H1 locs1 h1 h2 h3 => ?_)
  have e9 : vp_updL o (nI 0).toNatClampNeg x = va_up o 0 x := rfl
  rw [e9, gw_set, gC_o] at h1 h2
  exact kk H1 locs1 ⟨h1, h2, h3⟩
theorem gx_lald (hexec : p.tables.exec = Jvm.exec) (hb : c.code = cc) (hK : va_K D vwCl (gT cA) s) (hS : gS D cA A H0 o ad ln iv n H locs) (hn : 68 ≤ n) (hdg : decode cc pc = .ok (.laload, 1))
    (kk : W p l e R s m args below meth c H locs cells slots Q (F0 m (pc + 1) ls (.long (o 0) :: rest))) : W p l e R s m args below meth c H locs cells slots Q (F0 m pc ls (.int (nI 0) :: .ref (ad 67) :: rest)) :=
  va_lald hexec hb hK hS.1 67 4 (gw_at (by omega)) rfl (vp_in_nI (N := 1) (by decide) (by decide)) hdg kk
end GO
set_option maxHeartbeats 1000000 in
set_option maxRecDepth 100000 in
theorem hk_L_exchange (l : Launch) (D : va_G) (cA : Nat → ClassId) (o : Nat → Int64) (ad ln : Nat → Nat) (n sz : Nat) (iv : Nat → Nat → Int32) (x1 x2 x3 : Int32) {rm : Room} {mc ms : Nat} {post : Int32 → (Nat → Nat) → (Nat → Nat) → (Nat → Nat → Int32) → Prop} (hn : 68 ≤ n) (hrc : rm.cells = mc) (hrs : rm.slots = ms) (hrf : rm.frames + 1 ≤ 14) (hrl : 8 + (4 + 11) + rm.locals ≤ 240) (hM : gMix l yX6_exchange wsX6_exchange rm D cA o ad ln n sz iv [.ref (ad 0), .int x1, .int x2, .int x3] mc ms post) (hp : ∀ r ad' ln' iv', post r ad' ln' iv' → (r = 0 ∨ r = 1) ∧ ad' 67 = ad 67) : gMox l yL_exchange wsL_exchange { frames := 14, cells := mc, slots := ms, locals := 240 } D cA o ad ln n sz iv [.ref (ad 0), .int x1, .int x2, .int x3, .ref (ad 67)] mc ms (gPre D cA o ad ln iv n sz) (fun r o' ad' ln' iv' => r = nI 0 ∧ ∃ v, post v ad' ln' iv' ∧ o' = va_up o 0 (Int32.toInt64 v)) := by
  refine met_ofWH (cc := cL_exchange) (maxL := 6) (ret := (some .int)) (by decide) rfl ?_
  intro p e s m args below meth c s₁ B hml htb hv
  obtain ⟨rfl, hv⟩ := hv
  obtain ⟨hsz, hS, hK, hN, hA⟩ := gS.entry hv
  subst hsz
  have hx := B.exec
  have hb := B.bytes
  have hr := B.returns
  have hts0 := atoms_spec (ws := wsL_exchange) B.pre
  have hown : s.vm.findClass RL = some m.cls := findClass_of_methodNamed B.named
  have hl := lv_entry ([.ref (ad 0), .int x1, .int x2, .int x3, .ref (ad 67)]) (n := 6) (Nat.le_of_ble_eq_true rfl)
  rw [lg_entry_eq]
  generalize (lg_sl ([.ref (ad 0), .int x1, .int x2, .int x3, .ref (ad 67)]) ++ List.replicate (6 - (lg_sl ([.ref (ad 0), .int x1, .int x2, .int x3, .ref (ad 67)])).length) Slot.unset).toArray = ls at hl ⊢
  have hl : lv_has ls 6 [(0, .ref (ad 0)), (1, .int x1), (2, .int x2), (3, .int x3), (4, .ref (ad 67))] := hl
  refine lv_aload hx hb dL_exchange_0 (lv_at hl 4 rfl) ?_
  refine lv_iconst (v := nI 0) hx hb dL_exchange_2 (by decide) ?_
  refine lv_aload_n hx hb dL_exchange_3 rfl (lv_at hl 0 rfl) ?_
  refine lv_iload_n hx hb dL_exchange_4 rfl (lv_at hl 1 rfl) ?_
  refine lv_iload_n hx hb dL_exchange_5 rfl (lv_at hl 2 rfl) ?_
  refine lv_iload_n hx hb dL_exchange_6 rfl (lv_at hl 3 rfl) ?_
  refine gc_ixM hM (fun hM => (gx_runV (As := [.int x1, .int x2, .int x3]) (rest := [.int (nI 0), .ref (ad 67)]) ⟨hx, hb, hml, hown, hts0⟩ hK hN hS 0 (by omega) rfl rfl hM (cwV 3 hts0 gL_exchange_X6_exchange rfl hrc hrs (by decide +kernel) ⟨hrf, hrl⟩) rfl rfl hl.1 rfl (lv_room (Nat.le_of_ble_eq_true rfl)) dL_exchange_7 ⟨by show 0 + mc ≤ mc; omega, by show 0 + ms ≤ ms; omega⟩)) hS hA (fun r ad1 ln1 iv1 H locs hq hS => ?_)
  obtain ⟨h01, e67⟩ := hp _ _ _ _ hq
  skip
  refine lv_if_eq (tgt := 17) hx hb dL_exchange_10 (by decide) (fun c_1 => ?_) (fun c_1 => ?_)
  · skip
    refine lv_lconst (v := 0) hx hb dL_exchange_17 (by decide) ?_
    refine gx_asl (y := Int32.toInt64 r) (by rw [c_1]; rfl) ?_
    refine gx_last hx hb hK hS hn e67.symm dL_exchange_18 (fun H locs hS => ?_)
    refine lv_goto (tgt := 26) hx hb dL_exchange_19 (by decide) ?_
    refine lv_iconst (v := nI 0) hx hb dL_exchange_26 (by decide) ?_
    refine W.widen (k := mc) (n := ms) (by omega) (by omega) ?_
    exact W.iret (v := nI 0) hx hb hr (fun t ht hW => ⟨⟨nI 0, (va_up o 0 (Int32.toInt64 r), ad1, ln1, iv1), rfl, ⟨rfl, r, hq, rfl⟩, by show gAt D cA _ _ _ _ n _ t; unfold gAt; rw [ht]; exact ⟨hS.1, hS.2.1⟩⟩, hS.2.2.F ht⟩) hS.2.2.2.2 dL_exchange_27
  · skip
    refine lv_lconst (v := 1) hx hb dL_exchange_13 (by decide) ?_
    refine lv_goto (tgt := 18) hx hb dL_exchange_14 (by decide) ?_
    refine gx_asl (y := Int32.toInt64 r) (by rw [h01.resolve_left c_1]; rfl) ?_
    refine gx_last hx hb hK hS hn e67.symm dL_exchange_18 (fun H locs hS => ?_)
    refine lv_goto (tgt := 26) hx hb dL_exchange_19 (by decide) ?_
    refine lv_iconst (v := nI 0) hx hb dL_exchange_26 (by decide) ?_
    refine W.widen (k := mc) (n := ms) (by omega) (by omega) ?_
    exact W.iret (v := nI 0) hx hb hr (fun t ht hW => ⟨⟨nI 0, (va_up o 0 (Int32.toInt64 r), ad1, ln1, iv1), rfl, ⟨rfl, r, hq, rfl⟩, by show gAt D cA _ _ _ _ n _ t; unfold gAt; rw [ht]; exact ⟨hS.1, hS.2.1⟩⟩, hS.2.2.F ht⟩) hS.2.2.2.2 dL_exchange_27
set_option maxHeartbeats 1000000 in
set_option maxRecDepth 100000 in
theorem hx_L_exchange (l : Launch) (D : va_G) (cA : Nat → ClassId) (o : Nat → Int64) (ad ln : Nat → Nat) (n sz : Nat) (iv : Nat → Nat → Int32) (x1 x2 x3 : Int32) (hn : 68 ≤ n) (hM : gMx l yX6_exchange (wsX6_exchange ++ atA) { frames := 8, cells := 1, slots := 6, locals := 116 } D cA o ad ln n sz iv [.ref (ad 0), .int x1, .int x2, .int x3] RJx00060 (nQi (gA cA o ad ln iv n sz))) : gMox l yL_exchange (wsL_exchange ++ atA) { frames := 14, cells := 1, slots := 6, locals := 240 } D cA o ad ln n sz iv [.ref (ad 0), .int x1, .int x2, .int x3, .ref (ad 67)] 1 6 (gPreX D cA o ad ln iv n sz) (fun r o' ad' ln' iv' => r = nI 1 ∧ o = o' ∧ ad = ad' ∧ ln = ln' ∧ iv = iv') := by
  refine met_ofWH (cc := cL_exchange) (maxL := 6) (ret := (some .int)) (by decide) rfl ?_
  intro p e s m args below meth c s₁ B hml htb hv
  obtain ⟨rfl, hv, hX⟩ := hv
  obtain ⟨hsz, hS, hK, hN, hA⟩ := gS.entry hv
  subst hsz
  have hx := B.exec
  have hb := B.bytes
  have hr := B.returns
  have hts0 := atoms_spec (ws := wsL_exchange ++ atA) B.pre
  have hown : s.vm.findClass RL = some m.cls := findClass_of_methodNamed B.named
  have hl := lv_entry ([.ref (ad 0), .int x1, .int x2, .int x3, .ref (ad 67)]) (n := 6) (Nat.le_of_ble_eq_true rfl)
  rw [lg_entry_eq]
  generalize (lg_sl ([.ref (ad 0), .int x1, .int x2, .int x3, .ref (ad 67)]) ++ List.replicate (6 - (lg_sl ([.ref (ad 0), .int x1, .int x2, .int x3, .ref (ad 67)])).length) Slot.unset).toArray = ls at hl ⊢
  have hl : lv_has ls 6 [(0, .ref (ad 0)), (1, .int x1), (2, .int x2), (3, .int x3), (4, .ref (ad 67))] := hl
  have hRf : 14 ≤ (headSpec (wsL_exchange ++ atA) { frames := 14, cells := 1, slots := 6, locals := 240 }).room.frames := Nat.le_refl _
  have hRl : 240 ≤ (headSpec (wsL_exchange ++ atA) { frames := 14, cells := 1, slots := 6, locals := 240 }).room.locals := Nat.le_refl _
  refine lv_aload hx hb dL_exchange_0 (lv_at hl 4 rfl) ?_
  refine lv_iconst (v := nI 0) hx hb dL_exchange_2 (by decide) ?_
  refine lv_aload_n hx hb dL_exchange_3 rfl (lv_at hl 0 rfl) ?_
  refine lv_iload_n hx hb dL_exchange_4 rfl (lv_at hl 1 rfl) ?_
  refine lv_iload_n hx hb dL_exchange_5 rfl (lv_at hl 2 rfl) ?_
  refine lv_iload_n hx hb dL_exchange_6 rfl (lv_at hl 3 rfl) ?_
  have hfree := hS.free hA
  refine vx_calli (vx_runV (As := [.int x1, .int x2, .int x3]) (rest := [.int (nI 0), .ref (ad 67)]) ⟨hx, hb, hml, hown, hts0⟩ hM (cwV 3 hts0 (atA_inV gL_exchange_X6_exchange) rfl rfl rfl (by decide +kernel) ⟨gle hRf rfl, gle hRl rfl⟩) ⟨gPreX_blind, va_recv hK hS.1 (ci := 9) rfl (gw_at (by omega)), fun U hU hW => ⟨rfl, hS.preX hK hN hX hA hU hW⟩⟩ rfl rfl hl.1 rfl (lv_room (Nat.le_of_ble_eq_true rfl)) dL_exchange_7 ⟨Nat.le_refl _, Nat.le_refl _⟩) hS.2.2 (fun q _ h => hfree q h) hfree (fun q _ h => hfree q h) (fun E ce q9 u t H1 locs1 ht hvm hpx hB hz hk hS1 hce hcv hcl => ?_) (fun r u t H1 locs1 ht hvm hw hB hz hk hS1 => hw.elim)
  obtain ⟨rfl, g1, g2⟩ := hB
  have hD : va_D (gA cA o ad ln iv n s.heap.size) (gw ad (gC cA o ad ln iv) n) := g2.weaken (fun _ _ _ h => hfree _ h)
  have hS : gS D cA (gA cA o ad ln iv n s.heap.size) s.heap o ad ln iv n H1 locs1 := ⟨by rw [← ht]; exact g1, hD, hS1⟩
  refine vx_catch (name := RJx00060) hown [] ⟨0, 19, 22, 13⟩ [] htb (fun z hz => by cases hz) rfl (by decide) (hts0 (.classLink RL 13 RJx00060) (List.mem_append_left _ (by decide +kernel))) (ng_use (Or.inl (by simp [ngA])) (hX.2.2.2.2.2.1 (.castable RJx00060 RJx00060) (Or.inl (by simp [ngA])))) hce hcv hcl ?_
  refine lv_astore (lv' := [(5, .ref q9), (0, .ref (ad 0)), (1, .int x1), (2, .int x2), (3, .int x3), (4, .ref (ad 67))]) hx hb dL_exchange_22 hl (by decide) rfl (fun ls hl => ?_)
  refine lv_iconst (v := nI 1) hx hb dL_exchange_24 (by decide) ?_
  refine W.widen (k := 1) (n := 6) (by omega) (by omega) ?_
  exact W.iret (v := nI 1) hx hb hr (fun t ht hW => ⟨⟨nI 1, (o, ad, ln, iv), rfl, ⟨rfl, rfl, rfl, rfl, rfl⟩, by show gAt D cA _ _ _ _ n _ t; unfold gAt; rw [ht]; exact ⟨hS.1, hS.2.1⟩⟩, hS.2.2.F ht⟩) hS.2.2.2.2 dL_exchange_25
set_option maxHeartbeats 1000000 in
set_option maxRecDepth 100000 in
theorem hk_L_adds (l : Launch) (D : va_G) (cA : Nat → ClassId) (o : Nat → Int64) (ad ln : Nat → Nat) (n sz : Nat) (iv : Nat → Nat → Int32) (x1 x2 x3 : Int32) {rm : Room} {mc ms : Nat} {post : Int32 → (Nat → Nat) → (Nat → Nat) → (Nat → Nat → Int32) → Prop} (hn : 68 ≤ n) (hrc : rm.cells = mc) (hrs : rm.slots = ms) (hrf : rm.frames + 1 ≤ 14) (hrl : 8 + (4 + 11) + rm.locals ≤ 240) (hM : gMix l yX6_adds wsX6_adds rm D cA o ad ln n sz iv [.ref (ad 0), .int x1, .int x2, .int x3] mc ms post) (hp : ∀ r ad' ln' iv', post r ad' ln' iv' → (r = 0 ∨ r = 1) ∧ ad' 67 = ad 67) : gMox l yL_adds wsL_adds { frames := 14, cells := mc, slots := ms, locals := 240 } D cA o ad ln n sz iv [.ref (ad 0), .int x1, .int x2, .int x3, .ref (ad 67)] mc ms (gPre D cA o ad ln iv n sz) (fun r o' ad' ln' iv' => r = nI 0 ∧ ∃ v, post v ad' ln' iv' ∧ o' = va_up o 0 (Int32.toInt64 v)) := by
  refine met_ofWH (cc := cL_adds) (maxL := 6) (ret := (some .int)) (by decide) rfl ?_
  intro p e s m args below meth c s₁ B hml htb hv
  obtain ⟨rfl, hv⟩ := hv
  obtain ⟨hsz, hS, hK, hN, hA⟩ := gS.entry hv
  subst hsz
  have hx := B.exec
  have hb := B.bytes
  have hr := B.returns
  have hts0 := atoms_spec (ws := wsL_adds) B.pre
  have hown : s.vm.findClass RL = some m.cls := findClass_of_methodNamed B.named
  have hl := lv_entry ([.ref (ad 0), .int x1, .int x2, .int x3, .ref (ad 67)]) (n := 6) (Nat.le_of_ble_eq_true rfl)
  rw [lg_entry_eq]
  generalize (lg_sl ([.ref (ad 0), .int x1, .int x2, .int x3, .ref (ad 67)]) ++ List.replicate (6 - (lg_sl ([.ref (ad 0), .int x1, .int x2, .int x3, .ref (ad 67)])).length) Slot.unset).toArray = ls at hl ⊢
  have hl : lv_has ls 6 [(0, .ref (ad 0)), (1, .int x1), (2, .int x2), (3, .int x3), (4, .ref (ad 67))] := hl
  refine lv_aload hx hb dL_adds_0 (lv_at hl 4 rfl) ?_
  refine lv_iconst (v := nI 0) hx hb dL_adds_2 (by decide) ?_
  refine lv_aload_n hx hb dL_adds_3 rfl (lv_at hl 0 rfl) ?_
  refine lv_iload_n hx hb dL_adds_4 rfl (lv_at hl 1 rfl) ?_
  refine lv_iload_n hx hb dL_adds_5 rfl (lv_at hl 2 rfl) ?_
  refine lv_iload_n hx hb dL_adds_6 rfl (lv_at hl 3 rfl) ?_
  refine gc_ixM hM (fun hM => (gx_runV (As := [.int x1, .int x2, .int x3]) (rest := [.int (nI 0), .ref (ad 67)]) ⟨hx, hb, hml, hown, hts0⟩ hK hN hS 0 (by omega) rfl rfl hM (cwV 3 hts0 gL_adds_X6_adds rfl hrc hrs (by decide +kernel) ⟨hrf, hrl⟩) rfl rfl hl.1 rfl (lv_room (Nat.le_of_ble_eq_true rfl)) dL_adds_7 ⟨by show 0 + mc ≤ mc; omega, by show 0 + ms ≤ ms; omega⟩)) hS hA (fun r ad1 ln1 iv1 H locs hq hS => ?_)
  obtain ⟨h01, e67⟩ := hp _ _ _ _ hq
  skip
  refine lv_if_eq (tgt := 17) hx hb dL_adds_10 (by decide) (fun c_1 => ?_) (fun c_1 => ?_)
  · skip
    refine lv_lconst (v := 0) hx hb dL_adds_17 (by decide) ?_
    refine gx_asl (y := Int32.toInt64 r) (by rw [c_1]; rfl) ?_
    refine gx_last hx hb hK hS hn e67.symm dL_adds_18 (fun H locs hS => ?_)
    refine lv_goto (tgt := 30) hx hb dL_adds_19 (by decide) ?_
    refine lv_iconst (v := nI 0) hx hb dL_adds_30 (by decide) ?_
    refine W.widen (k := mc) (n := ms) (by omega) (by omega) ?_
    exact W.iret (v := nI 0) hx hb hr (fun t ht hW => ⟨⟨nI 0, (va_up o 0 (Int32.toInt64 r), ad1, ln1, iv1), rfl, ⟨rfl, r, hq, rfl⟩, by show gAt D cA _ _ _ _ n _ t; unfold gAt; rw [ht]; exact ⟨hS.1, hS.2.1⟩⟩, hS.2.2.F ht⟩) hS.2.2.2.2 dL_adds_31
  · skip
    refine lv_lconst (v := 1) hx hb dL_adds_13 (by decide) ?_
    refine lv_goto (tgt := 18) hx hb dL_adds_14 (by decide) ?_
    refine gx_asl (y := Int32.toInt64 r) (by rw [h01.resolve_left c_1]; rfl) ?_
    refine gx_last hx hb hK hS hn e67.symm dL_adds_18 (fun H locs hS => ?_)
    refine lv_goto (tgt := 30) hx hb dL_adds_19 (by decide) ?_
    refine lv_iconst (v := nI 0) hx hb dL_adds_30 (by decide) ?_
    refine W.widen (k := mc) (n := ms) (by omega) (by omega) ?_
    exact W.iret (v := nI 0) hx hb hr (fun t ht hW => ⟨⟨nI 0, (va_up o 0 (Int32.toInt64 r), ad1, ln1, iv1), rfl, ⟨rfl, r, hq, rfl⟩, by show gAt D cA _ _ _ _ n _ t; unfold gAt; rw [ht]; exact ⟨hS.1, hS.2.1⟩⟩, hS.2.2.F ht⟩) hS.2.2.2.2 dL_adds_31
set_option maxHeartbeats 1000000 in
set_option maxRecDepth 100000 in
theorem hx_L_adds (l : Launch) (D : va_G) (cA : Nat → ClassId) (o : Nat → Int64) (ad ln : Nat → Nat) (n sz : Nat) (iv : Nat → Nat → Int32) (x1 x2 x3 : Int32) (hn : 68 ≤ n) (hM : gMx l yX6_adds (wsX6_adds ++ atA) { frames := 8, cells := 1, slots := 6, locals := 116 } D cA o ad ln n sz iv [.ref (ad 0), .int x1, .int x2, .int x3] RJx00060 (nQi (gA cA o ad ln iv n sz))) : gMox l yL_adds (wsL_adds ++ atA) { frames := 14, cells := 1, slots := 6, locals := 240 } D cA o ad ln n sz iv [.ref (ad 0), .int x1, .int x2, .int x3, .ref (ad 67)] 1 6 (gPreX D cA o ad ln iv n sz) (fun r o' ad' ln' iv' => r = nI 1 ∧ o = o' ∧ ad = ad' ∧ ln = ln' ∧ iv = iv') := by
  refine met_ofWH (cc := cL_adds) (maxL := 6) (ret := (some .int)) (by decide) rfl ?_
  intro p e s m args below meth c s₁ B hml htb hv
  obtain ⟨rfl, hv, hX⟩ := hv
  obtain ⟨hsz, hS, hK, hN, hA⟩ := gS.entry hv
  subst hsz
  have hx := B.exec
  have hb := B.bytes
  have hr := B.returns
  have hts0 := atoms_spec (ws := wsL_adds ++ atA) B.pre
  have hown : s.vm.findClass RL = some m.cls := findClass_of_methodNamed B.named
  have hl := lv_entry ([.ref (ad 0), .int x1, .int x2, .int x3, .ref (ad 67)]) (n := 6) (Nat.le_of_ble_eq_true rfl)
  rw [lg_entry_eq]
  generalize (lg_sl ([.ref (ad 0), .int x1, .int x2, .int x3, .ref (ad 67)]) ++ List.replicate (6 - (lg_sl ([.ref (ad 0), .int x1, .int x2, .int x3, .ref (ad 67)])).length) Slot.unset).toArray = ls at hl ⊢
  have hl : lv_has ls 6 [(0, .ref (ad 0)), (1, .int x1), (2, .int x2), (3, .int x3), (4, .ref (ad 67))] := hl
  have hRf : 14 ≤ (headSpec (wsL_adds ++ atA) { frames := 14, cells := 1, slots := 6, locals := 240 }).room.frames := Nat.le_refl _
  have hRl : 240 ≤ (headSpec (wsL_adds ++ atA) { frames := 14, cells := 1, slots := 6, locals := 240 }).room.locals := Nat.le_refl _
  refine lv_aload hx hb dL_adds_0 (lv_at hl 4 rfl) ?_
  refine lv_iconst (v := nI 0) hx hb dL_adds_2 (by decide) ?_
  refine lv_aload_n hx hb dL_adds_3 rfl (lv_at hl 0 rfl) ?_
  refine lv_iload_n hx hb dL_adds_4 rfl (lv_at hl 1 rfl) ?_
  refine lv_iload_n hx hb dL_adds_5 rfl (lv_at hl 2 rfl) ?_
  refine lv_iload_n hx hb dL_adds_6 rfl (lv_at hl 3 rfl) ?_
  have hfree := hS.free hA
  refine vx_calli (vx_runV (As := [.int x1, .int x2, .int x3]) (rest := [.int (nI 0), .ref (ad 67)]) ⟨hx, hb, hml, hown, hts0⟩ hM (cwV 3 hts0 (atA_inV gL_adds_X6_adds) rfl rfl rfl (by decide +kernel) ⟨gle hRf rfl, gle hRl rfl⟩) ⟨gPreX_blind, va_recv hK hS.1 (ci := 9) rfl (gw_at (by omega)), fun U hU hW => ⟨rfl, hS.preX hK hN hX hA hU hW⟩⟩ rfl rfl hl.1 rfl (lv_room (Nat.le_of_ble_eq_true rfl)) dL_adds_7 ⟨Nat.le_refl _, Nat.le_refl _⟩) hS.2.2 (fun q _ h => hfree q h) hfree (fun q _ h => hfree q h) (fun E ce q9 u t H1 locs1 ht hvm hpx hB hz hk hS1 hce hcv hcl => ?_) (fun r u t H1 locs1 ht hvm hw hB hz hk hS1 => hw.elim)
  obtain ⟨rfl, g1, g2⟩ := hB
  have hD : va_D (gA cA o ad ln iv n s.heap.size) (gw ad (gC cA o ad ln iv) n) := g2.weaken (fun _ _ _ h => hfree _ h)
  have hS : gS D cA (gA cA o ad ln iv n s.heap.size) s.heap o ad ln iv n H1 locs1 := ⟨by rw [← ht]; exact g1, hD, hS1⟩
  refine vx_catch (name := RJx00060) hown [] ⟨0, 19, 22, 13⟩ [⟨0, 19, 26, 18⟩] htb (fun z hz => by cases hz) rfl (by decide) (hts0 (.classLink RL 13 RJx00060) (List.mem_append_left _ (by decide +kernel))) (ng_use (Or.inl (by simp [ngA])) (hX.2.2.2.2.2.1 (.castable RJx00060 RJx00060) (Or.inl (by simp [ngA])))) hce hcv hcl ?_
  refine lv_astore (lv' := [(5, .ref q9), (0, .ref (ad 0)), (1, .int x1), (2, .int x2), (3, .int x3), (4, .ref (ad 67))]) hx hb dL_adds_22 hl (by decide) rfl (fun ls hl => ?_)
  refine lv_iconst (v := nI 1) hx hb dL_adds_24 (by decide) ?_
  refine W.widen (k := 1) (n := 6) (by omega) (by omega) ?_
  exact W.iret (v := nI 1) hx hb hr (fun t ht hW => ⟨⟨nI 1, (o, ad, ln, iv), rfl, ⟨rfl, rfl, rfl, rfl, rfl⟩, by show gAt D cA _ _ _ _ n _ t; unfold gAt; rw [ht]; exact ⟨hS.1, hS.2.1⟩⟩, hS.2.2.F ht⟩) hS.2.2.2.2 dL_adds_25
set_option maxHeartbeats 1000000 in
set_option maxRecDepth 100000 in
theorem hx_L_addsI (l : Launch) (D : va_G) (cA : Nat → ClassId) (o : Nat → Int64) (ad ln : Nat → Nat) (n sz : Nat) (iv : Nat → Nat → Int32) (x1 x2 x3 : Int32) (hn : 68 ≤ n) (hM : gMx l yX6_adds (wsX6_adds ++ atA) { frames := 8, cells := 1, slots := 6, locals := 116 } D cA o ad ln n sz iv [.ref (ad 0), .int x1, .int x2, .int x3] RIA (nQi (gA cA o ad ln iv n sz))) : gMox l yL_adds (wsL_adds ++ atA) { frames := 14, cells := 1, slots := 6, locals := 240 } D cA o ad ln n sz iv [.ref (ad 0), .int x1, .int x2, .int x3, .ref (ad 67)] 1 6 (gPreX D cA o ad ln iv n sz) (fun r o' ad' ln' iv' => r = nI 2 ∧ o = o' ∧ ad = ad' ∧ ln = ln' ∧ iv = iv') := by
  refine met_ofWH (cc := cL_adds) (maxL := 6) (ret := (some .int)) (by decide) rfl ?_
  intro p e s m args below meth c s₁ B hml htb hv
  obtain ⟨rfl, hv, hX⟩ := hv
  obtain ⟨hsz, hS, hK, hN, hA⟩ := gS.entry hv
  subst hsz
  have hx := B.exec
  have hb := B.bytes
  have hr := B.returns
  have hts0 := atoms_spec (ws := wsL_adds ++ atA) B.pre
  have hown : s.vm.findClass RL = some m.cls := findClass_of_methodNamed B.named
  have hl := lv_entry ([.ref (ad 0), .int x1, .int x2, .int x3, .ref (ad 67)]) (n := 6) (Nat.le_of_ble_eq_true rfl)
  rw [lg_entry_eq]
  generalize (lg_sl ([.ref (ad 0), .int x1, .int x2, .int x3, .ref (ad 67)]) ++ List.replicate (6 - (lg_sl ([.ref (ad 0), .int x1, .int x2, .int x3, .ref (ad 67)])).length) Slot.unset).toArray = ls at hl ⊢
  have hl : lv_has ls 6 [(0, .ref (ad 0)), (1, .int x1), (2, .int x2), (3, .int x3), (4, .ref (ad 67))] := hl
  have hRf : 14 ≤ (headSpec (wsL_adds ++ atA) { frames := 14, cells := 1, slots := 6, locals := 240 }).room.frames := Nat.le_refl _
  have hRl : 240 ≤ (headSpec (wsL_adds ++ atA) { frames := 14, cells := 1, slots := 6, locals := 240 }).room.locals := Nat.le_refl _
  refine lv_aload hx hb dL_adds_0 (lv_at hl 4 rfl) ?_
  refine lv_iconst (v := nI 0) hx hb dL_adds_2 (by decide) ?_
  refine lv_aload_n hx hb dL_adds_3 rfl (lv_at hl 0 rfl) ?_
  refine lv_iload_n hx hb dL_adds_4 rfl (lv_at hl 1 rfl) ?_
  refine lv_iload_n hx hb dL_adds_5 rfl (lv_at hl 2 rfl) ?_
  refine lv_iload_n hx hb dL_adds_6 rfl (lv_at hl 3 rfl) ?_
  have hfree := hS.free hA
  refine vx_calli (vx_runV (As := [.int x1, .int x2, .int x3]) (rest := [.int (nI 0), .ref (ad 67)]) ⟨hx, hb, hml, hown, hts0⟩ hM (cwV 3 hts0 (atA_inV gL_adds_X6_adds) rfl rfl rfl (by decide +kernel) ⟨gle hRf rfl, gle hRl rfl⟩) ⟨gPreX_blind, va_recv hK hS.1 (ci := 9) rfl (gw_at (by omega)), fun U hU hW => ⟨rfl, hS.preX hK hN hX hA hU hW⟩⟩ rfl rfl hl.1 rfl (lv_room (Nat.le_of_ble_eq_true rfl)) dL_adds_7 ⟨Nat.le_refl _, Nat.le_refl _⟩) hS.2.2 (fun q _ h => hfree q h) hfree (fun q _ h => hfree q h) (fun E ce q9 u t H1 locs1 ht hvm hpx hB hz hk hS1 hce hcv hcl => ?_) (fun r u t H1 locs1 ht hvm hw hB hz hk hS1 => hw.elim)
  obtain ⟨rfl, g1, g2⟩ := hB
  have hD : va_D (gA cA o ad ln iv n s.heap.size) (gw ad (gC cA o ad ln iv) n) := g2.weaken (fun _ _ _ h => hfree _ h)
  have hS : gS D cA (gA cA o ad ln iv n s.heap.size) s.heap o ad ln iv n H1 locs1 := ⟨by rw [← ht]; exact g1, hD, hS1⟩
  refine vx_catch (name := RIA) hown [⟨0, 19, 22, 13⟩] ⟨0, 19, 26, 18⟩ [] htb (fun z hz => Or.inr (by rcases List.mem_singleton.mp hz with rfl; exact ⟨by decide, RJx00060, hts0 (.classLink RL 13 RJx00060) (List.mem_append_left _ (by decide +kernel)), hX.2.2.2.2.2.2⟩)) rfl (by decide) (hts0 (.classLink RL 18 RIA) (List.mem_append_left _ (by decide +kernel))) (ng_use (Or.inr (by simp [ngI])) (hX.2.2.2.2.2.1 (.castable RIA RIA) (Or.inr (by simp [ngI])))) hce hcv hcl ?_
  refine lv_astore (lv' := [(5, .ref q9), (0, .ref (ad 0)), (1, .int x1), (2, .int x2), (3, .int x3), (4, .ref (ad 67))]) hx hb dL_adds_26 hl (by decide) rfl (fun ls hl => ?_)
  refine lv_iconst (v := nI 2) hx hb dL_adds_28 (by decide) ?_
  refine W.widen (k := 1) (n := 6) (by omega) (by omega) ?_
  exact W.iret (v := nI 2) hx hb hr (fun t ht hW => ⟨⟨nI 2, (o, ad, ln, iv), rfl, ⟨rfl, rfl, rfl, rfl, rfl⟩, by show gAt D cA _ _ _ _ n _ t; unfold gAt; rw [ht]; exact ⟨hS.1, hS.2.1⟩⟩, hS.2.2.F ht⟩) hS.2.2.2.2 dL_adds_29
set_option maxHeartbeats 1000000 in
set_option maxRecDepth 100000 in
theorem hk_L_order (l : Launch) (D : va_G) (cA : Nat → ClassId) (o : Nat → Int64) (ad ln : Nat → Nat) (n sz : Nat) (iv : Nat → Nat → Int32) (x1 : Int32) {rm : Room} {mc ms : Nat} {post : Int32 → (Nat → Nat) → (Nat → Nat) → (Nat → Nat → Int32) → Prop} (hn : 68 ≤ n) (hrc : rm.cells = mc) (hrs : rm.slots = ms) (hrf : rm.frames + 1 ≤ 14) (hrl : 8 + (2 + 11) + rm.locals ≤ 240) (hM : gMix l yX6_order wsX6_order rm D cA o ad ln n sz iv [.ref (ad 0), .int x1] mc ms post) (hp : ∀ r ad' ln' iv', post r ad' ln' iv' → ad' 67 = ad 67) : gMox l yL_order wsL_order { frames := 14, cells := mc, slots := ms, locals := 240 } D cA o ad ln n sz iv [.ref (ad 0), .int x1, .ref (ad 67)] mc ms (gPre D cA o ad ln iv n sz) (fun r o' ad' ln' iv' => r = nI 0 ∧ ∃ v, post v ad' ln' iv' ∧ o' = va_up o 0 (Int32.toInt64 v)) := by
  refine met_ofWH (cc := cL_order) (maxL := 4) (ret := (some .int)) (by decide) rfl ?_
  intro p e s m args below meth c s₁ B hml htb hv
  obtain ⟨rfl, hv⟩ := hv
  obtain ⟨hsz, hS, hK, hN, hA⟩ := gS.entry hv
  subst hsz
  have hx := B.exec
  have hb := B.bytes
  have hr := B.returns
  have hts0 := atoms_spec (ws := wsL_order) B.pre
  have hown : s.vm.findClass RL = some m.cls := findClass_of_methodNamed B.named
  have hl := lv_entry ([.ref (ad 0), .int x1, .ref (ad 67)]) (n := 4) (Nat.le_of_ble_eq_true rfl)
  rw [lg_entry_eq]
  generalize (lg_sl ([.ref (ad 0), .int x1, .ref (ad 67)]) ++ List.replicate (4 - (lg_sl ([.ref (ad 0), .int x1, .ref (ad 67)])).length) Slot.unset).toArray = ls at hl ⊢
  have hl : lv_has ls 4 [(0, .ref (ad 0)), (1, .int x1), (2, .ref (ad 67))] := hl
  refine lv_aload_n hx hb dL_order_0 rfl (lv_at hl 2 rfl) ?_
  refine lv_iconst (v := nI 0) hx hb dL_order_1 (by decide) ?_
  refine lv_aload_n hx hb dL_order_2 rfl (lv_at hl 0 rfl) ?_
  refine lv_iload_n hx hb dL_order_3 rfl (lv_at hl 1 rfl) ?_
  refine gc_ixM hM (fun hM => (gx_runV (As := [.int x1]) (rest := [.int (nI 0), .ref (ad 67)]) ⟨hx, hb, hml, hown, hts0⟩ hK hN hS 0 (by omega) rfl rfl hM (cwV 1 hts0 gL_order_X6_order rfl hrc hrs (by decide +kernel) ⟨hrf, hrl⟩) rfl rfl hl.1 rfl (lv_room (Nat.le_of_ble_eq_true rfl)) dL_order_4 ⟨by show 0 + mc ≤ mc; omega, by show 0 + ms ≤ ms; omega⟩)) hS hA (fun r ad1 ln1 iv1 H locs hq hS => ?_)
  obtain e67 := hp _ _ _ _ hq
  refine lv_i2l hx hb dL_order_7 rfl ?_
  refine gx_last hx hb hK hS hn e67.symm dL_order_8 (fun H locs hS => ?_)
  refine lv_goto (tgt := 15) hx hb dL_order_9 (by decide) ?_
  refine lv_iconst (v := nI 0) hx hb dL_order_15 (by decide) ?_
  refine W.widen (k := mc) (n := ms) (by omega) (by omega) ?_
  exact W.iret (v := nI 0) hx hb hr (fun t ht hW => ⟨⟨nI 0, (va_up o 0 (Int32.toInt64 r), ad1, ln1, iv1), rfl, ⟨rfl, r, hq, rfl⟩, by show gAt D cA _ _ _ _ n _ t; unfold gAt; rw [ht]; exact ⟨hS.1, hS.2.1⟩⟩, hS.2.2.F ht⟩) hS.2.2.2.2 dL_order_16
set_option maxHeartbeats 1000000 in
set_option maxRecDepth 100000 in
theorem hx_L_order (l : Launch) (D : va_G) (cA : Nat → ClassId) (o : Nat → Int64) (ad ln : Nat → Nat) (n sz : Nat) (iv : Nat → Nat → Int32) (x1 : Int32) (hn : 68 ≤ n) (hM : gMx l yX6_order (wsX6_order ++ atA) { frames := 8, cells := 1, slots := 6, locals := 116 } D cA o ad ln n sz iv [.ref (ad 0), .int x1] RJx00060 (nQi (gA cA o ad ln iv n sz))) : gMox l yL_order (wsL_order ++ atA) { frames := 14, cells := 1, slots := 6, locals := 240 } D cA o ad ln n sz iv [.ref (ad 0), .int x1, .ref (ad 67)] 1 6 (gPreX D cA o ad ln iv n sz) (fun r o' ad' ln' iv' => r = nI 1 ∧ o = o' ∧ ad = ad' ∧ ln = ln' ∧ iv = iv') := by
  refine met_ofWH (cc := cL_order) (maxL := 4) (ret := (some .int)) (by decide) rfl ?_
  intro p e s m args below meth c s₁ B hml htb hv
  obtain ⟨rfl, hv, hX⟩ := hv
  obtain ⟨hsz, hS, hK, hN, hA⟩ := gS.entry hv
  subst hsz
  have hx := B.exec
  have hb := B.bytes
  have hr := B.returns
  have hts0 := atoms_spec (ws := wsL_order ++ atA) B.pre
  have hown : s.vm.findClass RL = some m.cls := findClass_of_methodNamed B.named
  have hl := lv_entry ([.ref (ad 0), .int x1, .ref (ad 67)]) (n := 4) (Nat.le_of_ble_eq_true rfl)
  rw [lg_entry_eq]
  generalize (lg_sl ([.ref (ad 0), .int x1, .ref (ad 67)]) ++ List.replicate (4 - (lg_sl ([.ref (ad 0), .int x1, .ref (ad 67)])).length) Slot.unset).toArray = ls at hl ⊢
  have hl : lv_has ls 4 [(0, .ref (ad 0)), (1, .int x1), (2, .ref (ad 67))] := hl
  have hRf : 14 ≤ (headSpec (wsL_order ++ atA) { frames := 14, cells := 1, slots := 6, locals := 240 }).room.frames := Nat.le_refl _
  have hRl : 240 ≤ (headSpec (wsL_order ++ atA) { frames := 14, cells := 1, slots := 6, locals := 240 }).room.locals := Nat.le_refl _
  refine lv_aload_n hx hb dL_order_0 rfl (lv_at hl 2 rfl) ?_
  refine lv_iconst (v := nI 0) hx hb dL_order_1 (by decide) ?_
  refine lv_aload_n hx hb dL_order_2 rfl (lv_at hl 0 rfl) ?_
  refine lv_iload_n hx hb dL_order_3 rfl (lv_at hl 1 rfl) ?_
  have hfree := hS.free hA
  refine vx_calli (vx_runV (As := [.int x1]) (rest := [.int (nI 0), .ref (ad 67)]) ⟨hx, hb, hml, hown, hts0⟩ hM (cwV 1 hts0 (atA_inV gL_order_X6_order) rfl rfl rfl (by decide +kernel) ⟨gle hRf rfl, gle hRl rfl⟩) ⟨gPreX_blind, va_recv hK hS.1 (ci := 9) rfl (gw_at (by omega)), fun U hU hW => ⟨rfl, hS.preX hK hN hX hA hU hW⟩⟩ rfl rfl hl.1 rfl (lv_room (Nat.le_of_ble_eq_true rfl)) dL_order_4 ⟨Nat.le_refl _, Nat.le_refl _⟩) hS.2.2 (fun q _ h => hfree q h) hfree (fun q _ h => hfree q h) (fun E ce q9 u t H1 locs1 ht hvm hpx hB hz hk hS1 hce hcv hcl => ?_) (fun r u t H1 locs1 ht hvm hw hB hz hk hS1 => hw.elim)
  obtain ⟨rfl, g1, g2⟩ := hB
  have hD : va_D (gA cA o ad ln iv n s.heap.size) (gw ad (gC cA o ad ln iv) n) := g2.weaken (fun _ _ _ h => hfree _ h)
  have hS : gS D cA (gA cA o ad ln iv n s.heap.size) s.heap o ad ln iv n H1 locs1 := ⟨by rw [← ht]; exact g1, hD, hS1⟩
  refine vx_catch (name := RJx00060) hown [] ⟨0, 9, 12, 13⟩ [] htb (fun z hz => by cases hz) rfl (by decide) (hts0 (.classLink RL 13 RJx00060) (List.mem_append_left _ (by decide +kernel))) (ng_use (Or.inl (by simp [ngA])) (hX.2.2.2.2.2.1 (.castable RJx00060 RJx00060) (Or.inl (by simp [ngA])))) hce hcv hcl ?_
  refine lv_astore_n (lv' := [(3, .ref q9), (0, .ref (ad 0)), (1, .int x1), (2, .ref (ad 67))]) hx hb dL_order_12 rfl hl (by decide) rfl (fun ls hl => ?_)
  refine lv_iconst (v := nI 1) hx hb dL_order_13 (by decide) ?_
  refine W.widen (k := 1) (n := 6) (by omega) (by omega) ?_
  exact W.iret (v := nI 1) hx hb hr (fun t ht hW => ⟨⟨nI 1, (o, ad, ln, iv), rfl, ⟨rfl, rfl, rfl, rfl, rfl⟩, by show gAt D cA _ _ _ _ n _ t; unfold gAt; rw [ht]; exact ⟨hS.1, hS.2.1⟩⟩, hS.2.2.F ht⟩) hS.2.2.2.2 dL_order_14
set_option maxHeartbeats 1000000 in
set_option maxRecDepth 100000 in
theorem hk_L_choose (l : Launch) (D : va_G) (cA : Nat → ClassId) (o : Nat → Int64) (ad ln : Nat → Nat) (n sz : Nat) (iv : Nat → Nat → Int32) (x1 x2 : Int32) {rm : Room} {mc ms : Nat} {post : Int32 → (Nat → Nat) → (Nat → Nat) → (Nat → Nat → Int32) → Prop} (hn : 68 ≤ n) (hrc : rm.cells = mc) (hrs : rm.slots = ms) (hrf : rm.frames + 1 ≤ 14) (hrl : 8 + (3 + 11) + rm.locals ≤ 240) (hM : gMix l yX6_choose wsX6_choose rm D cA o ad ln n sz iv [.ref (ad 0), .int x1, .int x2] mc ms post) (hp : ∀ r ad' ln' iv', post r ad' ln' iv' → (r = 0 ∨ r = 1) ∧ ad' 67 = ad 67) : gMox l yL_choose wsL_choose { frames := 14, cells := mc, slots := ms, locals := 240 } D cA o ad ln n sz iv [.ref (ad 0), .int x1, .int x2, .ref (ad 67)] mc ms (gPre D cA o ad ln iv n sz) (fun r o' ad' ln' iv' => r = nI 0 ∧ ∃ v, post v ad' ln' iv' ∧ o' = va_up o 0 (Int32.toInt64 v)) := by
  refine met_ofWH (cc := cL_choose) (maxL := 5) (ret := (some .int)) (by decide) rfl ?_
  intro p e s m args below meth c s₁ B hml htb hv
  obtain ⟨rfl, hv⟩ := hv
  obtain ⟨hsz, hS, hK, hN, hA⟩ := gS.entry hv
  subst hsz
  have hx := B.exec
  have hb := B.bytes
  have hr := B.returns
  have hts0 := atoms_spec (ws := wsL_choose) B.pre
  have hown : s.vm.findClass RL = some m.cls := findClass_of_methodNamed B.named
  have hl := lv_entry ([.ref (ad 0), .int x1, .int x2, .ref (ad 67)]) (n := 5) (Nat.le_of_ble_eq_true rfl)
  rw [lg_entry_eq]
  generalize (lg_sl ([.ref (ad 0), .int x1, .int x2, .ref (ad 67)]) ++ List.replicate (5 - (lg_sl ([.ref (ad 0), .int x1, .int x2, .ref (ad 67)])).length) Slot.unset).toArray = ls at hl ⊢
  have hl : lv_has ls 5 [(0, .ref (ad 0)), (1, .int x1), (2, .int x2), (3, .ref (ad 67))] := hl
  refine lv_aload_n hx hb dL_choose_0 rfl (lv_at hl 3 rfl) ?_
  refine lv_iconst (v := nI 0) hx hb dL_choose_1 (by decide) ?_
  refine lv_aload_n hx hb dL_choose_2 rfl (lv_at hl 0 rfl) ?_
  refine lv_iload_n hx hb dL_choose_3 rfl (lv_at hl 1 rfl) ?_
  refine lv_iload_n hx hb dL_choose_4 rfl (lv_at hl 2 rfl) ?_
  refine gc_ixM hM (fun hM => (gx_runV (As := [.int x1, .int x2]) (rest := [.int (nI 0), .ref (ad 67)]) ⟨hx, hb, hml, hown, hts0⟩ hK hN hS 0 (by omega) rfl rfl hM (cwV 2 hts0 gL_choose_X6_choose rfl hrc hrs (by decide +kernel) ⟨hrf, hrl⟩) rfl rfl hl.1 rfl (lv_room (Nat.le_of_ble_eq_true rfl)) dL_choose_5 ⟨by show 0 + mc ≤ mc; omega, by show 0 + ms ≤ ms; omega⟩)) hS hA (fun r ad1 ln1 iv1 H locs hq hS => ?_)
  obtain ⟨h01, e67⟩ := hp _ _ _ _ hq
  skip
  refine lv_if_eq (tgt := 15) hx hb dL_choose_8 (by decide) (fun c_1 => ?_) (fun c_1 => ?_)
  · skip
    refine lv_lconst (v := 0) hx hb dL_choose_15 (by decide) ?_
    refine gx_asl (y := Int32.toInt64 r) (by rw [c_1]; rfl) ?_
    refine gx_last hx hb hK hS hn e67.symm dL_choose_16 (fun H locs hS => ?_)
    refine lv_goto (tgt := 24) hx hb dL_choose_17 (by decide) ?_
    refine lv_iconst (v := nI 0) hx hb dL_choose_24 (by decide) ?_
    refine W.widen (k := mc) (n := ms) (by omega) (by omega) ?_
    exact W.iret (v := nI 0) hx hb hr (fun t ht hW => ⟨⟨nI 0, (va_up o 0 (Int32.toInt64 r), ad1, ln1, iv1), rfl, ⟨rfl, r, hq, rfl⟩, by show gAt D cA _ _ _ _ n _ t; unfold gAt; rw [ht]; exact ⟨hS.1, hS.2.1⟩⟩, hS.2.2.F ht⟩) hS.2.2.2.2 dL_choose_25
  · skip
    refine lv_lconst (v := 1) hx hb dL_choose_11 (by decide) ?_
    refine lv_goto (tgt := 16) hx hb dL_choose_12 (by decide) ?_
    refine gx_asl (y := Int32.toInt64 r) (by rw [h01.resolve_left c_1]; rfl) ?_
    refine gx_last hx hb hK hS hn e67.symm dL_choose_16 (fun H locs hS => ?_)
    refine lv_goto (tgt := 24) hx hb dL_choose_17 (by decide) ?_
    refine lv_iconst (v := nI 0) hx hb dL_choose_24 (by decide) ?_
    refine W.widen (k := mc) (n := ms) (by omega) (by omega) ?_
    exact W.iret (v := nI 0) hx hb hr (fun t ht hW => ⟨⟨nI 0, (va_up o 0 (Int32.toInt64 r), ad1, ln1, iv1), rfl, ⟨rfl, r, hq, rfl⟩, by show gAt D cA _ _ _ _ n _ t; unfold gAt; rw [ht]; exact ⟨hS.1, hS.2.1⟩⟩, hS.2.2.F ht⟩) hS.2.2.2.2 dL_choose_25
set_option maxHeartbeats 1000000 in
set_option maxRecDepth 100000 in
theorem hx_L_choose (l : Launch) (D : va_G) (cA : Nat → ClassId) (o : Nat → Int64) (ad ln : Nat → Nat) (n sz : Nat) (iv : Nat → Nat → Int32) (x1 x2 : Int32) (hn : 68 ≤ n) (hM : gMx l yX6_choose (wsX6_choose ++ atA) { frames := 8, cells := 1, slots := 6, locals := 116 } D cA o ad ln n sz iv [.ref (ad 0), .int x1, .int x2] RJx00060 (nQi (gA cA o ad ln iv n sz))) : gMox l yL_choose (wsL_choose ++ atA) { frames := 14, cells := 1, slots := 6, locals := 240 } D cA o ad ln n sz iv [.ref (ad 0), .int x1, .int x2, .ref (ad 67)] 1 6 (gPreX D cA o ad ln iv n sz) (fun r o' ad' ln' iv' => r = nI 1 ∧ o = o' ∧ ad = ad' ∧ ln = ln' ∧ iv = iv') := by
  refine met_ofWH (cc := cL_choose) (maxL := 5) (ret := (some .int)) (by decide) rfl ?_
  intro p e s m args below meth c s₁ B hml htb hv
  obtain ⟨rfl, hv, hX⟩ := hv
  obtain ⟨hsz, hS, hK, hN, hA⟩ := gS.entry hv
  subst hsz
  have hx := B.exec
  have hb := B.bytes
  have hr := B.returns
  have hts0 := atoms_spec (ws := wsL_choose ++ atA) B.pre
  have hown : s.vm.findClass RL = some m.cls := findClass_of_methodNamed B.named
  have hl := lv_entry ([.ref (ad 0), .int x1, .int x2, .ref (ad 67)]) (n := 5) (Nat.le_of_ble_eq_true rfl)
  rw [lg_entry_eq]
  generalize (lg_sl ([.ref (ad 0), .int x1, .int x2, .ref (ad 67)]) ++ List.replicate (5 - (lg_sl ([.ref (ad 0), .int x1, .int x2, .ref (ad 67)])).length) Slot.unset).toArray = ls at hl ⊢
  have hl : lv_has ls 5 [(0, .ref (ad 0)), (1, .int x1), (2, .int x2), (3, .ref (ad 67))] := hl
  have hRf : 14 ≤ (headSpec (wsL_choose ++ atA) { frames := 14, cells := 1, slots := 6, locals := 240 }).room.frames := Nat.le_refl _
  have hRl : 240 ≤ (headSpec (wsL_choose ++ atA) { frames := 14, cells := 1, slots := 6, locals := 240 }).room.locals := Nat.le_refl _
  refine lv_aload_n hx hb dL_choose_0 rfl (lv_at hl 3 rfl) ?_
  refine lv_iconst (v := nI 0) hx hb dL_choose_1 (by decide) ?_
  refine lv_aload_n hx hb dL_choose_2 rfl (lv_at hl 0 rfl) ?_
  refine lv_iload_n hx hb dL_choose_3 rfl (lv_at hl 1 rfl) ?_
  refine lv_iload_n hx hb dL_choose_4 rfl (lv_at hl 2 rfl) ?_
  have hfree := hS.free hA
  refine vx_calli (vx_runV (As := [.int x1, .int x2]) (rest := [.int (nI 0), .ref (ad 67)]) ⟨hx, hb, hml, hown, hts0⟩ hM (cwV 2 hts0 (atA_inV gL_choose_X6_choose) rfl rfl rfl (by decide +kernel) ⟨gle hRf rfl, gle hRl rfl⟩) ⟨gPreX_blind, va_recv hK hS.1 (ci := 9) rfl (gw_at (by omega)), fun U hU hW => ⟨rfl, hS.preX hK hN hX hA hU hW⟩⟩ rfl rfl hl.1 rfl (lv_room (Nat.le_of_ble_eq_true rfl)) dL_choose_5 ⟨Nat.le_refl _, Nat.le_refl _⟩) hS.2.2 (fun q _ h => hfree q h) hfree (fun q _ h => hfree q h) (fun E ce q9 u t H1 locs1 ht hvm hpx hB hz hk hS1 hce hcv hcl => ?_) (fun r u t H1 locs1 ht hvm hw hB hz hk hS1 => hw.elim)
  obtain ⟨rfl, g1, g2⟩ := hB
  have hD : va_D (gA cA o ad ln iv n s.heap.size) (gw ad (gC cA o ad ln iv) n) := g2.weaken (fun _ _ _ h => hfree _ h)
  have hS : gS D cA (gA cA o ad ln iv n s.heap.size) s.heap o ad ln iv n H1 locs1 := ⟨by rw [← ht]; exact g1, hD, hS1⟩
  refine vx_catch (name := RJx00060) hown [] ⟨0, 17, 20, 13⟩ [] htb (fun z hz => by cases hz) rfl (by decide) (hts0 (.classLink RL 13 RJx00060) (List.mem_append_left _ (by decide +kernel))) (ng_use (Or.inl (by simp [ngA])) (hX.2.2.2.2.2.1 (.castable RJx00060 RJx00060) (Or.inl (by simp [ngA])))) hce hcv hcl ?_
  refine lv_astore (lv' := [(4, .ref q9), (0, .ref (ad 0)), (1, .int x1), (2, .int x2), (3, .ref (ad 67))]) hx hb dL_choose_20 hl (by decide) rfl (fun ls hl => ?_)
  refine lv_iconst (v := nI 1) hx hb dL_choose_22 (by decide) ?_
  refine W.widen (k := 1) (n := 6) (by omega) (by omega) ?_
  exact W.iret (v := nI 1) hx hb hr (fun t ht hW => ⟨⟨nI 1, (o, ad, ln, iv), rfl, ⟨rfl, rfl, rfl, rfl, rfl⟩, by show gAt D cA _ _ _ _ n _ t; unfold gAt; rw [ht]; exact ⟨hS.1, hS.2.1⟩⟩, hS.2.2.F ht⟩) hS.2.2.2.2 dL_choose_23
set_option maxHeartbeats 1000000 in
set_option maxRecDepth 100000 in
theorem hk_L_set (l : Launch) (D : va_G) (cA : Nat → ClassId) (o : Nat → Int64) (ad ln : Nat → Nat) (n sz : Nat) (iv : Nat → Nat → Int32) (x1 : Int32) {rm : Room} {post : (Nat → Nat → Int32) → Prop} (hn : 68 ≤ n) (hrc : rm.cells = 0) (hrs : rm.slots = 0) (hrf : rm.frames + 1 ≤ 14) (hrl : 8 + (2 + 11) + rm.locals ≤ 240) (hM : gMv l yX6_set wsX6_set rm D cA o ad ln n sz iv [.ref (ad 0), .int x1] post)  : gMox l yL_set wsL_set { frames := 14, cells := 0, slots := 0, locals := 240 } D cA o ad ln n sz iv [.ref (ad 0), .int x1] 0 0 (gPre D cA o ad ln iv n sz) (fun r o' ad' ln' iv' => r = nI 0 ∧ post iv' ∧ o = o' ∧ ad = ad' ∧ ln = ln') := by
  refine met_ofWH (cc := cL_set) (maxL := 3) (ret := (some .int)) (by decide) rfl ?_
  intro p e s m args below meth c s₁ B hml htb hv
  obtain ⟨rfl, hv⟩ := hv
  obtain ⟨hsz, hS, hK, hN, hA⟩ := gS.entry hv
  subst hsz
  have hx := B.exec
  have hb := B.bytes
  have hr := B.returns
  have hts0 := atoms_spec (ws := wsL_set) B.pre
  have hown : s.vm.findClass RL = some m.cls := findClass_of_methodNamed B.named
  have hl := lv_entry ([.ref (ad 0), .int x1]) (n := 3) (Nat.le_of_ble_eq_true rfl)
  rw [lg_entry_eq]
  generalize (lg_sl ([.ref (ad 0), .int x1]) ++ List.replicate (3 - (lg_sl ([.ref (ad 0), .int x1])).length) Slot.unset).toArray = ls at hl ⊢
  have hl : lv_has ls 3 [(0, .ref (ad 0)), (1, .int x1)] := hl
  refine lv_aload_n hx hb dL_set_0 rfl (lv_at hl 0 rfl) ?_
  refine lv_iload_n hx hb dL_set_1 rfl (lv_at hl 1 rfl) ?_
  refine gc_v (gx_runV (As := [.int x1]) (rest := []) ⟨hx, hb, hml, hown, hts0⟩ hK hN hS 0 (by omega) rfl rfl hM (cwV 1 hts0 gL_set_X6_set rfl hrc hrs (by decide +kernel) ⟨hrf, hrl⟩) rfl rfl hl.1 rfl (lv_room (Nat.le_of_ble_eq_true rfl)) dL_set_2 ⟨by show 0 + 0 ≤ 0; omega, by show 0 + 0 ≤ 0; omega⟩) hS hA (fun iv1 H locs hq hS => ?_)
  refine lv_goto (tgt := 11) hx hb dL_set_5 (by decide) ?_
  refine lv_iconst (v := nI 0) hx hb dL_set_11 (by decide) ?_
  refine W.widen (k := 0) (n := 0) (by omega) (by omega) ?_
  exact W.iret (v := nI 0) hx hb hr (fun t ht hW => ⟨⟨nI 0, (o, ad, ln, iv1), rfl, ⟨rfl, hq, rfl, rfl, rfl⟩, by show gAt D cA _ _ _ _ n _ t; unfold gAt; rw [ht]; exact ⟨hS.1, hS.2.1⟩⟩, hS.2.2.F ht⟩) hS.2.2.2.2 dL_set_12
set_option maxHeartbeats 1000000 in
set_option maxRecDepth 100000 in
theorem hx_L_set (l : Launch) (D : va_G) (cA : Nat → ClassId) (o : Nat → Int64) (ad ln : Nat → Nat) (n sz : Nat) (iv : Nat → Nat → Int32) (x1 : Int32) (hn : 68 ≤ n) (hM : gMx l yX6_set (wsX6_set ++ atA) { frames := 8, cells := 1, slots := 6, locals := 116 } D cA o ad ln n sz iv [.ref (ad 0), .int x1] RJx00060 (nQv (gA cA o ad ln iv n sz))) : gMox l yL_set (wsL_set ++ atA) { frames := 14, cells := 1, slots := 6, locals := 240 } D cA o ad ln n sz iv [.ref (ad 0), .int x1] 1 6 (gPreX D cA o ad ln iv n sz) (fun r o' ad' ln' iv' => r = nI 1 ∧ o = o' ∧ ad = ad' ∧ ln = ln' ∧ iv = iv') := by
  refine met_ofWH (cc := cL_set) (maxL := 3) (ret := (some .int)) (by decide) rfl ?_
  intro p e s m args below meth c s₁ B hml htb hv
  obtain ⟨rfl, hv, hX⟩ := hv
  obtain ⟨hsz, hS, hK, hN, hA⟩ := gS.entry hv
  subst hsz
  have hx := B.exec
  have hb := B.bytes
  have hr := B.returns
  have hts0 := atoms_spec (ws := wsL_set ++ atA) B.pre
  have hown : s.vm.findClass RL = some m.cls := findClass_of_methodNamed B.named
  have hl := lv_entry ([.ref (ad 0), .int x1]) (n := 3) (Nat.le_of_ble_eq_true rfl)
  rw [lg_entry_eq]
  generalize (lg_sl ([.ref (ad 0), .int x1]) ++ List.replicate (3 - (lg_sl ([.ref (ad 0), .int x1])).length) Slot.unset).toArray = ls at hl ⊢
  have hl : lv_has ls 3 [(0, .ref (ad 0)), (1, .int x1)] := hl
  have hRf : 14 ≤ (headSpec (wsL_set ++ atA) { frames := 14, cells := 1, slots := 6, locals := 240 }).room.frames := Nat.le_refl _
  have hRl : 240 ≤ (headSpec (wsL_set ++ atA) { frames := 14, cells := 1, slots := 6, locals := 240 }).room.locals := Nat.le_refl _
  refine lv_aload_n hx hb dL_set_0 rfl (lv_at hl 0 rfl) ?_
  refine lv_iload_n hx hb dL_set_1 rfl (lv_at hl 1 rfl) ?_
  have hfree := hS.free hA
  refine vx_callv (vx_runV (As := [.int x1]) (rest := []) ⟨hx, hb, hml, hown, hts0⟩ hM (cwV 1 hts0 (atA_inV gL_set_X6_set) rfl rfl rfl (by decide +kernel) ⟨gle hRf rfl, gle hRl rfl⟩) ⟨gPreX_blind, va_recv hK hS.1 (ci := 9) rfl (gw_at (by omega)), fun U hU hW => ⟨rfl, hS.preX hK hN hX hA hU hW⟩⟩ rfl rfl hl.1 rfl (lv_room (Nat.le_of_ble_eq_true rfl)) dL_set_2 ⟨Nat.le_refl _, Nat.le_refl _⟩) hS.2.2 (fun q _ h => hfree q h) hfree (fun q _ h => hfree q h) (fun E ce q9 u t H1 locs1 ht hvm hpx hB hz hk hS1 hce hcv hcl => ?_) (fun u t H1 locs1 ht hvm hw hB hz hk hS1 => hw.elim)
  obtain ⟨rfl, g1, g2⟩ := hB
  have hD : va_D (gA cA o ad ln iv n s.heap.size) (gw ad (gC cA o ad ln iv) n) := g2.weaken (fun _ _ _ h => hfree _ h)
  have hS : gS D cA (gA cA o ad ln iv n s.heap.size) s.heap o ad ln iv n H1 locs1 := ⟨by rw [← ht]; exact g1, hD, hS1⟩
  refine vx_catch (name := RJx00060) hown [] ⟨0, 5, 8, 13⟩ [] htb (fun z hz => by cases hz) rfl (by decide) (hts0 (.classLink RL 13 RJx00060) (List.mem_append_left _ (by decide +kernel))) (ng_use (Or.inl (by simp [ngA])) (hX.2.2.2.2.2.1 (.castable RJx00060 RJx00060) (Or.inl (by simp [ngA])))) hce hcv hcl ?_
  refine lv_astore_n (lv' := [(2, .ref q9), (0, .ref (ad 0)), (1, .int x1)]) hx hb dL_set_8 rfl hl (by decide) rfl (fun ls hl => ?_)
  refine lv_iconst (v := nI 1) hx hb dL_set_9 (by decide) ?_
  refine W.widen (k := 1) (n := 6) (by omega) (by omega) ?_
  exact W.iret (v := nI 1) hx hb hr (fun t ht hW => ⟨⟨nI 1, (o, ad, ln, iv), rfl, ⟨rfl, rfl, rfl, rfl, rfl⟩, by show gAt D cA _ _ _ _ n _ t; unfold gAt; rw [ht]; exact ⟨hS.1, hS.2.1⟩⟩, hS.2.2.F ht⟩) hS.2.2.2.2 dL_set_10
set_option maxHeartbeats 1000000 in
set_option maxRecDepth 100000 in
theorem hk_L_place (l : Launch) (D : va_G) (cA : Nat → ClassId) (o : Nat → Int64) (ad ln : Nat → Nat) (n sz : Nat) (iv : Nat → Nat → Int32) (x1 : Int32) {rm : Room} {mc ms : Nat} {post : Int32 → (Nat → Nat) → (Nat → Nat) → (Nat → Nat → Int32) → Prop} (hn : 68 ≤ n) (hrc : rm.cells = mc) (hrs : rm.slots = ms) (hrf : rm.frames + 1 ≤ 14) (hrl : 8 + (2 + 11) + rm.locals ≤ 240) (hM : gMix l yX6_place wsX6_place rm D cA o ad ln n sz iv [.ref (ad 0), .int x1] mc ms post) (hp : ∀ r ad' ln' iv', post r ad' ln' iv' → ad' 67 = ad 67) : gMox l yL_place wsL_place { frames := 14, cells := mc, slots := ms, locals := 240 } D cA o ad ln n sz iv [.ref (ad 0), .int x1, .ref (ad 67)] mc ms (gPre D cA o ad ln iv n sz) (fun r o' ad' ln' iv' => r = nI 0 ∧ ∃ v, post v ad' ln' iv' ∧ o' = va_up o 0 (Int32.toInt64 v)) := by
  refine met_ofWH (cc := cL_place) (maxL := 4) (ret := (some .int)) (by decide) rfl ?_
  intro p e s m args below meth c s₁ B hml htb hv
  obtain ⟨rfl, hv⟩ := hv
  obtain ⟨hsz, hS, hK, hN, hA⟩ := gS.entry hv
  subst hsz
  have hx := B.exec
  have hb := B.bytes
  have hr := B.returns
  have hts0 := atoms_spec (ws := wsL_place) B.pre
  have hown : s.vm.findClass RL = some m.cls := findClass_of_methodNamed B.named
  have hl := lv_entry ([.ref (ad 0), .int x1, .ref (ad 67)]) (n := 4) (Nat.le_of_ble_eq_true rfl)
  rw [lg_entry_eq]
  generalize (lg_sl ([.ref (ad 0), .int x1, .ref (ad 67)]) ++ List.replicate (4 - (lg_sl ([.ref (ad 0), .int x1, .ref (ad 67)])).length) Slot.unset).toArray = ls at hl ⊢
  have hl : lv_has ls 4 [(0, .ref (ad 0)), (1, .int x1), (2, .ref (ad 67))] := hl
  refine lv_aload_n hx hb dL_place_0 rfl (lv_at hl 2 rfl) ?_
  refine lv_iconst (v := nI 0) hx hb dL_place_1 (by decide) ?_
  refine lv_aload_n hx hb dL_place_2 rfl (lv_at hl 0 rfl) ?_
  refine lv_iload_n hx hb dL_place_3 rfl (lv_at hl 1 rfl) ?_
  refine gc_ixM hM (fun hM => (gx_runV (As := [.int x1]) (rest := [.int (nI 0), .ref (ad 67)]) ⟨hx, hb, hml, hown, hts0⟩ hK hN hS 0 (by omega) rfl rfl hM (cwV 1 hts0 gL_place_X6_place rfl hrc hrs (by decide +kernel) ⟨hrf, hrl⟩) rfl rfl hl.1 rfl (lv_room (Nat.le_of_ble_eq_true rfl)) dL_place_4 ⟨by show 0 + mc ≤ mc; omega, by show 0 + ms ≤ ms; omega⟩)) hS hA (fun r ad1 ln1 iv1 H locs hq hS => ?_)
  obtain e67 := hp _ _ _ _ hq
  refine lv_i2l hx hb dL_place_7 rfl ?_
  refine gx_last hx hb hK hS hn e67.symm dL_place_8 (fun H locs hS => ?_)
  refine lv_goto (tgt := 15) hx hb dL_place_9 (by decide) ?_
  refine lv_iconst (v := nI 0) hx hb dL_place_15 (by decide) ?_
  refine W.widen (k := mc) (n := ms) (by omega) (by omega) ?_
  exact W.iret (v := nI 0) hx hb hr (fun t ht hW => ⟨⟨nI 0, (va_up o 0 (Int32.toInt64 r), ad1, ln1, iv1), rfl, ⟨rfl, r, hq, rfl⟩, by show gAt D cA _ _ _ _ n _ t; unfold gAt; rw [ht]; exact ⟨hS.1, hS.2.1⟩⟩, hS.2.2.F ht⟩) hS.2.2.2.2 dL_place_16
set_option maxHeartbeats 1000000 in
set_option maxRecDepth 100000 in
theorem hx_L_place (l : Launch) (D : va_G) (cA : Nat → ClassId) (o : Nat → Int64) (ad ln : Nat → Nat) (n sz : Nat) (iv : Nat → Nat → Int32) (x1 : Int32) (hn : 68 ≤ n) (hM : gMx l yX6_place (wsX6_place ++ atA) { frames := 8, cells := 1, slots := 6, locals := 116 } D cA o ad ln n sz iv [.ref (ad 0), .int x1] RJx00060 (nQi (gA cA o ad ln iv n sz))) : gMox l yL_place (wsL_place ++ atA) { frames := 14, cells := 1, slots := 6, locals := 240 } D cA o ad ln n sz iv [.ref (ad 0), .int x1, .ref (ad 67)] 1 6 (gPreX D cA o ad ln iv n sz) (fun r o' ad' ln' iv' => r = nI 1 ∧ o = o' ∧ ad = ad' ∧ ln = ln' ∧ iv = iv') := by
  refine met_ofWH (cc := cL_place) (maxL := 4) (ret := (some .int)) (by decide) rfl ?_
  intro p e s m args below meth c s₁ B hml htb hv
  obtain ⟨rfl, hv, hX⟩ := hv
  obtain ⟨hsz, hS, hK, hN, hA⟩ := gS.entry hv
  subst hsz
  have hx := B.exec
  have hb := B.bytes
  have hr := B.returns
  have hts0 := atoms_spec (ws := wsL_place ++ atA) B.pre
  have hown : s.vm.findClass RL = some m.cls := findClass_of_methodNamed B.named
  have hl := lv_entry ([.ref (ad 0), .int x1, .ref (ad 67)]) (n := 4) (Nat.le_of_ble_eq_true rfl)
  rw [lg_entry_eq]
  generalize (lg_sl ([.ref (ad 0), .int x1, .ref (ad 67)]) ++ List.replicate (4 - (lg_sl ([.ref (ad 0), .int x1, .ref (ad 67)])).length) Slot.unset).toArray = ls at hl ⊢
  have hl : lv_has ls 4 [(0, .ref (ad 0)), (1, .int x1), (2, .ref (ad 67))] := hl
  have hRf : 14 ≤ (headSpec (wsL_place ++ atA) { frames := 14, cells := 1, slots := 6, locals := 240 }).room.frames := Nat.le_refl _
  have hRl : 240 ≤ (headSpec (wsL_place ++ atA) { frames := 14, cells := 1, slots := 6, locals := 240 }).room.locals := Nat.le_refl _
  refine lv_aload_n hx hb dL_place_0 rfl (lv_at hl 2 rfl) ?_
  refine lv_iconst (v := nI 0) hx hb dL_place_1 (by decide) ?_
  refine lv_aload_n hx hb dL_place_2 rfl (lv_at hl 0 rfl) ?_
  refine lv_iload_n hx hb dL_place_3 rfl (lv_at hl 1 rfl) ?_
  have hfree := hS.free hA
  refine vx_calli (vx_runV (As := [.int x1]) (rest := [.int (nI 0), .ref (ad 67)]) ⟨hx, hb, hml, hown, hts0⟩ hM (cwV 1 hts0 (atA_inV gL_place_X6_place) rfl rfl rfl (by decide +kernel) ⟨gle hRf rfl, gle hRl rfl⟩) ⟨gPreX_blind, va_recv hK hS.1 (ci := 9) rfl (gw_at (by omega)), fun U hU hW => ⟨rfl, hS.preX hK hN hX hA hU hW⟩⟩ rfl rfl hl.1 rfl (lv_room (Nat.le_of_ble_eq_true rfl)) dL_place_4 ⟨Nat.le_refl _, Nat.le_refl _⟩) hS.2.2 (fun q _ h => hfree q h) hfree (fun q _ h => hfree q h) (fun E ce q9 u t H1 locs1 ht hvm hpx hB hz hk hS1 hce hcv hcl => ?_) (fun r u t H1 locs1 ht hvm hw hB hz hk hS1 => hw.elim)
  obtain ⟨rfl, g1, g2⟩ := hB
  have hD : va_D (gA cA o ad ln iv n s.heap.size) (gw ad (gC cA o ad ln iv) n) := g2.weaken (fun _ _ _ h => hfree _ h)
  have hS : gS D cA (gA cA o ad ln iv n s.heap.size) s.heap o ad ln iv n H1 locs1 := ⟨by rw [← ht]; exact g1, hD, hS1⟩
  refine vx_catch (name := RJx00060) hown [] ⟨0, 9, 12, 13⟩ [] htb (fun z hz => by cases hz) rfl (by decide) (hts0 (.classLink RL 13 RJx00060) (List.mem_append_left _ (by decide +kernel))) (ng_use (Or.inl (by simp [ngA])) (hX.2.2.2.2.2.1 (.castable RJx00060 RJx00060) (Or.inl (by simp [ngA])))) hce hcv hcl ?_
  refine lv_astore_n (lv' := [(3, .ref q9), (0, .ref (ad 0)), (1, .int x1), (2, .ref (ad 67))]) hx hb dL_place_12 rfl hl (by decide) rfl (fun ls hl => ?_)
  refine lv_iconst (v := nI 1) hx hb dL_place_13 (by decide) ?_
  refine W.widen (k := 1) (n := 6) (by omega) (by omega) ?_
  exact W.iret (v := nI 1) hx hb hr (fun t ht hW => ⟨⟨nI 1, (o, ad, ln, iv), rfl, ⟨rfl, rfl, rfl, rfl, rfl⟩, by show gAt D cA _ _ _ _ n _ t; unfold gAt; rw [ht]; exact ⟨hS.1, hS.2.1⟩⟩, hS.2.2.F ht⟩) hS.2.2.2.2 dL_place_14
set_option maxHeartbeats 1000000 in
set_option maxRecDepth 100000 in
theorem hk_L_twist (l : Launch) (D : va_G) (cA : Nat → ClassId) (o : Nat → Int64) (ad ln : Nat → Nat) (n sz : Nat) (iv : Nat → Nat → Int32) (x1 : Int32) {rm : Room} {mc ms : Nat} {post : Int32 → (Nat → Nat) → (Nat → Nat) → (Nat → Nat → Int32) → Prop} (hn : 68 ≤ n) (hrc : rm.cells = mc) (hrs : rm.slots = ms) (hrf : rm.frames + 1 ≤ 14) (hrl : 8 + (2 + 11) + rm.locals ≤ 240) (hM : gMix l yX6_twist wsX6_twist rm D cA o ad ln n sz iv [.ref (ad 0), .int x1] mc ms post) (hp : ∀ r ad' ln' iv', post r ad' ln' iv' → ad' 67 = ad 67) : gMox l yL_twist wsL_twist { frames := 14, cells := mc, slots := ms, locals := 240 } D cA o ad ln n sz iv [.ref (ad 0), .int x1, .ref (ad 67)] mc ms (gPre D cA o ad ln iv n sz) (fun r o' ad' ln' iv' => r = nI 0 ∧ ∃ v, post v ad' ln' iv' ∧ o' = va_up o 0 (Int32.toInt64 v)) := by
  refine met_ofWH (cc := cL_twist) (maxL := 4) (ret := (some .int)) (by decide) rfl ?_
  intro p e s m args below meth c s₁ B hml htb hv
  obtain ⟨rfl, hv⟩ := hv
  obtain ⟨hsz, hS, hK, hN, hA⟩ := gS.entry hv
  subst hsz
  have hx := B.exec
  have hb := B.bytes
  have hr := B.returns
  have hts0 := atoms_spec (ws := wsL_twist) B.pre
  have hown : s.vm.findClass RL = some m.cls := findClass_of_methodNamed B.named
  have hl := lv_entry ([.ref (ad 0), .int x1, .ref (ad 67)]) (n := 4) (Nat.le_of_ble_eq_true rfl)
  rw [lg_entry_eq]
  generalize (lg_sl ([.ref (ad 0), .int x1, .ref (ad 67)]) ++ List.replicate (4 - (lg_sl ([.ref (ad 0), .int x1, .ref (ad 67)])).length) Slot.unset).toArray = ls at hl ⊢
  have hl : lv_has ls 4 [(0, .ref (ad 0)), (1, .int x1), (2, .ref (ad 67))] := hl
  refine lv_aload_n hx hb dL_twist_0 rfl (lv_at hl 2 rfl) ?_
  refine lv_iconst (v := nI 0) hx hb dL_twist_1 (by decide) ?_
  refine lv_aload_n hx hb dL_twist_2 rfl (lv_at hl 0 rfl) ?_
  refine lv_iload_n hx hb dL_twist_3 rfl (lv_at hl 1 rfl) ?_
  refine gc_ixM hM (fun hM => (gx_runV (As := [.int x1]) (rest := [.int (nI 0), .ref (ad 67)]) ⟨hx, hb, hml, hown, hts0⟩ hK hN hS 0 (by omega) rfl rfl hM (cwV 1 hts0 gL_twist_X6_twist rfl hrc hrs (by decide +kernel) ⟨hrf, hrl⟩) rfl rfl hl.1 rfl (lv_room (Nat.le_of_ble_eq_true rfl)) dL_twist_4 ⟨by show 0 + mc ≤ mc; omega, by show 0 + ms ≤ ms; omega⟩)) hS hA (fun r ad1 ln1 iv1 H locs hq hS => ?_)
  obtain e67 := hp _ _ _ _ hq
  refine lv_i2l hx hb dL_twist_7 rfl ?_
  refine gx_last hx hb hK hS hn e67.symm dL_twist_8 (fun H locs hS => ?_)
  refine lv_goto (tgt := 15) hx hb dL_twist_9 (by decide) ?_
  refine lv_iconst (v := nI 0) hx hb dL_twist_15 (by decide) ?_
  refine W.widen (k := mc) (n := ms) (by omega) (by omega) ?_
  exact W.iret (v := nI 0) hx hb hr (fun t ht hW => ⟨⟨nI 0, (va_up o 0 (Int32.toInt64 r), ad1, ln1, iv1), rfl, ⟨rfl, r, hq, rfl⟩, by show gAt D cA _ _ _ _ n _ t; unfold gAt; rw [ht]; exact ⟨hS.1, hS.2.1⟩⟩, hS.2.2.F ht⟩) hS.2.2.2.2 dL_twist_16
set_option maxHeartbeats 1000000 in
set_option maxRecDepth 100000 in
theorem hx_L_twist (l : Launch) (D : va_G) (cA : Nat → ClassId) (o : Nat → Int64) (ad ln : Nat → Nat) (n sz : Nat) (iv : Nat → Nat → Int32) (x1 : Int32) (hn : 68 ≤ n) (hM : gMx l yX6_twist (wsX6_twist ++ atA) { frames := 8, cells := 1, slots := 6, locals := 116 } D cA o ad ln n sz iv [.ref (ad 0), .int x1] RJx00060 (nQi (gA cA o ad ln iv n sz))) : gMox l yL_twist (wsL_twist ++ atA) { frames := 14, cells := 1, slots := 6, locals := 240 } D cA o ad ln n sz iv [.ref (ad 0), .int x1, .ref (ad 67)] 1 6 (gPreX D cA o ad ln iv n sz) (fun r o' ad' ln' iv' => r = nI 1 ∧ o = o' ∧ ad = ad' ∧ ln = ln' ∧ iv = iv') := by
  refine met_ofWH (cc := cL_twist) (maxL := 4) (ret := (some .int)) (by decide) rfl ?_
  intro p e s m args below meth c s₁ B hml htb hv
  obtain ⟨rfl, hv, hX⟩ := hv
  obtain ⟨hsz, hS, hK, hN, hA⟩ := gS.entry hv
  subst hsz
  have hx := B.exec
  have hb := B.bytes
  have hr := B.returns
  have hts0 := atoms_spec (ws := wsL_twist ++ atA) B.pre
  have hown : s.vm.findClass RL = some m.cls := findClass_of_methodNamed B.named
  have hl := lv_entry ([.ref (ad 0), .int x1, .ref (ad 67)]) (n := 4) (Nat.le_of_ble_eq_true rfl)
  rw [lg_entry_eq]
  generalize (lg_sl ([.ref (ad 0), .int x1, .ref (ad 67)]) ++ List.replicate (4 - (lg_sl ([.ref (ad 0), .int x1, .ref (ad 67)])).length) Slot.unset).toArray = ls at hl ⊢
  have hl : lv_has ls 4 [(0, .ref (ad 0)), (1, .int x1), (2, .ref (ad 67))] := hl
  have hRf : 14 ≤ (headSpec (wsL_twist ++ atA) { frames := 14, cells := 1, slots := 6, locals := 240 }).room.frames := Nat.le_refl _
  have hRl : 240 ≤ (headSpec (wsL_twist ++ atA) { frames := 14, cells := 1, slots := 6, locals := 240 }).room.locals := Nat.le_refl _
  refine lv_aload_n hx hb dL_twist_0 rfl (lv_at hl 2 rfl) ?_
  refine lv_iconst (v := nI 0) hx hb dL_twist_1 (by decide) ?_
  refine lv_aload_n hx hb dL_twist_2 rfl (lv_at hl 0 rfl) ?_
  refine lv_iload_n hx hb dL_twist_3 rfl (lv_at hl 1 rfl) ?_
  have hfree := hS.free hA
  refine vx_calli (vx_runV (As := [.int x1]) (rest := [.int (nI 0), .ref (ad 67)]) ⟨hx, hb, hml, hown, hts0⟩ hM (cwV 1 hts0 (atA_inV gL_twist_X6_twist) rfl rfl rfl (by decide +kernel) ⟨gle hRf rfl, gle hRl rfl⟩) ⟨gPreX_blind, va_recv hK hS.1 (ci := 9) rfl (gw_at (by omega)), fun U hU hW => ⟨rfl, hS.preX hK hN hX hA hU hW⟩⟩ rfl rfl hl.1 rfl (lv_room (Nat.le_of_ble_eq_true rfl)) dL_twist_4 ⟨Nat.le_refl _, Nat.le_refl _⟩) hS.2.2 (fun q _ h => hfree q h) hfree (fun q _ h => hfree q h) (fun E ce q9 u t H1 locs1 ht hvm hpx hB hz hk hS1 hce hcv hcl => ?_) (fun r u t H1 locs1 ht hvm hw hB hz hk hS1 => hw.elim)
  obtain ⟨rfl, g1, g2⟩ := hB
  have hD : va_D (gA cA o ad ln iv n s.heap.size) (gw ad (gC cA o ad ln iv) n) := g2.weaken (fun _ _ _ h => hfree _ h)
  have hS : gS D cA (gA cA o ad ln iv n s.heap.size) s.heap o ad ln iv n H1 locs1 := ⟨by rw [← ht]; exact g1, hD, hS1⟩
  refine vx_catch (name := RJx00060) hown [] ⟨0, 9, 12, 13⟩ [] htb (fun z hz => by cases hz) rfl (by decide) (hts0 (.classLink RL 13 RJx00060) (List.mem_append_left _ (by decide +kernel))) (ng_use (Or.inl (by simp [ngA])) (hX.2.2.2.2.2.1 (.castable RJx00060 RJx00060) (Or.inl (by simp [ngA])))) hce hcv hcl ?_
  refine lv_astore_n (lv' := [(3, .ref q9), (0, .ref (ad 0)), (1, .int x1), (2, .ref (ad 67))]) hx hb dL_twist_12 rfl hl (by decide) rfl (fun ls hl => ?_)
  refine lv_iconst (v := nI 1) hx hb dL_twist_13 (by decide) ?_
  refine W.widen (k := 1) (n := 6) (by omega) (by omega) ?_
  exact W.iret (v := nI 1) hx hb hr (fun t ht hW => ⟨⟨nI 1, (o, ad, ln, iv), rfl, ⟨rfl, rfl, rfl, rfl, rfl⟩, by show gAt D cA _ _ _ _ n _ t; unfold gAt; rw [ht]; exact ⟨hS.1, hS.2.1⟩⟩, hS.2.2.F ht⟩) hS.2.2.2.2 dL_twist_14
set_option maxHeartbeats 1000000 in
set_option maxRecDepth 100000 in
theorem hk_L_apply (l : Launch) (D : va_G) (cA : Nat → ClassId) (o : Nat → Int64) (ad ln : Nat → Nat) (n sz : Nat) (iv : Nat → Nat → Int32) (x1 : Int32) {rm : Room} {post : (Nat → Nat → Int32) → Prop} (hn : 68 ≤ n) (hrc : rm.cells = 0) (hrs : rm.slots = 0) (hrf : rm.frames + 1 ≤ 14) (hrl : 8 + (2 + 11) + rm.locals ≤ 240) (hM : gMv l yX6_apply wsX6_apply rm D cA o ad ln n sz iv [.ref (ad 0), .int x1] post)  : gMox l yL_apply wsL_apply { frames := 14, cells := 0, slots := 0, locals := 240 } D cA o ad ln n sz iv [.ref (ad 0), .int x1] 0 0 (gPre D cA o ad ln iv n sz) (fun r o' ad' ln' iv' => r = nI 0 ∧ post iv' ∧ o = o' ∧ ad = ad' ∧ ln = ln') := by
  refine met_ofWH (cc := cL_apply) (maxL := 3) (ret := (some .int)) (by decide) rfl ?_
  intro p e s m args below meth c s₁ B hml htb hv
  obtain ⟨rfl, hv⟩ := hv
  obtain ⟨hsz, hS, hK, hN, hA⟩ := gS.entry hv
  subst hsz
  have hx := B.exec
  have hb := B.bytes
  have hr := B.returns
  have hts0 := atoms_spec (ws := wsL_apply) B.pre
  have hown : s.vm.findClass RL = some m.cls := findClass_of_methodNamed B.named
  have hl := lv_entry ([.ref (ad 0), .int x1]) (n := 3) (Nat.le_of_ble_eq_true rfl)
  rw [lg_entry_eq]
  generalize (lg_sl ([.ref (ad 0), .int x1]) ++ List.replicate (3 - (lg_sl ([.ref (ad 0), .int x1])).length) Slot.unset).toArray = ls at hl ⊢
  have hl : lv_has ls 3 [(0, .ref (ad 0)), (1, .int x1)] := hl
  refine lv_aload_n hx hb dL_apply_0 rfl (lv_at hl 0 rfl) ?_
  refine lv_iload_n hx hb dL_apply_1 rfl (lv_at hl 1 rfl) ?_
  refine gc_v (gx_runV (As := [.int x1]) (rest := []) ⟨hx, hb, hml, hown, hts0⟩ hK hN hS 0 (by omega) rfl rfl hM (cwV 1 hts0 gL_apply_X6_apply rfl hrc hrs (by decide +kernel) ⟨hrf, hrl⟩) rfl rfl hl.1 rfl (lv_room (Nat.le_of_ble_eq_true rfl)) dL_apply_2 ⟨by show 0 + 0 ≤ 0; omega, by show 0 + 0 ≤ 0; omega⟩) hS hA (fun iv1 H locs hq hS => ?_)
  refine lv_goto (tgt := 11) hx hb dL_apply_5 (by decide) ?_
  refine lv_iconst (v := nI 0) hx hb dL_apply_11 (by decide) ?_
  refine W.widen (k := 0) (n := 0) (by omega) (by omega) ?_
  exact W.iret (v := nI 0) hx hb hr (fun t ht hW => ⟨⟨nI 0, (o, ad, ln, iv1), rfl, ⟨rfl, hq, rfl, rfl, rfl⟩, by show gAt D cA _ _ _ _ n _ t; unfold gAt; rw [ht]; exact ⟨hS.1, hS.2.1⟩⟩, hS.2.2.F ht⟩) hS.2.2.2.2 dL_apply_12
set_option maxHeartbeats 1000000 in
set_option maxRecDepth 100000 in
theorem hx_L_apply (l : Launch) (D : va_G) (cA : Nat → ClassId) (o : Nat → Int64) (ad ln : Nat → Nat) (n sz : Nat) (iv : Nat → Nat → Int32) (x1 : Int32) (hn : 68 ≤ n) (hM : gMx l yX6_apply (wsX6_apply ++ atA) { frames := 8, cells := 1, slots := 6, locals := 116 } D cA o ad ln n sz iv [.ref (ad 0), .int x1] RJx00060 (nQv (gA cA o ad ln iv n sz))) : gMox l yL_apply (wsL_apply ++ atA) { frames := 14, cells := 1, slots := 6, locals := 240 } D cA o ad ln n sz iv [.ref (ad 0), .int x1] 1 6 (gPreX D cA o ad ln iv n sz) (fun r o' ad' ln' iv' => r = nI 1 ∧ o = o' ∧ ad = ad' ∧ ln = ln' ∧ iv = iv') := by
  refine met_ofWH (cc := cL_apply) (maxL := 3) (ret := (some .int)) (by decide) rfl ?_
  intro p e s m args below meth c s₁ B hml htb hv
  obtain ⟨rfl, hv, hX⟩ := hv
  obtain ⟨hsz, hS, hK, hN, hA⟩ := gS.entry hv
  subst hsz
  have hx := B.exec
  have hb := B.bytes
  have hr := B.returns
  have hts0 := atoms_spec (ws := wsL_apply ++ atA) B.pre
  have hown : s.vm.findClass RL = some m.cls := findClass_of_methodNamed B.named
  have hl := lv_entry ([.ref (ad 0), .int x1]) (n := 3) (Nat.le_of_ble_eq_true rfl)
  rw [lg_entry_eq]
  generalize (lg_sl ([.ref (ad 0), .int x1]) ++ List.replicate (3 - (lg_sl ([.ref (ad 0), .int x1])).length) Slot.unset).toArray = ls at hl ⊢
  have hl : lv_has ls 3 [(0, .ref (ad 0)), (1, .int x1)] := hl
  have hRf : 14 ≤ (headSpec (wsL_apply ++ atA) { frames := 14, cells := 1, slots := 6, locals := 240 }).room.frames := Nat.le_refl _
  have hRl : 240 ≤ (headSpec (wsL_apply ++ atA) { frames := 14, cells := 1, slots := 6, locals := 240 }).room.locals := Nat.le_refl _
  refine lv_aload_n hx hb dL_apply_0 rfl (lv_at hl 0 rfl) ?_
  refine lv_iload_n hx hb dL_apply_1 rfl (lv_at hl 1 rfl) ?_
  have hfree := hS.free hA
  refine vx_callv (vx_runV (As := [.int x1]) (rest := []) ⟨hx, hb, hml, hown, hts0⟩ hM (cwV 1 hts0 (atA_inV gL_apply_X6_apply) rfl rfl rfl (by decide +kernel) ⟨gle hRf rfl, gle hRl rfl⟩) ⟨gPreX_blind, va_recv hK hS.1 (ci := 9) rfl (gw_at (by omega)), fun U hU hW => ⟨rfl, hS.preX hK hN hX hA hU hW⟩⟩ rfl rfl hl.1 rfl (lv_room (Nat.le_of_ble_eq_true rfl)) dL_apply_2 ⟨Nat.le_refl _, Nat.le_refl _⟩) hS.2.2 (fun q _ h => hfree q h) hfree (fun q _ h => hfree q h) (fun E ce q9 u t H1 locs1 ht hvm hpx hB hz hk hS1 hce hcv hcl => ?_) (fun u t H1 locs1 ht hvm hw hB hz hk hS1 => hw.elim)
  obtain ⟨rfl, g1, g2⟩ := hB
  have hD : va_D (gA cA o ad ln iv n s.heap.size) (gw ad (gC cA o ad ln iv) n) := g2.weaken (fun _ _ _ h => hfree _ h)
  have hS : gS D cA (gA cA o ad ln iv n s.heap.size) s.heap o ad ln iv n H1 locs1 := ⟨by rw [← ht]; exact g1, hD, hS1⟩
  refine vx_catch (name := RJx00060) hown [] ⟨0, 5, 8, 13⟩ [] htb (fun z hz => by cases hz) rfl (by decide) (hts0 (.classLink RL 13 RJx00060) (List.mem_append_left _ (by decide +kernel))) (ng_use (Or.inl (by simp [ngA])) (hX.2.2.2.2.2.1 (.castable RJx00060 RJx00060) (Or.inl (by simp [ngA])))) hce hcv hcl ?_
  refine lv_astore_n (lv' := [(2, .ref q9), (0, .ref (ad 0)), (1, .int x1)]) hx hb dL_apply_8 rfl hl (by decide) rfl (fun ls hl => ?_)
  refine lv_iconst (v := nI 1) hx hb dL_apply_9 (by decide) ?_
  refine W.widen (k := 1) (n := 6) (by omega) (by omega) ?_
  exact W.iret (v := nI 1) hx hb hr (fun t ht hW => ⟨⟨nI 1, (o, ad, ln, iv), rfl, ⟨rfl, rfl, rfl, rfl, rfl⟩, by show gAt D cA _ _ _ _ n _ t; unfold gAt; rw [ht]; exact ⟨hS.1, hS.2.1⟩⟩, hS.2.2.F ht⟩) hS.2.2.2.2 dL_apply_10
set_option maxHeartbeats 1000000 in
set_option maxRecDepth 100000 in
theorem hk_L_value (l : Launch) (D : va_G) (cA : Nat → ClassId) (o : Nat → Int64) (ad ln : Nat → Nat) (n sz : Nat) (iv : Nat → Nat → Int32) (x1 : Int32) {rm : Room} {mc ms : Nat} {post : Int32 → (Nat → Nat) → (Nat → Nat) → (Nat → Nat → Int32) → Prop} (hn : 68 ≤ n) (hrc : rm.cells = mc) (hrs : rm.slots = ms) (hrf : rm.frames + 1 ≤ 14) (hrl : 8 + (2 + 11) + rm.locals ≤ 240) (hM : gMix l yX6_value wsX6_value rm D cA o ad ln n sz iv [.ref (ad 0), .int x1] mc ms post) (hp : ∀ r ad' ln' iv', post r ad' ln' iv' → ad' 67 = ad 67) : gMox l yL_value wsL_value { frames := 14, cells := mc, slots := ms, locals := 240 } D cA o ad ln n sz iv [.ref (ad 0), .int x1, .ref (ad 67)] mc ms (gPre D cA o ad ln iv n sz) (fun r o' ad' ln' iv' => r = nI 0 ∧ ∃ v, post v ad' ln' iv' ∧ o' = va_up o 0 (Int32.toInt64 v)) := by
  refine met_ofWH (cc := cL_value) (maxL := 4) (ret := (some .int)) (by decide) rfl ?_
  intro p e s m args below meth c s₁ B hml htb hv
  obtain ⟨rfl, hv⟩ := hv
  obtain ⟨hsz, hS, hK, hN, hA⟩ := gS.entry hv
  subst hsz
  have hx := B.exec
  have hb := B.bytes
  have hr := B.returns
  have hts0 := atoms_spec (ws := wsL_value) B.pre
  have hown : s.vm.findClass RL = some m.cls := findClass_of_methodNamed B.named
  have hl := lv_entry ([.ref (ad 0), .int x1, .ref (ad 67)]) (n := 4) (Nat.le_of_ble_eq_true rfl)
  rw [lg_entry_eq]
  generalize (lg_sl ([.ref (ad 0), .int x1, .ref (ad 67)]) ++ List.replicate (4 - (lg_sl ([.ref (ad 0), .int x1, .ref (ad 67)])).length) Slot.unset).toArray = ls at hl ⊢
  have hl : lv_has ls 4 [(0, .ref (ad 0)), (1, .int x1), (2, .ref (ad 67))] := hl
  refine lv_aload_n hx hb dL_value_0 rfl (lv_at hl 2 rfl) ?_
  refine lv_iconst (v := nI 0) hx hb dL_value_1 (by decide) ?_
  refine lv_aload_n hx hb dL_value_2 rfl (lv_at hl 0 rfl) ?_
  refine lv_iload_n hx hb dL_value_3 rfl (lv_at hl 1 rfl) ?_
  refine gc_ixM hM (fun hM => (gx_runV (As := [.int x1]) (rest := [.int (nI 0), .ref (ad 67)]) ⟨hx, hb, hml, hown, hts0⟩ hK hN hS 0 (by omega) rfl rfl hM (cwV 1 hts0 gL_value_X6_value rfl hrc hrs (by decide +kernel) ⟨hrf, hrl⟩) rfl rfl hl.1 rfl (lv_room (Nat.le_of_ble_eq_true rfl)) dL_value_4 ⟨by show 0 + mc ≤ mc; omega, by show 0 + ms ≤ ms; omega⟩)) hS hA (fun r ad1 ln1 iv1 H locs hq hS => ?_)
  obtain e67 := hp _ _ _ _ hq
  refine lv_i2l hx hb dL_value_7 rfl ?_
  refine gx_last hx hb hK hS hn e67.symm dL_value_8 (fun H locs hS => ?_)
  refine lv_goto (tgt := 15) hx hb dL_value_9 (by decide) ?_
  refine lv_iconst (v := nI 0) hx hb dL_value_15 (by decide) ?_
  refine W.widen (k := mc) (n := ms) (by omega) (by omega) ?_
  exact W.iret (v := nI 0) hx hb hr (fun t ht hW => ⟨⟨nI 0, (va_up o 0 (Int32.toInt64 r), ad1, ln1, iv1), rfl, ⟨rfl, r, hq, rfl⟩, by show gAt D cA _ _ _ _ n _ t; unfold gAt; rw [ht]; exact ⟨hS.1, hS.2.1⟩⟩, hS.2.2.F ht⟩) hS.2.2.2.2 dL_value_16
set_option maxHeartbeats 1000000 in
set_option maxRecDepth 100000 in
theorem hx_L_value (l : Launch) (D : va_G) (cA : Nat → ClassId) (o : Nat → Int64) (ad ln : Nat → Nat) (n sz : Nat) (iv : Nat → Nat → Int32) (x1 : Int32) (hn : 68 ≤ n) (hM : gMx l yX6_value (wsX6_value ++ atA) { frames := 8, cells := 1, slots := 6, locals := 116 } D cA o ad ln n sz iv [.ref (ad 0), .int x1] RJx00060 (nQi (gA cA o ad ln iv n sz))) : gMox l yL_value (wsL_value ++ atA) { frames := 14, cells := 1, slots := 6, locals := 240 } D cA o ad ln n sz iv [.ref (ad 0), .int x1, .ref (ad 67)] 1 6 (gPreX D cA o ad ln iv n sz) (fun r o' ad' ln' iv' => r = nI 1 ∧ o = o' ∧ ad = ad' ∧ ln = ln' ∧ iv = iv') := by
  refine met_ofWH (cc := cL_value) (maxL := 4) (ret := (some .int)) (by decide) rfl ?_
  intro p e s m args below meth c s₁ B hml htb hv
  obtain ⟨rfl, hv, hX⟩ := hv
  obtain ⟨hsz, hS, hK, hN, hA⟩ := gS.entry hv
  subst hsz
  have hx := B.exec
  have hb := B.bytes
  have hr := B.returns
  have hts0 := atoms_spec (ws := wsL_value ++ atA) B.pre
  have hown : s.vm.findClass RL = some m.cls := findClass_of_methodNamed B.named
  have hl := lv_entry ([.ref (ad 0), .int x1, .ref (ad 67)]) (n := 4) (Nat.le_of_ble_eq_true rfl)
  rw [lg_entry_eq]
  generalize (lg_sl ([.ref (ad 0), .int x1, .ref (ad 67)]) ++ List.replicate (4 - (lg_sl ([.ref (ad 0), .int x1, .ref (ad 67)])).length) Slot.unset).toArray = ls at hl ⊢
  have hl : lv_has ls 4 [(0, .ref (ad 0)), (1, .int x1), (2, .ref (ad 67))] := hl
  have hRf : 14 ≤ (headSpec (wsL_value ++ atA) { frames := 14, cells := 1, slots := 6, locals := 240 }).room.frames := Nat.le_refl _
  have hRl : 240 ≤ (headSpec (wsL_value ++ atA) { frames := 14, cells := 1, slots := 6, locals := 240 }).room.locals := Nat.le_refl _
  refine lv_aload_n hx hb dL_value_0 rfl (lv_at hl 2 rfl) ?_
  refine lv_iconst (v := nI 0) hx hb dL_value_1 (by decide) ?_
  refine lv_aload_n hx hb dL_value_2 rfl (lv_at hl 0 rfl) ?_
  refine lv_iload_n hx hb dL_value_3 rfl (lv_at hl 1 rfl) ?_
  have hfree := hS.free hA
  refine vx_calli (vx_runV (As := [.int x1]) (rest := [.int (nI 0), .ref (ad 67)]) ⟨hx, hb, hml, hown, hts0⟩ hM (cwV 1 hts0 (atA_inV gL_value_X6_value) rfl rfl rfl (by decide +kernel) ⟨gle hRf rfl, gle hRl rfl⟩) ⟨gPreX_blind, va_recv hK hS.1 (ci := 9) rfl (gw_at (by omega)), fun U hU hW => ⟨rfl, hS.preX hK hN hX hA hU hW⟩⟩ rfl rfl hl.1 rfl (lv_room (Nat.le_of_ble_eq_true rfl)) dL_value_4 ⟨Nat.le_refl _, Nat.le_refl _⟩) hS.2.2 (fun q _ h => hfree q h) hfree (fun q _ h => hfree q h) (fun E ce q9 u t H1 locs1 ht hvm hpx hB hz hk hS1 hce hcv hcl => ?_) (fun r u t H1 locs1 ht hvm hw hB hz hk hS1 => hw.elim)
  obtain ⟨rfl, g1, g2⟩ := hB
  have hD : va_D (gA cA o ad ln iv n s.heap.size) (gw ad (gC cA o ad ln iv) n) := g2.weaken (fun _ _ _ h => hfree _ h)
  have hS : gS D cA (gA cA o ad ln iv n s.heap.size) s.heap o ad ln iv n H1 locs1 := ⟨by rw [← ht]; exact g1, hD, hS1⟩
  refine vx_catch (name := RJx00060) hown [] ⟨0, 9, 12, 13⟩ [] htb (fun z hz => by cases hz) rfl (by decide) (hts0 (.classLink RL 13 RJx00060) (List.mem_append_left _ (by decide +kernel))) (ng_use (Or.inl (by simp [ngA])) (hX.2.2.2.2.2.1 (.castable RJx00060 RJx00060) (Or.inl (by simp [ngA])))) hce hcv hcl ?_
  refine lv_astore_n (lv' := [(3, .ref q9), (0, .ref (ad 0)), (1, .int x1), (2, .ref (ad 67))]) hx hb dL_value_12 rfl hl (by decide) rfl (fun ls hl => ?_)
  refine lv_iconst (v := nI 1) hx hb dL_value_13 (by decide) ?_
  refine W.widen (k := 1) (n := 6) (by omega) (by omega) ?_
  exact W.iret (v := nI 1) hx hb hr (fun t ht hW => ⟨⟨nI 1, (o, ad, ln, iv), rfl, ⟨rfl, rfl, rfl, rfl, rfl⟩, by show gAt D cA _ _ _ _ n _ t; unfold gAt; rw [ht]; exact ⟨hS.1, hS.2.1⟩⟩, hS.2.2.F ht⟩) hS.2.2.2.2 dL_value_14
set_option maxHeartbeats 1000000 in
set_option maxRecDepth 100000 in
theorem hk_L_packed (l : Launch) (D : va_G) (cA : Nat → ClassId) (o : Nat → Int64) (ad ln : Nat → Nat) (n sz : Nat) (iv : Nat → Nat → Int32) (x1 x2 : Int32) {rm : Room} {post : Int64 → (Nat → Nat → Int32) → Prop} (hn : 68 ≤ n) (hrc : rm.cells = 0) (hrs : rm.slots = 0) (hrf : rm.frames + 1 ≤ 14) (hrl : 8 + (3 + 11) + rm.locals ≤ 240) (hM : gMl l yX6_packed wsX6_packed rm D cA o ad ln n sz iv [.ref (ad 0), .int x1, .int x2] post)  : gMox l yL_packed wsL_packed { frames := 14, cells := 0, slots := 0, locals := 240 } D cA o ad ln n sz iv [.ref (ad 0), .int x1, .int x2, .ref (ad 67)] 0 0 (gPre D cA o ad ln iv n sz) (fun r o' ad' ln' iv' => r = nI 0 ∧ ∃ v, post v iv' ∧ o' = va_up o 0 v ∧ ad = ad' ∧ ln = ln') := by
  refine met_ofWH (cc := cL_packed) (maxL := 5) (ret := (some .int)) (by decide) rfl ?_
  intro p e s m args below meth c s₁ B hml htb hv
  obtain ⟨rfl, hv⟩ := hv
  obtain ⟨hsz, hS, hK, hN, hA⟩ := gS.entry hv
  subst hsz
  have hx := B.exec
  have hb := B.bytes
  have hr := B.returns
  have hts0 := atoms_spec (ws := wsL_packed) B.pre
  have hown : s.vm.findClass RL = some m.cls := findClass_of_methodNamed B.named
  have hl := lv_entry ([.ref (ad 0), .int x1, .int x2, .ref (ad 67)]) (n := 5) (Nat.le_of_ble_eq_true rfl)
  rw [lg_entry_eq]
  generalize (lg_sl ([.ref (ad 0), .int x1, .int x2, .ref (ad 67)]) ++ List.replicate (5 - (lg_sl ([.ref (ad 0), .int x1, .int x2, .ref (ad 67)])).length) Slot.unset).toArray = ls at hl ⊢
  have hl : lv_has ls 5 [(0, .ref (ad 0)), (1, .int x1), (2, .int x2), (3, .ref (ad 67))] := hl
  refine lv_aload_n hx hb dL_packed_0 rfl (lv_at hl 3 rfl) ?_
  refine lv_iconst (v := nI 0) hx hb dL_packed_1 (by decide) ?_
  refine lv_aload_n hx hb dL_packed_2 rfl (lv_at hl 0 rfl) ?_
  refine lv_iload_n hx hb dL_packed_3 rfl (lv_at hl 1 rfl) ?_
  refine lv_iload_n hx hb dL_packed_4 rfl (lv_at hl 2 rfl) ?_
  refine gc_l (gx_runV (As := [.int x1, .int x2]) (rest := [.int (nI 0), .ref (ad 67)]) ⟨hx, hb, hml, hown, hts0⟩ hK hN hS 0 (by omega) rfl rfl hM (cwV 2 hts0 gL_packed_X6_packed rfl hrc hrs (by decide +kernel) ⟨hrf, hrl⟩) rfl rfl hl.1 rfl (lv_room (Nat.le_of_ble_eq_true rfl)) dL_packed_5 ⟨by show 0 + 0 ≤ 0; omega, by show 0 + 0 ≤ 0; omega⟩) hS hA (fun r iv1 H locs hq hS => ?_)
  refine gx_last hx hb hK hS hn rfl dL_packed_8 (fun H locs hS => ?_)
  refine lv_goto (tgt := 16) hx hb dL_packed_9 (by decide) ?_
  refine lv_iconst (v := nI 0) hx hb dL_packed_16 (by decide) ?_
  refine W.widen (k := 0) (n := 0) (by omega) (by omega) ?_
  exact W.iret (v := nI 0) hx hb hr (fun t ht hW => ⟨⟨nI 0, (va_up o 0 r, ad, ln, iv1), rfl, ⟨rfl, r, hq, rfl, rfl, rfl⟩, by show gAt D cA _ _ _ _ n _ t; unfold gAt; rw [ht]; exact ⟨hS.1, hS.2.1⟩⟩, hS.2.2.F ht⟩) hS.2.2.2.2 dL_packed_17
set_option maxHeartbeats 1000000 in
set_option maxRecDepth 100000 in
theorem hx_L_packed (l : Launch) (D : va_G) (cA : Nat → ClassId) (o : Nat → Int64) (ad ln : Nat → Nat) (n sz : Nat) (iv : Nat → Nat → Int32) (x1 x2 : Int32) (hn : 68 ≤ n) (hM : gMx l yX6_packed (wsX6_packed ++ atA) { frames := 8, cells := 1, slots := 6, locals := 116 } D cA o ad ln n sz iv [.ref (ad 0), .int x1, .int x2] RIA (nQl (gA cA o ad ln iv n sz))) : gMox l yL_packed (wsL_packed ++ atA) { frames := 14, cells := 1, slots := 6, locals := 240 } D cA o ad ln n sz iv [.ref (ad 0), .int x1, .int x2, .ref (ad 67)] 1 6 (gPreX D cA o ad ln iv n sz) (fun r o' ad' ln' iv' => r = nI 1 ∧ o = o' ∧ ad = ad' ∧ ln = ln' ∧ iv = iv') := by
  refine met_ofWH (cc := cL_packed) (maxL := 5) (ret := (some .int)) (by decide) rfl ?_
  intro p e s m args below meth c s₁ B hml htb hv
  obtain ⟨rfl, hv, hX⟩ := hv
  obtain ⟨hsz, hS, hK, hN, hA⟩ := gS.entry hv
  subst hsz
  have hx := B.exec
  have hb := B.bytes
  have hr := B.returns
  have hts0 := atoms_spec (ws := wsL_packed ++ atA) B.pre
  have hown : s.vm.findClass RL = some m.cls := findClass_of_methodNamed B.named
  have hl := lv_entry ([.ref (ad 0), .int x1, .int x2, .ref (ad 67)]) (n := 5) (Nat.le_of_ble_eq_true rfl)
  rw [lg_entry_eq]
  generalize (lg_sl ([.ref (ad 0), .int x1, .int x2, .ref (ad 67)]) ++ List.replicate (5 - (lg_sl ([.ref (ad 0), .int x1, .int x2, .ref (ad 67)])).length) Slot.unset).toArray = ls at hl ⊢
  have hl : lv_has ls 5 [(0, .ref (ad 0)), (1, .int x1), (2, .int x2), (3, .ref (ad 67))] := hl
  have hRf : 14 ≤ (headSpec (wsL_packed ++ atA) { frames := 14, cells := 1, slots := 6, locals := 240 }).room.frames := Nat.le_refl _
  have hRl : 240 ≤ (headSpec (wsL_packed ++ atA) { frames := 14, cells := 1, slots := 6, locals := 240 }).room.locals := Nat.le_refl _
  refine lv_aload_n hx hb dL_packed_0 rfl (lv_at hl 3 rfl) ?_
  refine lv_iconst (v := nI 0) hx hb dL_packed_1 (by decide) ?_
  refine lv_aload_n hx hb dL_packed_2 rfl (lv_at hl 0 rfl) ?_
  refine lv_iload_n hx hb dL_packed_3 rfl (lv_at hl 1 rfl) ?_
  refine lv_iload_n hx hb dL_packed_4 rfl (lv_at hl 2 rfl) ?_
  have hfree := hS.free hA
  refine vx_calll (vx_runV (As := [.int x1, .int x2]) (rest := [.int (nI 0), .ref (ad 67)]) ⟨hx, hb, hml, hown, hts0⟩ hM (cwV 2 hts0 (atA_inV gL_packed_X6_packed) rfl rfl rfl (by decide +kernel) ⟨gle hRf rfl, gle hRl rfl⟩) ⟨gPreX_blind, va_recv hK hS.1 (ci := 9) rfl (gw_at (by omega)), fun U hU hW => ⟨rfl, hS.preX hK hN hX hA hU hW⟩⟩ rfl rfl hl.1 rfl (lv_room (Nat.le_of_ble_eq_true rfl)) dL_packed_5 ⟨Nat.le_refl _, Nat.le_refl _⟩) hS.2.2 (fun q _ h => hfree q h) hfree (fun q _ h => hfree q h) (fun E ce q9 u t H1 locs1 ht hvm hpx hB hz hk hS1 hce hcv hcl => ?_) (fun r u t H1 locs1 ht hvm hw hB hz hk hS1 => hw.elim)
  obtain ⟨rfl, g1, g2⟩ := hB
  have hD : va_D (gA cA o ad ln iv n s.heap.size) (gw ad (gC cA o ad ln iv) n) := g2.weaken (fun _ _ _ h => hfree _ h)
  have hS : gS D cA (gA cA o ad ln iv n s.heap.size) s.heap o ad ln iv n H1 locs1 := ⟨by rw [← ht]; exact g1, hD, hS1⟩
  refine vx_catch (name := RIA) hown [] ⟨0, 9, 12, 18⟩ [] htb (fun z hz => by cases hz) rfl (by decide) (hts0 (.classLink RL 18 RIA) (List.mem_append_left _ (by decide +kernel))) (ng_use (Or.inr (by simp [ngI])) (hX.2.2.2.2.2.1 (.castable RIA RIA) (Or.inr (by simp [ngI])))) hce hcv hcl ?_
  refine lv_astore (lv' := [(4, .ref q9), (0, .ref (ad 0)), (1, .int x1), (2, .int x2), (3, .ref (ad 67))]) hx hb dL_packed_12 hl (by decide) rfl (fun ls hl => ?_)
  refine lv_iconst (v := nI 1) hx hb dL_packed_14 (by decide) ?_
  refine W.widen (k := 1) (n := 6) (by omega) (by omega) ?_
  exact W.iret (v := nI 1) hx hb hr (fun t ht hW => ⟨⟨nI 1, (o, ad, ln, iv), rfl, ⟨rfl, rfl, rfl, rfl, rfl⟩, by show gAt D cA _ _ _ _ n _ t; unfold gAt; rw [ht]; exact ⟨hS.1, hS.2.1⟩⟩, hS.2.2.F ht⟩) hS.2.2.2.2 dL_packed_15
set_option maxHeartbeats 1000000 in
set_option maxRecDepth 100000 in
theorem hk_L_turn (l : Launch) (D : va_G) (cA : Nat → ClassId) (o : Nat → Int64) (ad ln : Nat → Nat) (n sz : Nat) (iv : Nat → Nat → Int32) (x1 x2 x3 : Int32) {rm : Room} {mc ms : Nat} {post : Int32 → (Nat → Nat) → (Nat → Nat) → (Nat → Nat → Int32) → Prop} (hn : 68 ≤ n) (hrc : rm.cells = mc) (hrs : rm.slots = ms) (hrf : rm.frames + 1 ≤ 14) (hrl : 8 + (4 + 11) + rm.locals ≤ 240) (hM : gMix l yX6_turn wsX6_turn rm D cA o ad ln n sz iv [.ref (ad 0), .int x1, .int x2, .int x3] mc ms post) (hp : ∀ r ad' ln' iv', post r ad' ln' iv' → (r = 0 ∨ r = 1) ∧ ad' 67 = ad 67) : gMox l yL_turn wsL_turn { frames := 14, cells := mc, slots := ms, locals := 240 } D cA o ad ln n sz iv [.ref (ad 0), .int x1, .int x2, .int x3, .ref (ad 67)] mc ms (gPre D cA o ad ln iv n sz) (fun r o' ad' ln' iv' => r = nI 0 ∧ ∃ v, post v ad' ln' iv' ∧ o' = va_up o 0 (Int32.toInt64 v)) := by
  refine met_ofWH (cc := cL_turn) (maxL := 6) (ret := (some .int)) (by decide) rfl ?_
  intro p e s m args below meth c s₁ B hml htb hv
  obtain ⟨rfl, hv⟩ := hv
  obtain ⟨hsz, hS, hK, hN, hA⟩ := gS.entry hv
  subst hsz
  have hx := B.exec
  have hb := B.bytes
  have hr := B.returns
  have hts0 := atoms_spec (ws := wsL_turn) B.pre
  have hown : s.vm.findClass RL = some m.cls := findClass_of_methodNamed B.named
  have hl := lv_entry ([.ref (ad 0), .int x1, .int x2, .int x3, .ref (ad 67)]) (n := 6) (Nat.le_of_ble_eq_true rfl)
  rw [lg_entry_eq]
  generalize (lg_sl ([.ref (ad 0), .int x1, .int x2, .int x3, .ref (ad 67)]) ++ List.replicate (6 - (lg_sl ([.ref (ad 0), .int x1, .int x2, .int x3, .ref (ad 67)])).length) Slot.unset).toArray = ls at hl ⊢
  have hl : lv_has ls 6 [(0, .ref (ad 0)), (1, .int x1), (2, .int x2), (3, .int x3), (4, .ref (ad 67))] := hl
  refine lv_aload hx hb dL_turn_0 (lv_at hl 4 rfl) ?_
  refine lv_iconst (v := nI 0) hx hb dL_turn_2 (by decide) ?_
  refine lv_aload_n hx hb dL_turn_3 rfl (lv_at hl 0 rfl) ?_
  refine lv_iload_n hx hb dL_turn_4 rfl (lv_at hl 1 rfl) ?_
  refine lv_iload_n hx hb dL_turn_5 rfl (lv_at hl 2 rfl) ?_
  refine lv_iload_n hx hb dL_turn_6 rfl (lv_at hl 3 rfl) ?_
  refine gc_ixM hM (fun hM => (gx_runV (As := [.int x1, .int x2, .int x3]) (rest := [.int (nI 0), .ref (ad 67)]) ⟨hx, hb, hml, hown, hts0⟩ hK hN hS 0 (by omega) rfl rfl hM (cwV 3 hts0 gL_turn_X6_turn rfl hrc hrs (by decide +kernel) ⟨hrf, hrl⟩) rfl rfl hl.1 rfl (lv_room (Nat.le_of_ble_eq_true rfl)) dL_turn_7 ⟨by show 0 + mc ≤ mc; omega, by show 0 + ms ≤ ms; omega⟩)) hS hA (fun r ad1 ln1 iv1 H locs hq hS => ?_)
  obtain ⟨h01, e67⟩ := hp _ _ _ _ hq
  skip
  refine lv_if_eq (tgt := 17) hx hb dL_turn_10 (by decide) (fun c_1 => ?_) (fun c_1 => ?_)
  · skip
    refine lv_lconst (v := 0) hx hb dL_turn_17 (by decide) ?_
    refine gx_asl (y := Int32.toInt64 r) (by rw [c_1]; rfl) ?_
    refine gx_last hx hb hK hS hn e67.symm dL_turn_18 (fun H locs hS => ?_)
    refine lv_goto (tgt := 26) hx hb dL_turn_19 (by decide) ?_
    refine lv_iconst (v := nI 0) hx hb dL_turn_26 (by decide) ?_
    refine W.widen (k := mc) (n := ms) (by omega) (by omega) ?_
    exact W.iret (v := nI 0) hx hb hr (fun t ht hW => ⟨⟨nI 0, (va_up o 0 (Int32.toInt64 r), ad1, ln1, iv1), rfl, ⟨rfl, r, hq, rfl⟩, by show gAt D cA _ _ _ _ n _ t; unfold gAt; rw [ht]; exact ⟨hS.1, hS.2.1⟩⟩, hS.2.2.F ht⟩) hS.2.2.2.2 dL_turn_27
  · skip
    refine lv_lconst (v := 1) hx hb dL_turn_13 (by decide) ?_
    refine lv_goto (tgt := 18) hx hb dL_turn_14 (by decide) ?_
    refine gx_asl (y := Int32.toInt64 r) (by rw [h01.resolve_left c_1]; rfl) ?_
    refine gx_last hx hb hK hS hn e67.symm dL_turn_18 (fun H locs hS => ?_)
    refine lv_goto (tgt := 26) hx hb dL_turn_19 (by decide) ?_
    refine lv_iconst (v := nI 0) hx hb dL_turn_26 (by decide) ?_
    refine W.widen (k := mc) (n := ms) (by omega) (by omega) ?_
    exact W.iret (v := nI 0) hx hb hr (fun t ht hW => ⟨⟨nI 0, (va_up o 0 (Int32.toInt64 r), ad1, ln1, iv1), rfl, ⟨rfl, r, hq, rfl⟩, by show gAt D cA _ _ _ _ n _ t; unfold gAt; rw [ht]; exact ⟨hS.1, hS.2.1⟩⟩, hS.2.2.F ht⟩) hS.2.2.2.2 dL_turn_27
set_option maxHeartbeats 1000000 in
set_option maxRecDepth 100000 in
theorem hx_L_turn (l : Launch) (D : va_G) (cA : Nat → ClassId) (o : Nat → Int64) (ad ln : Nat → Nat) (n sz : Nat) (iv : Nat → Nat → Int32) (x1 x2 x3 : Int32) (hn : 68 ≤ n) (hM : gMx l yX6_turn (wsX6_turn ++ atA) { frames := 8, cells := 1, slots := 6, locals := 116 } D cA o ad ln n sz iv [.ref (ad 0), .int x1, .int x2, .int x3] RJx00060 (nQi (gA cA o ad ln iv n sz))) : gMox l yL_turn (wsL_turn ++ atA) { frames := 14, cells := 1, slots := 6, locals := 240 } D cA o ad ln n sz iv [.ref (ad 0), .int x1, .int x2, .int x3, .ref (ad 67)] 1 6 (gPreX D cA o ad ln iv n sz) (fun r o' ad' ln' iv' => r = nI 1 ∧ o = o' ∧ ad = ad' ∧ ln = ln' ∧ iv = iv') := by
  refine met_ofWH (cc := cL_turn) (maxL := 6) (ret := (some .int)) (by decide) rfl ?_
  intro p e s m args below meth c s₁ B hml htb hv
  obtain ⟨rfl, hv, hX⟩ := hv
  obtain ⟨hsz, hS, hK, hN, hA⟩ := gS.entry hv
  subst hsz
  have hx := B.exec
  have hb := B.bytes
  have hr := B.returns
  have hts0 := atoms_spec (ws := wsL_turn ++ atA) B.pre
  have hown : s.vm.findClass RL = some m.cls := findClass_of_methodNamed B.named
  have hl := lv_entry ([.ref (ad 0), .int x1, .int x2, .int x3, .ref (ad 67)]) (n := 6) (Nat.le_of_ble_eq_true rfl)
  rw [lg_entry_eq]
  generalize (lg_sl ([.ref (ad 0), .int x1, .int x2, .int x3, .ref (ad 67)]) ++ List.replicate (6 - (lg_sl ([.ref (ad 0), .int x1, .int x2, .int x3, .ref (ad 67)])).length) Slot.unset).toArray = ls at hl ⊢
  have hl : lv_has ls 6 [(0, .ref (ad 0)), (1, .int x1), (2, .int x2), (3, .int x3), (4, .ref (ad 67))] := hl
  have hRf : 14 ≤ (headSpec (wsL_turn ++ atA) { frames := 14, cells := 1, slots := 6, locals := 240 }).room.frames := Nat.le_refl _
  have hRl : 240 ≤ (headSpec (wsL_turn ++ atA) { frames := 14, cells := 1, slots := 6, locals := 240 }).room.locals := Nat.le_refl _
  refine lv_aload hx hb dL_turn_0 (lv_at hl 4 rfl) ?_
  refine lv_iconst (v := nI 0) hx hb dL_turn_2 (by decide) ?_
  refine lv_aload_n hx hb dL_turn_3 rfl (lv_at hl 0 rfl) ?_
  refine lv_iload_n hx hb dL_turn_4 rfl (lv_at hl 1 rfl) ?_
  refine lv_iload_n hx hb dL_turn_5 rfl (lv_at hl 2 rfl) ?_
  refine lv_iload_n hx hb dL_turn_6 rfl (lv_at hl 3 rfl) ?_
  have hfree := hS.free hA
  refine vx_calli (vx_runV (As := [.int x1, .int x2, .int x3]) (rest := [.int (nI 0), .ref (ad 67)]) ⟨hx, hb, hml, hown, hts0⟩ hM (cwV 3 hts0 (atA_inV gL_turn_X6_turn) rfl rfl rfl (by decide +kernel) ⟨gle hRf rfl, gle hRl rfl⟩) ⟨gPreX_blind, va_recv hK hS.1 (ci := 9) rfl (gw_at (by omega)), fun U hU hW => ⟨rfl, hS.preX hK hN hX hA hU hW⟩⟩ rfl rfl hl.1 rfl (lv_room (Nat.le_of_ble_eq_true rfl)) dL_turn_7 ⟨Nat.le_refl _, Nat.le_refl _⟩) hS.2.2 (fun q _ h => hfree q h) hfree (fun q _ h => hfree q h) (fun E ce q9 u t H1 locs1 ht hvm hpx hB hz hk hS1 hce hcv hcl => ?_) (fun r u t H1 locs1 ht hvm hw hB hz hk hS1 => hw.elim)
  obtain ⟨rfl, g1, g2⟩ := hB
  have hD : va_D (gA cA o ad ln iv n s.heap.size) (gw ad (gC cA o ad ln iv) n) := g2.weaken (fun _ _ _ h => hfree _ h)
  have hS : gS D cA (gA cA o ad ln iv n s.heap.size) s.heap o ad ln iv n H1 locs1 := ⟨by rw [← ht]; exact g1, hD, hS1⟩
  refine vx_catch (name := RJx00060) hown [] ⟨0, 19, 22, 13⟩ [] htb (fun z hz => by cases hz) rfl (by decide) (hts0 (.classLink RL 13 RJx00060) (List.mem_append_left _ (by decide +kernel))) (ng_use (Or.inl (by simp [ngA])) (hX.2.2.2.2.2.1 (.castable RJx00060 RJx00060) (Or.inl (by simp [ngA])))) hce hcv hcl ?_
  refine lv_astore (lv' := [(5, .ref q9), (0, .ref (ad 0)), (1, .int x1), (2, .int x2), (3, .int x3), (4, .ref (ad 67))]) hx hb dL_turn_22 hl (by decide) rfl (fun ls hl => ?_)
  refine lv_iconst (v := nI 1) hx hb dL_turn_24 (by decide) ?_
  refine W.widen (k := 1) (n := 6) (by omega) (by omega) ?_
  exact W.iret (v := nI 1) hx hb hr (fun t ht hW => ⟨⟨nI 1, (o, ad, ln, iv), rfl, ⟨rfl, rfl, rfl, rfl, rfl⟩, by show gAt D cA _ _ _ _ n _ t; unfold gAt; rw [ht]; exact ⟨hS.1, hS.2.1⟩⟩, hS.2.2.F ht⟩) hS.2.2.2.2 dL_turn_25
set_option maxHeartbeats 1000000 in
set_option maxRecDepth 100000 in
theorem hk_L_good (l : Launch) (D : va_G) (cA : Nat → ClassId) (o : Nat → Int64) (ad ln : Nat → Nat) (n sz : Nat) (iv : Nat → Nat → Int32) (x1 : Int32) {rm : Room} {mc ms : Nat} {post : Int32 → (Nat → Nat) → (Nat → Nat) → (Nat → Nat → Int32) → Prop} (hn : 68 ≤ n) (hrc : rm.cells = mc) (hrs : rm.slots = ms) (hrf : rm.frames + 1 ≤ 14) (hrl : 8 + (2 + 11) + rm.locals ≤ 240) (hM : gMix l yX6_good wsX6_good rm D cA o ad ln n sz iv [.ref (ad 0), .int x1] mc ms post) (hp : ∀ r ad' ln' iv', post r ad' ln' iv' → (r = 0 ∨ r = 1) ∧ ad' 67 = ad 67) : gMox l yL_good wsL_good { frames := 14, cells := mc, slots := ms, locals := 240 } D cA o ad ln n sz iv [.ref (ad 0), .int x1, .ref (ad 67)] mc ms (gPre D cA o ad ln iv n sz) (fun r o' ad' ln' iv' => r = nI 0 ∧ ∃ v, post v ad' ln' iv' ∧ o' = va_up o 0 (Int32.toInt64 v)) := by
  refine met_ofWH (cc := cL_good) (maxL := 4) (ret := (some .int)) (by decide) rfl ?_
  intro p e s m args below meth c s₁ B hml htb hv
  obtain ⟨rfl, hv⟩ := hv
  obtain ⟨hsz, hS, hK, hN, hA⟩ := gS.entry hv
  subst hsz
  have hx := B.exec
  have hb := B.bytes
  have hr := B.returns
  have hts0 := atoms_spec (ws := wsL_good) B.pre
  have hown : s.vm.findClass RL = some m.cls := findClass_of_methodNamed B.named
  have hl := lv_entry ([.ref (ad 0), .int x1, .ref (ad 67)]) (n := 4) (Nat.le_of_ble_eq_true rfl)
  rw [lg_entry_eq]
  generalize (lg_sl ([.ref (ad 0), .int x1, .ref (ad 67)]) ++ List.replicate (4 - (lg_sl ([.ref (ad 0), .int x1, .ref (ad 67)])).length) Slot.unset).toArray = ls at hl ⊢
  have hl : lv_has ls 4 [(0, .ref (ad 0)), (1, .int x1), (2, .ref (ad 67))] := hl
  refine lv_aload_n hx hb dL_good_0 rfl (lv_at hl 2 rfl) ?_
  refine lv_iconst (v := nI 0) hx hb dL_good_1 (by decide) ?_
  refine lv_aload_n hx hb dL_good_2 rfl (lv_at hl 0 rfl) ?_
  refine lv_iload_n hx hb dL_good_3 rfl (lv_at hl 1 rfl) ?_
  refine gc_ixM hM (fun hM => (gx_runV (As := [.int x1]) (rest := [.int (nI 0), .ref (ad 67)]) ⟨hx, hb, hml, hown, hts0⟩ hK hN hS 0 (by omega) rfl rfl hM (cwV 1 hts0 gL_good_X6_good rfl hrc hrs (by decide +kernel) ⟨hrf, hrl⟩) rfl rfl hl.1 rfl (lv_room (Nat.le_of_ble_eq_true rfl)) dL_good_4 ⟨by show 0 + mc ≤ mc; omega, by show 0 + ms ≤ ms; omega⟩)) hS hA (fun r ad1 ln1 iv1 H locs hq hS => ?_)
  obtain ⟨h01, e67⟩ := hp _ _ _ _ hq
  skip
  refine lv_if_eq (tgt := 14) hx hb dL_good_7 (by decide) (fun c_1 => ?_) (fun c_1 => ?_)
  · skip
    refine lv_lconst (v := 0) hx hb dL_good_14 (by decide) ?_
    refine gx_asl (y := Int32.toInt64 r) (by rw [c_1]; rfl) ?_
    refine gx_last hx hb hK hS hn e67.symm dL_good_15 (fun H locs hS => ?_)
    refine lv_goto (tgt := 22) hx hb dL_good_16 (by decide) ?_
    refine lv_iconst (v := nI 0) hx hb dL_good_22 (by decide) ?_
    refine W.widen (k := mc) (n := ms) (by omega) (by omega) ?_
    exact W.iret (v := nI 0) hx hb hr (fun t ht hW => ⟨⟨nI 0, (va_up o 0 (Int32.toInt64 r), ad1, ln1, iv1), rfl, ⟨rfl, r, hq, rfl⟩, by show gAt D cA _ _ _ _ n _ t; unfold gAt; rw [ht]; exact ⟨hS.1, hS.2.1⟩⟩, hS.2.2.F ht⟩) hS.2.2.2.2 dL_good_23
  · skip
    refine lv_lconst (v := 1) hx hb dL_good_10 (by decide) ?_
    refine lv_goto (tgt := 15) hx hb dL_good_11 (by decide) ?_
    refine gx_asl (y := Int32.toInt64 r) (by rw [h01.resolve_left c_1]; rfl) ?_
    refine gx_last hx hb hK hS hn e67.symm dL_good_15 (fun H locs hS => ?_)
    refine lv_goto (tgt := 22) hx hb dL_good_16 (by decide) ?_
    refine lv_iconst (v := nI 0) hx hb dL_good_22 (by decide) ?_
    refine W.widen (k := mc) (n := ms) (by omega) (by omega) ?_
    exact W.iret (v := nI 0) hx hb hr (fun t ht hW => ⟨⟨nI 0, (va_up o 0 (Int32.toInt64 r), ad1, ln1, iv1), rfl, ⟨rfl, r, hq, rfl⟩, by show gAt D cA _ _ _ _ n _ t; unfold gAt; rw [ht]; exact ⟨hS.1, hS.2.1⟩⟩, hS.2.2.F ht⟩) hS.2.2.2.2 dL_good_23
set_option maxHeartbeats 1000000 in
set_option maxRecDepth 100000 in
theorem hx_L_good (l : Launch) (D : va_G) (cA : Nat → ClassId) (o : Nat → Int64) (ad ln : Nat → Nat) (n sz : Nat) (iv : Nat → Nat → Int32) (x1 : Int32) (hn : 68 ≤ n) (hM : gMx l yX6_good (wsX6_good ++ atA) { frames := 8, cells := 1, slots := 6, locals := 116 } D cA o ad ln n sz iv [.ref (ad 0), .int x1] RJx00060 (nQi (gA cA o ad ln iv n sz))) : gMox l yL_good (wsL_good ++ atA) { frames := 14, cells := 1, slots := 6, locals := 240 } D cA o ad ln n sz iv [.ref (ad 0), .int x1, .ref (ad 67)] 1 6 (gPreX D cA o ad ln iv n sz) (fun r o' ad' ln' iv' => r = nI 1 ∧ o = o' ∧ ad = ad' ∧ ln = ln' ∧ iv = iv') := by
  refine met_ofWH (cc := cL_good) (maxL := 4) (ret := (some .int)) (by decide) rfl ?_
  intro p e s m args below meth c s₁ B hml htb hv
  obtain ⟨rfl, hv, hX⟩ := hv
  obtain ⟨hsz, hS, hK, hN, hA⟩ := gS.entry hv
  subst hsz
  have hx := B.exec
  have hb := B.bytes
  have hr := B.returns
  have hts0 := atoms_spec (ws := wsL_good ++ atA) B.pre
  have hown : s.vm.findClass RL = some m.cls := findClass_of_methodNamed B.named
  have hl := lv_entry ([.ref (ad 0), .int x1, .ref (ad 67)]) (n := 4) (Nat.le_of_ble_eq_true rfl)
  rw [lg_entry_eq]
  generalize (lg_sl ([.ref (ad 0), .int x1, .ref (ad 67)]) ++ List.replicate (4 - (lg_sl ([.ref (ad 0), .int x1, .ref (ad 67)])).length) Slot.unset).toArray = ls at hl ⊢
  have hl : lv_has ls 4 [(0, .ref (ad 0)), (1, .int x1), (2, .ref (ad 67))] := hl
  have hRf : 14 ≤ (headSpec (wsL_good ++ atA) { frames := 14, cells := 1, slots := 6, locals := 240 }).room.frames := Nat.le_refl _
  have hRl : 240 ≤ (headSpec (wsL_good ++ atA) { frames := 14, cells := 1, slots := 6, locals := 240 }).room.locals := Nat.le_refl _
  refine lv_aload_n hx hb dL_good_0 rfl (lv_at hl 2 rfl) ?_
  refine lv_iconst (v := nI 0) hx hb dL_good_1 (by decide) ?_
  refine lv_aload_n hx hb dL_good_2 rfl (lv_at hl 0 rfl) ?_
  refine lv_iload_n hx hb dL_good_3 rfl (lv_at hl 1 rfl) ?_
  have hfree := hS.free hA
  refine vx_calli (vx_runV (As := [.int x1]) (rest := [.int (nI 0), .ref (ad 67)]) ⟨hx, hb, hml, hown, hts0⟩ hM (cwV 1 hts0 (atA_inV gL_good_X6_good) rfl rfl rfl (by decide +kernel) ⟨gle hRf rfl, gle hRl rfl⟩) ⟨gPreX_blind, va_recv hK hS.1 (ci := 9) rfl (gw_at (by omega)), fun U hU hW => ⟨rfl, hS.preX hK hN hX hA hU hW⟩⟩ rfl rfl hl.1 rfl (lv_room (Nat.le_of_ble_eq_true rfl)) dL_good_4 ⟨Nat.le_refl _, Nat.le_refl _⟩) hS.2.2 (fun q _ h => hfree q h) hfree (fun q _ h => hfree q h) (fun E ce q9 u t H1 locs1 ht hvm hpx hB hz hk hS1 hce hcv hcl => ?_) (fun r u t H1 locs1 ht hvm hw hB hz hk hS1 => hw.elim)
  obtain ⟨rfl, g1, g2⟩ := hB
  have hD : va_D (gA cA o ad ln iv n s.heap.size) (gw ad (gC cA o ad ln iv) n) := g2.weaken (fun _ _ _ h => hfree _ h)
  have hS : gS D cA (gA cA o ad ln iv n s.heap.size) s.heap o ad ln iv n H1 locs1 := ⟨by rw [← ht]; exact g1, hD, hS1⟩
  refine vx_catch (name := RJx00060) hown [] ⟨0, 16, 19, 13⟩ [] htb (fun z hz => by cases hz) rfl (by decide) (hts0 (.classLink RL 13 RJx00060) (List.mem_append_left _ (by decide +kernel))) (ng_use (Or.inl (by simp [ngA])) (hX.2.2.2.2.2.1 (.castable RJx00060 RJx00060) (Or.inl (by simp [ngA])))) hce hcv hcl ?_
  refine lv_astore_n (lv' := [(3, .ref q9), (0, .ref (ad 0)), (1, .int x1), (2, .ref (ad 67))]) hx hb dL_good_19 rfl hl (by decide) rfl (fun ls hl => ?_)
  refine lv_iconst (v := nI 1) hx hb dL_good_20 (by decide) ?_
  refine W.widen (k := 1) (n := 6) (by omega) (by omega) ?_
  exact W.iret (v := nI 1) hx hb hr (fun t ht hW => ⟨⟨nI 1, (o, ad, ln, iv), rfl, ⟨rfl, rfl, rfl, rfl, rfl⟩, by show gAt D cA _ _ _ _ n _ t; unfold gAt; rw [ht]; exact ⟨hS.1, hS.2.1⟩⟩, hS.2.2.F ht⟩) hS.2.2.2.2 dL_good_21
set_option maxHeartbeats 1000000 in
set_option maxRecDepth 100000 in
theorem hk_L_least (l : Launch) (D : va_G) (cA : Nat → ClassId) (o : Nat → Int64) (ad ln : Nat → Nat) (n sz : Nat) (iv : Nat → Nat → Int32) (x1 : Int32) {rm : Room} {mc ms : Nat} {post : Int32 → (Nat → Nat) → (Nat → Nat) → (Nat → Nat → Int32) → Prop} (hn : 68 ≤ n) (hrc : rm.cells = mc) (hrs : rm.slots = ms) (hrf : rm.frames + 1 ≤ 14) (hrl : 8 + (2 + 11) + rm.locals ≤ 240) (hM : gMix l yX6_least wsX6_least rm D cA o ad ln n sz iv [.ref (ad 0), .int x1] mc ms post) (hp : ∀ r ad' ln' iv', post r ad' ln' iv' → ad' 67 = ad 67) : gMox l yL_least wsL_least { frames := 14, cells := mc, slots := ms, locals := 240 } D cA o ad ln n sz iv [.ref (ad 0), .int x1, .ref (ad 67)] mc ms (gPre D cA o ad ln iv n sz) (fun r o' ad' ln' iv' => r = nI 0 ∧ ∃ v, post v ad' ln' iv' ∧ o' = va_up o 0 (Int32.toInt64 v)) := by
  refine met_ofWH (cc := cL_least) (maxL := 4) (ret := (some .int)) (by decide) rfl ?_
  intro p e s m args below meth c s₁ B hml htb hv
  obtain ⟨rfl, hv⟩ := hv
  obtain ⟨hsz, hS, hK, hN, hA⟩ := gS.entry hv
  subst hsz
  have hx := B.exec
  have hb := B.bytes
  have hr := B.returns
  have hts0 := atoms_spec (ws := wsL_least) B.pre
  have hown : s.vm.findClass RL = some m.cls := findClass_of_methodNamed B.named
  have hl := lv_entry ([.ref (ad 0), .int x1, .ref (ad 67)]) (n := 4) (Nat.le_of_ble_eq_true rfl)
  rw [lg_entry_eq]
  generalize (lg_sl ([.ref (ad 0), .int x1, .ref (ad 67)]) ++ List.replicate (4 - (lg_sl ([.ref (ad 0), .int x1, .ref (ad 67)])).length) Slot.unset).toArray = ls at hl ⊢
  have hl : lv_has ls 4 [(0, .ref (ad 0)), (1, .int x1), (2, .ref (ad 67))] := hl
  refine lv_aload_n hx hb dL_least_0 rfl (lv_at hl 2 rfl) ?_
  refine lv_iconst (v := nI 0) hx hb dL_least_1 (by decide) ?_
  refine lv_aload_n hx hb dL_least_2 rfl (lv_at hl 0 rfl) ?_
  refine lv_iload_n hx hb dL_least_3 rfl (lv_at hl 1 rfl) ?_
  refine gc_ixM hM (fun hM => (gx_runV (As := [.int x1]) (rest := [.int (nI 0), .ref (ad 67)]) ⟨hx, hb, hml, hown, hts0⟩ hK hN hS 0 (by omega) rfl rfl hM (cwV 1 hts0 gL_least_X6_least rfl hrc hrs (by decide +kernel) ⟨hrf, hrl⟩) rfl rfl hl.1 rfl (lv_room (Nat.le_of_ble_eq_true rfl)) dL_least_4 ⟨by show 0 + mc ≤ mc; omega, by show 0 + ms ≤ ms; omega⟩)) hS hA (fun r ad1 ln1 iv1 H locs hq hS => ?_)
  obtain e67 := hp _ _ _ _ hq
  refine lv_i2l hx hb dL_least_7 rfl ?_
  refine gx_last hx hb hK hS hn e67.symm dL_least_8 (fun H locs hS => ?_)
  refine lv_goto (tgt := 15) hx hb dL_least_9 (by decide) ?_
  refine lv_iconst (v := nI 0) hx hb dL_least_15 (by decide) ?_
  refine W.widen (k := mc) (n := ms) (by omega) (by omega) ?_
  exact W.iret (v := nI 0) hx hb hr (fun t ht hW => ⟨⟨nI 0, (va_up o 0 (Int32.toInt64 r), ad1, ln1, iv1), rfl, ⟨rfl, r, hq, rfl⟩, by show gAt D cA _ _ _ _ n _ t; unfold gAt; rw [ht]; exact ⟨hS.1, hS.2.1⟩⟩, hS.2.2.F ht⟩) hS.2.2.2.2 dL_least_16
set_option maxHeartbeats 1000000 in
set_option maxRecDepth 100000 in
theorem hx_L_least (l : Launch) (D : va_G) (cA : Nat → ClassId) (o : Nat → Int64) (ad ln : Nat → Nat) (n sz : Nat) (iv : Nat → Nat → Int32) (x1 : Int32) (hn : 68 ≤ n) (hM : gMx l yX6_least (wsX6_least ++ atA) { frames := 8, cells := 1, slots := 6, locals := 116 } D cA o ad ln n sz iv [.ref (ad 0), .int x1] RJx00060 (nQi (gA cA o ad ln iv n sz))) : gMox l yL_least (wsL_least ++ atA) { frames := 14, cells := 1, slots := 6, locals := 240 } D cA o ad ln n sz iv [.ref (ad 0), .int x1, .ref (ad 67)] 1 6 (gPreX D cA o ad ln iv n sz) (fun r o' ad' ln' iv' => r = nI 1 ∧ o = o' ∧ ad = ad' ∧ ln = ln' ∧ iv = iv') := by
  refine met_ofWH (cc := cL_least) (maxL := 4) (ret := (some .int)) (by decide) rfl ?_
  intro p e s m args below meth c s₁ B hml htb hv
  obtain ⟨rfl, hv, hX⟩ := hv
  obtain ⟨hsz, hS, hK, hN, hA⟩ := gS.entry hv
  subst hsz
  have hx := B.exec
  have hb := B.bytes
  have hr := B.returns
  have hts0 := atoms_spec (ws := wsL_least ++ atA) B.pre
  have hown : s.vm.findClass RL = some m.cls := findClass_of_methodNamed B.named
  have hl := lv_entry ([.ref (ad 0), .int x1, .ref (ad 67)]) (n := 4) (Nat.le_of_ble_eq_true rfl)
  rw [lg_entry_eq]
  generalize (lg_sl ([.ref (ad 0), .int x1, .ref (ad 67)]) ++ List.replicate (4 - (lg_sl ([.ref (ad 0), .int x1, .ref (ad 67)])).length) Slot.unset).toArray = ls at hl ⊢
  have hl : lv_has ls 4 [(0, .ref (ad 0)), (1, .int x1), (2, .ref (ad 67))] := hl
  have hRf : 14 ≤ (headSpec (wsL_least ++ atA) { frames := 14, cells := 1, slots := 6, locals := 240 }).room.frames := Nat.le_refl _
  have hRl : 240 ≤ (headSpec (wsL_least ++ atA) { frames := 14, cells := 1, slots := 6, locals := 240 }).room.locals := Nat.le_refl _
  refine lv_aload_n hx hb dL_least_0 rfl (lv_at hl 2 rfl) ?_
  refine lv_iconst (v := nI 0) hx hb dL_least_1 (by decide) ?_
  refine lv_aload_n hx hb dL_least_2 rfl (lv_at hl 0 rfl) ?_
  refine lv_iload_n hx hb dL_least_3 rfl (lv_at hl 1 rfl) ?_
  have hfree := hS.free hA
  refine vx_calli (vx_runV (As := [.int x1]) (rest := [.int (nI 0), .ref (ad 67)]) ⟨hx, hb, hml, hown, hts0⟩ hM (cwV 1 hts0 (atA_inV gL_least_X6_least) rfl rfl rfl (by decide +kernel) ⟨gle hRf rfl, gle hRl rfl⟩) ⟨gPreX_blind, va_recv hK hS.1 (ci := 9) rfl (gw_at (by omega)), fun U hU hW => ⟨rfl, hS.preX hK hN hX hA hU hW⟩⟩ rfl rfl hl.1 rfl (lv_room (Nat.le_of_ble_eq_true rfl)) dL_least_4 ⟨Nat.le_refl _, Nat.le_refl _⟩) hS.2.2 (fun q _ h => hfree q h) hfree (fun q _ h => hfree q h) (fun E ce q9 u t H1 locs1 ht hvm hpx hB hz hk hS1 hce hcv hcl => ?_) (fun r u t H1 locs1 ht hvm hw hB hz hk hS1 => hw.elim)
  obtain ⟨rfl, g1, g2⟩ := hB
  have hD : va_D (gA cA o ad ln iv n s.heap.size) (gw ad (gC cA o ad ln iv) n) := g2.weaken (fun _ _ _ h => hfree _ h)
  have hS : gS D cA (gA cA o ad ln iv n s.heap.size) s.heap o ad ln iv n H1 locs1 := ⟨by rw [← ht]; exact g1, hD, hS1⟩
  refine vx_catch (name := RJx00060) hown [] ⟨0, 9, 12, 13⟩ [] htb (fun z hz => by cases hz) rfl (by decide) (hts0 (.classLink RL 13 RJx00060) (List.mem_append_left _ (by decide +kernel))) (ng_use (Or.inl (by simp [ngA])) (hX.2.2.2.2.2.1 (.castable RJx00060 RJx00060) (Or.inl (by simp [ngA])))) hce hcv hcl ?_
  refine lv_astore_n (lv' := [(3, .ref q9), (0, .ref (ad 0)), (1, .int x1), (2, .ref (ad 67))]) hx hb dL_least_12 rfl hl (by decide) rfl (fun ls hl => ?_)
  refine lv_iconst (v := nI 1) hx hb dL_least_13 (by decide) ?_
  refine W.widen (k := 1) (n := 6) (by omega) (by omega) ?_
  exact W.iret (v := nI 1) hx hb hr (fun t ht hW => ⟨⟨nI 1, (o, ad, ln, iv), rfl, ⟨rfl, rfl, rfl, rfl, rfl⟩, by show gAt D cA _ _ _ _ n _ t; unfold gAt; rw [ht]; exact ⟨hS.1, hS.2.1⟩⟩, hS.2.2.F ht⟩) hS.2.2.2.2 dL_least_14
