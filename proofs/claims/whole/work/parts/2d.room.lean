/-- how many cells, how many places a row costs that must hold L -/
def al (x L : Nat) : Nat := if L ≤ x then 0 else 1
def als (x L : Nat) : Nat := if L ≤ x then 0 else L
/-- behind roomFor: the same row, or a new one behind the world -/
def gRm (D : va_G) (cA : Nat → ClassId) (A : Nat → Prop) (o : Nat → Int64) (ad ln : Nat → Nat) (iv : Nat → Nat → Int32) (n k L : Nat) (_ : Unit) (a : Nat) (t : State) : Prop :=
  (L ≤ ln k ∧ a = ad k ∧ gAt D cA A o ad ln n iv t) ∨ (¬ L ≤ ln k ∧ gAt D cA A o (va_up ad n a) (va_up ln n L) (n + 1) (va_up iv n (fun _ => 0)) t)
set_option maxHeartbeats 400000 in
set_option maxRecDepth 100000 in
theorem ct_X6_roomFor (l : Launch) (D : va_G) (cA : Nat → ClassId) (o : Nat → Int64) (ad ln : Nat → Nat) (n sz : Nat) (iv : Nat → Nat → Int32) {k L : Nat} (hn : 68 ≤ n) (hln : ∀ k, ln k < 2 ^ 31) (hk : k < n) (hkI : isI k = true) (hL : L ≤ 2 ^ 20) :
    Met l yX6_roomFor wsX6_roomFor { frames := 0, cells := al (ln k) L, slots := als (ln k) L, locals := 0 } (va_Pc [.ref (ad k), .int (nI L)] (gPre D cA o ad ln iv n sz)) (va_Qr (fun _ : Unit => True) (gRm D cA (gA cA o ad ln iv n sz) o ad ln iv n k L) (gA cA o ad ln iv n sz)) (al (ln k) L) (als (ln k) L) (gA cA o ad ln iv n sz) := by
  by_cases hc : L ≤ ln k
  · have e1 : al (ln k) L = 0 := if_pos hc
    have e2 : als (ln k) L = 0 := if_pos hc
    rw [e1, e2]
    refine Met.ofW (cc := cX6_roomFor) (maxL := 2) (ret := (some (.array .int))) (by decide) rfl ?_
    intro p e s m args below meth c s₁ B hml hv
    obtain ⟨rfl, hv⟩ := hv
    obtain ⟨hsz, hS, hK, hN, hA⟩ := gS.entry hv
    have hx := B.exec
    have hb := B.bytes
    have hts := atoms_spec (ws := wsX6_roomFor) B.pre
    have hl := lv_entry ([.ref (ad k), .int (nI L)]) (n := 2) (Nat.le_of_ble_eq_true rfl)
    rw [lg_entry_eq]
    generalize (lg_sl ([.ref (ad k), .int (nI L)]) ++ List.replicate (2 - (lg_sl ([.ref (ad k), .int (nI L)])).length) Slot.unset).toArray = ls at hl ⊢
    have hl : lv_has ls 2 [(0, .ref (ad k)), (1, .int (nI L))] := hl
    have hlk := hln k
    refine lv_aload_n hx hb dX6_roomFor_0 rfl (lv_at hl 0 rfl) ?_
    refine gx_alen hx hb hK hS k hk hkI dX6_roomFor_1 ?_
    refine lv_iload_n hx hb dX6_roomFor_2 rfl (lv_at hl 1 rfl) ?_
    refine lv_icmp_lt (tgt := 10) hx hb dX6_roomFor_3 (by decide) (fun c_3 => ?_) (fun c_3 => ?_)
    · rw [nI_ltI (by omega) (by omega)] at c_3
      omega
    · refine lv_aload_n hx hb dX6_roomFor_6 rfl (lv_at hl 0 rfl) ?_
      refine lv_goto (tgt := 13) hx hb dX6_roomFor_7 (by decide) ?_
      exact W.aret (v := .ref (ad k)) hx hb B.returns (Or.inr ⟨_, rfl⟩) (Or.inr ⟨_, rfl⟩) (fun t ht hW => ⟨⟨(), ad k, rfl, trivial, Or.inl ⟨hc, rfl, by unfold gAt; rw [ht]; exact ⟨hS.1, hS.2.1⟩⟩⟩, hS.2.2.F ht⟩) hS.2.2.2.2 dX6_roomFor_13
  · have e1 : al (ln k) L = 1 := if_neg hc
    have e2 : als (ln k) L = L := if_neg hc
    rw [e1, e2]
    refine Met.ofW (cc := cX6_roomFor) (maxL := 2) (ret := (some (.array .int))) (by decide) rfl ?_
    intro p e s m args below meth c s₁ B hml hv
    obtain ⟨rfl, hv⟩ := hv
    obtain ⟨hsz, hS, hK, hN, hA⟩ := gS.entry hv
    have hx := B.exec
    have hb := B.bytes
    have hts := atoms_spec (ws := wsX6_roomFor) B.pre
    have hl := lv_entry ([.ref (ad k), .int (nI L)]) (n := 2) (Nat.le_of_ble_eq_true rfl)
    rw [lg_entry_eq]
    generalize (lg_sl ([.ref (ad k), .int (nI L)]) ++ List.replicate (2 - (lg_sl ([.ref (ad k), .int (nI L)])).length) Slot.unset).toArray = ls at hl ⊢
    have hl : lv_has ls 2 [(0, .ref (ad k)), (1, .int (nI L))] := hl
    have hlk := hln k
    refine lv_aload_n hx hb dX6_roomFor_0 rfl (lv_at hl 0 rfl) ?_
    refine gx_alen hx hb hK hS k hk hkI dX6_roomFor_1 ?_
    refine lv_iload_n hx hb dX6_roomFor_2 rfl (lv_at hl 1 rfl) ?_
    refine lv_icmp_lt (tgt := 10) hx hb dX6_roomFor_3 (by decide) (fun c_3 => ?_) (fun c_3 => ?_)
    · refine lv_iload_n hx hb dX6_roomFor_10 rfl (lv_at hl 1 rfl) ?_
      refine va_newa (atype := .int) (n := nI L) (ty := .int) (N' := L) (a0 := (L, .inl (fun _ => 0))) hx hb (hts (.arrayClass .int) (by decide +kernel)) rfl hK hS.1 hS.2.1 hS.2.2 hA (fun _ => rfl) (nI_pos (by omega)) (nI_clamp (by omega)) (by show L * 4 ≤ 536870912; omega) (Nat.le_refl _) (by show 0 + L ≤ L; omega) dX6_roomFor_11 (fun q cN H1 hK1 hP1 hD1 hS1 => ?_)
      have f1 : s.vm.findClass "[I" = some cN := va_nm_int (hK1.2 5 (cN, .int) rfl).2
      have f2 : s.vm.findClass "[I" = some (cA 0) := va_nm_int (hK.2 0 (cA 0, .int) rfl).2
      have ec : cN = cA 0 := Option.some.inj (f1.symm.trans f2)
      subst ec
      rw [gw_new hn] at hP1 hD1
      refine W.eq (g2 := F0 m 13 ls [.ref q]) rfl ?_
      refine W.widen (k := 1) (n := L) (Nat.le_refl _) (by omega) ?_
      exact W.aret (v := .ref q) hx hb B.returns (Or.inr ⟨_, rfl⟩) (Or.inr ⟨_, rfl⟩) (fun t ht hW => ⟨⟨(), q, rfl, trivial, Or.inr ⟨hc, by unfold gAt; rw [ht]; exact ⟨hP1, hD1⟩⟩⟩, hS1.F ht⟩) hS1.2.2 dX6_roomFor_13
    · rw [nI_ltI (by omega) (by omega)] at c_3
      omega
theorem va_up_id {α : Type} (f : Nat → α) (k : Nat) : va_up f k (f k) = f := by
  funext i
  unfold va_up
  by_cases e : i = k
  · subst e; simp
  · simp [e]
set_option maxHeartbeats 1000000 in
/-- an object's row, made anew if it is too short: roomFor, and the field gets its answer -/
theorem gx_room {p : Program} {l : Launch} {e : Env} {R : Room} {s : State} {m : MethodId} {args : Array Value} {below : List Frame} {meth : Method} {c : Code} {H : Heap} {locs : List Loc} {cells slots : Nat} {Q : State → Prop} {cc : ByteArray} {pc : Nat} {ls : Array Slot} {rest : List Value} {D : va_G} {A : Nat → Prop} {H0 : Heap} {cA : Nat → ClassId} {o : Nat → Int64} {ad ln : Nat → Nat} {iv : Nat → Nat → Int32} {n : Nat}
    {Ts : List Cond} {own host C : String} {T : u_T} {index idx2 nL N ci j obj k L : Nat} {fs : List Value}
    (Sf : CallFix p m c cc nL s args Ts own) (hK : va_K D vwCl (gT cA) s) (hN : NW s) (hA : ∀ q, H0.size ≤ q → A q) (hn : 68 ≤ n) (hln : ∀ k, ln k < 2 ^ 31) (hS : gS D cA A H0 o ad ln iv n H locs) (hr : isRe obj k = true) (hL : L ≤ 2 ^ 20)
    (he : sch cA o ad obj (ln obj) (iv obj) = .inr (ci, fs)) (he2 : ∀ a, sch cA o (va_up ad k a) obj (ln obj) (iv obj) = .inr (ci, fs.set j (.ref a))) (hc : vwCl[ci]? = some (C, T, N)) (hj : j < N) (hl : j < fs.length)
    (hin : ∀ w ∈ u_ws C T N, w ∈ Ts) (ty0 : Nat → FieldType) (hty : ∀ k, k < N → parseFieldDescriptor (T k).2.2.1 = some (ty0 k)) (hnm : ∀ a, a < N → ∀ b, b < N → a ≠ b → (T a).2.1 ≠ (T b).2.1) (hlink : (Cond.fieldLink own idx2 (T j).1 (T j).2.1 (T j).2.2.1).before args s = true) (hfin : (T j).2.2.2 = false) (hd : parseFieldDescriptor (T j).2.2.1 = some (.array .int))
    (cw : va_CN R s args own index yX6_roomFor host cX6_roomFor 2 (some (.array .int)) wsX6_roomFor { frames := 0, cells := al (ln k) L, slots := als (ln k) L, locals := 0 } (al (ln k) L) (als (ln k) L) 2 ∧ (Cond.static yX6_roomFor).before args s = true ∧ True)
    (hsz : ls.size = nL) (hW : 2 * (F0 m pc ls (.int (nI L) :: .ref (ad k) :: .ref (ad obj) :: rest)).monitorRoom + ((Value.ref (ad obj) :: rest).map fun v => v.category).sum ≤ 8) (hd1 : decode cc pc = .ok (.invokestatic index, 3)) (hd2 : decode cc (pc + 3) = .ok (.putfield idx2, 3)) (hf : cells + al (ln k) L ≤ R.cells ∧ slots + als (ln k) L ≤ R.slots)
    (kk : ∀ (ad2 ln2 : Nat → Nat) (iv2 : Nat → Nat → Int32) (H1 : Heap) (locs1 : List Loc), (∀ i, i ≠ k → ad2 i = ad i) → (∀ i, i ≠ k → ln2 i = ln i) → (∀ i, i ≠ k → iv2 i = iv i) → ln2 k = max (ln k) L → gS D cA A H0 o ad2 ln2 iv2 n H1 locs1 → W p l e R s m args below meth c H1 locs1 (cells + al (ln k) L) (slots + als (ln k) L) Q (F0 m (pc + 6) ls rest)) :
    W p l e R s m args below meth c H locs cells slots Q (F0 m pc ls (.int (nI L) :: .ref (ad k) :: .ref (ad obj) :: rest)) := by
  have hk := isRe_in hr
  have hkI : isI k = true := by
    rcases hk with ⟨_, rfl | rfl | rfl⟩ | ⟨_, rfl | rfl⟩ | ⟨_, rfl | rfl | rfl⟩ <;> rfl
  obtain ⟨hx, hb, hml, hown, hts⟩ := id Sf
  refine va_callr (gx_runSN (As := [.ref (ad k), .int (nI L)]) (rest := .ref (ad obj) :: rest) Sf hK hN hS (ct_X6_roomFor l D cA o ad ln n H.size iv hn hln (by omega) hkI hL) cw rfl rfl hsz rfl hW hd1 hf) hS.2.2 (fun q _ h => hS.free hA q h) (hS.free hA) (fun u ra t H1 locs1 ht hvm hw hB hz hk1 hS1 => ?_)
  rcases hB with ⟨hle, rfl, hP1, hD1⟩ | ⟨hle, hP1, hD1⟩
  · rw [ht] at hP1
    have hD1 := hD1.weaken (B := A) (fun _ _ _ h => hS.free hA _ h)
    refine va_put (v := .ref (ad k)) hx hb hts hin ty0 hty hnm hown hK hP1 hD1 hS1 obj ((gw_at (by omega)).trans (congrArg (fun z => some (ad obj, z)) he)) hc j hj hlink (fun _ h => h) hfin hd rfl rfl hl hd2 (fun H2 locs2 h1 h2 h3 => ?_)
    have e : (Sum.inr (ci, fs.set j (.ref (ad k))) : va_E) = sch cA o ad obj (ln obj) (iv obj) := by rw [← he2, va_up_id]
    rw [gw_set, e, gC_up, va_up_id] at h1 h2
    exact kk ad ln iv H2 locs2 (fun _ _ => rfl) (fun _ _ => rfl) (fun _ _ => rfl) (by omega) ⟨h1, h2, h3⟩
  · rw [ht] at hP1
    have hD1 := hD1.weaken (B := A) (fun _ _ _ h => hS.free hA _ h)
    have hat : (gw (va_up ad n ra) (gC cA o (va_up ad n ra) (va_up ln n L) (va_up iv n (fun _ => 0))) (n + 1))[obj]? = some (ad obj, .inr (ci, fs)) := by
      rw [gw_at (by omega)]
      simp only [gC]
      rw [va_up_ne _ _ (show obj ≠ n by omega), va_up_ne _ _ (show obj ≠ n by omega), va_up_ne _ _ (show obj ≠ n by omega), sch_ad (ad := ad) (fun j hj => va_up_ne _ _ (by omega)), he]
    refine va_put (v := .ref ra) hx hb hts hin ty0 hty hnm hown hK hP1 hD1 hS1 obj hat hc j hj hlink (fun _ h => h) hfin hd rfl rfl hl hd2 (fun H2 locs2 h1 h2 h3 => ?_)
    rw [← he2 ra] at h1 h2
    obtain ⟨g1, g2⟩ := gw_take hn hr h1 h2
    exact kk (va_up ad k ra) (va_up ln k L) (va_up iv k (fun _ => 0)) H2 locs2 (fun i hi => va_up_ne _ _ hi) (fun i hi => va_up_ne _ _ hi) (fun i hi => va_up_ne _ _ hi) (by rw [va_up_self]; omega) ⟨g1, g2, h3⟩
