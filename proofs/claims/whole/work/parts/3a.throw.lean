/-! what is thrown: the texts, the two statics of Throwable, the words of the throw -/
abbrev nmA : List String := ["java/lang/IndexOutOfBoundsException", "java/lang/RuntimeException", "java/lang/Exception"]
abbrev nmI : List String := ["java/lang/RuntimeException", "java/lang/Exception"]
abbrev RIA : String := "java/lang/IllegalArgumentException"
def atA : List Cond := (vx_atS RX6 236 RJx00060 nmA).filter goodWord
theorem atA_good : ∀ w ∈ atA, goodWord w = true := fun w hw => (List.mem_filter.mp hw).2
theorem atA_tbl : ∀ w ∈ atA, w ∈ tables_1 := by decide +kernel
abbrev iS (X : String) : MethodName := Bundle.initS X
abbrev ngA : List Cond := [.castable RJx00060 RJx00060, .declares (Bundle.initS "java/lang/IndexOutOfBoundsException"), .declares (Bundle.initS "java/lang/RuntimeException"), .declares (Bundle.initS "java/lang/Exception"), .declares (Bundle.initS Bundle.tN)]
abbrev ngI : List Cond := [.castable RIA RIA, .declares (Bundle.initS "java/lang/RuntimeException"), .declares (Bundle.initS "java/lang/Exception"), .declares (Bundle.initS Bundle.tN)]
theorem ng_warm {w : Cond} {s U : State} (hw : w ∈ ngA ∨ w ∈ ngI) (hW : s.WarmedH U.vm) (h : va_Nw w s) : va_Nw w U := by
  have key : (∃ a b, w = .castable a b) ∨ ∃ y, w = .declares y := by
    rcases hw with hw | hw <;> simp only [List.mem_cons, List.not_mem_nil, or_false] at hw
    · rcases hw with rfl | rfl | rfl | rfl | rfl
      · exact Or.inl ⟨_, _, rfl⟩
      all_goals exact Or.inr ⟨_, rfl⟩
    · rcases hw with rfl | rfl | rfl | rfl
      · exact Or.inl ⟨_, _, rfl⟩
      all_goals exact Or.inr ⟨_, rfl⟩
  rcases key with ⟨a, b, rfl⟩ | ⟨y, rfl⟩
  · exact va_Nw.warmC hW h
  · exact va_tabs rfl (rfl : (s.setVm U.vm).vm = U.vm) (by rw [Cond.declares_setVm hW.alike]; exact h)
theorem ng_use {w : Cond} {s : State} {args : Array Value} (hw : w ∈ ngA ∨ w ∈ ngI) (h : va_Nw w s) : w.before args s = true := by
  have hon : w.onTables = true := by
    have : ∀ w ∈ ngA ++ ngI, w.onTables = true := by decide +kernel
    exact this w (List.mem_append.mpr hw)
  exact va_tabs hon rfl h
def gX (A : Nat → Prop) (U : State) : Prop :=
  vx_Zq Bundle.tN "UNASSIGNED_STACK" Bundle.steD A U U.heap ∧ vx_Zq Bundle.tN "SUPPRESSED_SENTINEL" Bundle.listD A U U.heap ∧ (∃ a, vk_R RX6 234 "there is none of this number" a U) ∧ (∃ a, vk_R RX6 111 "such a twist can't be added" a U) ∧ (∃ a, vk_R RX6 191 "bits must be 2 or 4" a U) ∧ (∀ w, w ∈ ngA ∨ w ∈ ngI → va_Nw w U) ∧ va_Nc RIA RJx00060 U
theorem gX.move {A B : Nat → Prop} {s U : State} {H : Heap} (h : gX A s) (hW : s.WarmedH U.vm) (hU : U.heap = H) (hk : ∀ q : Nat, q < s.heap.size → ¬ A q → H[q]? = s.heap[q]?) (hAB : ∀ q, B q → A q) : gX B U := by
  obtain ⟨h1, h2, ⟨a3, h3⟩, ⟨a4, h4⟩, ⟨a5, h5⟩, h6, h8⟩ := h
  refine ⟨?_, ?_, ⟨a3, vk_R.warm hW h3⟩, ⟨a4, vk_R.warm hW h4⟩, ⟨a5, vk_R.warm hW h5⟩, fun w hw => ng_warm hw hW (h6 w hw), va_Nc.moved hW.alike h8⟩
  · rw [hU]
    exact (vx_Zq.moved hW.alike (h1.kept hk)).narrow hAB
  · rw [hU]
    exact (vx_Zq.moved hW.alike (h2.kept hk)).narrow hAB
def gPreX (D : va_G) (cA : Nat → ClassId) (o : Nat → Int64) (ad ln : Nat → Nat) (iv : Nat → Nat → Int32) (n sz : Nat) (U : State) : Prop := gPre D cA o ad ln iv n sz U ∧ gX (gA cA o ad ln iv n sz) U
theorem gX.same {A : Nat → Prop} {s U : State} (h : gX A s) (hv : U.vm = s.vm) (hh : U.heap = s.heap) : gX A U :=
  h.move (H := s.heap) (by rw [hv]; exact State.WarmedH.refl s) hh (fun _ _ _ => rfl) (fun _ q => q)
theorem gPreX_blind {D : va_G} {cA : Nat → ClassId} {o : Nat → Int64} {ad ln : Nat → Nat} {iv : Nat → Nat → Int32} {n sz : Nat} {av : List Value} : FrameBlind (va_Pc av (gPreX D cA o ad ln iv n sz)) :=
  fun a U g mk q => by
    obtain ⟨q0, q1, q2⟩ := q
    obtain ⟨r0, r1⟩ := gPre_blind a U g mk ⟨q0, q1⟩
    exact ⟨r0, r1, q2.same rfl rfl⟩
/-- nothing but the exception is new -/
def XCu (D : va_G) (cA : Nat → ClassId) (A : Nat → Prop) (o : Nat → Int64) (ad ln : Nat → Nat) (n : Nat) (iv : Nat → Nat → Int32) (E : String) : String → State → State → Prop := vx_X (fun _ : Unit => True) (fun E' _ t => E' = E ∧ gAt D cA A o ad ln n iv t) A
abbrev gMx (l : Launch) (y : MethodName) (ws : List Cond) (rm : Room) (D : va_G) (cA : Nat → ClassId) (o : Nat → Int64) (ad ln : Nat → Nat) (n sz : Nat) (iv : Nat → Nat → Int32) (av : List Value) (E : String) (Qc : Array Value → State → Outcome → State → Prop) : Prop :=
  vx_Met l y ws rm (va_Pc av (gPreX D cA o ad ln iv n sz)) Qc (XCu D cA (gA cA o ad ln iv n sz) o ad ln n iv E) 1 6 (gA cA o ad ln iv n sz)
/-- no return -/
abbrev nQv (A : Nat → Prop) : Array Value → State → Outcome → State → Prop := va_Qv (fun _ : Unit => False) (fun _ _ => True) A
abbrev nQi (A : Nat → Prop) : Array Value → State → Outcome → State → Prop := va_Qi (fun (_ : Int32) (_ : Unit) => False) (fun _ _ => True) A
abbrev nQl (A : Nat → Prop) : Array Value → State → Outcome → State → Prop := va_Ql (fun (_ : Int64) (_ : Unit) => False) (fun _ _ => True) A
theorem gS.grown {D : va_G} {cA : Nat → ClassId} {A : Nat → Prop} {o : Nat → Int64} {ad ln : Nat → Nat} {iv : Nat → Nat → Int32} {n : Nat} {s t : State} {H : Heap} {locs : List Loc} (h : gS D cA A s.heap o ad ln iv n H locs) (hle : H.size ≤ t.heap.size) (hk : ∀ q : Nat, q < H.size → t.heap[q]? = H[q]?) : gAt D cA A o ad ln n iv t ∧ va_F A s t := by
  refine ⟨⟨h.1.kept (fun k q hq => hk q.1 (vx_lt h.1 hq)), h.2.1⟩, Nat.le_trans h.2.2.1 hle, fun q h1 h2 => ?_⟩
  rw [hk q (Nat.lt_of_lt_of_le h1 h.2.2.1)]
  exact h.2.2.2.1 q h1 h2
theorem atA_in {big : List Cond} {own : String} {i : Nat} {y : MethodName} {ws : List Cond} (h : GoodIn big (va_wsS own i y ws)) : GoodIn (big ++ atA) (va_wsS own i y (ws ++ atA)) := by
  intro w hw
  have hw2 : w ∈ va_wsS own i y ws ++ atA := by
    unfold va_wsS at hw ⊢
    rw [← List.append_assoc] at hw
    exact hw
  rcases List.mem_append.mp hw2 with q | q
  · exact ⟨List.mem_append_left _ (h w q).1, (h w q).2⟩
  · exact ⟨List.mem_append_right _ q, good_of_word (atA_good w q)⟩
theorem atA_inV {big : List Cond} {own C : String} {i : Nat} {y : MethodName} {ws : List Cond} (h : GoodIn big (wsV own i C y ws)) : GoodIn (big ++ atA) (wsV own i C y (ws ++ atA)) := by
  intro w hw
  have hw2 : w ∈ wsV own i C y ws ++ atA := by
    unfold wsV at hw ⊢
    rw [← List.append_assoc] at hw
    exact hw
  rcases List.mem_append.mp hw2 with q | q
  · exact ⟨List.mem_append_left _ (h w q).1, (h w q).2⟩
  · exact ⟨List.mem_append_right _ q, good_of_word (atA_good w q)⟩
theorem atA_lV {big : List Cond} {ws : List Cond} (h : GoodIn big ws) : GoodIn (big ++ atA) ws := fun w hw => ⟨List.mem_append_left _ (h w hw).1, (h w hw).2⟩
set_option maxHeartbeats 1000000 in
set_option maxRecDepth 100000 in
theorem cx_X6_requireIndex (l : Launch) (hst : l.stackTraces = false) (D : va_G) (cA : Nat → ClassId) (o : Nat → Int64) (ad ln : Nat → Nat) (n sz : Nat) (iv : Nat → Nat → Int32) (x b : Int32) (hbad : x < 0 ∨ ¬ x < b) :
    gMx l yX6_requireIndex (wsX6_requireIndex ++ atA) { frames := 7, cells := 1, slots := 6, locals := 95 } D cA o ad ln n sz iv [.int x, .int b] RJx00060 (nQv (gA cA o ad ln iv n sz)) := by
  refine vx_ofW (cc := cX6_requireIndex) (maxL := 2) (ret := none) (by decide) rfl ?_
  intro p e s m args below meth c s₁ B hml htab hv__
  obtain ⟨rfl, hv__, hX⟩ := hv__
  obtain ⟨hsz, hS, hK, hN, hA⟩ := gS.entry hv__
  have hx := B.exec
  have hb := B.bytes
  have hown : s.vm.findClass RX6 = some m.cls := findClass_of_methodNamed B.named
  have hts := atoms_spec (ws := wsX6_requireIndex ++ atA) B.pre
  obtain ⟨hU, hQ, ⟨sa, hR⟩, -, -, hcast, -⟩ := hX
  have hl := lv_entry ([.int x, .int b]) (n := 2) (Nat.le_of_ble_eq_true rfl)
  rw [lg_entry_eq]
  generalize (lg_sl ([.int x, .int b]) ++ List.replicate (2 - (lg_sl ([.int x, .int b])).length) Slot.unset).toArray = ls at hl ⊢
  have TH : W p l e (headSpec (wsX6_requireIndex ++ atA) { frames := 7, cells := 1, slots := 6, locals := 95 }).room s m [Value.int x, Value.int b].toArray below meth c s.heap [] 0 0 (vx_MQ below (nQv (gA cA o ad ln iv n sz)) (XCu D cA (gA cA o ad ln iv n sz) o ad ln n iv RJx00060) [Value.int x, Value.int b].toArray s 1 6 (gA cA o ad ln iv n sz)) (F0 m 9 ls []) := by
    refine vx_throwS (own := RX6) (cls := RJx00060) (text := "there is none of this number") (names := nmA) (ik := 232) (is := 234) (ic := 236) (sa := sa) (A := gA cA o ad ln iv n sz) hx hb hst hown (by decide +kernel) (by decide +kernel) (hts _ (List.mem_append_left _ (by decide +kernel))) (hts _ (List.mem_append_left _ (by decide +kernel))) hR (vx_hat (B := ngA) (fun w hw => hts _ (List.mem_append_right _ hw)) (by decide +kernel) (fun w hw => ng_use (Or.inl hw) (hcast w (Or.inl hw)))) (by decide +kernel) hU hQ hS.2.2 (hl.1.trans hml.symm) dX6_requireIndex_9 dX6_requireIndex_12 dX6_requireIndex_13 dX6_requireIndex_15 dX6_requireIndex_18 (fun z hz => (htab z hz).elim) (by decide) (by decide) (by decide) (by decide) B.notSynchronized (fun t ha hle hk => ?_) (fun z hz => nomatch hz) (by decide) (by decide)
    obtain ⟨g1, g2⟩ := hS.grown hle hk
    exact ⟨(), trivial, ⟨rfl, g1⟩, g2⟩
  refine lv_iload_n hx hb dX6_requireIndex_0 rfl (lv_at hl 0 rfl) ?_
  refine lv_if_lt (tgt := 9) hx hb dX6_requireIndex_1 (by decide) (fun c_1 => ?_) (fun c_1 => ?_)
  · exact TH
  · refine lv_iload_n hx hb dX6_requireIndex_4 rfl (lv_at hl 0 rfl) ?_
    refine lv_iload_n hx hb dX6_requireIndex_5 rfl (lv_at hl 1 rfl) ?_
    refine lv_icmp_lt (tgt := 19) hx hb dX6_requireIndex_6 (by decide) (fun c_6 => ?_) (fun c_6 => ?_)
    · exact absurd hbad (fun q => q.elim c_1 (fun q => q c_6))
    · exact TH
section GXR
variable {p : Program} {l : Launch} {e : Env} {R : Room} {s : State} {m : MethodId} {args : Array Value} {below : List Frame} {meth : Method} {c : Code} {H : Heap} {locs : List Loc} {cells slots : Nat}
variable {cc : ByteArray} {pc : Nat} {ls : Array Slot} {rest : List Value} {D : va_G} {cA : Nat → ClassId} {o : Nat → Int64} {ad ln : Nat → Nat} {iv : Nat → Nat → Int32} {n : Nat}
theorem gS.preX {A : Nat → Prop} {U : State} (h : gS D cA A s.heap o ad ln iv n H locs) (hK : va_K D vwCl (gT cA) s) (hN : NW s) (hX : gX A s) (hA : ∀ q, s.heap.size ≤ q → A q) (hU : U.heap = H) (hW : s.WarmedH U.vm) : gPreX D cA o ad ln iv n H.size U :=
  ⟨h.pre hK hN hU hW, hX.move hW hU h.2.2.2.1 (h.free hA)⟩
/-- a call of requireIndex that throws, in a method that doesn't catch -/
theorem gx_reqX {Ts : List Cond} {own : String} {nL index : Nat} {sz : Nat} {x b : Int32} {Qc : Array Value → State → Outcome → State → Prop} (Sf : CallFix p m c cc nL s args Ts own) (hst : l.stackTraces = false) (hK : va_K D vwCl (gT cA) s) (hN : NW s) (hX : gX (gA cA o ad ln iv n sz) s) (hS : gS D cA (gA cA o ad ln iv n sz) s.heap o ad ln iv n H locs) (hA : ∀ q, s.heap.size ≤ q → gA cA o ad ln iv n sz q) (htab : ∀ x ∈ c.exceptionTable.toList, False) (hlocks : meth.locks = false) (hbad : x < 0 ∨ ¬ x < b)
    (cw : CallB R s args own index yX6_requireIndex cX6_requireIndex 2 none (wsX6_requireIndex ++ atA) { frames := 7, cells := 1, slots := 6, locals := 95 } 1 6 2 ∧ (Cond.static yX6_requireIndex).before args s = true)
    (hsize : ls.size = nL) (hW : 2 * (F0 m pc ls (.int b :: .int x :: rest)).monitorRoom + (rest.map fun v => v.category).sum ≤ 8) (hdg : decode cc pc = .ok (.invokestatic index, 3)) (hc : cells = 0) (hs : slots = 0) (hf : 1 ≤ R.cells ∧ 6 ≤ R.slots) :
    W p l e R s m args below meth c H locs cells slots (vx_MQ below Qc (XCu D cA (gA cA o ad ln iv n sz) o ad ln n iv RJx00060) args s 1 6 (gA cA o ad ln iv n sz)) (F0 m pc ls (.int b :: .int x :: rest)) := by
  subst hc
  subst hs
  have hfree := hS.free hA
  refine vx_callv (vx_runS (As := [.int x, .int b]) (rest := rest) Sf (cx_X6_requireIndex l hst D cA o ad ln n H.size iv x b hbad) cw ⟨gPreX_blind, fun U hU hW => ⟨rfl, hS.preX hK hN hX hA hU hW⟩⟩ rfl rfl hsize rfl hW hdg (by simpa using hf)) hS.2.2 (fun q _ h => hfree q h) hfree (fun q _ h => hfree q h) (fun E ce q9 u t H1 locs1 ht hvm hpx hB hz hk hS1 hce hcv hcl => ?_) (fun u t H1 locs1 ht hvm hw hB hz hk hS1 => hw.elim)
  obtain ⟨rfl, g1, g2⟩ := hB
  have hD : va_D (gA cA o ad ln iv n sz) (gw ad (gC cA o ad ln iv) n) := g2.weaken (fun _ _ _ h => hfree _ h)
  refine vx_out (E := RJx00060) (fun z hz => (htab z hz).elim) hlocks hce hcv hcl (fun t2 ht2 ha2 => ⟨(), trivial, ⟨rfl, ?_, hD⟩, hS1.F ht2⟩) hS1.2.2 (by omega) (by omega)
  rw [ht2, ← ht]
  exact g1
end GXR
