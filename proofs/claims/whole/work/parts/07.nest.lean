/-! links among nest mates, printed by wip/whole/nest.py -/
def nwL : List Cond := [.fieldLinkNest RX6 106 RX0 "added" "[I" RX6, .fieldLinkNest RX6 124 RX1 "chosenCount" "I" RX6, .fieldLinkNest RX6 152 RX3 "at" "[I" RX6, .fieldLinkNest RX6 155 RX3 "turned" "[I" RX6, .fieldLinkNest RX6 184 RX5 "built" "Z" RX6, .fieldLinkNest RX6 217 RX2 "orbitCount" "I" RX6, .fieldLinkNest RX6 241 RX5 "measure" "I" RX6, .fieldLinkNest RX6 255 RX2 "known" "Z" RX6, .fieldLinkNest RX6 99 RX0 "goal" "[I" RX6, .fieldLinkNest RX1 38 RX3 "at" "[I" RX6, .fieldLinkNest RX1 49 RX3 "turned" "[I" RX6, .fieldLinkNest RX2 33 RX1 "arrangements" "I" RX6, .fieldLinkNest RX2 37 RX1 "twistings" "I" RX6, .fieldLinkNest RX3 32 RX0 "added" "[I" RX6, .fieldLinkNest RX3 37 RX0 "twists" "I" RX6, .fieldLinkNest RX3 41 RX0 "goal" "[I" RX6, .fieldLinkNest RX4 31 RX1 "arrangements" "I" RX6, .fieldLinkNest RX4 34 RX1 "twistings" "I" RX6, .fieldLinkNest RX5 48 RX4 "moveCount" "I" RX6, .methodLinkNest RX0 13 yX6_rowThatLeavesAll RX6, .methodLinkNest RX2 41 yX6_roomFor RX6, .methodLinkNest RX2 47 yX6_leaveAll RX6, .methodLinkNest RX3 22 yX6_leaveAll RX6, .methodLinkNest RX3 7 yX6_rowThatLeavesAll RX6, .methodLinkNest RX4 35 yX6_roomFor RX6, .methodLinkNest RX5 35 yX6_roomFor RX6]
/-- they hold -/
def NW (U : State) : Prop := ∀ w ∈ nwL, va_Nw w U
theorem NW.warm {s U : State} (hW : s.WarmedH U.vm) (h : NW s) : NW U := by
  unfold NW nwL at h ⊢
  simp only [List.forall_mem_cons] at h ⊢
  obtain ⟨h0, h1, h2, h3, h4, h5, h6, h7, h8, h9, h10, h11, h12, h13, h14, h15, h16, h17, h18, h19, h20, h21, h22, h23, h24, h25, -⟩ := h
  exact ⟨va_Nw.warmF hW h0, va_Nw.warmF hW h1, va_Nw.warmF hW h2, va_Nw.warmF hW h3, va_Nw.warmF hW h4, va_Nw.warmF hW h5, va_Nw.warmF hW h6, va_Nw.warmF hW h7, va_Nw.warmF hW h8, va_Nw.warmF hW h9, va_Nw.warmF hW h10, va_Nw.warmF hW h11, va_Nw.warmF hW h12, va_Nw.warmF hW h13, va_Nw.warmF hW h14, va_Nw.warmF hW h15, va_Nw.warmF hW h16, va_Nw.warmF hW h17, va_Nw.warmF hW h18, va_Nw.warmM hW h19, va_Nw.warmM hW h20, va_Nw.warmM hW h21, va_Nw.warmM hW h22, va_Nw.warmM hW h23, va_Nw.warmM hW h24, va_Nw.warmM hW h25, fun _ h => absurd h List.not_mem_nil⟩
theorem NW.same {s U : State} (hv : s.vm = U.vm) (h : NW s) : NW U := by
  unfold NW nwL at h ⊢
  simp only [List.forall_mem_cons] at h ⊢
  obtain ⟨h0, h1, h2, h3, h4, h5, h6, h7, h8, h9, h10, h11, h12, h13, h14, h15, h16, h17, h18, h19, h20, h21, h22, h23, h24, h25, -⟩ := h
  exact ⟨va_Nw.same rfl hv h0, va_Nw.same rfl hv h1, va_Nw.same rfl hv h2, va_Nw.same rfl hv h3, va_Nw.same rfl hv h4, va_Nw.same rfl hv h5, va_Nw.same rfl hv h6, va_Nw.same rfl hv h7, va_Nw.same rfl hv h8, va_Nw.same rfl hv h9, va_Nw.same rfl hv h10, va_Nw.same rfl hv h11, va_Nw.same rfl hv h12, va_Nw.same rfl hv h13, va_Nw.same rfl hv h14, va_Nw.same rfl hv h15, va_Nw.same rfl hv h16, va_Nw.same rfl hv h17, va_Nw.same rfl hv h18, va_Nw.same rfl hv h19, va_Nw.same rfl hv h20, va_Nw.same rfl hv h21, va_Nw.same rfl hv h22, va_Nw.same rfl hv h23, va_Nw.same rfl hv h24, va_Nw.same rfl hv h25, fun _ h => absurd h List.not_mem_nil⟩
theorem nf_RX6_106 {U : State} {a : Array Value} (h : NW U) : (Cond.fieldLinkNest RX6 106 RX0 "added" "[I" RX6).before a U = true := va_Nw.use rfl (h _ (List.mem_of_getElem? (i := 0) rfl))
theorem nf_RX6_124 {U : State} {a : Array Value} (h : NW U) : (Cond.fieldLinkNest RX6 124 RX1 "chosenCount" "I" RX6).before a U = true := va_Nw.use rfl (h _ (List.mem_of_getElem? (i := 1) rfl))
theorem nf_RX6_152 {U : State} {a : Array Value} (h : NW U) : (Cond.fieldLinkNest RX6 152 RX3 "at" "[I" RX6).before a U = true := va_Nw.use rfl (h _ (List.mem_of_getElem? (i := 2) rfl))
theorem nf_RX6_155 {U : State} {a : Array Value} (h : NW U) : (Cond.fieldLinkNest RX6 155 RX3 "turned" "[I" RX6).before a U = true := va_Nw.use rfl (h _ (List.mem_of_getElem? (i := 3) rfl))
theorem nf_RX6_184 {U : State} {a : Array Value} (h : NW U) : (Cond.fieldLinkNest RX6 184 RX5 "built" "Z" RX6).before a U = true := va_Nw.use rfl (h _ (List.mem_of_getElem? (i := 4) rfl))
theorem nf_RX6_217 {U : State} {a : Array Value} (h : NW U) : (Cond.fieldLinkNest RX6 217 RX2 "orbitCount" "I" RX6).before a U = true := va_Nw.use rfl (h _ (List.mem_of_getElem? (i := 5) rfl))
theorem nf_RX6_241 {U : State} {a : Array Value} (h : NW U) : (Cond.fieldLinkNest RX6 241 RX5 "measure" "I" RX6).before a U = true := va_Nw.use rfl (h _ (List.mem_of_getElem? (i := 6) rfl))
theorem nf_RX6_255 {U : State} {a : Array Value} (h : NW U) : (Cond.fieldLinkNest RX6 255 RX2 "known" "Z" RX6).before a U = true := va_Nw.use rfl (h _ (List.mem_of_getElem? (i := 7) rfl))
theorem nf_RX6_99 {U : State} {a : Array Value} (h : NW U) : (Cond.fieldLinkNest RX6 99 RX0 "goal" "[I" RX6).before a U = true := va_Nw.use rfl (h _ (List.mem_of_getElem? (i := 8) rfl))
theorem nf_RX1_38 {U : State} {a : Array Value} (h : NW U) : (Cond.fieldLinkNest RX1 38 RX3 "at" "[I" RX6).before a U = true := va_Nw.use rfl (h _ (List.mem_of_getElem? (i := 9) rfl))
theorem nf_RX1_49 {U : State} {a : Array Value} (h : NW U) : (Cond.fieldLinkNest RX1 49 RX3 "turned" "[I" RX6).before a U = true := va_Nw.use rfl (h _ (List.mem_of_getElem? (i := 10) rfl))
theorem nf_RX2_33 {U : State} {a : Array Value} (h : NW U) : (Cond.fieldLinkNest RX2 33 RX1 "arrangements" "I" RX6).before a U = true := va_Nw.use rfl (h _ (List.mem_of_getElem? (i := 11) rfl))
theorem nf_RX2_37 {U : State} {a : Array Value} (h : NW U) : (Cond.fieldLinkNest RX2 37 RX1 "twistings" "I" RX6).before a U = true := va_Nw.use rfl (h _ (List.mem_of_getElem? (i := 12) rfl))
theorem nf_RX3_32 {U : State} {a : Array Value} (h : NW U) : (Cond.fieldLinkNest RX3 32 RX0 "added" "[I" RX6).before a U = true := va_Nw.use rfl (h _ (List.mem_of_getElem? (i := 13) rfl))
theorem nf_RX3_37 {U : State} {a : Array Value} (h : NW U) : (Cond.fieldLinkNest RX3 37 RX0 "twists" "I" RX6).before a U = true := va_Nw.use rfl (h _ (List.mem_of_getElem? (i := 14) rfl))
theorem nf_RX3_41 {U : State} {a : Array Value} (h : NW U) : (Cond.fieldLinkNest RX3 41 RX0 "goal" "[I" RX6).before a U = true := va_Nw.use rfl (h _ (List.mem_of_getElem? (i := 15) rfl))
theorem nf_RX4_31 {U : State} {a : Array Value} (h : NW U) : (Cond.fieldLinkNest RX4 31 RX1 "arrangements" "I" RX6).before a U = true := va_Nw.use rfl (h _ (List.mem_of_getElem? (i := 16) rfl))
theorem nf_RX4_34 {U : State} {a : Array Value} (h : NW U) : (Cond.fieldLinkNest RX4 34 RX1 "twistings" "I" RX6).before a U = true := va_Nw.use rfl (h _ (List.mem_of_getElem? (i := 17) rfl))
theorem nf_RX5_48 {U : State} {a : Array Value} (h : NW U) : (Cond.fieldLinkNest RX5 48 RX4 "moveCount" "I" RX6).before a U = true := va_Nw.use rfl (h _ (List.mem_of_getElem? (i := 18) rfl))
theorem nf_RX0_13 {U : State} (h : NW U) : va_Nw (.methodLinkNest RX0 13 yX6_rowThatLeavesAll RX6) U := h _ (List.mem_of_getElem? (i := 19) rfl)
theorem nf_RX2_41 {U : State} (h : NW U) : va_Nw (.methodLinkNest RX2 41 yX6_roomFor RX6) U := h _ (List.mem_of_getElem? (i := 20) rfl)
theorem nf_RX2_47 {U : State} (h : NW U) : va_Nw (.methodLinkNest RX2 47 yX6_leaveAll RX6) U := h _ (List.mem_of_getElem? (i := 21) rfl)
theorem nf_RX3_22 {U : State} (h : NW U) : va_Nw (.methodLinkNest RX3 22 yX6_leaveAll RX6) U := h _ (List.mem_of_getElem? (i := 22) rfl)
theorem nf_RX3_7 {U : State} (h : NW U) : va_Nw (.methodLinkNest RX3 7 yX6_rowThatLeavesAll RX6) U := h _ (List.mem_of_getElem? (i := 23) rfl)
theorem nf_RX4_35 {U : State} (h : NW U) : va_Nw (.methodLinkNest RX4 35 yX6_roomFor RX6) U := h _ (List.mem_of_getElem? (i := 24) rfl)
theorem nf_RX5_35 {U : State} (h : NW U) : va_Nw (.methodLinkNest RX5 35 yX6_roomFor RX6) U := h _ (List.mem_of_getElem? (i := 25) rfl)
