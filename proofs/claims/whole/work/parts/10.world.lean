/-! The world by numbers: cell k lies at ad k; its length is ln k, what it holds is iv k (the ints of a row, or of an object's fields); which cell refers to which is fixed. -/
def gw (ad : Nat → Nat) (ct : Nat → va_E) (n : Nat) : va_W := (List.range n).map (fun k => (ad k, ct k))
theorem gw_at {ad : Nat → Nat} {ct : Nat → va_E} {n k : Nat} (h : k < n) : (gw ad ct n)[k]? = some (ad k, ct k) := by
  simp [gw, h]
theorem gw_set {ad : Nat → Nat} {ct : Nat → va_E} {n k : Nat} {e : va_E} : (gw ad ct n).set k (ad k, e) = gw ad (va_up ct k e) n := by
  apply List.ext_getElem?
  intro i
  rw [List.getElem?_set]
  by_cases hi : i < n
  · by_cases ek : k = i
    · subst ek
      simp [gw, hi, va_up]
    · have : ¬ i = k := fun q => ek q.symm
      simp [gw, hi, va_up, ek, this]
  · by_cases ek : k = i
    · subst ek
      simp [gw, hi]
    · simp [gw, hi, ek]
theorem gw_congr {ad : Nat → Nat} {ct ct' : Nat → va_E} {n : Nat} (h : ∀ k, k < n → ct k = ct' k) : gw ad ct n = gw ad ct' n := by
  unfold gw
  apply List.map_congr_left
  intro k hk
  rw [h k (List.mem_range.mp hk)]
theorem gw_push {ad : Nat → Nat} {ct : Nat → va_E} {n q : Nat} {e : va_E} : gw ad ct n ++ [(q, e)] = gw (va_up ad n q) (va_up ct n e) (n + 1) := by
  unfold gw
  rw [List.range_succ, List.map_append]
  congr 1
  · apply List.map_congr_left
    intro k hk
    have hk := List.mem_range.mp hk
    rw [va_up_ne _ _ (by omega), va_up_ne _ _ (by omega)]
  · simp [va_up]
/-- what the cells are: the class's object and what hangs on it (0 to 52), the reference's (53 to 66), the law's row of one long (67) -/
def sch (cA : Nat → ClassId) (o : Nat → Int64) (ad : Nat → Nat) (k len : Nat) (r : Nat → Int32) : va_E :=
  if k = 0 then .inr (9, [.int (r 0), .int (r 1), .ref (ad 1), .int (r 3), .ref (ad 20), .int (r 5), .ref (ad 25), .ref (ad 29), .ref (ad 32), .ref (ad 35), .ref (ad 38), .ref (ad 41), .ref (ad 42), .ref (ad 46), .ref (ad 49)])
  else if k = 1 then .inl (cA 2, 6, .inr (.inr (.inr (.inr (fun i => if i < 6 then some (ad (2 + 3 * i)) else none)))))
  else if k = 20 then .inl (cA 3, 4, .inr (.inr (.inr (.inr (fun i => if i < 4 then some (ad (21 + i)) else none)))))
  else if k = 25 then .inr (4, [.int (r 0), .int (r 1), .ref (ad 26), .ref (ad 27), .ref (ad 28), .int (r 5), .int (r 6), .int (r 7)])
  else if k = 42 then .inr (7, [.int (r 0), .int (r 1), .int (r 2), .ref (ad 43), .ref (ad 44), .ref (ad 45)])
  else if k = 46 then .inr (8, [.int (r 0), .int (r 1), .int (r 2), .int (r 3), .ref (ad 47), .ref (ad 48)])
  else if k = 49 then .inr (5, [.int (r 0), .int (r 1), .int (r 2), .int (r 3), .int (r 4), .ref (ad 50), .ref (ad 51), .ref (ad 52)])
  else if k = 53 then .inr (10, [.int (r 0), .int (r 1), .int (r 2), .int (r 3), .ref (ad 54), .ref (ad 55), .ref (ad 56), .int (r 7), .ref (ad 57), .ref (ad 58), .ref (ad 59), .int (r 11), .int (r 12), .int (r 13), .int (r 14), .ref (ad 60), .ref (ad 61), .ref (ad 62), .int (r 18), .ref (ad 63), .ref (ad 64), .ref (ad 65), .ref (ad 66)])
  else if k = 67 then .inl (cA 4, 1, .inr (.inl o))
  else if k = 26 ∨ k = 56 ∨ k = 66 then .inl (cA 1, len, .inl r)
  else if (k < 20 ∧ k % 3 = 2) ∨ k = 38 then .inr (3, [.int (r 0), .ref (ad (k + 1)), .ref (ad (k + 2))])
  else if k = 29 ∨ k = 32 ∨ k = 35 then .inr (6, [.ref (ad (k + 1)), .ref (ad (k + 2))])
  else .inl (cA 0, len, .inl r)
/-- the rows of ints -/
def isI (k : Nat) : Bool := !(decide (k = 0) || decide (k = 1) || decide (k = 20) || decide (k = 25) || decide (k = 42) || decide (k = 46) || decide (k = 49) || decide (k = 53) || decide (k = 67) || decide (k = 26) || decide (k = 56) || decide (k = 66) || (decide (k < 20) && decide (k % 3 = 2)) || decide (k = 38) || decide (k = 29) || decide (k = 32) || decide (k = 35))
/-- the rows of truth values -/
def isZ (k : Nat) : Bool := decide (k = 26) || decide (k = 56) || decide (k = 66)
/-- the moves -/
def isM (k : Nat) : Bool := (decide (k < 20) && decide (k % 3 = 2)) || decide (k = 38)
/-- the states -/
def isS (k : Nat) : Bool := decide (k = 29) || decide (k = 32) || decide (k = 35)
theorem sch_I {cA : Nat → ClassId} {o : Nat → Int64} {ad : Nat → Nat} {k len : Nat} {r : Nat → Int32} (h : isI k = true) : sch cA o ad k len r = .inl (cA 0, len, .inl r) := by
  simp [isI] at h
  simp [sch, h]
  omega
theorem sch_Z {cA : Nat → ClassId} {o : Nat → Int64} {ad : Nat → Nat} {k len : Nat} {r : Nat → Int32} (h : isZ k = true) : sch cA o ad k len r = .inl (cA 1, len, .inl r) := by
  simp [isZ] at h
  rcases h with (h | h) | h <;> subst h <;> rfl
theorem sch_M {cA : Nat → ClassId} {o : Nat → Int64} {ad : Nat → Nat} {k len : Nat} {r : Nat → Int32} (h : isM k = true) : sch cA o ad k len r = .inr (3, [.int (r 0), .ref (ad (k + 1)), .ref (ad (k + 2))]) := by
  simp [isM] at h
  have h1 : ¬ k = 0 := by omega
  have h2 : ¬ k = 1 := by omega
  have h3 : ¬ k = 20 := by omega
  have h4 : ¬ k = 25 := by omega
  have h5 : ¬ k = 42 := by omega
  have h6 : ¬ k = 46 := by omega
  have h7 : ¬ k = 49 := by omega
  have h8 : ¬ k = 53 := by omega
  have h9 : ¬ k = 67 := by omega
  have h10 : ¬ (k = 26 ∨ k = 56 ∨ k = 66) := by omega
  unfold sch
  rw [if_neg h1, if_neg h2, if_neg h3, if_neg h4, if_neg h5, if_neg h6, if_neg h7, if_neg h8, if_neg h9, if_neg h10, if_pos h]
theorem sch_S {cA : Nat → ClassId} {o : Nat → Int64} {ad : Nat → Nat} {k len : Nat} {r : Nat → Int32} (h : isS k = true) : sch cA o ad k len r = .inr (6, [.ref (ad (k + 1)), .ref (ad (k + 2))]) := by
  simp [isS] at h
  rcases h with (h | h) | h <;> subst h <;> rfl
abbrev gC (cA : Nat → ClassId) (o : Nat → Int64) (ad ln : Nat → Nat) (iv : Nat → Nat → Int32) : Nat → va_E := fun k => sch cA o ad k (ln k) (iv k)
/-- the array classes: ints, truth values, moves, rows of ints, longs -/
abbrev gT (cA : Nat → ClassId) : List (ClassId × FieldType) := [(cA 0, .int), (cA 1, .boolean), (cA 2, .object RX0), (cA 3, .array .int), (cA 4, .long)]
/-- one place of one row gets x -/
def up2 (iv : Nat → Nat → Int32) (k j : Nat) (x : Int32) : Nat → Nat → Int32 := va_up iv k (upd (iv k) j x)
theorem up2_eq {iv : Nat → Nat → Int32} {k j : Nat} {x : Int32} (a b : Nat) : up2 iv k j x a b = if a = k ∧ b = j then x else iv a b := by
  unfold up2 va_up upd
  by_cases h : a = k
  · subst h
    by_cases h2 : b = j <;> simp [h2]
  · simp [h]
theorem up2_s {iv : Nat → Nat → Int32} {k j : Nat} {x : Int32} : up2 iv k j x k j = x := by rw [up2_eq]; simp
theorem up2_n {iv : Nat → Nat → Int32} {k j a b : Nat} {x : Int32} (h : ¬ (a = k ∧ b = j)) : up2 iv k j x a b = iv a b := by rw [up2_eq, if_neg h]
theorem gC_up {cA : Nat → ClassId} {o : Nat → Int64} {ad ln : Nat → Nat} {iv : Nat → Nat → Int32} {k : Nat} {r : Nat → Int32} : va_up (gC cA o ad ln iv) k (sch cA o ad k (ln k) r) = gC cA o ad ln (va_up iv k r) := by
  funext i
  unfold va_up
  by_cases h : i = k
  · subst h; simp [gC]
  · simp [gC, h]
/-- the world holds, its cells are apart and may be written, nothing else has been -/
def gS (D : va_G) (cA : Nat → ClassId) (A : Nat → Prop) (H0 : Heap) (o : Nat → Int64) (ad ln : Nat → Nat) (iv : Nat → Nat → Int32) (n : Nat) (H : Heap) (locs : List Loc) : Prop :=
  va_P D vwCl (gw ad (gC cA o ad ln iv) n) H ∧ va_D A (gw ad (gC cA o ad ln iv) n) ∧ va_S A H0 H locs
/-- what a method that works on the world asks of its start -/
def gPre (D : va_G) (cA : Nat → ClassId) (o : Nat → Int64) (ad ln : Nat → Nat) (iv : Nat → Nat → Int32) (n sz : Nat) (U : State) : Prop :=
  U.heap.size = sz ∧ va_P D vwCl (gw ad (gC cA o ad ln iv) n) U.heap ∧ va_K D vwCl (gT cA) U ∧ va_D (fun _ => True) (gw ad (gC cA o ad ln iv) n) ∧ NW U
/-- the world at a method's end -/
def gAt (D : va_G) (cA : Nat → ClassId) (A : Nat → Prop) (o : Nat → Int64) (ad ln : Nat → Nat) (n : Nat) (iv : Nat → Nat → Int32) (t : State) : Prop :=
  va_P D vwCl (gw ad (gC cA o ad ln iv) n) t.heap ∧ va_D A (gw ad (gC cA o ad ln iv) n)
abbrev gA (cA : Nat → ClassId) (o : Nat → Int64) (ad ln : Nat → Nat) (iv : Nat → Nat → Int32) (n sz : Nat) : Nat → Prop := va_A (gw ad (gC cA o ad ln iv) n) sz
/-- a method that makes nothing: it answers an int (or a truth value), and leaves the world with new numbers -/
abbrev gMi (l : Launch) (y : MethodName) (ws : List Cond) (rm : Room) (D : va_G) (cA : Nat → ClassId) (o : Nat → Int64) (ad ln : Nat → Nat) (n sz : Nat) (iv : Nat → Nat → Int32) (av : List Value) (post : Int32 → (Nat → Nat → Int32) → Prop) : Prop :=
  Met l y ws rm (va_Pc av (gPre D cA o ad ln iv n sz)) (va_Qi post (gAt D cA (gA cA o ad ln iv n sz) o ad ln n) (gA cA o ad ln iv n sz)) 0 0 (gA cA o ad ln iv n sz)
abbrev gMv (l : Launch) (y : MethodName) (ws : List Cond) (rm : Room) (D : va_G) (cA : Nat → ClassId) (o : Nat → Int64) (ad ln : Nat → Nat) (n sz : Nat) (iv : Nat → Nat → Int32) (av : List Value) (post : (Nat → Nat → Int32) → Prop) : Prop :=
  Met l y ws rm (va_Pc av (gPre D cA o ad ln iv n sz)) (va_Qv post (gAt D cA (gA cA o ad ln iv n sz) o ad ln n) (gA cA o ad ln iv n sz)) 0 0 (gA cA o ad ln iv n sz)
abbrev gMl (l : Launch) (y : MethodName) (ws : List Cond) (rm : Room) (D : va_G) (cA : Nat → ClassId) (o : Nat → Int64) (ad ln : Nat → Nat) (n sz : Nat) (iv : Nat → Nat → Int32) (av : List Value) (post : Int64 → (Nat → Nat → Int32) → Prop) : Prop :=
  Met l y ws rm (va_Pc av (gPre D cA o ad ln iv n sz)) (va_Ql post (gAt D cA (gA cA o ad ln iv n sz) o ad ln n) (gA cA o ad ln iv n sz)) 0 0 (gA cA o ad ln iv n sz)
theorem gPre_blind {D : va_G} {cA : Nat → ClassId} {o : Nat → Int64} {ad ln : Nat → Nat} {iv : Nat → Nat → Int32} {n sz : Nat} {av : List Value} : FrameBlind (va_Pc av (gPre D cA o ad ln iv n sz)) :=
  fun a U g mk q => by
    obtain ⟨q0, q1, qP, qK, qD, qN⟩ := q
    exact ⟨q0, q1, qP, va_K.moved (u := U) (U := U.calling g mk a) (Vm.Alike.refl U.vm) qK, qD, NW.same (s := U) rfl qN⟩
section GE
variable {D : va_G} {cA : Nat → ClassId} {o : Nat → Int64} {ad ln : Nat → Nat} {iv : Nat → Nat → Int32} {n : Nat}
theorem gS.entry {s : State} {sz : Nat} (h : gPre D cA o ad ln iv n sz s) : s.heap.size = sz ∧ gS D cA (gA cA o ad ln iv n sz) s.heap o ad ln iv n s.heap [] ∧ va_K D vwCl (gT cA) s ∧ NW s ∧ ∀ q : Nat, s.heap.size ≤ q → gA cA o ad ln iv n sz q := by
  obtain ⟨h1, h2, h3, h4, h5⟩ := h
  exact ⟨h1, ⟨h2, h4.self, va_S.rf⟩, h3, h5, fun q hq => Or.inr (by omega)⟩
theorem gS.pre {A : Nat → Prop} {H0 H : Heap} {locs : List Loc} {s U : State} (h : gS D cA A H0 o ad ln iv n H locs) (hK : va_K D vwCl (gT cA) s) (hN : NW s) (hU : U.heap = H) (hW : s.WarmedH U.vm) : gPre D cA o ad ln iv n H.size U :=
  ⟨by rw [hU], by rw [hU]; exact h.1, va_K.moved hW.alike hK, h.2.1.weaken (fun _ _ _ _ => trivial), NW.warm hW hN⟩
theorem gS.free {A : Nat → Prop} {H0 H : Heap} {locs : List Loc} (h : gS D cA A H0 o ad ln iv n H locs) (hA : ∀ q, H0.size ≤ q → A q) : ∀ q, gA cA o ad ln iv n H.size q → A q := by
  intro q hq
  rcases hq with ⟨k, e, hk⟩ | hq
  · exact h.2.1.2 k _ hk
  · exact hA q (Nat.le_trans h.2.2.1 hq)
end GE
/-- the method's own: machine, code, words -/
def gF (p : Program) (s : State) (m : MethodId) (meth : Method) (c : Code) (cc : ByteArray) (nL : Nat) (own : String) (Ts : List Cond) (args : Array Value) (ret : Option FieldType) : Prop :=
  p.tables.exec = Jvm.exec ∧ c.code = cc ∧ c.maxLocals = nL ∧ s.vm.findClass own = some m.cls ∧ (∀ w ∈ Ts, w.before args s = true) ∧ meth.sig.returnType = ret ∧ meth.locks = false
theorem gx_nz {x : Int32} (h : x = 0 ∨ x = 1) : narrow .boolean (.int x) = .int x := by rcases h with h | h <;> subst h <;> rfl
theorem gx_fz {x : Int32} (h : x = 0 ∨ x = 1) : fits .boolean (.int x) = true := by rcases h with h | h <;> subst h <;> rfl
theorem gx_vz {x : Int32} (h : x = 0 ∨ x = 1) : vp_nar .boolean x = x := by rcases h with h | h <;> subst h <;> rfl
section GR
variable {p : Program} {l : Launch} {e : Env} {R : Room} {s : State} {m : MethodId} {args : Array Value} {below : List Frame} {meth : Method} {c : Code} {H : Heap} {locs : List Loc} {cells slots : Nat} {Q : State → Prop}
variable {cc : ByteArray} {pc : Nat} {ls : Array Slot} {rest : List Value} {D : va_G} {A : Nat → Prop} {H0 : Heap} {cA : Nat → ClassId} {o : Nat → Int64} {ad ln : Nat → Nat} {iv : Nat → Nat → Int32} {n : Nat}
theorem gx_get (hexec : p.tables.exec = Jvm.exec) (hb : c.code = cc) {own C : String} {T : u_T} {N ci index : Nat} {Ts : List Cond} (hts : ∀ w ∈ Ts, w.before args s = true) (hin : ∀ w ∈ u_ws C T N, w ∈ Ts) (hown : s.vm.findClass own = some m.cls) (hK : va_K D vwCl (gT cA) s) (hS : gS D cA A H0 o ad ln iv n H locs) (k : Nat) (hk : k < n) {fs : List Value} (he : sch cA o ad k (ln k) (iv k) = .inr (ci, fs)) (hc : vwCl[ci]? = some (C, T, N)) (j : Nat) (hj : j < N) (hlink : (Cond.fieldLink own index (T j).1 (T j).2.1 (T j).2.2.1).before args s = true) {v : Value} (hv : fs[j]? = some v) (hdg : decode cc pc = .ok (.getfield index, 3))
    (kk : W p l e R s m args below meth c H locs cells slots Q (F0 m (pc + 3) ls (v :: rest))) : W p l e R s m args below meth c H locs cells slots Q (F0 m pc ls (.ref (ad k) :: rest)) :=
  va_get hexec hb hts hin hown hK hS.1 k ((gw_at hk).trans (congrArg (fun z => some (ad k, z)) he)) hc j hj hlink (fun _ h => h) hv hdg kk
theorem gx_getN (hexec : p.tables.exec = Jvm.exec) (hb : c.code = cc) {own C host : String} {T : u_T} {N ci index : Nat} {Ts : List Cond} (hts : ∀ w ∈ Ts, w.before args s = true) (hin : ∀ w ∈ u_ws C T N, w ∈ Ts) (hown : s.vm.findClass own = some m.cls) (hK : va_K D vwCl (gT cA) s) (hS : gS D cA A H0 o ad ln iv n H locs) (k : Nat) (hk : k < n) {fs : List Value} (he : sch cA o ad k (ln k) (iv k) = .inr (ci, fs)) (hc : vwCl[ci]? = some (C, T, N)) (j : Nat) (hj : j < N) (hlink : (Cond.fieldLinkNest own index (T j).1 (T j).2.1 (T j).2.2.1 host).before args s = true) {v : Value} (hv : fs[j]? = some v) (hdg : decode cc pc = .ok (.getfield index, 3))
    (kk : W p l e R s m args below meth c H locs cells slots Q (F0 m (pc + 3) ls (v :: rest))) : W p l e R s m args below meth c H locs cells slots Q (F0 m pc ls (.ref (ad k) :: rest)) :=
  va_getN hexec hb hts hin hown hK hS.1 k ((gw_at hk).trans (congrArg (fun z => some (ad k, z)) he)) hc j hj hlink (fun _ h => h) hv hdg kk
/-- an int field gets x -/
theorem gx_put (hexec : p.tables.exec = Jvm.exec) (hb : c.code = cc) {own C : String} {T : u_T} {N ci index : Nat} {Ts : List Cond} (hts : ∀ w ∈ Ts, w.before args s = true) (hin : ∀ w ∈ u_ws C T N, w ∈ Ts) (ty0 : Nat → FieldType) (hty : ∀ k, k < N → parseFieldDescriptor (T k).2.2.1 = some (ty0 k)) (hnm : ∀ a, a < N → ∀ b, b < N → a ≠ b → (T a).2.1 ≠ (T b).2.1) (hown : s.vm.findClass own = some m.cls) (hK : va_K D vwCl (gT cA) s) (hS : gS D cA A H0 o ad ln iv n H locs) (k : Nat) (hk : k < n) {fs : List Value} (he : sch cA o ad k (ln k) (iv k) = .inr (ci, fs)) (hc : vwCl[ci]? = some (C, T, N)) (j : Nat) (hj : j < N) (hlink : (Cond.fieldLink own index (T j).1 (T j).2.1 (T j).2.2.1).before args s = true) (hfin : (T j).2.2.2 = false) {ty : FieldType} {x : Int32} (hd : parseFieldDescriptor (T j).2.2.1 = some ty) (hn : narrow ty (.int x) = .int x) (hfit : fits ty (.int x) = true) (hl : j < fs.length) (hw : sch cA o ad k (ln k) (upd (iv k) j x) = .inr (ci, fs.set j (.int x))) (hdg : decode cc pc = .ok (.putfield index, 3))
    (kk : ∀ (H1 : Heap) (locs1 : List Loc), gS D cA A H0 o ad ln (up2 iv k j x) n H1 locs1 → W p l e R s m args below meth c H1 locs1 cells slots Q (F0 m (pc + 3) ls rest)) : W p l e R s m args below meth c H locs cells slots Q (F0 m pc ls (.int x :: .ref (ad k) :: rest)) := by
  refine va_put hexec hb hts hin ty0 hty hnm hown hK hS.1 hS.2.1 hS.2.2 k ((gw_at hk).trans (congrArg (fun z => some (ad k, z)) he)) hc j hj hlink (fun _ h => h) hfin hd hn hfit hl hdg (fun H1 locs1 h1 h2 h3 => ?_)
  rw [gw_set, ← hw, gC_up] at h1 h2
  exact kk H1 locs1 ⟨h1, h2, h3⟩
theorem gx_putN (hexec : p.tables.exec = Jvm.exec) (hb : c.code = cc) {own C host : String} {T : u_T} {N ci index : Nat} {Ts : List Cond} (hts : ∀ w ∈ Ts, w.before args s = true) (hin : ∀ w ∈ u_ws C T N, w ∈ Ts) (ty0 : Nat → FieldType) (hty : ∀ k, k < N → parseFieldDescriptor (T k).2.2.1 = some (ty0 k)) (hnm : ∀ a, a < N → ∀ b, b < N → a ≠ b → (T a).2.1 ≠ (T b).2.1) (hown : s.vm.findClass own = some m.cls) (hK : va_K D vwCl (gT cA) s) (hS : gS D cA A H0 o ad ln iv n H locs) (k : Nat) (hk : k < n) {fs : List Value} (he : sch cA o ad k (ln k) (iv k) = .inr (ci, fs)) (hc : vwCl[ci]? = some (C, T, N)) (j : Nat) (hj : j < N) (hlink : (Cond.fieldLinkNest own index (T j).1 (T j).2.1 (T j).2.2.1 host).before args s = true) (hfin : (T j).2.2.2 = false) {ty : FieldType} {x : Int32} (hd : parseFieldDescriptor (T j).2.2.1 = some ty) (hn : narrow ty (.int x) = .int x) (hfit : fits ty (.int x) = true) (hl : j < fs.length) (hw : sch cA o ad k (ln k) (upd (iv k) j x) = .inr (ci, fs.set j (.int x))) (hdg : decode cc pc = .ok (.putfield index, 3))
    (kk : ∀ (H1 : Heap) (locs1 : List Loc), gS D cA A H0 o ad ln (up2 iv k j x) n H1 locs1 → W p l e R s m args below meth c H1 locs1 cells slots Q (F0 m (pc + 3) ls rest)) : W p l e R s m args below meth c H locs cells slots Q (F0 m pc ls (.int x :: .ref (ad k) :: rest)) := by
  refine va_putN hexec hb hts hin ty0 hty hnm hown hK hS.1 hS.2.1 hS.2.2 k ((gw_at hk).trans (congrArg (fun z => some (ad k, z)) he)) hc j hj hlink (fun _ h => h) hfin hd hn hfit hl hdg (fun H1 locs1 h1 h2 h3 => ?_)
  rw [gw_set, ← hw, gC_up] at h1 h2
  exact kk H1 locs1 ⟨h1, h2, h3⟩
theorem gx_iald (hexec : p.tables.exec = Jvm.exec) (hb : c.code = cc) (hK : va_K D vwCl (gT cA) s) (hS : gS D cA A H0 o ad ln iv n H locs) (k : Nat) (hk : k < n) (hI : isI k = true) {i : Int32} (hin : vp_in i (ln k)) (hdg : decode cc pc = .ok (.iaload, 1))
    (kk : W p l e R s m args below meth c H locs cells slots Q (F0 m (pc + 1) ls (.int (iv k i.toNatClampNeg) :: rest))) : W p l e R s m args below meth c H locs cells slots Q (F0 m pc ls (.int i :: .ref (ad k) :: rest)) :=
  va_iald hexec hb hK hS.1 k 0 ((gw_at hk).trans (congrArg (fun z => some (ad k, z)) (sch_I hI))) rfl hin hdg kk
theorem gx_zald (hexec : p.tables.exec = Jvm.exec) (hb : c.code = cc) (hK : va_K D vwCl (gT cA) s) (hS : gS D cA A H0 o ad ln iv n H locs) (k : Nat) (hk : k < n) (hI : isZ k = true) {i : Int32} (hin : vp_in i (ln k)) (hdg : decode cc pc = .ok (.baload, 1))
    (kk : W p l e R s m args below meth c H locs cells slots Q (F0 m (pc + 1) ls (.int (iv k i.toNatClampNeg) :: rest))) : W p l e R s m args below meth c H locs cells slots Q (F0 m pc ls (.int i :: .ref (ad k) :: rest)) :=
  va_zald hexec hb hK hS.1 k 1 ((gw_at hk).trans (congrArg (fun z => some (ad k, z)) (sch_Z hI))) rfl hin hdg kk
theorem gx_iast (hexec : p.tables.exec = Jvm.exec) (hb : c.code = cc) (hK : va_K D vwCl (gT cA) s) (hS : gS D cA A H0 o ad ln iv n H locs) (k : Nat) (hk : k < n) (hI : isI k = true) {i x : Int32} (hin : vp_in i (ln k)) (hdg : decode cc pc = .ok (.iastore, 1))
    (kk : ∀ (H1 : Heap) (locs1 : List Loc), gS D cA A H0 o ad ln (up2 iv k i.toNatClampNeg x) n H1 locs1 → W p l e R s m args below meth c H1 locs1 cells slots Q (F0 m (pc + 1) ls rest)) : W p l e R s m args below meth c H locs cells slots Q (F0 m pc ls (.int x :: .int i :: .ref (ad k) :: rest)) := by
  refine va_iast hexec hb hK hS.1 hS.2.1 hS.2.2 k 0 ((gw_at hk).trans (congrArg (fun z => some (ad k, z)) (sch_I hI))) rfl hin hdg (fun H1 locs1 h1 h2 h3 => ?_)
  rw [gw_set, ← sch_I (cA := cA) (o := o) (ad := ad) (len := ln k) (r := upd (iv k) i.toNatClampNeg x) hI, gC_up] at h1 h2
  exact kk H1 locs1 ⟨h1, h2, h3⟩
theorem gx_alen (hexec : p.tables.exec = Jvm.exec) (hb : c.code = cc) (hK : va_K D vwCl (gT cA) s) (hS : gS D cA A H0 o ad ln iv n H locs) (k : Nat) (hk : k < n) (hI : isI k = true) (hdg : decode cc pc = .ok (.arraylength, 1))
    (kk : W p l e R s m args below meth c H locs cells slots Q (F0 m (pc + 1) ls (.int (nI (ln k)) :: rest))) : W p l e R s m args below meth c H locs cells slots Q (F0 m pc ls (.ref (ad k) :: rest)) :=
  va_alen hexec hb hK hS.1 k 0 ((gw_at hk).trans (congrArg (fun z => some (ad k, z)) (sch_I hI))) rfl rfl hdg kk
theorem gx_as {x y : Int32} (h : x = y) (k : W p l e R s m args below meth c H locs cells slots Q (F0 m pc ls (.int y :: rest))) : W p l e R s m args below meth c H locs cells slots Q (F0 m pc ls (.int x :: rest)) := by rw [h]; exact k
theorem gx_ialdn (hexec : p.tables.exec = Jvm.exec) (hb : c.code = cc) (hK : va_K D vwCl (gT cA) s) (hS : gS D cA A H0 o ad ln iv n H locs) (k : Nat) (hk : k < n) (hI : isI k = true) (j : Nat) (hj : j < ln k) (hL : ln k < 2 ^ 31) (hdg : decode cc pc = .ok (.iaload, 1))
    (kk : W p l e R s m args below meth c H locs cells slots Q (F0 m (pc + 1) ls (.int (iv k j) :: rest))) : W p l e R s m args below meth c H locs cells slots Q (F0 m pc ls (.int (nI j) :: .ref (ad k) :: rest)) :=
  gx_iald hexec hb hK hS k hk hI (vp_in_nI hj hL) hdg (by rw [nI_clamp (Nat.lt_trans hj hL)]; exact kk)
theorem gx_zaldn (hexec : p.tables.exec = Jvm.exec) (hb : c.code = cc) (hK : va_K D vwCl (gT cA) s) (hS : gS D cA A H0 o ad ln iv n H locs) (k : Nat) (hk : k < n) (hI : isZ k = true) (j : Nat) (hj : j < ln k) (hL : ln k < 2 ^ 31) (hdg : decode cc pc = .ok (.baload, 1))
    (kk : W p l e R s m args below meth c H locs cells slots Q (F0 m (pc + 1) ls (.int (iv k j) :: rest))) : W p l e R s m args below meth c H locs cells slots Q (F0 m pc ls (.int (nI j) :: .ref (ad k) :: rest)) :=
  gx_zald hexec hb hK hS k hk hI (vp_in_nI hj hL) hdg (by rw [nI_clamp (Nat.lt_trans hj hL)]; exact kk)
theorem gx_iastn (hexec : p.tables.exec = Jvm.exec) (hb : c.code = cc) (hK : va_K D vwCl (gT cA) s) (hS : gS D cA A H0 o ad ln iv n H locs) (k : Nat) (hk : k < n) (hI : isI k = true) {x : Int32} (j : Nat) (hj : j < ln k) (hL : ln k < 2 ^ 31) (hdg : decode cc pc = .ok (.iastore, 1))
    (kk : ∀ (H1 : Heap) (locs1 : List Loc), gS D cA A H0 o ad ln (up2 iv k j x) n H1 locs1 → W p l e R s m args below meth c H1 locs1 cells slots Q (F0 m (pc + 1) ls rest)) : W p l e R s m args below meth c H locs cells slots Q (F0 m pc ls (.int x :: .int (nI j) :: .ref (ad k) :: rest)) :=
  gx_iast hexec hb hK hS k hk hI (vp_in_nI hj hL) hdg (by rw [nI_clamp (Nat.lt_trans hj hL)]; exact kk)
theorem gx_zast (hexec : p.tables.exec = Jvm.exec) (hb : c.code = cc) (hK : va_K D vwCl (gT cA) s) (hS : gS D cA A H0 o ad ln iv n H locs) (k : Nat) (hk : k < n) (hI : isZ k = true) {i x : Int32} (hin : vp_in i (ln k)) (hz : x = 0 ∨ x = 1) (hdg : decode cc pc = .ok (.bastore, 1))
    (kk : ∀ (H1 : Heap) (locs1 : List Loc), gS D cA A H0 o ad ln (up2 iv k i.toNatClampNeg x) n H1 locs1 → W p l e R s m args below meth c H1 locs1 cells slots Q (F0 m (pc + 1) ls rest)) : W p l e R s m args below meth c H locs cells slots Q (F0 m pc ls (.int x :: .int i :: .ref (ad k) :: rest)) := by
  refine va_zast hexec hb hK hS.1 hS.2.1 hS.2.2 k 1 ((gw_at hk).trans (congrArg (fun z => some (ad k, z)) (sch_Z hI))) rfl hin hdg (fun H1 locs1 h1 h2 h3 => ?_)
  rw [gx_vz hz, gw_set, ← sch_Z (cA := cA) (o := o) (ad := ad) (len := ln k) (r := upd (iv k) i.toNatClampNeg x) hI, gC_up] at h1 h2
  exact kk H1 locs1 ⟨h1, h2, h3⟩
theorem gx_zastn (hexec : p.tables.exec = Jvm.exec) (hb : c.code = cc) (hK : va_K D vwCl (gT cA) s) (hS : gS D cA A H0 o ad ln iv n H locs) (k : Nat) (hk : k < n) (hI : isZ k = true) {x : Int32} (j : Nat) (hj : j < ln k) (hL : ln k < 2 ^ 31) (hz : x = 0 ∨ x = 1) (hdg : decode cc pc = .ok (.bastore, 1))
    (kk : ∀ (H1 : Heap) (locs1 : List Loc), gS D cA A H0 o ad ln (up2 iv k j x) n H1 locs1 → W p l e R s m args below meth c H1 locs1 cells slots Q (F0 m (pc + 1) ls rest)) : W p l e R s m args below meth c H locs cells slots Q (F0 m pc ls (.int x :: .int (nI j) :: .ref (ad k) :: rest)) :=
  gx_zast hexec hb hK hS k hk hI (vp_in_nI hj hL) hz hdg (by rw [nI_clamp (Nat.lt_trans hj hL)]; exact kk)
/-- a move out of the row of moves -/
theorem gx_ldmove (hexec : p.tables.exec = Jvm.exec) (hb : c.code = cc) (hK : va_K D vwCl (gT cA) s) (hS : gS D cA A H0 o ad ln iv n H locs) (hk : 1 < n) (j : Nat) (hj : j < 6) {i : Int32} (hi : i = nI j) (hdg : decode cc pc = .ok (.aaload, 1))
    (kk : W p l e R s m args below meth c H locs cells slots Q (F0 m (pc + 1) ls (.ref (ad (2 + 3 * j)) :: rest))) : W p l e R s m args below meth c H locs cells slots Q (F0 m pc ls (.int i :: .ref (ad 1) :: rest)) := by
  subst hi
  refine va_aldq hexec hb hK hS.1 1 2 (gw_at hk) rfl (vp_in_nI (N := 6) hj (by decide)) hdg ?_
  rw [nI_clamp (by omega), if_pos hj]
  exact kk
/-- a symmetry's row out of the row of rows -/
theorem gx_ldsym (hexec : p.tables.exec = Jvm.exec) (hb : c.code = cc) (hK : va_K D vwCl (gT cA) s) (hS : gS D cA A H0 o ad ln iv n H locs) (hk : 20 < n) (j : Nat) (hj : j < 4) {i : Int32} (hi : i = nI j) (hdg : decode cc pc = .ok (.aaload, 1))
    (kk : W p l e R s m args below meth c H locs cells slots Q (F0 m (pc + 1) ls (.ref (ad (21 + j)) :: rest))) : W p l e R s m args below meth c H locs cells slots Q (F0 m pc ls (.int i :: .ref (ad 20) :: rest)) := by
  subst hi
  have ha : (gw ad (gC cA o ad ln iv) n)[20]? = some (ad 20, .inl (cA 3, 4, .inr (.inr (.inr (.inr (fun i => if i < 4 then some (ad (21 + i)) else none)))))) := gw_at hk
  have hv : va_rf ((fun i => if i < 4 then some (ad (21 + i)) else none) (nI j).toNatClampNeg) = .ref (ad (21 + j)) := by
    rw [nI_clamp (by omega)]
    show va_rf (if j < 4 then some (ad (21 + j)) else none) = _
    rw [if_pos hj]
    rfl
  have hlt : (nI j).toNatClampNeg < 4 := by rw [nI_clamp (by omega)]; exact hj
  refine W.aald (v := .ref (ad (21 + j))) (ty := .array .int) hexec hb (hS.1 20 _ ha) ((hK.2 3 _ rfl).1 4 (fun q => va_rf ((fun i => if i < 4 then some (ad (21 + i)) else none) q))) rfl (fun q => by cases q) (by show ¬ (nI j < 0 ∨ (arrV _ _ _).slots.size ≤ _); rw [arrV_size]; exact vp_in_nI (N := 4) hj (by decide)) (by show (arrV _ _ _).slots[_]? = _; rw [arrV_read _ _ hlt, hv]) rfl rfl hdg kk
theorem gx_iret {post : Int32 → (Nat → Nat → Int32) → Prop} {iv0 : Nat → Nat → Int32} {sz : Nat} {v : Int32} (hexec : p.tables.exec = Jvm.exec) (hb : c.code = cc) (hr : meth.sig.returnType = some .int) (hlocks : meth.locks = false) (hS : gS D cA (gA cA o ad ln iv0 n sz) s.heap o ad ln iv n H locs) (hp : post v iv) (hdg : decode cc pc = .ok (.ireturn, 1)) :
    W p l e R s m args below meth c H locs 0 0 (MQ below (va_Qi post (gAt D cA (gA cA o ad ln iv0 n sz) o ad ln n) (gA cA o ad ln iv0 n sz)) args s 0 0 (gA cA o ad ln iv0 n sz)) (F0 m pc ls [.int v]) :=
  W.iret (v := v) hexec hb hr (fun t ht hW => ⟨⟨v, iv, rfl, hp, by unfold gAt; rw [ht]; exact ⟨hS.1, hS.2.1⟩⟩, hS.2.2.F ht⟩) hS.2.2.2.2 hdg
theorem gx_zret {post : Int32 → (Nat → Nat → Int32) → Prop} {iv0 : Nat → Nat → Int32} {sz : Nat} {v : Int32} (hexec : p.tables.exec = Jvm.exec) (hb : c.code = cc) (hr : meth.sig.returnType = some .boolean) (hlocks : meth.locks = false) (hz : v = 0 ∨ v = 1) (hS : gS D cA (gA cA o ad ln iv0 n sz) s.heap o ad ln iv n H locs) (hp : post v iv) (hdg : decode cc pc = .ok (.ireturn, 1)) :
    W p l e R s m args below meth c H locs 0 0 (MQ below (va_Qi post (gAt D cA (gA cA o ad ln iv0 n sz) o ad ln n) (gA cA o ad ln iv0 n sz)) args s 0 0 (gA cA o ad ln iv0 n sz)) (F0 m pc ls [.int v]) :=
  W.zret (v := v) hexec hb hr (by rcases hz with h | h <;> subst h <;> rfl) (fun t ht hW => ⟨⟨v, iv, rfl, hp, by unfold gAt; rw [ht]; exact ⟨hS.1, hS.2.1⟩⟩, hS.2.2.F ht⟩) hS.2.2.2.2 hdg
theorem gx_vret {post : (Nat → Nat → Int32) → Prop} {iv0 : Nat → Nat → Int32} {sz : Nat} (hexec : p.tables.exec = Jvm.exec) (hb : c.code = cc) (hr : meth.sig.returnType = none) (hlocks : meth.locks = false) (hS : gS D cA (gA cA o ad ln iv0 n sz) s.heap o ad ln iv n H locs) (hp : post iv) (hdg : decode cc pc = .ok (.return_, 1)) :
    W p l e R s m args below meth c H locs 0 0 (MQ below (va_Qv post (gAt D cA (gA cA o ad ln iv0 n sz) o ad ln n) (gA cA o ad ln iv0 n sz)) args s 0 0 (gA cA o ad ln iv0 n sz)) (F0 m pc ls []) :=
  W.vret hexec hb hr (fun t ht hW => ⟨⟨iv, rfl, hp, by unfold gAt; rw [ht]; exact ⟨hS.1, hS.2.1⟩⟩, hS.2.2.F ht⟩) hS.2.2.2.2 hdg
theorem gx_lret {post : Int64 → (Nat → Nat → Int32) → Prop} {iv0 : Nat → Nat → Int32} {sz : Nat} {v : Int64} (hexec : p.tables.exec = Jvm.exec) (hb : c.code = cc) (hr : meth.sig.returnType = some .long) (hlocks : meth.locks = false) (hS : gS D cA (gA cA o ad ln iv0 n sz) s.heap o ad ln iv n H locs) (hp : post v iv) (hdg : decode cc pc = .ok (.lreturn, 1)) :
    W p l e R s m args below meth c H locs 0 0 (MQ below (va_Ql post (gAt D cA (gA cA o ad ln iv0 n sz) o ad ln n) (gA cA o ad ln iv0 n sz)) args s 0 0 (gA cA o ad ln iv0 n sz)) (F0 m pc ls [.long v]) :=
  W.lret (v := v) hexec hb hr (fun t ht hW => ⟨⟨v, iv, rfl, hp, by unfold gAt; rw [ht]; exact ⟨hS.1, hS.2.1⟩⟩, hS.2.2.F ht⟩) hS.2.2.2.2 hdg
/-! calls -/
theorem gc_i {post : Int32 → (Nat → Nat → Int32) → Prop} {st0 : List Value} {a : Array Value} (hr : va_Run p l e R s m args below meth c H locs cells slots 0 0 (F0 m pc ls st0) rest (va_Qi post (gAt D cA (gA cA o ad ln iv n H.size) o ad ln n) (gA cA o ad ln iv n H.size) a) (gA cA o ad ln iv n H.size)) (hS : gS D cA A H0 o ad ln iv n H locs) (hA : ∀ q, H0.size ≤ q → A q)
    (kk : ∀ (r : Int32) (iv1 : Nat → Nat → Int32) (H1 : Heap) (locs1 : List Loc), post r iv1 → gS D cA A H0 o ad ln iv1 n H1 locs1 → W p l e R s m args below meth c H1 locs1 cells slots Q (F0 m (pc + 3) ls (.int r :: rest))) : W p l e R s m args below meth c H locs cells slots Q (F0 m pc ls st0) :=
  va_calli hr hS.2.2 (fun q _ h => hS.free hA q h) (hS.free hA) (fun r u t H1 locs1 ht hvm hw hB hz hk hS1 => kk r u H1 locs1 hw ⟨by rw [← ht]; exact hB.1, hB.2.weaken (fun _ _ _ h => hS.free hA _ h), hS1⟩)
theorem gc_v {post : (Nat → Nat → Int32) → Prop} {st0 : List Value} {a : Array Value} (hr : va_Run p l e R s m args below meth c H locs cells slots 0 0 (F0 m pc ls st0) rest (va_Qv post (gAt D cA (gA cA o ad ln iv n H.size) o ad ln n) (gA cA o ad ln iv n H.size) a) (gA cA o ad ln iv n H.size)) (hS : gS D cA A H0 o ad ln iv n H locs) (hA : ∀ q, H0.size ≤ q → A q)
    (kk : ∀ (iv1 : Nat → Nat → Int32) (H1 : Heap) (locs1 : List Loc), post iv1 → gS D cA A H0 o ad ln iv1 n H1 locs1 → W p l e R s m args below meth c H1 locs1 cells slots Q (F0 m (pc + 3) ls (rest))) : W p l e R s m args below meth c H locs cells slots Q (F0 m pc ls st0) :=
  va_callv hr hS.2.2 (fun q _ h => hS.free hA q h) (hS.free hA) (fun u t H1 locs1 ht hvm hw hB hz hk hS1 => kk u H1 locs1 hw ⟨by rw [← ht]; exact hB.1, hB.2.weaken (fun _ _ _ h => hS.free hA _ h), hS1⟩)
theorem gc_l {post : Int64 → (Nat → Nat → Int32) → Prop} {st0 : List Value} {a : Array Value} (hr : va_Run p l e R s m args below meth c H locs cells slots 0 0 (F0 m pc ls st0) rest (va_Ql post (gAt D cA (gA cA o ad ln iv n H.size) o ad ln n) (gA cA o ad ln iv n H.size) a) (gA cA o ad ln iv n H.size)) (hS : gS D cA A H0 o ad ln iv n H locs) (hA : ∀ q, H0.size ≤ q → A q)
    (kk : ∀ (r : Int64) (iv1 : Nat → Nat → Int32) (H1 : Heap) (locs1 : List Loc), post r iv1 → gS D cA A H0 o ad ln iv1 n H1 locs1 → W p l e R s m args below meth c H1 locs1 cells slots Q (F0 m (pc + 3) ls (.long r :: rest))) : W p l e R s m args below meth c H locs cells slots Q (F0 m pc ls st0) :=
  va_calll hr hS.2.2 (fun q _ h => hS.free hA q h) (hS.free hA) (fun r u t H1 locs1 ht hvm hw hB hz hk hS1 => kk r u H1 locs1 hw ⟨by rw [← ht]; exact hB.1, hB.2.weaken (fun _ _ _ h => hS.free hA _ h), hS1⟩)
variable {y : MethodName} {bytes : ByteArray} {maxL nL mc ms na index : Nat} {ret : Option FieldType} {ws : List Cond} {rm : Room} {Qc : Array Value → State → Outcome → State → Prop} {free : Addr → Prop} {Ts : List Cond} {own C : String} {As : List Value} {g : JFrame}
theorem gx_runV (S : CallFix p m c cc nL s args Ts own) (hK : va_K D vwCl (gT cA) s) (hN : NW s) (hS : gS D cA A H0 o ad ln iv n H locs) (k : Nat) (hk : k < n) {ci : Nat} {fs : List Value} {q : vw_C} (he : sch cA o ad k (ln k) (iv k) = .inr (ci, fs)) (hc : vwCl[ci]? = some q) (hM : Met l y ws rm (va_Pc (.ref (ad k) :: As) (gPre D cA o ad ln iv n H.size)) Qc mc ms free) (cw : CallW R s args own q.1 index y bytes maxL ret ws rm mc ms na)
    (hg : g.method = m) (hn : As.length = na) (hsize : g.locals.size = nL) (hstack : g.stack = As.reverse ++ .ref (ad k) :: rest) (hW : 2 * g.monitorRoom + (rest.map fun v => v.category).sum ≤ 8) (hdg : decode cc g.pc = .ok (.invokevirtual index, 3)) (hf : cells + mc ≤ R.cells ∧ slots + ms ≤ R.slots) :
    va_Run p l e R s m args below meth c H locs cells slots mc ms g rest (Qc (Value.ref (ad k) :: As).toArray) (free) :=
  va_runV S hM cw ⟨gPre_blind, va_recv hK hS.1 hc ((gw_at hk).trans (congrArg (fun z => some (ad k, z)) he)), fun U hU hW => ⟨rfl, hS.pre hK hN hU hW⟩⟩ hg hn hsize hstack hW hdg hf
theorem gx_runS (S : CallFix p m c cc nL s args Ts own) (hK : va_K D vwCl (gT cA) s) (hN : NW s) (hS : gS D cA A H0 o ad ln iv n H locs) (hM : Met l y ws rm (va_Pc As (gPre D cA o ad ln iv n H.size)) Qc mc ms free) (cw : CallB R s args own index y bytes maxL ret ws rm mc ms na ∧ (Cond.static y).before args s = true)
    (hg : g.method = m) (hn : As.length = na) (hsize : g.locals.size = nL) (hstack : g.stack = As.reverse ++ rest) (hW : 2 * g.monitorRoom + (rest.map fun v => v.category).sum ≤ 8) (hdg : decode cc g.pc = .ok (.invokestatic index, 3)) (hf : cells + mc ≤ R.cells ∧ slots + ms ≤ R.slots) :
    va_Run p l e R s m args below meth c H locs cells slots mc ms g rest (Qc As.toArray) (free) :=
  va_runS S hM cw ⟨gPre_blind, fun U hU hW => ⟨rfl, hS.pre hK hN hU hW⟩⟩ hg hn hsize hstack hW hdg hf
theorem gx_runSN {host : String} (S : CallFix p m c cc nL s args Ts own) (hK : va_K D vwCl (gT cA) s) (hN : NW s) (hS : gS D cA A H0 o ad ln iv n H locs) (hM : Met l y ws rm (va_Pc As (gPre D cA o ad ln iv n H.size)) Qc mc ms free) (cw : va_CN R s args own index y host bytes maxL ret ws rm mc ms na ∧ (Cond.static y).before args s = true ∧ True)
    (hg : g.method = m) (hn : As.length = na) (hsize : g.locals.size = nL) (hstack : g.stack = As.reverse ++ rest) (hW : 2 * g.monitorRoom + (rest.map fun v => v.category).sum ≤ 8) (hdg : decode cc g.pc = .ok (.invokestatic index, 3)) (hf : cells + mc ≤ R.cells ∧ slots + ms ≤ R.slots) :
    va_Run p l e R s m args below meth c H locs cells slots mc ms g rest (Qc As.toArray) (free) :=
  va_runSN S hM cw ⟨gPre_blind, fun U hU hW => ⟨rfl, hS.pre hK hN hU hW⟩⟩ hg hn hsize hstack hW hdg hf
end GR
theorem gle {a b c : Nat} (h : b ≤ c) (e : Nat.ble a b = true) : a ≤ c := Nat.le_trans (Nat.le_of_ble_eq_true e) h
