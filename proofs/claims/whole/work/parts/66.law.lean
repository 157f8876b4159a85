/-! the law: one call after the other -/
theorem vm1_lt1 {a : Nat} (h : a < 2 ^ 30) : nI a - 1 < 1 ↔ a < 2 := by
  have e2 : nI 2 - 1 = (1 : Int32) := by decide
  rw [← vm1_lt h (show 2 < 2 ^ 30 by decide), e2]
theorem vm1_le0 {a : Nat} (h : a < 2 ^ 30) : nI a - 1 ≤ 0 ↔ a ≤ 1 := by
  have e2 : nI 1 - 1 = (0 : Int32) := by decide
  rw [← vm1_le h (show 1 < 2 ^ 30 by decide), e2]
def LX (p : Program) (l : Launch) (R : Room) (s : State) (m : MethodId) (c : Code) (D : va_G) (cA : Nat → ClassId) (b L : Nat) (xs : Nat → Int32) : Prop :=
  p.tables.exec = Jvm.exec ∧ c.code = cL_law ∧ c.maxLocals = 8 ∧ s.vm.findClass RL = some m.cls ∧ (∀ w ∈ wsL_law ++ atA, w.before #[Value.ref b] s = true) ∧ va_X b L xs s s.heap ∧ b < s.heap.size ∧ va_K D vwCl (gT cA) s ∧ NW s ∧ gX (fun q => s.heap.size ≤ q) s ∧ l.stackTraces = false ∧ 100 ≤ R.frames ∧ 2000 ≤ R.locals ∧ 600000 ≤ R.cells ∧ 7000000 ≤ R.slots ∧ L ≤ 2050
def LK (p : Program) (l : Launch) (e : Env) (R : Room) (s : State) (m : MethodId) (below : List Frame) (meth : Method) (c : Code) (D : va_G) (cA : Nat → ClassId) (b i : Nat) (Q : State → Prop) : Prop :=
  ∀ (o : Nat → Int64) (ad ln : Nat → Nat) (iv : Nat → Nat → Int32) (H : Heap) (locs : List Loc) (ls : Array Slot) (cells slots P T mc sc : Nat) (ch : Nat → Bool) (G Ad Sg : Nat → Nat → Nat) (w t : Nat → Nat), LI P T mc sc ch G Ad Sg w t ln iv → cells ≤ 500 + uC P T ln + (i + 4) → slots ≤ 500000 + uS P T ln + 2 * (i + 4) → gS D cA (fun q => s.heap.size ≤ q) s.heap o ad ln iv 68 H locs → lv_has ls 8 [(0, .ref b), (1, .ref (ad 0)), (2, .ref (ad 53)), (3, .ref (ad 67)), (4, .int (nI i))] → W p l e R s m #[.ref b] below meth c H locs cells slots Q (F0 m 1147 ls [])
section GOM
variable {p : Program} {l : Launch} {e : Env} {R : Room} {s : State} {m : MethodId} {args : Array Value} {below : List Frame} {meth : Method} {c : Code} {H : Heap} {locs : List Loc} {cells slots : Nat} {Q : State → Prop}
variable {pc : Nat} {ls : Array Slot} {rest : List Value} {D : va_G} {A : Nat → Prop} {H0 : Heap} {cA : Nat → ClassId} {o : Nat → Int64} {ad ln : Nat → Nat} {iv : Nat → Nat → Int32} {n : Nat}
theorem gc_oxM {post : Int32 → (Nat → Int64) → (Nat → Nat) → (Nat → Nat) → (Nat → Nat → Int32) → Prop} {y : MethodName} {ws : List Cond} {rm : Room} {av : List Value} {st0 : List Value} {a : Array Value} {mc ms : Nat} {Pr : State → Prop} (hM : gMox l y ws rm D cA o ad ln n H.size iv av mc ms Pr post) (hr : gMox l y ws rm D cA o ad ln n H.size iv av mc ms Pr post → va_Run p l e R s m args below meth c H locs cells slots mc ms (F0 m pc ls st0) rest (va_Qi (fun (r : Int32) (u : (Nat → Int64) × (Nat → Nat) × (Nat → Nat) × (Nat → Nat → Int32)) => post r u.1 u.2.1 u.2.2.1 u.2.2.2) (fun u t => gAt D cA (gA cA o ad ln iv n H.size) u.1 u.2.1 u.2.2.1 n u.2.2.2 t) (gA cA o ad ln iv n H.size) a) (gA cA o ad ln iv n H.size)) (hS : gS D cA A H0 o ad ln iv n H locs) (hA : ∀ q, H0.size ≤ q → A q)
    (kk : ∀ (r : Int32) (o1 : Nat → Int64) (ad1 ln1 : Nat → Nat) (iv1 : Nat → Nat → Int32) (H1 : Heap) (locs1 : List Loc), post r o1 ad1 ln1 iv1 → gS D cA A H0 o1 ad1 ln1 iv1 n H1 locs1 → W p l e R s m args below meth c H1 locs1 (cells + mc) (slots + ms) Q (F0 m (pc + 3) ls (.int r :: rest))) : W p l e R s m args below meth c H locs cells slots Q (F0 m pc ls st0) :=
  va_calli (hr hM) hS.2.2 (fun q _ h => hS.free hA q h) (hS.free hA) (fun r u t H1 locs1 ht hvm hw hB hz hk hS1 => kk r u.1 u.2.1 u.2.2.1 u.2.2.2 H1 locs1 hw ⟨by rw [← ht]; exact hB.1, hB.2.weaken (fun _ _ _ h => hS.free hA _ h), hS1⟩)
end GOM
set_option maxHeartbeats 4000000 in
set_option maxRecDepth 100000 in
theorem law_move {p : Program} {l : Launch} {e : Env} {R : Room} {s : State} {m : MethodId} {below : List Frame} {meth : Method} {c : Code} {D : va_G} {cA : Nat → ClassId} {b L i : Nat} {xs : Nat → Int32} {Q : State → Prop} {o : Nat → Int64} {ad ln : Nat → Nat} {iv : Nat → Nat → Int32} {H : Heap} {locs : List Loc} {ls : Array Slot} {cells slots P T mc sc : Nat} {ch : Nat → Bool} {G Ad Sg : Nat → Nat → Nat} {w t : Nat → Nat} (X : LX p l R s m c D cA b L xs) (hi : i + 3 < L) (h : LI P T mc sc ch G Ad Sg w t ln iv) (hcb : cells ≤ 500 + uC P T ln + i) (hsb : slots ≤ 500000 + uS P T ln + 2 * i) (hS : gS D cA (fun q => s.heap.size ≤ q) s.heap o ad ln iv 68 H locs) (hl : lv_has ls 8 [(0, .ref b), (1, .ref (ad 0)), (2, .ref (ad 53)), (3, .ref (ad 67)), (4, .int (nI i))]) (K : LK p l e R s m below meth c D cA b i Q) : W p l e R s m #[.ref b] below meth c H locs cells slots Q (F0 m 160 ls []) := by
  obtain ⟨hx, hb, hml, hown, hts, hXs, hbl, hK, hN, hX, hst, hRf, hRl, hRc, hRs, hL⟩ := X
  have hA : ∀ q : Nat, s.heap.size ≤ q → (fun q : Nat => s.heap.size ≤ q) q := fun _ h => h
  have hbA : ¬ (fun q : Nat => s.heap.size ≤ q) b := Nat.not_le.mpr hbl
  obtain ⟨⟨c1, c2, c3, c4, c5, c6, c7, c8, c9, c10, c11, c12⟩, ⟨l1, l2, l3⟩, ⟨a1, a2, a3, a4, a5, a6, a7, a8, a9, a10, a11, a12⟩, m0, s0, ⟨n1, n2, n3, n4⟩, ⟨rr1, rr2, rr3, rr4, rr5, rr6, rr7, rr8, rr9, rr10⟩, t0, o0⟩ := id h
  have hcP : cnt ch P ≤ P := inj_le_P pcs_inj
  have hu1 := uC_le P T ln
  have hu2 := uS_le c2 c4 ln
  have hff := ff_1680 P (by omega) (cnt ch P) (by omega)
  have hpw := pw_le4 c4 c7
  have hS9 := Nat.mul_le_mul hff hpw
  refine lv_aload_n hx hb dL_law_160 rfl (lv_at hl 1 rfl) ?_
  refine gc_i (gx_runV (As := []) (rest := []) ⟨hx, hb, hml, hown, hts⟩ hK hN hS 0 (by decide) rfl rfl (ct_X6_move l D cA o ad ln 68 H.size iv mc (by decide) l1 a3 c5) (cwV 0 hts (atA_lV gL_law_X6_move) rfl rfl rfl (by decide +kernel) ⟨gle hRf rfl, gle hRl rfl⟩) rfl rfl hl.1 rfl (lv_room (Nat.le_of_ble_eq_true rfl)) dL_law_161 ⟨by omega, by omega⟩) hS hA (fun r1 iv1 H locs hp1 hS => ?_)
  have e53 : iv1 53 = iv 53 := by
    by_cases q : mc = 6
    · rw [if_pos q] at hp1; rw [hp1.2]
    · rw [if_neg q] at hp1; rw [hp1.2, up2_row (by decide), up2_row (by decide), up2_row (by decide)]
  refine lv_aload_n hx hb dL_law_164 rfl (lv_at hl 2 rfl) ?_
  refine gc_i (gx_runV (As := []) (rest := [.int r1]) ⟨hx, hb, hml, hown, hts⟩ hK hN hS 53 (by decide) rfl rfl (ct_X7_move l D cA o ad ln 68 H.size iv1 mc (by decide) l1 l3 (by rw [e53]; exact rr3) c5) (cwV 0 hts (atA_lV gL_law_X7_move) rfl rfl rfl (by decide +kernel) ⟨gle hRf rfl, gle hRl rfl⟩) rfl rfl hl.1 rfl (lv_room (Nat.le_of_ble_eq_true rfl)) dL_law_165 ⟨by omega, by omega⟩) hS hA (fun r2 iv2 H locs hp2 hS => ?_)
  obtain ⟨hreq, mc2, hLI⟩ : r1 = r2 ∧ ∃ mc2, LI P T mc2 sc ch G Ad Sg w t ln iv2 := by
    by_cases q : mc = 6
    · rw [if_pos q] at hp1 hp2
      refine ⟨by rw [hp1.1, hp2.1], mc, ?_⟩
      rw [hp2.2, hp1.2]
      exact LI_th h 0
    · rw [if_neg q] at hp1 hp2
      obtain ⟨e1, e2⟩ := hp1
      obtain ⟨f1, f2, f3, f4, f5⟩ := hp2
      exact ⟨by rw [e1, f1], mc + 1, LI_move h (by omega) e2 f2 f3 f4 f5⟩
  refine lv_icmp_eq (tgt := 1147) hx hb dL_law_168 (by decide) (fun _ => ?_) (fun c9 => absurd hreq c9)
  exact K _ _ _ _ _ _ _ _ _ P T mc2 sc ch G Ad Sg w t hLI (by omega) (by omega) hS (lv_sub hl [0, 1, 2, 3, 4] rfl)

set_option maxHeartbeats 4000000 in
set_option maxRecDepth 100000 in
theorem law_size {p : Program} {l : Launch} {e : Env} {R : Room} {s : State} {m : MethodId} {below : List Frame} {meth : Method} {c : Code} {D : va_G} {cA : Nat → ClassId} {b L i : Nat} {xs : Nat → Int32} {Q : State → Prop} {o : Nat → Int64} {ad ln : Nat → Nat} {iv : Nat → Nat → Int32} {H : Heap} {locs : List Loc} {ls : Array Slot} {cells slots P T mc sc : Nat} {ch : Nat → Bool} {G Ad Sg : Nat → Nat → Nat} {w t : Nat → Nat} (X : LX p l R s m c D cA b L xs) (hi : i + 3 < L) (h : LI P T mc sc ch G Ad Sg w t ln iv) (hcb : cells ≤ 500 + uC P T ln + i) (hsb : slots ≤ 500000 + uS P T ln + 2 * i) (hS : gS D cA (fun q => s.heap.size ≤ q) s.heap o ad ln iv 68 H locs) (hl : lv_has ls 8 [(0, .ref b), (1, .ref (ad 0)), (2, .ref (ad 53)), (3, .ref (ad 67)), (4, .int (nI i))]) (K : LK p l e R s m below meth c D cA b i Q) : W p l e R s m #[.ref b] below meth c H locs cells slots Q (F0 m 494 ls []) := by
  obtain ⟨hx, hb, hml, hown, hts, hXs, hbl, hK, hN, hX, hst, hRf, hRl, hRc, hRs, hL⟩ := X
  have hA : ∀ q : Nat, s.heap.size ≤ q → (fun q : Nat => s.heap.size ≤ q) q := fun _ h => h
  have hbA : ¬ (fun q : Nat => s.heap.size ≤ q) b := Nat.not_le.mpr hbl
  obtain ⟨⟨c1, c2, c3, c4, c5, c6, c7, c8, c9, c10, c11, c12⟩, ⟨l1, l2, l3⟩, ⟨a1, a2, a3, a4, a5, a6, a7, a8, a9, a10, a11, a12⟩, m0, s0, ⟨n1, n2, n3, n4⟩, ⟨rr1, rr2, rr3, rr4, rr5, rr6, rr7, rr8, rr9, rr10⟩, t0, o0⟩ := id h
  have hcP : cnt ch P ≤ P := inj_le_P pcs_inj
  have hu1 := uC_le P T ln
  have hu2 := uS_le c2 c4 ln
  have hff := ff_1680 P (by omega) (cnt ch P) (by omega)
  have hpw := pw_le4 c4 c7
  have hS9 := Nat.mul_le_mul hff hpw
  refine lv_aload_n hx hb dL_law_494 rfl (lv_at hl 1 rfl) ?_
  refine gc_i (gx_runV (As := []) (rest := []) ⟨hx, hb, hml, hown, hts⟩ hK hN hS 0 (by decide) rfl rfl (ct_X6_size l D cA o ad ln 68 H.size iv (by decide) l1) (cwV 0 hts (atA_lV gL_law_X6_size) rfl rfl rfl (by decide +kernel) ⟨gle hRf rfl, gle hRl rfl⟩) rfl rfl hl.1 rfl (lv_room (Nat.le_of_ble_eq_true rfl)) dL_law_495 ⟨by omega, by omega⟩) hS hA (fun r1 iv1 H locs hp1 hS => ?_)
  obtain ⟨e1, ev1⟩ := hp1
  rw [ev1] at hS
  refine lv_aload_n hx hb dL_law_498 rfl (lv_at hl 2 rfl) ?_
  refine gc_i (gx_runV (As := []) (rest := [.int r1]) ⟨hx, hb, hml, hown, hts⟩ hK hN hS 53 (by decide) rfl rfl (ct_X7_size l D cA o ad ln 68 H.size iv P (cnt ch P) T (by decide) l1 rr4 c7 rr2 c3 c4 rr1 c2 hcP) (cwV 0 hts (atA_lV gL_law_X7_size) rfl rfl rfl (by decide +kernel) ⟨gle hRf rfl, gle hRl rfl⟩) rfl rfl hl.1 rfl (lv_room (Nat.le_of_ble_eq_true rfl)) dL_law_499 ⟨by omega, by omega⟩) hS hA (fun r2 iv2 H locs hp2 hS => ?_)
  obtain ⟨f1, ev2⟩ := hp2
  have hreq : r1 = r2 := by rw [e1, f1, a8, a9, nI_mul]
  have hLI : LI P T mc sc ch G Ad Sg w t ln iv2 := by rw [ev2]; exact LI_th h 0
  refine lv_icmp_eq (tgt := 1147) hx hb dL_law_502 (by decide) (fun _ => ?_) (fun c9 => absurd hreq c9)
  exact K _ _ _ _ _ _ _ _ _ P T mc sc ch G Ad Sg w t hLI (by omega) (by omega) hS (lv_sub hl [0, 1, 2, 3, 4] rfl)

set_option maxHeartbeats 4000000 in
set_option maxRecDepth 100000 in
theorem law_number {p : Program} {l : Launch} {e : Env} {R : Room} {s : State} {m : MethodId} {below : List Frame} {meth : Method} {c : Code} {D : va_G} {cA : Nat → ClassId} {b L i : Nat} {xs : Nat → Int32} {Q : State → Prop} {o : Nat → Int64} {ad ln : Nat → Nat} {iv : Nat → Nat → Int32} {H : Heap} {locs : List Loc} {ls : Array Slot} {cells slots P T mc sc : Nat} {ch : Nat → Bool} {G Ad Sg : Nat → Nat → Nat} {w t : Nat → Nat} (X : LX p l R s m c D cA b L xs) (hi : i + 3 < L) (h : LI P T mc sc ch G Ad Sg w t ln iv) (hcb : cells ≤ 500 + uC P T ln + i) (hsb : slots ≤ 500000 + uS P T ln + 2 * i) (hS : gS D cA (fun q => s.heap.size ≤ q) s.heap o ad ln iv 68 H locs) (hl : lv_has ls 8 [(0, .ref b), (1, .ref (ad 0)), (2, .ref (ad 53)), (3, .ref (ad 67)), (4, .int (nI i))]) (K : LK p l e R s m below meth c D cA b i Q) : W p l e R s m #[.ref b] below meth c H locs cells slots Q (F0 m 543 ls []) := by
  obtain ⟨hx, hb, hml, hown, hts, hXs, hbl, hK, hN, hX, hst, hRf, hRl, hRc, hRs, hL⟩ := X
  have hA : ∀ q : Nat, s.heap.size ≤ q → (fun q : Nat => s.heap.size ≤ q) q := fun _ h => h
  have hbA : ¬ (fun q : Nat => s.heap.size ≤ q) b := Nat.not_le.mpr hbl
  obtain ⟨⟨c1, c2, c3, c4, c5, c6, c7, c8, c9, c10, c11, c12⟩, ⟨l1, l2, l3⟩, ⟨a1, a2, a3, a4, a5, a6, a7, a8, a9, a10, a11, a12⟩, m0, s0, ⟨n1, n2, n3, n4⟩, ⟨rr1, rr2, rr3, rr4, rr5, rr6, rr7, rr8, rr9, rr10⟩, t0, o0⟩ := id h
  have hcP : cnt ch P ≤ P := inj_le_P pcs_inj
  have hu1 := uC_le P T ln
  have hu2 := uS_le c2 c4 ln
  have hff := ff_1680 P (by omega) (cnt ch P) (by omega)
  have hpw := pw_le4 c4 c7
  have hS9 := Nat.mul_le_mul hff hpw
  refine lv_aload_n hx hb dL_law_543 rfl (lv_at hl 1 rfl) ?_
  refine gc_i (gx_runV (As := []) (rest := []) ⟨hx, hb, hml, hown, hts⟩ hK hN hS 0 (by decide) rfl rfl (ct_X6_number l D cA o ad ln 68 H.size iv P (cnt ch P) T (pcs ch P) w t (by decide) l1 l2 a7 c7 a6 c3 c4 c2 a10 pcs_inj a5 n1 c10 c11) (cwV 0 hts (atA_lV gL_law_X6_number) rfl rfl rfl (by decide +kernel) ⟨gle hRf rfl, gle hRl rfl⟩) rfl rfl hl.1 rfl (lv_room (Nat.le_of_ble_eq_true rfl)) dL_law_544 ⟨by omega, by omega⟩) hS hA (fun r1 iv1 H locs hp1 hS => ?_)
  obtain ⟨e1, ev1⟩ := hp1
  rw [ev1] at hS
  refine lv_aload_n hx hb dL_law_547 rfl (lv_at hl 2 rfl) ?_
  refine gc_i (gx_runV (As := []) (rest := [.int r1]) ⟨hx, hb, hml, hown, hts⟩ hK hN hS 53 (by decide) rfl rfl (ct_X7_number l D cA o ad ln 68 H.size iv (by decide) l1) (cwV 0 hts (atA_lV gL_law_X7_number) rfl rfl rfl (by decide +kernel) ⟨gle hRf rfl, gle hRl rfl⟩) rfl rfl hl.1 rfl (lv_room (Nat.le_of_ble_eq_true rfl)) dL_law_548 ⟨by omega, by omega⟩) hS hA (fun r2 iv2 H locs hp2 hS => ?_)
  obtain ⟨f1, ev2⟩ := hp2
  have hreq : r1 = r2 := by rw [e1, f1, rr5]
  have hLI : LI P T mc sc ch G Ad Sg w t ln iv2 := by rw [ev2]; exact LI_th h 0
  refine lv_icmp_eq (tgt := 1147) hx hb dL_law_551 (by decide) (fun _ => ?_) (fun c9 => absurd hreq c9)
  exact K _ _ _ _ _ _ _ _ _ P T mc sc ch G Ad Sg w t hLI (by omega) (by omega) hS (lv_sub hl [0, 1, 2, 3, 4] rfl)

set_option maxHeartbeats 4000000 in
set_option maxRecDepth 100000 in
theorem law_symmetry {p : Program} {l : Launch} {e : Env} {R : Room} {s : State} {m : MethodId} {below : List Frame} {meth : Method} {c : Code} {D : va_G} {cA : Nat → ClassId} {b L i : Nat} {xs : Nat → Int32} {Q : State → Prop} {o : Nat → Int64} {ad ln : Nat → Nat} {iv : Nat → Nat → Int32} {H : Heap} {locs : List Loc} {ls : Array Slot} {cells slots P T mc sc : Nat} {ch : Nat → Bool} {G Ad Sg : Nat → Nat → Nat} {w t : Nat → Nat} (X : LX p l R s m c D cA b L xs) (hi : i + 3 < L) (h : LI P T mc sc ch G Ad Sg w t ln iv) (hcb : cells ≤ 500 + uC P T ln + i) (hsb : slots ≤ 500000 + uS P T ln + 2 * i) (hS : gS D cA (fun q => s.heap.size ≤ q) s.heap o ad ln iv 68 H locs) (hl : lv_has ls 8 [(0, .ref b), (1, .ref (ad 0)), (2, .ref (ad 53)), (3, .ref (ad 67)), (4, .int (nI i))]) (K : LK p l e R s m below meth c D cA b i Q) : W p l e R s m #[.ref b] below meth c H locs cells slots Q (F0 m 890 ls []) := by
  obtain ⟨hx, hb, hml, hown, hts, hXs, hbl, hK, hN, hX, hst, hRf, hRl, hRc, hRs, hL⟩ := X
  have hA : ∀ q : Nat, s.heap.size ≤ q → (fun q : Nat => s.heap.size ≤ q) q := fun _ h => h
  have hbA : ¬ (fun q : Nat => s.heap.size ≤ q) b := Nat.not_le.mpr hbl
  obtain ⟨⟨c1, c2, c3, c4, c5, c6, c7, c8, c9, c10, c11, c12⟩, ⟨l1, l2, l3⟩, ⟨a1, a2, a3, a4, a5, a6, a7, a8, a9, a10, a11, a12⟩, m0, s0, ⟨n1, n2, n3, n4⟩, ⟨rr1, rr2, rr3, rr4, rr5, rr6, rr7, rr8, rr9, rr10⟩, t0, o0⟩ := id h
  have hcP : cnt ch P ≤ P := inj_le_P pcs_inj
  have hu1 := uC_le P T ln
  have hu2 := uS_le c2 c4 ln
  have hff := ff_1680 P (by omega) (cnt ch P) (by omega)
  have hpw := pw_le4 c4 c7
  have hS9 := Nat.mul_le_mul hff hpw
  refine lv_aload_n hx hb dL_law_890 rfl (lv_at hl 1 rfl) ?_
  refine gc_i (gx_runV (As := []) (rest := []) ⟨hx, hb, hml, hown, hts⟩ hK hN hS 0 (by decide) rfl rfl (ct_X6_symmetry l D cA o ad ln 68 H.size iv sc (by decide) l1 a4 c6) (cwV 0 hts (atA_lV gL_law_X6_symmetry) rfl rfl rfl (by decide +kernel) ⟨gle hRf rfl, gle hRl rfl⟩) rfl rfl hl.1 rfl (lv_room (Nat.le_of_ble_eq_true rfl)) dL_law_891 ⟨by omega, by omega⟩) hS hA (fun r1 iv1 H locs hp1 hS => ?_)
  have e53 : iv1 53 = iv 53 := by
    by_cases q : sc = 4
    · rw [if_pos q] at hp1; rw [hp1.2]
    · rw [if_neg q] at hp1; rw [hp1.2, up2_row (by decide), up2_row (by decide)]; unfold wr1; rw [va_up_ne _ _ (by omega)]
  refine lv_aload_n hx hb dL_law_894 rfl (lv_at hl 2 rfl) ?_
  refine gc_i (gx_runV (As := []) (rest := [.int r1]) ⟨hx, hb, hml, hown, hts⟩ hK hN hS 53 (by decide) rfl rfl (ct_X7_symmetry l D cA o ad ln 68 H.size iv1 sc (by decide) l1 l3 (by rw [e53]; exact rr6) c6) (cwV 0 hts (atA_lV gL_law_X7_symmetry) rfl rfl rfl (by decide +kernel) ⟨gle hRf rfl, gle hRl rfl⟩) rfl rfl hl.1 rfl (lv_room (Nat.le_of_ble_eq_true rfl)) dL_law_895 ⟨by omega, by omega⟩) hS hA (fun r2 iv2 H locs hp2 hS => ?_)
  obtain ⟨hreq, sc2, Sg2, hLI⟩ : r1 = r2 ∧ ∃ sc2 Sg2, LI P T mc sc2 ch G Ad Sg2 w t ln iv2 := by
    by_cases q : sc = 4
    · rw [if_pos q] at hp1 hp2
      refine ⟨by rw [hp1.1, hp2.1], sc, Sg, ?_⟩
      rw [hp2.2, hp1.2]
      exact LI_th h 0
    · rw [if_neg q] at hp1 hp2
      obtain ⟨e1, e2⟩ := hp1
      obtain ⟨f1, f2, f3, f4⟩ := hp2
      have k63 : iv1 63 = iv 63 := by rw [e2, up2_row (by decide), up2_row (by decide)]; unfold wr1; rw [va_up_ne _ _ (by omega)]
      have hln9 : ln (21 + sc) = P := l2.2.1 sc (by omega)
      refine ⟨by rw [e1, f1], sc + 1, va_up Sg sc (fun q => q), LI_sy (kv := iv1) h (by omega) (by omega) (Or.inr ⟨rfl, rfl⟩) (inj_id P) (fun x hx9 => ?_) (fun x y1 y2 y3 => ?_) (fun j => ?_) ?_ (fun x hx9 => ?_) (fun j hj x hx9 => ?_) (fun j hj => ?_) f4⟩
      · rw [e2, up2_row (by omega), up2_row (by omega)]
        unfold wr1
        rw [va_up_self]
        show (if x < ln (21 + sc) then nI x else iv (21 + sc) x) = nI x
        rw [if_pos (by omega)]
      · rw [e2, up2_row y1, up2_row y3]
        unfold wr1
        rw [va_up_ne _ _ y2]
      · rw [e2, up2_eq]
        by_cases u : j = 5
        · rw [if_pos ⟨rfl, u⟩, if_pos u]
        · rw [if_neg (fun v => u v.2), if_neg u, up2_row (by decide)]
          unfold wr1
          rw [va_up_ne _ _ (by omega)]
      · rw [e2, up2_row (by decide), up2_s]
      · rw [f3, if_pos (by omega), show 8 * sc + x - 8 * sc = x by omega]
      · rw [f3, if_neg (by omega)]
      · rw [f2, if_neg hj]
  refine lv_icmp_eq (tgt := 1147) hx hb dL_law_898 (by decide) (fun _ => ?_) (fun c9 => absurd hreq c9)
  exact K _ _ _ _ _ _ _ _ _ P T mc sc2 ch G Ad Sg2 w t hLI (by omega) (by omega) hS (lv_sub hl [0, 1, 2, 3, 4] rfl)

set_option maxHeartbeats 4000000 in
set_option maxRecDepth 100000 in
theorem law_count {p : Program} {l : Launch} {e : Env} {R : Room} {s : State} {m : MethodId} {below : List Frame} {meth : Method} {c : Code} {D : va_G} {cA : Nat → ClassId} {b L i : Nat} {xs : Nat → Int32} {Q : State → Prop} {o : Nat → Int64} {ad ln : Nat → Nat} {iv : Nat → Nat → Int32} {H : Heap} {locs : List Loc} {ls : Array Slot} {cells slots P T mc sc : Nat} {ch : Nat → Bool} {G Ad Sg : Nat → Nat → Nat} {w t : Nat → Nat} {x1 : Int32} (X : LX p l R s m c D cA b L xs) (hi : i + 3 < L) (ex1 : xs (i + 1) = x1) (h : LI P T mc sc ch G Ad Sg w t ln iv) (hcb : cells ≤ 500 + uC P T ln + i) (hsb : slots ≤ 500000 + uS P T ln + 2 * i) (hS : gS D cA (fun q => s.heap.size ≤ q) s.heap o ad ln iv 68 H locs) (hl : lv_has ls 8 [(0, .ref b), (1, .ref (ad 0)), (2, .ref (ad 53)), (3, .ref (ad 67)), (4, .int (nI i))]) (K : LK p l e R s m below meth c D cA b i Q) : W p l e R s m #[.ref b] below meth c H locs cells slots Q (F0 m 785 ls []) := by
  obtain ⟨hx, hb, hml, hown, hts, hXs, hbl, hK, hN, hX, hst, hRf, hRl, hRc, hRs, hL⟩ := X
  have hA : ∀ q : Nat, s.heap.size ≤ q → (fun q : Nat => s.heap.size ≤ q) q := fun _ h => h
  have hbA : ¬ (fun q : Nat => s.heap.size ≤ q) b := Nat.not_le.mpr hbl
  obtain ⟨⟨c1, c2, c3, c4, c5, c6, c7, c8, c9, c10, c11, c12⟩, ⟨l1, l2, l3⟩, ⟨a1, a2, a3, a4, a5, a6, a7, a8, a9, a10, a11, a12⟩, m0, s0, ⟨n1, n2, n3, n4⟩, ⟨rr1, rr2, rr3, rr4, rr5, rr6, rr7, rr8, rr9, rr10⟩, t0, o0⟩ := id h
  have hcP : cnt ch P ≤ P := inj_le_P pcs_inj
  have hu1 := uC_le P T ln
  have hu2 := uS_le c2 c4 ln
  have hff := ff_1680 P (by omega) (cnt ch P) (by omega)
  have hpw := pw_le4 c4 c7
  have hS9 := Nat.mul_le_mul hff hpw
  rcases t0 with ⟨t1, t2⟩ | ⟨t1, t2, kq, bs, t3, t4, t5, t6, t7, t8, t9, t10, t11, t12⟩
  · skip
    refine lv_aload_n hx hb dL_law_785 rfl (lv_at hl 1 rfl) ?_
    refine lv_aload_n hx hb dL_law_786 rfl (lv_at hl 0 rfl) ?_
    refine lv_iload hx hb dL_law_787 (lv_at hl 4 rfl) ?_
    refine lv_iconst (v := nI 1) hx hb dL_law_789 (by decide) ?_
    refine lv_iadd hx hb dL_law_790 ?_
    refine gx_as (y := nI (i + 1)) (nI_add i 1) ?_
    refine va_sld hx hb hXs hbl hbA hS.2.2 (vp_in_nI (by omega) (by omega)) dL_law_791 ?_
    refine gx_as (y := x1) (by rw [nI_clamp (by omega)]; exact ex1) ?_
    refine gc_i (gx_runV (As := [.int x1]) (rest := []) ⟨hx, hb, hml, hown, hts⟩ hK hN hS 0 (by decide) rfl rfl (ct_X6_count l D cA o ad ln 68 H.size iv x1 0 0 (by decide) l1 (fun q => absurd t1 q)) (cwV 1 hts (atA_lV gL_law_X6_count) rfl rfl rfl (by decide +kernel) ⟨gle hRf rfl, gle hRl rfl⟩) rfl rfl hl.1 rfl (lv_room (Nat.le_of_ble_eq_true rfl)) dL_law_792 ⟨by omega, by omega⟩) hS hA (fun r1 iv1 H locs hp1 hS => ?_)
    obtain ⟨e1, ev1⟩ := hp1
    rw [ev1] at hS
    refine lv_aload_n hx hb dL_law_795 rfl (lv_at hl 2 rfl) ?_
    refine lv_aload_n hx hb dL_law_796 rfl (lv_at hl 0 rfl) ?_
    refine lv_iload hx hb dL_law_797 (lv_at hl 4 rfl) ?_
    refine lv_iconst (v := nI 1) hx hb dL_law_799 (by decide) ?_
    refine lv_iadd hx hb dL_law_800 ?_
    refine gx_as (y := nI (i + 1)) (nI_add i 1) ?_
    refine va_sld hx hb hXs hbl hbA hS.2.2 (vp_in_nI (by omega) (by omega)) dL_law_801 ?_
    refine gx_as (y := x1) (by rw [nI_clamp (by omega)]; exact ex1) ?_
    refine gc_i (gx_runV (As := [.int x1]) (rest := [.int r1]) ⟨hx, hb, hml, hown, hts⟩ hK hN hS 53 (by decide) rfl rfl (ct_X7_count l D cA o ad ln 68 H.size iv x1 0 (by decide) l1 l3 (fun q => absurd t2 q)) (cwV 1 hts (atA_lV gL_law_X7_count) rfl rfl rfl (by decide +kernel) ⟨gle hRf rfl, gle hRl rfl⟩) rfl rfl hl.1 rfl (lv_room (Nat.le_of_ble_eq_true rfl)) dL_law_802 ⟨by omega, by omega⟩) hS hA (fun r2 iv2 H locs hp2 hS => ?_)
    obtain ⟨f1, ev2⟩ := hp2
    have hreq : r1 = r2 := by rw [if_pos t1] at e1; rw [e1, f1, if_pos t2]
    have hLI : LI P T mc sc ch G Ad Sg w t ln iv2 := by rw [ev2]; exact LI_th h 0
    refine lv_icmp_eq (tgt := 1147) hx hb dL_law_805 (by decide) (fun _ => ?_) (fun c9 => absurd hreq c9)
    exact K _ _ _ _ _ _ _ _ _ P T mc sc ch G Ad Sg w t hLI (by omega) (by omega) hS (lv_sub hl [0, 1, 2, 3, 4] rfl)
  · skip
    refine lv_aload_n hx hb dL_law_785 rfl (lv_at hl 1 rfl) ?_
    refine lv_aload_n hx hb dL_law_786 rfl (lv_at hl 0 rfl) ?_
    refine lv_iload hx hb dL_law_787 (lv_at hl 4 rfl) ?_
    refine lv_iconst (v := nI 1) hx hb dL_law_789 (by decide) ?_
    refine lv_iadd hx hb dL_law_790 ?_
    refine gx_as (y := nI (i + 1)) (nI_add i 1) ?_
    refine va_sld hx hb hXs hbl hbA hS.2.2 (vp_in_nI (by omega) (by omega)) dL_law_791 ?_
    refine gx_as (y := x1) (by rw [nI_clamp (by omega)]; exact ex1) ?_
    refine gc_i (gx_runV (As := [.int x1]) (rest := []) ⟨hx, hb, hml, hown, hts⟩ hK hN hS 0 (by decide) rfl rfl (ct_X6_count l D cA o ad ln 68 H.size iv x1 (ff P (cnt ch P) * T ^ cnt ch P) bs.2.2 (by decide) l1 (fun _ => cnt_pre hS9 t10 t11 t8 t9 (l1 47) t6)) (cwV 1 hts (atA_lV gL_law_X6_count) rfl rfl rfl (by decide +kernel) ⟨gle hRf rfl, gle hRl rfl⟩) rfl rfl hl.1 rfl (lv_room (Nat.le_of_ble_eq_true rfl)) dL_law_792 ⟨by omega, by omega⟩) hS hA (fun r1 iv1 H locs hp1 hS => ?_)
    obtain ⟨e1, ev1⟩ := hp1
    rw [ev1] at hS
    refine lv_aload_n hx hb dL_law_795 rfl (lv_at hl 2 rfl) ?_
    refine lv_aload_n hx hb dL_law_796 rfl (lv_at hl 0 rfl) ?_
    refine lv_iload hx hb dL_law_797 (lv_at hl 4 rfl) ?_
    refine lv_iconst (v := nI 1) hx hb dL_law_799 (by decide) ?_
    refine lv_iadd hx hb dL_law_800 ?_
    refine gx_as (y := nI (i + 1)) (nI_add i 1) ?_
    refine va_sld hx hb hXs hbl hbA hS.2.2 (vp_in_nI (by omega) (by omega)) dL_law_801 ?_
    refine gx_as (y := x1) (by rw [nI_clamp (by omega)]; exact ex1) ?_
    refine gc_i (gx_runV (As := [.int x1]) (rest := [.int r1]) ⟨hx, hb, hml, hown, hts⟩ hK hN hS 53 (by decide) rfl rfl (ct_X7_count l D cA o ad ln 68 H.size iv x1 (ff P (cnt ch P) * T ^ cnt ch P) (by decide) l1 l3 (fun _ => ⟨t7, hS9⟩)) (cwV 1 hts (atA_lV gL_law_X7_count) rfl rfl rfl (by decide +kernel) ⟨gle hRf rfl, gle hRl rfl⟩) rfl rfl hl.1 rfl (lv_room (Nat.le_of_ble_eq_true rfl)) dL_law_802 ⟨by omega, by omega⟩) hS hA (fun r2 iv2 H locs hp2 hS => ?_)
    obtain ⟨f1, ev2⟩ := hp2
    have hreq : r1 = r2 := by
      rw [if_neg (by rw [t1]; decide)] at e1
      rw [f1, if_neg (by rw [t2]; decide), count_ok hS9 t10 t11 e1]
      exact congrArg nI (cnt_congr (fun x hx9 => by rw [t12 x hx9]))
    have hLI : LI P T mc sc ch G Ad Sg w t ln iv2 := by rw [ev2]; exact LI_th h 0
    refine lv_icmp_eq (tgt := 1147) hx hb dL_law_805 (by decide) (fun _ => ?_) (fun c9 => absurd hreq c9)
    exact K _ _ _ _ _ _ _ _ _ P T mc sc ch G Ad Sg w t hLI (by omega) (by omega) hS (lv_sub hl [0, 1, 2, 3, 4] rfl)

set_option maxHeartbeats 4000000 in
set_option maxRecDepth 100000 in
theorem law_down {p : Program} {l : Launch} {e : Env} {R : Room} {s : State} {m : MethodId} {below : List Frame} {meth : Method} {c : Code} {D : va_G} {cA : Nat → ClassId} {b L i : Nat} {xs : Nat → Int32} {Q : State → Prop} {o : Nat → Int64} {ad ln : Nat → Nat} {iv : Nat → Nat → Int32} {H : Heap} {locs : List Loc} {ls : Array Slot} {cells slots P T mc sc : Nat} {ch : Nat → Bool} {G Ad Sg : Nat → Nat → Nat} {w t : Nat → Nat} (X : LX p l R s m c D cA b L xs) (hi : i + 3 < L) (h : LI P T mc sc ch G Ad Sg w t ln iv) (hcb : cells ≤ 500 + uC P T ln + i) (hsb : slots ≤ 500000 + uS P T ln + 2 * i) (hS : gS D cA (fun q => s.heap.size ≤ q) s.heap o ad ln iv 68 H locs) (hl : lv_has ls 8 [(0, .ref b), (1, .ref (ad 0)), (2, .ref (ad 53)), (3, .ref (ad 67)), (4, .int (nI i))]) (K : LK p l e R s m below meth c D cA b i Q) : W p l e R s m #[.ref b] below meth c H locs cells slots Q (F0 m 877 ls []) := by
  obtain ⟨hx, hb, hml, hown, hts, hXs, hbl, hK, hN, hX, hst, hRf, hRl, hRc, hRs, hL⟩ := X
  have hA : ∀ q : Nat, s.heap.size ≤ q → (fun q : Nat => s.heap.size ≤ q) q := fun _ h => h
  have hbA : ¬ (fun q : Nat => s.heap.size ≤ q) b := Nat.not_le.mpr hbl
  obtain ⟨⟨c1, c2, c3, c4, c5, c6, c7, c8, c9, c10, c11, c12⟩, ⟨l1, l2, l3⟩, ⟨a1, a2, a3, a4, a5, a6, a7, a8, a9, a10, a11, a12⟩, m0, s0, ⟨n1, n2, n3, n4⟩, ⟨rr1, rr2, rr3, rr4, rr5, rr6, rr7, rr8, rr9, rr10⟩, t0, o0⟩ := id h
  have hcP : cnt ch P ≤ P := inj_le_P pcs_inj
  have hu1 := uC_le P T ln
  have hu2 := uS_le c2 c4 ln
  have hff := ff_1680 P (by omega) (cnt ch P) (by omega)
  have hpw := pw_le4 c4 c7
  have hS9 := Nat.mul_le_mul hff hpw
  rcases t0 with ⟨t1, t2⟩ | ⟨t1, t2, kq, bs, t3, t4, t5, t6, t7, t8, t9, t10, t11, t12⟩
  · skip
    refine lv_aload_n hx hb dL_law_877 rfl (lv_at hl 1 rfl) ?_
    refine gc_i (gx_runV (As := []) (rest := []) ⟨hx, hb, hml, hown, hts⟩ hK hN hS 0 (by decide) rfl rfl (ct_X6_down l D cA o ad ln 68 H.size iv 0 mc P (cnt ch P) T (pcs ch P) w t G Ad (by decide) l1 l2 a7 c7 a6 c3 c4 c2 a10 pcs_inj a5 n1 c10 c11 n2 n3 a3 (fun j hj => ⟨m0 j (by omega), (c8 j).1⟩) c5 (Or.inl t1) (fun q => absurd q (by rw [t1]; decide))) (cwV 0 hts (atA_lV gL_law_X6_down) rfl rfl rfl (by decide +kernel) ⟨gle hRf rfl, gle hRl rfl⟩) rfl rfl hl.1 rfl (lv_room (Nat.le_of_ble_eq_true rfl)) dL_law_878 ⟨by omega, by omega⟩) hS hA (fun r1 iv1 H locs hp1 hS => ?_)
    obtain ⟨e1, e33, ev1⟩ := hp1
    have k53 : iv1 53 = iv 53 := ev1 53 (by decide) (by decide)
    refine lv_aload_n hx hb dL_law_881 rfl (lv_at hl 2 rfl) ?_
    refine gc_i (gx_runV (As := []) (rest := [.int r1]) ⟨hx, hb, hml, hown, hts⟩ hK hN hS 53 (by decide) rfl rfl (ct_X7_downZ l D cA o ad ln 68 H.size iv1 (by decide) l1 (by rw [k53]; exact t2)) (cwV 0 hts (atA_lV gL_law_X7_down) rfl rfl rfl (by decide +kernel) ⟨gle hRf rfl, gle hRl rfl⟩) rfl rfl hl.1 rfl (lv_room (Nat.le_of_ble_eq_true rfl)) dL_law_882 ⟨by omega, by omega⟩) hS hA (fun r2 iv2 H locs hp2 hS => ?_)
    obtain ⟨f1, ev2⟩ := hp2
    have hreq : r1 = r2 := by
      rw [e1 _ rfl, if_pos t1, f1]
      rfl
    have hLI : LI P T mc sc ch G Ad Sg w t ln iv2 := by
      rw [ev2]
      exact LI_fr h (fun j hj => by rw [up2_n (fun u => hj u.2), k53]) (fun q hq => by rw [up2_row (fun u => by rw [u] at hq; exact absurd hq (by decide)), ev1 q (fun u => by rw [u] at hq; exact absurd hq (by decide)) (fun u => by rw [u] at hq; exact absurd hq (by decide))]) (fun p hp => by rw [up2_row (by decide)]; exact e33 p hp)
    refine lv_icmp_eq (tgt := 1147) hx hb dL_law_885 (by decide) (fun _ => ?_) (fun c9 => absurd hreq c9)
    exact K _ _ _ _ _ _ _ _ _ P T mc sc ch G Ad Sg w t hLI (by omega) (by omega) hS (lv_sub hl [0, 1, 2, 3, 4] rfl)
  · skip
    refine lv_aload_n hx hb dL_law_877 rfl (lv_at hl 1 rfl) ?_
    refine gc_i (gx_runV (As := []) (rest := []) ⟨hx, hb, hml, hown, hts⟩ hK hN hS 0 (by decide) rfl rfl (ct_X6_down l D cA o ad ln 68 H.size iv kq mc P (cnt ch P) T (pcs ch P) w t G Ad (by decide) l1 l2 a7 c7 a6 c3 c4 c2 a10 pcs_inj a5 n1 c10 c11 n2 n3 a3 (fun j hj => ⟨m0 j (by omega), (c8 j).1⟩) c5 (Or.inr t1) (fun _ => ⟨t4, t3, t8⟩)) (cwV 0 hts (atA_lV gL_law_X6_down) rfl rfl rfl (by decide +kernel) ⟨gle hRf rfl, gle hRl rfl⟩) rfl rfl hl.1 rfl (lv_room (Nat.le_of_ble_eq_true rfl)) dL_law_878 ⟨by omega, by omega⟩) hS hA (fun r1 iv1 H locs hp1 hS => ?_)
    obtain ⟨e1, e33, ev1⟩ := hp1
    have k53 : iv1 53 = iv 53 := ev1 53 (by decide) (by decide)
    refine lv_aload_n hx hb dL_law_881 rfl (lv_at hl 2 rfl) ?_
    refine gc_i (gx_runV (As := []) (rest := [.int r1]) ⟨hx, hb, hml, hown, hts⟩ hK hN hS 53 (by decide) rfl rfl (ct_X7_down l D cA o ad ln 68 H.size iv1 kq mc P (cnt ch P) T w t (rpN P T kq G Ad) G Ad (iv 47 (num P T (cnt ch P) w t)) (by decide) l1 l3 (by rw [k53]; exact rr4) c7 (by rw [k53]; exact rr2) c3 c4 (by rw [k53]; exact rr1) c2 (by rw [k53]; exact rr3) c5 (fun j hj => ⟨fun q hq => by rw [ev1 54 (by decide) (by decide), ev1 55 (by decide) (by decide)]; exact rr7 j hj q hq, (c8 j).1⟩) (fun j _ => ord_ex c2 c3 c4 (c8 j).1) (fun _ _ => rfl) (by rw [k53]; exact t5) t3 c10 c11 (by rw [k53]; exact rr5) hS9 (by rw [ev1 60 (by decide) (by decide), t12 _ (num_lt c10 c11)])) (cwV 0 hts (atA_lV gL_law_X7_down) rfl rfl rfl (by decide +kernel) ⟨gle hRf rfl, gle hRl rfl⟩) rfl rfl hl.1 rfl (lv_room (Nat.le_of_ble_eq_true rfl)) dL_law_882 ⟨by omega, by omega⟩) hS hA (fun r2 iv2 H locs hp2 hS => ?_)
    obtain ⟨f1, ⟨f2, f3⟩, ev2⟩ := hp2
    have hreq : r1 = r2 := by
      have k60 : iv1 60 = iv 60 := ev1 60 (by decide) (by decide)
      have hvle := t10.1.2.1 _ (num_lt c10 c11)
      have hC9 := bOk_C t10.1
      have hv0 : iv 47 (num P T (cnt ch P) w t) = nI (bs.1 (num P T (cnt ch P) w t)) - 1 := t11.1 _ (num_lt c10 c11)
      have e9 := e1 (iv 47 (num P T (cnt ch P) w t)) (by rw [if_neg (show ¬ iv 46 0 = 0 by rw [t1]; decide)])
      rw [e9, f1, k53, k60]
      by_cases q : iv 47 (num P T (cnt ch P) w t) ≤ 0
      · rw [if_pos q, if_pos (Or.inr ?_)]
        rw [hv0, vm1_le0 (by omega)] at q
        rw [hv0, vm1_lt1 (by omega)]
        omega
      · rw [if_neg q, if_neg ?_]
        · have hfe : (fun j9 => fs0 (fun k => okv (iv 47 (num P T (cnt ch P) (fun i => itg (G j9) k (w i)) (atw T (G j9) (Ad j9) w t k))) (jrem (iv 47 (num P T (cnt ch P) w t) - 1) (nI 3))) (if kq = 0 then 1 else ordr P T (G j9) (Ad j9) - 1) 1) = (fun j => fs0 (fun k => okv (iv 60 (num P T (cnt ch P) (fun q => itg (G j) k (w q)) (atw T (G j) (Ad j) w t k))) (jrem (iv 47 (num P T (cnt ch P) w t) - 1) (nI 3))) (rpN P T kq G Ad j) 1) := by
            funext j
            have hff9 : (fun k => okv (iv 47 (num P T (cnt ch P) (fun i => itg (G j) k (w i)) (atw T (G j) (Ad j) w t k))) (jrem (iv 47 (num P T (cnt ch P) w t) - 1) (nI 3))) = (fun k => okv (iv 60 (num P T (cnt ch P) (fun q => itg (G j) k (w q)) (atw T (G j) (Ad j) w t k))) (jrem (iv 47 (num P T (cnt ch P) w t) - 1) (nI 3))) := by
              funext k
              rw [t12 _ (num_lt (itg_inj (c8 j).1 c10 k) (atw_lt c3 c11 k))]
            rw [hff9]
          rw [hfe]
        · intro u
          rcases u with u | u
          · rw [t2] at u; exact absurd u (by decide)
          · rw [hv0, vm1_lt1 (by omega)] at u
            apply q
            rw [hv0, vm1_le0 (by omega)]
            omega
    have hLI : LI P T mc sc ch G Ad Sg w t ln iv2 := LI_fr h (fun j hj => by rw [f3 j hj, k53]) (fun q hq => by rw [ev2 q (fun u => by rw [u] at hq; exact absurd hq (by decide)) (fun u => by rw [u] at hq; exact absurd hq (by decide)) (fun u => by rw [u] at hq; exact absurd hq (by decide)), ev1 q (fun u => by rw [u] at hq; exact absurd hq (by decide)) (fun u => by rw [u] at hq; exact absurd hq (by decide))]) (fun p hp => by rw [ev2 33 (by decide) (by decide) (by decide)]; exact e33 p hp)
    refine lv_icmp_eq (tgt := 1147) hx hb dL_law_885 (by decide) (fun _ => ?_) (fun c9 => absurd hreq c9)
    exact K _ _ _ _ _ _ _ _ _ P T mc sc ch G Ad Sg w t hLI (by omega) (by omega) hS (lv_sub hl [0, 1, 2, 3, 4] rfl)

set_option maxHeartbeats 4000000 in
set_option maxRecDepth 100000 in
theorem law_file {p : Program} {l : Launch} {e : Env} {R : Room} {s : State} {m : MethodId} {below : List Frame} {meth : Method} {c : Code} {D : va_G} {cA : Nat → ClassId} {b L i : Nat} {xs : Nat → Int32} {Q : State → Prop} {o : Nat → Int64} {ad ln : Nat → Nat} {iv : Nat → Nat → Int32} {H : Heap} {locs : List Loc} {ls : Array Slot} {cells slots P T mc sc : Nat} {ch : Nat → Bool} {G Ad Sg : Nat → Nat → Nat} {w t : Nat → Nat} {x1 : Int32} (X : LX p l R s m c D cA b L xs) (hi : i + 3 < L) (ex1 : xs (i + 1) = x1) (h : LI P T mc sc ch G Ad Sg w t ln iv) (hcb : cells ≤ 500 + uC P T ln + i) (hsb : slots ≤ 500000 + uS P T ln + 2 * i) (hS : gS D cA (fun q => s.heap.size ≤ q) s.heap o ad ln iv 68 H locs) (hl : lv_has ls 8 [(0, .ref b), (1, .ref (ad 0)), (2, .ref (ad 53)), (3, .ref (ad 67)), (4, .int (nI i))]) (K : LK p l e R s m below meth c D cA b i Q) : W p l e R s m #[.ref b] below meth c H locs cells slots Q (F0 m 1122 ls []) := by
  obtain ⟨hx, hb, hml, hown, hts, hXs, hbl, hK, hN, hX, hst, hRf, hRl, hRc, hRs, hL⟩ := X
  have hA : ∀ q : Nat, s.heap.size ≤ q → (fun q : Nat => s.heap.size ≤ q) q := fun _ h => h
  have hbA : ¬ (fun q : Nat => s.heap.size ≤ q) b := Nat.not_le.mpr hbl
  obtain ⟨⟨c1, c2, c3, c4, c5, c6, c7, c8, c9, c10, c11, c12⟩, ⟨l1, l2, l3⟩, ⟨a1, a2, a3, a4, a5, a6, a7, a8, a9, a10, a11, a12⟩, m0, s0, ⟨n1, n2, n3, n4⟩, ⟨rr1, rr2, rr3, rr4, rr5, rr6, rr7, rr8, rr9, rr10⟩, t0, o0⟩ := id h
  have hcP : cnt ch P ≤ P := inj_le_P pcs_inj
  have hu1 := uC_le P T ln
  have hu2 := uS_le c2 c4 ln
  have hff := ff_1680 P (by omega) (cnt ch P) (by omega)
  have hpw := pw_le4 c4 c7
  have hS9 := Nat.mul_le_mul hff hpw
  rcases t0 with ⟨t1, t2⟩ | ⟨t1, t2, kq, bs, t3, t4, t5, t6, t7, t8, t9, t10, t11, t12⟩
  · skip
    refine lv_aload_n hx hb dL_law_1122 rfl (lv_at hl 1 rfl) ?_
    refine lv_aload_n hx hb dL_law_1123 rfl (lv_at hl 0 rfl) ?_
    refine lv_iload hx hb dL_law_1124 (lv_at hl 4 rfl) ?_
    refine lv_iconst (v := nI 1) hx hb dL_law_1126 (by decide) ?_
    refine lv_iadd hx hb dL_law_1127 ?_
    refine gx_as (y := nI (i + 1)) (nI_add i 1) ?_
    refine va_sld hx hb hXs hbl hbA hS.2.2 (vp_in_nI (by omega) (by omega)) dL_law_1128 ?_
    refine gx_as (y := x1) (by rw [nI_clamp (by omega)]; exact ex1) ?_
    refine gc_i (gx_runV (As := [.int x1]) (rest := []) ⟨hx, hb, hml, hown, hts⟩ hK hN hS 0 (by decide) rfl rfl (ct_X6_file l D cA o ad ln 68 H.size iv x1 0 (by decide) l1 (fun q => absurd t1 q)) (cwV 1 hts (atA_lV gL_law_X6_file) rfl rfl rfl (by decide +kernel) ⟨gle hRf rfl, gle hRl rfl⟩) rfl rfl hl.1 rfl (lv_room (Nat.le_of_ble_eq_true rfl)) dL_law_1129 ⟨by omega, by omega⟩) hS hA (fun r1 iv1 H locs hp1 hS => ?_)
    obtain ⟨e1, ev1⟩ := hp1
    rw [ev1] at hS
    refine lv_aload_n hx hb dL_law_1132 rfl (lv_at hl 2 rfl) ?_
    refine lv_aload_n hx hb dL_law_1133 rfl (lv_at hl 0 rfl) ?_
    refine lv_iload hx hb dL_law_1134 (lv_at hl 4 rfl) ?_
    refine lv_iconst (v := nI 1) hx hb dL_law_1136 (by decide) ?_
    refine lv_iadd hx hb dL_law_1137 ?_
    refine gx_as (y := nI (i + 1)) (nI_add i 1) ?_
    refine va_sld hx hb hXs hbl hbA hS.2.2 (vp_in_nI (by omega) (by omega)) dL_law_1138 ?_
    refine gx_as (y := x1) (by rw [nI_clamp (by omega)]; exact ex1) ?_
    refine gc_i (gx_runV (As := [.int x1]) (rest := [.int r1]) ⟨hx, hb, hml, hown, hts⟩ hK hN hS 53 (by decide) rfl rfl (ct_X7_fileZ l D cA o ad ln 68 H.size iv x1 (by decide) l1 t2) (cwV 1 hts (atA_lV gL_law_X7_file) rfl rfl rfl (by decide +kernel) ⟨gle hRf rfl, gle hRl rfl⟩) rfl rfl hl.1 rfl (lv_room (Nat.le_of_ble_eq_true rfl)) dL_law_1139 ⟨by omega, by omega⟩) hS hA (fun r2 iv2 H locs hp2 hS => ?_)
    obtain ⟨f1, ev2⟩ := hp2
    have hreq : r1 = r2 := by rw [e1, if_pos (Or.inl t1), f1]
    have hLI : LI P T mc sc ch G Ad Sg w t ln iv2 := by rw [ev2]; exact LI_th h 0
    refine lv_icmp_eq (tgt := 1147) hx hb dL_law_1142 (by decide) (fun _ => ?_) (fun c9 => absurd hreq c9)
    exact K _ _ _ _ _ _ _ _ _ P T mc sc ch G Ad Sg w t hLI (by omega) (by omega) hS (lv_sub hl [0, 1, 2, 3, 4] rfl)
  · skip
    refine lv_aload_n hx hb dL_law_1122 rfl (lv_at hl 1 rfl) ?_
    refine lv_aload_n hx hb dL_law_1123 rfl (lv_at hl 0 rfl) ?_
    refine lv_iload hx hb dL_law_1124 (lv_at hl 4 rfl) ?_
    refine lv_iconst (v := nI 1) hx hb dL_law_1126 (by decide) ?_
    refine lv_iadd hx hb dL_law_1127 ?_
    refine gx_as (y := nI (i + 1)) (nI_add i 1) ?_
    refine va_sld hx hb hXs hbl hbA hS.2.2 (vp_in_nI (by omega) (by omega)) dL_law_1128 ?_
    refine gx_as (y := x1) (by rw [nI_clamp (by omega)]; exact ex1) ?_
    refine gc_i (gx_runV (As := [.int x1]) (rest := []) ⟨hx, hb, hml, hown, hts⟩ hK hN hS 0 (by decide) rfl rfl (ct_X6_file l D cA o ad ln 68 H.size iv x1 (ff P (cnt ch P) * T ^ cnt ch P) (by decide) l1 (fun _ => ⟨t6, by omega, t8⟩)) (cwV 1 hts (atA_lV gL_law_X6_file) rfl rfl rfl (by decide +kernel) ⟨gle hRf rfl, gle hRl rfl⟩) rfl rfl hl.1 rfl (lv_room (Nat.le_of_ble_eq_true rfl)) dL_law_1129 ⟨by omega, by omega⟩) hS hA (fun r1 iv1 H locs hp1 hS => ?_)
    obtain ⟨e1, ev1⟩ := hp1
    rw [ev1] at hS
    refine lv_aload_n hx hb dL_law_1132 rfl (lv_at hl 2 rfl) ?_
    refine lv_aload_n hx hb dL_law_1133 rfl (lv_at hl 0 rfl) ?_
    refine lv_iload hx hb dL_law_1134 (lv_at hl 4 rfl) ?_
    refine lv_iconst (v := nI 1) hx hb dL_law_1136 (by decide) ?_
    refine lv_iadd hx hb dL_law_1137 ?_
    refine gx_as (y := nI (i + 1)) (nI_add i 1) ?_
    refine va_sld hx hb hXs hbl hbA hS.2.2 (vp_in_nI (by omega) (by omega)) dL_law_1138 ?_
    refine gx_as (y := x1) (by rw [nI_clamp (by omega)]; exact ex1) ?_
    refine gc_i (gx_runV (As := [.int x1]) (rest := [.int r1]) ⟨hx, hb, hml, hown, hts⟩ hK hN hS 53 (by decide) rfl rfl (ct_X7_file l D cA o ad ln 68 H.size iv x1 (ff P (cnt ch P) * T ^ cnt ch P) (by decide) l1 l3 t7 hS9) (cwV 1 hts (atA_lV gL_law_X7_file) rfl rfl rfl (by decide +kernel) ⟨gle hRf rfl, gle hRl rfl⟩) rfl rfl hl.1 rfl (lv_room (Nat.le_of_ble_eq_true rfl)) dL_law_1139 ⟨by omega, by omega⟩) hS hA (fun r2 iv2 H locs hp2 hS => ?_)
    obtain ⟨f1, ev2⟩ := hp2
    have hreq : r1 = r2 := by
      have hC9 := bOk_C t10.1
      rw [e1, f1]
      exact file_ok (vv := bs.1) c2 c4 c7 t3 hS9 a1 a2 a7 t4 rr1 rr2 rr4 t5 t1 t2 (fun x hx9 => ⟨t11.1 x hx9, by have := t10.1.2.1 x hx9; omega⟩) t12
    have hLI : LI P T mc sc ch G Ad Sg w t ln iv2 := by rw [ev2]; exact LI_th h 0
    refine lv_icmp_eq (tgt := 1147) hx hb dL_law_1142 (by decide) (fun _ => ?_) (fun c9 => absurd hreq c9)
    exact K _ _ _ _ _ _ _ _ _ P T mc sc ch G Ad Sg w t hLI (by omega) (by omega) hS (lv_sub hl [0, 1, 2, 3, 4] rfl)
