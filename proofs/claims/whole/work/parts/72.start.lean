/-! the law's start -/
theorem sch_ad53 {cA : Nat → ClassId} {o : Nat → Int64} {ad ad' : Nat → Nat} {k len : Nat} {r : Nat → Int32} (hk : k < 53) (h : ∀ j, j < 53 → ad' j = ad j) : sch cA o ad' k len r = sch cA o ad k len r := by
  have h6 : (fun i => if i < 6 then some (ad' (2 + 3 * i)) else none) = (fun i => if i < 6 then some (ad (2 + 3 * i)) else none) := by
    funext i
    by_cases q : i < 6
    · rw [if_pos q, if_pos q, h _ (by omega)]
    · rw [if_neg q, if_neg q]
  have h4 : (fun i => if i < 4 then some (ad' (21 + i)) else none) = (fun i => if i < 4 then some (ad (21 + i)) else none) := by
    funext i
    by_cases q : i < 4
    · rw [if_pos q, if_pos q, h _ (by omega)]
    · rw [if_neg q, if_neg q]
  have n53 : (k = 53) = False := by simp; omega
  unfold sch
  rw [h6, h4]
  simp only [n53, if_false, h 1 (by decide), h 20 (by decide), h 25 (by decide), h 29 (by decide), h 32 (by decide), h 35 (by decide), h 38 (by decide), h 41 (by decide), h 42 (by decide), h 46 (by decide), h 49 (by decide), h 26 (by decide), h 27 (by decide), h 28 (by decide), h 43 (by decide), h 44 (by decide), h 45 (by decide), h 47 (by decide), h 48 (by decide), h 50 (by decide), h 51 (by decide), h 52 (by decide)]
  by_cases hM : (k < 20 ∧ k % 3 = 2) ∨ k = 38
  · rw [h (k + 1) (by omega), h (k + 2) (by omega)]
  · by_cases hS : k = 29 ∨ k = 32 ∨ k = 35
    · rw [h (k + 1) (by omega), h (k + 2) (by omega)]
    · simp only [hM, hS, if_false]
theorem gw_app {ad : Nat → Nat} {ct : Nat → va_E} (a b : Nat) : gw ad ct (a + b) = gw ad ct a ++ (List.range b).map (fun i => (ad (a + i), ct (a + i))) := by
  unfold gw
  rw [List.range_add, List.map_append, List.map_map]
  rfl
theorem gw_len {ad : Nat → Nat} {ct : Nat → va_E} {n : Nat} : (gw ad ct n).length = n := by simp [gw]
theorem rng_map {ws : va_W} {x : Nat × va_E} {n : Nat} (hn : ws.length = n) : (List.range n).map (fun i => (ws ++ [x])[i]?) = ws.map some := by
  apply List.ext_getElem?
  intro i
  by_cases h : i < n
  · have h2 : i < ws.length := by omega
    rw [List.getElem?_map, List.getElem?_range h, List.getElem?_map]
    show some ((ws ++ [x])[i]?) = _
    rw [List.getElem?_append_left h2, List.getElem?_eq_getElem h2]
    rfl
  · rw [List.getElem?_eq_none (by simp; omega), List.getElem?_eq_none (by simp; omega)]
/-- the reference's rows, and the row of longs, at the start -/
def lnB (P k : Nat) : Nat := if k < 53 then ln0 P k else if k = 54 ∨ k = 55 then 48 else if k = 56 then 8 else if k = 60 ∨ k = 61 ∨ k = 62 then 136080 else if k = 63 then 32 else 4
def ivB (P T k : Nat) : Nat → Int32 := if k < 53 then iv0 P T k else if k = 53 then (fun j => if j = 1 then nI P else if j = 2 then nI T else 0) else zr
theorem w0_eq {cA : Nat → ClassId} {o : Nat → Int64} {u u2 : Nat → Nat} {q q67 P T : Nat} {ad : Nat → Nat} (hu : ∀ i, i < 53 → ad i = u i) (h53 : ad 53 = q) (h2 : ∀ i, i < 13 → ad (54 + i) = u2 i) (h67 : ad 67 = q67) :
    gw u (gC cA o u (ln0 P) (iv0 P T)) 53 ++ ([(q, .inr (10, [.int 0, .int (nI P), .int (nI T), .int 0, .ref (u2 0), .ref (u2 1), .ref (u2 2), .int 0, .ref (u2 3), .ref (u2 4), .ref (u2 5), .int 0, .int 0, .int 0, .int 0, .ref (u2 6), .ref (u2 7), .ref (u2 8), .int 0, .ref (u2 9), .ref (u2 10), .ref (u2 11), .ref (u2 12)])), (u2 0, eI cA 48), (u2 1, eI cA 48), (u2 2, eZ cA 8), (u2 3, eI cA 4), (u2 4, eI cA 4), (u2 5, eI cA 4), (u2 6, eI cA 136080), (u2 7, eI cA 136080), (u2 8, eI cA 136080), (u2 9, eI cA 32), (u2 10, eI cA 4), (u2 11, eI cA 4), (u2 12, eZ cA 4)] ++ [(q67, .inl (cA 4, 1, .inr (.inl o)))]) = gw ad (gC cA o ad (lnB P) (ivB P T)) 68 := by
  rw [show (68 : Nat) = 53 + 15 from rfl, gw_app]
  congr 1
  · unfold gw
    apply List.map_congr_left
    intro k hk
    have hk := List.mem_range.mp hk
    have e1 : lnB P k = ln0 P k := by unfold lnB; rw [if_pos hk]
    have e2 : ivB P T k = iv0 P T k := by unfold ivB; rw [if_pos hk]
    show (u k, sch cA o u k (ln0 P k) (iv0 P T k)) = (ad k, sch cA o ad k (lnB P k) (ivB P T k))
    rw [e1, e2, hu k hk, sch_ad53 hk hu]
  · have a0 : ad 54 = u2 0 := h2 0 (by decide)
    have a1 : ad 55 = u2 1 := h2 1 (by decide)
    have a2 : ad 56 = u2 2 := h2 2 (by decide)
    have a3 : ad 57 = u2 3 := h2 3 (by decide)
    have a4 : ad 58 = u2 4 := h2 4 (by decide)
    have a5 : ad 59 = u2 5 := h2 5 (by decide)
    have a6 : ad 60 = u2 6 := h2 6 (by decide)
    have a7 : ad 61 = u2 7 := h2 7 (by decide)
    have a8 : ad 62 = u2 8 := h2 8 (by decide)
    have a9 : ad 63 = u2 9 := h2 9 (by decide)
    have a10 : ad 64 = u2 10 := h2 10 (by decide)
    have a11 : ad 65 = u2 11 := h2 11 (by decide)
    have a12 : ad 66 = u2 12 := h2 12 (by decide)
    show _ = [(ad 53, sch cA o ad 53 (lnB P 53) (ivB P T 53)), (ad 54, sch cA o ad 54 (lnB P 54) (ivB P T 54)), (ad 55, sch cA o ad 55 (lnB P 55) (ivB P T 55)), (ad 56, sch cA o ad 56 (lnB P 56) (ivB P T 56)), (ad 57, sch cA o ad 57 (lnB P 57) (ivB P T 57)), (ad 58, sch cA o ad 58 (lnB P 58) (ivB P T 58)), (ad 59, sch cA o ad 59 (lnB P 59) (ivB P T 59)), (ad 60, sch cA o ad 60 (lnB P 60) (ivB P T 60)), (ad 61, sch cA o ad 61 (lnB P 61) (ivB P T 61)), (ad 62, sch cA o ad 62 (lnB P 62) (ivB P T 62)), (ad 63, sch cA o ad 63 (lnB P 63) (ivB P T 63)), (ad 64, sch cA o ad 64 (lnB P 64) (ivB P T 64)), (ad 65, sch cA o ad 65 (lnB P 65) (ivB P T 65)), (ad 66, sch cA o ad 66 (lnB P 66) (ivB P T 66)), (ad 67, sch cA o ad 67 (lnB P 67) (ivB P T 67))]
    have e53 : sch cA o ad 53 (lnB P 53) (ivB P T 53) = .inr (10, [.int 0, .int (nI P), .int (nI T), .int 0, .ref (ad 54), .ref (ad 55), .ref (ad 56), .int 0, .ref (ad 57), .ref (ad 58), .ref (ad 59), .int 0, .int 0, .int 0, .int 0, .ref (ad 60), .ref (ad 61), .ref (ad 62), .int 0, .ref (ad 63), .ref (ad 64), .ref (ad 65), .ref (ad 66)]) := rfl
    rw [e53, h53, a0, a1, a2, a3, a4, a5, a6, a7, a8, a9, a10, a11, a12, h67]
    rfl
theorem cnt_ff (P : Nat) : cnt (fun _ => false) P = 0 := cnt_none (fun _ _ => rfl)
/-- what the two sides hold at the start -/
theorem LI_start {P T : Nat} (hP2 : 2 ≤ P) (hP8 : P ≤ 8) (hT1 : 1 ≤ T) (hT3 : T ≤ 3) : LI P T 0 0 (fun _ => false) (fun _ q => q) (fun _ _ => 0) (fun _ q => q) (fun _ => 0) (fun _ => 0) (lnB P) (ivB P T) := by
  have c0 := cnt_ff P
  have hid : ∀ k, k < 53 → ivB P T k = iv0 P T k := fun k hk => by unfold ivB; rw [if_pos hk]
  have hln : ∀ k, k < 53 → lnB P k = ln0 P k := fun k hk => by unfold lnB; rw [if_pos hk]
  have idr_in : ∀ p, p < P → vp_in (idr P p) P := fun p hp => by
    unfold idr
    rw [if_pos hp]
    exact vp_in_nI hp (by omega)
  have iv27 : ∀ k, 3 ≤ k → k < 20 → k % 3 = 0 → iv0 P T k = idr P := fun k h1 h2 h3 => by
    unfold iv0
    rw [if_neg (by omega), if_neg (by omega), if_neg (by omega), if_neg (by omega), if_pos (by omega)]
  have iv28 : ∀ k, k < 20 → k % 3 = 1 → iv0 P T k = zr := fun k h2 h3 => by
    unfold iv0
    rw [if_neg (by omega), if_neg (by omega), if_neg (by omega), if_neg (by omega), if_neg (by omega)]
  have iv29 : ∀ k, k < 20 → k % 3 = 2 → iv0 P T k = (fun j => if j = 0 then nI T else 0) := fun k h2 h3 => by
    unfold iv0
    rw [if_neg (by omega), if_neg (by omega), if_neg (by omega), if_pos (by omega)]
  refine ⟨⟨hP2, hP8, by omega, hT3, by omega, by omega, by omega, fun _ => ⟨inj_id P, fun _ _ => by show 0 < T; omega⟩, fun _ => inj_id P, by rw [c0]; exact ⟨lt_0, fun j k hj => absurd hj (Nat.not_lt_zero _)⟩, fun _ _ => by omega, fun _ _ _ _ => ⟨rfl, rfl⟩⟩, ⟨fun k => ?_, ?_, ⟨rfl, rfl, rfl, rfl, rfl, rfl, rfl, rfl, rfl, rfl, rfl, rfl, rfl⟩⟩, ?_, fun j hj => ?_, fun z hz => absurd hz (Nat.not_lt_zero _), ?_, ?_, Or.inl ⟨rfl, rfl⟩, Or.inl rfl⟩
  · unfold lnB ln0
    repeat' split
    all_goals omega
  · unfold lnOk
    refine ⟨fun j hj => ⟨?_, ?_⟩, fun j hj => ?_, ⟨rfl, rfl, rfl⟩, ⟨rfl, rfl, rfl, rfl, rfl, rfl⟩, ?_⟩
    · rw [hln _ (by omega)]; unfold ln0; rw [if_neg (by omega), if_neg (by omega), if_neg (by omega)]
    · rw [hln _ (by omega)]; unfold ln0; rw [if_neg (by omega), if_neg (by omega), if_neg (by omega)]
    · rw [hln _ (by omega)]; unfold ln0; rw [if_neg (by omega), if_neg (by omega), if_neg (by omega)]
    · first | exact ⟨rfl, rfl⟩ | exact ⟨rfl, rfl, rfl⟩ | (refine ⟨rfl, ?_⟩; exact ⟨rfl, rfl⟩)
  · unfold LIa
    rw [c0]
    exact ⟨rfl, rfl, rfl, rfl, rfl, rfl, rfl, rfl, rfl, lt_0, fun _ => Or.inl rfl, fun _ _ => rfl⟩
  · refine ⟨?_, fun q hq => ⟨?_, hq, ?_, by show 0 < T; omega⟩⟩
    · rw [hid _ (by omega), iv29 _ (by omega) (by omega)]; rfl
    · rw [hid _ (by omega), iv27 _ (by omega) (by omega) (by omega)]; unfold idr; rw [if_pos hq]
    · rw [hid _ (by omega), iv28 _ (by omega) (by omega)]; rfl
  · unfold LIn holdsAt
    rw [c0]
    exact ⟨⟨lt_0, lt_0⟩, fun p hp => idr_in p hp, fun p hp => idr_in p hp, rfl⟩
  · unfold LIr
    rw [c0]
    exact ⟨rfl, rfl, rfl, rfl, rfl, rfl, fun j hj => absurd hj (Nat.not_lt_zero _), fun _ _ => rfl, lt_0, fun z hz => absurd hz (Nat.not_lt_zero _)⟩
theorem aoA_spec {args : Array Value} {s : State} (h : (Cond.arrayOver (.array .int)).before args s = true) : ∃ comp c k, s.vm.classes[c]? = some k ∧ k.kind = .array comp (.array .int) ∧ s.vm.findClass ("[" ++ (FieldType.array .int).toString) = some c := by
  simp only [Cond.before, Cond.holds, Cond.value, beq_iff_eq] at h
  cases hc : s.vm.findClass (FieldType.array .int).toString with
  | none => simp [hc] at h
  | some comp =>
    simp only [hc, Option.bind_some, Option.bind_eq_some_iff, Option.map_eq_some_iff] at h
    obtain ⟨c, hi, k, hk, hb⟩ := h
    obtain ⟨hlt, hp, -⟩ := Array.findIdx?_eq_some_iff_getElem.mp hi
    have hkk : s.vm.classes[c] = k := (Array.getElem?_eq_some_iff.mp hk).2
    rw [hkk] at hp
    cases hkind : k.kind with
    | array component ty =>
      rw [hkind] at hb hp
      simp at hb hp
      exact ⟨comp, c, k, hk, by rw [hkind, hp, hb.1], hb.2⟩
    | _ => rw [hkind] at hb; simp at hb
set_option maxHeartbeats 1000000 in
set_option maxRecDepth 100000 in
theorem cc_L_cell (l : Launch) (b L k : Nat) (xs : Nat → Int32) (hL : L ≤ 2050) (hk : k < 2) : Met l yL_cell wsL_cell { frames := 0, cells := 0, slots := 0, locals := 0 } (va_Pc [.ref b, .int (nI k)] (fun U => va_X b L xs U U.heap)) (va_Qi (fun (r : Int32) (_ : Unit) => r = if k < L then xs k else 0) (fun _ _ => True) (fun _ => False)) 0 0 (fun _ => False) := by
  refine Met.ofW (cc := cL_cell) (maxL := 2) (ret := (some .int)) (by decide) rfl ?_
  intro p e s m args below meth c s₁ B hml hv
  obtain ⟨rfl, hXs⟩ := hv
  have hx := B.exec
  have hb := B.bytes
  have hr := B.returns
  have hbl : b < s.heap.size := by
    obtain ⟨scr, h1, _⟩ := hXs
    exact (Array.getElem?_eq_some_iff.mp h1).1
  have hS : va_S (fun _ => False) s.heap s.heap [] := va_S.rf
  have hl := lv_entry ([.ref b, .int (nI k)]) (n := 2) (Nat.le_of_ble_eq_true rfl)
  rw [lg_entry_eq]
  generalize (lg_sl ([.ref b, .int (nI k)]) ++ List.replicate (2 - (lg_sl ([.ref b, .int (nI k)])).length) Slot.unset).toArray = ls at hl ⊢
  have hl : lv_has ls 2 [(0, .ref b), (1, .int (nI k))] := hl
  refine lv_iload_n hx hb dL_cell_0 rfl (lv_at hl 1 rfl) ?_
  refine lv_aload_n hx hb dL_cell_1 rfl (lv_at hl 0 rfl) ?_
  refine va_slen hx hb hXs hbl (fun h => h) hS dL_cell_2 ?_
  refine lv_icmp_ge (tgt := 12) hx hb dL_cell_3 (by decide) (fun c9 => ?_) (fun c9 => ?_)
  · have c9 : nI L ≤ nI k := c9
    rw [nI_leI (by omega) (by omega)] at c9
    refine lv_iconst (v := nI 0) hx hb dL_cell_12 (by decide) ?_
    exact W.iret (v := nI 0) hx hb hr (fun t ht hW => ⟨⟨nI 0, (), rfl, by rw [if_neg (by omega)]; rfl, trivial⟩, hS.F ht⟩) hS.2.2 dL_cell_13
  · have c9 : ¬ nI L ≤ nI k := c9
    rw [nI_leI (by omega) (by omega)] at c9
    refine lv_aload_n hx hb dL_cell_6 rfl (lv_at hl 0 rfl) ?_
    refine lv_iload_n hx hb dL_cell_7 rfl (lv_at hl 1 rfl) ?_
    refine va_sld hx hb hXs hbl (fun h => h) hS (vp_in_nI (by omega) (by omega)) dL_cell_8 ?_
    refine lv_goto (tgt := 13) hx hb dL_cell_9 (by decide) ?_
    exact W.iret (v := xs (nI k).toNatClampNeg) hx hb hr (fun t ht hW => ⟨⟨_, (), rfl, by rw [if_pos (by omega), nI_clamp (by omega)], trivial⟩, hS.F ht⟩) hS.2.2 dL_cell_13
