/-- a number brought between two others -/
def clQ (lo hi : Nat) (x : Int32) : Nat := if x < nI lo then lo else if nI hi < x then hi else tn x
theorem clQ_in {lo hi : Nat} {x : Int32} (h : lo ≤ hi) (h0 : 0 < lo) (hh : hi < 2 ^ 31) : lo ≤ clQ lo hi x ∧ clQ lo hi x ≤ hi := by
  unfold clQ
  by_cases q : x < nI lo
  · rw [if_pos q]; omega
  rw [if_neg q]
  by_cases w : nI hi < x
  · rw [if_pos w]; omega
  rw [if_neg w]
  by_cases z : x < 0
  · exfalso
    have e0 : (0 : Int32) < nI lo := (nI_ltI (a := 0) (by decide) (by omega)).mpr h0
    exact q (Int32.lt_trans z e0)
  · obtain ⟨k, hk, rfl⟩ := nI_of z
    rw [nI_ltI hk (by omega)] at q
    rw [nI_ltI hh hk] at w
    rw [show tn (nI k) = k from nI_clamp hk]
    omega
theorem clQ_mm {lo hi : Nat} {x : Int32} (h : lo ≤ hi) (h0 : 0 < lo) (hh : hi < 2 ^ 31) : (if nI lo < (if x < nI hi then x else nI hi) then (if x < nI hi then x else nI hi) else nI lo) = nI (clQ lo hi x) := by
  have hln : (0 : Int32) < nI lo := (nI_ltI (a := 0) (by decide) (by omega)).mpr h0
  unfold clQ
  by_cases z : x < 0
  · have e1 : x < nI lo := Int32.lt_trans z hln
    have e2 : x < nI hi := Int32.lt_of_lt_of_le e1 ((nI_leI (by omega) hh).mpr h)
    rw [if_pos e2, if_pos e1, if_neg (fun u => Int32.lt_irrefl (Int32.lt_trans u e1))]
  · obtain ⟨k, hk, rfl⟩ := nI_of z
    rw [show tn (nI k) = k from nI_clamp hk]
    simp only [nI_ltI hk hh, nI_ltI hk (show lo < 2 ^ 31 by omega), nI_ltI hh hk]
    by_cases a : k < hi
    · rw [if_pos a]
      simp only [nI_ltI (show lo < 2 ^ 31 by omega) hk]
      by_cases b : lo < k
      · rw [if_pos b, if_neg (by omega), if_neg (by omega)]
      · rw [if_neg b]
        by_cases d : k < lo
        · rw [if_pos d]
        · rw [if_neg d, if_neg (by omega), show k = lo by omega]
    · rw [if_neg a]
      simp only [nI_ltI (show lo < 2 ^ 31 by omega) hh]
      by_cases b : lo < hi
      · rw [if_pos b, if_neg (by omega)]
        by_cases d : hi < k
        · rw [if_pos d]
        · rw [if_neg d, show k = hi by omega]
      · rw [if_neg b, if_neg (by omega)]
        by_cases d : hi < k
        · rw [if_pos d, show hi = lo by omega]
        · rw [if_neg d, show k = lo by omega]
theorem clQ_lo {lo hi : Nat} {x : Int32} (h : ¬ nI lo ≤ x) : nI lo = nI (clQ lo hi x) := by
  unfold clQ
  rw [if_pos (by rw [← Int32.not_le]; exact h)]
theorem clQ_hi {lo hi : Nat} {x : Int32} (h : nI lo ≤ x) (h2 : ¬ x ≤ nI hi) : nI hi = nI (clQ lo hi x) := by
  unfold clQ
  rw [if_neg (fun u => by rw [← Int32.not_le] at u; exact u h), if_pos (by rw [← Int32.not_le]; exact h2)]
theorem clQ_me {lo hi : Nat} {x : Int32} (hl : lo < 2 ^ 31) (h : nI lo ≤ x) (h2 : x ≤ nI hi) : x = nI (clQ lo hi x) := by
  unfold clQ
  rw [if_neg (fun u => by rw [← Int32.not_le] at u; exact u h), if_neg (fun u => by rw [← Int32.not_le] at u; exact u h2)]
  have z : ¬ x < 0 := fun u => by
    have := Int32.lt_of_le_of_lt h u
    exact nI_pos hl this
  obtain ⟨k, hk, rfl⟩ := nI_of z
  rw [show tn (nI k) = k from nI_clamp hk]
theorem inX7_init_RX7 : ∀ {w : Cond}, w ∈ u_ws RX7 TX7 23 → w ∈ wsX7_init := fun {w} h => by first | exact List.mem_cons_of_mem _ (List.mem_append_right _ h) | (revert h; revert w; show ∀ w ∈ u_ws RX7 TX7 23, w ∈ wsX7_init; decide +kernel)
set_option maxHeartbeats 4000000 in
set_option maxRecDepth 100000 in
theorem cc_X7_init (l : Launch) (D : va_G) (cA : Nat → ClassId) (sz a : Nat) (x1 x2 : Int32)  : Met l yX7_init wsX7_init { frames := 2, cells := 13, slots := 408400, locals := 60 } (va_Pc [.ref a, .int x1, .int x2] (cPre D cA [(a, .inr (10, [.int 0, .int 0, .int 0, .int 0, .null, .null, .null, .int 0, .null, .null, .null, .int 0, .int 0, .int 0, .int 0, .null, .null, .null, .int 0, .null, .null, .null, .null]))] sz)) (va_Qv (fun _ : Nat → Nat => True) (cAt D (va_A [(a, .inr (10, [.int 0, .int 0, .int 0, .int 0, .null, .null, .null, .int 0, .null, .null, .null, .int 0, .int 0, .int 0, .int 0, .null, .null, .null, .int 0, .null, .null, .null, .null]))] sz) (fun u => [(a, .inr (10, [.int 0, .int (nI (clQ 2 8 x1)), .int (nI (clQ 1 3 x2)), .int 0, .ref (u 0), .ref (u 1), .ref (u 2), .int 0, .ref (u 3), .ref (u 4), .ref (u 5), .int 0, .int 0, .int 0, .int 0, .ref (u 6), .ref (u 7), .ref (u 8), .int 0, .ref (u 9), .ref (u 10), .ref (u 11), .ref (u 12)])), (u 0, eI cA 48), (u 1, eI cA 48), (u 2, eZ cA 8), (u 3, eI cA 4), (u 4, eI cA 4), (u 5, eI cA 4), (u 6, eI cA 136080), (u 7, eI cA 136080), (u 8, eI cA 136080), (u 9, eI cA 32), (u 10, eI cA 4), (u 11, eI cA 4), (u 12, eZ cA 4)])) (va_A [(a, .inr (10, [.int 0, .int 0, .int 0, .int 0, .null, .null, .null, .int 0, .null, .null, .null, .int 0, .int 0, .int 0, .int 0, .null, .null, .null, .int 0, .null, .null, .null, .null]))] sz)) 13 (408400) (va_A [(a, .inr (10, [.int 0, .int 0, .int 0, .int 0, .null, .null, .null, .int 0, .null, .null, .null, .int 0, .int 0, .int 0, .int 0, .null, .null, .null, .int 0, .null, .null, .null, .null]))] sz) := by
  refine Met.ofW (cc := cX7_init) (maxL := 3) (ret := none) (by decide) rfl ?_
  intro p e s m args below meth c s₁ B hml hv
  obtain ⟨rfl, hsz, hP, hK, hD0, hN⟩ := hv
  have hx := B.exec
  have hb := B.bytes
  have hr := B.returns
  have hts := atoms_spec (ws := wsX7_init) B.pre
  have hown : s.vm.findClass RX7 = some m.cls := findClass_of_methodNamed B.named
  have hini : meth.name = "<init>" := (name_of_methodNamed B.named B.method).1
  subst hsz
  have hD := hD0.self (sz := s.heap.size)
  generalize hAe : va_A [(a, .inr (10, [.int 0, .int 0, .int 0, .int 0, .null, .null, .null, .int 0, .null, .null, .null, .int 0, .int 0, .int 0, .int 0, .null, .null, .null, .int 0, .null, .null, .null, .null]))] s.heap.size = A at hD ⊢
  have hA : ∀ q : Nat, s.heap.size ≤ q → A q := fun q h => by rw [← hAe]; exact Or.inr h
  have hS : va_S A s.heap s.heap [] := va_S.rf
  have hRf : 2 ≤ (headSpec wsX7_init { frames := 2, cells := 13, slots := 408400, locals := 60 }).room.frames := Nat.le_refl _
  have hRl : 60 ≤ (headSpec wsX7_init { frames := 2, cells := 13, slots := 408400, locals := 60 }).room.locals := Nat.le_refl _
  have hRc : 13 ≤ (headSpec wsX7_init { frames := 2, cells := 13, slots := 408400, locals := 60 }).room.cells := Nat.le_refl _
  have hRs : 408400 ≤ (headSpec wsX7_init { frames := 2, cells := 13, slots := 408400, locals := 60 }).room.slots := Nat.le_refl _
  have hl := lv_entry ([.ref a, .int x1, .int x2]) (n := 3) (Nat.le_of_ble_eq_true rfl)
  rw [lg_entry_eq]
  generalize (lg_sl ([.ref a, .int x1, .int x2]) ++ List.replicate (3 - (lg_sl ([.ref a, .int x1, .int x2])).length) Slot.unset).toArray = ls at hl ⊢
  have hl : lv_has ls 3 [(0, .ref a), (1, .int x1), (2, .int x2)] := hl
  refine lv_aload_n hx hb dX7_init_0 rfl (lv_at hl 0 rfl) ?_
  refine W.objInit hx hb hown (hts (.methodLink RX7 1 objectInit) (by decide +kernel)) (hts (.instanceMethod objectInit) (by decide +kernel)) (hts (.code objectInit ⟨#[0xb1]⟩ 1 none) (by decide +kernel)) rfl (by rw [hml]; exact hl.1) rfl dX7_init_1 (gle hRf rfl) (gle hRl rfl) ?_
  refine W.eq (g2 := F0 m 4 ls []) rfl ?_
  refine lv_aload_n hx hb dX7_init_4 rfl (lv_at hl 0 rfl) ?_
  refine lv_bipush (v := nI 48) hx hb dX7_init_5 (by decide) ?_
  refine cy_newI (N := 48) hx hb (hts (.arrayClass .int) (by decide +kernel)) hK hP hD hS hA (by omega) (by omega) (by omega) dX7_init_7 (fun q1 H hP hD hS => ?_)
  have hP : va_P D vwCl [(a, .inr (10, [.int 0, .int 0, .int 0, .int 0, .null, .null, .null, .int 0, .null, .null, .null, .int 0, .int 0, .int 0, .int 0, .null, .null, .null, .int 0, .null, .null, .null, .null])), (q1, eI cA 48)] H := hP
  have hD : va_D A [(a, .inr (10, [.int 0, .int 0, .int 0, .int 0, .null, .null, .null, .int 0, .null, .null, .null, .int 0, .int 0, .int 0, .int 0, .null, .null, .null, .int 0, .null, .null, .null, .null])), (q1, eI cA 48)] := hD
  refine va_putF (D := D) (ci := 10) (v := .ref q1) (ty := (.array .int)) (C := RX7) (T := TX7) (N := 23) hx hb hts (fun _ h => inX7_init_RX7 h) tyX7 tyX7_ok nmX7 hown hK hP hD hS 0 rfl rfl 4 (by decide) (hts (.fieldLink RX7 7 "CosetTablesModel" "to" "[I") (by decide +kernel)) (fun _ h9 => h9) rfl hini rfl (by decide +kernel) rfl rfl (Nat.le_of_ble_eq_true rfl) dX7_init_9 (fun H locs hP hD hS => ?_)
  have hP : va_P D vwCl [(a, .inr (10, [.int 0, .int 0, .int 0, .int 0, .ref q1, .null, .null, .int 0, .null, .null, .null, .int 0, .int 0, .int 0, .int 0, .null, .null, .null, .int 0, .null, .null, .null, .null])), (q1, eI cA 48)] H := hP
  have hD : va_D A [(a, .inr (10, [.int 0, .int 0, .int 0, .int 0, .ref q1, .null, .null, .int 0, .null, .null, .null, .int 0, .int 0, .int 0, .int 0, .null, .null, .null, .int 0, .null, .null, .null, .null])), (q1, eI cA 48)] := hD
  refine lv_aload_n hx hb dX7_init_12 rfl (lv_at hl 0 rfl) ?_
  refine lv_bipush (v := nI 48) hx hb dX7_init_13 (by decide) ?_
  refine cy_newI (N := 48) hx hb (hts (.arrayClass .int) (by decide +kernel)) hK hP hD hS hA (by omega) (by omega) (by omega) dX7_init_15 (fun q2 H hP hD hS => ?_)
  have hP : va_P D vwCl [(a, .inr (10, [.int 0, .int 0, .int 0, .int 0, .ref q1, .null, .null, .int 0, .null, .null, .null, .int 0, .int 0, .int 0, .int 0, .null, .null, .null, .int 0, .null, .null, .null, .null])), (q1, eI cA 48), (q2, eI cA 48)] H := hP
  have hD : va_D A [(a, .inr (10, [.int 0, .int 0, .int 0, .int 0, .ref q1, .null, .null, .int 0, .null, .null, .null, .int 0, .int 0, .int 0, .int 0, .null, .null, .null, .int 0, .null, .null, .null, .null])), (q1, eI cA 48), (q2, eI cA 48)] := hD
  refine va_putF (D := D) (ci := 10) (v := .ref q2) (ty := (.array .int)) (C := RX7) (T := TX7) (N := 23) hx hb hts (fun _ h => inX7_init_RX7 h) tyX7 tyX7_ok nmX7 hown hK hP hD hS 0 rfl rfl 5 (by decide) (hts (.fieldLink RX7 13 "CosetTablesModel" "add" "[I") (by decide +kernel)) (fun _ h9 => h9) rfl hini rfl (by decide +kernel) rfl rfl (Nat.le_of_ble_eq_true rfl) dX7_init_17 (fun H locs hP hD hS => ?_)
  have hP : va_P D vwCl [(a, .inr (10, [.int 0, .int 0, .int 0, .int 0, .ref q1, .ref q2, .null, .int 0, .null, .null, .null, .int 0, .int 0, .int 0, .int 0, .null, .null, .null, .int 0, .null, .null, .null, .null])), (q1, eI cA 48), (q2, eI cA 48)] H := hP
  have hD : va_D A [(a, .inr (10, [.int 0, .int 0, .int 0, .int 0, .ref q1, .ref q2, .null, .int 0, .null, .null, .null, .int 0, .int 0, .int 0, .int 0, .null, .null, .null, .int 0, .null, .null, .null, .null])), (q1, eI cA 48), (q2, eI cA 48)] := hD
  refine lv_aload_n hx hb dX7_init_20 rfl (lv_at hl 0 rfl) ?_
  refine lv_bipush (v := nI 8) hx hb dX7_init_21 (by decide) ?_
  refine cy_newZ (N := 8) hx hb (hts (.arrayClass .boolean) (by decide +kernel)) hK hP hD hS hA (by omega) (by omega) (by omega) dX7_init_23 (fun q3 H hP hD hS => ?_)
  have hP : va_P D vwCl [(a, .inr (10, [.int 0, .int 0, .int 0, .int 0, .ref q1, .ref q2, .null, .int 0, .null, .null, .null, .int 0, .int 0, .int 0, .int 0, .null, .null, .null, .int 0, .null, .null, .null, .null])), (q1, eI cA 48), (q2, eI cA 48), (q3, eZ cA 8)] H := hP
  have hD : va_D A [(a, .inr (10, [.int 0, .int 0, .int 0, .int 0, .ref q1, .ref q2, .null, .int 0, .null, .null, .null, .int 0, .int 0, .int 0, .int 0, .null, .null, .null, .int 0, .null, .null, .null, .null])), (q1, eI cA 48), (q2, eI cA 48), (q3, eZ cA 8)] := hD
  refine va_putF (D := D) (ci := 10) (v := .ref q3) (ty := (.array .boolean)) (C := RX7) (T := TX7) (N := 23) hx hb hts (fun _ h => inX7_init_RX7 h) tyX7 tyX7_ok nmX7 hown hK hP hD hS 0 rfl rfl 6 (by decide) (hts (.fieldLink RX7 16 "CosetTablesModel" "isChosen" "[Z") (by decide +kernel)) (fun _ h9 => h9) rfl hini rfl (by decide +kernel) rfl rfl (Nat.le_of_ble_eq_true rfl) dX7_init_25 (fun H locs hP hD hS => ?_)
  have hP : va_P D vwCl [(a, .inr (10, [.int 0, .int 0, .int 0, .int 0, .ref q1, .ref q2, .ref q3, .int 0, .null, .null, .null, .int 0, .int 0, .int 0, .int 0, .null, .null, .null, .int 0, .null, .null, .null, .null])), (q1, eI cA 48), (q2, eI cA 48), (q3, eZ cA 8)] H := hP
  have hD : va_D A [(a, .inr (10, [.int 0, .int 0, .int 0, .int 0, .ref q1, .ref q2, .ref q3, .int 0, .null, .null, .null, .int 0, .int 0, .int 0, .int 0, .null, .null, .null, .int 0, .null, .null, .null, .null])), (q1, eI cA 48), (q2, eI cA 48), (q3, eZ cA 8)] := hD
  refine lv_aload_n hx hb dX7_init_28 rfl (lv_at hl 0 rfl) ?_
  refine lv_iconst (v := nI 4) hx hb dX7_init_29 (by decide) ?_
  refine cy_newI (N := 4) hx hb (hts (.arrayClass .int) (by decide +kernel)) hK hP hD hS hA (by omega) (by omega) (by omega) dX7_init_30 (fun q4 H hP hD hS => ?_)
  have hP : va_P D vwCl [(a, .inr (10, [.int 0, .int 0, .int 0, .int 0, .ref q1, .ref q2, .ref q3, .int 0, .null, .null, .null, .int 0, .int 0, .int 0, .int 0, .null, .null, .null, .int 0, .null, .null, .null, .null])), (q1, eI cA 48), (q2, eI cA 48), (q3, eZ cA 8), (q4, eI cA 4)] H := hP
  have hD : va_D A [(a, .inr (10, [.int 0, .int 0, .int 0, .int 0, .ref q1, .ref q2, .ref q3, .int 0, .null, .null, .null, .int 0, .int 0, .int 0, .int 0, .null, .null, .null, .int 0, .null, .null, .null, .null])), (q1, eI cA 48), (q2, eI cA 48), (q3, eZ cA 8), (q4, eI cA 4)] := hD
  refine va_putF (D := D) (ci := 10) (v := .ref q4) (ty := (.array .int)) (C := RX7) (T := TX7) (N := 23) hx hb hts (fun _ h => inX7_init_RX7 h) tyX7 tyX7_ok nmX7 hown hK hP hD hS 0 rfl rfl 8 (by decide) (hts (.fieldLink RX7 20 "CosetTablesModel" "pieces" "[I") (by decide +kernel)) (fun _ h9 => h9) rfl hini rfl (by decide +kernel) rfl rfl (Nat.le_of_ble_eq_true rfl) dX7_init_32 (fun H locs hP hD hS => ?_)
  have hP : va_P D vwCl [(a, .inr (10, [.int 0, .int 0, .int 0, .int 0, .ref q1, .ref q2, .ref q3, .int 0, .ref q4, .null, .null, .int 0, .int 0, .int 0, .int 0, .null, .null, .null, .int 0, .null, .null, .null, .null])), (q1, eI cA 48), (q2, eI cA 48), (q3, eZ cA 8), (q4, eI cA 4)] H := hP
  have hD : va_D A [(a, .inr (10, [.int 0, .int 0, .int 0, .int 0, .ref q1, .ref q2, .ref q3, .int 0, .ref q4, .null, .null, .int 0, .int 0, .int 0, .int 0, .null, .null, .null, .int 0, .null, .null, .null, .null])), (q1, eI cA 48), (q2, eI cA 48), (q3, eZ cA 8), (q4, eI cA 4)] := hD
  refine lv_aload_n hx hb dX7_init_35 rfl (lv_at hl 0 rfl) ?_
  refine lv_iconst (v := nI 4) hx hb dX7_init_36 (by decide) ?_
  refine cy_newI (N := 4) hx hb (hts (.arrayClass .int) (by decide +kernel)) hK hP hD hS hA (by omega) (by omega) (by omega) dX7_init_37 (fun q5 H hP hD hS => ?_)
  have hP : va_P D vwCl [(a, .inr (10, [.int 0, .int 0, .int 0, .int 0, .ref q1, .ref q2, .ref q3, .int 0, .ref q4, .null, .null, .int 0, .int 0, .int 0, .int 0, .null, .null, .null, .int 0, .null, .null, .null, .null])), (q1, eI cA 48), (q2, eI cA 48), (q3, eZ cA 8), (q4, eI cA 4), (q5, eI cA 4)] H := hP
  have hD : va_D A [(a, .inr (10, [.int 0, .int 0, .int 0, .int 0, .ref q1, .ref q2, .ref q3, .int 0, .ref q4, .null, .null, .int 0, .int 0, .int 0, .int 0, .null, .null, .null, .int 0, .null, .null, .null, .null])), (q1, eI cA 48), (q2, eI cA 48), (q3, eZ cA 8), (q4, eI cA 4), (q5, eI cA 4)] := hD
  refine va_putF (D := D) (ci := 10) (v := .ref q5) (ty := (.array .int)) (C := RX7) (T := TX7) (N := 23) hx hb hts (fun _ h => inX7_init_RX7 h) tyX7 tyX7_ok nmX7 hown hK hP hD hS 0 rfl rfl 9 (by decide) (hts (.fieldLink RX7 23 "CosetTablesModel" "where" "[I") (by decide +kernel)) (fun _ h9 => h9) rfl hini rfl (by decide +kernel) rfl rfl (Nat.le_of_ble_eq_true rfl) dX7_init_39 (fun H locs hP hD hS => ?_)
  have hP : va_P D vwCl [(a, .inr (10, [.int 0, .int 0, .int 0, .int 0, .ref q1, .ref q2, .ref q3, .int 0, .ref q4, .ref q5, .null, .int 0, .int 0, .int 0, .int 0, .null, .null, .null, .int 0, .null, .null, .null, .null])), (q1, eI cA 48), (q2, eI cA 48), (q3, eZ cA 8), (q4, eI cA 4), (q5, eI cA 4)] H := hP
  have hD : va_D A [(a, .inr (10, [.int 0, .int 0, .int 0, .int 0, .ref q1, .ref q2, .ref q3, .int 0, .ref q4, .ref q5, .null, .int 0, .int 0, .int 0, .int 0, .null, .null, .null, .int 0, .null, .null, .null, .null])), (q1, eI cA 48), (q2, eI cA 48), (q3, eZ cA 8), (q4, eI cA 4), (q5, eI cA 4)] := hD
  refine lv_aload_n hx hb dX7_init_42 rfl (lv_at hl 0 rfl) ?_
  refine lv_iconst (v := nI 4) hx hb dX7_init_43 (by decide) ?_
  refine cy_newI (N := 4) hx hb (hts (.arrayClass .int) (by decide +kernel)) hK hP hD hS hA (by omega) (by omega) (by omega) dX7_init_44 (fun q6 H hP hD hS => ?_)
  have hP : va_P D vwCl [(a, .inr (10, [.int 0, .int 0, .int 0, .int 0, .ref q1, .ref q2, .ref q3, .int 0, .ref q4, .ref q5, .null, .int 0, .int 0, .int 0, .int 0, .null, .null, .null, .int 0, .null, .null, .null, .null])), (q1, eI cA 48), (q2, eI cA 48), (q3, eZ cA 8), (q4, eI cA 4), (q5, eI cA 4), (q6, eI cA 4)] H := hP
  have hD : va_D A [(a, .inr (10, [.int 0, .int 0, .int 0, .int 0, .ref q1, .ref q2, .ref q3, .int 0, .ref q4, .ref q5, .null, .int 0, .int 0, .int 0, .int 0, .null, .null, .null, .int 0, .null, .null, .null, .null])), (q1, eI cA 48), (q2, eI cA 48), (q3, eZ cA 8), (q4, eI cA 4), (q5, eI cA 4), (q6, eI cA 4)] := hD
  refine va_putF (D := D) (ci := 10) (v := .ref q6) (ty := (.array .int)) (C := RX7) (T := TX7) (N := 23) hx hb hts (fun _ h => inX7_init_RX7 h) tyX7 tyX7_ok nmX7 hown hK hP hD hS 0 rfl rfl 10 (by decide) (hts (.fieldLink RX7 26 "CosetTablesModel" "twist" "[I") (by decide +kernel)) (fun _ h9 => h9) rfl hini rfl (by decide +kernel) rfl rfl (Nat.le_of_ble_eq_true rfl) dX7_init_46 (fun H locs hP hD hS => ?_)
  have hP : va_P D vwCl [(a, .inr (10, [.int 0, .int 0, .int 0, .int 0, .ref q1, .ref q2, .ref q3, .int 0, .ref q4, .ref q5, .ref q6, .int 0, .int 0, .int 0, .int 0, .null, .null, .null, .int 0, .null, .null, .null, .null])), (q1, eI cA 48), (q2, eI cA 48), (q3, eZ cA 8), (q4, eI cA 4), (q5, eI cA 4), (q6, eI cA 4)] H := hP
  have hD : va_D A [(a, .inr (10, [.int 0, .int 0, .int 0, .int 0, .ref q1, .ref q2, .ref q3, .int 0, .ref q4, .ref q5, .ref q6, .int 0, .int 0, .int 0, .int 0, .null, .null, .null, .int 0, .null, .null, .null, .null])), (q1, eI cA 48), (q2, eI cA 48), (q3, eZ cA 8), (q4, eI cA 4), (q5, eI cA 4), (q6, eI cA 4)] := hD
  refine lv_aload_n hx hb dX7_init_49 rfl (lv_at hl 0 rfl) ?_
  refine lv_ldc (v := 136080) hx hb hown (hts (.constant RX7 29 (136080)) (by decide +kernel)) dX7_init_50 ?_
  refine gx_as (y := nI 136080) (by decide) ?_
  refine cy_newI (N := 136080) hx hb (hts (.arrayClass .int) (by decide +kernel)) hK hP hD hS hA (by omega) (by omega) (by omega) dX7_init_52 (fun q7 H hP hD hS => ?_)
  have hP : va_P D vwCl [(a, .inr (10, [.int 0, .int 0, .int 0, .int 0, .ref q1, .ref q2, .ref q3, .int 0, .ref q4, .ref q5, .ref q6, .int 0, .int 0, .int 0, .int 0, .null, .null, .null, .int 0, .null, .null, .null, .null])), (q1, eI cA 48), (q2, eI cA 48), (q3, eZ cA 8), (q4, eI cA 4), (q5, eI cA 4), (q6, eI cA 4), (q7, eI cA 136080)] H := hP
  have hD : va_D A [(a, .inr (10, [.int 0, .int 0, .int 0, .int 0, .ref q1, .ref q2, .ref q3, .int 0, .ref q4, .ref q5, .ref q6, .int 0, .int 0, .int 0, .int 0, .null, .null, .null, .int 0, .null, .null, .null, .null])), (q1, eI cA 48), (q2, eI cA 48), (q3, eZ cA 8), (q4, eI cA 4), (q5, eI cA 4), (q6, eI cA 4), (q7, eI cA 136080)] := hD
  refine va_putF (D := D) (ci := 10) (v := .ref q7) (ty := (.array .int)) (C := RX7) (T := TX7) (N := 23) hx hb hts (fun _ h => inX7_init_RX7 h) tyX7 tyX7_ok nmX7 hown hK hP hD hS 0 rfl rfl 15 (by decide) (hts (.fieldLink RX7 30 "CosetTablesModel" "values" "[I") (by decide +kernel)) (fun _ h9 => h9) rfl hini rfl (by decide +kernel) rfl rfl (Nat.le_of_ble_eq_true rfl) dX7_init_54 (fun H locs hP hD hS => ?_)
  have hP : va_P D vwCl [(a, .inr (10, [.int 0, .int 0, .int 0, .int 0, .ref q1, .ref q2, .ref q3, .int 0, .ref q4, .ref q5, .ref q6, .int 0, .int 0, .int 0, .int 0, .ref q7, .null, .null, .int 0, .null, .null, .null, .null])), (q1, eI cA 48), (q2, eI cA 48), (q3, eZ cA 8), (q4, eI cA 4), (q5, eI cA 4), (q6, eI cA 4), (q7, eI cA 136080)] H := hP
  have hD : va_D A [(a, .inr (10, [.int 0, .int 0, .int 0, .int 0, .ref q1, .ref q2, .ref q3, .int 0, .ref q4, .ref q5, .ref q6, .int 0, .int 0, .int 0, .int 0, .ref q7, .null, .null, .int 0, .null, .null, .null, .null])), (q1, eI cA 48), (q2, eI cA 48), (q3, eZ cA 8), (q4, eI cA 4), (q5, eI cA 4), (q6, eI cA 4), (q7, eI cA 136080)] := hD
  refine lv_aload_n hx hb dX7_init_57 rfl (lv_at hl 0 rfl) ?_
  refine lv_ldc (v := 136080) hx hb hown (hts (.constant RX7 29 (136080)) (by decide +kernel)) dX7_init_58 ?_
  refine gx_as (y := nI 136080) (by decide) ?_
  refine cy_newI (N := 136080) hx hb (hts (.arrayClass .int) (by decide +kernel)) hK hP hD hS hA (by omega) (by omega) (by omega) dX7_init_60 (fun q8 H hP hD hS => ?_)
  have hP : va_P D vwCl [(a, .inr (10, [.int 0, .int 0, .int 0, .int 0, .ref q1, .ref q2, .ref q3, .int 0, .ref q4, .ref q5, .ref q6, .int 0, .int 0, .int 0, .int 0, .ref q7, .null, .null, .int 0, .null, .null, .null, .null])), (q1, eI cA 48), (q2, eI cA 48), (q3, eZ cA 8), (q4, eI cA 4), (q5, eI cA 4), (q6, eI cA 4), (q7, eI cA 136080), (q8, eI cA 136080)] H := hP
  have hD : va_D A [(a, .inr (10, [.int 0, .int 0, .int 0, .int 0, .ref q1, .ref q2, .ref q3, .int 0, .ref q4, .ref q5, .ref q6, .int 0, .int 0, .int 0, .int 0, .ref q7, .null, .null, .int 0, .null, .null, .null, .null])), (q1, eI cA 48), (q2, eI cA 48), (q3, eZ cA 8), (q4, eI cA 4), (q5, eI cA 4), (q6, eI cA 4), (q7, eI cA 136080), (q8, eI cA 136080)] := hD
  refine va_putF (D := D) (ci := 10) (v := .ref q8) (ty := (.array .int)) (C := RX7) (T := TX7) (N := 23) hx hb hts (fun _ h => inX7_init_RX7 h) tyX7 tyX7_ok nmX7 hown hK hP hD hS 0 rfl rfl 16 (by decide) (hts (.fieldLink RX7 33 "CosetTablesModel" "queue" "[I") (by decide +kernel)) (fun _ h9 => h9) rfl hini rfl (by decide +kernel) rfl rfl (Nat.le_of_ble_eq_true rfl) dX7_init_62 (fun H locs hP hD hS => ?_)
  have hP : va_P D vwCl [(a, .inr (10, [.int 0, .int 0, .int 0, .int 0, .ref q1, .ref q2, .ref q3, .int 0, .ref q4, .ref q5, .ref q6, .int 0, .int 0, .int 0, .int 0, .ref q7, .ref q8, .null, .int 0, .null, .null, .null, .null])), (q1, eI cA 48), (q2, eI cA 48), (q3, eZ cA 8), (q4, eI cA 4), (q5, eI cA 4), (q6, eI cA 4), (q7, eI cA 136080), (q8, eI cA 136080)] H := hP
  have hD : va_D A [(a, .inr (10, [.int 0, .int 0, .int 0, .int 0, .ref q1, .ref q2, .ref q3, .int 0, .ref q4, .ref q5, .ref q6, .int 0, .int 0, .int 0, .int 0, .ref q7, .ref q8, .null, .int 0, .null, .null, .null, .null])), (q1, eI cA 48), (q2, eI cA 48), (q3, eZ cA 8), (q4, eI cA 4), (q5, eI cA 4), (q6, eI cA 4), (q7, eI cA 136080), (q8, eI cA 136080)] := hD
  refine lv_aload_n hx hb dX7_init_65 rfl (lv_at hl 0 rfl) ?_
  refine lv_ldc (v := 136080) hx hb hown (hts (.constant RX7 29 (136080)) (by decide +kernel)) dX7_init_66 ?_
  refine gx_as (y := nI 136080) (by decide) ?_
  refine cy_newI (N := 136080) hx hb (hts (.arrayClass .int) (by decide +kernel)) hK hP hD hS hA (by omega) (by omega) (by omega) dX7_init_68 (fun q9 H hP hD hS => ?_)
  have hP : va_P D vwCl [(a, .inr (10, [.int 0, .int 0, .int 0, .int 0, .ref q1, .ref q2, .ref q3, .int 0, .ref q4, .ref q5, .ref q6, .int 0, .int 0, .int 0, .int 0, .ref q7, .ref q8, .null, .int 0, .null, .null, .null, .null])), (q1, eI cA 48), (q2, eI cA 48), (q3, eZ cA 8), (q4, eI cA 4), (q5, eI cA 4), (q6, eI cA 4), (q7, eI cA 136080), (q8, eI cA 136080), (q9, eI cA 136080)] H := hP
  have hD : va_D A [(a, .inr (10, [.int 0, .int 0, .int 0, .int 0, .ref q1, .ref q2, .ref q3, .int 0, .ref q4, .ref q5, .ref q6, .int 0, .int 0, .int 0, .int 0, .ref q7, .ref q8, .null, .int 0, .null, .null, .null, .null])), (q1, eI cA 48), (q2, eI cA 48), (q3, eZ cA 8), (q4, eI cA 4), (q5, eI cA 4), (q6, eI cA 4), (q7, eI cA 136080), (q8, eI cA 136080), (q9, eI cA 136080)] := hD
  refine va_putF (D := D) (ci := 10) (v := .ref q9) (ty := (.array .int)) (C := RX7) (T := TX7) (N := 23) hx hb hts (fun _ h => inX7_init_RX7 h) tyX7 tyX7_ok nmX7 hown hK hP hD hS 0 rfl rfl 17 (by decide) (hts (.fieldLink RX7 36 "CosetTablesModel" "marks" "[I") (by decide +kernel)) (fun _ h9 => h9) rfl hini rfl (by decide +kernel) rfl rfl (Nat.le_of_ble_eq_true rfl) dX7_init_70 (fun H locs hP hD hS => ?_)
  have hP : va_P D vwCl [(a, .inr (10, [.int 0, .int 0, .int 0, .int 0, .ref q1, .ref q2, .ref q3, .int 0, .ref q4, .ref q5, .ref q6, .int 0, .int 0, .int 0, .int 0, .ref q7, .ref q8, .ref q9, .int 0, .null, .null, .null, .null])), (q1, eI cA 48), (q2, eI cA 48), (q3, eZ cA 8), (q4, eI cA 4), (q5, eI cA 4), (q6, eI cA 4), (q7, eI cA 136080), (q8, eI cA 136080), (q9, eI cA 136080)] H := hP
  have hD : va_D A [(a, .inr (10, [.int 0, .int 0, .int 0, .int 0, .ref q1, .ref q2, .ref q3, .int 0, .ref q4, .ref q5, .ref q6, .int 0, .int 0, .int 0, .int 0, .ref q7, .ref q8, .ref q9, .int 0, .null, .null, .null, .null])), (q1, eI cA 48), (q2, eI cA 48), (q3, eZ cA 8), (q4, eI cA 4), (q5, eI cA 4), (q6, eI cA 4), (q7, eI cA 136080), (q8, eI cA 136080), (q9, eI cA 136080)] := hD
  refine lv_aload_n hx hb dX7_init_73 rfl (lv_at hl 0 rfl) ?_
  refine lv_bipush (v := nI 32) hx hb dX7_init_74 (by decide) ?_
  refine cy_newI (N := 32) hx hb (hts (.arrayClass .int) (by decide +kernel)) hK hP hD hS hA (by omega) (by omega) (by omega) dX7_init_76 (fun q10 H hP hD hS => ?_)
  have hP : va_P D vwCl [(a, .inr (10, [.int 0, .int 0, .int 0, .int 0, .ref q1, .ref q2, .ref q3, .int 0, .ref q4, .ref q5, .ref q6, .int 0, .int 0, .int 0, .int 0, .ref q7, .ref q8, .ref q9, .int 0, .null, .null, .null, .null])), (q1, eI cA 48), (q2, eI cA 48), (q3, eZ cA 8), (q4, eI cA 4), (q5, eI cA 4), (q6, eI cA 4), (q7, eI cA 136080), (q8, eI cA 136080), (q9, eI cA 136080), (q10, eI cA 32)] H := hP
  have hD : va_D A [(a, .inr (10, [.int 0, .int 0, .int 0, .int 0, .ref q1, .ref q2, .ref q3, .int 0, .ref q4, .ref q5, .ref q6, .int 0, .int 0, .int 0, .int 0, .ref q7, .ref q8, .ref q9, .int 0, .null, .null, .null, .null])), (q1, eI cA 48), (q2, eI cA 48), (q3, eZ cA 8), (q4, eI cA 4), (q5, eI cA 4), (q6, eI cA 4), (q7, eI cA 136080), (q8, eI cA 136080), (q9, eI cA 136080), (q10, eI cA 32)] := hD
  refine va_putF (D := D) (ci := 10) (v := .ref q10) (ty := (.array .int)) (C := RX7) (T := TX7) (N := 23) hx hb hts (fun _ h => inX7_init_RX7 h) tyX7 tyX7_ok nmX7 hown hK hP hD hS 0 rfl rfl 19 (by decide) (hts (.fieldLink RX7 39 "CosetTablesModel" "goes" "[I") (by decide +kernel)) (fun _ h9 => h9) rfl hini rfl (by decide +kernel) rfl rfl (Nat.le_of_ble_eq_true rfl) dX7_init_78 (fun H locs hP hD hS => ?_)
  have hP : va_P D vwCl [(a, .inr (10, [.int 0, .int 0, .int 0, .int 0, .ref q1, .ref q2, .ref q3, .int 0, .ref q4, .ref q5, .ref q6, .int 0, .int 0, .int 0, .int 0, .ref q7, .ref q8, .ref q9, .int 0, .ref q10, .null, .null, .null])), (q1, eI cA 48), (q2, eI cA 48), (q3, eZ cA 8), (q4, eI cA 4), (q5, eI cA 4), (q6, eI cA 4), (q7, eI cA 136080), (q8, eI cA 136080), (q9, eI cA 136080), (q10, eI cA 32)] H := hP
  have hD : va_D A [(a, .inr (10, [.int 0, .int 0, .int 0, .int 0, .ref q1, .ref q2, .ref q3, .int 0, .ref q4, .ref q5, .ref q6, .int 0, .int 0, .int 0, .int 0, .ref q7, .ref q8, .ref q9, .int 0, .ref q10, .null, .null, .null])), (q1, eI cA 48), (q2, eI cA 48), (q3, eZ cA 8), (q4, eI cA 4), (q5, eI cA 4), (q6, eI cA 4), (q7, eI cA 136080), (q8, eI cA 136080), (q9, eI cA 136080), (q10, eI cA 32)] := hD
  refine lv_aload_n hx hb dX7_init_81 rfl (lv_at hl 0 rfl) ?_
  refine lv_iconst (v := nI 4) hx hb dX7_init_82 (by decide) ?_
  refine cy_newI (N := 4) hx hb (hts (.arrayClass .int) (by decide +kernel)) hK hP hD hS hA (by omega) (by omega) (by omega) dX7_init_83 (fun q11 H hP hD hS => ?_)
  have hP : va_P D vwCl [(a, .inr (10, [.int 0, .int 0, .int 0, .int 0, .ref q1, .ref q2, .ref q3, .int 0, .ref q4, .ref q5, .ref q6, .int 0, .int 0, .int 0, .int 0, .ref q7, .ref q8, .ref q9, .int 0, .ref q10, .null, .null, .null])), (q1, eI cA 48), (q2, eI cA 48), (q3, eZ cA 8), (q4, eI cA 4), (q5, eI cA 4), (q6, eI cA 4), (q7, eI cA 136080), (q8, eI cA 136080), (q9, eI cA 136080), (q10, eI cA 32), (q11, eI cA 4)] H := hP
  have hD : va_D A [(a, .inr (10, [.int 0, .int 0, .int 0, .int 0, .ref q1, .ref q2, .ref q3, .int 0, .ref q4, .ref q5, .ref q6, .int 0, .int 0, .int 0, .int 0, .ref q7, .ref q8, .ref q9, .int 0, .ref q10, .null, .null, .null])), (q1, eI cA 48), (q2, eI cA 48), (q3, eZ cA 8), (q4, eI cA 4), (q5, eI cA 4), (q6, eI cA 4), (q7, eI cA 136080), (q8, eI cA 136080), (q9, eI cA 136080), (q10, eI cA 32), (q11, eI cA 4)] := hD
  refine va_putF (D := D) (ci := 10) (v := .ref q11) (ty := (.array .int)) (C := RX7) (T := TX7) (N := 23) hx hb hts (fun _ h => inX7_init_RX7 h) tyX7 tyX7_ok nmX7 hown hK hP hD hS 0 rfl rfl 20 (by decide) (hts (.fieldLink RX7 42 "CosetTablesModel" "keptWhere" "[I") (by decide +kernel)) (fun _ h9 => h9) rfl hini rfl (by decide +kernel) rfl rfl (Nat.le_of_ble_eq_true rfl) dX7_init_85 (fun H locs hP hD hS => ?_)
  have hP : va_P D vwCl [(a, .inr (10, [.int 0, .int 0, .int 0, .int 0, .ref q1, .ref q2, .ref q3, .int 0, .ref q4, .ref q5, .ref q6, .int 0, .int 0, .int 0, .int 0, .ref q7, .ref q8, .ref q9, .int 0, .ref q10, .ref q11, .null, .null])), (q1, eI cA 48), (q2, eI cA 48), (q3, eZ cA 8), (q4, eI cA 4), (q5, eI cA 4), (q6, eI cA 4), (q7, eI cA 136080), (q8, eI cA 136080), (q9, eI cA 136080), (q10, eI cA 32), (q11, eI cA 4)] H := hP
  have hD : va_D A [(a, .inr (10, [.int 0, .int 0, .int 0, .int 0, .ref q1, .ref q2, .ref q3, .int 0, .ref q4, .ref q5, .ref q6, .int 0, .int 0, .int 0, .int 0, .ref q7, .ref q8, .ref q9, .int 0, .ref q10, .ref q11, .null, .null])), (q1, eI cA 48), (q2, eI cA 48), (q3, eZ cA 8), (q4, eI cA 4), (q5, eI cA 4), (q6, eI cA 4), (q7, eI cA 136080), (q8, eI cA 136080), (q9, eI cA 136080), (q10, eI cA 32), (q11, eI cA 4)] := hD
  refine lv_aload_n hx hb dX7_init_88 rfl (lv_at hl 0 rfl) ?_
  refine lv_iconst (v := nI 4) hx hb dX7_init_89 (by decide) ?_
  refine cy_newI (N := 4) hx hb (hts (.arrayClass .int) (by decide +kernel)) hK hP hD hS hA (by omega) (by omega) (by omega) dX7_init_90 (fun q12 H hP hD hS => ?_)
  have hP : va_P D vwCl [(a, .inr (10, [.int 0, .int 0, .int 0, .int 0, .ref q1, .ref q2, .ref q3, .int 0, .ref q4, .ref q5, .ref q6, .int 0, .int 0, .int 0, .int 0, .ref q7, .ref q8, .ref q9, .int 0, .ref q10, .ref q11, .null, .null])), (q1, eI cA 48), (q2, eI cA 48), (q3, eZ cA 8), (q4, eI cA 4), (q5, eI cA 4), (q6, eI cA 4), (q7, eI cA 136080), (q8, eI cA 136080), (q9, eI cA 136080), (q10, eI cA 32), (q11, eI cA 4), (q12, eI cA 4)] H := hP
  have hD : va_D A [(a, .inr (10, [.int 0, .int 0, .int 0, .int 0, .ref q1, .ref q2, .ref q3, .int 0, .ref q4, .ref q5, .ref q6, .int 0, .int 0, .int 0, .int 0, .ref q7, .ref q8, .ref q9, .int 0, .ref q10, .ref q11, .null, .null])), (q1, eI cA 48), (q2, eI cA 48), (q3, eZ cA 8), (q4, eI cA 4), (q5, eI cA 4), (q6, eI cA 4), (q7, eI cA 136080), (q8, eI cA 136080), (q9, eI cA 136080), (q10, eI cA 32), (q11, eI cA 4), (q12, eI cA 4)] := hD
  refine va_putF (D := D) (ci := 10) (v := .ref q12) (ty := (.array .int)) (C := RX7) (T := TX7) (N := 23) hx hb hts (fun _ h => inX7_init_RX7 h) tyX7 tyX7_ok nmX7 hown hK hP hD hS 0 rfl rfl 21 (by decide) (hts (.fieldLink RX7 45 "CosetTablesModel" "keptTwist" "[I") (by decide +kernel)) (fun _ h9 => h9) rfl hini rfl (by decide +kernel) rfl rfl (Nat.le_of_ble_eq_true rfl) dX7_init_92 (fun H locs hP hD hS => ?_)
  have hP : va_P D vwCl [(a, .inr (10, [.int 0, .int 0, .int 0, .int 0, .ref q1, .ref q2, .ref q3, .int 0, .ref q4, .ref q5, .ref q6, .int 0, .int 0, .int 0, .int 0, .ref q7, .ref q8, .ref q9, .int 0, .ref q10, .ref q11, .ref q12, .null])), (q1, eI cA 48), (q2, eI cA 48), (q3, eZ cA 8), (q4, eI cA 4), (q5, eI cA 4), (q6, eI cA 4), (q7, eI cA 136080), (q8, eI cA 136080), (q9, eI cA 136080), (q10, eI cA 32), (q11, eI cA 4), (q12, eI cA 4)] H := hP
  have hD : va_D A [(a, .inr (10, [.int 0, .int 0, .int 0, .int 0, .ref q1, .ref q2, .ref q3, .int 0, .ref q4, .ref q5, .ref q6, .int 0, .int 0, .int 0, .int 0, .ref q7, .ref q8, .ref q9, .int 0, .ref q10, .ref q11, .ref q12, .null])), (q1, eI cA 48), (q2, eI cA 48), (q3, eZ cA 8), (q4, eI cA 4), (q5, eI cA 4), (q6, eI cA 4), (q7, eI cA 136080), (q8, eI cA 136080), (q9, eI cA 136080), (q10, eI cA 32), (q11, eI cA 4), (q12, eI cA 4)] := hD
  refine lv_aload_n hx hb dX7_init_95 rfl (lv_at hl 0 rfl) ?_
  refine lv_iconst (v := nI 4) hx hb dX7_init_96 (by decide) ?_
  refine cy_newZ (N := 4) hx hb (hts (.arrayClass .boolean) (by decide +kernel)) hK hP hD hS hA (by omega) (by omega) (by omega) dX7_init_97 (fun q13 H hP hD hS => ?_)
  have hP : va_P D vwCl [(a, .inr (10, [.int 0, .int 0, .int 0, .int 0, .ref q1, .ref q2, .ref q3, .int 0, .ref q4, .ref q5, .ref q6, .int 0, .int 0, .int 0, .int 0, .ref q7, .ref q8, .ref q9, .int 0, .ref q10, .ref q11, .ref q12, .null])), (q1, eI cA 48), (q2, eI cA 48), (q3, eZ cA 8), (q4, eI cA 4), (q5, eI cA 4), (q6, eI cA 4), (q7, eI cA 136080), (q8, eI cA 136080), (q9, eI cA 136080), (q10, eI cA 32), (q11, eI cA 4), (q12, eI cA 4), (q13, eZ cA 4)] H := hP
  have hD : va_D A [(a, .inr (10, [.int 0, .int 0, .int 0, .int 0, .ref q1, .ref q2, .ref q3, .int 0, .ref q4, .ref q5, .ref q6, .int 0, .int 0, .int 0, .int 0, .ref q7, .ref q8, .ref q9, .int 0, .ref q10, .ref q11, .ref q12, .null])), (q1, eI cA 48), (q2, eI cA 48), (q3, eZ cA 8), (q4, eI cA 4), (q5, eI cA 4), (q6, eI cA 4), (q7, eI cA 136080), (q8, eI cA 136080), (q9, eI cA 136080), (q10, eI cA 32), (q11, eI cA 4), (q12, eI cA 4), (q13, eZ cA 4)] := hD
  refine va_putF (D := D) (ci := 10) (v := .ref q13) (ty := (.array .boolean)) (C := RX7) (T := TX7) (N := 23) hx hb hts (fun _ h => inX7_init_RX7 h) tyX7 tyX7_ok nmX7 hown hK hP hD hS 0 rfl rfl 22 (by decide) (hts (.fieldLink RX7 48 "CosetTablesModel" "isGoods" "[Z") (by decide +kernel)) (fun _ h9 => h9) rfl hini rfl (by decide +kernel) rfl rfl (Nat.le_of_ble_eq_true rfl) dX7_init_99 (fun H locs hP hD hS => ?_)
  have hP : va_P D vwCl [(a, .inr (10, [.int 0, .int 0, .int 0, .int 0, .ref q1, .ref q2, .ref q3, .int 0, .ref q4, .ref q5, .ref q6, .int 0, .int 0, .int 0, .int 0, .ref q7, .ref q8, .ref q9, .int 0, .ref q10, .ref q11, .ref q12, .ref q13])), (q1, eI cA 48), (q2, eI cA 48), (q3, eZ cA 8), (q4, eI cA 4), (q5, eI cA 4), (q6, eI cA 4), (q7, eI cA 136080), (q8, eI cA 136080), (q9, eI cA 136080), (q10, eI cA 32), (q11, eI cA 4), (q12, eI cA 4), (q13, eZ cA 4)] H := hP
  have hD : va_D A [(a, .inr (10, [.int 0, .int 0, .int 0, .int 0, .ref q1, .ref q2, .ref q3, .int 0, .ref q4, .ref q5, .ref q6, .int 0, .int 0, .int 0, .int 0, .ref q7, .ref q8, .ref q9, .int 0, .ref q10, .ref q11, .ref q12, .ref q13])), (q1, eI cA 48), (q2, eI cA 48), (q3, eZ cA 8), (q4, eI cA 4), (q5, eI cA 4), (q6, eI cA 4), (q7, eI cA 136080), (q8, eI cA 136080), (q9, eI cA 136080), (q10, eI cA 32), (q11, eI cA 4), (q12, eI cA 4), (q13, eZ cA 4)] := hD
  refine lv_aload_n hx hb dX7_init_102 rfl (lv_at hl 0 rfl) ?_
  refine lv_iload_n hx hb dX7_init_103 rfl (lv_at hl 1 rfl) ?_
  refine lv_iconst (v := nI 2) hx hb dX7_init_104 (by decide) ?_
  refine lv_icmp_ge (tgt := 112) hx hb dX7_init_105 (by decide) (fun c_105 => ?_) (fun c_105 => ?_)
  · skip
    refine lv_iload_n hx hb dX7_init_112 rfl (lv_at hl 1 rfl) ?_
    refine lv_bipush (v := nI 8) hx hb dX7_init_113 (by decide) ?_
    refine lv_icmp_le (tgt := 123) hx hb dX7_init_115 (by decide) (fun c_115 => ?_) (fun c_115 => ?_)
    · skip
      refine lv_iload_n hx hb dX7_init_123 rfl (lv_at hl 1 rfl) ?_
      refine gx_as (y := nI (clQ 2 8 x1)) (clQ_me (by decide) c_105 c_115) ?_
      refine va_putF (D := D) (ci := 10) (v := .int (nI (clQ 2 8 x1))) (ty := .int) (C := RX7) (T := TX7) (N := 23) hx hb hts (fun _ h => inX7_init_RX7 h) tyX7 tyX7_ok nmX7 hown hK hP hD hS 0 rfl rfl 1 (by decide) (hts (.fieldLink RX7 51 "CosetTablesModel" "places" "I") (by decide +kernel)) (fun _ h9 => h9) rfl hini rfl (by decide +kernel) rfl rfl (Nat.le_of_ble_eq_true rfl) dX7_init_124 (fun H locs hP hD hS => ?_)
      have hP : va_P D vwCl [(a, .inr (10, [.int 0, .int (nI (clQ 2 8 x1)), .int 0, .int 0, .ref q1, .ref q2, .ref q3, .int 0, .ref q4, .ref q5, .ref q6, .int 0, .int 0, .int 0, .int 0, .ref q7, .ref q8, .ref q9, .int 0, .ref q10, .ref q11, .ref q12, .ref q13])), (q1, eI cA 48), (q2, eI cA 48), (q3, eZ cA 8), (q4, eI cA 4), (q5, eI cA 4), (q6, eI cA 4), (q7, eI cA 136080), (q8, eI cA 136080), (q9, eI cA 136080), (q10, eI cA 32), (q11, eI cA 4), (q12, eI cA 4), (q13, eZ cA 4)] H := hP
      have hD : va_D A [(a, .inr (10, [.int 0, .int (nI (clQ 2 8 x1)), .int 0, .int 0, .ref q1, .ref q2, .ref q3, .int 0, .ref q4, .ref q5, .ref q6, .int 0, .int 0, .int 0, .int 0, .ref q7, .ref q8, .ref q9, .int 0, .ref q10, .ref q11, .ref q12, .ref q13])), (q1, eI cA 48), (q2, eI cA 48), (q3, eZ cA 8), (q4, eI cA 4), (q5, eI cA 4), (q6, eI cA 4), (q7, eI cA 136080), (q8, eI cA 136080), (q9, eI cA 136080), (q10, eI cA 32), (q11, eI cA 4), (q12, eI cA 4), (q13, eZ cA 4)] := hD
      refine lv_aload_n hx hb dX7_init_127 rfl (lv_at hl 0 rfl) ?_
      refine lv_iload_n hx hb dX7_init_128 rfl (lv_at hl 2 rfl) ?_
      refine lv_iconst (v := nI 1) hx hb dX7_init_129 (by decide) ?_
      refine lv_icmp_ge (tgt := 137) hx hb dX7_init_130 (by decide) (fun c_130 => ?_) (fun c_130 => ?_)
      · skip
        refine lv_iload_n hx hb dX7_init_137 rfl (lv_at hl 2 rfl) ?_
        refine lv_iconst (v := nI 3) hx hb dX7_init_138 (by decide) ?_
        refine lv_icmp_le (tgt := 146) hx hb dX7_init_139 (by decide) (fun c_139 => ?_) (fun c_139 => ?_)
        · skip
          refine lv_iload_n hx hb dX7_init_146 rfl (lv_at hl 2 rfl) ?_
          refine gx_as (y := nI (clQ 1 3 x2)) (clQ_me (by decide) c_130 c_139) ?_
          refine va_putF (D := D) (ci := 10) (v := .int (nI (clQ 1 3 x2))) (ty := .int) (C := RX7) (T := TX7) (N := 23) hx hb hts (fun _ h => inX7_init_RX7 h) tyX7 tyX7_ok nmX7 hown hK hP hD hS 0 rfl rfl 2 (by decide) (hts (.fieldLink RX7 55 "CosetTablesModel" "twists" "I") (by decide +kernel)) (fun _ h9 => h9) rfl hini rfl (by decide +kernel) rfl rfl (Nat.le_of_ble_eq_true rfl) dX7_init_147 (fun H locs hP hD hS => ?_)
          have hP : va_P D vwCl [(a, .inr (10, [.int 0, .int (nI (clQ 2 8 x1)), .int (nI (clQ 1 3 x2)), .int 0, .ref q1, .ref q2, .ref q3, .int 0, .ref q4, .ref q5, .ref q6, .int 0, .int 0, .int 0, .int 0, .ref q7, .ref q8, .ref q9, .int 0, .ref q10, .ref q11, .ref q12, .ref q13])), (q1, eI cA 48), (q2, eI cA 48), (q3, eZ cA 8), (q4, eI cA 4), (q5, eI cA 4), (q6, eI cA 4), (q7, eI cA 136080), (q8, eI cA 136080), (q9, eI cA 136080), (q10, eI cA 32), (q11, eI cA 4), (q12, eI cA 4), (q13, eZ cA 4)] H := hP
          have hD : va_D A [(a, .inr (10, [.int 0, .int (nI (clQ 2 8 x1)), .int (nI (clQ 1 3 x2)), .int 0, .ref q1, .ref q2, .ref q3, .int 0, .ref q4, .ref q5, .ref q6, .int 0, .int 0, .int 0, .int 0, .ref q7, .ref q8, .ref q9, .int 0, .ref q10, .ref q11, .ref q12, .ref q13])), (q1, eI cA 48), (q2, eI cA 48), (q3, eZ cA 8), (q4, eI cA 4), (q5, eI cA 4), (q6, eI cA 4), (q7, eI cA 136080), (q8, eI cA 136080), (q9, eI cA 136080), (q10, eI cA 32), (q11, eI cA 4), (q12, eI cA 4), (q13, eZ cA 4)] := hD
          refine W.widen (k := 13) (n := 408400) (by omega) (by omega) ?_
          exact W.vret hx hb hr (fun t ht hW => ⟨⟨fun i => if i = 0 then q1 else if i = 1 then q2 else if i = 2 then q3 else if i = 3 then q4 else if i = 4 then q5 else if i = 5 then q6 else if i = 6 then q7 else if i = 7 then q8 else if i = 8 then q9 else if i = 9 then q10 else if i = 10 then q11 else if i = 11 then q12 else q13, rfl, trivial, by unfold cAt; rw [ht]; exact ⟨hP, hD⟩⟩, hS.F ht⟩) hS.2.2 dX7_init_150
        · skip
          refine lv_iconst (v := nI 3) hx hb dX7_init_142 (by decide) ?_
          refine lv_goto (tgt := 147) hx hb dX7_init_143 (by decide) ?_
          refine gx_as (y := nI (clQ 1 3 x2)) (clQ_hi c_130 c_139) ?_
          refine va_putF (D := D) (ci := 10) (v := .int (nI (clQ 1 3 x2))) (ty := .int) (C := RX7) (T := TX7) (N := 23) hx hb hts (fun _ h => inX7_init_RX7 h) tyX7 tyX7_ok nmX7 hown hK hP hD hS 0 rfl rfl 2 (by decide) (hts (.fieldLink RX7 55 "CosetTablesModel" "twists" "I") (by decide +kernel)) (fun _ h9 => h9) rfl hini rfl (by decide +kernel) rfl rfl (Nat.le_of_ble_eq_true rfl) dX7_init_147 (fun H locs hP hD hS => ?_)
          have hP : va_P D vwCl [(a, .inr (10, [.int 0, .int (nI (clQ 2 8 x1)), .int (nI (clQ 1 3 x2)), .int 0, .ref q1, .ref q2, .ref q3, .int 0, .ref q4, .ref q5, .ref q6, .int 0, .int 0, .int 0, .int 0, .ref q7, .ref q8, .ref q9, .int 0, .ref q10, .ref q11, .ref q12, .ref q13])), (q1, eI cA 48), (q2, eI cA 48), (q3, eZ cA 8), (q4, eI cA 4), (q5, eI cA 4), (q6, eI cA 4), (q7, eI cA 136080), (q8, eI cA 136080), (q9, eI cA 136080), (q10, eI cA 32), (q11, eI cA 4), (q12, eI cA 4), (q13, eZ cA 4)] H := hP
          have hD : va_D A [(a, .inr (10, [.int 0, .int (nI (clQ 2 8 x1)), .int (nI (clQ 1 3 x2)), .int 0, .ref q1, .ref q2, .ref q3, .int 0, .ref q4, .ref q5, .ref q6, .int 0, .int 0, .int 0, .int 0, .ref q7, .ref q8, .ref q9, .int 0, .ref q10, .ref q11, .ref q12, .ref q13])), (q1, eI cA 48), (q2, eI cA 48), (q3, eZ cA 8), (q4, eI cA 4), (q5, eI cA 4), (q6, eI cA 4), (q7, eI cA 136080), (q8, eI cA 136080), (q9, eI cA 136080), (q10, eI cA 32), (q11, eI cA 4), (q12, eI cA 4), (q13, eZ cA 4)] := hD
          refine W.widen (k := 13) (n := 408400) (by omega) (by omega) ?_
          exact W.vret hx hb hr (fun t ht hW => ⟨⟨fun i => if i = 0 then q1 else if i = 1 then q2 else if i = 2 then q3 else if i = 3 then q4 else if i = 4 then q5 else if i = 5 then q6 else if i = 6 then q7 else if i = 7 then q8 else if i = 8 then q9 else if i = 9 then q10 else if i = 10 then q11 else if i = 11 then q12 else q13, rfl, trivial, by unfold cAt; rw [ht]; exact ⟨hP, hD⟩⟩, hS.F ht⟩) hS.2.2 dX7_init_150
      · skip
        refine lv_iconst (v := nI 1) hx hb dX7_init_133 (by decide) ?_
        refine lv_goto (tgt := 147) hx hb dX7_init_134 (by decide) ?_
        refine gx_as (y := nI (clQ 1 3 x2)) (clQ_lo c_130) ?_
        refine va_putF (D := D) (ci := 10) (v := .int (nI (clQ 1 3 x2))) (ty := .int) (C := RX7) (T := TX7) (N := 23) hx hb hts (fun _ h => inX7_init_RX7 h) tyX7 tyX7_ok nmX7 hown hK hP hD hS 0 rfl rfl 2 (by decide) (hts (.fieldLink RX7 55 "CosetTablesModel" "twists" "I") (by decide +kernel)) (fun _ h9 => h9) rfl hini rfl (by decide +kernel) rfl rfl (Nat.le_of_ble_eq_true rfl) dX7_init_147 (fun H locs hP hD hS => ?_)
        have hP : va_P D vwCl [(a, .inr (10, [.int 0, .int (nI (clQ 2 8 x1)), .int (nI (clQ 1 3 x2)), .int 0, .ref q1, .ref q2, .ref q3, .int 0, .ref q4, .ref q5, .ref q6, .int 0, .int 0, .int 0, .int 0, .ref q7, .ref q8, .ref q9, .int 0, .ref q10, .ref q11, .ref q12, .ref q13])), (q1, eI cA 48), (q2, eI cA 48), (q3, eZ cA 8), (q4, eI cA 4), (q5, eI cA 4), (q6, eI cA 4), (q7, eI cA 136080), (q8, eI cA 136080), (q9, eI cA 136080), (q10, eI cA 32), (q11, eI cA 4), (q12, eI cA 4), (q13, eZ cA 4)] H := hP
        have hD : va_D A [(a, .inr (10, [.int 0, .int (nI (clQ 2 8 x1)), .int (nI (clQ 1 3 x2)), .int 0, .ref q1, .ref q2, .ref q3, .int 0, .ref q4, .ref q5, .ref q6, .int 0, .int 0, .int 0, .int 0, .ref q7, .ref q8, .ref q9, .int 0, .ref q10, .ref q11, .ref q12, .ref q13])), (q1, eI cA 48), (q2, eI cA 48), (q3, eZ cA 8), (q4, eI cA 4), (q5, eI cA 4), (q6, eI cA 4), (q7, eI cA 136080), (q8, eI cA 136080), (q9, eI cA 136080), (q10, eI cA 32), (q11, eI cA 4), (q12, eI cA 4), (q13, eZ cA 4)] := hD
        refine W.widen (k := 13) (n := 408400) (by omega) (by omega) ?_
        exact W.vret hx hb hr (fun t ht hW => ⟨⟨fun i => if i = 0 then q1 else if i = 1 then q2 else if i = 2 then q3 else if i = 3 then q4 else if i = 4 then q5 else if i = 5 then q6 else if i = 6 then q7 else if i = 7 then q8 else if i = 8 then q9 else if i = 9 then q10 else if i = 10 then q11 else if i = 11 then q12 else q13, rfl, trivial, by unfold cAt; rw [ht]; exact ⟨hP, hD⟩⟩, hS.F ht⟩) hS.2.2 dX7_init_150
    · skip
      refine lv_bipush (v := nI 8) hx hb dX7_init_118 (by decide) ?_
      refine lv_goto (tgt := 124) hx hb dX7_init_120 (by decide) ?_
      refine gx_as (y := nI (clQ 2 8 x1)) (clQ_hi c_105 c_115) ?_
      refine va_putF (D := D) (ci := 10) (v := .int (nI (clQ 2 8 x1))) (ty := .int) (C := RX7) (T := TX7) (N := 23) hx hb hts (fun _ h => inX7_init_RX7 h) tyX7 tyX7_ok nmX7 hown hK hP hD hS 0 rfl rfl 1 (by decide) (hts (.fieldLink RX7 51 "CosetTablesModel" "places" "I") (by decide +kernel)) (fun _ h9 => h9) rfl hini rfl (by decide +kernel) rfl rfl (Nat.le_of_ble_eq_true rfl) dX7_init_124 (fun H locs hP hD hS => ?_)
      have hP : va_P D vwCl [(a, .inr (10, [.int 0, .int (nI (clQ 2 8 x1)), .int 0, .int 0, .ref q1, .ref q2, .ref q3, .int 0, .ref q4, .ref q5, .ref q6, .int 0, .int 0, .int 0, .int 0, .ref q7, .ref q8, .ref q9, .int 0, .ref q10, .ref q11, .ref q12, .ref q13])), (q1, eI cA 48), (q2, eI cA 48), (q3, eZ cA 8), (q4, eI cA 4), (q5, eI cA 4), (q6, eI cA 4), (q7, eI cA 136080), (q8, eI cA 136080), (q9, eI cA 136080), (q10, eI cA 32), (q11, eI cA 4), (q12, eI cA 4), (q13, eZ cA 4)] H := hP
      have hD : va_D A [(a, .inr (10, [.int 0, .int (nI (clQ 2 8 x1)), .int 0, .int 0, .ref q1, .ref q2, .ref q3, .int 0, .ref q4, .ref q5, .ref q6, .int 0, .int 0, .int 0, .int 0, .ref q7, .ref q8, .ref q9, .int 0, .ref q10, .ref q11, .ref q12, .ref q13])), (q1, eI cA 48), (q2, eI cA 48), (q3, eZ cA 8), (q4, eI cA 4), (q5, eI cA 4), (q6, eI cA 4), (q7, eI cA 136080), (q8, eI cA 136080), (q9, eI cA 136080), (q10, eI cA 32), (q11, eI cA 4), (q12, eI cA 4), (q13, eZ cA 4)] := hD
      refine lv_aload_n hx hb dX7_init_127 rfl (lv_at hl 0 rfl) ?_
      refine lv_iload_n hx hb dX7_init_128 rfl (lv_at hl 2 rfl) ?_
      refine lv_iconst (v := nI 1) hx hb dX7_init_129 (by decide) ?_
      refine lv_icmp_ge (tgt := 137) hx hb dX7_init_130 (by decide) (fun c_130 => ?_) (fun c_130 => ?_)
      · skip
        refine lv_iload_n hx hb dX7_init_137 rfl (lv_at hl 2 rfl) ?_
        refine lv_iconst (v := nI 3) hx hb dX7_init_138 (by decide) ?_
        refine lv_icmp_le (tgt := 146) hx hb dX7_init_139 (by decide) (fun c_139 => ?_) (fun c_139 => ?_)
        · skip
          refine lv_iload_n hx hb dX7_init_146 rfl (lv_at hl 2 rfl) ?_
          refine gx_as (y := nI (clQ 1 3 x2)) (clQ_me (by decide) c_130 c_139) ?_
          refine va_putF (D := D) (ci := 10) (v := .int (nI (clQ 1 3 x2))) (ty := .int) (C := RX7) (T := TX7) (N := 23) hx hb hts (fun _ h => inX7_init_RX7 h) tyX7 tyX7_ok nmX7 hown hK hP hD hS 0 rfl rfl 2 (by decide) (hts (.fieldLink RX7 55 "CosetTablesModel" "twists" "I") (by decide +kernel)) (fun _ h9 => h9) rfl hini rfl (by decide +kernel) rfl rfl (Nat.le_of_ble_eq_true rfl) dX7_init_147 (fun H locs hP hD hS => ?_)
          have hP : va_P D vwCl [(a, .inr (10, [.int 0, .int (nI (clQ 2 8 x1)), .int (nI (clQ 1 3 x2)), .int 0, .ref q1, .ref q2, .ref q3, .int 0, .ref q4, .ref q5, .ref q6, .int 0, .int 0, .int 0, .int 0, .ref q7, .ref q8, .ref q9, .int 0, .ref q10, .ref q11, .ref q12, .ref q13])), (q1, eI cA 48), (q2, eI cA 48), (q3, eZ cA 8), (q4, eI cA 4), (q5, eI cA 4), (q6, eI cA 4), (q7, eI cA 136080), (q8, eI cA 136080), (q9, eI cA 136080), (q10, eI cA 32), (q11, eI cA 4), (q12, eI cA 4), (q13, eZ cA 4)] H := hP
          have hD : va_D A [(a, .inr (10, [.int 0, .int (nI (clQ 2 8 x1)), .int (nI (clQ 1 3 x2)), .int 0, .ref q1, .ref q2, .ref q3, .int 0, .ref q4, .ref q5, .ref q6, .int 0, .int 0, .int 0, .int 0, .ref q7, .ref q8, .ref q9, .int 0, .ref q10, .ref q11, .ref q12, .ref q13])), (q1, eI cA 48), (q2, eI cA 48), (q3, eZ cA 8), (q4, eI cA 4), (q5, eI cA 4), (q6, eI cA 4), (q7, eI cA 136080), (q8, eI cA 136080), (q9, eI cA 136080), (q10, eI cA 32), (q11, eI cA 4), (q12, eI cA 4), (q13, eZ cA 4)] := hD
          refine W.widen (k := 13) (n := 408400) (by omega) (by omega) ?_
          exact W.vret hx hb hr (fun t ht hW => ⟨⟨fun i => if i = 0 then q1 else if i = 1 then q2 else if i = 2 then q3 else if i = 3 then q4 else if i = 4 then q5 else if i = 5 then q6 else if i = 6 then q7 else if i = 7 then q8 else if i = 8 then q9 else if i = 9 then q10 else if i = 10 then q11 else if i = 11 then q12 else q13, rfl, trivial, by unfold cAt; rw [ht]; exact ⟨hP, hD⟩⟩, hS.F ht⟩) hS.2.2 dX7_init_150
        · skip
          refine lv_iconst (v := nI 3) hx hb dX7_init_142 (by decide) ?_
          refine lv_goto (tgt := 147) hx hb dX7_init_143 (by decide) ?_
          refine gx_as (y := nI (clQ 1 3 x2)) (clQ_hi c_130 c_139) ?_
          refine va_putF (D := D) (ci := 10) (v := .int (nI (clQ 1 3 x2))) (ty := .int) (C := RX7) (T := TX7) (N := 23) hx hb hts (fun _ h => inX7_init_RX7 h) tyX7 tyX7_ok nmX7 hown hK hP hD hS 0 rfl rfl 2 (by decide) (hts (.fieldLink RX7 55 "CosetTablesModel" "twists" "I") (by decide +kernel)) (fun _ h9 => h9) rfl hini rfl (by decide +kernel) rfl rfl (Nat.le_of_ble_eq_true rfl) dX7_init_147 (fun H locs hP hD hS => ?_)
          have hP : va_P D vwCl [(a, .inr (10, [.int 0, .int (nI (clQ 2 8 x1)), .int (nI (clQ 1 3 x2)), .int 0, .ref q1, .ref q2, .ref q3, .int 0, .ref q4, .ref q5, .ref q6, .int 0, .int 0, .int 0, .int 0, .ref q7, .ref q8, .ref q9, .int 0, .ref q10, .ref q11, .ref q12, .ref q13])), (q1, eI cA 48), (q2, eI cA 48), (q3, eZ cA 8), (q4, eI cA 4), (q5, eI cA 4), (q6, eI cA 4), (q7, eI cA 136080), (q8, eI cA 136080), (q9, eI cA 136080), (q10, eI cA 32), (q11, eI cA 4), (q12, eI cA 4), (q13, eZ cA 4)] H := hP
          have hD : va_D A [(a, .inr (10, [.int 0, .int (nI (clQ 2 8 x1)), .int (nI (clQ 1 3 x2)), .int 0, .ref q1, .ref q2, .ref q3, .int 0, .ref q4, .ref q5, .ref q6, .int 0, .int 0, .int 0, .int 0, .ref q7, .ref q8, .ref q9, .int 0, .ref q10, .ref q11, .ref q12, .ref q13])), (q1, eI cA 48), (q2, eI cA 48), (q3, eZ cA 8), (q4, eI cA 4), (q5, eI cA 4), (q6, eI cA 4), (q7, eI cA 136080), (q8, eI cA 136080), (q9, eI cA 136080), (q10, eI cA 32), (q11, eI cA 4), (q12, eI cA 4), (q13, eZ cA 4)] := hD
          refine W.widen (k := 13) (n := 408400) (by omega) (by omega) ?_
          exact W.vret hx hb hr (fun t ht hW => ⟨⟨fun i => if i = 0 then q1 else if i = 1 then q2 else if i = 2 then q3 else if i = 3 then q4 else if i = 4 then q5 else if i = 5 then q6 else if i = 6 then q7 else if i = 7 then q8 else if i = 8 then q9 else if i = 9 then q10 else if i = 10 then q11 else if i = 11 then q12 else q13, rfl, trivial, by unfold cAt; rw [ht]; exact ⟨hP, hD⟩⟩, hS.F ht⟩) hS.2.2 dX7_init_150
      · skip
        refine lv_iconst (v := nI 1) hx hb dX7_init_133 (by decide) ?_
        refine lv_goto (tgt := 147) hx hb dX7_init_134 (by decide) ?_
        refine gx_as (y := nI (clQ 1 3 x2)) (clQ_lo c_130) ?_
        refine va_putF (D := D) (ci := 10) (v := .int (nI (clQ 1 3 x2))) (ty := .int) (C := RX7) (T := TX7) (N := 23) hx hb hts (fun _ h => inX7_init_RX7 h) tyX7 tyX7_ok nmX7 hown hK hP hD hS 0 rfl rfl 2 (by decide) (hts (.fieldLink RX7 55 "CosetTablesModel" "twists" "I") (by decide +kernel)) (fun _ h9 => h9) rfl hini rfl (by decide +kernel) rfl rfl (Nat.le_of_ble_eq_true rfl) dX7_init_147 (fun H locs hP hD hS => ?_)
        have hP : va_P D vwCl [(a, .inr (10, [.int 0, .int (nI (clQ 2 8 x1)), .int (nI (clQ 1 3 x2)), .int 0, .ref q1, .ref q2, .ref q3, .int 0, .ref q4, .ref q5, .ref q6, .int 0, .int 0, .int 0, .int 0, .ref q7, .ref q8, .ref q9, .int 0, .ref q10, .ref q11, .ref q12, .ref q13])), (q1, eI cA 48), (q2, eI cA 48), (q3, eZ cA 8), (q4, eI cA 4), (q5, eI cA 4), (q6, eI cA 4), (q7, eI cA 136080), (q8, eI cA 136080), (q9, eI cA 136080), (q10, eI cA 32), (q11, eI cA 4), (q12, eI cA 4), (q13, eZ cA 4)] H := hP
        have hD : va_D A [(a, .inr (10, [.int 0, .int (nI (clQ 2 8 x1)), .int (nI (clQ 1 3 x2)), .int 0, .ref q1, .ref q2, .ref q3, .int 0, .ref q4, .ref q5, .ref q6, .int 0, .int 0, .int 0, .int 0, .ref q7, .ref q8, .ref q9, .int 0, .ref q10, .ref q11, .ref q12, .ref q13])), (q1, eI cA 48), (q2, eI cA 48), (q3, eZ cA 8), (q4, eI cA 4), (q5, eI cA 4), (q6, eI cA 4), (q7, eI cA 136080), (q8, eI cA 136080), (q9, eI cA 136080), (q10, eI cA 32), (q11, eI cA 4), (q12, eI cA 4), (q13, eZ cA 4)] := hD
        refine W.widen (k := 13) (n := 408400) (by omega) (by omega) ?_
        exact W.vret hx hb hr (fun t ht hW => ⟨⟨fun i => if i = 0 then q1 else if i = 1 then q2 else if i = 2 then q3 else if i = 3 then q4 else if i = 4 then q5 else if i = 5 then q6 else if i = 6 then q7 else if i = 7 then q8 else if i = 8 then q9 else if i = 9 then q10 else if i = 10 then q11 else if i = 11 then q12 else q13, rfl, trivial, by unfold cAt; rw [ht]; exact ⟨hP, hD⟩⟩, hS.F ht⟩) hS.2.2 dX7_init_150
  · skip
    refine lv_iconst (v := nI 2) hx hb dX7_init_108 (by decide) ?_
    refine lv_goto (tgt := 124) hx hb dX7_init_109 (by decide) ?_
    refine gx_as (y := nI (clQ 2 8 x1)) (clQ_lo c_105) ?_
    refine va_putF (D := D) (ci := 10) (v := .int (nI (clQ 2 8 x1))) (ty := .int) (C := RX7) (T := TX7) (N := 23) hx hb hts (fun _ h => inX7_init_RX7 h) tyX7 tyX7_ok nmX7 hown hK hP hD hS 0 rfl rfl 1 (by decide) (hts (.fieldLink RX7 51 "CosetTablesModel" "places" "I") (by decide +kernel)) (fun _ h9 => h9) rfl hini rfl (by decide +kernel) rfl rfl (Nat.le_of_ble_eq_true rfl) dX7_init_124 (fun H locs hP hD hS => ?_)
    have hP : va_P D vwCl [(a, .inr (10, [.int 0, .int (nI (clQ 2 8 x1)), .int 0, .int 0, .ref q1, .ref q2, .ref q3, .int 0, .ref q4, .ref q5, .ref q6, .int 0, .int 0, .int 0, .int 0, .ref q7, .ref q8, .ref q9, .int 0, .ref q10, .ref q11, .ref q12, .ref q13])), (q1, eI cA 48), (q2, eI cA 48), (q3, eZ cA 8), (q4, eI cA 4), (q5, eI cA 4), (q6, eI cA 4), (q7, eI cA 136080), (q8, eI cA 136080), (q9, eI cA 136080), (q10, eI cA 32), (q11, eI cA 4), (q12, eI cA 4), (q13, eZ cA 4)] H := hP
    have hD : va_D A [(a, .inr (10, [.int 0, .int (nI (clQ 2 8 x1)), .int 0, .int 0, .ref q1, .ref q2, .ref q3, .int 0, .ref q4, .ref q5, .ref q6, .int 0, .int 0, .int 0, .int 0, .ref q7, .ref q8, .ref q9, .int 0, .ref q10, .ref q11, .ref q12, .ref q13])), (q1, eI cA 48), (q2, eI cA 48), (q3, eZ cA 8), (q4, eI cA 4), (q5, eI cA 4), (q6, eI cA 4), (q7, eI cA 136080), (q8, eI cA 136080), (q9, eI cA 136080), (q10, eI cA 32), (q11, eI cA 4), (q12, eI cA 4), (q13, eZ cA 4)] := hD
    refine lv_aload_n hx hb dX7_init_127 rfl (lv_at hl 0 rfl) ?_
    refine lv_iload_n hx hb dX7_init_128 rfl (lv_at hl 2 rfl) ?_
    refine lv_iconst (v := nI 1) hx hb dX7_init_129 (by decide) ?_
    refine lv_icmp_ge (tgt := 137) hx hb dX7_init_130 (by decide) (fun c_130 => ?_) (fun c_130 => ?_)
    · skip
      refine lv_iload_n hx hb dX7_init_137 rfl (lv_at hl 2 rfl) ?_
      refine lv_iconst (v := nI 3) hx hb dX7_init_138 (by decide) ?_
      refine lv_icmp_le (tgt := 146) hx hb dX7_init_139 (by decide) (fun c_139 => ?_) (fun c_139 => ?_)
      · skip
        refine lv_iload_n hx hb dX7_init_146 rfl (lv_at hl 2 rfl) ?_
        refine gx_as (y := nI (clQ 1 3 x2)) (clQ_me (by decide) c_130 c_139) ?_
        refine va_putF (D := D) (ci := 10) (v := .int (nI (clQ 1 3 x2))) (ty := .int) (C := RX7) (T := TX7) (N := 23) hx hb hts (fun _ h => inX7_init_RX7 h) tyX7 tyX7_ok nmX7 hown hK hP hD hS 0 rfl rfl 2 (by decide) (hts (.fieldLink RX7 55 "CosetTablesModel" "twists" "I") (by decide +kernel)) (fun _ h9 => h9) rfl hini rfl (by decide +kernel) rfl rfl (Nat.le_of_ble_eq_true rfl) dX7_init_147 (fun H locs hP hD hS => ?_)
        have hP : va_P D vwCl [(a, .inr (10, [.int 0, .int (nI (clQ 2 8 x1)), .int (nI (clQ 1 3 x2)), .int 0, .ref q1, .ref q2, .ref q3, .int 0, .ref q4, .ref q5, .ref q6, .int 0, .int 0, .int 0, .int 0, .ref q7, .ref q8, .ref q9, .int 0, .ref q10, .ref q11, .ref q12, .ref q13])), (q1, eI cA 48), (q2, eI cA 48), (q3, eZ cA 8), (q4, eI cA 4), (q5, eI cA 4), (q6, eI cA 4), (q7, eI cA 136080), (q8, eI cA 136080), (q9, eI cA 136080), (q10, eI cA 32), (q11, eI cA 4), (q12, eI cA 4), (q13, eZ cA 4)] H := hP
        have hD : va_D A [(a, .inr (10, [.int 0, .int (nI (clQ 2 8 x1)), .int (nI (clQ 1 3 x2)), .int 0, .ref q1, .ref q2, .ref q3, .int 0, .ref q4, .ref q5, .ref q6, .int 0, .int 0, .int 0, .int 0, .ref q7, .ref q8, .ref q9, .int 0, .ref q10, .ref q11, .ref q12, .ref q13])), (q1, eI cA 48), (q2, eI cA 48), (q3, eZ cA 8), (q4, eI cA 4), (q5, eI cA 4), (q6, eI cA 4), (q7, eI cA 136080), (q8, eI cA 136080), (q9, eI cA 136080), (q10, eI cA 32), (q11, eI cA 4), (q12, eI cA 4), (q13, eZ cA 4)] := hD
        refine W.widen (k := 13) (n := 408400) (by omega) (by omega) ?_
        exact W.vret hx hb hr (fun t ht hW => ⟨⟨fun i => if i = 0 then q1 else if i = 1 then q2 else if i = 2 then q3 else if i = 3 then q4 else if i = 4 then q5 else if i = 5 then q6 else if i = 6 then q7 else if i = 7 then q8 else if i = 8 then q9 else if i = 9 then q10 else if i = 10 then q11 else if i = 11 then q12 else q13, rfl, trivial, by unfold cAt; rw [ht]; exact ⟨hP, hD⟩⟩, hS.F ht⟩) hS.2.2 dX7_init_150
      · skip
        refine lv_iconst (v := nI 3) hx hb dX7_init_142 (by decide) ?_
        refine lv_goto (tgt := 147) hx hb dX7_init_143 (by decide) ?_
        refine gx_as (y := nI (clQ 1 3 x2)) (clQ_hi c_130 c_139) ?_
        refine va_putF (D := D) (ci := 10) (v := .int (nI (clQ 1 3 x2))) (ty := .int) (C := RX7) (T := TX7) (N := 23) hx hb hts (fun _ h => inX7_init_RX7 h) tyX7 tyX7_ok nmX7 hown hK hP hD hS 0 rfl rfl 2 (by decide) (hts (.fieldLink RX7 55 "CosetTablesModel" "twists" "I") (by decide +kernel)) (fun _ h9 => h9) rfl hini rfl (by decide +kernel) rfl rfl (Nat.le_of_ble_eq_true rfl) dX7_init_147 (fun H locs hP hD hS => ?_)
        have hP : va_P D vwCl [(a, .inr (10, [.int 0, .int (nI (clQ 2 8 x1)), .int (nI (clQ 1 3 x2)), .int 0, .ref q1, .ref q2, .ref q3, .int 0, .ref q4, .ref q5, .ref q6, .int 0, .int 0, .int 0, .int 0, .ref q7, .ref q8, .ref q9, .int 0, .ref q10, .ref q11, .ref q12, .ref q13])), (q1, eI cA 48), (q2, eI cA 48), (q3, eZ cA 8), (q4, eI cA 4), (q5, eI cA 4), (q6, eI cA 4), (q7, eI cA 136080), (q8, eI cA 136080), (q9, eI cA 136080), (q10, eI cA 32), (q11, eI cA 4), (q12, eI cA 4), (q13, eZ cA 4)] H := hP
        have hD : va_D A [(a, .inr (10, [.int 0, .int (nI (clQ 2 8 x1)), .int (nI (clQ 1 3 x2)), .int 0, .ref q1, .ref q2, .ref q3, .int 0, .ref q4, .ref q5, .ref q6, .int 0, .int 0, .int 0, .int 0, .ref q7, .ref q8, .ref q9, .int 0, .ref q10, .ref q11, .ref q12, .ref q13])), (q1, eI cA 48), (q2, eI cA 48), (q3, eZ cA 8), (q4, eI cA 4), (q5, eI cA 4), (q6, eI cA 4), (q7, eI cA 136080), (q8, eI cA 136080), (q9, eI cA 136080), (q10, eI cA 32), (q11, eI cA 4), (q12, eI cA 4), (q13, eZ cA 4)] := hD
        refine W.widen (k := 13) (n := 408400) (by omega) (by omega) ?_
        exact W.vret hx hb hr (fun t ht hW => ⟨⟨fun i => if i = 0 then q1 else if i = 1 then q2 else if i = 2 then q3 else if i = 3 then q4 else if i = 4 then q5 else if i = 5 then q6 else if i = 6 then q7 else if i = 7 then q8 else if i = 8 then q9 else if i = 9 then q10 else if i = 10 then q11 else if i = 11 then q12 else q13, rfl, trivial, by unfold cAt; rw [ht]; exact ⟨hP, hD⟩⟩, hS.F ht⟩) hS.2.2 dX7_init_150
    · skip
      refine lv_iconst (v := nI 1) hx hb dX7_init_133 (by decide) ?_
      refine lv_goto (tgt := 147) hx hb dX7_init_134 (by decide) ?_
      refine gx_as (y := nI (clQ 1 3 x2)) (clQ_lo c_130) ?_
      refine va_putF (D := D) (ci := 10) (v := .int (nI (clQ 1 3 x2))) (ty := .int) (C := RX7) (T := TX7) (N := 23) hx hb hts (fun _ h => inX7_init_RX7 h) tyX7 tyX7_ok nmX7 hown hK hP hD hS 0 rfl rfl 2 (by decide) (hts (.fieldLink RX7 55 "CosetTablesModel" "twists" "I") (by decide +kernel)) (fun _ h9 => h9) rfl hini rfl (by decide +kernel) rfl rfl (Nat.le_of_ble_eq_true rfl) dX7_init_147 (fun H locs hP hD hS => ?_)
      have hP : va_P D vwCl [(a, .inr (10, [.int 0, .int (nI (clQ 2 8 x1)), .int (nI (clQ 1 3 x2)), .int 0, .ref q1, .ref q2, .ref q3, .int 0, .ref q4, .ref q5, .ref q6, .int 0, .int 0, .int 0, .int 0, .ref q7, .ref q8, .ref q9, .int 0, .ref q10, .ref q11, .ref q12, .ref q13])), (q1, eI cA 48), (q2, eI cA 48), (q3, eZ cA 8), (q4, eI cA 4), (q5, eI cA 4), (q6, eI cA 4), (q7, eI cA 136080), (q8, eI cA 136080), (q9, eI cA 136080), (q10, eI cA 32), (q11, eI cA 4), (q12, eI cA 4), (q13, eZ cA 4)] H := hP
      have hD : va_D A [(a, .inr (10, [.int 0, .int (nI (clQ 2 8 x1)), .int (nI (clQ 1 3 x2)), .int 0, .ref q1, .ref q2, .ref q3, .int 0, .ref q4, .ref q5, .ref q6, .int 0, .int 0, .int 0, .int 0, .ref q7, .ref q8, .ref q9, .int 0, .ref q10, .ref q11, .ref q12, .ref q13])), (q1, eI cA 48), (q2, eI cA 48), (q3, eZ cA 8), (q4, eI cA 4), (q5, eI cA 4), (q6, eI cA 4), (q7, eI cA 136080), (q8, eI cA 136080), (q9, eI cA 136080), (q10, eI cA 32), (q11, eI cA 4), (q12, eI cA 4), (q13, eZ cA 4)] := hD
      refine W.widen (k := 13) (n := 408400) (by omega) (by omega) ?_
      exact W.vret hx hb hr (fun t ht hW => ⟨⟨fun i => if i = 0 then q1 else if i = 1 then q2 else if i = 2 then q3 else if i = 3 then q4 else if i = 4 then q5 else if i = 5 then q6 else if i = 6 then q7 else if i = 7 then q8 else if i = 8 then q9 else if i = 9 then q10 else if i = 10 then q11 else if i = 11 then q12 else q13, rfl, trivial, by unfold cAt; rw [ht]; exact ⟨hP, hD⟩⟩, hS.F ht⟩) hS.2.2 dX7_init_150
