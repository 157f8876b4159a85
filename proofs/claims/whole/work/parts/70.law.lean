theorem and31 (x : Int32) : ∃ k, k < 32 ∧ x &&& nI 31 = nI k := by
  refine ⟨(x &&& nI 31).toBitVec.toNat, ?_, ?_⟩
  · have h : (x &&& nI 31).toBitVec = x.toBitVec &&& (31#32) := rfl
    rw [h, BitVec.toNat_and]
    exact Nat.lt_of_le_of_lt Nat.and_le_right (by decide)
  · apply Int32.toBitVec_inj.mp
    show _ = BitVec.ofNat 32 _
    simp
set_option maxHeartbeats 4000000 in
set_option maxRecDepth 100000 in
theorem law_loop {p : Program} {l : Launch} {e : Env} {R : Room} {s : State} {m : MethodId} {below : List Frame} {meth : Method} {c : Code} {D : va_G} {cA : Nat → ClassId} {b L : Nat} {xs : Nat → Int32} {Q : State → Prop} (X : LX p l R s m c D cA b L xs)
    (K0 : ∀ (H : Heap) (locs : List Loc) (ls : Array Slot) (cells slots : Nat), (∀ q ∈ locs, s.heap.size ≤ q.base) → cells ≤ 600000 → slots ≤ 7000000 → W p l e R s m #[.ref b] below meth c H locs cells slots Q (F0 m 1153 ls [])) :
    ∀ (N i : Nat) (o : Nat → Int64) (ad ln : Nat → Nat) (iv : Nat → Nat → Int32) (H : Heap) (locs : List Loc) (ls : Array Slot) (cells slots P T mc sc : Nat) (ch : Nat → Bool) (G Ad Sg : Nat → Nat → Nat) (w t : Nat → Nat), L + 4 - i < N → 2 ≤ i → i ≤ L + 4 → LI P T mc sc ch G Ad Sg w t ln iv → cells ≤ 500 + uC P T ln + i → slots ≤ 500000 + uS P T ln + 2 * i → gS D cA (fun q => s.heap.size ≤ q) s.heap o ad ln iv 68 H locs → lv_has ls 8 [(0, .ref b), (1, .ref (ad 0)), (2, .ref (ad 53)), (3, .ref (ad 67)), (4, .int (nI i))] → W p l e R s m #[.ref b] below meth c H locs cells slots Q (F0 m 43 ls []) := by
  intro N
  induction N with
  | zero => intro i o ad ln iv H locs ls cells slots P T mc sc ch G Ad Sg w t hm; exact absurd hm (Nat.not_lt_zero _)
  | succ N ih =>
    intro i o ad ln iv H locs ls cells slots P T mc sc ch G Ad Sg w t hm hi2 hiL h hcb hsb hS hl
    obtain ⟨hx, hb, hml, hown, hts, hXs, hbl, hK, hN, hX, hst, hRf, hRl, hRc, hRs, hL⟩ := id X
    have hbA : ¬ (fun q : Nat => s.heap.size ≤ q) b := Nat.not_le.mpr hbl
    have hu1 := uC_le P T ln
    have hu2 := uS_le h.1.2.1 h.1.2.2.2.1 ln
    have KE : W p l e R s m #[.ref b] below meth c H locs cells slots Q (F0 m 1153 ls []) := K0 H locs ls cells slots (fun q hq => hS.2.2.2.2 q hq) (by omega) (by omega)
    refine lv_iload hx hb dL_law_43 (lv_at hl 4 rfl) ?_
    refine lv_aload_n hx hb dL_law_45 rfl (lv_at hl 0 rfl) ?_
    refine va_slen hx hb hXs hbl hbA hS.2.2 dL_law_46 ?_
    refine lv_iconst (v := nI 4) hx hb dL_law_47 (by decide) ?_
    refine lv_isub hx hb dL_law_48 ?_
    refine lv_icmp_gt (tgt := 1153) hx hb dL_law_49 (by decide) (fun _ => KE) (fun c9 => ?_)
    have h4 : i + 3 < L := by
      by_cases q : 4 ≤ L
      · have e9 : Int32.ofNat L - nI 4 = nI (L - 4) := pk_sub q
        rw [e9, nI_ltI (by omega) (by omega)] at c9
        omega
      · exfalso
        apply c9
        have e9 : Int32.ofNat L - nI 4 < 0 := by
          rcases (show L = 0 ∨ L = 1 ∨ L = 2 ∨ L = 3 by omega) with rfl | rfl | rfl | rfl <;> decide
        exact Int32.lt_of_lt_of_le e9 (nI_pos' (by omega))
    have K : LK p l e R s m below meth c D cA b i Q := by
      intro o ad ln iv H locs ls cells slots P T mc sc ch G Ad Sg w t h hcb hsb hS hl
      refine lv_iinc (v := nI (i + 4)) (lv' := [(4, .int (nI (i + 4))), (0, .ref b), (1, .ref (ad 0)), (2, .ref (ad 53)), (3, .ref (ad 67))]) hx hb dL_law_1147 hl (k := 4) rfl (nI_add i 4) (by decide) rfl (fun ls hl => ?_)
      refine lv_goto (tgt := 43) hx hb dL_law_1150 (by decide) ?_
      exact ih (i + 4) o ad ln iv H locs ls cells slots P T mc sc ch G Ad Sg w t (by omega) (by omega) (by omega) h hcb hsb hS (lv_sub hl [1, 2, 3, 4, 0] rfl)
    refine lv_aload_n hx hb dL_law_52 rfl (lv_at hl 0 rfl) ?_
    refine lv_iload hx hb dL_law_53 (lv_at hl 4 rfl) ?_
    refine va_sld hx hb hXs hbl hbA hS.2.2 (vp_in_nI (by omega) (by omega)) dL_law_55 ?_
    refine lv_bipush (v := nI 31) hx hb dL_law_56 (by decide) ?_
    refine lv_iand hx hb dL_law_58 ?_
    obtain ⟨k, hk, ek⟩ := and31 (xs (nI i).toNatClampNeg)
    refine gx_as (y := nI k) ek ?_
    by_cases e_0 : k = 0
    · subst e_0
      refine lv_tableIn (off := 101) (tgt := 160) hx hb dL_law_59 (by decide) (by decide) (by decide) (by decide) ?_
      exact law_move X h4 h hcb hsb hS hl K
    by_cases e_1 : k = 1
    · subst e_1
      refine lv_tableIn (off := 114) (tgt := 173) hx hb dL_law_59 (by decide) (by decide) (by decide) (by decide) ?_
      exact law_exchange X h4 rfl rfl rfl h hcb hsb hS hl K
    by_cases e_2 : k = 2
    · subst e_2
      refine lv_tableIn (off := 201) (tgt := 260) hx hb dL_law_59 (by decide) (by decide) (by decide) (by decide) ?_
      exact law_adds X h4 rfl rfl rfl h hcb hsb hS hl K
    by_cases e_3 : k = 3
    · subst e_3
      refine lv_tableIn (off := 288) (tgt := 347) hx hb dL_law_59 (by decide) (by decide) (by decide) (by decide) ?_
      exact law_order X h4 rfl h hcb hsb hS hl K
    by_cases e_4 : k = 4
    · subst e_4
      refine lv_tableIn (off := 344) (tgt := 403) hx hb dL_law_59 (by decide) (by decide) (by decide) (by decide) ?_
      exact law_choose X h4 rfl rfl h hcb hsb hS hl K
    by_cases e_5 : k = 5
    · subst e_5
      refine lv_tableIn (off := 435) (tgt := 494) hx hb dL_law_59 (by decide) (by decide) (by decide) (by decide) ?_
      exact law_size X h4 h hcb hsb hS hl K
    by_cases e_6 : k = 6
    · subst e_6
      refine lv_tableIn (off := 448) (tgt := 507) hx hb dL_law_59 (by decide) (by decide) (by decide) (by decide) ?_
      exact law_set X h4 rfl h hcb hsb hS hl K
    by_cases e_7 : k = 7
    · subst e_7
      refine lv_tableIn (off := 484) (tgt := 543) hx hb dL_law_59 (by decide) (by decide) (by decide) (by decide) ?_
      exact law_number X h4 h hcb hsb hS hl K
    by_cases e_8 : k = 8
    · subst e_8
      refine lv_tableIn (off := 497) (tgt := 556) hx hb dL_law_59 (by decide) (by decide) (by decide) (by decide) ?_
      exact law_place X h4 rfl h hcb hsb hS hl K
    by_cases e_9 : k = 9
    · subst e_9
      refine lv_tableIn (off := 553) (tgt := 612) hx hb dL_law_59 (by decide) (by decide) (by decide) (by decide) ?_
      exact law_twist X h4 rfl h hcb hsb hS hl K
    by_cases e_10 : k = 10
    · subst e_10
      refine lv_tableIn (off := 609) (tgt := 668) hx hb dL_law_59 (by decide) (by decide) (by decide) (by decide) ?_
      exact law_apply X h4 rfl h hcb hsb hS hl K
    by_cases e_11 : k = 11
    · subst e_11
      refine lv_tableIn (off := 645) (tgt := 704) hx hb dL_law_59 (by decide) (by decide) (by decide) (by decide) ?_
      exact law_build X h4 rfl h hcb hsb hS hl K
    by_cases e_12 : k = 12
    · subst e_12
      refine lv_tableIn (off := 670) (tgt := 729) hx hb dL_law_59 (by decide) (by decide) (by decide) (by decide) ?_
      exact law_value X h4 rfl h hcb hsb hS hl K
    by_cases e_13 : k = 13
    · subst e_13
      refine lv_tableIn (off := 726) (tgt := 785) hx hb dL_law_59 (by decide) (by decide) (by decide) (by decide) ?_
      exact law_count X h4 rfl h hcb hsb hS hl K
    by_cases e_14 : k = 14
    · subst e_14
      refine lv_tableIn (off := 751) (tgt := 810) hx hb dL_law_59 (by decide) (by decide) (by decide) (by decide) ?_
      exact law_packed X h4 rfl rfl h hcb hsb hS hl K
    by_cases e_15 : k = 15
    · subst e_15
      refine lv_tableIn (off := 818) (tgt := 877) hx hb dL_law_59 (by decide) (by decide) (by decide) (by decide) ?_
      exact law_down X h4 h hcb hsb hS hl K
    by_cases e_16 : k = 16
    · subst e_16
      refine lv_tableIn (off := 831) (tgt := 890) hx hb dL_law_59 (by decide) (by decide) (by decide) (by decide) ?_
      exact law_symmetry X h4 h hcb hsb hS hl K
    by_cases e_17 : k = 17
    · subst e_17
      refine lv_tableIn (off := 844) (tgt := 903) hx hb dL_law_59 (by decide) (by decide) (by decide) (by decide) ?_
      exact law_turn X h4 rfl rfl rfl h hcb hsb hS hl K
    by_cases e_18 : k = 18
    · subst e_18
      refine lv_tableIn (off := 931) (tgt := 990) hx hb dL_law_59 (by decide) (by decide) (by decide) (by decide) ?_
      exact law_good X h4 rfl h hcb hsb hS hl K
    by_cases e_19 : k = 19
    · subst e_19
      refine lv_tableIn (off := 994) (tgt := 1053) hx hb dL_law_59 (by decide) (by decide) (by decide) (by decide) ?_
      exact law_least X h4 rfl h hcb hsb hS hl K
    by_cases e_20 : k = 20
    · subst e_20
      refine lv_tableIn (off := 1050) (tgt := 1109) hx hb dL_law_59 (by decide) (by decide) (by decide) (by decide) ?_
      exact law_classes X h4 h hcb hsb hS hl K
    by_cases e_21 : k = 21
    · subst e_21
      refine lv_tableIn (off := 1063) (tgt := 1122) hx hb dL_law_59 (by decide) (by decide) (by decide) (by decide) ?_
      exact law_file X h4 rfl h hcb hsb hS hl K
    refine lv_tableOut (tgt := 1147) hx hb dL_law_59 (by rw [nI_toInt (by omega)]; omega) (by decide) ?_
    exact K o ad ln iv H locs ls cells slots P T mc sc ch G Ad Sg w t h (by omega) (by omega) hS hl
