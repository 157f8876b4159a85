/-- one byte of the reference's file -/
def rbyte (iv : Nat → Nat → Int32) (S i : Nat) : Int32 := if i = 0 then nI 67 else if i = 1 then nI 84 else if i = 2 then iv 53 1 else if i = 3 then iv 53 2 else if i = 4 then iv 53 7 else if i = 5 then iv 53 13 else rbit 4 (iv 60 (2 * (i - 6))) + (if 2 * (i - 6) + 1 < S then nI 16 * rbit 4 (iv 60 (2 * (i - 6) + 1)) else nI 0)
theorem rbyte_up {iv : Nat → Nat → Int32} {S i : Nat} {x : Int32} : rbyte (up2 iv 53 0 x) S i = rbyte iv S i := by
  unfold rbyte
  simp [up2_eq]
/-- one piece of a word, as the reference puts it together -/
def rpk (iv : Nat → Nat → Int32) (S bt k i : Nat) : Int64 := if 64 / bt * k + i < S then Int32.toInt64 (rbit bt (iv 60 (64 / bt * k + i))) <<< (Int32.toInt64 (nI (bt * i)) &&& 63) else 0
theorem inX7_packed_RX7 : ∀ {w : Cond}, w ∈ u_ws RX7 TX7 23 → w ∈ wsX7_packed := fun {w} h => by first | exact List.mem_cons_of_mem _ (List.mem_append_right _ h) | (revert h; revert w; show ∀ w ∈ u_ws RX7 TX7 23, w ∈ wsX7_packed; decide +kernel)
set_option maxHeartbeats 1000000 in
set_option maxRecDepth 100000 in
theorem bd_X7_packedZ {p : Program} {l : Launch} {e : Env} {R : Room} {s : State} {m : MethodId} {args : Array Value} {below : List Frame} {meth : Method} {c : Code} {H : Heap} {locs : List Loc} {cells slots : Nat} {Q : State → Prop} {ls : Array Slot} {D : va_G} {A : Nat → Prop} {H0 : Heap} {cA : Nat → ClassId} {o : Nat → Int64} {ad ln : Nat → Nat} {iv : Nat → Nat → Int32} {n : Nat} {bt : Nat} {k9 : Int32}
    (F : gF p s m meth c cX7_packed 8 RX7 wsX7_packed args (some .long)) (hRf : 1 ≤ R.frames) (hRl : 22 ≤ R.locals) (hRc : cells ≤ R.cells) (hRs : slots ≤ R.slots) (hK : va_K D vwCl (gT cA) s) (hN : NW s) (hA : ∀ q, H0.size ≤ q → A q) (hn : 68 ≤ n) (hln : ∀ k, ln k < 2 ^ 31) (hbt : bt = 2 ∨ bt = 4) (hz : iv 53 12 = 0 ∨ k9 < 0 ∨ nI 136080 < k9)
    (hS : gS D cA A H0 o ad ln iv n H locs) (hl : lv_has ls 8 [(0, .ref (ad 53)), (1, .int (nI bt)), (2, .int k9)])
    (kret : ∀ (r : Int64) (iv' : Nat → Nat → Int32) (H : Heap) (locs : List Loc) (ls : Array Slot) (pc : Nat), decode cX7_packed pc = .ok (.lreturn, 1) → (r = 0 ∧ iv' = up2 iv 53 0 0) → gS D cA A H0 o ad ln iv' n H locs → W p l e R s m args below meth c H locs cells slots Q (F0 m pc ls [.long r])) :
    W p l e R s m args below meth c H locs cells slots Q (F0 m 0 ls []) := by
  obtain ⟨hx, hb, hml, hown, hts, hr, hlocks⟩ := F
  have he9 : 16 ≤ 64 / bt ∧ 64 / bt ≤ 32 := by rcases hbt with h | h <;> subst h <;> decide
  have J25 : ∀ (iv4 : Nat → Nat → Int32), (iv4 = up2 iv 53 0 0) → ∀ (H : Heap) (locs : List Loc) (ls : Array Slot), gS D cA A H0 o ad ln iv4 n H locs → lv_has ls 8 [(0, .ref (ad 53)), (1, .int (nI bt)), (2, .int k9)] → W p l e R s m args below meth c H locs cells slots Q (F0 m 25 ls []) := by
    intro iv4 et H locs ls hS hl
    refine lv_bipush (v := nI 64) hx hb dX7_packed_25 (by decide) ?_
    refine lv_iload_n hx hb dX7_packed_27 rfl (lv_at hl 1 rfl) ?_
    refine lv_idiv hx hb dX7_packed_28 (nI_ne0 (by omega) (by omega)) ?_
    refine gx_as (y := nI (64 / bt)) (pk_div (by omega) (by omega) (by omega)) ?_
    refine lv_istore_n (lv' := [(3, .int (nI (64 / bt))), (0, .ref (ad 53)), (1, .int (nI bt)), (2, .int k9)]) hx hb dX7_packed_29 rfl hl (by decide) rfl (fun ls hl => ?_)
    refine lv_lconst (v := 0) hx hb dX7_packed_30 (by decide) ?_
    refine gx_asl (y := 0) rfl ?_
    refine lv_lstore (lv' := [(4, .long (0)), (3, .int (nI (64 / bt))), (0, .ref (ad 53)), (1, .int (nI bt)), (2, .int k9)]) hx hb dX7_packed_31 hl (by decide) rfl (fun ls hl => ?_)
    refine lv_iconst (v := nI 0) hx hb dX7_packed_33 (by decide) ?_
    refine lv_istore (lv' := [(6, .int (nI 0)), (4, .long (0)), (3, .int (nI (64 / bt))), (0, .ref (ad 53)), (1, .int (nI bt)), (2, .int k9)]) hx hb dX7_packed_34 hl (by decide) rfl (fun ls hl => ?_)
    refine lv_iload hx hb dX7_packed_36 (lv_at hl 0 rfl) ?_
    refine lv_iload_n hx hb dX7_packed_38 rfl (lv_at hl 2 rfl) ?_
    refine lv_icmp_ge (tgt := 100) hx hb dX7_packed_39 (by decide) (fun c_39 => ?_) (fun c_39 => ?_)
    · skip
      rw [nI_leI (by omega) (by omega)] at c_39
      omega
    · skip
      rw [nI_leI (by omega) (by omega)] at c_39
      refine lv_aload_n hx hb dX7_packed_42 rfl (lv_at hl 3 rfl) ?_
      refine gx_get (ci := 10) (v := .int (iv4 53 12)) (C := RX7) (T := TX7) (N := 23) hx hb hts (fun _ h => inX7_packed_RX7 h) hown hK hS 53 (by omega) rfl rfl 12 (by decide) (hts (.fieldLink RX7 64 "CosetTablesModel" "isBuilt" "Z") (by decide +kernel)) rfl dX7_packed_43 ?_
      refine gx_as (y := (iv 53 12)) (by rw [et, up2_n (by decide)]) ?_
      refine lv_if_eq (tgt := 100) hx hb dX7_packed_46 (by decide) (fun c_46 => ?_) (fun c_46 => ?_)
      · skip
        refine lv_lload hx hb dX7_packed_100 (lv_at hl 1 rfl) ?_
        exact kret _ iv4 _ _ _ _ dX7_packed_102 (⟨rfl, et⟩) hS
      · skip
        refine lv_iload_n hx hb dX7_packed_49 rfl (lv_at hl 5 rfl) ?_
        refine lv_if_lt (tgt := 100) hx hb dX7_packed_50 (by decide) (fun c_50 => ?_) (fun c_50 => ?_)
        · skip
          refine lv_lload hx hb dX7_packed_100 (lv_at hl 1 rfl) ?_
          exact kret _ iv4 _ _ _ _ dX7_packed_102 (⟨rfl, et⟩) hS
        · skip
          refine lv_iload_n hx hb dX7_packed_53 rfl (lv_at hl 5 rfl) ?_
          refine lv_ldc (v := 136080) hx hb hown (hts (.constant RX7 29 (136080)) (by decide +kernel)) dX7_packed_54 ?_
          refine gx_as (y := nI 136080) (by decide) ?_
          refine lv_icmp_gt (tgt := 100) hx hb dX7_packed_56 (by decide) (fun c_56 => ?_) (fun c_56 => ?_)
          · skip
            refine lv_lload hx hb dX7_packed_100 (lv_at hl 1 rfl) ?_
            exact kret _ iv4 _ _ _ _ dX7_packed_102 (⟨rfl, et⟩) hS
          · skip
            exact absurd hz (fun q => q.elim c_46 (fun q => q.elim c_50 c_56))
  refine lv_aload_n hx hb dX7_packed_0 rfl (lv_at hl 0 rfl) ?_
  refine lv_iconst (v := nI 1) hx hb dX7_packed_1 (by decide) ?_
  refine lv_iload_n hx hb dX7_packed_2 rfl (lv_at hl 1 rfl) ?_
  refine lv_iconst (v := nI 2) hx hb dX7_packed_3 (by decide) ?_
  refine lv_icmp_eq (tgt := 16) hx hb dX7_packed_4 (by decide) (fun c_4 => ?_) (fun c_4 => ?_)
  · skip
    rw [nI_eq (by omega) (by omega)] at c_4
    refine lv_iconst (v := nI 0) hx hb dX7_packed_16 (by decide) ?_
    refine gc_i (gx_runV (As := [.int (nI 1), .int (nI 0)]) (rest := []) ⟨hx, hb, hml, hown, hts⟩ hK hN hS 53 (by omega) rfl rfl (ct_X7_throwsIf l D cA o ad ln n H.size iv (x := nI 1) (v := nI 0) hn hln (Or.inl rfl)) (cwV 2 hts gX7_packed_X7_throwsIf rfl rfl rfl (by decide +kernel) ⟨gle hRf rfl, gle hRl rfl⟩) rfl rfl hl.1 rfl (lv_room (Nat.le_of_ble_eq_true rfl)) dX7_packed_17 ⟨hRc, hRs⟩) hS hA (fun z iv4 H locs hp4 hS => ?_)
    obtain ⟨_, ez, et⟩ := hp4
    have et : iv4 = up2 iv 53 0 0 := et
    refine gx_as (y := nI 0) ez ?_
    refine lv_if_eq (tgt := 25) hx hb dX7_packed_20 (by decide) (fun c_20 => ?_) (fun c_20 => ?_)
    · skip
      rw [show (0 : Int32) = nI 0 from rfl] at c_20
      rw [nI_eq (by omega) (by omega)] at c_20
      exact J25 iv4 et _ _ _ hS (lv_sub hl [0, 1, 2] rfl)
    · skip
      rw [show (0 : Int32) = nI 0 from rfl] at c_20
      rw [nI_eq (by omega) (by omega)] at c_20
      omega
  · skip
    rw [nI_eq (by omega) (by omega)] at c_4
    refine lv_iload_n hx hb dX7_packed_7 rfl (lv_at hl 1 rfl) ?_
    refine lv_iconst (v := nI 4) hx hb dX7_packed_8 (by decide) ?_
    refine lv_icmp_eq (tgt := 16) hx hb dX7_packed_9 (by decide) (fun c_9 => ?_) (fun c_9 => ?_)
    · skip
      rw [nI_eq (by omega) (by omega)] at c_9
      refine lv_iconst (v := nI 0) hx hb dX7_packed_16 (by decide) ?_
      refine gc_i (gx_runV (As := [.int (nI 1), .int (nI 0)]) (rest := []) ⟨hx, hb, hml, hown, hts⟩ hK hN hS 53 (by omega) rfl rfl (ct_X7_throwsIf l D cA o ad ln n H.size iv (x := nI 1) (v := nI 0) hn hln (Or.inl rfl)) (cwV 2 hts gX7_packed_X7_throwsIf rfl rfl rfl (by decide +kernel) ⟨gle hRf rfl, gle hRl rfl⟩) rfl rfl hl.1 rfl (lv_room (Nat.le_of_ble_eq_true rfl)) dX7_packed_17 ⟨hRc, hRs⟩) hS hA (fun z iv4 H locs hp4 hS => ?_)
      obtain ⟨_, ez, et⟩ := hp4
      have et : iv4 = up2 iv 53 0 0 := et
      refine gx_as (y := nI 0) ez ?_
      refine lv_if_eq (tgt := 25) hx hb dX7_packed_20 (by decide) (fun c_20 => ?_) (fun c_20 => ?_)
      · skip
        rw [show (0 : Int32) = nI 0 from rfl] at c_20
        rw [nI_eq (by omega) (by omega)] at c_20
        exact J25 iv4 et _ _ _ hS (lv_sub hl [0, 1, 2] rfl)
      · skip
        rw [show (0 : Int32) = nI 0 from rfl] at c_20
        rw [nI_eq (by omega) (by omega)] at c_20
        omega
    · skip
      rw [nI_eq (by omega) (by omega)] at c_9
      omega
set_option maxRecDepth 100000 in
theorem ct_X7_packedZ (l : Launch) (D : va_G) (cA : Nat → ClassId) (o : Nat → Int64) (ad ln : Nat → Nat) (n sz : Nat) (iv : Nat → Nat → Int32) (bt : Nat) (k9 : Int32) (hn : 68 ≤ n) (hln : ∀ k, ln k < 2 ^ 31) (hbt : bt = 2 ∨ bt = 4) (hz : iv 53 12 = 0 ∨ k9 < 0 ∨ nI 136080 < k9) : gMl l yX7_packed wsX7_packed { frames := 1, cells := 0, slots := 0, locals := 22 } D cA o ad ln n sz iv [.ref (ad 53), .int (nI bt), .int k9] (fun (r : Int64) iv' => r = 0 ∧ iv' = up2 iv 53 0 0) := by
  refine Met.ofW (cc := cX7_packed) (maxL := 8) (ret := (some .long)) (by decide) rfl ?_
  intro p e s m args below meth c s₁ B hml hv__
  obtain ⟨rfl, hv__⟩ := hv__
  obtain ⟨hsz, hS, hK, hN, hA⟩ := gS.entry hv__
  have hl := lv_entry ([.ref (ad 53), .int (nI bt), .int k9]) (n := 8) (Nat.le_of_ble_eq_true rfl)
  rw [lg_entry_eq]
  generalize (lg_sl ([.ref (ad 53), .int (nI bt), .int k9]) ++ List.replicate (8 - (lg_sl ([.ref (ad 53), .int (nI bt), .int k9])).length) Slot.unset).toArray = ls at hl ⊢
  exact bd_X7_packedZ (bt := bt) (k9 := k9) ⟨B.exec, B.bytes, hml, findClass_of_methodNamed B.named, atoms_spec (ws := wsX7_packed) B.pre, B.returns, B.notSynchronized⟩ (Nat.le_refl _) (Nat.le_refl _) (Nat.le_refl _) (Nat.le_refl _) hK hN hA hn hln hbt hz hS hl (fun r iv' H locs ls pc hd hp hS => gx_lret B.exec B.bytes B.returns B.notSynchronized hS hp hd)

set_option maxHeartbeats 1000000 in
set_option maxRecDepth 100000 in
theorem bd_X7_packedY {p : Program} {l : Launch} {e : Env} {R : Room} {s : State} {m : MethodId} {args : Array Value} {below : List Frame} {meth : Method} {c : Code} {H : Heap} {locs : List Loc} {cells slots : Nat} {Q : State → Prop} {ls : Array Slot} {D : va_G} {A : Nat → Prop} {H0 : Heap} {cA : Nat → ClassId} {o : Nat → Int64} {ad ln : Nat → Nat} {iv : Nat → Nat → Int32} {n : Nat} {bt kk S8 : Nat}
    (F : gF p s m meth c cX7_packed 8 RX7 wsX7_packed args (some .long)) (hRf : 1 ≤ R.frames) (hRl : 23 ≤ R.locals) (hRc : cells ≤ R.cells) (hRs : slots ≤ R.slots) (hK : va_K D vwCl (gT cA) s) (hN : NW s) (hA : ∀ q, H0.size ≤ q → A q) (hn : 68 ≤ n) (hln : ∀ k, ln k < 2 ^ 31) (hRn : rln ln) (hbt : bt = 2 ∨ bt = 4) (hk : kk ≤ 136080) (hb9 : ¬ iv 53 12 = 0) (hs : iv 53 14 = nI S8) (hS8 : S8 ≤ 136080)
    (hS : gS D cA A H0 o ad ln iv n H locs) (hl : lv_has ls 8 [(0, .ref (ad 53)), (1, .int (nI bt)), (2, .int (nI kk))])
    (kret : ∀ (r : Int64) (iv' : Nat → Nat → Int32) (H : Heap) (locs : List Loc) (ls : Array Slot) (pc : Nat), decode cX7_packed pc = .ok (.lreturn, 1) → (r = orl (rpk iv S8 bt kk) (64 / bt) ∧ iv' = up2 iv 53 0 0) → gS D cA A H0 o ad ln iv' n H locs → W p l e R s m args below meth c H locs cells slots Q (F0 m pc ls [.long r])) :
    W p l e R s m args below meth c H locs cells slots Q (F0 m 0 ls []) := by
  obtain ⟨hx, hb, hml, hown, hts, hr, hlocks⟩ := F
  have hRn9 := hRn
  obtain ⟨r54, r55, r56, r57, r58, r59, r60, r61, r62, r63, r64, r65, r66⟩ := hRn
  have he9 : 16 ≤ 64 / bt ∧ 64 / bt ≤ 32 := by rcases hbt with h | h <;> subst h <;> decide
  have hmk := Nat.mul_le_mul he9.2 hk
  have J25 : ∀ (iv4 : Nat → Nat → Int32), (iv4 = up2 iv 53 0 0) → ∀ (H : Heap) (locs : List Loc) (ls : Array Slot), gS D cA A H0 o ad ln iv4 n H locs → lv_has ls 8 [(0, .ref (ad 53)), (1, .int (nI bt)), (2, .int (nI kk))] → W p l e R s m args below meth c H locs cells slots Q (F0 m 25 ls []) := by
    intro iv4 et H locs ls hS hl
    refine lv_bipush (v := nI 64) hx hb dX7_packed_25 (by decide) ?_
    refine lv_iload_n hx hb dX7_packed_27 rfl (lv_at hl 1 rfl) ?_
    refine lv_idiv hx hb dX7_packed_28 (nI_ne0 (by omega) (by omega)) ?_
    refine gx_as (y := nI (64 / bt)) (pk_div (by omega) (by omega) (by omega)) ?_
    refine lv_istore_n (lv' := [(3, .int (nI (64 / bt))), (0, .ref (ad 53)), (1, .int (nI bt)), (2, .int (nI kk))]) hx hb dX7_packed_29 rfl hl (by decide) rfl (fun ls hl => ?_)
    refine lv_lconst (v := 0) hx hb dX7_packed_30 (by decide) ?_
    refine gx_asl (y := orl (rpk iv S8 bt kk) 0) rfl ?_
    refine lv_lstore (lv' := [(4, .long (orl (rpk iv S8 bt kk) 0)), (3, .int (nI (64 / bt))), (0, .ref (ad 53)), (1, .int (nI bt)), (2, .int (nI kk))]) hx hb dX7_packed_31 hl (by decide) rfl (fun ls hl => ?_)
    refine lv_iconst (v := nI 0) hx hb dX7_packed_33 (by decide) ?_
    refine lv_istore (lv' := [(6, .int (nI 0)), (4, .long (orl (rpk iv S8 bt kk) 0)), (3, .int (nI (64 / bt))), (0, .ref (ad 53)), (1, .int (nI bt)), (2, .int (nI kk))]) hx hb dX7_packed_34 hl (by decide) rfl (fun ls hl => ?_)
    have L36 : ∀ (N : Nat) (i : Nat), 64 / bt - i < N → (i ≤ 64 / bt) → ∀ (H : Heap) (locs : List Loc) (ls : Array Slot), gS D cA A H0 o ad ln iv4 n H locs → lv_has ls 8 [(0, .ref (ad 53)), (1, .int (nI bt)), (2, .int (nI kk)), (3, .int (nI (64 / bt))), (4, .long (orl (rpk iv S8 bt kk) i)), (6, .int (nI i))] → W p l e R s m args below meth c H locs cells slots Q (F0 m 36 ls []) := by
      intro N
      induction N with
      | zero => intro i hm; exact absurd hm (Nat.not_lt_zero _)
      | succ N ih36 =>
        intro i hm hi H locs ls hS hl
        refine lv_iload hx hb dX7_packed_36 (lv_at hl 5 rfl) ?_
        refine lv_iload_n hx hb dX7_packed_38 rfl (lv_at hl 3 rfl) ?_
        refine lv_icmp_ge (tgt := 100) hx hb dX7_packed_39 (by decide) (fun c_39 => ?_) (fun c_39 => ?_)
        · skip
          rw [nI_leI (by omega) (by omega)] at c_39
          have ei : i = 64 / bt := by omega
          refine lv_lload hx hb dX7_packed_100 (lv_at hl 4 rfl) ?_
          exact kret _ iv4 _ _ _ _ dX7_packed_102 (⟨by rw [ei], et⟩) hS
        · skip
          rw [nI_leI (by omega) (by omega)] at c_39
          refine lv_aload_n hx hb dX7_packed_42 rfl (lv_at hl 0 rfl) ?_
          refine gx_get (ci := 10) (v := .int (iv4 53 12)) (C := RX7) (T := TX7) (N := 23) hx hb hts (fun _ h => inX7_packed_RX7 h) hown hK hS 53 (by omega) rfl rfl 12 (by decide) (hts (.fieldLink RX7 64 "CosetTablesModel" "isBuilt" "Z") (by decide +kernel)) rfl dX7_packed_43 ?_
          refine gx_as (y := (iv 53 12)) (by rw [et, up2_n (by decide)]) ?_
          refine lv_if_eq (tgt := 100) hx hb dX7_packed_46 (by decide) (fun c_46 => ?_) (fun c_46 => ?_)
          · skip
            exact absurd c_46 hb9
          · skip
            refine lv_iload_n hx hb dX7_packed_49 rfl (lv_at hl 2 rfl) ?_
            refine lv_if_lt (tgt := 100) hx hb dX7_packed_50 (by decide) (fun c_50 => ?_) (fun c_50 => ?_)
            · skip
              rw [show (0 : Int32) = nI 0 from rfl] at c_50
              rw [nI_ltI (by omega) (by omega)] at c_50
              omega
            · skip
              rw [show (0 : Int32) = nI 0 from rfl] at c_50
              rw [nI_ltI (by omega) (by omega)] at c_50
              refine lv_iload_n hx hb dX7_packed_53 rfl (lv_at hl 2 rfl) ?_
              refine lv_ldc (v := 136080) hx hb hown (hts (.constant RX7 29 (136080)) (by decide +kernel)) dX7_packed_54 ?_
              refine gx_as (y := nI 136080) (by decide) ?_
              refine lv_icmp_gt (tgt := 100) hx hb dX7_packed_56 (by decide) (fun c_56 => ?_) (fun c_56 => ?_)
              · skip
                rw [nI_ltI (by omega) (by omega)] at c_56
                omega
              · skip
                rw [nI_ltI (by omega) (by omega)] at c_56
                refine lv_iload_n hx hb dX7_packed_59 rfl (lv_at hl 3 rfl) ?_
                refine lv_iload_n hx hb dX7_packed_60 rfl (lv_at hl 2 rfl) ?_
                refine lv_imul hx hb dX7_packed_61 ?_
                refine gx_as (y := nI ((64 / bt) * kk)) (pk_mul _ _) ?_
                refine lv_iload hx hb dX7_packed_62 (lv_at hl 5 rfl) ?_
                refine lv_iadd hx hb dX7_packed_64 ?_
                refine gx_as (y := nI (((64 / bt) * kk) + i)) (nI_add _ _) ?_
                refine lv_istore (lv' := [(7, .int (nI (((64 / bt) * kk) + i))), (0, .ref (ad 53)), (1, .int (nI bt)), (2, .int (nI kk)), (3, .int (nI (64 / bt))), (4, .long (orl (rpk iv S8 bt kk) i)), (6, .int (nI i))]) hx hb dX7_packed_65 hl (by decide) rfl (fun ls hl => ?_)
                refine lv_iload hx hb dX7_packed_67 (lv_at hl 0 rfl) ?_
                refine lv_aload_n hx hb dX7_packed_69 rfl (lv_at hl 1 rfl) ?_
                refine gx_get (ci := 10) (v := .int (iv4 53 14)) (C := RX7) (T := TX7) (N := 23) hx hb hts (fun _ h => inX7_packed_RX7 h) hown hK hS 53 (by omega) rfl rfl 14 (by decide) (hts (.fieldLink RX7 116 "CosetTablesModel" "size" "I") (by decide +kernel)) rfl dX7_packed_70 ?_
                refine gx_as (y := nI S8) (by rw [et, up2_n (by decide)]; exact hs) ?_
                refine lv_icmp_ge (tgt := 94) hx hb dX7_packed_73 (by decide) (fun c_73 => ?_) (fun c_73 => ?_)
                · skip
                  rw [nI_leI (by omega) (by omega)] at c_73
                  have hor : orl (rpk iv S8 bt kk) i = orl (rpk iv S8 bt kk) (i + 1) := by
                    show _ = orl (rpk iv S8 bt kk) i ||| rpk iv S8 bt kk i
                    unfold rpk
                    rw [if_neg (by omega)]
                    simp
                  rw [hor] at hl
                  refine lv_iinc (v := nI (i + 1)) (lv' := [(6, .int (nI (i + 1))), (7, .int (nI (((64 / bt) * kk) + i))), (0, .ref (ad 53)), (1, .int (nI bt)), (2, .int (nI kk)), (3, .int (nI (64 / bt))), (4, .long (orl (rpk iv S8 bt kk) (i + 1)))]) hx hb dX7_packed_94 hl (k := 6) rfl (nI_1 i) (by decide) rfl (fun ls hl => ?_)
                  refine lv_goto (tgt := 36) hx hb dX7_packed_97 (by decide) ?_
                  exact ih36 (i + 1) (by omega) (by omega) _ _ _ hS (lv_sub hl [2, 3, 4, 5, 6, 0] rfl)
                · skip
                  rw [nI_leI (by omega) (by omega)] at c_73
                  refine lv_lload hx hb dX7_packed_76 (lv_at hl 5 rfl) ?_
                  refine lv_aload_n hx hb dX7_packed_78 rfl (lv_at hl 1 rfl) ?_
                  refine lv_iload hx hb dX7_packed_79 (lv_at hl 0 rfl) ?_
                  refine lv_iload_n hx hb dX7_packed_81 rfl (lv_at hl 2 rfl) ?_
                  refine gc_i (gx_runV (As := [.int (nI (((64 / bt) * kk) + i)), .int (nI bt)]) (rest := [.long (orl (rpk iv S8 bt kk) i)]) ⟨hx, hb, hml, hown, hts⟩ hK hN hS 53 (by omega) rfl rfl (ct_X7_bitsOf l D cA o ad ln n H.size iv4 (x := 64 / bt * kk + i) (bt := bt) hn hln hRn9 (by omega) (by omega)) (cwV 2 hts gX7_packed_X7_bitsOf rfl rfl rfl (by decide +kernel) ⟨gle hRf rfl, gle hRl rfl⟩) rfl rfl hl.1 rfl (lv_room (Nat.le_of_ble_eq_true rfl)) dX7_packed_82 ⟨hRc, hRs⟩) hS hA (fun y iv5 H locs hp5 hS => ?_)
                  obtain ⟨ey, ev5⟩ := hp5
                  rw [ev5] at hS
                  refine gx_as (y := rbit bt (iv 60 (64 / bt * kk + i))) (by rw [ey, et, up2_row (by decide)]) ?_
                  skip
                  refine lv_i2l (v := Int32.toInt64 (rbit bt (iv 60 (64 / bt * kk + i)))) hx hb dX7_packed_85 rfl ?_
                  refine lv_iload_n hx hb dX7_packed_86 rfl (lv_at hl 2 rfl) ?_
                  refine lv_iload hx hb dX7_packed_87 (lv_at hl 6 rfl) ?_
                  refine lv_imul hx hb dX7_packed_89 ?_
                  refine gx_as (y := nI (bt * i)) (pk_mul _ _) ?_
                  refine lv_lshl (v := (Int32.toInt64 (rbit bt (iv 60 (64 / bt * kk + i)))) <<< (Int32.toInt64 (nI (bt * i)) &&& 63)) hx hb dX7_packed_90 rfl ?_
                  refine lv_lor hx hb dX7_packed_91 ?_
                  refine gx_asl (y := orl (rpk iv S8 bt kk) (i + 1)) (by show _ = orl (rpk iv S8 bt kk) i ||| rpk iv S8 bt kk i; unfold rpk; rw [if_pos (by omega)]) ?_
                  refine lv_lstore (lv' := [(4, .long (orl (rpk iv S8 bt kk) (i + 1))), (7, .int (nI (((64 / bt) * kk) + i))), (0, .ref (ad 53)), (1, .int (nI bt)), (2, .int (nI kk)), (3, .int (nI (64 / bt))), (6, .int (nI i))]) hx hb dX7_packed_92 hl (by decide) rfl (fun ls hl => ?_)
                  refine lv_iinc (v := nI (i + 1)) (lv' := [(6, .int (nI (i + 1))), (4, .long (orl (rpk iv S8 bt kk) (i + 1))), (7, .int (nI (((64 / bt) * kk) + i))), (0, .ref (ad 53)), (1, .int (nI bt)), (2, .int (nI kk)), (3, .int (nI (64 / bt)))]) hx hb dX7_packed_94 hl (k := 6) rfl (nI_1 i) (by decide) rfl (fun ls hl => ?_)
                  refine lv_goto (tgt := 36) hx hb dX7_packed_97 (by decide) ?_
                  exact ih36 (i + 1) (by omega) (by omega) _ _ _ hS (lv_sub hl [3, 4, 5, 6, 1, 0] rfl)
    exact L36 _ 0 (Nat.lt_succ_self _) (Nat.zero_le _) _ _ _ hS (lv_sub hl [3, 4, 5, 2, 1, 0] rfl)
  refine lv_aload_n hx hb dX7_packed_0 rfl (lv_at hl 0 rfl) ?_
  refine lv_iconst (v := nI 1) hx hb dX7_packed_1 (by decide) ?_
  refine lv_iload_n hx hb dX7_packed_2 rfl (lv_at hl 1 rfl) ?_
  refine lv_iconst (v := nI 2) hx hb dX7_packed_3 (by decide) ?_
  refine lv_icmp_eq (tgt := 16) hx hb dX7_packed_4 (by decide) (fun c_4 => ?_) (fun c_4 => ?_)
  · skip
    rw [nI_eq (by omega) (by omega)] at c_4
    refine lv_iconst (v := nI 0) hx hb dX7_packed_16 (by decide) ?_
    refine gc_i (gx_runV (As := [.int (nI 1), .int (nI 0)]) (rest := []) ⟨hx, hb, hml, hown, hts⟩ hK hN hS 53 (by omega) rfl rfl (ct_X7_throwsIf l D cA o ad ln n H.size iv (x := nI 1) (v := nI 0) hn hln (Or.inl rfl)) (cwV 2 hts gX7_packed_X7_throwsIf rfl rfl rfl (by decide +kernel) ⟨gle hRf rfl, gle hRl rfl⟩) rfl rfl hl.1 rfl (lv_room (Nat.le_of_ble_eq_true rfl)) dX7_packed_17 ⟨hRc, hRs⟩) hS hA (fun z iv4 H locs hp4 hS => ?_)
    obtain ⟨_, ez, et⟩ := hp4
    have et : iv4 = up2 iv 53 0 0 := et
    refine gx_as (y := nI 0) ez ?_
    refine lv_if_eq (tgt := 25) hx hb dX7_packed_20 (by decide) (fun c_20 => ?_) (fun c_20 => ?_)
    · skip
      rw [show (0 : Int32) = nI 0 from rfl] at c_20
      rw [nI_eq (by omega) (by omega)] at c_20
      exact J25 iv4 et _ _ _ hS (lv_sub hl [0, 1, 2] rfl)
    · skip
      rw [show (0 : Int32) = nI 0 from rfl] at c_20
      rw [nI_eq (by omega) (by omega)] at c_20
      omega
  · skip
    rw [nI_eq (by omega) (by omega)] at c_4
    refine lv_iload_n hx hb dX7_packed_7 rfl (lv_at hl 1 rfl) ?_
    refine lv_iconst (v := nI 4) hx hb dX7_packed_8 (by decide) ?_
    refine lv_icmp_eq (tgt := 16) hx hb dX7_packed_9 (by decide) (fun c_9 => ?_) (fun c_9 => ?_)
    · skip
      rw [nI_eq (by omega) (by omega)] at c_9
      refine lv_iconst (v := nI 0) hx hb dX7_packed_16 (by decide) ?_
      refine gc_i (gx_runV (As := [.int (nI 1), .int (nI 0)]) (rest := []) ⟨hx, hb, hml, hown, hts⟩ hK hN hS 53 (by omega) rfl rfl (ct_X7_throwsIf l D cA o ad ln n H.size iv (x := nI 1) (v := nI 0) hn hln (Or.inl rfl)) (cwV 2 hts gX7_packed_X7_throwsIf rfl rfl rfl (by decide +kernel) ⟨gle hRf rfl, gle hRl rfl⟩) rfl rfl hl.1 rfl (lv_room (Nat.le_of_ble_eq_true rfl)) dX7_packed_17 ⟨hRc, hRs⟩) hS hA (fun z iv4 H locs hp4 hS => ?_)
      obtain ⟨_, ez, et⟩ := hp4
      have et : iv4 = up2 iv 53 0 0 := et
      refine gx_as (y := nI 0) ez ?_
      refine lv_if_eq (tgt := 25) hx hb dX7_packed_20 (by decide) (fun c_20 => ?_) (fun c_20 => ?_)
      · skip
        rw [show (0 : Int32) = nI 0 from rfl] at c_20
        rw [nI_eq (by omega) (by omega)] at c_20
        exact J25 iv4 et _ _ _ hS (lv_sub hl [0, 1, 2] rfl)
      · skip
        rw [show (0 : Int32) = nI 0 from rfl] at c_20
        rw [nI_eq (by omega) (by omega)] at c_20
        omega
    · skip
      rw [nI_eq (by omega) (by omega)] at c_9
      omega
set_option maxRecDepth 100000 in
theorem ct_X7_packedY (l : Launch) (D : va_G) (cA : Nat → ClassId) (o : Nat → Int64) (ad ln : Nat → Nat) (n sz : Nat) (iv : Nat → Nat → Int32) (bt kk S8 : Nat) (hn : 68 ≤ n) (hln : ∀ k, ln k < 2 ^ 31) (hRn : rln ln) (hbt : bt = 2 ∨ bt = 4) (hk : kk ≤ 136080) (hb9 : ¬ iv 53 12 = 0) (hs : iv 53 14 = nI S8) (hS8 : S8 ≤ 136080) : gMl l yX7_packed wsX7_packed { frames := 1, cells := 0, slots := 0, locals := 23 } D cA o ad ln n sz iv [.ref (ad 53), .int (nI bt), .int (nI kk)] (fun (r : Int64) iv' => r = orl (rpk iv S8 bt kk) (64 / bt) ∧ iv' = up2 iv 53 0 0) := by
  refine Met.ofW (cc := cX7_packed) (maxL := 8) (ret := (some .long)) (by decide) rfl ?_
  intro p e s m args below meth c s₁ B hml hv__
  obtain ⟨rfl, hv__⟩ := hv__
  obtain ⟨hsz, hS, hK, hN, hA⟩ := gS.entry hv__
  have hl := lv_entry ([.ref (ad 53), .int (nI bt), .int (nI kk)]) (n := 8) (Nat.le_of_ble_eq_true rfl)
  rw [lg_entry_eq]
  generalize (lg_sl ([.ref (ad 53), .int (nI bt), .int (nI kk)]) ++ List.replicate (8 - (lg_sl ([.ref (ad 53), .int (nI bt), .int (nI kk)])).length) Slot.unset).toArray = ls at hl ⊢
  exact bd_X7_packedY (bt := bt) (kk := kk) (S8 := S8) ⟨B.exec, B.bytes, hml, findClass_of_methodNamed B.named, atoms_spec (ws := wsX7_packed) B.pre, B.returns, B.notSynchronized⟩ (Nat.le_refl _) (Nat.le_refl _) (Nat.le_refl _) (Nat.le_refl _) hK hN hA hn hln hRn hbt hk hb9 hs hS8 hS hl (fun r iv' H locs ls pc hd hp hS => gx_lret B.exec B.bytes B.returns B.notSynchronized hS hp hd)

set_option maxHeartbeats 1000000 in
set_option maxRecDepth 100000 in
theorem bd_X7_packedB {p : Program} {l : Launch} {e : Env} {R : Room} {s : State} {m : MethodId} {args : Array Value} {below : List Frame} {meth : Method} {c : Code} {H : Heap} {locs : List Loc} {cells slots : Nat} {Q : State → Prop} {ls : Array Slot} {D : va_G} {A : Nat → Prop} {H0 : Heap} {cA : Nat → ClassId} {o : Nat → Int64} {ad ln : Nat → Nat} {iv : Nat → Nat → Int32} {n : Nat} {x1 x2 : Int32}
    (F : gF p s m meth c cX7_packed 8 RX7 wsX7_packed args (some .long)) (hRf : 1 ≤ R.frames) (hRl : 22 ≤ R.locals) (hRc : cells ≤ R.cells) (hRs : slots ≤ R.slots) (hK : va_K D vwCl (gT cA) s) (hN : NW s) (hA : ∀ q, H0.size ≤ q → A q) (hn : 68 ≤ n) (hln : ∀ k, ln k < 2 ^ 31) (hb2 : ¬ x1 = nI 2) (hb4 : ¬ x1 = nI 4)
    (hS : gS D cA A H0 o ad ln iv n H locs) (hl : lv_has ls 8 [(0, .ref (ad 53)), (1, .int x1), (2, .int x2)])
    (kret : ∀ (r : Int64) (iv' : Nat → Nat → Int32) (H : Heap) (locs : List Loc) (ls : Array Slot) (pc : Nat), decode cX7_packed pc = .ok (.lreturn, 1) → (r = 0 ∧ iv' = up2 iv 53 0 1) → gS D cA A H0 o ad ln iv' n H locs → W p l e R s m args below meth c H locs cells slots Q (F0 m pc ls [.long r])) :
    W p l e R s m args below meth c H locs cells slots Q (F0 m 0 ls []) := by
  obtain ⟨hx, hb, hml, hown, hts, hr, hlocks⟩ := F
  refine lv_aload_n hx hb dX7_packed_0 rfl (lv_at hl 0 rfl) ?_
  refine lv_iconst (v := nI 1) hx hb dX7_packed_1 (by decide) ?_
  refine lv_iload_n hx hb dX7_packed_2 rfl (lv_at hl 1 rfl) ?_
  refine lv_iconst (v := nI 2) hx hb dX7_packed_3 (by decide) ?_
  refine lv_icmp_eq (tgt := 16) hx hb dX7_packed_4 (by decide) (fun c_4 => ?_) (fun c_4 => ?_)
  · skip
    exact absurd c_4 hb2
  · skip
    refine lv_iload_n hx hb dX7_packed_7 rfl (lv_at hl 1 rfl) ?_
    refine lv_iconst (v := nI 4) hx hb dX7_packed_8 (by decide) ?_
    refine lv_icmp_eq (tgt := 16) hx hb dX7_packed_9 (by decide) (fun c_9 => ?_) (fun c_9 => ?_)
    · skip
      exact absurd c_9 hb4
    · skip
      refine lv_iconst (v := nI 1) hx hb dX7_packed_12 (by decide) ?_
      refine lv_goto (tgt := 17) hx hb dX7_packed_13 (by decide) ?_
      refine gc_i (gx_runV (As := [.int (nI 1), .int (nI 1)]) (rest := []) ⟨hx, hb, hml, hown, hts⟩ hK hN hS 53 (by omega) rfl rfl (ct_X7_throwsIf l D cA o ad ln n H.size iv (x := nI 1) (v := nI 1) hn hln (Or.inr rfl)) (cwV 2 hts gX7_packed_X7_throwsIf rfl rfl rfl (by decide +kernel) ⟨gle hRf rfl, gle hRl rfl⟩) rfl rfl hl.1 rfl (lv_room (Nat.le_of_ble_eq_true rfl)) dX7_packed_17 ⟨hRc, hRs⟩) hS hA (fun z iv4 H locs hp4 hS => ?_)
      obtain ⟨_, ez, et⟩ := hp4
      have et : iv4 = up2 iv 53 0 1 := et
      refine gx_as (y := nI 1) ez ?_
      refine lv_if_eq (tgt := 25) hx hb dX7_packed_20 (by decide) (fun c_20 => ?_) (fun c_20 => ?_)
      · skip
        rw [show (0 : Int32) = nI 0 from rfl] at c_20
        rw [nI_eq (by omega) (by omega)] at c_20
        omega
      · skip
        rw [show (0 : Int32) = nI 0 from rfl] at c_20
        rw [nI_eq (by omega) (by omega)] at c_20
        refine lv_lconst (v := 0) hx hb dX7_packed_23 (by decide) ?_
        exact kret _ iv4 _ _ _ _ dX7_packed_24 (⟨rfl, et⟩) hS
set_option maxRecDepth 100000 in
theorem ct_X7_packedB (l : Launch) (D : va_G) (cA : Nat → ClassId) (o : Nat → Int64) (ad ln : Nat → Nat) (n sz : Nat) (iv : Nat → Nat → Int32) (x1 x2 : Int32) (hn : 68 ≤ n) (hln : ∀ k, ln k < 2 ^ 31) (hb2 : ¬ x1 = nI 2) (hb4 : ¬ x1 = nI 4) : gMl l yX7_packed wsX7_packed { frames := 1, cells := 0, slots := 0, locals := 22 } D cA o ad ln n sz iv [.ref (ad 53), .int x1, .int x2] (fun (r : Int64) iv' => r = 0 ∧ iv' = up2 iv 53 0 1) := by
  refine Met.ofW (cc := cX7_packed) (maxL := 8) (ret := (some .long)) (by decide) rfl ?_
  intro p e s m args below meth c s₁ B hml hv__
  obtain ⟨rfl, hv__⟩ := hv__
  obtain ⟨hsz, hS, hK, hN, hA⟩ := gS.entry hv__
  have hl := lv_entry ([.ref (ad 53), .int x1, .int x2]) (n := 8) (Nat.le_of_ble_eq_true rfl)
  rw [lg_entry_eq]
  generalize (lg_sl ([.ref (ad 53), .int x1, .int x2]) ++ List.replicate (8 - (lg_sl ([.ref (ad 53), .int x1, .int x2])).length) Slot.unset).toArray = ls at hl ⊢
  exact bd_X7_packedB (x1 := x1) (x2 := x2) ⟨B.exec, B.bytes, hml, findClass_of_methodNamed B.named, atoms_spec (ws := wsX7_packed) B.pre, B.returns, B.notSynchronized⟩ (Nat.le_refl _) (Nat.le_refl _) (Nat.le_refl _) (Nat.le_refl _) hK hN hA hn hln hb2 hb4 hS hl (fun r iv' H locs ls pc hd hp hS => gx_lret B.exec B.bytes B.returns B.notSynchronized hS hp hd)

theorem inX7_symmetry_RX7 : ∀ {w : Cond}, w ∈ u_ws RX7 TX7 23 → w ∈ wsX7_symmetry := fun {w} h => by first | exact List.mem_cons_of_mem _ (List.mem_append_right _ h) | (revert h; revert w; show ∀ w ∈ u_ws RX7 TX7 23, w ∈ wsX7_symmetry; decide +kernel)
set_option maxHeartbeats 1000000 in
set_option maxRecDepth 100000 in
theorem bd_X7_symmetry {p : Program} {l : Launch} {e : Env} {R : Room} {s : State} {m : MethodId} {args : Array Value} {below : List Frame} {meth : Method} {c : Code} {H : Heap} {locs : List Loc} {cells slots : Nat} {Q : State → Prop} {ls : Array Slot} {D : va_G} {A : Nat → Prop} {H0 : Heap} {cA : Nat → ClassId} {o : Nat → Int64} {ad ln : Nat → Nat} {iv : Nat → Nat → Int32} {n : Nat} {s8 : Nat}
    (F : gF p s m meth c cX7_symmetry 2 RX7 wsX7_symmetry args (some .int)) (hRf : 0 ≤ R.frames) (hRl : 0 ≤ R.locals) (hRc : cells ≤ R.cells) (hRs : slots ≤ R.slots) (hK : va_K D vwCl (gT cA) s) (hN : NW s) (hA : ∀ q, H0.size ≤ q → A q) (hn : 68 ≤ n) (hln : ∀ k, ln k < 2 ^ 31) (hRn : rln ln) (hs0 : iv 53 18 = nI s8) (hs4 : s8 ≤ 4)
    (hS : gS D cA A H0 o ad ln iv n H locs) (hl : lv_has ls 2 [(0, .ref (ad 53))])
    (kret : ∀ (r : Int32) (iv' : Nat → Nat → Int32) (H : Heap) (locs : List Loc) (ls : Array Slot) (pc : Nat), decode cX7_symmetry pc = .ok (.ireturn, 1) → (if s8 = 4 then r = -1 ∧ iv' = up2 iv 53 0 0 else r = nI s8 ∧ (∀ j, iv' 53 j = if j = 0 then 0 else if j = 18 then nI (s8 + 1) else iv 53 j) ∧ (∀ j, iv' 63 j = if 8 * s8 ≤ j ∧ j < 8 * s8 + 8 then nI (j - 8 * s8) else iv 63 j) ∧ ∀ q, q ≠ 53 → q ≠ 63 → iv' q = iv q) → gS D cA A H0 o ad ln iv' n H locs → W p l e R s m args below meth c H locs cells slots Q (F0 m pc ls [.int r])) :
    W p l e R s m args below meth c H locs cells slots Q (F0 m 0 ls []) := by
  obtain ⟨hx, hb, hml, hown, hts, hr, hlocks⟩ := F
  have hRn9 := hRn
  obtain ⟨r54, r55, r56, r57, r58, r59, r60, r61, r62, r63, r64, r65, r66⟩ := hRn
  refine lv_aload_n hx hb dX7_symmetry_0 rfl (lv_at hl 0 rfl) ?_
  refine lv_iconst (v := nI 0) hx hb dX7_symmetry_1 (by decide) ?_
  refine gx_put (ci := 10) (x := nI 0) (ty := .int) (C := RX7) (T := TX7) (N := 23) hx hb hts (fun _ h => inX7_symmetry_RX7 h) tyX7 tyX7_ok nmX7 hown hK hS 53 (by omega) rfl rfl 0 (by decide) (hts (.fieldLink RX7 58 "CosetTablesModel" "thrown" "I") (by decide +kernel)) rfl (by decide +kernel) rfl rfl (Nat.le_of_ble_eq_true rfl) rfl dX7_symmetry_2 (fun H locs hS => ?_)
  obtain ⟨iv1, eiv1⟩ : ∃ z, z = up2 iv 53 0 (nI 0) := ⟨_, rfl⟩
  rw [← eiv1] at hS
  refine lv_aload_n hx hb dX7_symmetry_5 rfl (lv_at hl 0 rfl) ?_
  refine gx_get (ci := 10) (v := .int (iv1 53 18)) (C := RX7) (T := TX7) (N := 23) hx hb hts (fun _ h => inX7_symmetry_RX7 h) hown hK hS 53 (by omega) rfl rfl 18 (by decide) (hts (.fieldLink RX7 132 "CosetTablesModel" "symmetries" "I") (by decide +kernel)) rfl dX7_symmetry_6 ?_
  refine gx_as (y := nI s8) (by rw [eiv1, up2_n (by decide)]; exact hs0) ?_
  refine lv_iconst (v := nI 4) hx hb dX7_symmetry_9 (by decide) ?_
  refine lv_icmp_ne (tgt := 15) hx hb dX7_symmetry_10 (by decide) (fun c_10 => ?_) (fun c_10 => ?_)
  · skip
    rw [nI_eq (by omega) (by omega)] at c_10
    refine lv_iconst (v := nI 0) hx hb dX7_symmetry_15 (by decide) ?_
    refine lv_istore_n (lv' := [(1, .int (nI 0)), (0, .ref (ad 53))]) hx hb dX7_symmetry_16 rfl hl (by decide) rfl (fun ls hl => ?_)
    have L17 : ∀ (N : Nat) (i : Nat) (iv2 : Nat → Nat → Int32), 8 - i < N → (i ≤ 8) → (∀ j, iv2 63 j = if 8 * s8 ≤ j ∧ j < 8 * s8 + i then nI (j - 8 * s8) else iv 63 j) → (∀ q, q ≠ 63 → iv2 q = iv1 q) → ∀ (H : Heap) (locs : List Loc) (ls : Array Slot), gS D cA A H0 o ad ln iv2 n H locs → lv_has ls 2 [(0, .ref (ad 53)), (1, .int (nI i))] → W p l e R s m args below meth c H locs cells slots Q (F0 m 17 ls []) := by
      intro N
      induction N with
      | zero => intro i iv2 hm; exact absurd hm (Nat.not_lt_zero _)
      | succ N ih17 =>
        intro i iv2 hm hi h1 h3 H locs ls hS hl
        refine lv_iload_n hx hb dX7_symmetry_17 rfl (lv_at hl 1 rfl) ?_
        refine lv_bipush (v := nI 8) hx hb dX7_symmetry_18 (by decide) ?_
        refine lv_icmp_ge (tgt := 44) hx hb dX7_symmetry_20 (by decide) (fun c_20 => ?_) (fun c_20 => ?_)
        · skip
          rw [nI_leI (by omega) (by omega)] at c_20
          have ei : i = 8 := by omega
          subst ei
          have o53 : iv2 53 = iv1 53 := h3 53 (by decide)
          refine lv_aload_n hx hb dX7_symmetry_44 rfl (lv_at hl 0 rfl) ?_
          refine lv_dup hx hb dX7_symmetry_45 rfl ?_
          refine gx_get (ci := 10) (v := .int (iv2 53 18)) (C := RX7) (T := TX7) (N := 23) hx hb hts (fun _ h => inX7_symmetry_RX7 h) hown hK hS 53 (by omega) rfl rfl 18 (by decide) (hts (.fieldLink RX7 132 "CosetTablesModel" "symmetries" "I") (by decide +kernel)) rfl dX7_symmetry_46 ?_
          refine gx_as (y := nI s8) (by rw [o53, eiv1, up2_n (by decide)]; exact hs0) ?_
          refine lv_iconst (v := nI 1) hx hb dX7_symmetry_49 (by decide) ?_
          refine lv_iadd hx hb dX7_symmetry_50 ?_
          refine gx_as (y := nI (s8 + 1)) (nI_add _ _) ?_
          refine gx_put (ci := 10) (x := nI (s8 + 1)) (ty := .int) (C := RX7) (T := TX7) (N := 23) hx hb hts (fun _ h => inX7_symmetry_RX7 h) tyX7 tyX7_ok nmX7 hown hK hS 53 (by omega) rfl rfl 18 (by decide) (hts (.fieldLink RX7 132 "CosetTablesModel" "symmetries" "I") (by decide +kernel)) rfl (by decide +kernel) rfl rfl (Nat.le_of_ble_eq_true rfl) rfl dX7_symmetry_51 (fun H locs hS => ?_)
          obtain ⟨iv5, eiv5⟩ : ∃ z, z = up2 iv2 53 18 (nI (s8 + 1)) := ⟨_, rfl⟩
          rw [← eiv5] at hS
          refine lv_aload_n hx hb dX7_symmetry_54 rfl (lv_at hl 0 rfl) ?_
          refine gx_get (ci := 10) (v := .int (iv5 53 18)) (C := RX7) (T := TX7) (N := 23) hx hb hts (fun _ h => inX7_symmetry_RX7 h) hown hK hS 53 (by omega) rfl rfl 18 (by decide) (hts (.fieldLink RX7 132 "CosetTablesModel" "symmetries" "I") (by decide +kernel)) rfl dX7_symmetry_55 ?_
          refine gx_as (y := nI (s8 + 1)) (by rw [eiv5, up2_s]) ?_
          refine lv_iconst (v := nI 1) hx hb dX7_symmetry_58 (by decide) ?_
          refine lv_isub hx hb dX7_symmetry_59 ?_
          refine gx_as (y := nI s8) (pk_sub (by omega)) ?_
          exact kret _ iv5 _ _ _ _ dX7_symmetry_60 (by
                rw [if_neg c_10]
                refine ⟨rfl, fun j => ?_, fun j => by rw [eiv5, up2_row (by decide)]; exact h1 j, fun q x1 x2 => by rw [eiv5, up2_row x1, h3 q x2, eiv1, up2_row x1]⟩
                rw [eiv5, up2_eq, o53, eiv1, up2_eq]
                by_cases e0 : j = 0
                · subst e0; rfl
                by_cases e3 : j = 18
                · subst e3; rfl
                simp [e0, e3]) hS
        · skip
          rw [nI_leI (by omega) (by omega)] at c_20
          have o53 : iv2 53 = iv1 53 := h3 53 (by decide)
          refine lv_aload_n hx hb dX7_symmetry_23 rfl (lv_at hl 0 rfl) ?_
          refine gx_get (ci := 10) (v := .ref (ad 63)) (C := RX7) (T := TX7) (N := 23) hx hb hts (fun _ h => inX7_symmetry_RX7 h) hown hK hS 53 (by omega) rfl rfl 19 (by decide) (hts (.fieldLink RX7 39 "CosetTablesModel" "goes" "[I") (by decide +kernel)) rfl dX7_symmetry_24 ?_
          refine lv_bipush (v := nI 8) hx hb dX7_symmetry_27 (by decide) ?_
          refine lv_aload_n hx hb dX7_symmetry_29 rfl (lv_at hl 0 rfl) ?_
          refine gx_get (ci := 10) (v := .int (iv2 53 18)) (C := RX7) (T := TX7) (N := 23) hx hb hts (fun _ h => inX7_symmetry_RX7 h) hown hK hS 53 (by omega) rfl rfl 18 (by decide) (hts (.fieldLink RX7 132 "CosetTablesModel" "symmetries" "I") (by decide +kernel)) rfl dX7_symmetry_30 ?_
          refine gx_as (y := nI s8) (by rw [o53, eiv1, up2_n (by decide)]; exact hs0) ?_
          refine lv_imul hx hb dX7_symmetry_33 ?_
          refine gx_as (y := nI (8 * s8)) (pk_mul _ _) ?_
          refine lv_iload_n hx hb dX7_symmetry_34 rfl (lv_at hl 1 rfl) ?_
          refine lv_iadd hx hb dX7_symmetry_35 ?_
          refine gx_as (y := nI ((8 * s8) + i)) (nI_add _ _) ?_
          refine lv_iload_n hx hb dX7_symmetry_36 rfl (lv_at hl 1 rfl) ?_
          refine gx_iastn hx hb hK hS 63 (by omega) (by decide) ((8 * s8) + i) (by omega) (hln _) dX7_symmetry_37 (fun H locs hS => ?_)
          obtain ⟨iv3, eiv3⟩ : ∃ z, z = up2 iv2 63 ((8 * s8) + i) (nI i) := ⟨_, rfl⟩
          rw [← eiv3] at hS
          refine lv_iinc (v := nI (i + 1)) (lv' := [(1, .int (nI (i + 1))), (0, .ref (ad 53))]) hx hb dX7_symmetry_38 hl (k := 1) rfl (nI_1 i) (by decide) rfl (fun ls hl => ?_)
          refine lv_goto (tgt := 17) hx hb dX7_symmetry_41 (by decide) ?_
          exact ih17 (i + 1) iv3 (by omega) (by omega) (fun j => by rw [eiv3, up2_eq]; by_cases e : j = 8 * s8 + i <;> first | (subst e; rw [if_pos ⟨rfl, rfl⟩, if_pos (by omega), show 8 * s8 + i - 8 * s8 = i by omega]; done) | (rw [if_neg (fun q => e q.2), h1 j]; by_cases e2 : 8 * s8 ≤ j ∧ j < 8 * s8 + i <;> first | (rw [if_pos e2, if_pos (by omega)]; done) | (rw [if_neg e2, if_neg (by omega)]; done))) (fun q x1 => by rw [eiv3, up2_row x1, h3 q x1]) _ _ _ hS (lv_sub hl [1, 0] rfl)
    exact L17 _ 0 iv1 (Nat.lt_succ_self _) (Nat.zero_le _) (fun j => by rw [if_neg (by omega), eiv1, up2_row (by decide)]) (fun _ _ => rfl) _ _ _ hS (lv_sub hl [1, 0] rfl)
  · skip
    rw [nI_eq (by omega) (by omega)] at c_10
    refine lv_iconst (v := (-1)) hx hb dX7_symmetry_13 (by decide) ?_
    exact kret _ iv1 _ _ _ _ dX7_symmetry_14 (by rw [if_pos c_10]; exact ⟨rfl, by rw [eiv1]; rfl⟩) hS
set_option maxRecDepth 100000 in
theorem ct_X7_symmetry (l : Launch) (D : va_G) (cA : Nat → ClassId) (o : Nat → Int64) (ad ln : Nat → Nat) (n sz : Nat) (iv : Nat → Nat → Int32) (s8 : Nat) (hn : 68 ≤ n) (hln : ∀ k, ln k < 2 ^ 31) (hRn : rln ln) (hs0 : iv 53 18 = nI s8) (hs4 : s8 ≤ 4) : gMi l yX7_symmetry wsX7_symmetry { frames := 0, cells := 0, slots := 0, locals := 0 } D cA o ad ln n sz iv [.ref (ad 53)] (fun (r : Int32) iv' => if s8 = 4 then r = -1 ∧ iv' = up2 iv 53 0 0 else r = nI s8 ∧ (∀ j, iv' 53 j = if j = 0 then 0 else if j = 18 then nI (s8 + 1) else iv 53 j) ∧ (∀ j, iv' 63 j = if 8 * s8 ≤ j ∧ j < 8 * s8 + 8 then nI (j - 8 * s8) else iv 63 j) ∧ ∀ q, q ≠ 53 → q ≠ 63 → iv' q = iv q) := by
  refine Met.ofW (cc := cX7_symmetry) (maxL := 2) (ret := (some .int)) (by decide) rfl ?_
  intro p e s m args below meth c s₁ B hml hv__
  obtain ⟨rfl, hv__⟩ := hv__
  obtain ⟨hsz, hS, hK, hN, hA⟩ := gS.entry hv__
  have hl := lv_entry ([.ref (ad 53)]) (n := 2) (Nat.le_of_ble_eq_true rfl)
  rw [lg_entry_eq]
  generalize (lg_sl ([.ref (ad 53)]) ++ List.replicate (2 - (lg_sl ([.ref (ad 53)])).length) Slot.unset).toArray = ls at hl ⊢
  exact bd_X7_symmetry (s8 := s8) ⟨B.exec, B.bytes, hml, findClass_of_methodNamed B.named, atoms_spec (ws := wsX7_symmetry) B.pre, B.returns, B.notSynchronized⟩ (Nat.le_refl _) (Nat.le_refl _) (Nat.le_refl _) (Nat.le_refl _) hK hN hA hn hln hRn hs0 hs4 hS hl (fun r iv' H locs ls pc hd hp hS => gx_iret B.exec B.bytes B.returns B.notSynchronized hS hp hd)

theorem inX7_turn_RX7 : ∀ {w : Cond}, w ∈ u_ws RX7 TX7 23 → w ∈ wsX7_turn := fun {w} h => by first | exact List.mem_cons_of_mem _ (List.mem_append_right _ h) | (revert h; revert w; show ∀ w ∈ u_ws RX7 TX7 23, w ∈ wsX7_turn; decide +kernel)
set_option maxHeartbeats 1000000 in
set_option maxRecDepth 100000 in
theorem bd_X7_turn {p : Program} {l : Launch} {e : Env} {R : Room} {s : State} {m : MethodId} {args : Array Value} {below : List Frame} {meth : Method} {c : Code} {H : Heap} {locs : List Loc} {cells slots : Nat} {Q : State → Prop} {ls : Array Slot} {D : va_G} {A : Nat → Prop} {H0 : Heap} {cA : Nat → ClassId} {o : Nat → Int64} {ad ln : Nat → Nat} {iv : Nat → Nat → Int32} {n : Nat} {s8 a b P sc9 : Nat}
    (F : gF p s m meth c cX7_turn 5 RX7 wsX7_turn args (some .boolean)) (hRf : 1 ≤ R.frames) (hRl : 22 ≤ R.locals) (hRc : cells ≤ R.cells) (hRs : slots ≤ R.slots) (hK : va_K D vwCl (gT cA) s) (hN : NW s) (hA : ∀ q, H0.size ≤ q → A q) (hn : 68 ≤ n) (hln : ∀ k, ln k < 2 ^ 31) (hRn : rln ln) (hs0 : iv 53 18 = nI sc9) (hs4 : sc9 ≤ 4) (hs9 : s8 < sc9) (hP0 : iv 53 1 = nI P) (hP : P ≤ 8) (ha : a < P) (hb9 : b < P)
    (hS : gS D cA A H0 o ad ln iv n H locs) (hl : lv_has ls 5 [(0, .ref (ad 53)), (1, .int (nI s8)), (2, .int (nI a)), (3, .int (nI b))])
    (kret : ∀ (r : Int32) (iv' : Nat → Nat → Int32) (H : Heap) (locs : List Loc) (ls : Array Slot) (pc : Nat), decode cX7_turn pc = .ok (.ireturn, 1) → ((r = 0 ∨ r = 1) ∧ (if a = b then r = 0 ∧ iv' = up2 iv 53 0 0 else r = 1 ∧ iv' = up2 (up2 (up2 iv 53 0 0) 63 (8 * s8 + a) (iv 63 (8 * s8 + b))) 63 (8 * s8 + b) (iv 63 (8 * s8 + a)))) → gS D cA A H0 o ad ln iv' n H locs → W p l e R s m args below meth c H locs cells slots Q (F0 m pc ls [.int r])) :
    W p l e R s m args below meth c H locs cells slots Q (F0 m 0 ls []) := by
  obtain ⟨hx, hb, hml, hown, hts, hr, hlocks⟩ := F
  have hRn9 := hRn
  obtain ⟨r54, r55, r56, r57, r58, r59, r60, r61, r62, r63, r64, r65, r66⟩ := hRn
  refine lv_aload_n hx hb dX7_turn_0 rfl (lv_at hl 0 rfl) ?_
  refine lv_iconst (v := nI 1) hx hb dX7_turn_1 (by decide) ?_
  refine lv_iload_n hx hb dX7_turn_2 rfl (lv_at hl 1 rfl) ?_
  refine lv_if_lt (tgt := 30) hx hb dX7_turn_3 (by decide) (fun c_3 => ?_) (fun c_3 => ?_)
  · skip
    rw [show (0 : Int32) = nI 0 from rfl] at c_3
    rw [nI_ltI (by omega) (by omega)] at c_3
    omega
  · skip
    rw [show (0 : Int32) = nI 0 from rfl] at c_3
    rw [nI_ltI (by omega) (by omega)] at c_3
    refine lv_iload_n hx hb dX7_turn_6 rfl (lv_at hl 1 rfl) ?_
    refine lv_aload_n hx hb dX7_turn_7 rfl (lv_at hl 0 rfl) ?_
    refine gx_get (ci := 10) (v := .int (iv 53 18)) (C := RX7) (T := TX7) (N := 23) hx hb hts (fun _ h => inX7_turn_RX7 h) hown hK hS 53 (by omega) rfl rfl 18 (by decide) (hts (.fieldLink RX7 132 "CosetTablesModel" "symmetries" "I") (by decide +kernel)) rfl dX7_turn_8 ?_
    refine gx_as (y := nI sc9) hs0 ?_
    refine lv_icmp_ge (tgt := 30) hx hb dX7_turn_11 (by decide) (fun c_11 => ?_) (fun c_11 => ?_)
    · skip
      rw [nI_leI (by omega) (by omega)] at c_11
      omega
    · skip
      rw [nI_leI (by omega) (by omega)] at c_11
      refine lv_aload_n hx hb dX7_turn_14 rfl (lv_at hl 0 rfl) ?_
      refine lv_iload_n hx hb dX7_turn_15 rfl (lv_at hl 2 rfl) ?_
      refine gc_i (gx_runV (As := [.int (nI a)]) (rest := [.int (nI 1), .ref (ad 53)]) ⟨hx, hb, hml, hown, hts⟩ hK hN hS 53 (by omega) rfl rfl (ct_X7_isPlace l D cA o ad ln n H.size iv (x := nI a) hn hln) (cwV 1 hts gX7_turn_X7_isPlace rfl rfl rfl (by decide +kernel) ⟨gle hRf rfl, gle hRl rfl⟩) rfl rfl hl.1 rfl (lv_room (Nat.le_of_ble_eq_true rfl)) dX7_turn_16 ⟨hRc, hRs⟩) hS hA (fun y2 iv2 H locs hp2 hS => ?_)
      obtain ⟨h012, h2, ev2⟩ := hp2
      rw [ev2] at hS
      skip
      refine lv_if_eq (tgt := 30) hx hb dX7_turn_19 (by decide) (fun c_19 => ?_) (fun c_19 => ?_)
      · skip
        exact absurd (h2.mpr (by rw [hP0]; exact ok9_nI (by omega) (by omega))) (by rw [c_19]; decide)
      · skip
        refine lv_aload_n hx hb dX7_turn_22 rfl (lv_at hl 0 rfl) ?_
        refine lv_iload_n hx hb dX7_turn_23 rfl (lv_at hl 3 rfl) ?_
        refine gc_i (gx_runV (As := [.int (nI b)]) (rest := [.int (nI 1), .ref (ad 53)]) ⟨hx, hb, hml, hown, hts⟩ hK hN hS 53 (by omega) rfl rfl (ct_X7_isPlace l D cA o ad ln n H.size iv (x := nI b) hn hln) (cwV 1 hts gX7_turn_X7_isPlace rfl rfl rfl (by decide +kernel) ⟨gle hRf rfl, gle hRl rfl⟩) rfl rfl hl.1 rfl (lv_room (Nat.le_of_ble_eq_true rfl)) dX7_turn_24 ⟨hRc, hRs⟩) hS hA (fun y3 iv3 H locs hp3 hS => ?_)
        obtain ⟨h013, h3, ev3⟩ := hp3
        rw [ev3] at hS
        skip
        refine lv_if_ne (tgt := 34) hx hb dX7_turn_27 (by decide) (fun c_27 => ?_) (fun c_27 => ?_)
        · skip
          refine lv_iconst (v := nI 0) hx hb dX7_turn_34 (by decide) ?_
          refine gc_i (gx_runV (As := [.int (nI 1), .int (nI 0)]) (rest := []) ⟨hx, hb, hml, hown, hts⟩ hK hN hS 53 (by omega) rfl rfl (ct_X7_throwsIf l D cA o ad ln n H.size iv (x := nI 1) (v := nI 0) hn hln (Or.inl rfl)) (cwV 2 hts gX7_turn_X7_throwsIf rfl rfl rfl (by decide +kernel) ⟨gle hRf rfl, gle hRl rfl⟩) rfl rfl hl.1 rfl (lv_room (Nat.le_of_ble_eq_true rfl)) dX7_turn_35 ⟨hRc, hRs⟩) hS hA (fun z iv4 H locs hp4 hS => ?_)
          obtain ⟨_, ez, et⟩ := hp4
          have et : iv4 = up2 iv 53 0 0 := et
          refine gx_as (y := nI 0) ez ?_
          refine lv_if_ne (tgt := 46) hx hb dX7_turn_38 (by decide) (fun c_38 => ?_) (fun c_38 => ?_)
          · skip
            rw [show (0 : Int32) = nI 0 from rfl] at c_38
            rw [nI_eq (by omega) (by omega)] at c_38
            omega
          · skip
            rw [show (0 : Int32) = nI 0 from rfl] at c_38
            rw [nI_eq (by omega) (by omega)] at c_38
            refine lv_iload_n hx hb dX7_turn_41 rfl (lv_at hl 2 rfl) ?_
            refine lv_iload_n hx hb dX7_turn_42 rfl (lv_at hl 3 rfl) ?_
            refine lv_icmp_ne (tgt := 48) hx hb dX7_turn_43 (by decide) (fun c_43 => ?_) (fun c_43 => ?_)
            · skip
              rw [nI_eq (by omega) (by omega)] at c_43
              refine lv_aload_n hx hb dX7_turn_48 rfl (lv_at hl 0 rfl) ?_
              refine gx_get (ci := 10) (v := .ref (ad 63)) (C := RX7) (T := TX7) (N := 23) hx hb hts (fun _ h => inX7_turn_RX7 h) hown hK hS 53 (by omega) rfl rfl 19 (by decide) (hts (.fieldLink RX7 39 "CosetTablesModel" "goes" "[I") (by decide +kernel)) rfl dX7_turn_49 ?_
              refine lv_bipush (v := nI 8) hx hb dX7_turn_52 (by decide) ?_
              refine lv_iload_n hx hb dX7_turn_54 rfl (lv_at hl 1 rfl) ?_
              refine lv_imul hx hb dX7_turn_55 ?_
              refine gx_as (y := nI (8 * s8)) (pk_mul _ _) ?_
              refine lv_iload_n hx hb dX7_turn_56 rfl (lv_at hl 2 rfl) ?_
              refine lv_iadd hx hb dX7_turn_57 ?_
              refine gx_as (y := nI ((8 * s8) + a)) (nI_add _ _) ?_
              refine gx_ialdn hx hb hK hS 63 (by omega) (by decide) ((8 * s8) + a) (by omega) (hln _) dX7_turn_58 ?_
              refine lv_topi (fun g1 eg1 => ?_)
              refine lv_istore (lv' := [(4, .int g1), (0, .ref (ad 53)), (1, .int (nI s8)), (2, .int (nI a)), (3, .int (nI b))]) hx hb dX7_turn_59 hl (by decide) rfl (fun ls hl => ?_)
              refine lv_aload_n hx hb dX7_turn_61 rfl (lv_at hl 1 rfl) ?_
              refine gx_get (ci := 10) (v := .ref (ad 63)) (C := RX7) (T := TX7) (N := 23) hx hb hts (fun _ h => inX7_turn_RX7 h) hown hK hS 53 (by omega) rfl rfl 19 (by decide) (hts (.fieldLink RX7 39 "CosetTablesModel" "goes" "[I") (by decide +kernel)) rfl dX7_turn_62 ?_
              refine lv_bipush (v := nI 8) hx hb dX7_turn_65 (by decide) ?_
              refine lv_iload_n hx hb dX7_turn_67 rfl (lv_at hl 2 rfl) ?_
              refine lv_imul hx hb dX7_turn_68 ?_
              refine gx_as (y := nI (8 * s8)) (pk_mul _ _) ?_
              refine lv_iload_n hx hb dX7_turn_69 rfl (lv_at hl 3 rfl) ?_
              refine lv_iadd hx hb dX7_turn_70 ?_
              refine gx_as (y := nI ((8 * s8) + a)) (nI_add _ _) ?_
              refine lv_aload_n hx hb dX7_turn_71 rfl (lv_at hl 1 rfl) ?_
              refine gx_get (ci := 10) (v := .ref (ad 63)) (C := RX7) (T := TX7) (N := 23) hx hb hts (fun _ h => inX7_turn_RX7 h) hown hK hS 53 (by omega) rfl rfl 19 (by decide) (hts (.fieldLink RX7 39 "CosetTablesModel" "goes" "[I") (by decide +kernel)) rfl dX7_turn_72 ?_
              refine lv_bipush (v := nI 8) hx hb dX7_turn_75 (by decide) ?_
              refine lv_iload_n hx hb dX7_turn_77 rfl (lv_at hl 2 rfl) ?_
              refine lv_imul hx hb dX7_turn_78 ?_
              refine gx_as (y := nI (8 * s8)) (pk_mul _ _) ?_
              refine lv_iload_n hx hb dX7_turn_79 rfl (lv_at hl 4 rfl) ?_
              refine lv_iadd hx hb dX7_turn_80 ?_
              refine gx_as (y := nI ((8 * s8) + b)) (nI_add _ _) ?_
              refine gx_ialdn hx hb hK hS 63 (by omega) (by decide) ((8 * s8) + b) (by omega) (hln _) dX7_turn_81 ?_
              refine lv_topi (fun g3 eg3 => ?_)
              refine gx_iastn hx hb hK hS 63 (by omega) (by decide) ((8 * s8) + a) (by omega) (hln _) dX7_turn_82 (fun H locs hS => ?_)
              obtain ⟨iv5, eiv5⟩ : ∃ z, z = up2 iv4 63 ((8 * s8) + a) (g3) := ⟨_, rfl⟩
              rw [← eiv5] at hS
              refine lv_aload_n hx hb dX7_turn_83 rfl (lv_at hl 1 rfl) ?_
              refine gx_get (ci := 10) (v := .ref (ad 63)) (C := RX7) (T := TX7) (N := 23) hx hb hts (fun _ h => inX7_turn_RX7 h) hown hK hS 53 (by omega) rfl rfl 19 (by decide) (hts (.fieldLink RX7 39 "CosetTablesModel" "goes" "[I") (by decide +kernel)) rfl dX7_turn_84 ?_
              refine lv_bipush (v := nI 8) hx hb dX7_turn_87 (by decide) ?_
              refine lv_iload_n hx hb dX7_turn_89 rfl (lv_at hl 2 rfl) ?_
              refine lv_imul hx hb dX7_turn_90 ?_
              refine gx_as (y := nI (8 * s8)) (pk_mul _ _) ?_
              refine lv_iload_n hx hb dX7_turn_91 rfl (lv_at hl 4 rfl) ?_
              refine lv_iadd hx hb dX7_turn_92 ?_
              refine gx_as (y := nI ((8 * s8) + b)) (nI_add _ _) ?_
              refine lv_iload hx hb dX7_turn_93 (lv_at hl 0 rfl) ?_
              refine gx_iastn hx hb hK hS 63 (by omega) (by decide) ((8 * s8) + b) (by omega) (hln _) dX7_turn_95 (fun H locs hS => ?_)
              obtain ⟨iv6, eiv6⟩ : ∃ z, z = up2 iv5 63 ((8 * s8) + b) (g1) := ⟨_, rfl⟩
              rw [← eiv6] at hS
              refine lv_iconst (v := nI 1) hx hb dX7_turn_96 (by decide) ?_
              exact kret _ iv6 _ _ _ _ dX7_turn_97 (⟨Or.inr rfl, by rw [if_neg c_43]; exact ⟨rfl, by rw [eiv6, eiv5, eg1, eg3, et, up2_row (by decide)]⟩⟩) hS
            · skip
              rw [nI_eq (by omega) (by omega)] at c_43
              refine lv_iconst (v := nI 0) hx hb dX7_turn_46 (by decide) ?_
              exact kret _ iv4 _ _ _ _ dX7_turn_47 (⟨Or.inl rfl, by rw [if_pos c_43]; exact ⟨rfl, et⟩⟩) hS
        · skip
          exact absurd (h3.mpr (by rw [hP0]; exact ok9_nI (by omega) (by omega))) (by rw [c_27]; decide)
set_option maxRecDepth 100000 in
theorem ct_X7_turn (l : Launch) (D : va_G) (cA : Nat → ClassId) (o : Nat → Int64) (ad ln : Nat → Nat) (n sz : Nat) (iv : Nat → Nat → Int32) (s8 a b P sc9 : Nat) (hn : 68 ≤ n) (hln : ∀ k, ln k < 2 ^ 31) (hRn : rln ln) (hs0 : iv 53 18 = nI sc9) (hs4 : sc9 ≤ 4) (hs9 : s8 < sc9) (hP0 : iv 53 1 = nI P) (hP : P ≤ 8) (ha : a < P) (hb9 : b < P) : gMi l yX7_turn wsX7_turn { frames := 1, cells := 0, slots := 0, locals := 22 } D cA o ad ln n sz iv [.ref (ad 53), .int (nI s8), .int (nI a), .int (nI b)] (fun (r : Int32) iv' => (r = 0 ∨ r = 1) ∧ (if a = b then r = 0 ∧ iv' = up2 iv 53 0 0 else r = 1 ∧ iv' = up2 (up2 (up2 iv 53 0 0) 63 (8 * s8 + a) (iv 63 (8 * s8 + b))) 63 (8 * s8 + b) (iv 63 (8 * s8 + a)))) := by
  refine Met.ofW (cc := cX7_turn) (maxL := 5) (ret := (some .boolean)) (by decide) rfl ?_
  intro p e s m args below meth c s₁ B hml hv__
  obtain ⟨rfl, hv__⟩ := hv__
  obtain ⟨hsz, hS, hK, hN, hA⟩ := gS.entry hv__
  have hl := lv_entry ([.ref (ad 53), .int (nI s8), .int (nI a), .int (nI b)]) (n := 5) (Nat.le_of_ble_eq_true rfl)
  rw [lg_entry_eq]
  generalize (lg_sl ([.ref (ad 53), .int (nI s8), .int (nI a), .int (nI b)]) ++ List.replicate (5 - (lg_sl ([.ref (ad 53), .int (nI s8), .int (nI a), .int (nI b)])).length) Slot.unset).toArray = ls at hl ⊢
  exact bd_X7_turn (s8 := s8) (a := a) (b := b) (P := P) (sc9 := sc9) ⟨B.exec, B.bytes, hml, findClass_of_methodNamed B.named, atoms_spec (ws := wsX7_turn) B.pre, B.returns, B.notSynchronized⟩ (Nat.le_refl _) (Nat.le_refl _) (Nat.le_refl _) (Nat.le_refl _) hK hN hA hn hln hRn hs0 hs4 hs9 hP0 hP ha hb9 hS hl (fun r iv' H locs ls pc hd hp hS => gx_zret B.exec B.bytes B.returns B.notSynchronized (hp.1) hS hp hd)

set_option maxHeartbeats 1000000 in
set_option maxRecDepth 100000 in
theorem bd_X7_turnB {p : Program} {l : Launch} {e : Env} {R : Room} {s : State} {m : MethodId} {args : Array Value} {below : List Frame} {meth : Method} {c : Code} {H : Heap} {locs : List Loc} {cells slots : Nat} {Q : State → Prop} {ls : Array Slot} {D : va_G} {A : Nat → Prop} {H0 : Heap} {cA : Nat → ClassId} {o : Nat → Int64} {ad ln : Nat → Nat} {iv : Nat → Nat → Int32} {n : Nat} {x1 x2 x3 : Int32}
    (F : gF p s m meth c cX7_turn 5 RX7 wsX7_turn args (some .boolean)) (hRf : 1 ≤ R.frames) (hRl : 22 ≤ R.locals) (hRc : cells ≤ R.cells) (hRs : slots ≤ R.slots) (hK : va_K D vwCl (gT cA) s) (hN : NW s) (hA : ∀ q, H0.size ≤ q → A q) (hn : 68 ≤ n) (hln : ∀ k, ln k < 2 ^ 31) (hbad : ¬ (ok9 x1 (iv 53 18) ∧ ok9 x2 (iv 53 1) ∧ ok9 x3 (iv 53 1)))
    (hS : gS D cA A H0 o ad ln iv n H locs) (hl : lv_has ls 5 [(0, .ref (ad 53)), (1, .int x1), (2, .int x2), (3, .int x3)])
    (kret : ∀ (r : Int32) (iv' : Nat → Nat → Int32) (H : Heap) (locs : List Loc) (ls : Array Slot) (pc : Nat), decode cX7_turn pc = .ok (.ireturn, 1) → ((r = 0 ∨ r = 1) ∧ r = 0 ∧ iv' = up2 iv 53 0 1) → gS D cA A H0 o ad ln iv' n H locs → W p l e R s m args below meth c H locs cells slots Q (F0 m pc ls [.int r])) :
    W p l e R s m args below meth c H locs cells slots Q (F0 m 0 ls []) := by
  obtain ⟨hx, hb, hml, hown, hts, hr, hlocks⟩ := F
  refine lv_aload_n hx hb dX7_turn_0 rfl (lv_at hl 0 rfl) ?_
  refine lv_iconst (v := nI 1) hx hb dX7_turn_1 (by decide) ?_
  refine lv_iload_n hx hb dX7_turn_2 rfl (lv_at hl 1 rfl) ?_
  refine lv_if_lt (tgt := 30) hx hb dX7_turn_3 (by decide) (fun c_3 => ?_) (fun c_3 => ?_)
  · skip
    refine lv_iconst (v := nI 1) hx hb dX7_turn_30 (by decide) ?_
    refine lv_goto (tgt := 35) hx hb dX7_turn_31 (by decide) ?_
    refine gc_i (gx_runV (As := [.int (nI 1), .int (nI 1)]) (rest := []) ⟨hx, hb, hml, hown, hts⟩ hK hN hS 53 (by omega) rfl rfl (ct_X7_throwsIf l D cA o ad ln n H.size iv (x := nI 1) (v := nI 1) hn hln (Or.inr rfl)) (cwV 2 hts gX7_turn_X7_throwsIf rfl rfl rfl (by decide +kernel) ⟨gle hRf rfl, gle hRl rfl⟩) rfl rfl hl.1 rfl (lv_room (Nat.le_of_ble_eq_true rfl)) dX7_turn_35 ⟨hRc, hRs⟩) hS hA (fun z iv4 H locs hp4 hS => ?_)
    obtain ⟨_, ez, et⟩ := hp4
    have et : iv4 = up2 iv 53 0 1 := et
    refine gx_as (y := nI 1) ez ?_
    refine lv_if_ne (tgt := 46) hx hb dX7_turn_38 (by decide) (fun c_38 => ?_) (fun c_38 => ?_)
    · skip
      rw [show (0 : Int32) = nI 0 from rfl] at c_38
      rw [nI_eq (by omega) (by omega)] at c_38
      refine lv_iconst (v := nI 0) hx hb dX7_turn_46 (by decide) ?_
      exact kret _ iv4 _ _ _ _ dX7_turn_47 (⟨Or.inl rfl, rfl, et⟩) hS
    · skip
      rw [show (0 : Int32) = nI 0 from rfl] at c_38
      rw [nI_eq (by omega) (by omega)] at c_38
      omega
  · skip
    refine lv_iload_n hx hb dX7_turn_6 rfl (lv_at hl 1 rfl) ?_
    refine lv_aload_n hx hb dX7_turn_7 rfl (lv_at hl 0 rfl) ?_
    refine gx_get (ci := 10) (v := .int (iv 53 18)) (C := RX7) (T := TX7) (N := 23) hx hb hts (fun _ h => inX7_turn_RX7 h) hown hK hS 53 (by omega) rfl rfl 18 (by decide) (hts (.fieldLink RX7 132 "CosetTablesModel" "symmetries" "I") (by decide +kernel)) rfl dX7_turn_8 ?_
    refine lv_icmp_ge (tgt := 30) hx hb dX7_turn_11 (by decide) (fun c_11 => ?_) (fun c_11 => ?_)
    · skip
      refine lv_iconst (v := nI 1) hx hb dX7_turn_30 (by decide) ?_
      refine lv_goto (tgt := 35) hx hb dX7_turn_31 (by decide) ?_
      refine gc_i (gx_runV (As := [.int (nI 1), .int (nI 1)]) (rest := []) ⟨hx, hb, hml, hown, hts⟩ hK hN hS 53 (by omega) rfl rfl (ct_X7_throwsIf l D cA o ad ln n H.size iv (x := nI 1) (v := nI 1) hn hln (Or.inr rfl)) (cwV 2 hts gX7_turn_X7_throwsIf rfl rfl rfl (by decide +kernel) ⟨gle hRf rfl, gle hRl rfl⟩) rfl rfl hl.1 rfl (lv_room (Nat.le_of_ble_eq_true rfl)) dX7_turn_35 ⟨hRc, hRs⟩) hS hA (fun z iv4 H locs hp4 hS => ?_)
      obtain ⟨_, ez, et⟩ := hp4
      have et : iv4 = up2 iv 53 0 1 := et
      refine gx_as (y := nI 1) ez ?_
      refine lv_if_ne (tgt := 46) hx hb dX7_turn_38 (by decide) (fun c_38 => ?_) (fun c_38 => ?_)
      · skip
        rw [show (0 : Int32) = nI 0 from rfl] at c_38
        rw [nI_eq (by omega) (by omega)] at c_38
        refine lv_iconst (v := nI 0) hx hb dX7_turn_46 (by decide) ?_
        exact kret _ iv4 _ _ _ _ dX7_turn_47 (⟨Or.inl rfl, rfl, et⟩) hS
      · skip
        rw [show (0 : Int32) = nI 0 from rfl] at c_38
        rw [nI_eq (by omega) (by omega)] at c_38
        omega
    · skip
      refine lv_aload_n hx hb dX7_turn_14 rfl (lv_at hl 0 rfl) ?_
      refine lv_iload_n hx hb dX7_turn_15 rfl (lv_at hl 2 rfl) ?_
      refine gc_i (gx_runV (As := [.int x2]) (rest := [.int (nI 1), .ref (ad 53)]) ⟨hx, hb, hml, hown, hts⟩ hK hN hS 53 (by omega) rfl rfl (ct_X7_isPlace l D cA o ad ln n H.size iv (x := x2) hn hln) (cwV 1 hts gX7_turn_X7_isPlace rfl rfl rfl (by decide +kernel) ⟨gle hRf rfl, gle hRl rfl⟩) rfl rfl hl.1 rfl (lv_room (Nat.le_of_ble_eq_true rfl)) dX7_turn_16 ⟨hRc, hRs⟩) hS hA (fun y2 iv2 H locs hp2 hS => ?_)
      obtain ⟨h012, h2, ev2⟩ := hp2
      rw [ev2] at hS
      skip
      refine lv_if_eq (tgt := 30) hx hb dX7_turn_19 (by decide) (fun c_19 => ?_) (fun c_19 => ?_)
      · skip
        refine lv_iconst (v := nI 1) hx hb dX7_turn_30 (by decide) ?_
        refine lv_goto (tgt := 35) hx hb dX7_turn_31 (by decide) ?_
        refine gc_i (gx_runV (As := [.int (nI 1), .int (nI 1)]) (rest := []) ⟨hx, hb, hml, hown, hts⟩ hK hN hS 53 (by omega) rfl rfl (ct_X7_throwsIf l D cA o ad ln n H.size iv (x := nI 1) (v := nI 1) hn hln (Or.inr rfl)) (cwV 2 hts gX7_turn_X7_throwsIf rfl rfl rfl (by decide +kernel) ⟨gle hRf rfl, gle hRl rfl⟩) rfl rfl hl.1 rfl (lv_room (Nat.le_of_ble_eq_true rfl)) dX7_turn_35 ⟨hRc, hRs⟩) hS hA (fun z iv4 H locs hp4 hS => ?_)
        obtain ⟨_, ez, et⟩ := hp4
        have et : iv4 = up2 iv 53 0 1 := et
        refine gx_as (y := nI 1) ez ?_
        refine lv_if_ne (tgt := 46) hx hb dX7_turn_38 (by decide) (fun c_38 => ?_) (fun c_38 => ?_)
        · skip
          rw [show (0 : Int32) = nI 0 from rfl] at c_38
          rw [nI_eq (by omega) (by omega)] at c_38
          refine lv_iconst (v := nI 0) hx hb dX7_turn_46 (by decide) ?_
          exact kret _ iv4 _ _ _ _ dX7_turn_47 (⟨Or.inl rfl, rfl, et⟩) hS
        · skip
          rw [show (0 : Int32) = nI 0 from rfl] at c_38
          rw [nI_eq (by omega) (by omega)] at c_38
          omega
      · skip
        refine lv_aload_n hx hb dX7_turn_22 rfl (lv_at hl 0 rfl) ?_
        refine lv_iload_n hx hb dX7_turn_23 rfl (lv_at hl 3 rfl) ?_
        refine gc_i (gx_runV (As := [.int x3]) (rest := [.int (nI 1), .ref (ad 53)]) ⟨hx, hb, hml, hown, hts⟩ hK hN hS 53 (by omega) rfl rfl (ct_X7_isPlace l D cA o ad ln n H.size iv (x := x3) hn hln) (cwV 1 hts gX7_turn_X7_isPlace rfl rfl rfl (by decide +kernel) ⟨gle hRf rfl, gle hRl rfl⟩) rfl rfl hl.1 rfl (lv_room (Nat.le_of_ble_eq_true rfl)) dX7_turn_24 ⟨hRc, hRs⟩) hS hA (fun y3 iv3 H locs hp3 hS => ?_)
        obtain ⟨h013, h3, ev3⟩ := hp3
        rw [ev3] at hS
        skip
        refine lv_if_ne (tgt := 34) hx hb dX7_turn_27 (by decide) (fun c_27 => ?_) (fun c_27 => ?_)
        · skip
          exact absurd ⟨⟨c_3, by rw [← Int32.not_le]; exact c_11⟩, h2.mp (h012.resolve_left c_19), h3.mp (h013.resolve_left c_27)⟩ hbad
        · skip
          refine lv_iconst (v := nI 1) hx hb dX7_turn_30 (by decide) ?_
          refine lv_goto (tgt := 35) hx hb dX7_turn_31 (by decide) ?_
          refine gc_i (gx_runV (As := [.int (nI 1), .int (nI 1)]) (rest := []) ⟨hx, hb, hml, hown, hts⟩ hK hN hS 53 (by omega) rfl rfl (ct_X7_throwsIf l D cA o ad ln n H.size iv (x := nI 1) (v := nI 1) hn hln (Or.inr rfl)) (cwV 2 hts gX7_turn_X7_throwsIf rfl rfl rfl (by decide +kernel) ⟨gle hRf rfl, gle hRl rfl⟩) rfl rfl hl.1 rfl (lv_room (Nat.le_of_ble_eq_true rfl)) dX7_turn_35 ⟨hRc, hRs⟩) hS hA (fun z iv4 H locs hp4 hS => ?_)
          obtain ⟨_, ez, et⟩ := hp4
          have et : iv4 = up2 iv 53 0 1 := et
          refine gx_as (y := nI 1) ez ?_
          refine lv_if_ne (tgt := 46) hx hb dX7_turn_38 (by decide) (fun c_38 => ?_) (fun c_38 => ?_)
          · skip
            rw [show (0 : Int32) = nI 0 from rfl] at c_38
            rw [nI_eq (by omega) (by omega)] at c_38
            refine lv_iconst (v := nI 0) hx hb dX7_turn_46 (by decide) ?_
            exact kret _ iv4 _ _ _ _ dX7_turn_47 (⟨Or.inl rfl, rfl, et⟩) hS
          · skip
            rw [show (0 : Int32) = nI 0 from rfl] at c_38
            rw [nI_eq (by omega) (by omega)] at c_38
            omega
set_option maxRecDepth 100000 in
theorem ct_X7_turnB (l : Launch) (D : va_G) (cA : Nat → ClassId) (o : Nat → Int64) (ad ln : Nat → Nat) (n sz : Nat) (iv : Nat → Nat → Int32) (x1 x2 x3 : Int32) (hn : 68 ≤ n) (hln : ∀ k, ln k < 2 ^ 31) (hbad : ¬ (ok9 x1 (iv 53 18) ∧ ok9 x2 (iv 53 1) ∧ ok9 x3 (iv 53 1))) : gMi l yX7_turn wsX7_turn { frames := 1, cells := 0, slots := 0, locals := 22 } D cA o ad ln n sz iv [.ref (ad 53), .int x1, .int x2, .int x3] (fun (r : Int32) iv' => (r = 0 ∨ r = 1) ∧ r = 0 ∧ iv' = up2 iv 53 0 1) := by
  refine Met.ofW (cc := cX7_turn) (maxL := 5) (ret := (some .boolean)) (by decide) rfl ?_
  intro p e s m args below meth c s₁ B hml hv__
  obtain ⟨rfl, hv__⟩ := hv__
  obtain ⟨hsz, hS, hK, hN, hA⟩ := gS.entry hv__
  have hl := lv_entry ([.ref (ad 53), .int x1, .int x2, .int x3]) (n := 5) (Nat.le_of_ble_eq_true rfl)
  rw [lg_entry_eq]
  generalize (lg_sl ([.ref (ad 53), .int x1, .int x2, .int x3]) ++ List.replicate (5 - (lg_sl ([.ref (ad 53), .int x1, .int x2, .int x3])).length) Slot.unset).toArray = ls at hl ⊢
  exact bd_X7_turnB (x1 := x1) (x2 := x2) (x3 := x3) ⟨B.exec, B.bytes, hml, findClass_of_methodNamed B.named, atoms_spec (ws := wsX7_turn) B.pre, B.returns, B.notSynchronized⟩ (Nat.le_refl _) (Nat.le_refl _) (Nat.le_refl _) (Nat.le_refl _) hK hN hA hn hln hbad hS hl (fun r iv' H locs ls pc hd hp hS => gx_zret B.exec B.bytes B.returns B.notSynchronized (hp.1) hS hp hd)

theorem inX7_isTaken_RX7 : ∀ {w : Cond}, w ∈ u_ws RX7 TX7 23 → w ∈ wsX7_isTaken := fun {w} h => by first | exact List.mem_cons_of_mem _ (List.mem_append_right _ h) | (revert h; revert w; show ∀ w ∈ u_ws RX7 TX7 23, w ∈ wsX7_isTaken; decide +kernel)
set_option maxHeartbeats 1000000 in
set_option maxRecDepth 100000 in
theorem bd_X7_isTaken {p : Program} {l : Launch} {e : Env} {R : Room} {s : State} {m : MethodId} {args : Array Value} {below : List Frame} {meth : Method} {c : Code} {H : Heap} {locs : List Loc} {cells slots : Nat} {Q : State → Prop} {ls : Array Slot} {D : va_G} {A : Nat → Prop} {H0 : Heap} {cA : Nat → ClassId} {o : Nat → Int64} {ad ln : Nat → Nat} {iv : Nat → Nat → Int32} {n : Nat} {s8 m8 o8 P T : Nat} {Sg Gm Am Go Ao : Nat → Nat}
    (F : gF p s m meth c cX7_isTaken 6 RX7 wsX7_isTaken args (some .boolean)) (hRf : 0 ≤ R.frames) (hRl : 0 ≤ R.locals) (hRc : cells ≤ R.cells) (hRs : slots ≤ R.slots) (hK : va_K D vwCl (gT cA) s) (hN : NW s) (hA : ∀ q, H0.size ≤ q → A q) (hn : 68 ≤ n) (hln : ∀ k, ln k < 2 ^ 31) (hRn : rln ln) (hP0 : iv 53 1 = nI P) (hP : P ≤ 8) (hT3 : T ≤ 3) (hs8 : s8 < 4) (hm8 : m8 < 6) (ho8 : o8 < 6) (hsy : rsym iv s8 P Sg) (hmm : rmove iv m8 P T Gm Am) (hmo : rmove iv o8 P T Go Ao)
    (hS : gS D cA A H0 o ad ln iv n H locs) (hl : lv_has ls 6 [(0, .ref (ad 53)), (1, .int (nI s8)), (2, .int (nI m8)), (3, .int (nI o8))])
    (kret : ∀ (r : Int32) (iv' : Nat → Nat → Int32) (H : Heap) (locs : List Loc) (ls : Array Slot) (pc : Nat), decode cX7_isTaken pc = .ok (.ireturn, 1) → ((r = 0 ∨ r = 1) ∧ (r = 1 ↔ imgN P Sg Gm Am Go Ao) ∧ iv' = iv) → gS D cA A H0 o ad ln iv' n H locs → W p l e R s m args below meth c H locs cells slots Q (F0 m pc ls [.int r])) :
    W p l e R s m args below meth c H locs cells slots Q (F0 m 0 ls []) := by
  obtain ⟨hx, hb, hml, hown, hts, hr, hlocks⟩ := F
  have hRn9 := hRn
  obtain ⟨r54, r55, r56, r57, r58, r59, r60, r61, r62, r63, r64, r65, r66⟩ := hRn
  refine lv_iconst (v := nI 0) hx hb dX7_isTaken_0 (by decide) ?_
  refine lv_istore (lv' := [(4, .int (nI 0)), (0, .ref (ad 53)), (1, .int (nI s8)), (2, .int (nI m8)), (3, .int (nI o8))]) hx hb dX7_isTaken_1 hl (by decide) rfl (fun ls hl => ?_)
  have L3 : ∀ (N : Nat) (i : Nat), P - i < N → (i ≤ P) → (∀ q, q < i → Go (Sg q) = Sg (Gm q) ∧ Ao (Sg q) = Am q) → ∀ (H : Heap) (locs : List Loc) (ls : Array Slot), gS D cA A H0 o ad ln iv n H locs → lv_has ls 6 [(0, .ref (ad 53)), (1, .int (nI s8)), (2, .int (nI m8)), (3, .int (nI o8)), (4, .int (nI i))] → W p l e R s m args below meth c H locs cells slots Q (F0 m 3 ls []) := by
    intro N
    induction N with
    | zero => intro i hm; exact absurd hm (Nat.not_lt_zero _)
    | succ N ih3 =>
      intro i hm hi h1 H locs ls hS hl
      refine lv_iload hx hb dX7_isTaken_3 (lv_at hl 4 rfl) ?_
      refine lv_aload_n hx hb dX7_isTaken_5 rfl (lv_at hl 0 rfl) ?_
      refine gx_get (ci := 10) (v := .int (iv 53 1)) (C := RX7) (T := TX7) (N := 23) hx hb hts (fun _ h => inX7_isTaken_RX7 h) hown hK hS 53 (by omega) rfl rfl 1 (by decide) (hts (.fieldLink RX7 51 "CosetTablesModel" "places" "I") (by decide +kernel)) rfl dX7_isTaken_6 ?_
      refine gx_as (y := nI P) hP0 ?_
      refine lv_icmp_ge (tgt := 98) hx hb dX7_isTaken_9 (by decide) (fun c_9 => ?_) (fun c_9 => ?_)
      · skip
        rw [nI_leI (by omega) (by omega)] at c_9
        have ei : i = P := by omega
        subst ei
        refine lv_iconst (v := nI 1) hx hb dX7_isTaken_98 (by decide) ?_
        exact kret _ iv _ _ _ _ dX7_isTaken_99 (⟨Or.inr rfl, ⟨fun _ => h1, fun _ => rfl⟩, rfl⟩) hS
      · skip
        rw [nI_leI (by omega) (by omega)] at c_9
        obtain ⟨s1, s2⟩ := hsy i (by omega)
        obtain ⟨m1, m2, m3, m4⟩ := hmm i (by omega)
        obtain ⟨o1, o2, o3, o4⟩ := hmo (Sg i) s2
        obtain ⟨t1, t2⟩ := hsy (Gm i) m2
        refine lv_aload_n hx hb dX7_isTaken_12 rfl (lv_at hl 0 rfl) ?_
        refine gx_get (ci := 10) (v := .ref (ad 63)) (C := RX7) (T := TX7) (N := 23) hx hb hts (fun _ h => inX7_isTaken_RX7 h) hown hK hS 53 (by omega) rfl rfl 19 (by decide) (hts (.fieldLink RX7 39 "CosetTablesModel" "goes" "[I") (by decide +kernel)) rfl dX7_isTaken_13 ?_
        refine lv_bipush (v := nI 8) hx hb dX7_isTaken_16 (by decide) ?_
        refine lv_iload_n hx hb dX7_isTaken_18 rfl (lv_at hl 1 rfl) ?_
        refine lv_imul hx hb dX7_isTaken_19 ?_
        refine gx_as (y := nI (8 * s8)) (pk_mul _ _) ?_
        refine lv_iload hx hb dX7_isTaken_20 (lv_at hl 4 rfl) ?_
        refine lv_iadd hx hb dX7_isTaken_22 ?_
        refine gx_as (y := nI ((8 * s8) + i)) (nI_add _ _) ?_
        refine gx_ialdn hx hb hK hS 63 (by omega) (by decide) ((8 * s8) + i) (by omega) (hln _) dX7_isTaken_23 ?_
        refine gx_as (y := nI (Sg i)) s1 ?_
        refine lv_istore (lv' := [(5, .int (nI (Sg i))), (0, .ref (ad 53)), (1, .int (nI s8)), (2, .int (nI m8)), (3, .int (nI o8)), (4, .int (nI i))]) hx hb dX7_isTaken_24 hl (by decide) rfl (fun ls hl => ?_)
        refine lv_aload_n hx hb dX7_isTaken_26 rfl (lv_at hl 1 rfl) ?_
        refine gx_get (ci := 10) (v := .ref (ad 54)) (C := RX7) (T := TX7) (N := 23) hx hb hts (fun _ h => inX7_isTaken_RX7 h) hown hK hS 53 (by omega) rfl rfl 4 (by decide) (hts (.fieldLink RX7 7 "CosetTablesModel" "to" "[I") (by decide +kernel)) rfl dX7_isTaken_27 ?_
        refine lv_bipush (v := nI 8) hx hb dX7_isTaken_30 (by decide) ?_
        refine lv_iload_n hx hb dX7_isTaken_32 rfl (lv_at hl 4 rfl) ?_
        refine lv_imul hx hb dX7_isTaken_33 ?_
        refine gx_as (y := nI (8 * o8)) (pk_mul _ _) ?_
        refine lv_iload hx hb dX7_isTaken_34 (lv_at hl 0 rfl) ?_
        refine lv_iadd hx hb dX7_isTaken_36 ?_
        refine gx_as (y := nI ((8 * o8) + (Sg i))) (nI_add _ _) ?_
        refine gx_ialdn hx hb hK hS 54 (by omega) (by decide) ((8 * o8) + (Sg i)) (by omega) (hln _) dX7_isTaken_37 ?_
        refine gx_as (y := nI (Go (Sg i))) o1 ?_
        refine lv_aload_n hx hb dX7_isTaken_38 rfl (lv_at hl 1 rfl) ?_
        refine gx_get (ci := 10) (v := .ref (ad 63)) (C := RX7) (T := TX7) (N := 23) hx hb hts (fun _ h => inX7_isTaken_RX7 h) hown hK hS 53 (by omega) rfl rfl 19 (by decide) (hts (.fieldLink RX7 39 "CosetTablesModel" "goes" "[I") (by decide +kernel)) rfl dX7_isTaken_39 ?_
        refine lv_bipush (v := nI 8) hx hb dX7_isTaken_42 (by decide) ?_
        refine lv_iload_n hx hb dX7_isTaken_44 rfl (lv_at hl 2 rfl) ?_
        refine lv_imul hx hb dX7_isTaken_45 ?_
        refine gx_as (y := nI (8 * s8)) (pk_mul _ _) ?_
        refine lv_aload_n hx hb dX7_isTaken_46 rfl (lv_at hl 1 rfl) ?_
        refine gx_get (ci := 10) (v := .ref (ad 54)) (C := RX7) (T := TX7) (N := 23) hx hb hts (fun _ h => inX7_isTaken_RX7 h) hown hK hS 53 (by omega) rfl rfl 4 (by decide) (hts (.fieldLink RX7 7 "CosetTablesModel" "to" "[I") (by decide +kernel)) rfl dX7_isTaken_47 ?_
        refine lv_bipush (v := nI 8) hx hb dX7_isTaken_50 (by decide) ?_
        refine lv_iload_n hx hb dX7_isTaken_52 rfl (lv_at hl 3 rfl) ?_
        refine lv_imul hx hb dX7_isTaken_53 ?_
        refine gx_as (y := nI (8 * m8)) (pk_mul _ _) ?_
        refine lv_iload hx hb dX7_isTaken_54 (lv_at hl 5 rfl) ?_
        refine lv_iadd hx hb dX7_isTaken_56 ?_
        refine gx_as (y := nI ((8 * m8) + i)) (nI_add _ _) ?_
        refine gx_ialdn hx hb hK hS 54 (by omega) (by decide) ((8 * m8) + i) (by omega) (hln _) dX7_isTaken_57 ?_
        refine gx_as (y := nI (Gm i)) m1 ?_
        refine lv_iadd hx hb dX7_isTaken_58 ?_
        refine gx_as (y := nI ((8 * s8) + (Gm i))) (nI_add _ _) ?_
        refine gx_ialdn hx hb hK hS 63 (by omega) (by decide) ((8 * s8) + (Gm i)) (by omega) (hln _) dX7_isTaken_59 ?_
        refine gx_as (y := nI (Sg (Gm i))) t1 ?_
        refine lv_icmp_ne (tgt := 90) hx hb dX7_isTaken_60 (by decide) (fun c_60 => ?_) (fun c_60 => ?_)
        · skip
          rw [nI_eq (by omega) (by omega)] at c_60
          refine lv_iconst (v := nI 0) hx hb dX7_isTaken_90 (by decide) ?_
          exact kret _ iv _ _ _ _ dX7_isTaken_91 (⟨Or.inl rfl, ⟨fun q => absurd q (by decide), fun q => by first | exact absurd (q i (by omega)).1 c_60 | exact absurd (q i (by omega)).2 c_87⟩, rfl⟩) hS
        · skip
          rw [nI_eq (by omega) (by omega)] at c_60
          refine lv_aload_n hx hb dX7_isTaken_63 rfl (lv_at hl 1 rfl) ?_
          refine gx_get (ci := 10) (v := .ref (ad 55)) (C := RX7) (T := TX7) (N := 23) hx hb hts (fun _ h => inX7_isTaken_RX7 h) hown hK hS 53 (by omega) rfl rfl 5 (by decide) (hts (.fieldLink RX7 13 "CosetTablesModel" "add" "[I") (by decide +kernel)) rfl dX7_isTaken_64 ?_
          refine lv_bipush (v := nI 8) hx hb dX7_isTaken_67 (by decide) ?_
          refine lv_iload_n hx hb dX7_isTaken_69 rfl (lv_at hl 4 rfl) ?_
          refine lv_imul hx hb dX7_isTaken_70 ?_
          refine gx_as (y := nI (8 * o8)) (pk_mul _ _) ?_
          refine lv_iload hx hb dX7_isTaken_71 (lv_at hl 0 rfl) ?_
          refine lv_iadd hx hb dX7_isTaken_73 ?_
          refine gx_as (y := nI ((8 * o8) + (Sg i))) (nI_add _ _) ?_
          refine gx_ialdn hx hb hK hS 55 (by omega) (by decide) ((8 * o8) + (Sg i)) (by omega) (hln _) dX7_isTaken_74 ?_
          refine gx_as (y := nI (Ao (Sg i))) o3 ?_
          refine lv_aload_n hx hb dX7_isTaken_75 rfl (lv_at hl 1 rfl) ?_
          refine gx_get (ci := 10) (v := .ref (ad 55)) (C := RX7) (T := TX7) (N := 23) hx hb hts (fun _ h => inX7_isTaken_RX7 h) hown hK hS 53 (by omega) rfl rfl 5 (by decide) (hts (.fieldLink RX7 13 "CosetTablesModel" "add" "[I") (by decide +kernel)) rfl dX7_isTaken_76 ?_
          refine lv_bipush (v := nI 8) hx hb dX7_isTaken_79 (by decide) ?_
          refine lv_iload_n hx hb dX7_isTaken_81 rfl (lv_at hl 3 rfl) ?_
          refine lv_imul hx hb dX7_isTaken_82 ?_
          refine gx_as (y := nI (8 * m8)) (pk_mul _ _) ?_
          refine lv_iload hx hb dX7_isTaken_83 (lv_at hl 5 rfl) ?_
          refine lv_iadd hx hb dX7_isTaken_85 ?_
          refine gx_as (y := nI ((8 * m8) + i)) (nI_add _ _) ?_
          refine gx_ialdn hx hb hK hS 55 (by omega) (by decide) ((8 * m8) + i) (by omega) (hln _) dX7_isTaken_86 ?_
          refine gx_as (y := nI (Am i)) m3 ?_
          refine lv_icmp_eq (tgt := 92) hx hb dX7_isTaken_87 (by decide) (fun c_87 => ?_) (fun c_87 => ?_)
          · skip
            rw [nI_eq (by omega) (by omega)] at c_87
            refine lv_iinc (v := nI (i + 1)) (lv' := [(4, .int (nI (i + 1))), (5, .int (nI (Sg i))), (0, .ref (ad 53)), (1, .int (nI s8)), (2, .int (nI m8)), (3, .int (nI o8))]) hx hb dX7_isTaken_92 hl (k := 5) rfl (nI_1 i) (by decide) rfl (fun ls hl => ?_)
            refine lv_goto (tgt := 3) hx hb dX7_isTaken_95 (by decide) ?_
            exact ih3 (i + 1) (by omega) (by omega) (fun q hq => by rcases Nat.lt_or_ge q i with u | u; exact h1 q u; have e : q = i := (by omega); rw [e]; exact ⟨c_60, c_87⟩) _ _ _ hS (lv_sub hl [2, 3, 4, 5, 0] rfl)
          · skip
            rw [nI_eq (by omega) (by omega)] at c_87
            refine lv_iconst (v := nI 0) hx hb dX7_isTaken_90 (by decide) ?_
            exact kret _ iv _ _ _ _ dX7_isTaken_91 (⟨Or.inl rfl, ⟨fun q => absurd q (by decide), fun q => by first | exact absurd (q i (by omega)).1 c_60 | exact absurd (q i (by omega)).2 c_87⟩, rfl⟩) hS
  exact L3 _ 0 (Nat.lt_succ_self _) (Nat.zero_le _) lt_0 _ _ _ hS (lv_sub hl [1, 2, 3, 4, 0] rfl)
set_option maxRecDepth 100000 in
theorem ct_X7_isTaken (l : Launch) (D : va_G) (cA : Nat → ClassId) (o : Nat → Int64) (ad ln : Nat → Nat) (n sz : Nat) (iv : Nat → Nat → Int32) (s8 m8 o8 P T : Nat) (Sg Gm Am Go Ao : Nat → Nat) (hn : 68 ≤ n) (hln : ∀ k, ln k < 2 ^ 31) (hRn : rln ln) (hP0 : iv 53 1 = nI P) (hP : P ≤ 8) (hT3 : T ≤ 3) (hs8 : s8 < 4) (hm8 : m8 < 6) (ho8 : o8 < 6) (hsy : rsym iv s8 P Sg) (hmm : rmove iv m8 P T Gm Am) (hmo : rmove iv o8 P T Go Ao) : gMi l yX7_isTaken wsX7_isTaken { frames := 0, cells := 0, slots := 0, locals := 0 } D cA o ad ln n sz iv [.ref (ad 53), .int (nI s8), .int (nI m8), .int (nI o8)] (fun (r : Int32) iv' => (r = 0 ∨ r = 1) ∧ (r = 1 ↔ imgN P Sg Gm Am Go Ao) ∧ iv' = iv) := by
  refine Met.ofW (cc := cX7_isTaken) (maxL := 6) (ret := (some .boolean)) (by decide) rfl ?_
  intro p e s m args below meth c s₁ B hml hv__
  obtain ⟨rfl, hv__⟩ := hv__
  obtain ⟨hsz, hS, hK, hN, hA⟩ := gS.entry hv__
  have hl := lv_entry ([.ref (ad 53), .int (nI s8), .int (nI m8), .int (nI o8)]) (n := 6) (Nat.le_of_ble_eq_true rfl)
  rw [lg_entry_eq]
  generalize (lg_sl ([.ref (ad 53), .int (nI s8), .int (nI m8), .int (nI o8)]) ++ List.replicate (6 - (lg_sl ([.ref (ad 53), .int (nI s8), .int (nI m8), .int (nI o8)])).length) Slot.unset).toArray = ls at hl ⊢
  exact bd_X7_isTaken (s8 := s8) (m8 := m8) (o8 := o8) (P := P) (T := T) (Sg := Sg) (Gm := Gm) (Am := Am) (Go := Go) (Ao := Ao) ⟨B.exec, B.bytes, hml, findClass_of_methodNamed B.named, atoms_spec (ws := wsX7_isTaken) B.pre, B.returns, B.notSynchronized⟩ (Nat.le_refl _) (Nat.le_refl _) (Nat.le_refl _) (Nat.le_refl _) hK hN hA hn hln hRn hP0 hP hT3 hs8 hm8 ho8 hsy hmm hmo hS hl (fun r iv' H locs ls pc hd hp hS => gx_zret B.exec B.bytes B.returns B.notSynchronized (hp.1) hS hp hd)

theorem inX7_isGood_RX7 : ∀ {w : Cond}, w ∈ u_ws RX7 TX7 23 → w ∈ wsX7_isGood := fun {w} h => by first | exact List.mem_cons_of_mem _ (List.mem_append_right _ h) | (revert h; revert w; show ∀ w ∈ u_ws RX7 TX7 23, w ∈ wsX7_isGood; decide +kernel)
set_option maxHeartbeats 1000000 in
set_option maxRecDepth 100000 in
theorem bd_X7_isGood {p : Program} {l : Launch} {e : Env} {R : Room} {s : State} {m : MethodId} {args : Array Value} {below : List Frame} {meth : Method} {c : Code} {H : Heap} {locs : List Loc} {cells slots : Nat} {Q : State → Prop} {ls : Array Slot} {D : va_G} {A : Nat → Prop} {H0 : Heap} {cA : Nat → ClassId} {o : Nat → Int64} {ad ln : Nat → Nat} {iv : Nat → Nat → Int32} {n : Nat} {s8 P T mc9 : Nat} {Sg : Nat → Nat} {G9 Ad : Nat → Nat → Nat} {ch : Nat → Bool}
    (F : gF p s m meth c cX7_isGood 5 RX7 wsX7_isGood args (some .boolean)) (hRf : 1 ≤ R.frames) (hRl : 25 ≤ R.locals) (hRc : cells ≤ R.cells) (hRs : slots ≤ R.slots) (hK : va_K D vwCl (gT cA) s) (hN : NW s) (hA : ∀ q, H0.size ≤ q → A q) (hn : 68 ≤ n) (hln : ∀ k, ln k < 2 ^ 31) (hRn : rln ln) (hP0 : iv 53 1 = nI P) (hP : P ≤ 8) (hT3 : T ≤ 3) (hmc : iv 53 3 = nI mc9) (hmc6 : mc9 ≤ 6) (hs8 : s8 < 4) (hsy : rsym iv s8 P Sg) (hmv : ∀ j, j < mc9 → rmove iv j P T (G9 j) (Ad j)) (hch : ∀ p, p < P → iv 56 p = if ch p then 1 else 0) 
    (hS : gS D cA A H0 o ad ln iv n H locs) (hl : lv_has ls 5 [(0, .ref (ad 53)), (1, .int (nI s8))])
    (kret : ∀ (r : Int32) (iv' : Nat → Nat → Int32) (H : Heap) (locs : List Loc) (ls : Array Slot) (pc : Nat), decode cX7_isGood pc = .ok (.ireturn, 1) → ((r = 0 ∨ r = 1) ∧ (r = 1 ↔ ((∀ p, p < P → ch p = ch (Sg p)) ∧ ∀ j, j < mc9 → ∃ i, i < mc9 ∧ imgN P Sg (G9 j) (Ad j) (G9 i) (Ad i))) ∧ iv' = iv) → gS D cA A H0 o ad ln iv' n H locs → W p l e R s m args below meth c H locs cells slots Q (F0 m pc ls [.int r])) :
    W p l e R s m args below meth c H locs cells slots Q (F0 m 0 ls []) := by
  obtain ⟨hx, hb, hml, hown, hts, hr, hlocks⟩ := F
  have hRn9 := hRn
  obtain ⟨r54, r55, r56, r57, r58, r59, r60, r61, r62, r63, r64, r65, r66⟩ := hRn
  refine lv_iconst (v := nI 0) hx hb dX7_isGood_0 (by decide) ?_
  refine lv_istore_n (lv' := [(2, .int (nI 0)), (0, .ref (ad 53)), (1, .int (nI s8))]) hx hb dX7_isGood_1 rfl hl (by decide) rfl (fun ls hl => ?_)
  have L2 : ∀ (N : Nat) (i : Nat), P - i < N → (i ≤ P) → (∀ q, q < i → ch q = ch (Sg q)) → ∀ (H : Heap) (locs : List Loc) (ls : Array Slot), gS D cA A H0 o ad ln iv n H locs → lv_has ls 5 [(0, .ref (ad 53)), (1, .int (nI s8)), (2, .int (nI i))] → W p l e R s m args below meth c H locs cells slots Q (F0 m 2 ls []) := by
    intro N
    induction N with
    | zero => intro i hm; exact absurd hm (Nat.not_lt_zero _)
    | succ N ih2 =>
      intro i hm hi h1 H locs ls hS hl
      refine lv_iload_n hx hb dX7_isGood_2 rfl (lv_at hl 2 rfl) ?_
      refine lv_aload_n hx hb dX7_isGood_3 rfl (lv_at hl 0 rfl) ?_
      refine gx_get (ci := 10) (v := .int (iv 53 1)) (C := RX7) (T := TX7) (N := 23) hx hb hts (fun _ h => inX7_isGood_RX7 h) hown hK hS 53 (by omega) rfl rfl 1 (by decide) (hts (.fieldLink RX7 51 "CosetTablesModel" "places" "I") (by decide +kernel)) rfl dX7_isGood_4 ?_
      refine gx_as (y := nI P) hP0 ?_
      refine lv_icmp_ge (tgt := 43) hx hb dX7_isGood_7 (by decide) (fun c_7 => ?_) (fun c_7 => ?_)
      · skip
        rw [nI_leI (by omega) (by omega)] at c_7
        have ei : i = P := by omega
        rw [ei] at h1
        refine lv_iconst (v := nI 0) hx hb dX7_isGood_43 (by decide) ?_
        refine lv_istore_n (lv' := [(2, .int (nI 0)), (0, .ref (ad 53)), (1, .int (nI s8))]) hx hb dX7_isGood_44 rfl hl (by decide) rfl (fun ls hl => ?_)
        have L45 : ∀ (N : Nat) (j : Nat), mc9 - j < N → (j ≤ mc9) → (∀ q, q < j → ∃ i, i < mc9 ∧ imgN P Sg (G9 q) (Ad q) (G9 i) (Ad i)) → ∀ (H : Heap) (locs : List Loc) (ls : Array Slot), gS D cA A H0 o ad ln iv n H locs → lv_has ls 5 [(0, .ref (ad 53)), (1, .int (nI s8)), (2, .int (nI j))] → W p l e R s m args below meth c H locs cells slots Q (F0 m 45 ls []) := by
          intro N
          induction N with
          | zero => intro j hm; exact absurd hm (Nat.not_lt_zero _)
          | succ N ih45 =>
            intro j hm hj h2 H locs ls hS hl
            refine lv_iload_n hx hb dX7_isGood_45 rfl (lv_at hl 2 rfl) ?_
            refine lv_aload_n hx hb dX7_isGood_46 rfl (lv_at hl 0 rfl) ?_
            refine gx_get (ci := 10) (v := .int (iv 53 3)) (C := RX7) (T := TX7) (N := 23) hx hb hts (fun _ h => inX7_isGood_RX7 h) hown hK hS 53 (by omega) rfl rfl 3 (by decide) (hts (.fieldLink RX7 61 "CosetTablesModel" "moves" "I") (by decide +kernel)) rfl dX7_isGood_47 ?_
            refine gx_as (y := nI mc9) hmc ?_
            refine lv_icmp_ge (tgt := 106) hx hb dX7_isGood_50 (by decide) (fun c_50 => ?_) (fun c_50 => ?_)
            · skip
              rw [nI_leI (by omega) (by omega)] at c_50
              have ej : j = mc9 := by omega
              rw [ej] at h2
              refine lv_iconst (v := nI 1) hx hb dX7_isGood_106 (by decide) ?_
              exact kret _ iv _ _ _ _ dX7_isGood_107 (⟨Or.inr rfl, ⟨fun _ => ⟨h1, h2⟩, fun _ => rfl⟩, rfl⟩) hS
            · skip
              rw [nI_leI (by omega) (by omega)] at c_50
              refine lv_iconst (v := nI 0) hx hb dX7_isGood_53 (by decide) ?_
              refine lv_istore_n (lv' := [(3, .int (nI 0)), (0, .ref (ad 53)), (1, .int (nI s8)), (2, .int (nI j))]) hx hb dX7_isGood_54 rfl hl (by decide) rfl (fun ls hl => ?_)
              refine lv_iconst (v := nI 0) hx hb dX7_isGood_55 (by decide) ?_
              refine lv_istore (lv' := [(4, .int (nI 0)), (3, .int (nI 0)), (0, .ref (ad 53)), (1, .int (nI s8)), (2, .int (nI j))]) hx hb dX7_isGood_56 hl (by decide) rfl (fun ls hl => ?_)
              have L58 : ∀ (N : Nat) (k : Nat) (v8 : Int32), mc9 - k < N → (k ≤ mc9) → ((v8 = 1 ∧ ∃ i, i < mc9 ∧ imgN P Sg (G9 j) (Ad j) (G9 i) (Ad i)) ∨ (v8 = 0 ∧ ∀ i, i < k → ¬ imgN P Sg (G9 j) (Ad j) (G9 i) (Ad i))) → ∀ (H : Heap) (locs : List Loc) (ls : Array Slot), gS D cA A H0 o ad ln iv n H locs → lv_has ls 5 [(0, .ref (ad 53)), (1, .int (nI s8)), (2, .int (nI j)), (3, .int v8), (4, .int (nI k))] → W p l e R s m args below meth c H locs cells slots Q (F0 m 58 ls []) := by
                intro N
                induction N with
                | zero => intro k v8 hm; exact absurd hm (Nat.not_lt_zero _)
                | succ N ih58 =>
                  intro k v8 hm hk h3 H locs ls hS hl
                  refine lv_iload hx hb dX7_isGood_58 (lv_at hl 4 rfl) ?_
                  refine lv_aload_n hx hb dX7_isGood_60 rfl (lv_at hl 0 rfl) ?_
                  refine gx_get (ci := 10) (v := .int (iv 53 3)) (C := RX7) (T := TX7) (N := 23) hx hb hts (fun _ h => inX7_isGood_RX7 h) hown hK hS 53 (by omega) rfl rfl 3 (by decide) (hts (.fieldLink RX7 61 "CosetTablesModel" "moves" "I") (by decide +kernel)) rfl dX7_isGood_61 ?_
                  refine gx_as (y := nI mc9) hmc ?_
                  refine lv_icmp_ge (tgt := 94) hx hb dX7_isGood_64 (by decide) (fun c_64 => ?_) (fun c_64 => ?_)
                  · skip
                    rw [nI_leI (by omega) (by omega)] at c_64
                    have ek : k = mc9 := by omega
                    refine lv_iload_n hx hb dX7_isGood_94 rfl (lv_at hl 3 rfl) ?_
                    refine lv_if_ne (tgt := 100) hx hb dX7_isGood_95 (by decide) (fun c_95 => ?_) (fun c_95 => ?_)
                    · skip
                      have hex : ∃ i, i < mc9 ∧ imgN P Sg (G9 j) (Ad j) (G9 i) (Ad i) := by
                        rcases h3 with u | u
                        · exact u.2
                        · exact absurd u.1 c_95
                      refine lv_iinc (v := nI (j + 1)) (lv' := [(2, .int (nI (j + 1))), (0, .ref (ad 53)), (1, .int (nI s8)), (3, .int v8), (4, .int (nI k))]) hx hb dX7_isGood_100 hl (k := 2) rfl (nI_1 j) (by decide) rfl (fun ls hl => ?_)
                      refine lv_goto (tgt := 45) hx hb dX7_isGood_103 (by decide) ?_
                      exact ih45 (j + 1) (by omega) (by omega) (fun q hq => by rcases Nat.lt_or_ge q j with u | u; exact h2 q u; have e : q = j := (by omega); rw [e]; exact hex) _ _ _ hS (lv_sub hl [1, 2, 0] rfl)
                    · skip
                      have hno : ∀ i, i < mc9 → ¬ imgN P Sg (G9 j) (Ad j) (G9 i) (Ad i) := by
                        rcases h3 with u | u
                        · rw [u.1] at c_95; exact absurd c_95 (by decide)
                        · rw [← ek]; exact u.2
                      refine lv_iconst (v := nI 0) hx hb dX7_isGood_98 (by decide) ?_
                      exact kret _ iv _ _ _ _ dX7_isGood_99 (⟨Or.inl rfl, ⟨fun q => absurd q (by decide), fun q => by obtain ⟨i, a1, a2⟩ := q.2 j (by omega); exact absurd a2 (hno i a1)⟩, rfl⟩) hS
                  · skip
                    rw [nI_leI (by omega) (by omega)] at c_64
                    refine lv_iload_n hx hb dX7_isGood_67 rfl (lv_at hl 3 rfl) ?_
                    refine lv_if_ne (tgt := 82) hx hb dX7_isGood_68 (by decide) (fun c_68 => ?_) (fun c_68 => ?_)
                    · skip
                      have hex1 : ∃ i, i < mc9 ∧ imgN P Sg (G9 j) (Ad j) (G9 i) (Ad i) := by
                        rcases h3 with u | u
                        · exact u.2
                        · exact absurd u.1 c_68
                      refine lv_iconst (v := nI 1) hx hb dX7_isGood_82 (by decide) ?_
                      refine lv_goto (tgt := 87) hx hb dX7_isGood_83 (by decide) ?_
                      refine lv_istore_n (lv' := [(3, .int (nI 1)), (0, .ref (ad 53)), (1, .int (nI s8)), (2, .int (nI j)), (4, .int (nI k))]) hx hb dX7_isGood_87 rfl hl (by decide) rfl (fun ls hl => ?_)
                      refine lv_iinc (v := nI (k + 1)) (lv' := [(4, .int (nI (k + 1))), (3, .int (nI 1)), (0, .ref (ad 53)), (1, .int (nI s8)), (2, .int (nI j))]) hx hb dX7_isGood_88 hl (k := 4) rfl (nI_1 k) (by decide) rfl (fun ls hl => ?_)
                      refine lv_goto (tgt := 58) hx hb dX7_isGood_91 (by decide) ?_
                      exact ih58 (k + 1) _ (by omega) (by omega) (by first | exact Or.inl ⟨rfl, hex1⟩ | exact Or.inr ⟨rfl, fun i hi => by rcases Nat.lt_or_ge i k with u | u; exact hno i u; have e : i = k := (by omega); rw [e]; exact hnk⟩) _ _ _ hS (lv_sub hl [2, 3, 4, 1, 0] rfl)
                    · skip
                      have hno : ∀ i, i < k → ¬ imgN P Sg (G9 j) (Ad j) (G9 i) (Ad i) := by
                        rcases h3 with u | u
                        · rw [u.1] at c_68; exact absurd c_68 (by decide)
                        · exact u.2
                      refine lv_aload_n hx hb dX7_isGood_71 rfl (lv_at hl 0 rfl) ?_
                      refine lv_iload_n hx hb dX7_isGood_72 rfl (lv_at hl 1 rfl) ?_
                      refine lv_iload_n hx hb dX7_isGood_73 rfl (lv_at hl 2 rfl) ?_
                      refine lv_iload hx hb dX7_isGood_74 (lv_at hl 4 rfl) ?_
                      refine gc_i (gx_runV (As := [.int (nI s8), .int (nI j), .int (nI k)]) (rest := []) ⟨hx, hb, hml, hown, hts⟩ hK hN hS 53 (by omega) rfl rfl (ct_X7_isTaken l D cA o ad ln n H.size iv (s8 := s8) (m8 := j) (o8 := k) (P := P) (T := T) (Sg := Sg) (Gm := G9 j) (Am := Ad j) (Go := G9 k) (Ao := Ad k) hn hln hRn9 hP0 hP hT3 hs8 (by omega) (by omega) hsy (hmv j (by omega)) (hmv k (by omega))) (cwV 3 hts gX7_isGood_X7_isTaken rfl rfl rfl (by decide +kernel) ⟨gle hRf rfl, gle hRl rfl⟩) rfl rfl hl.1 rfl (lv_room (Nat.le_of_ble_eq_true rfl)) dX7_isGood_76 ⟨hRc, hRs⟩) hS hA (fun y iv1 H locs hp1 hS => ?_)
                      obtain ⟨hy01, hyi, ev1⟩ := hp1
                      rw [ev1] at hS
                      skip
                      refine lv_if_eq (tgt := 86) hx hb dX7_isGood_79 (by decide) (fun c_79 => ?_) (fun c_79 => ?_)
                      · skip
                        have hnk : ¬ imgN P Sg (G9 j) (Ad j) (G9 k) (Ad k) := fun u => by have := hyi.mpr u; rw [this] at c_79; exact absurd c_79 (by decide)
                        refine lv_iconst (v := nI 0) hx hb dX7_isGood_86 (by decide) ?_
                        refine lv_istore_n (lv' := [(3, .int (nI 0)), (0, .ref (ad 53)), (1, .int (nI s8)), (2, .int (nI j)), (4, .int (nI k))]) hx hb dX7_isGood_87 rfl hl (by decide) rfl (fun ls hl => ?_)
                        refine lv_iinc (v := nI (k + 1)) (lv' := [(4, .int (nI (k + 1))), (3, .int (nI 0)), (0, .ref (ad 53)), (1, .int (nI s8)), (2, .int (nI j))]) hx hb dX7_isGood_88 hl (k := 4) rfl (nI_1 k) (by decide) rfl (fun ls hl => ?_)
                        refine lv_goto (tgt := 58) hx hb dX7_isGood_91 (by decide) ?_
                        exact ih58 (k + 1) _ (by omega) (by omega) (by first | exact Or.inl ⟨rfl, hex1⟩ | exact Or.inr ⟨rfl, fun i hi => by rcases Nat.lt_or_ge i k with u | u; exact hno i u; have e : i = k := (by omega); rw [e]; exact hnk⟩) _ _ _ hS (lv_sub hl [2, 3, 4, 1, 0] rfl)
                      · skip
                        have hex1 : ∃ i, i < mc9 ∧ imgN P Sg (G9 j) (Ad j) (G9 i) (Ad i) := ⟨k, by omega, hyi.mp (hy01.resolve_left c_79)⟩
                        refine lv_iconst (v := nI 1) hx hb dX7_isGood_82 (by decide) ?_
                        refine lv_goto (tgt := 87) hx hb dX7_isGood_83 (by decide) ?_
                        refine lv_istore_n (lv' := [(3, .int (nI 1)), (0, .ref (ad 53)), (1, .int (nI s8)), (2, .int (nI j)), (4, .int (nI k))]) hx hb dX7_isGood_87 rfl hl (by decide) rfl (fun ls hl => ?_)
                        refine lv_iinc (v := nI (k + 1)) (lv' := [(4, .int (nI (k + 1))), (3, .int (nI 1)), (0, .ref (ad 53)), (1, .int (nI s8)), (2, .int (nI j))]) hx hb dX7_isGood_88 hl (k := 4) rfl (nI_1 k) (by decide) rfl (fun ls hl => ?_)
                        refine lv_goto (tgt := 58) hx hb dX7_isGood_91 (by decide) ?_
                        exact ih58 (k + 1) _ (by omega) (by omega) (by first | exact Or.inl ⟨rfl, hex1⟩ | exact Or.inr ⟨rfl, fun i hi => by rcases Nat.lt_or_ge i k with u | u; exact hno i u; have e : i = k := (by omega); rw [e]; exact hnk⟩) _ _ _ hS (lv_sub hl [2, 3, 4, 1, 0] rfl)
              exact L58 _ 0 (nI 0) (Nat.lt_succ_self _) (Nat.zero_le _) (Or.inr ⟨rfl, lt_0⟩) _ _ _ hS (lv_sub hl [2, 3, 4, 1, 0] rfl)
        exact L45 _ 0 (Nat.lt_succ_self _) (Nat.zero_le _) lt_0 _ _ _ hS (lv_sub hl [1, 2, 0] rfl)
      · skip
        rw [nI_leI (by omega) (by omega)] at c_7
        obtain ⟨s1, s2⟩ := hsy i (by omega)
        refine lv_aload_n hx hb dX7_isGood_10 rfl (lv_at hl 0 rfl) ?_
        refine gx_get (ci := 10) (v := .ref (ad 56)) (C := RX7) (T := TX7) (N := 23) hx hb hts (fun _ h => inX7_isGood_RX7 h) hown hK hS 53 (by omega) rfl rfl 6 (by decide) (hts (.fieldLink RX7 16 "CosetTablesModel" "isChosen" "[Z") (by decide +kernel)) rfl dX7_isGood_11 ?_
        refine lv_iload_n hx hb dX7_isGood_14 rfl (lv_at hl 2 rfl) ?_
        refine gx_zaldn hx hb hK hS 56 (by omega) (by decide) i (by omega) (hln _) dX7_isGood_15 ?_
        refine gx_as (y := (if ch i then 1 else 0)) (hch i (by omega)) ?_
        refine lv_aload_n hx hb dX7_isGood_16 rfl (lv_at hl 0 rfl) ?_
        refine gx_get (ci := 10) (v := .ref (ad 56)) (C := RX7) (T := TX7) (N := 23) hx hb hts (fun _ h => inX7_isGood_RX7 h) hown hK hS 53 (by omega) rfl rfl 6 (by decide) (hts (.fieldLink RX7 16 "CosetTablesModel" "isChosen" "[Z") (by decide +kernel)) rfl dX7_isGood_17 ?_
        refine lv_aload_n hx hb dX7_isGood_20 rfl (lv_at hl 0 rfl) ?_
        refine gx_get (ci := 10) (v := .ref (ad 63)) (C := RX7) (T := TX7) (N := 23) hx hb hts (fun _ h => inX7_isGood_RX7 h) hown hK hS 53 (by omega) rfl rfl 19 (by decide) (hts (.fieldLink RX7 39 "CosetTablesModel" "goes" "[I") (by decide +kernel)) rfl dX7_isGood_21 ?_
        refine lv_bipush (v := nI 8) hx hb dX7_isGood_24 (by decide) ?_
        refine lv_iload_n hx hb dX7_isGood_26 rfl (lv_at hl 1 rfl) ?_
        refine lv_imul hx hb dX7_isGood_27 ?_
        refine gx_as (y := nI (8 * s8)) (pk_mul _ _) ?_
        refine lv_iload_n hx hb dX7_isGood_28 rfl (lv_at hl 2 rfl) ?_
        refine lv_iadd hx hb dX7_isGood_29 ?_
        refine gx_as (y := nI ((8 * s8) + i)) (nI_add _ _) ?_
        refine gx_ialdn hx hb hK hS 63 (by omega) (by decide) ((8 * s8) + i) (by omega) (hln _) dX7_isGood_30 ?_
        refine gx_as (y := nI (Sg i)) s1 ?_
        refine gx_zaldn hx hb hK hS 56 (by omega) (by decide) (Sg i) (by omega) (hln _) dX7_isGood_31 ?_
        refine gx_as (y := (if ch (Sg i) then 1 else 0)) (hch _ s2) ?_
        refine lv_icmp_eq (tgt := 37) hx hb dX7_isGood_32 (by decide) (fun c_32 => ?_) (fun c_32 => ?_)
        · skip
          have hce : ch i = ch (Sg i) := by
            cases u : ch i <;> cases w8 : ch (Sg i) <;> first | rfl | (rw [u, w8] at c_32; exact absurd c_32 (by decide))
          refine lv_iinc (v := nI (i + 1)) (lv' := [(2, .int (nI (i + 1))), (0, .ref (ad 53)), (1, .int (nI s8))]) hx hb dX7_isGood_37 hl (k := 2) rfl (nI_1 i) (by decide) rfl (fun ls hl => ?_)
          refine lv_goto (tgt := 2) hx hb dX7_isGood_40 (by decide) ?_
          exact ih2 (i + 1) (by omega) (by omega) (fun q hq => by rcases Nat.lt_or_ge q i with u | u; exact h1 q u; have e : q = i := (by omega); rw [e]; exact hce) _ _ _ hS (lv_sub hl [1, 2, 0] rfl)
        · skip
          have hcn : ¬ ch i = ch (Sg i) := fun u => c_32 (by rw [u])
          refine lv_iconst (v := nI 0) hx hb dX7_isGood_35 (by decide) ?_
          exact kret _ iv _ _ _ _ dX7_isGood_36 (⟨Or.inl rfl, ⟨fun q => absurd q (by decide), fun q => absurd (q.1 i (by omega)) hcn⟩, rfl⟩) hS
  exact L2 _ 0 (Nat.lt_succ_self _) (Nat.zero_le _) lt_0 _ _ _ hS (lv_sub hl [1, 2, 0] rfl)
set_option maxRecDepth 100000 in
theorem ct_X7_isGood (l : Launch) (D : va_G) (cA : Nat → ClassId) (o : Nat → Int64) (ad ln : Nat → Nat) (n sz : Nat) (iv : Nat → Nat → Int32) (s8 P T mc9 : Nat) (Sg : Nat → Nat) (G9 Ad : Nat → Nat → Nat) (ch : Nat → Bool) (hn : 68 ≤ n) (hln : ∀ k, ln k < 2 ^ 31) (hRn : rln ln) (hP0 : iv 53 1 = nI P) (hP : P ≤ 8) (hT3 : T ≤ 3) (hmc : iv 53 3 = nI mc9) (hmc6 : mc9 ≤ 6) (hs8 : s8 < 4) (hsy : rsym iv s8 P Sg) (hmv : ∀ j, j < mc9 → rmove iv j P T (G9 j) (Ad j)) (hch : ∀ p, p < P → iv 56 p = if ch p then 1 else 0)  : gMi l yX7_isGood wsX7_isGood { frames := 1, cells := 0, slots := 0, locals := 25 } D cA o ad ln n sz iv [.ref (ad 53), .int (nI s8)] (fun (r : Int32) iv' => (r = 0 ∨ r = 1) ∧ (r = 1 ↔ ((∀ p, p < P → ch p = ch (Sg p)) ∧ ∀ j, j < mc9 → ∃ i, i < mc9 ∧ imgN P Sg (G9 j) (Ad j) (G9 i) (Ad i))) ∧ iv' = iv) := by
  refine Met.ofW (cc := cX7_isGood) (maxL := 5) (ret := (some .boolean)) (by decide) rfl ?_
  intro p e s m args below meth c s₁ B hml hv__
  obtain ⟨rfl, hv__⟩ := hv__
  obtain ⟨hsz, hS, hK, hN, hA⟩ := gS.entry hv__
  have hl := lv_entry ([.ref (ad 53), .int (nI s8)]) (n := 5) (Nat.le_of_ble_eq_true rfl)
  rw [lg_entry_eq]
  generalize (lg_sl ([.ref (ad 53), .int (nI s8)]) ++ List.replicate (5 - (lg_sl ([.ref (ad 53), .int (nI s8)])).length) Slot.unset).toArray = ls at hl ⊢
  exact bd_X7_isGood (s8 := s8) (P := P) (T := T) (mc9 := mc9) (Sg := Sg) (G9 := G9) (Ad := Ad) (ch := ch) ⟨B.exec, B.bytes, hml, findClass_of_methodNamed B.named, atoms_spec (ws := wsX7_isGood) B.pre, B.returns, B.notSynchronized⟩ (Nat.le_refl _) (Nat.le_refl _) (Nat.le_refl _) (Nat.le_refl _) hK hN hA hn hln hRn hP0 hP hT3 hmc hmc6 hs8 hsy hmv hch hS hl (fun r iv' H locs ls pc hd hp hS => gx_zret B.exec B.bytes B.returns B.notSynchronized (hp.1) hS hp hd)

theorem inX7_good_RX7 : ∀ {w : Cond}, w ∈ u_ws RX7 TX7 23 → w ∈ wsX7_good := fun {w} h => by first | exact List.mem_cons_of_mem _ (List.mem_append_right _ h) | (revert h; revert w; show ∀ w ∈ u_ws RX7 TX7 23, w ∈ wsX7_good; decide +kernel)
set_option maxHeartbeats 1000000 in
set_option maxRecDepth 100000 in
theorem bd_X7_good {p : Program} {l : Launch} {e : Env} {R : Room} {s : State} {m : MethodId} {args : Array Value} {below : List Frame} {meth : Method} {c : Code} {H : Heap} {locs : List Loc} {cells slots : Nat} {Q : State → Prop} {ls : Array Slot} {D : va_G} {A : Nat → Prop} {H0 : Heap} {cA : Nat → ClassId} {o : Nat → Int64} {ad ln : Nat → Nat} {iv : Nat → Nat → Int32} {n : Nat} {s8 P T mc9 sc9 : Nat} {Sg : Nat → Nat} {G9 Ad : Nat → Nat → Nat} {ch : Nat → Bool}
    (F : gF p s m meth c cX7_good 2 RX7 wsX7_good args (some .boolean)) (hRf : 2 ≤ R.frames) (hRl : 49 ≤ R.locals) (hRc : cells ≤ R.cells) (hRs : slots ≤ R.slots) (hK : va_K D vwCl (gT cA) s) (hN : NW s) (hA : ∀ q, H0.size ≤ q → A q) (hn : 68 ≤ n) (hln : ∀ k, ln k < 2 ^ 31) (hRn : rln ln) (hP0 : iv 53 1 = nI P) (hP : P ≤ 8) (hT3 : T ≤ 3) (hmc : iv 53 3 = nI mc9) (hmc6 : mc9 ≤ 6) (hs8 : s8 < 4) (hsy : rsym iv s8 P Sg) (hmv : ∀ j, j < mc9 → rmove iv j P T (G9 j) (Ad j)) (hch : ∀ p, p < P → iv 56 p = if ch p then 1 else 0) (hs0 : iv 53 18 = nI sc9) (hs4 : sc9 ≤ 4) (hs9 : s8 < sc9)
    (hS : gS D cA A H0 o ad ln iv n H locs) (hl : lv_has ls 2 [(0, .ref (ad 53)), (1, .int (nI s8))])
    (kret : ∀ (r : Int32) (iv' : Nat → Nat → Int32) (H : Heap) (locs : List Loc) (ls : Array Slot) (pc : Nat), decode cX7_good pc = .ok (.ireturn, 1) → ((r = 0 ∨ r = 1) ∧ (r = 1 ↔ ((∀ p, p < P → ch p = ch (Sg p)) ∧ ∀ j, j < mc9 → ∃ i, i < mc9 ∧ imgN P Sg (G9 j) (Ad j) (G9 i) (Ad i))) ∧ iv' = up2 iv 53 0 0) → gS D cA A H0 o ad ln iv' n H locs → W p l e R s m args below meth c H locs cells slots Q (F0 m pc ls [.int r])) :
    W p l e R s m args below meth c H locs cells slots Q (F0 m 0 ls []) := by
  obtain ⟨hx, hb, hml, hown, hts, hr, hlocks⟩ := F
  have hRn9 := hRn
  refine lv_aload_n hx hb dX7_good_0 rfl (lv_at hl 0 rfl) ?_
  refine lv_iconst (v := nI 1) hx hb dX7_good_1 (by decide) ?_
  refine lv_iload_n hx hb dX7_good_2 rfl (lv_at hl 1 rfl) ?_
  refine lv_if_lt (tgt := 14) hx hb dX7_good_3 (by decide) (fun c_3 => ?_) (fun c_3 => ?_)
  · skip
    rw [show (0 : Int32) = nI 0 from rfl] at c_3
    rw [nI_ltI (by omega) (by omega)] at c_3
    omega
  · skip
    rw [show (0 : Int32) = nI 0 from rfl] at c_3
    rw [nI_ltI (by omega) (by omega)] at c_3
    refine lv_iload_n hx hb dX7_good_6 rfl (lv_at hl 1 rfl) ?_
    refine lv_aload_n hx hb dX7_good_7 rfl (lv_at hl 0 rfl) ?_
    refine gx_get (ci := 10) (v := .int (iv 53 18)) (C := RX7) (T := TX7) (N := 23) hx hb hts (fun _ h => inX7_good_RX7 h) hown hK hS 53 (by omega) rfl rfl 18 (by decide) (hts (.fieldLink RX7 132 "CosetTablesModel" "symmetries" "I") (by decide +kernel)) rfl dX7_good_8 ?_
    refine gx_as (y := nI sc9) hs0 ?_
    refine lv_icmp_lt (tgt := 18) hx hb dX7_good_11 (by decide) (fun c_11 => ?_) (fun c_11 => ?_)
    · skip
      rw [nI_ltI (by omega) (by omega)] at c_11
      refine lv_iconst (v := nI 0) hx hb dX7_good_18 (by decide) ?_
      refine gc_i (gx_runV (As := [.int (nI 1), .int (nI 0)]) (rest := []) ⟨hx, hb, hml, hown, hts⟩ hK hN hS 53 (by omega) rfl rfl (ct_X7_throwsIf l D cA o ad ln n H.size iv (x := nI 1) (v := nI 0) hn hln (Or.inl rfl)) (cwV 2 hts gX7_good_X7_throwsIf rfl rfl rfl (by decide +kernel) ⟨gle hRf rfl, gle hRl rfl⟩) rfl rfl hl.1 rfl (lv_room (Nat.le_of_ble_eq_true rfl)) dX7_good_19 ⟨hRc, hRs⟩) hS hA (fun z iv4 H locs hp4 hS => ?_)
      obtain ⟨_, ez, et⟩ := hp4
      have et : iv4 = up2 iv 53 0 0 := et
      refine gx_as (y := nI 0) ez ?_
      refine lv_if_ne (tgt := 37) hx hb dX7_good_22 (by decide) (fun c_22 => ?_) (fun c_22 => ?_)
      · skip
        rw [show (0 : Int32) = nI 0 from rfl] at c_22
        rw [nI_eq (by omega) (by omega)] at c_22
        omega
      · skip
        rw [show (0 : Int32) = nI 0 from rfl] at c_22
        rw [nI_eq (by omega) (by omega)] at c_22
        refine lv_aload_n hx hb dX7_good_25 rfl (lv_at hl 0 rfl) ?_
        refine lv_iload_n hx hb dX7_good_26 rfl (lv_at hl 1 rfl) ?_
        refine gc_i (gx_runV (As := [.int (nI s8)]) (rest := []) ⟨hx, hb, hml, hown, hts⟩ hK hN hS 53 (by omega) rfl rfl (ct_X7_isGood l D cA o ad ln n H.size iv4 (s8 := s8) (P := P) (T := T) (mc9 := mc9) (Sg := Sg) (G9 := G9) (Ad := Ad) (ch := ch) hn hln hRn9 (by rw [et, up2_n (by decide)]; exact hP0) hP hT3 (by rw [et, up2_n (by decide)]; exact hmc) hmc6 hs8 (fun q hq => by rw [et, up2_row (by decide)]; exact hsy q hq) (fun j hj q hq => by rw [et, up2_row (by decide), up2_row (by decide)]; exact hmv j hj q hq) (fun p hp => by rw [et, up2_row (by decide)]; exact hch p hp)) (cwV 1 hts gX7_good_X7_isGood rfl rfl rfl (by decide +kernel) ⟨gle hRf rfl, gle hRl rfl⟩) rfl rfl hl.1 rfl (lv_room (Nat.le_of_ble_eq_true rfl)) dX7_good_27 ⟨hRc, hRs⟩) hS hA (fun y iv5 H locs hp5 hS => ?_)
        obtain ⟨hy01, hyi, ev5⟩ := hp5
        rw [ev5] at hS
        skip
        refine lv_if_eq (tgt := 37) hx hb dX7_good_30 (by decide) (fun c_30 => ?_) (fun c_30 => ?_)
        · skip
          refine lv_iconst (v := nI 0) hx hb dX7_good_37 (by decide) ?_
          exact kret _ iv4 _ _ _ _ dX7_good_38 (by first | exact ⟨Or.inl rfl, ⟨fun q => absurd q (by decide), fun q => by have := hyi.mpr q; rw [this] at c_30; exact absurd c_30 (by decide)⟩, et⟩ | exact ⟨Or.inr rfl, ⟨fun _ => hyi.mp (hy01.resolve_left c_30), fun _ => rfl⟩, et⟩) hS
        · skip
          refine lv_iconst (v := nI 1) hx hb dX7_good_33 (by decide) ?_
          refine lv_goto (tgt := 38) hx hb dX7_good_34 (by decide) ?_
          exact kret _ iv4 _ _ _ _ dX7_good_38 (by first | exact ⟨Or.inl rfl, ⟨fun q => absurd q (by decide), fun q => by have := hyi.mpr q; rw [this] at c_30; exact absurd c_30 (by decide)⟩, et⟩ | exact ⟨Or.inr rfl, ⟨fun _ => hyi.mp (hy01.resolve_left c_30), fun _ => rfl⟩, et⟩) hS
    · skip
      rw [nI_ltI (by omega) (by omega)] at c_11
      omega
set_option maxRecDepth 100000 in
theorem ct_X7_good (l : Launch) (D : va_G) (cA : Nat → ClassId) (o : Nat → Int64) (ad ln : Nat → Nat) (n sz : Nat) (iv : Nat → Nat → Int32) (s8 P T mc9 sc9 : Nat) (Sg : Nat → Nat) (G9 Ad : Nat → Nat → Nat) (ch : Nat → Bool) (hn : 68 ≤ n) (hln : ∀ k, ln k < 2 ^ 31) (hRn : rln ln) (hP0 : iv 53 1 = nI P) (hP : P ≤ 8) (hT3 : T ≤ 3) (hmc : iv 53 3 = nI mc9) (hmc6 : mc9 ≤ 6) (hs8 : s8 < 4) (hsy : rsym iv s8 P Sg) (hmv : ∀ j, j < mc9 → rmove iv j P T (G9 j) (Ad j)) (hch : ∀ p, p < P → iv 56 p = if ch p then 1 else 0) (hs0 : iv 53 18 = nI sc9) (hs4 : sc9 ≤ 4) (hs9 : s8 < sc9) : gMi l yX7_good wsX7_good { frames := 2, cells := 0, slots := 0, locals := 49 } D cA o ad ln n sz iv [.ref (ad 53), .int (nI s8)] (fun (r : Int32) iv' => (r = 0 ∨ r = 1) ∧ (r = 1 ↔ ((∀ p, p < P → ch p = ch (Sg p)) ∧ ∀ j, j < mc9 → ∃ i, i < mc9 ∧ imgN P Sg (G9 j) (Ad j) (G9 i) (Ad i))) ∧ iv' = up2 iv 53 0 0) := by
  refine Met.ofW (cc := cX7_good) (maxL := 2) (ret := (some .boolean)) (by decide) rfl ?_
  intro p e s m args below meth c s₁ B hml hv__
  obtain ⟨rfl, hv__⟩ := hv__
  obtain ⟨hsz, hS, hK, hN, hA⟩ := gS.entry hv__
  have hl := lv_entry ([.ref (ad 53), .int (nI s8)]) (n := 2) (Nat.le_of_ble_eq_true rfl)
  rw [lg_entry_eq]
  generalize (lg_sl ([.ref (ad 53), .int (nI s8)]) ++ List.replicate (2 - (lg_sl ([.ref (ad 53), .int (nI s8)])).length) Slot.unset).toArray = ls at hl ⊢
  exact bd_X7_good (s8 := s8) (P := P) (T := T) (mc9 := mc9) (sc9 := sc9) (Sg := Sg) (G9 := G9) (Ad := Ad) (ch := ch) ⟨B.exec, B.bytes, hml, findClass_of_methodNamed B.named, atoms_spec (ws := wsX7_good) B.pre, B.returns, B.notSynchronized⟩ (Nat.le_refl _) (Nat.le_refl _) (Nat.le_refl _) (Nat.le_refl _) hK hN hA hn hln hRn hP0 hP hT3 hmc hmc6 hs8 hsy hmv hch hs0 hs4 hs9 hS hl (fun r iv' H locs ls pc hd hp hS => gx_zret B.exec B.bytes B.returns B.notSynchronized (hp.1) hS hp hd)

set_option maxHeartbeats 1000000 in
set_option maxRecDepth 100000 in
theorem bd_X7_goodB {p : Program} {l : Launch} {e : Env} {R : Room} {s : State} {m : MethodId} {args : Array Value} {below : List Frame} {meth : Method} {c : Code} {H : Heap} {locs : List Loc} {cells slots : Nat} {Q : State → Prop} {ls : Array Slot} {D : va_G} {A : Nat → Prop} {H0 : Heap} {cA : Nat → ClassId} {o : Nat → Int64} {ad ln : Nat → Nat} {iv : Nat → Nat → Int32} {n : Nat} {x : Int32}
    (F : gF p s m meth c cX7_good 2 RX7 wsX7_good args (some .boolean)) (hRf : 1 ≤ R.frames) (hRl : 22 ≤ R.locals) (hRc : cells ≤ R.cells) (hRs : slots ≤ R.slots) (hK : va_K D vwCl (gT cA) s) (hN : NW s) (hA : ∀ q, H0.size ≤ q → A q) (hn : 68 ≤ n) (hln : ∀ k, ln k < 2 ^ 31) (hbad : ¬ ok9 x (iv 53 18))
    (hS : gS D cA A H0 o ad ln iv n H locs) (hl : lv_has ls 2 [(0, .ref (ad 53)), (1, .int x)])
    (kret : ∀ (r : Int32) (iv' : Nat → Nat → Int32) (H : Heap) (locs : List Loc) (ls : Array Slot) (pc : Nat), decode cX7_good pc = .ok (.ireturn, 1) → ((r = 0 ∨ r = 1) ∧ r = 0 ∧ iv' = up2 iv 53 0 1) → gS D cA A H0 o ad ln iv' n H locs → W p l e R s m args below meth c H locs cells slots Q (F0 m pc ls [.int r])) :
    W p l e R s m args below meth c H locs cells slots Q (F0 m 0 ls []) := by
  obtain ⟨hx, hb, hml, hown, hts, hr, hlocks⟩ := F
  refine lv_aload_n hx hb dX7_good_0 rfl (lv_at hl 0 rfl) ?_
  refine lv_iconst (v := nI 1) hx hb dX7_good_1 (by decide) ?_
  refine lv_iload_n hx hb dX7_good_2 rfl (lv_at hl 1 rfl) ?_
  refine lv_if_lt (tgt := 14) hx hb dX7_good_3 (by decide) (fun c_3 => ?_) (fun c_3 => ?_)
  · skip
    refine lv_iconst (v := nI 1) hx hb dX7_good_14 (by decide) ?_
    refine lv_goto (tgt := 19) hx hb dX7_good_15 (by decide) ?_
    refine gc_i (gx_runV (As := [.int (nI 1), .int (nI 1)]) (rest := []) ⟨hx, hb, hml, hown, hts⟩ hK hN hS 53 (by omega) rfl rfl (ct_X7_throwsIf l D cA o ad ln n H.size iv (x := nI 1) (v := nI 1) hn hln (Or.inr rfl)) (cwV 2 hts gX7_good_X7_throwsIf rfl rfl rfl (by decide +kernel) ⟨gle hRf rfl, gle hRl rfl⟩) rfl rfl hl.1 rfl (lv_room (Nat.le_of_ble_eq_true rfl)) dX7_good_19 ⟨hRc, hRs⟩) hS hA (fun z iv4 H locs hp4 hS => ?_)
    obtain ⟨_, ez, et⟩ := hp4
    have et : iv4 = up2 iv 53 0 1 := et
    refine gx_as (y := nI 1) ez ?_
    refine lv_if_ne (tgt := 37) hx hb dX7_good_22 (by decide) (fun c_22 => ?_) (fun c_22 => ?_)
    · skip
      rw [show (0 : Int32) = nI 0 from rfl] at c_22
      rw [nI_eq (by omega) (by omega)] at c_22
      refine lv_iconst (v := nI 0) hx hb dX7_good_37 (by decide) ?_
      exact kret _ iv4 _ _ _ _ dX7_good_38 (⟨Or.inl rfl, rfl, et⟩) hS
    · skip
      rw [show (0 : Int32) = nI 0 from rfl] at c_22
      rw [nI_eq (by omega) (by omega)] at c_22
      omega
  · skip
    refine lv_iload_n hx hb dX7_good_6 rfl (lv_at hl 1 rfl) ?_
    refine lv_aload_n hx hb dX7_good_7 rfl (lv_at hl 0 rfl) ?_
    refine gx_get (ci := 10) (v := .int (iv 53 18)) (C := RX7) (T := TX7) (N := 23) hx hb hts (fun _ h => inX7_good_RX7 h) hown hK hS 53 (by omega) rfl rfl 18 (by decide) (hts (.fieldLink RX7 132 "CosetTablesModel" "symmetries" "I") (by decide +kernel)) rfl dX7_good_8 ?_
    refine lv_icmp_lt (tgt := 18) hx hb dX7_good_11 (by decide) (fun c_11 => ?_) (fun c_11 => ?_)
    · skip
      exact absurd ⟨c_3, c_11⟩ hbad
    · skip
      refine lv_iconst (v := nI 1) hx hb dX7_good_14 (by decide) ?_
      refine lv_goto (tgt := 19) hx hb dX7_good_15 (by decide) ?_
      refine gc_i (gx_runV (As := [.int (nI 1), .int (nI 1)]) (rest := []) ⟨hx, hb, hml, hown, hts⟩ hK hN hS 53 (by omega) rfl rfl (ct_X7_throwsIf l D cA o ad ln n H.size iv (x := nI 1) (v := nI 1) hn hln (Or.inr rfl)) (cwV 2 hts gX7_good_X7_throwsIf rfl rfl rfl (by decide +kernel) ⟨gle hRf rfl, gle hRl rfl⟩) rfl rfl hl.1 rfl (lv_room (Nat.le_of_ble_eq_true rfl)) dX7_good_19 ⟨hRc, hRs⟩) hS hA (fun z iv4 H locs hp4 hS => ?_)
      obtain ⟨_, ez, et⟩ := hp4
      have et : iv4 = up2 iv 53 0 1 := et
      refine gx_as (y := nI 1) ez ?_
      refine lv_if_ne (tgt := 37) hx hb dX7_good_22 (by decide) (fun c_22 => ?_) (fun c_22 => ?_)
      · skip
        rw [show (0 : Int32) = nI 0 from rfl] at c_22
        rw [nI_eq (by omega) (by omega)] at c_22
        refine lv_iconst (v := nI 0) hx hb dX7_good_37 (by decide) ?_
        exact kret _ iv4 _ _ _ _ dX7_good_38 (⟨Or.inl rfl, rfl, et⟩) hS
      · skip
        rw [show (0 : Int32) = nI 0 from rfl] at c_22
        rw [nI_eq (by omega) (by omega)] at c_22
        omega
set_option maxRecDepth 100000 in
theorem ct_X7_goodB (l : Launch) (D : va_G) (cA : Nat → ClassId) (o : Nat → Int64) (ad ln : Nat → Nat) (n sz : Nat) (iv : Nat → Nat → Int32) (x : Int32) (hn : 68 ≤ n) (hln : ∀ k, ln k < 2 ^ 31) (hbad : ¬ ok9 x (iv 53 18)) : gMi l yX7_good wsX7_good { frames := 1, cells := 0, slots := 0, locals := 22 } D cA o ad ln n sz iv [.ref (ad 53), .int x] (fun (r : Int32) iv' => (r = 0 ∨ r = 1) ∧ r = 0 ∧ iv' = up2 iv 53 0 1) := by
  refine Met.ofW (cc := cX7_good) (maxL := 2) (ret := (some .boolean)) (by decide) rfl ?_
  intro p e s m args below meth c s₁ B hml hv__
  obtain ⟨rfl, hv__⟩ := hv__
  obtain ⟨hsz, hS, hK, hN, hA⟩ := gS.entry hv__
  have hl := lv_entry ([.ref (ad 53), .int x]) (n := 2) (Nat.le_of_ble_eq_true rfl)
  rw [lg_entry_eq]
  generalize (lg_sl ([.ref (ad 53), .int x]) ++ List.replicate (2 - (lg_sl ([.ref (ad 53), .int x])).length) Slot.unset).toArray = ls at hl ⊢
  exact bd_X7_goodB (x := x) ⟨B.exec, B.bytes, hml, findClass_of_methodNamed B.named, atoms_spec (ws := wsX7_good) B.pre, B.returns, B.notSynchronized⟩ (Nat.le_refl _) (Nat.le_refl _) (Nat.le_refl _) (Nat.le_refl _) hK hN hA hn hln hbad hS hl (fun r iv' H locs ls pc hd hp hS => gx_zret B.exec B.bytes B.returns B.notSynchronized (hp.1) hS hp hd)

theorem inX7_byteOf_RX7 : ∀ {w : Cond}, w ∈ u_ws RX7 TX7 23 → w ∈ wsX7_byteOf := fun {w} h => by first | exact List.mem_cons_of_mem _ (List.mem_append_right _ h) | (revert h; revert w; show ∀ w ∈ u_ws RX7 TX7 23, w ∈ wsX7_byteOf; decide +kernel)
set_option maxHeartbeats 1000000 in
set_option maxRecDepth 100000 in
theorem bd_X7_byteOf {p : Program} {l : Launch} {e : Env} {R : Room} {s : State} {m : MethodId} {args : Array Value} {below : List Frame} {meth : Method} {c : Code} {H : Heap} {locs : List Loc} {cells slots : Nat} {Q : State → Prop} {ls : Array Slot} {D : va_G} {A : Nat → Prop} {H0 : Heap} {cA : Nat → ClassId} {o : Nat → Int64} {ad ln : Nat → Nat} {iv : Nat → Nat → Int32} {n : Nat} {i9 S8 : Nat}
    (F : gF p s m meth c cX7_byteOf 3 RX7 wsX7_byteOf args (some .int)) (hRf : 1 ≤ R.frames) (hRl : 23 ≤ R.locals) (hRc : cells ≤ R.cells) (hRs : slots ≤ R.slots) (hK : va_K D vwCl (gT cA) s) (hN : NW s) (hA : ∀ q, H0.size ≤ q → A q) (hn : 68 ≤ n) (hln : ∀ k, ln k < 2 ^ 31) (hRn : rln ln) (hs : iv 53 14 = nI S8) (hS8 : S8 ≤ 136080) (hi9 : i9 < 6 + (S8 + 1) / 2)
    (hS : gS D cA A H0 o ad ln iv n H locs) (hl : lv_has ls 3 [(0, .ref (ad 53)), (1, .int (nI i9))])
    (kret : ∀ (r : Int32) (iv' : Nat → Nat → Int32) (H : Heap) (locs : List Loc) (ls : Array Slot) (pc : Nat), decode cX7_byteOf pc = .ok (.ireturn, 1) → (r = rbyte iv S8 i9 ∧ iv' = iv) → gS D cA A H0 o ad ln iv' n H locs → W p l e R s m args below meth c H locs cells slots Q (F0 m pc ls [.int r])) :
    W p l e R s m args below meth c H locs cells slots Q (F0 m 0 ls []) := by
  obtain ⟨hx, hb, hml, hown, hts, hr, hlocks⟩ := F
  have hRn9 := hRn
  obtain ⟨r54, r55, r56, r57, r58, r59, r60, r61, r62, r63, r64, r65, r66⟩ := hRn
  refine lv_iload_n hx hb dX7_byteOf_0 rfl (lv_at hl 1 rfl) ?_
  by_cases e_0 : i9 = 0
  · subst e_0
    refine lv_tableIn (off := 39) (tgt := 40) hx hb dX7_byteOf_1 (by decide) (by decide) (by decide) (by decide) ?_
    refine lv_bipush (v := nI 67) hx hb dX7_byteOf_40 (by decide) ?_
    exact kret _ iv _ _ _ _ dX7_byteOf_42 (⟨rfl, rfl⟩) hS
  by_cases e_1 : i9 = 1
  · subst e_1
    refine lv_tableIn (off := 42) (tgt := 43) hx hb dX7_byteOf_1 (by decide) (by decide) (by decide) (by decide) ?_
    refine lv_bipush (v := nI 84) hx hb dX7_byteOf_43 (by decide) ?_
    exact kret _ iv _ _ _ _ dX7_byteOf_45 (⟨rfl, rfl⟩) hS
  by_cases e_2 : i9 = 2
  · subst e_2
    refine lv_tableIn (off := 45) (tgt := 46) hx hb dX7_byteOf_1 (by decide) (by decide) (by decide) (by decide) ?_
    refine lv_aload_n hx hb dX7_byteOf_46 rfl (lv_at hl 0 rfl) ?_
    refine gx_get (ci := 10) (v := .int (iv 53 1)) (C := RX7) (T := TX7) (N := 23) hx hb hts (fun _ h => inX7_byteOf_RX7 h) hown hK hS 53 (by omega) rfl rfl 1 (by decide) (hts (.fieldLink RX7 51 "CosetTablesModel" "places" "I") (by decide +kernel)) rfl dX7_byteOf_47 ?_
    exact kret _ iv _ _ _ _ dX7_byteOf_50 (⟨rfl, rfl⟩) hS
  by_cases e_3 : i9 = 3
  · subst e_3
    refine lv_tableIn (off := 50) (tgt := 51) hx hb dX7_byteOf_1 (by decide) (by decide) (by decide) (by decide) ?_
    refine lv_aload_n hx hb dX7_byteOf_51 rfl (lv_at hl 0 rfl) ?_
    refine gx_get (ci := 10) (v := .int (iv 53 2)) (C := RX7) (T := TX7) (N := 23) hx hb hts (fun _ h => inX7_byteOf_RX7 h) hown hK hS 53 (by omega) rfl rfl 2 (by decide) (hts (.fieldLink RX7 55 "CosetTablesModel" "twists" "I") (by decide +kernel)) rfl dX7_byteOf_52 ?_
    exact kret _ iv _ _ _ _ dX7_byteOf_55 (⟨rfl, rfl⟩) hS
  by_cases e_4 : i9 = 4
  · subst e_4
    refine lv_tableIn (off := 55) (tgt := 56) hx hb dX7_byteOf_1 (by decide) (by decide) (by decide) (by decide) ?_
    refine lv_aload_n hx hb dX7_byteOf_56 rfl (lv_at hl 0 rfl) ?_
    refine gx_get (ci := 10) (v := .int (iv 53 7)) (C := RX7) (T := TX7) (N := 23) hx hb hts (fun _ h => inX7_byteOf_RX7 h) hown hK hS 53 (by omega) rfl rfl 7 (by decide) (hts (.fieldLink RX7 83 "CosetTablesModel" "chosen" "I") (by decide +kernel)) rfl dX7_byteOf_57 ?_
    exact kret _ iv _ _ _ _ dX7_byteOf_60 (⟨rfl, rfl⟩) hS
  by_cases e_5 : i9 = 5
  · subst e_5
    refine lv_tableIn (off := 60) (tgt := 61) hx hb dX7_byteOf_1 (by decide) (by decide) (by decide) (by decide) ?_
    refine lv_aload_n hx hb dX7_byteOf_61 rfl (lv_at hl 0 rfl) ?_
    refine gx_get (ci := 10) (v := .int (iv 53 13)) (C := RX7) (T := TX7) (N := 23) hx hb hts (fun _ h => inX7_byteOf_RX7 h) hown hK hS 53 (by omega) rfl rfl 13 (by decide) (hts (.fieldLink RX7 126 "CosetTablesModel" "measured" "I") (by decide +kernel)) rfl dX7_byteOf_62 ?_
    exact kret _ iv _ _ _ _ dX7_byteOf_65 (⟨rfl, rfl⟩) hS
  refine lv_tableOut (tgt := 66) hx hb dX7_byteOf_1 (by rw [nI_toInt (by omega)]; omega) (by decide) ?_
  refine lv_iconst (v := nI 2) hx hb dX7_byteOf_66 (by decide) ?_
  refine lv_iload_n hx hb dX7_byteOf_67 rfl (lv_at hl 1 rfl) ?_
  refine lv_bipush (v := nI 6) hx hb dX7_byteOf_68 (by decide) ?_
  refine lv_isub hx hb dX7_byteOf_70 ?_
  refine gx_as (y := nI (i9 - 6)) (pk_sub (by omega)) ?_
  refine lv_imul hx hb dX7_byteOf_71 ?_
  refine gx_as (y := nI (2 * (i9 - 6))) (pk_mul _ _) ?_
  refine lv_istore_n (lv' := [(2, .int (nI (2 * (i9 - 6)))), (0, .ref (ad 53)), (1, .int (nI i9))]) hx hb dX7_byteOf_72 rfl hl (by decide) rfl (fun ls hl => ?_)
  refine lv_aload_n hx hb dX7_byteOf_73 rfl (lv_at hl 1 rfl) ?_
  refine lv_iload_n hx hb dX7_byteOf_74 rfl (lv_at hl 0 rfl) ?_
  refine lv_iconst (v := nI 4) hx hb dX7_byteOf_75 (by decide) ?_
  refine gc_i (gx_runV (As := [.int (nI (2 * (i9 - 6))), .int (nI 4)]) (rest := []) ⟨hx, hb, hml, hown, hts⟩ hK hN hS 53 (by omega) rfl rfl (ct_X7_bitsOf l D cA o ad ln n H.size iv (x := 2 * (i9 - 6)) (bt := 4) hn hln hRn9 (by omega) (by omega)) (cwV 2 hts gX7_byteOf_X7_bitsOf rfl rfl rfl (by decide +kernel) ⟨gle hRf rfl, gle hRl rfl⟩) rfl rfl hl.1 rfl (lv_room (Nat.le_of_ble_eq_true rfl)) dX7_byteOf_76 ⟨hRc, hRs⟩) hS hA (fun y iv1 H locs hp1 hS => ?_)
  obtain ⟨ey, ev1⟩ := hp1
  rw [ev1] at hS
  refine gx_as (y := rbit 4 (iv 60 (2 * (i9 - 6)))) ey ?_
  skip
  refine lv_iload_n hx hb dX7_byteOf_79 rfl (lv_at hl 0 rfl) ?_
  refine lv_iconst (v := nI 1) hx hb dX7_byteOf_80 (by decide) ?_
  refine lv_iadd hx hb dX7_byteOf_81 ?_
  refine gx_as (y := nI ((2 * (i9 - 6)) + 1)) (nI_add _ _) ?_
  refine lv_aload_n hx hb dX7_byteOf_82 rfl (lv_at hl 1 rfl) ?_
  refine gx_get (ci := 10) (v := .int (iv 53 14)) (C := RX7) (T := TX7) (N := 23) hx hb hts (fun _ h => inX7_byteOf_RX7 h) hown hK hS 53 (by omega) rfl rfl 14 (by decide) (hts (.fieldLink RX7 116 "CosetTablesModel" "size" "I") (by decide +kernel)) rfl dX7_byteOf_83 ?_
  refine gx_as (y := nI S8) hs ?_
  refine lv_icmp_ge (tgt := 103) hx hb dX7_byteOf_86 (by decide) (fun c_86 => ?_) (fun c_86 => ?_)
  · skip
    rw [nI_leI (by omega) (by omega)] at c_86
    refine lv_iconst (v := nI 0) hx hb dX7_byteOf_103 (by decide) ?_
    refine lv_iadd hx hb dX7_byteOf_104 ?_
    exact kret _ iv _ _ _ _ dX7_byteOf_105 (⟨by unfold rbyte; rw [if_neg e_0, if_neg e_1, if_neg e_2, if_neg e_3, if_neg e_4, if_neg e_5]; first | rw [if_pos (by omega)] | rw [if_neg (by omega)], rfl⟩) hS
  · skip
    rw [nI_leI (by omega) (by omega)] at c_86
    refine lv_bipush (v := nI 16) hx hb dX7_byteOf_89 (by decide) ?_
    refine lv_aload_n hx hb dX7_byteOf_91 rfl (lv_at hl 1 rfl) ?_
    refine lv_iload_n hx hb dX7_byteOf_92 rfl (lv_at hl 0 rfl) ?_
    refine lv_iconst (v := nI 1) hx hb dX7_byteOf_93 (by decide) ?_
    refine lv_iadd hx hb dX7_byteOf_94 ?_
    refine gx_as (y := nI ((2 * (i9 - 6)) + 1)) (nI_add _ _) ?_
    refine lv_iconst (v := nI 4) hx hb dX7_byteOf_95 (by decide) ?_
    refine gc_i (gx_runV (As := [.int (nI ((2 * (i9 - 6)) + 1)), .int (nI 4)]) (rest := [.int (nI 16), .int (rbit 4 (iv 60 (2 * (i9 - 6))))]) ⟨hx, hb, hml, hown, hts⟩ hK hN hS 53 (by omega) rfl rfl (ct_X7_bitsOf l D cA o ad ln n H.size iv (x := 2 * (i9 - 6) + 1) (bt := 4) hn hln hRn9 (by omega) (by omega)) (cwV 2 hts gX7_byteOf_X7_bitsOf rfl rfl rfl (by decide +kernel) ⟨gle hRf rfl, gle hRl rfl⟩) rfl rfl hl.1 rfl (lv_room (Nat.le_of_ble_eq_true rfl)) dX7_byteOf_96 ⟨hRc, hRs⟩) hS hA (fun z iv2 H locs hp2 hS => ?_)
    obtain ⟨ez, ev2⟩ := hp2
    rw [ev2] at hS
    refine gx_as (y := rbit 4 (iv 60 (2 * (i9 - 6) + 1))) ez ?_
    skip
    refine lv_imul hx hb dX7_byteOf_99 ?_
    refine lv_goto (tgt := 104) hx hb dX7_byteOf_100 (by decide) ?_
    refine lv_iadd hx hb dX7_byteOf_104 ?_
    exact kret _ iv _ _ _ _ dX7_byteOf_105 (⟨by unfold rbyte; rw [if_neg e_0, if_neg e_1, if_neg e_2, if_neg e_3, if_neg e_4, if_neg e_5]; first | rw [if_pos (by omega)] | rw [if_neg (by omega)], rfl⟩) hS
set_option maxRecDepth 100000 in
theorem ct_X7_byteOf (l : Launch) (D : va_G) (cA : Nat → ClassId) (o : Nat → Int64) (ad ln : Nat → Nat) (n sz : Nat) (iv : Nat → Nat → Int32) (i9 S8 : Nat) (hn : 68 ≤ n) (hln : ∀ k, ln k < 2 ^ 31) (hRn : rln ln) (hs : iv 53 14 = nI S8) (hS8 : S8 ≤ 136080) (hi9 : i9 < 6 + (S8 + 1) / 2) : gMi l yX7_byteOf wsX7_byteOf { frames := 1, cells := 0, slots := 0, locals := 23 } D cA o ad ln n sz iv [.ref (ad 53), .int (nI i9)] (fun (r : Int32) iv' => r = rbyte iv S8 i9 ∧ iv' = iv) := by
  refine Met.ofW (cc := cX7_byteOf) (maxL := 3) (ret := (some .int)) (by decide) rfl ?_
  intro p e s m args below meth c s₁ B hml hv__
  obtain ⟨rfl, hv__⟩ := hv__
  obtain ⟨hsz, hS, hK, hN, hA⟩ := gS.entry hv__
  have hl := lv_entry ([.ref (ad 53), .int (nI i9)]) (n := 3) (Nat.le_of_ble_eq_true rfl)
  rw [lg_entry_eq]
  generalize (lg_sl ([.ref (ad 53), .int (nI i9)]) ++ List.replicate (3 - (lg_sl ([.ref (ad 53), .int (nI i9)])).length) Slot.unset).toArray = ls at hl ⊢
  exact bd_X7_byteOf (i9 := i9) (S8 := S8) ⟨B.exec, B.bytes, hml, findClass_of_methodNamed B.named, atoms_spec (ws := wsX7_byteOf) B.pre, B.returns, B.notSynchronized⟩ (Nat.le_refl _) (Nat.le_refl _) (Nat.le_refl _) (Nat.le_refl _) hK hN hA hn hln hRn hs hS8 hi9 hS hl (fun r iv' H locs ls pc hd hp hS => gx_iret B.exec B.bytes B.returns B.notSynchronized hS hp hd)

theorem inX7_file_RX7 : ∀ {w : Cond}, w ∈ u_ws RX7 TX7 23 → w ∈ wsX7_file := fun {w} h => by first | exact List.mem_cons_of_mem _ (List.mem_append_right _ h) | (revert h; revert w; show ∀ w ∈ u_ws RX7 TX7 23, w ∈ wsX7_file; decide +kernel)
set_option maxHeartbeats 1000000 in
set_option maxRecDepth 100000 in
theorem bd_X7_file {p : Program} {l : Launch} {e : Env} {R : Room} {s : State} {m : MethodId} {args : Array Value} {below : List Frame} {meth : Method} {c : Code} {H : Heap} {locs : List Loc} {cells slots : Nat} {Q : State → Prop} {ls : Array Slot} {D : va_G} {A : Nat → Prop} {H0 : Heap} {cA : Nat → ClassId} {o : Nat → Int64} {ad ln : Nat → Nat} {iv : Nat → Nat → Int32} {n : Nat} {i8 : Int32} {S8 : Nat}
    (F : gF p s m meth c cX7_file 5 RX7 wsX7_file args (some .int)) (hRf : 2 ≤ R.frames) (hRl : 45 ≤ R.locals) (hRc : cells ≤ R.cells) (hRs : slots ≤ R.slots) (hK : va_K D vwCl (gT cA) s) (hN : NW s) (hA : ∀ q, H0.size ≤ q → A q) (hn : 68 ≤ n) (hln : ∀ k, ln k < 2 ^ 31) (hRn : rln ln) (hs : iv 53 14 = nI S8) (hS8 : S8 ≤ 136080)
    (hS : gS D cA A H0 o ad ln iv n H locs) (hl : lv_has ls 5 [(0, .ref (ad 53)), (1, .int i8)])
    (kret : ∀ (r : Int32) (iv' : Nat → Nat → Int32) (H : Heap) (locs : List Loc) (ls : Array Slot) (pc : Nat), decode cX7_file pc = .ok (.ireturn, 1) → (r = (if iv 53 12 = 0 ∨ i8 < 0 ∨ nI (6 + (S8 + 1) / 2) < i8 then (-1) else if tn i8 < (6 + (S8 + 1) / 2) then rbyte iv S8 (tn i8) else bsum 0 (rbyte iv S8) (6 + (S8 + 1) / 2)) ∧ iv' = up2 iv 53 0 0) → gS D cA A H0 o ad ln iv' n H locs → W p l e R s m args below meth c H locs cells slots Q (F0 m pc ls [.int r])) :
    W p l e R s m args below meth c H locs cells slots Q (F0 m 0 ls []) := by
  obtain ⟨hx, hb, hml, hown, hts, hr, hlocks⟩ := F
  have hRn9 := hRn
  refine lv_aload_n hx hb dX7_file_0 rfl (lv_at hl 0 rfl) ?_
  refine lv_iconst (v := nI 0) hx hb dX7_file_1 (by decide) ?_
  refine gx_put (ci := 10) (x := nI 0) (ty := .int) (C := RX7) (T := TX7) (N := 23) hx hb hts (fun _ h => inX7_file_RX7 h) tyX7 tyX7_ok nmX7 hown hK hS 53 (by omega) rfl rfl 0 (by decide) (hts (.fieldLink RX7 58 "CosetTablesModel" "thrown" "I") (by decide +kernel)) rfl (by decide +kernel) rfl rfl (Nat.le_of_ble_eq_true rfl) rfl dX7_file_2 (fun H locs hS => ?_)
  obtain ⟨iv1, eiv1⟩ : ∃ z, z = up2 iv 53 0 (nI 0) := ⟨_, rfl⟩
  rw [← eiv1] at hS
  refine lv_bipush (v := nI 6) hx hb dX7_file_5 (by decide) ?_
  refine lv_aload_n hx hb dX7_file_7 rfl (lv_at hl 0 rfl) ?_
  refine gx_get (ci := 10) (v := .int (iv1 53 14)) (C := RX7) (T := TX7) (N := 23) hx hb hts (fun _ h => inX7_file_RX7 h) hown hK hS 53 (by omega) rfl rfl 14 (by decide) (hts (.fieldLink RX7 116 "CosetTablesModel" "size" "I") (by decide +kernel)) rfl dX7_file_8 ?_
  refine gx_as (y := nI S8) (by rw [eiv1, up2_n (by decide)]; exact hs) ?_
  refine lv_iconst (v := nI 1) hx hb dX7_file_11 (by decide) ?_
  refine lv_iadd hx hb dX7_file_12 ?_
  refine gx_as (y := nI (S8 + 1)) (nI_add _ _) ?_
  refine lv_iconst (v := nI 2) hx hb dX7_file_13 (by decide) ?_
  refine lv_idiv hx hb dX7_file_14 (by decide) ?_
  refine gx_as (y := nI ((S8 + 1) / 2)) (pk_div (by omega) (by omega) (by omega)) ?_
  refine lv_iadd hx hb dX7_file_15 ?_
  refine gx_as (y := nI (6 + ((S8 + 1) / 2))) (nI_add _ _) ?_
  refine lv_istore_n (lv' := [(2, .int (nI (6 + ((S8 + 1) / 2)))), (0, .ref (ad 53)), (1, .int i8)]) hx hb dX7_file_16 rfl hl (by decide) rfl (fun ls hl => ?_)
  refine lv_aload_n hx hb dX7_file_17 rfl (lv_at hl 1 rfl) ?_
  refine gx_get (ci := 10) (v := .int (iv1 53 12)) (C := RX7) (T := TX7) (N := 23) hx hb hts (fun _ h => inX7_file_RX7 h) hown hK hS 53 (by omega) rfl rfl 12 (by decide) (hts (.fieldLink RX7 64 "CosetTablesModel" "isBuilt" "Z") (by decide +kernel)) rfl dX7_file_18 ?_
  refine gx_as (y := (iv 53 12)) (by rw [eiv1, up2_n (by decide)]) ?_
  refine lv_if_eq (tgt := 33) hx hb dX7_file_21 (by decide) (fun c_21 => ?_) (fun c_21 => ?_)
  · skip
    refine lv_iconst (v := (-1)) hx hb dX7_file_33 (by decide) ?_
    exact kret _ iv1 _ _ _ _ dX7_file_34 (⟨by rw [if_pos (by first | exact Or.inl c_21 | exact Or.inr (Or.inl c_25) | exact Or.inr (Or.inr ((nI_ltI (by omega) hi9).mpr (by omega))))], by rw [eiv1]; rfl⟩) hS
  · skip
    refine lv_iload_n hx hb dX7_file_24 rfl (lv_at hl 2 rfl) ?_
    refine lv_if_lt (tgt := 33) hx hb dX7_file_25 (by decide) (fun c_25 => ?_) (fun c_25 => ?_)
    · skip
      refine lv_iconst (v := (-1)) hx hb dX7_file_33 (by decide) ?_
      exact kret _ iv1 _ _ _ _ dX7_file_34 (⟨by rw [if_pos (by first | exact Or.inl c_21 | exact Or.inr (Or.inl c_25) | exact Or.inr (Or.inr ((nI_ltI (by omega) hi9).mpr (by omega))))], by rw [eiv1]; rfl⟩) hS
    · skip
      obtain ⟨i9, hi9, ei9⟩ := nI_of c_25
      subst ei9
      have htn : tn (nI i9) = i9 := nI_clamp hi9
      refine lv_iload_n hx hb dX7_file_28 rfl (lv_at hl 2 rfl) ?_
      refine lv_iload_n hx hb dX7_file_29 rfl (lv_at hl 0 rfl) ?_
      refine lv_icmp_le (tgt := 35) hx hb dX7_file_30 (by decide) (fun c_30 => ?_) (fun c_30 => ?_)
      · skip
        rw [nI_leI (by omega) (by omega)] at c_30
        refine lv_iload_n hx hb dX7_file_35 rfl (lv_at hl 2 rfl) ?_
        refine lv_iload_n hx hb dX7_file_36 rfl (lv_at hl 0 rfl) ?_
        refine lv_icmp_ge (tgt := 46) hx hb dX7_file_37 (by decide) (fun c_37 => ?_) (fun c_37 => ?_)
        · skip
          rw [nI_leI (by omega) (by omega)] at c_37
          have hne : ¬ (iv 53 12 = 0 ∨ nI i9 < 0 ∨ nI (6 + (S8 + 1) / 2) < nI i9) := fun u => u.elim c_21 (fun u => u.elim c_25 (fun u => by rw [nI_ltI (by omega) hi9] at u; omega))
          refine lv_iconst (v := nI 0) hx hb dX7_file_46 (by decide) ?_
          refine gx_as (y := (bsum 0 (rbyte iv S8) 0)) rfl ?_
          refine lv_istore_n (lv' := [(3, .int (bsum 0 (rbyte iv S8) 0)), (2, .int (nI (6 + ((S8 + 1) / 2)))), (0, .ref (ad 53)), (1, .int (nI i9))]) hx hb dX7_file_47 rfl hl (by decide) rfl (fun ls hl => ?_)
          refine lv_iconst (v := nI 0) hx hb dX7_file_48 (by decide) ?_
          refine lv_istore (lv' := [(4, .int (nI 0)), (3, .int (bsum 0 (rbyte iv S8) 0)), (2, .int (nI (6 + ((S8 + 1) / 2)))), (0, .ref (ad 53)), (1, .int (nI i9))]) hx hb dX7_file_49 hl (by decide) rfl (fun ls hl => ?_)
          have L51 : ∀ (N : Nat) (k : Nat), (6 + (S8 + 1) / 2) - k < N → (k ≤ (6 + (S8 + 1) / 2)) → ∀ (H : Heap) (locs : List Loc) (ls : Array Slot), gS D cA A H0 o ad ln iv1 n H locs → lv_has ls 5 [(0, .ref (ad 53)), (2, .int (nI (6 + (S8 + 1) / 2))), (3, .int (bsum 0 (rbyte iv S8) k)), (4, .int (nI k))] → W p l e R s m args below meth c H locs cells slots Q (F0 m 51 ls []) := by
            intro N
            induction N with
            | zero => intro k hm; exact absurd hm (Nat.not_lt_zero _)
            | succ N ih51 =>
              intro k hm hk H locs ls hS hl
              refine lv_iload hx hb dX7_file_51 (lv_at hl 3 rfl) ?_
              refine lv_iload_n hx hb dX7_file_53 rfl (lv_at hl 1 rfl) ?_
              refine lv_icmp_ge (tgt := 76) hx hb dX7_file_54 (by decide) (fun c_54 => ?_) (fun c_54 => ?_)
              · skip
                rw [nI_leI (by omega) (by omega)] at c_54
                have ek : k = (6 + (S8 + 1) / 2) := by omega
                refine lv_iload_n hx hb dX7_file_76 rfl (lv_at hl 2 rfl) ?_
                exact kret _ iv1 _ _ _ _ dX7_file_77 (⟨by rw [if_neg hne, htn, if_neg (by omega), ek], by rw [eiv1]; rfl⟩) hS
              · skip
                rw [nI_leI (by omega) (by omega)] at c_54
                refine lv_iload_n hx hb dX7_file_57 rfl (lv_at hl 2 rfl) ?_
                refine lv_aload_n hx hb dX7_file_58 rfl (lv_at hl 0 rfl) ?_
                refine lv_iload hx hb dX7_file_59 (lv_at hl 3 rfl) ?_
                refine gc_i (gx_runV (As := [.int (nI k)]) (rest := [.int (bsum 0 (rbyte iv S8) k)]) ⟨hx, hb, hml, hown, hts⟩ hK hN hS 53 (by omega) rfl rfl (ct_X7_byteOf l D cA o ad ln n H.size iv1 (i9 := k) (S8 := S8) hn hln hRn9 (by rw [eiv1, up2_n (by decide)]; exact hs) hS8 (by omega)) (cwV 1 hts gX7_file_X7_byteOf rfl rfl rfl (by decide +kernel) ⟨gle hRf rfl, gle hRl rfl⟩) rfl rfl hl.1 rfl (lv_room (Nat.le_of_ble_eq_true rfl)) dX7_file_61 ⟨hRc, hRs⟩) hS hA (fun y iv3 H locs hp3 hS => ?_)
                obtain ⟨ey, ev3⟩ := hp3
                rw [ev3] at hS
                have ey : y = rbyte iv S8 k := by rw [ey, eiv1]; exact rbyte_up
                refine gx_as (y := (rbyte iv S8 k)) ey ?_
                skip
                refine lv_iadd hx hb dX7_file_64 ?_
                refine lv_sipush (v := nI 251) hx hb dX7_file_65 (by decide) ?_
                refine lv_irem hx hb dX7_file_68 (by decide) ?_
                refine gx_as (y := (bsum 0 (rbyte iv S8) (k + 1))) rfl ?_
                refine gx_as (y := (bsum 0 (rbyte iv S8) (k + 1))) rfl ?_
                refine lv_istore_n (lv' := [(3, .int (bsum 0 (rbyte iv S8) (k + 1))), (0, .ref (ad 53)), (2, .int (nI (6 + (S8 + 1) / 2))), (4, .int (nI k))]) hx hb dX7_file_69 rfl hl (by decide) rfl (fun ls hl => ?_)
                refine lv_iinc (v := nI (k + 1)) (lv' := [(4, .int (nI (k + 1))), (3, .int (bsum 0 (rbyte iv S8) (k + 1))), (0, .ref (ad 53)), (2, .int (nI (6 + (S8 + 1) / 2)))]) hx hb dX7_file_70 hl (k := 3) rfl (nI_1 k) (by decide) rfl (fun ls hl => ?_)
                refine lv_goto (tgt := 51) hx hb dX7_file_73 (by decide) ?_
                exact ih51 (k + 1) (by omega) (by omega) _ _ _ hS (lv_sub hl [2, 3, 1, 0] rfl)
          exact L51 _ 0 (Nat.lt_succ_self _) (Nat.zero_le _) _ _ _ hS (lv_sub hl [3, 2, 1, 0] rfl)
        · skip
          rw [nI_leI (by omega) (by omega)] at c_37
          have hne : ¬ (iv 53 12 = 0 ∨ nI i9 < 0 ∨ nI (6 + (S8 + 1) / 2) < nI i9) := fun u => u.elim c_21 (fun u => u.elim c_25 (fun u => by rw [nI_ltI (by omega) hi9] at u; omega))
          refine lv_aload_n hx hb dX7_file_40 rfl (lv_at hl 1 rfl) ?_
          refine lv_iload_n hx hb dX7_file_41 rfl (lv_at hl 2 rfl) ?_
          refine gc_i (gx_runV (As := [.int (nI i9)]) (rest := []) ⟨hx, hb, hml, hown, hts⟩ hK hN hS 53 (by omega) rfl rfl (ct_X7_byteOf l D cA o ad ln n H.size iv1 (i9 := i9) (S8 := S8) hn hln hRn9 (by rw [eiv1, up2_n (by decide)]; exact hs) hS8 (by omega)) (cwV 1 hts gX7_file_X7_byteOf rfl rfl rfl (by decide +kernel) ⟨gle hRf rfl, gle hRl rfl⟩) rfl rfl hl.1 rfl (lv_room (Nat.le_of_ble_eq_true rfl)) dX7_file_42 ⟨hRc, hRs⟩) hS hA (fun y iv2 H locs hp2 hS => ?_)
          obtain ⟨ey, ev2⟩ := hp2
          rw [ev2] at hS
          skip
          exact kret _ iv1 _ _ _ _ dX7_file_45 (⟨by rw [if_neg hne, htn, if_pos (by omega), ey, eiv1]; exact rbyte_up, by rw [eiv1]; rfl⟩) hS
      · skip
        rw [nI_leI (by omega) (by omega)] at c_30
        refine lv_iconst (v := (-1)) hx hb dX7_file_33 (by decide) ?_
        exact kret _ iv1 _ _ _ _ dX7_file_34 (⟨by rw [if_pos (by first | exact Or.inl c_21 | exact Or.inr (Or.inl c_25) | exact Or.inr (Or.inr ((nI_ltI (by omega) hi9).mpr (by omega))))], by rw [eiv1]; rfl⟩) hS
set_option maxRecDepth 100000 in
theorem ct_X7_file (l : Launch) (D : va_G) (cA : Nat → ClassId) (o : Nat → Int64) (ad ln : Nat → Nat) (n sz : Nat) (iv : Nat → Nat → Int32) (i8 : Int32) (S8 : Nat) (hn : 68 ≤ n) (hln : ∀ k, ln k < 2 ^ 31) (hRn : rln ln) (hs : iv 53 14 = nI S8) (hS8 : S8 ≤ 136080) : gMi l yX7_file wsX7_file { frames := 2, cells := 0, slots := 0, locals := 45 } D cA o ad ln n sz iv [.ref (ad 53), .int i8] (fun (r : Int32) iv' => r = (if iv 53 12 = 0 ∨ i8 < 0 ∨ nI (6 + (S8 + 1) / 2) < i8 then (-1) else if tn i8 < (6 + (S8 + 1) / 2) then rbyte iv S8 (tn i8) else bsum 0 (rbyte iv S8) (6 + (S8 + 1) / 2)) ∧ iv' = up2 iv 53 0 0) := by
  refine Met.ofW (cc := cX7_file) (maxL := 5) (ret := (some .int)) (by decide) rfl ?_
  intro p e s m args below meth c s₁ B hml hv__
  obtain ⟨rfl, hv__⟩ := hv__
  obtain ⟨hsz, hS, hK, hN, hA⟩ := gS.entry hv__
  have hl := lv_entry ([.ref (ad 53), .int i8]) (n := 5) (Nat.le_of_ble_eq_true rfl)
  rw [lg_entry_eq]
  generalize (lg_sl ([.ref (ad 53), .int i8]) ++ List.replicate (5 - (lg_sl ([.ref (ad 53), .int i8])).length) Slot.unset).toArray = ls at hl ⊢
  exact bd_X7_file (i8 := i8) (S8 := S8) ⟨B.exec, B.bytes, hml, findClass_of_methodNamed B.named, atoms_spec (ws := wsX7_file) B.pre, B.returns, B.notSynchronized⟩ (Nat.le_refl _) (Nat.le_refl _) (Nat.le_refl _) (Nat.le_refl _) hK hN hA hn hln hRn hs hS8 hS hl (fun r iv' H locs ls pc hd hp hS => gx_iret B.exec B.bytes B.returns B.notSynchronized hS hp hd)
