/-- a row of marks with one more -/
def bup (f : Nat → Bool) (y x : Nat) : Bool := f x || (x == y)
theorem bup_iff {f : Nat → Bool} {y x : Nat} : bup f y x = true ↔ f x = true ∨ x = y := by simp [bup]
/-- a class in the making: the marks, the row, how many -/
def mkI (S : Nat) (img : Nat → Nat → Nat) (gd : Nat → Prop) (sc x0 : Nat) (M mk : Nat → Bool) (q : Nat → Nat) (C : Nat) : Prop :=
  inj q S C ∧ 0 < C ∧ q 0 = x0 ∧ (∀ j, j < C → eqg (relS S img gd sc) x0 (q j) ∧ M (q j) = false) ∧ ∀ x, x < S → (mk x = true ↔ M x = true ∨ ∃ j, j < C ∧ q j = x)
theorem mkI_0 {S : Nat} {img : Nat → Nat → Nat} {gd : Nat → Prop} {sc x0 : Nat} {M : Nat → Bool} (hx : x0 < S) (hM : M x0 = false) : mkI S img gd sc x0 M (bup M x0) (fun _ => x0) 1 := by
  refine ⟨⟨fun _ _ => hx, fun j k hj hk _ => by omega⟩, by omega, rfl, fun j _ => ⟨(eqg_eqv _).refl x0, hM⟩, fun x _ => ?_⟩
  rw [bup_iff]
  exact ⟨fun h => h.elim Or.inl (fun e => Or.inr ⟨0, by omega, e.symm⟩), fun h => h.elim Or.inl (fun ⟨_, _, e⟩ => Or.inr e.symm)⟩
theorem mkI_add {S : Nat} {img : Nat → Nat → Nat} {gd : Nat → Prop} {sc x0 : Nat} {M mk : Nat → Bool} {q : Nat → Nat} {C s i y : Nat} (h : mkI S img gd sc x0 M mk q C) (hs : s < sc) (hg : gd s) (hi : i < C) (hy : y = img s (q i)) (hyS : y < S) (h0 : mk y = false) : C + 1 ≤ S ∧ mkI S img gd sc x0 M (bup mk y) (va_up q C y) (C + 1) := by
  obtain ⟨a1, a2, a3, a4, a5⟩ := h
  have hn : ¬ (M y = true ∨ ∃ j, j < C ∧ q j = y) := fun u => by rw [(a5 y hyS).mpr u] at h0; exact absurd h0 (by decide)
  have hq : ∀ j, j < C → va_up q C y j = q j := fun j hj => va_up_ne _ _ (by omega)
  have hC : va_up q C y C = y := va_up_self _ _ _
  have hI : inj (va_up q C y) S (C + 1) := by
    refine ⟨fun j hj => ?_, fun j k hj hk e => ?_⟩
    · rcases Nat.lt_or_ge j C with u | u
      · rw [hq j u]; exact a1.1 j u
      · rw [show j = C by omega, hC]; exact hyS
    · rcases Nat.lt_or_ge j C with u | u <;> rcases Nat.lt_or_ge k C with v | v
      · rw [hq j u, hq k v] at e; exact a1.2 j k u v e
      · rw [hq j u, show k = C by omega, hC] at e; exact absurd (Or.inr ⟨j, u, e⟩) hn
      · rw [hq k v, show j = C by omega, hC] at e; exact absurd (Or.inr ⟨k, v, e.symm⟩) hn
      · omega
  refine ⟨inj_le_P hI, hI, by omega, by rw [hq 0 a2]; exact a3, fun j hj => ?_, fun x hx => ?_⟩
  · rcases Nat.lt_or_ge j C with u | u
    · rw [hq j u]; exact a4 j u
    · rw [show j = C by omega, hC]
      refine ⟨(eqg_eqv _).trans (a4 i hi).1 (eqg_in ⟨s, hs, hg, a1.1 i hi, hy⟩), ?_⟩
      cases e : M y with
      | false => rfl
      | true => exact absurd (Or.inl e) hn
  · rw [bup_iff, a5 x hx]
    refine ⟨fun u => ?_, fun u => ?_⟩
    · rcases u with (u | ⟨j, j1, j2⟩) | u
      · exact Or.inl u
      · exact Or.inr ⟨j, by omega, by rw [hq j j1]; exact j2⟩
      · exact Or.inr ⟨C, by omega, by rw [hC]; exact u.symm⟩
    · rcases u with u | ⟨j, j1, j2⟩
      · exact Or.inl (Or.inl u)
      · rcases Nat.lt_or_ge j C with v | v
        · rw [hq j v] at j2; exact Or.inl (Or.inr ⟨j, v, j2⟩)
        · rw [show j = C by omega, hC] at j2; exact Or.inr j2.symm
theorem mkI_end {S : Nat} {img : Nat → Nat → Nat} {gd : Nat → Prop} {sc x0 : Nat} {M mk : Nat → Bool} {q : Nat → Nat} {C : Nat} (hi : ∀ s, s < sc → gd s → inj (img s) S S) (h : mkI S img gd sc x0 M mk q C) (hM : ∀ s x, s < sc → gd s → x < S → M (img s x) = M x) (hd : ∀ j, j < C → ∀ s, s < sc → gd s → mk (img s (q j)) = true) : (∀ x, eqg (relS S img gd sc) x0 x → ∃ j, j < C ∧ q j = x) ∧ ∀ x, x < S → (mk x = true ↔ M x = true ∨ eqg (relS S img gd sc) x0 x) := by
  obtain ⟨a1, a2, a3, a4, a5⟩ := h
  have key : ∀ x, eqg (relS S img gd sc) x0 x → ∃ j, j < C ∧ q j = x := fun x hx => by
    refine eqg_closed (Q := fun x => ∃ j, j < C ∧ q j = x) hi ⟨0, a2, a3⟩ (fun s y h1 h2 h3 h4 => ?_) hx
    obtain ⟨j, j1, j2⟩ := h4
    have h5 := hd j j1 s h1 h2
    rw [j2] at h5
    rcases (a5 _ ((hi s h1 h2).1 y h3)).mp h5 with u | u
    · rw [hM s y h1 h2 h3, ← j2, (a4 j j1).2] at u
      exact absurd u (by decide)
    · exact u
  refine ⟨key, fun x hx => (a5 x hx).trans ⟨fun u => u.elim Or.inl (fun ⟨j, j1, j2⟩ => Or.inr (by rw [← j2]; exact (a4 j j1).1)), fun u => u.elim Or.inl (fun e => Or.inr (key x e))⟩⟩
def bz (b : Bool) : Int32 := if b then 1 else 0
theorem bz_s {f : Nat → Bool} {y : Nat} : nI 1 = bz (bup f y y) := by
  unfold bup bz
  simp
  rfl
theorem bz_n {f : Nat → Bool} {x y : Nat} (h : ¬ x = y) : bz (f x) = bz (bup f y x) := by
  unfold bup
  rw [show (x == y) = false from beq_false_of_ne h, Bool.or_false]
theorem inX7_imageOf_RX7 : ∀ {w : Cond}, w ∈ u_ws RX7 TX7 23 → w ∈ wsX7_imageOf := fun {w} h => by first | exact List.mem_cons_of_mem _ (List.mem_append_right _ h) | (revert h; revert w; show ∀ w ∈ u_ws RX7 TX7 23, w ∈ wsX7_imageOf; decide +kernel)
set_option maxHeartbeats 1000000 in
set_option maxRecDepth 100000 in
theorem bd_X7_imageOf {p : Program} {l : Launch} {e : Env} {R : Room} {s : State} {m : MethodId} {args : Array Value} {below : List Frame} {meth : Method} {c : Code} {H : Heap} {locs : List Loc} {cells slots : Nat} {Q : State → Prop} {ls : Array Slot} {D : va_G} {A : Nat → Prop} {H0 : Heap} {cA : Nat → ClassId} {o : Nat → Int64} {ad ln : Nat → Nat} {iv : Nat → Nat → Int32} {n : Nat} {x s8 P c9 T : Nat} {Sg si pc9 : Nat → Nat}
    (F : gF p s m meth c cX7_imageOf 5 RX7 wsX7_imageOf args (some .int)) (hRf : 2 ≤ R.frames) (hRl : 48 ≤ R.locals) (hRc : cells ≤ R.cells) (hRs : slots ≤ R.slots) (hK : va_K D vwCl (gT cA) s) (hN : NW s) (hA : ∀ q, H0.size ≤ q → A q) (hn : 68 ≤ n) (hln : ∀ k, ln k < 2 ^ 31) (hRn : rln ln) (hc9 : iv 53 7 = nI c9) (hc4 : c9 ≤ 4) (hT0 : iv 53 2 = nI T) (hT1 : 0 < T) (hT3 : T ≤ 3) (hP0 : iv 53 1 = nI P) (hP : P ≤ 8) (hpc : ∀ i, i < c9 → iv 57 i = nI (pc9 i)) (hpi : inj pc9 P c9) (hs8 : s8 < 4) (hsy : rsym iv s8 P Sg) (hSi : inj Sg P P) (hsi : symIx Sg pc9 si c9) (hx9 : x < 2 ^ 20)
    (hS : gS D cA A H0 o ad ln iv n H locs) (hl : lv_has ls 5 [(0, .ref (ad 53)), (1, .int (nI x)), (2, .int (nI s8))])
    (kret : ∀ (r : Int32) (iv' : Nat → Nat → Int32) (H : Heap) (locs : List Loc) (ls : Array Slot) (pc : Nat), decode cX7_imageOf pc = .ok (.ireturn, 1) → (r = nI (imN P T c9 Sg si x) ∧ ∀ q, q ≠ 58 → q ≠ 59 → q ≠ 64 → q ≠ 65 → iv' q = iv q) → gS D cA A H0 o ad ln iv' n H locs → W p l e R s m args below meth c H locs cells slots Q (F0 m pc ls [.int r])) :
    W p l e R s m args below meth c H locs cells slots Q (F0 m 0 ls []) := by
  obtain ⟨hx, hb, hml, hown, hts, hr, hlocks⟩ := F
  have hRn9 := hRn
  obtain ⟨r54, r55, r56, r57, r58, r59, r60, r61, r62, r63, r64, r65, r66⟩ := hRn
  have hcP := inj_le_P hpi
  obtain ⟨hd1, hd2⟩ := dw_ok (y := x / T ^ c9) hcP
  have hsj := si_inj hSi hpi hsi
  obtain ⟨w, hw9⟩ : ∃ w, w = dw P c9 (x / T ^ c9) := ⟨_, rfl⟩
  obtain ⟨t, ht9⟩ : ∃ t, t = dt T c9 x := ⟨_, rfl⟩
  rw [← hw9] at hd1
  have htT : ∀ i, i < c9 → t i < T := fun i _ => by rw [ht9]; exact dt_lt hT1
  refine lv_aload_n hx hb dX7_imageOf_0 rfl (lv_at hl 0 rfl) ?_
  refine lv_iload_n hx hb dX7_imageOf_1 rfl (lv_at hl 1 rfl) ?_
  refine gc_v (gx_runV (As := [.int (nI x)]) (rest := []) ⟨hx, hb, hml, hown, hts⟩ hK hN hS 53 (by omega) rfl rfl (ct_X7_take l D cA o ad ln n H.size iv (x := x) (P := P) (c9 := c9) (T := T) hn hln hRn9 hc9 hc4 hT0 hT1 hT3 hP0 hP hcP hx9) (cwV 1 hts gX7_imageOf_X7_take rfl rfl rfl (by decide +kernel) ⟨gle hRf rfl, gle hRl rfl⟩) rfl rfl hl.1 rfl (lv_room (Nat.le_of_ble_eq_true rfl)) dX7_imageOf_2 ⟨hRc, hRs⟩) hS hA (fun iv1 H locs hp1 hS => ?_)
  obtain ⟨⟨a1, a2⟩, a3⟩ := hp1
  rw [← hw9] at a1
  rw [← ht9] at a2
  have o53 : iv1 53 = iv 53 := a3 53 (by decide) (by decide)
  refine lv_iconst (v := nI 0) hx hb dX7_imageOf_5 (by decide) ?_
  refine lv_istore_n (lv' := [(3, .int (nI 0)), (0, .ref (ad 53)), (1, .int (nI x)), (2, .int (nI s8))]) hx hb dX7_imageOf_6 rfl hl (by decide) rfl (fun ls hl => ?_)
  have L7 : ∀ (N : Nat) (k : Nat) (iv2 : Nat → Nat → Int32), c9 - k < N → (k ≤ c9) → (∀ i, i < k → iv2 64 i = nI (w i) ∧ iv2 65 i = nI (t i)) → (∀ q, q ≠ 64 → q ≠ 65 → iv2 q = iv1 q) → ∀ (H : Heap) (locs : List Loc) (ls : Array Slot), gS D cA A H0 o ad ln iv2 n H locs → lv_has ls 5 [(0, .ref (ad 53)), (2, .int (nI s8)), (3, .int (nI k))] → W p l e R s m args below meth c H locs cells slots Q (F0 m 7 ls []) := by
    intro N
    induction N with
    | zero => intro k iv2 hm; exact absurd hm (Nat.not_lt_zero _)
    | succ N ih7 =>
      intro k iv2 hm hk h1 h3 H locs ls hS hl
      refine lv_iload_n hx hb dX7_imageOf_7 rfl (lv_at hl 2 rfl) ?_
      refine lv_aload_n hx hb dX7_imageOf_8 rfl (lv_at hl 0 rfl) ?_
      refine gx_get (ci := 10) (v := .int (iv2 53 7)) (C := RX7) (T := TX7) (N := 23) hx hb hts (fun _ h => inX7_imageOf_RX7 h) hown hK hS 53 (by omega) rfl rfl 7 (by decide) (hts (.fieldLink RX7 83 "CosetTablesModel" "chosen" "I") (by decide +kernel)) rfl dX7_imageOf_9 ?_
      refine gx_as (y := nI c9) (by rw [h3 53 (by decide) (by decide), o53]; exact hc9) ?_
      refine lv_icmp_ge (tgt := 45) hx hb dX7_imageOf_12 (by decide) (fun c_12 => ?_) (fun c_12 => ?_)
      · skip
        rw [nI_leI (by omega) (by omega)] at c_12
        have ek : k = c9 := by omega
        rw [ek] at h1
        refine lv_iconst (v := nI 0) hx hb dX7_imageOf_45 (by decide) ?_
        refine lv_istore_n (lv' := [(3, .int (nI 0)), (0, .ref (ad 53)), (2, .int (nI s8))]) hx hb dX7_imageOf_46 rfl hl (by decide) rfl (fun ls hl => ?_)
        have L47 : ∀ (N : Nat) (i : Nat) (iv5 : Nat → Nat → Int32), c9 - i < N → (i ≤ c9) → (∀ j, j < c9 → si j < i → iv5 58 j = nI (Sg (w (si j))) ∧ iv5 59 j = nI (t (si j))) → (∀ q, q ≠ 58 → q ≠ 59 → iv5 q = iv2 q) → ∀ (H : Heap) (locs : List Loc) (ls : Array Slot), gS D cA A H0 o ad ln iv5 n H locs → lv_has ls 5 [(0, .ref (ad 53)), (2, .int (nI s8)), (3, .int (nI i))] → W p l e R s m args below meth c H locs cells slots Q (F0 m 47 ls []) := by
          intro N
          induction N with
          | zero => intro i iv5 hm; exact absurd hm (Nat.not_lt_zero _)
          | succ N ih47 =>
            intro i iv5 hm hi g1 g3 H locs ls hS hl
            have p53 : iv5 53 = iv 53 := by rw [g3 53 (by decide) (by decide), h3 53 (by decide) (by decide), o53]
            have q57 : iv5 57 = iv 57 := by rw [g3 57 (by decide) (by decide), h3 57 (by decide) (by decide), a3 57 (by decide) (by decide)]
            have q63 : iv5 63 = iv 63 := by rw [g3 63 (by decide) (by decide), h3 63 (by decide) (by decide), a3 63 (by decide) (by decide)]
            refine lv_iload_n hx hb dX7_imageOf_47 rfl (lv_at hl 2 rfl) ?_
            refine lv_aload_n hx hb dX7_imageOf_48 rfl (lv_at hl 0 rfl) ?_
            refine gx_get (ci := 10) (v := .int (iv5 53 7)) (C := RX7) (T := TX7) (N := 23) hx hb hts (fun _ h => inX7_imageOf_RX7 h) hown hK hS 53 (by omega) rfl rfl 7 (by decide) (hts (.fieldLink RX7 83 "CosetTablesModel" "chosen" "I") (by decide +kernel)) rfl dX7_imageOf_49 ?_
            refine gx_as (y := nI c9) (by rw [p53]; exact hc9) ?_
            refine lv_icmp_ge (tgt := 119) hx hb dX7_imageOf_52 (by decide) (fun c_52 => ?_) (fun c_52 => ?_)
            · skip
              rw [nI_leI (by omega) (by omega)] at c_52
              have ei : i = c9 := by omega
              rw [ei] at g1
              refine lv_aload_n hx hb dX7_imageOf_119 rfl (lv_at hl 0 rfl) ?_
              refine gc_i (gx_runV (As := []) (rest := []) ⟨hx, hb, hml, hown, hts⟩ hK hN hS 53 (by omega) rfl rfl (ct_X7_numberOf l D cA o ad ln n H.size iv5 (P := P) (c9 := c9) (T := T) (w := fun j => Sg (w (si j))) (t := fun j => t (si j)) hn hln hRn9 (by rw [p53]; exact hc9) hc4 (by rw [p53]; exact hT0) hT1 hT3 (by rw [p53]; exact hP0) hP (fun j hj => (g1 j hj (hsi j hj).1).1) (fun j hj => (g1 j hj (hsi j hj).1).2) (inj_image hSi hpi hd1 hsi) (fun j hj => htT _ (hsi j hj).1)) (cwV 0 hts gX7_imageOf_X7_numberOf rfl rfl rfl (by decide +kernel) ⟨gle hRf rfl, gle hRl rfl⟩) rfl rfl hl.1 rfl (lv_room (Nat.le_of_ble_eq_true rfl)) dX7_imageOf_120 ⟨hRc, hRs⟩) hS hA (fun y9 iv9 H locs hp9 hS => ?_)
              obtain ⟨ey9, ev9⟩ := hp9
              rw [ev9] at hS
              skip
              exact kret _ iv5 _ _ _ _ dX7_imageOf_123 (⟨by rw [ey9, hw9, ht9]; rfl, fun q x1 x2 x3 x4 => by rw [g3 q x1 x2, h3 q x3 x4, a3 q x1 x2]⟩) hS
            · skip
              rw [nI_leI (by omega) (by omega)] at c_52
              obtain ⟨j9, j91, j92⟩ := inj_surj hsj (show i < c9 by omega)
              have hpk := hpi.1 i (by omega)
              obtain ⟨s1, s2⟩ := hsy (pc9 i) hpk
              have hwk := hd1.1 i (by omega)
              obtain ⟨u1, u2⟩ := hsy (w i) hwk
              have hsp : Sg (pc9 i) = pc9 j9 := by rw [← j92]; exact (hsi j9 j91).2
              refine lv_aload_n hx hb dX7_imageOf_55 rfl (lv_at hl 0 rfl) ?_
              refine lv_aload_n hx hb dX7_imageOf_56 rfl (lv_at hl 0 rfl) ?_
              refine gx_get (ci := 10) (v := .ref (ad 63)) (C := RX7) (T := TX7) (N := 23) hx hb hts (fun _ h => inX7_imageOf_RX7 h) hown hK hS 53 (by omega) rfl rfl 19 (by decide) (hts (.fieldLink RX7 39 "CosetTablesModel" "goes" "[I") (by decide +kernel)) rfl dX7_imageOf_57 ?_
              refine lv_bipush (v := nI 8) hx hb dX7_imageOf_60 (by decide) ?_
              refine lv_iload_n hx hb dX7_imageOf_62 rfl (lv_at hl 1 rfl) ?_
              refine lv_imul hx hb dX7_imageOf_63 ?_
              refine gx_as (y := nI (8 * s8)) (pk_mul _ _) ?_
              refine lv_aload_n hx hb dX7_imageOf_64 rfl (lv_at hl 0 rfl) ?_
              refine gx_get (ci := 10) (v := .ref (ad 57)) (C := RX7) (T := TX7) (N := 23) hx hb hts (fun _ h => inX7_imageOf_RX7 h) hown hK hS 53 (by omega) rfl rfl 8 (by decide) (hts (.fieldLink RX7 20 "CosetTablesModel" "pieces" "[I") (by decide +kernel)) rfl dX7_imageOf_65 ?_
              refine lv_iload_n hx hb dX7_imageOf_68 rfl (lv_at hl 2 rfl) ?_
              refine gx_ialdn hx hb hK hS 57 (by omega) (by decide) i (by omega) (hln _) dX7_imageOf_69 ?_
              refine gx_as (y := nI (pc9 i)) (by rw [q57]; exact hpc i (by omega)) ?_
              refine lv_iadd hx hb dX7_imageOf_70 ?_
              refine gx_as (y := nI ((8 * s8) + (pc9 i))) (nI_add _ _) ?_
              refine gx_ialdn hx hb hK hS 63 (by omega) (by decide) ((8 * s8) + (pc9 i)) (by omega) (hln _) dX7_imageOf_71 ?_
              refine gx_as (y := nI (Sg (pc9 i))) (by rw [q63]; exact s1) ?_
              refine gc_i (gx_runV (As := [.int (nI (Sg (pc9 i)))]) (rest := []) ⟨hx, hb, hml, hown, hts⟩ hK hN hS 53 (by omega) rfl rfl (ct_X7_rankOf l D cA o ad ln n H.size iv5 (p9 := Sg (pc9 i)) (P := P) (c9 := c9) (pc9 := pc9) hn hln hRn9 (by rw [p53]; exact hc9) hc4 hP (by rw [q57]; exact hpc) hpi (by omega)) (cwV 1 hts gX7_imageOf_X7_rankOf rfl rfl rfl (by decide +kernel) ⟨gle hRf rfl, gle hRl rfl⟩) rfl rfl hl.1 rfl (lv_room (Nat.le_of_ble_eq_true rfl)) dX7_imageOf_72 ⟨hRc, hRs⟩) hS hA (fun y iv6 H locs hp6 hS => ?_)
              obtain ⟨hr6, ev6⟩ := hp6
              rw [ev6] at hS
              have ey : y = nI j9 := by
                rcases hr6 with ⟨j, q1, q2, q3⟩ | ⟨q, _⟩
                · rw [q3, hpi.2 j j9 q1 j91 (q2.trans hsp)]
                · exact absurd hsp.symm (q j9 j91)
              refine gx_as (y := nI j9) ey ?_
              skip
              refine lv_istore (lv' := [(4, .int (nI j9)), (0, .ref (ad 53)), (2, .int (nI s8)), (3, .int (nI i))]) hx hb dX7_imageOf_75 hl (by decide) rfl (fun ls hl => ?_)
              refine lv_aload_n hx hb dX7_imageOf_77 rfl (lv_at hl 1 rfl) ?_
              refine gx_get (ci := 10) (v := .ref (ad 58)) (C := RX7) (T := TX7) (N := 23) hx hb hts (fun _ h => inX7_imageOf_RX7 h) hown hK hS 53 (by omega) rfl rfl 9 (by decide) (hts (.fieldLink RX7 23 "CosetTablesModel" "where" "[I") (by decide +kernel)) rfl dX7_imageOf_78 ?_
              refine lv_iload hx hb dX7_imageOf_81 (lv_at hl 0 rfl) ?_
              refine lv_aload_n hx hb dX7_imageOf_83 rfl (lv_at hl 1 rfl) ?_
              refine gx_get (ci := 10) (v := .ref (ad 63)) (C := RX7) (T := TX7) (N := 23) hx hb hts (fun _ h => inX7_imageOf_RX7 h) hown hK hS 53 (by omega) rfl rfl 19 (by decide) (hts (.fieldLink RX7 39 "CosetTablesModel" "goes" "[I") (by decide +kernel)) rfl dX7_imageOf_84 ?_
              refine lv_bipush (v := nI 8) hx hb dX7_imageOf_87 (by decide) ?_
              refine lv_iload_n hx hb dX7_imageOf_89 rfl (lv_at hl 2 rfl) ?_
              refine lv_imul hx hb dX7_imageOf_90 ?_
              refine gx_as (y := nI (8 * s8)) (pk_mul _ _) ?_
              refine lv_aload_n hx hb dX7_imageOf_91 rfl (lv_at hl 1 rfl) ?_
              refine gx_get (ci := 10) (v := .ref (ad 64)) (C := RX7) (T := TX7) (N := 23) hx hb hts (fun _ h => inX7_imageOf_RX7 h) hown hK hS 53 (by omega) rfl rfl 20 (by decide) (hts (.fieldLink RX7 42 "CosetTablesModel" "keptWhere" "[I") (by decide +kernel)) rfl dX7_imageOf_92 ?_
              refine lv_iload_n hx hb dX7_imageOf_95 rfl (lv_at hl 3 rfl) ?_
              refine gx_ialdn hx hb hK hS 64 (by omega) (by decide) i (by omega) (hln _) dX7_imageOf_96 ?_
              refine gx_as (y := nI (w i)) (by rw [g3 64 (by decide) (by decide)]; exact (h1 i (by omega)).1) ?_
              refine lv_iadd hx hb dX7_imageOf_97 ?_
              refine gx_as (y := nI ((8 * s8) + (w i))) (nI_add _ _) ?_
              refine gx_ialdn hx hb hK hS 63 (by omega) (by decide) ((8 * s8) + (w i)) (by omega) (hln _) dX7_imageOf_98 ?_
              refine gx_as (y := nI (Sg (w i))) (by rw [q63]; exact u1) ?_
              refine gx_iastn hx hb hK hS 58 (by omega) (by decide) j9 (by omega) (hln _) dX7_imageOf_99 (fun H locs hS => ?_)
              obtain ⟨iv7, eiv7⟩ : ∃ z, z = up2 iv5 58 j9 (nI (Sg (w i))) := ⟨_, rfl⟩
              rw [← eiv7] at hS
              refine lv_aload_n hx hb dX7_imageOf_100 rfl (lv_at hl 1 rfl) ?_
              refine gx_get (ci := 10) (v := .ref (ad 59)) (C := RX7) (T := TX7) (N := 23) hx hb hts (fun _ h => inX7_imageOf_RX7 h) hown hK hS 53 (by omega) rfl rfl 10 (by decide) (hts (.fieldLink RX7 26 "CosetTablesModel" "twist" "[I") (by decide +kernel)) rfl dX7_imageOf_101 ?_
              refine lv_iload hx hb dX7_imageOf_104 (lv_at hl 0 rfl) ?_
              refine lv_aload_n hx hb dX7_imageOf_106 rfl (lv_at hl 1 rfl) ?_
              refine gx_get (ci := 10) (v := .ref (ad 65)) (C := RX7) (T := TX7) (N := 23) hx hb hts (fun _ h => inX7_imageOf_RX7 h) hown hK hS 53 (by omega) rfl rfl 21 (by decide) (hts (.fieldLink RX7 45 "CosetTablesModel" "keptTwist" "[I") (by decide +kernel)) rfl dX7_imageOf_107 ?_
              refine lv_iload_n hx hb dX7_imageOf_110 rfl (lv_at hl 3 rfl) ?_
              refine gx_ialdn hx hb hK hS 65 (by omega) (by decide) i (by omega) (hln _) dX7_imageOf_111 ?_
              refine gx_as (y := nI (t i)) (by rw [eiv7, up2_row (by decide), g3 65 (by decide) (by decide)]; exact (h1 i (by omega)).2) ?_
              refine gx_iastn hx hb hK hS 59 (by omega) (by decide) j9 (by omega) (hln _) dX7_imageOf_112 (fun H locs hS => ?_)
              obtain ⟨iv8, eiv8⟩ : ∃ z, z = up2 iv7 59 j9 (nI (t i)) := ⟨_, rfl⟩
              rw [← eiv8] at hS
              have hb8 : ∀ j, j < c9 → si j < i + 1 → iv8 58 j = nI (Sg (w (si j))) ∧ iv8 59 j = nI (t (si j)) := fun j hj hlt => by
                by_cases e9 : j = j9
                · rw [e9, j92]
                  exact ⟨by rw [eiv8, up2_row (by decide), eiv7, up2_s], by rw [eiv8, up2_s]⟩
                · have e8 : si j ≠ i := fun q => e9 (hsj.2 j j9 hj j91 (q.trans j92.symm))
                  exact ⟨by rw [eiv8, up2_row (by decide), eiv7, up2_n (fun q => e9 q.2)]; exact (g1 j hj (by omega)).1, by rw [eiv8, up2_n (fun q => e9 q.2), eiv7, up2_row (by decide)]; exact (g1 j hj (by omega)).2⟩
              refine lv_iinc (v := nI (i + 1)) (lv' := [(3, .int (nI (i + 1))), (4, .int (nI j9)), (0, .ref (ad 53)), (2, .int (nI s8))]) hx hb dX7_imageOf_113 hl (k := 3) rfl (nI_1 i) (by decide) rfl (fun ls hl => ?_)
              refine lv_goto (tgt := 47) hx hb dX7_imageOf_116 (by decide) ?_
              exact ih47 (i + 1) iv8 (by omega) (by omega) hb8 (fun q x1 x2 => by rw [eiv8, up2_row x2, eiv7, up2_row x1, g3 q x1 x2]) _ _ _ hS (lv_sub hl [2, 3, 0] rfl)
        exact L47 _ 0 iv2 (Nat.lt_succ_self _) (Nat.zero_le _) (fun j _ h => absurd h (Nat.not_lt_zero _)) (fun _ _ _ => rfl) _ _ _ hS (lv_sub hl [1, 2, 0] rfl)
      · skip
        rw [nI_leI (by omega) (by omega)] at c_12
        refine lv_aload_n hx hb dX7_imageOf_15 rfl (lv_at hl 0 rfl) ?_
        refine gx_get (ci := 10) (v := .ref (ad 64)) (C := RX7) (T := TX7) (N := 23) hx hb hts (fun _ h => inX7_imageOf_RX7 h) hown hK hS 53 (by omega) rfl rfl 20 (by decide) (hts (.fieldLink RX7 42 "CosetTablesModel" "keptWhere" "[I") (by decide +kernel)) rfl dX7_imageOf_16 ?_
        refine lv_iload_n hx hb dX7_imageOf_19 rfl (lv_at hl 2 rfl) ?_
        refine lv_aload_n hx hb dX7_imageOf_20 rfl (lv_at hl 0 rfl) ?_
        refine gx_get (ci := 10) (v := .ref (ad 58)) (C := RX7) (T := TX7) (N := 23) hx hb hts (fun _ h => inX7_imageOf_RX7 h) hown hK hS 53 (by omega) rfl rfl 9 (by decide) (hts (.fieldLink RX7 23 "CosetTablesModel" "where" "[I") (by decide +kernel)) rfl dX7_imageOf_21 ?_
        refine lv_iload_n hx hb dX7_imageOf_24 rfl (lv_at hl 2 rfl) ?_
        refine gx_ialdn hx hb hK hS 58 (by omega) (by decide) k (by omega) (hln _) dX7_imageOf_25 ?_
        refine gx_as (y := nI (w k)) (by rw [h3 58 (by decide) (by decide)]; exact a1 k (by omega)) ?_
        refine gx_iastn hx hb hK hS 64 (by omega) (by decide) k (by omega) (hln _) dX7_imageOf_26 (fun H locs hS => ?_)
        obtain ⟨iv3, eiv3⟩ : ∃ z, z = up2 iv2 64 k (nI (w k)) := ⟨_, rfl⟩
        rw [← eiv3] at hS
        refine lv_aload_n hx hb dX7_imageOf_27 rfl (lv_at hl 0 rfl) ?_
        refine gx_get (ci := 10) (v := .ref (ad 65)) (C := RX7) (T := TX7) (N := 23) hx hb hts (fun _ h => inX7_imageOf_RX7 h) hown hK hS 53 (by omega) rfl rfl 21 (by decide) (hts (.fieldLink RX7 45 "CosetTablesModel" "keptTwist" "[I") (by decide +kernel)) rfl dX7_imageOf_28 ?_
        refine lv_iload_n hx hb dX7_imageOf_31 rfl (lv_at hl 2 rfl) ?_
        refine lv_aload_n hx hb dX7_imageOf_32 rfl (lv_at hl 0 rfl) ?_
        refine gx_get (ci := 10) (v := .ref (ad 59)) (C := RX7) (T := TX7) (N := 23) hx hb hts (fun _ h => inX7_imageOf_RX7 h) hown hK hS 53 (by omega) rfl rfl 10 (by decide) (hts (.fieldLink RX7 26 "CosetTablesModel" "twist" "[I") (by decide +kernel)) rfl dX7_imageOf_33 ?_
        refine lv_iload_n hx hb dX7_imageOf_36 rfl (lv_at hl 2 rfl) ?_
        refine gx_ialdn hx hb hK hS 59 (by omega) (by decide) k (by omega) (hln _) dX7_imageOf_37 ?_
        refine gx_as (y := nI (t k)) (by rw [eiv3, up2_row (by decide), h3 59 (by decide) (by decide)]; exact a2 k (by omega)) ?_
        refine gx_iastn hx hb hK hS 65 (by omega) (by decide) k (by omega) (hln _) dX7_imageOf_38 (fun H locs hS => ?_)
        obtain ⟨iv4, eiv4⟩ : ∃ z, z = up2 iv3 65 k (nI (t k)) := ⟨_, rfl⟩
        rw [← eiv4] at hS
        refine lv_iinc (v := nI (k + 1)) (lv' := [(3, .int (nI (k + 1))), (0, .ref (ad 53)), (2, .int (nI s8))]) hx hb dX7_imageOf_39 hl (k := 2) rfl (nI_1 k) (by decide) rfl (fun ls hl => ?_)
        refine lv_goto (tgt := 7) hx hb dX7_imageOf_42 (by decide) ?_
        exact ih7 (k + 1) iv4 (by omega) (by omega) (fun i hi => by by_cases e9 : i = k <;> first | (subst e9; exact ⟨by rw [eiv4, up2_row (by decide), eiv3, up2_s], by rw [eiv4, up2_s]⟩) | exact ⟨by rw [eiv4, up2_row (by decide), eiv3, up2_n (fun q => e9 q.2)]; exact (h1 i (by omega)).1, by rw [eiv4, up2_n (fun q => e9 q.2), eiv3, up2_row (by decide)]; exact (h1 i (by omega)).2⟩) (fun q x1 x2 => by rw [eiv4, up2_row x2, eiv3, up2_row x1, h3 q x1 x2]) _ _ _ hS (lv_sub hl [1, 2, 0] rfl)
  exact L7 _ 0 iv1 (Nat.lt_succ_self _) (Nat.zero_le _) lt_0 (fun _ _ _ => rfl) _ _ _ hS (lv_sub hl [1, 3, 0] rfl)
set_option maxRecDepth 100000 in
theorem ct_X7_imageOf (l : Launch) (D : va_G) (cA : Nat → ClassId) (o : Nat → Int64) (ad ln : Nat → Nat) (n sz : Nat) (iv : Nat → Nat → Int32) (x s8 P c9 T : Nat) (Sg si pc9 : Nat → Nat) (hn : 68 ≤ n) (hln : ∀ k, ln k < 2 ^ 31) (hRn : rln ln) (hc9 : iv 53 7 = nI c9) (hc4 : c9 ≤ 4) (hT0 : iv 53 2 = nI T) (hT1 : 0 < T) (hT3 : T ≤ 3) (hP0 : iv 53 1 = nI P) (hP : P ≤ 8) (hpc : ∀ i, i < c9 → iv 57 i = nI (pc9 i)) (hpi : inj pc9 P c9) (hs8 : s8 < 4) (hsy : rsym iv s8 P Sg) (hSi : inj Sg P P) (hsi : symIx Sg pc9 si c9) (hx9 : x < 2 ^ 20) : gMi l yX7_imageOf wsX7_imageOf { frames := 2, cells := 0, slots := 0, locals := 48 } D cA o ad ln n sz iv [.ref (ad 53), .int (nI x), .int (nI s8)] (fun (r : Int32) iv' => r = nI (imN P T c9 Sg si x) ∧ ∀ q, q ≠ 58 → q ≠ 59 → q ≠ 64 → q ≠ 65 → iv' q = iv q) := by
  refine Met.ofW (cc := cX7_imageOf) (maxL := 5) (ret := (some .int)) (by decide) rfl ?_
  intro p e s m args below meth c s₁ B hml hv__
  obtain ⟨rfl, hv__⟩ := hv__
  obtain ⟨hsz, hS, hK, hN, hA⟩ := gS.entry hv__
  have hl := lv_entry ([.ref (ad 53), .int (nI x), .int (nI s8)]) (n := 5) (Nat.le_of_ble_eq_true rfl)
  rw [lg_entry_eq]
  generalize (lg_sl ([.ref (ad 53), .int (nI x), .int (nI s8)]) ++ List.replicate (5 - (lg_sl ([.ref (ad 53), .int (nI x), .int (nI s8)])).length) Slot.unset).toArray = ls at hl ⊢
  exact bd_X7_imageOf (x := x) (s8 := s8) (P := P) (c9 := c9) (T := T) (Sg := Sg) (si := si) (pc9 := pc9) ⟨B.exec, B.bytes, hml, findClass_of_methodNamed B.named, atoms_spec (ws := wsX7_imageOf) B.pre, B.returns, B.notSynchronized⟩ (Nat.le_refl _) (Nat.le_refl _) (Nat.le_refl _) (Nat.le_refl _) hK hN hA hn hln hRn hc9 hc4 hT0 hT1 hT3 hP0 hP hpc hpi hs8 hsy hSi hsi hx9 hS hl (fun r iv' H locs ls pc hd hp hS => gx_iret B.exec B.bytes B.returns B.notSynchronized hS hp hd)

theorem inX7_prepare_RX7 : ∀ {w : Cond}, w ∈ u_ws RX7 TX7 23 → w ∈ wsX7_prepare := fun {w} h => by first | exact List.mem_cons_of_mem _ (List.mem_append_right _ h) | (revert h; revert w; show ∀ w ∈ u_ws RX7 TX7 23, w ∈ wsX7_prepare; decide +kernel)
set_option maxHeartbeats 1000000 in
set_option maxRecDepth 100000 in
theorem bd_X7_prepare {p : Program} {l : Launch} {e : Env} {R : Room} {s : State} {m : MethodId} {args : Array Value} {below : List Frame} {meth : Method} {c : Code} {H : Heap} {locs : List Loc} {cells slots : Nat} {Q : State → Prop} {ls : Array Slot} {D : va_G} {A : Nat → Prop} {H0 : Heap} {cA : Nat → ClassId} {o : Nat → Int64} {ad ln : Nat → Nat} {iv : Nat → Nat → Int32} {n : Nat} {P T c9 S8 mc9 sc9 : Nat} {Sg G9 Ad : Nat → Nat → Nat} {ch : Nat → Bool} {gd : Nat → Prop}
    (F : gF p s m meth c cX7_prepare 2 RX7 wsX7_prepare args none) (hRf : 2 ≤ R.frames) (hRl : 49 ≤ R.locals) (hRc : cells ≤ R.cells) (hRs : slots ≤ R.slots) (hK : va_K D vwCl (gT cA) s) (hN : NW s) (hA : ∀ q, H0.size ≤ q → A q) (hn : 68 ≤ n) (hln : ∀ k, ln k < 2 ^ 31) (hRn : rln ln) (hc9 : iv 53 7 = nI c9) (hc4 : c9 ≤ 4) (hT0 : iv 53 2 = nI T) (hT1 : 0 < T) (hT3 : T ≤ 3) (hP0 : iv 53 1 = nI P) (hP : P ≤ 8) (hcP : c9 ≤ P) (hS8 : S8 = ff P c9 * T ^ c9) (hS9 : S8 ≤ 136080) (hs0 : iv 53 18 = nI sc9) (hs4 : sc9 ≤ 4) (hsy : ∀ z, z < sc9 → rsym iv z P (Sg z)) (hmc : iv 53 3 = nI mc9) (hmc6 : mc9 ≤ 6) (hmv : ∀ j, j < mc9 → rmove iv j P T (G9 j) (Ad j)) (hch : ∀ p, p < P → iv 56 p = if ch p then 1 else 0) (hgd : ∀ z, z < sc9 → (gd z ↔ ((∀ p, p < P → ch p = ch (Sg z p)) ∧ ∀ j, j < mc9 → ∃ i, i < mc9 ∧ imgN P (Sg z) (G9 j) (Ad j) (G9 i) (Ad i)))) 
    (hS : gS D cA A H0 o ad ln iv n H locs) (hl : lv_has ls 2 [(0, .ref (ad 53))])
    (kret : ∀ (iv' : Nat → Nat → Int32) (H : Heap) (locs : List Loc) (ls : Array Slot) (pc : Nat), decode cX7_prepare pc = .ok (.return_, 1) → ((∀ z, z < sc9 → (iv' 66 z = 0 ∨ iv' 66 z = 1) ∧ (iv' 66 z = 1 ↔ gd z)) ∧ (∀ x, x < S8 → iv' 62 x = 0) ∧ ∀ q, q ≠ 62 → q ≠ 66 → iv' q = iv q) → gS D cA A H0 o ad ln iv' n H locs → W p l e R s m args below meth c H locs cells slots Q (F0 m pc ls [])) :
    W p l e R s m args below meth c H locs cells slots Q (F0 m 0 ls []) := by
  obtain ⟨hx, hb, hml, hown, hts, hr, hlocks⟩ := F
  have hRn9 := hRn
  obtain ⟨r54, r55, r56, r57, r58, r59, r60, r61, r62, r63, r64, r65, r66⟩ := hRn
  refine lv_iconst (v := nI 0) hx hb dX7_prepare_0 (by decide) ?_
  refine lv_istore_n (lv' := [(1, .int (nI 0)), (0, .ref (ad 53))]) hx hb dX7_prepare_1 rfl hl (by decide) rfl (fun ls hl => ?_)
  have L2 : ∀ (N : Nat) (i : Nat) (iv1 : Nat → Nat → Int32), sc9 - i < N → (i ≤ sc9) → (∀ z, z < i → (iv1 66 z = 0 ∨ iv1 66 z = 1) ∧ (iv1 66 z = 1 ↔ gd z)) → (∀ q, q ≠ 66 → iv1 q = iv q) → ∀ (H : Heap) (locs : List Loc) (ls : Array Slot), gS D cA A H0 o ad ln iv1 n H locs → lv_has ls 2 [(0, .ref (ad 53)), (1, .int (nI i))] → W p l e R s m args below meth c H locs cells slots Q (F0 m 2 ls []) := by
    intro N
    induction N with
    | zero => intro i iv1 hm; exact absurd hm (Nat.not_lt_zero _)
    | succ N ih2 =>
      intro i iv1 hm hi h1 h3 H locs ls hS hl
      refine lv_iload_n hx hb dX7_prepare_2 rfl (lv_at hl 1 rfl) ?_
      refine lv_aload_n hx hb dX7_prepare_3 rfl (lv_at hl 0 rfl) ?_
      refine gx_get (ci := 10) (v := .int (iv1 53 18)) (C := RX7) (T := TX7) (N := 23) hx hb hts (fun _ h => inX7_prepare_RX7 h) hown hK hS 53 (by omega) rfl rfl 18 (by decide) (hts (.fieldLink RX7 132 "CosetTablesModel" "symmetries" "I") (by decide +kernel)) rfl dX7_prepare_4 ?_
      refine gx_as (y := nI sc9) (by rw [h3 53 (by decide)]; exact hs0) ?_
      refine lv_icmp_ge (tgt := 27) hx hb dX7_prepare_7 (by decide) (fun c_7 => ?_) (fun c_7 => ?_)
      · skip
        rw [nI_leI (by omega) (by omega)] at c_7
        have ei : i = sc9 := by omega
        rw [ei] at h1
        refine lv_iconst (v := nI 0) hx hb dX7_prepare_27 (by decide) ?_
        refine lv_istore_n (lv' := [(1, .int (nI 0)), (0, .ref (ad 53))]) hx hb dX7_prepare_28 rfl hl (by decide) rfl (fun ls hl => ?_)
        have L29 : ∀ (N : Nat) (i : Nat) (iv4 : Nat → Nat → Int32), S8 - i < N → (i ≤ S8) → (∀ x, x < i → iv4 62 x = 0) → (∀ q, q ≠ 62 → iv4 q = iv1 q) → ∀ (H : Heap) (locs : List Loc) (ls : Array Slot), gS D cA A H0 o ad ln iv4 n H locs → lv_has ls 2 [(0, .ref (ad 53)), (1, .int (nI i))] → W p l e R s m args below meth c H locs cells slots Q (F0 m 29 ls []) := by
          intro N
          induction N with
          | zero => intro i iv4 hm; exact absurd hm (Nat.not_lt_zero _)
          | succ N ih29 =>
            intro i iv4 hm hi2 g1 g3 H locs ls hS hl
            have o53 : iv4 53 = iv 53 := by rw [g3 53 (by decide), h3 53 (by decide)]
            refine lv_iload_n hx hb dX7_prepare_29 rfl (lv_at hl 1 rfl) ?_
            refine lv_aload_n hx hb dX7_prepare_30 rfl (lv_at hl 0 rfl) ?_
            refine gc_i (gx_runV (As := []) (rest := [.int (nI i)]) ⟨hx, hb, hml, hown, hts⟩ hK hN hS 53 (by omega) rfl rfl (ct_X7_countStates l D cA o ad ln n H.size iv4 (P := P) (c9 := c9) (T := T) hn hln (by rw [o53]; exact hc9) hc4 (by rw [o53]; exact hT0) hT1 hT3 (by rw [o53]; exact hP0) hP hcP) (cwV 0 hts gX7_prepare_X7_countStates rfl rfl rfl (by decide +kernel) ⟨gle hRf rfl, gle hRl rfl⟩) rfl rfl hl.1 rfl (lv_room (Nat.le_of_ble_eq_true rfl)) dX7_prepare_31 ⟨hRc, hRs⟩) hS hA (fun z iv5 H locs hp5 hS => ?_)
            obtain ⟨ez, ev5⟩ := hp5
            rw [ev5] at hS
            rw [← hS8] at ez
            refine gx_as (y := nI S8) ez ?_
            skip
            refine lv_icmp_ge (tgt := 50) hx hb dX7_prepare_34 (by decide) (fun c_34 => ?_) (fun c_34 => ?_)
            · skip
              rw [nI_leI (by omega) (by omega)] at c_34
              have ei2 : i = S8 := by omega
              rw [ei2] at g1
              exact kret iv4 _ _ _ _ dX7_prepare_50 (⟨fun z hz => by rw [g3 66 (by decide)]; exact h1 z hz, g1, fun q x1 x2 => by rw [g3 q x1, h3 q x2]⟩) hS
            · skip
              rw [nI_leI (by omega) (by omega)] at c_34
              refine lv_aload_n hx hb dX7_prepare_37 rfl (lv_at hl 0 rfl) ?_
              refine gx_get (ci := 10) (v := .ref (ad 62)) (C := RX7) (T := TX7) (N := 23) hx hb hts (fun _ h => inX7_prepare_RX7 h) hown hK hS 53 (by omega) rfl rfl 17 (by decide) (hts (.fieldLink RX7 36 "CosetTablesModel" "marks" "[I") (by decide +kernel)) rfl dX7_prepare_38 ?_
              refine lv_iload_n hx hb dX7_prepare_41 rfl (lv_at hl 1 rfl) ?_
              refine lv_iconst (v := nI 0) hx hb dX7_prepare_42 (by decide) ?_
              refine gx_iastn hx hb hK hS 62 (by omega) (by decide) i (by omega) (hln _) dX7_prepare_43 (fun H locs hS => ?_)
              obtain ⟨iv6, eiv6⟩ : ∃ z, z = up2 iv4 62 i (nI 0) := ⟨_, rfl⟩
              rw [← eiv6] at hS
              refine lv_iinc (v := nI (i + 1)) (lv' := [(1, .int (nI (i + 1))), (0, .ref (ad 53))]) hx hb dX7_prepare_44 hl (k := 1) rfl (nI_1 i) (by decide) rfl (fun ls hl => ?_)
              refine lv_goto (tgt := 29) hx hb dX7_prepare_47 (by decide) ?_
              exact ih29 (i + 1) iv6 (by omega) (by omega) (fun x hx => by by_cases e9 : x = i <;> first | (rw [e9, eiv6, up2_s]; rfl) | (rw [eiv6, up2_n (fun q => e9 q.2)]; exact g1 x (by omega))) (fun q x1 => by rw [eiv6, up2_row x1, g3 q x1]) _ _ _ hS (lv_sub hl [1, 0] rfl)
        exact L29 _ 0 iv1 (Nat.lt_succ_self _) (Nat.zero_le _) lt_0 (fun _ _ => rfl) _ _ _ hS (lv_sub hl [1, 0] rfl)
      · skip
        rw [nI_leI (by omega) (by omega)] at c_7
        refine lv_aload_n hx hb dX7_prepare_10 rfl (lv_at hl 0 rfl) ?_
        refine gx_get (ci := 10) (v := .ref (ad 66)) (C := RX7) (T := TX7) (N := 23) hx hb hts (fun _ h => inX7_prepare_RX7 h) hown hK hS 53 (by omega) rfl rfl 22 (by decide) (hts (.fieldLink RX7 48 "CosetTablesModel" "isGoods" "[Z") (by decide +kernel)) rfl dX7_prepare_11 ?_
        refine lv_iload_n hx hb dX7_prepare_14 rfl (lv_at hl 1 rfl) ?_
        refine lv_aload_n hx hb dX7_prepare_15 rfl (lv_at hl 0 rfl) ?_
        refine lv_iload_n hx hb dX7_prepare_16 rfl (lv_at hl 1 rfl) ?_
        refine gc_i (gx_runV (As := [.int (nI i)]) (rest := [.int (nI i), .ref (ad 66)]) ⟨hx, hb, hml, hown, hts⟩ hK hN hS 53 (by omega) rfl rfl (ct_X7_isGood l D cA o ad ln n H.size iv1 (s8 := i) (P := P) (T := T) (mc9 := mc9) (Sg := Sg i) (G9 := G9) (Ad := Ad) (ch := ch) hn hln hRn9 (by rw [h3 53 (by decide)]; exact hP0) hP hT3 (by rw [h3 53 (by decide)]; exact hmc) hmc6 (by omega) (fun q hq => by rw [h3 63 (by decide)]; exact hsy i (by omega) q hq) (fun j hj q hq => by rw [h3 54 (by decide), h3 55 (by decide)]; exact hmv j hj q hq) (fun p hp => by rw [h3 56 (by decide)]; exact hch p hp)) (cwV 1 hts gX7_prepare_X7_isGood rfl rfl rfl (by decide +kernel) ⟨gle hRf rfl, gle hRl rfl⟩) rfl rfl hl.1 rfl (lv_room (Nat.le_of_ble_eq_true rfl)) dX7_prepare_17 ⟨hRc, hRs⟩) hS hA (fun y iv2 H locs hp2 hS => ?_)
        obtain ⟨hy01, hyi, ev2⟩ := hp2
        rw [ev2] at hS
        rw [← hgd i (by omega)] at hyi
        skip
        refine gx_zastn hx hb hK hS 66 (by omega) (by decide) i (by omega) (hln _) (by first | exact Or.inl rfl | exact Or.inr rfl | assumption) dX7_prepare_20 (fun H locs hS => ?_)
        obtain ⟨iv3, eiv3⟩ : ∃ z, z = up2 iv1 66 i (y) := ⟨_, rfl⟩
        rw [← eiv3] at hS
        refine lv_iinc (v := nI (i + 1)) (lv' := [(1, .int (nI (i + 1))), (0, .ref (ad 53))]) hx hb dX7_prepare_21 hl (k := 1) rfl (nI_1 i) (by decide) rfl (fun ls hl => ?_)
        refine lv_goto (tgt := 2) hx hb dX7_prepare_24 (by decide) ?_
        exact ih2 (i + 1) iv3 (by omega) (by omega) (fun z hz => by by_cases e9 : z = i <;> first | (rw [e9, eiv3, up2_s]; exact ⟨hy01, hyi⟩) | (rw [eiv3, up2_n (fun q => e9 q.2)]; exact h1 z (by omega))) (fun q x1 => by rw [eiv3, up2_row x1, h3 q x1]) _ _ _ hS (lv_sub hl [1, 0] rfl)
  exact L2 _ 0 iv (Nat.lt_succ_self _) (Nat.zero_le _) lt_0 (fun _ _ => rfl) _ _ _ hS (lv_sub hl [1, 0] rfl)
set_option maxRecDepth 100000 in
theorem ct_X7_prepare (l : Launch) (D : va_G) (cA : Nat → ClassId) (o : Nat → Int64) (ad ln : Nat → Nat) (n sz : Nat) (iv : Nat → Nat → Int32) (P T c9 S8 mc9 sc9 : Nat) (Sg G9 Ad : Nat → Nat → Nat) (ch : Nat → Bool) (gd : Nat → Prop) (hn : 68 ≤ n) (hln : ∀ k, ln k < 2 ^ 31) (hRn : rln ln) (hc9 : iv 53 7 = nI c9) (hc4 : c9 ≤ 4) (hT0 : iv 53 2 = nI T) (hT1 : 0 < T) (hT3 : T ≤ 3) (hP0 : iv 53 1 = nI P) (hP : P ≤ 8) (hcP : c9 ≤ P) (hS8 : S8 = ff P c9 * T ^ c9) (hS9 : S8 ≤ 136080) (hs0 : iv 53 18 = nI sc9) (hs4 : sc9 ≤ 4) (hsy : ∀ z, z < sc9 → rsym iv z P (Sg z)) (hmc : iv 53 3 = nI mc9) (hmc6 : mc9 ≤ 6) (hmv : ∀ j, j < mc9 → rmove iv j P T (G9 j) (Ad j)) (hch : ∀ p, p < P → iv 56 p = if ch p then 1 else 0) (hgd : ∀ z, z < sc9 → (gd z ↔ ((∀ p, p < P → ch p = ch (Sg z p)) ∧ ∀ j, j < mc9 → ∃ i, i < mc9 ∧ imgN P (Sg z) (G9 j) (Ad j) (G9 i) (Ad i))))  : gMv l yX7_prepare wsX7_prepare { frames := 2, cells := 0, slots := 0, locals := 49 } D cA o ad ln n sz iv [.ref (ad 53)] (fun iv' => (∀ z, z < sc9 → (iv' 66 z = 0 ∨ iv' 66 z = 1) ∧ (iv' 66 z = 1 ↔ gd z)) ∧ (∀ x, x < S8 → iv' 62 x = 0) ∧ ∀ q, q ≠ 62 → q ≠ 66 → iv' q = iv q) := by
  refine Met.ofW (cc := cX7_prepare) (maxL := 2) (ret := none) (by decide) rfl ?_
  intro p e s m args below meth c s₁ B hml hv__
  obtain ⟨rfl, hv__⟩ := hv__
  obtain ⟨hsz, hS, hK, hN, hA⟩ := gS.entry hv__
  have hl := lv_entry ([.ref (ad 53)]) (n := 2) (Nat.le_of_ble_eq_true rfl)
  rw [lg_entry_eq]
  generalize (lg_sl ([.ref (ad 53)]) ++ List.replicate (2 - (lg_sl ([.ref (ad 53)])).length) Slot.unset).toArray = ls at hl ⊢
  exact bd_X7_prepare (P := P) (T := T) (c9 := c9) (S8 := S8) (mc9 := mc9) (sc9 := sc9) (Sg := Sg) (G9 := G9) (Ad := Ad) (ch := ch) (gd := gd) ⟨B.exec, B.bytes, hml, findClass_of_methodNamed B.named, atoms_spec (ws := wsX7_prepare) B.pre, B.returns, B.notSynchronized⟩ (Nat.le_refl _) (Nat.le_refl _) (Nat.le_refl _) (Nat.le_refl _) hK hN hA hn hln hRn hc9 hc4 hT0 hT1 hT3 hP0 hP hcP hS8 hS9 hs0 hs4 hsy hmc hmc6 hmv hch hgd hS hl (fun iv' H locs ls pc hd hp hS => gx_vret B.exec B.bytes B.returns B.notSynchronized hS hp hd)

theorem inX7_markClass_RX7 : ∀ {w : Cond}, w ∈ u_ws RX7 TX7 23 → w ∈ wsX7_markClass := fun {w} h => by first | exact List.mem_cons_of_mem _ (List.mem_append_right _ h) | (revert h; revert w; show ∀ w ∈ u_ws RX7 TX7 23, w ∈ wsX7_markClass; decide +kernel)
set_option maxHeartbeats 1000000 in
set_option maxRecDepth 100000 in
theorem bd_X7_markClass {p : Program} {l : Launch} {e : Env} {R : Room} {s : State} {m : MethodId} {args : Array Value} {below : List Frame} {meth : Method} {c : Code} {H : Heap} {locs : List Loc} {cells slots : Nat} {Q : State → Prop} {ls : Array Slot} {D : va_G} {A : Nat → Prop} {H0 : Heap} {cA : Nat → ClassId} {o : Nat → Int64} {ad ln : Nat → Nat} {iv : Nat → Nat → Int32} {n : Nat} {x0 P T c9 S8 sc9 : Nat} {pc9 : Nat → Nat} {Sg si img : Nat → Nat → Nat} {gd : Nat → Prop} {M : Nat → Bool}
    (F : gF p s m meth c cX7_markClass 8 RX7 wsX7_markClass args (some .int)) (hRf : 3 ≤ R.frames) (hRl : 72 ≤ R.locals) (hRc : cells ≤ R.cells) (hRs : slots ≤ R.slots) (hK : va_K D vwCl (gT cA) s) (hN : NW s) (hA : ∀ q, H0.size ≤ q → A q) (hn : 68 ≤ n) (hln : ∀ k, ln k < 2 ^ 31) (hRn : rln ln) (hc9 : iv 53 7 = nI c9) (hc4 : c9 ≤ 4) (hT0 : iv 53 2 = nI T) (hT1 : 0 < T) (hT3 : T ≤ 3) (hP0 : iv 53 1 = nI P) (hP : P ≤ 8) (hpc : ∀ i, i < c9 → iv 57 i = nI (pc9 i)) (hpi : inj pc9 P c9) (hS8 : S8 = ff P c9 * T ^ c9) (hS9 : S8 ≤ 136080) (hs0 : iv 53 18 = nI sc9) (hs4 : sc9 ≤ 4) (hsy : ∀ z, z < sc9 → rsym iv z P (Sg z)) (hSi : ∀ z, z < sc9 → inj (Sg z) P P) (him : ∀ z, z < sc9 → gd z → symIx (Sg z) pc9 (si z) c9 ∧ ∀ x, x < S8 → img z x = imN P T c9 (Sg z) (si z) x) (hgb : ∀ z, z < sc9 → (iv 66 z = 0 ∨ iv 66 z = 1) ∧ (iv 66 z = 1 ↔ gd z)) (hx0 : x0 < S8) (hM9 : ∀ x, x < S8 → iv 62 x = bz (M x)) (hM0 : M x0 = false) (hMc : ∀ z x, z < sc9 → gd z → x < S8 → M (img z x) = M x)
    (hS : gS D cA A H0 o ad ln iv n H locs) (hl : lv_has ls 8 [(0, .ref (ad 53)), (1, .int (nI x0)), (2, .int (nI 1))])
    (kret : ∀ (r : Int32) (iv' : Nat → Nat → Int32) (H : Heap) (locs : List Loc) (ls : Array Slot) (pc : Nat), decode cX7_markClass pc = .ok (.ireturn, 1) → (∃ (lv : Nat) (M' : Nat → Bool), r = nI lv ∧ lv < S8 ∧ eqg (relS S8 img gd sc9) x0 lv ∧ (∀ x, eqg (relS S8 img gd sc9) x0 x → lv ≤ x) ∧ (∀ x, x < S8 → (M' x = true ↔ M x = true ∨ eqg (relS S8 img gd sc9) x0 x)) ∧ (∀ x, x < S8 → iv' 62 x = bz (M' x)) ∧ ∀ q, q ≠ 58 → q ≠ 59 → q ≠ 61 → q ≠ 62 → q ≠ 64 → q ≠ 65 → iv' q = iv q) → gS D cA A H0 o ad ln iv' n H locs → W p l e R s m args below meth c H locs cells slots Q (F0 m pc ls [.int r])) :
    W p l e R s m args below meth c H locs cells slots Q (F0 m 0 ls []) := by
  obtain ⟨hx, hb, hml, hown, hts, hr, hlocks⟩ := F
  have hRn9 := hRn
  obtain ⟨r54, r55, r56, r57, r58, r59, r60, r61, r62, r63, r64, r65, r66⟩ := hRn
  have hcP := inj_le_P hpi
  have hij : ∀ z, z < sc9 → gd z → inj (img z) S8 S8 := fun z h1 h2 => by
    obtain ⟨u1, u2⟩ := him z h1 h2
    have u3 := imN_inj (T := T) hT1 hcP (hSi z h1) hpi u1
    rw [← hS8] at u3
    exact ⟨fun x hx => by rw [u2 x hx]; exact u3.1 x hx, fun x y hx hy e8 => by rw [u2 x hx, u2 y hy] at e8; exact u3.2 x y hx hy e8⟩
  refine lv_iconst (v := nI 1) hx hb dX7_markClass_0 (by decide) ?_
  refine lv_istore_n (lv' := [(3, .int (nI 1)), (0, .ref (ad 53)), (1, .int (nI x0)), (2, .int (nI 1))]) hx hb dX7_markClass_1 rfl hl (by decide) rfl (fun ls hl => ?_)
  refine lv_iload_n hx hb dX7_markClass_2 rfl (lv_at hl 2 rfl) ?_
  refine lv_istore (lv' := [(4, .int (nI x0)), (3, .int (nI 1)), (0, .ref (ad 53)), (1, .int (nI x0)), (2, .int (nI 1))]) hx hb dX7_markClass_3 hl (by decide) rfl (fun ls hl => ?_)
  refine lv_aload_n hx hb dX7_markClass_5 rfl (lv_at hl 2 rfl) ?_
  refine gx_get (ci := 10) (v := .ref (ad 61)) (C := RX7) (T := TX7) (N := 23) hx hb hts (fun _ h => inX7_markClass_RX7 h) hown hK hS 53 (by omega) rfl rfl 16 (by decide) (hts (.fieldLink RX7 33 "CosetTablesModel" "queue" "[I") (by decide +kernel)) rfl dX7_markClass_6 ?_
  refine lv_iconst (v := nI 0) hx hb dX7_markClass_9 (by decide) ?_
  refine lv_iload_n hx hb dX7_markClass_10 rfl (lv_at hl 3 rfl) ?_
  refine gx_iastn hx hb hK hS 61 (by omega) (by decide) 0 (by omega) (hln _) dX7_markClass_11 (fun H locs hS => ?_)
  obtain ⟨iv0, eiv0⟩ : ∃ z, z = up2 iv 61 0 (nI x0) := ⟨_, rfl⟩
  rw [← eiv0] at hS
  refine lv_aload_n hx hb dX7_markClass_12 rfl (lv_at hl 2 rfl) ?_
  refine gx_get (ci := 10) (v := .ref (ad 62)) (C := RX7) (T := TX7) (N := 23) hx hb hts (fun _ h => inX7_markClass_RX7 h) hown hK hS 53 (by omega) rfl rfl 17 (by decide) (hts (.fieldLink RX7 36 "CosetTablesModel" "marks" "[I") (by decide +kernel)) rfl dX7_markClass_13 ?_
  refine lv_iload_n hx hb dX7_markClass_16 rfl (lv_at hl 3 rfl) ?_
  refine lv_iload_n hx hb dX7_markClass_17 rfl (lv_at hl 4 rfl) ?_
  refine gx_iastn hx hb hK hS 62 (by omega) (by decide) x0 (by omega) (hln _) dX7_markClass_18 (fun H locs hS => ?_)
  obtain ⟨iv1, eiv1⟩ : ∃ z, z = up2 iv0 62 x0 (nI 1) := ⟨_, rfl⟩
  rw [← eiv1] at hS
  refine lv_iconst (v := nI 0) hx hb dX7_markClass_19 (by decide) ?_
  refine lv_istore (lv' := [(5, .int (nI 0)), (4, .int (nI x0)), (3, .int (nI 1)), (0, .ref (ad 53)), (1, .int (nI x0)), (2, .int (nI 1))]) hx hb dX7_markClass_20 hl (by decide) rfl (fun ls hl => ?_)
  have L22 : ∀ (N : Nat) (i C lv : Nat) (mk : Nat → Bool) (q9 : Nat → Nat) (iv2 : Nat → Nat → Int32), S8 - i < N → (i ≤ C) → (mkI S8 img gd sc9 x0 M mk q9 C) → (∀ j, j < i → ∀ z, z < sc9 → gd z → mk (img z (q9 j)) = true) → (∃ j, j < C ∧ q9 j = lv) → (∀ j, j < i → lv ≤ q9 j) → (∀ x, x < S8 → iv2 62 x = bz (mk x)) → (∀ j, j < C → iv2 61 j = nI (q9 j)) → (∀ q, q ≠ 58 → q ≠ 59 → q ≠ 61 → q ≠ 62 → q ≠ 64 → q ≠ 65 → iv2 q = iv q) → ∀ (H : Heap) (locs : List Loc) (ls : Array Slot), gS D cA A H0 o ad ln iv2 n H locs → lv_has ls 8 [(0, .ref (ad 53)), (2, .int (nI 1)), (3, .int (nI C)), (4, .int (nI lv)), (5, .int (nI i))] → W p l e R s m args below meth c H locs cells slots Q (F0 m 22 ls []) := by
    intro N
    induction N with
    | zero => intro i C lv mk q9 iv2 hm; exact absurd hm (Nat.not_lt_zero _)
    | succ N ih22 =>
      intro i C lv mk q9 iv2 hm hi hI hd hlv hl2 t1 t2 h2 H locs ls hS hl
      have hCS := inj_le_P hI.1
      have hlvS : lv < S8 := by
        obtain ⟨j, j1, j2⟩ := hlv
        rw [← j2]; exact hI.1.1 j j1
      refine lv_iload hx hb dX7_markClass_22 (lv_at hl 4 rfl) ?_
      refine lv_iload_n hx hb dX7_markClass_24 rfl (lv_at hl 2 rfl) ?_
      refine lv_icmp_ge (tgt := 139) hx hb dX7_markClass_25 (by decide) (fun c_25 => ?_) (fun c_25 => ?_)
      · skip
        rw [nI_leI (by omega) (by omega)] at c_25
        have ei : i = C := by omega
        rw [ei] at hd hl2
        obtain ⟨en1, en2⟩ := mkI_end hij hI hMc hd
        refine lv_iload hx hb dX7_markClass_139 (lv_at hl 3 rfl) ?_
        exact kret _ iv2 _ _ _ _ dX7_markClass_141 (⟨lv, mk, rfl, hlvS, by obtain ⟨j, j1, j2⟩ := hlv; rw [← j2]; exact (hI.2.2.2.1 j j1).1, fun x hx => by obtain ⟨j, j1, j2⟩ := en1 x hx; rw [← j2]; exact hl2 j j1, en2, t1, h2⟩) hS
      · skip
        rw [nI_leI (by omega) (by omega)] at c_25
        have hiC : i < C := by omega
        have hqi := hI.1.1 i hiC
        refine lv_aload_n hx hb dX7_markClass_28 rfl (lv_at hl 0 rfl) ?_
        refine gx_get (ci := 10) (v := .ref (ad 61)) (C := RX7) (T := TX7) (N := 23) hx hb hts (fun _ h => inX7_markClass_RX7 h) hown hK hS 53 (by omega) rfl rfl 16 (by decide) (hts (.fieldLink RX7 33 "CosetTablesModel" "queue" "[I") (by decide +kernel)) rfl dX7_markClass_29 ?_
        refine lv_iload hx hb dX7_markClass_32 (lv_at hl 4 rfl) ?_
        refine gx_ialdn hx hb hK hS 61 (by omega) (by decide) i (by omega) (hln _) dX7_markClass_34 ?_
        refine gx_as (y := nI (q9 i)) (t2 i hiC) ?_
        refine lv_iload hx hb dX7_markClass_35 (lv_at hl 3 rfl) ?_
        refine lv_icmp_ge (tgt := 50) hx hb dX7_markClass_37 (by decide) (fun c_37 => ?_) (fun c_37 => ?_)
        · skip
          rw [nI_leI (by omega) (by omega)] at c_37
          refine lv_iload hx hb dX7_markClass_50 (lv_at hl 3 rfl) ?_
          refine lv_istore (lv' := [(4, .int (nI lv)), (0, .ref (ad 53)), (2, .int (nI 1)), (3, .int (nI C)), (5, .int (nI i))]) hx hb dX7_markClass_52 hl (by decide) rfl (fun ls hl => ?_)
          refine lv_iconst (v := nI 0) hx hb dX7_markClass_54 (by decide) ?_
          refine lv_istore (lv' := [(6, .int (nI 0)), (4, .int (nI lv)), (0, .ref (ad 53)), (2, .int (nI 1)), (3, .int (nI C)), (5, .int (nI i))]) hx hb dX7_markClass_55 hl (by decide) rfl (fun ls hl => ?_)
          have L57 : ∀ (N : Nat) (s8 C3 lv2 : Nat) (mk3 : Nat → Bool) (q3 : Nat → Nat) (iv3 : Nat → Nat → Int32), sc9 - s8 < N → (∃ j, j < C ∧ q9 j = lv2) → (∀ j, j < i + 1 → lv2 ≤ q9 j) → (s8 ≤ sc9) → (mkI S8 img gd sc9 x0 M mk3 q3 C3) → (C ≤ C3) → (∀ j, j < C → q3 j = q9 j) → (∀ x, mk x = true → mk3 x = true) → (∀ z, z < s8 → gd z → mk3 (img z (q9 i)) = true) → (∀ x, x < S8 → iv3 62 x = bz (mk3 x)) → (∀ j, j < C3 → iv3 61 j = nI (q3 j)) → (∀ q, q ≠ 58 → q ≠ 59 → q ≠ 61 → q ≠ 62 → q ≠ 64 → q ≠ 65 → iv3 q = iv q) → ∀ (H : Heap) (locs : List Loc) (ls : Array Slot), gS D cA A H0 o ad ln iv3 n H locs → lv_has ls 8 [(0, .ref (ad 53)), (2, .int (nI 1)), (3, .int (nI C3)), (4, .int (nI lv2)), (5, .int (nI i)), (6, .int (nI s8))] → W p l e R s m args below meth c H locs cells slots Q (F0 m 57 ls []) := by
            intro N
            induction N with
            | zero => intro s8 C3 lv2 mk3 q3 iv3 hm; exact absurd hm (Nat.not_lt_zero _)
            | succ N ih57 =>
              intro s8 C3 lv2 mk3 q3 iv3 hm hv1 hv2 hs8 hI3 hC3 hq3 hk3 hd3 t13 t23 h23 H locs ls hS hl
              have hCS3 := inj_le_P hI3.1
              have p53 : iv3 53 = iv 53 := h23 53 (by decide) (by decide) (by decide) (by decide) (by decide) (by decide)
              refine lv_iload hx hb dX7_markClass_57 (lv_at hl 5 rfl) ?_
              refine lv_aload_n hx hb dX7_markClass_59 rfl (lv_at hl 0 rfl) ?_
              refine gx_get (ci := 10) (v := .int (iv3 53 18)) (C := RX7) (T := TX7) (N := 23) hx hb hts (fun _ h => inX7_markClass_RX7 h) hown hK hS 53 (by omega) rfl rfl 18 (by decide) (hts (.fieldLink RX7 132 "CosetTablesModel" "symmetries" "I") (by decide +kernel)) rfl dX7_markClass_60 ?_
              refine gx_as (y := nI sc9) (by rw [p53]; exact hs0) ?_
              refine lv_icmp_ge (tgt := 133) hx hb dX7_markClass_63 (by decide) (fun c_63 => ?_) (fun c_63 => ?_)
              · skip
                rw [nI_leI (by omega) (by omega)] at c_63
                have es : s8 = sc9 := by omega
                rw [es] at hd3
                have hdn : ∀ j, j < i + 1 → ∀ z, z < sc9 → gd z → mk3 (img z (q3 j)) = true := fun j hj z h1 h2 => by
                  rw [hq3 j (by omega)]
                  rcases Nat.lt_or_ge j i with u | u
                  · exact hk3 _ (hd j u z h1 h2)
                  · rw [show j = i by omega]; exact hd3 z h1 h2
                refine lv_iinc (v := nI (i + 1)) (lv' := [(5, .int (nI (i + 1))), (0, .ref (ad 53)), (2, .int (nI 1)), (3, .int (nI C3)), (4, .int (nI lv2)), (6, .int (nI s8))]) hx hb dX7_markClass_133 hl (k := 4) rfl (nI_1 i) (by decide) rfl (fun ls hl => ?_)
                refine lv_goto (tgt := 22) hx hb dX7_markClass_136 (by decide) ?_
                exact ih22 (i + 1) C3 lv2 mk3 q3 iv3 (by omega) (by omega) hI3 hdn (by obtain ⟨j, j1, j2⟩ := hv1; exact ⟨j, by omega, by rw [hq3 j j1]; exact j2⟩) (fun j hj => by rw [hq3 j (by omega)]; exact hv2 j hj) t13 t23 h23 _ _ _ hS (lv_sub hl [1, 2, 3, 4, 0] rfl)
              · skip
                rw [nI_leI (by omega) (by omega)] at c_63
                obtain ⟨gb1, gb2⟩ := hgb s8 (by omega)
                refine lv_aload_n hx hb dX7_markClass_66 rfl (lv_at hl 0 rfl) ?_
                refine gx_get (ci := 10) (v := .ref (ad 66)) (C := RX7) (T := TX7) (N := 23) hx hb hts (fun _ h => inX7_markClass_RX7 h) hown hK hS 53 (by omega) rfl rfl 22 (by decide) (hts (.fieldLink RX7 48 "CosetTablesModel" "isGoods" "[Z") (by decide +kernel)) rfl dX7_markClass_67 ?_
                refine lv_iload hx hb dX7_markClass_70 (lv_at hl 5 rfl) ?_
                refine gx_zaldn hx hb hK hS 66 (by omega) (by decide) s8 (by omega) (hln _) dX7_markClass_72 ?_
                refine gx_as (y := (iv 66 s8)) (by rw [h23 66 (by decide) (by decide) (by decide) (by decide) (by decide) (by decide)]) ?_
                refine lv_if_ne (tgt := 79) hx hb dX7_markClass_73 (by decide) (fun c_73 => ?_) (fun c_73 => ?_)
                · skip
                  have hgs : gd s8 := gb2.mp (gb1.resolve_left c_73)
                  obtain ⟨hsx, himx⟩ := him s8 (by omega) hgs
                  refine lv_aload_n hx hb dX7_markClass_79 rfl (lv_at hl 0 rfl) ?_
                  refine lv_aload_n hx hb dX7_markClass_80 rfl (lv_at hl 0 rfl) ?_
                  refine gx_get (ci := 10) (v := .ref (ad 61)) (C := RX7) (T := TX7) (N := 23) hx hb hts (fun _ h => inX7_markClass_RX7 h) hown hK hS 53 (by omega) rfl rfl 16 (by decide) (hts (.fieldLink RX7 33 "CosetTablesModel" "queue" "[I") (by decide +kernel)) rfl dX7_markClass_81 ?_
                  refine lv_iload hx hb dX7_markClass_84 (lv_at hl 4 rfl) ?_
                  refine gx_ialdn hx hb hK hS 61 (by omega) (by decide) i (by omega) (hln _) dX7_markClass_86 ?_
                  refine gx_as (y := nI (q9 i)) (by rw [t23 i (by omega), hq3 i hiC]) ?_
                  refine lv_iload hx hb dX7_markClass_87 (lv_at hl 5 rfl) ?_
                  refine gc_i (gx_runV (As := [.int (nI (q9 i)), .int (nI s8)]) (rest := []) ⟨hx, hb, hml, hown, hts⟩ hK hN hS 53 (by omega) rfl rfl (ct_X7_imageOf l D cA o ad ln n H.size iv3 (x := q9 i) (s8 := s8) (P := P) (c9 := c9) (T := T) (Sg := Sg s8) (si := si s8) (pc9 := pc9) hn hln hRn9 (by rw [p53]; exact hc9) hc4 (by rw [p53]; exact hT0) hT1 hT3 (by rw [p53]; exact hP0) hP (by rw [h23 57 (by decide) (by decide) (by decide) (by decide) (by decide) (by decide)]; exact hpc) hpi (by omega) (fun q hq => by rw [h23 63 (by decide) (by decide) (by decide) (by decide) (by decide) (by decide)]; exact hsy s8 (by omega) q hq) (hSi s8 (by omega)) hsx (by omega)) (cwV 2 hts gX7_markClass_X7_imageOf rfl rfl rfl (by decide +kernel) ⟨gle hRf rfl, gle hRl rfl⟩) rfl rfl hl.1 rfl (lv_room (Nat.le_of_ble_eq_true rfl)) dX7_markClass_89 ⟨hRc, hRs⟩) hS hA (fun y iv4 H locs hp4 hS => ?_)
                  obtain ⟨ey, f4⟩ := hp4
                  obtain ⟨z9, hz9⟩ : ∃ z9, z9 = img s8 (q9 i) := ⟨_, rfl⟩
                  rw [← himx (q9 i) hqi, ← hz9] at ey
                  have hzl : z9 < S8 := by rw [hz9]; exact (hij s8 (by omega) hgs).1 _ hqi
                  refine gx_as (y := nI z9) ey ?_
                  refine lv_istore (lv' := [(7, .int (nI z9)), (0, .ref (ad 53)), (2, .int (nI 1)), (3, .int (nI C3)), (4, .int (nI lv2)), (5, .int (nI i)), (6, .int (nI s8))]) hx hb dX7_markClass_92 hl (by decide) rfl (fun ls hl => ?_)
                  refine lv_aload_n hx hb dX7_markClass_94 rfl (lv_at hl 1 rfl) ?_
                  refine gx_get (ci := 10) (v := .ref (ad 62)) (C := RX7) (T := TX7) (N := 23) hx hb hts (fun _ h => inX7_markClass_RX7 h) hown hK hS 53 (by omega) rfl rfl 17 (by decide) (hts (.fieldLink RX7 36 "CosetTablesModel" "marks" "[I") (by decide +kernel)) rfl dX7_markClass_95 ?_
                  refine lv_iload hx hb dX7_markClass_98 (lv_at hl 0 rfl) ?_
                  refine gx_ialdn hx hb hK hS 62 (by omega) (by decide) z9 (by omega) (hln _) dX7_markClass_100 ?_
                  refine gx_as (y := (bz (mk3 z9))) (by rw [f4 62 (by decide) (by decide) (by decide) (by decide)]; exact t13 z9 hzl) ?_
                  refine lv_iload_n hx hb dX7_markClass_101 rfl (lv_at hl 2 rfl) ?_
                  refine lv_icmp_ne (tgt := 108) hx hb dX7_markClass_102 (by decide) (fun c_102 => ?_) (fun c_102 => ?_)
                  · skip
                    have hmz : mk3 z9 = false := by
                      cases u : mk3 z9
                      · rfl
                      · rw [u] at c_102; exact absurd rfl c_102
                    obtain ⟨hC4, hI4⟩ := mkI_add (s := s8) (i := i) hI3 (by omega) hgs (by omega) (by rw [hz9, hq3 i hiC]) hzl hmz
                    refine lv_aload_n hx hb dX7_markClass_108 rfl (lv_at hl 1 rfl) ?_
                    refine gx_get (ci := 10) (v := .ref (ad 62)) (C := RX7) (T := TX7) (N := 23) hx hb hts (fun _ h => inX7_markClass_RX7 h) hown hK hS 53 (by omega) rfl rfl 17 (by decide) (hts (.fieldLink RX7 36 "CosetTablesModel" "marks" "[I") (by decide +kernel)) rfl dX7_markClass_109 ?_
                    refine lv_iload hx hb dX7_markClass_112 (lv_at hl 0 rfl) ?_
                    refine lv_iload_n hx hb dX7_markClass_114 rfl (lv_at hl 2 rfl) ?_
                    refine gx_iastn hx hb hK hS 62 (by omega) (by decide) z9 (by omega) (hln _) dX7_markClass_115 (fun H locs hS => ?_)
                    obtain ⟨iv5, eiv5⟩ : ∃ z, z = up2 iv4 62 z9 (nI 1) := ⟨_, rfl⟩
                    rw [← eiv5] at hS
                    refine lv_aload_n hx hb dX7_markClass_116 rfl (lv_at hl 1 rfl) ?_
                    refine gx_get (ci := 10) (v := .ref (ad 61)) (C := RX7) (T := TX7) (N := 23) hx hb hts (fun _ h => inX7_markClass_RX7 h) hown hK hS 53 (by omega) rfl rfl 16 (by decide) (hts (.fieldLink RX7 33 "CosetTablesModel" "queue" "[I") (by decide +kernel)) rfl dX7_markClass_117 ?_
                    refine lv_iload_n hx hb dX7_markClass_120 rfl (lv_at hl 3 rfl) ?_
                    refine lv_iload hx hb dX7_markClass_121 (lv_at hl 0 rfl) ?_
                    refine gx_iastn hx hb hK hS 61 (by omega) (by decide) C3 (by omega) (hln _) dX7_markClass_123 (fun H locs hS => ?_)
                    obtain ⟨iv6, eiv6⟩ : ∃ z, z = up2 iv5 61 C3 (nI z9) := ⟨_, rfl⟩
                    rw [← eiv6] at hS
                    have t16 : ∀ x, x < S8 → iv6 62 x = bz (bup mk3 z9 x) := fun x hx => by
                      rw [eiv6, up2_row (by decide), eiv5, up2_eq]
                      by_cases e9 : x = z9
                      · rw [if_pos ⟨rfl, e9⟩, e9]; exact bz_s
                      · rw [if_neg (fun u => e9 u.2), f4 62 (by decide) (by decide) (by decide) (by decide), t13 x hx]; exact bz_n e9
                    have t26 : ∀ j, j < C3 + 1 → iv6 61 j = nI (va_up q3 C3 z9 j) := fun j hj => by
                      rw [eiv6, up2_eq]
                      by_cases e9 : j = C3
                      · rw [if_pos ⟨rfl, e9⟩, e9, va_up_self]
                      · rw [if_neg (fun u => e9 u.2), va_up_ne _ _ e9, eiv5, up2_row (by decide), f4 61 (by decide) (by decide) (by decide) (by decide)]; exact t23 j (by omega)
                    refine lv_iinc (v := nI (C3 + 1)) (lv' := [(3, .int (nI (C3 + 1))), (7, .int (nI z9)), (0, .ref (ad 53)), (2, .int (nI 1)), (4, .int (nI lv2)), (5, .int (nI i)), (6, .int (nI s8))]) hx hb dX7_markClass_124 hl (k := 3) rfl (nI_1 C3) (by decide) rfl (fun ls hl => ?_)
                    refine lv_iinc (v := nI (s8 + 1)) (lv' := [(6, .int (nI (s8 + 1))), (3, .int (nI (C3 + 1))), (7, .int (nI z9)), (0, .ref (ad 53)), (2, .int (nI 1)), (4, .int (nI lv2)), (5, .int (nI i))]) hx hb dX7_markClass_127 hl (k := 6) rfl (nI_1 s8) (by decide) rfl (fun ls hl => ?_)
                    refine lv_goto (tgt := 57) hx hb dX7_markClass_130 (by decide) ?_
                    exact ih57 (s8 + 1) (C3 + 1) lv2 (bup mk3 z9) (va_up q3 C3 z9) iv6 (by omega) hv1 hv2 (by omega) hI4 (by omega) (fun j hj => by rw [va_up_ne _ _ (by omega)]; exact hq3 j hj) (fun x u => bup_iff.mpr (Or.inl (hk3 x u))) (fun z hz hg => by rcases Nat.lt_or_ge z s8 with u | u; exact bup_iff.mpr (Or.inl (hd3 z u hg)); have e9 : z = s8 := (by omega); rw [e9, ← hz9]; exact bup_iff.mpr (Or.inr rfl)) t16 t26 (fun q x1 x2 x3 x4 x5 x6 => by rw [eiv6, up2_row x3, eiv5, up2_row x4, f4 q x1 x2 x5 x6, h23 q x1 x2 x3 x4 x5 x6]) _ _ _ hS (lv_sub hl [3, 4, 1, 5, 6, 0] rfl)
                  · skip
                    have hmz : mk3 z9 = true := by
                      cases u : mk3 z9
                      · rw [u] at c_102; exact absurd c_102 (by decide)
                      · rfl
                    refine lv_goto (tgt := 127) hx hb dX7_markClass_105 (by decide) ?_
                    refine lv_iinc (v := nI (s8 + 1)) (lv' := [(6, .int (nI (s8 + 1))), (7, .int (nI z9)), (0, .ref (ad 53)), (2, .int (nI 1)), (3, .int (nI C3)), (4, .int (nI lv2)), (5, .int (nI i))]) hx hb dX7_markClass_127 hl (k := 6) rfl (nI_1 s8) (by decide) rfl (fun ls hl => ?_)
                    refine lv_goto (tgt := 57) hx hb dX7_markClass_130 (by decide) ?_
                    exact ih57 (s8 + 1) C3 lv2 mk3 q3 iv4 (by omega) hv1 hv2 (by omega) hI3 hC3 hq3 hk3 (fun z hz hg => by rcases Nat.lt_or_ge z s8 with u | u; exact hd3 z u hg; have e9 : z = s8 := (by omega); rw [e9, ← hz9]; exact hmz) (fun x hx => by rw [f4 62 (by decide) (by decide) (by decide) (by decide)]; exact t13 x hx) (fun j hj => by rw [f4 61 (by decide) (by decide) (by decide) (by decide)]; exact t23 j hj) (fun q x1 x2 x3 x4 x5 x6 => by rw [f4 q x1 x2 x5 x6, h23 q x1 x2 x3 x4 x5 x6]) _ _ _ hS (lv_sub hl [2, 3, 4, 5, 6, 0] rfl)
                · skip
                  have hgn : ¬ gd s8 := fun u => by have := gb2.mpr u; rw [this] at c_73; exact absurd c_73 (by decide)
                  refine lv_goto (tgt := 127) hx hb dX7_markClass_76 (by decide) ?_
                  refine lv_iinc (v := nI (s8 + 1)) (lv' := [(6, .int (nI (s8 + 1))), (0, .ref (ad 53)), (2, .int (nI 1)), (3, .int (nI C3)), (4, .int (nI lv2)), (5, .int (nI i))]) hx hb dX7_markClass_127 hl (k := 5) rfl (nI_1 s8) (by decide) rfl (fun ls hl => ?_)
                  refine lv_goto (tgt := 57) hx hb dX7_markClass_130 (by decide) ?_
                  exact ih57 (s8 + 1) C3 lv2 mk3 q3 iv3 (by omega) hv1 hv2 (by omega) hI3 hC3 hq3 hk3 (fun z hz hg => by rcases Nat.lt_or_ge z s8 with u | u; exact hd3 z u hg; have e9 : z = s8 := (by omega); rw [e9] at hg; exact absurd hg hgn) t13 t23 h23 _ _ _ hS (lv_sub hl [1, 2, 3, 4, 5, 0] rfl)
          exact L57 _ 0 C _ mk q9 iv2 (Nat.lt_succ_self _) (by first | exact hlv | exact ⟨i, hiC, rfl⟩) (fun j hj => by rcases Nat.lt_or_ge j i with u | u; (have := hl2 j u; omega); (have e9 : j = i := (by omega); rw [e9]; omega)) (Nat.zero_le _) hI (Nat.le_refl _) (fun _ _ => rfl) (fun _ u => u) lt_0 t1 t2 h2 _ _ _ hS (lv_sub hl [2, 3, 4, 1, 5, 0] rfl)
        · skip
          rw [nI_leI (by omega) (by omega)] at c_37
          refine lv_aload_n hx hb dX7_markClass_40 rfl (lv_at hl 0 rfl) ?_
          refine gx_get (ci := 10) (v := .ref (ad 61)) (C := RX7) (T := TX7) (N := 23) hx hb hts (fun _ h => inX7_markClass_RX7 h) hown hK hS 53 (by omega) rfl rfl 16 (by decide) (hts (.fieldLink RX7 33 "CosetTablesModel" "queue" "[I") (by decide +kernel)) rfl dX7_markClass_41 ?_
          refine lv_iload hx hb dX7_markClass_44 (lv_at hl 4 rfl) ?_
          refine gx_ialdn hx hb hK hS 61 (by omega) (by decide) i (by omega) (hln _) dX7_markClass_46 ?_
          refine gx_as (y := nI (q9 i)) (t2 i hiC) ?_
          refine lv_goto (tgt := 52) hx hb dX7_markClass_47 (by decide) ?_
          refine lv_istore (lv' := [(4, .int (nI (q9 i))), (0, .ref (ad 53)), (2, .int (nI 1)), (3, .int (nI C)), (5, .int (nI i))]) hx hb dX7_markClass_52 hl (by decide) rfl (fun ls hl => ?_)
          refine lv_iconst (v := nI 0) hx hb dX7_markClass_54 (by decide) ?_
          refine lv_istore (lv' := [(6, .int (nI 0)), (4, .int (nI (q9 i))), (0, .ref (ad 53)), (2, .int (nI 1)), (3, .int (nI C)), (5, .int (nI i))]) hx hb dX7_markClass_55 hl (by decide) rfl (fun ls hl => ?_)
          have L57 : ∀ (N : Nat) (s8 C3 lv2 : Nat) (mk3 : Nat → Bool) (q3 : Nat → Nat) (iv3 : Nat → Nat → Int32), sc9 - s8 < N → (∃ j, j < C ∧ q9 j = lv2) → (∀ j, j < i + 1 → lv2 ≤ q9 j) → (s8 ≤ sc9) → (mkI S8 img gd sc9 x0 M mk3 q3 C3) → (C ≤ C3) → (∀ j, j < C → q3 j = q9 j) → (∀ x, mk x = true → mk3 x = true) → (∀ z, z < s8 → gd z → mk3 (img z (q9 i)) = true) → (∀ x, x < S8 → iv3 62 x = bz (mk3 x)) → (∀ j, j < C3 → iv3 61 j = nI (q3 j)) → (∀ q, q ≠ 58 → q ≠ 59 → q ≠ 61 → q ≠ 62 → q ≠ 64 → q ≠ 65 → iv3 q = iv q) → ∀ (H : Heap) (locs : List Loc) (ls : Array Slot), gS D cA A H0 o ad ln iv3 n H locs → lv_has ls 8 [(0, .ref (ad 53)), (2, .int (nI 1)), (3, .int (nI C3)), (4, .int (nI lv2)), (5, .int (nI i)), (6, .int (nI s8))] → W p l e R s m args below meth c H locs cells slots Q (F0 m 57 ls []) := by
            intro N
            induction N with
            | zero => intro s8 C3 lv2 mk3 q3 iv3 hm; exact absurd hm (Nat.not_lt_zero _)
            | succ N ih57 =>
              intro s8 C3 lv2 mk3 q3 iv3 hm hv1 hv2 hs8 hI3 hC3 hq3 hk3 hd3 t13 t23 h23 H locs ls hS hl
              have hCS3 := inj_le_P hI3.1
              have p53 : iv3 53 = iv 53 := h23 53 (by decide) (by decide) (by decide) (by decide) (by decide) (by decide)
              refine lv_iload hx hb dX7_markClass_57 (lv_at hl 5 rfl) ?_
              refine lv_aload_n hx hb dX7_markClass_59 rfl (lv_at hl 0 rfl) ?_
              refine gx_get (ci := 10) (v := .int (iv3 53 18)) (C := RX7) (T := TX7) (N := 23) hx hb hts (fun _ h => inX7_markClass_RX7 h) hown hK hS 53 (by omega) rfl rfl 18 (by decide) (hts (.fieldLink RX7 132 "CosetTablesModel" "symmetries" "I") (by decide +kernel)) rfl dX7_markClass_60 ?_
              refine gx_as (y := nI sc9) (by rw [p53]; exact hs0) ?_
              refine lv_icmp_ge (tgt := 133) hx hb dX7_markClass_63 (by decide) (fun c_63 => ?_) (fun c_63 => ?_)
              · skip
                rw [nI_leI (by omega) (by omega)] at c_63
                have es : s8 = sc9 := by omega
                rw [es] at hd3
                have hdn : ∀ j, j < i + 1 → ∀ z, z < sc9 → gd z → mk3 (img z (q3 j)) = true := fun j hj z h1 h2 => by
                  rw [hq3 j (by omega)]
                  rcases Nat.lt_or_ge j i with u | u
                  · exact hk3 _ (hd j u z h1 h2)
                  · rw [show j = i by omega]; exact hd3 z h1 h2
                refine lv_iinc (v := nI (i + 1)) (lv' := [(5, .int (nI (i + 1))), (0, .ref (ad 53)), (2, .int (nI 1)), (3, .int (nI C3)), (4, .int (nI lv2)), (6, .int (nI s8))]) hx hb dX7_markClass_133 hl (k := 4) rfl (nI_1 i) (by decide) rfl (fun ls hl => ?_)
                refine lv_goto (tgt := 22) hx hb dX7_markClass_136 (by decide) ?_
                exact ih22 (i + 1) C3 lv2 mk3 q3 iv3 (by omega) (by omega) hI3 hdn (by obtain ⟨j, j1, j2⟩ := hv1; exact ⟨j, by omega, by rw [hq3 j j1]; exact j2⟩) (fun j hj => by rw [hq3 j (by omega)]; exact hv2 j hj) t13 t23 h23 _ _ _ hS (lv_sub hl [1, 2, 3, 4, 0] rfl)
              · skip
                rw [nI_leI (by omega) (by omega)] at c_63
                obtain ⟨gb1, gb2⟩ := hgb s8 (by omega)
                refine lv_aload_n hx hb dX7_markClass_66 rfl (lv_at hl 0 rfl) ?_
                refine gx_get (ci := 10) (v := .ref (ad 66)) (C := RX7) (T := TX7) (N := 23) hx hb hts (fun _ h => inX7_markClass_RX7 h) hown hK hS 53 (by omega) rfl rfl 22 (by decide) (hts (.fieldLink RX7 48 "CosetTablesModel" "isGoods" "[Z") (by decide +kernel)) rfl dX7_markClass_67 ?_
                refine lv_iload hx hb dX7_markClass_70 (lv_at hl 5 rfl) ?_
                refine gx_zaldn hx hb hK hS 66 (by omega) (by decide) s8 (by omega) (hln _) dX7_markClass_72 ?_
                refine gx_as (y := (iv 66 s8)) (by rw [h23 66 (by decide) (by decide) (by decide) (by decide) (by decide) (by decide)]) ?_
                refine lv_if_ne (tgt := 79) hx hb dX7_markClass_73 (by decide) (fun c_73 => ?_) (fun c_73 => ?_)
                · skip
                  have hgs : gd s8 := gb2.mp (gb1.resolve_left c_73)
                  obtain ⟨hsx, himx⟩ := him s8 (by omega) hgs
                  refine lv_aload_n hx hb dX7_markClass_79 rfl (lv_at hl 0 rfl) ?_
                  refine lv_aload_n hx hb dX7_markClass_80 rfl (lv_at hl 0 rfl) ?_
                  refine gx_get (ci := 10) (v := .ref (ad 61)) (C := RX7) (T := TX7) (N := 23) hx hb hts (fun _ h => inX7_markClass_RX7 h) hown hK hS 53 (by omega) rfl rfl 16 (by decide) (hts (.fieldLink RX7 33 "CosetTablesModel" "queue" "[I") (by decide +kernel)) rfl dX7_markClass_81 ?_
                  refine lv_iload hx hb dX7_markClass_84 (lv_at hl 4 rfl) ?_
                  refine gx_ialdn hx hb hK hS 61 (by omega) (by decide) i (by omega) (hln _) dX7_markClass_86 ?_
                  refine gx_as (y := nI (q9 i)) (by rw [t23 i (by omega), hq3 i hiC]) ?_
                  refine lv_iload hx hb dX7_markClass_87 (lv_at hl 5 rfl) ?_
                  refine gc_i (gx_runV (As := [.int (nI (q9 i)), .int (nI s8)]) (rest := []) ⟨hx, hb, hml, hown, hts⟩ hK hN hS 53 (by omega) rfl rfl (ct_X7_imageOf l D cA o ad ln n H.size iv3 (x := q9 i) (s8 := s8) (P := P) (c9 := c9) (T := T) (Sg := Sg s8) (si := si s8) (pc9 := pc9) hn hln hRn9 (by rw [p53]; exact hc9) hc4 (by rw [p53]; exact hT0) hT1 hT3 (by rw [p53]; exact hP0) hP (by rw [h23 57 (by decide) (by decide) (by decide) (by decide) (by decide) (by decide)]; exact hpc) hpi (by omega) (fun q hq => by rw [h23 63 (by decide) (by decide) (by decide) (by decide) (by decide) (by decide)]; exact hsy s8 (by omega) q hq) (hSi s8 (by omega)) hsx (by omega)) (cwV 2 hts gX7_markClass_X7_imageOf rfl rfl rfl (by decide +kernel) ⟨gle hRf rfl, gle hRl rfl⟩) rfl rfl hl.1 rfl (lv_room (Nat.le_of_ble_eq_true rfl)) dX7_markClass_89 ⟨hRc, hRs⟩) hS hA (fun y iv4 H locs hp4 hS => ?_)
                  obtain ⟨ey, f4⟩ := hp4
                  obtain ⟨z9, hz9⟩ : ∃ z9, z9 = img s8 (q9 i) := ⟨_, rfl⟩
                  rw [← himx (q9 i) hqi, ← hz9] at ey
                  have hzl : z9 < S8 := by rw [hz9]; exact (hij s8 (by omega) hgs).1 _ hqi
                  refine gx_as (y := nI z9) ey ?_
                  refine lv_istore (lv' := [(7, .int (nI z9)), (0, .ref (ad 53)), (2, .int (nI 1)), (3, .int (nI C3)), (4, .int (nI lv2)), (5, .int (nI i)), (6, .int (nI s8))]) hx hb dX7_markClass_92 hl (by decide) rfl (fun ls hl => ?_)
                  refine lv_aload_n hx hb dX7_markClass_94 rfl (lv_at hl 1 rfl) ?_
                  refine gx_get (ci := 10) (v := .ref (ad 62)) (C := RX7) (T := TX7) (N := 23) hx hb hts (fun _ h => inX7_markClass_RX7 h) hown hK hS 53 (by omega) rfl rfl 17 (by decide) (hts (.fieldLink RX7 36 "CosetTablesModel" "marks" "[I") (by decide +kernel)) rfl dX7_markClass_95 ?_
                  refine lv_iload hx hb dX7_markClass_98 (lv_at hl 0 rfl) ?_
                  refine gx_ialdn hx hb hK hS 62 (by omega) (by decide) z9 (by omega) (hln _) dX7_markClass_100 ?_
                  refine gx_as (y := (bz (mk3 z9))) (by rw [f4 62 (by decide) (by decide) (by decide) (by decide)]; exact t13 z9 hzl) ?_
                  refine lv_iload_n hx hb dX7_markClass_101 rfl (lv_at hl 2 rfl) ?_
                  refine lv_icmp_ne (tgt := 108) hx hb dX7_markClass_102 (by decide) (fun c_102 => ?_) (fun c_102 => ?_)
                  · skip
                    have hmz : mk3 z9 = false := by
                      cases u : mk3 z9
                      · rfl
                      · rw [u] at c_102; exact absurd rfl c_102
                    obtain ⟨hC4, hI4⟩ := mkI_add (s := s8) (i := i) hI3 (by omega) hgs (by omega) (by rw [hz9, hq3 i hiC]) hzl hmz
                    refine lv_aload_n hx hb dX7_markClass_108 rfl (lv_at hl 1 rfl) ?_
                    refine gx_get (ci := 10) (v := .ref (ad 62)) (C := RX7) (T := TX7) (N := 23) hx hb hts (fun _ h => inX7_markClass_RX7 h) hown hK hS 53 (by omega) rfl rfl 17 (by decide) (hts (.fieldLink RX7 36 "CosetTablesModel" "marks" "[I") (by decide +kernel)) rfl dX7_markClass_109 ?_
                    refine lv_iload hx hb dX7_markClass_112 (lv_at hl 0 rfl) ?_
                    refine lv_iload_n hx hb dX7_markClass_114 rfl (lv_at hl 2 rfl) ?_
                    refine gx_iastn hx hb hK hS 62 (by omega) (by decide) z9 (by omega) (hln _) dX7_markClass_115 (fun H locs hS => ?_)
                    obtain ⟨iv5, eiv5⟩ : ∃ z, z = up2 iv4 62 z9 (nI 1) := ⟨_, rfl⟩
                    rw [← eiv5] at hS
                    refine lv_aload_n hx hb dX7_markClass_116 rfl (lv_at hl 1 rfl) ?_
                    refine gx_get (ci := 10) (v := .ref (ad 61)) (C := RX7) (T := TX7) (N := 23) hx hb hts (fun _ h => inX7_markClass_RX7 h) hown hK hS 53 (by omega) rfl rfl 16 (by decide) (hts (.fieldLink RX7 33 "CosetTablesModel" "queue" "[I") (by decide +kernel)) rfl dX7_markClass_117 ?_
                    refine lv_iload_n hx hb dX7_markClass_120 rfl (lv_at hl 3 rfl) ?_
                    refine lv_iload hx hb dX7_markClass_121 (lv_at hl 0 rfl) ?_
                    refine gx_iastn hx hb hK hS 61 (by omega) (by decide) C3 (by omega) (hln _) dX7_markClass_123 (fun H locs hS => ?_)
                    obtain ⟨iv6, eiv6⟩ : ∃ z, z = up2 iv5 61 C3 (nI z9) := ⟨_, rfl⟩
                    rw [← eiv6] at hS
                    have t16 : ∀ x, x < S8 → iv6 62 x = bz (bup mk3 z9 x) := fun x hx => by
                      rw [eiv6, up2_row (by decide), eiv5, up2_eq]
                      by_cases e9 : x = z9
                      · rw [if_pos ⟨rfl, e9⟩, e9]; exact bz_s
                      · rw [if_neg (fun u => e9 u.2), f4 62 (by decide) (by decide) (by decide) (by decide), t13 x hx]; exact bz_n e9
                    have t26 : ∀ j, j < C3 + 1 → iv6 61 j = nI (va_up q3 C3 z9 j) := fun j hj => by
                      rw [eiv6, up2_eq]
                      by_cases e9 : j = C3
                      · rw [if_pos ⟨rfl, e9⟩, e9, va_up_self]
                      · rw [if_neg (fun u => e9 u.2), va_up_ne _ _ e9, eiv5, up2_row (by decide), f4 61 (by decide) (by decide) (by decide) (by decide)]; exact t23 j (by omega)
                    refine lv_iinc (v := nI (C3 + 1)) (lv' := [(3, .int (nI (C3 + 1))), (7, .int (nI z9)), (0, .ref (ad 53)), (2, .int (nI 1)), (4, .int (nI lv2)), (5, .int (nI i)), (6, .int (nI s8))]) hx hb dX7_markClass_124 hl (k := 3) rfl (nI_1 C3) (by decide) rfl (fun ls hl => ?_)
                    refine lv_iinc (v := nI (s8 + 1)) (lv' := [(6, .int (nI (s8 + 1))), (3, .int (nI (C3 + 1))), (7, .int (nI z9)), (0, .ref (ad 53)), (2, .int (nI 1)), (4, .int (nI lv2)), (5, .int (nI i))]) hx hb dX7_markClass_127 hl (k := 6) rfl (nI_1 s8) (by decide) rfl (fun ls hl => ?_)
                    refine lv_goto (tgt := 57) hx hb dX7_markClass_130 (by decide) ?_
                    exact ih57 (s8 + 1) (C3 + 1) lv2 (bup mk3 z9) (va_up q3 C3 z9) iv6 (by omega) hv1 hv2 (by omega) hI4 (by omega) (fun j hj => by rw [va_up_ne _ _ (by omega)]; exact hq3 j hj) (fun x u => bup_iff.mpr (Or.inl (hk3 x u))) (fun z hz hg => by rcases Nat.lt_or_ge z s8 with u | u; exact bup_iff.mpr (Or.inl (hd3 z u hg)); have e9 : z = s8 := (by omega); rw [e9, ← hz9]; exact bup_iff.mpr (Or.inr rfl)) t16 t26 (fun q x1 x2 x3 x4 x5 x6 => by rw [eiv6, up2_row x3, eiv5, up2_row x4, f4 q x1 x2 x5 x6, h23 q x1 x2 x3 x4 x5 x6]) _ _ _ hS (lv_sub hl [3, 4, 1, 5, 6, 0] rfl)
                  · skip
                    have hmz : mk3 z9 = true := by
                      cases u : mk3 z9
                      · rw [u] at c_102; exact absurd c_102 (by decide)
                      · rfl
                    refine lv_goto (tgt := 127) hx hb dX7_markClass_105 (by decide) ?_
                    refine lv_iinc (v := nI (s8 + 1)) (lv' := [(6, .int (nI (s8 + 1))), (7, .int (nI z9)), (0, .ref (ad 53)), (2, .int (nI 1)), (3, .int (nI C3)), (4, .int (nI lv2)), (5, .int (nI i))]) hx hb dX7_markClass_127 hl (k := 6) rfl (nI_1 s8) (by decide) rfl (fun ls hl => ?_)
                    refine lv_goto (tgt := 57) hx hb dX7_markClass_130 (by decide) ?_
                    exact ih57 (s8 + 1) C3 lv2 mk3 q3 iv4 (by omega) hv1 hv2 (by omega) hI3 hC3 hq3 hk3 (fun z hz hg => by rcases Nat.lt_or_ge z s8 with u | u; exact hd3 z u hg; have e9 : z = s8 := (by omega); rw [e9, ← hz9]; exact hmz) (fun x hx => by rw [f4 62 (by decide) (by decide) (by decide) (by decide)]; exact t13 x hx) (fun j hj => by rw [f4 61 (by decide) (by decide) (by decide) (by decide)]; exact t23 j hj) (fun q x1 x2 x3 x4 x5 x6 => by rw [f4 q x1 x2 x5 x6, h23 q x1 x2 x3 x4 x5 x6]) _ _ _ hS (lv_sub hl [2, 3, 4, 5, 6, 0] rfl)
                · skip
                  have hgn : ¬ gd s8 := fun u => by have := gb2.mpr u; rw [this] at c_73; exact absurd c_73 (by decide)
                  refine lv_goto (tgt := 127) hx hb dX7_markClass_76 (by decide) ?_
                  refine lv_iinc (v := nI (s8 + 1)) (lv' := [(6, .int (nI (s8 + 1))), (0, .ref (ad 53)), (2, .int (nI 1)), (3, .int (nI C3)), (4, .int (nI lv2)), (5, .int (nI i))]) hx hb dX7_markClass_127 hl (k := 5) rfl (nI_1 s8) (by decide) rfl (fun ls hl => ?_)
                  refine lv_goto (tgt := 57) hx hb dX7_markClass_130 (by decide) ?_
                  exact ih57 (s8 + 1) C3 lv2 mk3 q3 iv3 (by omega) hv1 hv2 (by omega) hI3 hC3 hq3 hk3 (fun z hz hg => by rcases Nat.lt_or_ge z s8 with u | u; exact hd3 z u hg; have e9 : z = s8 := (by omega); rw [e9] at hg; exact absurd hg hgn) t13 t23 h23 _ _ _ hS (lv_sub hl [1, 2, 3, 4, 5, 0] rfl)
          exact L57 _ 0 C _ mk q9 iv2 (Nat.lt_succ_self _) (by first | exact hlv | exact ⟨i, hiC, rfl⟩) (fun j hj => by rcases Nat.lt_or_ge j i with u | u; (have := hl2 j u; omega); (have e9 : j = i := (by omega); rw [e9]; omega)) (Nat.zero_le _) hI (Nat.le_refl _) (fun _ _ => rfl) (fun _ u => u) lt_0 t1 t2 h2 _ _ _ hS (lv_sub hl [2, 3, 4, 1, 5, 0] rfl)
  exact L22 _ 0 1 x0 (bup M x0) (fun _ => x0) iv1 (Nat.lt_succ_self _) (Nat.zero_le _) (mkI_0 hx0 hM0) lt_0 ⟨0, by omega, rfl⟩ lt_0 (fun x hx => by rw [eiv1, up2_eq]; by_cases e9 : x = x0 <;> first | (rw [if_pos ⟨rfl, e9⟩, e9]; exact bz_s) | (rw [if_neg (fun u => e9 u.2), eiv0, up2_row (by decide), hM9 x hx]; exact bz_n e9)) (fun j hj => by rw [eiv1, up2_row (by decide), eiv0, show j = 0 by omega, up2_s]) (fun q x1 x2 x3 x4 x5 x6 => by rw [eiv1, up2_row x4, eiv0, up2_row x3]) _ _ _ hS (lv_sub hl [3, 5, 2, 1, 0] rfl)
set_option maxRecDepth 100000 in
theorem ct_X7_markClass (l : Launch) (D : va_G) (cA : Nat → ClassId) (o : Nat → Int64) (ad ln : Nat → Nat) (n sz : Nat) (iv : Nat → Nat → Int32) (x0 P T c9 S8 sc9 : Nat) (pc9 : Nat → Nat) (Sg si img : Nat → Nat → Nat) (gd : Nat → Prop) (M : Nat → Bool) (hn : 68 ≤ n) (hln : ∀ k, ln k < 2 ^ 31) (hRn : rln ln) (hc9 : iv 53 7 = nI c9) (hc4 : c9 ≤ 4) (hT0 : iv 53 2 = nI T) (hT1 : 0 < T) (hT3 : T ≤ 3) (hP0 : iv 53 1 = nI P) (hP : P ≤ 8) (hpc : ∀ i, i < c9 → iv 57 i = nI (pc9 i)) (hpi : inj pc9 P c9) (hS8 : S8 = ff P c9 * T ^ c9) (hS9 : S8 ≤ 136080) (hs0 : iv 53 18 = nI sc9) (hs4 : sc9 ≤ 4) (hsy : ∀ z, z < sc9 → rsym iv z P (Sg z)) (hSi : ∀ z, z < sc9 → inj (Sg z) P P) (him : ∀ z, z < sc9 → gd z → symIx (Sg z) pc9 (si z) c9 ∧ ∀ x, x < S8 → img z x = imN P T c9 (Sg z) (si z) x) (hgb : ∀ z, z < sc9 → (iv 66 z = 0 ∨ iv 66 z = 1) ∧ (iv 66 z = 1 ↔ gd z)) (hx0 : x0 < S8) (hM9 : ∀ x, x < S8 → iv 62 x = bz (M x)) (hM0 : M x0 = false) (hMc : ∀ z x, z < sc9 → gd z → x < S8 → M (img z x) = M x) : gMi l yX7_markClass wsX7_markClass { frames := 3, cells := 0, slots := 0, locals := 72 } D cA o ad ln n sz iv [.ref (ad 53), .int (nI x0), .int (nI 1)] (fun (r : Int32) iv' => ∃ (lv : Nat) (M' : Nat → Bool), r = nI lv ∧ lv < S8 ∧ eqg (relS S8 img gd sc9) x0 lv ∧ (∀ x, eqg (relS S8 img gd sc9) x0 x → lv ≤ x) ∧ (∀ x, x < S8 → (M' x = true ↔ M x = true ∨ eqg (relS S8 img gd sc9) x0 x)) ∧ (∀ x, x < S8 → iv' 62 x = bz (M' x)) ∧ ∀ q, q ≠ 58 → q ≠ 59 → q ≠ 61 → q ≠ 62 → q ≠ 64 → q ≠ 65 → iv' q = iv q) := by
  refine Met.ofW (cc := cX7_markClass) (maxL := 8) (ret := (some .int)) (by decide) rfl ?_
  intro p e s m args below meth c s₁ B hml hv__
  obtain ⟨rfl, hv__⟩ := hv__
  obtain ⟨hsz, hS, hK, hN, hA⟩ := gS.entry hv__
  have hl := lv_entry ([.ref (ad 53), .int (nI x0), .int (nI 1)]) (n := 8) (Nat.le_of_ble_eq_true rfl)
  rw [lg_entry_eq]
  generalize (lg_sl ([.ref (ad 53), .int (nI x0), .int (nI 1)]) ++ List.replicate (8 - (lg_sl ([.ref (ad 53), .int (nI x0), .int (nI 1)])).length) Slot.unset).toArray = ls at hl ⊢
  exact bd_X7_markClass (x0 := x0) (P := P) (T := T) (c9 := c9) (S8 := S8) (sc9 := sc9) (pc9 := pc9) (Sg := Sg) (si := si) (img := img) (gd := gd) (M := M) ⟨B.exec, B.bytes, hml, findClass_of_methodNamed B.named, atoms_spec (ws := wsX7_markClass) B.pre, B.returns, B.notSynchronized⟩ (Nat.le_refl _) (Nat.le_refl _) (Nat.le_refl _) (Nat.le_refl _) hK hN hA hn hln hRn hc9 hc4 hT0 hT1 hT3 hP0 hP hpc hpi hS8 hS9 hs0 hs4 hsy hSi him hgb hx0 hM9 hM0 hMc hS hl (fun r iv' H locs ls pc hd hp hS => gx_iret B.exec B.bytes B.returns B.notSynchronized hS hp hd)

theorem inX7_least_RX7 : ∀ {w : Cond}, w ∈ u_ws RX7 TX7 23 → w ∈ wsX7_least := fun {w} h => by first | exact List.mem_cons_of_mem _ (List.mem_append_right _ h) | (revert h; revert w; show ∀ w ∈ u_ws RX7 TX7 23, w ∈ wsX7_least; decide +kernel)
set_option maxHeartbeats 1000000 in
set_option maxRecDepth 100000 in
theorem bd_X7_least {p : Program} {l : Launch} {e : Env} {R : Room} {s : State} {m : MethodId} {args : Array Value} {below : List Frame} {meth : Method} {c : Code} {H : Heap} {locs : List Loc} {cells slots : Nat} {Q : State → Prop} {ls : Array Slot} {D : va_G} {A : Nat → Prop} {H0 : Heap} {cA : Nat → ClassId} {o : Nat → Int64} {ad ln : Nat → Nat} {iv : Nat → Nat → Int32} {n : Nat} {x : Nat} {P T c9 S8 mc9 sc9 : Nat} {pc9 : Nat → Nat} {Sg si img G9 Ad : Nat → Nat → Nat} {ch : Nat → Bool} {gd : Nat → Prop}
    (F : gF p s m meth c cX7_least 2 RX7 wsX7_least args (some .int)) (hRf : 4 ≤ R.frames) (hRl : 99 ≤ R.locals) (hRc : cells ≤ R.cells) (hRs : slots ≤ R.slots) (hK : va_K D vwCl (gT cA) s) (hN : NW s) (hA : ∀ q, H0.size ≤ q → A q) (hn : 68 ≤ n) (hln : ∀ k, ln k < 2 ^ 31) (hRn : rln ln) (hc9 : iv 53 7 = nI c9) (hc4 : c9 ≤ 4) (hT0 : iv 53 2 = nI T) (hT1 : 0 < T) (hT3 : T ≤ 3) (hP0 : iv 53 1 = nI P) (hP : P ≤ 8) (hpc : ∀ i, i < c9 → iv 57 i = nI (pc9 i)) (hpi : inj pc9 P c9) (hS8 : S8 = ff P c9 * T ^ c9) (hS9 : S8 ≤ 136080) (hs0 : iv 53 18 = nI sc9) (hs4 : sc9 ≤ 4) (hsy : ∀ z, z < sc9 → rsym iv z P (Sg z)) (hmc : iv 53 3 = nI mc9) (hmc6 : mc9 ≤ 6) (hmv : ∀ j, j < mc9 → rmove iv j P T (G9 j) (Ad j)) (hch : ∀ p, p < P → iv 56 p = if ch p then 1 else 0) (hgd : ∀ z, z < sc9 → (gd z ↔ ((∀ p, p < P → ch p = ch (Sg z p)) ∧ ∀ j, j < mc9 → ∃ i, i < mc9 ∧ imgN P (Sg z) (G9 j) (Ad j) (G9 i) (Ad i)))) (hSi : ∀ z, z < sc9 → inj (Sg z) P P) (him : ∀ z, z < sc9 → gd z → symIx (Sg z) pc9 (si z) c9 ∧ ∀ x, x < S8 → img z x = imN P T c9 (Sg z) (si z) x) (hx9 : x < S8)
    (hS : gS D cA A H0 o ad ln iv n H locs) (hl : lv_has ls 2 [(0, .ref (ad 53)), (1, .int (nI x))])
    (kret : ∀ (r : Int32) (iv' : Nat → Nat → Int32) (H : Heap) (locs : List Loc) (ls : Array Slot) (pc : Nat), decode cX7_least pc = .ok (.ireturn, 1) → ((∃ lv, r = nI lv ∧ lv < S8 ∧ eqg (relS S8 img gd sc9) x lv ∧ ∀ y, eqg (relS S8 img gd sc9) x y → lv ≤ y) ∧ (iv' 53 0 = 0 ∧ ∀ j, j ≠ 0 → iv' 53 j = iv 53 j) ∧ ∀ q, q ≠ 53 → q ≠ 58 → q ≠ 59 → q ≠ 61 → q ≠ 62 → q ≠ 64 → q ≠ 65 → q ≠ 66 → iv' q = iv q) → gS D cA A H0 o ad ln iv' n H locs → W p l e R s m args below meth c H locs cells slots Q (F0 m pc ls [.int r])) :
    W p l e R s m args below meth c H locs cells slots Q (F0 m 0 ls []) := by
  obtain ⟨hx, hb, hml, hown, hts, hr, hlocks⟩ := F
  have hRn9 := hRn
  obtain ⟨r54, r55, r56, r57, r58, r59, r60, r61, r62, r63, r64, r65, r66⟩ := hRn
  have hcP := inj_le_P hpi
  have hok : ok9 (nI x) (nI (ff P c9 * T ^ c9)) := by rw [← hS8]; exact ok9_nI hx9 (by omega)
  refine lv_aload_n hx hb dX7_least_0 rfl (lv_at hl 0 rfl) ?_
  refine lv_iconst (v := nI 1) hx hb dX7_least_1 (by decide) ?_
  refine lv_aload_n hx hb dX7_least_2 rfl (lv_at hl 0 rfl) ?_
  refine lv_iload_n hx hb dX7_least_3 rfl (lv_at hl 1 rfl) ?_
  refine gc_i (gx_runV (As := [.int (nI x)]) (rest := [.int (nI 1), .ref (ad 53)]) ⟨hx, hb, hml, hown, hts⟩ hK hN hS 53 (by omega) rfl rfl (ct_X7_isState l D cA o ad ln n H.size iv (x := nI x) (P := P) (c9 := c9) (T := T) hn hln hc9 hc4 hT0 hT1 hT3 hP0 hP hcP) (cwV 1 hts gX7_least_X7_isState rfl rfl rfl (by decide +kernel) ⟨gle hRf rfl, gle hRl rfl⟩) rfl rfl hl.1 rfl (lv_room (Nat.le_of_ble_eq_true rfl)) dX7_least_4 ⟨hRc, hRs⟩) hS hA (fun y1 iv1 H locs hp1 hS => ?_)
  obtain ⟨h011, hi1, ev1⟩ := hp1
  rw [ev1] at hS
  skip
  refine lv_if_ne (tgt := 14) hx hb dX7_least_7 (by decide) (fun c_7 => ?_) (fun c_7 => ?_)
  · skip
    refine lv_iconst (v := nI 0) hx hb dX7_least_14 (by decide) ?_
    refine gc_i (gx_runV (As := [.int (nI 1), .int (nI 0)]) (rest := []) ⟨hx, hb, hml, hown, hts⟩ hK hN hS 53 (by omega) rfl rfl (ct_X7_throwsIf l D cA o ad ln n H.size iv (x := nI 1) (v := nI 0) hn hln (Or.inl rfl)) (cwV 2 hts gX7_least_X7_throwsIf rfl rfl rfl (by decide +kernel) ⟨gle hRf rfl, gle hRl rfl⟩) rfl rfl hl.1 rfl (lv_room (Nat.le_of_ble_eq_true rfl)) dX7_least_15 ⟨hRc, hRs⟩) hS hA (fun z iv4 H locs hp4 hS => ?_)
    obtain ⟨_, ez, et⟩ := hp4
    have et : iv4 = up2 iv 53 0 0 := et
    refine gx_as (y := nI 0) ez ?_
    refine lv_if_eq (tgt := 23) hx hb dX7_least_18 (by decide) (fun c_18 => ?_) (fun c_18 => ?_)
    · skip
      rw [show (0 : Int32) = nI 0 from rfl] at c_18
      rw [nI_eq (by omega) (by omega)] at c_18
      refine lv_aload_n hx hb dX7_least_23 rfl (lv_at hl 0 rfl) ?_
      refine gc_v (gx_runV (As := []) (rest := []) ⟨hx, hb, hml, hown, hts⟩ hK hN hS 53 (by omega) rfl rfl (ct_X7_prepare l D cA o ad ln n H.size iv4 (P := P) (T := T) (c9 := c9) (S8 := S8) (mc9 := mc9) (sc9 := sc9) (Sg := Sg) (G9 := G9) (Ad := Ad) (ch := ch) (gd := gd) hn hln hRn9 (by rw [et, up2_n (by decide)]; exact hc9) hc4 (by rw [et, up2_n (by decide)]; exact hT0) hT1 hT3 (by rw [et, up2_n (by decide)]; exact hP0) hP hcP hS8 hS9 (by rw [et, up2_n (by decide)]; exact hs0) hs4 (fun z hz q hq => by rw [et, up2_row (by decide)]; exact hsy z hz q hq) (by rw [et, up2_n (by decide)]; exact hmc) hmc6 (fun j hj q hq => by rw [et, up2_row (by decide), up2_row (by decide)]; exact hmv j hj q hq) (fun p hp => by rw [et, up2_row (by decide)]; exact hch p hp) hgd) (cwV 0 hts gX7_least_X7_prepare rfl rfl rfl (by decide +kernel) ⟨gle hRf rfl, gle hRl rfl⟩) rfl rfl hl.1 rfl (lv_room (Nat.le_of_ble_eq_true rfl)) dX7_least_24 ⟨hRc, hRs⟩) hS hA (fun iv5 H locs hp5 hS => ?_)
      obtain ⟨b1, b2, b3⟩ := hp5
      have o53 : ∀ j, j ≠ 0 → iv5 53 j = iv 53 j := fun j hj => by rw [b3 53 (by decide) (by decide), et, up2_n (fun u => hj u.2)]
      have o57 : iv5 57 = iv 57 := by rw [b3 57 (by decide) (by decide), et, up2_row (by decide)]
      have o63 : iv5 63 = iv 63 := by rw [b3 63 (by decide) (by decide), et, up2_row (by decide)]
      refine lv_aload_n hx hb dX7_least_27 rfl (lv_at hl 0 rfl) ?_
      refine lv_iload_n hx hb dX7_least_28 rfl (lv_at hl 1 rfl) ?_
      refine lv_iconst (v := nI 1) hx hb dX7_least_29 (by decide) ?_
      refine gc_i (gx_runV (As := [.int (nI x), .int (nI 1)]) (rest := []) ⟨hx, hb, hml, hown, hts⟩ hK hN hS 53 (by omega) rfl rfl (ct_X7_markClass l D cA o ad ln n H.size iv5 (x0 := x) (P := P) (T := T) (c9 := c9) (S8 := S8) (sc9 := sc9) (pc9 := pc9) (Sg := Sg) (si := si) (img := img) (gd := gd) (M := fun _ => false) hn hln hRn9 (by rw [o53 _ (by decide)]; exact hc9) hc4 (by rw [o53 _ (by decide)]; exact hT0) hT1 hT3 (by rw [o53 _ (by decide)]; exact hP0) hP (by rw [o57]; exact hpc) hpi hS8 hS9 (by rw [o53 _ (by decide)]; exact hs0) hs4 (fun z hz q hq => by rw [o63]; exact hsy z hz q hq) hSi him b1 (by omega) (fun x hx => b2 x hx) rfl (fun _ _ _ _ _ => rfl)) (cwV 2 hts gX7_least_X7_markClass rfl rfl rfl (by decide +kernel) ⟨gle hRf rfl, gle hRl rfl⟩) rfl rfl hl.1 rfl (lv_room (Nat.le_of_ble_eq_true rfl)) dX7_least_30 ⟨hRc, hRs⟩) hS hA (fun y iv6 H locs hp6 hS => ?_)
      obtain ⟨lv, M', ey, k1, k2, k3, _, _, f6⟩ := hp6
      exact kret _ iv6 _ _ _ _ dX7_least_33 (⟨⟨lv, ey, k1, k2, k3⟩, ⟨by rw [f6 53 (by decide) (by decide) (by decide) (by decide) (by decide) (by decide), b3 53 (by decide) (by decide), et, up2_s], fun j hj => by rw [f6 53 (by decide) (by decide) (by decide) (by decide) (by decide) (by decide)]; exact o53 j hj⟩, fun q x1 x2 x3 x4 x5 x6 x7 x8 => by rw [f6 q x2 x3 x4 x5 x6 x7, b3 q x5 x8, et, up2_row x1]⟩) hS
    · skip
      rw [show (0 : Int32) = nI 0 from rfl] at c_18
      rw [nI_eq (by omega) (by omega)] at c_18
      omega
  · skip
    exact absurd (hi1.mpr hok) (by rw [c_7]; decide)
set_option maxRecDepth 100000 in
theorem ct_X7_least (l : Launch) (D : va_G) (cA : Nat → ClassId) (o : Nat → Int64) (ad ln : Nat → Nat) (n sz : Nat) (iv : Nat → Nat → Int32) (x : Nat) (P T c9 S8 mc9 sc9 : Nat) (pc9 : Nat → Nat) (Sg si img G9 Ad : Nat → Nat → Nat) (ch : Nat → Bool) (gd : Nat → Prop) (hn : 68 ≤ n) (hln : ∀ k, ln k < 2 ^ 31) (hRn : rln ln) (hc9 : iv 53 7 = nI c9) (hc4 : c9 ≤ 4) (hT0 : iv 53 2 = nI T) (hT1 : 0 < T) (hT3 : T ≤ 3) (hP0 : iv 53 1 = nI P) (hP : P ≤ 8) (hpc : ∀ i, i < c9 → iv 57 i = nI (pc9 i)) (hpi : inj pc9 P c9) (hS8 : S8 = ff P c9 * T ^ c9) (hS9 : S8 ≤ 136080) (hs0 : iv 53 18 = nI sc9) (hs4 : sc9 ≤ 4) (hsy : ∀ z, z < sc9 → rsym iv z P (Sg z)) (hmc : iv 53 3 = nI mc9) (hmc6 : mc9 ≤ 6) (hmv : ∀ j, j < mc9 → rmove iv j P T (G9 j) (Ad j)) (hch : ∀ p, p < P → iv 56 p = if ch p then 1 else 0) (hgd : ∀ z, z < sc9 → (gd z ↔ ((∀ p, p < P → ch p = ch (Sg z p)) ∧ ∀ j, j < mc9 → ∃ i, i < mc9 ∧ imgN P (Sg z) (G9 j) (Ad j) (G9 i) (Ad i)))) (hSi : ∀ z, z < sc9 → inj (Sg z) P P) (him : ∀ z, z < sc9 → gd z → symIx (Sg z) pc9 (si z) c9 ∧ ∀ x, x < S8 → img z x = imN P T c9 (Sg z) (si z) x) (hx9 : x < S8) : gMi l yX7_least wsX7_least { frames := 4, cells := 0, slots := 0, locals := 99 } D cA o ad ln n sz iv [.ref (ad 53), .int (nI x)] (fun (r : Int32) iv' => (∃ lv, r = nI lv ∧ lv < S8 ∧ eqg (relS S8 img gd sc9) x lv ∧ ∀ y, eqg (relS S8 img gd sc9) x y → lv ≤ y) ∧ (iv' 53 0 = 0 ∧ ∀ j, j ≠ 0 → iv' 53 j = iv 53 j) ∧ ∀ q, q ≠ 53 → q ≠ 58 → q ≠ 59 → q ≠ 61 → q ≠ 62 → q ≠ 64 → q ≠ 65 → q ≠ 66 → iv' q = iv q) := by
  refine Met.ofW (cc := cX7_least) (maxL := 2) (ret := (some .int)) (by decide) rfl ?_
  intro p e s m args below meth c s₁ B hml hv__
  obtain ⟨rfl, hv__⟩ := hv__
  obtain ⟨hsz, hS, hK, hN, hA⟩ := gS.entry hv__
  have hl := lv_entry ([.ref (ad 53), .int (nI x)]) (n := 2) (Nat.le_of_ble_eq_true rfl)
  rw [lg_entry_eq]
  generalize (lg_sl ([.ref (ad 53), .int (nI x)]) ++ List.replicate (2 - (lg_sl ([.ref (ad 53), .int (nI x)])).length) Slot.unset).toArray = ls at hl ⊢
  exact bd_X7_least (x := x) (P := P) (T := T) (c9 := c9) (S8 := S8) (mc9 := mc9) (sc9 := sc9) (pc9 := pc9) (Sg := Sg) (si := si) (img := img) (G9 := G9) (Ad := Ad) (ch := ch) (gd := gd) ⟨B.exec, B.bytes, hml, findClass_of_methodNamed B.named, atoms_spec (ws := wsX7_least) B.pre, B.returns, B.notSynchronized⟩ (Nat.le_refl _) (Nat.le_refl _) (Nat.le_refl _) (Nat.le_refl _) hK hN hA hn hln hRn hc9 hc4 hT0 hT1 hT3 hP0 hP hpc hpi hS8 hS9 hs0 hs4 hsy hmc hmc6 hmv hch hgd hSi him hx9 hS hl (fun r iv' H locs ls pc hd hp hS => gx_iret B.exec B.bytes B.returns B.notSynchronized hS hp hd)

set_option maxHeartbeats 1000000 in
set_option maxRecDepth 100000 in
theorem bd_X7_leastB {p : Program} {l : Launch} {e : Env} {R : Room} {s : State} {m : MethodId} {args : Array Value} {below : List Frame} {meth : Method} {c : Code} {H : Heap} {locs : List Loc} {cells slots : Nat} {Q : State → Prop} {ls : Array Slot} {D : va_G} {A : Nat → Prop} {H0 : Heap} {cA : Nat → ClassId} {o : Nat → Int64} {ad ln : Nat → Nat} {iv : Nat → Nat → Int32} {n : Nat} {x : Int32} {P c9 T : Nat}
    (F : gF p s m meth c cX7_least 2 RX7 wsX7_least args (some .int)) (hRf : 2 ≤ R.frames) (hRl : 43 ≤ R.locals) (hRc : cells ≤ R.cells) (hRs : slots ≤ R.slots) (hK : va_K D vwCl (gT cA) s) (hN : NW s) (hA : ∀ q, H0.size ≤ q → A q) (hn : 68 ≤ n) (hln : ∀ k, ln k < 2 ^ 31) (hc9 : iv 53 7 = nI c9) (hc4 : c9 ≤ 4) (hT0 : iv 53 2 = nI T) (hT1 : 0 < T) (hT3 : T ≤ 3) (hP0 : iv 53 1 = nI P) (hP : P ≤ 8) (hcP : c9 ≤ P) (hbad : ¬ ok9 x (nI (ff P c9 * T ^ c9)))
    (hS : gS D cA A H0 o ad ln iv n H locs) (hl : lv_has ls 2 [(0, .ref (ad 53)), (1, .int x)])
    (kret : ∀ (r : Int32) (iv' : Nat → Nat → Int32) (H : Heap) (locs : List Loc) (ls : Array Slot) (pc : Nat), decode cX7_least pc = .ok (.ireturn, 1) → (r = 0 ∧ iv' = up2 iv 53 0 1) → gS D cA A H0 o ad ln iv' n H locs → W p l e R s m args below meth c H locs cells slots Q (F0 m pc ls [.int r])) :
    W p l e R s m args below meth c H locs cells slots Q (F0 m 0 ls []) := by
  obtain ⟨hx, hb, hml, hown, hts, hr, hlocks⟩ := F
  refine lv_aload_n hx hb dX7_least_0 rfl (lv_at hl 0 rfl) ?_
  refine lv_iconst (v := nI 1) hx hb dX7_least_1 (by decide) ?_
  refine lv_aload_n hx hb dX7_least_2 rfl (lv_at hl 0 rfl) ?_
  refine lv_iload_n hx hb dX7_least_3 rfl (lv_at hl 1 rfl) ?_
  refine gc_i (gx_runV (As := [.int x]) (rest := [.int (nI 1), .ref (ad 53)]) ⟨hx, hb, hml, hown, hts⟩ hK hN hS 53 (by omega) rfl rfl (ct_X7_isState l D cA o ad ln n H.size iv (x := x) (P := P) (c9 := c9) (T := T) hn hln hc9 hc4 hT0 hT1 hT3 hP0 hP hcP) (cwV 1 hts gX7_least_X7_isState rfl rfl rfl (by decide +kernel) ⟨gle hRf rfl, gle hRl rfl⟩) rfl rfl hl.1 rfl (lv_room (Nat.le_of_ble_eq_true rfl)) dX7_least_4 ⟨hRc, hRs⟩) hS hA (fun y1 iv1 H locs hp1 hS => ?_)
  obtain ⟨h011, hi1, ev1⟩ := hp1
  rw [ev1] at hS
  skip
  refine lv_if_ne (tgt := 14) hx hb dX7_least_7 (by decide) (fun c_7 => ?_) (fun c_7 => ?_)
  · skip
    exact absurd (hi1.mp (h011.resolve_left c_7)) hbad
  · skip
    refine lv_iconst (v := nI 1) hx hb dX7_least_10 (by decide) ?_
    refine lv_goto (tgt := 15) hx hb dX7_least_11 (by decide) ?_
    refine gc_i (gx_runV (As := [.int (nI 1), .int (nI 1)]) (rest := []) ⟨hx, hb, hml, hown, hts⟩ hK hN hS 53 (by omega) rfl rfl (ct_X7_throwsIf l D cA o ad ln n H.size iv (x := nI 1) (v := nI 1) hn hln (Or.inr rfl)) (cwV 2 hts gX7_least_X7_throwsIf rfl rfl rfl (by decide +kernel) ⟨gle hRf rfl, gle hRl rfl⟩) rfl rfl hl.1 rfl (lv_room (Nat.le_of_ble_eq_true rfl)) dX7_least_15 ⟨hRc, hRs⟩) hS hA (fun z iv4 H locs hp4 hS => ?_)
    obtain ⟨_, ez, et⟩ := hp4
    have et : iv4 = up2 iv 53 0 1 := et
    refine gx_as (y := nI 1) ez ?_
    refine lv_if_eq (tgt := 23) hx hb dX7_least_18 (by decide) (fun c_18 => ?_) (fun c_18 => ?_)
    · skip
      rw [show (0 : Int32) = nI 0 from rfl] at c_18
      rw [nI_eq (by omega) (by omega)] at c_18
      omega
    · skip
      rw [show (0 : Int32) = nI 0 from rfl] at c_18
      rw [nI_eq (by omega) (by omega)] at c_18
      refine lv_iconst (v := nI 0) hx hb dX7_least_21 (by decide) ?_
      exact kret _ iv4 _ _ _ _ dX7_least_22 (⟨rfl, et⟩) hS
set_option maxRecDepth 100000 in
theorem ct_X7_leastB (l : Launch) (D : va_G) (cA : Nat → ClassId) (o : Nat → Int64) (ad ln : Nat → Nat) (n sz : Nat) (iv : Nat → Nat → Int32) (x : Int32) (P c9 T : Nat) (hn : 68 ≤ n) (hln : ∀ k, ln k < 2 ^ 31) (hc9 : iv 53 7 = nI c9) (hc4 : c9 ≤ 4) (hT0 : iv 53 2 = nI T) (hT1 : 0 < T) (hT3 : T ≤ 3) (hP0 : iv 53 1 = nI P) (hP : P ≤ 8) (hcP : c9 ≤ P) (hbad : ¬ ok9 x (nI (ff P c9 * T ^ c9))) : gMi l yX7_least wsX7_least { frames := 2, cells := 0, slots := 0, locals := 43 } D cA o ad ln n sz iv [.ref (ad 53), .int x] (fun (r : Int32) iv' => r = 0 ∧ iv' = up2 iv 53 0 1) := by
  refine Met.ofW (cc := cX7_least) (maxL := 2) (ret := (some .int)) (by decide) rfl ?_
  intro p e s m args below meth c s₁ B hml hv__
  obtain ⟨rfl, hv__⟩ := hv__
  obtain ⟨hsz, hS, hK, hN, hA⟩ := gS.entry hv__
  have hl := lv_entry ([.ref (ad 53), .int x]) (n := 2) (Nat.le_of_ble_eq_true rfl)
  rw [lg_entry_eq]
  generalize (lg_sl ([.ref (ad 53), .int x]) ++ List.replicate (2 - (lg_sl ([.ref (ad 53), .int x])).length) Slot.unset).toArray = ls at hl ⊢
  exact bd_X7_leastB (x := x) (P := P) (c9 := c9) (T := T) ⟨B.exec, B.bytes, hml, findClass_of_methodNamed B.named, atoms_spec (ws := wsX7_least) B.pre, B.returns, B.notSynchronized⟩ (Nat.le_refl _) (Nat.le_refl _) (Nat.le_refl _) (Nat.le_refl _) hK hN hA hn hln hc9 hc4 hT0 hT1 hT3 hP0 hP hcP hbad hS hl (fun r iv' H locs ls pc hd hp hS => gx_iret B.exec B.bytes B.returns B.notSynchronized hS hp hd)

theorem inX7_classes_RX7 : ∀ {w : Cond}, w ∈ u_ws RX7 TX7 23 → w ∈ wsX7_classes := fun {w} h => by first | exact List.mem_cons_of_mem _ (List.mem_append_right _ h) | (revert h; revert w; show ∀ w ∈ u_ws RX7 TX7 23, w ∈ wsX7_classes; decide +kernel)
set_option maxHeartbeats 1000000 in
set_option maxRecDepth 100000 in
theorem bd_X7_classes {p : Program} {l : Launch} {e : Env} {R : Room} {s : State} {m : MethodId} {args : Array Value} {below : List Frame} {meth : Method} {c : Code} {H : Heap} {locs : List Loc} {cells slots : Nat} {Q : State → Prop} {ls : Array Slot} {D : va_G} {A : Nat → Prop} {H0 : Heap} {cA : Nat → ClassId} {o : Nat → Int64} {ad ln : Nat → Nat} {iv : Nat → Nat → Int32} {n : Nat} {P T c9 S8 mc9 sc9 : Nat} {pc9 : Nat → Nat} {Sg si img G9 Ad : Nat → Nat → Nat} {ch : Nat → Bool} {gd : Nat → Prop} {f9 : Nat → Bool}
    (F : gF p s m meth c cX7_classes 3 RX7 wsX7_classes args (some .int)) (hRf : 4 ≤ R.frames) (hRl : 99 ≤ R.locals) (hRc : cells ≤ R.cells) (hRs : slots ≤ R.slots) (hK : va_K D vwCl (gT cA) s) (hN : NW s) (hA : ∀ q, H0.size ≤ q → A q) (hn : 68 ≤ n) (hln : ∀ k, ln k < 2 ^ 31) (hRn : rln ln) (hc9 : iv 53 7 = nI c9) (hc4 : c9 ≤ 4) (hT0 : iv 53 2 = nI T) (hT1 : 0 < T) (hT3 : T ≤ 3) (hP0 : iv 53 1 = nI P) (hP : P ≤ 8) (hpc : ∀ i, i < c9 → iv 57 i = nI (pc9 i)) (hpi : inj pc9 P c9) (hS8 : S8 = ff P c9 * T ^ c9) (hS9 : S8 ≤ 136080) (hs0 : iv 53 18 = nI sc9) (hs4 : sc9 ≤ 4) (hsy : ∀ z, z < sc9 → rsym iv z P (Sg z)) (hmc : iv 53 3 = nI mc9) (hmc6 : mc9 ≤ 6) (hmv : ∀ j, j < mc9 → rmove iv j P T (G9 j) (Ad j)) (hch : ∀ p, p < P → iv 56 p = if ch p then 1 else 0) (hgd : ∀ z, z < sc9 → (gd z ↔ ((∀ p, p < P → ch p = ch (Sg z p)) ∧ ∀ j, j < mc9 → ∃ i, i < mc9 ∧ imgN P (Sg z) (G9 j) (Ad j) (G9 i) (Ad i)))) (hSi : ∀ z, z < sc9 → inj (Sg z) P P) (him : ∀ z, z < sc9 → gd z → symIx (Sg z) pc9 (si z) c9 ∧ ∀ x, x < S8 → img z x = imN P T c9 (Sg z) (si z) x) (hf9 : ∀ y, y < S8 → (f9 y = true ↔ ∀ x, eqg (relS S8 img gd sc9) y x → y ≤ x))
    (hS : gS D cA A H0 o ad ln iv n H locs) (hl : lv_has ls 3 [(0, .ref (ad 53))])
    (kret : ∀ (r : Int32) (iv' : Nat → Nat → Int32) (H : Heap) (locs : List Loc) (ls : Array Slot) (pc : Nat), decode cX7_classes pc = .ok (.ireturn, 1) → (r = nI (cnt f9 S8) ∧ (iv' 53 0 = 0 ∧ ∀ j, j ≠ 0 → iv' 53 j = iv 53 j) ∧ ∀ q, q ≠ 53 → q ≠ 58 → q ≠ 59 → q ≠ 61 → q ≠ 62 → q ≠ 64 → q ≠ 65 → q ≠ 66 → iv' q = iv q) → gS D cA A H0 o ad ln iv' n H locs → W p l e R s m args below meth c H locs cells slots Q (F0 m pc ls [.int r])) :
    W p l e R s m args below meth c H locs cells slots Q (F0 m 0 ls []) := by
  obtain ⟨hx, hb, hml, hown, hts, hr, hlocks⟩ := F
  have hRn9 := hRn
  obtain ⟨r54, r55, r56, r57, r58, r59, r60, r61, r62, r63, r64, r65, r66⟩ := hRn
  have hcP := inj_le_P hpi
  have hij : ∀ z, z < sc9 → gd z → inj (img z) S8 S8 := fun z h1 h2 => by
    obtain ⟨u1, u2⟩ := him z h1 h2
    have u3 := imN_inj (T := T) hT1 hcP (hSi z h1) hpi u1
    rw [← hS8] at u3
    exact ⟨fun x hx => by rw [u2 x hx]; exact u3.1 x hx, fun x y hx hy e8 => by rw [u2 x hx, u2 y hy] at e8; exact u3.2 x y hx hy e8⟩
  refine lv_aload_n hx hb dX7_classes_0 rfl (lv_at hl 0 rfl) ?_
  refine lv_iconst (v := nI 0) hx hb dX7_classes_1 (by decide) ?_
  refine gx_put (ci := 10) (x := nI 0) (ty := .int) (C := RX7) (T := TX7) (N := 23) hx hb hts (fun _ h => inX7_classes_RX7 h) tyX7 tyX7_ok nmX7 hown hK hS 53 (by omega) rfl rfl 0 (by decide) (hts (.fieldLink RX7 58 "CosetTablesModel" "thrown" "I") (by decide +kernel)) rfl (by decide +kernel) rfl rfl (Nat.le_of_ble_eq_true rfl) rfl dX7_classes_2 (fun H locs hS => ?_)
  obtain ⟨iv4, eiv4⟩ : ∃ z, z = up2 iv 53 0 (nI 0) := ⟨_, rfl⟩
  rw [← eiv4] at hS
  refine lv_aload_n hx hb dX7_classes_5 rfl (lv_at hl 0 rfl) ?_
  have et : iv4 = up2 iv 53 0 0 := eiv4
  refine gc_v (gx_runV (As := []) (rest := []) ⟨hx, hb, hml, hown, hts⟩ hK hN hS 53 (by omega) rfl rfl (ct_X7_prepare l D cA o ad ln n H.size iv4 (P := P) (T := T) (c9 := c9) (S8 := S8) (mc9 := mc9) (sc9 := sc9) (Sg := Sg) (G9 := G9) (Ad := Ad) (ch := ch) (gd := gd) hn hln hRn9 (by rw [et, up2_n (by decide)]; exact hc9) hc4 (by rw [et, up2_n (by decide)]; exact hT0) hT1 hT3 (by rw [et, up2_n (by decide)]; exact hP0) hP hcP hS8 hS9 (by rw [et, up2_n (by decide)]; exact hs0) hs4 (fun z hz q hq => by rw [et, up2_row (by decide)]; exact hsy z hz q hq) (by rw [et, up2_n (by decide)]; exact hmc) hmc6 (fun j hj q hq => by rw [et, up2_row (by decide), up2_row (by decide)]; exact hmv j hj q hq) (fun p hp => by rw [et, up2_row (by decide)]; exact hch p hp) hgd) (cwV 0 hts gX7_classes_X7_prepare rfl rfl rfl (by decide +kernel) ⟨gle hRf rfl, gle hRl rfl⟩) rfl rfl hl.1 rfl (lv_room (Nat.le_of_ble_eq_true rfl)) dX7_classes_6 ⟨hRc, hRs⟩) hS hA (fun iv5 H locs hp5 hS => ?_)
  obtain ⟨b1, b2, b3⟩ := hp5
  refine lv_iconst (v := nI 0) hx hb dX7_classes_9 (by decide) ?_
  refine lv_istore_n (lv' := [(1, .int (nI 0)), (0, .ref (ad 53))]) hx hb dX7_classes_10 rfl hl (by decide) rfl (fun ls hl => ?_)
  refine lv_iconst (v := nI 0) hx hb dX7_classes_11 (by decide) ?_
  refine lv_istore_n (lv' := [(2, .int (nI 0)), (1, .int (nI 0)), (0, .ref (ad 53))]) hx hb dX7_classes_12 rfl hl (by decide) rfl (fun ls hl => ?_)
  have L13 : ∀ (N : Nat) (i : Nat) (M : Nat → Bool) (iv6 : Nat → Nat → Int32), S8 - i < N → (i ≤ S8) → (∀ x, x < S8 → (M x = true ↔ ∃ y, y < i ∧ eqg (relS S8 img gd sc9) y x)) → (∀ x, x < S8 → iv6 62 x = bz (M x)) → (∀ z, z < sc9 → (iv6 66 z = 0 ∨ iv6 66 z = 1) ∧ (iv6 66 z = 1 ↔ gd z)) → (∀ q, q ≠ 58 → q ≠ 59 → q ≠ 61 → q ≠ 62 → q ≠ 64 → q ≠ 65 → q ≠ 66 → iv6 q = iv4 q) → ∀ (H : Heap) (locs : List Loc) (ls : Array Slot), gS D cA A H0 o ad ln iv6 n H locs → lv_has ls 3 [(0, .ref (ad 53)), (1, .int (nI (cnt f9 i))), (2, .int (nI i))] → W p l e R s m args below meth c H locs cells slots Q (F0 m 13 ls []) := by
    intro N
    induction N with
    | zero => intro i M iv6 hm; exact absurd hm (Nat.not_lt_zero _)
    | succ N ih13 =>
      intro i M iv6 hm hi hM t6 b6 f6 H locs ls hS hl
      have hcl := cnt_le f9 i
      have o53 : ∀ j, j ≠ 0 → iv6 53 j = iv 53 j := fun j hj => by rw [f6 53 (by decide) (by decide) (by decide) (by decide) (by decide) (by decide) (by decide), et, up2_n (fun u => hj u.2)]
      have o57 : iv6 57 = iv 57 := by rw [f6 57 (by decide) (by decide) (by decide) (by decide) (by decide) (by decide) (by decide), et, up2_row (by decide)]
      have o63 : iv6 63 = iv 63 := by rw [f6 63 (by decide) (by decide) (by decide) (by decide) (by decide) (by decide) (by decide), et, up2_row (by decide)]
      refine lv_iload_n hx hb dX7_classes_13 rfl (lv_at hl 2 rfl) ?_
      refine lv_aload_n hx hb dX7_classes_14 rfl (lv_at hl 0 rfl) ?_
      refine gc_i (gx_runV (As := []) (rest := [.int (nI i)]) ⟨hx, hb, hml, hown, hts⟩ hK hN hS 53 (by omega) rfl rfl (ct_X7_countStates l D cA o ad ln n H.size iv6 (P := P) (c9 := c9) (T := T) hn hln (by rw [o53 _ (by decide)]; exact hc9) hc4 (by rw [o53 _ (by decide)]; exact hT0) hT1 hT3 (by rw [o53 _ (by decide)]; exact hP0) hP hcP) (cwV 0 hts gX7_classes_X7_countStates rfl rfl rfl (by decide +kernel) ⟨gle hRf rfl, gle hRl rfl⟩) rfl rfl hl.1 rfl (lv_room (Nat.le_of_ble_eq_true rfl)) dX7_classes_15 ⟨hRc, hRs⟩) hS hA (fun z iv7 H locs hp7 hS => ?_)
      obtain ⟨ez, ev7⟩ := hp7
      rw [ev7] at hS
      rw [← hS8] at ez
      refine gx_as (y := nI S8) ez ?_
      skip
      refine lv_icmp_ge (tgt := 49) hx hb dX7_classes_18 (by decide) (fun c_18 => ?_) (fun c_18 => ?_)
      · skip
        rw [nI_leI (by omega) (by omega)] at c_18
        have ei : i = S8 := by omega
        refine lv_iload_n hx hb dX7_classes_49 rfl (lv_at hl 1 rfl) ?_
        exact kret _ iv6 _ _ _ _ dX7_classes_50 (⟨by rw [ei], ⟨by rw [f6 53 (by decide) (by decide) (by decide) (by decide) (by decide) (by decide) (by decide), et, up2_s], o53⟩, fun q x1 x2 x3 x4 x5 x6 x7 x8 => by rw [f6 q x2 x3 x4 x5 x6 x7 x8, et, up2_row x1]⟩) hS
      · skip
        rw [nI_leI (by omega) (by omega)] at c_18
        refine lv_aload_n hx hb dX7_classes_21 rfl (lv_at hl 0 rfl) ?_
        refine gx_get (ci := 10) (v := .ref (ad 62)) (C := RX7) (T := TX7) (N := 23) hx hb hts (fun _ h => inX7_classes_RX7 h) hown hK hS 53 (by omega) rfl rfl 17 (by decide) (hts (.fieldLink RX7 36 "CosetTablesModel" "marks" "[I") (by decide +kernel)) rfl dX7_classes_22 ?_
        refine lv_iload_n hx hb dX7_classes_25 rfl (lv_at hl 2 rfl) ?_
        refine gx_ialdn hx hb hK hS 62 (by omega) (by decide) i (by omega) (hln _) dX7_classes_26 ?_
        refine gx_as (y := (bz (M i))) (t6 i (by omega)) ?_
        refine lv_if_eq (tgt := 33) hx hb dX7_classes_27 (by decide) (fun c_27 => ?_) (fun c_27 => ?_)
        · skip
          have hMi : M i = false := by
            cases u : M i
            · rfl
            · rw [u] at c_27; exact absurd c_27 (by decide)
          have hfi : f9 i = true := (hf9 i (by omega)).mpr (fun x hx => by
            rcases Nat.lt_or_ge x i with u | u
            · have := (hM i (by omega)).mpr ⟨x, u, (eqg_eqv _).symm hx⟩
              rw [hMi] at this
              exact absurd this (by decide)
            · exact u)
          have hcs : cnt f9 (i + 1) = cnt f9 i + 1 := by rw [cnt_s, if_pos hfi]
          have hMc : ∀ z x, z < sc9 → gd z → x < S8 → M (img z x) = M x := fun z x h1 h2 h3 => by
            have h4 := (hij z h1 h2).1 x h3
            have h5 : eqg (relS S8 img gd sc9) x (img z x) := eqg_in ⟨z, h1, h2, h3, rfl⟩
            have h6 : M (img z x) = true ↔ M x = true := by
              rw [hM _ h4, hM x h3]
              exact ⟨fun ⟨y, y1, y2⟩ => ⟨y, y1, (eqg_eqv _).trans y2 ((eqg_eqv _).symm h5)⟩, fun ⟨y, y1, y2⟩ => ⟨y, y1, (eqg_eqv _).trans y2 h5⟩⟩
            cases u : M x <;> cases v : M (img z x) <;> rw [u, v] at h6 <;> first | rfl | exact absurd (h6.mp rfl) (by decide) | exact absurd (h6.mpr rfl) (by decide)
          refine lv_aload_n hx hb dX7_classes_33 rfl (lv_at hl 0 rfl) ?_
          refine lv_iload_n hx hb dX7_classes_34 rfl (lv_at hl 2 rfl) ?_
          refine lv_iconst (v := nI 1) hx hb dX7_classes_35 (by decide) ?_
          refine gc_i (gx_runV (As := [.int (nI i), .int (nI 1)]) (rest := []) ⟨hx, hb, hml, hown, hts⟩ hK hN hS 53 (by omega) rfl rfl (ct_X7_markClass l D cA o ad ln n H.size iv6 (x0 := i) (P := P) (T := T) (c9 := c9) (S8 := S8) (sc9 := sc9) (pc9 := pc9) (Sg := Sg) (si := si) (img := img) (gd := gd) (M := M) hn hln hRn9 (by rw [o53 _ (by decide)]; exact hc9) hc4 (by rw [o53 _ (by decide)]; exact hT0) hT1 hT3 (by rw [o53 _ (by decide)]; exact hP0) hP (by rw [o57]; exact hpc) hpi hS8 hS9 (by rw [o53 _ (by decide)]; exact hs0) hs4 (fun z hz q hq => by rw [o63]; exact hsy z hz q hq) hSi him b6 (by omega) t6 hMi hMc) (cwV 2 hts gX7_classes_X7_markClass rfl rfl rfl (by decide +kernel) ⟨gle hRf rfl, gle hRl rfl⟩) rfl rfl hl.1 rfl (lv_room (Nat.le_of_ble_eq_true rfl)) dX7_classes_36 ⟨hRc, hRs⟩) hS hA (fun y iv8 H locs hp8 hS => ?_)
          obtain ⟨lv, M', ey, k1, k2, k3, k4, k5, f8⟩ := hp8
          have hMn2 : ∀ x, x < S8 → (M' x = true ↔ ∃ y, y < i + 1 ∧ eqg (relS S8 img gd sc9) y x) := fun x hx => by
            rw [k4 x hx, hM x hx]
            refine ⟨fun u => u.elim (fun ⟨y, y1, y2⟩ => ⟨y, by omega, y2⟩) (fun u => ⟨i, by omega, u⟩), fun ⟨y, y1, y2⟩ => ?_⟩
            rcases Nat.lt_or_ge y i with u | u
            · exact Or.inl ⟨y, u, y2⟩
            · have e9 : y = i := by omega
              rw [e9] at y2
              exact Or.inr y2
          refine lv_pop hx hb dX7_classes_39 rfl ?_
          refine lv_iinc (v := nI (cnt f9 (i + 1))) (lv' := [(1, .int (nI (cnt f9 (i + 1)))), (0, .ref (ad 53)), (2, .int (nI i))]) hx hb dX7_classes_40 hl (k := 1) rfl (by rw [hcs]; show nI _ + nI 1 = _; rw [nI_add]) (by decide) rfl (fun ls hl => ?_)
          refine lv_iinc (v := nI (i + 1)) (lv' := [(2, .int (nI (i + 1))), (1, .int (nI (cnt f9 (i + 1)))), (0, .ref (ad 53))]) hx hb dX7_classes_43 hl (k := 2) rfl (nI_1 i) (by decide) rfl (fun ls hl => ?_)
          refine lv_goto (tgt := 13) hx hb dX7_classes_46 (by decide) ?_
          exact ih13 (i + 1) M' iv8 (by omega) (by omega) hMn2 k5 (fun z hz => by rw [f8 66 (by decide) (by decide) (by decide) (by decide) (by decide) (by decide)]; exact b6 z hz) (fun q x1 x2 x3 x4 x5 x6 x7 => by rw [f8 q x1 x2 x3 x4 x5 x6, f6 q x1 x2 x3 x4 x5 x6 x7]) _ _ _ hS (lv_sub hl [2, 1, 0] rfl)
        · skip
          have hMi : M i = true := by
            cases u : M i
            · rw [u] at c_27; exact absurd rfl c_27
            · rfl
          obtain ⟨y9, y91, y92⟩ := (hM i (by omega)).mp hMi
          have hfi : ¬ f9 i = true := fun u => by
            have := (hf9 i (by omega)).mp u y9 ((eqg_eqv _).symm y92)
            omega
          have hcs : cnt f9 (i + 1) = cnt f9 i := by rw [cnt_s, if_neg hfi, Nat.add_zero]
          rw [← hcs] at hl
          have hMn : ∀ x, x < S8 → (M x = true ↔ ∃ y, y < i + 1 ∧ eqg (relS S8 img gd sc9) y x) := fun x hx => by
            rw [hM x hx]
            refine ⟨fun ⟨y, y1, y2⟩ => ⟨y, by omega, y2⟩, fun ⟨y, y1, y2⟩ => ?_⟩
            rcases Nat.lt_or_ge y i with u | u
            · exact ⟨y, u, y2⟩
            · have e9 : y = i := by omega
              rw [e9] at y2
              exact ⟨y9, y91, (eqg_eqv _).trans y92 y2⟩
          refine lv_goto (tgt := 43) hx hb dX7_classes_30 (by decide) ?_
          refine lv_iinc (v := nI (i + 1)) (lv' := [(2, .int (nI (i + 1))), (0, .ref (ad 53)), (1, .int (nI (cnt f9 (i + 1))))]) hx hb dX7_classes_43 hl (k := 2) rfl (nI_1 i) (by decide) rfl (fun ls hl => ?_)
          refine lv_goto (tgt := 13) hx hb dX7_classes_46 (by decide) ?_
          exact ih13 (i + 1) M iv6 (by omega) (by omega) hMn t6 b6 f6 _ _ _ hS (lv_sub hl [1, 2, 0] rfl)
  exact L13 _ 0 (fun _ => false) iv5 (Nat.lt_succ_self _) (Nat.zero_le _) (fun x _ => ⟨fun u => absurd u (by decide), fun ⟨_, u, _⟩ => absurd u (Nat.not_lt_zero _)⟩) (fun x hx => b2 x hx) b1 (fun q x1 x2 x3 x4 x5 x6 x7 => b3 q x4 x7) _ _ _ hS (lv_sub hl [2, 1, 0] rfl)
set_option maxRecDepth 100000 in
theorem ct_X7_classes (l : Launch) (D : va_G) (cA : Nat → ClassId) (o : Nat → Int64) (ad ln : Nat → Nat) (n sz : Nat) (iv : Nat → Nat → Int32) (P T c9 S8 mc9 sc9 : Nat) (pc9 : Nat → Nat) (Sg si img G9 Ad : Nat → Nat → Nat) (ch : Nat → Bool) (gd : Nat → Prop) (f9 : Nat → Bool) (hn : 68 ≤ n) (hln : ∀ k, ln k < 2 ^ 31) (hRn : rln ln) (hc9 : iv 53 7 = nI c9) (hc4 : c9 ≤ 4) (hT0 : iv 53 2 = nI T) (hT1 : 0 < T) (hT3 : T ≤ 3) (hP0 : iv 53 1 = nI P) (hP : P ≤ 8) (hpc : ∀ i, i < c9 → iv 57 i = nI (pc9 i)) (hpi : inj pc9 P c9) (hS8 : S8 = ff P c9 * T ^ c9) (hS9 : S8 ≤ 136080) (hs0 : iv 53 18 = nI sc9) (hs4 : sc9 ≤ 4) (hsy : ∀ z, z < sc9 → rsym iv z P (Sg z)) (hmc : iv 53 3 = nI mc9) (hmc6 : mc9 ≤ 6) (hmv : ∀ j, j < mc9 → rmove iv j P T (G9 j) (Ad j)) (hch : ∀ p, p < P → iv 56 p = if ch p then 1 else 0) (hgd : ∀ z, z < sc9 → (gd z ↔ ((∀ p, p < P → ch p = ch (Sg z p)) ∧ ∀ j, j < mc9 → ∃ i, i < mc9 ∧ imgN P (Sg z) (G9 j) (Ad j) (G9 i) (Ad i)))) (hSi : ∀ z, z < sc9 → inj (Sg z) P P) (him : ∀ z, z < sc9 → gd z → symIx (Sg z) pc9 (si z) c9 ∧ ∀ x, x < S8 → img z x = imN P T c9 (Sg z) (si z) x) (hf9 : ∀ y, y < S8 → (f9 y = true ↔ ∀ x, eqg (relS S8 img gd sc9) y x → y ≤ x)) : gMi l yX7_classes wsX7_classes { frames := 4, cells := 0, slots := 0, locals := 99 } D cA o ad ln n sz iv [.ref (ad 53)] (fun (r : Int32) iv' => r = nI (cnt f9 S8) ∧ (iv' 53 0 = 0 ∧ ∀ j, j ≠ 0 → iv' 53 j = iv 53 j) ∧ ∀ q, q ≠ 53 → q ≠ 58 → q ≠ 59 → q ≠ 61 → q ≠ 62 → q ≠ 64 → q ≠ 65 → q ≠ 66 → iv' q = iv q) := by
  refine Met.ofW (cc := cX7_classes) (maxL := 3) (ret := (some .int)) (by decide) rfl ?_
  intro p e s m args below meth c s₁ B hml hv__
  obtain ⟨rfl, hv__⟩ := hv__
  obtain ⟨hsz, hS, hK, hN, hA⟩ := gS.entry hv__
  have hl := lv_entry ([.ref (ad 53)]) (n := 3) (Nat.le_of_ble_eq_true rfl)
  rw [lg_entry_eq]
  generalize (lg_sl ([.ref (ad 53)]) ++ List.replicate (3 - (lg_sl ([.ref (ad 53)])).length) Slot.unset).toArray = ls at hl ⊢
  exact bd_X7_classes (P := P) (T := T) (c9 := c9) (S8 := S8) (mc9 := mc9) (sc9 := sc9) (pc9 := pc9) (Sg := Sg) (si := si) (img := img) (G9 := G9) (Ad := Ad) (ch := ch) (gd := gd) (f9 := f9) ⟨B.exec, B.bytes, hml, findClass_of_methodNamed B.named, atoms_spec (ws := wsX7_classes) B.pre, B.returns, B.notSynchronized⟩ (Nat.le_refl _) (Nat.le_refl _) (Nat.le_refl _) (Nat.le_refl _) hK hN hA hn hln hRn hc9 hc4 hT0 hT1 hT3 hP0 hP hpc hpi hS8 hS9 hs0 hs4 hsy hmc hmc6 hmv hch hgd hSi him hf9 hS hl (fun r iv' H locs ls pc hd hp hS => gx_iret B.exec B.bytes B.returns B.notSynchronized hS hp hd)
