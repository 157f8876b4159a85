theorem al_le (x L : Nat) : al x L ≤ 1 := by
  unfold al
  split <;> omega
theorem als_le (x L : Nat) : als x L ≤ L := by
  unfold als
  split <;> omega
theorem rln_cg {ln ln2 : Nat → Nat} (h : rln ln) (e : ∀ i, 54 ≤ i → ln2 i = ln i) : rln ln2 := by
  unfold rln at h ⊢
  simp only [e 54 (by decide), e 55 (by decide), e 56 (by decide), e 57 (by decide), e 58 (by decide), e 59 (by decide), e 60 (by decide), e 61 (by decide), e 62 (by decide), e 63 (by decide), e 64 (by decide), e 65 (by decide), e 66 (by decide)]
  exact h
theorem bit_or {x : Int32} : (∃ k, k < 2 ∧ x = nI k) ∨ (¬ x = 0 ∧ ¬ x = 1) := by
  by_cases q : x = 0
  · exact Or.inl ⟨0, by decide, q⟩
  by_cases q1 : x = 1
  · exact Or.inl ⟨1, by decide, q1⟩
  exact Or.inr ⟨q, q1⟩
set_option maxHeartbeats 4000000 in
set_option maxRecDepth 100000 in
theorem law_build {p : Program} {l : Launch} {e : Env} {R : Room} {s : State} {m : MethodId} {below : List Frame} {meth : Method} {c : Code} {D : va_G} {cA : Nat → ClassId} {b L i : Nat} {xs : Nat → Int32} {Q : State → Prop} {o : Nat → Int64} {ad ln : Nat → Nat} {iv : Nat → Nat → Int32} {H : Heap} {locs : List Loc} {ls : Array Slot} {cells slots P T mc sc : Nat} {ch : Nat → Bool} {G Ad Sg : Nat → Nat → Nat} {w t : Nat → Nat} {x1 : Int32} (X : LX p l R s m c D cA b L xs) (hi : i + 3 < L) (ex1 : xs (i + 1) = x1) (h : LI P T mc sc ch G Ad Sg w t ln iv) (hcb : cells ≤ 500 + uC P T ln + i) (hsb : slots ≤ 500000 + uS P T ln + 2 * i) (hS : gS D cA (fun q => s.heap.size ≤ q) s.heap o ad ln iv 68 H locs) (hl : lv_has ls 8 [(0, .ref b), (1, .ref (ad 0)), (2, .ref (ad 53)), (3, .ref (ad 67)), (4, .int (nI i))]) (K : LK p l e R s m below meth c D cA b i Q) : W p l e R s m #[.ref b] below meth c H locs cells slots Q (F0 m 704 ls []) := by
  obtain ⟨hx, hb, hml, hown, hts, hXs, hbl, hK, hN, hX, hst, hRf, hRl, hRc, hRs, hL⟩ := X
  have hA : ∀ q : Nat, s.heap.size ≤ q → (fun q : Nat => s.heap.size ≤ q) q := fun _ h => h
  have hbA : ¬ (fun q : Nat => s.heap.size ≤ q) b := Nat.not_le.mpr hbl
  obtain ⟨⟨c1, c2, c3, c4, c5, c6, c7, c8, c9, c10, c11, c12⟩, ⟨l1, l2, l3⟩, ⟨a1, a2, a3, a4, a5, a6, a7, a8, a9, a10, a11, a12⟩, m0, s0, ⟨n1, n2, n3, n4⟩, ⟨rr1, rr2, rr3, rr4, rr5, rr6, rr7, rr8, rr9, rr10⟩, t0, o0⟩ := id h
  have hcP : cnt ch P ≤ P := inj_le_P pcs_inj
  have hu1 := uC_le P T ln
  have hu2 := uS_le c2 c4 ln
  have hff := ff_1680 P (by omega) (cnt ch P) (by omega)
  have hpw := pw_le4 c4 c7
  have hS9 := Nat.mul_le_mul hff hpw
  rcases bit_or (x := x1) with ⟨kq, hkq, rfl⟩ | ⟨q0, q1⟩
  · skip
    have b1 := al_le (ln 43) (6 * ff P (cnt ch P))
    have b2 := al_le (ln 44) (6 * ff P (cnt ch P))
    have b3 := al_le (ln 45) (T ^ cnt ch P * T ^ cnt ch P)
    have b4 := al_le (ln 47) (ff P (cnt ch P) * T ^ cnt ch P)
    have b5 := al_le (ln 48) (ff P (cnt ch P) * T ^ cnt ch P)
    have d1 := als_le (ln 43) (6 * ff P (cnt ch P))
    have d2 := als_le (ln 44) (6 * ff P (cnt ch P))
    have d3 := als_le (ln 45) (T ^ cnt ch P * T ^ cnt ch P)
    have d4 := als_le (ln 47) (ff P (cnt ch P) * T ^ cnt ch P)
    have d5 := als_le (ln 48) (ff P (cnt ch P) * T ^ cnt ch P)
    have d6 := Nat.mul_le_mul hpw hpw
    refine lv_aload_n hx hb dL_law_704 rfl (lv_at hl 1 rfl) ?_
    refine lv_aload_n hx hb dL_law_705 rfl (lv_at hl 0 rfl) ?_
    refine lv_iload hx hb dL_law_706 (lv_at hl 4 rfl) ?_
    refine lv_iconst (v := nI 1) hx hb dL_law_708 (by decide) ?_
    refine lv_iadd hx hb dL_law_709 ?_
    refine gx_as (y := nI (i + 1)) (nI_add i 1) ?_
    refine va_sld hx hb hXs hbl hbA hS.2.2 (vp_in_nI (by omega) (by omega)) dL_law_710 ?_
    refine gx_as (y := nI kq) (by rw [nI_clamp (by omega)]; exact ex1) ?_
    refine gc_ixM (ct_X6_build l D cA o ad ln 68 H.size iv kq mc P (cnt ch P) T (pcs ch P) G Ad (by decide) l1 l2 hkq a7 c7 a6 c3 c4 c2 a10 pcs_inj a5 a8 a9 a3 c5 (fun j hj => ⟨m0 j (by omega), (c8 j).1⟩) n4 n3 hff) (fun hM => gx_runV (As := [.int (nI kq)]) (rest := []) ⟨hx, hb, hml, hown, hts⟩ hK hN hS 0 (by decide) rfl rfl hM (cwV 1 hts (atA_lV gL_law_X6_build) rfl rfl rfl (by decide +kernel) ⟨gle hRf rfl, gle hRl rfl⟩) rfl rfl hl.1 rfl (lv_room (Nat.le_of_ble_eq_true rfl)) dL_law_711 ⟨by omega, by omega⟩) hS hA (fun r1 ad1 ln1 iv1 H locs hp1 hS => ?_)
    obtain ⟨g1, ⟨g2, g3, g4, g5, g6⟩, g7, g8, g9, g10, g11, g12, g13⟩ := hp1
    have l1x : ∀ k, ln1 k < 2 ^ 31 := fun k => by
      by_cases y1 : k = 43
      · rw [y1, g2]; have := l1 43; omega
      by_cases y2 : k = 44
      · rw [y2, g3]; have := l1 44; omega
      by_cases y3 : k = 45
      · rw [y3, g4]; have := l1 45; omega
      by_cases y4 : k = 47
      · rw [y4, g5]; have := l1 47; omega
      by_cases y5 : k = 48
      · rw [y5, g6]; have := l1 48; omega
      rw [(g1 k y1 y2 y3 y4 y5).2]; exact l1 k
    have hu := u_bld (show cnt ch P < 5 by omega) (fun i y1 y2 y3 y4 y5 => (g1 i y1 y2 y3 y4 y5).2) g2 g3 g4 g5 g6
    have hu3 := uC_le P T ln1
    have hu4 := uS_le c2 c4 ln1
    have l3x : rln ln1 := rln_cg l3 (fun i hi9 => (g1 i (by omega) (by omega) (by omega) (by omega) (by omega)).2)
    have k53 : iv1 53 = iv 53 := g13 53 (by decide) (by decide) (by decide) (by decide) (by decide) (by decide) (by decide) (by decide) (by decide) (by decide) (by decide) (by decide) (by decide)
    have k54 : iv1 54 = iv 54 := g13 54 (by decide) (by decide) (by decide) (by decide) (by decide) (by decide) (by decide) (by decide) (by decide) (by decide) (by decide) (by decide) (by decide)
    have k55 : iv1 55 = iv 55 := g13 55 (by decide) (by decide) (by decide) (by decide) (by decide) (by decide) (by decide) (by decide) (by decide) (by decide) (by decide) (by decide) (by decide)
    have k57 : iv1 57 = iv 57 := g13 57 (by decide) (by decide) (by decide) (by decide) (by decide) (by decide) (by decide) (by decide) (by decide) (by decide) (by decide) (by decide) (by decide)
    have hl : lv_has ls 8 [(0, .ref b), (1, .ref (ad1 0)), (2, .ref (ad1 53)), (3, .ref (ad1 67)), (4, .int (nI i))] := by
      rw [(g1 0 (by decide) (by decide) (by decide) (by decide) (by decide)).1, (g1 53 (by decide) (by decide) (by decide) (by decide) (by decide)).1, (g1 67 (by decide) (by decide) (by decide) (by decide) (by decide)).1]
      exact hl
    refine lv_aload_n hx hb dL_law_714 rfl (lv_at hl 2 rfl) ?_
    refine lv_aload_n hx hb dL_law_715 rfl (lv_at hl 0 rfl) ?_
    refine lv_iload hx hb dL_law_716 (lv_at hl 4 rfl) ?_
    refine lv_iconst (v := nI 1) hx hb dL_law_718 (by decide) ?_
    refine lv_iadd hx hb dL_law_719 ?_
    refine gx_as (y := nI (i + 1)) (nI_add i 1) ?_
    refine va_sld hx hb hXs hbl hbA hS.2.2 (vp_in_nI (by omega) (by omega)) dL_law_720 ?_
    refine gx_as (y := nI kq) (by rw [nI_clamp (by omega)]; exact ex1) ?_
    refine gc_i (gx_runV (As := [.int (nI kq)]) (rest := [.int r1]) ⟨hx, hb, hml, hown, hts⟩ hK hN hS 53 (by decide) rfl rfl (ct_X7_build l D cA o ad1 ln1 68 H.size iv1 kq mc P (cnt ch P) T (ff P (cnt ch P) * T ^ cnt ch P) (g0N P T ch) (pcs ch P) (rpN P T kq G Ad) G Ad (fun m => bkN P T (cnt ch P) (G m) (Ad m)) (by decide) l1x l3x (by rw [k53]; exact rr4) c7 (by rw [k53]; exact rr2) c3 c4 (by rw [k53]; exact rr1) c2 (by rw [k57]; exact rr9) pcs_inj (by rw [k53]; exact rr3) c5 (fun j hj => ⟨fun q hq => by rw [k54, k55]; exact rr7 j hj q hq, (c8 j).1⟩) (fun j _ => ord_ex c2 c3 c4 (c8 j).1) (fun _ _ => rfl) hkq rfl hS9 rfl (fun _ _ _ => rfl)) (cwV 1 hts (atA_lV gL_law_X7_build) rfl rfl rfl (by decide +kernel) ⟨gle hRf rfl, gle hRl rfl⟩) rfl rfl hl.1 rfl (lv_room (Nat.le_of_ble_eq_true rfl)) dL_law_721 ⟨by omega, by omega⟩) hS hA (fun r2 iv2 H locs hp2 hS => ?_)
    obtain ⟨⟨f1, f2, f3, f4, f5⟩, f6, f7, f8⟩ := hp2
    have hreq : r1 = r2 := g11.trans ((congrArg (fun z => nI z - 1) (bld_eq (P := P) (T := T) (mc := mc) (k9 := kq) (ch := ch) (G := G) (Ad := Ad) c3 c8).2.2).trans f7.symm)
    have hLI : LI P T mc sc ch G Ad Sg w t ln1 iv2 := LI_bld (k9 := kq) (kv := iv1) h hkq (fun i y1 y2 y3 y4 y5 => (g1 i y1 y2 y3 y4 y5).2) l1x (by rw [g5]; omega) (by rw [g6]; omega) g7 g10 g12 g13 ⟨f2, f3, f4⟩ (fun j y1 y2 y3 y4 => f5 j y1 y2 y3 y4) f6 (fun q y1 y2 y3 y4 y5 => f8 q y1 y2 y3 y4 y5)
    refine lv_icmp_eq (tgt := 1147) hx hb dL_law_724 (by decide) (fun _ => ?_) (fun c9 => absurd hreq c9)
    exact K _ _ _ _ _ _ _ _ _ P T mc sc ch G Ad Sg w t hLI (by omega) (by omega) hS (lv_sub hl [0, 1, 2, 3, 4] rfl)
  · skip
    refine lv_aload_n hx hb dL_law_704 rfl (lv_at hl 1 rfl) ?_
    refine lv_aload_n hx hb dL_law_705 rfl (lv_at hl 0 rfl) ?_
    refine lv_iload hx hb dL_law_706 (lv_at hl 4 rfl) ?_
    refine lv_iconst (v := nI 1) hx hb dL_law_708 (by decide) ?_
    refine lv_iadd hx hb dL_law_709 ?_
    refine gx_as (y := nI (i + 1)) (nI_add i 1) ?_
    refine va_sld hx hb hXs hbl hbA hS.2.2 (vp_in_nI (by omega) (by omega)) dL_law_710 ?_
    refine gx_as (y := x1) (by rw [nI_clamp (by omega)]; exact ex1) ?_
    refine gc_i (gx_runV (As := [.int x1]) (rest := []) ⟨hx, hb, hml, hown, hts⟩ hK hN hS 0 (by decide) rfl rfl (ct_X6_buildX l D cA o ad ln 68 H.size iv x1 (by decide) l1 q0 q1) (cwV 1 hts (atA_lV gL_law_X6_build) rfl rfl rfl (by decide +kernel) ⟨gle hRf rfl, gle hRl rfl⟩) rfl rfl hl.1 rfl (lv_room (Nat.le_of_ble_eq_true rfl)) dL_law_711 ⟨by omega, by omega⟩) hS hA (fun r1 iv1 H locs hp1 hS => ?_)
    obtain ⟨e1, ev1⟩ := hp1
    rw [ev1] at hS
    refine lv_aload_n hx hb dL_law_714 rfl (lv_at hl 2 rfl) ?_
    refine lv_aload_n hx hb dL_law_715 rfl (lv_at hl 0 rfl) ?_
    refine lv_iload hx hb dL_law_716 (lv_at hl 4 rfl) ?_
    refine lv_iconst (v := nI 1) hx hb dL_law_718 (by decide) ?_
    refine lv_iadd hx hb dL_law_719 ?_
    refine gx_as (y := nI (i + 1)) (nI_add i 1) ?_
    refine va_sld hx hb hXs hbl hbA hS.2.2 (vp_in_nI (by omega) (by omega)) dL_law_720 ?_
    refine gx_as (y := x1) (by rw [nI_clamp (by omega)]; exact ex1) ?_
    refine gc_i (gx_runV (As := [.int x1]) (rest := [.int r1]) ⟨hx, hb, hml, hown, hts⟩ hK hN hS 53 (by decide) rfl rfl (ct_X7_buildX l D cA o ad ln 68 H.size iv x1 (by decide) l1 q0 q1) (cwV 1 hts (atA_lV gL_law_X7_build) rfl rfl rfl (by decide +kernel) ⟨gle hRf rfl, gle hRl rfl⟩) rfl rfl hl.1 rfl (lv_room (Nat.le_of_ble_eq_true rfl)) dL_law_721 ⟨by omega, by omega⟩) hS hA (fun r2 iv2 H locs hp2 hS => ?_)
    obtain ⟨f1, ev2⟩ := hp2
    have hreq : r1 = r2 := by rw [e1, f1]
    have hLI : LI P T mc sc ch G Ad Sg w t ln iv2 := by rw [ev2]; exact LI_th h 0
    refine lv_icmp_eq (tgt := 1147) hx hb dL_law_724 (by decide) (fun _ => ?_) (fun c9 => absurd hreq c9)
    exact K _ _ _ _ _ _ _ _ _ P T mc sc ch G Ad Sg w t hLI (by omega) (by omega) hS (lv_sub hl [0, 1, 2, 3, 4] rfl)

set_option maxHeartbeats 4000000 in
set_option maxRecDepth 100000 in
theorem law_classes {p : Program} {l : Launch} {e : Env} {R : Room} {s : State} {m : MethodId} {below : List Frame} {meth : Method} {c : Code} {D : va_G} {cA : Nat → ClassId} {b L i : Nat} {xs : Nat → Int32} {Q : State → Prop} {o : Nat → Int64} {ad ln : Nat → Nat} {iv : Nat → Nat → Int32} {H : Heap} {locs : List Loc} {ls : Array Slot} {cells slots P T mc sc : Nat} {ch : Nat → Bool} {G Ad Sg : Nat → Nat → Nat} {w t : Nat → Nat} (X : LX p l R s m c D cA b L xs) (hi : i + 3 < L) (h : LI P T mc sc ch G Ad Sg w t ln iv) (hcb : cells ≤ 500 + uC P T ln + i) (hsb : slots ≤ 500000 + uS P T ln + 2 * i) (hS : gS D cA (fun q => s.heap.size ≤ q) s.heap o ad ln iv 68 H locs) (hl : lv_has ls 8 [(0, .ref b), (1, .ref (ad 0)), (2, .ref (ad 53)), (3, .ref (ad 67)), (4, .int (nI i))]) (K : LK p l e R s m below meth c D cA b i Q) : W p l e R s m #[.ref b] below meth c H locs cells slots Q (F0 m 1109 ls []) := by
  obtain ⟨hx, hb, hml, hown, hts, hXs, hbl, hK, hN, hX, hst, hRf, hRl, hRc, hRs, hL⟩ := X
  have hA : ∀ q : Nat, s.heap.size ≤ q → (fun q : Nat => s.heap.size ≤ q) q := fun _ h => h
  have hbA : ¬ (fun q : Nat => s.heap.size ≤ q) b := Nat.not_le.mpr hbl
  obtain ⟨⟨c1, c2, c3, c4, c5, c6, c7, c8, c9, c10, c11, c12⟩, ⟨l1, l2, l3⟩, ⟨a1, a2, a3, a4, a5, a6, a7, a8, a9, a10, a11, a12⟩, m0, s0, ⟨n1, n2, n3, n4⟩, ⟨rr1, rr2, rr3, rr4, rr5, rr6, rr7, rr8, rr9, rr10⟩, t0, o0⟩ := id h
  have hcP : cnt ch P ≤ P := inj_le_P pcs_inj
  have hu1 := uC_le P T ln
  have hu2 := uS_le c2 c4 ln
  have hff := ff_1680 P (by omega) (cnt ch P) (by omega)
  have hpw := pw_le4 c4 c7
  have hS9 := Nat.mul_le_mul hff hpw
  rcases o0 with o0 | ⟨o1, o2, o3, lk, o4, o5, o6⟩
  · skip
    have gdeq : ∀ j, j < sc → (goodAt iv P mc (21 + j) ↔ gdN P mc ch G Ad (Sg j)) := fun j hj => good_both c2 c4 (fun q hq => m0 q (by omega)) (fun p hp => ⟨s0 j hj p hp, (c9 j).1 p hp⟩) (c9 j) a12
    have hij : ∀ z, z < sc → gdN P mc ch G Ad (Sg z) → inj (imZ P T ch Sg z) (ff P (cnt ch P) * T ^ cnt ch P) (ff P (cnt ch P) * T ^ cnt ch P) := fun z _ hg => imN_inj c3 hcP (c9 z) pcs_inj (siF_ok (c9 z) hg.1)
    have hgo : ∀ j, j < 6 → ∀ p, p < P → vp_in (iv (2 + 3 * j + 1) p) P := fun j hj p hp => by rw [((m0 j hj).2 p hp).1]; exact vp_in_nI ((m0 j hj).2 p hp).2.1 (by omega)
    have b1 := al_le (ln 50) (ff P (cnt ch P) * T ^ cnt ch P)
    have b2 := al_le (ln 51) (ff P (cnt ch P))
    have b3 := al_le (ln 52) (T ^ cnt ch P)
    have d1 := als_le (ln 50) (ff P (cnt ch P) * T ^ cnt ch P)
    have d2 := als_le (ln 51) (ff P (cnt ch P))
    have d3 := als_le (ln 52) (T ^ cnt ch P)
    refine lv_aload_n hx hb dL_law_1109 rfl (lv_at hl 1 rfl) ?_
    refine gc_ixM (ct_X6_classesU l D cA o ad ln 68 H.size iv mc sc P (cnt ch P) T (pcs ch P) Sg (fun z => siF ch P (Sg z)) (by decide) l1 o0 l2 a7 c7 a6 c3 c4 c2 a10 pcs_inj a5 a1 a8 a9 a3 c5 hgo a11 a4 c6 (fun j hj => ⟨s0 j hj, c9 j⟩) (fun j hj hg => siF_ok (c9 j) ((gdeq j hj).mp hg).1) n3) (fun hM => gx_runV (As := []) (rest := []) ⟨hx, hb, hml, hown, hts⟩ hK hN hS 0 (by decide) rfl rfl hM (cwV 0 hts (atA_lV gL_law_X6_classes) rfl rfl rfl (by decide +kernel) ⟨gle hRf rfl, gle hRl rfl⟩) rfl rfl hl.1 rfl (lv_room (Nat.le_of_ble_eq_true rfl)) dL_law_1110 ⟨by omega, by omega⟩) hS hA (fun r1 ad1 ln1 iv1 H locs hp1 hS => ?_)
    obtain ⟨e1, g1, ⟨g2, g3, g4⟩, g5, ⟨lk, g6, g7, g8⟩, g10, g11⟩ := hp1
    have l1x : ∀ k, ln1 k < 2 ^ 31 := fun k => by
      by_cases y1 : k = 50
      · rw [y1, g2]; have := l1 50; omega
      by_cases y2 : k = 51
      · rw [y2, g3]; have := l1 51; omega
      by_cases y3 : k = 52
      · rw [y3, g4]; have := l1 52; omega
      rw [(g1 k y1 y2 y3).2]; exact l1 k
    have hu := u_orb (show cnt ch P < 5 by omega) (fun i y1 y2 y3 => (g1 i y1 y2 y3).2) g2 g3 g4
    have hu3 := uC_le P T ln1
    have hu4 := uS_le c2 c4 ln1
    have hcls := clsTo_cg (img2 := imZ P T ch Sg) (gd2 := fun z => gdN P mc ch G Ad (Sg z)) gdeq (fun j hj hg x _ => imgF_imN c3 (siF_ok (c9 j) hg.1)) g7
    have hLI1 : LI P T mc sc ch G Ad Sg w t ln1 iv1 := LI_orb h (fun i y1 y2 y3 => (g1 i y1 y2 y3).2) l1x (by rw [g2]; omega) g5 g6 hcls g8 g10 g11
    obtain ⟨_, ⟨_, _, l3x⟩, _, _, _, _, ⟨q1, q2, q3, q4, q5, q6, q7, q8, q9, q10⟩, _, _⟩ := id hLI1
    have hl : lv_has ls 8 [(0, .ref b), (1, .ref (ad1 0)), (2, .ref (ad1 53)), (3, .ref (ad1 67)), (4, .int (nI i))] := by
      rw [(g1 0 (by decide) (by decide) (by decide)).1, (g1 53 (by decide) (by decide) (by decide)).1, (g1 67 (by decide) (by decide) (by decide)).1]
      exact hl
    refine lv_aload_n hx hb dL_law_1113 rfl (lv_at hl 2 rfl) ?_
    refine gc_i (gx_runV (As := []) (rest := [.int r1]) ⟨hx, hb, hml, hown, hts⟩ hK hN hS 53 (by decide) rfl rfl (ct_X7_classes l D cA o ad1 ln1 68 H.size iv1 P T (cnt ch P) (ff P (cnt ch P) * T ^ cnt ch P) mc sc (pcs ch P) Sg (fun z => siF ch P (Sg z)) (imZ P T ch Sg) G Ad ch (fun z => gdN P mc ch G Ad (Sg z)) (fun y => lk y == y) (by decide) l1x l3x q4 c7 q2 c3 c4 q1 c2 q9 pcs_inj rfl hS9 q6 c6 q10 q3 c5 q7 q8 (fun _ _ => Iff.rfl) (fun z _ => c9 z) (fun z _ hg => ⟨siF_ok (c9 z) hg.1, fun _ _ => rfl⟩) (fun y hy => cls_fix hij hcls hy)) (cwV 0 hts (atA_lV gL_law_X7_classes) rfl rfl rfl (by decide +kernel) ⟨gle hRf rfl, gle hRl rfl⟩) rfl rfl hl.1 rfl (lv_room (Nat.le_of_ble_eq_true rfl)) dL_law_1114 ⟨by omega, by omega⟩) hS hA (fun r2 iv2 H locs hp2 hS => ?_)
    obtain ⟨f1, ⟨f2, f3⟩, f4⟩ := hp2
    have hreq : r1 = r2 := by
      rw [e1, g8, f1]
      rfl
    have hLI : LI P T mc sc ch G Ad Sg w t ln1 iv2 := LI_fr hLI1 (fun j hj => f3 j hj) (fun q hq => f4 q (fun u => by rw [u] at hq; exact absurd hq (by decide)) (fun u => by rw [u] at hq; exact absurd hq (by decide)) (fun u => by rw [u] at hq; exact absurd hq (by decide)) (fun u => by rw [u] at hq; exact absurd hq (by decide)) (fun u => by rw [u] at hq; exact absurd hq (by decide)) (fun u => by rw [u] at hq; exact absurd hq (by decide)) (fun u => by rw [u] at hq; exact absurd hq (by decide)) (fun u => by rw [u] at hq; exact absurd hq (by decide))) (fun p hp => by rw [f4 33 (by decide) (by decide) (by decide) (by decide) (by decide) (by decide) (by decide) (by decide)]; exact g10 p hp)
    refine lv_icmp_eq (tgt := 1147) hx hb dL_law_1117 (by decide) (fun _ => ?_) (fun c9 => absurd hreq c9)
    exact K _ _ _ _ _ _ _ _ _ P T mc sc ch G Ad Sg w t hLI (by omega) (by omega) hS (lv_sub hl [0, 1, 2, 3, 4] rfl)
  · skip
    have hij : ∀ z, z < sc → gdN P mc ch G Ad (Sg z) → inj (imZ P T ch Sg z) (ff P (cnt ch P) * T ^ cnt ch P) (ff P (cnt ch P) * T ^ cnt ch P) := fun z _ hg => imN_inj c3 hcP (c9 z) pcs_inj (siF_ok (c9 z) hg.1)
    refine lv_aload_n hx hb dL_law_1109 rfl (lv_at hl 1 rfl) ?_
    refine gc_i (gx_runV (As := []) (rest := []) ⟨hx, hb, hml, hown, hts⟩ hK hN hS 0 (by decide) rfl rfl (ct_X6_classesK l D cA o ad ln 68 H.size iv (by decide) l1 (by rw [o1]; decide)) (cwV 0 hts (atA_lV gL_law_X6_classes) rfl rfl rfl (by decide +kernel) ⟨gle hRf rfl, gle hRl rfl⟩) rfl rfl hl.1 rfl (lv_room (Nat.le_of_ble_eq_true rfl)) dL_law_1110 ⟨by omega, by omega⟩) hS hA (fun r1 iv1 H locs hp1 hS => ?_)
    obtain ⟨e1, ev1⟩ := hp1
    rw [ev1] at hS
    refine lv_aload_n hx hb dL_law_1113 rfl (lv_at hl 2 rfl) ?_
    refine gc_i (gx_runV (As := []) (rest := [.int r1]) ⟨hx, hb, hml, hown, hts⟩ hK hN hS 53 (by decide) rfl rfl (ct_X7_classes l D cA o ad ln 68 H.size iv P T (cnt ch P) (ff P (cnt ch P) * T ^ cnt ch P) mc sc (pcs ch P) Sg (fun z => siF ch P (Sg z)) (imZ P T ch Sg) G Ad ch (fun z => gdN P mc ch G Ad (Sg z)) (fun y => lk y == y) (by decide) l1 l3 rr4 c7 rr2 c3 c4 rr1 c2 rr9 pcs_inj rfl hS9 rr6 c6 rr10 rr3 c5 rr7 rr8 (fun _ _ => Iff.rfl) (fun z _ => c9 z) (fun z _ hg => ⟨siF_ok (c9 z) hg.1, fun _ _ => rfl⟩) (fun y hy => cls_fix hij o5 hy)) (cwV 0 hts (atA_lV gL_law_X7_classes) rfl rfl rfl (by decide +kernel) ⟨gle hRf rfl, gle hRl rfl⟩) rfl rfl hl.1 rfl (lv_room (Nat.le_of_ble_eq_true rfl)) dL_law_1114 ⟨by omega, by omega⟩) hS hA (fun r2 iv2 H locs hp2 hS => ?_)
    obtain ⟨f1, ⟨f2, f3⟩, f4⟩ := hp2
    have hreq : r1 = r2 := by
      rw [e1, o6, f1]
      rfl
    have hLI : LI P T mc sc ch G Ad Sg w t ln iv2 := LI_fr h (fun j hj => f3 j hj) (fun q hq => f4 q (fun u => by rw [u] at hq; exact absurd hq (by decide)) (fun u => by rw [u] at hq; exact absurd hq (by decide)) (fun u => by rw [u] at hq; exact absurd hq (by decide)) (fun u => by rw [u] at hq; exact absurd hq (by decide)) (fun u => by rw [u] at hq; exact absurd hq (by decide)) (fun u => by rw [u] at hq; exact absurd hq (by decide)) (fun u => by rw [u] at hq; exact absurd hq (by decide)) (fun u => by rw [u] at hq; exact absurd hq (by decide))) (fun p hp => by rw [f4 33 (by decide) (by decide) (by decide) (by decide) (by decide) (by decide) (by decide) (by decide)]; exact n3 p hp)
    refine lv_icmp_eq (tgt := 1147) hx hb dL_law_1117 (by decide) (fun _ => ?_) (fun c9 => absurd hreq c9)
    exact K _ _ _ _ _ _ _ _ _ P T mc sc ch G Ad Sg w t hLI (by omega) (by omega) hS (lv_sub hl [0, 1, 2, 3, 4] rfl)
