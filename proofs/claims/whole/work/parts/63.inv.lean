/-! how what they hold changes -/
def tr2 (a b x : Nat) : Nat := if x = b then a else if x = a then b else x
theorem tr2_inj {P a b : Nat} (ha : a < P) (hb : b < P) : inj (tr2 a b) P P := by
  unfold tr2
  refine ⟨fun j hj => ?_, fun j k hj hk e => ?_⟩
  · show (if j = b then a else if j = a then b else j) < P
    split
    · exact ha
    · split
      · exact hb
      · exact hj
  · have e : (if j = b then a else if j = a then b else j) = (if k = b then a else if k = a then b else k) := e
    split at e <;> split at e <;> (try split at e) <;> (try split at e) <;> omega
section LIY
variable {P T mc sc : Nat} {ch : Nat → Bool} {G Ad Sg : Nat → Nat → Nat} {w t : Nat → Nat} {ln : Nat → Nat} {iv kv jv : Nat → Nat → Int32}
theorem LI_move (h : LI P T mc sc ch G Ad Sg w t ln iv) (hlt : mc < 6) (hk : kv = up2 (up2 (up2 iv 46 0 0) 49 0 0) 0 3 (nI (mc + 1)))
    (h53 : ∀ j, jv 53 j = if j = 0 then 0 else if j = 3 then nI (mc + 1) else if j = 12 then 0 else kv 53 j) (h54 : ∀ j, jv 54 j = if 8 * mc ≤ j ∧ j < 8 * mc + 8 then nI (j - 8 * mc) else kv 54 j) (h55 : ∀ j, jv 55 j = if 8 * mc ≤ j ∧ j < 8 * mc + 8 then 0 else kv 55 j) (hq : ∀ q, q ≠ 53 → q ≠ 54 → q ≠ 55 → jv q = kv q) : LI P T (mc + 1) sc ch G Ad Sg w t ln jv := by
  obtain ⟨c0, l0, a0, m0, s0, n0, r0, t0, o0⟩ := h
  obtain ⟨c1, c2, c3, c4, c5, c6, c7, c8, c9, c10, c11, c12⟩ := c0
  have e : ∀ q, q ≠ 0 → q ≠ 46 → q ≠ 49 → q ≠ 53 → q ≠ 54 → q ≠ 55 → jv q = iv q := fun q x1 x2 x3 x4 x5 x6 => by rw [hq q x4 x5 x6, hk, up2_row x1, up2_row x3, up2_row x2]
  have e0 : ∀ j, jv 0 j = if j = 3 then nI (mc + 1) else iv 0 j := fun j => by
    rw [hq 0 (by decide) (by decide) (by decide), hk, up2_eq]
    by_cases q : j = 3
    · rw [if_pos ⟨rfl, q⟩, if_pos q]
    · rw [if_neg (fun u => q u.2), if_neg q, up2_row (by decide), up2_row (by decide)]
  have k53 : kv 53 = iv 53 := by rw [hk, up2_row (by decide), up2_row (by decide), up2_row (by decide)]
  have k54 : kv 54 = iv 54 := by rw [hk, up2_row (by decide), up2_row (by decide), up2_row (by decide)]
  have k55 : kv 55 = iv 55 := by rw [hk, up2_row (by decide), up2_row (by decide), up2_row (by decide)]
  obtain ⟨a1, a2, a3, a4, a5⟩ := a0
  obtain ⟨r1, r2, r3, r4, r5, r6, r7, r8, r9, r10⟩ := r0
  have d : ∀ q, jv q = jv q := fun _ => rfl
  refine ⟨⟨c1, c2, c3, c4, by omega, c6, c7, c8, c9, c10, c11, fun j hj => c12 j (by omega)⟩, l0, ⟨by rw [e0, if_neg (by decide)]; exact a1, by rw [e0, if_neg (by decide)]; exact a2, by rw [e0, if_pos rfl], by rw [e0, if_neg (by decide)]; exact a4, ?_⟩, LIm_cg m0 (fun q x y => e q (by omega) (by omega) (by omega) (by omega) (by omega) (by omega)), LIs_cg s0 c6 (fun q x y => e q (by omega) (by omega) (by omega) (by omega) (by omega) (by omega)), ?_, ⟨?_, ?_, ?_, ?_, ?_, ?_, fun j hj q hq9 => ?_, ?_, ?_, ?_⟩, Or.inl ⟨?_, ?_⟩, Or.inl ?_⟩
  · rw [e 25 (by decide) (by decide) (by decide) (by decide) (by decide) (by decide), e 26 (by decide) (by decide) (by decide) (by decide) (by decide) (by decide), e 27 (by decide) (by decide) (by decide) (by decide) (by decide) (by decide)]
    exact a5
  · exact LIn_cg n0 (e 30 (by decide) (by decide) (by decide) (by decide) (by decide) (by decide)) (e 31 (by decide) (by decide) (by decide) (by decide) (by decide) (by decide)) (by rw [e 33 (by decide) (by decide) (by decide) (by decide) (by decide) (by decide)]; exact n0.2.2.1) (e 38 (by decide) (by decide) (by decide) (by decide) (by decide) (by decide))
  · rw [h53, if_neg (by decide), if_neg (by decide), if_neg (by decide), k53]; exact r1
  · rw [h53, if_neg (by decide), if_neg (by decide), if_neg (by decide), k53]; exact r2
  · rw [h53, if_neg (by decide), if_pos rfl]
  · rw [h53, if_neg (by decide), if_neg (by decide), if_neg (by decide), k53]; exact r4
  · rw [h53, if_neg (by decide), if_neg (by decide), if_neg (by decide), k53]; exact r5
  · rw [h53, if_neg (by decide), if_neg (by decide), if_neg (by decide), k53]; exact r6
  · rw [h54, h55, k54, k55]
    by_cases x : j = mc
    · subst x
      obtain ⟨g1, g2⟩ := c12 j (Nat.le_refl _) q hq9
      rw [if_pos (by omega), if_pos (by omega), g1, g2, show 8 * j + q - 8 * j = q by omega]
      exact ⟨rfl, hq9, rfl, c3⟩
    · rw [if_neg (by omega), if_neg (by omega)]
      exact r7 j (by omega) q hq9
  · rw [e 56 (by decide) (by decide) (by decide) (by decide) (by decide) (by decide)]; exact r8
  · rw [e 57 (by decide) (by decide) (by decide) (by decide) (by decide) (by decide)]; exact r9
  · intro z hz q hq9
    rw [e 63 (by decide) (by decide) (by decide) (by decide) (by decide) (by decide)]
    exact r10 z hz q hq9
  · rw [hq 46 (by decide) (by decide) (by decide), hk, up2_row (by decide), up2_row (by decide), up2_s]
  · rw [h53, if_neg (by decide), if_neg (by decide), if_pos rfl]
  · rw [hq 49 (by decide) (by decide) (by decide), hk, up2_row (by decide), up2_s]
/-- a move's rows change -/
theorem LI_mv {m9 : Nat} {Gm Am : Nat → Nat} (h : LI P T mc sc ch G Ad Sg w t ln iv) (hm9 : m9 < mc) (hG : inj Gm P P) (hA : ∀ q, q < P → Am q < T)
    (e1 : ∀ q, q < P → kv (2 + 3 * m9 + 1) q = nI (Gm q)) (e2 : ∀ q, q < P → kv (2 + 3 * m9 + 2) q = nI (Am q)) (ek : ∀ q, q ≠ 2 + 3 * m9 + 1 → q ≠ 2 + 3 * m9 + 2 → q ≠ 46 → q ≠ 49 → kv q = iv q) (k46 : kv 46 0 = 0) (k49 : kv 49 0 = 0)
    (f1 : ∀ q, q < P → jv 54 (8 * m9 + q) = nI (Gm q)) (f2 : ∀ q, q < P → jv 55 (8 * m9 + q) = nI (Am q)) (f3 : ∀ j, j ≠ m9 → ∀ q, q < P → jv 54 (8 * j + q) = kv 54 (8 * j + q) ∧ jv 55 (8 * j + q) = kv 55 (8 * j + q)) (f4 : ∀ j, j ≠ 0 → j ≠ 12 → jv 53 j = kv 53 j) (f5 : jv 53 12 = 0) (ej : ∀ q, q ≠ 53 → q ≠ 54 → q ≠ 55 → jv q = kv q) : LI P T mc sc ch (va_up G m9 Gm) (va_up Ad m9 Am) Sg w t ln jv := by
  obtain ⟨c0, l0, a0, m0, s0, n0, r0, t0, o0⟩ := h
  obtain ⟨c1, c2, c3, c4, c5, c6, c7, c8, c9, c10, c11, c12⟩ := c0
  obtain ⟨r1, r2, r3, r4, r5, r6, r7, r8, r9, r10⟩ := r0
  have e : ∀ q, q ≠ 2 + 3 * m9 + 1 → q ≠ 2 + 3 * m9 + 2 → q ≠ 46 → q ≠ 49 → q ≠ 53 → q ≠ 54 → q ≠ 55 → jv q = iv q := fun q x1 x2 x3 x4 x5 x6 x7 => by rw [ej q x5 x6 x7, ek q x1 x2 x3 x4]
  have g53 : ∀ j, j ≠ 0 → j ≠ 12 → jv 53 j = iv 53 j := fun j x1 x2 => by rw [f4 j x1 x2, ek 53 (by omega) (by omega) (by omega) (by omega)]
  refine ⟨⟨c1, c2, c3, c4, c5, c6, c7, fun j => ?_, c9, c10, c11, fun j hj => ?_⟩, l0, LIa_cg a0 (e 0 (by omega) (by omega) (by omega) (by omega) (by omega) (by omega) (by omega)) (e 25 (by omega) (by omega) (by omega) (by omega) (by omega) (by omega) (by omega)) (e 26 (by omega) (by omega) (by omega) (by omega) (by omega) (by omega) (by omega)) (e 27 (by omega) (by omega) (by omega) (by omega) (by omega) (by omega) (by omega)), fun j hj => ?_, LIs_cg s0 c6 (fun q x y => e q (by omega) (by omega) (by omega) (by omega) (by omega) (by omega) (by omega)), LIn_cg n0 (e 30 (by omega) (by omega) (by omega) (by omega) (by omega) (by omega) (by omega)) (e 31 (by omega) (by omega) (by omega) (by omega) (by omega) (by omega) (by omega)) (by rw [e 33 (by omega) (by omega) (by omega) (by omega) (by omega) (by omega) (by omega)]; exact n0.2.2.1) (e 38 (by omega) (by omega) (by omega) (by omega) (by omega) (by omega) (by omega)), ⟨by rw [g53 1 (by decide) (by decide)]; exact r1, by rw [g53 2 (by decide) (by decide)]; exact r2, by rw [g53 3 (by decide) (by decide)]; exact r3, by rw [g53 7 (by decide) (by decide)]; exact r4, by rw [g53 11 (by decide) (by decide)]; exact r5, by rw [g53 18 (by decide) (by decide)]; exact r6, fun j hj q hq9 => ?_, by rw [e 56 (by omega) (by omega) (by omega) (by omega) (by omega) (by omega) (by omega)]; exact r8, by rw [e 57 (by omega) (by omega) (by omega) (by omega) (by omega) (by omega) (by omega)]; exact r9, fun z hz q hq9 => by rw [e 63 (by omega) (by omega) (by omega) (by omega) (by omega) (by omega) (by omega)]; exact r10 z hz q hq9⟩, Or.inl ⟨by rw [ej 46 (by decide) (by decide) (by decide)]; exact k46, f5⟩, Or.inl (by rw [ej 49 (by decide) (by decide) (by decide)]; exact k49)⟩
  · by_cases x : j = m9
    · subst x; rw [va_up_self, va_up_self]; exact ⟨hG, hA⟩
    · rw [va_up_ne _ _ x, va_up_ne _ _ x]; exact c8 j
  · rw [va_up_ne _ _ (by omega), va_up_ne _ _ (by omega)]; exact c12 j hj
  · by_cases x : j = m9
    · subst x
      rw [va_up_self, va_up_self]
      refine ⟨by rw [e (2 + 3 * j) (by omega) (by omega) (by omega) (by omega) (by omega) (by omega) (by omega)]; exact (m0 j hj).1, fun q hq9 => ⟨by rw [ej _ (by omega) (by omega) (by omega)]; exact e1 q hq9, hG.1 q hq9, by rw [ej _ (by omega) (by omega) (by omega)]; exact e2 q hq9, hA q hq9⟩⟩
    · rw [va_up_ne _ _ x, va_up_ne _ _ x]
      unfold moveAt
      rw [e (2 + 3 * j) (by omega) (by omega) (by omega) (by omega) (by omega) (by omega) (by omega), e (2 + 3 * j + 1) (by omega) (by omega) (by omega) (by omega) (by omega) (by omega) (by omega), e (2 + 3 * j + 2) (by omega) (by omega) (by omega) (by omega) (by omega) (by omega) (by omega)]
      exact m0 j hj
  · by_cases x : j = m9
    · subst x
      rw [va_up_self, va_up_self]
      exact ⟨f1 q hq9, hG.1 q hq9, f2 q hq9, hA q hq9⟩
    · rw [va_up_ne _ _ x, va_up_ne _ _ x, (f3 j x q hq9).1, (f3 j x q hq9).2, ek 54 (by omega) (by omega) (by omega) (by omega), ek 55 (by omega) (by omega) (by omega) (by omega)]
      exact r7 j hj q hq9
/-- a symmetry's row changes, or one more is there -/
theorem LI_sy {z9 sc2 : Nat} {Sz : Nat → Nat} (h : LI P T mc sc ch G Ad Sg w t ln iv) (hz9 : z9 < 4) (h2 : sc2 ≤ 4) (hor : (sc2 = sc ∧ z9 < sc) ∨ (sc2 = sc + 1 ∧ z9 = sc)) (hS : inj Sz P P)
    (e1 : ∀ q, q < P → kv (21 + z9) q = nI (Sz q)) (ek : ∀ q, q ≠ 0 → q ≠ 21 + z9 → q ≠ 49 → kv q = iv q) (k0 : ∀ j, kv 0 j = if j = 5 then nI sc2 else iv 0 j) (k49 : kv 49 0 = 0)
    (f1 : ∀ q, q < P → jv 63 (8 * z9 + q) = nI (Sz q)) (f3 : ∀ j, j ≠ z9 → ∀ q, q < P → jv 63 (8 * j + q) = kv 63 (8 * j + q)) (f4 : ∀ j, j ≠ 0 → jv 53 j = if j = 18 then nI sc2 else kv 53 j) (ej : ∀ q, q ≠ 53 → q ≠ 63 → jv q = kv q) : LI P T mc sc2 ch G Ad (va_up Sg z9 Sz) w t ln jv := by
  obtain ⟨c0, l0, a0, m0, s0, n0, r0, t0, o0⟩ := h
  obtain ⟨c1, c2, c3, c4, c5, c6, c7, c8, c9, c10, c11, c12⟩ := c0
  obtain ⟨r1, r2, r3, r4, r5, r6, r7, r8, r9, r10⟩ := r0
  obtain ⟨a1, a2, a3, a4, a5⟩ := a0
  have e : ∀ q, q ≠ 0 → q ≠ 21 + z9 → q ≠ 49 → q ≠ 53 → q ≠ 63 → jv q = iv q := fun q x1 x2 x3 x4 x5 => by rw [ej q x4 x5, ek q x1 x2 x3]
  have j0 : jv 0 = kv 0 := ej 0 (by decide) (by decide)
  have g53 : ∀ j, j ≠ 0 → j ≠ 18 → jv 53 j = iv 53 j := fun j x1 x2 => by rw [f4 j x1, if_neg x2, ek 53 (by omega) (by omega) (by omega)]
  refine ⟨⟨c1, c2, c3, c4, c5, h2, c7, c8, fun z => ?_, c10, c11, c12⟩, l0, ⟨by rw [j0, k0, if_neg (by decide)]; exact a1, by rw [j0, k0, if_neg (by decide)]; exact a2, by rw [j0, k0, if_neg (by decide)]; exact a3, by rw [j0, k0, if_pos rfl], ?_⟩, LIm_cg m0 (fun q x y => e q (by omega) (by omega) (by omega) (by omega) (by omega)), fun z hz p hp => ?_, LIn_cg n0 (e 30 (by omega) (by omega) (by omega) (by omega) (by omega)) (e 31 (by omega) (by omega) (by omega) (by omega) (by omega)) (by rw [e 33 (by omega) (by omega) (by omega) (by omega) (by omega)]; exact n0.2.2.1) (e 38 (by omega) (by omega) (by omega) (by omega) (by omega)), ⟨by rw [g53 1 (by decide) (by decide)]; exact r1, by rw [g53 2 (by decide) (by decide)]; exact r2, by rw [g53 3 (by decide) (by decide)]; exact r3, by rw [g53 7 (by decide) (by decide)]; exact r4, by rw [g53 11 (by decide) (by decide)]; exact r5, by rw [f4 18 (by decide), if_pos rfl], fun j hj q hq9 => by rw [e 54 (by omega) (by omega) (by omega) (by omega) (by omega), e 55 (by omega) (by omega) (by omega) (by omega) (by omega)]; exact r7 j hj q hq9, by rw [e 56 (by omega) (by omega) (by omega) (by omega) (by omega)]; exact r8, by rw [e 57 (by omega) (by omega) (by omega) (by omega) (by omega)]; exact r9, fun z hz q hq9 => ?_⟩, LIt_cg' t0 (e 46 (by omega) (by omega) (by omega) (by omega) (by omega)) (e 47 (by omega) (by omega) (by omega) (by omega) (by omega)) (e 48 (by omega) (by omega) (by omega) (by omega) (by omega)) (g53 12 (by decide) (by decide)) (g53 13 (by decide) (by decide)) (g53 14 (by decide) (by decide)) (e 60 (by omega) (by omega) (by omega) (by omega) (by omega)), Or.inl (by rw [ej 49 (by decide) (by decide)]; exact k49)⟩
  · by_cases x : z = z9
    · subst x; rw [va_up_self]; exact hS
    · rw [va_up_ne _ _ x]; exact c9 z
  · rw [e 25 (by omega) (by omega) (by omega) (by omega) (by omega), e 26 (by omega) (by omega) (by omega) (by omega) (by omega), e 27 (by omega) (by omega) (by omega) (by omega) (by omega)]
    exact a5
  · by_cases x : z = z9
    · subst x; rw [va_up_self, ej _ (by omega) (by omega)]; exact e1 p hp
    · rw [va_up_ne _ _ x, e _ (by omega) (by omega) (by omega) (by omega) (by omega)]; exact s0 z (by omega) p hp
  · by_cases x : z = z9
    · subst x; rw [va_up_self]; exact ⟨f1 q hq9, hS.1 q hq9⟩
    · rw [va_up_ne _ _ x, f3 z x q hq9, ek 63 (by omega) (by omega) (by omega)]; exact r10 z (by omega) q hq9
/-- the state changes -/
theorem LI_st {w2 t2 : Nat → Nat} (h : LI P T mc sc ch G Ad Sg w t ln iv) (hw : inj w2 P (cnt ch P)) (ht : ∀ i, i < cnt ch P → t2 i < T) (hn : holdsAt jv 29 (cnt ch P) (pcs ch P) w2 t2) (h30 : ∀ p, p < P → vp_in (jv 30 p) P) (h11 : jv 53 11 = nI (num P T (cnt ch P) w2 t2)) (e53 : ∀ j, j ≠ 0 → j ≠ 11 → jv 53 j = iv 53 j) (e : ∀ q, q ≠ 28 → q ≠ 30 → q ≠ 31 → q ≠ 53 → q ≠ 58 → q ≠ 59 → jv q = iv q) : LI P T mc sc ch G Ad Sg w2 t2 ln jv := by
  obtain ⟨c0, l0, a0, m0, s0, n0, r0, t0, o0⟩ := h
  obtain ⟨c1, c2, c3, c4, c5, c6, c7, c8, c9, c10, c11, c12⟩ := c0
  obtain ⟨r1, r2, r3, r4, r5, r6, r7, r8, r9, r10⟩ := r0
  refine ⟨⟨c1, c2, c3, c4, c5, c6, c7, c8, c9, hw, ht, c12⟩, l0, LIa_cg a0 (e 0 (by decide) (by decide) (by decide) (by decide) (by decide) (by decide)) (e 25 (by decide) (by decide) (by decide) (by decide) (by decide) (by decide)) (e 26 (by decide) (by decide) (by decide) (by decide) (by decide) (by decide)) (e 27 (by decide) (by decide) (by decide) (by decide) (by decide) (by decide)), LIm_cg m0 (fun q x y => e q (by omega) (by omega) (by omega) (by omega) (by omega) (by omega)), LIs_cg s0 c6 (fun q x y => e q (by omega) (by omega) (by omega) (by omega) (by omega) (by omega)), ⟨hn, h30, by rw [e 33 (by decide) (by decide) (by decide) (by decide) (by decide) (by decide)]; exact n0.2.2.1, by rw [e 38 (by decide) (by decide) (by decide) (by decide) (by decide) (by decide)]; exact n0.2.2.2⟩, ⟨by rw [e53 1 (by decide) (by decide)]; exact r1, by rw [e53 2 (by decide) (by decide)]; exact r2, by rw [e53 3 (by decide) (by decide)]; exact r3, by rw [e53 7 (by decide) (by decide)]; exact r4, h11, by rw [e53 18 (by decide) (by decide)]; exact r6, fun j hj q hq9 => by rw [e 54 (by decide) (by decide) (by decide) (by decide) (by decide) (by decide), e 55 (by decide) (by decide) (by decide) (by decide) (by decide) (by decide)]; exact r7 j hj q hq9, by rw [e 56 (by decide) (by decide) (by decide) (by decide) (by decide) (by decide)]; exact r8, by rw [e 57 (by decide) (by decide) (by decide) (by decide) (by decide) (by decide)]; exact r9, fun z hz q hq9 => by rw [e 63 (by decide) (by decide) (by decide) (by decide) (by decide) (by decide)]; exact r10 z hz q hq9⟩, LIt_cg' t0 (e 46 (by decide) (by decide) (by decide) (by decide) (by decide) (by decide)) (e 47 (by decide) (by decide) (by decide) (by decide) (by decide) (by decide)) (e 48 (by decide) (by decide) (by decide) (by decide) (by decide) (by decide)) (e53 12 (by decide) (by decide)) (e53 13 (by decide) (by decide)) (e53 14 (by decide) (by decide)) (e 60 (by decide) (by decide) (by decide) (by decide) (by decide) (by decide)), LIo_cg o0 (e 49 (by decide) (by decide) (by decide) (by decide) (by decide) (by decide)) (e 50 (by decide) (by decide) (by decide) (by decide) (by decide) (by decide))⟩
/-- other pieces are chosen -/
theorem LI_ch {ch2 : Nat → Bool} (h : LI P T mc sc ch G Ad Sg w t ln iv) (hc4 : cnt ch2 P ≤ 4) (k26 : ∀ p, p < P → kv 26 p = if ch2 p then 1 else 0) (k01 : ∀ j, kv 26 j = 0 ∨ kv 26 j = 1) (k25 : kv 25 5 = nI (cnt ch2 P) ∧ kv 25 6 = nI (ff P (cnt ch2 P)) ∧ kv 25 7 = nI (T ^ cnt ch2 P)) (k27 : ∀ p, p < P → ch2 p = true → kv 27 (cnt ch2 p) = nI p) (k25b : ∀ j, j ≠ 5 → j ≠ 6 → j ≠ 7 → kv 25 j = iv 25 j) (k46 : kv 46 0 = 0) (k49 : kv 49 0 = 0) (k30 : ∀ p, p < P → kv 30 p = nI p ∧ kv 31 p = 0) (ek : ∀ q, q ≠ 25 → q ≠ 26 → q ≠ 27 → q ≠ 30 → q ≠ 31 → q ≠ 46 → q ≠ 49 → kv q = iv q)
    (j56 : ∀ p, p < P → jv 56 p = if ch2 p then 1 else 0) (j53 : jv 53 7 = nI (cnt ch2 P) ∧ jv 53 11 = nI (num P T (cnt ch2 P) (pcs ch2 P) (fun _ => 0)) ∧ jv 53 12 = 0) (j57 : ∀ i, i < cnt ch2 P → jv 57 i = nI (pcs ch2 P i)) (f53 : ∀ j, j ≠ 0 → j ≠ 7 → j ≠ 11 → j ≠ 12 → jv 53 j = kv 53 j) (ej : ∀ q, q ≠ 53 → q ≠ 56 → q ≠ 57 → q ≠ 58 → q ≠ 59 → jv q = kv q) : LI P T mc sc ch2 G Ad Sg (pcs ch2 P) (fun _ => 0) ln jv := by
  obtain ⟨c0, l0, a0, m0, s0, n0, r0, t0, o0⟩ := h
  obtain ⟨c1, c2, c3, c4, c5, c6, c7, c8, c9, c10, c11, c12⟩ := c0
  obtain ⟨r1, r2, r3, r4, r5, r6, r7, r8, r9, r10⟩ := r0
  obtain ⟨a1, a2, a3, a4, a5, a6, a7⟩ := a0
  have e : ∀ q, q ≠ 25 → q ≠ 26 → q ≠ 27 → q ≠ 30 → q ≠ 31 → q ≠ 46 → q ≠ 49 → q ≠ 53 → q ≠ 56 → q ≠ 57 → q ≠ 58 → q ≠ 59 → jv q = iv q := fun q x1 x2 x3 x4 x5 x6 x7 x8 x9 x10 x11 x12 => by rw [ej q x8 x9 x10 x11 x12, ek q x1 x2 x3 x4 x5 x6 x7]
  have j25 : jv 25 = kv 25 := ej 25 (by decide) (by decide) (by decide) (by decide) (by decide)
  have j26 : jv 26 = kv 26 := ej 26 (by decide) (by decide) (by decide) (by decide) (by decide)
  have j27 : jv 27 = kv 27 := ej 27 (by decide) (by decide) (by decide) (by decide) (by decide)
  have j30 : jv 30 = kv 30 := ej 30 (by decide) (by decide) (by decide) (by decide) (by decide)
  have j31 : jv 31 = kv 31 := ej 31 (by decide) (by decide) (by decide) (by decide) (by decide)
  have g53 : ∀ j, j ≠ 0 → j ≠ 7 → j ≠ 11 → j ≠ 12 → jv 53 j = iv 53 j := fun j x1 x2 x3 x4 => by rw [f53 j x1 x2 x3 x4, ek 53 (by decide) (by decide) (by decide) (by decide) (by decide) (by decide) (by decide)]
  have e0 := e 0 (by decide) (by decide) (by decide) (by decide) (by decide) (by decide) (by decide) (by decide) (by decide) (by decide) (by decide) (by decide)
  have e33 := e 33 (by decide) (by decide) (by decide) (by decide) (by decide) (by decide) (by decide) (by decide) (by decide) (by decide) (by decide) (by decide)
  have e38 := e 38 (by decide) (by decide) (by decide) (by decide) (by decide) (by decide) (by decide) (by decide) (by decide) (by decide) (by decide) (by decide)
  have e54 := e 54 (by decide) (by decide) (by decide) (by decide) (by decide) (by decide) (by decide) (by decide) (by decide) (by decide) (by decide) (by decide)
  have e55 := e 55 (by decide) (by decide) (by decide) (by decide) (by decide) (by decide) (by decide) (by decide) (by decide) (by decide) (by decide) (by decide)
  have e63 := e 63 (by decide) (by decide) (by decide) (by decide) (by decide) (by decide) (by decide) (by decide) (by decide) (by decide) (by decide) (by decide)
  refine ⟨⟨c1, c2, c3, c4, c5, c6, hc4, c8, c9, pcs_inj, fun _ _ => c3, c12⟩, l0, ⟨by rw [e0]; exact a1, by rw [e0]; exact a2, by rw [e0]; exact a3, by rw [e0]; exact a4, by rw [j25, k25b 0 (by decide) (by decide) (by decide)]; exact a5, by rw [j25, k25b 1 (by decide) (by decide) (by decide)]; exact a6, by rw [j25]; exact k25.1, by rw [j25]; exact k25.2.1, by rw [j25]; exact k25.2.2, fun i hi => by rw [j27]; exact pcs_row k27 hi, by rw [j26]; exact k01, by rw [j26]; exact k26⟩, LIm_cg m0 (fun q x y => e q (by omega) (by omega) (by omega) (by omega) (by omega) (by omega) (by omega) (by omega) (by omega) (by omega) (by omega) (by omega)), LIs_cg s0 c6 (fun q x y => e q (by omega) (by omega) (by omega) (by omega) (by omega) (by omega) (by omega) (by omega) (by omega) (by omega) (by omega) (by omega)), ⟨⟨fun i hi => ?_, fun i hi => ?_⟩, fun p hp => ?_, by rw [e33]; exact n0.2.2.1, by rw [e38]; exact n0.2.2.2⟩, ⟨by rw [g53 1 (by decide) (by decide) (by decide) (by decide)]; exact r1, by rw [g53 2 (by decide) (by decide) (by decide) (by decide)]; exact r2, by rw [g53 3 (by decide) (by decide) (by decide) (by decide)]; exact r3, j53.1, j53.2.1, by rw [g53 18 (by decide) (by decide) (by decide) (by decide)]; exact r6, fun j hj q hq9 => by rw [e54, e55]; exact r7 j hj q hq9, j56, j57, fun z hz q hq9 => by rw [e63]; exact r10 z hz q hq9⟩, Or.inl ⟨by rw [ej 46 (by decide) (by decide) (by decide) (by decide) (by decide)]; exact k46, j53.2.2⟩, Or.inl (by rw [ej 49 (by decide) (by decide) (by decide) (by decide) (by decide)]; exact k49)⟩
  · show jv 30 (pcs ch2 P i) = _
    rw [j30]
    exact (k30 _ (pcs_ok hi).1).1
  · show jv 31 (pcs ch2 P i) = _
    rw [j31]
    exact (k30 _ (pcs_ok hi).1).2
  · rw [j30, (k30 p hp).1]
    exact vp_in_nI hp (by omega)
end LIY
