/-! the table is made, the classes are worked out; what is used up -/
abbrev rpN (P T k9 : Nat) (G Ad : Nat → Nat → Nat) : Nat → Nat := fun m => if k9 = 0 then 1 else ordr P T (G m) (Ad m) - 1
abbrev g0N (P T : Nat) (ch : Nat → Bool) : Nat := num P T (cnt ch P) (pcs ch P) (fun _ => 0)
abbrev sAN (P T mc k9 : Nat) (ch : Nat → Bool) (G Ad : Nat → Nat → Nat) : BS := bfs (fun m => bkf P T (cnt ch P) (G m) (Ad m)) (rpN P T k9 G Ad) mc (bs0 (g0N P T ch)) (ff P (cnt ch P) * T ^ cnt ch P)
abbrev sBN (P T mc k9 : Nat) (ch : Nat → Bool) (G Ad : Nat → Nat → Nat) : BS := bfsR (fun m => bkN P T (cnt ch P) (G m) (Ad m)) (rpN P T k9 G Ad) mc (bs0 (g0N P T ch)) (ff P (cnt ch P) * T ^ cnt ch P)
section LIZ
variable {P T mc sc : Nat} {ch : Nat → Bool} {G Ad Sg : Nat → Nat → Nat} {w t : Nat → Nat} {ln ln2 : Nat → Nat} {iv kv jv : Nat → Nat → Int32}
theorem bld_eq {k9 : Nat} (hT1 : 0 < T) (hG : ∀ j, inj (G j) P P ∧ ∀ q, q < P → Ad j q < T) : TB (ff P (cnt ch P) * T ^ cnt ch P) (sAN P T mc k9 ch G Ad) ∧ (∀ x, x < ff P (cnt ch P) * T ^ cnt ch P → (sAN P T mc k9 ch G Ad).1 x = (sBN P T mc k9 ch G Ad).1 x) ∧ (sAN P T mc k9 ch G Ad).1 ((sAN P T mc k9 ch G Ad).2.1 ((sAN P T mc k9 ch G Ad).2.2 - 1)) = (sBN P T mc k9 ch G Ad).1 ((sBN P T mc k9 ch G Ad).2.1 ((sBN P T mc k9 ch G Ad).2.2 - 1)) := by
  have hcP := inj_le_P (pcs_inj (ch := ch) (P := P))
  have hg : g0N P T ch < ff P (cnt ch P) * T ^ cnt ch P := num_lt pcs_inj (fun _ _ => hT1)
  have hbN : ∀ m, m < mc → ∀ x, x < ff P (cnt ch P) * T ^ cnt ch P → bkN P T (cnt ch P) (G m) (Ad m) x < ff P (cnt ch P) * T ^ cnt ch P := fun m _ x _ => bkN_lt hT1 hcP (hG m).1
  have he : ∀ m, m < mc → bkf P T (cnt ch P) (G m) (Ad m) = bkN P T (cnt ch P) (G m) (Ad m) := fun m _ => funext fun x => bkf_bkN hT1 hcP (hG m).1 (hG m).2
  have hbF : ∀ m, m < mc → ∀ x, x < ff P (cnt ch P) * T ^ cnt ch P → bkf P T (cnt ch P) (G m) (Ad m) x < ff P (cnt ch P) * T ^ cnt ch P := fun m hm x hx => by rw [he m hm]; exact hbN m hm x hx
  have zA := Zb_bfs (rp := rpN P T k9 G Ad) (mc := mc) (bk := fun m => bkf P T (cnt ch P) (G m) (Ad m)) hg hbF (ff P (cnt ch P) * T ^ cnt ch P)
  have zB := Zb_bfsR (rp := rpN P T k9 G Ad) (mc := mc) (bk := fun m => bkN P T (cnt ch P) (G m) (Ad m)) hg hbN (ff P (cnt ch P) * T ^ cnt ch P)
  have fA := FIN_congr (bk' := fun m => bkN P T (cnt ch P) (G m) (Ad m)) he (FIN_of hbF zA)
  have fB := FIN_of hbN zB
  have hx : ∀ x, x < ff P (cnt ch P) * T ^ cnt ch P → (sAN P T mc k9 ch G Ad).1 x = (sBN P T mc k9 ch G Ad).1 x := fun x hx => FIN_eq fA fB hx
  exact ⟨TB_of hg zA, hx, TB_last (TB_of hg zA) (TB_of hg zB) hx⟩
theorem LI_bld {k9 : Nat} (h : LI P T mc sc ch G Ad Sg w t ln iv) (hk9 : k9 < 2) (hl : ∀ i, i ≠ 43 → i ≠ 44 → i ≠ 45 → i ≠ 47 → i ≠ 48 → ln2 i = ln i) (hl2 : ∀ k, ln2 k < 2 ^ 31) (hl47 : ff P (cnt ch P) * T ^ cnt ch P ≤ ln2 47) (hl48 : ff P (cnt ch P) * T ^ cnt ch P ≤ ln2 48)
    (k46 : kv 46 0 = 1 ∧ kv 46 1 = nI k9 ∧ kv 46 2 = nI (ff P (cnt ch P) * T ^ cnt ch P)) (kt : tabAt kv (ff P (cnt ch P) * T ^ cnt ch P) (sAN P T mc k9 ch G Ad)) (k33 : ∀ p, p < P → vp_in (kv 33 p) P) (ek : ∀ q, q ≠ 28 → q ≠ 33 → q ≠ 34 → q ≠ 39 → q ≠ 40 → q ≠ 41 → q ≠ 42 → q ≠ 43 → q ≠ 44 → q ≠ 45 → q ≠ 46 → q ≠ 47 → q ≠ 48 → kv q = iv q)
    (j53 : jv 53 12 = 1 ∧ jv 53 13 = nI k9 ∧ jv 53 14 = nI (ff P (cnt ch P) * T ^ cnt ch P)) (f53 : ∀ j, j ≠ 0 → j ≠ 12 → j ≠ 13 → j ≠ 14 → jv 53 j = kv 53 j) (j60 : ∀ x, x < ff P (cnt ch P) * T ^ cnt ch P → jv 60 x = nI ((sBN P T mc k9 ch G Ad).1 x) - 1) (ej : ∀ q, q ≠ 53 → q ≠ 58 → q ≠ 59 → q ≠ 60 → q ≠ 61 → jv q = kv q) : LI P T mc sc ch G Ad Sg w t ln2 jv := by
  obtain ⟨c0, l0, a0, m0, s0, n0, r0, t0, o0⟩ := h
  obtain ⟨c1, c2, c3, c4, c5, c6, c7, c8, c9, c10, c11, c12⟩ := id c0
  obtain ⟨l1, l2, l3⟩ := l0
  have e : ∀ q, q ≠ 28 → q ≠ 33 → q ≠ 34 → q ≠ 39 → q ≠ 40 → q ≠ 41 → q ≠ 42 → q ≠ 43 → q ≠ 44 → q ≠ 45 → q ≠ 46 → q ≠ 47 → q ≠ 48 → q ≠ 53 → q ≠ 58 → q ≠ 59 → q ≠ 60 → q ≠ 61 → jv q = iv q := fun q x1 x2 x3 x4 x5 x6 x7 x8 x9 x10 x11 x12 x13 x14 x15 x16 x17 x18 => by rw [ej q x14 x15 x16 x17 x18, ek q x1 x2 x3 x4 x5 x6 x7 x8 x9 x10 x11 x12 x13]
  have k53 : kv 53 = iv 53 := ek 53 (by decide) (by decide) (by decide) (by decide) (by decide) (by decide) (by decide) (by decide) (by decide) (by decide) (by decide) (by decide) (by decide)
  have D : ∀ {q : Nat}, (q == 28 || q == 33 || q == 34 || q == 39 || q == 40 || q == 41 || q == 42 || q == 43 || q == 44 || q == 45 || q == 46 || q == 47 || q == 48 || q == 53 || q == 58 || q == 59 || q == 60 || q == 61) = false → jv q = iv q := fun {q} hq => by
    simp only [Bool.or_eq_false_iff, beq_eq_false_iff_ne] at hq
    obtain ⟨⟨⟨⟨⟨⟨⟨⟨⟨⟨⟨⟨⟨⟨⟨⟨⟨x1, x2⟩, x3⟩, x4⟩, x5⟩, x6⟩, x7⟩, x8⟩, x9⟩, x10⟩, x11⟩, x12⟩, x13⟩, x14⟩, x15⟩, x16⟩, x17⟩, x18⟩ := hq
    exact e q x1 x2 x3 x4 x5 x6 x7 x8 x9 x10 x11 x12 x13 x14 x15 x16 x17 x18
  obtain ⟨hTB, hx, _⟩ := bld_eq (mc := mc) (k9 := k9) (ch := ch) c3 c8
  have j46 : jv 46 = kv 46 := ej 46 (by decide) (by decide) (by decide) (by decide) (by decide)
  have j47 : jv 47 = kv 47 := ej 47 (by decide) (by decide) (by decide) (by decide) (by decide)
  have j48 : jv 48 = kv 48 := ej 48 (by decide) (by decide) (by decide) (by decide) (by decide)
  refine ⟨c0, ⟨hl2, ?_, ?_⟩, LIa_cg a0 (D rfl) (D rfl) (D rfl) (D rfl), LIm_cg m0 (fun q x y => e q (by omega) (by omega) (by omega) (by omega) (by omega) (by omega) (by omega) (by omega) (by omega) (by omega) (by omega) (by omega) (by omega) (by omega) (by omega) (by omega) (by omega) (by omega)), LIs_cg s0 c6 (fun q x y => e q (by omega) (by omega) (by omega) (by omega) (by omega) (by omega) (by omega) (by omega) (by omega) (by omega) (by omega) (by omega) (by omega) (by omega) (by omega) (by omega) (by omega) (by omega)), LIn_cg n0 (D rfl) (D rfl) (by rw [ej 33 (by decide) (by decide) (by decide) (by decide) (by decide)]; exact k33) (D rfl), LIr_cg r0 (fun j x1 x2 x3 x4 => by rw [f53 j x1 x2 x3 x4, k53]) (D rfl) (D rfl) (D rfl) (D rfl) (D rfl), Or.inr ⟨by rw [j46]; exact k46.1, j53.1, k9, sAN P T mc k9 ch G Ad, hk9, by rw [j46]; exact k46.2.1, j53.2.1, by rw [j46]; exact k46.2.2, j53.2.2, hl47, hl48, hTB, ?_, fun x hx9 => ?_⟩, ?_⟩
  · unfold lnOk at l2 ⊢
    obtain ⟨p1, p2, p3⟩ := l2
    refine ⟨fun j hj => ?_, fun j hj => ?_, ?_⟩
    · rw [hl _ (by omega) (by omega) (by omega) (by omega) (by omega), hl _ (by omega) (by omega) (by omega) (by omega) (by omega)]; exact p1 j hj
    · rw [hl _ (by omega) (by omega) (by omega) (by omega) (by omega)]; exact p2 j hj
    · simp only [hl 26 (by decide) (by decide) (by decide) (by decide) (by decide), hl 27 (by decide) (by decide) (by decide) (by decide) (by decide), hl 28 (by decide) (by decide) (by decide) (by decide) (by decide), hl 30 (by decide) (by decide) (by decide) (by decide) (by decide), hl 31 (by decide) (by decide) (by decide) (by decide) (by decide), hl 33 (by decide) (by decide) (by decide) (by decide) (by decide), hl 34 (by decide) (by decide) (by decide) (by decide) (by decide), hl 36 (by decide) (by decide) (by decide) (by decide) (by decide), hl 37 (by decide) (by decide) (by decide) (by decide) (by decide), hl 39 (by decide) (by decide) (by decide) (by decide) (by decide), hl 40 (by decide) (by decide) (by decide) (by decide) (by decide), hl 41 (by decide) (by decide) (by decide) (by decide) (by decide)]; exact p3
  · unfold rln at l3 ⊢
    simp only [hl 54 (by decide) (by decide) (by decide) (by decide) (by decide), hl 55 (by decide) (by decide) (by decide) (by decide) (by decide), hl 56 (by decide) (by decide) (by decide) (by decide) (by decide), hl 57 (by decide) (by decide) (by decide) (by decide) (by decide), hl 58 (by decide) (by decide) (by decide) (by decide) (by decide), hl 59 (by decide) (by decide) (by decide) (by decide) (by decide), hl 60 (by decide) (by decide) (by decide) (by decide) (by decide), hl 61 (by decide) (by decide) (by decide) (by decide) (by decide), hl 62 (by decide) (by decide) (by decide) (by decide) (by decide), hl 63 (by decide) (by decide) (by decide) (by decide) (by decide), hl 64 (by decide) (by decide) (by decide) (by decide) (by decide), hl 65 (by decide) (by decide) (by decide) (by decide) (by decide), hl 66 (by decide) (by decide) (by decide) (by decide) (by decide)]
    exact l3
  · unfold tabAt
    rw [j46, j47, j48]
    exact kt
  · rw [j60 x hx9, j47, kt.1 x hx9, hx x hx9]
  · have o1 := LIo_cg (jv := jv) o0 (D rfl) (D rfl)
    unfold LIo at o1 ⊢
    rw [hl 50 (by decide) (by decide) (by decide) (by decide) (by decide)]
    exact o1
theorem clsTo_cg {lk : Nat → Nat} {S i : Nat} {img img2 : Nat → Nat → Nat} {gd gd2 : Nat → Prop} (hg : ∀ j, j < i → (gd j ↔ gd2 j)) (he : ∀ j, j < i → gd2 j → ∀ x, x < S → img j x = img2 j x) (h : clsTo lk S img gd i) : clsTo lk S img2 gd2 i := by
  refine ⟨h.1, fun x y hx hy => (h.2 x y hx hy).trans ⟨fun g => eqg_mono (fun a b hr => eqg_in ?_) g, fun g => eqg_mono (fun a b hr => eqg_in ?_) g⟩⟩
  · obtain ⟨j, h1, h2, h3, h4⟩ := hr
    exact ⟨j, h1, (hg j h1).mp h2, h3, by rw [← he j h1 ((hg j h1).mp h2) a h3]; exact h4⟩
  · obtain ⟨j, h1, h2, h3, h4⟩ := hr
    exact ⟨j, h1, (hg j h1).mpr h2, h3, by rw [he j h1 h2 a h3]; exact h4⟩
theorem LI_orb {lk : Nat → Nat} (h : LI P T mc sc ch G Ad Sg w t ln iv) (hl : ∀ i, i ≠ 50 → i ≠ 51 → i ≠ 52 → ln2 i = ln i) (hl2 : ∀ k, ln2 k < 2 ^ 31) (hl50 : ff P (cnt ch P) * T ^ cnt ch P ≤ ln2 50) (k49 : kv 49 0 = 1 ∧ kv 49 2 = nI (ff P (cnt ch P) * T ^ cnt ch P)) (k50 : ∀ k, k < ff P (cnt ch P) * T ^ cnt ch P → kv 50 k = nI (lk k)) (hc : clsTo lk (ff P (cnt ch P) * T ^ cnt ch P) (imZ P T ch Sg) (fun z => gdN P mc ch G Ad (Sg z)) sc) (k49b : kv 49 1 = nI (nroot lk (ff P (cnt ch P) * T ^ cnt ch P))) (k33 : ∀ p, p < P → vp_in (kv 33 p) P) (ek : ∀ q, q ≠ 28 → q ≠ 33 → q ≠ 34 → q ≠ 36 → q ≠ 37 → q ≠ 49 → q ≠ 50 → q ≠ 51 → q ≠ 52 → kv q = iv q) : LI P T mc sc ch G Ad Sg w t ln2 kv := by
  obtain ⟨c0, l0, a0, m0, s0, n0, r0, t0, o0⟩ := h
  have c6 := c0.2.2.2.2.2.1
  obtain ⟨l1, l2, l3⟩ := l0
  have D : ∀ {q : Nat}, (q == 28 || q == 33 || q == 34 || q == 36 || q == 37 || q == 49 || q == 50 || q == 51 || q == 52) = false → kv q = iv q := fun {q} hq => by
    simp only [Bool.or_eq_false_iff, beq_eq_false_iff_ne] at hq
    obtain ⟨⟨⟨⟨⟨⟨⟨⟨x1, x2⟩, x3⟩, x4⟩, x5⟩, x6⟩, x7⟩, x8⟩, x9⟩ := hq
    exact ek q x1 x2 x3 x4 x5 x6 x7 x8 x9
  refine ⟨c0, ⟨hl2, ?_, ?_⟩, LIa_cg a0 (D rfl) (D rfl) (D rfl) (D rfl), LIm_cg m0 (fun q x y => ek q (by omega) (by omega) (by omega) (by omega) (by omega) (by omega) (by omega) (by omega) (by omega)), LIs_cg s0 c6 (fun q x y => ek q (by omega) (by omega) (by omega) (by omega) (by omega) (by omega) (by omega) (by omega) (by omega)), LIn_cg n0 (D rfl) (D rfl) k33 (D rfl), LIr_cg r0 (fun j _ _ _ _ => by rw [show kv 53 = iv 53 from D rfl]) (D rfl) (D rfl) (D rfl) (D rfl) (D rfl), ?_, Or.inr ⟨k49.1, k49.2, hl50, lk, k50, hc, k49b⟩⟩
  · unfold lnOk at l2 ⊢
    obtain ⟨p1, p2, p3⟩ := l2
    refine ⟨fun j hj => ?_, fun j hj => ?_, ?_⟩
    · rw [hl _ (by omega) (by omega) (by omega), hl _ (by omega) (by omega) (by omega)]; exact p1 j hj
    · rw [hl _ (by omega) (by omega) (by omega)]; exact p2 j hj
    · simp only [hl 26 (by decide) (by decide) (by decide), hl 27 (by decide) (by decide) (by decide), hl 28 (by decide) (by decide) (by decide), hl 30 (by decide) (by decide) (by decide), hl 31 (by decide) (by decide) (by decide), hl 33 (by decide) (by decide) (by decide), hl 34 (by decide) (by decide) (by decide), hl 36 (by decide) (by decide) (by decide), hl 37 (by decide) (by decide) (by decide), hl 39 (by decide) (by decide) (by decide), hl 40 (by decide) (by decide) (by decide), hl 41 (by decide) (by decide) (by decide)]; exact p3
  · unfold rln at l3 ⊢
    simp only [hl 54 (by decide) (by decide) (by decide), hl 55 (by decide) (by decide) (by decide), hl 56 (by decide) (by decide) (by decide), hl 57 (by decide) (by decide) (by decide), hl 58 (by decide) (by decide) (by decide), hl 59 (by decide) (by decide) (by decide), hl 60 (by decide) (by decide) (by decide), hl 61 (by decide) (by decide) (by decide), hl 62 (by decide) (by decide) (by decide), hl 63 (by decide) (by decide) (by decide), hl 64 (by decide) (by decide) (by decide), hl 65 (by decide) (by decide) (by decide), hl 66 (by decide) (by decide) (by decide)]
    exact l3
  · have t1 := LIt_cg (jv := kv) t0 (D rfl) (D rfl) (D rfl) (fun j _ => by rw [show kv 53 = iv 53 from D rfl]) (D rfl)
    unfold LIt at t1 ⊢
    rw [hl 47 (by decide) (by decide) (by decide), hl 48 (by decide) (by decide) (by decide)]
    exact t1
end LIZ
/-! what is used up: a row is made anew only when it is too short, and its sizes are five -/
def cn5 (f : Nat → Nat) (x : Nat) : Nat → Nat
  | 0 => 0
  | c + 1 => cn5 f x c + if f c ≤ x then 1 else 0
def sm5 (f : Nat → Nat) (x : Nat) : Nat → Nat
  | 0 => 0
  | c + 1 => sm5 f x c + if f c ≤ x then f c else 0
theorem cn5_le (f : Nat → Nat) (x : Nat) : ∀ c, cn5 f x c ≤ c
  | 0 => Nat.le_refl _
  | c + 1 => by
    have := cn5_le f x c
    unfold cn5
    split <;> omega
theorem sm5_le {f : Nat → Nat} {B : Nat} (x : Nat) : ∀ c, (∀ i, i < c → f i ≤ B) → sm5 f x c ≤ c * B
  | 0, _ => by simp [sm5]
  | c + 1, h => by
    have h1 := sm5_le x c (fun i hi => h i (by omega))
    have h2 := h c (by omega)
    unfold sm5
    rw [Nat.succ_mul]
    split <;> omega
theorem cs5_mono {f : Nat → Nat} {x y : Nat} (h : x ≤ y) : ∀ c, cn5 f x c ≤ cn5 f y c ∧ sm5 f x c ≤ sm5 f y c
  | 0 => ⟨Nat.le_refl _, Nat.le_refl _⟩
  | c + 1 => by
    obtain ⟨h1, h2⟩ := cs5_mono (f := f) h c
    unfold cn5 sm5
    by_cases q : f c ≤ x
    · rw [if_pos q, if_pos q, if_pos (by omega), if_pos (by omega)]; omega
    · rw [if_neg q, if_neg q]; omega
theorem cs5_step {f : Nat → Nat} {x k : Nat} : ∀ c, k < c → cn5 f x c + al x (f k) ≤ cn5 f (max x (f k)) c ∧ sm5 f x c + als x (f k) ≤ sm5 f (max x (f k)) c
  | 0, h => absurd h (Nat.not_lt_zero _)
  | c + 1, h => by
    unfold al als
    by_cases q : f k ≤ x
    · rw [if_pos q, if_pos q, show max x (f k) = x by omega]
      exact ⟨Nat.le_refl _, Nat.le_refl _⟩
    · rw [if_neg q, if_neg q, show max x (f k) = f k by omega]
      rcases Nat.lt_or_ge k c with w | w
      · obtain ⟨h1, h2⟩ := cs5_step (f := f) (x := x) c w
        unfold al at h1
        unfold als at h2
        rw [if_neg q, show max x (f k) = f k by omega] at h1 h2
        unfold cn5 sm5
        by_cases z : f c ≤ x
        · rw [if_pos z, if_pos z, if_pos (by omega), if_pos (by omega)]; omega
        · rw [if_neg z, if_neg z]; omega
      · have e : k = c := by omega
        subst e
        obtain ⟨h1, h2⟩ := cs5_mono (f := f) (show x ≤ f k by omega) k
        unfold cn5 sm5
        rw [if_neg q, if_neg q, if_pos (Nat.le_refl _), if_pos (Nat.le_refl _)]
        omega
/-- the sizes of the eight rows -/
def szR (P T k c : Nat) : Nat := if k = 43 ∨ k = 44 then 6 * ff P c else if k = 45 then T ^ c * T ^ c else if k = 51 then ff P c else if k = 52 then T ^ c else ff P c * T ^ c
def uC (P T : Nat) (ln : Nat → Nat) : Nat := cn5 (szR P T 43) (ln 43) 5 + cn5 (szR P T 44) (ln 44) 5 + cn5 (szR P T 45) (ln 45) 5 + cn5 (szR P T 47) (ln 47) 5 + cn5 (szR P T 48) (ln 48) 5 + cn5 (szR P T 50) (ln 50) 5 + cn5 (szR P T 51) (ln 51) 5 + cn5 (szR P T 52) (ln 52) 5
def uS (P T : Nat) (ln : Nat → Nat) : Nat := sm5 (szR P T 43) (ln 43) 5 + sm5 (szR P T 44) (ln 44) 5 + sm5 (szR P T 45) (ln 45) 5 + sm5 (szR P T 47) (ln 47) 5 + sm5 (szR P T 48) (ln 48) 5 + sm5 (szR P T 50) (ln 50) 5 + sm5 (szR P T 51) (ln 51) 5 + sm5 (szR P T 52) (ln 52) 5
theorem ff_1680 : ∀ P, P < 9 → ∀ c, c < 5 → ff P c ≤ 1680 := by decide
theorem szR_le {P T : Nat} (hP : P ≤ 8) (hT : T ≤ 3) (k : Nat) : ∀ c, c < 5 → szR P T k c ≤ 136080 := by
  intro c hc
  have hc4 : c ≤ 4 := by omega
  have h1 := ff_1680 P (by omega) c hc
  have h2 := pw_le4 hT hc4
  have h3 := Nat.mul_le_mul h1 h2
  have h4 := Nat.mul_le_mul h2 h2
  unfold szR
  repeat' split
  all_goals omega
theorem uC_le (P T : Nat) (ln : Nat → Nat) : uC P T ln ≤ 40 := by
  have := cn5_le (szR P T 43) (ln 43) 5
  have := cn5_le (szR P T 44) (ln 44) 5
  have := cn5_le (szR P T 45) (ln 45) 5
  have := cn5_le (szR P T 47) (ln 47) 5
  have := cn5_le (szR P T 48) (ln 48) 5
  have := cn5_le (szR P T 50) (ln 50) 5
  have := cn5_le (szR P T 51) (ln 51) 5
  have := cn5_le (szR P T 52) (ln 52) 5
  unfold uC
  omega
theorem uS_le {P T : Nat} (hP : P ≤ 8) (hT : T ≤ 3) (ln : Nat → Nat) : uS P T ln ≤ 5443200 := by
  have := sm5_le (ln 43) 5 (szR_le hP hT 43)
  have := sm5_le (ln 44) 5 (szR_le hP hT 44)
  have := sm5_le (ln 45) 5 (szR_le hP hT 45)
  have := sm5_le (ln 47) 5 (szR_le hP hT 47)
  have := sm5_le (ln 48) 5 (szR_le hP hT 48)
  have := sm5_le (ln 50) 5 (szR_le hP hT 50)
  have := sm5_le (ln 51) 5 (szR_le hP hT 51)
  have := sm5_le (ln 52) 5 (szR_le hP hT 52)
  unfold uS
  omega
theorem u_bld {P T c : Nat} {ln ln2 : Nat → Nat} (hc : c < 5) (hl : ∀ i, i ≠ 43 → i ≠ 44 → i ≠ 45 → i ≠ 47 → i ≠ 48 → ln2 i = ln i) (h43 : ln2 43 = max (ln 43) (6 * ff P c)) (h44 : ln2 44 = max (ln 44) (6 * ff P c)) (h45 : ln2 45 = max (ln 45) (T ^ c * T ^ c)) (h47 : ln2 47 = max (ln 47) (ff P c * T ^ c)) (h48 : ln2 48 = max (ln 48) (ff P c * T ^ c)) :
    uC P T ln + ((al (ln 43) (6 * ff P c) + al (ln 44) (6 * ff P c) + al (ln 45) (T ^ c * T ^ c)) + (al (ln 47) (ff P c * T ^ c) + al (ln 48) (ff P c * T ^ c))) ≤ uC P T ln2 ∧ uS P T ln + ((als (ln 43) (6 * ff P c) + als (ln 44) (6 * ff P c) + als (ln 45) (T ^ c * T ^ c)) + (als (ln 47) (ff P c * T ^ c) + als (ln 48) (ff P c * T ^ c))) ≤ uS P T ln2 := by
  have a := cs5_step (f := szR P T 43) (x := ln 43) 5 hc
  have b := cs5_step (f := szR P T 44) (x := ln 44) 5 hc
  have d := cs5_step (f := szR P T 45) (x := ln 45) 5 hc
  have e := cs5_step (f := szR P T 47) (x := ln 47) 5 hc
  have g := cs5_step (f := szR P T 48) (x := ln 48) 5 hc
  rw [show szR P T 43 c = 6 * ff P c from rfl, ← h43] at a
  rw [show szR P T 44 c = 6 * ff P c from rfl, ← h44] at b
  rw [show szR P T 45 c = T ^ c * T ^ c from rfl, ← h45] at d
  rw [show szR P T 47 c = ff P c * T ^ c from rfl, ← h47] at e
  rw [show szR P T 48 c = ff P c * T ^ c from rfl, ← h48] at g
  unfold uC uS
  rw [hl 50 (by decide) (by decide) (by decide) (by decide) (by decide), hl 51 (by decide) (by decide) (by decide) (by decide) (by decide), hl 52 (by decide) (by decide) (by decide) (by decide) (by decide)]
  omega
theorem u_orb {P T c : Nat} {ln ln2 : Nat → Nat} (hc : c < 5) (hl : ∀ i, i ≠ 50 → i ≠ 51 → i ≠ 52 → ln2 i = ln i) (h50 : ln2 50 = max (ln 50) (ff P c * T ^ c)) (h51 : ln2 51 = max (ln 51) (ff P c)) (h52 : ln2 52 = max (ln 52) (T ^ c)) :
    uC P T ln + (al (ln 50) (ff P c * T ^ c) + al (ln 51) (ff P c) + al (ln 52) (T ^ c)) ≤ uC P T ln2 ∧ uS P T ln + (als (ln 50) (ff P c * T ^ c) + als (ln 51) (ff P c) + als (ln 52) (T ^ c)) ≤ uS P T ln2 := by
  have a := cs5_step (f := szR P T 50) (x := ln 50) 5 hc
  have b := cs5_step (f := szR P T 51) (x := ln 51) 5 hc
  have d := cs5_step (f := szR P T 52) (x := ln 52) 5 hc
  rw [show szR P T 50 c = ff P c * T ^ c from rfl, ← h50] at a
  rw [show szR P T 51 c = ff P c from rfl, ← h51] at b
  rw [show szR P T 52 c = T ^ c from rfl, ← h52] at d
  unfold uC uS
  rw [hl 43 (by decide) (by decide) (by decide), hl 44 (by decide) (by decide) (by decide), hl 45 (by decide) (by decide) (by decide), hl 47 (by decide) (by decide) (by decide), hl 48 (by decide) (by decide) (by decide)]
  omega
