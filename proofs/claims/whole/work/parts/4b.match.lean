/-! the two sides' answers are the same -/
theorem nI_mul (a b : Nat) : nI a * nI b = nI (a * b) := (Int32.ofNat_mul a b).symm
theorem nI_eqI {a b : Nat} (ha : a < 2 ^ 31) (hb : b < 2 ^ 31) : nI a = nI b ↔ a = b :=
  ⟨fun h => by
    have := congrArg Int32.toNatClampNeg h
    rwa [nI_clamp ha, nI_clamp hb] at this, congrArg nI⟩
/-- a table that is done -/
def TB (S : Nat) (s : BS) : Prop := bOk S s ∧ bQ s ∧ (∀ x, x < S → s.1 x ≠ 0 → ∃ j, j < s.2.2 ∧ s.2.1 j = x) ∧ (∀ j k, j < s.2.2 → k < s.2.2 → s.2.1 j = s.2.1 k → j = k) ∧ (∀ j k, j ≤ k → k < s.2.2 → s.1 (s.2.1 j) ≤ s.1 (s.2.1 k)) ∧ 0 < s.2.2
theorem TB_of {S g0 mc : Nat} {bk : Nat → Nat → Nat} {rp : Nat → Nat} {i : Nat} {s : BS} (hg : g0 < S) (h : Zb S g0 mc bk rp i s) : TB S s := by
  obtain ⟨⟨z1, z2, z3, z4, z5, z6, z7, z8⟩, z9⟩ := h
  refine ⟨z1, z2, z3, z4, z5, ?_⟩
  obtain ⟨j, j1, _⟩ := z3 g0 hg (by rw [z8]; decide)
  omega
theorem TB_last {S : Nat} {s s' : BS} (h : TB S s) (h' : TB S s') (e : ∀ x, x < S → s.1 x = s'.1 x) : s.1 (s.2.1 (s.2.2 - 1)) = s'.1 (s'.2.1 (s'.2.2 - 1)) := by
  have key : ∀ {a b : BS}, TB S a → TB S b → (∀ x, x < S → a.1 x = b.1 x) → a.1 (a.2.1 (a.2.2 - 1)) ≤ b.1 (b.2.1 (b.2.2 - 1)) := fun {a b} ha hb e => by
    obtain ⟨a1, a2, a3, a4, a5, a6⟩ := ha
    obtain ⟨b1, b2, b3, b4, b5, b6⟩ := hb
    have hx := a1.2.2 (a.2.2 - 1) (by omega)
    have h0 := a2 (a.2.2 - 1) (by omega)
    rw [e _ hx] at h0 ⊢
    obtain ⟨j, j1, j2⟩ := b3 _ hx h0
    rw [← j2]
    exact b5 j _ (by omega) (by omega)
  exact Nat.le_antisymm (key h h' e) (key h' h (fun x hx => (e x hx).symm))
/-- counting along a row that names each place once -/
theorem cnt_row {g : Nat → Bool} {S : Nat} {q : Nat → Nat} : ∀ C, (∀ j, j < C → q j < S) → (∀ j k, j < C → k < C → q j = q k → j = k) → ∀ f : Nat → Bool, (∀ x, x < S → (f x = true ↔ g x = true ∧ ∃ j, j < C ∧ q j = x)) → cnt f S = cnt (fun j => g (q j)) C
  | 0, _, _, f, hf => by
    have : ∀ n, n ≤ S → cnt f n = 0 := by
      intro n
      induction n with
      | zero => exact fun _ => rfl
      | succ n ih =>
        intro hn
        rw [cnt_s, ih (by omega), if_neg (fun u => by obtain ⟨_, j, j1, _⟩ := (hf n (by omega)).mp u; omega)]
    exact this S (Nat.le_refl _)
  | C + 1, h1, h2, f, hf => by
    have hC := h1 C (by omega)
    rw [cnt_s]
    by_cases hg : g (q C) = true
    · have hfC : f (q C) = true := (hf _ hC).mpr ⟨hg, C, by omega, rfl⟩
      rw [if_pos hg, cnt_up hfC hC, cnt_row C (fun j hj => h1 j (by omega)) (fun j k hj hk => h2 j k (by omega) (by omega)) (fun x => f x && !(x == q C)) (fun x hx => ?_)]
      simp only [Bool.and_eq_true, Bool.not_eq_true', beq_eq_false_iff_ne, ne_eq]
      rw [hf x hx]
      constructor
      · rintro ⟨⟨a, j, j1, j2⟩, b⟩
        refine ⟨a, j, ?_, j2⟩
        rcases Nat.lt_or_ge j C with u | u
        · exact u
        · rw [show j = C by omega] at j2; exact absurd j2.symm b
      · rintro ⟨a, j, j1, j2⟩
        refine ⟨⟨a, j, by omega, j2⟩, fun b => ?_⟩
        have := h2 j C (by omega) (by omega) (j2.trans b)
        omega
    · rw [if_neg hg, Nat.add_zero]
      refine cnt_row C (fun j hj => h1 j (by omega)) (fun j k hj hk => h2 j k (by omega) (by omega)) f (fun x hx => ?_)
      rw [hf x hx]
      constructor
      · rintro ⟨a, j, j1, j2⟩
        refine ⟨a, j, ?_, j2⟩
        rcases Nat.lt_or_ge j C with u | u
        · exact u
        · rw [show j = C by omega] at j2; rw [← j2] at a; exact absurd a hg
      · rintro ⟨a, j, j1, j2⟩
        exact ⟨a, j, by omega, j2⟩
theorem cnt_iv {f : Nat → Bool} {L1 L2 : Nat} (h : L1 ≤ L2) : ∀ C, L2 ≤ C → (∀ j, j < C → (f j = true ↔ L1 ≤ j ∧ j < L2)) → cnt f C = L2 - L1 := by
  have key : ∀ n C, n ≤ C → (∀ j, j < C → (f j = true ↔ L1 ≤ j ∧ j < L2)) → cnt f n = (min n L2) - (min n L1) := by
    intro n
    induction n with
    | zero => intro C _ _; simp [cnt]
    | succ n ih =>
      intro C hn hf
      rw [cnt_s, ih C (by omega) hf]
      by_cases q : L1 ≤ n ∧ n < L2
      · rw [if_pos ((hf n (by omega)).mpr q)]; omega
      · rw [if_neg (fun u => q ((hf n (by omega)).mp u))]; omega
  intro C hC hf
  rw [key C C (Nat.le_refl _) hf]
  omega
theorem cnt_neg9 {f : Nat → Bool} : ∀ n, cnt (fun x => !f x) n = n - cnt f n
  | 0 => rfl
  | n + 1 => by
    have := cnt_le f n
    rw [cnt_s, cnt_s, cnt_neg9 n]
    cases f n <;> simp <;> omega
theorem cnt_none {f : Nat → Bool} : ∀ {n : Nat}, (∀ x, x < n → f x = false) → cnt f n = 0
  | 0, _ => rfl
  | n + 1, h => by rw [cnt_s, cnt_none (fun x hx => h x (by omega)), h n (by omega)]; rfl
/-- how many have the value v -/
theorem count_ok {iv : Nat → Nat → Int32} {S : Nat} {s : BS} {v : Int32} {r : Int32} (hS : S ≤ 136080) (h : TB S s) (ht : tabAt iv S s)
    (hr : if v = -1 then r = nI (S - s.2.2) else if v < 0 ∨ iv 47 (tn (iv 48 (s.2.2 - 1))) < v then r = nI 0 else ∃ L1 L2, r = nI L2 - nI L1 ∧ cutAt (fun i => iv 47 (tn (iv 48 i))) s.2.2 v L1 ∧ cutAt (fun i => iv 47 (tn (iv 48 i))) s.2.2 (v + 1) L2) : r = nI (cnt (fun x => iv 47 x == v) S) := by
  obtain ⟨h1, h2, h3, h4, h5, h6⟩ := h
  obtain ⟨t1, t2, t3⟩ := ht
  have hC := bOk_C h1
  have hle : ∀ x, x < S → s.1 x < 2 ^ 30 := fun x hx => by have := h1.2.1 x hx; omega
  have hqv : ∀ i, i < s.2.2 → iv 47 (tn (iv 48 i)) = nI (s.1 (s.2.1 i)) - 1 := fun i hi => by
    have hq := h1.2.2 i hi
    rw [t2 i hi, show tn (nI (s.2.1 i)) = s.2.1 i from nI_clamp (by omega), t1 _ hq]
  by_cases e1 : v = -1
  · rw [if_pos e1] at hr
    rw [hr, h1.1, ← cnt_neg9]
    refine congrArg nI (cnt_congr (fun x hx => ?_))
    rw [t1 x hx, e1]
    have := vm1_iff (hle x hx)
    by_cases q : s.1 x = 0
    · rw [this.mpr q, q]
      decide
    · have q2 : ¬ nI (s.1 x) - 1 = -1 := fun u => q (this.mp u)
      rw [beq_false_of_ne q2]
      simp only [Bool.not_eq_false']
      exact bne_iff_ne.mpr q
  rw [if_neg e1] at hr
  by_cases e2 : v < 0
  · rw [if_pos (Or.inl e2)] at hr
    rw [hr, cnt_none (fun x hx => ?_)]
    rw [t1 x hx, beq_eq_false_iff_ne]
    intro u
    rw [← u] at e1 e2
    rw [vm1_neg (hle x hx)] at e2
    exact e1 ((vm1_iff (hle x hx)).mpr e2)
  obtain ⟨b, hb, rfl⟩ := nI_of e2
  have hvb : nI b = nI (b + 1) - 1 := (nI_pred b).symm
  by_cases e3 : iv 47 (tn (iv 48 (s.2.2 - 1))) < nI b
  · rw [if_pos (Or.inr e3)] at hr
    rw [hr, cnt_none (fun x hx => ?_)]
    rw [t1 x hx, beq_eq_false_iff_ne]
    intro u
    have hn0 : s.1 x ≠ 0 := fun q => by
      rw [(vm1_iff (hle x hx)).mpr q] at u
      exact e1 u.symm
    obtain ⟨j, j1, j2⟩ := h3 x hx hn0
    have h9 := h5 j (s.2.2 - 1) (by omega) (by omega)
    rw [j2] at h9
    rw [hqv _ (by omega), ← u, vm1_lt (hle _ (h1.2.2 _ (by omega))) (hle x hx)] at e3
    omega
  rw [if_neg (fun q => q.elim e2 e3)] at hr
  obtain ⟨L1, L2, hr, c1, c2⟩ := hr
  have hlast := hle _ (h1.2.2 (s.2.2 - 1) (by omega))
  have hb30' : b + 1 < 2 ^ 20 := by
    rcases Nat.lt_or_ge (b + 1) (2 ^ 20) with q | q
    · exact q
    · exfalso
      apply e3
      have hpos := h2 (s.2.2 - 1) (by omega)
      obtain ⟨a, ha⟩ : ∃ a, s.1 (s.2.1 (s.2.2 - 1)) = a + 1 := ⟨s.1 (s.2.1 (s.2.2 - 1)) - 1, by omega⟩
      have h99 := h1.2.1 _ (h1.2.2 (s.2.2 - 1) (by omega))
      rw [hqv _ (by omega), ha, nI_pred, nI_ltI (by omega) hb]
      omega
  have hb30 : b + 1 < 2 ^ 30 := by omega
  have hcmp : ∀ j, j < s.2.2 → (iv 47 (tn (iv 48 j)) < nI b ↔ s.1 (s.2.1 j) < b + 1) := fun j hj => by
    rw [hqv j hj, hvb, vm1_lt (hle _ (h1.2.2 j hj)) hb30]
  have hcmp2 : ∀ j, j < s.2.2 → (iv 47 (tn (iv 48 j)) < nI b + 1 ↔ s.1 (s.2.1 j) < b + 1 + 1) := fun j hj => by
    rw [hqv j hj, show nI b + 1 = nI (b + 1 + 1) - 1 by rw [nI_pred]; exact nI_add b 1, vm1_lt (hle _ (h1.2.2 j hj)) (by omega)]
  have hL : L1 ≤ L2 := by
    rcases Nat.lt_or_ge L2 L1 with q | q
    · exfalso
      have u1 := (hcmp L2 (by have := c1.1; omega)).mp (c1.2.1 L2 q)
      have u2 := fun w => c2.2.2 L2 (Nat.le_refl _) (by have := c1.1; omega) ((hcmp2 L2 (by have := c1.1; omega)).mpr w)
      exact u2 (by omega)
    · exact q
  rw [hr, pk_sub hL]
  refine congrArg nI ?_
  rw [cnt_row (g := fun x => s.1 x == b + 1) (q := s.2.1) s.2.2 (fun j hj => h1.2.2 j hj) h4 (fun x => iv 47 x == nI b) (fun x hx => ?_)]
  · refine (cnt_iv hL s.2.2 c2.1 (fun j hj => ?_)).symm
    rw [beq_iff_eq]
    constructor
    · intro q
      constructor
      · rcases Nat.lt_or_ge j L1 with w | w
        · have := (hcmp j hj).mp (c1.2.1 j w)
          omega
        · exact w
      · rcases Nat.lt_or_ge j L2 with w | w
        · exact w
        · exact absurd ((hcmp2 j hj).mpr (by omega)) (c2.2.2 j w hj)
    · rintro ⟨q1, q2⟩
      have u1 := (hcmp2 j hj).mp (c2.2.1 j q2)
      have u2 : ¬ s.1 (s.2.1 j) < b + 1 := fun w => c1.2.2 j q1 hj ((hcmp j hj).mpr w)
      omega
  · rw [beq_iff_eq, beq_iff_eq, t1 x hx, hvb]
    constructor
    · intro q
      have q2 : s.1 x = b + 1 := by
        have hx9 := hle x hx
        have e9 := congrArg Int32.toInt q
        rw [vm1_toInt hx9, vm1_toInt hb30] at e9
        omega
      exact ⟨q2, h3 x hx (by omega)⟩
    · rintro ⟨q, _⟩
      rw [q]
/-- bits -/
theorem rbit_ent {bt a : Nat} (hbt : bt = 2 ∨ bt = 4) (ha : a < 2 ^ 30) : rbit bt (nI a - 1) = ent bt (nI a - 1) := by
  have h1 := vm1_neg ha
  have h2 := vm1_iff ha
  unfold rbit ent b2 b4
  rcases hbt with h | h <;> subst h
  · rw [if_pos rfl, if_pos rfl]
    by_cases q : a = 0
    · rw [if_pos (h1.mpr q), if_pos (h2.mpr q)]
    · rw [if_neg (fun u => q (h1.mp u)), if_neg (fun u => q (h2.mp u))]
  · rw [if_neg (show ¬ (4 : Nat) = 2 by decide), if_neg (show ¬ (4 : Nat) = 2 by decide)]
    by_cases q : a = 0
    · rw [if_pos (h1.mpr q), if_pos (h2.mpr q)]
    · rw [if_neg (fun u => q (h1.mp u)), if_neg (fun u => q (h2.mp u))]
theorem orl_cg {f g : Nat → Int64} : ∀ n, (∀ i, i < n → f i = g i) → orl f n = orl g n
  | 0, _ => rfl
  | n + 1, h => by
    show orl f n ||| f n = orl g n ||| g n
    rw [orl_cg n (fun i hi => h i (by omega)), h n (by omega)]
theorem orl_more {f : Nat → Int64} {a : Nat} : ∀ b, (∀ i, a ≤ i → i < a + b → f i = 0) → orl f (a + b) = orl f a
  | 0, _ => rfl
  | b + 1, h => by
    show orl f (a + b) ||| f (a + b) = orl f a
    rw [orl_more b (fun i h1 h2 => h i h1 (by omega)), h (a + b) (by omega) (by omega)]
    simp
theorem orl_zero {f : Nat → Int64} (n : Nat) (h : ∀ i, i < n → f i = 0) : orl f n = 0 := by
  have := orl_more (f := f) (a := 0) n (fun i _ h2 => h i (by omega))
  rw [Nat.zero_add] at this
  rw [this]
  rfl
/-- a packed word -/
theorem packed_ok {iv : Nat → Nat → Int32} {S bt kk : Nat} {vv : Nat → Nat} (hbt : bt = 2 ∨ bt = 4) (hS0 : 0 < S) (hS : S ≤ 136080) (hk : kk ≤ 136080) (hv : ∀ x, x < S → iv 47 x = nI (vv x) - 1 ∧ vv x < 2 ^ 30) (he : ∀ x, x < S → iv 60 x = iv 47 x) :
    (if nI kk < 0 ∨ nI ((S - 1) / (64 / bt)) < nI kk then 0 else orl (entl bt (iv 47) (tn (nI kk) * (64 / bt))) (min (64 / bt) (S - tn (nI kk) * (64 / bt)))) = orl (rpk iv S bt kk) (64 / bt) := by
  have h64 : 16 ≤ 64 / bt ∧ 64 / bt ≤ 32 := by rcases hbt with h | h <;> subst h <;> decide
  obtain ⟨e9, he9⟩ : ∃ e9, e9 = 64 / bt := ⟨_, rfl⟩
  rw [show tn (nI kk) = kk from nI_clamp (by omega), ← he9]
  rw [← he9] at h64
  have hd : (S - 1) / e9 < 2 ^ 31 := Nat.lt_of_le_of_lt (Nat.div_le_self _ _) (by omega)
  have hn : ¬ nI kk < 0 := nI_pos (by omega)
  by_cases q : (S - 1) / e9 < kk
  · rw [if_pos (Or.inr ((nI_ltI hd (by omega)).mpr q))]
    symm
    apply orl_zero
    intro i hi
    unfold rpk
    rw [← he9, if_neg]
    have := (Nat.div_lt_iff_lt_mul (by omega : 0 < e9)).mp q
    rw [Nat.mul_comm] at this
    omega
  · rw [if_neg (fun u => u.elim hn (fun u => q ((nI_ltI hd (by omega)).mp u)))]
    have hle : e9 * kk ≤ S - 1 := by
      have := Nat.mul_le_mul_left e9 (Nat.le_of_not_lt q)
      have h2 := Nat.mul_div_le (S - 1) e9
      omega
    rw [Nat.mul_comm kk e9]
    obtain ⟨M, hM⟩ : ∃ M, M = min e9 (S - e9 * kk) := ⟨_, rfl⟩
    rw [← hM]
    have hz : orl (rpk iv S bt kk) e9 = orl (rpk iv S bt kk) M := by
      have h8 := orl_more (f := rpk iv S bt kk) (a := M) (e9 - M) (fun i h1 h2 => by
        unfold rpk
        rw [← he9, if_neg (by omega)])
      rw [show M + (e9 - M) = e9 by omega] at h8
      exact h8
    rw [hz]
    refine orl_cg M (fun i hi => ?_)
    unfold rpk entl
    rw [← he9, if_pos (by omega), he _ (by omega), (hv (e9 * kk + i) (by omega)).1, rbit_ent hbt (hv (e9 * kk + i) (by omega)).2, Nat.mul_comm bt i]
theorem rpk_cg {iv iv' : Nat → Nat → Int32} {S bt kk : Nat} (h : iv' 60 = iv 60) : rpk iv' S bt kk = rpk iv S bt kk := by
  funext i
  unfold rpk
  rw [h]
/-- sums of bytes -/
def bN (s : Nat) (f : Nat → Nat) : Nat → Nat
  | 0 => s
  | i + 1 => (bN s f i + f i) % 251
theorem bN_le {s : Nat} {f : Nat → Nat} (hs : s < 2 ^ 20) : ∀ n, bN s f n < 2 ^ 20
  | 0 => hs
  | n + 1 => Nat.lt_trans (Nat.mod_lt _ (by decide)) (by decide)
theorem bsum_bN {s : Nat} {f : Nat → Nat} {g : Nat → Int32} (hs : s < 2 ^ 20) : ∀ n, (∀ i, i < n → g i = nI (f i) ∧ f i ≤ 255) → bsum (nI s) g n = nI (bN s f n)
  | 0, _ => rfl
  | n + 1, h => by
    show jrem (bsum (nI s) g n + g n) (nI 251) = nI ((bN s f n + f n) % 251)
    have h1 := bN_le (f := f) hs n
    have h2 := h n (by omega)
    rw [bsum_bN hs n (fun i hi => h i (by omega)), h2.1, nI_add]
    exact grem (by omega) (by decide) (by decide)
theorem bN_add {s : Nat} {f : Nat → Nat} (a : Nat) : ∀ n, bN s f (a + n) = bN (bN s f a) (fun i => f (a + i)) n
  | 0 => rfl
  | n + 1 => by
    show (bN s f (a + n) + f (a + n)) % 251 = _
    rw [bN_add a n]
    rfl
theorem bN_mod {s : Nat} {f : Nat → Nat} : ∀ n, bN (s % 251) f n % 251 = bN s f n % 251
  | 0 => Nat.mod_mod _ _
  | n + 1 => by
    show (bN (s % 251) f n + f n) % 251 % 251 = (bN s f n + f n) % 251 % 251
    rw [Nat.mod_mod, Nat.mod_mod, Nat.add_mod, bN_mod n, ← Nat.add_mod]
theorem bN_h {f : Nat → Nat} : bN 0 f 6 = (f 0 + f 1 + f 2 + f 3 + f 4 + f 5) % 251 := by
  show ((((((0 + f 0) % 251 + f 1) % 251 + f 2) % 251 + f 3) % 251 + f 4) % 251 + f 5) % 251 = _
  omega
/-- a bit field of four of a value -/
def v4 (a : Nat) : Nat := if a = 0 then 15 else if 14 < a - 1 then 14 else a - 1
theorem rbit4 {a : Nat} (ha : a < 2 ^ 30) : rbit 4 (nI a - 1) = nI (v4 a) := by
  unfold rbit v4
  rw [if_neg (show ¬ (4 : Nat) = 2 by decide)]
  by_cases q : a = 0
  · rw [if_pos ((vm1_neg ha).mpr q), if_pos q]
  · rw [if_neg (fun u => q ((vm1_neg ha).mp u)), if_neg q]
    obtain ⟨b, rfl⟩ : ∃ b, a = b + 1 := ⟨a - 1, by omega⟩
    rw [nI_pred, Nat.add_sub_cancel]
    by_cases w : 14 < b
    · rw [if_pos ((nI_ltI (by decide) (by omega)).mpr w), if_pos w]
    · rw [if_neg (fun u => w ((nI_ltI (by decide) (by omega)).mp u)), if_neg w]
theorem v4_le (a : Nat) : v4 a ≤ 15 := by
  unfold v4
  split
  · omega
  · split <;> omega
theorem b4_v4 {a : Nat} (ha : a < 2 ^ 30) : (if nI a - 1 = -1 then nI 15 else if nI 14 < nI a - 1 then nI 14 else nI a - 1) = nI (v4 a) := by
  rw [← rbit4 ha, rbit_ent (Or.inr rfl) ha]
  unfold ent b4
  rw [if_neg (show ¬ (4 : Nat) = 2 by decide)]
theorem file_ok {iv : Nat → Nat → Int32} {S P T c k9 : Nat} {vv : Nat → Nat} {i8 : Int32} (hP : P ≤ 8) (hT : T ≤ 3) (hc : c ≤ 4) (hk : k9 < 2) (hS : S ≤ 136080) (h0 : iv 0 0 = nI P) (h1 : iv 0 1 = nI T) (h2 : iv 25 5 = nI c) (h3 : iv 46 1 = nI k9) (g0 : iv 53 1 = nI P) (g1 : iv 53 2 = nI T) (g2 : iv 53 7 = nI c) (g3 : iv 53 13 = nI k9)
    (hb : iv 46 0 = 1) (gb : iv 53 12 = 1) (hv : ∀ x, x < S → iv 47 x = nI (vv x) - 1 ∧ vv x < 2 ^ 30) (he : ∀ x, x < S → iv 60 x = iv 47 x) :
    (if iv 46 0 = 0 ∨ i8 < 0 then -1 else if tn i8 < 6 then (fun i9 => if i9 = 0 then nI 67 else if i9 = 1 then nI 84 else if i9 = 2 then iv 0 0 else if i9 = 3 then iv 0 1 else if i9 = 4 then iv 25 5 else iv 46 1) (tn i8) else if tn i8 < 6 + (S + 1) / 2 then (fun i => (if iv 47 (2 * i) = -1 then nI 15 else if nI 14 < iv 47 (2 * i) then nI 14 else iv 47 (2 * i)) + nI 16 * (if 2 * i + 1 < S then (if iv 47 (2 * i + 1) = -1 then nI 15 else if nI 14 < iv 47 (2 * i + 1) then nI 14 else iv 47 (2 * i + 1)) else nI 0)) (tn i8 - 6) else if tn i8 = 6 + (S + 1) / 2 then jrem (bsum (hsum (fun i9 => if i9 = 0 then nI 67 else if i9 = 1 then nI 84 else if i9 = 2 then iv 0 0 else if i9 = 3 then iv 0 1 else if i9 = 4 then iv 25 5 else iv 46 1) 6) (fun i => (if iv 47 (2 * i) = -1 then nI 15 else if nI 14 < iv 47 (2 * i) then nI 14 else iv 47 (2 * i)) + nI 16 * (if 2 * i + 1 < S then (if iv 47 (2 * i + 1) = -1 then nI 15 else if nI 14 < iv 47 (2 * i + 1) then nI 14 else iv 47 (2 * i + 1)) else nI 0)) ((S + 1) / 2)) (nI 251) else -1)
    = (if iv 53 12 = 0 ∨ i8 < 0 ∨ nI (6 + (S + 1) / 2) < i8 then (-1) else if tn i8 < 6 + (S + 1) / 2 then rbyte iv S (tn i8) else bsum 0 (rbyte iv S) (6 + (S + 1) / 2)) := by
  have n46 : ¬ iv 46 0 = 0 := by rw [hb]; decide
  have n53 : ¬ iv 53 12 = 0 := by rw [gb]; decide
  by_cases q : i8 < 0
  · rw [if_pos (show iv 46 0 = 0 ∨ i8 < 0 from Or.inr q), if_pos (show iv 53 12 = 0 ∨ i8 < 0 ∨ nI (6 + (S + 1) / 2) < i8 from Or.inr (Or.inl q))]
  obtain ⟨i, hi, rfl⟩ := nI_of q
  obtain ⟨fb, hfb⟩ : ∃ fb : Nat → Nat, fb = fun i => if i = 0 then 67 else if i = 1 then 84 else if i = 2 then P else if i = 3 then T else if i = 4 then c else if i = 5 then k9 else v4 (vv (2 * (i - 6))) + 16 * (if 2 * (i - 6) + 1 < S then v4 (vv (2 * (i - 6) + 1)) else 0) := ⟨_, rfl⟩
  have hfle : ∀ i, fb i ≤ 255 := fun i => by
    have a1 := v4_le (vv (2 * (i - 6)))
    have a2 := v4_le (vv (2 * (i - 6) + 1))
    rw [hfb]
    show (if i = 0 then 67 else if i = 1 then 84 else if i = 2 then P else if i = 3 then T else if i = 4 then c else if i = 5 then k9 else _) ≤ 255
    repeat' split
    all_goals omega
  have hbody : ∀ i, 2 * i < S → (if iv 47 (2 * i) = -1 then nI 15 else if nI 14 < iv 47 (2 * i) then nI 14 else iv 47 (2 * i)) + nI 16 * (if 2 * i + 1 < S then (if iv 47 (2 * i + 1) = -1 then nI 15 else if nI 14 < iv 47 (2 * i + 1) then nI 14 else iv 47 (2 * i + 1)) else nI 0) = nI (fb (6 + i)) := fun i hi => by
    rw [(hv _ hi).1, b4_v4 (hv _ hi).2, hfb]
    show _ = nI (if 6 + i = 0 then 67 else if 6 + i = 1 then 84 else if 6 + i = 2 then P else if 6 + i = 3 then T else if 6 + i = 4 then c else if 6 + i = 5 then k9 else _)
    rw [if_neg (show ¬ 6 + i = 0 by omega), if_neg (show ¬ 6 + i = 1 by omega), if_neg (show ¬ 6 + i = 2 by omega), if_neg (show ¬ 6 + i = 3 by omega), if_neg (show ¬ 6 + i = 4 by omega), if_neg (show ¬ 6 + i = 5 by omega), show 6 + i - 6 = i by omega]
    by_cases w : 2 * i + 1 < S
    · rw [if_pos w, if_pos w, (hv _ w).1, b4_v4 (hv _ w).2, nI_mul, nI_add]
    · rw [if_neg w, if_neg w, nI_mul, nI_add]
  have hrb : ∀ i, i < 6 + (S + 1) / 2 → rbyte iv S i = nI (fb i) := fun i hi => by
    rw [hfb]
    unfold rbyte
    show _ = nI (if i = 0 then 67 else if i = 1 then 84 else if i = 2 then P else if i = 3 then T else if i = 4 then c else if i = 5 then k9 else _)
    by_cases w0 : i = 0
    · rw [if_pos w0, if_pos w0]
    by_cases w1 : i = 1
    · rw [if_neg w0, if_neg w0, if_pos w1, if_pos w1]
    by_cases w2 : i = 2
    · rw [if_neg w0, if_neg w0, if_neg w1, if_neg w1, if_pos w2, if_pos w2]; exact g0
    by_cases w3 : i = 3
    · rw [if_neg w0, if_neg w0, if_neg w1, if_neg w1, if_neg w2, if_neg w2, if_pos w3, if_pos w3]; exact g1
    by_cases w4 : i = 4
    · rw [if_neg w0, if_neg w0, if_neg w1, if_neg w1, if_neg w2, if_neg w2, if_neg w3, if_neg w3, if_pos w4, if_pos w4]; exact g2
    by_cases w5 : i = 5
    · rw [if_neg w0, if_neg w0, if_neg w1, if_neg w1, if_neg w2, if_neg w2, if_neg w3, if_neg w3, if_neg w4, if_neg w4, if_pos w5, if_pos w5]; exact g3
    rw [if_neg w0, if_neg w0, if_neg w1, if_neg w1, if_neg w2, if_neg w2, if_neg w3, if_neg w3, if_neg w4, if_neg w4, if_neg w5, if_neg w5]
    have hx : 2 * (i - 6) < S := by omega
    rw [he _ hx, (hv _ hx).1, rbit4 (hv _ hx).2]
    by_cases w : 2 * (i - 6) + 1 < S
    · rw [if_pos w, if_pos w, he _ w, (hv _ w).1, rbit4 (hv _ w).2, nI_mul, nI_add]
    · rw [if_neg w, if_neg w, nI_add]
  have hhd : ∀ i, i < 6 → (if i = 0 then nI 67 else if i = 1 then nI 84 else if i = 2 then iv 0 0 else if i = 3 then iv 0 1 else if i = 4 then iv 25 5 else iv 46 1) = nI (fb i) := fun i hi => by
    rw [← hrb i (by omega)]
    unfold rbyte
    rw [h0, h1, h2, h3, g0, g1, g2, g3]
    by_cases w5 : i = 5
    · subst w5; rfl
    · have : i = 0 ∨ i = 1 ∨ i = 2 ∨ i = 3 ∨ i = 4 := by omega
      rcases this with w | w | w | w | w <;> subst w <;> rfl
  rw [show tn (nI i) = i from nI_clamp hi, if_neg (show ¬ (iv 46 0 = 0 ∨ nI i < 0) from fun u => u.elim n46 q)]
  by_cases w : 6 + (S + 1) / 2 < i
  · rw [if_pos (show iv 53 12 = 0 ∨ nI i < 0 ∨ nI (6 + (S + 1) / 2) < nI i from Or.inr (Or.inr ((nI_ltI (by omega) hi).mpr w))), if_neg (show ¬ i < 6 by omega), if_neg (show ¬ i < 6 + (S + 1) / 2 by omega), if_neg (show ¬ i = 6 + (S + 1) / 2 by omega)]
  rw [if_neg (show ¬ (iv 53 12 = 0 ∨ nI i < 0 ∨ nI (6 + (S + 1) / 2) < nI i) from fun u => u.elim n53 (fun u => u.elim q (fun u => w ((nI_ltI (by omega) hi).mp u))))]
  by_cases w6 : i < 6
  · rw [if_pos w6, if_pos (show i < 6 + (S + 1) / 2 by omega), hrb i (by omega)]
    exact hhd i w6
  rw [if_neg w6]
  by_cases wl : i < 6 + (S + 1) / 2
  · rw [if_pos wl, if_pos wl, hrb i wl]
    have := hbody (i - 6) (by omega)
    rw [show 6 + (i - 6) = i by omega] at this
    exact this
  rw [if_neg wl, if_neg wl, if_pos (show i = 6 + (S + 1) / 2 by omega)]
  have hh : hsum (fun i9 => if i9 = 0 then nI 67 else if i9 = 1 then nI 84 else if i9 = 2 then iv 0 0 else if i9 = 3 then iv 0 1 else if i9 = 4 then iv 25 5 else iv 46 1) 6 = nI (fb 0 + fb 1 + fb 2 + fb 3 + fb 4 + fb 5) := by
    have e0 := hhd 0 (by omega)
    have e1 := hhd 1 (by omega)
    have e2 := hhd 2 (by omega)
    have e3 := hhd 3 (by omega)
    have e4 := hhd 4 (by omega)
    have e5 := hhd 5 (by omega)
    show (((((0 + (if (0 : Nat) = 0 then nI 67 else if (0 : Nat) = 1 then nI 84 else if (0 : Nat) = 2 then iv 0 0 else if (0 : Nat) = 3 then iv 0 1 else if (0 : Nat) = 4 then iv 25 5 else iv 46 1)) + (if (1 : Nat) = 0 then nI 67 else if (1 : Nat) = 1 then nI 84 else if (1 : Nat) = 2 then iv 0 0 else if (1 : Nat) = 3 then iv 0 1 else if (1 : Nat) = 4 then iv 25 5 else iv 46 1)) + (if (2 : Nat) = 0 then nI 67 else if (2 : Nat) = 1 then nI 84 else if (2 : Nat) = 2 then iv 0 0 else if (2 : Nat) = 3 then iv 0 1 else if (2 : Nat) = 4 then iv 25 5 else iv 46 1)) + (if (3 : Nat) = 0 then nI 67 else if (3 : Nat) = 1 then nI 84 else if (3 : Nat) = 2 then iv 0 0 else if (3 : Nat) = 3 then iv 0 1 else if (3 : Nat) = 4 then iv 25 5 else iv 46 1)) + (if (4 : Nat) = 0 then nI 67 else if (4 : Nat) = 1 then nI 84 else if (4 : Nat) = 2 then iv 0 0 else if (4 : Nat) = 3 then iv 0 1 else if (4 : Nat) = 4 then iv 25 5 else iv 46 1)) + (if (5 : Nat) = 0 then nI 67 else if (5 : Nat) = 1 then nI 84 else if (5 : Nat) = 2 then iv 0 0 else if (5 : Nat) = 3 then iv 0 1 else if (5 : Nat) = 4 then iv 25 5 else iv 46 1) = _
    rw [e0, e1, e2, e3, e4, e5, show (0 : Int32) = nI 0 from rfl, nI_add, nI_add, nI_add, nI_add, nI_add, nI_add, Nat.zero_add]
  have hsl : fb 0 + fb 1 + fb 2 + fb 3 + fb 4 + fb 5 < 2 ^ 20 := by
    have := hfle 0
    have := hfle 1
    have := hfle 2
    have := hfle 3
    have := hfle 4
    have := hfle 5
    omega
  rw [hh, bsum_bN (f := fun i => fb (6 + i)) hsl _ (fun i hi => ⟨hbody i (by omega), hfle _⟩), show (0 : Int32) = nI 0 from rfl, bsum_bN (f := fb) (by decide) _ (fun i hi => ⟨hrb i hi, hfle i⟩), grem (Nat.lt_trans (bN_le hsl _) (by decide)) (by decide) (by decide)]
  refine congrArg nI ?_
  rw [bN_add 6, bN_h, ← bN_mod]
  refine Nat.mod_eq_of_lt ?_
  cases (S + 1) / 2 with
  | zero => exact Nat.mod_lt _ (by decide)
  | succ k => exact Nat.mod_lt _ (by decide)
/-- classes -/
theorem cls_least {lk : Nat → Nat} {S : Nat} {img : Nat → Nat → Nat} {gd : Nat → Prop} {sc x lv : Nat} (h : clsTo lk S img gd sc) (hx : x < S) (hl : lv < S) (h1 : eqg (relS S img gd sc) x lv) (h2 : ∀ y, eqg (relS S img gd sc) x y → lv ≤ y) : lv = root lk x := by
  have hr := root_le h.1 x hx
  have hrr : root lk (root lk x) = root lk x := root_fix (root_root h.1 x hx)
  have e1 : eqg (relS S img gd sc) x (root lk x) := (h.2 x _ hx (by omega)).mp hrr.symm
  have e2 := (h.2 x lv hx hl).mpr h1
  have e3 := root_le h.1 lv hl
  have e4 := h2 _ e1
  omega
theorem cls_fix {lk : Nat → Nat} {S : Nat} {img : Nat → Nat → Nat} {gd : Nat → Prop} {sc y : Nat} (hi : ∀ s, s < sc → gd s → inj (img s) S S) (h : clsTo lk S img gd sc) (hy : y < S) : (lk y == y) = true ↔ ∀ x, eqg (relS S img gd sc) y x → y ≤ x := by
  rw [root_is_fix h.1 hy, beq_iff_eq]
  constructor
  · intro e x hx
    have hxS := eqg_lt hi hy hx
    have e2 := (h.2 y x hy hxS).mpr hx
    have := root_le h.1 x hxS
    omega
  · intro q
    have hr := root_le h.1 y hy
    have hrr : root lk (root lk y) = root lk y := root_fix (root_root h.1 y hy)
    have := q _ ((h.2 y _ hy (by omega)).mp hrr.symm)
    omega
/-- goodness on both sides -/
theorem good_both {iv : Nat → Nat → Int32} {P T mc k : Nat} {Sg : Nat → Nat} {G Ad : Nat → Nat → Nat} {ch : Nat → Bool} (hP : P ≤ 8) (hT : T ≤ 3) (hmv : ∀ j, j < mc → moveAt iv (2 + 3 * j) P T (G j) (Ad j)) (hs : ∀ p, p < P → iv k p = nI (Sg p) ∧ Sg p < P) (hS : inj Sg P P) (hch : ∀ p, p < P → iv 26 p = if ch p then 1 else 0) :
    goodAt iv P mc k ↔ ((∀ p, p < P → ch p = ch (Sg p)) ∧ ∀ j, j < mc → ∃ i, i < mc ∧ imgN P Sg (G j) (Ad j) (G i) (Ad i)) := by
  have htn : ∀ p, p < P → tn (iv k p) = Sg p := fun p hp => by
    rw [(hs p hp).1]
    exact nI_clamp (by have := (hs p hp).2; omega)
  have hc1 : ∀ p, p < P → (iv 26 p ≠ 0 ↔ ch p = true) := fun p hp => by
    rw [hch p hp]
    cases ch p <;> decide
  have him : ∀ i j, i < mc → j < mc → (imgOf iv P (2 + 3 * i) (2 + 3 * j) k ↔ imgN P Sg (G j) (Ad j) (G i) (Ad i)) := fun i j hi hj => by
    unfold imgOf imgN
    have key : ∀ q, q < P → ((iv (2 + 3 * i + 1) (tn (iv k q)) = iv k (tn (iv (2 + 3 * j + 1) q)) ∧ iv (2 + 3 * i + 2) (tn (iv k q)) = iv (2 + 3 * j + 2) q) ↔ (G i (Sg q) = Sg (G j q) ∧ Ad i (Sg q) = Ad j q)) := fun q hq => by
      have a := (hmv i hi).2 (Sg q) (hs q hq).2
      have b := (hmv j hj).2 q hq
      have d := hs (G j q) b.2.1
      rw [htn q hq, b.1, show tn (nI (G j q)) = G j q from nI_clamp (by have := b.2.1; omega), a.1, d.1, a.2.2.1, b.2.2.1, nI_eqI (by have := a.2.1; omega) (by have := d.2; omega), nI_eqI (by have := a.2.2.2; omega) (by have := b.2.2.2; omega)]
    exact ⟨fun h q hq => (key q hq).mp (h q hq), fun h q hq => (key q hq).mpr (h q hq)⟩
  unfold goodAt
  rw [← ch_both hS]
  refine and_congr ⟨fun h p hp e => ?_, fun h p hp e => ?_⟩ ⟨fun h j hj => ?_, fun h j hj => ?_⟩
  · have := h p hp ((hc1 p hp).mpr e)
    rw [htn p hp] at this
    exact (hc1 _ (hs p hp).2).mp this
  · rw [htn p hp]
    exact (hc1 _ (hs p hp).2).mpr (h p hp ((hc1 p hp).mp e))
  · obtain ⟨i, a, b⟩ := h j hj
    exact ⟨i, a, (him i j a hj).mp b⟩
  · obtain ⟨i, a, b⟩ := h j hj
    exact ⟨i, a, (him i j a hj).mpr b⟩
