/-! circles, orders, classes: what both sides share -/
theorem inj_id (S : Nat) : inj (fun q => q) S S := ⟨fun _ h => h, fun _ _ _ _ e => e⟩
/-- every place comes back -/
theorem per {g : Nat → Nat} {S y : Nat} (hg : inj g S S) (hy : y < S) : ∃ k, 1 ≤ k ∧ k ≤ S ∧ itg g k y = y := by
  by_cases h : ∃ j k, j < k ∧ k ≤ S ∧ itg g j y = itg g k y
  · obtain ⟨j, k, h1, h2, h3⟩ := h
    refine ⟨k - j, by omega, by omega, ?_⟩
    have e : itg g k y = itg g j (itg g (k - j) y) := by
      rw [← itg_add, show k - j + j = k by omega]
    rw [e] at h3
    exact ((itg_inj hg (inj_id S) j).2 y (itg g (k - j) y) hy (itg_in hg.1 _ hy) h3).symm
  · exfalso
    have h9 := inj_le_P (w := fun j => itg g j y) (P := S) (i := S + 1) ⟨fun j _ => itg_in hg.1 j hy, fun j k hj hk e => by
      rcases Nat.lt_trichotomy j k with q | q | q
      · exact absurd ⟨j, k, q, by omega, e⟩ h
      · exact q
      · exact absurd ⟨k, j, q, by omega, e.symm⟩ h⟩
    omega
/-- what is closed forwards is closed backwards -/
theorem cl_back {g : Nat → Nat} {S y : Nat} {M : Nat → Prop} (hg : inj g S S) (hM : ∀ x, x < S → M x → M (g x)) (hy : y < S) (h : M (g y)) : M y := by
  obtain ⟨k, h1, h2, h3⟩ := per hg hy
  have key : ∀ j, M (itg g (j + 1) y) := by
    intro j
    induction j with
    | zero => exact h
    | succ j ih => exact hM _ (itg_in hg.1 _ hy) ih
  have h9 := key (k - 1)
  rw [show k - 1 + 1 = k by omega, h3] at h9
  exact h9
/-- least period -/
def lp (g : Nat → Nat) (P p : Nat) : Nat := lst (fun k => itg g k p == p) P 1
theorem lst_ex {f : Nat → Bool} : ∀ {n i q : Nat}, i ≤ q → q < i + n → f q = true → f (lst f n i) = true ∧ lst f n i ≤ q ∧ ∀ j, i ≤ j → j < lst f n i → f j = false
  | 0, i, q, h1, h2, _ => by omega
  | n + 1, i, q, h1, h2, h3 => by
    unfold lst
    cases e : f i with
    | true => exact ⟨by simpa using e, by simpa using h1, fun j a b => by simp at b; omega⟩
    | false =>
      have hq : i + 1 ≤ q := by
        rcases Nat.lt_or_ge i q with u | u
        · exact u
        · rw [show i = q by omega, h3] at e; exact absurd e (by decide)
      obtain ⟨a, b, c⟩ := lst_ex (n := n) hq (by omega) h3
      refine ⟨by simpa using a, by simpa using b, fun j u v => ?_⟩
      rcases Nat.lt_or_ge i j with w | w
      · exact c j w (by simpa using v)
      · rw [show j = i by omega]; exact e
theorem lp_ok {g : Nat → Nat} {P p : Nat} (hg : inj g P P) (hp : p < P) : 1 ≤ lp g P p ∧ lp g P p ≤ P ∧ itg g (lp g P p) p = p ∧ ∀ j, 1 ≤ j → itg g j p = p → lp g P p ≤ j := by
  obtain ⟨k, h1, h2, h3⟩ := per hg hp
  have hx := lst_ex (f := fun k => itg g k p == p) (n := P) (i := 1) (q := k) h1 (by omega) (by simp [h3])
  have hi := (lst_in (fun k => itg g k p == p) P 1).1
  obtain ⟨a, b, c⟩ := hx
  refine ⟨hi, Nat.le_trans b h2, by unfold lp; simpa using a, fun j u v => ?_⟩
  rcases Nat.lt_or_ge j (lp g P p) with w | w
  · have := c j u w
    simp [v] at this
  · exact w
theorem itg_s' (g : Nat → Nat) (k x : Nat) : itg g (k + 1) x = itg g k (g x) := by
  rw [Nat.add_comm, itg_add]; rfl
theorem itg_mul {g : Nat → Nat} {d p : Nat} (h : itg g d p = p) : ∀ j, itg g (d * j) p = p
  | 0 => rfl
  | j + 1 => by rw [Nat.mul_succ, itg_add, itg_mul h j, h]
/-- a place of the same circle has the same least period -/
theorem lp_same {g : Nat → Nat} {P p : Nat} (hg : inj g P P) (hp : p < P) (k : Nat) : lp g P (itg g k p) = lp g P p := by
  have hq := itg_in hg.1 k hp
  obtain ⟨a1, a2, a3, a4⟩ := lp_ok hg hp
  obtain ⟨b1, b2, b3, b4⟩ := lp_ok hg hq
  have c1 : itg g (lp g P p) (itg g k p) = itg g k p := by rw [← itg_add, Nat.add_comm, itg_add, a3]
  have c2 : itg g (lp g P (itg g k p)) p = p := by
    rw [← itg_add, Nat.add_comm, itg_add] at b3
    exact (itg_inj hg (inj_id P) k).2 _ _ (itg_in hg.1 _ hp) hp b3
  have := b4 _ a1 c1
  have := a4 _ b1 c2
  omega
/-- as many places have f as w names -/
theorem cnt_ge {f : Nat → Bool} {P d : Nat} {w : Nat → Nat} (hw : inj w P d) (hf : ∀ k, k < d → f (w k) = true) : d ≤ cnt f P := by
  refine inj_le_P (w := fun k => cnt f (w k)) (P := cnt f P) ⟨fun k hk => ?_, fun j k hj hk e => ?_⟩
  · have h1 := cnt_mono f (show w k + 1 ≤ P from hw.1 k hk)
    rw [cnt_s, if_pos (hf k hk)] at h1
    exact h1
  · refine hw.2 j k hj hk ?_
    have hs : ∀ a b, a < b → f a = true → cnt f a < cnt f b := fun a b h1 h2 => by
      have h3 := cnt_mono f (show a + 1 ≤ b from h1)
      rw [cnt_s, if_pos h2] at h3
      exact h3
    rcases Nat.lt_trichotomy (w j) (w k) with q | q | q
    · exact absurd e (Nat.ne_of_lt (hs _ _ q (hf j hj)))
    · exact q
    · exact absurd e.symm (Nat.ne_of_lt (hs _ _ q (hf k hk)))
theorem cnt_pos {f : Nat → Bool} : ∀ {P : Nat}, 0 < cnt f P → ∃ p, p < P ∧ f p = true
  | 0, h => absurd h (Nat.lt_irrefl 0)
  | P + 1, h => by
    rw [cnt_s] at h
    cases e : f P with
    | true => exact ⟨P, Nat.lt_succ_self _, e⟩
    | false =>
      simp [e] at h
      obtain ⟨p, h1, h2⟩ := cnt_pos h
      exact ⟨p, by omega, h2⟩
def ccl (g : Nat → Nat) (P d : Nat) : Nat := cnt (fun p => lp g P p == d) P
theorem ccl_ge {g : Nat → Nat} {P d : Nat} (hg : inj g P P) (h : 0 < ccl g P d) : d ≤ ccl g P d := by
  obtain ⟨p, h1, h2⟩ := cnt_pos h
  have h2 : lp g P p = d := by simpa using h2
  obtain ⟨a1, a2, a3, a4⟩ := lp_ok hg h1
  refine cnt_ge (w := fun k => itg g k p) ⟨fun k _ => itg_in hg.1 k h1, fun j k hj hk e => ?_⟩ (fun k _ => by simp [lp_same hg h1 k, h2])
  have key : ∀ a b, a < b → b < d → itg g a p ≠ itg g b p := fun a b u v e => by
    have e2 : itg g b p = itg g a (itg g (b - a) p) := by rw [← itg_add, show b - a + a = b by omega]
    rw [e2] at e
    have e3 := (itg_inj hg (inj_id P) a).2 p (itg g (b - a) p) h1 (itg_in hg.1 _ h1) e
    have := a4 (b - a) (by omega) e3.symm
    omega
  rcases Nat.lt_trichotomy j k with q | q | q
  · exact absurd e (key j k q hk)
  · exact q
  · exact absurd e.symm (key k j q hj)
theorem one8 (v : Nat) : (if v = 1 then 1 else 0) + (if v = 2 then 1 else 0) + (if v = 3 then 1 else 0) + (if v = 4 then 1 else 0) + (if v = 5 then 1 else 0) + (if v = 6 then 1 else 0) + (if v = 7 then 1 else 0) + (if v = 8 then 1 else 0) ≤ 1 := by
  rcases Nat.lt_or_ge v 9 with h | h
  · revert v; decide
  · simp [show ¬ v = 1 by omega, show ¬ v = 2 by omega, show ¬ v = 3 by omega, show ¬ v = 4 by omega, show ¬ v = 5 by omega, show ¬ v = 6 by omega, show ¬ v = 7 by omega, show ¬ v = 8 by omega]
theorem cnt8 (f : Nat → Nat) : ∀ P, cnt (fun p => f p == 1) P + cnt (fun p => f p == 2) P + cnt (fun p => f p == 3) P + cnt (fun p => f p == 4) P + cnt (fun p => f p == 5) P + cnt (fun p => f p == 6) P + cnt (fun p => f p == 7) P + cnt (fun p => f p == 8) P ≤ P
  | 0 => Nat.le_refl _
  | P + 1 => by
    have := cnt8 f P
    have k := one8 (f P)
    simp only [cnt_s, beq_iff_eq]
    omega
def lcs (b2 b3 b4 b5 b6 b7 b8 : Bool) : Nat := Nat.lcm (cond b2 2 1) (Nat.lcm (cond b3 3 1) (Nat.lcm (cond b4 4 1) (Nat.lcm (cond b5 5 1) (Nat.lcm (cond b6 6 1) (Nat.lcm (cond b7 7 1) (cond b8 8 1))))))
theorem lcm8 : ∀ b1 b2 b3 b4 b5 b6 b7 b8 : Bool, (cond b1 1 0) + (cond b2 2 0) + (cond b3 3 0) + (cond b4 4 0) + (cond b5 5 0) + (cond b6 6 0) + (cond b7 7 0) + (cond b8 8 0) ≤ 8 → lcs b2 b3 b4 b5 b6 b7 b8 < 16 ∧ 1 ≤ lcs b2 b3 b4 b5 b6 b7 b8 ∧ (b1 = true → lcs b2 b3 b4 b5 b6 b7 b8 % 1 = 0) ∧ (b2 = true → lcs b2 b3 b4 b5 b6 b7 b8 % 2 = 0) ∧ (b3 = true → lcs b2 b3 b4 b5 b6 b7 b8 % 3 = 0) ∧ (b4 = true → lcs b2 b3 b4 b5 b6 b7 b8 % 4 = 0) ∧ (b5 = true → lcs b2 b3 b4 b5 b6 b7 b8 % 5 = 0) ∧ (b6 = true → lcs b2 b3 b4 b5 b6 b7 b8 % 6 = 0) ∧ (b7 = true → lcs b2 b3 b4 b5 b6 b7 b8 % 7 = 0) ∧ (b8 = true → lcs b2 b3 b4 b5 b6 b7 b8 % 8 = 0) := by decide +kernel
theorem com_per {g : Nat → Nat} {P : Nat} (hP : P ≤ 8) (hg : inj g P P) : ∃ L, 1 ≤ L ∧ L ≤ 15 ∧ ∀ p, p < P → itg g L p = p := by
  have h8 := cnt8 (lp g P) P
  have hc : ∀ d, (cond (decide (0 < ccl g P d)) d 0) ≤ ccl g P d := fun d => by
    by_cases h : 0 < ccl g P d
    · rw [decide_eq_true h]; exact ccl_ge hg h
    · rw [decide_eq_false h]; exact Nat.zero_le _
  have e1 := hc 1
  have e2 := hc 2
  have e3 := hc 3
  have e4 := hc 4
  have e5 := hc 5
  have e6 := hc 6
  have e7 := hc 7
  have e8 := hc 8
  have hs : ccl g P 1 + ccl g P 2 + ccl g P 3 + ccl g P 4 + ccl g P 5 + ccl g P 6 + ccl g P 7 + ccl g P 8 ≤ 8 := Nat.le_trans h8 hP
  obtain ⟨l1, l2, d1, d2, d3, d4, d5, d6, d7, d8⟩ := lcm8 (decide (0 < ccl g P 1)) (decide (0 < ccl g P 2)) (decide (0 < ccl g P 3)) (decide (0 < ccl g P 4)) (decide (0 < ccl g P 5)) (decide (0 < ccl g P 6)) (decide (0 < ccl g P 7)) (decide (0 < ccl g P 8)) (by omega)
  obtain ⟨L, hL⟩ : ∃ L, L = lcs (decide (0 < ccl g P 2)) (decide (0 < ccl g P 3)) (decide (0 < ccl g P 4)) (decide (0 < ccl g P 5)) (decide (0 < ccl g P 6)) (decide (0 < ccl g P 7)) (decide (0 < ccl g P 8)) := ⟨_, rfl⟩
  rw [← hL] at l1 l2 d1 d2 d3 d4 d5 d6 d7 d8
  refine ⟨L, l2, by omega, fun p hp => ?_⟩
  obtain ⟨a1, a2, a3, a4⟩ := lp_ok hg hp
  have hpos : 0 < ccl g P (lp g P p) := cnt_ge (f := fun q => lp g P q == lp g P p) (d := 1) (w := fun _ => p) ⟨fun _ _ => hp, fun j k u v _ => by omega⟩ (fun _ _ => by simp)
  have hdv : L % lp g P p = 0 := by
    have hcase : lp g P p = 1 ∨ lp g P p = 2 ∨ lp g P p = 3 ∨ lp g P p = 4 ∨ lp g P p = 5 ∨ lp g P p = 6 ∨ lp g P p = 7 ∨ lp g P p = 8 := by omega
    rcases hcase with q | q | q | q | q | q | q | q <;> rw [q] at hpos ⊢ <;> first | exact d1 (decide_eq_true hpos) | exact d2 (decide_eq_true hpos) | exact d3 (decide_eq_true hpos) | exact d4 (decide_eq_true hpos) | exact d5 (decide_eq_true hpos) | exact d6 (decide_eq_true hpos) | exact d7 (decide_eq_true hpos) | exact d8 (decide_eq_true hpos)
  have hm := Nat.div_add_mod L (lp g P p)
  rw [hdv, Nat.add_zero] at hm
  rw [← hm]
  exact itg_mul a3 _
theorem twn_add {G Ad : Nat → Nat} {a p : Nat} : ∀ b, twn G Ad (a + b) p = twn G Ad a p + twn G Ad b (itg G a p)
  | 0 => rfl
  | b + 1 => by
    show twn G Ad (a + b) p + Ad (itg G (a + b) p) = twn G Ad a p + (twn G Ad b (itg G a p) + Ad (itg G b (itg G a p)))
    rw [twn_add b, itg_add, Nat.add_assoc]
theorem twn_mul {G Ad : Nat → Nat} {d p : Nat} (h : itg G d p = p) : ∀ j, twn G Ad (d * j) p = j * twn G Ad d p
  | 0 => by rw [Nat.zero_mul]; rfl
  | j + 1 => by rw [Nat.mul_succ, twn_add, twn_mul h j, itg_mul h j, Nat.succ_mul]
/-- an order below 64 -/
theorem ord_ex {P T : Nat} {G Ad : Nat → Nat} (hP : P ≤ 8) (hT1 : 0 < T) (hT3 : T ≤ 3) (hG : inj G P P) : ∃ N0, 1 ≤ N0 ∧ N0 ≤ 63 ∧ hmB P T G Ad N0 = true := by
  obtain ⟨L, h1, h2, h3⟩ := com_per hP hG
  refine ⟨L * T, Nat.mul_pos h1 hT1, Nat.le_trans (Nat.mul_le_mul h2 hT3) (by decide), hmB_iff.mpr (fun p hp => ⟨itg_mul (h3 p hp) T, ?_⟩)⟩
  rw [tws_twn, twn_mul (h3 p hp), Nat.mul_mod_right]
/-- chosen is closed by a symmetry both ways -/
theorem ch_both {P : Nat} {Sg : Nat → Nat} {ch : Nat → Bool} (hS : inj Sg P P) : (∀ p, p < P → ch p = true → ch (Sg p) = true) ↔ ∀ p, p < P → ch p = ch (Sg p) := by
  refine ⟨fun h p hp => ?_, fun h p hp e => by rw [← h p hp]; exact e⟩
  cases e : ch (Sg p) with
  | true => exact cl_back (M := fun x => ch x = true) hS h hp e
  | false =>
    cases e2 : ch p with
    | true => rw [h p hp e2] at e; exact absurd e (by decide)
    | false => rfl
/-- the pieces as a symmetry takes them -/
def siF (ch : Nat → Bool) (P : Nat) (Sg : Nat → Nat) (i : Nat) : Nat := cnt ch (ginv P Sg (pcs ch P i))
theorem siF_ok {P : Nat} {Sg : Nat → Nat} {ch : Nat → Bool} (hS : inj Sg P P) (h : ∀ p, p < P → ch p = ch (Sg p)) : symIx Sg (pcs ch P) (siF ch P Sg) (cnt ch P) := by
  intro i hi
  obtain ⟨h1, h2, h3⟩ := pcs_ok hi
  obtain ⟨q, q1, q2⟩ := inj_surj hS h1
  have hg : ginv P Sg (pcs ch P i) = q := by rw [← q2]; exact ginv_eq hS q1
  have hq : ch q = true := by rw [h q q1, q2]; exact h2
  unfold siF
  rw [hg]
  have hlt : cnt ch q < cnt ch P := by
    have h8 := cnt_mono ch (show q + 1 ≤ P from q1)
    rw [cnt_s, if_pos hq] at h8
    exact h8
  refine ⟨hlt, ?_⟩
  rw [show pcs ch P (cnt ch q) = q from fnd_eq q1 hq rfl]
  exact q2
/-- images of different states differ -/
theorem si_inj {P c : Nat} {Sg si pc : Nat → Nat} (hS : inj Sg P P) (hpi : inj pc P c) (hsi : symIx Sg pc si c) : inj si c c := by
  refine ⟨fun i hi => (hsi i hi).1, fun i j hi hj e => ?_⟩
  have h1 := (hsi i hi).2
  have h2 := (hsi j hj).2
  rw [e, h2] at h1
  exact (hpi.2 j i hj hi h1).symm
theorem imN_inj {P T c : Nat} {Sg si pc : Nat → Nat} (hT : 0 < T) (hcP : c ≤ P) (hS : inj Sg P P) (hpi : inj pc P c) (hsi : symIx Sg pc si c) : inj (imN P T c Sg si) (ff P c * T ^ c) (ff P c * T ^ c) := by
  have hw : ∀ y, inj (fun i => Sg (dw P c y (si i))) P c := fun y => inj_image hS hpi (dw_ok hcP).1 hsi
  have ht : ∀ x i, i < c → dt T c x (si i) < T := fun x i _ => dt_lt hT
  refine ⟨fun x _ => num_lt (hw _) (ht x), fun x y hx hy e => ?_⟩
  have hsj := si_inj hS hpi hsi
  have e1 : ∀ i, i < c → dw P c (x / T ^ c) i = dw P c (y / T ^ c) i := fun i hi => by
    obtain ⟨j, j1, j2⟩ := inj_surj hsj hi
    have h1 := dw_num (P := P) hT (hw (x / T ^ c)) (ht x) j1
    have h2 := dw_num (P := P) hT (hw (y / T ^ c)) (ht y) j1
    have h3 : Sg (dw P c (x / T ^ c) (si j)) = Sg (dw P c (y / T ^ c) (si j)) := by
      rw [← h1, ← h2]
      exact congrArg (fun z => dw P c (z / T ^ c) j) e
    rw [j2] at h3
    exact hS.2 _ _ ((dw_ok hcP).1.1 i hi) ((dw_ok hcP).1.1 i hi) h3
  have e2 : ∀ i, i < c → dt T c x i = dt T c y i := fun i hi => by
    obtain ⟨j, j1, j2⟩ := inj_surj hsj hi
    have h1 := num_dt (P := P) (w := fun i => Sg (dw P c (x / T ^ c) (si i))) hT (ht x) j1
    have h2 := num_dt (P := P) (w := fun i => Sg (dw P c (y / T ^ c) (si i))) hT (ht y) j1
    have h3 : dt T c x (si j) = dt T c y (si j) := by
      rw [← h1, ← h2]
      exact congrArg (fun z => dt T c z j) e
    rw [j2] at h3
    exact h3
  rw [← num_dec hT hcP hx, ← num_dec hT hcP hy]
  exact num_congr e1 e2
/-- the class of x, found by going on from x -/
theorem eqg_closed {S x : Nat} {img : Nat → Nat → Nat} {gd : Nat → Prop} {sc : Nat} {Q : Nat → Prop} (hi : ∀ s, s < sc → gd s → inj (img s) S S) (hx : Q x) (hQ : ∀ s y, s < sc → gd s → y < S → Q y → Q (img s y)) {y : Nat} (h : eqg (relS S img gd sc) x y) : Q y := by
  refine (h (fun a b => Q a ↔ Q b) ⟨fun _ => Iff.rfl, fun q => q.symm, fun q1 q2 => q1.trans q2⟩ (fun a b hr => ?_)).mp hx
  obtain ⟨s, h1, h2, h3, h4⟩ := hr
  rw [h4]
  exact ⟨fun q => hQ s a h1 h2 h3 q, fun q => cl_back (M := Q) (hi s h1 h2) (fun z hz => hQ s z h1 h2 hz) h3 q⟩
theorem eqg_lt {S x y : Nat} {img : Nat → Nat → Nat} {gd : Nat → Prop} {sc : Nat} (hi : ∀ s, s < sc → gd s → inj (img s) S S) (hx : x < S) (h : eqg (relS S img gd sc) x y) : y < S :=
  eqg_closed (Q := fun z => z < S) hi hx (fun s z h1 h2 h3 _ => (hi s h1 h2).1 z h3) h
