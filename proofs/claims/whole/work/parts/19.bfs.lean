/-! the table as it grows: d x is x's value and one more, 0 when it has none; q the states in the order of their finding, C of them -/
def BS : Type := (Nat → Nat) × (Nat → Nat) × Nat
/-- a walk round a move's circle from fr, k steps of it left, now at x -/
def spr (g : Nat → Nat) (fr : Nat) : Nat → Nat → BS → BS
  | 0, _, s => s
  | k + 1, x, s => if s.1 (g x) = 0 then spr g fr k (g x) (va_up s.1 (g x) (s.1 fr + 1), va_up s.2.1 s.2.2 (g x), s.2.2 + 1) else if s.1 (g x) ≤ s.1 fr then s else spr g fr k (g x) s
/-- the count is that of the states with a value; no value is above it; what was found are states, each once, in the order of values -/
def bOk (S : Nat) (s : BS) : Prop := s.2.2 = cnt (fun x => s.1 x != 0) S ∧ (∀ x, x < S → s.1 x ≤ s.2.2) ∧ ∀ i, i < s.2.2 → s.2.1 i < S
theorem cnt_add {S y k : Nat} {d : Nat → Nat} (hy : y < S) (h0 : d y = 0) (hk : k ≠ 0) : cnt (fun x => va_up d y k x != 0) S = cnt (fun x => d x != 0) S + 1 := by
  rw [cnt_up (M := y) (by simp [va_up, hk]) hy]
  congr 1
  apply cnt_congr
  intro i _
  unfold va_up
  by_cases e : i = y
  · subst e; simp [h0]
  · simp [e]
theorem cnt_lt {f : Nat → Bool} {y : Nat} (hf : f y = false) : ∀ {S : Nat}, y < S → cnt f S < S
  | 0, h => absurd h (Nat.not_lt_zero _)
  | S + 1, h => by
    rw [cnt_s]
    rcases Nat.lt_or_ge y S with h1 | h1
    · have := cnt_lt hf h1
      split <;> omega
    · have : y = S := by omega
      subst this
      have := cnt_le f y
      simp [hf]; omega
theorem bOk_add {S fr y : Nat} {s : BS} (h : bOk S s) (hfr : fr < S) (hy : y < S) (h0 : s.1 y = 0) : s.2.2 < S ∧ bOk S (va_up s.1 y (s.1 fr + 1), va_up s.2.1 s.2.2 y, s.2.2 + 1) := by
  obtain ⟨h1, h2, h3⟩ := h
  have hlt : s.2.2 < S := by rw [h1]; exact cnt_lt (y := y) (by simp [h0]) hy
  refine ⟨hlt, ?_, fun x hx => ?_, fun i hi => ?_⟩
  · show s.2.2 + 1 = _
    rw [cnt_add hy h0 (by omega), ← h1]
  · show va_up s.1 y (s.1 fr + 1) x ≤ s.2.2 + 1
    unfold va_up
    have := h2 x hx
    have := h2 fr hfr
    split <;> omega
  · have hi : i < s.2.2 + 1 := hi
    show va_up s.2.1 s.2.2 y i < S
    unfold va_up
    by_cases e : i = s.2.2
    · simp [e]; exact hy
    · simp [e]; exact h3 i (by omega)
theorem bOk_C {S : Nat} {s : BS} (h : bOk S s) : s.2.2 ≤ S := by rw [h.1]; exact cnt_le _ _
/-- the table's rows hold s -/
def tabAt (iv : Nat → Nat → Int32) (S : Nat) (s : BS) : Prop := (∀ x, x < S → iv 47 x = nI (s.1 x) - 1) ∧ (∀ i, i < s.2.2 → iv 48 i = nI (s.2.1 i)) ∧ iv 46 3 = nI s.2.2
theorem vm1_iff {k : Nat} (h : k < 2 ^ 30) : nI k - 1 = -1 ↔ k = 0 := by
  constructor
  · intro q
    rcases Nat.eq_zero_or_pos k with e | e
    · exact e
    · exfalso
      obtain ⟨j, rfl⟩ : ∃ j, k = j + 1 := ⟨k - 1, by omega⟩
      rw [nI_pred] at q
      have h1 := nI_pos (n := j) (by omega)
      rw [q] at h1
      exact h1 (by decide)
  · intro q; subst q; decide
theorem vm1_toInt {k : Nat} (h : k < 2 ^ 30) : (nI k - 1).toInt = (k : Int) - 1 := by
  rcases Nat.eq_zero_or_pos k with e | e
  · subst e; decide
  · obtain ⟨j, rfl⟩ : ∃ j, k = j + 1 := ⟨k - 1, by omega⟩
    rw [nI_pred, nI_toInt (by omega)]
    omega
theorem vm1_le {a b : Nat} (ha : a < 2 ^ 30) (hb : b < 2 ^ 30) : nI a - 1 ≤ nI b - 1 ↔ a ≤ b := by
  rw [Int32.le_iff_toInt_le, vm1_toInt ha, vm1_toInt hb]
  omega
theorem vm1_lt {a b : Nat} (ha : a < 2 ^ 30) (hb : b < 2 ^ 30) : nI a - 1 < nI b - 1 ↔ a < b := by
  rw [Int32.lt_iff_toInt_lt, vm1_toInt ha, vm1_toInt hb]
  omega
theorem vm1_add (a : Nat) : nI a - 1 + nI 1 = nI (a + 1) - 1 := by
  rw [nI_pred]
  show nI a - 1 + 1 = nI a
  rw [Int32.sub_add_cancel]
/-- the rows of the steps give bk -/
def stepsOk (iv : Nat → Nat → Int32) (a t mc : Nat) (bk : Nat → Nat → Nat) : Prop := ∀ m, m < mc → ∀ x, x < a * t → ∃ u v w, iv 43 (m * a + x / t) = nI u ∧ iv 44 (m * a + x / t) = nI v ∧ v < t ∧ iv 45 (x % t * t + v) = nI w ∧ u * t + w = bk m x ∧ bk m x < a * t
