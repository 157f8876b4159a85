/-! words of the state, and what the small methods do to it -/
theorem isS_in {b : Nat} (h : isS b = true) : b = 29 ∨ b = 32 ∨ b = 35 := by
  simp [isS] at h; omega
theorem isM_in {v : Nat} (h : isM v = true) : (v < 20 ∧ v % 3 = 2) ∨ v = 38 := by
  simp [isM] at h; omega
theorem isS1 {b : Nat} (h : isS b = true) : isI (b + 1) = true := by
  rcases isS_in h with h | h | h <;> subst h <;> rfl
theorem isS2 {b : Nat} (h : isS b = true) : isI (b + 2) = true := by
  rcases isS_in h with h | h | h <;> subst h <;> rfl
theorem isM1 {v : Nat} (h : isM v = true) : isI (v + 1) = true := by
  have := isM_in h
  simp [isI]; omega
theorem isM2 {v : Nat} (h : isM v = true) : isI (v + 2) = true := by
  have := isM_in h
  simp [isI]; omega
theorem isM_mv {j : Nat} (h : j < 6) : isM (2 + 3 * j) = true := by
  simp [isM]; omega
theorem isI_sy {j : Nat} (h : j < 4) : isI (21 + j) = true := by
  simp [isI]; omega
/-- Java's remainder -/
def jrem (x y : Int32) : Int32 := x - x / y * y
/-- the int as a place -/
abbrev tn (x : Int32) : Nat := x.toNatClampNeg
def fo1 (iv : Nat → Nat → Int32) (b v p : Nat) : Int32 := iv (v + 1) (tn (iv (b + 1) p))
def fo2 (iv : Nat → Nat → Int32) (b v p : Nat) : Int32 := jrem (iv (b + 2) p + iv (v + 2) (tn (iv (b + 1) p))) (iv v 0)
/-- of the state b the first i pieces have followed the move v -/
def follows (iv iv' : Nat → Nat → Int32) (b v i : Nat) : Prop :=
  (∀ p, iv' (b + 1) p = if p < i then fo1 iv b v p else iv (b + 1) p) ∧ (∀ p, iv' (b + 2) p = if p < i then fo2 iv b v p else iv (b + 2) p) ∧ ∀ k, k ≠ b + 1 → k ≠ b + 2 → iv' k = iv k
theorem up2_row {iv : Nat → Nat → Int32} {k j a : Nat} {x : Int32} (h : a ≠ k) : up2 iv k j x a = iv a := by
  unfold up2; rw [va_up_ne _ _ h]
theorem follows_0 {iv : Nat → Nat → Int32} {b v : Nat} : follows iv iv b v 0 := ⟨fun p => by simp, fun p => by simp, fun _ _ _ => rfl⟩
theorem follows_s {iv iv1 : Nat → Nat → Int32} {b v i : Nat} (h : follows iv iv1 b v i) : follows iv (up2 (up2 iv1 (b + 2) i (fo2 iv b v i)) (b + 1) i (fo1 iv b v i)) b v (i + 1) := by
  refine ⟨fun p => ?_, fun p => ?_, fun k h1 h2 => ?_⟩
  · rw [up2_eq, up2_eq, h.1 p]
    by_cases e : p = i
    · subst e; simp
    · have e1 : (p < i + 1) ↔ p < i := by omega
      simp [e, e1]
  · rw [up2_eq, up2_eq, h.2.1 p]
    by_cases e : p = i
    · subst e; simp
    · have e1 : (p < i + 1) ↔ p < i := by omega
      simp [e, e1]
  · rw [up2_row h1, up2_row h2, h.2.2 k h1 h2]
/-- the state b is that of b2, its first i pieces -/
def copied (iv iv' : Nat → Nat → Int32) (b b2 i : Nat) : Prop :=
  (∀ p, iv' (b + 1) p = if p < i then iv (b2 + 1) p else iv (b + 1) p) ∧ (∀ p, iv' (b + 2) p = if p < i then iv (b2 + 2) p else iv (b + 2) p) ∧ ∀ k, k ≠ b + 1 → k ≠ b + 2 → iv' k = iv k
theorem copied_0 {iv : Nat → Nat → Int32} {b b2 : Nat} : copied iv iv b b2 0 := ⟨fun p => by simp, fun p => by simp, fun _ _ _ => rfl⟩
theorem copied_s {iv iv1 : Nat → Nat → Int32} {b b2 i : Nat} (h : copied iv iv1 b b2 i) : copied iv (up2 (up2 iv1 (b + 1) i (iv (b2 + 1) i)) (b + 2) i (iv (b2 + 2) i)) b b2 (i + 1) := by
  refine ⟨fun p => ?_, fun p => ?_, fun k h1 h2 => ?_⟩
  · rw [up2_eq, up2_eq, h.1 p]
    by_cases e : p = i
    · subst e; simp
    · have e1 : (p < i + 1) ↔ p < i := by omega
      simp [e, e1]
  · rw [up2_eq, up2_eq, h.2.1 p]
    by_cases e : p = i
    · subst e; simp
    · have e1 : (p < i + 1) ↔ p < i := by omega
      simp [e, e1]
  · rw [up2_row h2, up2_row h1, h.2.2 k h1 h2]
/-- two rows written together: place s i of b + 1 gets f i, of b + 2 gets g i, one i after the other -/
def wr2 (iv : Nat → Nat → Int32) (x y : Nat) (s : Nat → Nat) (f g : Nat → Int32) : Nat → Nat → Nat → Int32
  | 0 => iv
  | i + 1 => up2 (up2 (wr2 iv x y s f g i) x (s i) (f i)) y (s i) (g i)
theorem wr2_o {iv : Nat → Nat → Int32} {x y : Nat} {s : Nat → Nat} {f g : Nat → Int32} {k : Nat} (h1 : k ≠ x) (h2 : k ≠ y) : ∀ i, wr2 iv x y s f g i k = iv k
  | 0 => rfl
  | i + 1 => by rw [wr2, up2_row h2, up2_row h1, wr2_o h1 h2 i]
/-- one row written: place i gets f i -/
def wr1 (iv : Nat → Nat → Int32) (x : Nat) (f : Nat → Int32) (i : Nat) : Nat → Nat → Int32 := va_up iv x (fun j => if j < i then f j else iv x j)
theorem wr1_0 {iv : Nat → Nat → Int32} {x : Nat} {f : Nat → Int32} : wr1 iv x f 0 = iv := by
  funext a b
  unfold wr1 va_up
  by_cases h : a = x <;> simp [h]
theorem wr1_s {iv : Nat → Nat → Int32} {x : Nat} {f : Nat → Int32} {i : Nat} : up2 (wr1 iv x f i) x i (f i) = wr1 iv x f (i + 1) := by
  funext a b
  rw [up2_eq]
  unfold wr1 va_up
  by_cases h : a = x
  · subst h
    by_cases e : b = i
    · subst e; simp
    · have e1 : (b < i + 1) ↔ b < i := by omega
      simp [e, e1]
  · simp [h]
theorem wr1_o {iv : Nat → Nat → Int32} {x k : Nat} {f : Nat → Int32} {i : Nat} (h : k ≠ x) : wr1 iv x f i k = iv k := by
  unfold wr1; rw [va_up_ne _ _ h]
theorem wr1_at {iv : Nat → Nat → Int32} {x : Nat} {f : Nat → Int32} {i j : Nat} : wr1 iv x f i x j = if j < i then f j else iv x j := by
  unfold wr1; rw [va_up_self]
