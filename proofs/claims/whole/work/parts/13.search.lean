/-! sorted rows, links that lead down -/
/-- L of the first R values are below v: the first L -/
def cutAt (val : Nat → Int32) (R : Nat) (v : Int32) (L : Nat) : Prop := L ≤ R ∧ (∀ i, i < L → val i < v) ∧ ∀ i, L ≤ i → i < R → ¬ val i < v
/-- where x's links lead -/
def rt (lk : Nat → Nat) : Nat → Nat → Nat
  | 0, x => x
  | f + 1, x => if lk x = x then x else rt lk f (lk x)
def dn (lk : Nat → Nat) (S : Nat) : Prop := ∀ k, k < S → lk k ≤ k
theorem rt_fix {lk : Nat → Nat} {x : Nat} (h : lk x = x) : ∀ f, rt lk f x = x
  | 0 => rfl
  | f + 1 => by simp [rt, h]
theorem rt_more {lk : Nat → Nat} {S : Nat} (h : dn lk S) : ∀ (x : Nat), x < S → ∀ f, x ≤ f → rt lk f x = rt lk x x := by
  intro x
  induction x using Nat.strongRecOn with
  | _ x ih =>
    intro hx f hf
    by_cases e : lk x = x
    · rw [rt_fix e, rt_fix e]
    · have hl := h x hx
      have h1 : lk x < x := by omega
      obtain ⟨f, rfl⟩ : ∃ g, f = g + 1 := ⟨f - 1, by omega⟩
      obtain ⟨y, rfl⟩ : ∃ y, x = y + 1 := ⟨x - 1, by omega⟩
      have a1 : rt lk (f + 1) (y + 1) = rt lk f (lk (y + 1)) := by rw [rt, if_neg e]
      have a2 : rt lk (y + 1) (y + 1) = rt lk y (lk (y + 1)) := by rw [rt, if_neg e]
      rw [a1, a2, ih _ h1 (by omega) f (by omega), ih _ h1 (by omega) y (by omega)]
/-- the root of x -/
def root (lk : Nat → Nat) (x : Nat) : Nat := rt lk x x
theorem root_fix {lk : Nat → Nat} {x : Nat} (h : lk x = x) : root lk x = x := rt_fix h _
theorem root_step {lk : Nat → Nat} {S x : Nat} (h : dn lk S) (hx : x < S) : root lk (lk x) = root lk x := by
  by_cases e : lk x = x
  · rw [e]
  · have hl := h x hx
    obtain ⟨y, rfl⟩ : ∃ y, x = y + 1 := ⟨x - 1, by omega⟩
    have a2 : root lk (y + 1) = rt lk y (lk (y + 1)) := by unfold root; rw [rt, if_neg e]
    rw [a2, rt_more h _ (by omega) y (by omega)]
    rfl
theorem root_le {lk : Nat → Nat} {S : Nat} (h : dn lk S) : ∀ (x : Nat), x < S → root lk x ≤ x := by
  intro x
  induction x using Nat.strongRecOn with
  | _ x ih =>
    intro hx
    by_cases e : lk x = x
    · rw [root_fix e]; exact Nat.le_refl _
    · have hl := h x hx
      rw [← root_step h hx]
      exact Nat.le_trans (ih _ (by omega) (by omega)) hl
theorem root_root {lk : Nat → Nat} {S : Nat} (h : dn lk S) : ∀ (x : Nat), x < S → lk (root lk x) = root lk x := by
  intro x
  induction x using Nat.strongRecOn with
  | _ x ih =>
    intro hx
    by_cases e : lk x = x
    · rw [root_fix e]; exact e
    · have hl := h x hx
      rw [← root_step h hx]
      exact ih _ (by omega) (by omega)
/-- one link made shorter: all roots stay -/
theorem root_up {lk : Nat → Nat} {S x y : Nat} (h : dn lk S) (hx : x < S) (hy : y ≤ x) (hr : root lk y = root lk x) (hn : lk x ≠ x → y ≠ x) (hf : lk x = x → y = x) : dn (va_up lk x y) S ∧ ∀ k, k < S → root (va_up lk x y) k = root lk k := by
  have hd : dn (va_up lk x y) S := by
    intro k hk
    unfold va_up
    by_cases e : k = x
    · subst e; simp; exact hy
    · simp [e]; exact h k hk
  refine ⟨hd, fun k => ?_⟩
  induction k using Nat.strongRecOn with
  | _ k ih =>
    intro hk
    by_cases e : k = x
    · subst e
      by_cases e2 : lk k = k
      · have e3 := hf e2
        subst e3
        rw [root_fix (va_up_self _ _ _), root_fix e2]
      · have e3 := hn e2
        have h1 : root (va_up lk k y) (va_up lk k y k) = root (va_up lk k y) k := root_step hd hk
        rw [← h1, va_up_self, ih y (by omega) (by omega), hr]
    · by_cases e2 : lk k = k
      · rw [root_fix (by rw [va_up_ne _ _ e]; exact e2), root_fix e2]
      · have h1 : root (va_up lk x y) (va_up lk x y k) = root (va_up lk x y) k := root_step hd hk
        have hl := h k hk
        rw [← h1, va_up_ne _ _ e, ih (lk k) (by omega) (by omega), root_step h hk]
