/-! classes by links -/
/-- what a relation takes together -/
def eqg (Rl : Nat → Nat → Prop) (x y : Nat) : Prop := ∀ E : Nat → Nat → Prop, Equivalence E → (∀ a b, Rl a b → E a b) → E x y
theorem eqg_eqv (Rl : Nat → Nat → Prop) : Equivalence (eqg Rl) :=
  ⟨fun x _ hE _ => hE.refl x, fun h E hE hR => hE.symm (h E hE hR), fun h1 h2 E hE hR => hE.trans (h1 E hE hR) (h2 E hE hR)⟩
theorem eqg_in {Rl : Nat → Nat → Prop} {a b : Nat} (h : Rl a b) : eqg Rl a b := fun _ _ hR => hR a b h
theorem eqg_mono {R1 R2 : Nat → Nat → Prop} (h : ∀ a b, R1 a b → eqg R2 a b) {x y : Nat} (g : eqg R1 x y) : eqg R2 x y := g (eqg R2) (eqg_eqv R2) h
/-- two roots put together: the greater leads to the less -/
theorem root_join {lk : Nat → Nat} {S M c : Nat} (h : dn lk S) (hM : M < S) (hm : c < M) (fM : lk M = M) (fm : lk c = c) : dn (va_up lk M c) S ∧ ∀ k, k < S → root (va_up lk M c) k = if root lk k = M then c else root lk k := by
  have hd : dn (va_up lk M c) S := by
    intro k hk
    unfold va_up
    by_cases e : k = M
    · subst e; simp; omega
    · simp [e]; exact h k hk
  refine ⟨hd, fun k => ?_⟩
  induction k using Nat.strongRecOn with
  | _ k ih =>
    intro hk
    by_cases e : k = M
    · subst e
      have h1 : root (va_up lk k c) (va_up lk k c k) = root (va_up lk k c) k := root_step hd hk
      rw [← h1, va_up_self, root_fix (by rw [va_up_ne _ _ (by omega)]; exact fm), root_fix fM, if_pos rfl]
    · by_cases e2 : lk k = k
      · rw [root_fix (by rw [va_up_ne _ _ e]; exact e2), root_fix e2, if_neg e]
      · have h1 : root (va_up lk M c) (va_up lk M c k) = root (va_up lk M c) k := root_step hd hk
        have hl := h k hk
        rw [← h1, va_up_ne _ _ e, ih (lk k) (by omega) (by omega), root_step h hk]
/-- how many roots there are -/
def nroot (lk : Nat → Nat) (S : Nat) : Nat := cnt (fun k => lk k == k) S
theorem cnt_up {f : Nat → Bool} {M : Nat} (hf : f M = true) : ∀ {S : Nat}, M < S → cnt f S = cnt (fun k => f k && !(k == M)) S + 1
  | 0, h => absurd h (Nat.not_lt_zero _)
  | S + 1, h => by
    rw [cnt_s, cnt_s]
    rcases Nat.lt_or_ge M S with h1 | h1
    · rw [cnt_up hf h1]
      have e : (f S && !(S == M)) = f S := by
        have : (S == M) = false := by simp; omega
        simp [this]
      rw [e]; omega
    · have e : S = M := by omega
      subst e
      have e2 : cnt f S = cnt (fun k => f k && !(k == S)) S := cnt_congr (fun i hi => by
        have : (i == S) = false := by simp; omega
        simp [this])
      rw [e2]; simp [hf]
theorem root_is_fix {lk : Nat → Nat} {S k : Nat} (h : dn lk S) (hk : k < S) : (lk k == k) = (root lk k == k) := by
  by_cases e : lk k = k
  · rw [root_fix e]; simp [e]
  · have hl := h k hk
    have h2 : root lk k ≠ k := by
      rw [← root_step h hk]
      have := root_le h (lk k) (by omega)
      omega
    rw [beq_eq_false_iff_ne.mpr e, beq_eq_false_iff_ne.mpr h2]
/-- the number of roots is that of the k which are their own root: equal roots, equal numbers -/
theorem nroot_congr {l1 l2 : Nat → Nat} {S : Nat} (h1 : dn l1 S) (h2 : dn l2 S) (h : ∀ k, k < S → root l1 k = root l2 k) : nroot l1 S = nroot l2 S := cnt_congr (fun k hk => by rw [root_is_fix h1 hk, root_is_fix h2 hk, h k hk])
theorem nroot_join {lk : Nat → Nat} {S M c : Nat} (hM : M < S) (hm : c < M) (fM : lk M = M) : nroot lk S = nroot (va_up lk M c) S + 1 := by
  unfold nroot
  rw [cnt_up (M := M) (by simp [fM]) hM]
  congr 1
  apply cnt_congr
  intro k _
  unfold va_up
  by_cases e : k = M
  · subst e; simp; omega
  · simp [e]
/-- x and y are one by lk: their roots are -/
def oneBy (lk : Nat → Nat) (S x y : Nat) : Prop := x < S ∧ y < S ∧ root lk x = root lk y
/-- lk is l0 with a and b put together -/
def joined (l0 lk : Nat → Nat) (S a b : Nat) : Prop := dn lk S ∧ ∀ x y, x < S → y < S → (root lk x = root lk y ↔ eqg (fun x y => oneBy l0 S x y ∨ (x = a ∧ y = b)) x y)
theorem joined_of {l0 lk : Nat → Nat} {S a b : Nat} (hd : dn lk S) (ha : a < S) (hb : b < S) (hab : root lk a = root lk b) (hk : ∀ x y, x < S → y < S → root l0 x = root l0 y → root lk x = root lk y)
    (hc : ∀ x y, x < S → y < S → root lk x = root lk y → root l0 x = root l0 y ∨ (root l0 x = root l0 a ∧ root l0 y = root l0 b) ∨ (root l0 x = root l0 b ∧ root l0 y = root l0 a)) : joined l0 lk S a b := by
  refine ⟨hd, fun x y hx hy => ⟨fun h => ?_, fun h => ?_⟩⟩
  · have q := eqg_eqv (fun x y => oneBy l0 S x y ∨ (x = a ∧ y = b))
    have one : ∀ u v, u < S → v < S → root l0 u = root l0 v → eqg (fun x y => oneBy l0 S x y ∨ (x = a ∧ y = b)) u v := fun u v hu hv e => eqg_in (Or.inl ⟨hu, hv, e⟩)
    have ab : eqg (fun x y => oneBy l0 S x y ∨ (x = a ∧ y = b)) a b := eqg_in (Or.inr ⟨rfl, rfl⟩)
    rcases hc x y hx hy h with e | ⟨e1, e2⟩ | ⟨e1, e2⟩
    · exact one x y hx hy e
    · exact q.trans (one x a hx ha e1) (q.trans ab (q.symm (one y b hy hb e2)))
    · exact q.trans (one x b hx hb e1) (q.trans (q.symm ab) (q.symm (one y a hy ha e2)))
  · refine (h (fun x y => x = y ∨ (x < S ∧ y < S ∧ root lk x = root lk y)) ⟨fun _ => Or.inl rfl, fun h => ?_, fun h1 h2 => ?_⟩ (fun u v huv => ?_)).elim (fun e => by rw [e]) (fun e => e.2.2)
    · rcases h with h | h
      · exact Or.inl h.symm
      · exact Or.inr ⟨h.2.1, h.1, h.2.2.symm⟩
    · rcases h1 with h1 | h1
      · rw [h1]; exact h2
      · rcases h2 with h2 | h2
        · rw [← h2]; exact Or.inr h1
        · exact Or.inr ⟨h1.1, h2.2.1, h1.2.2.trans h2.2.2⟩
    · rcases huv with ⟨h1, h2, h3⟩ | ⟨h1, h2⟩
      · exact Or.inr ⟨h1, h2, hk u v h1 h2 h3⟩
      · rw [h1, h2]; exact Or.inr ⟨ha, hb, hab⟩
/-- lk is l0 with x and g x put together for every x below K -/
def joinedTo (l0 lk : Nat → Nat) (S : Nat) (g : Nat → Nat) (K : Nat) : Prop := dn lk S ∧ ∀ x y, x < S → y < S → (root lk x = root lk y ↔ eqg (fun x y => oneBy l0 S x y ∨ (x < K ∧ y = g x)) x y)
theorem joinedTo_0 {lk : Nat → Nat} {S : Nat} {g : Nat → Nat} (h : dn lk S) : joinedTo lk lk S g 0 := by
  refine ⟨h, fun x y hx hy => ⟨fun e => eqg_in (Or.inl ⟨hx, hy, e⟩), fun e => ?_⟩⟩
  refine (e (fun x y => x = y ∨ oneBy lk S x y) ⟨fun _ => Or.inl rfl, fun h => ?_, fun h1 h2 => ?_⟩ (fun u v huv => ?_)).elim (fun e => by rw [e]) (fun e => e.2.2)
  · rcases h with h | h
    · exact Or.inl h.symm
    · exact Or.inr ⟨h.2.1, h.1, h.2.2.symm⟩
  · rcases h1 with h1 | h1
    · rw [h1]; exact h2
    · rcases h2 with h2 | h2
      · rw [← h2]; exact Or.inr h1
      · exact Or.inr ⟨h1.1, h2.2.1, h1.2.2.trans h2.2.2⟩
  · rcases huv with h1 | ⟨h1, -⟩
    · exact Or.inr h1
    · exact absurd h1 (Nat.not_lt_zero _)
theorem joinedTo_s {l0 l1 lk : Nat → Nat} {S K : Nat} {g : Nat → Nat} (hK : K < S) (hg : ∀ x, x < S → g x < S) (h : joinedTo l0 l1 S g K) (j : joined l1 lk S K (g K)) : joinedTo l0 lk S g (K + 1) := by
  refine ⟨j.1, fun x y hx hy => (j.2 x y hx hy).trans ⟨fun e => ?_, fun e => ?_⟩⟩
  · refine eqg_mono (fun a b hab => ?_) e
    rcases hab with ⟨h1, h2, h3⟩ | ⟨h1, h2⟩
    · refine eqg_mono (fun c d hcd => eqg_in ?_) ((h.2 a b h1 h2).mp h3)
      rcases hcd with h4 | ⟨h4, h5⟩
      · exact Or.inl h4
      · exact Or.inr ⟨by omega, h5⟩
    · subst h1
      exact eqg_in (Or.inr ⟨by omega, h2⟩)
  · refine eqg_mono (fun a b hab => ?_) e
    rcases hab with h1 | ⟨h1, h2⟩
    · exact eqg_in (Or.inl ⟨h1.1, h1.2.1, (h.2 a b h1.1 h1.2.1).mpr (eqg_in (Or.inl h1))⟩)
    · rcases Nat.lt_or_ge a K with h3 | h3
      · have hb : b < S := by rw [h2]; exact hg a (by omega)
        exact eqg_in (Or.inl ⟨by omega, hb, (h.2 a b (by omega) hb).mpr (eqg_in (Or.inr ⟨h3, h2⟩))⟩)
      · have : a = K := by omega
        subst this
        exact eqg_in (Or.inr ⟨rfl, h2⟩)
