/-! images of states -/
theorem wr2_at {iv : Nat → Nat → Int32} {x y P : Nat} {s : Nat → Nat} {f g : Nat → Int32} (hxy : x ≠ y) (hs : ∀ p q, p < P → q < P → s p = s q → p = q) : ∀ {i : Nat}, i ≤ P → ∀ p, p < i → wr2 iv x y s f g i x (s p) = f p ∧ wr2 iv x y s f g i y (s p) = g p
  | 0, _, p, h => absurd h (Nat.not_lt_zero p)
  | i + 1, hi, p, h => by
    rcases Nat.lt_or_ge p i with h1 | h1
    · have hne : s p ≠ s i := fun q => by have := hs p i (by omega) (by omega) q; omega
      obtain ⟨a, b⟩ := wr2_at (iv := iv) (f := f) (g := g) hxy hs (show i ≤ P by omega) p h1
      rw [wr2]
      exact ⟨by rw [up2_row hxy, up2_n (fun q => hne q.2)]; exact a, by rw [up2_n (fun q => hne q.2), up2_row (fun q => hxy q.symm)]; exact b⟩
    · have e : p = i := by omega
      subst e
      rw [wr2]
      exact ⟨by rw [up2_row hxy, up2_s], up2_s⟩
/-- si i is the piece that the symmetry takes to piece i -/
def symIx (Sg pc si : Nat → Nat) (c : Nat) : Prop := ∀ i, i < c → si i < c ∧ Sg (pc (si i)) = pc i
theorem holds_image {iv iv' : Nat → Nat → Int32} {b b2 k P c : Nat} {pc w t Sg si : Nat → Nat} (hP : P ≤ 8) (hb : b + 2 ≠ b2 + 2) (hk : ∀ p, p < P → iv k p = nI (Sg p)) (hSi : inj Sg P P) (hpi : inj pc P c) (hwi : inj w P c) (hsi : symIx Sg pc si c) (h : holdsAt iv b c pc w t)
    (hf : iv' = wr2 iv (b2 + 1) (b2 + 2) (fun p => tn (iv k p)) (fun p => iv k (tn (iv (b + 1) p))) (fun p => iv (b + 2) p) P) : holdsAt iv' b2 c pc (fun i => Sg (w (si i))) (fun i => t (si i)) := by
  have hs : ∀ p q, p < P → q < P → tn (iv k p) = tn (iv k q) → p = q := by
    intro p q hp hq e
    have h1 := hSi.1 p hp
    have h2 := hSi.1 q hq
    rw [hk p hp, hk q hq, show tn (nI (Sg p)) = Sg p from nI_clamp (by omega), show tn (nI (Sg q)) = Sg q from nI_clamp (by omega)] at e
    exact hSi.2 p q hp hq e
  have key : ∀ i, i < c → tn (iv k (pc (si i))) = pc i ∧ pc (si i) < P ∧ tn (iv (b + 1) (pc (si i))) = w (si i) ∧ w (si i) < P := by
    intro i hi
    obtain ⟨h1, h2⟩ := hsi i hi
    have h3 := hpi.1 _ h1
    have h4 := hpi.1 _ hi
    have h5 := hwi.1 _ h1
    refine ⟨?_, h3, ?_, h5⟩
    · rw [hk _ h3, h2]; exact nI_clamp (by omega)
    · rw [h.1 _ h1]; exact nI_clamp (by omega)
  refine ⟨fun i hi => ?_, fun i hi => ?_⟩
  · obtain ⟨h1, h2, h3, h4⟩ := key i hi
    have := (wr2_at (iv := iv) (x := b2 + 1) (y := b2 + 2) (f := fun p => iv k (tn (iv (b + 1) p))) (g := fun p => iv (b + 2) p) (by omega) hs (Nat.le_refl P) _ h2).1
    rw [h1] at this
    rw [hf, this, h3]
    exact hk _ h4
  · obtain ⟨h1, h2, h3, h4⟩ := key i hi
    have := (wr2_at (iv := iv) (x := b2 + 1) (y := b2 + 2) (f := fun p => iv k (tn (iv (b + 1) p))) (g := fun p => iv (b + 2) p) (by omega) hs (Nat.le_refl P) _ h2).2
    rw [h1] at this
    rw [hf, this]
    exact h.2 _ (hsi i hi).1
theorem inj_image {pc w Sg si : Nat → Nat} {P c : Nat} (hSi : inj Sg P P) (hpi : inj pc P c) (hwi : inj w P c) (hsi : symIx Sg pc si c) : inj (fun i => Sg (w (si i))) P c := by
  refine ⟨fun j hj => hSi.1 _ (hwi.1 _ (hsi j hj).1), fun j k hj hk e => ?_⟩
  have h1 := hSi.2 _ _ (hwi.1 _ (hsi j hj).1) (hwi.1 _ (hsi k hk).1) e
  have h2 := hwi.2 _ _ (hsi j hj).1 (hsi k hk).1 h1
  apply hpi.2 j k hj hk
  rw [← (hsi j hj).2, ← (hsi k hk).2, h2]
