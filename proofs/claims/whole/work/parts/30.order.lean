/-! a move done again and again -/
def itg (G : Nat → Nat) : Nat → Nat → Nat
  | 0, p => p
  | k + 1, p => G (itg G k p)
def tws (T : Nat) (G Ad : Nat → Nat) : Nat → Nat → Nat
  | 0, _ => 0
  | k + 1, p => (tws T G Ad k p + Ad (itg G k p)) % T
/-- after k times all is back -/
def hmB (P T : Nat) (G Ad : Nat → Nat) (k : Nat) : Bool := decide (∀ p, p < P → itg G k p = p ∧ tws T G Ad k p = 0)
theorem hmB_iff {P T : Nat} {G Ad : Nat → Nat} {k : Nat} : hmB P T G Ad k = true ↔ ∀ p, p < P → itg G k p = p ∧ tws T G Ad k p = 0 := by
  unfold hmB; rw [decide_eq_true_iff]
/-- the first i from here on with f, at most n further -/
def lst (f : Nat → Bool) : Nat → Nat → Nat
  | 0, i => i
  | n + 1, i => if f i then i else lst f n (i + 1)
theorem lst_in (f : Nat → Bool) : ∀ (n i : Nat), i ≤ lst f n i ∧ lst f n i ≤ i + n
  | 0, i => ⟨Nat.le_refl _, Nat.le_refl _⟩
  | n + 1, i => by
    unfold lst
    have := lst_in f n (i + 1)
    split <;> omega
/-- the order, as the class looks for it: below 64, or 64 -/
def ordr (P T : Nat) (G Ad : Nat → Nat) : Nat := lst (hmB P T G Ad) 63 1
theorem ordr_in (P T : Nat) (G Ad : Nat → Nat) : 1 ≤ ordr P T G Ad ∧ ordr P T G Ad ≤ 64 := by
  have := lst_in (hmB P T G Ad) 63 1
  unfold ordr; omega
theorem itg_lt {P T : Nat} {iv : Nat → Nat → Int32} {v : Nat} {G Ad : Nat → Nat} (hm : moveAt iv v P T G Ad) : ∀ (k : Nat) {p : Nat}, p < P → itg G k p < P
  | 0, _, h => h
  | k + 1, _, h => (hm.2 _ (itg_lt hm k h)).2.1
theorem tws_lt {T : Nat} {G Ad : Nat → Nat} (hT : 0 < T) (k p : Nat) : tws T G Ad k p < T := by
  cases k with
  | zero => exact hT
  | succ k => exact Nat.mod_lt _ hT
/-- the state b is home, done a move k times -/
def walkAt (iv : Nat → Nat → Int32) (b P T k : Nat) (G Ad : Nat → Nat) : Prop := ∀ p, p < P → iv (b + 1) p = nI (itg G k p) ∧ iv (b + 2) p = nI (tws T G Ad k p)
theorem walk_s {iv iv' : Nat → Nat → Int32} {b v P T k : Nat} {G Ad : Nat → Nat} (hT1 : 0 < T) (hT3 : T ≤ 3) (hP : P ≤ 8) (hm : moveAt iv v P T G Ad) (h : walkAt iv b P T k G Ad) (hf : follows iv iv' b v P) : walkAt iv' b P T (k + 1) G Ad := by
  intro p hp
  have hi := itg_lt hm k hp
  have ht := tws_lt (G := G) (Ad := Ad) hT1 k p
  obtain ⟨h1, h2⟩ := h p hp
  have hq := hm.2 _ hi
  constructor
  · rw [hf.1, if_pos hp]
    unfold fo1
    rw [h1, show tn (nI (itg G k p)) = itg G k p from nI_clamp (by omega)]
    exact hq.1
  · rw [hf.2.1, if_pos hp]
    unfold fo2
    rw [h1, h2, show tn (nI (itg G k p)) = itg G k p from nI_clamp (by omega), hq.2.2.1, hm.1, nI_add]
    have := hq.2.2.2
    exact grem (by omega) hT1 (by omega)
theorem walk_in {iv : Nat → Nat → Int32} {b P T k v : Nat} {G Ad : Nat → Nat} {jv : Nat → Nat → Int32} (hP : P ≤ 8) (hm : moveAt jv v P T G Ad) (h : walkAt iv b P T k G Ad) : ∀ p, p < P → vp_in (iv (b + 1) p) P := fun p hp => by
  rw [(h p hp).1]
  exact vp_in_nI (itg_lt hm k hp) (by omega)
