/-! order, choice, symmetries as the reference has them -/
def twn (G Ad : Nat → Nat) : Nat → Nat → Nat
  | 0, _ => 0
  | k + 1, p => twn G Ad k p + Ad (itg G k p)
theorem tws_twn {T : Nat} {G Ad : Nat → Nat} {p : Nat} : ∀ k, tws T G Ad k p = twn G Ad k p % T
  | 0 => by simp [tws, twn]
  | k + 1 => by
    show (tws T G Ad k p + Ad (itg G k p)) % T = (twn G Ad k p + Ad (itg G k p)) % T
    rw [tws_twn k, Nat.mod_add_mod]
theorem itg_in {P : Nat} {G : Nat → Nat} (h : ∀ q, q < P → G q < P) : ∀ (k : Nat) {p : Nat}, p < P → itg G k p < P
  | 0, _, hp => hp
  | k + 1, _, hp => h _ (itg_in h k hp)
theorem twn_le {P : Nat} {G Ad : Nat → Nat} (h : ∀ q, q < P → G q < P) (ha : ∀ q, q < P → Ad q < 3) {p : Nat} (hp : p < P) : ∀ k, twn G Ad k p ≤ 2 * k
  | 0 => Nat.le_refl _
  | k + 1 => by
    have h1 := twn_le h ha hp k
    have h2 := ha _ (itg_in h k hp)
    show twn G Ad k p + Ad (itg G k p) ≤ _
    omega
/-- the chosen pieces in their order -/
def pcs (ch : Nat → Bool) (P i : Nat) : Nat := fnd ch i P
theorem pcs_ok {ch : Nat → Bool} {P i : Nat} (h : i < cnt ch P) : pcs ch P i < P ∧ ch (pcs ch P i) = true ∧ cnt ch (pcs ch P i) = i := by
  obtain ⟨q, h1, h2, h3⟩ := fnd_ok h
  have e : pcs ch P i = q := fnd_eq h1 h2 h3
  rw [e]
  exact ⟨h1, h2, h3⟩
theorem pcs_inj {ch : Nat → Bool} {P : Nat} : inj (pcs ch P) P (cnt ch P) := by
  refine ⟨fun j hj => (pcs_ok hj).1, fun j k hj hk e => ?_⟩
  have h1 := (pcs_ok hj).2.2
  have h2 := (pcs_ok hk).2.2
  rw [e] at h1
  omega
theorem pcs_row {ch : Nat → Bool} {P i : Nat} {r : Nat → Int32} (h : ∀ p, p < P → ch p = true → r (cnt ch p) = nI p) (hi : i < cnt ch P) : r i = nI (pcs ch P i) := by
  obtain ⟨h1, h2, h3⟩ := pcs_ok hi
  have := h _ h1 h2
  rw [h3] at this
  exact this
/-- the reference's symmetry -/
def rsym (iv : Nat → Nat → Int32) (s P : Nat) (Sg : Nat → Nat) : Prop := ∀ q, q < P → iv 63 (8 * s + q) = nI (Sg q) ∧ Sg q < P
/-- the move o is the image of the move m by Sg -/
def imgN (P : Nat) (Sg Gm Am Go Ao : Nat → Nat) : Prop := ∀ q, q < P → Go (Sg q) = Sg (Gm q) ∧ Ao (Sg q) = Am q
/-- what a number of four or two bits stands for a value -/
def rbit (bt : Nat) (v : Int32) : Int32 := if bt = 2 then (if v < 0 then nI 3 else jrem v (nI 3)) else (if v < 0 then nI 15 else if nI 14 < v then nI 14 else v)
