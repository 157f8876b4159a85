/-! the reference's rows -/
def rln (ln : Nat → Nat) : Prop := ln 54 = 48 ∧ ln 55 = 48 ∧ ln 56 = 8 ∧ ln 57 = 4 ∧ ln 58 = 4 ∧ ln 59 = 4 ∧ ln 60 = 136080 ∧ ln 61 = 136080 ∧ ln 62 = 136080 ∧ ln 63 = 32 ∧ ln 64 = 4 ∧ ln 65 = 4 ∧ ln 66 = 4
/-- x is a place of a row of b -/
def ok9 (x b : Int32) : Prop := ¬ x < 0 ∧ x < b
theorem ok9_nI {a b : Nat} (h : a < b) (hb : b < 2 ^ 31) : ok9 (nI a) (nI b) := ⟨nI_pos (by omega), (nI_ltI (by omega) hb).mpr h⟩
theorem ok9_of {x : Int32} {b : Nat} (hb : b < 2 ^ 31) (h : ok9 x (nI b)) : ∃ a, a < b ∧ x = nI a := by
  obtain ⟨h1, h2⟩ := h
  obtain ⟨k, hk, e⟩ := nI_of h1
  rw [e] at h2
  exact ⟨k, (nI_ltI hk hb).mp h2, e⟩
theorem ok9_bad {x b : Int32} (h : ¬ ok9 x b) : x < 0 ∨ ¬ x < b := by
  by_cases h1 : x < 0
  · exact Or.inl h1
  · exact Or.inr (fun h2 => h ⟨h1, h2⟩)
/-- the digits of a number's twisting -/
def dt (T c x i : Nat) : Nat := x / T ^ (c - 1 - i) % T
/-- the reference's move m -/
def rmove (iv : Nat → Nat → Int32) (m P T : Nat) (G Ad : Nat → Nat) : Prop := ∀ q, q < P → iv 54 (8 * m + q) = nI (G q) ∧ G q < P ∧ iv 55 (8 * m + q) = nI (Ad q) ∧ Ad q < T
/-- the reference's places and twists -/
def rAt (iv : Nat → Nat → Int32) (c : Nat) (w t : Nat → Nat) : Prop := (∀ i, i < c → iv 58 i = nI (w i)) ∧ ∀ i, i < c → iv 59 i = nI (t i)
theorem up2_up2 {iv : Nat → Nat → Int32} {k j : Nat} {x y : Int32} : up2 (up2 iv k j x) k j y = up2 iv k j y := by
  funext a b
  rw [up2_eq, up2_eq, up2_eq]
  by_cases h : a = k ∧ b = j
  · rw [if_pos h, if_pos h]
  · rw [if_neg h, if_neg h, if_neg h]
