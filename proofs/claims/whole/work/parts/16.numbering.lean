/-! the numbers of states -/
/-- (P - k)(P - k - 1) .., m factors -/
def prd (P : Nat) : Nat → Nat → Nat
  | _, 0 => 1
  | k, m + 1 => (P - k) * prd P (k + 1) m
/-- P(P - 1) .., i factors -/
def ff (P : Nat) : Nat → Nat
  | 0 => 1
  | i + 1 => ff P i * (P - i)
/-- p isn't one of the first i of w -/
def fre (w : Nat → Nat) : Nat → Nat → Bool
  | 0, _ => true
  | i + 1, p => fre w i p && !(p == w i)
/-- the places of the first i, as a mask -/
def msk (w : Nat → Nat) : Nat → Nat
  | 0 => 0
  | i + 1 => msk w i ||| 2 ^ w i
theorem fre_iff {w : Nat → Nat} {p : Nat} : ∀ {i : Nat}, fre w i p = true ↔ ∀ j, j < i → w j ≠ p
  | 0 => ⟨fun _ j h => absurd h (Nat.not_lt_zero j), fun _ => rfl⟩
  | i + 1 => by
    unfold fre
    rw [Bool.and_eq_true, fre_iff]
    constructor
    · rintro ⟨h1, h2⟩ j hj
      rcases Nat.lt_or_ge j i with h | h
      · exact h1 j h
      · have : j = i := by omega
        subst this
        intro q
        subst q
        simp at h2
    · intro h
      refine ⟨fun j hj => h j (by omega), ?_⟩
      have := h i (by omega)
      simp
      exact fun q => this q.symm
theorem msk_bit {w : Nat → Nat} {p : Nat} : ∀ {i : Nat}, (msk w i).testBit p = !fre w i p
  | 0 => by simp [msk, fre]
  | i + 1 => by
    unfold msk fre
    rw [Nat.testBit_or, msk_bit, Nat.testBit_two_pow]
    cases fre w i p
    · simp
    · simp [eq_comm]
      rfl
theorem fbit_msk {w : Nat → Nat} {i p : Nat} : fbit (msk w i) p = fre w i p := by
  unfold fbit; rw [msk_bit]; simp
/-- the first i places are apart, and there are P -/
def inj (w : Nat → Nat) (P i : Nat) : Prop := (∀ j, j < i → w j < P) ∧ ∀ j k, j < i → k < i → w j = w k → j = k
theorem inj_le {w : Nat → Nat} {P i k : Nat} (h : inj w P i) (hk : k ≤ i) : inj w P k := ⟨fun j hj => h.1 j (by omega), fun j l h1 h2 => h.2 j l (by omega) (by omega)⟩
theorem inj_fre {w : Nat → Nat} {P i : Nat} (h : inj w P (i + 1)) : fre w i (w i) = true := fre_iff.mpr (fun j hj q => by have := h.2 j i (by omega) (by omega) q; omega)
theorem cnt_fre {w : Nat → Nat} {P : Nat} : ∀ {i : Nat}, inj w P i → cnt (fre w i) P + i = P
  | 0, _ => by
    have : ∀ n, cnt (fre w 0) n = n := by
      intro n
      induction n with
      | zero => rfl
      | succ n ih => rw [cnt_s, ih]; rfl
    rw [this]; rfl
  | i + 1, h => by
    have h1 := cnt_fre (inj_le h (Nat.le_succ i))
    have h2 := cnt_up (f := fre w i) (M := w i) (inj_fre h) (h.1 i (by omega))
    have h3 : cnt (fre w (i + 1)) P = cnt (fun k => fre w i k && !(k == w i)) P := rfl
    omega
/-- which of the places that are left piece i's is -/
def rkw (w : Nat → Nat) (i : Nat) : Nat := cnt (fre w i) (w i)
theorem rkw_lt {w : Nat → Nat} {P i : Nat} (h : inj w P (i + 1)) : rkw w i < P - i := by
  have h1 := cnt_fre (inj_le h (Nat.le_succ i))
  have h2 : cnt (fre w i) (w i + 1) ≤ cnt (fre w i) P := cnt_mono _ (h.1 i (by omega))
  rw [cnt_s, inj_fre h] at h2
  unfold rkw
  simp at h2
  omega
def numA (P : Nat) (w : Nat → Nat) : Nat → Nat
  | 0 => 0
  | i + 1 => numA P w i * (P - i) + rkw w i
def numT (T : Nat) (t : Nat → Nat) (N : Nat) : Nat → Nat
  | 0 => N
  | i + 1 => numT T t N i * T + t i
/-- the number of a state: c pieces at the places w, twisted t -/
def num (P T c : Nat) (w t : Nat → Nat) : Nat := numT T t (numA P w c) c
theorem numA_lt {P : Nat} {w : Nat → Nat} : ∀ {i : Nat}, inj w P i → numA P w i < ff P i
  | 0, _ => by simp [numA, ff]
  | i + 1, h => by
    have h1 := numA_lt (inj_le h (Nat.le_succ i))
    have h2 := rkw_lt h
    have h3 := Nat.mul_le_mul_right (P - i) (show numA P w i + 1 ≤ ff P i from h1)
    rw [Nat.succ_mul] at h3
    unfold numA ff
    omega
theorem numT_lt {T : Nat} {t : Nat → Nat} {N F : Nat} (hN : N < F) : ∀ {i : Nat}, (∀ j, j < i → t j < T) → numT T t N i < F * T ^ i
  | 0, _ => by simp [numT]; exact hN
  | i + 1, h => by
    have h1 := numT_lt hN (fun j hj => h j (Nat.lt_succ_of_lt hj)) (i := i)
    have h2 := h i (Nat.lt_succ_self i)
    have h3 := Nat.mul_le_mul_right T (show numT T t N i + 1 ≤ F * T ^ i from h1)
    rw [Nat.succ_mul] at h3
    unfold numT
    rw [Nat.pow_succ, ← Nat.mul_assoc]
    omega
theorem ff_le {P : Nat} (h : P ≤ 8) : ∀ i, ff P i ≤ 8 ^ i
  | 0 => Nat.le_refl _
  | i + 1 => by
    unfold ff
    rw [Nat.pow_succ]
    exact Nat.mul_le_mul (ff_le h i) (by omega)
theorem pow3_le {T : Nat} (h : T ≤ 3) (i : Nat) : T ^ i ≤ 3 ^ i := Nat.pow_le_pow_left h i
theorem mono4 {b i : Nat} (hb : 0 < b) (h : i ≤ 4) : b ^ i ≤ b ^ 4 := Nat.pow_le_pow_right hb h
theorem ff_le4 {P i : Nat} (h : P ≤ 8) (hi : i ≤ 4) : ff P i ≤ 4096 := Nat.le_trans (ff_le h i) (mono4 (b := 8) (by decide) hi)
theorem pw_le4 {T i : Nat} (h : T ≤ 3) (hi : i ≤ 4) : T ^ i ≤ 81 := Nat.le_trans (pow3_le h i) (mono4 (b := 3) (by decide) hi)
/-- the set bits below 8 -/
def pop8 (x : Nat) : Nat := cnt (fun p => x.testBit p) 8
theorem cnt_not (f : Nat → Bool) : ∀ n, cnt f n + cnt (fun p => !f p) n = n
  | 0 => rfl
  | n + 1 => by
    rw [cnt_s, cnt_s]
    have := cnt_not f n
    cases f n <;> simp <;> omega
theorem cnt_split {f : Nat → Bool} {a : Nat} : ∀ {b : Nat}, a ≤ b → (∀ p, a ≤ p → f p = false) → cnt f b = cnt f a
  | b, h, hz => by
    induction b with
    | zero => have : a = 0 := by omega
              rw [this]
    | succ b ih =>
      rcases Nat.lt_or_ge b a with h1 | h1
      · have : a = b + 1 := by omega
        rw [this]
      · rw [cnt_s, ih h1, hz b h1]; rfl
/-- the bits of a mask below q -/
theorem pop_low {m q : Nat} (hq : q ≤ 8) : pop8 (m &&& (2 ^ q - 1)) = cnt (fun p => m.testBit p) q := by
  unfold pop8
  have h1 : ∀ p, q ≤ p → (m &&& (2 ^ q - 1)).testBit p = false := by
    intro p hp
    rw [Nat.testBit_and, Nat.testBit_two_pow_sub_one]
    simp; omega
  rw [cnt_split hq h1]
  apply cnt_congr
  intro p hp
  rw [Nat.testBit_and, Nat.testBit_two_pow_sub_one]
  simp [hp]
theorem rkw_pop {w : Nat → Nat} {i : Nat} (h : w i ≤ 8) : pop8 (msk w i &&& (2 ^ w i - 1)) + rkw w i = w i := by
  rw [pop_low h]
  have h1 := cnt_not (fun p => (msk w i).testBit p) (w i)
  have h2 : rkw w i = cnt (fun p => !(msk w i).testBit p) (w i) := cnt_congr (fun p _ => by rw [msk_bit]; simp)
  omega
theorem msk_lt {w : Nat → Nat} {P : Nat} (hP : P ≤ 8) : ∀ {i : Nat}, inj w P i → msk w i < 256
  | 0, _ => by simp [msk]
  | i + 1, h => by
    have h1 := msk_lt hP (inj_le h (Nat.le_succ i))
    have h2 := h.1 i (by omega)
    have h3 : 2 ^ w i < 2 ^ 8 := Nat.pow_lt_pow_right (by decide) (by omega)
    exact Nat.or_lt_two_pow (n := 8) h1 h3
/-- the sum of two twistings, place by place -/
def tsum (T : Nat) : Nat → Nat → Nat → Nat
  | 0, _, _ => 0
  | c + 1, a, b => (a + b) % T + T * tsum T c (a / T) (b / T)
theorem tsum_lt {T : Nat} (hT : 0 < T) : ∀ (c a b : Nat), tsum T c a b < T ^ c
  | 0, _, _ => by simp [tsum]
  | c + 1, a, b => by
    have h1 := tsum_lt hT c (a / T) (b / T)
    have h2 := Nat.mod_lt (a + b) hT
    have h3 := Nat.mul_le_mul_left T (show tsum T c (a / T) (b / T) + 1 ≤ T ^ c from h1)
    rw [Nat.mul_succ] at h3
    unfold tsum
    rw [Nat.pow_succ, Nat.mul_comm (T ^ c) T]
    omega
