/-! numbers: counting, bits of small masks, Java's arithmetic on small numbers -/
def cnt (f : Nat → Bool) : Nat → Nat
  | 0 => 0
  | n + 1 => cnt f n + (if f n then 1 else 0)
theorem cnt_s (f : Nat → Bool) (n : Nat) : cnt f (n + 1) = cnt f n + (if f n then 1 else 0) := rfl
theorem cnt_le (f : Nat → Bool) : ∀ n, cnt f n ≤ n
  | 0 => Nat.le_refl _
  | n + 1 => by
    have := cnt_le f n
    rw [cnt_s]
    split <;> omega
theorem cnt_mono (f : Nat → Bool) {a b : Nat} (h : a ≤ b) : cnt f a ≤ cnt f b := by
  induction b with
  | zero => have : a = 0 := by omega
            subst this; exact Nat.le_refl _
  | succ b ih =>
    rcases Nat.lt_or_ge b a with h1 | h1
    · have : a = b + 1 := by omega
      subst this; exact Nat.le_refl _
    · exact Nat.le_trans (ih h1) (by rw [cnt_s]; omega)
theorem cnt_congr {f g : Nat → Bool} : ∀ {n : Nat}, (∀ i, i < n → f i = g i) → cnt f n = cnt g n
  | 0, _ => rfl
  | n + 1, h => by
    rw [cnt_s, cnt_s, cnt_congr (fun i hi => h i (Nat.lt_succ_of_lt hi)), h n (Nat.lt_succ_self n)]
theorem gm1 (x : Int32) : x + Int32.ofInt (-1) = x - 1 := by rw [Int32.sub_eq_add_neg]; rfl
theorem gm1_0 : nI 0 - 1 < 0 := by decide
theorem s_l : ∀ n, n < 32 → ((nI n &&& 31).toBitVec.smod 32).toNat = n := by decide +kernel
theorem gshr {t q : Nat} (ht : t < 2 ^ 31) (hq : q < 32) : nI t >>> (nI q &&& 31) = nI (t / 2 ^ q) := pk_shrN ht _ q (s_l q hq)
theorem gbit {t q : Nat} (ht : t < 2 ^ 31) (hq : q < 32) : (nI t >>> (nI q &&& 31)) &&& nI 1 = nI (t / 2 ^ q % 2) := by
  rw [gshr ht hq]
  exact pk_andN (Nat.lt_of_le_of_lt (Nat.div_le_self _ _) (by omega)) 1 (by decide)
theorem gshl1 {q : Nat} (hq : q < 31) : nI 1 <<< (nI q &&& 31) = nI (2 ^ q) := by
  have h : 1 * 2 ^ q < 2 ^ 32 := by
    have : 2 ^ q < 2 ^ 32 := Nat.pow_lt_pow_right (by decide) (by omega)
    omega
  rw [pk_shlN _ q (s_l q (by omega)) h, Nat.one_mul]
theorem grem {a d : Nat} (ha : a < 2 ^ 31) (h0 : 0 < d) (hd : d < 2 ^ 31) : jrem (nI a) (nI d) = nI (a % d) := pk_rem ha h0 hd
/-- a place is free: its bit isn't set -/
def fbit (t p : Nat) : Bool := !t.testBit p
theorem fbit_iff {t p : Nat} : fbit t p = true ↔ t / 2 ^ p % 2 = 0 := by
  unfold fbit
  rw [Nat.testBit_eq_decide_div_mod_eq]
  simp
