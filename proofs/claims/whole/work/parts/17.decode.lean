/-! from numbers to places -/
theorem prd_s {P k c : Nat} (h : k < c) : prd P k (c - k) = (P - k) * prd P (k + 1) (c - (k + 1)) := by
  obtain ⟨m, hm⟩ : ∃ m, c - k = m + 1 := ⟨c - k - 1, by omega⟩
  rw [hm, show c - (k + 1) = m by omega]
  rfl
theorem fre_congr {w w' : Nat → Nat} {p : Nat} : ∀ {i : Nat}, (∀ j, j < i → w j = w' j) → fre w i p = fre w' i p
  | 0, _ => rfl
  | i + 1, h => by
    unfold fre
    rw [fre_congr (fun j hj => h j (Nat.lt_succ_of_lt hj)), h i (Nat.lt_succ_self i)]
theorem msk_congr {w w' : Nat → Nat} : ∀ {i : Nat}, (∀ j, j < i → w j = w' j) → msk w i = msk w' i
  | 0, _ => rfl
  | i + 1, h => by
    unfold msk
    rw [msk_congr (fun j hj => h j (Nat.lt_succ_of_lt hj)), h i (Nat.lt_succ_self i)]
theorem rkw_congr {w w' : Nat → Nat} {i : Nat} (h : ∀ j, j ≤ i → w j = w' j) : rkw w i = rkw w' i := by
  unfold rkw
  rw [h i (Nat.le_refl i)]
  exact cnt_congr (fun p _ => fre_congr (fun j hj => h j (Nat.le_of_lt hj)))
theorem inj_le_P {w : Nat → Nat} {P i : Nat} (h : inj w P i) : i ≤ P := by
  have := cnt_fre h
  omega
/-- the i-th place found -/
theorem dec_step {w : Nat → Nat} {P i q k : Nat} {rk : Nat → Nat} (h : inj w P i) (hr : ∀ j, j < i → rkw w j = rk j) (hq : q < P) (hf : fbit (msk w i) q = true) (hc : cnt (fbit (msk w i)) q = k) (hk : k = rk i) :
    inj (va_up w i q) P (i + 1) ∧ (∀ j, j < i + 1 → rkw (va_up w i q) j = rk j) ∧ msk (va_up w i q) (i + 1) = msk w i ||| 2 ^ q := by
  have hlow : ∀ j, j < i → va_up w i q j = w j := fun j hj => va_up_ne _ _ (by omega)
  rw [fbit_msk] at hf
  have hfr := fre_iff.mp hf
  refine ⟨⟨fun j hj => ?_, fun a b ha hb e => ?_⟩, fun j hj => ?_, ?_⟩
  · rcases Nat.lt_or_ge j i with h1 | h1
    · rw [hlow j h1]; exact h.1 j h1
    · rw [show j = i by omega, va_up_self]; exact hq
  · rcases Nat.lt_or_ge a i with h1 | h1 <;> rcases Nat.lt_or_ge b i with h2 | h2
    · rw [hlow a h1, hlow b h2] at e; exact h.2 a b h1 h2 e
    · rw [hlow a h1, show b = i by omega, va_up_self] at e; exact absurd e (hfr a h1)
    · rw [hlow b h2, show a = i by omega, va_up_self] at e; exact absurd e.symm (hfr b h2)
    · omega
  · rcases Nat.lt_or_ge j i with h1 | h1
    · rw [← hr j h1]; exact rkw_congr (fun l hl => hlow l (by omega))
    · rw [show j = i by omega]
      unfold rkw
      rw [va_up_self, ← hk, ← hc]
      exact cnt_congr (fun p _ => by rw [fbit_msk]; exact fre_congr hlow)
  · show msk (va_up w i q) i ||| 2 ^ va_up w i q i = _
    rw [va_up_self, msk_congr hlow]
/-- the rank of piece i in the arrangement y of c pieces -/
def rky (P c y i : Nat) : Nat := y / prd P (i + 1) (c - (i + 1)) % (P - i)
def ush (x k : Int32) : Int32 := (Int32.toUInt32 x >>> (Int32.toUInt32 k &&& Int32.toUInt32 31)).toInt32
/-- Integer.bitCount -/
def bcv (i : Int32) : Int32 :=
  let a := i - (ush i (nI 1) &&& nI 1431655765)
  let b := (a &&& nI 858993459) + (ush a (nI 2) &&& nI 858993459)
  let c := (b + ush b (nI 4)) &&& nI 252645135
  let d := c + ush c (nI 8)
  let e := d + ush d (nI 16)
  e &&& nI 63
theorem bcv_pop : ∀ x, x < 256 → bcv (nI x) = nI (pop8 x) := by decide +kernel
