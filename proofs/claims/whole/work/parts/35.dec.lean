/-! the places out of their ranks; the inverse of a move -/
theorem lst_found {f : Nat → Bool} : ∀ {n i q : Nat}, i ≤ q → q < i + n → f q = true → (∀ j, i ≤ j → j < q → f j = false) → lst f n i = q
  | 0, i, q, h1, h2, _, _ => by omega
  | n + 1, i, q, h1, h2, h3, h4 => by
    unfold lst
    by_cases e : i = q
    · subst e; rw [if_pos h3]
    · rw [h4 i (Nat.le_refl i) (by omega)]
      exact lst_found (by omega) (by omega) h3 (fun j a b => h4 j (by omega) b)
def fnd (f : Nat → Bool) (k P : Nat) : Nat := lst (fun q => f q && (cnt f q == k)) P 0
theorem fnd_eq {f : Nat → Bool} {k P q : Nat} (hq : q < P) (hf : f q = true) (hc : cnt f q = k) : fnd f k P = q := by
  unfold fnd
  refine lst_found (Nat.zero_le _) (by omega) (by simp [hf, hc]) (fun j _ hj => ?_)
  by_cases h : f j = true
  · have h1 := cnt_s f j
    rw [if_pos h] at h1
    have h2 := cnt_mono f (show j + 1 ≤ q by omega)
    have : (cnt f j == k) = false := by simp; omega
    simp [this]
  · simp [h]
def dws (rk : Nat → Nat) (P : Nat) : Nat → Nat → Nat
  | 0 => fun _ => 0
  | i + 1 => va_up (dws rk P i) i (fnd (fre (dws rk P i) i) (rk i) P)
theorem dws_eq {w rk : Nat → Nat} {P c : Nat} (hw : inj w P c) (hr : ∀ i, i < c → rkw w i = rk i) : ∀ {i : Nat}, i ≤ c → ∀ j, j < i → dws rk P i j = w j
  | 0, _, j, h => absurd h (Nat.not_lt_zero j)
  | i + 1, hi, j, hj => by
    have ih := dws_eq hw hr (show i ≤ c by omega)
    show va_up (dws rk P i) i (fnd (fre (dws rk P i) i) (rk i) P) j = w j
    by_cases e : j = i
    · subst e
      rw [va_up_self]
      have hfe : ∀ p, fre (dws rk P j) j p = fre w j p := fun p => fre_congr ih
      apply fnd_eq (hw.1 j (by omega))
      · rw [hfe]; exact inj_fre (inj_le hw hi)
      · rw [← hr j (by omega)]; exact cnt_congr (fun p _ => hfe p)
    · rw [va_up_ne _ _ e]; exact ih j (by omega)
/-- the place of piece i in the arrangement y -/
def dw (P c y i : Nat) : Nat := dws (rky P c y) P c i
theorem dw_eq {w : Nat → Nat} {P c y : Nat} (hw : inj w P c) (hr : ∀ i, i < c → rkw w i = rky P c y i) : ∀ i, i < c → w i = dw P c y i := fun i hi => (dws_eq hw hr (Nat.le_refl c) i hi).symm
theorem numA_congr {P : Nat} {w w' : Nat → Nat} : ∀ {i : Nat}, (∀ j, j < i → w j = w' j) → numA P w i = numA P w' i
  | 0, _ => rfl
  | i + 1, h => by
    unfold numA
    rw [numA_congr (fun j hj => h j (Nat.lt_succ_of_lt hj)), rkw_congr (fun j hj => h j (Nat.lt_succ_of_le hj))]
theorem numT_congr {T N : Nat} {t t' : Nat → Nat} : ∀ {i : Nat}, (∀ j, j < i → t j = t' j) → numT T t N i = numT T t' N i
  | 0, _ => rfl
  | i + 1, h => by
    unfold numT
    rw [numT_congr (fun j hj => h j (Nat.lt_succ_of_lt hj)), h i (Nat.lt_succ_self i)]
theorem num_congr {P T c : Nat} {w w' t t' : Nat → Nat} (hw : ∀ j, j < c → w j = w' j) (ht : ∀ j, j < c → t j = t' j) : num P T c w t = num P T c w' t' := by
  unfold num
  rw [numA_congr hw, numT_congr ht]
theorem inj_surj {G : Nat → Nat} {P : Nat} (h : inj G P P) {x : Nat} (hx : x < P) : ∃ q, q < P ∧ G q = x := by
  have h1 := cnt_fre h
  by_cases hf : fre G P x = true
  · exfalso
    have h2 := cnt_s (fre G P) x
    rw [if_pos hf] at h2
    have h3 := cnt_mono (fre G P) (show x + 1 ≤ P by omega)
    omega
  · rw [fre_iff] at hf
    apply Classical.byContradiction
    intro hno
    exact hf (fun j hj e => hno ⟨j, hj, e⟩)
/-- where the move came from -/
def ginv (P : Nat) (G : Nat → Nat) (x : Nat) : Nat := lst (fun q => G q == x) P 0
theorem ginv_eq {P q : Nat} {G : Nat → Nat} (h : inj G P P) (hq : q < P) : ginv P G (G q) = q := by
  unfold ginv
  refine lst_found (Nat.zero_le _) (by omega) (by simp) (fun j _ hj => ?_)
  simp
  intro e
  have := h.2 j q (by omega) hq e
  omega
theorem ginv_inj {P : Nat} {G : Nat → Nat} (h : inj G P P) : inj (ginv P G) P P := by
  refine ⟨fun x hx => ?_, fun x y hx hy e => ?_⟩
  · obtain ⟨q, hq, rfl⟩ := inj_surj h hx
    rw [ginv_eq h hq]; exact hq
  · obtain ⟨q, hq, rfl⟩ := inj_surj h hx
    obtain ⟨r, hr, rfl⟩ := inj_surj h hy
    rw [ginv_eq h hq, ginv_eq h hr] at e
    rw [e]
def ainv (P T : Nat) (G Ad : Nat → Nat) (x : Nat) : Nat := (T - Ad (ginv P G x)) % T
/-- the inverse lies behind invert -/
theorem invert_move {iv iv' : Nat → Nat → Int32} {v u P T : Nat} {G Ad : Nat → Nat} (hT1 : 0 < T) (hT3 : T ≤ 3) (hP : P ≤ 8) (hv : iv v 0 = nI T) (hm : moveAt iv u P T G Ad) (hG : inj G P P) (hvu : v + 1 ≠ v ∧ v + 2 ≠ v)
    (hf : iv' = wr2 iv (v + 1) (v + 2) (fun q => tn (iv (u + 1) q)) (fun q => nI q) (fun q => jrem (iv v 0 - iv (u + 2) q) (iv v 0)) P) : moveAt iv' v P T (ginv P G) (ainv P T G Ad) := by
  have htn : ∀ q, q < P → tn (iv (u + 1) q) = G q := fun q hq => by
    have := (hm.2 q hq).2.1
    rw [(hm.2 q hq).1]; exact nI_clamp (by omega)
  have hs : ∀ p q, p < P → q < P → tn (iv (u + 1) p) = tn (iv (u + 1) q) → p = q := fun p q hp hq e => by
    rw [htn p hp, htn q hq] at e
    exact hG.2 p q hp hq e
  refine ⟨by rw [hf, wr2_o (by omega) (by omega)]; exact hv, fun x hx => ?_⟩
  obtain ⟨q, hq, rfl⟩ := inj_surj hG hx
  have h1 := wr2_at (iv := iv) (x := v + 1) (y := v + 2) (f := fun q => nI q) (g := fun q => jrem (iv v 0 - iv (u + 2) q) (iv v 0)) (by omega) hs (Nat.le_refl P) q hq
  rw [htn q hq] at h1
  have hAd := (hm.2 q hq).2.2.2
  refine ⟨?_, ?_, ?_, Nat.mod_lt _ hT1⟩
  · rw [hf, h1.1, ginv_eq hG hq]
  · rw [ginv_eq hG hq]; exact hq
  · rw [hf, h1.2, hv, (hm.2 q hq).2.2.1, pk_sub (by omega)]
    unfold ainv
    rw [ginv_eq hG hq]
    exact grem (by omega) hT1 (by omega)
/-- a move done backwards, by numbers, as the steps' rows give it -/
def bkf (P T c : Nat) (G Ad : Nat → Nat) (x : Nat) : Nat :=
  num P T c (fun i => ginv P G (dw P c (x / T ^ c) i)) (fun i => ainv P T G Ad (dw P c (x / T ^ c) i)) / T ^ c * T ^ c + tsum T c (x % T ^ c) (num P T c (fun i => ginv P G (dw P c (x / T ^ c) i)) (fun i => ainv P T G Ad (dw P c (x / T ^ c) i)) % T ^ c)
