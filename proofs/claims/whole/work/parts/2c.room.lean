/-! rows that are made anew when they are too short -/
theorem sch_big {cA : Nat → ClassId} {o : Nat → Int64} {ad : Nat → Nat} {k len : Nat} {r : Nat → Int32} (h : 68 ≤ k) : sch cA o ad k len r = .inl (cA 0, len, .inl r) := sch_I (by simp [isI]; omega)
/-- a cell's picture tells the addresses of the cells below 68 alone -/
theorem sch_ad {cA : Nat → ClassId} {o : Nat → Int64} {ad ad' : Nat → Nat} {i len : Nat} {r : Nat → Int32} (h : ∀ j, j < 68 → ad' j = ad j) : sch cA o ad' i len r = sch cA o ad i len r := by
  unfold sch
  have h6 : (fun i => if i < 6 then some (ad' (2 + 3 * i)) else none) = (fun i => if i < 6 then some (ad (2 + 3 * i)) else none) := by
    funext i
    by_cases q : i < 6
    · rw [if_pos q, if_pos q, h _ (by omega)]
    · rw [if_neg q, if_neg q]
  have h4 : (fun i => if i < 4 then some (ad' (21 + i)) else none) = (fun i => if i < 4 then some (ad (21 + i)) else none) := by
    funext i
    by_cases q : i < 4
    · rw [if_pos q, if_pos q, h _ (by omega)]
    · rw [if_neg q, if_neg q]
  rw [h6, h4]
  rw [h 1 (by decide), h 20 (by decide), h 25 (by decide), h 29 (by decide), h 32 (by decide), h 35 (by decide), h 38 (by decide), h 41 (by decide), h 42 (by decide), h 46 (by decide), h 49 (by decide), h 26 (by decide), h 27 (by decide), h 28 (by decide), h 43 (by decide), h 44 (by decide), h 45 (by decide), h 47 (by decide), h 48 (by decide), h 50 (by decide), h 51 (by decide), h 52 (by decide), h 54 (by decide), h 55 (by decide), h 56 (by decide), h 57 (by decide), h 58 (by decide), h 59 (by decide), h 60 (by decide), h 61 (by decide), h 62 (by decide), h 63 (by decide), h 64 (by decide), h 65 (by decide), h 66 (by decide)]
  by_cases hm : (i < 20 ∧ i % 3 = 2) ∨ i = 38
  · rw [h (i + 1) (by omega), h (i + 2) (by omega)]
  · rw [if_neg hm, if_neg hm]
    by_cases hs : i = 29 ∨ i = 32 ∨ i = 35
    · rw [h (i + 1) (by omega), h (i + 2) (by omega)]
    · rw [if_neg hs, if_neg hs]
/-- whose rows may be made anew -/
def isRe (obj k : Nat) : Bool := (decide (obj = 42) && (decide (k = 43) || decide (k = 44) || decide (k = 45))) || (decide (obj = 46) && (decide (k = 47) || decide (k = 48))) || (decide (obj = 49) && (decide (k = 50) || decide (k = 51) || decide (k = 52)))
theorem isRe_in {obj k : Nat} (h : isRe obj k = true) : (obj = 42 ∧ (k = 43 ∨ k = 44 ∨ k = 45)) ∨ (obj = 46 ∧ (k = 47 ∨ k = 48)) ∨ (obj = 49 ∧ (k = 50 ∨ k = 51 ∨ k = 52)) := by
  simp [isRe] at h
  omega
/-- no other cell refers to such a row -/
theorem sch_re {cA : Nat → ClassId} {o : Nat → Int64} {ad : Nat → Nat} {obj k a i len : Nat} {r : Nat → Int32} (hr : isRe obj k = true) (hi : i ≠ obj) : sch cA o (va_up ad k a) i len r = sch cA o ad i len r := by
  have hk := isRe_in hr
  have h : ∀ j, j < 43 → va_up ad k a j = ad j := fun j hj => va_up_ne _ _ (by omega)
  by_cases h1 : i = 1
  · subst h1
    have h6 : (fun i => if i < 6 then some (va_up ad k a (2 + 3 * i)) else none) = (fun i => if i < 6 then some (ad (2 + 3 * i)) else none) := by
      funext i
      by_cases q : i < 6
      · rw [if_pos q, if_pos q, h _ (by omega)]
      · rw [if_neg q, if_neg q]
    show (Sum.inl (cA 2, 6, .inr (.inr (.inr (.inr (fun i => if i < 6 then some (va_up ad k a (2 + 3 * i)) else none))))) : va_E) = .inl (cA 2, 6, .inr (.inr (.inr (.inr (fun i => if i < 6 then some (ad (2 + 3 * i)) else none)))))
    rw [h6]
  by_cases h20 : i = 20
  · subst h20
    have h4 : (fun i => if i < 4 then some (va_up ad k a (21 + i)) else none) = (fun i => if i < 4 then some (ad (21 + i)) else none) := by
      funext i
      by_cases q : i < 4
      · rw [if_pos q, if_pos q, h _ (by omega)]
      · rw [if_neg q, if_neg q]
    show (Sum.inl (cA 3, 4, .inr (.inr (.inr (.inr (fun i => if i < 4 then some (va_up ad k a (21 + i)) else none))))) : va_E) = .inl (cA 3, 4, .inr (.inr (.inr (.inr (fun i => if i < 4 then some (ad (21 + i)) else none)))))
    rw [h4]
  by_cases hm : isM i = true
  · have := isM_in hm
    rw [sch_M hm, sch_M hm, h (i + 1) (by omega), h (i + 2) (by omega)]
  by_cases hs : isS i = true
  · have := isS_in hs
    rw [sch_S hs, sch_S hs, h (i + 1) (by omega), h (i + 2) (by omega)]
  by_cases hI : isI i = true
  · rw [sch_I hI, sch_I hI]
  by_cases hZ : isZ i = true
  · rw [sch_Z hZ, sch_Z hZ]
  have hh : i = 0 ∨ i = 25 ∨ i = 42 ∨ i = 46 ∨ i = 49 ∨ i = 53 ∨ i = 67 := by
    simp [isM] at hm
    simp [isS] at hs
    simp [isI] at hI
    simp [isZ] at hZ
    omega
  rcases hk with ⟨rfl, rfl | rfl | rfl⟩ | ⟨rfl, rfl | rfl⟩ | ⟨rfl, rfl | rfl | rfl⟩ <;> rcases hh with rfl | rfl | rfl | rfl | rfl | rfl | rfl <;> first | rfl | exact absurd rfl hi
section GA
variable {D : va_G} {cA : Nat → ClassId} {o : Nat → Int64} {ad ln : Nat → Nat} {iv : Nat → Nat → Int32} {n : Nat}
/-- a new row of L zeros behind the world -/
theorem gw_new {a L : Nat} (hn : 68 ≤ n) : gw ad (gC cA o ad ln iv) n ++ [(a, .inl (cA 0, L, .inl (fun _ => 0)))] = gw (va_up ad n a) (gC cA o (va_up ad n a) (va_up ln n L) (va_up iv n (fun _ => 0))) (n + 1) := by
  rw [gw_push]
  apply gw_congr
  intro k hk
  unfold va_up
  by_cases e : k = n
  · subst e
    simp only [if_true, gC]
    rw [sch_big hn]
  · simp only [if_neg e, gC]
    exact (sch_ad (fun j hj => by rw [if_neg (by omega)])).symm
/-- the object obj takes the new row for its old row k -/
theorem gw_take {A : Nat → Prop} {H : Heap} {obj k a L : Nat} (hn : 68 ≤ n) (hr : isRe obj k = true)
    (hP : va_P D vwCl ((gw (va_up ad n a) (gC cA o (va_up ad n a) (va_up ln n L) (va_up iv n (fun _ => 0))) (n + 1)).set obj (ad obj, sch cA o (va_up ad k a) obj (ln obj) (iv obj))) H)
    (hD : va_D A ((gw (va_up ad n a) (gC cA o (va_up ad n a) (va_up ln n L) (va_up iv n (fun _ => 0))) (n + 1)).set obj (ad obj, sch cA o (va_up ad k a) obj (ln obj) (iv obj)))) :
    va_P D vwCl (gw (va_up ad k a) (gC cA o (va_up ad k a) (va_up ln k L) (va_up iv k (fun _ => 0))) n) H ∧ va_D A (gw (va_up ad k a) (gC cA o (va_up ad k a) (va_up ln k L) (va_up iv k (fun _ => 0))) n) := by
  have hk := isRe_in hr
  have hkI : isI k = true := by
    rcases hk with ⟨_, rfl | rfl | rfl⟩ | ⟨_, rfl | rfl⟩ | ⟨_, rfl | rfl | rfl⟩ <;> rfl
  have key : ∀ i q, (gw (va_up ad k a) (gC cA o (va_up ad k a) (va_up ln k L) (va_up iv k (fun _ => 0))) n)[i]? = some q → i < n ∧ ((gw (va_up ad n a) (gC cA o (va_up ad n a) (va_up ln n L) (va_up iv n (fun _ => 0))) (n + 1)).set obj (ad obj, sch cA o (va_up ad k a) obj (ln obj) (iv obj)))[if i = k then n else i]? = some q := by
    intro i q hq
    have hi : i < n := by
      rcases Nat.lt_or_ge i n with h | h
      · exact h
      · exfalso
        have : (gw (va_up ad k a) (gC cA o (va_up ad k a) (va_up ln k L) (va_up iv k (fun _ => 0))) n)[i]? = none := by
          rw [List.getElem?_eq_none_iff]; simp [gw]; exact h
        rw [this] at hq; cases hq
    refine ⟨hi, ?_⟩
    rw [gw_at hi] at hq
    cases hq
    rw [List.getElem?_set]
    by_cases e : i = k
    · subst e
      rw [if_pos rfl, if_neg (by omega), gw_at (Nat.lt_succ_self n)]
      simp only [gC, va_up_self]
      rw [sch_big hn, sch_I hkI]
    · rw [if_neg e]
      by_cases e2 : obj = i
      · subst e2
        rw [if_pos rfl, if_pos (by simp [gw]; omega)]
        simp only [gC]
        rw [va_up_ne _ _ e, va_up_ne _ _ e, va_up_ne _ _ e]
      · rw [if_neg e2, gw_at (by omega)]
        simp only [gC]
        rw [va_up_ne _ _ e, va_up_ne _ _ e, va_up_ne _ _ e, va_up_ne _ _ (show i ≠ n by omega), va_up_ne _ _ (show i ≠ n by omega), va_up_ne _ _ (show i ≠ n by omega), sch_re hr (fun q => e2 q.symm), sch_ad (ad := ad) (fun j hj => va_up_ne _ _ (by omega))]
  refine ⟨fun i q hq => hP _ q (key i q hq).2, ⟨fun i j p q hp hq e => ?_, fun i q hq => hD.2 _ q (key i q hq).2⟩⟩
  have h1 := key i p hp
  have h2 := key j q hq
  have h3 := hD.1 _ _ p q h1.2 h2.2 e
  by_cases ei : i = k <;> by_cases ej : j = k
  · omega
  · rw [if_pos ei, if_neg ej] at h3; omega
  · rw [if_neg ei, if_pos ej] at h3; omega
  · rw [if_neg ei, if_neg ej] at h3; exact h3
end GA
