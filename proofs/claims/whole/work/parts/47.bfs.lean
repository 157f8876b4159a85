/-! the growing tables: both ways of growing give the same values -/
theorem itg_add (g : Nat → Nat) (a x : Nat) : ∀ b, itg g (a + b) x = itg g b (itg g a x)
  | 0 => rfl
  | b + 1 => by
    show g (itg g (a + b) x) = g (itg g b (itg g a x))
    rw [itg_add g a x b]
/-- without the early end -/
def sprR (g : Nat → Nat) (fr : Nat) : Nat → Nat → BS → BS
  | 0, _, s => s
  | k + 1, x, s => if s.1 (g x) = 0 then sprR g fr k (g x) (va_up s.1 (g x) (s.1 fr + 1), va_up s.2.1 s.2.2 (g x), s.2.2 + 1) else sprR g fr k (g x) s
def expR (bk : Nat → Nat → Nat) (rp : Nat → Nat) (fr : Nat) : Nat → BS → BS
  | 0, s => s
  | k + 1, s => sprR (bk k) fr (rp k) fr (expR bk rp fr k s)
def bfsR (bk : Nat → Nat → Nat) (rp : Nat → Nat) (mc : Nat) (s0 : BS) : Nat → BS
  | 0 => s0
  | i + 1 => if i < (bfsR bk rp mc s0 i).2.2 then expR bk rp ((bfsR bk rp mc s0 i).2.1 i) mc (bfsR bk rp mc s0 i) else bfsR bk rp mc s0 i
theorem bfsR_stop {bk : Nat → Nat → Nat} {rp : Nat → Nat} {mc : Nat} {s0 : BS} {i : Nat} (h : (bfsR bk rp mc s0 i).2.2 ≤ i) : ∀ {j : Nat}, i ≤ j → bfsR bk rp mc s0 j = bfsR bk rp mc s0 i := by
  intro j hj
  induction j with
  | zero => rw [show i = 0 by omega]
  | succ j ih =>
    rcases Nat.lt_or_ge j i with h1 | h1
    · rw [show i = j + 1 by omega]
    · show (if j < (bfsR bk rp mc s0 j).2.2 then _ else _) = _
      rw [ih h1, if_neg (by omega)]
/-- what has a value keeps it, the row keeps its order -/
def mono (s s' : BS) : Prop := s.2.2 ≤ s'.2.2 ∧ (∀ i, i < s.2.2 → s'.2.1 i = s.2.1 i) ∧ ∀ y, s.1 y ≠ 0 → s'.1 y = s.1 y
theorem mono_rf (s : BS) : mono s s := ⟨Nat.le_refl _, fun _ _ => rfl, fun _ _ => rfl⟩
theorem mono_tr {a b c : BS} (h1 : mono a b) (h2 : mono b c) : mono a c :=
  ⟨Nat.le_trans h1.1 h2.1, fun i hi => by rw [h2.2.1 i (Nat.lt_of_lt_of_le hi h1.1), h1.2.1 i hi], fun y hy => by rw [h2.2.2 y (by rw [h1.2.2 y hy]; exact hy), h1.2.2 y hy]⟩
def add1 (fr y : Nat) (s : BS) : BS := (va_up s.1 y (s.1 fr + 1), va_up s.2.1 s.2.2 y, s.2.2 + 1)
theorem mono_add {fr y : Nat} {s : BS} (h0 : s.1 y = 0) : mono s (add1 fr y s) := by
  refine ⟨Nat.le_succ _, fun i hi => va_up_ne _ _ (by omega), fun z hz => va_up_ne _ _ (fun q => ?_)⟩
  rw [q] at hz
  exact hz h0
/-- the table in the making: i of the row have been looked at -/
def Jb (S g0 mc : Nat) (bk : Nat → Nat → Nat) (rp : Nat → Nat) (i : Nat) (s : BS) : Prop :=
  bOk S s ∧ bQ s ∧ (∀ x, x < S → s.1 x ≠ 0 → ∃ j, j < s.2.2 ∧ s.2.1 j = x) ∧ (∀ j k, j < s.2.2 → k < s.2.2 → s.2.1 j = s.2.1 k → j = k) ∧ (∀ j k, j ≤ k → k < s.2.2 → s.1 (s.2.1 j) ≤ s.1 (s.2.1 k)) ∧ (i < s.2.2 → ∀ j, j < s.2.2 → s.1 (s.2.1 j) ≤ s.1 (s.2.1 i) + 1) ∧
  (∀ x, x < S → s.1 x ≠ 0 → (x = g0 ∧ s.1 x = 1) ∨ ∃ y m k, y < S ∧ m < mc ∧ 1 ≤ k ∧ k ≤ rp m ∧ s.1 y ≠ 0 ∧ s.1 x = s.1 y + 1 ∧ x = itg (bk m) k y) ∧ s.1 g0 = 1
theorem Jb_add {S g0 mc : Nat} {bk : Nat → Nat → Nat} {rp : Nat → Nat} {i m k y : Nat} {s : BS} (h : Jb S g0 mc bk rp i s) (hi : i < s.2.2) (hy : y < S) (h0 : s.1 y = 0) (hm : m < mc) (hk1 : 1 ≤ k) (hk2 : k ≤ rp m) (e : y = itg (bk m) k (s.2.1 i)) : Jb S g0 mc bk rp i (add1 (s.2.1 i) y s) := by
  obtain ⟨a1, a2, a3, a4, a5, a6, a7, a8⟩ := h
  have hfr := a1.2.2 i hi
  have hf0 := a2 i hi
  have hok := (bOk_add (fr := s.2.1 i) a1 hfr hy h0).2
  have qn : ∀ j, j < s.2.2 → s.2.1 j ≠ y := fun j hj q => by have := a2 j hj; rw [q] at this; exact this h0
  have q1 : ∀ j, j < s.2.2 → (add1 (s.2.1 i) y s).2.1 j = s.2.1 j := fun j hj => va_up_ne _ _ (by omega)
  have qC : (add1 (s.2.1 i) y s).2.1 s.2.2 = y := va_up_self _ _ _
  have d1 : ∀ j, j < s.2.2 → (add1 (s.2.1 i) y s).1 ((add1 (s.2.1 i) y s).2.1 j) = s.1 (s.2.1 j) := fun j hj => by rw [q1 j hj]; exact va_up_ne _ _ (qn j hj)
  have dy : (add1 (s.2.1 i) y s).1 y = s.1 (s.2.1 i) + 1 := va_up_self _ _ _
  have dn : ∀ z, z ≠ y → (add1 (s.2.1 i) y s).1 z = s.1 z := fun z hz => va_up_ne _ _ hz
  have dC : (add1 (s.2.1 i) y s).1 ((add1 (s.2.1 i) y s).2.1 s.2.2) = s.1 (s.2.1 i) + 1 := by rw [qC, dy]
  have cC : (add1 (s.2.1 i) y s).2.2 = s.2.2 + 1 := rfl
  have cs : ∀ j, j < (add1 (s.2.1 i) y s).2.2 → j < s.2.2 ∨ j = s.2.2 := fun j hj => by rw [cC] at hj; omega
  refine ⟨hok, fun j hj => ?_, fun x hx hd => ?_, fun j k hj hk q => ?_, fun j k hjk hk => ?_, fun _ j hj => ?_, fun x hx hd => ?_, ?_⟩
  · rcases cs j hj with q | q
    · rw [d1 j q]; exact a2 j q
    · rw [q, dC]; omega
  · by_cases q : x = y
    · exact ⟨s.2.2, by rw [cC]; omega, by rw [qC, q]⟩
    · rw [dn x q] at hd
      obtain ⟨j, j1, j2⟩ := a3 x hx hd
      exact ⟨j, by rw [cC]; omega, by rw [q1 j j1]; exact j2⟩
  · rcases cs j hj with u | u <;> rcases cs k hk with v | v
    · rw [q1 j u, q1 k v] at q; exact a4 j k u v q
    · rw [q1 j u, v, qC] at q; exact absurd q (qn j u)
    · rw [q1 k v, u, qC] at q; exact absurd q.symm (qn k v)
    · omega
  · rcases cs k hk with v | v
    · rw [d1 j (by omega), d1 k v]; exact a5 j k hjk v
    · rcases Nat.lt_or_ge j s.2.2 with u | u
      · rw [d1 j u, v, dC]; exact a6 hi j u
      · have : j = s.2.2 := by omega
        rw [this, v]
        exact Nat.le_refl _
  · rw [d1 i hi]
    rcases cs j hj with u | u
    · rw [d1 j u]; exact a6 hi j u
    · rw [u, dC]; exact Nat.le_refl _
  · by_cases q : x = y
    · rw [q]
      exact Or.inr ⟨s.2.1 i, m, k, hfr, hm, hk1, hk2, by rw [dn _ (qn i hi)]; exact hf0, by rw [dy, dn _ (qn i hi)], e⟩
    · rw [dn x q] at hd ⊢
      rcases a7 x hx hd with u | ⟨y2, m2, k2, b1, b2, b3, b4, b5, b6, b7⟩
      · exact Or.inl u
      · have hne : y2 ≠ y := fun q2 => b5 (by rw [q2]; exact h0)
        exact Or.inr ⟨y2, m2, k2, b1, b2, b3, b4, by rw [dn _ hne]; exact b5, by rw [dn _ hne]; exact b6, b7⟩
  · rw [dn g0 (fun q => by rw [q] at a8; omega)]; exact a8
/-- the walk of the move m from the state fr has been made, to its end or to a state that is no farther -/
def PCb (bk : Nat → Nat → Nat) (rp : Nat → Nat) (s : BS) (fr m : Nat) : Prop := ∃ b, b ≤ rp m ∧ (∀ j, 1 ≤ j → j ≤ b → s.1 (itg (bk m) j fr) ≠ 0 ∧ s.1 (itg (bk m) j fr) ≤ s.1 fr + 1) ∧ (b = rp m ∨ (1 ≤ b ∧ s.1 (itg (bk m) b fr) ≤ s.1 fr))
theorem PCb_mono {bk : Nat → Nat → Nat} {rp : Nat → Nat} {s s' : BS} {fr m : Nat} (h : PCb bk rp s fr m) (hf : s.1 fr ≠ 0) (hm : mono s s') : PCb bk rp s' fr m := by
  obtain ⟨b, b1, b2, b3⟩ := h
  refine ⟨b, b1, fun j j1 j2 => ?_, ?_⟩
  · obtain ⟨c1, c2⟩ := b2 j j1 j2
    rw [hm.2.2 _ c1, hm.2.2 _ hf]
    exact ⟨c1, c2⟩
  · rcases b3 with q | ⟨q1, q2⟩
    · exact Or.inl q
    · obtain ⟨c1, c2⟩ := b2 b q1 (Nat.le_refl b)
      exact Or.inr ⟨q1, by rw [hm.2.2 _ c1, hm.2.2 _ hf]; exact q2⟩
theorem Jb_le {S g0 mc : Nat} {bk : Nat → Nat → Nat} {rp : Nat → Nat} {i x : Nat} {s : BS} (h : Jb S g0 mc bk rp i s) (hi : i < s.2.2) (hx : x < S) (hd : s.1 x ≠ 0) : s.1 x ≤ s.1 (s.2.1 i) + 1 := by
  obtain ⟨j, j1, j2⟩ := h.2.2.1 x hx hd
  rw [← j2]
  exact h.2.2.2.2.2.1 hi j j1
section WK
variable {S g0 mc : Nat} {bk : Nat → Nat → Nat} {rp : Nat → Nat} {i m : Nat}
theorem Jb_spr (hm : m < mc) (hb : ∀ x, x < S → bk m x < S) : ∀ (k a : Nat) (s : BS) (fr x : Nat), Jb S g0 mc bk rp i s → i < s.2.2 → s.2.1 i = fr → x = itg (bk m) a fr → x < S → a + k ≤ rp m →
    Jb S g0 mc bk rp i (spr (bk m) fr k x s) ∧ mono s (spr (bk m) fr k x s) ∧ ∃ b, a ≤ b ∧ b ≤ a + k ∧ (∀ j, a < j → j ≤ b → (spr (bk m) fr k x s).1 (itg (bk m) j fr) ≠ 0) ∧ (b = a + k ∨ (a < b ∧ (spr (bk m) fr k x s).1 (itg (bk m) b fr) ≤ (spr (bk m) fr k x s).1 fr))
  | 0, a, s, fr, x, h, hi, hf, hx, hS, hk => ⟨h, mono_rf s, a, Nat.le_refl _, Nat.le_refl _, fun j j1 j2 => absurd j1 (by omega), Or.inl rfl⟩
  | k + 1, a, s, fr, x, h, hi, hf, hx, hS, hk => by
    have hy : bk m x < S := hb x hS
    have ey : bk m x = itg (bk m) (a + 1) fr := by rw [hx]; rfl
    have efr : s.1 fr ≠ 0 := by rw [← hf]; exact h.2.1 i hi
    show Jb S g0 mc bk rp i (if s.1 (bk m x) = 0 then _ else if s.1 (bk m x) ≤ s.1 fr then s else _) ∧ _
    by_cases c0 : s.1 (bk m x) = 0
    · have e0 : spr (bk m) fr (k + 1) x s = spr (bk m) fr k (bk m x) (add1 fr (bk m x) s) := by
        show (if s.1 (bk m x) = 0 then _ else _) = _
        rw [if_pos c0]; rfl
      rw [if_pos c0]
      have h2 := Jb_add (m := m) (k := a + 1) h hi hy c0 hm (by omega) (by omega) (by rw [hf]; exact ey)
      rw [hf] at h2
      have mo := mono_add (fr := fr) c0
      obtain ⟨r1, r2, b, r3, r4, r5, r6⟩ := Jb_spr hm hb k (a + 1) (add1 fr (bk m x) s) fr (bk m x) h2 (Nat.lt_of_lt_of_le hi mo.1) (by rw [mo.2.1 i hi]; exact hf) ey hy (by omega)
      rw [e0]
      refine ⟨r1, mono_tr mo r2, b, by omega, by omega, fun j j1 j2 => ?_, ?_⟩
      · rcases Nat.lt_or_ge (a + 1) j with u | u
        · exact r5 j u j2
        · have : j = a + 1 := by omega
          rw [this, ← ey]
          have hd : (add1 fr (bk m x) s).1 (bk m x) ≠ 0 := by
            rw [show (add1 fr (bk m x) s).1 (bk m x) = s.1 fr + 1 from va_up_self _ _ _]; omega
          rw [r2.2.2 _ hd]
          exact hd
      · rcases r6 with u | ⟨u1, u2⟩
        · exact Or.inl (by omega)
        · exact Or.inr ⟨by omega, u2⟩
    · by_cases c1 : s.1 (bk m x) ≤ s.1 fr
      · have e0 : spr (bk m) fr (k + 1) x s = s := by
          show (if s.1 (bk m x) = 0 then _ else if s.1 (bk m x) ≤ s.1 fr then s else _) = _
          rw [if_neg c0, if_pos c1]
        rw [if_neg c0, if_pos c1, e0]
        refine ⟨h, mono_rf s, a + 1, by omega, by omega, fun j j1 j2 => ?_, Or.inr ⟨by omega, by rw [← ey]; exact c1⟩⟩
        have : j = a + 1 := by omega
        rw [this, ← ey]
        exact c0
      · have e0 : spr (bk m) fr (k + 1) x s = spr (bk m) fr k (bk m x) s := by
          show (if s.1 (bk m x) = 0 then _ else if s.1 (bk m x) ≤ s.1 fr then s else _) = _
          rw [if_neg c0, if_neg c1]
        rw [if_neg c0, if_neg c1]
        obtain ⟨r1, r2, b, r3, r4, r5, r6⟩ := Jb_spr hm hb k (a + 1) s fr (bk m x) h hi hf ey hy (by omega)
        rw [e0]
        refine ⟨r1, r2, b, by omega, by omega, fun j j1 j2 => ?_, ?_⟩
        · rcases Nat.lt_or_ge (a + 1) j with u | u
          · exact r5 j u j2
          · have : j = a + 1 := by omega
            rw [this, ← ey, r2.2.2 _ c0]
            exact c0
        · rcases r6 with u | ⟨u1, u2⟩
          · exact Or.inl (by omega)
          · exact Or.inr ⟨by omega, u2⟩
theorem Jb_sprR (hm : m < mc) (hb : ∀ x, x < S → bk m x < S) : ∀ (k a : Nat) (s : BS) (fr x : Nat), Jb S g0 mc bk rp i s → i < s.2.2 → s.2.1 i = fr → x = itg (bk m) a fr → x < S → a + k ≤ rp m →
    Jb S g0 mc bk rp i (sprR (bk m) fr k x s) ∧ mono s (sprR (bk m) fr k x s) ∧ ∃ b, a ≤ b ∧ b ≤ a + k ∧ (∀ j, a < j → j ≤ b → (sprR (bk m) fr k x s).1 (itg (bk m) j fr) ≠ 0) ∧ (b = a + k ∨ (a < b ∧ (sprR (bk m) fr k x s).1 (itg (bk m) b fr) ≤ (sprR (bk m) fr k x s).1 fr))
  | 0, a, s, fr, x, h, hi, hf, hx, hS, hk => ⟨h, mono_rf s, a, Nat.le_refl _, Nat.le_refl _, fun j j1 j2 => absurd j1 (by omega), Or.inl rfl⟩
  | k + 1, a, s, fr, x, h, hi, hf, hx, hS, hk => by
    have hy : bk m x < S := hb x hS
    have ey : bk m x = itg (bk m) (a + 1) fr := by rw [hx]; rfl
    have efr : s.1 fr ≠ 0 := by rw [← hf]; exact h.2.1 i hi
    by_cases c0 : s.1 (bk m x) = 0
    · have e0 : sprR (bk m) fr (k + 1) x s = sprR (bk m) fr k (bk m x) (add1 fr (bk m x) s) := by
        show (if s.1 (bk m x) = 0 then _ else _) = _
        rw [if_pos c0]; rfl
      have h2 := Jb_add (m := m) (k := a + 1) h hi hy c0 hm (by omega) (by omega) (by rw [hf]; exact ey)
      rw [hf] at h2
      have mo := mono_add (fr := fr) c0
      obtain ⟨r1, r2, b, r3, r4, r5, r6⟩ := Jb_sprR hm hb k (a + 1) (add1 fr (bk m x) s) fr (bk m x) h2 (Nat.lt_of_lt_of_le hi mo.1) (by rw [mo.2.1 i hi]; exact hf) ey hy (by omega)
      rw [e0]
      refine ⟨r1, mono_tr mo r2, b, by omega, by omega, fun j j1 j2 => ?_, ?_⟩
      · rcases Nat.lt_or_ge (a + 1) j with u | u
        · exact r5 j u j2
        · have : j = a + 1 := by omega
          rw [this, ← ey]
          have hd : (add1 fr (bk m x) s).1 (bk m x) ≠ 0 := by
            rw [show (add1 fr (bk m x) s).1 (bk m x) = s.1 fr + 1 from va_up_self _ _ _]; omega
          rw [r2.2.2 _ hd]
          exact hd
      · rcases r6 with u | ⟨u1, u2⟩
        · exact Or.inl (by omega)
        · exact Or.inr ⟨by omega, u2⟩
    · have e0 : sprR (bk m) fr (k + 1) x s = sprR (bk m) fr k (bk m x) s := by
        show (if s.1 (bk m x) = 0 then _ else _) = _
        rw [if_neg c0]
      obtain ⟨r1, r2, b, r3, r4, r5, r6⟩ := Jb_sprR hm hb k (a + 1) s fr (bk m x) h hi hf ey hy (by omega)
      rw [e0]
      refine ⟨r1, r2, b, by omega, by omega, fun j j1 j2 => ?_, ?_⟩
      · rcases Nat.lt_or_ge (a + 1) j with u | u
        · exact r5 j u j2
        · have : j = a + 1 := by omega
          rw [this, ← ey, r2.2.2 _ c0]
          exact c0
      · rcases r6 with u | ⟨u1, u2⟩
        · exact Or.inl (by omega)
        · exact Or.inr ⟨by omega, u2⟩
theorem itg_S {g : Nat → Nat} (hb : ∀ x, x < S → g x < S) {x : Nat} (hx : x < S) : ∀ k, itg g k x < S
  | 0 => hx
  | k + 1 => hb _ (itg_S hb hx k)
theorem PC_of {s : BS} {fr : Nat} (hb : ∀ x, x < S → bk m x < S) (h : Jb S g0 mc bk rp i s) (hi : i < s.2.2) (hf : s.2.1 i = fr) (hfS : fr < S) (hx : ∃ b, 0 ≤ b ∧ b ≤ 0 + rp m ∧ (∀ j, 0 < j → j ≤ b → s.1 (itg (bk m) j fr) ≠ 0) ∧ (b = 0 + rp m ∨ (0 < b ∧ s.1 (itg (bk m) b fr) ≤ s.1 fr))) : PCb bk rp s fr m := by
  obtain ⟨b, _, b1, b2, b3⟩ := hx
  refine ⟨b, by omega, fun j j1 j2 => ⟨b2 j (by omega) j2, ?_⟩, ?_⟩
  · have := Jb_le h hi (itg_S hb hfS j) (b2 j (by omega) j2)
    rw [hf] at this
    exact this
  · rcases b3 with q | q
    · exact Or.inl (by omega)
    · exact Or.inr ⟨by omega, q.2⟩
end WK
section EX
variable {S g0 mc : Nat} {bk : Nat → Nat → Nat} {rp : Nat → Nat} {i : Nat}
theorem Jb_expd (hb : ∀ m, m < mc → ∀ x, x < S → bk m x < S) {s : BS} {fr : Nat} (h : Jb S g0 mc bk rp i s) (hi : i < s.2.2) (hf : s.2.1 i = fr) : ∀ k, k ≤ mc → Jb S g0 mc bk rp i (expd bk rp fr k s) ∧ mono s (expd bk rp fr k s) ∧ ∀ m, m < k → PCb bk rp (expd bk rp fr k s) fr m
  | 0, _ => ⟨h, mono_rf s, fun m hm => absurd hm (Nat.not_lt_zero m)⟩
  | k + 1, hk => by
    obtain ⟨r1, r2, r3⟩ := Jb_expd hb h hi hf k (by omega)
    have hfS : fr < S := by rw [← hf]; exact h.1.2.2 i hi
    have hi2 : i < (expd bk rp fr k s).2.2 := Nat.lt_of_lt_of_le hi r2.1
    have hf2 : (expd bk rp fr k s).2.1 i = fr := by rw [r2.2.1 i hi]; exact hf
    have hf0 : (expd bk rp fr k s).1 fr ≠ 0 := by have := r1.2.1 i hi2; rw [hf2] at this; exact this
    obtain ⟨q1, q2, q3⟩ := Jb_spr (m := k) (rp := rp) (by omega) (hb k (by omega)) (rp k) 0 (expd bk rp fr k s) fr fr r1 hi2 hf2 rfl hfS (by omega)
    refine ⟨q1, mono_tr r2 q2, fun m hm => ?_⟩
    rcases Nat.lt_or_ge m k with u | u
    · exact PCb_mono (r3 m u) hf0 q2
    · have : m = k := by omega
      subst this
      exact PC_of (hb m (by omega)) q1 (Nat.lt_of_lt_of_le hi2 q2.1) (by show (spr (bk m) fr (rp m) fr _).2.1 i = fr; rw [q2.2.1 i hi2]; exact hf2) hfS q3
theorem Jb_expR (hb : ∀ m, m < mc → ∀ x, x < S → bk m x < S) {s : BS} {fr : Nat} (h : Jb S g0 mc bk rp i s) (hi : i < s.2.2) (hf : s.2.1 i = fr) : ∀ k, k ≤ mc → Jb S g0 mc bk rp i (expR bk rp fr k s) ∧ mono s (expR bk rp fr k s) ∧ ∀ m, m < k → PCb bk rp (expR bk rp fr k s) fr m
  | 0, _ => ⟨h, mono_rf s, fun m hm => absurd hm (Nat.not_lt_zero m)⟩
  | k + 1, hk => by
    obtain ⟨r1, r2, r3⟩ := Jb_expR hb h hi hf k (by omega)
    have hfS : fr < S := by rw [← hf]; exact h.1.2.2 i hi
    have hi2 : i < (expR bk rp fr k s).2.2 := Nat.lt_of_lt_of_le hi r2.1
    have hf2 : (expR bk rp fr k s).2.1 i = fr := by rw [r2.2.1 i hi]; exact hf
    have hf0 : (expR bk rp fr k s).1 fr ≠ 0 := by have := r1.2.1 i hi2; rw [hf2] at this; exact this
    obtain ⟨q1, q2, q3⟩ := Jb_sprR (m := k) (rp := rp) (by omega) (hb k (by omega)) (rp k) 0 (expR bk rp fr k s) fr fr r1 hi2 hf2 rfl hfS (by omega)
    refine ⟨q1, mono_tr r2 q2, fun m hm => ?_⟩
    rcases Nat.lt_or_ge m k with u | u
    · exact PCb_mono (r3 m u) hf0 q2
    · have : m = k := by omega
      subst this
      exact PC_of (hb m (by omega)) q1 (Nat.lt_of_lt_of_le hi2 q2.1) (by show (sprR (bk m) fr (rp m) fr _).2.1 i = fr; rw [q2.2.1 i hi2]; exact hf2) hfS q3
/-- one step of the growing -/
def Zb (S g0 mc : Nat) (bk : Nat → Nat → Nat) (rp : Nat → Nat) (i : Nat) (s : BS) : Prop := Jb S g0 mc bk rp i s ∧ ∀ j, j < i → j < s.2.2 → ∀ m, m < mc → PCb bk rp s (s.2.1 j) m
theorem Zb_step {s s' : BS} (h : Zb S g0 mc bk rp i s) (hi : i < s.2.2) (h2 : Jb S g0 mc bk rp i s') (hm : mono s s') (hp : ∀ m, m < mc → PCb bk rp s' (s.2.1 i) m) : Zb S g0 mc bk rp (i + 1) s' := by
  obtain ⟨a1, a2, a3, a4, a5, a6, a7, a8⟩ := h2
  refine ⟨⟨a1, a2, a3, a4, a5, fun q j hj => ?_, a7, a8⟩, fun j j1 j2 m hm2 => ?_⟩
  · have u1 := a6 (by omega) j hj
    have u2 := a5 i (i + 1) (by omega) q
    omega
  · rcases Nat.lt_or_ge j i with u | u
    · rw [hm.2.1 j (by omega)]
      exact PCb_mono (h.2 j u (by omega) m hm2) (h.1.2.1 j (by omega)) hm
    · have : j = i := by omega
      subst this
      rw [hm.2.1 j hi]
      exact hp m hm2
theorem Zb_stay {s : BS} (h : Zb S g0 mc bk rp i s) (hi : ¬ i < s.2.2) : Zb S g0 mc bk rp (i + 1) s := by
  obtain ⟨⟨a1, a2, a3, a4, a5, a6, a7, a8⟩, h2⟩ := h
  exact ⟨⟨a1, a2, a3, a4, a5, fun q => absurd q (by omega), a7, a8⟩, fun j j1 j2 m hm => h2 j (by omega) j2 m hm⟩
theorem Zb_0 (hg : g0 < S) : Zb S g0 mc bk rp 0 (bs0 g0) := by
  obtain ⟨h1, h2⟩ := bs0_ok hg
  have e1 : ∀ x, (bs0 g0).1 x = if x = g0 then 1 else 0 := fun _ => rfl
  have e2 : ∀ j, (bs0 g0).2.1 j = g0 := fun _ => rfl
  have e3 : (bs0 g0).2.2 = 1 := rfl
  refine ⟨⟨h1, h2, fun x hx hd => ⟨0, by rw [e3]; omega, ?_⟩, fun j k hj hk _ => by rw [e3] at hj hk; omega, fun j k _ _ => by rw [e2, e2]; exact Nat.le_refl _, fun _ j _ => by rw [e2, e2]; omega, fun x hx hd => Or.inl ?_, by rw [e1, if_pos rfl]⟩, fun j hj => absurd hj (Nat.not_lt_zero j)⟩
  · rw [e1] at hd
    rw [e2]
    by_cases q : x = g0
    · exact q.symm
    · rw [if_neg q] at hd; exact absurd rfl hd
  · rw [e1] at hd ⊢
    by_cases q : x = g0
    · exact ⟨q, if_pos q⟩
    · rw [if_neg q] at hd; exact absurd rfl hd
theorem Zb_bfs (hg : g0 < S) (hb : ∀ m, m < mc → ∀ x, x < S → bk m x < S) : ∀ i, Zb S g0 mc bk rp i (bfs bk rp mc (bs0 g0) i)
  | 0 => Zb_0 hg
  | i + 1 => by
    have ih := Zb_bfs hg hb i
    show Zb S g0 mc bk rp (i + 1) (if i < (bfs bk rp mc (bs0 g0) i).2.2 then _ else _)
    by_cases c : i < (bfs bk rp mc (bs0 g0) i).2.2
    · rw [if_pos c]
      obtain ⟨r1, r2, r3⟩ := Jb_expd hb ih.1 c rfl mc (Nat.le_refl _)
      exact Zb_step ih c r1 r2 r3
    · rw [if_neg c]
      exact Zb_stay ih c
theorem Zb_bfsR (hg : g0 < S) (hb : ∀ m, m < mc → ∀ x, x < S → bk m x < S) : ∀ i, Zb S g0 mc bk rp i (bfsR bk rp mc (bs0 g0) i)
  | 0 => Zb_0 hg
  | i + 1 => by
    have ih := Zb_bfsR hg hb i
    show Zb S g0 mc bk rp (i + 1) (if i < (bfsR bk rp mc (bs0 g0) i).2.2 then _ else _)
    by_cases c : i < (bfsR bk rp mc (bs0 g0) i).2.2
    · rw [if_pos c]
      obtain ⟨r1, r2, r3⟩ := Jb_expR hb ih.1 c rfl mc (Nat.le_refl _)
      exact Zb_step ih c r1 r2 r3
    · rw [if_neg c]
      exact Zb_stay ih c
end EX
/-- the values are the least numbers of moves, and one more -/
def FINb (S g0 mc : Nat) (bk : Nat → Nat → Nat) (rp : Nat → Nat) (f : Nat → Nat) : Prop :=
  f g0 = 1 ∧ (∀ x, x < S → f x ≠ 0 → ∀ m, m < mc → ∀ k, 1 ≤ k → k ≤ rp m → f (itg (bk m) k x) ≠ 0 ∧ f (itg (bk m) k x) ≤ f x + 1) ∧
  ∀ x, x < S → f x ≠ 0 → (x = g0 ∧ f x = 1) ∨ ∃ y m k, y < S ∧ m < mc ∧ 1 ≤ k ∧ k ≤ rp m ∧ f y ≠ 0 ∧ f x = f y + 1 ∧ x = itg (bk m) k y
theorem FIN_of {S g0 mc : Nat} {bk : Nat → Nat → Nat} {rp : Nat → Nat} {s : BS} (hb : ∀ m, m < mc → ∀ x, x < S → bk m x < S) (h : Zb S g0 mc bk rp S s) : FINb S g0 mc bk rp s.1 := by
  obtain ⟨⟨a1, a2, a3, a4, a5, a6, a7, a8⟩, h2⟩ := h
  have hC := bOk_C a1
  refine ⟨a8, ?_, a7⟩
  have key : ∀ K, ∀ k, k ≤ K → ∀ x, x < S → s.1 x ≠ 0 → ∀ m, m < mc → 1 ≤ k → k ≤ rp m → s.1 (itg (bk m) k x) ≠ 0 ∧ s.1 (itg (bk m) k x) ≤ s.1 x + 1 := by
    intro K
    induction K with
    | zero => intro k hk x hx hd m hm h1 _; omega
    | succ K ih =>
      intro k hk x hx hd m hm h1 hr
      obtain ⟨j, j1, j2⟩ := a3 x hx hd
      obtain ⟨b, b1, b2, b3⟩ := h2 j (by omega) j1 m hm
      rw [j2] at b2 b3
      rcases Nat.lt_or_ge b k with u | u
      · rcases b3 with v | ⟨v1, v2⟩
        · omega
        · obtain ⟨c1, c2⟩ := b2 b v1 (Nat.le_refl b)
          obtain ⟨d1, d2⟩ := ih (k - b) (by omega) (itg (bk m) b x) (itg_S (hb m hm) hx b) c1 m hm (by omega) (by omega)
          rw [← itg_add, show b + (k - b) = k by omega] at d1 d2
          exact ⟨d1, by omega⟩
      · exact b2 k h1 u
  exact fun x hx hd m hm k h1 hr => key k k (Nat.le_refl k) x hx hd m hm h1 hr
theorem FIN_le {S g0 mc : Nat} {bk : Nat → Nat → Nat} {rp : Nat → Nat} {f f' : Nat → Nat} (h : FINb S g0 mc bk rp f) (h' : FINb S g0 mc bk rp f') : ∀ v x, x < S → f x ≤ v → f x ≠ 0 → f' x ≠ 0 ∧ f' x ≤ f x := by
  intro v
  induction v with
  | zero => intro x hx h1 h2; omega
  | succ v ih =>
    intro x hx h1 h2
    rcases h.2.2 x hx h2 with ⟨q1, q2⟩ | ⟨y, m, k, b1, b2, b3, b4, b5, b6, b7⟩
    · rw [q1, h'.1, h.1]
      exact ⟨by decide, Nat.le_refl _⟩
    · obtain ⟨c1, c2⟩ := ih y b1 (by omega) b5
      obtain ⟨d1, d2⟩ := h'.2.1 y b1 c1 m b2 k b3 b4
      rw [← b7] at d1 d2
      exact ⟨d1, by omega⟩
theorem FIN_eq {S g0 mc : Nat} {bk : Nat → Nat → Nat} {rp : Nat → Nat} {f f' : Nat → Nat} (h : FINb S g0 mc bk rp f) (h' : FINb S g0 mc bk rp f') {x : Nat} (hx : x < S) : f x = f' x := by
  rcases Nat.eq_zero_or_pos (f x) with q | q
  · rcases Nat.eq_zero_or_pos (f' x) with q' | q'
    · omega
    · have := FIN_le h' h _ x hx (Nat.le_refl _) (by omega)
      omega
  · have u := FIN_le h h' _ x hx (Nat.le_refl _) (by omega)
    have v := FIN_le h' h _ x hx (Nat.le_refl _) u.1
    omega
theorem FIN_congr {S g0 mc : Nat} {bk bk' : Nat → Nat → Nat} {rp : Nat → Nat} {f : Nat → Nat} (e : ∀ m, m < mc → bk m = bk' m) (h : FINb S g0 mc bk rp f) : FINb S g0 mc bk' rp f := by
  refine ⟨h.1, fun x hx hd m hm k h1 h2 => by rw [← e m hm]; exact h.2.1 x hx hd m hm k h1 h2, fun x hx hd => ?_⟩
  rcases h.2.2 x hx hd with q | ⟨y, m, k, b1, b2, b3, b4, b5, b6, b7⟩
  · exact Or.inl q
  · exact Or.inr ⟨y, m, k, b1, b2, b3, b4, b5, b6, by rw [← e m b2]; exact b7⟩
