/-! the table grows -/
/-- what was found has a value -/
def bQ (s : BS) : Prop := ∀ i, i < s.2.2 → s.1 (s.2.1 i) ≠ 0
theorem spr_mono (g : Nat → Nat) (fr : Nat) : ∀ (k x : Nat) (s : BS), s.2.2 ≤ (spr g fr k x s).2.2 ∧ (∀ i, i < s.2.2 → (spr g fr k x s).2.1 i = s.2.1 i) ∧ ∀ y, s.1 y ≠ 0 → (spr g fr k x s).1 y = s.1 y
  | 0, x, s => ⟨Nat.le_refl _, fun _ _ => rfl, fun _ _ => rfl⟩
  | k + 1, x, s => by
    unfold spr
    by_cases h0 : s.1 (g x) = 0
    · rw [if_pos h0]
      obtain ⟨a, b, c⟩ := spr_mono g fr k (g x) (va_up s.1 (g x) (s.1 fr + 1), va_up s.2.1 s.2.2 (g x), s.2.2 + 1)
      refine ⟨Nat.le_trans (Nat.le_succ _) a, fun i hi => (b i (Nat.lt_succ_of_lt hi)).trans (va_up_ne _ _ (by omega)), fun y hy => ?_⟩
      have hne : y ≠ g x := fun q => hy (by rw [q]; exact h0)
      have e : va_up s.1 (g x) (s.1 fr + 1) y = s.1 y := va_up_ne _ _ hne
      rw [c y (by show va_up s.1 (g x) (s.1 fr + 1) y ≠ 0; rw [e]; exact hy)]
      exact e
    · rw [if_neg h0]
      by_cases h1 : s.1 (g x) ≤ s.1 fr
      · rw [if_pos h1]; exact ⟨Nat.le_refl _, fun _ _ => rfl, fun _ _ => rfl⟩
      · rw [if_neg h1]; exact spr_mono g fr k (g x) s
theorem spr_Q (g : Nat → Nat) (fr : Nat) : ∀ (k x : Nat) (s : BS), bQ s → bQ (spr g fr k x s)
  | 0, x, s, h => h
  | k + 1, x, s, h => by
    unfold spr
    by_cases h0 : s.1 (g x) = 0
    · rw [if_pos h0]
      apply spr_Q g fr k
      intro i hi
      have hi : i < s.2.2 + 1 := hi
      show va_up s.1 (g x) (s.1 fr + 1) (va_up s.2.1 s.2.2 (g x) i) ≠ 0
      by_cases e : i = s.2.2
      · subst e
        rw [va_up_self, va_up_self]; omega
      · have h2 := h i (by omega)
        rw [va_up_ne _ _ e, va_up_ne _ _ (fun q => h2 (by rw [q]; exact h0))]
        exact h2
    · rw [if_neg h0]
      by_cases h1 : s.1 (g x) ≤ s.1 fr
      · rw [if_pos h1]; exact h
      · rw [if_neg h1]; exact spr_Q g fr k (g x) s h
/-- from fr the circles of the first k moves -/
def expd (bk : Nat → Nat → Nat) (rp : Nat → Nat) (fr : Nat) : Nat → BS → BS
  | 0, s => s
  | k + 1, s => spr (bk k) fr (rp k) fr (expd bk rp fr k s)
theorem expd_mono (bk : Nat → Nat → Nat) (rp : Nat → Nat) (fr : Nat) : ∀ (k : Nat) (s : BS), s.2.2 ≤ (expd bk rp fr k s).2.2 ∧ (∀ i, i < s.2.2 → (expd bk rp fr k s).2.1 i = s.2.1 i) ∧ ∀ y, s.1 y ≠ 0 → (expd bk rp fr k s).1 y = s.1 y
  | 0, s => ⟨Nat.le_refl _, fun _ _ => rfl, fun _ _ => rfl⟩
  | k + 1, s => by
    obtain ⟨a, b, c⟩ := expd_mono bk rp fr k s
    obtain ⟨a', b', c'⟩ := spr_mono (bk k) fr (rp k) fr (expd bk rp fr k s)
    exact ⟨Nat.le_trans a a', fun i hi => (b' i (by omega)).trans (b i hi), fun y hy => (c' y (by rw [c y hy]; exact hy)).trans (c y hy)⟩
theorem expd_Q (bk : Nat → Nat → Nat) (rp : Nat → Nat) (fr : Nat) : ∀ (k : Nat) (s : BS), bQ s → bQ (expd bk rp fr k s)
  | 0, _, h => h
  | k + 1, s, h => spr_Q _ _ _ _ _ (expd_Q bk rp fr k s h)
/-- the first i that were found have been gone on from -/
def bfs (bk : Nat → Nat → Nat) (rp : Nat → Nat) (mc : Nat) (s0 : BS) : Nat → BS
  | 0 => s0
  | i + 1 => if i < (bfs bk rp mc s0 i).2.2 then expd bk rp ((bfs bk rp mc s0 i).2.1 i) mc (bfs bk rp mc s0 i) else bfs bk rp mc s0 i
theorem bfs_stop {bk : Nat → Nat → Nat} {rp : Nat → Nat} {mc : Nat} {s0 : BS} {i : Nat} (h : (bfs bk rp mc s0 i).2.2 ≤ i) : ∀ {j : Nat}, i ≤ j → bfs bk rp mc s0 j = bfs bk rp mc s0 i := by
  intro j hj
  induction j with
  | zero => rw [show i = 0 by omega]
  | succ j ih =>
    rcases Nat.lt_or_ge j i with h1 | h1
    · rw [show i = j + 1 by omega]
    · have e := ih h1
      show (if j < (bfs bk rp mc s0 j).2.2 then _ else bfs bk rp mc s0 j) = _
      rw [e, if_neg (by omega)]
/-- the goal alone -/
def bs0 (g : Nat) : BS := (fun x => if x = g then 1 else 0, fun _ => g, 1)
theorem bs0_ok {S g : Nat} (hg : g < S) : bOk S (bs0 g) ∧ bQ (bs0 g) := by
  refine ⟨⟨?_, fun x _ => ?_, fun i _ => hg⟩, fun i _ => ?_⟩
  · show 1 = cnt (fun x => (if x = g then 1 else 0) != 0) S
    rw [cnt_up (M := g) (by simp) hg]
    have : ∀ n, cnt (fun k => ((if k = g then 1 else 0) != 0) && !(k == g)) n = 0 := by
      intro n
      induction n with
      | zero => rfl
      | succ n ih => rw [cnt_s, ih]; by_cases e : n = g <;> simp [e]
    rw [this]
  · show (if x = g then 1 else 0) ≤ 1
    split <;> omega
  · show (if g = g then 1 else 0) ≠ 0
    simp
