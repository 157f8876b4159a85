/-! what the two sides hold, together -/
abbrev gdN (P mc : Nat) (ch : Nat → Bool) (G Ad : Nat → Nat → Nat) (Sz : Nat → Nat) : Prop := (∀ p, p < P → ch p = ch (Sz p)) ∧ ∀ j, j < mc → ∃ i, i < mc ∧ imgN P Sz (G j) (Ad j) (G i) (Ad i)
abbrev imZ (P T : Nat) (ch : Nat → Bool) (Sg : Nat → Nat → Nat) : Nat → Nat → Nat := fun z => imN P T (cnt ch P) (Sg z) (siF ch P (Sg z))
def LIc (P T mc sc : Nat) (ch : Nat → Bool) (G Ad Sg : Nat → Nat → Nat) (w t : Nat → Nat) : Prop :=
  2 ≤ P ∧ P ≤ 8 ∧ 0 < T ∧ T ≤ 3 ∧ mc ≤ 6 ∧ sc ≤ 4 ∧ cnt ch P ≤ 4 ∧ (∀ j, inj (G j) P P ∧ ∀ q, q < P → Ad j q < T) ∧ (∀ z, inj (Sg z) P P) ∧ inj w P (cnt ch P) ∧ (∀ i, i < cnt ch P → t i < T) ∧ ∀ j, mc ≤ j → ∀ q, q < P → G j q = q ∧ Ad j q = 0
def LIl (P : Nat) (ln : Nat → Nat) : Prop := (∀ k, ln k < 2 ^ 31) ∧ lnOk ln P ∧ rln ln
def LIa (P T mc sc : Nat) (ch : Nat → Bool) (iv : Nat → Nat → Int32) : Prop :=
  iv 0 0 = nI P ∧ iv 0 1 = nI T ∧ iv 0 3 = nI mc ∧ iv 0 5 = nI sc ∧ iv 25 0 = nI P ∧ iv 25 1 = nI T ∧ iv 25 5 = nI (cnt ch P) ∧ iv 25 6 = nI (ff P (cnt ch P)) ∧ iv 25 7 = nI (T ^ cnt ch P) ∧ (∀ i, i < cnt ch P → iv 27 i = nI (pcs ch P i)) ∧ (∀ j, iv 26 j = 0 ∨ iv 26 j = 1) ∧ ∀ p, p < P → iv 26 p = if ch p then 1 else 0
def LIm (P T : Nat) (G Ad : Nat → Nat → Nat) (iv : Nat → Nat → Int32) : Prop := ∀ j, j < 6 → moveAt iv (2 + 3 * j) P T (G j) (Ad j)
def LIs (P sc : Nat) (Sg : Nat → Nat → Nat) (iv : Nat → Nat → Int32) : Prop := ∀ z, z < sc → ∀ p, p < P → iv (21 + z) p = nI (Sg z p)
def LIn (P T : Nat) (ch : Nat → Bool) (w t : Nat → Nat) (iv : Nat → Nat → Int32) : Prop := holdsAt iv 29 (cnt ch P) (pcs ch P) w t ∧ (∀ p, p < P → vp_in (iv 30 p) P) ∧ (∀ p, p < P → vp_in (iv 33 p) P) ∧ iv 38 0 = nI T
def LIr (P T mc sc : Nat) (ch : Nat → Bool) (G Ad Sg : Nat → Nat → Nat) (w t : Nat → Nat) (iv : Nat → Nat → Int32) : Prop :=
  iv 53 1 = nI P ∧ iv 53 2 = nI T ∧ iv 53 3 = nI mc ∧ iv 53 7 = nI (cnt ch P) ∧ iv 53 11 = nI (num P T (cnt ch P) w t) ∧ iv 53 18 = nI sc ∧ (∀ j, j < mc → rmove iv j P T (G j) (Ad j)) ∧ (∀ p, p < P → iv 56 p = if ch p then 1 else 0) ∧ (∀ i, i < cnt ch P → iv 57 i = nI (pcs ch P i)) ∧ ∀ z, z < sc → rsym iv z P (Sg z)
def LIt (S : Nat) (ln : Nat → Nat) (iv : Nat → Nat → Int32) : Prop :=
  (iv 46 0 = 0 ∧ iv 53 12 = 0) ∨ (iv 46 0 = 1 ∧ iv 53 12 = 1 ∧ ∃ (k9 : Nat) (s : BS), k9 < 2 ∧ iv 46 1 = nI k9 ∧ iv 53 13 = nI k9 ∧ iv 46 2 = nI S ∧ iv 53 14 = nI S ∧ S ≤ ln 47 ∧ S ≤ ln 48 ∧ TB S s ∧ tabAt iv S s ∧ ∀ x, x < S → iv 60 x = iv 47 x)
def LIo (P T mc sc : Nat) (ch : Nat → Bool) (G Ad Sg : Nat → Nat → Nat) (ln : Nat → Nat) (iv : Nat → Nat → Int32) : Prop :=
  iv 49 0 = 0 ∨ (iv 49 0 = 1 ∧ iv 49 2 = nI (ff P (cnt ch P) * T ^ cnt ch P) ∧ ff P (cnt ch P) * T ^ cnt ch P ≤ ln 50 ∧ ∃ lk, (∀ k, k < ff P (cnt ch P) * T ^ cnt ch P → iv 50 k = nI (lk k)) ∧ clsTo lk (ff P (cnt ch P) * T ^ cnt ch P) (imZ P T ch Sg) (fun z => gdN P mc ch G Ad (Sg z)) sc ∧ iv 49 1 = nI (nroot lk (ff P (cnt ch P) * T ^ cnt ch P)))
def LI (P T mc sc : Nat) (ch : Nat → Bool) (G Ad Sg : Nat → Nat → Nat) (w t : Nat → Nat) (ln : Nat → Nat) (iv : Nat → Nat → Int32) : Prop :=
  LIc P T mc sc ch G Ad Sg w t ∧ LIl P ln ∧ LIa P T mc sc ch iv ∧ LIm P T G Ad iv ∧ LIs P sc Sg iv ∧ LIn P T ch w t iv ∧ LIr P T mc sc ch G Ad Sg w t iv ∧ LIt (ff P (cnt ch P) * T ^ cnt ch P) ln iv ∧ LIo P T mc sc ch G Ad Sg ln iv
section LIX
variable {P T mc sc : Nat} {ch : Nat → Bool} {G Ad Sg : Nat → Nat → Nat} {w t : Nat → Nat} {ln : Nat → Nat} {iv jv : Nat → Nat → Int32}
theorem LIa_cg (h : LIa P T mc sc ch iv) (e0 : jv 0 = iv 0) (e25 : jv 25 = iv 25) (e26 : jv 26 = iv 26) (e27 : jv 27 = iv 27) : LIa P T mc sc ch jv := by
  unfold LIa
  rw [e0, e25, e26, e27]
  exact h
theorem LIm_cg (h : LIm P T G Ad iv) (e : ∀ q, 2 ≤ q → q < 20 → jv q = iv q) : LIm P T G Ad jv := by
  intro j hj
  unfold moveAt
  rw [e (2 + 3 * j) (by omega) (by omega), e (2 + 3 * j + 1) (by omega) (by omega), e (2 + 3 * j + 2) (by omega) (by omega)]
  exact h j hj
theorem LIs_cg (h : LIs P sc Sg iv) (hsc : sc ≤ 4) (e : ∀ q, 21 ≤ q → q < 25 → jv q = iv q) : LIs P sc Sg jv := by
  intro z hz p hp
  rw [e (21 + z) (by omega) (by omega)]
  exact h z hz p hp
theorem LIn_cg (h : LIn P T ch w t iv) (e30 : jv 30 = iv 30) (e31 : jv 31 = iv 31) (h33 : ∀ p, p < P → vp_in (jv 33 p) P) (e38 : jv 38 = iv 38) : LIn P T ch w t jv := by
  obtain ⟨h1, h2, _, h4⟩ := h
  refine ⟨?_, by rw [e30]; exact h2, h33, by rw [e38]; exact h4⟩
  unfold holdsAt
  show (∀ i, i < cnt ch P → jv 30 (pcs ch P i) = nI (w i)) ∧ ∀ i, i < cnt ch P → jv 31 (pcs ch P i) = nI (t i)
  rw [e30, e31]
  exact h1
theorem LIr_cg (h : LIr P T mc sc ch G Ad Sg w t iv) (e53 : ∀ j, j ≠ 0 → j ≠ 12 → j ≠ 13 → j ≠ 14 → jv 53 j = iv 53 j) (e54 : jv 54 = iv 54) (e55 : jv 55 = iv 55) (e56 : jv 56 = iv 56) (e57 : jv 57 = iv 57) (e63 : jv 63 = iv 63) : LIr P T mc sc ch G Ad Sg w t jv := by
  unfold LIr
  rw [e53 1 (by decide) (by decide) (by decide) (by decide), e53 2 (by decide) (by decide) (by decide) (by decide), e53 3 (by decide) (by decide) (by decide) (by decide), e53 7 (by decide) (by decide) (by decide) (by decide), e53 11 (by decide) (by decide) (by decide) (by decide), e53 18 (by decide) (by decide) (by decide) (by decide), e56, e57]
  obtain ⟨a1, a2, a3, a4, a5, a6, a7, a8, a9, a10⟩ := h
  refine ⟨a1, a2, a3, a4, a5, a6, fun j hj q hq => ?_, a8, a9, fun z hz q hq => ?_⟩
  · rw [e54, e55]
    exact a7 j hj q hq
  · rw [e63]
    exact a10 z hz q hq
theorem LIt_cg {S : Nat} (h : LIt S ln iv) (e46 : jv 46 = iv 46) (e47 : jv 47 = iv 47) (e48 : jv 48 = iv 48) (e53 : ∀ j, j ≠ 0 → jv 53 j = iv 53 j) (e60 : jv 60 = iv 60) : LIt S ln jv := by
  unfold LIt tabAt
  rw [e46, e47, e48, e60, e53 12 (by decide), e53 13 (by decide), e53 14 (by decide)]
  exact h
theorem LIt_cg' {S : Nat} (h : LIt S ln iv) (e46 : jv 46 = iv 46) (e47 : jv 47 = iv 47) (e48 : jv 48 = iv 48) (f1 : jv 53 12 = iv 53 12) (f2 : jv 53 13 = iv 53 13) (f3 : jv 53 14 = iv 53 14) (e60 : jv 60 = iv 60) : LIt S ln jv := by
  unfold LIt tabAt
  rw [e46, e47, e48, e60, f1, f2, f3]
  exact h
theorem LIt_drop {S : Nat} (h1 : jv 46 0 = 0) (h2 : jv 53 12 = 0) : LIt S ln jv := Or.inl ⟨h1, h2⟩
theorem LIo_cg (h : LIo P T mc sc ch G Ad Sg ln iv) (e49 : jv 49 = iv 49) (e50 : jv 50 = iv 50) : LIo P T mc sc ch G Ad Sg ln jv := by
  unfold LIo
  rw [e49, e50]
  exact h
/-- rows that nobody looks into again -/
def scr (q : Nat) : Bool := q == 28 || q == 33 || q == 34 || q == 36 || q == 37 || q == 39 || q == 40 || q == 41 || q == 42 || q == 43 || q == 44 || q == 45 || q == 51 || q == 52 || q == 53 || q == 58 || q == 59 || q == 61 || q == 62 || q == 64 || q == 65 || q == 66
theorem LI_fr (h : LI P T mc sc ch G Ad Sg w t ln iv) (e53 : ∀ j, j ≠ 0 → jv 53 j = iv 53 j) (hq : ∀ q, scr q = false → jv q = iv q) (h33 : ∀ p, p < P → vp_in (jv 33 p) P) : LI P T mc sc ch G Ad Sg w t ln jv := by
  obtain ⟨h1, h2, h3, h4, h5, h6, h7, h8, h9⟩ := h
  refine ⟨h1, h2, LIa_cg h3 (hq 0 rfl) (hq 25 rfl) (hq 26 rfl) (hq 27 rfl), LIm_cg h4 (fun q a b => hq q ?_), LIs_cg h5 h1.2.2.2.2.2.1 (fun q a b => hq q ?_), LIn_cg h6 (hq 30 rfl) (hq 31 rfl) h33 (hq 38 rfl), LIr_cg h7 (fun j a _ _ _ => e53 j a) (hq 54 rfl) (hq 55 rfl) (hq 56 rfl) (hq 57 rfl) (hq 63 rfl), LIt_cg h8 (hq 46 rfl) (hq 47 rfl) (hq 48 rfl) e53 (hq 60 rfl), LIo_cg h9 (hq 49 rfl) (hq 50 rfl)⟩
  · have : ∀ q, q < 20 → scr q = false := by decide
    exact this q b
  · rcases (show q = 21 ∨ q = 22 ∨ q = 23 ∨ q = 24 by omega) with rfl | rfl | rfl | rfl <;> rfl
theorem LI_th (h : LI P T mc sc ch G Ad Sg w t ln iv) (x : Int32) : LI P T mc sc ch G Ad Sg w t ln (up2 iv 53 0 x) :=
  LI_fr h (fun j hj => up2_n (fun u => hj u.2)) (fun q hq => up2_row (fun u => by rw [u] at hq; exact absurd hq (by decide))) (fun p hp => by rw [up2_row (by decide)]; exact h.2.2.2.2.2.1.2.2.1 p hp)
end LIX
