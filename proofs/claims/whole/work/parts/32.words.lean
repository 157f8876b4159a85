/-! words for the class's own methods -/
/-- the lengths of the rows that are never made anew -/
def lnOk (ln : Nat → Nat) (P : Nat) : Prop := (∀ j, j < 6 → ln (2 + 3 * j + 1) = P ∧ ln (2 + 3 * j + 2) = P) ∧ (∀ j, j < 4 → ln (21 + j) = P) ∧ (ln 26 = P ∧ ln 27 = 4 ∧ ln 28 = 4) ∧ (ln 30 = P ∧ ln 31 = P ∧ ln 33 = P ∧ ln 34 = P ∧ ln 36 = P ∧ ln 37 = P) ∧ ln 39 = P ∧ ln 40 = P ∧ ln 41 = 6
/-- the move v is the image of the move u under the row k -/
def imgOf (iv : Nat → Nat → Int32) (P v u k : Nat) : Prop := ∀ q, q < P → iv (v + 1) (tn (iv k q)) = iv k (tn (iv (u + 1) q)) ∧ iv (v + 2) (tn (iv k q)) = iv (u + 2) q
theorem in_follow {iv iv' : Nat → Nat → Int32} {b v P T : Nat} {G Ad : Nat → Nat} (hP : P ≤ 8) (hm : moveAt iv v P T G Ad) (h : ∀ p, p < P → vp_in (iv (b + 1) p) P) (hf : follows iv iv' b v P) : ∀ p, p < P → vp_in (iv' (b + 1) p) P := by
  intro p hp
  rw [hf.1, if_pos hp]
  unfold fo1
  obtain ⟨j, hj, ej⟩ := vp_in_of (h p hp) (by omega)
  rw [ej, show tn (nI j) = j from nI_clamp (by omega), (hm.2 j hj).1]
  exact vp_in_nI (hm.2 j hj).2.1 (by omega)
/-- sums of bytes -/
def hsum (f : Nat → Int32) : Nat → Int32
  | 0 => 0
  | i + 1 => hsum f i + f i
def bsum (s : Int32) (f : Nat → Int32) : Nat → Int32
  | 0 => s
  | i + 1 => jrem (bsum s f i + f i) (nI 251)
/-- a state's twists, a move done k times -/
def atw (T : Nat) (G Ad w t : Nat → Nat) : Nat → Nat → Nat
  | 0, i => t i
  | k + 1, i => (atw T G Ad w t k i + Ad (itg G k (w i))) % T
theorem atw_lt {T c : Nat} {G Ad w t : Nat → Nat} (hT : 0 < T) (h : ∀ i, i < c → t i < T) (k : Nat) : ∀ i, i < c → atw T G Ad w t k i < T := by
  intro i hi
  cases k with
  | zero => exact h i hi
  | succ k => exact Nat.mod_lt _ hT
theorem itg_inj {P c : Nat} {G w : Nat → Nat} (hG : inj G P P) (hw : inj w P c) : ∀ k, inj (fun i => itg G k (w i)) P c
  | 0 => hw
  | k + 1 => inj_comp (w := fun i => itg G k (w i)) (G := G) (itg_inj hG hw k) hG
/-- the first i from here on with f, at most n of them; 0 when there is none -/
def fs0 (f : Nat → Bool) : Nat → Nat → Nat
  | 0, _ => 0
  | n + 1, i => if f i then i else fs0 f n (i + 1)
theorem fs0_in (f : Nat → Bool) : ∀ (n i : Nat), fs0 f n i ≤ i + n
  | 0, i => Nat.zero_le _
  | n + 1, i => by
    unfold fs0
    have := fs0_in f n (i + 1)
    split <;> omega
/-- a value that will do: it is there, and leaves x by 3 -/
def okv (v x : Int32) : Bool := !decide (v < 0) && decide (jrem v (nI 3) = x)
/-- the least move, and how often -/
def dwn (ft : Nat → Nat) : Nat → Nat → Int32
  | 0, _ => -1
  | n + 1, i => if 0 < ft i then nI (16 * i + ft i) else dwn ft n (i + 1)
