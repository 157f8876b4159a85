/-! the classes by the good symmetries, one after the other -/
def relS (S : Nat) (img : Nat → Nat → Nat) (gd : Nat → Prop) (i x y : Nat) : Prop := ∃ j, j < i ∧ gd j ∧ x < S ∧ y = img j x
def clsTo (lk : Nat → Nat) (S : Nat) (img : Nat → Nat → Nat) (gd : Nat → Prop) (i : Nat) : Prop := dn lk S ∧ ∀ x y, x < S → y < S → (root lk x = root lk y ↔ eqg (relS S img gd i) x y)
theorem clsTo_0 {lk : Nat → Nat} {S : Nat} {img : Nat → Nat → Nat} {gd : Nat → Prop} (h : ∀ k, k < S → lk k = k) : clsTo lk S img gd 0 := by
  refine ⟨fun k hk => by rw [h k hk]; exact Nat.le_refl _, fun x y hx hy => ?_⟩
  rw [root_fix (h x hx), root_fix (h y hy)]
  refine ⟨fun e => by rw [e]; exact (eqg_eqv _).refl y, fun g => ?_⟩
  exact g (fun a b => a = b) ⟨fun _ => rfl, fun h => h.symm, fun h1 h2 => h1.trans h2⟩ (fun a b hr => by obtain ⟨j, hj, _⟩ := hr; exact absurd hj (Nat.not_lt_zero j))
theorem clsTo_n {lk : Nat → Nat} {S : Nat} {img : Nat → Nat → Nat} {gd : Nat → Prop} {i : Nat} (h : clsTo lk S img gd i) (hg : ¬ gd i) : clsTo lk S img gd (i + 1) := by
  refine ⟨h.1, fun x y hx hy => (h.2 x y hx hy).trans ⟨fun g => eqg_mono (fun a b hr => eqg_in ?_) g, fun g => eqg_mono (fun a b hr => eqg_in ?_) g⟩⟩
  · obtain ⟨j, h1, h2⟩ := hr
    exact ⟨j, by omega, h2⟩
  · obtain ⟨j, h1, h2, h3⟩ := hr
    refine ⟨j, ?_, h2, h3⟩
    rcases Nat.lt_or_ge j i with h4 | h4
    · exact h4
    · have : j = i := by omega
      subst this
      exact absurd h2 hg
theorem clsTo_s {lk lk' : Nat → Nat} {S : Nat} {img : Nat → Nat → Nat} {gd : Nat → Prop} {i : Nat} (h : clsTo lk S img gd i) (hg : gd i) (hi : ∀ j x, j < i → gd j → x < S → img j x < S) (j9 : joinedTo lk lk' S (img i) S) : clsTo lk' S img gd (i + 1) := by
  refine ⟨j9.1, fun x y hx hy => (j9.2 x y hx hy).trans ⟨fun g => eqg_mono (fun a b hr => ?_) g, fun g => eqg_mono (fun a b hr => ?_) g⟩⟩
  · rcases hr with ⟨ha, hb, hr⟩ | ⟨ha, hb⟩
    · refine eqg_mono (fun a b hr => eqg_in ?_) ((h.2 a b ha hb).mp hr)
      obtain ⟨j, h1, h2⟩ := hr
      exact ⟨j, by omega, h2⟩
    · exact eqg_in ⟨i, by omega, hg, ha, hb⟩
  · obtain ⟨j, h1, h2, h3, h4⟩ := hr
    rcases Nat.lt_or_ge j i with h5 | h5
    · have hb : b < S := by rw [h4]; exact hi j a h5 h2 h3
      exact eqg_in (Or.inl ⟨h3, hb, (h.2 a b h3 hb).mpr (eqg_in ⟨j, h5, h2, h3, h4⟩)⟩)
    · have e : j = i := by omega
      subst e
      exact eqg_in (Or.inr ⟨h3, h4⟩)
/-- a symmetry's image of a number, by the two rows that stand for it -/
def aiF (P T c : Nat) (Sg si : Nat → Nat) (r : Nat) : Nat := num P T c (fun i => Sg (dw P c r (si i))) (fun _ => 0) / T ^ c
def tiF (P T c : Nat) (Sg si : Nat → Nat) (x : Nat) : Nat := num P T c (fun i => Sg (dw P c 0 (si i))) (fun i => x / T ^ (c - 1 - si i) % T) % T ^ c
def imgF (P T c : Nat) (Sg si : Nat → Nat) (x : Nat) : Nat := aiF P T c Sg si (x / T ^ c) * T ^ c + tiF P T c Sg si (x % T ^ c)
theorem ai_lt {P T c r : Nat} {Sg si w pc : Nat → Nat} (hT : 0 < T) (hSi : inj Sg P P) (hpi : inj pc P c) (hsi : symIx Sg pc si c) (hw : inj w P c) (hr : ∀ i, i < c → rkw w i = rky P c r i) : num P T c (fun i => Sg (w (si i))) (fun _ => 0) / T ^ c = aiF P T c Sg si r ∧ aiF P T c Sg si r < ff P c := by
  have hd := dw_eq hw hr
  have e : num P T c (fun i => Sg (w (si i))) (fun _ => 0) = num P T c (fun i => Sg (dw P c r (si i))) (fun _ => 0) := num_congr (fun j hj => by rw [hd _ (hsi j hj).1]) (fun _ _ => rfl)
  refine ⟨by unfold aiF; rw [e], ?_⟩
  unfold aiF
  rw [← e]
  exact Nat.div_lt_of_lt_mul (by rw [Nat.mul_comm]; exact num_lt (inj_image hSi hpi hw hsi) (fun _ _ => hT))
theorem ti_lt {P T c x : Nat} {Sg si w pc : Nat → Nat} (hT : 0 < T) (hsi : symIx Sg pc si c) (hw : inj w P c) (hr : ∀ i, i < c → rkw w i = rky P c 0 i) : num P T c (fun i => Sg (w (si i))) (fun i => x / T ^ (c - 1 - si i) % T) % T ^ c = tiF P T c Sg si x ∧ tiF P T c Sg si x < T ^ c := by
  have hd := dw_eq hw hr
  have e : num P T c (fun i => Sg (w (si i))) (fun i => x / T ^ (c - 1 - si i) % T) = num P T c (fun i => Sg (dw P c 0 (si i))) (fun i => x / T ^ (c - 1 - si i) % T) := num_congr (fun j hj => by rw [hd _ (hsi j hj).1]) (fun _ _ => rfl)
  refine ⟨by unfold tiF; rw [e], ?_⟩
  unfold tiF
  exact Nat.mod_lt _ (Nat.pow_pos hT)
/-- goodness as the class sees it in its rows -/
def goodAt (iv : Nat → Nat → Int32) (P mc k : Nat) : Prop := (∀ p, p < P → iv 26 p ≠ 0 → iv 26 (tn (iv k p)) ≠ 0) ∧ ∀ j, j < mc → ∃ i, i < mc ∧ imgOf iv P (2 + 3 * i) (2 + 3 * j) k
theorem goodAt_congr {iv iv' : Nat → Nat → Int32} {P mc k : Nat} (h26 : iv' 26 = iv 26) (hk : iv' k = iv k) (hm : ∀ j, j < mc → iv' (2 + 3 * j + 1) = iv (2 + 3 * j + 1) ∧ iv' (2 + 3 * j + 2) = iv (2 + 3 * j + 2)) : goodAt iv' P mc k ↔ goodAt iv P mc k := by
  have key : ∀ i j, i < mc → j < mc → (imgOf iv' P (2 + 3 * i) (2 + 3 * j) k ↔ imgOf iv P (2 + 3 * i) (2 + 3 * j) k) := fun i j hi hj => by
    unfold imgOf
    rw [(hm i hi).1, (hm i hi).2, (hm j hj).1, (hm j hj).2, hk]
  unfold goodAt
  rw [h26, hk]
  refine and_congr Iff.rfl ⟨fun h j hj => ?_, fun h j hj => ?_⟩
  · obtain ⟨i, hi, q⟩ := h j hj
    exact ⟨i, hi, (key i j hi hj).mp q⟩
  · obtain ⟨i, hi, q⟩ := h j hj
    exact ⟨i, hi, (key i j hi hj).mpr q⟩
