/-! a move or a symmetry, as functions of places -/
/-- the cell v holds the move that brings q to G q and adds Ad q -/
def moveAt (iv : Nat → Nat → Int32) (v P T : Nat) (G Ad : Nat → Nat) : Prop := iv v 0 = nI T ∧ ∀ q, q < P → iv (v + 1) q = nI (G q) ∧ G q < P ∧ iv (v + 2) q = nI (Ad q) ∧ Ad q < T
theorem zdig {r T c i : Nat} (hT : 0 < T) : r * T ^ c % T ^ c / T ^ (c - 1 - i) % T = 0 := by
  rw [Nat.mul_mod_left]; simp
/-- a state that is held follows a move -/
theorem holds_follow {iv iv' : Nat → Nat → Int32} {b v P T c : Nat} {pc w t G Ad : Nat → Nat} (hT1 : 0 < T) (hT3 : T ≤ 3) (hP : P ≤ 8) (hm : moveAt iv v P T G Ad) (hpi : inj pc P c) (hwi : inj w P c) (htT : ∀ i, i < c → t i < T) (h : holdsAt iv b c pc w t) (hf : follows iv iv' b v P) : holdsAt iv' b c pc (fun i => G (w i)) (fun i => (t i + Ad (w i)) % T) := by
  refine ⟨fun i hi => ?_, fun i hi => ?_⟩
  · rw [hf.1, if_pos (hpi.1 i hi)]
    unfold fo1
    rw [h.1 i hi]
    have hw := hwi.1 i hi
    rw [show tn (nI (w i)) = w i from nI_clamp (by omega)]
    exact (hm.2 _ hw).1
  · rw [hf.2.1, if_pos (hpi.1 i hi)]
    unfold fo2
    rw [h.1 i hi, h.2 i hi]
    have hw := hwi.1 i hi
    rw [show tn (nI (w i)) = w i from nI_clamp (by omega), (hm.2 _ hw).2.2.1, hm.1, nI_add]
    have h1 := htT i hi
    have h2 := (hm.2 _ hw).2.2.2
    exact grem (by omega) hT1 (by omega)
theorem inj_comp {w G : Nat → Nat} {P c : Nat} (hw : inj w P c) (hG : inj G P P) : inj (fun i => G (w i)) P c := ⟨fun j hj => hG.1 _ (hw.1 j hj), fun j k hj hk e => hw.2 j k hj hk (hG.2 _ _ (hw.1 j hj) (hw.1 k hk) e)⟩
theorem num_lt {P T c : Nat} {w t : Nat → Nat} (hw : inj w P c) (ht : ∀ i, i < c → t i < T) : num P T c w t < ff P c * T ^ c := numT_lt (numA_lt hw) ht
