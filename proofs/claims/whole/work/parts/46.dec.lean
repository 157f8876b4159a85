/-! numbers of states, both ways -/
theorem numT_div {T : Nat} {t : Nat → Nat} {N : Nat} (hT : 0 < T) (i : Nat) : ∀ j, (∀ k, k < i + j → t k < T) → numT T t N (i + j) / T ^ j = numT T t N i
  | 0, _ => by simp
  | j + 1, h => by
    have ih := numT_div (N := N) hT i j (fun k hk => h k (by omega))
    show (numT T t N (i + j) * T + t (i + j)) / T ^ (j + 1) = _
    rw [Nat.pow_succ, Nat.mul_comm (T ^ j) T, ← Nat.div_div_eq_div_mul]
    have e : (numT T t N (i + j) * T + t (i + j)) / T = numT T t N (i + j) := by
      rw [Nat.mul_comm, Nat.mul_add_div hT, Nat.div_eq_of_lt (h _ (by omega))]
      omega
    rw [e]
    exact ih
theorem numT_lo {T : Nat} {t : Nat → Nat} {N : Nat} : ∀ c, numT T t N c = N * T ^ c + numT T t 0 c
  | 0 => by simp [numT]
  | c + 1 => by
    show numT T t N c * T + t c = N * T ^ (c + 1) + (numT T t 0 c * T + t c)
    rw [numT_lo c, Nat.add_mul, Nat.pow_succ, Nat.mul_assoc]
    omega
theorem numT_lt0 {T c : Nat} {t : Nat → Nat} (ht : ∀ i, i < c → t i < T) : numT T t 0 c < T ^ c := by
  have := numT_lt (T := T) (t := t) (N := 0) (F := 1) (by omega) ht
  omega
theorem num_div {P T c : Nat} {w t : Nat → Nat} (hT : 0 < T) (ht : ∀ i, i < c → t i < T) : num P T c w t / T ^ c = numA P w c := by
  have := numT_div (N := numA P w c) hT 0 c (fun k hk => ht k (by omega))
  rw [Nat.zero_add] at this
  exact this
theorem num_mod {P T c : Nat} {w t : Nat → Nat} (ht : ∀ i, i < c → t i < T) : num P T c w t % T ^ c = numT T t 0 c := by
  unfold num
  rw [numT_lo, Nat.add_comm, Nat.add_mul_mod_self_right]
  exact Nat.mod_eq_of_lt (numT_lt0 ht)
theorem num_dt {P T c i : Nat} {w t : Nat → Nat} (hT : 0 < T) (ht : ∀ i, i < c → t i < T) (hi : i < c) : dt T c (num P T c w t) i = t i := by
  unfold dt num
  have := numT_div (N := numA P w c) hT (i + 1) (c - 1 - i) (fun k hk => ht k (by omega))
  rw [show i + 1 + (c - 1 - i) = c by omega] at this
  rw [this]
  show (numT T t (numA P w c) i * T + t i) % T = t i
  rw [Nat.add_comm, Nat.add_mul_mod_self_right]
  exact Nat.mod_eq_of_lt (ht i hi)
theorem prd_snoc {P : Nat} : ∀ (m k : Nat), prd P k (m + 1) = prd P k m * (P - (k + m))
  | 0, k => by simp [prd]
  | m + 1, k => by
    show (P - k) * prd P (k + 1) (m + 1) = (P - k) * prd P (k + 1) m * (P - (k + (m + 1)))
    rw [prd_snoc m (k + 1), Nat.mul_assoc, show k + 1 + m = k + (m + 1) by omega]
theorem prd_ff {P : Nat} : ∀ c, prd P 0 c = ff P c
  | 0 => rfl
  | c + 1 => by
    rw [prd_snoc, prd_ff c, Nat.zero_add]
    rfl
theorem numA_div {P : Nat} {w : Nat → Nat} (i : Nat) : ∀ j, inj w P (i + j) → numA P w (i + j) / prd P i j = numA P w i
  | 0, _ => by simp [prd]
  | j + 1, h => by
    have hP := inj_le_P h
    have ih := numA_div i j (inj_le h (by omega))
    show (numA P w (i + j) * (P - (i + j)) + rkw w (i + j)) / prd P i (j + 1) = _
    rw [prd_snoc, Nat.mul_comm (prd P i j), ← Nat.div_div_eq_div_mul]
    have hr := rkw_lt (inj_le h (show i + j + 1 ≤ i + (j + 1) by omega))
    have e : (numA P w (i + j) * (P - (i + j)) + rkw w (i + j)) / (P - (i + j)) = numA P w (i + j) := by
      rw [Nat.mul_comm, Nat.mul_add_div (by omega), Nat.div_eq_of_lt hr]
      omega
    rw [e]
    exact ih
theorem rky_num {P c i : Nat} {w : Nat → Nat} (hw : inj w P c) (hi : i < c) : rky P c (numA P w c) i = rkw w i := by
  unfold rky
  have h := numA_div (P := P) (w := w) (i + 1) (c - (i + 1)) (by rw [show i + 1 + (c - (i + 1)) = c by omega]; exact hw)
  rw [show i + 1 + (c - (i + 1)) = c by omega] at h
  rw [h]
  show (numA P w i * (P - i) + rkw w i) % (P - i) = rkw w i
  rw [Nat.add_comm, Nat.add_mul_mod_self_right]
  exact Nat.mod_eq_of_lt (rkw_lt (inj_le hw (by omega)))
theorem dw_num {P T c i : Nat} {w t : Nat → Nat} (hT : 0 < T) (hw : inj w P c) (ht : ∀ i, i < c → t i < T) (hi : i < c) : dw P c (num P T c w t / T ^ c) i = w i := by
  rw [num_div hT ht]
  exact (dw_eq hw (fun j hj => (rky_num hw hj).symm) i hi).symm
theorem numA_dw {P c y : Nat} (hc : c ≤ P) (hy : y < ff P c) : numA P (dw P c y) c = y := by
  obtain ⟨h1, h2⟩ := dw_ok (y := y) hc
  have key : ∀ i, i ≤ c → numA P (dw P c y) i = y / prd P i (c - i) := by
    intro i
    induction i with
    | zero => intro _; rw [Nat.sub_zero, prd_ff, Nat.div_eq_of_lt hy]; rfl
    | succ i ih =>
      intro hi
      show numA P (dw P c y) i * (P - i) + rkw (dw P c y) i = _
      rw [ih (by omega), h2 i (by omega), prd_s (show i < c by omega), Nat.mul_comm (P - i) _, ← Nat.div_div_eq_div_mul]
      unfold rky
      rw [Nat.mul_comm]
      exact Nat.div_add_mod _ _
  rw [key c (Nat.le_refl c), Nat.sub_self]
  simp [prd]
theorem numT_dt {T c x : Nat} : ∀ i, i ≤ c → numT T (dt T c x) (x / T ^ c) i = x / T ^ (c - i)
  | 0, _ => rfl
  | i + 1, h => by
    show numT T (dt T c x) (x / T ^ c) i * T + dt T c x i = _
    rw [numT_dt i (by omega), show c - i = (c - (i + 1)) + 1 by omega, Nat.pow_succ, ← Nat.div_div_eq_div_mul]
    unfold dt
    rw [show c - 1 - i = c - (i + 1) by omega, Nat.mul_comm]
    exact Nat.div_add_mod _ _
theorem num_dec {P T c x : Nat} (hT : 0 < T) (hc : c ≤ P) (hx : x < ff P c * T ^ c) : num P T c (dw P c (x / T ^ c)) (dt T c x) = x := by
  unfold num
  rw [numA_dw hc (Nat.div_lt_of_lt_mul (by rw [Nat.mul_comm]; exact hx)), numT_dt c (Nat.le_refl c), Nat.sub_self, Nat.pow_zero, Nat.div_one]
theorem dt_lt {T c x i : Nat} (hT : 0 < T) : dt T c x i < T := Nat.mod_lt _ hT
theorem dt_mod {T c x i : Nat} (hi : i < c) : dt T c (x % T ^ c) i = dt T c x i := by
  unfold dt
  have e : T ^ c = T ^ (c - 1 - i) * (T * T ^ i) := by rw [← Nat.pow_succ', ← Nat.pow_add]; congr 1; omega
  rw [e, Nat.mod_mul_right_div_self, Nat.mod_mul_right_mod]
theorem mod_numT {T c x : Nat} (hT : 0 < T) : x % T ^ c = numT T (dt T c x) 0 c := by
  have h := numT_dt (T := T) (x := x) c (Nat.le_refl c)
  rw [Nat.sub_self, Nat.pow_zero, Nat.div_one, numT_lo] at h
  have h2 := Nat.div_add_mod x (T ^ c)
  rw [Nat.mul_comm] at h2
  omega
theorem numT_cg {T N : Nat} {a b : Nat → Nat} {c : Nat} (h : ∀ i, i < c → a i = b i) : numT T a N c = numT T b N c := numT_congr h
theorem tsum_num {T : Nat} (hT : 0 < T) {a b : Nat → Nat} : ∀ c, (∀ i, i < c → a i < T ∧ b i < T) → tsum T c (numT T a 0 c) (numT T b 0 c) = numT T (fun i => (a i + b i) % T) 0 c
  | 0, _ => rfl
  | c + 1, h => by
    obtain ⟨ha, hb⟩ := h c (by omega)
    show (numT T a 0 c * T + a c + (numT T b 0 c * T + b c)) % T + T * tsum T c ((numT T a 0 c * T + a c) / T) ((numT T b 0 c * T + b c) / T) = numT T (fun i => (a i + b i) % T) 0 c * T + (a c + b c) % T
    have e1 : (numT T a 0 c * T + a c) / T = numT T a 0 c := by rw [Nat.mul_comm, Nat.mul_add_div hT, Nat.div_eq_of_lt ha]; omega
    have e2 : (numT T b 0 c * T + b c) / T = numT T b 0 c := by rw [Nat.mul_comm, Nat.mul_add_div hT, Nat.div_eq_of_lt hb]; omega
    have e3 : (numT T a 0 c * T + a c + (numT T b 0 c * T + b c)) % T = (a c + b c) % T := by
      rw [show numT T a 0 c * T + a c + (numT T b 0 c * T + b c) = (a c + b c) + (numT T a 0 c + numT T b 0 c) * T by rw [Nat.add_mul]; omega, Nat.add_mul_mod_self_right]
    rw [e1, e2, e3, tsum_num hT c (fun i hi => h i (by omega)), Nat.mul_comm T]
    omega
/-- one move back, by numbers -/
def bkN (P T c : Nat) (G Ad : Nat → Nat) (x : Nat) : Nat := num P T c (fun i => ginv P G (dw P c (x / T ^ c) i)) (fun i => (dt T c x i + T - Ad (ginv P G (dw P c (x / T ^ c) i))) % T)
theorem ginv_lt {P x : Nat} {G : Nat → Nat} (h : inj G P P) (hx : x < P) : ginv P G x < P := (ginv_inj h).1 x hx
theorem bkf_bkN {P T c x : Nat} {G Ad : Nat → Nat} (hT : 0 < T) (hc : c ≤ P) (hG : inj G P P) (hA : ∀ q, q < P → Ad q < T) : bkf P T c G Ad x = bkN P T c G Ad x := by
  obtain ⟨h1, h2⟩ := dw_ok (y := x / T ^ c) hc
  have hu : ∀ i, i < c → ainv P T G Ad (dw P c (x / T ^ c) i) < T := fun i _ => Nat.mod_lt _ hT
  unfold bkf bkN
  rw [num_div hT hu, num_mod hu, mod_numT hT, tsum_num hT c (fun i hi => ⟨dt_lt hT, hu i hi⟩)]
  conv => rhs; unfold num; rw [numT_lo]
  congr 1
  refine numT_cg (fun i hi => ?_)
  have ha := hA _ (ginv_lt hG (h1.1 i hi))
  show (dt T c x i + (T - Ad (ginv P G (dw P c (x / T ^ c) i))) % T) % T = _
  rw [Nat.add_mod_mod, Nat.add_sub_assoc (by omega)]
theorem bkN_lt {P T c x : Nat} {G Ad : Nat → Nat} (hT : 0 < T) (hc : c ≤ P) (hG : inj G P P) : bkN P T c G Ad x < ff P c * T ^ c :=
  num_lt (inj_comp (dw_ok hc).1 (ginv_inj hG)) (fun _ _ => Nat.mod_lt _ hT)
/-- a symmetry's image, by numbers -/
def imN (P T c : Nat) (Sg si : Nat → Nat) (x : Nat) : Nat := num P T c (fun i => Sg (dw P c (x / T ^ c) (si i))) (fun i => dt T c x (si i))
theorem imgF_imN {P T c x : Nat} {Sg si pc : Nat → Nat} (hT : 0 < T) (hsi : symIx Sg pc si c) : imgF P T c Sg si x = imN P T c Sg si x := by
  unfold imgF imN aiF tiF
  rw [num_div hT (fun _ _ => hT), num_mod (fun _ _ => Nat.mod_lt _ hT)]
  conv => rhs; unfold num; rw [numT_lo]
  congr 1
  refine numT_cg (fun i hi => ?_)
  exact dt_mod (hsi i hi).1
