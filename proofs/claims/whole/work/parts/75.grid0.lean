/-! ===== rows of a grid, counted ===== -/
theorem sumN_cg {f g : Nat → Nat} : ∀ n, (∀ i, i < n → f i = g i) → sumN f n = sumN g n := by
  intro n
  induction n with
  | zero => intro _; rfl
  | succ n ih => intro h; rw [sumN_s, sumN_s, ih (fun i hi => h i (by omega)), h n (by omega)]
theorem sumN_up {f : Nat → Nat} {i : Nat} : ∀ m, i ≤ m → sumN f i ≤ sumN f m := by
  intro m
  induction m with
  | zero => intro h; rw [show i = 0 by omega]; exact Nat.le_refl _
  | succ m ih =>
    intro h
    by_cases e : i = m + 1
    · rw [e]; exact Nat.le_refl _
    · have := ih (by omega); rw [sumN_s]; omega
/-- row j of the first i, by the code p -/
def rwD (R i p j : Nat) : Nat := p / R ^ (i - 1 - j) % R
theorem rwD_pre {R i m c p j : Nat} (hi : i ≤ m) (hj : j < i) (h : c / R ^ (m - i) = p) : rwD R m c j = rwD R i p j := by
  unfold rwD
  rw [← h, Nat.div_div_eq_div_mul, ← Nat.pow_add, show m - i + (i - 1 - j) = m - 1 - j by omega]
theorem rwD_last {R i p r : Nat} (hr : r < R) : rwD R (i + 1) (p * R + r) i = r := by
  unfold rwD
  rw [show i + 1 - 1 - i = 0 by omega, Nat.pow_zero, Nat.div_one, Nat.mul_comm, Nat.mul_add_mod, Nat.mod_eq_of_lt hr]
theorem rwD_step {R i p r j : Nat} (hr : r < R) (hj : j < i) : rwD R (i + 1) (p * R + r) j = rwD R i p j := by
  refine rwD_pre (by omega) hj ?_
  rw [show i + 1 - i = 1 by omega, Nat.pow_one, Nat.mul_comm, Nat.mul_add_div (by omega), Nat.div_eq_of_lt hr, Nat.add_zero]
theorem rwD_lt {R i p j : Nat} (hR : 0 < R) : rwD R i p j < R := Nat.mod_lt _ hR
section GQ
variable (qv : Nat → Nat → Bool → Nat)
/-- what the sign i quarrels with those ahead of it -/
def qI (row : Nat → Nat) (i : Nat) : Nat := sumN (fun j => qv i j (row i == row j)) i
def tqp (R i p : Nat) : Nat := sumN (qI qv (rwD R i p)) i
/-- the best of the first n codes: its quarrel, itself -/
def bst (R m : Nat) : Nat → Nat × Nat
  | 0 => (1073741824, 0)
  | n + 1 => if tqp qv R m n < (bst R m n).1 then (tqp qv R m n, n) else bst R m n
variable {qv}
theorem qI_cg {row row' : Nat → Nat} {i : Nat} (h : ∀ j, j ≤ i → row j = row' j) : qI qv row i = qI qv row' i := by
  unfold qI
  refine sumN_cg i (fun j hj => ?_)
  rw [h i (Nat.le_refl _), h j (by omega)]
theorem tqp_pre {R i m c p : Nat} (hi : i ≤ m) (h : c / R ^ (m - i) = p) : tqp qv R i p ≤ tqp qv R m c := by
  unfold tqp
  refine Nat.le_trans ?_ (sumN_up m hi)
  refine Nat.le_of_eq (sumN_cg i (fun k hk => qI_cg (fun j hj => (rwD_pre hi (by omega) h).symm)))
theorem tqp_step {R i p r : Nat} (hr : r < R) : tqp qv R (i + 1) (p * R + r) = tqp qv R i p + qI qv (rwD R (i + 1) (p * R + r)) i := by
  unfold tqp
  rw [sumN_s]
  congr 1
  exact sumN_cg i (fun k hk => qI_cg (fun j hj => rwD_step hr (by omega)))
theorem bst_skip {R m a : Nat} : ∀ d, (∀ c, a ≤ c → c < a + d → (bst qv R m a).1 ≤ tqp qv R m c) → bst qv R m (a + d) = bst qv R m a := by
  intro d
  induction d with
  | zero => intro _; rfl
  | succ d ih =>
    intro h
    have e := ih (fun c h1 h2 => h c h1 (by omega))
    show (if tqp qv R m (a + d) < (bst qv R m (a + d)).1 then _ else _) = _
    rw [e, if_neg (by have := h (a + d) (by omega) (by omega); omega)]
    exact e
theorem bst_le {R m : Nat} (hb : ∀ c, tqp qv R m c < 1073741824) : ∀ n, 0 < n → (bst qv R m n).1 < 1073741824 := by
  intro n
  induction n with
  | zero => intro h; omega
  | succ n ih =>
    intro _
    unfold bst
    by_cases e : tqp qv R m n < (bst qv R m n).1
    · rw [if_pos e]; exact hb n
    · rw [if_neg e]
      by_cases z : n = 0
      · subst z
        have := hb 0
        exact absurd this e
      · exact ih (by omega)
theorem tqp_lt {R m : Nat} (hm : m ≤ 8) (hq : ∀ i j b, qv i j b ≤ 96) (c : Nat) : tqp qv R m c ≤ 6144 := by
  unfold tqp
  have := sumN_le (f := qI qv (rwD R m c)) (B := 768) m (fun i hi => by
    unfold qI
    have := sumN_le (f := fun j => qv i j (rwD R m c i == rwD R m c j)) (B := 96) i (fun j _ => hq _ _ _)
    have : 96 * i ≤ 96 * 8 := Nat.mul_le_mul_left _ (by omega)
    omega)
  have : 768 * m ≤ 768 * 8 := Nat.mul_le_mul_left _ hm
  omega
end GQ
/-! the next code -/
theorem od_top {R n e : Nat} (hR : 0 < R) (h : n % R ^ e = R ^ e - 1) (h2 : n / R ^ e % R = R - 1) : n % R ^ (e + 1) = R ^ (e + 1) - 1 := by
  rw [Nat.mod_pow_succ, h, h2, Nat.pow_succ]
  have p := Nat.pow_pos (n := e) hR
  obtain ⟨r, rfl⟩ : ∃ r, R = r + 1 := ⟨R - 1, by omega⟩
  rw [Nat.add_sub_cancel, Nat.mul_succ]
  omega
theorem od_div {R n e : Nat} (hR : 0 < R) (h : n % R ^ e = R ^ e - 1) : (n + 1) / R ^ e = n / R ^ e + 1 ∧ n + 1 = R ^ e * (n / R ^ e + 1) := by
  have p := Nat.pow_pos (n := e) hR
  have d := Nat.div_add_mod n (R ^ e)
  have e2 : n + 1 = R ^ e * (n / R ^ e + 1) := by rw [Nat.mul_succ]; omega
  refine ⟨?_, e2⟩
  rw [e2, Nat.mul_div_cancel_left _ p]
theorem od_hi {R m k n j : Nat} (hR : 0 < R) (hk : k < m) (hj : j < k) (h : n % R ^ (m - (k + 1)) = R ^ (m - (k + 1)) - 1) (h2 : ¬ rwD R m n k = R - 1) : rwD R m (n + 1) j = rwD R m n j := by
  have h2' : ¬ n / R ^ (m - (k + 1)) % R = R - 1 := by unfold rwD at h2; rw [show m - 1 - k = m - (k + 1) by omega] at h2; exact h2
  have key : (n + 1) / R ^ (m - (k + 1)) / R = n / R ^ (m - (k + 1)) / R := by
    rw [(od_div hR h).1]
    have l := Nat.mod_lt (n / R ^ (m - (k + 1))) hR
    have d := Nat.div_add_mod (n / R ^ (m - (k + 1))) R
    have e : n / R ^ (m - (k + 1)) + 1 = R * (n / R ^ (m - (k + 1)) / R) + (n / R ^ (m - (k + 1)) % R + 1) := by omega
    rw [e, Nat.mul_add_div hR, show (n / R ^ (m - (k + 1)) % R + 1) / R = 0 from Nat.div_eq_of_lt (by omega), Nat.add_zero]
  unfold rwD
  have sp : ∀ x, x / R ^ (m - 1 - j) = x / R ^ (m - (k + 1)) / R / R ^ (k - 1 - j) := fun x => by
    have pw : R ^ (m - 1 - j) = R ^ (m - (k + 1)) * (R * R ^ (k - 1 - j)) := by
      rw [← Nat.pow_succ', ← Nat.pow_add]
      congr 1
      omega
    rw [Nat.div_div_eq_div_mul, Nat.div_div_eq_div_mul, pw]
  rw [sp, sp, key]
theorem od_at {R m k n : Nat} (hR : 0 < R) (hk : k < m) (h : n % R ^ (m - (k + 1)) = R ^ (m - (k + 1)) - 1) (h2 : ¬ rwD R m n k = R - 1) : rwD R m (n + 1) k = rwD R m n k + 1 := by
  have l := rwD_lt (R := R) (i := m) (p := n) (j := k) hR
  unfold rwD at h2 l ⊢
  rw [show m - 1 - k = m - (k + 1) by omega] at h2 l ⊢
  rw [(od_div hR h).1, Nat.add_mod, Nat.mod_eq_of_lt]
  · by_cases r1 : R = 1
    · subst r1; rw [Nat.mod_one] at h2 ⊢; exact absurd rfl h2
    · rw [Nat.mod_eq_of_lt (show 1 < R by omega)]
  · by_cases r1 : R = 1
    · subst r1; rw [Nat.mod_one] at h2; exact absurd rfl h2
    · rw [Nat.mod_eq_of_lt (show 1 < R by omega)]; omega
theorem od_lo {R m k n j : Nat} (hR : 0 < R) (hj : k < j) (hm : j < m) (h : n % R ^ (m - (k + 1)) = R ^ (m - (k + 1)) - 1) : rwD R m (n + 1) j = 0 := by
  unfold rwD
  rw [(od_div hR h).2, show R ^ (m - (k + 1)) = R ^ (m - 1 - j) * (R ^ (j - k - 1) * R) by rw [← Nat.pow_succ, ← Nat.pow_add]; congr 1; omega, Nat.mul_assoc, Nat.mul_div_cancel_left _ (Nat.pow_pos hR), Nat.mul_assoc, Nat.mul_comm, Nat.mul_assoc]
  exact Nat.mul_mod_right _ _ 
