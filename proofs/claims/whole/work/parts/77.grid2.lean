/-! ===== the class's search ===== -/
def qG (AK AP : Nat → Nat → Nat) (l : List Nat) (i j : Nat) (b : Bool) : Nat := if b = true then min 96 (AP (l.getD i 0) (l.getD j 0)) else min 96 (AK (l.getD i 0) (l.getD j 0))
theorem qG_le {AK AP : Nat → Nat → Nat} {l : List Nat} (i j : Nat) (b : Bool) : qG AK AP l i j b ≤ 96 := by
  unfold qG
  cases b
  · exact Nat.min_le_left _ _
  · exact Nat.min_le_left _ _
def ChS (σ σ' : Sg) : Prop := (∀ a, a ≠ 22 → a ≠ 100 → a ≠ 101 → ∀ j, σ'.1 a j = σ.1 a j) ∧ (∀ j, j ≠ 10 → σ'.1 22 j = σ.1 22 j) ∧ σ'.2 = σ.2
theorem ChS.rf {σ : Sg} : ChS σ σ := ⟨fun _ _ _ _ _ => rfl, fun _ _ => rfl, rfl⟩
theorem ChS.u {σ σ' : Sg} {k j : Nat} {x : Int32} (h : ChS σ σ') (hk : (k = 22 ∧ j = 10) ∨ k = 100 ∨ k = 101) : ChS σ (u1 σ' k j x) := by
  refine ⟨fun a h1 h2 h3 b => ?_, fun b hb => ?_, h.2.2⟩
  · rw [u1_cell (by omega)]; exact h.1 a h1 h2 h3 b
  · rw [u1_other (by omega)]; exact h.2.1 b hb
section SE
variable {N R m : Nat} {AK AP : Nat → Nat → Nat} {l : List Nat} {σ σ0 : Sg} {Q : Option Value → Sg → Prop}
/-- all that the search reads -/
def SR (AK AP : Nat → Nat → Nat) (l : List Nat) (σ : Sg) : Prop := GTc AK AP σ ∧ SC l σ ∧ l.length ≤ 8 ∧ (∀ i, i < l.length → l.getD i 0 < 24)
theorem SR.s {σ' : Sg} (h : SR AK AP l σ) (c : ChS σ σ') : SR AK AP l σ' := by
  obtain ⟨h1, h2, h3, h4⟩ := h
  refine ⟨⟨fun a ha b hb => ?_, fun a ha b hb => ?_⟩, ⟨?_, fun i hi => ?_⟩, h3, h4⟩
  · rw [c.1 (49 + a) (by omega) (by omega) (by omega)]; exact h1.1 a ha b hb
  · rw [c.1 (74 + a) (by omega) (by omega) (by omega)]; exact h1.2 a ha b hb
  · rw [c.2.1 9 (by decide)]; exact h2.1
  · rw [c.1 99 (by decide) (by decide) (by decide)]; exact h2.2 i hi
theorem C_quarrelOf (hS : SR AK AP l σ) {row : Nat → Nat} {i : Nat} (hi : i < l.length) (hr : ∀ j, j ≤ i → row j < 3 ∧ σ.1 100 j = nI (row j)) (h : Q (some (.int (nI (qI (qG AK AP l) row i)))) σ) : EvM N mX3_quarrelOf [.ref 22, .int (nI i)] σ Q := by
  obtain ⟨h1, h2, h3, h4⟩ := hS
  have L : ∀ j, j ≤ i → KX3_quarrelOf_4 N σ Q (nI i) (nI (sumN (fun j => qG AK AP l i j (row i == row j)) j)) (nI j) := by
    refine for_up ?_ ?_
    · exact BX3_quarrelOf_4 ⟨fun _ => h, fun q => absurd (nI_le (Nat.le_refl _) (by omega)) q⟩
    · intro j hj ih
      obtain ⟨r1, r2⟩ := hr i (Nat.le_refl _)
      obtain ⟨r3, r4⟩ := hr j (by omega)
      have li := h4 i hi
      have lj := h4 j (by omega)
      have vi : vp_in (nI i) 8 := nvin (by omega) (by omega)
      have vj : vp_in (nI j) 8 := nvin (by omega) (by omega)
      have ci : (nI i).toNatClampNeg = i := cl (by omega)
      have cj : (nI j).toNatClampNeg = j := cl (by omega)
      have wi : vp_in (nI (l.getD i 0)) 24 := nvin li (by omega)
      have wj : vp_in (nI (l.getD j 0)) 24 := nvin lj (by omega)
      have di : (nI (l.getD i 0)).toNatClampNeg = l.getD i 0 := cl (by omega)
      have dj : (nI (l.getD j 0)).toNatClampNeg = l.getD j 0 := cl (by omega)
      obtain ⟨a1, a2⟩ := h1.1 _ li _ lj
      obtain ⟨a3, a4⟩ := h1.2 _ li _ lj
      rw [sumN_s] at ih
      refine BX3_quarrelOf_4 ⟨fun q => absurd q (nI_ge hj (by omega)), fun _ => ⟨vi, vj, ?_⟩⟩
      simp only [ci, cj, r2, r4, h2.2 i hi, h2.2 j (by omega), di, dj, a2, a4, nI_1, nI_add]
      refine ⟨fun q => ⟨vi, wi, vj, wj, ?_⟩, fun q => ⟨vi, wi, vj, wj, ?_⟩⟩
      · have e := (nI_eq (by omega) (by omega)).mp q
        rw [show qG AK AP l i j (row i == row j) = AP (l.getD i 0) (l.getD j 0) by unfold qG; rw [if_pos (by simp [e])]; omega] at ih
        exact ih
      · have e : ¬ row i = row j := fun z => q (by rw [z])
        rw [show qG AK AP l i j (row i == row j) = AK (l.getD i 0) (l.getD j 0) by unfold qG; rw [if_neg (by simp [e])]; omega] at ih
        exact ih
  exact EX3_quarrelOf (L 0 (by omega))
theorem C_keepG {x : Int32} (h : ∀ σ', ChS σ σ' → σ'.1 22 10 = x → (∀ j, j < 8 → σ'.1 101 j = σ.1 100 j) → (∀ j, σ'.1 100 j = σ.1 100 j) → Q none σ') : EvM N mX3_keep [.ref 22, .int x] σ Q := by
  have L : ∀ i, i ≤ 8 → ∀ σ', ChS σ σ' → σ'.1 22 10 = x → (∀ j, j < i → σ'.1 101 j = σ.1 100 j) → (∀ j, σ'.1 100 j = σ.1 100 j) → KX3_keep_7 N σ' Q (nI i) := by
    refine for_up ?_ ?_
    · intro σ' c e1 e2 e3
      exact BX3_keep_7 ⟨fun _ => h σ' c e1 e2 e3, fun q => absurd (show (8 : Int32) ≤ nI 8 by decide) q⟩
    · intro i hi ih σ' c e1 e2 e3
      refine BX3_keep_7 ⟨fun q => absurd q (nI_ge (b := 8) hi (by omega)), fun _ => ⟨nvin (by omega) (by omega), nvin (by omega) (by omega), ?_⟩⟩
      rw [cl (by omega), nI_1, e3]
      refine ih _ (c.u (Or.inr (Or.inr rfl))) (by rw [u1_cell (by decide)]; exact e1) (fun j hj => ?_) (fun j => by rw [u1_cell (by decide)]; exact e3 j)
      by_cases z : j = i
      · rw [z, u1_same]
      · rw [u1_slot z]; exact e2 j (by omega)
  exact EX3_keep (L 0 (by omega) _ (ChS.rf.u (Or.inl ⟨rfl, rfl⟩)) u1_same (fun j hj => absurd hj (Nat.not_lt_zero j)) (fun j => by rw [u1_cell (by decide)]))
/-- the best of the first n codes, as the class holds it -/
def BS (qv : Nat → Nat → Bool → Nat) (R m n : Nat) (σ : Sg) : Prop := σ.1 22 10 = nI (bst qv R m n).1 ∧ (0 < n → ∀ j, j < m → σ.1 101 j = nI (rwD R m (bst qv R m n).2 j))
theorem C_seat (hS : SR AK AP l σ0) (hR : 1 ≤ R ∧ R ≤ 3) : ∀ (d N i p : Nat) (σ : Sg) (Q : Option Value → Sg → Prop), i + d = l.length → ChS σ0 σ → BS (qG AK AP l) R l.length (p * R ^ d) σ → (∀ j, j < i → σ.1 100 j = nI (rwD R i p j)) →
    (∀ σ', ChS σ0 σ' → BS (qG AK AP l) R l.length ((p + 1) * R ^ d) σ' → (∀ j, j < i → σ'.1 100 j = nI (rwD R i p j)) → Q none σ') → EvM (N + d + 1) mX3_seat [.ref 22, .int (nI R), .int (nI i), .int (nI (tqp (qG AK AP l) R i p))] σ Q := by
  have l8 := hS.2.2.1
  have Rp : 0 < R := by omega
  have tb : ∀ c, tqp (qG AK AP l) R l.length c ≤ 6144 := tqp_lt l8 qG_le
  have lb : ∀ n, (bst (qG AK AP l) R l.length n).1 ≤ 1073741824 := fun n => by
    by_cases z : n = 0
    · rw [z]; exact Nat.le_refl _
    · exact Nat.le_of_lt (bst_le (fun c => by have := tb c; omega) n (by omega))
  intro d
  induction d with
  | zero =>
    intro N i p σ Q hi c hB hr h
    have hi' : i = l.length := by omega
    subst hi'
    rw [Nat.pow_zero, Nat.mul_one] at hB h
    have tp := tb p
    have lp := lb p
    have hS' := hS.s c
    have bs : bst (qG AK AP l) R l.length (p + 1) = if tqp (qG AK AP l) R l.length p < (bst (qG AK AP l) R l.length p).1 then (tqp (qG AK AP l) R l.length p, p) else bst (qG AK AP l) R l.length p := rfl
    refine EX3_seat ⟨fun q => ⟨fun _ => ?_, fun q2 => absurd (by rw [hS'.2.1.1]; exact nI_le (Nat.le_refl _) (by omega)) q2⟩, fun q => ?_⟩
    · rw [hB.1] at q
      have lt := (nI_ltI (by omega) (by omega)).mp q
      rw [if_pos lt] at bs
      refine C_keepG (fun σ' c' e1 e2 e3 => ⟨rfl, h σ' ⟨fun a h1 h2 h3 j => (c'.1 a h1 h2 h3 j).trans (c.1 a h1 h2 h3 j), fun j hj => (c'.2.1 j hj).trans (c.2.1 j hj), c'.2.2.trans c.2.2⟩ ⟨by rw [e1, bs], fun _ j hj => ?_⟩ (fun j hj => by rw [e3]; exact hr j hj)⟩)
      rw [e2 j (by omega), hr j hj, bs]
    · rw [hB.1] at q
      have nlt : ¬ tqp (qG AK AP l) R l.length p < (bst (qG AK AP l) R l.length p).1 := fun z => q (nI_lt z (by omega))
      rw [if_neg nlt] at bs
      have p0 : 0 < p := by
        by_cases z : p = 0
        · subst z
          have : (bst (qG AK AP l) R l.length 0).1 = 1073741824 := rfl
          omega
        · omega
      exact h σ c ⟨by rw [bs]; exact hB.1, fun _ j hj => by rw [bs]; exact hB.2 p0 j hj⟩ hr
  | succ d ih =>
    intro N i p σ Q hi c hB hr h
    have hS' := hS.s c
    have Rd := Nat.pow_pos (n := d + 1) Rp
    have q6 : tqp (qG AK AP l) R i p ≤ 6144 := by
      have e : (p * R ^ (d + 1)) / R ^ (l.length - i) = p := by rw [show l.length - i = d + 1 by omega]; exact Nat.mul_div_cancel _ Rd
      exact Nat.le_trans (tqp_pre (by omega) e) (tb _)
    have lp := lb (p * R ^ (d + 1))
    refine EX3_seat ⟨fun q => ⟨fun q2 => absurd q2 (by rw [hS'.2.1.1]; exact nI_ge (by omega) (by omega)), fun _ => ⟨fun _ => ?_, fun q2 => absurd (nI_lt (b := 8) (by omega) (by omega)) q2⟩⟩, fun q => ?_⟩
    · have L : ∀ r, r ≤ R → ∀ σ1, ChS σ0 σ1 → BS (qG AK AP l) R l.length ((p * R + r) * R ^ d) σ1 → (∀ j, j < i → σ1.1 100 j = nI (rwD R i p j)) → KX3_seat_32 (N + (d + 1)) σ1 Q (nI R) (nI i) (nI (tqp (qG AK AP l) R i p)) (nI r) := by
        refine for_up ?_ ?_
        · intro σ1 c1 b1 r1
          refine BX3_seat_32 ⟨fun _ => h σ1 c1 ?_ r1, fun q2 => absurd (nI_le (Nat.le_refl _) (by omega)) q2⟩
          rw [show (p + 1) * R ^ (d + 1) = (p * R + R) * R ^ d by rw [Nat.pow_succ, ← Nat.succ_mul, Nat.mul_assoc, Nat.mul_comm R]]
          exact b1
        · intro r hr0 ihr σ1 c1 b1 r1
          refine BX3_seat_32 ⟨fun q2 => absurd q2 (nI_ge hr0 (by omega)), fun _ => ⟨nvin (by omega) (by omega), ?_⟩⟩
          rw [cl (by omega), nI_1, nI_1]
          have c2 : ChS σ0 (u1 σ1 100 i (nI r)) := c1.u (Or.inr (Or.inl rfl))
          have row : ∀ j, j ≤ i → rwD R (i + 1) (p * R + r) j < 3 ∧ (u1 σ1 100 i (nI r)).1 100 j = nI (rwD R (i + 1) (p * R + r) j) := fun j hj => by
            have l3 := rwD_lt (R := R) (i := i + 1) (p := p * R + r) (j := j) Rp
            refine ⟨by omega, ?_⟩
            by_cases z : j = i
            · rw [z, u1_same, rwD_last hr0]
            · rw [u1_slot z, rwD_step hr0 (by omega)]; exact r1 j (by omega)
          refine C_quarrelOf (hS.s c2) (by omega) row ⟨_, rfl, ?_⟩
          rw [nI_add, ← tqp_step hr0]
          refine ih N (i + 1) (p * R + r) _ _ (by omega) c2 ⟨?_, fun z j hj => ?_⟩ (fun j hj => (row j (by omega)).2) (fun σ2 c3 b3 r3 => ⟨rfl, ihr σ2 c3 (by rw [show p * R + (r + 1) = p * R + r + 1 by omega]; exact b3) (fun j hj => by rw [r3 j (by omega), rwD_step hr0 hj])⟩)
          · rw [u1_cell (by decide)]; exact b1.1
          · rw [u1_cell (by decide)]; exact b1.2 z j hj
      exact L 0 (by omega) σ c (by rw [Nat.add_zero, Nat.mul_assoc, ← Nat.pow_succ']; exact hB) hr
    · rw [hB.1] at q
      have nlt : ¬ tqp (qG AK AP l) R i p < (bst (qG AK AP l) R l.length (p * R ^ (d + 1))).1 := fun z => q (nI_lt z (by omega))
      have p0 : 0 < p * R ^ (d + 1) := by
        by_cases z : p * R ^ (d + 1) = 0
        · rw [z] at nlt
          have : (bst (qG AK AP l) R l.length 0).1 = 1073741824 := rfl
          omega
        · omega
      have bs : bst (qG AK AP l) R l.length ((p + 1) * R ^ (d + 1)) = bst (qG AK AP l) R l.length (p * R ^ (d + 1)) := by
        rw [Nat.succ_mul]
        refine bst_skip _ (fun x h1 h2 => ?_)
        have e : x / R ^ (l.length - i) = p := by
          rw [show l.length - i = d + 1 by omega]
          refine Nat.div_eq_of_lt_le h1 ?_
          rw [Nat.succ_mul]; exact h2
        have := tqp_pre (qv := qG AK AP l) (by omega) e
        omega
      exact h σ c ⟨by rw [bs]; exact hB.1, fun _ j hj => by rw [bs]; exact hB.2 p0 j hj⟩ hr
end SE
