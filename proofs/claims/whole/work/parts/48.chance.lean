/-! ===== chance ===== -/
theorem lg_eq0 {x y : Int64} : lg_cmp x y = 0 ↔ x = y := by
  have a := lg_lt (x := x) (y := y)
  have b := lg_gt (x := x) (y := y)
  constructor
  · intro h
    have c : ¬ x.toInt < y.toInt := fun z => by have := a.mpr z; rw [h] at this; exact absurd this (by decide)
    have d : ¬ y.toInt < x.toInt := fun z => by have := b.mpr z; rw [h] at this; exact absurd this (by decide)
    exact l_eq.mpr (by omega)
  · intro h; subst h; unfold lg_cmp
    rw [if_neg (fun q => by have := l_lt.mp q; omega), if_pos rfl]
theorem lg_ge0 {x y : Int64} : 0 ≤ lg_cmp x y ↔ y.toInt ≤ x.toInt := by
  have a := lg_lt (x := x) (y := y)
  rw [i_le]
  rw [i_lt] at a
  rw [show (0 : Int32).toInt = 0 from rfl] at *
  omega
theorem lN_eq0 {n : Nat} (h : n < 2 ^ 63) : lN n = 0 ↔ n = 0 := by
  rw [show (0 : Int64) = lN 0 from rfl, pk_lEQ h (by decide)]
theorem gcd_step (a b : Nat) : Nat.gcd a b = Nat.gcd b (a % b) := by
  rw [Nat.gcd_comm a b, Nat.gcd_rec b a, Nat.gcd_comm]
section GC'
variable {N : Nat} {σ : Sg} {Q : Option Value → Sg → Prop}
theorem C_gcd {a b : Nat} (ha : a < 2 ^ 31) (hb : b < 2 ^ 31) (h : Q (some (.long (lN (Nat.gcd a b)))) σ) : EvM N mX7_greatestShared [.long (lN a), .long (lN b)] σ Q := by
  have zero : ∀ a i, i < 200 → Q (some (.long (lN a))) σ → KX7_greatestShared_3 N σ Q (lN a) (lN 0) (nI i) := fun a i hi h =>
    BX7_greatestShared_3 ⟨fun q => by exfalso; clear h; ((try simp (disch := (first | omega | ((try simp (disch := omega) only [i_nI, Int32.reduceToInt, i_l]) <;> omega))) only [i_le, i_lt, i_eq, Int32.reduceToInt, i_nI, i_l, li0, vp_in_iff, i_sub, i_add] at *) <;> omega), fun _ => ⟨fun _ => h, fun q => absurd (lg_eq0.mpr rfl) q⟩⟩
  have one : ∀ a b i, i < 200 → 0 < b → a < 2 ^ 63 → b < 2 ^ 31 → KX7_greatestShared_3 N σ Q (lN b) (lN (a % b)) (nI (i + 1)) → KX7_greatestShared_3 N σ Q (lN a) (lN b) (nI i) := by
    intro a b i hi hb0 ha hb k
    have nz : ¬ lN b = 0 := fun q => by have := (lN_eq0 (by omega)).mp q; omega
    refine BX7_greatestShared_3 ⟨fun q => by exfalso; clear k h nz; ((try simp (disch := (first | omega | ((try simp (disch := omega) only [i_nI, Int32.reduceToInt, i_l]) <;> omega))) only [i_le, i_lt, i_eq, Int32.reduceToInt, i_nI, i_l, li0, vp_in_iff, i_sub, i_add] at *) <;> omega), fun _ => ⟨fun q => absurd (lg_eq0.mp q) nz, fun _ => ⟨nz, ?_⟩⟩⟩
    rw [pk_lRem ha hb0 (by omega), nI_1]
    exact k
  have L : ∀ k a b i, b < 2 ^ k → k ≤ 31 → i + 2 * k < 200 → a < 2 ^ 63 → Nat.gcd a b < 2 ^ 63 → Q (some (.long (lN (Nat.gcd a b)))) σ → KX7_greatestShared_3 N σ Q (lN a) (lN b) (nI i) := by
    intro k
    induction k with
    | zero =>
      intro a b i h1 _ h2 h3 _ h4
      have : b = 0 := by omega
      subst this
      rw [Nat.gcd_zero_right] at h4
      exact zero a i (by omega) h4
    | succ k ih =>
      intro a b i h1 hk h2 h3 h5 h4
      have b31 : b < 2 ^ 31 := Nat.lt_of_lt_of_le h1 (Nat.pow_le_pow_right (by decide) hk)
      rcases Nat.eq_zero_or_pos b with z | z
      · subst z
        rw [Nat.gcd_zero_right] at h4
        exact zero a i (by omega) h4
      · refine one a b i (by omega) z h3 b31 ?_
        have r1 := Nat.mod_lt a z
        rcases Nat.eq_zero_or_pos (a % b) with z2 | z2
        · rw [z2]
          rw [gcd_step, z2, Nat.gcd_zero_right] at h4
          exact zero b (i + 1) (by omega) h4
        · refine one b (a % b) (i + 1) (by omega) z2 (by omega) (by omega) ?_
          have r2 := Nat.mod_lt b z2
          have r3 : b % (a % b) ≤ b - a % b := by
            have := Nat.mod_add_div b (a % b)
            have : 1 ≤ b / (a % b) := Nat.div_pos (by omega) z2
            have : a % b * 1 ≤ a % b * (b / (a % b)) := Nat.mul_le_mul_left _ this
            omega
          have p2 : 2 ^ (k + 1) = 2 * 2 ^ k := by rw [Nat.pow_succ]; omega
          refine ih (a % b) (b % (a % b)) (i + 1 + 1) (by omega) (by omega) (by omega) (by omega) ?_ ?_
          · rw [← gcd_step, ← gcd_step]; exact h5
          · rw [← gcd_step, ← gcd_step]; exact h4
  have g63 : Nat.gcd a b < 2 ^ 63 := by
    rcases Nat.eq_zero_or_pos b with z | z
    · rw [z, Nat.gcd_zero_right]; omega
    · exact Nat.lt_of_le_of_lt (Nat.gcd_le_right a z) (by omega)
  exact EX7_greatestShared (L 31 a b 0 hb (by omega) (by omega) (by omega) g63 h)
theorem M_gcd {w o u : Nat} (hw : w < 2) (ho : o < 2 ^ 31) (hu : u < 2 ^ 31) : ∀ b a : Nat, a < 2 ^ 31 → b < 2 ^ 31 → 0 < Nat.gcd a b → Q (some (.long (lN ((if w = 0 then o else u) / Nat.gcd a b)))) σ → KX10_chance_106 N σ Q (nI w) (lN o) (lN u) (lN a) (lN b) := by
  intro b
  induction b using Nat.strongRecOn with
  | ind b ih =>
    intro a ha hb hg h
    rcases Nat.eq_zero_or_pos b with z | z
    · subst z
      rw [Nat.gcd_zero_right] at h hg
      have nz : ¬ lN a = 0 := fun q => by have := (lN_eq0 (by omega)).mp q; omega
      refine BX10_chance_106 ⟨fun _ => ⟨fun q => ⟨nz, ?_⟩, fun q => ⟨nz, ?_⟩⟩, fun q => absurd (lg_eq0.mpr rfl) q⟩
      · have e : w = 0 := by clear h ih nz; ((try simp (disch := (first | omega | ((try simp (disch := omega) only [i_nI, Int32.reduceToInt, i_l]) <;> omega))) only [i_le, i_lt, i_eq, Int32.reduceToInt, i_nI, i_l, li0, vp_in_iff, i_sub, i_add] at *) <;> omega)
        rw [if_pos e] at h
        rw [pk_lDiv (by omega) hg (by omega)]
        exact h
      · have e : ¬ w = 0 := fun z => q (by rw [z]; rfl)
        rw [if_neg e] at h
        rw [pk_lDiv (by omega) hg (by omega)]
        exact h
    · have nz : ¬ lN b = 0 := fun q => by have := (lN_eq0 (by omega)).mp q; omega
      have r1 := Nat.mod_lt a z
      refine BX10_chance_106 ⟨fun q => absurd (lg_eq0.mp q) nz, fun _ => ⟨nz, ?_⟩⟩
      rw [pk_lRem (by omega) z (by omega)]
      refine ih (a % b) r1 b hb (by omega) ?_ ?_
      · rw [← gcd_step]; exact hg
      · rw [← gcd_step]; exact h
end GC'
/-- the numerator and the denominator, not in lowest terms -/
def chO (J ca cb : Nat) (same : Bool) : Nat := J * ca * (if same = true then ca - 1 else cb)
theorem chO_l {J ca cb : Nat} (hj : J < 2 ^ 31) (ha : ca < 2 ^ 31) (hb : cb < 2 ^ 31) : (nI J).toInt64 * (nI ca).toInt64 * (nI ca - 1).toInt64 = lN (chO J ca cb true) ∧ (nI J).toInt64 * (nI ca).toInt64 * (nI cb).toInt64 = lN (chO J ca cb false) := by
  rw [nI_l hj, nI_l ha, nI_l hb, lN_mul]
  refine ⟨?_, by rw [lN_mul]; rfl⟩
  rcases Nat.eq_zero_or_pos ca with z | z
  · subst z; unfold chO; simp [show lN 0 = 0 from rfl]
  · rw [show nI ca - 1 = nI (ca - 1) from pk_sub (b := 1) z, nI_l (by omega), lN_mul]; rfl
theorem O_chance {σ : Sg} (hR : Rel σ) (a b c : Int32) : OPl mX9_chance mX10_chance [.int a, .int b, .int c] σ := by
  obtain ⟨nF, lk, ft, nT, tl, tc, hF, hT⟩ := hR.1
  have hn := hF.1
  have hnT := hT.1
  have tSle : tS tl tc nT ≤ 192 := by
    have := sumN_le (f := fun t => cS tc t (tl t)) (B := 24) nT (fun t ht => Nat.le_trans (cnt_le _ _) (hT.2.2.2.1 t ht).2.1)
    unfold tS; omega
  have tXle : ∀ x, tX ft nF lk tl tc nT x ≤ 192 := fun x => by
    have := sumN_le (f := fun t => cX ft nF lk tc t x (tl t)) (B := 24) nT (fun t ht => Nat.le_trans (cnt_le _ _) (hT.2.2.2.1 t ht).2.1)
    unfold tX; omega
  have tBle : tbS tl tc nT ≤ 192 := by
    have := sumN_le (f := fun t => bS tc t (tl t - 1)) (B := 24) nT (fun t ht => Nat.le_trans (cnt_le _ _) (by have := (hT.2.2.2.1 t ht).2.1; omega))
    unfold tbS; omega
  have bad : (¬ (∃ k, k < nF ∧ rep ft nF lk k = k ∧ a = nI k) ∨ ¬ (∃ k, k < nF ∧ rep ft nF lk k = k ∧ b = nI k) ∨ ¬ (0 ≤ c.toInt ∧ c.toInt ≤ 1)) → EvM 40 mX10_chance [.ref 245, .int a, .int b, .int c] σ (fun r2 σ2 => r2 = some (.long (-1)) ∧ Rel σ2) := by
    intro hb
    refine EX10_chance (M_isSign hF (fun k hk e1 e2 σ' cw s => ⟨_, rfl, fun q => absurd q (by decide), fun _ => ?_⟩) (fun p σ' cw s => ⟨_, rfl, fun _ => ⟨rfl, hR.q (cw.c0 fun _ => rfl)⟩, fun q => absurd rfl q⟩))
    have hc : Chg [0] σ σ' := cw.c0 fun _ => rfl
    refine M_isSign (hF.fr (hc.sm (by decide))) (fun k2 hk2 e3 e4 σ2 c2 s2 => ⟨_, rfl, fun q => absurd q (by decide), fun _ => ⟨fun q => ?_, fun _ => ⟨rfl, (hR.q hc).q (c2.c0 fun _ => rfl)⟩⟩⟩) (fun p σ2 c2 s2 => ⟨_, rfl, fun _ => ⟨rfl, (hR.q hc).q (c2.c0 fun _ => rfl)⟩, fun q => absurd rfl q⟩)
    exfalso
    rw [i_l] at q
    rcases hb with z | z | z
    · exact z ⟨k, hk, e1, e2⟩
    · exact z ⟨k2, hk2, e3, e4⟩
    · exact z q
  have badC : ∀ {P : Prop}, (P → EvM 40 mX10_chance [.ref 245, .int a, .int b, .int c] σ (fun r2 σ2 => r2 = some (.long (-1)) ∧ Rel σ2)) → (P → ∃ v, some (Value.long (-1)) = some (.long v) ∧ EvM 40 mX10_chance [.ref 245, .int a, .int b, .int c] σ (fun r2 σ2 => r2 = some (.long v) ∧ Rel σ2)) := fun f p => ⟨_, rfl, f p⟩
  refine EX9_chance (C_isSign hF (fun k hk e1 e2 => ⟨_, rfl, fun q => absurd q (by decide), fun _ => C_isSign hF (fun k2 hk2 e3 e4 => ⟨_, rfl, fun q => absurd q (by decide), fun _ => ⟨badC fun q => bad (Or.inr (Or.inr ?_)), fun q => ⟨fun q2 => ?_, badC fun q2 => bad (Or.inr (Or.inr ?_))⟩⟩⟩) (fun p => ⟨_, rfl, badC fun _ => bad (Or.inr (Or.inl p)), fun q => absurd rfl q⟩)⟩) (fun p => ⟨_, rfl, badC fun _ => bad (Or.inl p), fun q => absurd rfl q⟩))
  · clear bad badC hR hF hT tXle; ((try simp (disch := (first | omega | ((try simp (disch := omega) only [i_nI, Int32.reduceToInt, i_l]) <;> omega))) only [i_le, i_lt, i_eq, Int32.reduceToInt, i_nI, i_l, li0, vp_in_iff, i_sub, i_add] at *) <;> omega)
  · obtain ⟨w, hw, hwc⟩ : ∃ w : Nat, w < 2 ∧ c = nI w := ⟨c.toInt.toNat, by clear bad badC hR hF hT tXle; ((try simp (disch := (first | omega | ((try simp (disch := omega) only [i_nI, Int32.reduceToInt, i_l]) <;> omega))) only [i_le, i_lt, i_eq, Int32.reduceToInt, i_nI, i_l, li0, vp_in_iff, i_sub, i_add] at *) <;> omega), i_of (by clear bad badC hR hF hT tXle; ((try simp (disch := (first | omega | ((try simp (disch := omega) only [i_nI, Int32.reduceToInt, i_l]) <;> omega))) only [i_le, i_lt, i_eq, Int32.reduceToInt, i_nI, i_l, li0, vp_in_iff, i_sub, i_add] at *) <;> omega)) (by clear bad badC hR hF hT tXle; ((try simp (disch := (first | omega | ((try simp (disch := omega) only [i_nI, Int32.reduceToInt, i_l]) <;> omega))) only [i_le, i_lt, i_eq, Int32.reduceToInt, i_nI, i_l, li0, vp_in_iff, i_sub, i_add] at *) <;> omega))⟩
    have hab : a = b ↔ k = k2 := by rw [e2, e4]; exact nI_eq (by omega) (by omega)
    generalize hS : tS tl tc nT = n at tSle
    generalize hJ : tbS tl tc nT = J at tBle
    have ca := tXle a
    have cb := tXle b
    generalize hca : tX ft nF lk tl tc nT a = ca' at ca
    generalize hcb : tX ft nF lk tl tc nT b = cb' at cb
    have hS2 : ∀ {σ' : Sg}, RT nF nT tl tc σ' → tS tl tc nT = n := fun _ => hS
    -- the value
    have oB : ∀ s, chO J ca' cb' s < 2 ^ 31 := fun s => by
      have m1 : J * ca' ≤ 192 * 192 := Nat.mul_le_mul tBle ca
      have m2 : (if s = true then ca' - 1 else cb') ≤ 192 := by
        by_cases e : s = true
        · rw [if_pos e]; omega
        · rw [if_neg e]; exact cb
      have m3 := Nat.mul_le_mul m1 m2
      unfold chO; omega
    have uB : n * (n - 1) < 2 ^ 31 := by
      have := Nat.mul_le_mul tSle (show n - 1 ≤ 192 by omega); omega
    -- the reference
    have M : EvM 40 mX10_chance [.ref 245, .int a, .int b, .int c] σ (fun r2 σ2 => r2 = some (.long (if n < 2 then lN w else lN ((if w = 0 then chO J ca' cb' (decide (k = k2)) else n * (n - 1)) / Nat.gcd (chO J ca' cb' (decide (k = k2))) (n * (n - 1))))) ∧ Rel σ2) := by
      refine EX10_chance (M_isSign hF (fun _ _ _ _ σ' cw s => ⟨_, rfl, fun q => absurd q (by decide), fun _ => ?_⟩) (fun p => absurd ⟨k, hk, e1, e2⟩ p))
      have hc : Chg [0] σ σ' := cw.c0 fun _ => rfl
      refine M_isSign (hF.fr (hc.sm (by decide))) (fun _ _ _ _ σ2 c2 s2 => ⟨_, rfl, fun q => absurd q (by decide), fun _ => ⟨fun _ => ?_, fun z => ?_⟩⟩) (fun p => absurd ⟨k2, hk2, e3, e4⟩ p)
      · have hc2 : Chg [0] σ σ2 := hc.tr (c2.c0 fun _ => rfl)
        have F2 := hF.fr (hc2.sm (by decide))
        have T2 := hT.fr (hc2.sm (by decide))
        refine M_allSigns F2 T2 s2 ⟨_, rfl, fun q9 => ?_, fun q9 => ?_⟩
        · rw [hS, lg_ge0, i_l, i_nI (by omega), show (2 : Int64).toInt = 2 from by decide] at q9
          have n2 : 2 ≤ n := by omega
          rw [if_neg (by omega)]
          have gp : 0 < Nat.gcd (chO J ca' cb' (decide (k = k2))) (n * (n - 1)) := Nat.gcd_pos_of_pos_right _ (Nat.mul_pos (by omega) (by omega))
          have eu : (nI (tS tl tc nT)).toInt64 * ((nI (tS tl tc nT)).toInt64 - 1) = lN (n * (n - 1)) := by
            rw [hS, nI_l (by omega), show (1 : Int64) = lN 1 from rfl, lN_sub (by omega), lN_mul]
          refine M_besidesAll F2 T2 s2 ⟨_, rfl, M_countOf F2 T2 s2 ⟨_, rfl, fun z => M_countOf F2 T2 s2 ⟨_, rfl, ?_⟩, fun z => M_countOf F2 T2 s2 ⟨_, rfl, ?_⟩⟩⟩
          · rw [eu, hJ, hca, (chO_l (cb := cb') (by omega) (by omega) (by omega)).1, hwc]
            have : decide (k = k2) = true := decide_eq_true (hab.mp z)
            rw [this] at gp ⊢
            exact M_gcd hw (oB _) uB _ _ (oB _) uB gp ⟨rfl, hR.q hc2⟩
          · rw [eu, hJ, hca, hcb, (chO_l (by omega) (by omega) (by omega)).2, hwc]
            have : decide (k = k2) = false := decide_eq_false (fun e => z (hab.mpr e))
            rw [this] at gp ⊢
            exact M_gcd hw (oB _) uB _ _ (oB _) uB gp ⟨rfl, hR.q hc2⟩
        · rw [hS, lg_ge0, i_l, i_nI (by omega), show (2 : Int64).toInt = 2 from by decide] at q9
          rw [if_pos (by omega), hwc, nI_l (by omega)]
          exact ⟨rfl, hR.q hc2⟩
      · exfalso; apply z; rw [hwc, i_l, i_nI (by omega)]; omega
    -- the class
    have fin : ∀ o u : Nat, o < 2 ^ 31 → 0 < u → u < 2 ^ 31 → (if n < 2 then lN w else lN ((if w = 0 then chO J ca' cb' (decide (k = k2)) else n * (n - 1)) / Nat.gcd (chO J ca' cb' (decide (k = k2))) (n * (n - 1)))) = lN ((if w = 0 then o else u) / Nat.gcd o u) → EvM 39 mX7_greatestShared [.long (lN o), .long (lN u)] σ (fun r9 σ5 => ∃ v5, r9 = some (.long v5) ∧ ((0 ≤ (lg_cmp v5 1) → (c = 0 → (¬ v5 = 0) ∧ (∃ v, some (Value.long (lN o / v5)) = some (.long v) ∧ EvM 40 mX10_chance [.ref 245, .int a, .int b, .int c] σ5 (fun r2 σ2 => r2 = some (.long v) ∧ Rel σ2))) ∧ (¬ c = 0 → (¬ v5 = 0) ∧ (∃ v, some (Value.long (lN u / v5)) = some (.long v) ∧ EvM 40 mX10_chance [.ref 245, .int a, .int b, .int c] σ5 (fun r2 σ2 => r2 = some (.long v) ∧ Rel σ2)))) ∧ (¬ 0 ≤ (lg_cmp v5 1) → ∃ v, some (Value.long (-1)) = some (.long v) ∧ EvM 40 mX10_chance [.ref 245, .int a, .int b, .int c] σ5 (fun r2 σ2 => r2 = some (.long v) ∧ Rel σ2)))) := by
      intro o u ho hu0 hu hv
      have gp : 0 < Nat.gcd o u := Nat.gcd_pos_of_pos_right _ hu0
      have gle : Nat.gcd o u ≤ u := Nat.gcd_le_right o hu0
      have g1 : ¬ lN (Nat.gcd o u) = 0 := fun q => by have := (lN_eq0 (by omega)).mp q; omega
      rw [hv] at M
      refine C_gcd ho hu ⟨_, rfl, fun _ => ⟨fun z => ⟨g1, _, rfl, ?_⟩, fun z => ⟨g1, _, rfl, ?_⟩⟩, fun z => ?_⟩
      · rw [pk_lDiv (by omega) gp (by omega)]
        have e : w = 0 := by rw [hwc] at z; clear M hv bad badC hR hF hT; ((try simp (disch := (first | omega | ((try simp (disch := omega) only [i_nI, Int32.reduceToInt, i_l]) <;> omega))) only [i_le, i_lt, i_eq, Int32.reduceToInt, i_nI, i_l, li0, vp_in_iff, i_sub, i_add] at *) <;> omega)
        rw [if_pos e] at M; exact M
      · rw [pk_lDiv (by omega) gp (by omega)]
        have e : ¬ w = 0 := fun e => z (by rw [hwc, e]; rfl)
        rw [if_neg e] at M; exact M
      · exfalso; apply z; rw [lg_ge0, pk_lT (by omega), show (1 : Int64).toInt = 1 from by decide]; omega
    have above : ∀ Q : Option Value → Sg → Prop, Q (some (.long (lN (if n < 2 then 0 else chO J ca' cb' (decide (k = k2)))))) σ → EvM 39 mX7_chanceAbove [.ref 5, .int a, .int b] σ Q := by
      intro Q h
      refine EX7_chanceAbove (C_timesOfAll hF hT ⟨_, rfl, fun q9 => ⟨fun z => C_timesOf hF hT ⟨_, rfl, C_placesBeside hF hT ⟨_, rfl, C_timesOf hF hT ⟨_, rfl, ?_⟩⟩⟩, fun z => C_timesOf hF hT ⟨_, rfl, C_placesBeside hF hT ⟨_, rfl, C_timesOf hF hT ⟨_, rfl, ?_⟩⟩⟩⟩, fun q9 => ?_⟩)
      · have n2 : 2 ≤ n := by rw [hS] at q9; exact (nI_leI (a := 2) (by omega) (by omega)).mp q9
        rw [if_neg (by omega), show decide (k = k2) = true from decide_eq_true (hab.mp z)] at h
        rw [← z, hJ, hca, (chO_l (cb := cb') (by omega) (by omega) (by omega)).1]
        exact h
      · have n2 : 2 ≤ n := by rw [hS] at q9; exact (nI_leI (a := 2) (by omega) (by omega)).mp q9
        rw [if_neg (by omega), show decide (k = k2) = false from decide_eq_false (fun e => z (hab.mpr e))] at h
        rw [hJ, hca, hcb, (chO_l (by omega) (by omega) (by omega)).2]
        exact h
      · have n2 : n < 2 := by
          rcases Nat.lt_or_ge n 2 with z | z
          · exact z
          · exact absurd (by rw [hS]; exact nI_le (a := 2) z (by omega)) q9
        rw [if_pos n2] at h
        exact h
    have below : ∀ Q : Option Value → Sg → Prop, Q (some (.long (lN (if n < 2 then 1 else n * (n - 1))))) σ → EvM 39 mX7_chanceBelow [.ref 5] σ Q := by
      intro Q h
      refine EX7_chanceBelow (C_timesOfAll hF hT ⟨_, rfl, fun q9 => ?_, fun q9 => ?_⟩)
      · rw [hS, lg_ge0, i_l, i_nI (by omega), show (2 : Int64).toInt = 2 from by decide] at q9
        rw [if_neg (by omega)] at h
        rw [hS, nI_l (by omega), show (1 : Int64) = lN 1 from rfl, lN_sub (by omega), lN_mul]
        exact h
      · rw [hS, lg_ge0, i_l, i_nI (by omega), show (2 : Int64).toInt = 2 from by decide] at q9
        rw [if_pos (by omega)] at h
        exact h
    refine above _ ⟨_, rfl, below _ ⟨_, rfl, ?_⟩⟩
    by_cases n2 : n < 2
    · rw [if_pos n2, if_pos n2]
      refine fin 0 1 (by decide) (by decide) (by decide) ?_
      rw [if_pos n2]
      rcases (show w = 0 ∨ w = 1 by omega) with z | z <;> subst z <;> rfl
    · rw [if_neg n2, if_neg n2]
      refine fin _ _ (oB _) (Nat.mul_pos (by omega) (by omega)) uB ?_
      rw [if_neg n2]
  · clear bad badC hR hF hT tXle; ((try simp (disch := (first | omega | ((try simp (disch := omega) only [i_nI, Int32.reduceToInt, i_l]) <;> omega))) only [i_le, i_lt, i_eq, Int32.reduceToInt, i_nI, i_l, li0, vp_in_iff, i_sub, i_add] at *) <;> omega)
