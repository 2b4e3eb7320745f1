/-! ===== the best table ===== -/
theorem xk_le {v q : Nat} (hv : v < 2147483648) (hq : q < 2147483648) : nI v ≤ xk q ↔ v + 1 ≤ q := by
  cases q with
  | zero =>
    show nI v ≤ -1 ↔ _
    rw [i_le, i_nI hv, show (-1 : Int32).toInt = -1 from rfl]; omega
  | succ q =>
    show nI v ≤ nI q ↔ _
    rw [nI_leI (by omega) (by omega)]; omega
theorem xk_eq {v q : Nat} (hv : v < 2147483648) (hq : q < 2147483648) : nI v = xk q ↔ v + 1 = q := by
  cases q with
  | zero =>
    show nI v = -1 ↔ _
    rw [i_eq, i_nI hv, show (-1 : Int32).toInt = -1 from rfl]; omega
  | succ q =>
    show nI v = nI q ↔ _
    rw [nI_eq (by omega) (by omega)]; omega
/-- figures to the base 4, the first the highest -/
def fo4 (d : Nat → Nat) : Nat → Nat
  | 0 => 0
  | i + 1 => 4 * fo4 d i + d i
theorem fo4_lt {d : Nat → Nat} : ∀ n, (∀ i, i < n → d i < 4) → fo4 d n < 4 ^ n := by
  intro n
  induction n with
  | zero => intro _; exact Nat.one_pos
  | succ n ih =>
    intro h
    have := ih (fun i hi => h i (by omega))
    have := h n (by omega)
    unfold fo4; rw [Nat.pow_succ]; omega
theorem fo4_dig {d : Nat → Nat} : ∀ n, (∀ i, i < n → d i < 4) → ∀ j, j < n → fo4 d n / 4 ^ (n - 1 - j) % 4 = d j := by
  intro n
  induction n with
  | zero => intro _ j hj; exact absurd hj (Nat.not_lt_zero j)
  | succ n ih =>
    intro h j hj
    have p8 := h n (by omega)
    show (4 * fo4 d n + d n) / 4 ^ (n + 1 - 1 - j) % 4 = _
    by_cases e : j = n
    · subst e
      rw [show j + 1 - 1 - j = 0 by omega, Nat.pow_zero, Nat.div_one]
      omega
    · rw [show n + 1 - 1 - j = (n - 1 - j) + 1 by omega, Nat.pow_succ, Nat.mul_comm (4 ^ _) 4, ← Nat.div_div_eq_div_mul, show (4 * fo4 d n + d n) / 4 = fo4 d n by omega]
      exact ih (fun j hj => h j (by omega)) j (by omega)
/-- figures to the base 4, the first the lowest -/
def nm (d : Nat → Nat) : Nat → Nat
  | 0 => 0
  | i + 1 => nm d i + d i * 4 ^ i
theorem nm_lt {d : Nat → Nat} : ∀ n, (∀ i, i < n → d i < 4) → nm d n < 4 ^ n := by
  intro n
  induction n with
  | zero => intro _; exact Nat.one_pos
  | succ n ih =>
    intro h
    have i1 := ih (fun i hi => h i (by omega))
    have i2 := h n (by omega)
    have : d n * 4 ^ n ≤ 3 * 4 ^ n := Nat.mul_le_mul_right _ (by omega)
    unfold nm; rw [Nat.pow_succ]; omega
theorem nm_cg {d e : Nat → Nat} : ∀ n, (∀ i, i < n → d i = e i) → nm d n = nm e n := by
  intro n
  induction n with
  | zero => intro _; rfl
  | succ n ih => intro h; unfold nm; rw [ih (fun i hi => h i (by omega)), h n (by omega)]
theorem nm_self {x : Nat} : ∀ n, nm (fun p => x / 4 ^ p % 4) n = x % 4 ^ n := by
  intro n
  induction n with
  | zero => rw [Nat.pow_zero, Nat.mod_one]; rfl
  | succ n ih =>
    show nm (fun p => x / 4 ^ p % 4) n + x / 4 ^ n % 4 * 4 ^ n = _
    rw [ih, Nat.mod_pow_succ, Nat.mul_comm]
theorem nm_dig {d : Nat → Nat} : ∀ n, (∀ i, i < n → d i < 4) → ∀ p, p < n → nm d n / 4 ^ p % 4 = d p := by
  intro n
  induction n with
  | zero => intro _ p hp; exact absurd hp (Nat.not_lt_zero p)
  | succ n ih =>
    intro h p hp
    have l := nm_lt n (fun i hi => h i (by omega))
    have dn := h n (by omega)
    show (nm d n + d n * 4 ^ n) / 4 ^ p % 4 = _
    by_cases e : p = n
    · subst e
      rw [Nat.add_mul_div_right _ _ (Nat.pow_pos (by decide)), Nat.div_eq_of_lt l, Nat.zero_add, Nat.mod_eq_of_lt dn]
    · have e4 : d n * 4 ^ n = d n * 4 ^ (n - p - 1) * 4 * 4 ^ p := by
        rw [Nat.mul_assoc, Nat.mul_assoc, ← Nat.pow_succ', ← Nat.pow_add]
        congr 2; omega
      rw [e4, Nat.add_mul_div_right _ _ (Nat.pow_pos (by decide)), Nat.add_mul_mod_self_right]
      exact ih (fun i hi => h i (by omega)) p (by omega)
section BE
variable (rd : Nat → Nat)
/-- of the first n tables: the greatest number read and one, the first table with it, how many -/
def bb : Nat → Nat × Nat × Nat
  | 0 => (0, 0, 0)
  | n + 1 => if (bb n).1 < rd n + 1 then (rd n + 1, n, 1) else if (bb n).1 = rd n + 1 then ((bb n).1, (bb n).2.1, (bb n).2.2 + 1) else bb n
variable {rd}
theorem bb_s (n : Nat) : bb rd (n + 1) = if (bb rd n).1 < rd n + 1 then (rd n + 1, n, 1) else if (bb rd n).1 = rd n + 1 then ((bb rd n).1, (bb rd n).2.1, (bb rd n).2.2 + 1) else bb rd n := rfl
theorem bb_ok (h : ∀ n, rd n ≤ 96) : ∀ n, (bb rd n).1 ≤ 97 ∧ (0 < n → (bb rd n).2.1 < n ∧ 0 < (bb rd n).1) := by
  intro n
  induction n with
  | zero => exact ⟨Nat.zero_le _, fun h => absurd h (Nat.lt_irrefl _)⟩
  | succ n ih =>
    have := h n
    rw [bb_s]
    by_cases e : (bb rd n).1 < rd n + 1
    · rw [if_pos e]; exact ⟨by show rd n + 1 ≤ 97; omega, fun _ => ⟨Nat.lt_succ_self n, Nat.succ_pos _⟩⟩
    · rw [if_neg e]
      have n0 : 0 < n := by
        by_cases z : n = 0
        · subst z; exact absurd (Nat.succ_pos _) e
        · omega
      obtain ⟨i1, i2⟩ := ih.2 n0
      by_cases e2 : (bb rd n).1 = rd n + 1
      · rw [if_pos e2]; exact ⟨ih.1, fun _ => ⟨by show (bb rd n).2.1 < n + 1; omega, i2⟩⟩
      · rw [if_neg e2]; exact ⟨ih.1, fun _ => ⟨by omega, i2⟩⟩
end BE
section BE2
variable {N nF lk nT nW : Nat} {ft : Nat → Nat} {tl : Nat → Nat} {tc : Nat → Nat → Int32} {l rl : List Nat} {wn ws : Nat → Nat} {σ : Sg} {Q : Option Value → Sg → Prop}
def rdN (ft : Nat → Nat) (nF lk : Nat) (tl : Nat → Nat) (tc : Nat → Nat → Int32) (nT : Nat) (l : List Nat) (nW : Nat) (wn ws : Nat → Nat) (rl : List Nat) (n : Nat) : Nat := rdC ft nF lk tl tc nT l nW wn ws rl (rwD 4 l.length n)
theorem rwD4 {m n j : Nat} : rwD 4 m n j < 4 := Nat.mod_lt _ (by decide)
/-- what a search among the class's tables changes -/
def Cs (σ σ' : Sg) : Prop := (∀ a, a ≠ 122 → a ≠ 225 → a ≠ 226 → ∀ j, σ'.1 a j = σ.1 a j) ∧ (∀ j, j ≠ 12 → j ≠ 13 → σ'.1 122 j = σ.1 122 j) ∧ σ'.2 = σ.2
theorem Cs.rf : Cs σ σ := ⟨fun _ _ _ _ _ => rfl, fun _ _ _ => rfl, rfl⟩
theorem Cs.u {σ' : Sg} {k j : Nat} {x : Int32} (h : Cs σ σ') (hk : (k = 122 ∧ (j = 12 ∨ j = 13)) ∨ k = 225 ∨ k = 226) : Cs σ (u1 σ' k j x) := by
  refine ⟨fun a h1 h2 h3 b => ?_, fun b hb hb2 => ?_, h.2.2⟩
  · rw [u1_cell (by omega)]; exact h.1 a h1 h2 h3 b
  · rw [u1_other (by omega)]; exact h.2.1 b hb hb2
theorem Cs.tr {σ' σ'' : Sg} (h : Cs σ σ') (g : Cs σ' σ'') : Cs σ σ'' := ⟨fun a h1 h2 h3 j => (g.1 a h1 h2 h3 j).trans (h.1 a h1 h2 h3 j), fun j hj hj2 => (g.2.1 j hj hj2).trans (h.2.1 j hj hj2), g.2.2.trans h.2.2⟩
theorem Cs.chg {σ' : Sg} (h : Cs σ σ') : Chg [0] σ σ' := by
  refine ⟨fun a j e => ?_, fun a j _ => by rw [h.2.2]⟩
  by_cases z : a = 122
  · subst z
    refine h.2.1 j (fun y => e ?_) (fun y => e ?_) <;> (subst y; exact List.mem_cons_self)
  · refine h.1 a z (fun y => e ?_) (fun y => e ?_) j <;> (subst y; exact List.mem_cons_self)
/-- all that the class's search reads -/
def Cr (ft : Nat → Nat) (nF lk : Nat) (tl : Nat → Nat) (tc : Nat → Nat → Int32) (nT : Nat) (l : List Nat) (nW : Nat) (wn ws : Nat → Nat) (rl : List Nat) (σ : Sg) : Prop := RW nW wn ws σ ∧ σ.1 122 4 = nI l.length ∧ RWc ft nF lk tl tc nT l rl σ ∧ l.length ≤ 6 ∧ rl.length ≤ 96 ∧ ∀ r, r < rl.length → (wAt (wL tl tc nT) (rl.getD r 0)).2.2.1 ≤ 6 ∧ ∀ i, i < (wAt (wL tl tc nT) (rl.getD r 0)).2.2.1 → pN ft nF lk tl tc nT l (rl.getD r 0) i < l.length
theorem Cr.s {σ' : Sg} (h : Cr ft nF lk tl tc nT l nW wn ws rl σ) (c : Cs σ σ') : Cr ft nF lk tl tc nT l nW wn ws rl σ' := by
  obtain ⟨h1, h2, h3, h4, h5, h6⟩ := h
  refine ⟨h1.fr (c.chg.sm (by decide)), by rw [c.2.1 4 (by decide) (by decide)]; exact h2, ⟨by rw [c.2.1 9 (by decide) (by decide)]; exact h3.1, fun r hr => ?_⟩, h4, h5, h6⟩
  rw [c.1 224 (by decide) (by decide) (by decide)]
  exact ⟨(h3.2 r hr).1, fun i hi => by rw [c.1 (128 + r) (by omega) (by omega) (by omega)]; exact (h3.2 r hr).2 i hi⟩
theorem Cr.read (h : Cr ft nF lk tl tc nT l nW wn ws rl σ) {sd : Nat → Nat} (hs4 : ∀ p, sd p < 4) (hs : ∀ p, p < l.length → σ.1 225 p = nI (sd p)) (hq : Q (some (.int (nI (rdC ft nF lk tl tc nT l nW wn ws rl sd)))) σ) : EvM (N + 1) mX8_readNow [.ref 122] σ Q :=
  C_readNow h.1 h.2.2.2.1 h.2.2.2.2.1 h.2.2.1 h.2.2.2.2.2 hs4 hs hq
/-- the class's best of the first n tables -/
def CB (rd : Nat → Nat) (k n : Nat) (σ : Sg) : Prop := σ.1 122 12 = xk (bb rd n).1 ∧ σ.1 122 13 = nI (bb rd n).2.2 ∧ (0 < n → ∀ p, p < k → σ.1 226 p = nI (rwD 4 k (bb rd n).2.1 p))
theorem C_searchBest (hC : Cr ft nF lk tl tc nT l nW wn ws rl σ) (h : ∀ σ', Cs σ σ' → CB (rdN ft nF lk tl tc nT l nW wn ws rl) l.length (4 ^ l.length) σ' → Q none σ') : EvM (N + 2) mX8_searchBest [.ref 122] σ Q := by
  have l6 := hC.2.2.2.1
  have p4 : 4 ^ l.length ≤ 4 ^ 6 := Nat.pow_le_pow_right (by decide) l6
  have e46 : (4 : Nat) ^ 6 = 4096 := by decide
  have r96 : ∀ n, rdN ft nF lk tl tc nT l nW wn ws rl n ≤ 96 := fun n => Nat.le_trans (cnt_le _ _) hC.2.2.2.2.1
  have L : ∀ n, n ≤ 4 ^ l.length → ∀ σ', Cs σ σ' → CB (rdN ft nF lk tl tc nT l nW wn ws rl) l.length n σ' → KX8_searchBest_12 N σ' Q (nI n) := by
    refine for_up ?_ ?_
    · intro σ' c e
      have h4 := (hC.s c).2.1
      refine BX8_searchBest_12 ⟨fun _ => h σ' c e, fun q => absurd ?_ q⟩
      rw [h4, shl4 (by omega)]; exact nI_le (Nat.le_refl _) (by omega)
    · intro n hn ih σ' c e
      have h4 := (hC.s c).2.1
      refine BX8_searchBest_12 ⟨fun q => absurd q (by rw [h4, shl4 (by omega)]; exact nI_ge hn (by omega)), fun _ => ?_⟩
      have J : ∀ i, i ≤ l.length → ∀ σ2, Cs σ σ2 → CB (rdN ft nF lk tl tc nT l nW wn ws rl) l.length n σ2 → (∀ p, p < i → σ2.1 225 p = nI (rwD 4 l.length n p)) → KX8_searchBest_22 N σ2 Q (nI n) (nI i) := by
        refine for_up ?_ ?_
        · intro σ2 c2 e2 s2
          have h42 := (hC.s c2).2.1
          refine BX8_searchBest_22 ⟨fun _ => (hC.s c2).read (fun p => rwD4) s2 ⟨_, rfl, ?_⟩, fun q => absurd (by rw [h42]; exact nI_le (Nat.le_refl _) (by omega)) q⟩
          have rn : rdN ft nF lk tl tc nT l nW wn ws rl n ≤ 96 := r96 n
          have b97 := (bb_ok r96 n).1
          have bs := bb_s (rd := rdN ft nF lk tl tc nT l nW wn ws rl) n
          show EvM (N + 1) mX8_weigh [.ref 122, .int (nI (rdN ft nF lk tl tc nT l nW wn ws rl n))] σ2 _
          refine EX8_weigh ⟨fun q => ?_, fun q => ?_⟩
          · rw [e2.1] at q ⊢
            have q1 := (xk_le (by omega) (by omega)).mp q
            rw [if_neg (by omega)] at bs
            rw [xk_eq (by omega) (by omega), e2.2.1, nI_1]
            refine ⟨fun z => ⟨rfl, ?_⟩, fun z => ⟨rfl, ?_⟩⟩
            · rw [if_pos z.symm] at bs
              rw [nI_1]
              refine ih _ (c2.u (by omega)) ⟨?_, ?_, fun _ p hp => ?_⟩
              · rw [u1_slot (by decide), bs]; exact e2.1
              · rw [u1_same, bs]
              · rw [u1_cell (by decide), bs]
                refine e2.2.2 ?_ p hp
                by_cases y : n = 0
                · subst y; exact absurd z.symm (by rw [show (bb (rdN ft nF lk tl tc nT l nW wn ws rl) 0).1 = 0 from rfl]; omega)
                · omega
            · rw [if_neg (fun y => z y.symm)] at bs
              rw [nI_1]
              refine ih _ c2 ⟨by rw [bs]; exact e2.1, by rw [bs]; exact e2.2.1, fun _ p hp => ?_⟩
              rw [bs]
              refine e2.2.2 ?_ p hp
              by_cases y : n = 0
              · subst y
                have : (bb (rdN ft nF lk tl tc nT l nW wn ws rl) 0).1 = 0 := rfl
                omega
              · omega
          · rw [e2.1] at q
            have q1 : ¬ rdN ft nF lk tl tc nT l nW wn ws rl n + 1 ≤ (bb (rdN ft nF lk tl tc nT l nW wn ws rl) n).1 := fun z => q ((xk_le (by omega) (by omega)).mpr z)
            rw [if_pos (by omega)] at bs
            have K : ∀ i, i ≤ l.length → ∀ σ3, Cs σ σ3 → σ3.1 122 12 = nI (rdN ft nF lk tl tc nT l nW wn ws rl n) → σ3.1 122 13 = 0 → (∀ p, p < l.length → σ3.1 225 p = nI (rwD 4 l.length n p)) → (∀ p, p < i → σ3.1 226 p = nI (rwD 4 l.length n p)) → KX8_weigh_20 (N + 1) σ3 (fun r9 σ2 => r9 = none ∧ KX8_searchBest_12 N σ2 Q (nI n + 1)) (nI (rdN ft nF lk tl tc nT l nW wn ws rl n)) (nI i) := by
              refine for_up ?_ ?_
              · intro σ3 c3 k12 k13 k5 k6
                refine BX8_weigh_20 ⟨fun _ => ⟨fun _ => ⟨rfl, ?_⟩, fun z => absurd k12.symm z⟩, fun z => absurd (by rw [(hC.s c3).2.1]; exact nI_le (Nat.le_refl _) (by omega)) z⟩
                rw [nI_1, k13]
                refine ih _ (c3.u (by omega)) ⟨?_, ?_, fun _ p hp => ?_⟩
                · rw [u1_slot (by decide), bs]; exact k12
                · rw [u1_same, bs]; rfl
                · rw [u1_cell (by decide), bs]; exact k6 p hp
              · intro i hi ihi σ3 c3 k12 k13 k5 k6
                refine BX8_weigh_20 ⟨fun z => absurd z (by rw [(hC.s c3).2.1]; exact nI_ge hi (by omega)), fun _ => ⟨nvin (by omega) (by omega), nvin (by omega) (by omega), ?_⟩⟩
                rw [cl (by omega), nI_1 i, k5 i hi]
                refine ihi (u1 σ3 226 i (nI (rwD 4 l.length n i))) (c3.u (by omega)) (by rw [u1_cell (by decide)]; exact k12) (by rw [u1_cell (by decide)]; exact k13) (fun p hp => by rw [u1_cell (by decide)]; exact k5 p hp) (fun p hp => ?_)
                by_cases z : p = i
                · rw [z, u1_same]
                · rw [u1_slot z]; exact k6 p (by omega)
            refine K 0 (by omega) _ ((c2.u (by omega)).u (by omega)) ?_ u1_same (fun p hp => ?_) (fun p hp => absurd hp (Nat.not_lt_zero p))
            · rw [u1_slot (by decide), u1_same]
            · rw [u1_cell (by decide), u1_cell (by decide)]; exact s2 p hp
        · intro i hi ihi σ2 c2 e2 s2
          have h42 := (hC.s c2).2.1
          refine BX8_searchBest_22 ⟨fun q => absurd q (by rw [h42]; exact nI_ge hi (by omega)), fun _ => ⟨nvin (by omega) (by omega), ?_⟩⟩
          rw [h42, show nI l.length - 1 = nI (l.length - 1) from pk_sub (b := 1) (by omega), pk_sub (by omega), shr2 (by omega) (by omega), cl (by omega), nI_1]
          refine ihi _ (c2.u (by omega)) ⟨by rw [u1_cell (by decide)]; exact e2.1, by rw [u1_cell (by decide)]; exact e2.2.1, fun z p hp => by rw [u1_cell (by decide)]; exact e2.2.2 z p hp⟩ (fun p hp => ?_)
          by_cases z : p = i
          · rw [z, u1_same]; rfl
          · rw [u1_slot z]; exact s2 p (by omega)
      exact J 0 (by omega) σ' c e (fun p hp => absurd hp (Nat.not_lt_zero p))
  refine EX8_searchBest (L 0 (Nat.zero_le _) _ ((Cs.rf.u (by omega)).u (by omega)) ⟨?_, u1_same, fun z => absurd z (Nat.lt_irrefl _)⟩)
  rw [u1_slot (by decide), u1_same]; rfl
theorem C_packBest {sd : Nat → Nat} (l6 : l.length ≤ 6) (h4 : σ.1 122 4 = nI l.length) (hs4 : ∀ p, sd p < 4) (hs : ∀ p, p < l.length → σ.1 226 p = nI (sd p)) (h : Q (some (.int (nI (nm sd l.length)))) σ) : EvM N mX8_packBest [.ref 122] σ Q := by
  have L : ∀ i, i ≤ l.length → KX8_packBest_4 N σ Q (nI (nm sd i)) (nI i) := by
    refine for_up ?_ ?_
    · exact BX8_packBest_4 ⟨fun _ => h, fun q => absurd (by rw [h4]; exact nI_le (Nat.le_refl _) (by omega)) q⟩
    · intro i hi ih
      have lt := nm_lt i (fun j _ => hs4 j)
      have s4 := hs4 i
      have p4 : 4 ^ i ≤ 4 ^ 6 := Nat.pow_le_pow_right (by decide) (by omega)
      have e46 : (4 : Nat) ^ 6 = 4096 := by decide
      have m3 : sd i * 4 ^ i ≤ 3 * 4 ^ i := Nat.mul_le_mul_right _ (by omega)
      refine BX8_packBest_4 ⟨fun q => absurd q (by rw [h4]; exact nI_ge hi (by omega)), fun _ => ⟨nvin (by omega) (by omega), ?_⟩⟩
      have es : nI (sd i) <<< ((2 * nI i) &&& 31) = nI (sd i * 4 ^ i) := by
        rw [show (2 : Int32) * nI i = nI (2 * i) by rw [show (2 : Int32) = nI 2 from rfl, pk_mul], pk_shlN (nI (2 * i) &&& 31) (2 * i) (by rw [show ∀ j : Nat, j < 32 → ((nI j &&& 31).toBitVec.smod 32).toNat = j from by decide]; omega) (by rw [Nat.pow_mul]; show sd i * 4 ^ i < _; omega), Nat.pow_mul]
      have eo : nm sd i ||| sd i * 4 ^ i = nm sd i + sd i * 4 ^ i := by
        have e2 : sd i * 4 ^ i = 2 ^ (2 * i) * sd i := by rw [Nat.pow_mul, Nat.mul_comm]
        have l2 : nm sd i < 2 ^ (2 * i) := by rw [Nat.pow_mul]; exact lt
        rw [e2, Nat.or_comm, ← Nat.two_pow_add_eq_or_of_lt l2, Nat.add_comm]
      rw [cl (by omega), hs i hi, es, nx_or, eo, nI_1]
      exact ih
  exact EX8_packBest (L 0 (by omega))
end BE2
