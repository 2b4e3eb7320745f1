/-! ===== names ===== -/
theorem four (k : Nat) : 2 ^ (2 * k) = 4 ^ k := by rw [Nat.pow_mul]
theorem sh31 : ∀ j : Nat, j < 32 → ((nI j &&& 31).toBitVec.smod 32).toNat = j := by decide
theorem quart {s k : Nat} (hs : s < 2147483648) (hk : k < 15) : (nI s >>> ((2 * nI k) &&& 31)) &&& 3 = nI (s / 4 ^ k % 4) := by
  rw [show (2 : Int32) * nI k = nI (2 * k) from pk_mul 2 k, pk_shrN (by omega) _ (2 * k) (sh31 _ (by omega)), four]
  exact pk_andN (Nat.lt_of_le_of_lt (Nat.div_le_self _ _) (by omega)) 2 (by decide)
theorem shr4 {s k : Nat} (hs : s < 2147483648) (hk : k < 16) : nI s >>> ((2 * nI k) &&& 31) = nI (s / 4 ^ k) := by
  rw [show (2 : Int32) * nI k = nI (2 * k) from pk_mul 2 k, pk_shrN (by omega) _ (2 * k) (sh31 _ (by omega)), four]
theorem shl4 {k : Nat} (hk : k < 15) : (1 : Int32) <<< ((2 * nI k) &&& 31) = nI (4 ^ k) := by
  have : 4 ^ k ≤ 4 ^ 14 := Nat.pow_le_pow_right (by decide) (by omega)
  rw [show (1 : Int32) = nI 1 from rfl, show (2 : Int32) * nI k = nI (2 * k) from pk_mul 2 k, pk_shlN _ (2 * k) (sh31 _ (by omega)) (by rw [four]; omega), four, Nat.one_mul]
section NM
variable {N : Nat} {σ : Sg} {Q : Option Value → Sg → Prop}
theorem C_areSounds {x y : Int32} {M : Nat} (hM : M ≤ 8) (h1 : ∀ n s, 1 ≤ n → n ≤ M → s < 4 ^ n → x = nI n → y = nI s → Q (some (.int 1)) σ) (h0 : ¬ (∃ n s, 1 ≤ n ∧ n ≤ M ∧ s < 4 ^ n ∧ x = nI n ∧ y = nI s) → Q (some (.int 0)) σ) : EvM N mX4_areSounds [.int x, .int (nI M), .int y] σ Q := by
  have p4 : ∀ n, n ≤ 8 → 4 ^ n ≤ 65536 := fun n hn => by
    have : 4 ^ n ≤ 4 ^ 8 := Nat.pow_le_pow_right (by decide) hn
    omega
  refine EX4_areSounds ⟨fun q => h0 ?_, fun q1 => ⟨fun q => h0 ?_, fun q2 => ⟨fun q => h0 ?_, fun q3 => ⟨fun q => ?_, fun q => h0 ?_⟩⟩⟩⟩
  · rintro ⟨n, s, a1, a2, a3, rfl, rfl⟩; clear h0 h1 p4 a3; ((try simp (disch := (first | omega | ((try simp (disch := omega) only [i_nI, Int32.reduceToInt, i_l]) <;> omega))) only [i_le, i_lt, i_eq, Int32.reduceToInt, i_nI, i_l, li0, vp_in_iff, i_sub, i_add] at *) <;> omega)
  · rintro ⟨n, s, a1, a2, a3, rfl, rfl⟩; clear h0 h1 p4 a3; ((try simp (disch := (first | omega | ((try simp (disch := omega) only [i_nI, Int32.reduceToInt, i_l]) <;> omega))) only [i_le, i_lt, i_eq, Int32.reduceToInt, i_nI, i_l, li0, vp_in_iff, i_sub, i_add] at *) <;> omega)
  · rintro ⟨n, s, a1, a2, a3, rfl, rfl⟩; have := p4 n (by omega); clear h0 h1 p4; ((try simp (disch := (first | omega | ((try simp (disch := omega) only [i_nI, Int32.reduceToInt, i_l]) <;> omega))) only [i_le, i_lt, i_eq, Int32.reduceToInt, i_nI, i_l, li0, vp_in_iff, i_sub, i_add] at *) <;> omega)
  · obtain ⟨n, hn, rfl⟩ : ∃ n : Nat, (1 ≤ n ∧ n ≤ M) ∧ x = nI n := ⟨x.toInt.toNat, by clear h0 h1 p4; ((try simp (disch := (first | omega | ((try simp (disch := omega) only [i_nI, Int32.reduceToInt, i_l]) <;> omega))) only [i_le, i_lt, i_eq, Int32.reduceToInt, i_nI, i_l, li0, vp_in_iff, i_sub, i_add] at *) <;> omega), i_of (by clear h0 h1 p4; ((try simp (disch := (first | omega | ((try simp (disch := omega) only [i_nI, Int32.reduceToInt, i_l]) <;> omega))) only [i_le, i_lt, i_eq, Int32.reduceToInt, i_nI, i_l, li0, vp_in_iff, i_sub, i_add] at *) <;> omega)) (by clear h0 h1 p4; ((try simp (disch := (first | omega | ((try simp (disch := omega) only [i_nI, Int32.reduceToInt, i_l]) <;> omega))) only [i_le, i_lt, i_eq, Int32.reduceToInt, i_nI, i_l, li0, vp_in_iff, i_sub, i_add] at *) <;> omega))⟩
    obtain ⟨s, hs, rfl⟩ := nI_of q3
    rw [shr4 (by omega) (by omega)] at q
    have e : s / 4 ^ n = 0 := (nI_eq (b := 0) (Nat.lt_of_le_of_lt (Nat.div_le_self _ _) hs) (by omega)).mp q
    refine h1 n s hn.1 hn.2 ?_ rfl rfl
    rcases Nat.div_eq_zero_iff.mp e with z | z
    · have := Nat.pow_pos (n := n) (show 0 < 4 by decide); omega
    · exact z
  · rintro ⟨n, s, a1, a2, a3, rfl, rfl⟩
    have := p4 n (by omega)
    apply q
    rw [shr4 (by omega) (by omega), Nat.div_eq_of_lt a3]; rfl
end NM
theorem O_name {σ : Sg} (hR : Rel σ) (a b : Int32) : OPi mX9_name mX10_name [.int a, .int b] σ := by
  obtain ⟨nN, nn, pk, hN⟩ := hR.2.2.2.1
  obtain ⟨h1, h2, h3, h4⟩ := id hN
  have p4 : ∀ n, n ≤ 8 → 4 ^ n ≤ 65536 := fun n hn => by
    have : 4 ^ n ≤ 4 ^ 8 := Nat.pow_le_pow_right (by decide) hn
    omega
  refine EX9_name (EX4_add (C_areSounds (M := 8) (by decide) (fun n s g1 g2 g3 ea eb => ⟨_, rfl, fun q => absurd q (by decide), fun _ => ?_⟩) (fun p => ⟨_, rfl, fun _ => ⟨_, rfl, _, rfl, ?_⟩, fun q => absurd rfl q⟩)))
  · subst ea; subst eb
    have p8 := p4 n (by omega)
    have pp := Nat.pow_pos (n := n) (show 0 < 4 by decide)
    have m1 : (1 ≤ ((nI n).toInt64).toInt ∧ ((nI n).toInt64).toInt ≤ 8) := by rw [i_l, i_nI (by omega)]; omega
    have m2 : (0 ≤ ((nI s).toInt64).toInt ∧ ((nI s).toInt64).toInt ≤ ((((1 : Int32) <<< ((2 * nI n) &&& 31)) - 1).toInt64).toInt) := by
      rw [i_l, i_l, i_nI (by omega), shl4 (by omega), show nI (4 ^ n) - 1 = nI (4 ^ n - 1) from pk_sub (b := 1) pp, i_nI (by omega)]; omega
    by_cases h44 : nN < 4
    · refine ⟨fun _ => ?_, fun q => absurd (by rw [h2]; exact nI_lt (b := 4) h44 (by omega)) q⟩
      have L : ∀ i, i ≤ n → ∀ σ' : Sg, Rw (117 + nN) σ σ' → (∀ p, p < i → σ'.1 (117 + nN) p = nI (s / 4 ^ (n - 1 - p) % 4)) → KX4_add_25 38 σ' (fun r9 σ1 => ∃ v1, r9 = some (.int v1) ∧ ∃ v, some (Value.int v1) = some (.int v) ∧ EvM 40 mX10_name [.ref 245, .int (nI n), .int (nI s)] σ1 (fun r2 σ2 => r2 = some (.int v) ∧ Rel σ2)) (nI n) (nI s) (nI i) := by
        refine for_up ?_ ?_
        · intro σ' k1 k2
          have e1 : σ'.1 115 3 = nI nN := by rw [k1.1 115 (by omega)]; exact h2
          refine BX4_add_25 ⟨fun _ => ⟨by rw [e1]; exact nvin h44 (by omega), ?_⟩, fun q => absurd (nI_le (Nat.le_refl _) (by omega)) q⟩
          rw [e1, cl (by omega), u1_same, u1_cell (by decide), e1, nI_1, nI_pred]
          refine ⟨_, rfl, _, rfl, EX10_name ⟨fun _ => ⟨fun _ => ⟨fun q => ?_, fun _ => ?_⟩, fun q => absurd m2 q⟩, fun q => absurd m1 q⟩⟩
          · exfalso
            rw [u1_cell (by decide), u1_cell (by decide), k1.1 245 (by omega), h3] at q
            have := (nI_eq (b := 4) (by omega) (by omega)).mp q
            omega
          · have e2 : (u1 (u1 σ' 121 nN (nI n)) 115 3 (nI (nN + 1))).1 245 27 = nI nN := by rw [u1_cell (by decide), u1_cell (by decide), k1.1 245 (by omega)]; exact h3
            generalize hs1 : u1 (u1 σ' 121 nN (nI n)) 115 3 (nI (nN + 1)) = σ1 at e2
            rw [e2, cl (by omega), u1_cell (show 245 ≠ 266 by decide), e2, cl (by omega), u1_same, u1_cell (by decide), u1_cell (by decide), e2, nI_1, nI_pred]
            refine ⟨nvin h44 (by omega), nvin h44 (by omega), rfl, ?_⟩
            have cc : Chg [0, 5] σ (u1 (u1 (u1 σ1 266 nN (nI n)) 267 nN (nI s)) 245 27 (nI (nN + 1))) := by
              rw [← hs1]
              exact (((((k1.chg (fun j => by rw [modr_117 h44]; decide) Chg.rf).u1 (by rw [show ∀ j, modOf 121 j = 5 from fun _ => rfl]; decide)).u1 (by decide)).u1 (by rw [show ∀ j, modOf 266 j = 5 from fun _ => rfl]; decide)).u1 (by rw [show ∀ j, modOf 267 j = 5 from fun _ => rfl]; decide)).u1 (by decide)
            refine hR.m5 cc ⟨nN + 1, fun x => if x = nN then n else nn x, fun x => if x = nN then s else pk x, by omega, ?_, u1_same, fun x hx => ?_⟩
            · rw [u1_cell (by decide), u1_cell (by decide), u1_cell (by decide), ← hs1, u1_same]
            · have q1 : ∀ x, (u1 (u1 (u1 σ1 266 nN (nI n)) 267 nN (nI s)) 245 27 (nI (nN + 1))).1 121 x = if x = nN then nI n else σ.1 121 x := fun x => by
                rw [u1_cell (by decide), u1_cell (by decide), u1_cell (by decide), ← hs1, u1_cell (by decide)]
                by_cases e : x = nN
                · rw [if_pos e, e, u1_same]
                · rw [if_neg e, u1_slot e, k1.1 121 (by omega)]
              have q2 : ∀ x, (u1 (u1 (u1 σ1 266 nN (nI n)) 267 nN (nI s)) 245 27 (nI (nN + 1))).1 266 x = if x = nN then nI n else σ.1 266 x := fun x => by
                rw [u1_cell (by decide), u1_cell (by decide)]
                by_cases e : x = nN
                · rw [if_pos e, e, u1_same]
                · rw [if_neg e, u1_slot e, ← hs1, u1_cell (by decide), u1_cell (by decide), k1.1 266 (by omega)]
              have q3 : ∀ x, (u1 (u1 (u1 σ1 266 nN (nI n)) 267 nN (nI s)) 245 27 (nI (nN + 1))).1 267 x = if x = nN then nI s else σ.1 267 x := fun x => by
                rw [u1_cell (by decide)]
                by_cases e : x = nN
                · rw [if_pos e, e, u1_same]
                · rw [if_neg e, u1_slot e, u1_cell (by decide), ← hs1, u1_cell (by decide), u1_cell (by decide), k1.1 267 (by omega)]
              have q4 : ∀ x p, x < 4 → (u1 (u1 (u1 σ1 266 nN (nI n)) 267 nN (nI s)) 245 27 (nI (nN + 1))).1 (117 + x) p = σ'.1 (117 + x) p := fun x p hx => by
                rw [u1_cell (by omega), u1_cell (by omega), u1_cell (by omega), ← hs1, u1_cell (by omega), u1_cell (by omega)]
              rw [q1, q2, q3]
              by_cases e : x = nN
              · subst e
                rw [show (fun y => if y = x then n else nn y) x = n from if_pos rfl, show (fun y => if y = x then s else pk y) x = s from if_pos rfl, if_pos rfl, if_pos rfl, if_pos rfl]
                exact ⟨g1, g2, g3, rfl, rfl, rfl, fun p hp => by rw [q4 x p h44]; exact k2 p hp⟩
              · rw [show (fun y => if y = nN then n else nn y) x = nn x from if_neg e, show (fun y => if y = nN then s else pk y) x = pk x from if_neg e, if_neg e, if_neg e, if_neg e]
                obtain ⟨a1, a2, a3, a4, a5, a6, a7⟩ := h4 x (by omega)
                exact ⟨a1, a2, a3, a4, a5, a6, fun p hp => by rw [q4 x p (by omega), k1.1 (117 + x) (by omega)]; exact a7 p hp⟩
        · intro i hi ih σ' k1 k2
          have e1 : σ'.1 115 3 = nI nN := by rw [k1.1 115 (by omega)]; exact h2
          refine BX4_add_25 ⟨fun q => absurd q (nI_ge hi (by omega)), fun _ => ⟨by rw [e1]; exact nvin h44 (by omega), nvin (by omega) (by omega), ?_⟩⟩
          rw [e1, cl (by omega), cl (by omega), nI_1, show nI n - 1 = nI (n - 1) from pk_sub (b := 1) g1, pk_sub (by omega), quart (by omega) (by omega)]
          refine ih _ k1.u1 (fun p hp => ?_)
          by_cases e : p = i
          · subst e; exact u1_same
          · rw [u1_slot e]; exact k2 p (by omega)
      exact L 0 (by omega) σ Rw.rf (fun p hp => absurd hp (by omega))
    · have e : EvM 40 mX10_name [.ref 245, .int (nI n), .int (nI s)] σ (fun r2 σ2 => r2 = some (.int (-3)) ∧ Rel σ2) := EX10_name ⟨fun _ => ⟨fun _ => ⟨fun _ => ⟨rfl, hR⟩, fun q => absurd (by rw [h3, show nN = 4 by omega]; rfl) q⟩, fun q => absurd m2 q⟩, fun q => absurd m1 q⟩
      refine ⟨fun q => ?_, fun _ => ⟨_, rfl, _, rfl, e⟩⟩
      exfalso
      rw [h2] at q
      have := (nI_ltI (b := 4) (by omega) (by omega)).mp q
      omega
  · refine EX10_name ⟨fun q => ⟨fun q2 => ?_, fun _ => ⟨rfl, hR⟩⟩, fun _ => ⟨rfl, hR⟩⟩
    exfalso
    rw [i_l] at q
    obtain ⟨n, hn, rfl⟩ : ∃ n : Nat, (1 ≤ n ∧ n ≤ 8) ∧ a = nI n := ⟨a.toInt.toNat, by omega, i_of (by omega) (by omega)⟩
    have p8 := p4 n (by omega)
    have pp := Nat.pow_pos (n := n) (show 0 < 4 by decide)
    rw [i_l, i_l, shl4 (by omega), show nI (4 ^ n) - 1 = nI (4 ^ n - 1) from pk_sub (b := 1) pp, i_nI (by omega)] at q2
    exact p ⟨n, b.toInt.toNat, hn.1, hn.2, by omega, rfl, i_of (by omega) (by omega)⟩
