/-! ===== claim ===== -/
theorem hs_eq2 {nC : Nat} {on : Nat → Nat} {gd : Nat → Bool} {k : Nat} (cl9 : ∀ k, k < nC → ∀ j, j < nC → (on j).testBit k = true → gd k = true → gd j = true) : ∀ m, k + 1 + m ≤ nC → ∀ i, (hs (fun j => !gd j) on k m).testBit i = true ↔ ((hs (fun _ => true) on k m).testBit i = true ∧ (gd i = false ∨ i = k))
  | 0, _, i => by
    unfold hs
    rw [Nat.testBit_two_pow]
    constructor
    · intro h
      exact ⟨h, Or.inr (of_decide_eq_true h).symm⟩
    · exact fun h => h.1
  | m + 1, hm, i => by
    have ih := hs_eq2 cl9 (k := k) m (by omega)
    rw [hs_s, hs_s]
    constructor
    · rintro (c | ⟨e, g, ne⟩)
      · exact ⟨Or.inl ((ih i).mp c).1, ((ih i).mp c).2⟩
      · obtain ⟨l, l1, l2⟩ := and_ne.mp ne
        refine ⟨Or.inr ⟨e, rfl, and_ne.mpr ⟨l, l1, ((ih l).mp l2).1⟩⟩, Or.inl ?_⟩
        rw [e]
        simpa using g
    · rintro ⟨c | ⟨e, _, ne⟩, g⟩
      · exact Or.inl ((ih i).mpr ⟨c, g⟩)
      · right
        obtain ⟨l, l1, l2⟩ := and_ne.mp ne
        have hl := (hs_off m l l2).1
        have g0 : gd (k + 1 + m) = false := by
          rcases g with g | g
          · rw [e] at g; exact g
          · omega
        refine ⟨e, by rw [g0]; rfl, and_ne.mpr ⟨l, l1, (ih l).mpr ⟨l2, Or.inl ?_⟩⟩⟩
        by_cases y : gd l = true
        · have := cl9 l (by omega) (k + 1 + m) (by omega) l1 y
          rw [g0] at this
          exact absurd this (by decide)
        · simpa using y
theorem not_k : ∀ k : Nat, k < 20 → (nI (2 ^ k) ^^^ -1 = nI (4294967295 - 2 ^ k)) := by decide +kernel
theorem not_kb : ∀ k, k < 20 → ∀ i, i < 24 → (4294967295 - 2 ^ k).testBit i = !decide (i = k) := by decide +kernel
theorem cnt_cg {p q : Nat → Bool} : ∀ n, (∀ i, i < n → p i = q i) → cnt p n = cnt q n
  | 0, _ => rfl
  | n + 1, h => by rw [cnt_s, cnt_s, cnt_cg n (fun i hi => h i (by omega)), h n (by omega)]
section DP
variable {N nC : Nat} {on dep : Nat → Nat} {σ : Sg} {Q : Option Value → Sg → Prop}
theorem M_deepOf (g1 : nC ≤ 20) (g8 : ∀ j, j < nC → on j < 2 ^ j ∧ σ.1 281 j = nI (on j) ∧ dep j = dpt on dep j j ∧ dep j ≤ j) {k : Nat} (hk : k < nC) (h : ∀ σ', Rw 282 σ σ' → Q (some (.int (nI (dep k)))) σ') : EvM N mX10_deepOf [.ref 245, .int (nI k)] σ Q := by
  have L : ∀ i, i ≤ k + 1 → ∀ σ' : Sg, Rw 282 σ σ' → (∀ j, j < i → σ'.1 282 j = nI (dep j)) → KX10_deepOf_2 N σ' Q (nI k) (nI i) := by
    refine for_up ?_ ?_
    · intro σ' k1 k2
      refine BX10_deepOf_2 ⟨fun _ => ⟨nvin (by omega) (by omega), ?_⟩, fun q => absurd (nI_lt (by omega) (by omega)) q⟩
      rw [cl (by omega), k2 k (by omega)]
      exact h σ' k1
    · intro i hi ih σ' k1 k2
      refine BX10_deepOf_2 ⟨fun q => by have := (nI_ltI (by omega) (by omega)).mp q; omega, fun _ => ⟨nvin (by omega) (by omega), ?_⟩⟩
      rw [cl (by omega)]
      obtain ⟨o1, o2, o3, o4⟩ := g8 i (by omega)
      have p2 := p20 (show i ≤ 20 by omega)
      have dl : ∀ l, l ≤ i → dpt on dep i l ≤ i := by
        intro l
        induction l with
        | zero => intro _; exact Nat.zero_le _
        | succ l il =>
          intro hl
          have := il (by omega)
          have := (g8 l (by omega)).2.2.2
          unfold dpt
          by_cases c : (on i).testBit l = true ∧ dpt on dep i l < dep l + 1
          · rw [if_pos c]; omega
          · rw [if_neg c]; omega
      have L2 : ∀ l, l ≤ i → ∀ σ' : Sg, Rw 282 σ σ' → (∀ j, j < i → σ'.1 282 j = nI (dep j)) → σ'.1 282 i = nI (dpt on dep i l) → KX10_deepOf_16 N σ' Q (nI k) (nI i) (nI l) := by
        refine for_up ?_ ?_
        · intro σ2 f1 f2 f3
          refine BX10_deepOf_16 ⟨fun _ => ?_, fun q => absurd (nI_le (Nat.le_refl _) (by omega)) q⟩
          rw [nI_1]
          refine ih σ2 f1 (fun j hj => ?_)
          by_cases e : j = i
          · rw [e, f3, ← o3]
          · exact f2 j (by omega)
        · intro l hl il σ2 f1 f2 f3
          have up : ∀ x : Nat, x = dpt on dep i (l + 1) → KX10_deepOf_16 N (u1 σ2 282 i (nI x)) Q (nI k) (nI i) (nI (l + 1)) := by
            intro x hx
            exact il _ f1.u1 (fun j hj => by rw [u1_slot (by omega)]; exact f2 j hj) (by rw [u1_same, hx])
          refine BX10_deepOf_16 ⟨fun q => absurd q (nI_ge hl (by omega)), fun _ => ⟨nvin (by omega) (by omega), ?_⟩⟩
          have q1 := dl l (by omega)
          have q2 := (g8 l (by omega)).2.2.2
          rw [cl (by omega), cl (by omega), f1.1 281 (by decide), o2, f3, f2 l hl, nI_1, nI_1]
          refine ⟨fun z => ⟨nvin (by omega) (by omega), nvin (by omega) (by omega), fun y => ⟨nvin (by omega) (by omega), nvin (by omega) (by omega), up _ ?_⟩, fun y => ⟨nvin (by omega) (by omega), nvin (by omega) (by omega), up _ ?_⟩⟩, fun z => ⟨nvin (by omega) (by omega), nvin (by omega) (by omega), up _ ?_⟩⟩
          · have := (nI_leI (by omega) (by omega)).mp y
            exact (if_neg (fun c => by omega)).symm
          · have bt := (bit_y (by omega) (by omega)).mp z
            refine (if_pos ⟨bt, ?_⟩).symm
            by_cases c : dpt on dep i l < dep l + 1
            · exact c
            · exact absurd (nI_le (by omega) (by omega)) y
          · exact (if_neg (fun c => z ((bit_y (by omega) (by omega)).mpr c.1))).symm
      exact L2 0 (by omega) _ k1.u1 (fun j hj => by rw [u1_slot (by omega)]; exact k2 j hj) u1_same
  exact EX10_deepOf (L 0 (by omega) σ Rw.rf (fun j hj => absurd hj (by omega)))
end DP
theorem O_claim {σ : Sg} (hR : Rel σ) (a b : Int32) : OPi mX9_claim mX10_claim [.int a, .int b] σ := by
  obtain ⟨nC, day, kd, nr, cm, gn, on, dep, gd, hC⟩ := id hR.2.2.2.2.2.2.1
  have hC0 := hC
  obtain ⟨g1, g2, g3, g4, g5, g6, g7, g8, g9⟩ := hC
  refine EX9_claim ?_
  by_cases hv : 0 ≤ a.toInt ∧ a.toInt < nC
  · obtain ⟨k, hk, rfl⟩ : ∃ k : Nat, k < nC ∧ a = nI k := ⟨a.toInt.toNat, by omega, i_of (by omega) (by omega)⟩
    have hm : 0 ≤ ((nI k).toInt64).toInt ∧ ((nI k).toInt64).toInt ≤ (((σ.1 245 52) - 1).toInt64).toInt := by
      rw [i_l, i_l, g4, show nI nC - 1 = nI (nC - 1) from pk_sub (b := 1) (by omega), i_nI (by omega), i_nI (by omega)]; omega
    have hc : 0 ≤ (nI k).toInt ∧ (nI k).toInt < (σ.1 230 7).toInt := by
      rw [g3, i_nI (by omega), i_nI (by omega)]; omega
    obtain ⟨b1, b2, b3, b4, b5, b6, b7, b8, b9, b10, b11, b12, b13, b14, b15, b16, b17, b18⟩ := g8 k hk
    have p2 := p20 (show k ≤ 20 by omega)
    refine EX1_tell ⟨fun _ => ⟨fun z => ⟨nvin (by omega) (by omega), ?_⟩, fun z => ⟨nvin (by omega) (by omega), ?_⟩, fun z => ⟨nvin (by omega) (by omega), ?_⟩, fun z => ⟨nvin (by omega) (by omega), ?_⟩, fun z => ⟨nvin (by omega) (by omega), ?_⟩, fun z => ?_, fun z => ⟨nvin (by omega) (by omega), ?_⟩, fun n0 n1 n2 n3 n4 n5 n6 => ?_⟩, fun q => absurd hc q⟩
    · subst z
      rw [cl (by omega), b8]
      exact ⟨_, rfl, _, rfl, EX10_claim (EX10_isClaim ⟨fun _ => ⟨_, rfl, fun z => absurd z (by decide), fun _ => ⟨fun _ => ⟨fun _ => ⟨nvin (by omega) (by omega), by rw [cl (by omega), b9]; exact ⟨rfl, hR⟩⟩, fun z => absurd z (by decide), fun z => absurd z (by decide), fun z => absurd z (by decide), fun z => absurd z (by decide), fun z => absurd z (by decide), fun m0 m1 m2 m3 m4 m5 => absurd rfl m0⟩, fun q => absurd (by decide) q⟩⟩, fun q => absurd hm q⟩)⟩
    · subst z
      rw [cl (by omega), b10]
      exact ⟨_, rfl, _, rfl, EX10_claim (EX10_isClaim ⟨fun _ => ⟨_, rfl, fun z => absurd z (by decide), fun _ => ⟨fun _ => ⟨fun z => absurd z (by decide), fun _ => ⟨nvin (by omega) (by omega), by rw [cl (by omega), b11]; exact ⟨rfl, hR⟩⟩, fun z => absurd z (by decide), fun z => absurd z (by decide), fun z => absurd z (by decide), fun z => absurd z (by decide), fun m0 m1 m2 m3 m4 m5 => absurd rfl m1⟩, fun q => absurd (by decide) q⟩⟩, fun q => absurd hm q⟩)⟩
    · subst z
      rw [cl (by omega), b12]
      exact ⟨_, rfl, _, rfl, EX10_claim (EX10_isClaim ⟨fun _ => ⟨_, rfl, fun z => absurd z (by decide), fun _ => ⟨fun _ => ⟨fun z => absurd z (by decide), fun z => absurd z (by decide), fun _ => ⟨nvin (by omega) (by omega), by rw [cl (by omega), b13]; exact ⟨rfl, hR⟩⟩, fun z => absurd z (by decide), fun z => absurd z (by decide), fun z => absurd z (by decide), fun m0 m1 m2 m3 m4 m5 => absurd rfl m2⟩, fun q => absurd (by decide) q⟩⟩, fun q => absurd hm q⟩)⟩
    · subst z
      rw [cl (by omega), b14]
      exact ⟨_, rfl, _, rfl, EX10_claim (EX10_isClaim ⟨fun _ => ⟨_, rfl, fun z => absurd z (by decide), fun _ => ⟨fun _ => ⟨fun z => absurd z (by decide), fun z => absurd z (by decide), fun z => absurd z (by decide), fun _ => ⟨nvin (by omega) (by omega), by rw [cl (by omega), b15]; exact ⟨rfl, hR⟩⟩, fun z => absurd z (by decide), fun z => absurd z (by decide), fun m0 m1 m2 m3 m4 m5 => absurd rfl m3⟩, fun q => absurd (by decide) q⟩⟩, fun q => absurd hm q⟩)⟩
    · subst z
      rw [cl (by omega), b16]
      exact C_bitC (by omega) ⟨_, rfl, _, rfl, _, rfl, EX10_claim (EX10_isClaim ⟨fun _ => ⟨_, rfl, fun z => absurd z (by decide), fun _ => ⟨fun _ => ⟨fun z => absurd z (by decide), fun z => absurd z (by decide), fun z => absurd z (by decide), fun z => absurd z (by decide), fun _ => ⟨nvin (by omega) (by omega), by rw [cl (by omega), b17]; exact C_bits (by omega) ⟨_, rfl, rfl, hR⟩⟩, fun z => absurd z (by decide), fun m0 m1 m2 m3 m4 m5 => absurd rfl m4⟩, fun q => absurd (by decide) q⟩⟩, fun q => absurd hm q⟩)⟩
    · subst z
      refine C_hangingOn hC0 hk ⟨_, rfl, ?_⟩
      have hW := hs_eq2 g9 (k := k) (nC - 1 - k) (by omega)
      have wl := hs_lt (keep := fun j => !gd j) (on := on) (k := k) (nC - 1 - k)
      have woff := fun i => hs_off (keep := fun j => !gd j) (on := on) (k := k) (nC - 1 - k) i
      have ml := hs_lt (keep := fun _ => true) (on := on) (k := k) (nC - 1 - k)
      rw [show k + 1 + (nC - 1 - k) = nC by omega] at wl ml woff
      have p3 := p20 g1
      have MH : ∀ {Q : Option Value → Sg → Prop}, Q (some (.int (nI (hs (fun _ => true) on k (nC - 1 - k))))) σ → EvM 39 mX10_hanging [.ref 245, .int (nI k)] σ Q := fun h => M_hanging g1 g4 (fun j hj => ⟨(g8 j hj).2.2.2.2.1, (g8 j hj).2.2.2.2.2.2.2.2.2.2.2.2.2.2.2.2.1⟩) hk h
      generalize hs (fun j => !gd j) on k (nC - 1 - k) = W at hW wl woff
      generalize hs (fun _ => true) on k (nC - 1 - k) = M at hW ml MH
      rw [one_shl (by omega), not_k k (by omega), nx_and]
      refine C_bitC (Nat.lt_of_le_of_lt Nat.and_le_left (by omega)) ⟨_, rfl, _, rfl, _, rfl, ?_⟩
      have e : pc 24 (W &&& (4294967295 - 2 ^ k)) = cnt (fun i => W.testBit i && !decide (i = k)) nC := by
        rw [pc_cnt, show 24 = nC + (24 - nC) by omega, cnt_off (fun i hi q => ?_)]
        · exact cnt_cg nC (fun i hi => by rw [Nat.testBit_and, not_kb k (by omega) i (by omega)])
        · rw [Nat.testBit_and] at q
          have := (woff i (by by_cases c : W.testBit i = true; exact c; rw [show W.testBit i = false by simpa using c] at q; exact absurd q (by simp))).1
          omega
      rw [e]
      have z0 : ∀ i, i ≤ k + 1 → cnt (fun i => W.testBit i && !decide (i = k)) i = 0 := by
        intro i
        induction i with
        | zero => intro _; rfl
        | succ i ii =>
          intro hi
          rw [cnt_s, ii (by omega)]
          by_cases c : i = k
          · rw [if_neg (by rw [c]; simp)]
          · have : ¬ W.testBit i = true := fun q => by have := (woff i q).2; omega
            rw [if_neg (by simp [this])]
      have L : ∀ i, i ≤ nC → k + 1 ≤ i → KX10_claim_112 38 σ (fun r2 σ2 => r2 = some (.int (nI (cnt (fun i => W.testBit i && !decide (i = k)) nC))) ∧ Rel σ2) (nI M) (nI (cnt (fun i => W.testBit i && !decide (i = k)) i)) (nI i) := by
        refine for_up ?_ ?_
        · intro _
          exact BX10_claim_112 ⟨fun _ => ⟨rfl, hR⟩, fun q => absurd (by rw [g4]; exact nI_le (Nat.le_refl _) (by omega)) q⟩
        · intro i hi ih hki
          have ih := ih (by omega)
          rw [cnt_s] at ih
          refine BX10_claim_112 ⟨fun q => absurd q (by rw [g4]; exact nI_ge hi (by omega)), fun _ => ?_⟩
          rw [nI_1, nI_1, Int32.add_zero]
          have no : ¬ W.testBit i = true → KX10_claim_112 38 σ (fun r2 σ2 => r2 = some (.int (nI (cnt (fun i => W.testBit i && !decide (i = k)) nC))) ∧ Rel σ2) (nI M) (nI (cnt (fun i => W.testBit i && !decide (i = k)) i)) (nI (i + 1)) := fun e => by
            rw [if_neg (by simp [e]), Nat.add_zero] at ih
            exact ih
          refine ⟨fun z => ⟨nvin (by omega) (by omega), ?_⟩, fun z => no (fun e => z ((bit_y (by omega) (by omega)).mpr ((hW i).mp e).1))⟩
          have mb := (bit_y (by omega) (by omega)).mp z
          rw [cl (by omega), (g8 i hi).2.2.2.2.2.2.2.2.2.2.2.2.2.2.1]
          have h4 := (g8 i hi).2.2.2.1
          by_cases y : gd i = true
          · rw [if_pos y]
            refine ⟨fun z => absurd z (n4 (by omega)), fun _ => no (fun e => ?_)⟩
            rcases ((hW i).mp e).2 with q | q
            · rw [y] at q; exact absurd q (by decide)
            · omega
          · rw [if_neg y]
            have wi : W.testBit i = true := (hW i).mpr ⟨mb, Or.inl (by simpa using y)⟩
            refine ⟨fun _ => ?_, fun z => absurd rfl z⟩
            rw [if_pos (by rw [wi]; simp; omega)] at ih
            exact ih
      have L0 := L (k + 1) (by omega) (Nat.le_refl _)
      rw [z0 (k + 1) (Nat.le_refl _)] at L0
      exact EX10_claim (EX10_isClaim ⟨fun _ => ⟨_, rfl, fun z => absurd z (by decide), fun _ => ⟨fun _ => ⟨fun z => absurd z (by decide), fun z => absurd z (by decide), fun z => absurd z (by decide), fun z => absurd z (by decide), fun z => absurd z (by decide), fun _ => MH ⟨_, rfl, by rw [nI_1]; exact L0⟩, fun m0 m1 m2 m3 m4 m5 => absurd rfl m5⟩, fun q => absurd (by decide) q⟩⟩, fun q => absurd hm q⟩)
    · subst z
      rw [cl (by omega), b18]
      exact ⟨_, rfl, _, rfl, EX10_claim (EX10_isClaim ⟨fun _ => ⟨_, rfl, fun z => absurd z (by decide), fun _ => ⟨fun _ => ⟨fun z => absurd z (by decide), fun z => absurd z (by decide), fun z => absurd z (by decide), fun z => absurd z (by decide), fun z => absurd z (by decide), fun z => absurd z (by decide), fun _ _ _ _ _ _ => M_deepOf g1 (fun j hj => ⟨(g8 j hj).2.2.2.2.1, (g8 j hj).2.2.2.2.2.2.2.2.2.2.2.2.2.2.2.2.1, (g8 j hj).2.2.2.2.2.1, (g8 j hj).2.2.2.2.2.2.1⟩) hk (fun σ' r => ⟨_, rfl, rfl, hR.q (r.chg (fun j => by rw [show modOf 282 j = 0 from rfl]; decide) Chg.rf)⟩)⟩, fun q => absurd (by decide) q⟩⟩, fun q => absurd hm q⟩)⟩
    · have hb : ¬ (0 ≤ (b.toInt64).toInt ∧ (b.toInt64).toInt ≤ 6) := by
        rw [i_l]
        intro q
        obtain ⟨w, hw, rfl⟩ : ∃ w : Nat, w < 7 ∧ b = nI w := ⟨b.toInt.toNat, by omega, i_of (by omega) (by omega)⟩
        have : w = 0 ∨ w = 1 ∨ w = 2 ∨ w = 3 ∨ w = 4 ∨ w = 5 ∨ w = 6 := by omega
        rcases this with r | r | r | r | r | r | r
        · exact n0 (by rw [r]; rfl)
        · exact n1 (by rw [r]; rfl)
        · exact n2 (by rw [r]; rfl)
        · exact n3 (by rw [r]; rfl)
        · exact n4 (by rw [r]; rfl)
        · exact n5 (by rw [r]; rfl)
        · exact n6 (by rw [r]; rfl)
      exact ⟨_, rfl, _, rfl, EX10_claim (EX10_isClaim ⟨fun _ => ⟨_, rfl, fun z => absurd z (by decide), fun _ => ⟨fun q => absurd q hb, fun _ => ⟨rfl, hR⟩⟩⟩, fun q => absurd hm q⟩)⟩
  · have hm : ¬ (0 ≤ (a.toInt64).toInt ∧ (a.toInt64).toInt ≤ (((σ.1 245 52) - 1).toInt64).toInt) := by
      rw [i_l, i_l, g4]
      intro q
      by_cases z : nC = 0
      · rw [z, show (nI 0 - 1).toInt = -1 by decide] at q; omega
      · rw [show nI nC - 1 = nI (nC - 1) from pk_sub (b := 1) (by omega), i_nI (by omega)] at q; omega
    have hc : ¬ (0 ≤ a.toInt ∧ a.toInt < (σ.1 230 7).toInt) := by rw [g3, i_nI (by omega)]; exact hv
    exact EX1_tell ⟨fun q => absurd q hc, fun _ => ⟨_, rfl, _, rfl, EX10_claim (EX10_isClaim ⟨fun q => absurd q hm, fun _ => ⟨_, rfl, fun _ => ⟨rfl, hR⟩, fun z => absurd rfl z⟩⟩)⟩⟩
