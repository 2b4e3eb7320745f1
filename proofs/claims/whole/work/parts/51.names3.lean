/-! ===== two names together ===== -/
theorem pq_sum {f : Nat → Nat} {n : Nat} : sumN f (n + 1) = sumN f n + f n := rfl
theorem O_together {σ : Sg} (hR : Rel σ) (a b c d : Int32) : OPi mX9_together mX10_together [.int a, .int b, .int c, .int d] σ := by
  obtain ⟨nF, lk, ft, nT, tl, tc, hF, hT⟩ := hR.1
  obtain ⟨nN, nn, pk, hN⟩ := hR.2.2.2.1
  have g2 := hT.2.1; have g3 := hT.2.2.1; have g1 := hT.1
  have m1 := hN.1; have m2 := hN.2.1; have m3 := hN.2.2.1
  have bad : (¬ vp_in a nN ∨ ¬ vp_in b nT ∨ ¬ vp_in c nN ∨ ¬ vp_in d nT) → EvM 40 mX10_together [.ref 245, .int a, .int b, .int c, .int d] σ (fun r2 σ2 => r2 = some (.int (-1)) ∧ Rel σ2) := by
    intro hb
    refine EX10_together (C10_isName m3 m1 (fun p1 => ⟨_, rfl, fun q => absurd q (by decide), fun _ => C10_isText g3 g1 (fun p2 => ⟨_, rfl, fun q => absurd q (by decide), fun _ => C10_isName m3 m1 (fun p3 => ⟨_, rfl, fun q => absurd q (by decide), fun _ => C10_isText g3 g1 (fun p4 => ?_) (fun _ => ⟨_, rfl, fun _ => ⟨rfl, hR⟩, fun q => absurd rfl q⟩)⟩) (fun _ => ⟨_, rfl, fun _ => ⟨rfl, hR⟩, fun q => absurd rfl q⟩)⟩) (fun _ => ⟨_, rfl, fun _ => ⟨rfl, hR⟩, fun q => absurd rfl q⟩)⟩) (fun _ => ⟨_, rfl, fun _ => ⟨rfl, hR⟩, fun q => absurd rfl q⟩))
    exfalso
    rcases hb with z | z | z | z
    · exact z p1
    · exact z p2
    · exact z p3
    · exact z p4
  have badC : ∀ {P : Prop}, (P → EvM 40 mX10_together [.ref 245, .int a, .int b, .int c, .int d] σ (fun r2 σ2 => r2 = some (.int (-1)) ∧ Rel σ2)) → (P → ∃ v1, some (Value.int (-1)) = some (.int v1) ∧ ∃ v, some (Value.int v1) = some (.int v) ∧ EvM 40 mX10_together [.ref 245, .int a, .int b, .int c, .int d] σ (fun r2 σ2 => r2 = some (.int v) ∧ Rel σ2)) := fun f p => ⟨_, rfl, _, rfl, f p⟩
  refine EX9_together (EX4_pairs ⟨fun pa => ⟨fun pc => ⟨fun pb => ⟨fun pd => ?_, badC fun q => bad (Or.inr (Or.inr (Or.inr (fun z => q ((in_iff g2 (by omega)).mpr z)))))⟩, badC fun q => bad (Or.inr (Or.inl (fun z => q ((in_iff g2 (by omega)).mpr z))))⟩, badC fun q => bad (Or.inr (Or.inr (Or.inl (fun z => q ((in_iff m2 (by omega)).mpr z)))))⟩, badC fun q => bad (Or.inl (fun z => q ((in_iff m2 (by omega)).mpr z)))⟩)
  obtain ⟨k, hk, rfl⟩ := vin ((in_iff m2 (by omega)).mp pa) (by omega)
  obtain ⟨l, hl, rfl⟩ := vin ((in_iff m2 (by omega)).mp pc) (by omega)
  obtain ⟨t, ht, rfl⟩ := vin ((in_iff g2 (by omega)).mp pb) (by omega)
  obtain ⟨u, hu, rfl⟩ := vin ((in_iff g2 (by omega)).mp pd) (by omega)
  clear pa pb pc pd bad badC
  have tl1 := (hT.2.2.2.1 t ht).2.1
  have tl2 := (hT.2.2.2.1 u hu).2.1
  let S := SS ft nF lk tc
  let A : Nat → Prop := fun i => fitP S tl nn pk k t i
  let B : Nat → Nat → Prop := fun i j => fitP S tl nn pk l u j ∧ agP S nn pk k t i l u j
  haveI dA : DecidablePred A := fun _ => Classical.propDecidable _
  haveI dB : ∀ i, DecidablePred (B i) := fun _ _ => Classical.propDecidable _
  let f : Nat → Nat := fun i => if A i then cnt (fun j => decide (B i j)) (tl u) else 0
  have val : EvM 40 mX10_together [.ref 245, .int (nI k), .int (nI t), .int (nI l), .int (nI u)] σ (fun r2 σ2 => r2 = some (.int (nI (sumN f (tl t)))) ∧ Rel σ2) := by
    refine EX10_together (C10_isName m3 m1 (fun p1 => ⟨_, rfl, fun q => absurd q (by decide), fun _ => C10_isText g3 g1 (fun p2 => ⟨_, rfl, fun q => absurd q (by decide), fun _ => C10_isName m3 m1 (fun p3 => ⟨_, rfl, fun q => absurd q (by decide), fun _ => C10_isText g3 g1 (fun p4 => ⟨_, rfl, fun q => absurd q (by decide), fun _ => ?_⟩) (fun q => absurd (nvin hu (by omega)) q)⟩) (fun q => absurd (nvin hl (by omega)) q)⟩) (fun q => absurd (nvin ht (by omega)) q)⟩) (fun q => absurd (nvin hk (by omega)) q))
    rw [hF.2.2.2.2.2.1]
    refine C_findSigns hF.1 hF.2.1 hF.2.2.2.2.1 (fun i hi => ⟨(hF.2.2.2.2.2.2 i hi).1, (hF.2.2.2.2.2.2 i hi).2.2.1⟩) fun σ' k1 k2 => ⟨rfl, ?_⟩
    have hc : Chg [0] σ σ' := k1.c0 fun _ => rfl
    have F' := hF.fr (hc.sm (by decide)); have T' := hT.fr (hc.sm (by decide)); have N' := hN.fr (hc.sm (by decide))
    have e4 : σ'.1 248 t = nI (tl t) := (T'.2.2.2.1 t ht).2.2.2.1
    have e5 : σ'.1 248 u = nI (tl u) := (T'.2.2.2.1 u hu).2.2.2.1
    have L : ∀ i, i ≤ tl t → KX10_together_49 37 σ' (fun r2 σ2 => r2 = some (.int (nI (sumN f (tl t)))) ∧ Rel σ2) (nI k) (nI t) (nI l) (nI u) (nI (sumN f i)) (nI i) := by
      refine for_up ?_ ?_
      · refine BX10_together_49 ⟨nvin (by omega) (by omega), ?_⟩
        rw [cl (by omega), e4]
        exact ⟨fun _ => ⟨rfl, hR.q hc⟩, fun z => absurd (nI_le (Nat.le_refl _) (by omega)) z⟩
      · intro i hi ih
        rw [pq_sum] at ih
        have J : ∀ j, j ≤ tl u → A i → KX10_together_63 37 σ' (fun r2 σ2 => r2 = some (.int (nI (sumN f (tl t)))) ∧ Rel σ2) (nI k) (nI t) (nI l) (nI u) (nI (sumN f i + cnt (fun j => decide (B i j)) j)) (nI i) (nI j) := by
          refine for_up ?_ ?_
          · intro hA
            refine BX10_together_63 ⟨nvin (by omega) (by omega), ?_⟩
            rw [cl (by omega), e5, nI_1]
            rw [show f i = cnt (fun j => decide (B i j)) (tl u) from if_pos hA] at ih
            exact ⟨fun _ => ih, fun z => absurd (nI_le (Nat.le_refl _) (by omega)) z⟩
          · intro j hj ihj hA
            have ihj := ihj hA
            rw [cnt_s] at ihj
            refine BX10_together_63 ⟨nvin (by omega) (by omega), ?_⟩
            rw [cl (by omega), e5]
            refine ⟨fun z => absurd z (nI_ge hj (by omega)), fun _ => M_fits F' T' k2 N' hk ht hi (fun _ => ⟨_, rfl, fun z => absurd z (by decide), fun _ => M_fits F' T' k2 N' hl hu hj (fun ok => ⟨_, rfl, fun z => absurd z (by decide), fun _ => M_agree F' T' k2 N' hk hl ht hu hA.1 ok.1 (fun ag => ⟨_, rfl, fun z => absurd z (by decide), fun _ => ?_⟩) (fun nag => ⟨_, rfl, fun _ => ?_, fun z => absurd rfl z⟩)⟩) (fun nk => ⟨_, rfl, fun _ => ?_, fun z => absurd rfl z⟩)⟩) (fun z => absurd hA z)⟩
            · rw [nI_1, nI_1]
              rw [if_pos (decide_eq_true ⟨ok, ag⟩)] at ihj
              exact ihj
            · rw [nI_1, Int32.add_zero]
              rw [if_neg (by simp only [decide_eq_true_eq]; exact fun z => nag z.2)] at ihj
              exact ihj
            · rw [nI_1, Int32.add_zero]
              rw [if_neg (by simp only [decide_eq_true_eq]; exact fun z => nk z.1)] at ihj
              exact ihj
        refine BX10_together_49 ⟨nvin (by omega) (by omega), ?_⟩
        rw [cl (by omega), e4]
        refine ⟨fun z => absurd z (nI_ge hi (by omega)), fun _ => ?_⟩
        by_cases hA : A i
        · exact J 0 (by omega) hA
        · rw [show f i = 0 from if_neg hA, Nat.add_zero] at ih
          refine BX10_together_63 ⟨nvin (by omega) (by omega), ?_⟩
          rw [cl (by omega), e5, nI_1]
          exact ⟨fun _ => ih, fun _ => M_fits F' T' k2 N' hk ht hi (fun z => absurd z hA) (fun _ => ⟨_, rfl, fun _ => ih, fun z => absurd rfl z⟩)⟩
    exact L 0 (by omega)
  have L : ∀ i, i ≤ tl t → KX4_pairs_47 35 σ (fun r9 σ1 => ∃ v1, r9 = some (.int v1) ∧ ∃ v, some (Value.int v1) = some (.int v) ∧ EvM 40 mX10_together [.ref 245, .int (nI k), .int (nI t), .int (nI l), .int (nI u)] σ1 (fun r2 σ2 => r2 = some (.int v) ∧ Rel σ2)) (nI k) (nI t) (nI l) (nI u) (nI (sumN f i)) (nI i) := by
    refine for_up ?_ ?_
    · exact BX4_pairs_47 (C_lengthOf hT ht ⟨_, rfl, fun _ => ⟨_, rfl, _, rfl, val⟩, fun z => absurd (nI_le (Nat.le_refl _) (by omega)) z⟩)
    · intro i hi ih
      rw [pq_sum] at ih
      have J : ∀ j, j ≤ tl u → A i → KX4_pairs_77 35 σ (fun r9 σ1 => ∃ v1, r9 = some (.int v1) ∧ ∃ v, some (Value.int v1) = some (.int v) ∧ EvM 40 mX10_together [.ref 245, .int (nI k), .int (nI t), .int (nI l), .int (nI u)] σ1 (fun r2 σ2 => r2 = some (.int v) ∧ Rel σ2)) (nI k) (nI t) (nI l) (nI u) (nI (sumN f i + cnt (fun j => decide (B i j)) j)) (nI i) (nI j) := by
        refine for_up ?_ ?_
        · intro hA
          rw [show f i = cnt (fun j => decide (B i j)) (tl u) from if_pos hA] at ih
          refine BX4_pairs_77 (C_lengthOf hT hu ⟨_, rfl, fun _ => ?_, fun z => absurd (nI_le (Nat.le_refl _) (by omega)) z⟩)
          rw [nI_1]; exact ih
        · intro j hj ihj hA
          have ihj := ihj hA
          rw [cnt_s] at ihj
          refine BX4_pairs_77 (C_lengthOf hT hu ⟨_, rfl, fun z => absurd z (nI_ge hj (by omega)), fun _ => C_fits hF hT hN hl hu hj (fun ok => ⟨_, rfl, fun z => absurd z (by decide), fun _ => C_agree hF hT hN hk hl ht hu hA.1 ok.1 (fun ag => ⟨_, rfl, fun z => absurd z (by decide), fun _ => ?_⟩) (fun nag => ⟨_, rfl, fun _ => ?_, fun z => absurd rfl z⟩)⟩) (fun nk => ⟨_, rfl, fun _ => ?_, fun z => absurd rfl z⟩)⟩)
          · rw [nI_1, nI_1]
            rw [if_pos (decide_eq_true ⟨ok, ag⟩)] at ihj
            exact ihj
          · rw [nI_1]
            rw [if_neg (by simp only [decide_eq_true_eq]; exact fun z => nag z.2)] at ihj
            exact ihj
          · rw [nI_1]
            rw [if_neg (by simp only [decide_eq_true_eq]; exact fun z => nk z.1)] at ihj
            exact ihj
      refine BX4_pairs_47 (C_lengthOf hT ht ⟨_, rfl, fun z => absurd z (nI_ge hi (by omega)), fun _ => C_fits hF hT hN hk ht hi (fun hA => ⟨_, rfl, fun z => absurd z (by decide), fun _ => J 0 (by omega) hA⟩) (fun hA => ⟨_, rfl, fun _ => ?_, fun z => absurd rfl z⟩)⟩)
      rw [show f i = 0 from if_neg hA, Nat.add_zero] at ih
      rw [nI_1]; exact ih
  exact L 0 (by omega)
