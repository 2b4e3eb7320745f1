/-! ===== known ===== -/
def kS (p : Nat → Bool) : Nat → Nat × Int32 × Int32
  | 0 => (0, -4, -4)
  | i + 1 => if p i = true then ((kS p i).1 + 1, (if (kS p i).1 = 0 then nI i else (kS p i).2.1), nI i) else kS p i
theorem kS_le (p : Nat → Bool) : ∀ i, (kS p i).1 ≤ i
  | 0 => Nat.le_refl 0
  | i + 1 => by
    have ih := kS_le p i
    unfold kS
    by_cases h : p i = true
    · rw [if_pos h]; exact Nat.succ_le_succ ih
    · rw [if_neg h]; omega
theorem kS_z (p : Nat → Bool) : ∀ i, i ≤ 20 → ((kS p i).1 = 0 ↔ (kS p i).2.1 = -4)
  | 0, _ => ⟨fun _ => rfl, fun _ => rfl⟩
  | i + 1, hi => by
    have ih := kS_z p i (by omega)
    unfold kS
    by_cases h : p i = true
    · rw [if_pos h]
      refine ⟨fun z => absurd z (by simp), fun z => ?_⟩
      exfalso
      by_cases c : (kS p i).1 = 0
      · rw [show ((kS p i).1 + 1, (if (kS p i).1 = 0 then nI i else (kS p i).2.1), nI i).2.1 = nI i from if_pos c] at z
        exact n4 (by omega) z
      · rw [show ((kS p i).1 + 1, (if (kS p i).1 = 0 then nI i else (kS p i).2.1), nI i).2.1 = (kS p i).2.1 from if_neg c] at z
        exact c (ih.mpr z)
    · rw [if_neg h]; exact ih
def kA (w : Int32) (s : Nat × Int32 × Int32) : Int32 := if w = 0 then nI s.1 else if w = 1 then s.2.1 else s.2.2
/-- is a claim known on a day -/
def kn (cm gn : Nat → Nat) (gd : Nat → Bool) (d k : Nat) : Bool := decide (cm k ≤ d ∧ (gd k = true → d < gn k))
section KN
variable {N nC day : Nat} {kd nr cm gn on dep : Nat → Nat} {gd : Nat → Bool} {σ : Sg} {Q : Option Value → Sg → Prop}
theorem C_isKnown (hC : RC nC day kd nr cm gn on dep gd σ) {k d : Nat} (hk : k < nC) (hd : d ≤ 99) (h1 : kn cm gn gd d k = true → Q (some (.int 1)) σ) (h0 : ¬ kn cm gn gd d k = true → Q (some (.int 0)) σ) : EvM N mX1_isKnown [.ref 230, .int (nI k), .int (nI d)] σ Q := by
  obtain ⟨g1, g2, g3, g4, g5, g6, g7, g8, g9⟩ := hC
  obtain ⟨b1, b2, b3, b4, b5, b6, b7, b8, b9, b10, b11, b12, b13, b14, b15, b16, b17, b18⟩ := g8 k hk
  refine EX1_isKnown ⟨nvin (by omega) (by omega), ?_⟩
  rw [cl (by omega), b12, b14]
  refine ⟨fun z => h0 (fun e => ?_), fun z => ⟨nvin (by omega) (by omega), ?_⟩⟩
  · have e2 := of_decide_eq_true e
    have := (nI_ltI (by omega) (by omega)).mp z
    omega
  · have c1 : cm k ≤ d := by
      by_cases c : cm k ≤ d
      · exact c
      · exact absurd (nI_lt (by omega) (by omega)) z
    by_cases g : gd k = true
    · rw [if_pos g]
      refine ⟨fun y => absurd y (n4 (by omega)), fun _ => ⟨nvin (by omega) (by omega), fun y => h0 (fun e => ?_), fun y => h1 ?_⟩⟩
      · have e2 := (of_decide_eq_true e).2 g
        have := (nI_leI (by omega) (by omega)).mp y
        omega
      · refine decide_eq_true ⟨c1, fun _ => ?_⟩
        by_cases c : gn k ≤ d
        · exact absurd (nI_le c (by omega)) y
        · omega
    · rw [if_neg g]
      exact ⟨fun _ => h1 (decide_eq_true ⟨c1, fun e => absurd e g⟩), fun y => absurd rfl y⟩
end KN
theorem O_known {σ : Sg} (hR : Rel σ) (a b : Int32) : OPi mX9_known mX10_known [.int a, .int b] σ := by
  obtain ⟨nC, day, kd, nr, cm, gn, on, dep, gd, hC⟩ := id hR.2.2.2.2.2.2.1
  have hC0 := hC
  obtain ⟨g1, g2, g3, g4, g5, g6, g7, g8, g9⟩ := hC
  refine EX9_known ?_
  by_cases hv : (0 ≤ a.toInt ∧ a.toInt ≤ 99) ∧ (0 ≤ b.toInt ∧ b.toInt ≤ 2)
  · obtain ⟨d, hd, rfl⟩ : ∃ d : Nat, d ≤ 99 ∧ a = nI d := ⟨a.toInt.toNat, by omega, i_of (by omega) (by omega)⟩
    have M : KX10_known_39 39 σ (fun r2 σ2 => r2 = some (.int (kA b (kS (kn cm gn gd d) nC))) ∧ Rel σ2) (nI d) b 0 (-4) (-4) 0 := by
      have L : ∀ i, i ≤ nC → KX10_known_39 39 σ (fun r2 σ2 => r2 = some (.int (kA b (kS (kn cm gn gd d) nC))) ∧ Rel σ2) (nI d) b (nI (kS (kn cm gn gd d) i).1) (kS (kn cm gn gd d) i).2.1 (kS (kn cm gn gd d) i).2.2 (nI i) := by
        refine for_up ?_ ?_
        · refine BX10_known_39 ⟨fun _ => ?_, fun q => absurd (by rw [g4]; exact nI_le (Nat.le_refl _) (by omega)) q⟩
          unfold kA
          exact ⟨fun z => ⟨by rw [if_pos z], hR⟩, fun z => ⟨fun y => ⟨by rw [if_neg z, if_pos y], hR⟩, fun y => ⟨by rw [if_neg z, if_neg y], hR⟩⟩⟩
        · intro i hi ih
          obtain ⟨b1, b2, b3, b4, b5, b6, b7, b8, b9, b10, b11, b12, b13, b14, b15, b16, b17, b18⟩ := g8 i hi
          have kz := kS_z (kn cm gn gd d) i (by omega)
          have no : ¬ kn cm gn gd d i = true → KX10_known_39 39 σ (fun r2 σ2 => r2 = some (.int (kA b (kS (kn cm gn gd d) nC))) ∧ Rel σ2) (nI d) b (nI (kS (kn cm gn gd d) i).1) (kS (kn cm gn gd d) i).2.1 (kS (kn cm gn gd d) i).2.2 (nI (i + 1)) := by
            intro e
            rw [show kS (kn cm gn gd d) (i + 1) = kS (kn cm gn gd d) i from if_neg e] at ih
            exact ih
          have yes : kn cm gn gd d i = true → ((kS (kn cm gn gd d) i).2.1 = -4 → KX10_known_39 39 σ (fun r2 σ2 => r2 = some (.int (kA b (kS (kn cm gn gd d) nC))) ∧ Rel σ2) (nI d) b (nI ((kS (kn cm gn gd d) i).1 + 1)) (nI i) (nI i) (nI (i + 1))) ∧ (¬ (kS (kn cm gn gd d) i).2.1 = -4 → KX10_known_39 39 σ (fun r2 σ2 => r2 = some (.int (kA b (kS (kn cm gn gd d) nC))) ∧ Rel σ2) (nI d) b (nI ((kS (kn cm gn gd d) i).1 + 1)) (kS (kn cm gn gd d) i).2.1 (nI i) (nI (i + 1))) := by
            intro e
            rw [show kS (kn cm gn gd d) (i + 1) = ((kS (kn cm gn gd d) i).1 + 1, (if (kS (kn cm gn gd d) i).1 = 0 then nI i else (kS (kn cm gn gd d) i).2.1), nI i) from if_pos e] at ih
            refine ⟨fun z => ?_, fun z => ?_⟩
            · rw [if_pos (kz.mpr z)] at ih; exact ih
            · rw [if_neg (fun y => z (kz.mp y))] at ih; exact ih
          refine BX10_known_39 ⟨fun q => absurd q (by rw [g4]; exact nI_ge hi (by omega)), fun _ => ⟨nvin (by omega) (by omega), ?_⟩⟩
          rw [cl (by omega), b13, b15, nI_1, nI_1]
          refine ⟨fun z => no (fun e => ?_), fun z => ⟨nvin (by omega) (by omega), ?_⟩⟩
          · have e2 := of_decide_eq_true e
            have := (nI_ltI (by omega) (by omega)).mp z
            omega
          · have c1 : cm i ≤ d := by
              by_cases c : cm i ≤ d
              · exact c
              · exact absurd (nI_lt (by omega) (by omega)) z
            by_cases g : gd i = true
            · rw [if_pos g]
              refine ⟨fun y => absurd y (n4 (by omega)), fun _ => ⟨nvin (by omega) (by omega), fun y => no (fun e => ?_), fun y => yes ?_⟩⟩
              · have e2 := (of_decide_eq_true e).2 g
                have := (nI_leI (by omega) (by omega)).mp y
                omega
              · refine decide_eq_true ⟨c1, fun _ => ?_⟩
                by_cases c : gn i ≤ d
                · exact absurd (nI_le c (by omega)) y
                · omega
            · rw [if_neg g]
              exact ⟨fun _ => yes (decide_eq_true ⟨c1, fun e => absurd e g⟩), fun y => absurd rfl y⟩
      exact L 0 (by omega)
    have C : KX1_knownOn_34 38 σ (fun r σ1 => ∃ v1, r = some (.int v1) ∧ ∃ v : Int32, some (Value.int v1) = some (.int v) ∧ EvM 40 mX10_known [.ref 245, .int (nI d), .int b] σ1 (fun r2 σ2 => r2 = some (.int v) ∧ Rel σ2)) (nI d) b 0 (-4) (-4) 0 := by
      have fin : EvM 40 mX10_known [.ref 245, .int (nI d), .int b] σ (fun r2 σ2 => r2 = some (.int (kA b (kS (kn cm gn gd d) nC))) ∧ Rel σ2) := EX10_known ⟨fun _ => ⟨fun _ => M, fun q => absurd (by rw [i_l]; exact hv.2) q⟩, fun q => absurd (by rw [i_l]; exact hv.1) q⟩
      have L : ∀ i, i ≤ nC → KX1_knownOn_34 38 σ (fun r σ1 => ∃ v1, r = some (.int v1) ∧ ∃ v : Int32, some (Value.int v1) = some (.int v) ∧ EvM 40 mX10_known [.ref 245, .int (nI d), .int b] σ1 (fun r2 σ2 => r2 = some (.int v) ∧ Rel σ2)) (nI d) b (nI (kS (kn cm gn gd d) i).1) (kS (kn cm gn gd d) i).2.1 (kS (kn cm gn gd d) i).2.2 (nI i) := by
        refine for_up ?_ ?_
        · refine BX1_knownOn_34 ⟨fun _ => ?_, fun q => absurd (by rw [g3]; exact nI_le (Nat.le_refl _) (by omega)) q⟩
          refine ⟨fun z => ⟨_, rfl, _, rfl, ?_⟩, fun z => ⟨fun y => ⟨_, rfl, _, rfl, ?_⟩, fun y => ⟨_, rfl, _, rfl, ?_⟩⟩⟩
          · rw [show nI (kS (kn cm gn gd d) nC).1 = kA b (kS (kn cm gn gd d) nC) from (if_pos z).symm]; exact fin
          · rw [show (kS (kn cm gn gd d) nC).2.1 = kA b (kS (kn cm gn gd d) nC) from by unfold kA; rw [if_neg z, if_pos y]]; exact fin
          · rw [show (kS (kn cm gn gd d) nC).2.2 = kA b (kS (kn cm gn gd d) nC) from by unfold kA; rw [if_neg z, if_neg y]]; exact fin
        · intro i hi ih
          have kl := kS_le (kn cm gn gd d) i
          refine BX1_knownOn_34 ⟨fun q => absurd q (by rw [g3]; exact nI_ge hi (by omega)), fun _ => C_isKnown hC0 hi hd (fun e => ⟨_, rfl, fun z => absurd z (by decide), fun _ => ?_⟩) (fun e => ⟨_, rfl, fun _ => ?_, fun z => absurd rfl z⟩)⟩
          · rw [show kS (kn cm gn gd d) (i + 1) = ((kS (kn cm gn gd d) i).1 + 1, (if (kS (kn cm gn gd d) i).1 = 0 then nI i else (kS (kn cm gn gd d) i).2.1), nI i) from if_pos e] at ih
            rw [nI_1, nI_1]
            refine ⟨fun z => ?_, fun z => ?_⟩
            · rw [if_pos ((nI_eq (b := 0) (by omega) (by omega)).mp z)] at ih; exact ih
            · rw [if_neg (fun y => z (by rw [y]; rfl))] at ih; exact ih
          · rw [show kS (kn cm gn gd d) (i + 1) = kS (kn cm gn gd d) i from if_neg e] at ih
            rw [nI_1]
            exact ih
      exact L 0 (by omega)
    refine EX1_knownOn ⟨fun q => ?_, fun _ => ⟨fun q => ?_, fun _ => ⟨fun q => ?_, fun _ => ⟨fun _ => C, fun q => ?_⟩⟩⟩⟩
    · exfalso; clear C M hC0 g8 g9 hR; ((try simp (disch := (first | omega | ((try simp (disch := omega) only [i_nI, Int32.reduceToInt, i_l]) <;> omega))) only [i_le, i_lt, i_eq, Int32.reduceToInt, i_nI, i_l, li0, vp_in_iff, i_sub, i_add] at *) <;> omega)
    · exfalso; clear C M hC0 g8 g9 hR; ((try simp (disch := (first | omega | ((try simp (disch := omega) only [i_nI, Int32.reduceToInt, i_l]) <;> omega))) only [i_le, i_lt, i_eq, Int32.reduceToInt, i_nI, i_l, li0, vp_in_iff, i_sub, i_add] at *) <;> omega)
    · exfalso; clear C M hC0 g8 g9 hR; ((try simp (disch := (first | omega | ((try simp (disch := omega) only [i_nI, Int32.reduceToInt, i_l]) <;> omega))) only [i_le, i_lt, i_eq, Int32.reduceToInt, i_nI, i_l, li0, vp_in_iff, i_sub, i_add] at *) <;> omega)
    · exfalso; clear C M hC0 g8 g9 hR; ((try simp (disch := (first | omega | ((try simp (disch := omega) only [i_nI, Int32.reduceToInt, i_l]) <;> omega))) only [i_le, i_lt, i_eq, Int32.reduceToInt, i_nI, i_l, li0, vp_in_iff, i_sub, i_add] at *) <;> omega)
  · have e : EvM 40 mX10_known [.ref 245, .int a, .int b] σ (fun r2 σ2 => r2 = some (.int (-1)) ∧ Rel σ2) := EX10_known ⟨fun q => ⟨fun y => absurd (by rw [i_l] at q y; exact ⟨q, y⟩) hv, fun _ => ⟨rfl, hR⟩⟩, fun _ => ⟨rfl, hR⟩⟩
    refine EX1_knownOn ⟨fun q => ⟨_, rfl, _, rfl, e⟩, fun q0 => ⟨fun q => ⟨_, rfl, _, rfl, e⟩, fun q1 => ⟨fun q => ⟨_, rfl, _, rfl, e⟩, fun q2 => ⟨fun q => ?_, fun q => ⟨_, rfl, _, rfl, e⟩⟩⟩⟩⟩
    exfalso; clear e hC0 g8 g9 hR; ((try simp (disch := (first | omega | ((try simp (disch := omega) only [i_nI, Int32.reduceToInt, i_l]) <;> omega))) only [i_le, i_lt, i_eq, Int32.reduceToInt, i_nI, i_l, li0, vp_in_iff, i_sub, i_add] at *) <;> omega)
