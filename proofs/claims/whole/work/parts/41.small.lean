/-! ===== the day, the fault, the tape ===== -/
theorem cl {n : Nat} (h : n < 2147483648) : (nI n).toNatClampNeg = n := nI_clamp (by omega)
theorem O_fault {σ : Sg} (hR : Rel σ) : OPi mX9_fault mX10_fault [] σ := by
  obtain ⟨nC, day, kd, nr, cm, gn, on, dep, gd, hC⟩ := hR.2.2.2.2.2.2.1
  refine EX9_fault ⟨_, rfl, EX10_fault ⟨?_, hR⟩⟩
  rw [hC.2.2.2.2.2.2.1]
theorem O_day {σ : Sg} (hR : Rel σ) (a : Int32) : OPi mX9_day mX10_day [.int a] σ := by
  obtain ⟨nC, day, kd, nr, cm, gn, on, dep, gd, hC⟩ := id hR.2.2.2.2.2.2.1
  have hC0 := hC
  obtain ⟨h1, h2, h3, h4, h5, h6, h7, h8, h9⟩ := hC
  refine EX9_day (EX1_moveDay ?_)
  by_cases hv : (day : Int) ≤ a.toInt ∧ a.toInt ≤ 99
  · refine ⟨fun q => ?_, fun _ => ⟨fun _ => ?_, fun q => ?_⟩⟩
    · exfalso; rw [h5] at q; clear h3 h4 h5 h6 h7 h8 h9; ((try simp (disch := (first | omega | ((try simp (disch := omega) only [i_nI, Int32.reduceToInt, i_l]) <;> omega))) only [i_le, i_lt, i_eq, Int32.reduceToInt, i_nI, i_l, li0, vp_in_iff, i_sub, i_add] at *) <;> omega)
    · refine ⟨_, rfl, _, rfl, EX10_day ⟨fun _ => ?_, fun q => ?_⟩⟩
      · obtain ⟨d, hd, rfl⟩ : ∃ d : Nat, d ≤ 99 ∧ a = nI d := ⟨a.toInt.toNat, by omega, i_of (by omega) (by omega)⟩
        have hdd : day ≤ d := by rw [i_nI (by omega)] at hv; omega
        refine ⟨?_, hR.m8 (Chg.u1 (Chg.u1 Chg.rf (by decide)) (by decide)) ⟨nC, d, kd, nr, cm, gn, on, dep, gd, h1, hd, ?_, ?_, ?_, ?_, ?_, fun k hk => ?_, h9⟩⟩
        · rw [u1_cell (by decide), h6, h5]
        · rw [u1_cell (by decide), u1_slot (by decide)]; exact h3
        · rw [u1_slot (by decide), u1_cell (by decide)]; exact h4
        · rw [u1_cell (by decide), u1_same]
        · rw [u1_same]
        · rw [u1_cell (by decide), u1_slot (by decide), u1_slot (by decide), u1_cell (by decide)]; exact h7
        · obtain ⟨b1, b2, b3, b4, b5, b6, b7, b8⟩ := h8 k hk
          refine ⟨b1, b2, by omega, by omega, b5, b6, b7, ?_⟩
          simp only [u1, Nat.reduceEqDiff, false_and, if_false]
          exact b8
      · exfalso; rw [u1_cell (by decide), h6] at q; clear h3 h4 h5 h6 h7 h8 h9; ((try simp (disch := (first | omega | ((try simp (disch := omega) only [i_nI, Int32.reduceToInt, i_l]) <;> omega))) only [i_le, i_lt, i_eq, Int32.reduceToInt, i_nI, i_l, li0, vp_in_iff, i_sub, i_add] at *) <;> omega)
    · exfalso; clear h3 h4 h5 h6 h7 h8 h9; ((try simp (disch := (first | omega | ((try simp (disch := omega) only [i_nI, Int32.reduceToInt, i_l]) <;> omega))) only [i_le, i_lt, i_eq, Int32.reduceToInt, i_nI, i_l, li0, vp_in_iff, i_sub, i_add] at *) <;> omega)
  · have hm : ¬ ((((σ.1 245 58).toInt64).toInt ≤ ((a).toInt64).toInt ∧ ((a).toInt64).toInt ≤ 99)) := by
      rw [h6]; clear h3 h4 h5 h6 h7 h8 h9; ((try simp (disch := (first | omega | ((try simp (disch := omega) only [i_nI, Int32.reduceToInt, i_l]) <;> omega))) only [i_le, i_lt, i_eq, Int32.reduceToInt, i_nI, i_l, li0, vp_in_iff, i_sub, i_add] at *) <;> omega)
    have e : EvM 40 mX10_day [.ref 245, .int a] σ (fun r2 σ2 => r2 = some (.int (-1)) ∧ Rel σ2) := EX10_day ⟨fun q => absurd q hm, fun _ => ⟨rfl, hR⟩⟩
    refine ⟨fun q => ⟨_, rfl, _, rfl, e⟩, fun _ => ⟨fun q => ?_, fun q => ⟨_, rfl, _, rfl, e⟩⟩⟩
    exfalso
    rename_i q0
    rw [h5] at q0
    clear h3 h4 h5 h6 h7 h8 h9 hm e
    ((try simp (disch := (first | omega | ((try simp (disch := omega) only [i_nI, Int32.reduceToInt, i_l]) <;> omega))) only [i_le, i_lt, i_eq, Int32.reduceToInt, i_nI, i_l, li0, vp_in_iff, i_sub, i_add] at *) <;> omega)
theorem O_end {σ : Sg} (hR : Rel σ) (a : Int32) : OPi mX9_end mX10_end [.int a] σ := by
  obtain ⟨len, by', h1, h2, h3, h4⟩ := id hR.2.2.2.2.2.1
  refine EX9_end (EX6_cut ?_)
  by_cases hv : 0 ≤ a.toInt ∧ a.toInt ≤ len
  · refine ⟨fun q => ?_, fun _ => ⟨fun _ => ?_, fun q => ?_⟩⟩
    · exfalso; clear h2 h3 h4; ((try simp (disch := (first | omega | ((try simp (disch := omega) only [i_nI, Int32.reduceToInt, i_l]) <;> omega))) only [i_le, i_lt, i_eq, Int32.reduceToInt, i_nI, i_l, li0, vp_in_iff, i_sub, i_add] at *) <;> omega)
    · refine ⟨_, rfl, _, rfl, EX10_end ⟨fun _ => ?_, fun q => ?_⟩⟩
      · obtain ⟨d, hd, rfl⟩ : ∃ d : Nat, d ≤ 160 ∧ a = nI d := ⟨a.toInt.toNat, by omega, i_of (by omega) (by omega)⟩
        have hdd : d ≤ len := by rw [i_nI (by omega)] at hv; omega
        refine ⟨?_, hR.m7 (Chg.u1 (Chg.u1 Chg.rf (by decide)) (by decide)) ⟨d, by', hd, ?_, ?_, fun i hi => ?_⟩⟩
        · rw [u1_cell (by decide), h3, h2]
        · rw [u1_cell (by decide), u1_same]
        · rw [u1_same]
        · simp only [u1, Nat.reduceEqDiff, false_and, if_false]
          exact h4 i (by omega)
      · exfalso; rw [u1_cell (by decide), h3] at q; clear h2 h3 h4; ((try simp (disch := (first | omega | ((try simp (disch := omega) only [i_nI, Int32.reduceToInt, i_l]) <;> omega))) only [i_le, i_lt, i_eq, Int32.reduceToInt, i_nI, i_l, li0, vp_in_iff, i_sub, i_add] at *) <;> omega)
    · exfalso; rw [h2] at q; clear h2 h3 h4; ((try simp (disch := (first | omega | ((try simp (disch := omega) only [i_nI, Int32.reduceToInt, i_l]) <;> omega))) only [i_le, i_lt, i_eq, Int32.reduceToInt, i_nI, i_l, li0, vp_in_iff, i_sub, i_add] at *) <;> omega)
  · have hm : ¬ ((0 ≤ ((a).toInt64).toInt ∧ ((a).toInt64).toInt ≤ ((σ.1 245 45).toInt64).toInt)) := by
      rw [h3]; clear h2 h3 h4; ((try simp (disch := (first | omega | ((try simp (disch := omega) only [i_nI, Int32.reduceToInt, i_l]) <;> omega))) only [i_le, i_lt, i_eq, Int32.reduceToInt, i_nI, i_l, li0, vp_in_iff, i_sub, i_add] at *) <;> omega)
    have e : EvM 40 mX10_end [.ref 245, .int a] σ (fun r2 σ2 => r2 = some (.int (-1)) ∧ Rel σ2) := EX10_end ⟨fun q => absurd q hm, fun _ => ⟨rfl, hR⟩⟩
    refine ⟨fun q => ⟨_, rfl, _, rfl, e⟩, fun q0 => ⟨fun q => ?_, fun q => ⟨_, rfl, _, rfl, e⟩⟩⟩
    exfalso
    rw [h2] at q
    clear h2 h3 h4 hm e
    ((try simp (disch := (first | omega | ((try simp (disch := omega) only [i_nI, Int32.reduceToInt, i_l]) <;> omega))) only [i_le, i_lt, i_eq, Int32.reduceToInt, i_nI, i_l, li0, vp_in_iff, i_sub, i_add] at *) <;> omega)
