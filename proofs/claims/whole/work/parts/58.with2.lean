/-! ===== withdraw ===== -/
theorem O_withdraw {σ : Sg} (hR : Rel σ) (a : Int32) : OPi mX9_withdraw mX10_withdraw [.int a] σ := by
  obtain ⟨nC, day, kd, nr, cm, gn, on, dep, gd, hC⟩ := id hR.2.2.2.2.2.2.1
  have hC0 := hC
  obtain ⟨g1, g2, g3, g4, g5, g6, g7, g8, g9⟩ := hC
  refine EX9_withdraw ?_
  by_cases hv : 0 ≤ a.toInt ∧ a.toInt < nC
  · obtain ⟨k, hk, rfl⟩ : ∃ k : Nat, k < nC ∧ a = nI k := ⟨a.toInt.toNat, by omega, i_of (by omega) (by omega)⟩
    have hm : 0 ≤ ((nI k).toInt64).toInt ∧ ((nI k).toInt64).toInt ≤ (((σ.1 245 52) - 1).toInt64).toInt := by
      rw [i_l, i_l, g4, show nI nC - 1 = nI (nC - 1) from pk_sub (b := 1) (by omega), i_nI (by omega), i_nI (by omega)]; omega
    have hc : 0 ≤ (nI k).toInt ∧ (nI k).toInt < (σ.1 230 7).toInt := by
      rw [g3, i_nI (by omega), i_nI (by omega)]; omega
    obtain ⟨b1, b2, b3, b4, b5, b6, b7, b8, b9, b10, b11, b12, b13, b14, b15, b16, b17, b18⟩ := g8 k hk
    refine EX1_takeBack ⟨fun _ => ⟨nvin (by omega) (by omega), ?_⟩, fun q => absurd hc q⟩
    rw [cl (by omega), b14]
    by_cases g : gd k = true
    · rw [if_pos g]
      refine ⟨fun z => absurd z (n4 (by omega)), fun _ => ⟨_, rfl, _, rfl, EX10_withdraw (EX10_isClaim ⟨fun _ => ⟨_, rfl, fun z => absurd z (by decide), fun _ => ⟨nvin (by omega) (by omega), ?_⟩⟩, fun q => absurd hm q⟩)⟩⟩
      rw [cl (by omega), b15, if_pos g]
      exact ⟨fun z => absurd z (n4 (by omega)), fun _ => ⟨rfl, hR⟩⟩
    · have g0 : gd k = false := by simpa using g
      rw [if_neg g]
      refine ⟨fun _ => C_hangingOn hC0 hk ⟨_, rfl, ?_⟩, fun z => absurd rfl z⟩
      have hW := hs_eq g9 g0 (nC - 1 - k) (by omega)
      have wl := hs_lt (keep := fun j => !gd j) (on := on) (k := k) (nC - 1 - k)
      have woff := fun i => hs_off (keep := fun j => !gd j) (on := on) (k := k) (nC - 1 - k) i
      have wcl : ∀ i, i < nC → ∀ j, j < nC → (on j).testBit i = true → (hs (fun j => !gd j) on k (nC - 1 - k)).testBit i = true → gd j = false → (hs (fun j => !gd j) on k (nC - 1 - k)).testBit j = true := fun i hi j hj h1 h2 h3 => hs_cl (g8 j hj).2.2.2.2.1 (by omega) h2 h1 h3
      have ml := hs_lt (keep := fun _ => true) (on := on) (k := k) (nC - 1 - k)
      rw [show k + 1 + (nC - 1 - k) = nC by omega] at wl ml woff
      have p2 := p20 g1
      have MH : ∀ {Q : Option Value → Sg → Prop} {σ' : Sg}, Rw 234 σ σ' → Q (some (.int (nI (hs (fun _ => true) on k (nC - 1 - k))))) σ' → EvM 39 mX10_hanging [.ref 245, .int (nI k)] σ' Q := fun r h => M_hanging g1 (by rw [r.1 245 (by decide)]; exact g4) (fun j hj => ⟨(g8 j hj).2.2.2.2.1, by rw [r.1 281 (by decide)]; exact (g8 j hj).2.2.2.2.2.2.2.2.2.2.2.2.2.2.2.2.1⟩) hk h
      generalize hs (fun j => !gd j) on k (nC - 1 - k) = W at hW wl woff wcl
      generalize hs (fun _ => true) on k (nC - 1 - k) = M at hW ml MH
      have inv : ∀ (f f' : Nat → Int32) (i : Nat), ¬ W.testBit i = true → (∀ j, f' j = if W.testBit j = true ∧ j < i then nI day else f j) → ∀ j, f' j = if W.testBit j = true ∧ j < i + 1 then nI day else f j := by
        intro f f' i e k2 j
        rw [k2 j]
        by_cases c : W.testBit j = true ∧ j < i
        · rw [if_pos c, if_pos ⟨c.1, by omega⟩]
        · rw [if_neg c, if_neg (fun q => by
            by_cases e2 : j = i
            · rw [e2] at q; exact e q.1
            · exact c ⟨q.1, by omega⟩)]
      have inv2 : ∀ (f f' f2 : Nat → Int32) (i : Nat), W.testBit i = true → (∀ j, f' j = if W.testBit j = true ∧ j < i then nI day else f j) → f2 i = nI day → (∀ j, j ≠ i → f2 j = f' j) → ∀ j, f2 j = if W.testBit j = true ∧ j < i + 1 then nI day else f j := by
        intro f f' f2 i e k2 s1 s2 j
        by_cases e2 : j = i
        · rw [e2, s1, if_pos ⟨e, by omega⟩]
        · rw [s2 j e2, k2 j]
          by_cases c : W.testBit j = true ∧ j < i
          · rw [if_pos c, if_pos ⟨c.1, by omega⟩]
          · rw [if_neg c, if_neg (fun q => c ⟨q.1, by omega⟩)]
      have MM : ∀ σ1 : Sg, Rw 234 σ σ1 → (∀ j, σ1.1 234 j = if W.testBit j = true ∧ j < nC then nI day else σ.1 234 j) → EvM 40 mX10_withdraw [.ref 245, .int (nI k)] σ1 (fun r2 σ2 => r2 = some (.int (nI (pc 24 W))) ∧ Rel σ2) := by
        intro σ1 r r2
        refine EX10_withdraw (EX10_isClaim ⟨fun _ => ⟨_, rfl, fun z => absurd z (by decide), fun _ => ⟨nvin (by omega) (by omega), ?_⟩⟩, fun q => absurd (by rw [r.1 245 (by decide)]; exact hm) q⟩)
        rw [cl (by omega), r.1 280 (by decide), b15, if_neg g]
        refine ⟨fun _ => MH r ⟨_, rfl, ?_⟩, fun z => absurd rfl z⟩
        have L : ∀ i, i ≤ nC → ∀ σ' : Sg, Rw 280 σ1 σ' → (∀ j, σ'.1 280 j = if W.testBit j = true ∧ j < i then nI day else σ.1 280 j) → KX10_withdraw_35 38 σ' (fun r2 σ2 => r2 = some (.int (nI (pc 24 W))) ∧ Rel σ2) (nI M) (nI (cnt (fun p => W.testBit p) i)) (nI i) := by
          refine for_up ?_ ?_
          · intro σ' k1 k2
            have ce : ∀ a, a ≠ 234 → a ≠ 280 → ∀ j, σ'.1 a j = σ.1 a j := fun a h1 h2 j => by rw [k1.1 a h2, r.1 a h1]
            refine BX10_withdraw_35 ⟨fun _ => ⟨?_, ?_⟩, fun q => absurd (by rw [ce 245 (by decide) (by decide), g4]; exact nI_le (by omega) (by omega)) q⟩
            · rw [pc_cnt, show 24 = nC + (24 - nC) by omega, cnt_off (fun i hi q => absurd (woff i q).1 (by omega))]
            · refine hR.m8 (k1.chg (fun j => by rw [show modOf 280 j = 8 from rfl]; decide) (r.chg (fun j => by rw [show modOf 234 j = 8 from rfl]; decide) Chg.rf)) ⟨nC, day, kd, nr, cm, fun j => if W.testBit j = true then day else gn j, on, dep, fun j => gd j || W.testBit j, g1, g2, ?_, ?_, ?_, ?_, ?_, fun j hj => ?_, ?_⟩
              · rw [ce 230 (by decide) (by decide)]; exact g3
              · rw [ce 245 (by decide) (by decide)]; exact g4
              · rw [ce 230 (by decide) (by decide)]; exact g5
              · rw [ce 245 (by decide) (by decide)]; exact g6
              · rw [ce 230 (by decide) (by decide), ce 245 (by decide) (by decide)]; exact g7
              · obtain ⟨c1, c2, c3, c4, c5, c6, c7, c8, c9, c10, c11, c12, c13, c14, c15, c16, c17, c18⟩ := g8 j hj
                rw [ce 231 (by decide) (by decide), ce 277 (by decide) (by decide), ce 232 (by decide) (by decide), ce 278 (by decide) (by decide), ce 233 (by decide) (by decide), ce 279 (by decide) (by decide), ce 235 (by decide) (by decide), ce 281 (by decide) (by decide), ce 236 (by decide) (by decide), k2 j, k1.1 234 (by decide), r2 j, c14, c15]
                refine ⟨c1, c2, c3, ?_, c5, c6, c7, c8, c9, c10, c11, c12, c13, ?_, ?_, c16, c17, c18⟩
                · show (if W.testBit j = true then day else gn j) ≤ day
                  by_cases w : W.testBit j = true
                  · rw [if_pos w]; exact Nat.le_refl _
                  · rw [if_neg w]; exact c4
                · show _ = if (gd j || W.testBit j) = true then nI (if W.testBit j = true then day else gn j) else -4
                  by_cases w : W.testBit j = true
                  · rw [if_pos ⟨w, hj⟩, if_pos w, if_pos (by rw [w, Bool.or_true])]
                  · rw [if_neg (fun q => w q.1), if_neg w, show W.testBit j = false by simpa using w, Bool.or_false]
                · show _ = if (gd j || W.testBit j) = true then nI (if W.testBit j = true then day else gn j) else -4
                  by_cases w : W.testBit j = true
                  · rw [if_pos ⟨w, hj⟩, if_pos w, if_pos (by rw [w, Bool.or_true])]
                  · rw [if_neg (fun q => w q.1), if_neg w, show W.testBit j = false by simpa using w, Bool.or_false]
              · intro i hi j hj hb hgi0
                have hgi : (gd i || W.testBit i) = true := hgi0
                show (gd j || W.testBit j) = true
                by_cases gj : gd j = true
                · rw [gj]; rfl
                · have gj0 : gd j = false := by simpa using gj
                  by_cases gi : gd i = true
                  · exact absurd (g9 i hi j hj hb gi) gj
                  · have wi : W.testBit i = true := by
                      rw [show gd i = false by simpa using gi] at hgi
                      simpa using hgi
                    rw [wcl i hi j hj hb wi gj0, Bool.or_true]
          · intro i hi ih σ' k1 k2
            have ce : ∀ a, a ≠ 234 → a ≠ 280 → ∀ j, σ'.1 a j = σ.1 a j := fun a h1 h2 j => by rw [k1.1 a h2, r.1 a h1]
            have no : ¬ W.testBit i = true → KX10_withdraw_35 38 σ' (fun r2 σ2 => r2 = some (.int (nI (pc 24 W))) ∧ Rel σ2) (nI M) (nI (cnt (fun p => W.testBit p) i)) (nI (i + 1)) := by
              intro e
              have := ih σ' k1 (inv _ _ i e k2)
              rw [cnt_s, if_neg e, Nat.add_zero] at this
              exact this
            refine BX10_withdraw_35 ⟨fun q => absurd q (by rw [ce 245 (by decide) (by decide), g4]; exact nI_ge hi (by omega)), fun _ => ?_⟩
            rw [nI_1, nI_1]
            refine ⟨fun z => ⟨nvin (by omega) (by omega), ?_⟩, fun z => no (fun e => z ((bit_y (by omega) (by omega)).mpr ((hW i).mp e).1))⟩
            have mb := (bit_y (by omega) (by omega)).mp z
            rw [cl (by omega), k2 i, if_neg (fun q => by omega), (g8 i hi).2.2.2.2.2.2.2.2.2.2.2.2.2.2.1]
            by_cases y : gd i = true
            · rw [if_pos y]
              exact ⟨fun z => absurd z (n4 (by have := (g8 i hi).2.2.2.1; omega)), fun _ => no (fun e => by have := ((hW i).mp e).2; rw [y] at this; exact absurd this (by decide))⟩
            · rw [if_neg y]
              have wi : W.testBit i = true := (hW i).mpr ⟨mb, by simpa using y⟩
              refine ⟨fun _ => ⟨nvin (by omega) (by omega), ?_⟩, fun z => absurd rfl z⟩
              have := ih (u1 σ' 280 i (σ'.1 245 58)) k1.u1 (inv2 _ _ _ i wi k2 (by rw [u1_same, ce 245 (by decide) (by decide)]; exact g6) (fun j hj => u1_slot hj))
              rw [cnt_s, if_pos wi] at this
              exact this
        exact L 0 (by omega) σ1 Rw.rf (fun j => by rw [if_neg (fun q => by omega), r.1 280 (by decide)])
      have L : ∀ i, i ≤ nC → k ≤ i → ∀ σ' : Sg, Rw 234 σ σ' → (∀ j, σ'.1 234 j = if W.testBit j = true ∧ j < i then nI day else σ.1 234 j) → KX1_takeBack_32 38 σ' (fun r σ1 => ∃ v1, r = some (.int v1) ∧ ∃ v : Int32, some (Value.int v1) = some (.int v) ∧ EvM 40 mX10_withdraw [.ref 245, .int (nI k)] σ1 (fun r2 σ2 => r2 = some (.int v) ∧ Rel σ2)) (nI W) (nI i) := by
        refine for_up ?_ ?_
        · intro _ σ' k1 k2
          exact BX1_takeBack_32 ⟨fun _ => C_bitC (by omega) ⟨_, rfl, _, rfl, _, rfl, MM σ' k1 k2⟩, fun q => absurd (by rw [k1.1 230 (by decide), g3]; exact nI_le (by omega) (by omega)) q⟩
        · intro i hi ih hki σ' k1 k2
          refine BX1_takeBack_32 ⟨fun q => absurd q (by rw [k1.1 230 (by decide), g3]; exact nI_ge hi (by omega)), fun _ => ?_⟩
          rw [nI_1]
          refine ⟨fun z => ⟨nvin (by omega) (by omega), ?_⟩, fun z => ih (by omega) σ' k1 (inv _ _ i (fun e => z ((bit_y (by omega) (by omega)).mpr e)) k2)⟩
          rw [cl (by omega)]
          exact ih (by omega) _ k1.u1 (inv2 _ _ _ i ((bit_y (by omega) (by omega)).mp z) k2 (by rw [u1_same, k1.1 230 (by decide)]; exact g5) (fun j hj => u1_slot hj))
      exact L k (by omega) (Nat.le_refl _) σ Rw.rf (fun j => by rw [if_neg (fun q => by have := (woff j q.1).2; omega)])
  · have hm : ¬ (0 ≤ (a.toInt64).toInt ∧ (a.toInt64).toInt ≤ (((σ.1 245 52) - 1).toInt64).toInt) := by
      rw [i_l, i_l, g4]
      intro q
      by_cases z : nC = 0
      · rw [z, show (nI 0 - 1).toInt = -1 by decide] at q; omega
      · rw [show nI nC - 1 = nI (nC - 1) from pk_sub (b := 1) (by omega), i_nI (by omega)] at q; omega
    have hc : ¬ (0 ≤ a.toInt ∧ a.toInt < (σ.1 230 7).toInt) := by rw [g3, i_nI (by omega)]; exact hv
    exact EX1_takeBack ⟨fun q => absurd q hc, fun _ => ⟨_, rfl, _, rfl, EX10_withdraw (EX10_isClaim ⟨fun q => absurd q hm, fun _ => ⟨_, rfl, fun _ => ⟨rfl, hR⟩, fun z => absurd rfl z⟩⟩)⟩⟩
