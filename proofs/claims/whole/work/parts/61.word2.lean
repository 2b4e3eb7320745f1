/-! ===== word ===== -/
theorem O_word {σ : Sg} (hR : Rel σ) (a b : Int32) : OPi mX9_word mX10_word [.int a, .int b] σ := by
  obtain ⟨nW, wn, ws, hW⟩ := hR.2.2.2.2.1
  obtain ⟨g1, g2, g3, g4, g5⟩ := id hW
  have p4 : ∀ n, n ≤ 6 → 4 ^ n ≤ 4096 := fun n hn => by
    have : 4 ^ n ≤ 4 ^ 6 := Nat.pow_le_pow_right (by decide) hn
    omega
  refine EX9_word (EX8_add (C_areSounds (M := 6) (by decide) (fun n s q1 q2 q3 ea eb => ⟨_, rfl, fun q => absurd q (by decide), fun _ => ?_⟩) (fun p => ⟨_, rfl, fun _ => ⟨_, rfl, _, rfl, ?_⟩, fun q => absurd rfl q⟩)))
  · subst ea; subst eb
    have p8 := p4 n (by omega)
    have pp := Nat.pow_pos (n := n) (show 0 < 4 by decide)
    have m1 : (1 ≤ ((nI n).toInt64).toInt ∧ ((nI n).toInt64).toInt ≤ 6) := by rw [i_l, i_nI (by omega)]; omega
    have m2 : (0 ≤ ((nI s).toInt64).toInt ∧ ((nI s).toInt64).toInt ≤ ((((1 : Int32) <<< ((2 * nI n) &&& 31)) - 1).toInt64).toInt) := by
      rw [i_l, i_l, i_nI (by omega), shl4 (by omega), show nI (4 ^ n) - 1 = nI (4 ^ n - 1) from pk_sub (b := 1) pp, i_nI (by omega)]; omega
    have MM : ∀ (σ1 : Sg) (v : Int32), σ1.1 245 30 = nI nW → (∀ w, w < nW → σ1.1 268 w = nI (wn w) ∧ σ1.1 269 w = nI (ws w)) → ((∃ w, w < nW ∧ 4 ^ n + s = 4 ^ wn w + ws w) → v = -1 ∧ Rel σ1) → (¬ (∃ w, w < nW ∧ 4 ^ n + s = 4 ^ wn w + ws w) → nW = 12 → v = -3 ∧ Rel σ1) → (¬ (∃ w, w < nW ∧ 4 ^ n + s = 4 ^ wn w + ws w) → ¬ nW = 12 → v = nI nW ∧ Rel (u1 (u1 (u1 σ1 268 nW (nI n)) 269 nW (nI s)) 245 30 (nI (nW + 1)))) → EvM 40 mX10_word [.ref 245, .int (nI n), .int (nI s)] σ1 (fun r2 σ2 => r2 = some (.int v) ∧ Rel σ2) := by
      intro σ1 v e30 rows hex hful hok
      have L : ∀ i, i ≤ nW → (∀ w, w < i → ¬ (wn w = n ∧ ws w = s)) → KX10_word_33 39 σ1 (fun r2 σ2 => r2 = some (.int v) ∧ Rel σ2) (nI n) (nI s) (nI i) := by
        refine for_up ?_ ?_
        · intro hno
          have nex : ¬ (∃ w, w < nW ∧ 4 ^ n + s = 4 ^ wn w + ws w) := by
            rintro ⟨w, hw, e⟩
            have := key_ne q3 (g4 w hw).2.2.1 e
            exact hno w hw ⟨this.1.symm, this.2.symm⟩
          refine BX10_word_33 ⟨fun _ => ?_, fun q => absurd (by rw [e30]; exact nI_le (Nat.le_refl _) (by omega)) q⟩
          rw [e30, u1_cell (show 245 ≠ 268 by decide), e30]
          refine ⟨fun z => ?_, fun z => ?_⟩
          · have := hful nex ((nI_eq (b := 12) (by omega) (by omega)).mp z)
            exact ⟨by rw [this.1], this.2⟩
          · have h12 : ¬ nW = 12 := fun e => z (by rw [e]; rfl)
            have := hok nex h12
            rw [cl (by omega), u1_same, u1_cell (show 245 ≠ 269 by decide), u1_cell (show 245 ≠ 268 by decide), e30, nI_1, nI_pred]
            exact ⟨nvin (by omega) (by omega), nvin (by omega) (by omega), by rw [this.1], this.2⟩
        · intro i hi ih hno
          obtain ⟨w1, w2, w3, w4, w5⟩ := g4 i hi
          have w8 := p4 (wn i) w2
          obtain ⟨r1, r2⟩ := rows i hi
          refine BX10_word_33 ⟨fun q => absurd q (by rw [e30]; exact nI_ge hi (by omega)), fun _ => ⟨nvin (by omega) (by omega), ?_⟩⟩
          rw [cl (by omega), r1, r2, nI_1]
          have go : ¬ (wn i = n ∧ ws i = s) → KX10_word_33 39 σ1 (fun r2 σ2 => r2 = some (.int v) ∧ Rel σ2) (nI n) (nI s) (nI (i + 1)) := fun e => ih (fun w hw => by
            by_cases c : w = i
            · rw [c]; exact e
            · exact hno w (by omega))
          refine ⟨fun z => ⟨nvin (by omega) (by omega), fun y => ?_, fun y => go (fun e => y (by rw [e.2]))⟩, fun z => go (fun e => z (by rw [e.1]))⟩
          have z1 := (nI_eq (by omega) (by omega)).mp z
          have y1 := (nI_eq (by omega) (by omega)).mp y
          have := hex ⟨i, hi, by rw [z1, y1]⟩
          exact ⟨by rw [this.1], this.2⟩
      exact EX10_word ⟨fun _ => ⟨fun _ => L 0 (by omega) (fun w hw => absurd hw (by omega)), fun q => absurd m2 q⟩, fun q => absurd m1 q⟩
    have rows : ∀ w, w < nW → σ.1 268 w = nI (wn w) ∧ σ.1 269 w = nI (ws w) := fun w hw => ⟨(g4 w hw).2.2.2.1, (g4 w hw).2.2.2.2⟩
    rw [shl4 (by omega), nx_or, key_or q3]
    refine C_isWord hW (by omega) (fun ex => ⟨_, rfl, fun z => absurd z (by decide), fun _ => ⟨_, rfl, _, rfl, MM σ (-1) g3 rows (fun _ => ⟨rfl, hR⟩) (fun n => absurd ex n) (fun n => absurd ex n)⟩⟩) (fun nex => ⟨_, rfl, fun _ => ⟨fun z => ?_, fun z => ⟨_, rfl, _, rfl, MM σ (-3) g3 rows (fun e => absurd e nex) (fun _ _ => ⟨rfl, hR⟩) (fun _ h => absurd (by rw [g2]; exact nI_lt (b := 12) (by omega) (by omega)) z)⟩⟩, fun z => absurd rfl z⟩)
    have h12 : nW < 12 := (nI_ltI (b := 12) (by omega) (by omega)).mp (by rw [← g2]; exact z)
    have e2 : ∀ (k j : Nat) (x : Int64), (u2 σ k j x).1 122 2 = nI nW := fun _ _ _ => g2
    rw [pk_shrN (by omega) (6 &&& 31) 6 (by decide), pk_andN (by omega) 6 (by decide), cl (by omega), u1_same, e2, nI_1, nI_pred]
    refine ⟨nvin (by omega) (by omega), nvin (by omega) (by omega), _, rfl, _, rfl, ?_⟩
    have ce : ∀ a, a ≠ 122 → ∀ j, (u1 (u2 σ 123 ((4 ^ n + s) / 2 ^ 6) (σ.2 123 ((4 ^ n + s) / 2 ^ 6) ||| ((1 : Int64) <<< ((nI ((4 ^ n + s) % 2 ^ 6)).toInt64 &&& 63)))) 122 2 (nI (nW + 1))).1 a j = σ.1 a j := fun a h j => by rw [u1_cell h]; rfl
    have cb : ∀ j, (u1 (u2 σ 123 ((4 ^ n + s) / 2 ^ 6) (σ.2 123 ((4 ^ n + s) / 2 ^ 6) ||| ((1 : Int64) <<< ((nI ((4 ^ n + s) % 2 ^ 6)).toInt64 &&& 63)))) 122 2 (nI (nW + 1))).2 123 j = if j = (4 ^ n + s) / 2 ^ 6 then (σ.2 123 ((4 ^ n + s) / 2 ^ 6) ||| ((1 : Int64) <<< ((nI ((4 ^ n + s) % 2 ^ 6)).toInt64 &&& 63))) else σ.2 123 j := fun j => by
      show (u2 σ 123 _ _).2 123 j = _
      rw [u2_k]
      rfl
    have cc : Chg [0, 6] σ (u1 (u2 σ 123 ((4 ^ n + s) / 2 ^ 6) (σ.2 123 ((4 ^ n + s) / 2 ^ 6) ||| ((1 : Int64) <<< ((nI ((4 ^ n + s) % 2 ^ 6)).toInt64 &&& 63)))) 122 2 (nI (nW + 1))) := (Chg.u2 Chg.rf (by rw [show ∀ j, modOf 123 j = 6 from fun _ => rfl]; decide)).u1 (by decide)
    have c2 : (u1 (u2 σ 123 ((4 ^ n + s) / 2 ^ 6) (σ.2 123 ((4 ^ n + s) / 2 ^ 6) ||| ((1 : Int64) <<< ((nI ((4 ^ n + s) % 2 ^ 6)).toInt64 &&& 63)))) 122 2 (nI (nW + 1))).1 122 2 = nI (nW + 1) := u1_same
    generalize u1 (u2 σ 123 ((4 ^ n + s) / 2 ^ 6) (σ.2 123 ((4 ^ n + s) / 2 ^ 6) ||| ((1 : Int64) <<< ((nI ((4 ^ n + s) % 2 ^ 6)).toInt64 &&& 63)))) 122 2 (nI (nW + 1)) = σ1 at ce cb cc c2
    refine MM σ1 (nI nW) (by rw [ce 245 (by decide)]; exact g3) (fun w hw => by rw [ce 268 (by decide), ce 269 (by decide)]; exact rows w hw) (fun e => absurd e nex) (fun _ e => absurd e (by omega)) (fun _ _ => ⟨rfl, ?_⟩)
    refine hR.m6 (((cc.u1 (by rw [show ∀ j, modOf 268 j = 6 from fun _ => rfl]; decide)).u1 (by rw [show ∀ j, modOf 269 j = 6 from fun _ => rfl]; decide)).u1 (by decide)) ⟨nW + 1, fun x => if x = nW then n else wn x, fun x => if x = nW then s else ws x, by omega, ?_, u1_same, fun w hw => ?_, fun key hk => ?_⟩
    · rw [u1_cell (by decide), u1_cell (by decide), u1_cell (by decide)]; exact c2
    · rw [u1_cell (show 268 ≠ 245 by decide), u1_cell (show 268 ≠ 269 by decide), u1_cell (show 269 ≠ 245 by decide)]
      by_cases e : w = nW
      · subst e
        rw [u1_same, u1_same, show (fun y => if y = w then n else wn y) w = n from if_pos rfl, show (fun y => if y = w then s else ws y) w = s from if_pos rfl]
        exact ⟨q1, q2, q3, rfl, rfl⟩
      · rw [u1_slot e, u1_slot e, u1_cell (show 269 ≠ 268 by decide), ce 268 (by decide), ce 269 (by decide), show (fun y => if y = nW then n else wn y) w = wn w from if_neg e, show (fun y => if y = nW then s else ws y) w = ws w from if_neg e]
        exact g4 w (by omega)
    · show (σ1.2 123 (key / 64)).toBitVec.getLsbD (key % 64) = true ↔ ∃ w, w < nW + 1 ∧ key = 4 ^ (if w = nW then n else wn w) + (if w = nW then s else ws w)
      have old := g5 key hk
      have right : (∃ w, w < nW + 1 ∧ key = 4 ^ (if w = nW then n else wn w) + (if w = nW then s else ws w)) ↔ ((∃ w, w < nW ∧ key = 4 ^ wn w + ws w) ∨ key = 4 ^ n + s) := by
        constructor
        · rintro ⟨w, hw, e⟩
          by_cases c : w = nW
          · rw [if_pos c, if_pos c] at e; exact Or.inr e
          · rw [if_neg c, if_neg c] at e; exact Or.inl ⟨w, by omega, e⟩
        · rintro (⟨w, hw, e⟩ | e)
          · exact ⟨w, by omega, by rw [if_neg (by omega), if_neg (by omega)]; exact e⟩
          · exact ⟨nW, by omega, by rw [if_pos rfl, if_pos rfl]; exact e⟩
      rw [right, ← old, cb]
      by_cases c : key / 64 = (4 ^ n + s) / 2 ^ 6
      · rw [if_pos c, l_set (by omega), ← c]
        rw [Bool.or_eq_true, decide_eq_true_eq]
        constructor
        · rintro (h | h)
          · exact Or.inl h
          · right; omega
        · rintro (h | h)
          · exact Or.inl h
          · right; omega
      · rw [if_neg c]
        constructor
        · exact Or.inl
        · rintro (h | h)
          · exact h
          · exfalso; omega
  · refine EX10_word ⟨fun q => ⟨fun q2 => ?_, fun _ => ⟨rfl, hR⟩⟩, fun _ => ⟨rfl, hR⟩⟩
    exfalso
    rw [i_l] at q
    obtain ⟨n, hn, rfl⟩ : ∃ n : Nat, (1 ≤ n ∧ n ≤ 6) ∧ a = nI n := ⟨a.toInt.toNat, by omega, i_of (by omega) (by omega)⟩
    have p8 := p4 n (by omega)
    have pp := Nat.pow_pos (n := n) (show 0 < 4 by decide)
    rw [i_l, i_l, shl4 (by omega), show nI (4 ^ n) - 1 = nI (4 ^ n - 1) from pk_sub (b := 1) pp, i_nI (by omega)] at q2
    exact p ⟨n, b.toInt.toNat, hn.1, hn.2, by omega, rfl, i_of (by omega) (by omega)⟩
