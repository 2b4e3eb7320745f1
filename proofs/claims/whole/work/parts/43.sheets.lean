/-! ===== sheets ===== -/
section SH
variable {N : Nat} {σ : Sg} {Q : Option Value → Sg → Prop}
theorem C10_isSheet {x y : Int32} (h : (vp_in x 4 ∧ vp_in y 3 → Q (some (.int 1)) σ) ∧ (¬ (vp_in x 4 ∧ vp_in y 3) → Q (some (.int 0)) σ)) : EvM (N + 1) mX10_isSheet [.int x, .int y] σ Q := by
  refine EX10_isSheet ⟨fun c => ⟨fun c2 => h.1 ?_, fun c2 => h.2 ?_⟩, fun c => h.2 ?_⟩ <;> clear h <;> ((try simp (disch := (first | omega | ((try simp (disch := omega) only [i_nI, Int32.reduceToInt, i_l]) <;> omega))) only [i_le, i_lt, i_eq, Int32.reduceToInt, i_nI, i_l, li0, vp_in_iff, i_sub, i_add] at *) <;> omega)
/-- sheet k is a new row of n zeros, of lane l, for the class -/
def SN (r1 r2 r3 f k l n : Nat) (σ σ' : Sg) : Prop := (∀ a, a ≠ r1 → a ≠ r2 → a ≠ r3 → ∀ j, σ'.1 a j = σ.1 a j) ∧ σ'.2 = σ.2 ∧ σ'.1 r1 k = nI l ∧ σ'.1 r2 k = nI n ∧ (∀ j, j ≠ k → σ'.1 r1 j = σ.1 r1 j ∧ σ'.1 r2 j = σ.1 r2 j) ∧ (∀ j, j < 60 → σ'.1 r3 (f + j) = 0) ∧ ∀ j, (j < f ∨ f + 60 ≤ j) → σ'.1 r3 j = σ.1 r3 j
theorem C_renew {k l n : Nat} (hk : k < 4) (hl : l < 3) (hn : n ≤ 60) (h : ∀ σ' : Sg, SN 238 239 (241 + k) 0 k l n σ σ' → Q (some (.int 1)) σ') : EvM (N + 1) mX5_renew [.ref 237, .int (nI k), .int (nI l), .int (nI n)] σ Q := by
  have L : ∀ i, i ≤ 60 → ∀ σ' : Sg, Rw (241 + k) (u1 (u1 σ 238 k (nI l)) 239 k (nI n)) σ' → (∀ j, j < i → σ'.1 (241 + k) j = 0) → (∀ j, 60 ≤ j → σ'.1 (241 + k) j = σ.1 (241 + k) j) → KX5_renew_46 N σ' Q (nI k) (nI i) := by
    refine for_up ?_ ?_
    · intro σ' h1 h2 h3
      refine BX5_renew_46 ⟨fun _ => h σ' ⟨fun a a1 a2 a3 j => ?_, ?_, ?_, ?_, fun j hj => ⟨?_, ?_⟩, fun j hj => ?_, fun j hj => ?_⟩, fun q => absurd (show (60 : Int32) ≤ nI 60 by decide) q⟩
      · rw [h1.1 a a3, u1_cell a2, u1_cell a1]
      · rw [h1.2]; rfl
      · rw [h1.1 238 (by omega), u1_cell (by decide), u1_same]
      · rw [h1.1 239 (by omega), u1_same]
      · rw [h1.1 238 (by omega), u1_cell (by decide), u1_slot hj]
      · rw [h1.1 239 (by omega), u1_slot hj, u1_cell (by decide)]
      · rw [Nat.zero_add]; exact h2 j hj
      · exact h3 j (by omega)
    · intro i hi ih σ' h1 h2 h3
      refine BX5_renew_46 ⟨fun q => ?_, fun _ => ⟨vp_in_nI hk (by omega), vp_in_nI hi (by omega), ?_⟩⟩
      · exfalso; clear ih h1 h2 h3 h; ((try simp (disch := (first | omega | ((try simp (disch := omega) only [i_nI, Int32.reduceToInt, i_l]) <;> omega))) only [i_le, i_lt, i_eq, Int32.reduceToInt, i_nI, i_l, li0, vp_in_iff, i_sub, i_add] at *) <;> omega)
      · rw [cl (by omega), cl (by omega), nI_1]
        refine ih _ h1.u1 (fun j hj => ?_) (fun j hj => ?_)
        · by_cases e : j = i
          · subst e; exact u1_same
          · rw [u1_slot e]; exact h2 j (by omega)
        · rw [u1_slot (by omega)]; exact h3 j hj
  have hi4 := vp_in_nI hk (by omega : 4 < 2 ^ 31)
  have hi3 := vp_in_nI hl (by omega : 3 < 2 ^ 31)
  refine EX5_renew ⟨fun _ => ⟨fun _ => ⟨fun _ => ⟨fun _ => ⟨hi4, hi4, ?_⟩, fun q => ?_⟩, fun q => ?_⟩, fun q => absurd hi3 q⟩, fun q => absurd hi4 q⟩
  · rw [cl (by omega)]
    exact L 0 (by omega) _ Rw.rf (fun j hj => absurd hj (by omega)) (fun j hj => by rw [u1_cell (by omega), u1_cell (by omega)])
  · exfalso; clear L h hi4 hi3; ((try simp (disch := (first | omega | ((try simp (disch := omega) only [i_nI, Int32.reduceToInt, i_l]) <;> omega))) only [i_le, i_lt, i_eq, Int32.reduceToInt, i_nI, i_l, li0, vp_in_iff, i_sub, i_add] at *) <;> omega)
  · exfalso; clear L h hi4 hi3; ((try simp (disch := (first | omega | ((try simp (disch := omega) only [i_nI, Int32.reduceToInt, i_l]) <;> omega))) only [i_le, i_lt, i_eq, Int32.reduceToInt, i_nI, i_l, li0, vp_in_iff, i_sub, i_add] at *) <;> omega)
theorem M_sheet {k l n : Nat} (hk : k < 4) (hl : l < 3) (hn : n ≤ 60) (h : ∀ σ' : Sg, SN 283 284 285 (60 * k) k l n σ σ' → Q (some (.int 1)) σ') : EvM (N + 2) mX10_sheet [.ref 245, .int (nI k), .int (nI l), .int (nI n)] σ Q := by
  have L : ∀ i, i ≤ 60 → ∀ σ' : Sg, Rw 285 (u1 (u1 σ 283 k (nI l)) 284 k (nI n)) σ' → (∀ j, j < i → σ'.1 285 (60 * k + j) = 0) → (∀ j, (j < 60 * k ∨ 60 * k + 60 ≤ j) → σ'.1 285 j = σ.1 285 j) → KX10_sheet_40 N σ' Q (nI k) (nI i) := by
    refine for_up ?_ ?_
    · intro σ' h1 h2 h3
      refine BX10_sheet_40 ⟨fun _ => h σ' ⟨fun a a1 a2 a3 j => ?_, ?_, ?_, ?_, fun j hj => ⟨?_, ?_⟩, fun j hj => ?_, fun j hj => ?_⟩, fun q => absurd (show (60 : Int32) ≤ nI 60 by decide) q⟩
      · rw [h1.1 a a3, u1_cell a2, u1_cell a1]
      · rw [h1.2]; rfl
      · rw [h1.1 283 (by omega), u1_cell (by decide), u1_same]
      · rw [h1.1 284 (by omega), u1_same]
      · rw [h1.1 283 (by omega), u1_cell (by decide), u1_slot hj]
      · rw [h1.1 284 (by omega), u1_slot hj, u1_cell (by decide)]
      · exact h2 j hj
      · exact h3 j hj
    · intro i hi ih σ' h1 h2 h3
      have e : (60 : Int32) * nI k + nI i = nI (60 * k + i) := by rw [show (60 : Int32) = nI 60 from rfl, pk_mul, nI_add]
      refine BX10_sheet_40 ⟨fun q => ?_, fun _ => ?_⟩
      · exfalso; clear ih h1 h2 h3 h e; ((try simp (disch := (first | omega | ((try simp (disch := omega) only [i_nI, Int32.reduceToInt, i_l]) <;> omega))) only [i_le, i_lt, i_eq, Int32.reduceToInt, i_nI, i_l, li0, vp_in_iff, i_sub, i_add] at *) <;> omega)
      · rw [e, cl (by omega), nI_1]
        refine ⟨vp_in_nI (by omega) (by omega), ih _ h1.u1 (fun j hj => ?_) (fun j hj => ?_)⟩
        · by_cases ej : j = i
          · subst ej; exact u1_same
          · rw [u1_slot (by omega)]; exact h2 j (by omega)
        · rw [u1_slot (by omega)]; exact h3 j hj
  have hi4 := vp_in_nI hk (by omega : 4 < 2 ^ 31)
  have hi3 := vp_in_nI hl (by omega : 3 < 2 ^ 31)
  refine EX10_sheet (C10_isSheet ⟨fun _ => ⟨_, rfl, fun q => absurd q (by decide), fun _ => ⟨fun _ => ⟨fun _ => ⟨hi4, hi4, ?_⟩, fun q => ?_⟩, fun q => ?_⟩⟩, fun q => absurd ⟨hi4, hi3⟩ q⟩)
  · rw [cl (by omega)]
    exact L 0 (by omega) _ Rw.rf (fun j hj => absurd hj (by omega)) (fun j hj => by rw [u1_cell (by omega), u1_cell (by omega)])
  · exfalso; clear L h hi4 hi3; ((try simp (disch := (first | omega | ((try simp (disch := omega) only [i_nI, Int32.reduceToInt, i_l]) <;> omega))) only [i_le, i_lt, i_eq, Int32.reduceToInt, i_nI, i_l, li0, vp_in_iff, i_sub, i_add] at *) <;> omega)
  · exfalso; clear L h hi4 hi3; ((try simp (disch := (first | omega | ((try simp (disch := omega) only [i_nI, Int32.reduceToInt, i_l]) <;> omega))) only [i_le, i_lt, i_eq, Int32.reduceToInt, i_nI, i_l, li0, vp_in_iff, i_sub, i_add] at *) <;> omega)
end SH
theorem SN.chg {r1 r2 r3 f k l n : Nat} {σ σ' : Sg} (h : SN r1 r2 r3 f k l n σ σ') (h1 : ∀ j, modOf r1 j = 9) (h2 : ∀ j, modOf r2 j = 9) (h3 : ∀ j, modOf r3 j = 9) : Chg [0, 9] σ σ' := by
  refine ⟨fun a j hm => ?_, fun a j _ => by rw [h.2.1]⟩
  refine h.1 a (fun e => hm ?_) (fun e => hm ?_) (fun e => hm ?_) j
  · rw [e, h1]; decide
  · rw [e, h2]; decide
  · rw [e, h3]; decide
theorem O_sheet {σ : Sg} (hR : Rel σ) (a b c : Int32) : OPi mX9_sheet mX10_sheet [.int a, .int b, .int c] σ := by
  have hS := hR.2.2.2.2.2.2.2
  refine EX9_sheet ?_
  by_cases hab : vp_in a 4 ∧ vp_in b 3
  · by_cases hc : c ≤ 60
    · by_cases hc0 : 0 ≤ c
      · obtain ⟨k, hk, rfl⟩ := vp_in_of hab.1 (by omega)
        obtain ⟨l, hl, rfl⟩ := vp_in_of hab.2 (by omega)
        obtain ⟨n, hn, rfl⟩ : ∃ n : Nat, n ≤ 60 ∧ c = nI n := ⟨c.toInt.toNat, by clear hS hab; ((try simp (disch := (first | omega | ((try simp (disch := omega) only [i_nI, Int32.reduceToInt, i_l]) <;> omega))) only [i_le, i_lt, i_eq, Int32.reduceToInt, i_nI, i_l, li0, vp_in_iff, i_sub, i_add] at *) <;> omega), i_of (by clear hS hab; ((try simp (disch := (first | omega | ((try simp (disch := omega) only [i_nI, Int32.reduceToInt, i_l]) <;> omega))) only [i_le, i_lt, i_eq, Int32.reduceToInt, i_nI, i_l, li0, vp_in_iff, i_sub, i_add] at *) <;> omega)) (by clear hS hab; ((try simp (disch := (first | omega | ((try simp (disch := omega) only [i_nI, Int32.reduceToInt, i_l]) <;> omega))) only [i_le, i_lt, i_eq, Int32.reduceToInt, i_nI, i_l, li0, vp_in_iff, i_sub, i_add] at *) <;> omega))⟩
        refine C_renew hk hl hn fun σ' g => ⟨_, rfl, _, rfl, M_sheet hk hl hn fun σ'' g2 => ⟨rfl, hR.m9 ((g.chg (fun _ => rfl) (fun _ => rfl) (fun j => modr_241 hk)).tr (g2.chg (fun _ => rfl) (fun _ => rfl) (fun _ => rfl))) ?_⟩⟩
        intro k' hk'
        by_cases e : k' = k
        · subst e
          right
          refine ⟨l, n, hl, hn, ?_, ?_, g2.2.2.1, g2.2.2.2.1, fun i hi => ?_⟩
          · rw [g2.1 238 (by decide) (by decide) (by decide)]; exact g.2.2.1
          · rw [g2.1 239 (by decide) (by decide) (by decide)]; exact g.2.2.2.1
          · rw [g2.1 (241 + k') (by omega) (by omega) (by omega), g2.2.2.2.2.2.1 i (by omega)]
            have := g.2.2.2.2.2.1 i (by omega)
            rw [Nat.zero_add] at this
            exact this
        · have a1 : ∀ j, σ''.1 238 j = σ'.1 238 j := fun j => g2.1 238 (by decide) (by decide) (by decide) j
          have a2 : ∀ j, σ''.1 239 j = σ'.1 239 j := fun j => g2.1 239 (by decide) (by decide) (by decide) j
          have a3 := (g.2.2.2.2.1 k' e)
          have a4 := (g2.2.2.2.2.1 k' e)
          have a5 : ∀ j, σ'.1 283 j = σ.1 283 j := fun j => g.1 283 (by omega) (by omega) (by omega) j
          have a6 : ∀ j, σ'.1 284 j = σ.1 284 j := fun j => g.1 284 (by omega) (by omega) (by omega) j
          rw [a1, a2, a3.1, a3.2, a4.1, a4.2, a5, a6]
          rcases hS k' hk' with h | ⟨l', n', h1, h2, h3, h4, h5, h6, h7⟩
          · exact Or.inl h
          · refine Or.inr ⟨l', n', h1, h2, h3, h4, h5, h6, fun i hi => ?_⟩
            rw [g2.1 (241 + k') (by omega) (by omega) (by omega), g.1 (241 + k') (by omega) (by omega) (by omega), g2.2.2.2.2.2.2 (60 * k' + i) (by omega), g.1 285 (by omega) (by omega) (by omega)]
            exact h7 i hi
      · have e : EvM 40 mX10_sheet [.ref 245, .int a, .int b, .int c] σ (fun r2 σ2 => r2 = some (.int (-14)) ∧ Rel σ2) :=
          EX10_sheet (C10_isSheet ⟨fun _ => ⟨_, rfl, fun q => absurd q (by decide), fun _ => ⟨fun _ => ⟨fun q => absurd q hc0, fun _ => ⟨rfl, hR⟩⟩, fun q => absurd hc q⟩⟩, fun q => absurd hab q⟩)
        exact EX5_renew ⟨fun _ => ⟨fun _ => ⟨fun _ => ⟨fun q => absurd q hc0, fun _ => ⟨_, rfl, _, rfl, e⟩⟩, fun q => absurd hc q⟩, fun q => absurd hab.2 q⟩, fun q => absurd hab.1 q⟩
    · have e : EvM 40 mX10_sheet [.ref 245, .int a, .int b, .int c] σ (fun r2 σ2 => r2 = some (.int (-1)) ∧ Rel σ2) :=
        EX10_sheet (C10_isSheet ⟨fun _ => ⟨_, rfl, fun q => absurd q (by decide), fun _ => ⟨fun q => absurd q hc, fun _ => ⟨rfl, hR⟩⟩⟩, fun q => absurd hab q⟩)
      exact EX5_renew ⟨fun _ => ⟨fun _ => ⟨fun q => absurd q hc, fun _ => ⟨_, rfl, _, rfl, e⟩⟩, fun q => absurd hab.2 q⟩, fun q => absurd hab.1 q⟩
  · have e : EvM 40 mX10_sheet [.ref 245, .int a, .int b, .int c] σ (fun r2 σ2 => r2 = some (.int (-1)) ∧ Rel σ2) :=
      EX10_sheet (C10_isSheet ⟨fun q => absurd q hab, fun _ => ⟨_, rfl, fun _ => ⟨rfl, hR⟩, fun q => absurd rfl q⟩⟩)
    exact EX5_renew ⟨fun p => ⟨fun q => absurd ⟨p, q⟩ hab, fun _ => ⟨_, rfl, _, rfl, e⟩⟩, fun _ => ⟨_, rfl, _, rfl, e⟩⟩
def lowb (l : Nat) (v : Int32) : Int32 := if l = 0 then v.toInt8.toInt32 else if l = 1 then v.toInt16.toInt32 else v
theorem O_lay {σ : Sg} (hR : Rel σ) (a b c : Int32) : OPi mX9_lay mX10_lay [.int a, .int b, .int c] σ := by
  have hS := hR.2.2.2.2.2.2.2
  refine EX9_lay ?_
  by_cases ha : vp_in a 4
  · obtain ⟨k, hk, rfl⟩ := vp_in_of ha (by omega)
    have h03 : vp_in (0 : Int32) 3 := vp_in_nI (n := 0) (by omega) (by omega)
    rcases hS k hk with ⟨h1, h2⟩ | ⟨l, n, h1, h2, h3, h4, h5, h6, h7⟩
    · have e : EvM 40 mX10_lay [.ref 245, .int (nI k), .int b, .int c] σ (fun r2 σ2 => r2 = some (.int (-11)) ∧ Rel σ2) :=
        EX10_lay (C10_isSheet ⟨fun _ => ⟨_, rfl, fun q => absurd q (by decide), fun _ => ⟨ha, fun _ => ⟨rfl, hR⟩, fun q => absurd (by rw [cl (by omega)]; exact h2) q⟩⟩, fun q => absurd ⟨ha, h03⟩ q⟩)
      exact EX5_put ⟨fun _ => ⟨ha, fun _ => ⟨_, rfl, _, rfl, e⟩, fun q => absurd (by rw [cl (by omega)]; exact h1) q⟩, fun q => absurd ha q⟩
    · have n1 : ¬ nI n = -4 := by clear hS h3 h4 h5 h6 h7; ((try simp (disch := (first | omega | ((try simp (disch := omega) only [i_nI, Int32.reduceToInt, i_l]) <;> omega))) only [i_le, i_lt, i_eq, Int32.reduceToInt, i_nI, i_l, li0, vp_in_iff, i_sub, i_add] at *) <;> omega)
      have n2 : ¬ nI l = -4 := by clear hS h3 h4 h5 h6 h7; ((try simp (disch := (first | omega | ((try simp (disch := omega) only [i_nI, Int32.reduceToInt, i_l]) <;> omega))) only [i_le, i_lt, i_eq, Int32.reduceToInt, i_nI, i_l, li0, vp_in_iff, i_sub, i_add] at *) <;> omega)
      by_cases hb : 0 ≤ b.toInt ∧ b.toInt < n
      · obtain ⟨i, hi, rfl⟩ : ∃ i : Nat, i < n ∧ b = nI i := ⟨b.toInt.toNat, by omega, i_of (by omega) (by omega)⟩
        have e : ∀ σ1 : Sg, σ1.1 283 k = nI l → σ1.1 284 k = nI n → (∀ σ2 : Sg, σ2 = u1 σ1 285 (60 * k + i) (lowb l c) → Rel σ2) → EvM 40 mX10_lay [.ref 245, .int (nI k), .int (nI i), .int c] σ1 (fun r2 σ2 => r2 = some (.int 1) ∧ Rel σ2) := by
          intro σ1 e1 e2 e3
          have e4 : (60 : Int32) * nI k + nI i = nI (60 * k + i) := by rw [show (60 : Int32) = nI 60 from rfl, pk_mul, nI_add]
          have e5 : vp_in (nI (60 * k + i)) 240 := vp_in_nI (by omega) (by omega)
          refine EX10_lay (C10_isSheet ⟨fun _ => ⟨_, rfl, fun q => absurd q (by decide), fun _ => ⟨ha, ?_⟩⟩, fun q => absurd ⟨ha, h03⟩ q⟩)
          rw [cl (by omega), e1, e2, e4, cl (by omega)]
          refine ⟨fun q => absurd q n2, fun _ => ⟨ha, fun _ => ⟨ha, fun q => ⟨e5, rfl, e3 _ ?_⟩, fun q => ⟨ha, fun q2 => ⟨e5, rfl, e3 _ ?_⟩, fun q2 => ⟨e5, rfl, e3 _ ?_⟩⟩⟩, fun q => ?_⟩⟩
          · rw [show l = 0 by clear hS h3 h4 h5 h6 h7 e1 e2 e3 e4 e5 n1 n2 ha h03 hR; ((try simp (disch := (first | omega | ((try simp (disch := omega) only [i_nI, Int32.reduceToInt, i_l]) <;> omega))) only [i_le, i_lt, i_eq, Int32.reduceToInt, i_nI, i_l, li0, vp_in_iff, i_sub, i_add] at *) <;> omega)]; rfl
          · rw [show l = 1 by clear hS h3 h4 h5 h6 h7 e1 e2 e3 e4 e5 n1 n2 ha h03 hR; ((try simp (disch := (first | omega | ((try simp (disch := omega) only [i_nI, Int32.reduceToInt, i_l]) <;> omega))) only [i_le, i_lt, i_eq, Int32.reduceToInt, i_nI, i_l, li0, vp_in_iff, i_sub, i_add] at *) <;> omega)]; rfl
          · rw [show l = 2 by clear hS h3 h4 h5 h6 h7 e1 e2 e3 e4 e5 n1 n2 ha h03 hR; ((try simp (disch := (first | omega | ((try simp (disch := omega) only [i_nI, Int32.reduceToInt, i_l]) <;> omega))) only [i_le, i_lt, i_eq, Int32.reduceToInt, i_nI, i_l, li0, vp_in_iff, i_sub, i_add] at *) <;> omega)]; rfl
          · exfalso; clear hS h3 h4 h5 h6 h7 e1 e2 e3 e4 e5 n1 n2 ha h03 hR; ((try simp (disch := (first | omega | ((try simp (disch := omega) only [i_nI, Int32.reduceToInt, i_l]) <;> omega))) only [i_le, i_lt, i_eq, Int32.reduceToInt, i_nI, i_l, li0, vp_in_iff, i_sub, i_add] at *) <;> omega)
        refine EX5_put ⟨fun _ => ⟨ha, fun q => absurd (by rw [← q, cl (by omega), h4]) n1, fun _ => EX5_hasCell ⟨fun _ => ⟨fun q => ?_, fun _ => ⟨ha, ?_⟩⟩, fun q => absurd ha q⟩⟩, fun q => absurd ha q⟩
        · exfalso; clear hS h3 h4 h5 h6 h7 ha hR e; ((try simp (disch := (first | omega | ((try simp (disch := omega) only [i_nI, Int32.reduceToInt, i_l]) <;> omega))) only [i_le, i_lt, i_eq, Int32.reduceToInt, i_nI, i_l, li0, vp_in_iff, i_sub, i_add] at *) <;> omega)
        · rw [cl (by omega), h4]
          refine ⟨fun q => ?_, fun _ => ⟨fun q => ?_, fun _ => ⟨_, rfl, fun q => absurd q (by decide), fun _ => ⟨ha, ha, ?_⟩⟩⟩⟩
          · exfalso; clear hS h3 h4 h5 h6 h7 ha hR e; ((try simp (disch := (first | omega | ((try simp (disch := omega) only [i_nI, Int32.reduceToInt, i_l]) <;> omega))) only [i_le, i_lt, i_eq, Int32.reduceToInt, i_nI, i_l, li0, vp_in_iff, i_sub, i_add] at *) <;> omega)
          · exfalso; clear hS h3 h4 h5 h6 h7 ha hR e; ((try simp (disch := (first | omega | ((try simp (disch := omega) only [i_nI, Int32.reduceToInt, i_l]) <;> omega))) only [i_le, i_lt, i_eq, Int32.reduceToInt, i_nI, i_l, li0, vp_in_iff, i_sub, i_add] at *) <;> omega)
          · rw [h3, cl (by omega)]
            have fin : ∀ v : Int32, v = lowb l c → ∃ v2, some (Value.int v) = some (.int v2) ∧ (vp_in (nI i) 60 ∧ ∃ v1, some (Value.int 1) = some (.int v1) ∧ ∃ v1_1, some (Value.int v1) = some (.int v1_1) ∧ EvM 40 mX10_lay [.ref 245, .int (nI k), .int (nI i), .int c] (u1 σ (241 + k) i v2) (fun r2 σ2 => r2 = some (.int v1_1) ∧ Rel σ2)) := by
              intro v hv
              refine ⟨v, rfl, vp_in_nI (by omega) (by omega), _, rfl, _, rfl, e _ ?_ ?_ ?_⟩
              · rw [u1_cell (by omega)]; exact h5
              · rw [u1_cell (by omega)]; exact h6
              · rintro σ2 rfl
                refine hR.m9 ((Chg.rf.u1 (by rw [modr_241 hk]; decide)).u1 (by rw [show ∀ j, modOf 285 j = 9 from fun _ => rfl]; decide)) ?_
                intro k' hk'
                have b1 : ∀ a j, a ≠ 285 → a ≠ 241 + k → (u1 (u1 σ (241 + k) i v) 285 (60 * k + i) (lowb l c)).1 a j = σ.1 a j := fun a j p q => by rw [u1_cell p, u1_cell q]
                rw [b1 239 _ (by omega) (by omega), b1 283 _ (by omega) (by omega), b1 238 _ (by omega) (by omega), b1 284 _ (by omega) (by omega)]
                rcases hS k' hk' with h | ⟨l', n', g1, g2, g3, g4, g5, g6, g7⟩
                · exact Or.inl h
                · refine Or.inr ⟨l', n', g1, g2, g3, g4, g5, g6, fun i' hi' => ?_⟩
                  rw [u1_cell (show 241 + k' ≠ 285 by omega)]
                  by_cases e9 : k' = k ∧ i' = i
                  · rw [e9.1, e9.2, u1_same, u1_same]; exact hv
                  · rw [u1_other (by omega), u1_other (by omega), u1_cell (by omega)]; exact g7 i' hi'
            refine EX5_lowestBits ⟨fun q => fin _ ?_, fun q => fin _ ?_, fun q q2 => fin _ ?_⟩
            · rw [show l = 0 by clear hS h3 h4 h5 h6 h7 e n1 n2 ha h03 hR; ((try simp (disch := (first | omega | ((try simp (disch := omega) only [i_nI, Int32.reduceToInt, i_l]) <;> omega))) only [i_le, i_lt, i_eq, Int32.reduceToInt, i_nI, i_l, li0, vp_in_iff, i_sub, i_add] at *) <;> omega)]; rfl
            · rw [show l = 1 by clear hS h3 h4 h5 h6 h7 e n1 n2 ha h03 hR; ((try simp (disch := (first | omega | ((try simp (disch := omega) only [i_nI, Int32.reduceToInt, i_l]) <;> omega))) only [i_le, i_lt, i_eq, Int32.reduceToInt, i_nI, i_l, li0, vp_in_iff, i_sub, i_add] at *) <;> omega)]; rfl
            · rw [show l = 2 by clear hS h3 h4 h5 h6 h7 e n1 n2 ha h03 hR fin; ((try simp (disch := (first | omega | ((try simp (disch := omega) only [i_nI, Int32.reduceToInt, i_l]) <;> omega))) only [i_le, i_lt, i_eq, Int32.reduceToInt, i_nI, i_l, li0, vp_in_iff, i_sub, i_add] at *) <;> omega)]; rfl
      · have e : EvM 40 mX10_lay [.ref 245, .int (nI k), .int b, .int c] σ (fun r2 σ2 => r2 = some (.int (-12)) ∧ Rel σ2) := by
          refine EX10_lay (C10_isSheet ⟨fun _ => ⟨_, rfl, fun q => absurd q (by decide), fun _ => ⟨ha, ?_⟩⟩, fun q => absurd ⟨ha, h03⟩ q⟩)
          rw [cl (by omega), h5, h6]
          refine ⟨fun q => absurd q n2, fun _ => ⟨ha, fun q => ?_, fun _ => ⟨rfl, hR⟩⟩⟩
          exfalso; clear hS h3 h4 h5 h6 h7 ha h03 hR n1 n2; ((try simp (disch := (first | omega | ((try simp (disch := omega) only [i_nI, Int32.reduceToInt, i_l]) <;> omega))) only [i_le, i_lt, i_eq, Int32.reduceToInt, i_nI, i_l, li0, vp_in_iff, i_sub, i_add] at *) <;> omega)
        have e2 : ∃ v1, some (Value.int (-12)) = some (.int v1) ∧ ∃ v1_1, some (Value.int v1) = some (.int v1_1) ∧ EvM 40 mX10_lay [.ref 245, .int (nI k), .int b, .int c] σ (fun r2 σ2 => r2 = some (.int v1_1) ∧ Rel σ2) := ⟨_, rfl, _, rfl, e⟩
        refine EX5_put ⟨fun _ => ⟨ha, fun q => absurd (by rw [← q, cl (by omega), h4]) n1, fun _ => EX5_hasCell ⟨fun _ => ⟨fun q => ⟨_, rfl, fun _ => e2, fun q => absurd rfl q⟩, fun q0 => ⟨ha, fun q => ⟨_, rfl, fun _ => e2, fun q => absurd rfl q⟩, fun q1 => ⟨fun q => ⟨_, rfl, fun _ => e2, fun q => absurd rfl q⟩, fun q2 => ?_⟩⟩⟩, fun q => absurd ha q⟩⟩, fun q => absurd ha q⟩
        exfalso
        rw [cl (by omega), h4] at q1
        clear hS h3 h4 h5 h6 h7 ha h03 hR n1 n2 e e2
        ((try simp (disch := (first | omega | ((try simp (disch := omega) only [i_nI, Int32.reduceToInt, i_l]) <;> omega))) only [i_le, i_lt, i_eq, Int32.reduceToInt, i_nI, i_l, li0, vp_in_iff, i_sub, i_add] at *) <;> omega)
  · have e : EvM 40 mX10_lay [.ref 245, .int a, .int b, .int c] σ (fun r2 σ2 => r2 = some (.int (-1)) ∧ Rel σ2) :=
      EX10_lay (C10_isSheet ⟨fun q => absurd q.1 ha, fun _ => ⟨_, rfl, fun _ => ⟨rfl, hR⟩, fun q => absurd rfl q⟩⟩)
    exact EX5_put ⟨fun q => absurd q ha, fun _ => ⟨_, rfl, _, rfl, e⟩⟩
