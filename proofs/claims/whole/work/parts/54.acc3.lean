/-! ===== account, values, sure ===== -/
theorem RA.ex {σ : Sg} (h : RA σ) : ∃ nA ex, EA nA ex σ ∧ EM nA ex σ := by
  obtain ⟨nA, h1, h2, h3, h4⟩ := h
  exact ⟨nA, fun a m => dig (σ.1 261 a) m - dig (σ.1 262 a) m, ⟨h1, h2, h4⟩, ⟨h1, h3, fun _ _ _ _ => rfl⟩⟩
theorem pc8 : ∀ s, s < 256 → pc 24 s = cnt (fun p => s.testBit p) 8 := by decide +kernel
theorem O_values {σ : Sg} (hR : Rel σ) (a : Int32) : OPi mX9_values mX10_values [.int a] σ := by
  obtain ⟨nA, ex, hA, hM⟩ := hR.2.2.1.ex
  refine EX9_values ?_
  by_cases hv : 0 ≤ a.toInt ∧ a.toInt ≤ 4
  · obtain ⟨w, hw, rfl⟩ : ∃ w : Nat, w ≤ 4 ∧ a = nI w := ⟨a.toInt.toNat, by omega, i_of (by omega) (by omega)⟩
    have hm : (0 ≤ ((nI w).toInt64).toInt ∧ ((nI w).toInt64).toInt ≤ 4) := by rw [i_l]; exact hv
    have cn := cnt_le (fR nA ex) 4096
    have M : ∀ (σ1 : Sg) (v : Int32), Chg [0] σ σ1 → (w = 0 → v = nI (cnt (fR nA ex) 4096)) → (¬ w = 0 → cnt (fR nA ex) 4096 = 0 → v = -4) → (¬ w = 0 → ¬ cnt (fR nA ex) 4096 = 0 → v = LV (fi nA ex (w - 1) 4096)) → EvM 40 mX10_values [.ref 245, .int (nI w)] σ1 (fun r2 σ2 => r2 = some (.int v) ∧ Rel σ2) := by
      intro σ1 v c1 e0 e1 e2
      refine EX10_values ⟨fun _ => M_search (hM.q (c1.sm (by decide))) fun σ2 c2 f2 => ⟨rfl, ?_⟩, fun q => absurd hm q⟩
      obtain ⟨i1, i2, i3⟩ := f2
      have R2 : Rel σ2 := (hR.q c1).q c2
      rw [i1]
      refine ⟨fun z => ⟨by rw [e0 ((nI_eq (b := 0) (by omega) (by omega)).mp z)], R2⟩, fun z => ?_⟩
      have z0 : ¬ w = 0 := fun e => z (by rw [e]; rfl)
      refine ⟨fun z1 => ⟨by rw [e1 z0 ((nI_eq (b := 0) (by omega) (by omega)).mp z1)], R2⟩, fun z1 => ?_⟩
      have z2 : ¬ cnt (fR nA ex) 4096 = 0 := fun e => z1 (by rw [e]; rfl)
      rw [show nI w - 1 = nI (w - 1) from pk_sub (b := 1) (by omega), cl (by omega), i3 (by omega) (w - 1) (by omega)]
      exact ⟨nvin (by omega) (by omega), M_listed (fi_lt nA ex (w - 1) 4096) ⟨_, rfl, by rw [e2 z0 z2], R2⟩⟩
    refine EX0_tellFits ⟨fun q => ?_, fun _ => ⟨fun _ => C_search hA fun σ1 c1 f1 => ⟨rfl, ?_⟩, fun q => ?_⟩⟩
    · exfalso; clear M hR hA hM hm cn; ((try simp (disch := (first | omega | ((try simp (disch := omega) only [i_nI, Int32.reduceToInt, i_l]) <;> omega))) only [i_le, i_lt, i_eq, Int32.reduceToInt, i_nI, i_l, li0, vp_in_iff, i_sub, i_add] at *) <;> omega)
    · obtain ⟨i1, i2, i3⟩ := f1
      rw [i1]
      refine ⟨fun z => ⟨_, rfl, _, rfl, M σ1 _ c1 (fun _ => rfl) (fun e => absurd ((nI_eq (b := 0) (by omega) (by omega)).mp z) e) (fun e => absurd ((nI_eq (b := 0) (by omega) (by omega)).mp z) e)⟩, fun z => ?_⟩
      have z0 : ¬ w = 0 := fun e => z (by rw [e]; rfl)
      refine ⟨fun z1 => ⟨_, rfl, _, rfl, M σ1 _ c1 (fun e => absurd e z0) (fun _ _ => rfl) (fun _ e => absurd ((nI_eq (b := 0) (by omega) (by omega)).mp z1) e)⟩, fun z1 => ?_⟩
      have z2 : ¬ cnt (fR nA ex) 4096 = 0 := fun e => z1 (by rw [e]; rfl)
      rw [show nI w - 1 = nI (w - 1) from pk_sub (b := 1) (by omega), cl (by omega), i3 (by omega) (w - 1) (by omega)]
      exact ⟨nvin (by omega) (by omega), C_valueOf (fi_lt nA ex (w - 1) 4096) ⟨_, rfl, _, rfl, _, rfl, M σ1 _ c1 (fun e => absurd e z0) (fun _ e => absurd e z2) (fun _ _ => rfl)⟩⟩
    · exfalso; clear M hR hA hM hm cn; ((try simp (disch := (first | omega | ((try simp (disch := omega) only [i_nI, Int32.reduceToInt, i_l]) <;> omega))) only [i_le, i_lt, i_eq, Int32.reduceToInt, i_nI, i_l, li0, vp_in_iff, i_sub, i_add] at *) <;> omega)
  · have e : EvM 40 mX10_values [.ref 245, .int a] σ (fun r2 σ2 => r2 = some (.int (-1)) ∧ Rel σ2) := EX10_values ⟨fun q => absurd (by rw [i_l] at q; exact q) hv, fun _ => ⟨rfl, hR⟩⟩
    refine EX0_tellFits ⟨fun q => ⟨_, rfl, _, rfl, e⟩, fun q0 => ⟨fun q => ?_, fun q => ⟨_, rfl, _, rfl, e⟩⟩⟩
    exfalso; clear e hR hA hM; ((try simp (disch := (first | omega | ((try simp (disch := omega) only [i_nI, Int32.reduceToInt, i_l]) <;> omega))) only [i_le, i_lt, i_eq, Int32.reduceToInt, i_nI, i_l, li0, vp_in_iff, i_sub, i_add] at *) <;> omega)
theorem O_sure {σ : Sg} (hR : Rel σ) (a : Int32) : OPi mX9_sure mX10_sure [.int a] σ := by
  obtain ⟨nA, ex, hA, hM⟩ := hR.2.2.1.ex
  refine EX9_sure ?_
  by_cases hv : 0 ≤ a.toInt ∧ a.toInt ≤ 3
  · obtain ⟨w, hw, rfl⟩ : ∃ w : Nat, w < 4 ∧ a = nI w := ⟨a.toInt.toNat, by omega, i_of (by omega) (by omega)⟩
    have hm : (0 ≤ ((nI w).toInt64).toInt ∧ ((nI w).toInt64).toInt ≤ 3) := by rw [i_l]; exact hv
    have s8 := sn_lt nA ex w 4096
    refine EX0_valuesSeen ⟨fun q => ?_, fun _ => ⟨fun _ => C_search hA fun σ1 c1 f1 => ⟨rfl, nvin hw (by omega), ?_⟩, fun q => ?_⟩⟩
    · exfalso; clear hR hA hM hm; ((try simp (disch := (first | omega | ((try simp (disch := omega) only [i_nI, Int32.reduceToInt, i_l]) <;> omega))) only [i_le, i_lt, i_eq, Int32.reduceToInt, i_nI, i_l, li0, vp_in_iff, i_sub, i_add] at *) <;> omega)
    · rw [cl (by omega), f1.2.1 w hw]
      refine C_bitCount (by omega) ⟨_, rfl, _, rfl, _, rfl, ?_⟩
      refine EX10_sure ⟨fun _ => M_search (hM.q (c1.sm (by decide))) fun σ2 c2 f2 => ⟨rfl, ?_⟩, fun q => absurd hm q⟩
      obtain ⟨i1, i2, i3⟩ := f2
      have R2 : Rel σ2 := (hR.q c1).q c2
      have L : ∀ i, i ≤ 8 → KX10_sure_22 37 σ2 (fun r2 σ2 => r2 = some (.int (nI (pc 24 (sn nA ex w 4096)))) ∧ Rel σ2) (nI w) (nI (cnt (fun p => (sn nA ex w 4096).testBit p) i)) (nI i) := by
        refine for_up ?_ ?_
        · exact BX10_sure_22 ⟨fun _ => ⟨by rw [pc8 _ s8], R2⟩, fun q => absurd (nI_le (a := 8) (b := 8) (by decide) (by decide)) q⟩
        · intro i hi ih
          have e8 : (8 : Int32) * nI w + nI i = nI (8 * w + i) := by rw [show (8 : Int32) = nI 8 from rfl, pk_mul, nI_add]
          rw [cnt_s] at ih
          refine BX10_sure_22 ⟨fun q => absurd q (nI_ge (b := 8) hi (by omega)), fun _ => ?_⟩
          rw [e8, cl (by omega), i2 w hw i hi, nI_1, nI_1, Int32.add_zero]
          refine ⟨nvin (by omega) (by omega), ?_⟩
          by_cases tb : (sn nA ex w 4096).testBit i = true
          · rw [if_pos tb] at ih
            rw [tb]
            exact ⟨fun z => absurd z (by decide), fun _ => ih⟩
          · rw [if_neg tb] at ih
            rw [show (sn nA ex w 4096).testBit i = false by simpa using tb]
            exact ⟨fun _ => ih, fun z => absurd rfl z⟩
      exact L 0 (by omega)
    · exfalso; clear hR hA hM hm; ((try simp (disch := (first | omega | ((try simp (disch := omega) only [i_nI, Int32.reduceToInt, i_l]) <;> omega))) only [i_le, i_lt, i_eq, Int32.reduceToInt, i_nI, i_l, li0, vp_in_iff, i_sub, i_add] at *) <;> omega)
  · have e : EvM 40 mX10_sure [.ref 245, .int a] σ (fun r2 σ2 => r2 = some (.int (-1)) ∧ Rel σ2) := EX10_sure ⟨fun q => absurd (by rw [i_l] at q; exact q) hv, fun _ => ⟨rfl, hR⟩⟩
    refine EX0_valuesSeen ⟨fun q => ⟨_, rfl, _, rfl, e⟩, fun q0 => ⟨fun q => ?_, fun q => ⟨_, rfl, _, rfl, e⟩⟩⟩
    exfalso; clear e hR hA hM; ((try simp (disch := (first | omega | ((try simp (disch := omega) only [i_nI, Int32.reduceToInt, i_l]) <;> omega))) only [i_le, i_lt, i_eq, Int32.reduceToInt, i_nI, i_l, li0, vp_in_iff, i_sub, i_add] at *) <;> omega)
/-- numbers of marks -/
def mkP (x : Int32) : Prop := (0 ≤ x.toInt ∧ x.toInt ≤ 1048575) ∧ ∀ m, m < 4 → dig x m ≤ 20
section MK
variable {N : Nat} {σ : Sg} {Q : Option Value → Sg → Prop}
theorem C_areStanding {x : Int32} (h1 : mkP x → Q (some (.int 1)) σ) (h0 : ¬ mkP x → Q (some (.int 0)) σ) : EvM (N + 1) mX0_areStanding [.int x] σ Q := by
  have L : ∀ i, i ≤ 4 → (0 ≤ x.toInt ∧ x.toInt ≤ 1048575) → (∀ m, m < i → dig x m ≤ 20) → KX0_areStanding_15 N σ Q x (nI i) := by
    refine for_up ?_ ?_
    · intro hx h
      exact BX0_areStanding_15 ⟨fun _ => h1 ⟨hx, h⟩, fun q => absurd (nI_le (a := 4) (b := 4) (by decide) (by decide)) q⟩
    · intro i hi ih hx h
      refine BX0_areStanding_15 ⟨fun q => absurd q (nI_ge (b := 4) hi (by omega)), fun _ => ⟨fun z => ?_, fun z => h0 (fun k => z (k.2 i hi))⟩⟩
      rw [nI_1]
      refine ih hx (fun m hm => ?_)
      by_cases e : m = i
      · rw [e]; exact z
      · exact h m (by omega)
  refine EX0_areStanding ⟨fun q => h0 (fun k => ?_), fun q => ?_⟩
  · have := k.1; clear L h0 h1; ((try simp (disch := (first | omega | ((try simp (disch := omega) only [i_nI, Int32.reduceToInt, i_l]) <;> omega))) only [i_le, i_lt, i_eq, Int32.reduceToInt, i_nI, i_l, li0, vp_in_iff, i_sub, i_add] at *) <;> omega)
  · obtain ⟨n, hn, rfl⟩ := nI_of q
    rw [pk_shrN (by omega) (20 &&& 31) 20 (by decide)]
    refine ⟨fun z => L 0 (by omega) ?_ (fun m hm => absurd hm (by omega)), fun z => h0 (fun k => z ?_)⟩
    · have := (nI_eq (b := 0) (Nat.lt_of_le_of_lt (Nat.div_le_self _ _) hn) (by omega)).mp z
      rw [i_nI (by omega)]; omega
    · have := k.1
      rw [i_nI (by omega)] at this
      rw [Nat.div_eq_of_lt (by omega)]; rfl
theorem M_isMarks {x : Int32} (h1 : mkP x → Q (some (.int 1)) σ) (h0 : ¬ mkP x → Q (some (.int 0)) σ) : EvM (N + 1) mX10_isMarks [.int x] σ Q := by
  have L : ∀ i, i ≤ 4 → ∀ f : Int32, (f = 1 ∧ (0 ≤ x.toInt ∧ x.toInt ≤ 1048575) ∧ ∀ m, m < i → dig x m ≤ 20) ∨ (f = 0 ∧ ¬ mkP x) → KX10_isMarks_12 N σ Q x f (nI i) := by
    refine for_up ?_ ?_
    · intro f hf
      refine BX10_isMarks_12 ⟨fun _ => ?_, fun q => absurd (nI_le (a := 4) (b := 4) (by decide) (by decide)) q⟩
      rcases hf with ⟨rfl, e1, e2⟩ | ⟨rfl, e⟩
      · exact ⟨rfl, h1 ⟨e1, e2⟩⟩
      · exact ⟨rfl, h0 e⟩
    · intro i hi ih f hf
      refine BX10_isMarks_12 ⟨fun q => absurd q (nI_ge (b := 4) hi (by omega)), fun _ => ?_⟩
      rw [nI_1]
      rcases hf with ⟨rfl, e1, e2⟩ | ⟨rfl, e⟩
      · refine ⟨fun z => absurd z (by decide), fun _ => ⟨fun z => ih 0 (Or.inr ⟨rfl, fun k => ?_⟩), fun z => ih 1 (Or.inl ⟨rfl, e1, fun m hm => ?_⟩)⟩⟩
        · have := k.2 i hi
          unfold dig at this
          rw [i_le] at this; rw [i_lt] at z; omega
        · by_cases e : m = i
          · rw [e]; unfold dig; rw [i_le]; rw [i_lt] at z; omega
          · exact e2 m (by omega)
      · exact ⟨fun _ => ih 0 (Or.inr ⟨rfl, e⟩), fun z => absurd rfl z⟩
  refine EX10_isMarks ⟨fun q => L 0 (by omega) 1 (Or.inl ⟨rfl, by rw [i_l] at q; exact q, fun m hm => absurd hm (by omega)⟩), fun q => L 0 (by omega) 0 (Or.inr ⟨rfl, fun k => q (by rw [i_l]; exact k.1)⟩)⟩
end MK
theorem O_account {σ : Sg} (hR : Rel σ) (a b : Int32) : OPi mX9_account mX10_account [.int a, .int b] σ := by
  obtain ⟨nA, h1, h2, h3, h4⟩ := id hR.2.2.1
  have bad : (¬ mkP a ∨ ¬ mkP b) → EvM 40 mX10_account [.ref 245, .int a, .int b] σ (fun r2 σ2 => r2 = some (.int (-1)) ∧ Rel σ2) := fun hb =>
    EX10_account (M_isMarks (fun pa => ⟨_, rfl, fun q => absurd q (by decide), fun _ => M_isMarks (fun pb => (hb.elim (fun z => absurd pa z) (fun z => absurd pb z))) (fun _ => ⟨_, rfl, fun _ => ⟨rfl, hR⟩, fun q => absurd rfl q⟩)⟩) (fun _ => ⟨_, rfl, fun _ => ⟨rfl, hR⟩, fun q => absurd rfl q⟩))
  refine EX9_account (EX0_add (C_areStanding (fun pa => ⟨_, rfl, fun q => absurd q (by decide), fun _ => C_areStanding (fun pb => ⟨_, rfl, fun q => absurd q (by decide), fun _ => ⟨fun q => ?_, fun q => ?_⟩⟩) (fun pb => ⟨_, rfl, fun _ => ⟨_, rfl, _, rfl, bad (Or.inr pb)⟩, fun q => absurd rfl q⟩)⟩) (fun pa => ⟨_, rfl, fun _ => ⟨_, rfl, _, rfl, bad (Or.inl pa)⟩, fun q => absurd rfl q⟩)))
  · have hn : nA < 8 := (nI_ltI (b := 8) (by omega) (by omega)).mp (by rw [← h2]; exact q)
    have L : ∀ i, i ≤ 4 → ∀ σ' : Sg, Rw (104 + nA) σ σ' → (∀ m, m < i → σ'.1 (104 + nA) m = dig a m - dig b m) → KX0_add_30 37 σ' (fun r9 σ1 => ∃ v1, r9 = some (.int v1) ∧ ∃ v, some (Value.int v1) = some (.int v) ∧ EvM 40 mX10_account [.ref 245, .int a, .int b] σ1 (fun r2 σ2 => r2 = some (.int v) ∧ Rel σ2)) a b (nI i) := by
      refine for_up ?_ ?_
      · intro σ' k1 k2
        have e1 : σ'.1 102 1 = nI nA := by rw [k1.1 102 (by omega)]; exact h2
        refine BX0_add_30 ⟨fun _ => ?_, fun q => absurd (nI_le (a := 4) (b := 4) (by decide) (by decide)) q⟩
        rw [u1_same, e1, nI_1, nI_pred]
        refine ⟨_, rfl, _, rfl, ?_⟩
        have e2 : (u1 σ' 102 1 (nI (nA + 1))).1 245 20 = nI nA := by rw [u1_cell (by decide), k1.1 245 (by omega)]; exact h3
        have cc : Chg [0, 4] σ (u1 σ' 102 1 (nI (nA + 1))) := (k1.chg (fun j => by rw [modr_104 hn]; decide) Chg.rf).u1 (by decide)
        generalize hs1 : u1 σ' 102 1 (nI (nA + 1)) = σ1 at e2 cc
        refine EX10_account (M_isMarks (fun _ => ⟨_, rfl, fun q => absurd q (by decide), fun _ => M_isMarks (fun _ => ⟨_, rfl, fun q => absurd q (by decide), fun _ => ⟨fun q => ?_, fun _ => ?_⟩⟩) (fun z => absurd pb z)⟩) (fun z => absurd pa z))
        · exfalso; rw [e2] at q; have := (nI_eq (b := 8) (by omega) (by omega)).mp q; omega
        · rw [e2, cl (by omega), u1_cell (show 245 ≠ 261 by decide), e2, cl (by omega), u1_same, u1_cell (by decide), u1_cell (by decide), e2, nI_1, nI_pred]
          refine ⟨nvin hn (by omega), nvin hn (by omega), rfl, hR.m4 (((cc.u1 (by rw [show ∀ j, modOf 261 j = 4 from fun _ => rfl]; decide)).u1 (by rw [show ∀ j, modOf 262 j = 4 from fun _ => rfl]; decide)).u1 (by decide)) ⟨nA + 1, by omega, ?_, u1_same, fun x hx m hm => ?_⟩⟩
          · rw [u1_cell (by decide), u1_cell (by decide), u1_cell (by decide), ← hs1, u1_same]
          · rw [u1_cell (show 104 + x ≠ 245 by omega), u1_cell (show 104 + x ≠ 262 by omega), u1_cell (show 104 + x ≠ 261 by omega), u1_cell (show 261 ≠ 245 by decide), u1_cell (show 261 ≠ 262 by decide), u1_cell (show 262 ≠ 245 by decide)]
            by_cases e : x = nA
            · subst e
              rw [u1_same, u1_same, ← hs1, u1_cell (by omega)]
              exact k2 m hm
            · rw [u1_slot e, u1_slot e, u1_cell (show 262 ≠ 261 by decide), ← hs1, u1_cell (by omega), u1_cell (by decide), u1_cell (by decide), k1.1 (104 + x) (by omega), k1.1 261 (by omega), k1.1 262 (by omega)]
              exact h4 x (by omega) m hm
      · intro i hi ih σ' k1 k2
        have e1 : σ'.1 102 1 = nI nA := by rw [k1.1 102 (by omega)]; exact h2
        refine BX0_add_30 ⟨fun q => absurd q (nI_ge (b := 4) hi (by omega)), fun _ => ⟨by rw [e1]; exact nvin hn (by omega), nvin hi (by omega), ?_⟩⟩
        rw [e1, cl (by omega), cl (by omega), nI_1]
        refine ih _ k1.u1 (fun m hm => ?_)
        by_cases e : m = i
        · subst e; exact u1_same
        · rw [u1_slot e]; exact k2 m (by omega)
    exact L 0 (by omega) σ Rw.rf (fun m hm => absurd hm (by omega))
  · have hn : nA = 8 := by
      have : ¬ nA < 8 := fun z => q (by rw [h2]; exact nI_lt (b := 8) z (by omega))
      omega
    refine ⟨_, rfl, _, rfl, EX10_account (M_isMarks (fun _ => ⟨_, rfl, fun q => absurd q (by decide), fun _ => M_isMarks (fun _ => ⟨_, rfl, fun q => absurd q (by decide), fun _ => ⟨fun _ => ⟨rfl, hR⟩, fun z => absurd (by rw [h3, hn]; rfl) z⟩⟩) (fun z => absurd pb z)⟩) (fun z => absurd pa z))⟩
