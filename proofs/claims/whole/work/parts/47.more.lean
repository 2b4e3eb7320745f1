/-! ===== told apart, dropped texts, chance, counts ===== -/
theorem Chg.w {S S' : List Nat} {σ σ' : Sg} (h : Chg S σ σ') (hs : ∀ m ∈ S, m ∈ S') : Chg S' σ σ' := h.le hs
theorem O_apart {σ : Sg} (hR : Rel σ) (a b c : Int32) : OPi mX9_apart mX10_apart [.int a, .int b, .int c] σ := by
  obtain ⟨nF, lk, ft, nT, tl, tc, hF, hT⟩ := hR.1
  obtain ⟨ap, hK⟩ := hR.2.1
  obtain ⟨h1, h2, h3, h4, h5, h6, h7⟩ := id hF
  have bad : (¬ vp_in a nF ∨ ¬ vp_in b nF ∨ a = b ∨ ¬ (0 ≤ c.toInt ∧ c.toInt ≤ 9)) → EvM 40 mX10_apart [.ref 245, .int a, .int b, .int c] σ (fun r2 σ2 => r2 = some (.int (-1)) ∧ Rel σ2) := by
    intro hb
    refine EX10_apart (C10_isForm h5 h1 (fun p => ⟨_, rfl, fun q => absurd q (by decide), fun _ => C10_isForm h5 h1 (fun p2 => ⟨_, rfl, fun q => absurd q (by decide), fun _ => ⟨fun _ => ⟨rfl, hR⟩, fun ne => ⟨fun q => ?_, fun _ => ⟨rfl, hR⟩⟩⟩⟩) (fun _ => ⟨_, rfl, fun _ => ⟨rfl, hR⟩, fun q => absurd rfl q⟩)⟩) (fun _ => ⟨_, rfl, fun _ => ⟨rfl, hR⟩, fun q => absurd rfl q⟩))
    exfalso
    rw [i_l] at q
    rcases hb with z | z | z | z
    · exact z p
    · exact z p2
    · exact ne z
    · exact z q
  have badC : ∀ {P : Prop}, (P → ∃ v1, some (Value.int (-1)) = some (.int v1) ∧ ∃ v, some (Value.int v1) = some (.int v) ∧ EvM 40 mX10_apart [.ref 245, .int a, .int b, .int c] σ (fun r2 σ2 => r2 = some (.int v) ∧ Rel σ2)) ↔ (P → EvM 40 mX10_apart [.ref 245, .int a, .int b, .int c] σ (fun r2 σ2 => r2 = some (.int (-1)) ∧ Rel σ2)) :=
    fun {P} => ⟨fun f p => by obtain ⟨v1, e1, v, e2, e3⟩ := f p; cases e1; cases e2; exact e3, fun f p => ⟨_, rfl, _, rfl, f p⟩⟩
  refine EX9_apart (EX3_tellApart ⟨fun pa => ⟨fun pb => ⟨badC.mpr fun e => bad (Or.inr (Or.inr (Or.inl e))), fun ne => ⟨badC.mpr fun q => bad (Or.inr (Or.inr (Or.inr ?_))), fun q => ⟨fun q2 => ?_, badC.mpr fun q2 => bad (Or.inr (Or.inr (Or.inr ?_)))⟩⟩⟩, badC.mpr fun q => bad (Or.inr (Or.inl ?_))⟩, badC.mpr fun q => bad (Or.inl ?_)⟩)
  · clear bad hR hT hK h3 h4 h5 h6 h7 hF pa pb badC; ((try simp (disch := (first | omega | ((try simp (disch := omega) only [i_nI, Int32.reduceToInt, i_l]) <;> omega))) only [i_le, i_lt, i_eq, Int32.reduceToInt, i_nI, i_l, li0, vp_in_iff, i_sub, i_add] at *) <;> omega)
  · rw [C2_isForm' h3 h1] at pa pb
    obtain ⟨k, hk, rfl⟩ := vin pa (by omega)
    obtain ⟨l, hl, rfl⟩ := vin pb (by omega)
    have ne' : k ≠ l := fun e => ne (by rw [e])
    obtain ⟨d, hd, rfl⟩ : ∃ d : Nat, d ≤ 9 ∧ c = nI d := ⟨c.toInt.toNat, by clear bad hR hT hK h3 h4 h5 h6 h7 hF pa pb badC ne; ((try simp (disch := (first | omega | ((try simp (disch := omega) only [i_nI, Int32.reduceToInt, i_l]) <;> omega))) only [i_le, i_lt, i_eq, Int32.reduceToInt, i_nI, i_l, li0, vp_in_iff, i_sub, i_add] at *) <;> omega), i_of (by clear bad hR hT hK h3 h4 h5 h6 h7 hF pa pb badC ne; ((try simp (disch := (first | omega | ((try simp (disch := omega) only [i_nI, Int32.reduceToInt, i_l]) <;> omega))) only [i_le, i_lt, i_eq, Int32.reduceToInt, i_nI, i_l, li0, vp_in_iff, i_sub, i_add] at *) <;> omega)) (by clear bad hR hT hK h3 h4 h5 h6 h7 hF pa pb badC ne; ((try simp (disch := (first | omega | ((try simp (disch := omega) only [i_nI, Int32.reduceToInt, i_l]) <;> omega))) only [i_le, i_lt, i_eq, Int32.reduceToInt, i_nI, i_l, li0, vp_in_iff, i_sub, i_add] at *) <;> omega))⟩
    have v1 : vp_in (nI k) 24 := nvin (by omega) (by omega)
    have v2 : vp_in (nI l) 24 := nvin (by omega) (by omega)
    have e1 : (24 : Int32) * nI k + nI l = nI (24 * k + l) := by rw [show (24 : Int32) = nI 24 from rfl, pk_mul, nI_add]
    have e2 : (24 : Int32) * nI l + nI k = nI (24 * l + k) := by rw [show (24 : Int32) = nI 24 from rfl, pk_mul, nI_add]
    rw [cl (by omega), cl (by omega)]
    refine ⟨v1, v2, v1, v2, v2, v1, _, rfl, _, rfl, ?_⟩
    have kk : ∀ a j, a ≠ 24 + k → a ≠ 24 + l → (u1 (u1 σ (24 + k) l (nI d)) (24 + l) k (nI d)).1 a j = σ.1 a j := fun a j p q => by rw [u1_cell q, u1_cell p]
    refine EX10_apart (C10_isForm (by rw [kk 245 0 (by omega) (by omega)]; exact h5) h1 (fun p => ⟨_, rfl, fun q => absurd q (by decide), fun _ => C10_isForm (by rw [kk 245 0 (by omega) (by omega)]; exact h5) h1 (fun p2 => ⟨_, rfl, fun q => absurd q (by decide), fun _ => ⟨fun e => absurd e ne, fun _ => ⟨fun _ => ?_, fun q => ?_⟩⟩⟩) (fun q => absurd pb q)⟩) (fun q => absurd pa q))
    · rw [e1, e2, cl (by omega), cl (by omega), kk 255 _ (by omega) (by omega)]
      refine ⟨nvin (by omega) (by omega), nvin (by omega) (by omega), nvin (by omega) (by omega), ?_, hR.m3 ((((Chg.rf.u1 (by rw [modr_24 (by omega)]; decide)).u1 (by rw [modr_24 (by omega)]; decide)).u1 (by rw [show ∀ j, modOf 255 j = 3 from fun _ => rfl]; decide)).u1 (by rw [show ∀ j, modOf 255 j = 3 from fun _ => rfl]; decide)) ⟨fun x y => if (x = k ∧ y = l) ∨ (x = l ∧ y = k) then d else ap x y, fun x hx y hy => ?_⟩⟩
      · rw [(hK k (by omega) l (by omega)).2.1, (hK k (by omega) l (by omega)).2.2]
      · obtain ⟨k1, k2, k3⟩ := hK x hx y hy
        by_cases e : (x = k ∧ y = l) ∨ (x = l ∧ y = k)
        · rw [show (fun x y => if (x = k ∧ y = l) ∨ (x = l ∧ y = k) then d else ap x y) x y = d from if_pos e]
          refine ⟨hd, ?_, ?_⟩
          · rw [u1_cell (by omega), u1_cell (by omega)]
            rcases e with ⟨rfl, rfl⟩ | ⟨rfl, rfl⟩
            · rw [u1_cell (by omega), u1_same]
            · exact u1_same
          · rcases e with ⟨rfl, rfl⟩ | ⟨rfl, rfl⟩
            · rw [u1_slot (by omega), u1_same]
            · exact u1_same
        · rw [show (fun x y => if (x = k ∧ y = l) ∨ (x = l ∧ y = k) then d else ap x y) x y = ap x y from if_neg e]
          refine ⟨k1, ?_, ?_⟩
          · rw [u1_cell (by omega), u1_cell (by omega), u1_other (by omega), u1_other (by omega)]; exact k2
          · rw [u1_slot (by omega), u1_slot (by omega), u1_cell (by omega), u1_cell (by omega)]; exact k3
    · exfalso; clear bad hR hT hK h3 h4 h5 h6 h7 hF pa pb badC ne kk e1 e2 v1 v2 p p2; ((try simp (disch := (first | omega | ((try simp (disch := omega) only [i_nI, Int32.reduceToInt, i_l]) <;> omega))) only [i_le, i_lt, i_eq, Int32.reduceToInt, i_nI, i_l, li0, vp_in_iff, i_sub, i_add] at *) <;> omega)
  · clear bad hR hT hK h3 h4 h5 h6 h7 hF pa pb badC; ((try simp (disch := (first | omega | ((try simp (disch := omega) only [i_nI, Int32.reduceToInt, i_l]) <;> omega))) only [i_le, i_lt, i_eq, Int32.reduceToInt, i_nI, i_l, li0, vp_in_iff, i_sub, i_add] at *) <;> omega)
  · intro z; rw [← C2_isForm' h3 h1] at z; exact q z
  · intro z; rw [← C2_isForm' h3 h1] at z; exact q z
/-! dropped texts -/
theorem wScan_fst {cell : Nat → Int32} {n t : Nat} : ∀ c, ∀ x ∈ (wScan cell n t c).2, x.1 = t := by
  intro c
  induction c with
  | zero => intro x hx; cases hx
  | succ c ih =>
    intro x hx
    unfold wScan at hx
    by_cases e : c < n ∧ ¬ cell c = -2
    · rw [if_pos e] at hx; exact ih x hx
    · rw [if_neg e] at hx
      dsimp only at hx
      by_cases e2 : (wScan cell n t c).1 < c
      · rw [if_pos e2] at hx
        rcases List.mem_append.mp hx with h | h
        · exact ih x h
        · rw [List.mem_singleton.mp h]
      · rw [if_neg e2] at hx; exact ih x hx
theorem wL_fst {tl : Nat → Nat} {tc : Nat → Nat → Int32} : ∀ n, ∀ x ∈ wL tl tc n, x.1 < n := by
  intro n
  induction n with
  | zero => intro x hx; cases hx
  | succ n ih =>
    intro x hx
    rcases List.mem_append.mp hx with h | h
    · have := ih x h; omega
    · have := wScan_fst _ x h; omega
theorem wAt_mem {l : List Wd} {w : Nat} (h : w < l.length) : wAt l w ∈ l := by
  unfold wAt
  rw [List.getD_eq_getElem?_getD, List.getElem?_eq_getElem h]
  exact List.getElem_mem h
theorem wAt_left {l l' : List Wd} {w : Nat} (h : w < l.length) : wAt (l ++ l') w = wAt l w := by
  unfold wAt
  rw [List.getD_eq_getElem?_getD, List.getD_eq_getElem?_getD, List.getElem?_append_left h]
theorem wAt_right {l l' : List Wd} {w : Nat} : wAt (l ++ l') (l.length + w) = wAt l' w := by
  unfold wAt
  rw [List.getD_eq_getElem?_getD, List.getD_eq_getElem?_getD, List.getElem?_append_right (by omega), show l.length + w - l.length = w by omega]
theorem wScan_le {cell : Nat → Int32} {n t : Nat} : ∀ c, (wScan cell n t c).1 ≤ c ∧ 2 * (wScan cell n t c).2.length ≤ (wScan cell n t c).1 := by
  intro c
  induction c with
  | zero => exact ⟨Nat.le_refl _, Nat.le_refl _⟩
  | succ c ih =>
    unfold wScan
    by_cases e : c < n ∧ ¬ cell c = -2
    · rw [if_pos e]; omega
    · rw [if_neg e]
      dsimp only
      by_cases e2 : (wScan cell n t c).1 < c
      · rw [if_pos e2, List.length_append, List.length_singleton]; omega
      · rw [if_neg e2]; omega
theorem wT_len {cell : Nat → Int32} {n t : Nat} (h : n ≤ 24) : (wT cell n t).length ≤ 12 := by
  have := wScan_le (cell := cell) (n := n) (t := t) (n + 1)
  unfold wT; omega
theorem wL_len {tl : Nat → Nat} {tc : Nat → Nat → Int32} : ∀ n, (∀ t, t < n → tl t ≤ 24) → (wL tl tc n).length ≤ 12 * n := by
  intro n
  induction n with
  | zero => intro _; exact Nat.le_refl _
  | succ n ih =>
    intro h
    have a := ih (fun t ht => h t (by omega))
    have b := wT_len (cell := tc n) (t := n) (h n (by omega))
    show (wL tl tc n ++ wT (tc n) (tl n) n).length ≤ _
    rw [List.length_append]; omega
theorem O_drop {σ : Sg} (hR : Rel σ) : OPi mX9_drop mX10_drop [] σ := by
  obtain ⟨nF, lk, ft, nT, tl, tc, hF, hT⟩ := hR.1
  obtain ⟨g1, g2, g3, g4, g5, g6⟩ := id hT
  refine EX9_drop ?_
  by_cases h0 : nT = 0
  · have e : EvM 40 mX10_drop [.ref 245] σ (fun r2 σ2 => r2 = some (.int (-4)) ∧ Rel σ2) := EX10_drop ⟨fun _ => ⟨rfl, hR⟩, fun q => absurd (by rw [g3, h0]; rfl) q⟩
    refine EX7_dropLatest ⟨fun q => ?_, fun _ => ⟨_, rfl, _, rfl, e⟩⟩
    exfalso; rw [g2, h0] at q; exact absurd q (by decide)
  · obtain ⟨n, rfl⟩ : ∃ n, nT = n + 1 := ⟨nT - 1, by omega⟩
    have hW : wL tl tc (n + 1) = wL tl tc n ++ wT (tc n) (tl n) n := rfl
    have hl1 := wL_len (tl := tl) (tc := tc) n (fun t ht => (g4 t (by omega)).2.1)
    have hl2 := wL_len (tl := tl) (tc := tc) (n + 1) (fun t ht => (g4 t (by omega)).2.1)
    have fin : ∀ σ' : Sg, Rw 5 σ σ' → σ'.1 5 4 = nI n → σ'.1 5 9 = nI (wL tl tc n).length → ∃ v1, some (Value.int (nI n)) = some (.int v1) ∧ ∃ v, some (Value.int v1) = some (.int v) ∧ EvM 40 mX10_drop [.ref 245] σ' (fun r2 σ2 => r2 = some (.int v) ∧ Rel σ2) := by
      intro σ' k1 k2 k3
      have e5 : σ'.1 245 4 = nI (n + 1) := by rw [k1.1 245 (by decide)]; exact g3
      refine ⟨_, rfl, _, rfl, EX10_drop ⟨fun q => ?_, fun _ => ?_⟩⟩
      · exfalso; rw [e5] at q; exact nI_ne0 (by omega) (by omega) q
      · rw [u1_same, e5, nI_pred]
        have cc : Chg [0, 2] σ (u1 σ' 245 4 (nI n)) := (k1.chg (fun j => by rw [show modOf 5 j = 2 from rfl]; decide) Chg.rf).u1 (by decide)
        refine ⟨rfl, hR.m12 (cc.le (by decide)) ⟨nF, lk, ft, n, tl, tc, hF.fr (cc.sm (by decide)), by omega, ?_, u1_same, fun t ht => ?_, ?_, fun w hw => ?_⟩⟩
        · rw [u1_cell (by decide)]; exact k2
        · obtain ⟨a1, a2, a3, a4, a5⟩ := g4 t (by omega)
          refine ⟨a1, a2, ?_, ?_, fun c hc => ?_⟩
          · rw [u1_cell (by decide), k1.1 16 (by decide)]; exact a3
          · rw [u1_cell (by decide), k1.1 248 (by decide)]; exact a4
          · rw [u1_cell (by omega), k1.1 (8 + t) (by omega), u1_cell (by decide), k1.1 249 (by decide)]; exact a5 c hc
        · rw [u1_cell (by decide)]; exact k3
        · have := g6 w (by rw [hW, List.length_append]; omega)
          rw [hW, wAt_left hw] at this
          rw [u1_cell (by decide), u1_cell (by decide), u1_cell (by decide), u1_cell (by decide), k1.1 17 (by decide), k1.1 18 (by decide), k1.1 19 (by decide), k1.1 20 (by decide)]
          exact this
    refine EX7_dropLatest ⟨fun _ => ?_, fun q => ?_⟩
    · rw [g2, nI_pred]
      have k4 : (u1 σ 5 4 (nI n)).1 5 4 = nI n := u1_same
      have k9 : (u1 σ 5 4 (nI n)).1 5 9 = nI (wL tl tc (n + 1)).length := by rw [u1_slot (by decide)]; exact g5
      have L : ∀ i, i ≤ (wL tl tc (n + 1)).length → KX7_dropLatest_25 39 (u1 σ 5 4 (nI n)) (fun r9 σ1 => ∃ v1, r9 = some (.int v1) ∧ ∃ v, some (Value.int v1) = some (.int v) ∧ EvM 40 mX10_drop [.ref 245] σ1 (fun r2 σ2 => r2 = some (.int v) ∧ Rel σ2)) (nI (min i (wL tl tc n).length)) (nI i) := by
        refine for_up ?_ ?_
        · refine BX7_dropLatest_25 ⟨fun _ => ?_, fun q => absurd (by rw [k9]; exact nI_le (Nat.le_refl _) (by omega)) q⟩
          rw [u1_slot (by decide), k4]
          refine fin _ (Rw.rf.u1.u1) (by rw [u1_slot (by decide)]; exact k4) ?_
          rw [u1_same, hW, List.length_append, Nat.min_eq_right (by omega)]
        · intro i hi ih
          refine BX7_dropLatest_25 ⟨fun q => absurd q (by rw [k9]; exact nI_ge hi (by omega)), fun _ => ⟨nvin (by omega) (by omega), ?_⟩⟩
          rw [cl (by omega), k4, u1_cell (by decide), (g6 i hi).1, nI_1, nI_1]
          by_cases hil : i < (wL tl tc n).length
          · have e1 : wAt (wL tl tc (n + 1)) i = wAt (wL tl tc n) i := by rw [hW]; exact wAt_left hil
            have e2 := wL_fst n _ (wAt_mem hil)
            rw [e1]
            refine ⟨fun q => absurd q (nI_ge e2 (by omega)), fun _ => ?_⟩
            rw [show min i (wL tl tc n).length + 1 = min (i + 1) (wL tl tc n).length by omega]
            exact ih
          · obtain ⟨j, rfl⟩ : ∃ j, i = (wL tl tc n).length + j := ⟨i - (wL tl tc n).length, by omega⟩
            rw [hW, List.length_append] at hi
            have e1 : wAt (wL tl tc (n + 1)) ((wL tl tc n).length + j) = wAt (wT (tc n) (tl n) n) j := by rw [hW]; exact wAt_right
            have e2 : (wAt (wT (tc n) (tl n) n) j).1 = n := wScan_fst (tl n + 1) _ (wAt_mem (l := wT (tc n) (tl n) n) (by omega))
            rw [e1, e2]
            refine ⟨fun _ => ?_, fun q => absurd (nI_le (Nat.le_refl _) (by omega)) q⟩
            rw [show min ((wL tl tc n).length + j) (wL tl tc n).length = min ((wL tl tc n).length + j + 1) (wL tl tc n).length by omega]
            exact ih
      have := L 0 (by omega)
      rw [Nat.zero_min] at this
      exact this
    · exfalso; apply q; rw [g2]; exact nI_le (a := 1) (by omega) (by omega)
/-! how many -/
theorem n4 {n : Nat} (h : n < 2147483648) : ¬ nI n = -4 := fun q => by ((try simp (disch := (first | omega | ((try simp (disch := omega) only [i_nI, Int32.reduceToInt, i_l]) <;> omega))) only [i_le, i_lt, i_eq, Int32.reduceToInt, i_nI, i_l, li0, vp_in_iff, i_sub, i_add] at *) <;> omega)
def cG (gd : Nat → Bool) (n : Nat) : Nat := cnt gd n
theorem C_withdrawn {N nC day : Nat} {kd nr cm gn on dep : Nat → Nat} {gd : Nat → Bool} {σ : Sg} {Q : Option Value → Sg → Prop} (hC : RC nC day kd nr cm gn on dep gd σ) (h : Q (some (.int (nI (cnt gd nC)))) σ) : EvM N mX1_withdrawn [.ref 230] σ Q := by
  obtain ⟨h1, h2, h3, h4, h5, h6, h7, h8, h9⟩ := hC
  have L : ∀ i, i ≤ nC → KX1_withdrawn_4 N σ Q (nI (cnt gd i)) (nI i) := by
    refine for_up ?_ ?_
    · exact BX1_withdrawn_4 ⟨fun _ => h, fun q => absurd (by rw [h3]; exact nI_le (Nat.le_refl _) (by omega)) q⟩
    · intro i hi ih
      obtain ⟨b1, b2, b3, b4, b5, b6, b7, b8, b9, b10, b11, b12, b13, b14, b15, b16, b17, b18⟩ := h8 i hi
      refine BX1_withdrawn_4 ⟨fun q => absurd q (by rw [h3]; exact nI_ge hi (by omega)), fun _ => ⟨nvin (by omega) (by omega), ?_⟩⟩
      rw [cl (by omega), b14, nI_1, nI_1]
      rw [cnt_s] at ih
      by_cases e : gd i = true
      · rw [if_pos e] at ih
        rw [if_pos e]
        exact ⟨fun q => absurd q (n4 (by omega)), fun _ => ih⟩
      · rw [if_neg e] at ih
        rw [if_neg e]
        exact ⟨fun _ => ih, fun q => absurd rfl q⟩
  exact EX1_withdrawn (L 0 (by omega))
theorem O_count {σ : Sg} (hR : Rel σ) (a : Int32) : OPi mX9_count mX10_count [.int a] σ := by
  obtain ⟨nF, lk, ft, nT, tl, tc, hF, hT⟩ := hR.1
  obtain ⟨nA, hA⟩ := hR.2.2.1
  obtain ⟨nN, nn, pk, hN⟩ := hR.2.2.2.1
  obtain ⟨nW, wn, ws, hW⟩ := hR.2.2.2.2.1
  obtain ⟨len, by', hP⟩ := hR.2.2.2.2.2.1
  obtain ⟨nC, day, kd, nr, cm, gn, on, dep, gd, hC⟩ := hR.2.2.2.2.2.2.1
  have hS := hR.2.2.2.2.2.2.2
  obtain ⟨h1, h2, h3, h4, h5, h6, h7, h8, h9⟩ := id hC
  have M : ∀ v : Int32, (a = 0 → v = nI nF) → (a = 1 → v = nI nT) → (a = 2 → v = nI (tS tl tc nT)) → (a = 3 → v = nI nA) → (a = 4 → v = nI nN) → (a = 5 → v = nI nW) → (a = 6 → v = nI nC) → (a = 7 → v = nI (cnt gd nC)) → (a = 8 → v = nI day) → (a = 9 → v = nI len) → (a = 10 → (σ.1 283 0 = -4 → v = -4) ∧ (¬ σ.1 283 0 = -4 → v = σ.1 284 0)) → (¬ a = 0 → ¬ a = 1 → ¬ a = 2 → ¬ a = 3 → ¬ a = 4 → ¬ a = 5 → ¬ a = 6 → ¬ a = 7 → ¬ a = 8 → ¬ a = 9 → ¬ a = 10 → v = -1) → EvM 40 mX10_count [.ref 245, .int a] σ (fun r2 σ2 => r2 = some (.int v) ∧ Rel σ2) := by
    intro v e0 e1 e2 e3 e4 e5 e6 e7 e8 e9 e10 e11
    have L : ∀ i, i ≤ nC → KX10_count_4 38 σ (fun r2 σ2 => r2 = some (.int v) ∧ Rel σ2) a (nI (cnt gd i)) (nI i) := by
      refine for_up ?_ ?_
      · refine BX10_count_4 ⟨fun _ => ⟨fun q => ⟨by rw [e0 q, hF.2.2.2.2.1], hR⟩, fun q => ⟨by rw [e1 q, hT.2.2.1], hR⟩, fun q => ?_, fun q => ⟨by rw [e3 q, hA.2.2.1], hR⟩, fun q => ⟨by rw [e4 q, hN.2.2.1], hR⟩, fun q => ⟨by rw [e5 q, hW.2.2.1], hR⟩, fun q => ⟨by rw [e6 q, h4], hR⟩, fun q => ⟨by rw [e7 q], hR⟩, fun q => ⟨by rw [e8 q, h6], hR⟩, fun q => ⟨by rw [e9 q, hP.2.2.1], hR⟩, fun q => ⟨nvin (k := 0) (by omega) (by omega), fun z => ⟨by rw [(e10 q).1 z], hR⟩, fun z => ⟨nvin (k := 0) (by omega) (by omega), by rw [(e10 q).2 z]; rfl, hR⟩⟩, fun q0 q1 q2 q3 q4 q5 q6 q7 q8 q9 q10 => ⟨by rw [e11 q0 q1 q2 q3 q4 q5 q6 q7 q8 q9 q10], hR⟩⟩, fun q => absurd (by rw [h4]; exact nI_le (Nat.le_refl _) (by omega)) q⟩
        rw [hF.2.2.2.2.2.1]
        refine C_findSigns hF.1 hF.2.1 hF.2.2.2.2.1 (fun i hi => ⟨(hF.2.2.2.2.2.2 i hi).1, (hF.2.2.2.2.2.2 i hi).2.2.1⟩) fun σ' k1 k2 => ⟨rfl, ?_⟩
        have hc : Chg [0] σ σ' := k1.c0 fun _ => rfl
        exact M_allSigns (hF.fr (hc.sm (by decide))) (hT.fr (hc.sm (by decide))) k2 ⟨_, rfl, by rw [e2 q], hR.q hc⟩
      · intro i hi ih
        obtain ⟨b1, b2, b3, b4, b5, b6, b7, b8, b9, b10, b11, b12, b13, b14, b15, b16, b17, b18⟩ := h8 i hi
        refine BX10_count_4 ⟨fun q => absurd q (by rw [h4]; exact nI_ge hi (by omega)), fun _ => ⟨nvin (by omega) (by omega), ?_⟩⟩
        rw [cl (by omega), b15, nI_1, nI_1, Int32.add_zero]
        rw [cnt_s] at ih
        by_cases e : gd i = true
        · rw [if_pos e] at ih
          rw [if_pos e]
          exact ⟨fun q => absurd q (n4 (by omega)), fun _ => ih⟩
        · rw [if_neg e] at ih
          rw [if_neg e]
          exact ⟨fun _ => ih, fun q => absurd rfl q⟩
    exact EX10_count (L 0 (by omega))
  have M' : ∀ v : Int32, ((a = 0 → v = nI nF) ∧ (a = 1 → v = nI nT) ∧ (a = 2 → v = nI (tS tl tc nT)) ∧ (a = 3 → v = nI nA) ∧ (a = 4 → v = nI nN) ∧ (a = 5 → v = nI nW) ∧ (a = 6 → v = nI nC) ∧ (a = 7 → v = nI (cnt gd nC)) ∧ (a = 8 → v = nI day) ∧ (a = 9 → v = nI len) ∧ (a = 10 → (σ.1 283 0 = -4 → v = -4) ∧ (¬ σ.1 283 0 = -4 → v = σ.1 284 0)) ∧ (¬ a = 0 → ¬ a = 1 → ¬ a = 2 → ¬ a = 3 → ¬ a = 4 → ¬ a = 5 → ¬ a = 6 → ¬ a = 7 → ¬ a = 8 → ¬ a = 9 → ¬ a = 10 → v = -1)) → ∃ v1, some (Value.int v) = some (.int v1) ∧ EvM 40 mX10_count [.ref 245, .int a] σ (fun r2 σ2 => r2 = some (.int v1) ∧ Rel σ2) := by
    rintro v ⟨e0, e1, e2, e3, e4, e5, e6, e7, e8, e9, e10, e11⟩
    exact ⟨_, rfl, M v e0 e1 e2 e3 e4 e5 e6 e7 e8 e9 e10 e11⟩
  have nz : ∀ {x y : Int32} {P : Prop}, x = y → ¬ x = y → P := fun a b => absurd a b
  refine EX9_count ⟨fun q => M' _ ?_, fun q => M' _ ?_, fun q => C_timesOfAll hF hT ⟨_, rfl, M' _ ?_⟩, fun q => M' _ ?_, fun q => M' _ ?_, fun q => M' _ ?_, fun q => M' _ ?_, fun q => C_withdrawn hC ⟨_, rfl, M' _ ?_⟩, fun q => M' _ ?_, fun q => M' _ ?_, fun q => EX5_lengthOf ⟨fun _ => ⟨nvin (k := 0) (by omega) (by omega), _, rfl, M' _ ?_⟩, fun z => absurd (nvin (k := 0) (by omega) (by omega)) z⟩, fun q0 q1 q2 q3 q4 q5 q6 q7 q8 q9 q10 => M' _ ⟨fun z => absurd z q0, fun z => absurd z q1, fun z => absurd z q2, fun z => absurd z q3, fun z => absurd z q4, fun z => absurd z q5, fun z => absurd z q6, fun z => absurd z q7, fun z => absurd z q8, fun z => absurd z q9, fun z => absurd z q10, fun _ _ _ _ _ _ _ _ _ _ _ => rfl⟩⟩
  · subst q; rw [hF.2.2.1]; simp
  · subst q; rw [hT.2.1]; simp
  · subst q; simp
  · subst q; rw [hA.2.1]; simp
  · subst q; rw [hN.2.1]; simp
  · subst q; rw [hW.2.1]; simp
  · subst q; rw [h3]; simp
  · subst q; simp
  · subst q; rw [h5]; simp
  · subst q; rw [hP.2.1]; simp
  · subst q
    have e : (0 : Int32).toNatClampNeg = 0 := rfl
    rw [e]
    have hs := hS 0 (by decide)
    simp only [show ¬ (10 : Int32) = 0 by decide, show ¬ (10 : Int32) = 1 by decide, show ¬ (10 : Int32) = 2 by decide, show ¬ (10 : Int32) = 3 by decide, show ¬ (10 : Int32) = 4 by decide, show ¬ (10 : Int32) = 5 by decide, show ¬ (10 : Int32) = 6 by decide, show ¬ (10 : Int32) = 7 by decide, show ¬ (10 : Int32) = 8 by decide, show ¬ (10 : Int32) = 9 by decide, false_implies, true_and, not_true, not_false_eq_true, true_implies, and_true, implies_true]
    rcases hs with ⟨k1, k2⟩ | ⟨l, n, k1, k2, k3, k4, k5, k6, k7⟩
    · exact ⟨fun _ => k1, fun z => absurd k2 z⟩
    · exact ⟨fun z => absurd z (by rw [k5]; exact n4 (by omega)), fun _ => by rw [k4, k6]⟩
