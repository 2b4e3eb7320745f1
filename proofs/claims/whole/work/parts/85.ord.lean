/-! ===== orders ===== -/
def ga (o : List Nat) (x : Nat) : Nat := o.getD x 0
/-- one more than the last place that is not above the next one, or 0 -/
def tnI (o : List Nat) : Nat → Nat
  | 0 => 0
  | t + 1 => if ga o t ≤ ga o (t + 1) then t + 1 else tnI o t
def swI (o : List Nat) (t : Nat) : Nat → Nat
  | 0 => 0
  | j + 1 => if ga o t ≤ ga o (j + 1) then j + 1 else swI o t j
def exL (o : List Nat) (i j : Nat) : List Nat := (o.set i (ga o j)).set j (ga o i)
def rvI : Nat → List Nat → Nat → Nat → List Nat
  | 0, o, _, _ => o
  | f + 1, o, i, j => if j ≤ i then o else rvI f (exL o i j) (i + 1) (j - 1)
def nxt (k : Nat) (o : List Nat) : Option (List Nat) := match tnI o (k - 1) with
  | 0 => none
  | t + 1 => some (rvI 6 (exL o t (swI o t (k - 1))) (t + 1) (k - 1))
/-- the orders end within f steps -/
def tmt (k : Nat) : Nat → List Nat → Bool
  | 0, _ => false
  | f + 1, o => match nxt k o with
    | none => true
    | some o' => tmt k f o'
set_option maxRecDepth 100000 in
theorem tmt_ok : ∀ k, k < 7 → tmt k 720 (List.range k) = true := by decide +kernel
theorem ga_set {o : List Nat} {i x v : Nat} (h : i < o.length) : ga (o.set i v) x = if x = i then v else ga o x := by
  unfold ga
  rw [List.getD_eq_getElem?_getD, List.getD_eq_getElem?_getD, List.getElem?_set]
  by_cases e : x = i
  · subst e
    rw [if_pos rfl, if_pos h, if_pos rfl]; rfl
  · rw [if_neg (fun z => e z.symm), if_neg e]
theorem ga_ex {o : List Nat} {i j x : Nat} (hi : i < o.length) (hj : j < o.length) : ga (exL o i j) x = if x = j then ga o i else if x = i then ga o j else ga o x := by
  unfold exL
  rw [ga_set (by rw [List.length_set]; exact hj), ga_set hi]
theorem ga_range {k x : Nat} (h : x < k) : ga (List.range k) x = x := by
  unfold ga
  rw [List.getD_eq_getElem?_getD, List.getElem?_range h]; rfl
/-- an order in the cell c -/
def OL (c k : Nat) (o : List Nat) (σ : Sg) : Prop := o.length = k ∧ (∀ x, x < k → ga o x < k) ∧ ∀ x, x < k → σ.1 c x = nI (ga o x)
section OR
variable {N k : Nat} {o : List Nat} {σ : Sg} {Q : Option Value → Sg → Prop}
theorem OL.ex {c i j : Nat} (h : OL c k o σ) (hi : i < k) (hj : j < k) : OL c k (exL o i j) (u1 (u1 σ c i (nI (ga o j))) c j (nI (ga o i))) := by
  obtain ⟨h1, h2, h3⟩ := h
  refine ⟨by unfold exL; rw [List.length_set, List.length_set]; exact h1, fun x hx => ?_, fun x hx => ?_⟩
  · rw [ga_ex (by omega) (by omega)]
    by_cases e : x = j
    · rw [if_pos e]; exact h2 i hi
    · rw [if_neg e]
      by_cases e2 : x = i
      · rw [if_pos e2]; exact h2 j hj
      · rw [if_neg e2]; exact h2 x hx
  · rw [ga_ex (by omega) (by omega)]
    by_cases e : x = j
    · rw [if_pos e, e, u1_same]
    · rw [if_neg e, u1_slot e]
      by_cases e2 : x = i
      · rw [if_pos e2, e2, u1_same]
      · rw [if_neg e2, u1_slot e2]; exact h3 x hx
theorem C_exch {i j : Nat} (hk : k ≤ 6) (hO : OL 227 k o σ) (hi : i < k) (hj : j < k) (h : Q none (u1 (u1 σ 227 i (nI (ga o j))) 227 j (nI (ga o i)))) : EvM N mX8_exchange [.ref 122, .int (nI i), .int (nI j)] σ Q := by
  refine EX8_exchange ⟨nvin (by omega) (by omega), nvin (by omega) (by omega), nvin (by omega) (by omega), nvin (by omega) (by omega), ?_⟩
  rw [cl (by omega), cl (by omega), hO.2.2 i hi, hO.2.2 j hj]
  exact h
theorem C_rev {σ0 : Sg} (hk : k ≤ 6) : ∀ (f : Nat) (o : List Nat) (i j : Nat) (σ : Sg), OL 227 k o σ → Rw 227 σ0 σ → i ≤ k → j < k → j ≤ i + 2 * f → (∀ σ', Rw 227 σ0 σ' → OL 227 k (rvI f o i j) σ' → Q (some (.int 1)) σ') → KX8_nextOrder_91 N σ Q (nI i) (nI j) := by
  intro f
  induction f with
  | zero =>
    intro o i j σ hO r hi hj hf h
    exact BX8_nextOrder_91 ⟨fun _ => h σ r hO, fun q => absurd (nI_le (by omega) (by omega)) q⟩
  | succ f ih =>
    intro o i j σ hO r hi hj hf h
    unfold rvI at h
    refine BX8_nextOrder_91 ⟨fun q => ?_, fun q => ?_⟩
    · have := (nI_leI (by omega) (by omega)).mp q
      rw [if_pos this] at h
      exact h σ r hO
    · have lt : ¬ j ≤ i := fun z => q (nI_le z (by omega))
      rw [if_neg lt] at h
      obtain ⟨j', rfl⟩ : ∃ j', j = j' + 1 := ⟨j - 1, by omega⟩
      refine C_exch hk hO (by omega) hj ⟨rfl, ?_⟩
      rw [nI_1, pk_m1]
      exact ih (exL o i (j' + 1)) (i + 1) j' _ (hO.ex (by omega) hj) r.u1.u1 (by omega) (by omega) (by omega) h
theorem k_2 {k : Nat} : nI (k + 1) - 2 = xk k := by
  cases k with
  | zero => decide
  | succ k => exact pk_sub (a := k + 1 + 1) (b := 2) (by omega)
theorem C_nextOrder (hk : k ≤ 6) (h4 : σ.1 122 4 = nI k) (hO : OL 227 k o σ) (h1 : ∀ o', nxt k o = some o' → ∀ σ', Rw 227 σ σ' → OL 227 k o' σ' → Q (some (.int 1)) σ') (h0 : nxt k o = none → Q (some (.int 0)) σ) : EvM (N + 1) mX8_nextOrder [.ref 122] σ Q := by
  refine EX8_nextOrder ?_
  rw [h4]
  cases k with
  | zero =>
    refine BX8_nextOrder_7 ⟨fun _ => ⟨fun q => absurd q (by decide), fun _ => h0 rfl⟩, fun q => absurd (show nI 0 - 2 < 0 by decide) q⟩
  | succ k =>
    rw [k_2]
    have L : ∀ t, t ≤ k → tnI o t = tnI o k → KX8_nextOrder_7 N σ Q (xk t) := by
      intro t
      induction t with
      | zero =>
        intro _ e
        refine BX8_nextOrder_7 ⟨fun _ => ⟨fun q => absurd q (by decide), fun _ => h0 ?_⟩, fun q => absurd (show (-1 : Int32) < 0 by decide) q⟩
        unfold nxt
        rw [show k + 1 - 1 = k from rfl, ← e]
        rfl
      | succ t ih =>
        intro ht e
        have b1 := hO.2.1 t (by omega)
        have b2' := hO.2.1 (t + 1) (by omega)
        have et : tnI o (t + 1) = if ga o t ≤ ga o (t + 1) then t + 1 else tnI o t := rfl
        show KX8_nextOrder_7 N σ Q (nI t)
        refine BX8_nextOrder_7 ⟨fun q => absurd q (nI_pos (by omega)), fun _ => ?_⟩
        rw [nI_1, cl (by omega), cl (by omega), hO.2.2 t (by omega), hO.2.2 (t + 1) (by omega)]
        refine ⟨nvin (by omega) (by omega), nvin (by omega) (by omega), fun q => ⟨fun _ => ?_, fun z => absurd (nI_pos' (by omega)) z⟩, fun q => ?_⟩
        · have le := (nI_leI (by omega) (by omega)).mp q
          rw [if_pos le] at et
          have en : nxt (k + 1) o = some (rvI 6 (exL o t (swI o t k)) (t + 1) k) := by
            unfold nxt
            rw [show k + 1 - 1 = k from rfl, ← e, et]
          rw [h4, nI_pred]
          have J : ∀ d, d ≤ k - (t + 1) → swI o t (t + 1 + d) = swI o t k → KX8_nextOrder_47 N σ Q (nI t) (nI (t + 1 + d)) := by
            intro d
            have fin : ∀ d, d ≤ k - (t + 1) → swI o t k = t + 1 + d → EvM N mX8_exchange [.ref 122, .int (nI t), .int (nI (t + 1 + d))] σ (fun r9 σ1 => r9 = none ∧ (KX8_nextOrder_91 N σ1 Q (nI t + 1) ((σ1.1 122 4) - 1))) := by
              intro d hd es
              refine C_exch hk hO (by omega) (by omega) ⟨rfl, ?_⟩
              rw [u1_cell (show 122 ≠ 227 by decide), u1_cell (show 122 ≠ 227 by decide), h4, nI_pred, nI_1]
              refine C_rev hk 6 (exL o t (t + 1 + d)) (t + 1) k _ (hO.ex (by omega) (by omega)) Rw.rf.u1.u1 (by omega) (by omega) (by omega) (fun σ' r O' => h1 _ en σ' r ?_)
              rw [es]; exact O'
            induction d with
            | zero =>
              intro hd es
              have s1 : swI o t (t + 1) = t + 1 := if_pos le
              refine BX8_nextOrder_47 ⟨fun _ => fin 0 hd (by rw [← es]; exact s1), fun _ => ?_⟩
              rw [Nat.add_zero, cl (by omega), cl (by omega), hO.2.2 t (by omega), hO.2.2 (t + 1) (by omega)]
              exact ⟨nvin (by omega) (by omega), nvin (by omega) (by omega), fun _ => fin 0 hd (by rw [← es]; exact s1), fun z => absurd q z⟩
            | succ d ihd =>
              intro hd es
              have b3 := hO.2.1 (t + 1 + (d + 1)) (by omega)
              have s1 : swI o t (t + 1 + (d + 1)) = if ga o t ≤ ga o (t + 1 + (d + 1)) then t + 1 + (d + 1) else swI o t (t + 1 + d) := rfl
              refine BX8_nextOrder_47 ⟨fun z => absurd z (nI_ge (by omega) (by omega)), fun _ => ?_⟩
              rw [cl (by omega), cl (by omega), hO.2.2 t (by omega), hO.2.2 (t + 1 + (d + 1)) (by omega)]
              refine ⟨nvin (by omega) (by omega), nvin (by omega) (by omega), fun z => fin (d + 1) hd ?_, fun z => ?_⟩
              · have := (nI_leI (by omega) (by omega)).mp z
                rw [← es, s1, if_pos this]
              · have : ¬ ga o t ≤ ga o (t + 1 + (d + 1)) := fun y => z (nI_le y (by omega))
                rw [if_neg this] at s1
                rw [show t + 1 + (d + 1) = t + 1 + d + 1 from rfl, pk_m1]
                exact ihd (by omega) (by rw [← s1]; exact es)
          have := J (k - (t + 1)) (Nat.le_refl _) (by rw [show t + 1 + (k - (t + 1)) = k by omega])
          rw [show t + 1 + (k - (t + 1)) = k by omega] at this
          exact this
        · have nle : ¬ ga o t ≤ ga o (t + 1) := fun y => q (nI_le y (by omega))
          rw [if_neg nle] at et
          rw [xk_add]
          exact ih (by omega) (by rw [← et]; exact e)
    exact L k (Nat.le_refl _) rfl
theorem M_rev {σ0 : Sg} (hk : k ≤ 6) : ∀ (f : Nat) (o : List Nat) (i j : Nat) (σ : Sg), OL 275 k o σ → Rw 275 σ0 σ → i ≤ k → j < k → j ≤ i + 2 * f → (∀ σ', Rw 275 σ0 σ' → OL 275 k (rvI f o i j) σ' → Q (some (.int 1)) σ') → KX10_goesOn_107 N σ Q (nI i) (nI j) := by
  intro f
  induction f with
  | zero =>
    intro o i j σ hO r hi hj hf h
    exact BX10_goesOn_107 ⟨fun _ => h σ r hO, fun q => absurd (nI_le (by omega) (by omega)) q⟩
  | succ f ih =>
    intro o i j σ hO r hi hj hf h
    unfold rvI at h
    refine BX10_goesOn_107 ⟨fun q => ?_, fun q => ?_⟩
    · have := (nI_leI (by omega) (by omega)).mp q
      rw [if_pos this] at h
      exact h σ r hO
    · have lt : ¬ j ≤ i := fun z => q (nI_le z (by omega))
      rw [if_neg lt] at h
      obtain ⟨j', rfl⟩ : ∃ j', j = j' + 1 := ⟨j - 1, by omega⟩
      have vi : vp_in (nI i) 6 := nvin (by omega) (by omega)
      have vj : vp_in (nI (j' + 1)) 6 := nvin (by omega) (by omega)
      refine ⟨vi, vj, vi, vj, ?_⟩
      rw [nI_1, pk_m1, cl (by omega), cl (by omega), hO.2.2 i (by omega), hO.2.2 (j' + 1) hj]
      exact ih (exL o i (j' + 1)) (i + 1) j' _ (hO.ex (by omega) hj) r.u1.u1 (by omega) (by omega) (by omega) h
theorem M_goesOn (hk : k ≤ 6) (h4 : σ.1 245 33 = nI k) (hO : OL 275 k o σ) (h1 : ∀ o', nxt k o = some o' → ∀ σ', Rw 275 σ σ' → OL 275 k o' σ' → Q (some (.int 1)) σ') (h0 : nxt k o = none → Q (some (.int 0)) σ) : EvM N mX10_goesOn [.ref 245] σ Q := by
  refine EX10_goesOn ?_
  rw [h4]
  cases k with
  | zero =>
    refine BX10_goesOn_7 ⟨fun _ => ⟨fun q => absurd q (by decide), fun _ => h0 rfl⟩, fun q => absurd (show nI 0 - 2 < 0 by decide) q⟩
  | succ k =>
    rw [k_2]
    have L : ∀ t, t ≤ k → tnI o t = tnI o k → KX10_goesOn_7 N σ Q (xk t) := by
      intro t
      induction t with
      | zero =>
        intro _ e
        refine BX10_goesOn_7 ⟨fun _ => ⟨fun q => absurd q (by decide), fun _ => h0 ?_⟩, fun q => absurd (show (-1 : Int32) < 0 by decide) q⟩
        unfold nxt
        rw [show k + 1 - 1 = k from rfl, ← e]
        rfl
      | succ t ih =>
        intro ht e
        have b1 := hO.2.1 t (by omega)
        have b2' := hO.2.1 (t + 1) (by omega)
        have et : tnI o (t + 1) = if ga o t ≤ ga o (t + 1) then t + 1 else tnI o t := rfl
        show KX10_goesOn_7 N σ Q (nI t)
        refine BX10_goesOn_7 ⟨fun q => absurd q (nI_pos (by omega)), fun _ => ?_⟩
        rw [nI_1, cl (by omega), cl (by omega), hO.2.2 t (by omega), hO.2.2 (t + 1) (by omega)]
        refine ⟨nvin (by omega) (by omega), nvin (by omega) (by omega), fun q => ⟨fun _ => ?_, fun z => absurd (nI_pos' (by omega)) z⟩, fun q => ?_⟩
        · have le := (nI_leI (by omega) (by omega)).mp q
          rw [if_pos le] at et
          have en : nxt (k + 1) o = some (rvI 6 (exL o t (swI o t k)) (t + 1) k) := by
            unfold nxt
            rw [show k + 1 - 1 = k from rfl, ← e, et]
          rw [h4, nI_pred]
          have J : ∀ d, d ≤ k - (t + 1) → swI o t (t + 1 + d) = swI o t k → KX10_goesOn_47 N σ Q (nI t) (nI (t + 1 + d)) := by
            intro d
            have fin : ∀ d, d ≤ k - (t + 1) → swI o t k = t + 1 + d → KX10_goesOn_107 N (u1 (u1 σ 275 t (nI (ga o (t + 1 + d)))) 275 (t + 1 + d) (nI (ga o t))) Q (nI t + 1) (((u1 (u1 σ 275 t (nI (ga o (t + 1 + d)))) 275 (t + 1 + d) (nI (ga o t))).1 245 33) - 1) := by
              intro d hd es
              rw [u1_cell (show 245 ≠ 275 by decide), u1_cell (show 245 ≠ 275 by decide), h4, nI_pred, nI_1]
              refine M_rev hk 6 (exL o t (t + 1 + d)) (t + 1) k _ (hO.ex (by omega) (by omega)) Rw.rf.u1.u1 (by omega) (by omega) (by omega) (fun σ' r O' => h1 _ en σ' r ?_)
              rw [es]; exact O'
            have vt : vp_in (nI t) 6 := nvin (by omega) (by omega)
            induction d with
            | zero =>
              intro hd es
              have s1 : swI o t (t + 1) = t + 1 := if_pos le
              have v1 : vp_in (nI (t + 1 + 0)) 6 := nvin (by omega) (by omega)
              refine BX10_goesOn_47 ⟨v1, vt, ?_⟩
              have F := fin 0 hd (by rw [← es]; exact s1)
              rw [cl (by omega), cl (by omega), hO.2.2 t (by omega), hO.2.2 (t + 1 + 0) (by omega)]
              exact ⟨fun _ => ⟨vt, v1, vt, v1, F⟩, fun z => absurd q z⟩
            | succ d ihd =>
              intro hd es
              have b3 := hO.2.1 (t + 1 + (d + 1)) (by omega)
              have s1 : swI o t (t + 1 + (d + 1)) = if ga o t ≤ ga o (t + 1 + (d + 1)) then t + 1 + (d + 1) else swI o t (t + 1 + d) := rfl
              have v1 : vp_in (nI (t + 1 + (d + 1))) 6 := nvin (by omega) (by omega)
              refine BX10_goesOn_47 ⟨v1, vt, ?_⟩
              rw [cl (by omega), cl (by omega), hO.2.2 t (by omega), hO.2.2 (t + 1 + (d + 1)) (by omega)]
              refine ⟨fun z => ⟨vt, v1, vt, v1, fin (d + 1) hd ?_⟩, fun z => ?_⟩
              · have := (nI_leI (by omega) (by omega)).mp z
                rw [← es, s1, if_pos this]
              · have : ¬ ga o t ≤ ga o (t + 1 + (d + 1)) := fun y => z (nI_le y (by omega))
                rw [if_neg this] at s1
                rw [show t + 1 + (d + 1) = t + 1 + d + 1 from rfl, pk_m1]
                exact ihd (by omega) (by rw [← s1]; exact es)
          have := J (k - (t + 1)) (Nat.le_refl _) (by rw [show t + 1 + (k - (t + 1)) = k by omega])
          rw [show t + 1 + (k - (t + 1)) = k by omega] at this
          exact this
        · have nle : ¬ ga o t ≤ ga o (t + 1) := fun y => q (nI_le y (by omega))
          rw [if_neg nle] at et
          rw [xk_add]
          exact ih (by omega) (by rw [← et]; exact e)
    exact L k (Nat.le_refl _) rfl
end OR
