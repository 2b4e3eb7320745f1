/-! ===== the signs of a table ===== -/
theorem lst_cg {p q : Nat → Bool} : ∀ n, (∀ i, i < n → p i = q i) → lst p n = lst q n := by
  intro n
  induction n with
  | zero => intro _; rfl
  | succ n ih =>
    intro h
    unfold lst
    rw [ih (fun i hi => h i (by omega)), h n (by omega)]
def posL (l : List Nat) (s : Nat) : Nat := lst (fun i => l.getD i 0 == s) l.length
/-- a sign's place in a list, or -4 -/
def plc (l : List Nat) (s : Nat) : Int32 := if posL l s < l.length then nI (posL l s) else -4
theorem plc_nil {s : Nat} : plc [] s = -4 := if_neg (Nat.not_lt_zero _)
theorem plc_lt {l : List Nat} {s : Nat} (h : ¬ plc l s = -4) : ∃ i, i < l.length ∧ plc l s = nI i ∧ l.getD i 0 = s := by
  unfold plc at h ⊢
  by_cases e : posL l s < l.length
  · rw [if_pos e]
    refine ⟨_, e, rfl, ?_⟩
    exact beq_iff_eq.mp ((lst_ok (fun i => l.getD i 0 == s) l.length).2.2 e)
  · rw [if_neg e] at h; exact absurd rfl h
theorem plc_add {l : List Nat} {x s : Nat} (hl : l.length < 2147483648) (h : plc l x = -4) : plc (l ++ [x]) s = if s = x then nI l.length else plc l s := by
  have len : (l ++ [x]).length = l.length + 1 := by rw [List.length_append]; rfl
  have cg : lst (fun i => (l ++ [x]).getD i 0 == s) l.length = posL l s := lst_cg _ (fun i hi => by rw [gd_l hi])
  have px : posL (l ++ [x]) s = if posL l s < l.length then posL l s else if (x == s) = true then l.length else l.length + 1 := by
    show lst (fun i => (l ++ [x]).getD i 0 == s) (l ++ [x]).length = _
    rw [len]
    unfold lst
    rw [cg, gd_r]
  unfold plc at h ⊢
  rw [px, len]
  have nx : ¬ posL l x < l.length := fun z => by rw [if_pos z] at h; exact absurd h (n4 (by omega))
  by_cases e : s = x
  · subst e
    rw [if_neg nx, show (if (s == s) = true then l.length else l.length + 1) = l.length from if_pos (by simp), if_pos (Nat.lt_succ_self _), if_pos rfl]
  · rw [if_neg e]
    by_cases z : posL l s < l.length
    · rw [if_pos z, if_pos z, if_pos (by omega)]
    · rw [if_neg z, if_neg z, show (if (x == s) = true then l.length else l.length + 1) = l.length + 1 from if_neg (by simpa using fun y : x = s => e y.symm), if_neg (Nat.lt_irrefl _)]
theorem grt_ok2 (m : Nat → Nat) : ∀ s, ((grt m s).1 = -4 ∧ (grt m s).2 = 0) ∨ ∃ k, k < s ∧ (grt m s).1 = nI k ∧ (grt m s).2 = m k ∧ 0 < m k := by
  intro s
  induction s with
  | zero => exact Or.inl ⟨rfl, rfl⟩
  | succ s ih =>
    rw [grt_s]
    by_cases e : (grt m s).2 < m s
    · rw [if_pos e]; exact Or.inr ⟨s, Nat.lt_succ_self s, rfl, rfl, by omega⟩
    · rw [if_neg e]
      rcases ih with h | ⟨k, hk, h⟩
      · exact Or.inl h
      · exact Or.inr ⟨k, by omega, h⟩
theorem grt_ext {m : Nat → Nat} {n : Nat} : ∀ d, (∀ s, n ≤ s → s < n + d → m s = 0) → grt m (n + d) = grt m n := by
  intro d
  induction d with
  | zero => intro _; rfl
  | succ d ih =>
    intro h
    show grt m (n + d + 1) = _
    rw [grt_s, h (n + d) (by omega) (by omega), if_neg (Nat.not_lt_zero _)]
    exact ih (fun s h1 h2 => h s h1 (by omega))
def mm (T : Nat → Nat) (l : List Nat) (s : Nat) : Nat := if plc l s = -4 then T s else 0
/-- the most frequent ones, k at most -/
def tbl (T : Nat → Nat) : Nat → List Nat
  | 0 => []
  | k + 1 => if (grt (mm T (tbl T k)) 24).2 = 0 then tbl T k else tbl T k ++ [(grt (mm T (tbl T k)) 24).1.toNatClampNeg]
theorem tbl_stop {T : Nat → Nat} {k : Nat} (h : (grt (mm T (tbl T k)) 24).2 = 0) : ∀ d, tbl T (k + d) = tbl T k := by
  intro d
  induction d with
  | zero => rfl
  | succ d ih =>
    show (if (grt (mm T (tbl T (k + d))) 24).2 = 0 then tbl T (k + d) else _) = _
    rw [ih, if_pos h]
theorem tbl_len {T : Nat → Nat} : ∀ k, (tbl T k).length ≤ k := by
  intro k
  induction k with
  | zero => exact Nat.le_refl _
  | succ k ih =>
    unfold tbl
    by_cases e : (grt (mm T (tbl T k)) 24).2 = 0
    · rw [if_pos e]; omega
    · rw [if_neg e, List.length_append]; show _ + 1 ≤ _; omega
theorem tbl_mem {T : Nat → Nat} : ∀ k i, i < (tbl T k).length → (tbl T k).getD i 0 < 24 ∧ 0 < T ((tbl T k).getD i 0) := by
  intro k
  induction k with
  | zero => intro i hi; exact absurd hi (Nat.not_lt_zero i)
  | succ k ih =>
    unfold tbl
    by_cases e : (grt (mm T (tbl T k)) 24).2 = 0
    · rw [if_pos e]; exact ih
    · rw [if_neg e]
      intro i hi
      rw [List.length_append] at hi
      have hi2 : i < (tbl T k).length + 1 := hi
      by_cases z : i = (tbl T k).length
      · rw [z, gd_r]
        rcases grt_ok2 (mm T (tbl T k)) 24 with h | ⟨x, hx, h1, h2, h3⟩
        · exact absurd h.2 e
        · rw [h1, cl (by omega)]
          refine ⟨hx, ?_⟩
          unfold mm at h3
          by_cases y : plc (tbl T k) x = -4
          · rw [if_pos y] at h3; exact h3
          · rw [if_neg y] at h3; exact absurd h3 (Nat.lt_irrefl _)
      · rw [gd_l (by omega)]; exact ih i (by omega)
section TB
variable {N nF lk nT : Nat} {ft : Nat → Nat} {tl : Nat → Nat} {tc : Nat → Nat → Int32} {σ : Sg} {Q : Option Value → Sg → Prop}
def tT (ft : Nat → Nat) (nF lk : Nat) (tl : Nat → Nat) (tc : Nat → Nat → Int32) (nT s : Nat) : Nat := tX ft nF lk tl tc nT (nI s)
theorem cnt_pos {p : Nat → Bool} : ∀ n, 0 < cnt p n → ∃ i, i < n ∧ p i = true := by
  intro n
  induction n with
  | zero => intro h; exact absurd h (Nat.lt_irrefl _)
  | succ n ih =>
    intro h
    rw [cnt_s] at h
    by_cases e : p n = true
    · exact ⟨n, Nat.lt_succ_self n, e⟩
    · rw [if_neg e] at h
      obtain ⟨i, hi, q⟩ := ih h
      exact ⟨i, by omega, q⟩
theorem sumN_pos {f : Nat → Nat} : ∀ n, 0 < sumN f n → ∃ i, i < n ∧ 0 < f i := by
  intro n
  induction n with
  | zero => intro h; exact absurd h (Nat.lt_irrefl _)
  | succ n ih =>
    intro h
    rw [sumN_s] at h
    by_cases e : 0 < f n
    · exact ⟨n, Nat.lt_succ_self n, e⟩
    · obtain ⟨i, hi, q⟩ := ih (by omega)
      exact ⟨i, by omega, q⟩
theorem tT_sign (hF : RF nF lk ft σ) (hT : RT nF nT tl tc σ) {s : Nat} (hs : s < 24) (h : 0 < tT ft nF lk tl tc nT s) : s < nF ∧ rep ft nF lk s = s := by
  obtain ⟨t, ht, h1⟩ := sumN_pos nT h
  obtain ⟨c, hc, h2⟩ := cnt_pos _ h1
  have n24 := hF.1
  have e : sgv ft nF lk (tc t c) = nI s := by simpa using h2
  have nm : ∀ k : Nat, k < 24 → ¬ nI k = -1 ∧ ¬ nI k = -2 := by decide
  rcases sgv_ok (ft := ft) (lk := lk) ((hT.2.2.2.1 t ht).2.2.2.2 c hc).1 n24 with ⟨a, _⟩ | ⟨a, _⟩ | ⟨f, s', _, _, _, s4, s5, s6⟩
  · rw [a] at e
    exact absurd e.symm (nm s hs).1
  · rw [a] at e
    exact absurd e.symm (nm s hs).2
  · rw [s6] at e
    have := (nI_eq (by omega) (by omega)).mp e
    rw [← this]; exact ⟨s4, s5⟩
theorem tT_le (hT : RT nF nT tl tc σ) {s : Nat} : tT ft nF lk tl tc nT s ≤ 192 := by
  have := sumN_le (f := fun t => cX ft nF lk tc t (nI s) (tl t)) (B := 24) nT (fun t ht => Nat.le_trans (cnt_le _ _) (hT.2.2.2.1 t ht).2.1)
  have := hT.1
  unfold tT tX
  omega
/-- the class's table -/
def TC (l : List Nat) (σ : Sg) : Prop := σ.1 122 4 = nI l.length ∧ (∀ i, i < l.length → σ.1 124 i = nI (l.getD i 0)) ∧ ∀ s, s < 24 → σ.1 126 s = plc l s
theorem C_most {T : Nat → Nat} {l : List Nat} (hT : ∀ s, T s ≤ 192) (h6 : ∀ s, s < 24 → σ.1 126 s = plc l s) (h5 : ∀ s, s < 24 → σ.1 125 s = nI (T s)) (h : Q (some (.int (grt (mm T l) 24).1)) σ) : EvM N mX8_mostFrequentLeft [.ref 122] σ Q := by
  have mb : ∀ s, mm T l s ≤ 192 := fun s => by
    unfold mm
    by_cases e : plc l s = -4
    · rw [if_pos e]; exact hT s
    · rw [if_neg e]; omega
  have L : ∀ i, i ≤ 24 → KX8_mostFrequentLeft_7 N σ Q (grt (mm T l) i).1 (nI (grt (mm T l) i).2) (nI i) := by
    refine for_up ?_ ?_
    · exact BX8_mostFrequentLeft_7 ⟨fun _ => h, fun q => absurd (show (24 : Int32) ≤ nI 24 by decide) q⟩
    · intro i hi ih
      have gl := grt_le (mm T l) 192 mb i
      have ti := hT i
      refine BX8_mostFrequentLeft_7 ⟨fun q => absurd q (nI_ge (b := 24) hi (by omega)), fun _ => ⟨nvin (by omega) (by omega), ?_⟩⟩
      rw [cl (by omega), h6 i hi, h5 i hi, nI_1]
      rw [grt_s] at ih
      refine ⟨fun q => ⟨nvin (by omega) (by omega), fun q2 => ⟨nvin (by omega) (by omega), ?_⟩, fun q2 => ?_⟩, fun q => ?_⟩
      · have := (nI_ltI (by omega) (by omega)).mp q2
        rw [show mm T l i = T i from if_pos q, if_pos this] at ih
        exact ih
      · have : ¬ (grt (mm T l) i).2 < T i := fun z => q2 (nI_lt z (by omega))
        rw [show mm T l i = T i from if_pos q, if_neg this] at ih
        exact ih
      · rw [show mm T l i = 0 from if_neg q, if_neg (Nat.not_lt_zero _)] at ih
        exact ih
  exact EX8_mostFrequentLeft (L 0 (by omega))
def T4 (σ σ' : Sg) : Prop := (∀ a, a ≠ 122 → a ≠ 124 → a ≠ 125 → a ≠ 126 → ∀ j, σ'.1 a j = σ.1 a j) ∧ (∀ j, j ≠ 4 → σ'.1 122 j = σ.1 122 j) ∧ σ'.2 = σ.2
theorem T4.rf : T4 σ σ := ⟨fun _ _ _ _ _ _ => rfl, fun _ _ => rfl, rfl⟩
theorem T4.u {σ' : Sg} {k j : Nat} {x : Int32} (h : T4 σ σ') (hk : (k = 122 ∧ j = 4) ∨ k = 124 ∨ k = 125 ∨ k = 126) : T4 σ (u1 σ' k j x) := by
  refine ⟨fun a h1 h2 h3 h4 b => ?_, fun b hb => ?_, h.2.2⟩
  · rw [u1_cell (by omega)]; exact h.1 a h1 h2 h3 h4 b
  · rw [u1_other (by omega)]; exact h.2.1 b hb
theorem T4.chg {σ' : Sg} (h : T4 σ σ') : Chg [0] σ σ' := by
  refine ⟨fun a j e => ?_, fun a j _ => by rw [h.2.2]⟩
  by_cases z : a = 122
  · subst z
    refine h.2.1 j (fun y => e ?_)
    subst y; exact List.mem_cons_self
  · refine h.1 a z (fun y => e ?_) (fun y => e ?_) (fun y => e ?_) j <;> (subst y; exact List.mem_cons_self)
theorem C_rank (hF : RF nF lk ft σ) (hT : RT nF nT tl tc σ) (h : ∀ σ', T4 σ σ' → TC (tbl (tT ft nF lk tl tc nT) 6) σ' → Q none σ') : EvM (N + 4) mX8_rank [.ref 122] σ Q := by
  have tle : ∀ s, tT ft nF lk tl tc nT s ≤ 192 := fun s => tT_le hT
  have B : ∀ i, i ≤ 6 → ∀ σ', T4 σ σ' → (tbl (tT ft nF lk tl tc nT) i).length = i → TC (tbl (tT ft nF lk tl tc nT) i) σ' → (∀ s, s < 24 → σ'.1 125 s = nI (tT ft nF lk tl tc nT s)) → KX8_rank_43 N σ' Q (nI i) := by
    refine for_up ?_ ?_
    · intro σ' c hl e e5
      exact BX8_rank_43 ⟨fun _ => h σ' c e, fun q => absurd (show (6 : Int32) ≤ nI 6 by decide) q⟩
    · intro i hi ih σ' c hl e e5
      refine BX8_rank_43 ⟨fun q => absurd q (nI_ge (b := 6) hi (by omega)), fun _ => C_most tle e.2.2 e5 ⟨_, rfl, ?_⟩⟩
      have un : tbl (tT ft nF lk tl tc nT) (i + 1) = if (grt (mm (tT ft nF lk tl tc nT) (tbl (tT ft nF lk tl tc nT) i)) 24).2 = 0 then tbl (tT ft nF lk tl tc nT) i else tbl (tT ft nF lk tl tc nT) i ++ [(grt (mm (tT ft nF lk tl tc nT) (tbl (tT ft nF lk tl tc nT) i)) 24).1.toNatClampNeg] := rfl
      rcases grt_ok2 (mm (tT ft nF lk tl tc nT) (tbl (tT ft nF lk tl tc nT) i)) 24 with ⟨h1, h2⟩ | ⟨x, hx, h1, h2, h3⟩
      · rw [h1]
        refine ⟨fun _ => h σ' c ?_, fun q => absurd (by decide) q⟩
        have st := tbl_stop h2 (6 - i)
        rw [show i + (6 - i) = 6 by omega] at st
        rw [st]; exact e
      · have px : plc (tbl (tT ft nF lk tl tc nT) i) x = -4 := by
          unfold mm at h3
          by_cases y : plc (tbl (tT ft nF lk tl tc nT) i) x = -4
          · exact y
          · rw [if_neg y] at h3; exact absurd h3 (Nat.lt_irrefl _)
        rw [if_neg (by omega), h1, cl (by omega)] at un
        rw [un] at ih
        rw [h1, cl (by omega), cl (by omega), nI_1]
        refine ⟨fun q => absurd q (nI_pos (by omega)), fun _ => ⟨fun _ => ⟨nvin (by omega) (by omega), nvin (by omega) (by omega), ih _ (((c.u (by omega)).u (by omega)).u (by omega)) ?_ ⟨?_, fun j hj => ?_, fun s hs => ?_⟩ (fun s hs => ?_)⟩, fun q => absurd (nI_lt (b := 24) hx (by omega)) q⟩⟩
        · rw [List.length_append]; show _ + 1 = _; omega
        · rw [u1_same, u1_cell (by decide), u1_cell (by decide), e.1, nI_1, List.length_append]; rfl
        · rw [List.length_append] at hj
          have hj2 : j < (tbl (tT ft nF lk tl tc nT) i).length + 1 := hj
          rw [u1_cell (by decide)]
          by_cases z : j = i
          · rw [z, u1_same]
            have k := gd_r (l := tbl (tT ft nF lk tl tc nT) i) (x := x)
            rw [hl] at k
            rw [k]
          · rw [u1_slot z, u1_cell (by decide), gd_l (by omega)]; exact e.2.1 j (by omega)
        · rw [u1_cell (by decide), u1_cell (by decide), plc_add (by omega) px, hl]
          by_cases z : s = x
          · rw [z, u1_same, if_pos rfl]
          · rw [u1_slot z, if_neg z]; exact e.2.2 s hs
        · rw [u1_cell (by decide), u1_cell (by decide), u1_cell (by decide)]; exact e5 s hs
  have A : ∀ i, i ≤ 24 → ∀ σ', T4 σ σ' → σ'.1 122 4 = 0 → (∀ s, s < i → σ'.1 126 s = -4 ∧ σ'.1 125 s = nI (tT ft nF lk tl tc nT s)) → KX8_rank_7 N σ' Q (nI i) := by
    refine for_up ?_ ?_
    · intro σ' c e0 e
      exact BX8_rank_7 ⟨fun _ => B 0 (by omega) σ' c rfl ⟨e0, fun i hi => absurd hi (Nat.not_lt_zero i), fun s hs => by rw [(e s hs).1]; exact plc_nil.symm⟩ (fun s hs => (e s hs).2), fun q => absurd (show (24 : Int32) ≤ nI 24 by decide) q⟩
    · intro i hi ih σ' c e0 e
      have c2 : T4 σ (u1 σ' 126 i (-4)) := c.u (by omega)
      refine BX8_rank_7 ⟨fun q => absurd q (nI_ge (b := 24) hi (by omega)), fun _ => ⟨nvin (by omega) (by omega), ?_⟩⟩
      rw [cl (by omega), nI_1]
      refine C_timesOf (hF.fr (c2.chg.sm (by decide))) (hT.fr (c2.chg.sm (by decide))) ⟨_, rfl, nvin (by omega) (by omega), ih _ (c2.u (by omega)) ?_ (fun s hs => ?_)⟩
      · rw [u1_cell (by decide), u1_cell (by decide)]; exact e0
      · by_cases z : s = i
        · rw [z, u1_cell (by decide), u1_same, u1_same]; exact ⟨rfl, rfl⟩
        · rw [u1_cell (by decide), u1_slot z, u1_slot z, u1_cell (by decide)]; exact e s (by omega)
  exact EX8_rank (A 0 (by omega) _ (T4.rf.u (by omega)) u1_same (fun s hs => absurd hs (Nat.not_lt_zero s)))
/-- the reference's table -/
def TM (l : List Nat) (σ : Sg) : Prop := σ.1 245 33 = nI l.length ∧ (∀ i, i < l.length → σ.1 270 i = nI (l.getD i 0)) ∧ ∀ s, s < 24 → σ.1 271 s = plc l s
def M4 (σ σ' : Sg) : Prop := (∀ a, a ≠ 245 → a ≠ 270 → a ≠ 271 → ∀ j, σ'.1 a j = σ.1 a j) ∧ (∀ j, j ≠ 33 → σ'.1 245 j = σ.1 245 j) ∧ σ'.2 = σ.2
theorem M4.rf : M4 σ σ := ⟨fun _ _ _ _ _ => rfl, fun _ _ => rfl, rfl⟩
theorem M4.u {σ' : Sg} {k j : Nat} {x : Int32} (h : M4 σ σ') (hk : (k = 245 ∧ j = 33) ∨ k = 270 ∨ k = 271) : M4 σ (u1 σ' k j x) := by
  refine ⟨fun a h1 h2 h3 b => ?_, fun b hb => ?_, h.2.2⟩
  · rw [u1_cell (by omega)]; exact h.1 a h1 h2 h3 b
  · rw [u1_other (by omega)]; exact h.2.1 b hb
theorem M4.chg {σ' : Sg} (h : M4 σ σ') : Chg [0] σ σ' := by
  refine ⟨fun a j e => ?_, fun a j _ => by rw [h.2.2]⟩
  by_cases z : a = 245
  · subst z
    refine h.2.1 j (fun y => e ?_)
    subst y; exact List.mem_cons_self
  · refine h.1 a z (fun y => e ?_) (fun y => e ?_) j <;> (subst y; exact List.mem_cons_self)
theorem M_findTable (hF : RF nF lk ft σ) (hT : RT nF nT tl tc σ) (h : ∀ σ', Chg [0] σ σ' → SG nF lk ft σ' → WS (wL tl tc nT) σ' → TM (tbl (tT ft nF lk tl tc nT) 6) σ' → Q none σ') : EvM (N + 3) mX10_findTable [.ref 245] σ Q := by
  have tle : ∀ s, tT ft nF lk tl tc nT s ≤ 192 := fun s => tT_le hT
  have n24 := hF.1
  refine EX10_findTable (M_findWords hF hT (fun σ1 c1 hG hW => ⟨rfl, ?_⟩))
  have fr : ∀ σ', M4 σ1 σ' → Chg [0] σ σ' ∧ RF nF lk ft σ' ∧ RT nF nT tl tc σ' ∧ SG nF lk ft σ' ∧ WS (wL tl tc nT) σ' := fun σ' m => by
    have c := c1.tr m.chg
    refine ⟨c, hF.fr (c.sm (by decide)), hT.fr (c.sm (by decide)), fun x hx => by rw [m.1 247 (by decide) (by decide) (by decide)]; exact hG x hx, by rw [m.2.1 7 (by decide)]; exact hW.1, fun w hw => ?_⟩
    rw [m.1 250 (by decide) (by decide) (by decide), m.1 251 (by decide) (by decide) (by decide), m.1 252 (by decide) (by decide) (by decide), m.1 253 (by decide) (by decide) (by decide)]
    exact hW.2 w hw
  have stop : ∀ σ', M4 σ1 σ' → TM (tbl (tT ft nF lk tl tc nT) 6) σ' → KX10_findTable_33 N σ' Q 0 := fun σ' m e =>
    BX10_findTable_33 ⟨fun _ => h σ' (fr σ' m).1 (fr σ' m).2.2.2.1 (fr σ' m).2.2.2.2 e, fun q => absurd rfl q⟩
  have B : ∀ i, i ≤ 6 → ∀ σ', M4 σ1 σ' → (tbl (tT ft nF lk tl tc nT) i).length = i → TM (tbl (tT ft nF lk tl tc nT) i) σ' → KX10_findTable_33 N σ' Q 1 := by
    refine for_up ?_ ?_
    · intro σ' m hl e
      refine BX10_findTable_33 ⟨fun q => absurd q (by decide), fun _ => ⟨fun _ => h σ' (fr σ' m).1 (fr σ' m).2.2.2.1 (fr σ' m).2.2.2.2 e, fun q => absurd ?_ q⟩⟩
      rw [e.1, hl]; decide
    · intro i hi ih σ' m hl e
      obtain ⟨cc, hF', hT', hG', hW'⟩ := fr σ' m
      refine BX10_findTable_33 ⟨fun q => absurd q (by decide), fun _ => ⟨fun q => absurd q (by rw [e.1, hl]; exact nI_ge (b := 6) hi (by omega)), fun _ => ?_⟩⟩
      have un : tbl (tT ft nF lk tl tc nT) (i + 1) = if (grt (mm (tT ft nF lk tl tc nT) (tbl (tT ft nF lk tl tc nT) i)) 24).2 = 0 then tbl (tT ft nF lk tl tc nT) i else tbl (tT ft nF lk tl tc nT) i ++ [(grt (mm (tT ft nF lk tl tc nT) (tbl (tT ft nF lk tl tc nT) i)) 24).1.toNatClampNeg] := rfl
      have gF : grt (mm (tT ft nF lk tl tc nT) (tbl (tT ft nF lk tl tc nT) i)) 24 = grt (mm (tT ft nF lk tl tc nT) (tbl (tT ft nF lk tl tc nT) i)) nF := by
        have := grt_ext (m := mm (tT ft nF lk tl tc nT) (tbl (tT ft nF lk tl tc nT) i)) (n := nF) (24 - nF) (fun s h1 h2 => by
          unfold mm
          by_cases y : plc (tbl (tT ft nF lk tl tc nT) i) s = -4
          · rw [if_pos y]
            by_cases z : 0 < tT ft nF lk tl tc nT s
            · have := (tT_sign hF hT (by omega) z).1; omega
            · omega
          · rw [if_neg y])
        rw [show nF + (24 - nF) = 24 by omega] at this
        exact this
      have mb : ∀ s, mm (tT ft nF lk tl tc nT) (tbl (tT ft nF lk tl tc nT) i) s ≤ 192 := fun s => by
        unfold mm
        by_cases y : plc (tbl (tT ft nF lk tl tc nT) i) s = -4
        · rw [if_pos y]; exact tle s
        · rw [if_neg y]; omega
      have J : ∀ s, s ≤ nF → KX10_findTable_51 N σ' Q (grt (mm (tT ft nF lk tl tc nT) (tbl (tT ft nF lk tl tc nT) i)) s).1 (nI s) := by
        refine for_up ?_ ?_
        · refine BX10_findTable_51 ⟨fun _ => ?_, fun q => absurd (by rw [hF'.2.2.2.2.1]; exact nI_le (Nat.le_refl _) (by omega)) q⟩
          rw [← gF]
          rcases grt_ok2 (mm (tT ft nF lk tl tc nT) (tbl (tT ft nF lk tl tc nT) i)) 24 with ⟨h1, h2⟩ | ⟨x, hx, h1, h2, h3⟩
          · rw [h1]
            refine ⟨fun _ => stop σ' m ?_, fun q => absurd rfl q⟩
            have st := tbl_stop h2 (6 - i)
            rw [show i + (6 - i) = 6 by omega] at st
            rw [st]; exact e
          · have px : plc (tbl (tT ft nF lk tl tc nT) i) x = -4 := by
              unfold mm at h3
              by_cases y : plc (tbl (tT ft nF lk tl tc nT) i) x = -4
              · exact y
              · rw [if_neg y] at h3; exact absurd h3 (Nat.lt_irrefl _)
            rw [if_neg (by omega), h1, cl (by omega)] at un
            rw [un] at ih
            have k1 : ∀ (y z : Int32) (j : Nat), (u1 σ' 270 j y).1 245 33 = nI i := fun y z j => by rw [u1_cell (by decide), e.1, hl]
            have e33 : σ'.1 245 33 = nI i := by rw [e.1, hl]
            rw [h1, e33, cl (by omega), cl (by omega), u1_cell (show 245 ≠ 270 by decide), e33, u1_cell (show 245 ≠ 271 by decide), u1_cell (show 245 ≠ 270 by decide), e33, nI_1]
            refine ⟨fun q => absurd q (n4 (by omega)), fun _ => ⟨nvin (by omega) (by omega), nvin (by omega) (by omega), ih _ (((m.u (by omega)).u (by omega)).u (by omega)) ?_ ⟨?_, fun j hj => ?_, fun s hs => ?_⟩⟩⟩
            · rw [List.length_append]; show _ + 1 = _; omega
            · rw [u1_same, List.length_append, hl]; rfl
            · rw [List.length_append] at hj
              have hj2 : j < (tbl (tT ft nF lk tl tc nT) i).length + 1 := hj
              rw [u1_cell (by decide), u1_cell (by decide)]
              by_cases z : j = i
              · rw [z, u1_same]
                have k := gd_r (l := tbl (tT ft nF lk tl tc nT) i) (x := x)
                rw [hl] at k
                rw [k]
              · rw [u1_slot z, gd_l (by omega)]; exact e.2.1 j (by omega)
            · rw [u1_cell (by decide), plc_add (by omega) px, hl]
              by_cases z : s = x
              · rw [z, u1_same, if_pos rfl]
              · rw [u1_slot z, if_neg z, u1_cell (by decide)]; exact e.2.2 s hs
        · intro s hs ihs
          have gl := grt_le (mm (tT ft nF lk tl tc nT) (tbl (tT ft nF lk tl tc nT) i)) 192 mb s
          have rs := rep_le (ft := ft) (nF := nF) (lk := lk) (x := s)
          have ts := tle s
          rw [grt_s] at ihs
          refine BX10_findTable_51 ⟨fun q => absurd q (by rw [hF'.2.2.2.2.1]; exact nI_ge hs (by omega)), fun _ => ⟨nvin (by omega) (by omega), ?_⟩⟩
          rw [cl (by omega), hG' s hs, e.2.2 s (by omega), nI_1]
          have no : mm (tT ft nF lk tl tc nT) (tbl (tT ft nF lk tl tc nT) i) s = 0 → KX10_findTable_51 N σ' Q (grt (mm (tT ft nF lk tl tc nT) (tbl (tT ft nF lk tl tc nT) i)) s).1 (nI (s + 1)) := fun z => by
            rw [z, if_neg (Nat.not_lt_zero _)] at ihs; exact ihs
          refine ⟨fun q => ⟨nvin (by omega) (by omega), fun q2 => M_countOf hF' hT' hG' ⟨_, rfl, fun q3 => ?_, fun q3 => ?_⟩, fun q2 => no (if_neg q2)⟩, fun q => no ?_⟩
          · have : tT ft nF lk tl tc nT s ≤ 0 := (nI_leI (b := 0) (by show tT ft nF lk tl tc nT s < _; omega) (by omega)).mp q3
            refine no ?_
            unfold mm
            rw [if_pos q2]; omega
          · have t0 : 0 < tT ft nF lk tl tc nT s := by
              by_cases z : 0 < tT ft nF lk tl tc nT s
              · exact z
              · exact absurd (nI_le (a := tT ft nF lk tl tc nT s) (b := 0) (by omega) (by omega)) q3
            have ms : mm (tT ft nF lk tl tc nT) (tbl (tT ft nF lk tl tc nT) i) s = tT ft nF lk tl tc nT s := if_pos q2
            rw [ms] at ihs
            rcases grt_ok2 (mm (tT ft nF lk tl tc nT) (tbl (tT ft nF lk tl tc nT) i)) s with ⟨h1, h2⟩ | ⟨x, hx, h1, h2, h3⟩
            · rw [h1]
              rw [if_pos (by omega)] at ihs
              exact ⟨fun _ => ihs, fun y => absurd rfl y⟩
            · have mx : mm (tT ft nF lk tl tc nT) (tbl (tT ft nF lk tl tc nT) i) x = tT ft nF lk tl tc nT x := by
                unfold mm at h3 ⊢
                by_cases y : plc (tbl (tT ft nF lk tl tc nT) i) x = -4
                · rw [if_pos y]
                · rw [if_neg y] at h3; exact absurd h3 (Nat.lt_irrefl _)
              have tx := tle x
              refine ⟨fun y => absurd y (by rw [h1]; exact n4 (by omega)), fun _ => M_countOf hF' hT' hG' ⟨_, rfl, ?_⟩⟩
              rw [h1]
              refine M_countOf hF' hT' hG' ⟨_, rfl, fun y => ?_, fun y => ?_⟩
              · have le : tT ft nF lk tl tc nT s ≤ tT ft nF lk tl tc nT x := (nI_leI (by show tT ft nF lk tl tc nT s < _; omega) (by show tT ft nF lk tl tc nT x < _; omega)).mp y
                rw [if_neg (by omega), h1] at ihs
                exact ihs
              · have gt : ¬ tT ft nF lk tl tc nT s ≤ tT ft nF lk tl tc nT x := fun z => y (nI_le (a := tT ft nF lk tl tc nT s) (b := tT ft nF lk tl tc nT x) z (by omega))
                rw [if_pos (by omega)] at ihs
                exact ihs
          · unfold mm
            by_cases y : plc (tbl (tT ft nF lk tl tc nT) i) s = -4
            · rw [if_pos y]
              by_cases z : 0 < tT ft nF lk tl tc nT s
              · exact absurd (by rw [(tT_sign hF hT (by omega) z).2]) q
              · omega
            · rw [if_neg y]
      exact J 0 (by omega)
  have A : ∀ i, i ≤ 24 → ∀ σ', M4 σ1 σ' → σ'.1 245 33 = 0 → (∀ s, s < i → σ'.1 271 s = -4) → KX10_findTable_11 N σ' Q (nI i) := by
    refine for_up ?_ ?_
    · intro σ' m e0 e
      exact BX10_findTable_11 ⟨fun _ => B 0 (by omega) σ' m rfl ⟨e0, fun i hi => absurd hi (Nat.not_lt_zero i), fun s hs => by rw [e s hs]; exact plc_nil.symm⟩, fun q => absurd (show (24 : Int32) ≤ nI 24 by decide) q⟩
    · intro i hi ih σ' m e0 e
      refine BX10_findTable_11 ⟨fun q => absurd q (nI_ge (b := 24) hi (by omega)), fun _ => ⟨nvin (by omega) (by omega), ?_⟩⟩
      rw [cl (by omega), nI_1]
      refine ih _ (m.u (by omega)) (by rw [u1_cell (by decide)]; exact e0) (fun s hs => ?_)
      by_cases z : s = i
      · rw [z, u1_same]
      · rw [u1_slot z]; exact e s (by omega)
  exact A 0 (by omega) _ (M4.rf.u (by omega)) u1_same (fun s hs => absurd hs (Nat.not_lt_zero s))
end TB
theorem O_tabled {σ : Sg} (hR : Rel σ) (a : Int32) : OPi mX9_tabled mX10_tabled [.int a] σ := by
  obtain ⟨nF, lk, ft, nT, tl, tc, hF, hT⟩ := hR.1
  have e6 : (6 : Int32).toInt = 6 := rfl
  have e0 : (0 : Int32).toInt = 0 := rfl
  have bad : ¬ (0 ≤ a.toInt ∧ a.toInt ≤ 5) → ∃ v, some (Value.int (-1)) = some (.int v) ∧ ∃ v2, some (Value.int v) = some (.int v2) ∧ EvM 40 mX10_tabled [.ref 245, .int a] σ (fun r2 σ2 => r2 = some (.int v2) ∧ Rel σ2) := fun hb =>
    ⟨_, rfl, _, rfl, EX10_tabled ⟨fun z => absurd (by rw [i_l] at z; exact z) hb, fun _ => ⟨rfl, hR⟩⟩⟩
  refine EX9_tabled (EX8_signAt ⟨fun q => bad (fun z => ?_), fun q => ⟨fun q2 => ?_, fun q2 => bad (fun z => ?_)⟩⟩)
  · rw [i_lt, e0] at q; omega
  · rw [i_lt, e0] at q
    rw [i_lt, e6] at q2
    obtain ⟨i, hi, rfl⟩ : ∃ i : Nat, i < 6 ∧ a = nI i := ⟨a.toInt.toNat, by omega, i_of (by omega) (by omega)⟩
    refine C_rank hF hT (fun σ1 c1 t1 => ⟨rfl, ?_⟩)
    have l6 := tbl_len (T := tT ft nF lk tl tc nT) 6
    have cc := c1.chg
    have M : ∀ v : Int32, (i < (tbl (tT ft nF lk tl tc nT) 6).length → v = nI ((tbl (tT ft nF lk tl tc nT) 6).getD i 0)) → (¬ i < (tbl (tT ft nF lk tl tc nT) 6).length → v = -4) → ∃ v1, some (Value.int v) = some (.int v1) ∧ ∃ v2, some (Value.int v1) = some (.int v2) ∧ EvM 40 mX10_tabled [.ref 245, .int (nI i)] σ1 (fun r2 σ2 => r2 = some (.int v2) ∧ Rel σ2) := by
      intro v k1 k2
      refine ⟨_, rfl, _, rfl, EX10_tabled ⟨fun _ => M_findTable (hF.fr (cc.sm (by decide))) (hT.fr (cc.sm (by decide))) (fun σ2 c2 g2 w2 t2 => ⟨rfl, ?_⟩), fun z => absurd (by rw [i_l, i_nI (by omega)]; omega) z⟩⟩
      rw [t2.1]
      refine ⟨fun y => ?_, fun y => ⟨nvin (by omega) (by omega), ?_⟩⟩
      · have := (nI_leI (by omega) (by omega)).mp y
        exact ⟨by rw [k2 (by omega)], hR.q (cc.tr c2)⟩
      · have lt : i < (tbl (tT ft nF lk tl tc nT) 6).length := by
          by_cases z : i < (tbl (tT ft nF lk tl tc nT) 6).length
          · exact z
          · exact absurd (nI_le (by omega) (by omega)) y
        rw [cl (by omega), t2.2.1 i lt]
        exact ⟨by rw [k1 lt], hR.q (cc.tr c2)⟩
    rw [t1.1]
    refine ⟨fun y => ?_, fun y => ⟨nvin (by omega) (by omega), ?_⟩⟩
    · have := (nI_leI (by omega) (by omega)).mp y
      exact M _ (fun z => absurd z (by omega)) (fun _ => rfl)
    · have lt : i < (tbl (tT ft nF lk tl tc nT) 6).length := by
        by_cases z : i < (tbl (tT ft nF lk tl tc nT) 6).length
        · exact z
        · exact absurd (nI_le (by omega) (by omega)) y
      rw [cl (by omega), t1.2.1 i lt]
      exact M _ (fun _ => rfl) (fun z => absurd lt z)
  · rw [i_lt, e6] at q2; omega
