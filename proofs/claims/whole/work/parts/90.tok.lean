/-! ===== tokens ===== -/
def isB (b : Nat) : Bool := b == 32
def isL (b : Nat) : Bool := decide (97 ≤ b ∧ b ≤ 122)
def isD (b : Nat) : Bool := decide (48 ≤ b ∧ b ≤ 57)
def runT (P : Nat → Bool) (by' : Nat → Nat) (len p : Nat) : Nat := p + lst (fun i => !P (by' (p + i))) (len - p)
theorem runT_ok {P : Nat → Bool} {by' : Nat → Nat} {len p : Nat} (h : p ≤ len) : p ≤ runT P by' len p ∧ runT P by' len p ≤ len ∧ (∀ i, p ≤ i → i < runT P by' len p → P (by' i) = true) ∧ (runT P by' len p < len → ¬ P (by' (runT P by' len p)) = true) := by
  obtain ⟨a1, a2, a3⟩ := lst_ok (fun i => !P (by' (p + i))) (len - p)
  unfold runT
  refine ⟨by omega, by omega, fun i h1 h2 => ?_, fun h1 => ?_⟩
  · have := a2 (i - p) (by omega)
    rw [show p + (i - p) = i by omega] at this
    simpa using this
  · have := a3 (by omega)
    simpa using this
theorem runT_lt {P : Nat → Bool} {by' : Nat → Nat} {len p : Nat} (h : p < len) (hp : P (by' p) = true) : p < runT P by' len p := by
  obtain ⟨a1, a2, a3, a4⟩ := runT_ok (P := P) (by' := by') (len := len) (p := p) (by omega)
  by_cases e : p = runT P by' len p
  · rw [← e] at a4; exact absurd hp (a4 h)
  · omega
theorem sBy_rng : ∀ b, b < 256 → ((97 ≤ (sBy b).toInt ∧ (sBy b).toInt ≤ 122) ↔ isL b = true) ∧ ((48 ≤ (sBy b).toInt ∧ (sBy b).toInt ≤ 57) ↔ isD b = true) := by decide +kernel
theorem sBy_dig : ∀ b, b < 256 → isD b = true → sBy b - 48 = nI (b - 48) := by decide +kernel
def eqB (by' : Nat → Nat) (st en i : Nat) : Bool := (en - st == s_len.getD i 0) && allB (fun x => by' (st + x) == sC i x) (s_len.getD i 0)
theorem eqB_iff {by' : Nat → Nat} {st en i : Nat} : eqB by' st en i = true ↔ eqW by' st en i := by
  unfold eqB eqW
  rw [Bool.and_eq_true, beq_iff_eq, allB_iff]
  constructor
  · rintro ⟨h1, h2⟩; exact ⟨h1, fun x hx => by simpa using h2 x hx⟩
  · rintro ⟨h1, h2⟩; exact ⟨h1, fun x hx => by simpa using h2 x hx⟩
/-- 0 to 4 a kind, 5 on, 6 none of these -/
def nameK (by' : Nat → Nat) (st en : Nat) : Nat := if eqB by' st en 0 = true then 5 else if lst (fun k => eqB by' st en (k + 1)) 5 < 5 then lst (fun k => eqB by' st en (k + 1)) 5 else 6
def numP (by' : Nat → Nat) (st : Nat) : Nat → Nat
  | 0 => 0
  | n + 1 => 10 * numP by' st n + (by' (st + n) - 48)
/-- a token: its sort (0 none, 1 the end, 2 a kind, 3 on, 4 a number, 5 a comma, 6 a semicolon), its value, where it begins, what is behind it -/
abbrev Tok : Type := Nat × Nat × Nat × Nat
def tokA (by' : Nat → Nat) (len st : Nat) : Tok :=
  if len ≤ st then (1, 0, st, st)
  else if isL (by' st) = true then (if nameK by' st (runT isL by' len st) < 5 then 2 else if nameK by' st (runT isL by' len st) = 5 then 3 else 0, nameK by' st (runT isL by' len st), st, runT isL by' len st)
  else if isD (by' st) = true then (if runT isD by' len st - st ≤ 2 then 4 else 0, numP by' st (runT isD by' len st - st), st, runT isD by' len st)
  else (if by' st = 44 then 5 else if by' st = 59 then 6 else 0, 0, st, st + 1)
def tok (by' : Nat → Nat) (len p : Nat) : Tok := tokA by' len (runT isB by' len p)
theorem tok_ok {by' : Nat → Nat} {len p : Nat} (h : p ≤ len) : p ≤ (tok by' len p).2.2.1 ∧ (tok by' len p).2.2.1 ≤ len ∧ (tok by' len p).2.2.2 ≤ len ∧ (tok by' len p).2.2.1 ≤ (tok by' len p).2.2.2 ∧ (¬ (tok by' len p).1 = 1 → (tok by' len p).2.2.1 < (tok by' len p).2.2.2) ∧ ((tok by' len p).1 = 1 → len ≤ (tok by' len p).2.2.1) ∧ (tok by' len p).1 < 7 ∧ ((tok by' len p).1 = 2 → (tok by' len p).2.1 < 5) ∧ ((tok by' len p).1 = 4 → (tok by' len p).2.1 < 100) := by
  obtain ⟨a1, a2, a3, a4⟩ := runT_ok (P := isB) (by' := by') (len := len) (p := p) h
  unfold tok tokA
  generalize runT isB by' len p = st at *
  by_cases e1 : len ≤ st
  · rw [if_pos e1]; exact ⟨a1, a2, a2, Nat.le_refl _, fun q => absurd rfl q, fun _ => e1, show (1 : Nat) < 7 from by decide, fun q => absurd (show (1 : Nat) = 2 from q) (by decide), fun q => absurd (show (1 : Nat) = 4 from q) (by decide)⟩
  · rw [if_neg e1]
    by_cases e2 : isL (by' st) = true
    · rw [if_pos e2]
      have r := runT_ok (P := isL) (by' := by') (len := len) (p := st) a2
      have rl := runT_lt (P := isL) (by' := by') (len := len) (p := st) (by omega) e2
      refine ⟨a1, a2, r.2.1, r.1, fun _ => rl, fun q => ?_, ?_, fun q => ?_, fun q => ?_⟩
      · dsimp only at q
        by_cases z : nameK by' st (runT isL by' len st) < 5
        · rw [if_pos z] at q; exact absurd q (by decide)
        · rw [if_neg z] at q
          by_cases z2 : nameK by' st (runT isL by' len st) = 5
          · rw [if_pos z2] at q; exact absurd q (by decide)
          · rw [if_neg z2] at q; exact absurd q (by decide)
      · dsimp only
        by_cases z : nameK by' st (runT isL by' len st) < 5
        · rw [if_pos z]; decide
        · rw [if_neg z]
          by_cases z2 : nameK by' st (runT isL by' len st) = 5
          · rw [if_pos z2]; decide
          · rw [if_neg z2]; decide
      · dsimp only at q ⊢
        by_cases z : nameK by' st (runT isL by' len st) < 5
        · exact z
        · rw [if_neg z] at q
          by_cases z2 : nameK by' st (runT isL by' len st) = 5
          · rw [if_pos z2] at q; exact absurd q (by decide)
          · rw [if_neg z2] at q; exact absurd q (by decide)
      · dsimp only at q
        by_cases z : nameK by' st (runT isL by' len st) < 5
        · rw [if_pos z] at q; exact absurd q (by decide)
        · rw [if_neg z] at q
          by_cases z2 : nameK by' st (runT isL by' len st) = 5
          · rw [if_pos z2] at q; exact absurd q (by decide)
          · rw [if_neg z2] at q; exact absurd q (by decide)
    · rw [if_neg e2]
      by_cases e3 : isD (by' st) = true
      · rw [if_pos e3]
        have r := runT_ok (P := isD) (by' := by') (len := len) (p := st) a2
        have rl := runT_lt (P := isD) (by' := by') (len := len) (p := st) (by omega) e3
        refine ⟨a1, a2, r.2.1, r.1, fun _ => rl, fun q => ?_, ?_, fun q => ?_, fun q => ?_⟩
        · dsimp only at q
          by_cases z : runT isD by' len st - st ≤ 2
          · rw [if_pos z] at q; exact absurd q (by decide)
          · rw [if_neg z] at q; exact absurd q (by decide)
        · dsimp only
          by_cases z : runT isD by' len st - st ≤ 2
          · rw [if_pos z]; decide
          · rw [if_neg z]; decide
        · dsimp only at q
          by_cases z : runT isD by' len st - st ≤ 2
          · rw [if_pos z] at q; exact absurd q (by decide)
          · rw [if_neg z] at q; exact absurd q (by decide)
        · dsimp only at q ⊢
          by_cases z : runT isD by' len st - st ≤ 2
          · have dg : ∀ x, st ≤ x → x < runT isD by' len st → by' x - 48 ≤ 9 := fun x h1 h2 => by
              have := r.2.2.1 x h1 h2
              unfold isD at this
              have := of_decide_eq_true this
              omega
            rcases (show runT isD by' len st - st = 1 ∨ runT isD by' len st - st = 2 by omega) with n1 | n1
            · rw [n1]
              have d0 := dg (st + 0) (by omega) (by omega)
              show 10 * 0 + (by' (st + 0) - 48) < 100
              omega
            · rw [n1]
              have d0 := dg (st + 0) (by omega) (by omega)
              have d1 := dg (st + 1) (by omega) (by omega)
              show 10 * (10 * 0 + (by' (st + 0) - 48)) + (by' (st + 1) - 48) < 100
              omega
          · rw [if_neg z] at q; exact absurd q (by decide)
      · rw [if_neg e3]
        refine ⟨a1, a2, by show st + 1 ≤ len; omega, by show st ≤ st + 1; omega, fun _ => Nat.lt_succ_self st, fun q => ?_, ?_, fun q => ?_, fun q => ?_⟩
        · dsimp only at q
          by_cases z : by' st = 44
          · rw [if_pos z] at q; exact absurd q (by decide)
          · rw [if_neg z] at q
            by_cases z2 : by' st = 59
            · rw [if_pos z2] at q; exact absurd q (by decide)
            · rw [if_neg z2] at q; exact absurd q (by decide)
        · dsimp only
          by_cases z : by' st = 44
          · rw [if_pos z]; decide
          · rw [if_neg z]
            by_cases z2 : by' st = 59
            · rw [if_pos z2]; decide
            · rw [if_neg z2]; decide
        · dsimp only at q
          by_cases z : by' st = 44
          · rw [if_pos z] at q; exact absurd q (by decide)
          · rw [if_neg z] at q
            by_cases z2 : by' st = 59
            · rw [if_pos z2] at q; exact absurd q (by decide)
            · rw [if_neg z2] at q; exact absurd q (by decide)
        · dsimp only at q
          by_cases z : by' st = 44
          · rw [if_pos z] at q; exact absurd q (by decide)
          · rw [if_neg z] at q
            by_cases z2 : by' st = 59
            · rw [if_pos z2] at q; exact absurd q (by decide)
            · rw [if_neg z2] at q; exact absurd q (by decide)
section TK
variable {N len : Nat} {by' : Nat → Nat} {σ : Sg} {Q : Option Value → Sg → Prop}
/-- the reader alone has moved -/
def T3 (σ σ' : Sg) : Prop := (∀ a, a ≠ 228 → ∀ j, σ'.1 a j = σ.1 a j) ∧ (∀ j, j ≠ 2 → j ≠ 3 → j ≠ 4 → σ'.1 228 j = σ.1 228 j) ∧ σ'.2 = σ.2
theorem T3.rf : T3 σ σ := ⟨fun _ _ _ => rfl, fun _ _ _ _ => rfl, rfl⟩
theorem T3.u {σ' : Sg} {j : Nat} {x : Int32} (h : T3 σ σ') (hj : j = 2 ∨ j = 3 ∨ j = 4) : T3 σ (u1 σ' 228 j x) := by
  refine ⟨fun a h1 b => ?_, fun b h1 h2 h3 => ?_, h.2.2⟩
  · rw [u1_cell (by omega)]; exact h.1 a h1 b
  · rw [u1_slot (by omega)]; exact h.2.1 b h1 h2 h3
theorem T3.tr {σ' σ'' : Sg} (h : T3 σ σ') (g : T3 σ' σ'') : T3 σ σ'' := ⟨fun a h1 j => (g.1 a h1 j).trans (h.1 a h1 j), fun j h1 h2 h3 => (g.2.1 j h1 h2 h3).trans (h.2.1 j h1 h2 h3), g.2.2.trans h.2.2⟩
/-- the tape, as the class holds it -/
def TP (by' : Nat → Nat) (len : Nat) (σ : Sg) : Prop := len ≤ 160 ∧ σ.1 228 1 = nI len ∧ ∀ i, i < len → by' i < 256 ∧ σ.1 229 i = sBy (by' i)
theorem TP.t {σ' : Sg} (h : TP by' len σ) (c : T3 σ σ') : TP by' len σ' := ⟨h.1, by rw [c.2.1 1 (by decide) (by decide) (by decide)]; exact h.2.1, fun i hi => by rw [c.1 229 (by decide)]; exact h.2.2 i hi⟩
theorem C_takeNumber {st : Nat} (hP : TP by' len σ) (h2 : σ.1 228 2 = nI st) (h3 : σ.1 228 3 = nI st) (hst : st < len) (hd : isD (by' st) = true) (h : ∀ σ', T3 σ σ' → σ'.1 228 2 = nI (runT isD by' len st) → σ'.1 228 3 = nI st → σ'.1 228 4 = nI (numP by' st (runT isD by' len st - st)) → Q (some (.int (nI (if runT isD by' len st - st ≤ 2 then 4 else 0)))) σ') : EvM (N + 1) mX6_takeNumber [.ref 228] σ Q := by
  have l160 := hP.1
  obtain ⟨a1, a2, a3, a4⟩ := runT_ok (P := isD) (by' := by') (len := len) (p := st) (by omega)
  have L : ∀ i, i ≤ runT isD by' len st → st ≤ i → ∀ σ', T3 σ σ' → σ'.1 228 2 = nI i → σ'.1 228 3 = nI st → σ'.1 228 4 = nI (numP by' st (i - st)) → KX6_takeNumber_5 N σ' Q := by
    refine for_up ?_ ?_
    · intro _ σ' c e2 e3 e4
      have hP' := hP.t c
      have E : (nI (runT isD by' len st) - nI st ≤ 2 → Q (some (.int 4)) σ') ∧ (¬ nI (runT isD by' len st) - nI st ≤ 2 → Q (some (.int 0)) σ') := by
        rw [pk_sub a1]
        have := h σ' c e2 e3 e4
        refine ⟨fun q => ?_, fun q => ?_⟩
        · rw [if_pos ((nI_leI (b := 2) (by omega) (by omega)).mp q)] at this; exact this
        · rw [if_neg (fun z => q (nI_le (b := 2) z (by omega)))] at this; exact this
      refine BX6_takeNumber_5 ⟨fun _ => by rw [e2, e3]; exact E, fun q => ?_⟩
      rw [hP'.2.1, e2] at q
      have lt : runT isD by' len st < len := by
        by_cases z : runT isD by' len st < len
        · exact z
        · exact absurd (nI_le (by omega) (by omega)) q
      obtain ⟨b1, b2'⟩ := hP'.2.2 _ lt
      rw [e2, cl (by omega), b2', (sBy_rng _ b1).2, e3]
      exact ⟨nvin (by omega) (by omega), fun z => absurd z (a4 lt), fun _ => E⟩
    · intro i hi ih hs σ' c e2 e3 e4
      have hP' := hP.t c
      obtain ⟨b1, b2'⟩ := hP'.2.2 i (by omega)
      have di := a3 i hs hi
      refine BX6_takeNumber_5 ⟨fun q => absurd q (by rw [hP'.2.1, e2]; exact nI_ge (by omega) (by omega)), fun _ => ?_⟩
      rw [e2, cl (by omega), b2', (sBy_rng _ b1).2, u1_slot (show 2 ≠ 4 by decide), e2, e4]
      refine ⟨nvin (by omega) (by omega), fun _ => ⟨nvin (by omega) (by omega), ?_⟩, fun z => absurd di z⟩
      rw [sBy_dig _ b1 di, show (10 : Int32) = nI 10 from rfl, pk_mul, nI_add, nI_1]
      refine ih (by omega) _ ((c.u (by omega)).u (by omega)) u1_same ?_ ?_
      · rw [u1_slot (by decide), u1_slot (by decide)]; exact e3
      · rw [u1_slot (by decide), u1_same, show i + 1 - st = i - st + 1 by omega]
        show _ = nI (10 * numP by' st (i - st) + (by' (st + (i - st)) - 48))
        rw [show st + (i - st) = i by omega, Nat.mul_comm]
  exact EX6_takeNumber (L st a1 (Nat.le_refl _) _ (T3.rf.u (by omega)) (by rw [u1_slot (by decide)]; exact h2) (by rw [u1_slot (by decide)]; exact h3) (by rw [u1_same, Nat.sub_self]; rfl))
theorem C_takeName {st : Nat} (hP : TP by' len σ) (h2 : σ.1 228 2 = nI st) (h3 : σ.1 228 3 = nI st) (hst : st < len) (hd : isL (by' st) = true) (h : ∀ σ', T3 σ σ' → σ'.1 228 2 = nI (runT isL by' len st) → σ'.1 228 3 = nI st → (nameK by' st (runT isL by' len st) < 5 → σ'.1 228 4 = nI (nameK by' st (runT isL by' len st))) → Q (some (.int (nI (if nameK by' st (runT isL by' len st) < 5 then 2 else if nameK by' st (runT isL by' len st) = 5 then 3 else 0)))) σ') : EvM (N + 9) mX6_takeName [.ref 228] σ Q := by
  have l160 := hP.1
  obtain ⟨a1, a2, a3, a4⟩ := runT_ok (P := isL) (by' := by') (len := len) (p := st) (by omega)
  have rl := runT_lt (P := isL) (by' := by') (len := len) (p := st) hst hd
  generalize hen : runT isL by' len st = en at *
  -- behind the letters
  have E : ∀ σ', T3 σ σ' → σ'.1 228 2 = nI en → σ'.1 228 3 = nI st → EvM (N + 8) mX6_reads [.ref 228, .ref (KC + 1)] σ' (fun r9 σ1 => ∃ v1, r9 = some (.int v1) ∧ ((v1 = 0 → KX6_takeName_52 N σ1 Q 0) ∧ (¬ v1 = 0 → Q (some (.int 3)) σ1))) := by
    intro σ' c e2 e3
    have hP' := hP.t c
    have hb : ∀ x, x < en → by' x < 256 ∧ σ'.1 229 x = sBy (by' x) := fun x hx => hP'.2.2 x (by omega)
    refine C_reads (N := N + 4) (i := 0) (by decide) e3 e2 a1 (by omega) hb (fun w => ⟨1, rfl, fun q => absurd q (by decide), fun _ => ?_⟩) (fun w => ⟨0, rfl, fun _ => ?_, fun q => absurd rfl q⟩)
    · have n5 : nameK by' st en = 5 := by unfold nameK; rw [if_pos (eqB_iff.mpr w)]
      have := h σ' c e2 e3 (fun q => absurd q (by rw [n5]; decide))
      rw [n5, if_neg (by decide), if_pos rfl] at this
      exact this
    · have w' : ¬ eqB by' st en 0 = true := fun q => w (eqB_iff.mp q)
      obtain ⟨l1, l2, l3⟩ := lst_ok (fun k => eqB by' st en (k + 1)) 5
      have L : ∀ k, k ≤ 5 → (∀ i, i < k → ¬ eqB by' st en (i + 1) = true) → KX6_takeName_52 N σ' Q (nI k) := by
        refine for_up ?_ ?_
        · intro a
          have l5 : ¬ lst (fun k => eqB by' st en (k + 1)) 5 < 5 := fun q => a _ q (l3 q)
          have n6 : nameK by' st en = 6 := by unfold nameK; rw [if_neg w', if_neg l5]
          refine BX6_takeName_52 ⟨fun _ => ?_, fun q => absurd (by decide) q⟩
          have := h σ' c e2 e3 (fun q => absurd q (by rw [n6]; decide))
          rw [n6, if_neg (by decide), if_neg (by decide)] at this
          exact this
        · intro k hk ih a
          refine BX6_takeName_52 ⟨fun q => absurd q (nI_ge (b := 5) hk (by decide)), fun _ => ?_⟩
          refine C_kindName hk ⟨_, rfl, ?_⟩
          rw [show KC + 2 + k = KC + 1 + (k + 1) by omega]
          refine C_reads (N := N + 4) (i := k + 1) (by omega) e3 e2 a1 (by omega) hb (fun w2 => ⟨1, rfl, fun q => absurd q (by decide), fun _ => ?_⟩) (fun w2 => ⟨0, rfl, fun _ => ?_, fun q => absurd rfl q⟩)
          · have lk : lst (fun k => eqB by' st en (k + 1)) 5 = k := by
              rcases Nat.lt_trichotomy (lst (fun k => eqB by' st en (k + 1)) 5) k with z | z | z
              · exact absurd (l3 (by omega)) (a _ z)
              · exact z
              · have := l2 k z
                exact absurd (eqB_iff.mpr w2) (by simpa using this)
            have nk : nameK by' st en = k := by unfold nameK; rw [if_neg w', lk, if_pos hk]
            have := h (u1 σ' 228 4 (nI k)) (c.u (by omega)) (by rw [u1_slot (by decide)]; exact e2) (by rw [u1_slot (by decide)]; exact e3) (fun _ => by rw [nk]; exact u1_same)
            rw [nk, if_pos hk] at this
            exact this
          · rw [nI_1]
            refine ih fun i hi => ?_
            by_cases z : i = k
            · subst z; exact fun q => w2 (eqB_iff.mp q)
            · exact a i (by omega)
      exact L 0 (by decide) (fun i hi => absurd hi (by omega))
  have L : ∀ i, i ≤ en → st ≤ i → ∀ σ', T3 σ σ' → σ'.1 228 2 = nI i → σ'.1 228 3 = nI st → KX6_takeName_0 N σ' Q := by
    refine for_up ?_ ?_
    · intro _ σ' c e2 e3
      have hP' := hP.t c
      refine BX6_takeName_0 ⟨fun _ => E σ' c e2 e3, fun q => ?_⟩
      rw [hP'.2.1, e2] at q
      have lt : en < len := by
        by_cases z : en < len
        · exact z
        · exact absurd (nI_le (by omega) (by omega)) q
      obtain ⟨b1, b2'⟩ := hP'.2.2 _ lt
      rw [e2, cl (by omega), b2', (sBy_rng _ b1).1]
      exact ⟨nvin (by omega) (by omega), fun z => absurd z (a4 lt), fun _ => E σ' c e2 e3⟩
    · intro i hi ih hs σ' c e2 e3
      have hP' := hP.t c
      obtain ⟨b1, b2'⟩ := hP'.2.2 i (by omega)
      have di := a3 i hs hi
      refine BX6_takeName_0 ⟨fun q => absurd q (by rw [hP'.2.1, e2]; exact nI_ge (by omega) (by omega)), fun _ => ?_⟩
      rw [e2, cl (by omega), b2', (sBy_rng _ b1).1]
      refine ⟨nvin (by omega) (by omega), fun _ => ?_, fun z => absurd di z⟩
      rw [nI_1]
      refine ih (by omega) _ (c.u (by omega)) u1_same ?_
      rw [u1_slot (by decide)]; exact e3
  have b0 := hP.2.2 st hst
  refine EX6_takeName ⟨fun q => absurd q (by rw [hP.2.1, h2]; exact nI_ge hst (by omega)), fun _ => ?_⟩
  rw [h2, cl (by omega), b0.2, (sBy_rng _ b0.1).1, nI_1]
  exact ⟨nvin (by omega) (by omega), fun _ => L (st + 1) rl (by omega) _ (T3.rf.u (by omega)) u1_same (by rw [u1_slot (by decide)]; exact h3), fun z => absurd hd z⟩
theorem sBy_pun : ∀ b, b < 256 → (sBy b = 32 ↔ isB b = true) ∧ (sBy b = 44 ↔ b = 44) ∧ (sBy b = 59 ↔ b = 59) := by decide +kernel
theorem C_nextToken {p : Nat} (hP : TP by' len σ) (h2 : σ.1 228 2 = nI p) (hp : p ≤ len) (h : ∀ σ', T3 σ σ' → σ'.1 228 2 = nI (tok by' len p).2.2.2 → σ'.1 228 3 = nI (tok by' len p).2.2.1 → ((tok by' len p).1 = 2 ∨ (tok by' len p).1 = 4 → σ'.1 228 4 = nI (tok by' len p).2.1) → Q (some (.int (nI (tok by' len p).1))) σ') : EvM (N + 10) mX6_nextToken [.ref 228] σ Q := by
  have l160 := hP.1
  obtain ⟨a1, a2, a3, a4⟩ := runT_ok (P := isB) (by' := by') (len := len) (p := p) hp
  unfold tok at h
  generalize hst : runT isB by' len p = st at *
  -- behind the blanks
  have E : ∀ σ', T3 σ σ' → σ'.1 228 2 = nI st → (((u1 σ' 228 3 (σ'.1 228 2)).1 228 2) < ((u1 σ' 228 3 (σ'.1 228 2)).1 228 1) → vp_in ((u1 σ' 228 3 (σ'.1 228 2)).1 228 2) 160 ∧ (((97 ≤ ((u1 σ' 228 3 (σ'.1 228 2)).1 229 ((u1 σ' 228 3 (σ'.1 228 2)).1 228 2).toNatClampNeg).toInt ∧ ((u1 σ' 228 3 (σ'.1 228 2)).1 229 ((u1 σ' 228 3 (σ'.1 228 2)).1 228 2).toNatClampNeg).toInt ≤ 122) → EvM (N + 9) mX6_takeName [.ref 228] (u1 σ' 228 3 (σ'.1 228 2)) (fun r9 σ1 => ∃ v1, r9 = some (.int v1) ∧ (Q (some (.int v1)) σ1))) ∧ (¬ (97 ≤ ((u1 σ' 228 3 (σ'.1 228 2)).1 229 ((u1 σ' 228 3 (σ'.1 228 2)).1 228 2).toNatClampNeg).toInt ∧ ((u1 σ' 228 3 (σ'.1 228 2)).1 229 ((u1 σ' 228 3 (σ'.1 228 2)).1 228 2).toNatClampNeg).toInt ≤ 122) → ((48 ≤ ((u1 σ' 228 3 (σ'.1 228 2)).1 229 ((u1 σ' 228 3 (σ'.1 228 2)).1 228 2).toNatClampNeg).toInt ∧ ((u1 σ' 228 3 (σ'.1 228 2)).1 229 ((u1 σ' 228 3 (σ'.1 228 2)).1 228 2).toNatClampNeg).toInt ≤ 57) → EvM (N + 9) mX6_takeNumber [.ref 228] (u1 σ' 228 3 (σ'.1 228 2)) (fun r9 σ2 => ∃ v2, r9 = some (.int v2) ∧ (Q (some (.int v2)) σ2))) ∧ (¬ (48 ≤ ((u1 σ' 228 3 (σ'.1 228 2)).1 229 ((u1 σ' 228 3 (σ'.1 228 2)).1 228 2).toNatClampNeg).toInt ∧ ((u1 σ' 228 3 (σ'.1 228 2)).1 229 ((u1 σ' 228 3 (σ'.1 228 2)).1 228 2).toNatClampNeg).toInt ≤ 57) → (((u1 σ' 228 3 (σ'.1 228 2)).1 229 ((u1 σ' 228 3 (σ'.1 228 2)).1 228 2).toNatClampNeg) = 44 → Q (some (.int 5)) (u1 (u1 σ' 228 3 (σ'.1 228 2)) 228 2 (((u1 σ' 228 3 (σ'.1 228 2)).1 228 2) + 1))) ∧ (¬ ((u1 σ' 228 3 (σ'.1 228 2)).1 229 ((u1 σ' 228 3 (σ'.1 228 2)).1 228 2).toNatClampNeg) = 44 → (((u1 σ' 228 3 (σ'.1 228 2)).1 229 ((u1 σ' 228 3 (σ'.1 228 2)).1 228 2).toNatClampNeg) = 59 → Q (some (.int 6)) (u1 (u1 σ' 228 3 (σ'.1 228 2)) 228 2 (((u1 σ' 228 3 (σ'.1 228 2)).1 228 2) + 1))) ∧ (¬ ((u1 σ' 228 3 (σ'.1 228 2)).1 229 ((u1 σ' 228 3 (σ'.1 228 2)).1 228 2).toNatClampNeg) = 59 → Q (some (.int 0)) (u1 (u1 σ' 228 3 (σ'.1 228 2)) 228 2 (((u1 σ' 228 3 (σ'.1 228 2)).1 228 2) + 1)))))))) ∧ (¬ ((u1 σ' 228 3 (σ'.1 228 2)).1 228 2) < ((u1 σ' 228 3 (σ'.1 228 2)).1 228 1) → Q (some (.int 1)) (u1 σ' 228 3 (σ'.1 228 2))) := by
    intro σ' c e2
    rw [e2]
    have c' : T3 σ (u1 σ' 228 3 (nI st)) := c.u (by omega)
    have e2' : (u1 σ' 228 3 (nI st)).1 228 2 = nI st := by rw [u1_slot (by decide)]; exact e2
    have e3' : (u1 σ' 228 3 (nI st)).1 228 3 = nI st := u1_same
    have hP' := hP.t c'
    rw [e2', hP'.2.1]
    generalize u1 σ' 228 3 (nI st) = τ at *
    unfold tokA at h
    refine ⟨fun q => ?_, fun q => ?_⟩
    · have lt : st < len := nI_ltI (by omega) (by omega) |>.mp q
      obtain ⟨b1, b2'⟩ := hP'.2.2 st lt
      rw [cl (by omega), b2', (sBy_rng _ b1).1, (sBy_rng _ b1).2, (sBy_pun _ b1).2.1, (sBy_pun _ b1).2.2, nI_1]
      rw [if_neg (show ¬ len ≤ st by omega)] at h
      refine ⟨nvin (by omega) (by omega), fun k => ?_, fun k => ⟨fun d => ?_, fun d => ?_⟩⟩
      · rw [if_pos k] at h
        refine C_takeName hP' e2' e3' lt k fun σ1 g f2 f3 f4 => ⟨_, rfl, h σ1 (c'.tr g) f2 f3 fun w => ?_⟩
        dsimp only at w ⊢
        refine f4 ?_
        by_cases z : nameK by' st (runT isL by' len st) < 5
        · exact z
        · rw [if_neg z] at w
          by_cases z2 : nameK by' st (runT isL by' len st) = 5
          · rw [if_pos z2] at w; exact absurd w (by decide)
          · rw [if_neg z2] at w; exact absurd w (by decide)
      · rw [if_neg k, if_pos d] at h
        exact C_takeNumber (N := N + 8) hP' e2' e3' lt d fun σ1 g f2 f3 f4 => ⟨_, rfl, h σ1 (c'.tr g) f2 f3 fun _ => f4⟩
      · rw [if_neg k, if_neg d] at h
        have := h (u1 τ 228 2 (nI (st + 1))) (c'.u (by omega)) u1_same (by rw [u1_slot (by decide)]; exact e3')
        dsimp only at this
        refine ⟨fun z => ?_, fun z => ⟨fun y => ?_, fun y => ?_⟩⟩
        · rw [if_pos z] at this; exact this (fun w => absurd w (by decide))
        · rw [if_neg z, if_pos y] at this; exact this (fun w => absurd w (by decide))
        · rw [if_neg z, if_neg y] at this; exact this (fun w => absurd w (by decide))
    · have ge : len ≤ st := by
        by_cases z : len ≤ st
        · exact z
        · exact absurd (nI_lt (by omega) (by omega)) q
      rw [if_pos ge] at h
      exact h τ c' e2' e3' (fun w => by
        rcases w with w | w
        · exact absurd (show (1 : Nat) = 2 from w) (by decide)
        · exact absurd (show (1 : Nat) = 4 from w) (by decide))
  have L : ∀ i, i ≤ st → p ≤ i → ∀ σ', T3 σ σ' → σ'.1 228 2 = nI i → KX6_nextToken_0 N σ' Q := by
    refine for_up ?_ ?_
    · intro _ σ' c e2
      have hP' := hP.t c
      refine BX6_nextToken_0 ⟨fun _ => E σ' c e2, fun q => ?_⟩
      rw [hP'.2.1, e2] at q
      have lt : st < len := by
        by_cases z : st < len
        · exact z
        · exact absurd (nI_le (by omega) (by omega)) q
      obtain ⟨b1, b2'⟩ := hP'.2.2 _ lt
      refine ⟨by rw [e2]; exact nvin (by omega) (by omega), fun z => ?_, fun _ => E σ' c e2⟩
      rw [e2, cl (by omega), b2', (sBy_pun _ b1).1] at z
      exact absurd z (a4 lt)
    · intro i hi ih hs σ' c e2
      have hP' := hP.t c
      obtain ⟨b1, b2'⟩ := hP'.2.2 i (by omega)
      have di := a3 i hs hi
      refine BX6_nextToken_0 ⟨fun q => absurd q (by rw [hP'.2.1, e2]; exact nI_ge (by omega) (by omega)), fun _ => ⟨by rw [e2]; exact nvin (by omega) (by omega), fun _ => ?_, fun z => ?_⟩⟩
      · rw [e2, nI_1]
        exact ih (by omega) _ (c.u (by omega)) u1_same
      · rw [e2, cl (by omega), b2', (sBy_pun _ b1).1] at z
        exact absurd di z
  exact ev_entry rfl (Nat.le_of_ble_eq_true rfl) (lv := [(0, .ref 228)]) rfl (L p a1 (Nat.le_refl _) σ T3.rf h2)
end TK
