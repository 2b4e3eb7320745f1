/-! ===== words that a table can sound ===== -/
theorem li0' : (0 : Int32).toInt = 0 := rfl
theorem shl2 {a : Nat} (h : a < 536870912) : nI a <<< ((2 : Int32) &&& 31) = nI (4 * a) := by
  rw [pk_shlN (2 &&& 31) 2 (by decide) (by omega), Nat.mul_comm]
theorem or4 {a b : Nat} (hb : b < 4) : 4 * a ||| b = 4 * a + b := by
  rw [show 4 * a = 2 ^ 2 * a from rfl, ← Nat.two_pow_add_eq_or_of_lt hb a]
def rdL (p : Nat → Bool) : Nat → List Nat
  | 0 => []
  | n + 1 => if p n = true then rdL p n ++ [n] else rdL p n
theorem rdL_len {p : Nat → Bool} : ∀ n, (rdL p n).length ≤ n ∧ ∀ i, i < (rdL p n).length → (rdL p n).getD i 0 < n ∧ p ((rdL p n).getD i 0) = true := by
  intro n
  induction n with
  | zero => exact ⟨Nat.le_refl _, fun i hi => absurd hi (Nat.not_lt_zero i)⟩
  | succ n ih =>
    obtain ⟨i1, i2⟩ := ih
    unfold rdL
    by_cases e : p n = true
    · rw [if_pos e]
      refine ⟨by rw [List.length_append]; show _ + 1 ≤ _; omega, fun i hi => ?_⟩
      rw [List.length_append] at hi
      have hi2 : i < (rdL p n).length + 1 := hi
      by_cases z : i = (rdL p n).length
      · rw [z, gd_r]; exact ⟨Nat.lt_succ_self n, e⟩
      · rw [gd_l (by omega)]
        obtain ⟨a, b⟩ := i2 i (by omega)
        exact ⟨by omega, b⟩
    · rw [if_neg e]
      refine ⟨by omega, fun i hi => ?_⟩
      obtain ⟨a, b⟩ := i2 i hi
      exact ⟨by omega, b⟩
/-- a cell's place in the table, or -4 -/
def plS (l : List Nat) (v : Int32) : Int32 := if 0 ≤ v then plc l v.toNatClampNeg else -4
theorem plS_nI {l : List Nat} {s : Nat} (hs : s < 2147483648) : plS l (nI s) = plc l s := by
  unfold plS
  rw [if_pos (nI_pos' (by omega)), cl hs]
theorem plS_lt {l : List Nat} {v : Int32} (h : ¬ plS l v = -4) : ∃ i, i < l.length ∧ plS l v = nI i := by
  unfold plS at h ⊢
  by_cases e : 0 ≤ v
  · rw [if_pos e] at h ⊢
    obtain ⟨i, hi, h1, _⟩ := plc_lt h
    exact ⟨i, hi, h1⟩
  · rw [if_neg e] at h; exact absurd rfl h
def iW (nW : Nat) (wn ws : Nat → Nat) (n s : Nat) : Bool := !allB (fun w => !(wn w == n && ws w == s)) nW
theorem iW_iff {nW : Nat} {wn ws : Nat → Nat} {n s : Nat} : iW nW wn ws n s = true ↔ ∃ w, w < nW ∧ wn w = n ∧ ws w = s := by
  have h : iW nW wn ws n s = true ↔ ¬ allB (fun w => !(wn w == n && ws w == s)) nW = true := by
    unfold iW
    cases allB (fun w => !(wn w == n && ws w == s)) nW <;> simp
  rw [h, allB_not]
  constructor
  · rintro ⟨u, hu, e⟩
    simp only [Bool.not_eq_false', Bool.and_eq_true, beq_iff_eq] at e
    exact ⟨u, hu, e⟩
  · rintro ⟨u, hu, e⟩
    refine ⟨u, hu, ?_⟩
    simp only [Bool.not_eq_false', Bool.and_eq_true, beq_iff_eq]
    exact e
section RD
variable (ft : Nat → Nat) (nF lk : Nat) (tl : Nat → Nat) (tc : Nat → Nat → Int32) (nT : Nat) (l : List Nat)
def rdw (B w : Nat) : Bool := decide ((wAt (wL tl tc nT) w).2.2.1 ≤ 6) && B.testBit (wAt (wL tl tc nT) w).1 && allB (fun i => !(plS l (wS ft nF lk tc (wAt (wL tl tc nT) w) i) == -4)) (wAt (wL tl tc nT) w).2.2.1
def pN (w i : Nat) : Nat := (plS l (wS ft nF lk tc (wAt (wL tl tc nT) w) i)).toNatClampNeg
def pkW (sd : Nat → Nat) (w : Nat) : Nat → Nat
  | 0 => 0
  | i + 1 => 4 * pkW sd w i + sd (pN ft nF lk tl tc nT l w i)
def octW (w : Nat) : Nat → Nat
  | 0 => 0
  | i + 1 => 8 * octW w i + pN ft nF lk tl tc nT l w i
/-- how many are read with these sounds -/
def rdC (nW : Nat) (wn ws : Nat → Nat) (rl : List Nat) (sd : Nat → Nat) : Nat := cnt (fun r => iW nW wn ws (wAt (wL tl tc nT) (rl.getD r 0)).2.2.1 (pkW ft nF lk tl tc nT l sd (rl.getD r 0) (wAt (wL tl tc nT) (rl.getD r 0)).2.2.1)) rl.length
variable {ft nF lk tl tc nT l}
variable {N nW : Nat} {wn ws : Nat → Nat} {σ : Sg} {Q : Option Value → Sg → Prop} {rl : List Nat}
theorem rdw_ok {B w : Nat} : rdw ft nF lk tl tc nT l B w = true ↔ (wAt (wL tl tc nT) w).2.2.1 ≤ 6 ∧ B.testBit (wAt (wL tl tc nT) w).1 = true ∧ ∀ i, i < (wAt (wL tl tc nT) w).2.2.1 → ¬ plS l (wS ft nF lk tc (wAt (wL tl tc nT) w) i) = -4 := by
  unfold rdw
  rw [Bool.and_eq_true, Bool.and_eq_true, decide_eq_true_iff, allB_iff]
  constructor
  · rintro ⟨⟨h1, h2⟩, h3⟩
    exact ⟨h1, h2, fun i hi => by simpa using h3 i hi⟩
  · rintro ⟨h1, h2, h3⟩
    exact ⟨⟨h1, h2⟩, fun i hi => by simpa using h3 i hi⟩
theorem pN_ok {w i : Nat} (hl : l.length ≤ 6) (h : ¬ plS l (wS ft nF lk tc (wAt (wL tl tc nT) w) i) = -4) : pN ft nF lk tl tc nT l w i < l.length ∧ plS l (wS ft nF lk tc (wAt (wL tl tc nT) w) i) = nI (pN ft nF lk tl tc nT l w i) := by
  obtain ⟨k, hk, e⟩ := plS_lt h
  unfold pN
  rw [e, cl (by omega)]
  exact ⟨hk, rfl⟩
theorem pkW_lt {sd : Nat → Nat} {w : Nat} (hs : ∀ p, sd p < 4) : ∀ i, pkW ft nF lk tl tc nT l sd w i < 4 ^ i := by
  intro i
  induction i with
  | zero => exact Nat.one_pos
  | succ i ih => unfold pkW; rw [Nat.pow_succ]; have := hs (pN ft nF lk tl tc nT l w i); omega
/-- the class's rows -/
def RWc (ft : Nat → Nat) (nF lk : Nat) (tl : Nat → Nat) (tc : Nat → Nat → Int32) (nT : Nat) (l rl : List Nat) (σ : Sg) : Prop := σ.1 122 9 = nI rl.length ∧ ∀ r, r < rl.length → σ.1 224 r = nI (wAt (wL tl tc nT) (rl.getD r 0)).2.2.1 ∧ ∀ i, i < (wAt (wL tl tc nT) (rl.getD r 0)).2.2.1 → σ.1 (128 + r) i = nI (pN ft nF lk tl tc nT l (rl.getD r 0) i)
def Ck (σ σ' : Sg) : Prop := (∀ a, a ≠ 122 → (a < 128 ∨ 224 < a) → ∀ j, σ'.1 a j = σ.1 a j) ∧ (∀ j, j ≠ 9 → σ'.1 122 j = σ.1 122 j) ∧ σ'.2 = σ.2
theorem Ck.rf : Ck σ σ := ⟨fun _ _ _ _ => rfl, fun _ _ => rfl, rfl⟩
theorem Ck.u {σ' : Sg} {k j : Nat} {x : Int32} (h : Ck σ σ') (hk : (k = 122 ∧ j = 9) ∨ (128 ≤ k ∧ k ≤ 224)) : Ck σ (u1 σ' k j x) := by
  refine ⟨fun a h1 h2 b => ?_, fun b hb => ?_, h.2.2⟩
  · rw [u1_cell (by omega)]; exact h.1 a h1 h2 b
  · rw [u1_other (by omega)]; exact h.2.1 b hb
theorem Ck.tr {σ' σ'' : Sg} (h : Ck σ σ') (g : Ck σ' σ'') : Ck σ σ'' := ⟨fun a h1 h2 j => (g.1 a h1 h2 j).trans (h.1 a h1 h2 j), fun j hj => (g.2.1 j hj).trans (h.2.1 j hj), g.2.2.trans h.2.2⟩
theorem Ck.chg {σ' : Sg} (h : Ck σ σ') : Chg [0] σ σ' := by
  refine ⟨fun a j e => ?_, fun a j _ => by rw [h.2.2]⟩
  by_cases z : a = 122
  · subst z
    refine h.2.1 j (fun y => e ?_)
    subst y; exact List.mem_cons_self
  · refine h.1 a z ?_ j
    by_cases z2 : 128 ≤ a ∧ a ≤ 224
    · exfalso; apply e
      by_cases z3 : a = 224
      · subst z3; exact List.mem_cons_self
      · obtain ⟨i, rfl⟩ : ∃ i, a = 128 + i := ⟨a - 128, by omega⟩
        rw [modr_128 (by omega)]; exact List.mem_cons_self
    · omega
theorem C_placeOf (h6 : ∀ s, s < 24 → σ.1 126 s = plc l s) {v : Int32} (hv : v < 0 ∨ ∃ s, s < 24 ∧ v = nI s) (h : Q (some (.int (plS l v))) σ) : EvM N mX8_placeOf [.ref 122, .int v] σ Q := by
  rcases hv with q | ⟨s, hs, rfl⟩
  · refine EX8_placeOf ⟨fun _ => ?_, fun z => absurd q z⟩
    unfold plS at h
    rw [if_neg (by rw [i_lt, li0'] at q; rw [i_le, li0']; omega)] at h
    exact h
  · refine EX8_placeOf ⟨fun z => absurd z (nI_pos (by omega)), fun _ => ⟨fun z => absurd z (nI_ge (b := 24) hs (by omega)), fun _ => ⟨nvin (by omega) (by omega), ?_⟩⟩⟩
    rw [cl (by omega), h6 s hs]
    rw [plS_nI (by omega)] at h
    exact h
theorem wS_form (hF : RF nF lk ft σ) (hT : RT nF nT tl tc σ) {w i : Nat} (hw : w < (wL tl tc nT).length) (hi : i < (wAt (wL tl tc nT) w).2.2.1) : wS ft nF lk tc (wAt (wL tl tc nT) w) i < 0 ∨ ∃ s, s < 24 ∧ wS ft nF lk tc (wAt (wL tl tc nT) w) i = nI s := by
  obtain ⟨⟨k1, k2, k3, k4, k5⟩, hl, h24⟩ := hT.wok hw
  have n24 := hF.1
  rcases sgv_ok (ft := ft) (lk := lk) (((hT.2.2.2.1 _ k1).2.2.2.2 _ (show (wAt (wL tl tc nT) w).2.1 + i < tl (wAt (wL tl tc nT) w).1 by omega)).1) hF.1 with ⟨a, _⟩ | ⟨a, _⟩ | ⟨f, s, _, _, _, s4, s5, s6⟩
  · left; unfold wS; rw [a]; decide
  · left; unfold wS; rw [a]; decide
  · right; exact ⟨s, by omega, s6⟩
theorem C_collectWord (hF : RF nF lk ft σ) (hT : RT nF nT tl tc σ) (hl : l.length ≤ 6) (h6 : ∀ s, s < 24 → σ.1 126 s = plc l s) (hr : rl.length < 96) (hW : RWc ft nF lk tl tc nT l rl σ) {w : Nat} (hw : w < (wL tl tc nT).length)
    (hy : ((wAt (wL tl tc nT) w).2.2.1 ≤ 6 ∧ ∀ i, i < (wAt (wL tl tc nT) w).2.2.1 → ¬ plS l (wS ft nF lk tc (wAt (wL tl tc nT) w) i) = -4) → ∀ σ', Ck σ σ' → RWc ft nF lk tl tc nT l (rl ++ [w]) σ' → Q none σ')
    (hn : ¬ ((wAt (wL tl tc nT) w).2.2.1 ≤ 6 ∧ ∀ i, i < (wAt (wL tl tc nT) w).2.2.1 → ¬ plS l (wS ft nF lk tc (wAt (wL tl tc nT) w) i) = -4) → ∀ σ', Ck σ σ' → RWc ft nF lk tl tc nT l rl σ' → Q none σ') : EvM (N + 3) mX8_collectWord [.ref 122, .int (nI w)] σ Q := by
  obtain ⟨⟨k1, k2, k3, k4, k5⟩, hl9, h24⟩ := hT.wok hw
  have fr : ∀ σ', Ck σ σ' → RF nF lk ft σ' ∧ RT nF nT tl tc σ' ∧ (∀ s, s < 24 → σ'.1 126 s = plc l s) := fun σ' c => ⟨hF.fr (c.chg.sm (by decide)), hT.fr (c.chg.sm (by decide)), fun s hs => by rw [c.1 126 (by decide) (by decide)]; exact h6 s hs⟩
  refine EX8_collectWord (C_lengthOfWord hT hw ⟨_, rfl, fun q => ?_, fun q => ⟨fun _ => ?_, fun z => absurd (by rw [hW.1]; exact nI_lt (b := 96) hr (by omega)) z⟩⟩)
  · have := (nI_ltI (a := 6) (by omega) (by omega)).mp q
    exact hn (fun z => by omega) σ Ck.rf hW
  · have l6 : (wAt (wL tl tc nT) w).2.2.1 ≤ 6 := by
      by_cases z : (wAt (wL tl tc nT) w).2.2.1 ≤ 6
      · exact z
      · exact absurd (nI_lt (a := 6) (by omega) (by omega)) q
    have L : ∀ i, i ≤ (wAt (wL tl tc nT) w).2.2.1 → ∀ σ', Ck σ σ' → RWc ft nF lk tl tc nT l rl σ' → (∀ j, j < i → ¬ plS l (wS ft nF lk tc (wAt (wL tl tc nT) w) j) = -4 ∧ σ'.1 (128 + rl.length) j = nI (pN ft nF lk tl tc nT l w j)) → KX8_collectWord_27 N σ' Q (nI w) (nI (wAt (wL tl tc nT) w).2.2.1) (nI i) := by
      refine for_up ?_ ?_
      · intro σ' c hW' e
        refine BX8_collectWord_27 ⟨fun _ => ?_, fun z => absurd (nI_le (Nat.le_refl _) (by omega)) z⟩
        rw [hW'.1, cl (by omega), u1_cell (show 122 ≠ 224 by decide), hW'.1, nI_1]
        refine ⟨nvin hr (by omega), hy ⟨l6, fun j hj => (e j hj).1⟩ _ ((c.u (by omega)).u (by omega)) ⟨by rw [u1_same, List.length_append]; rfl, fun r hr0 => ?_⟩⟩
        rw [List.length_append] at hr0
        have hr2 : r < rl.length + 1 := hr0
        rw [u1_cell (by decide)]
        by_cases z : r = rl.length
        · rw [z, u1_same, gd_r]
          exact ⟨rfl, fun i hi => by rw [u1_cell (by omega), u1_cell (by omega)]; exact (e i hi).2⟩
        · rw [u1_slot z, gd_l (by omega)]
          exact ⟨(hW'.2 r (by omega)).1, fun i hi => by rw [u1_cell (by omega), u1_cell (by omega)]; exact (hW'.2 r (by omega)).2 i hi⟩
      · intro i hi ih σ' c hW' e
        obtain ⟨hF', hT', h6'⟩ := fr σ' c
        refine BX8_collectWord_27 ⟨fun z => absurd z (nI_ge hi (by omega)), fun _ => C_signOfWord hF' hT' hw hi ⟨_, rfl, C_placeOf h6' (wS_form (lk := lk) hF hT hw hi) ⟨_, rfl, fun z => ?_, fun z => hn (fun y => ?_) σ' c hW'⟩⟩⟩
        · have np : ¬ plS l (wS ft nF lk tc (wAt (wL tl tc nT) w) i) = -4 := fun y => by rw [y] at z; exact absurd z (by decide)
          obtain ⟨p1, p2⟩ := pN_ok (ft := ft) (nF := nF) (lk := lk) (tl := tl) (tc := tc) (nT := nT) (w := w) hl np
          rw [hW'.1, cl (by omega), cl (by omega), p2, nI_1]
          refine ⟨nvin hr (by omega), nvin (by omega) (by omega), ih _ (c.u (by omega)) ⟨by rw [u1_cell (by omega)]; exact hW'.1, fun r hr0 => ?_⟩ (fun j hj => ?_)⟩
          · rw [u1_cell (by omega)]
            exact ⟨(hW'.2 r hr0).1, fun x hx => by rw [u1_cell (by omega)]; exact (hW'.2 r hr0).2 x hx⟩
          · by_cases y : j = i
            · rw [y, u1_same]; exact ⟨np, rfl⟩
            · rw [u1_slot y]; exact e j (by omega)
        · obtain ⟨p, hp, e2⟩ := plS_lt (y.2 i hi)
          rw [e2] at z
          exact z (nI_pos' (by omega))
    exact L 0 (by omega) σ Ck.rf hW (fun j hj => absurd hj (Nat.not_lt_zero j))
theorem C_collect (hF : RF nF lk ft σ) (hT : RT nF nT tl tc σ) (hl : l.length ≤ 6) (h6 : ∀ s, s < 24 → σ.1 126 s = plc l s) {B : Nat} (hB : B < 256) (h : ∀ σ', Ck σ σ' → RWc ft nF lk tl tc nT l (rdL (rdw ft nF lk tl tc nT l B) (wL tl tc nT).length) σ' → Q none σ') : EvM (N + 4) mX8_collect [.ref 122, .int (nI B)] σ Q := by
  have nT8 := hT.1
  have hl9 := wL_len (tl := tl) (tc := tc) nT (fun t ht => (hT.2.2.2.1 t ht).2.1)
  have L : ∀ w, w ≤ (wL tl tc nT).length → ∀ σ', Ck σ σ' → RWc ft nF lk tl tc nT l (rdL (rdw ft nF lk tl tc nT l B) w) σ' → KX8_collect_7 N σ' Q (nI B) (nI w) := by
    refine for_up ?_ ?_
    · intro σ' c e
      refine BX8_collect_7 ⟨fun _ => h σ' c e, fun q => absurd ?_ q⟩
      rw [(hT.fr (c.chg.sm (by decide))).2.2.2.2.1]; exact nI_le (Nat.le_refl _) (by omega)
    · intro w hw ih σ' c e
      have hF' := hF.fr (c.chg.sm (by decide))
      have hT' := hT.fr (c.chg.sm (by decide))
      have h6' : ∀ s, s < 24 → σ'.1 126 s = plc l s := fun s hs => by rw [c.1 126 (by decide) (by decide)]; exact h6 s hs
      have k1 := (hT.wok hw).1.1
      have rl9 := (rdL_len (p := rdw ft nF lk tl tc nT l B) w).1
      have un : rdL (rdw ft nF lk tl tc nT l B) (w + 1) = if rdw ft nF lk tl tc nT l B w = true then rdL (rdw ft nF lk tl tc nT l B) w ++ [w] else rdL (rdw ft nF lk tl tc nT l B) w := rfl
      refine BX8_collect_7 ⟨fun q => absurd q (by rw [hT'.2.2.2.2.1]; exact nI_ge hw (by omega)), fun _ => C_textOfWord hT' hw ⟨_, rfl, ?_⟩⟩
      rw [bit_y (by omega) (by omega), nI_1]
      refine ⟨fun q => C_collectWord hF' hT' hl h6' (by omega) e hw (fun y σ2 c2 e2 => ⟨rfl, ?_⟩) (fun y σ2 c2 e2 => ⟨rfl, ?_⟩), fun q => ?_⟩
      · rw [un, if_pos (rdw_ok.mpr ⟨y.1, q, y.2⟩)] at ih
        exact ih σ2 (c.tr c2) e2
      · rw [un, if_neg (fun z => y ⟨(rdw_ok.mp z).1, (rdw_ok.mp z).2.2⟩)] at ih
        exact ih σ2 (c.tr c2) e2
      · rw [un, if_neg (fun z => q (rdw_ok.mp z).2.1)] at ih
        exact ih σ' c e
  exact EX8_collect (L 0 (by omega) _ (Ck.rf.u (by omega)) ⟨u1_same, fun r hr => absurd hr (Nat.not_lt_zero r)⟩)
theorem C_readNow (hW : RW nW wn ws σ) (hl : l.length ≤ 6) (hrl : rl.length ≤ 96) (hR : RWc ft nF lk tl tc nT l rl σ) (hok : ∀ r, r < rl.length → (wAt (wL tl tc nT) (rl.getD r 0)).2.2.1 ≤ 6 ∧ ∀ i, i < (wAt (wL tl tc nT) (rl.getD r 0)).2.2.1 → pN ft nF lk tl tc nT l (rl.getD r 0) i < l.length) {sd : Nat → Nat} (hs4 : ∀ p, sd p < 4) (hs : ∀ p, p < l.length → σ.1 225 p = nI (sd p)) (h : Q (some (.int (nI (rdC ft nF lk tl tc nT l nW wn ws rl sd)))) σ) : EvM (N + 1) mX8_readNow [.ref 122] σ Q := by
  have L : ∀ r, r ≤ rl.length → KX8_readNow_4 N σ Q (nI (cnt (fun r => iW nW wn ws (wAt (wL tl tc nT) (rl.getD r 0)).2.2.1 (pkW ft nF lk tl tc nT l sd (rl.getD r 0) (wAt (wL tl tc nT) (rl.getD r 0)).2.2.1)) r)) (nI r) := by
    refine for_up ?_ ?_
    · exact BX8_readNow_4 ⟨fun _ => h, fun q => absurd (by rw [hR.1]; exact nI_le (Nat.le_refl _) (by omega)) q⟩
    · intro r hr ih
      obtain ⟨r1, r2⟩ := hR.2 r hr
      obtain ⟨o1, o2⟩ := hok r hr
      have nr : vp_in (nI r) 96 := nvin (by omega) (by omega)
      have cr : (nI r).toNatClampNeg = r := cl (by omega)
      refine BX8_readNow_4 ⟨fun q => absurd q (by rw [hR.1]; exact nI_ge hr (by omega)), fun _ => ?_⟩
      have J : ∀ i, i ≤ (wAt (wL tl tc nT) (rl.getD r 0)).2.2.1 → KX8_readNow_17 N σ Q (nI (cnt (fun r => iW nW wn ws (wAt (wL tl tc nT) (rl.getD r 0)).2.2.1 (pkW ft nF lk tl tc nT l sd (rl.getD r 0) (wAt (wL tl tc nT) (rl.getD r 0)).2.2.1)) r)) (nI r) (nI (pkW ft nF lk tl tc nT l sd (rl.getD r 0) i)) (nI i) := by
        refine for_up ?_ ?_
        · refine BX8_readNow_17 ⟨nr, ?_⟩
          rw [cr, r1]
          refine ⟨fun _ => ⟨nr, ?_⟩, fun q => absurd (nI_le (Nat.le_refl _) (by omega)) q⟩
          have pl := pkW_lt (ft := ft) (nF := nF) (lk := lk) (tl := tl) (tc := tc) (nT := nT) (l := l) (w := rl.getD r 0) hs4 (wAt (wL tl tc nT) (rl.getD r 0)).2.2.1
          have p6 : 4 ^ (wAt (wL tl tc nT) (rl.getD r 0)).2.2.1 ≤ 4 ^ 6 := Nat.pow_le_pow_right (by decide) o1
          have e46 : (4 : Nat) ^ 6 = 4096 := by decide
          rw [shl4 (by omega), nx_or, key_or pl]
          have kk : (∃ w, w < nW ∧ 4 ^ (wAt (wL tl tc nT) (rl.getD r 0)).2.2.1 + pkW ft nF lk tl tc nT l sd (rl.getD r 0) (wAt (wL tl tc nT) (rl.getD r 0)).2.2.1 = 4 ^ wn w + ws w) ↔ iW nW wn ws (wAt (wL tl tc nT) (rl.getD r 0)).2.2.1 (pkW ft nF lk tl tc nT l sd (rl.getD r 0) (wAt (wL tl tc nT) (rl.getD r 0)).2.2.1) = true := by
            rw [iW_iff]
            constructor
            · rintro ⟨w, hw, e⟩
              have := key_ne pl (hW.2.2.2.1 w hw).2.2.1 e
              exact ⟨w, hw, this.1.symm, this.2.symm⟩
            · rintro ⟨w, hw, e1, e2⟩
              exact ⟨w, hw, by rw [e1, e2]⟩
          rw [cnt_s] at ih
          refine C_isWord hW (by omega) (fun ex => ⟨_, rfl, fun q => absurd q (by decide), fun _ => ?_⟩) (fun nex => ⟨_, rfl, fun _ => ?_, fun q => absurd rfl q⟩)
          · rw [if_pos (kk.mp ex)] at ih
            rw [nI_1, nI_1]; exact ih
          · rw [if_neg (fun z => nex (kk.mpr z))] at ih
            rw [nI_1]; exact ih
        · intro i hi ihi
          have pi := o2 i hi
          have ri := r2 i hi
          have pl := pkW_lt (ft := ft) (nF := nF) (lk := lk) (tl := tl) (tc := tc) (nT := nT) (l := l) (w := rl.getD r 0) hs4 i
          have p6 : 4 ^ i ≤ 4 ^ 6 := Nat.pow_le_pow_right (by decide) (by omega)
          have e46 : (4 : Nat) ^ 6 = 4096 := by decide
          refine BX8_readNow_17 ⟨nr, ?_⟩
          rw [cr, r1, cl (show i < 2147483648 by omega), ri, cl (show pN ft nF lk tl tc nT l (rl.getD r 0) i < 2147483648 by omega), hs _ pi, shl2 (by omega), nx_or, or4 (hs4 _), nI_1 i]
          exact ⟨fun q => absurd q (nI_ge hi (by omega)), fun _ => ⟨nr, nvin (by omega) (by omega), nvin (by omega) (by omega), ihi⟩⟩
      exact J 0 (by omega)
  exact EX8_readNow (L 0 (by omega))
end RD
