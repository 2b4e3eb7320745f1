/-! ===== cells of texts as signs ===== -/
/-- what a cell's value is as a sign -/
def sgv (ft : Nat → Nat) (nF lk : Nat) (v : Int32) : Int32 := if 0 ≤ v then nI (rep ft nF lk v.toNatClampNeg) else v
def SG (nF lk : Nat) (ft : Nat → Nat) (σ : Sg) : Prop := ∀ x, x < nF → σ.1 247 x = nI (rep ft nF lk x)
theorem sgv_ok {ft : Nat → Nat} {nF lk : Nat} {v : Int32} (h : cOk nF v) (hn : nF ≤ 24) : (sgv ft nF lk v = -1 ∧ v = -1) ∨ (sgv ft nF lk v = -2 ∧ v = -2) ∨ ∃ f s, f < nF ∧ v = nI f ∧ s = rep ft nF lk f ∧ s < nF ∧ rep ft nF lk s = s ∧ sgv ft nF lk v = nI s := by
  rcases h with h | h | ⟨f, hf, h⟩
  · left; subst h; exact ⟨rfl, rfl⟩
  · right; left; subst h; exact ⟨rfl, rfl⟩
  · right; right
    have := rep_le (ft := ft) (nF := nF) (lk := lk) (x := f)
    refine ⟨f, _, hf, h, rfl, by omega, rep_rep, ?_⟩
    subst h
    unfold sgv
    rw [if_pos (nI_pos' (by omega)), cl (by omega)]
theorem sgv_neg {ft : Nat → Nat} {nF lk : Nat} {v : Int32} (h : cOk nF v) (hn : nF ≤ 24) : (sgv ft nF lk v < 0 ↔ v = -1 ∨ v = -2) ∧ (sgv ft nF lk v = -1 ↔ v = -1) ∧ (sgv ft nF lk v = -2 ↔ v = -2) := by
  rcases sgv_ok (ft := ft) (lk := lk) h hn with ⟨a, b⟩ | ⟨a, b⟩ | ⟨f, s, h1, h2, h3, h4, h5, h6⟩
  · rw [a, b]; decide
  · rw [a, b]; decide
  · rw [h6, h2]
    clear h3 h5 h6 h h2
    refine ⟨⟨fun q => ?_, fun q => ?_⟩, ⟨fun q => ?_, fun q => ?_⟩, ⟨fun q => ?_, fun q => ?_⟩⟩ <;> exfalso
    · ((try simp (disch := (first | omega | ((try simp (disch := omega) only [i_nI, Int32.reduceToInt, i_l]) <;> omega))) only [i_le, i_lt, i_eq, Int32.reduceToInt, i_nI, i_l, li0, vp_in_iff, i_sub, i_add] at *) <;> omega)
    · rcases q with q | q <;> ((try simp (disch := (first | omega | ((try simp (disch := omega) only [i_nI, Int32.reduceToInt, i_l]) <;> omega))) only [i_le, i_lt, i_eq, Int32.reduceToInt, i_nI, i_l, li0, vp_in_iff, i_sub, i_add] at *) <;> omega)
    · ((try simp (disch := (first | omega | ((try simp (disch := omega) only [i_nI, Int32.reduceToInt, i_l]) <;> omega))) only [i_le, i_lt, i_eq, Int32.reduceToInt, i_nI, i_l, li0, vp_in_iff, i_sub, i_add] at *) <;> omega)
    · ((try simp (disch := (first | omega | ((try simp (disch := omega) only [i_nI, Int32.reduceToInt, i_l]) <;> omega))) only [i_le, i_lt, i_eq, Int32.reduceToInt, i_nI, i_l, li0, vp_in_iff, i_sub, i_add] at *) <;> omega)
    · ((try simp (disch := (first | omega | ((try simp (disch := omega) only [i_nI, Int32.reduceToInt, i_l]) <;> omega))) only [i_le, i_lt, i_eq, Int32.reduceToInt, i_nI, i_l, li0, vp_in_iff, i_sub, i_add] at *) <;> omega)
    · ((try simp (disch := (first | omega | ((try simp (disch := omega) only [i_nI, Int32.reduceToInt, i_l]) <;> omega))) only [i_le, i_lt, i_eq, Int32.reduceToInt, i_nI, i_l, li0, vp_in_iff, i_sub, i_add] at *) <;> omega)
section TX
variable {N : Nat} {σ : Sg} {Q : Option Value → Sg → Prop} {nF lk nT : Nat} {ft tl : Nat → Nat} {tc : Nat → Nat → Int32}
theorem C_signOf (hF : RF nF lk ft σ) {f : Nat} (hf : f < nF) (h : Q (some (.int (nI (rep ft nF lk f)))) σ) : EvM N mX2_signOf [.ref 1, .int (nI f)] σ Q := by
  obtain ⟨h1, h2, h3, h4, h5, h6, h7⟩ := id hF
  refine EX2_signOf ⟨fun q => absurd q (nI_pos (by omega)), fun _ => ⟨fun q => absurd q (by rw [h3]; exact nI_ge hf (by omega)), fun _ => ⟨nvin (by omega) (by omega), ?_⟩⟩⟩
  rw [cl (by omega), (h7 f hf).2.2.2]
  exact h
theorem C_signAt (hF : RF nF lk ft σ) (hT : RT nF nT tl tc σ) {t c : Nat} (ht : t < nT) (hc : c < 2147483648) (h : Q (some (.int (if c < tl t then sgv ft nF lk (tc t c) else -2))) σ) : EvM (N + 1) mX7_signAt [.ref 5, .int (nI t), .int (nI c)] σ Q := by
  obtain ⟨g1, g2, g3, g4, g5, g6⟩ := id hT
  obtain ⟨a1, a2, a3, a4, a5⟩ := g4 t ht
  have hn := hF.1
  refine EX7_signAt ⟨fun q => absurd q (nI_pos (by omega)), fun _ => ⟨fun q => absurd q (by rw [g2]; exact nI_ge ht (by omega)), fun _ => ⟨fun q => absurd q (nI_pos (by omega)), fun _ => ⟨nvin (by omega) (by omega), ?_⟩⟩⟩⟩
  rw [cl (by omega), cl (by omega), a3]
  refine ⟨fun q => ?_, fun q => ?_⟩
  · have hct : c < tl t := (nI_ltI (by omega) (by omega)).mp q
    obtain ⟨b1, b2, b3⟩ := a5 c hct
    rw [b2]
    rw [if_pos hct] at h
    refine ⟨nvin (by omega) (by omega), nvin (by omega) (by omega), fun q2 => ?_, fun q2 => ?_⟩
    · rcases b1 with e | e | ⟨f, hf, e⟩
      · rw [e] at q2; exact absurd q2 (by decide)
      · rw [e] at q2; exact absurd q2 (by decide)
      · rw [e] at h ⊢
        refine C_signOf hF hf ⟨_, rfl, ?_⟩
        unfold sgv at h
        rw [if_pos (nI_pos' (by omega)), cl (by omega)] at h
        exact h
    · unfold sgv at h
      rw [if_neg q2] at h
      exact h
  · have hct : ¬ c < tl t := fun z => q (nI_lt z (by omega))
    rw [if_neg hct] at h
    exact h
theorem M_at (hF : RF nF lk ft σ) (hT : RT nF nT tl tc σ) (hG : SG nF lk ft σ) {t c : Nat} (ht : t < nT) (hc : c < tl t) (h : Q (some (.int (sgv ft nF lk (tc t c)))) σ) : EvM N mX10_at [.ref 245, .int (nI t), .int (nI c)] σ Q := by
  obtain ⟨g1, g2, g3, g4, g5, g6⟩ := id hT
  obtain ⟨a1, a2, a3, a4, a5⟩ := g4 t ht
  obtain ⟨b1, b2, b3⟩ := a5 c hc
  have hn := hF.1
  have e : (24 : Int32) * nI t + nI c = nI (24 * t + c) := by rw [show (24 : Int32) = nI 24 from rfl, pk_mul, nI_add]
  refine EX10_at ⟨by rw [e]; exact nvin (by omega) (by omega), ?_⟩
  rw [e, cl (by omega), b3]
  refine ⟨fun q => ?_, fun q => ?_⟩
  · rcases b1 with z | z | ⟨f, hf, z⟩
    · rw [z] at q; exact absurd q (by decide)
    · rw [z] at q; exact absurd q (by decide)
    · rw [z] at h ⊢
      rw [cl (by omega), hG f hf]
      unfold sgv at h
      rw [if_pos (nI_pos' (by omega)), cl (by omega)] at h
      exact ⟨nvin (by omega) (by omega), h⟩
  · unfold sgv at h
    rw [if_neg q] at h
    exact h
theorem C_lengthOf (hT : RT nF nT tl tc σ) {t : Nat} (ht : t < nT) (h : Q (some (.int (nI (tl t)))) σ) : EvM (N + 1) mX7_lengthOf [.ref 5, .int (nI t)] σ Q := by
  obtain ⟨g1, g2, g3, g4, g5, g6⟩ := id hT
  obtain ⟨a1, a2, a3, a4, a5⟩ := g4 t ht
  refine EX7_lengthOf ⟨fun _ => ⟨nvin (by omega) (by omega), ?_⟩, fun q => absurd ?_ q⟩
  · rw [cl (by omega), a3]; exact h
  · rw [g2, i_nI (by omega), i_nI (by omega)]; omega
/-- how many of the first n cells are x -/
def cX (ft : Nat → Nat) (nF lk : Nat) (tc : Nat → Nat → Int32) (t : Nat) (x : Int32) (n : Nat) : Nat := cnt (fun c => sgv ft nF lk (tc t c) == x) n
theorem C_cellsLike (hF : RF nF lk ft σ) (hT : RT nF nT tl tc σ) {t : Nat} {x : Int32} (ht : t < nT) (h : Q (some (.int (nI (cX ft nF lk tc t x (tl t))))) σ) : EvM (N + 2) mX7_cellsLike [.ref 5, .int (nI t), .int x] σ Q := by
  obtain ⟨a1, a2, a3, a4, a5⟩ := hT.2.2.2.1 t ht
  have L : ∀ i, i ≤ tl t → KX7_cellsLike_5 N σ Q (nI t) x (nI (cX ft nF lk tc t x i)) (nI i) := by
    refine for_up ?_ ?_
    · exact BX7_cellsLike_5 (C_lengthOf hT ht ⟨_, rfl, fun _ => h, fun q => absurd (nI_le (Nat.le_refl _) (by omega)) q⟩)
    · intro i hi ih
      refine BX7_cellsLike_5 (C_lengthOf hT ht ⟨_, rfl, fun q => absurd q (nI_ge hi (by omega)), fun _ => C_signAt hF hT ht (by omega) ⟨_, rfl, ?_⟩⟩)
      rw [if_pos hi, nI_1, nI_1]
      unfold cX at ih
      rw [cnt_s] at ih
      refine ⟨fun q => ?_, fun q => ?_⟩
      · rw [if_pos (by simp [q])] at ih; exact ih
      · rw [if_neg (by simp [q])] at ih; exact ih
  exact EX7_cellsLike (L 0 (by omega))
def sumN (f : Nat → Nat) : Nat → Nat
  | 0 => 0
  | n + 1 => sumN f n + f n
theorem sumN_s (f : Nat → Nat) (n : Nat) : sumN f (n + 1) = sumN f n + f n := rfl
theorem sumN_le {f : Nat → Nat} {B : Nat} : ∀ n, (∀ i, i < n → f i ≤ B) → sumN f n ≤ B * n := by
  intro n
  induction n with
  | zero => intro _; exact Nat.zero_le _
  | succ n ih => intro h; have := ih (fun i hi => h i (by omega)); have := h n (by omega); rw [sumN_s, Nat.mul_succ]; omega
def tX (ft : Nat → Nat) (nF lk : Nat) (tl : Nat → Nat) (tc : Nat → Nat → Int32) (nT : Nat) (x : Int32) : Nat := sumN (fun t => cX ft nF lk tc t x (tl t)) nT
theorem C_timesOf (hF : RF nF lk ft σ) (hT : RT nF nT tl tc σ) {x : Int32} (h : Q (some (.int (nI (tX ft nF lk tl tc nT x)))) σ) : EvM (N + 3) mX7_timesOf [.ref 5, .int x] σ Q := by
  have g2 := hT.2.1
  have g1 := hT.1
  have L : ∀ i, i ≤ nT → KX7_timesOf_4 N σ Q x (nI (sumN (fun t => cX ft nF lk tc t x (tl t)) i)) (nI i) := by
    refine for_up ?_ ?_
    · exact BX7_timesOf_4 ⟨fun _ => h, fun q => absurd (by rw [g2]; exact nI_le (Nat.le_refl _) (by omega)) q⟩
    · intro i hi ih
      refine BX7_timesOf_4 ⟨fun q => absurd q (by rw [g2]; exact nI_ge hi (by omega)), fun _ => C_cellsLike hF hT hi ⟨_, rfl, ?_⟩⟩
      rw [nI_add, nI_1]
      exact ih
  exact EX7_timesOf (L 0 (by omega))
theorem M_countOf (hF : RF nF lk ft σ) (hT : RT nF nT tl tc σ) (hG : SG nF lk ft σ) {x : Int32} (h : Q (some (.int (nI (tX ft nF lk tl tc nT x)))) σ) : EvM (N + 1) mX10_countOf [.ref 245, .int x] σ Q := by
  have g3 := hT.2.2.1
  have g1 := hT.1
  have L : ∀ i, i ≤ nT → KX10_countOf_4 N σ Q x (nI (sumN (fun t => cX ft nF lk tc t x (tl t)) i)) (nI i) := by
    refine for_up ?_ ?_
    · exact BX10_countOf_4 ⟨fun _ => h, fun q => absurd (by rw [g3]; exact nI_le (Nat.le_refl _) (by omega)) q⟩
    · intro t ht ih
      obtain ⟨a1, a2, a3, a4, a5⟩ := hT.2.2.2.1 t ht
      have J : ∀ i, i ≤ tl t → KX10_countOf_15 N σ Q x (nI (sumN (fun t => cX ft nF lk tc t x (tl t)) t + cX ft nF lk tc t x i)) (nI t) (nI i) := by
        refine for_up ?_ ?_
        · refine BX10_countOf_15 ⟨nvin (by omega) (by omega), ?_⟩
          rw [cl (by omega), a4, nI_1]
          exact ⟨fun _ => ih, fun q => absurd (nI_le (Nat.le_refl _) (by omega)) q⟩
        · intro i hi ihi
          refine BX10_countOf_15 ⟨nvin (by omega) (by omega), ?_⟩
          rw [cl (by omega), a4, nI_1]
          refine ⟨fun q => absurd q (nI_ge hi (by omega)), fun _ => M_at hF hT hG ht hi ⟨_, rfl, ?_⟩⟩
          rw [nI_1, nI_1, Int32.add_zero]
          unfold cX at ihi
          rw [cnt_s] at ihi
          refine ⟨fun q => ?_, fun q => ?_⟩
          · rw [if_pos (by simp [q])] at ihi; exact ihi
          · rw [if_neg (by simp [q])] at ihi; exact ihi
      exact BX10_countOf_4 ⟨fun q => absurd q (by rw [g3]; exact nI_ge ht (by omega)), fun _ => J 0 (by omega)⟩
  exact EX10_countOf (L 0 (by omega))
/-- how many of the first n cells are signs -/
def cS (tc : Nat → Nat → Int32) (t n : Nat) : Nat := cnt (fun c => decide (0 ≤ tc t c)) n
def tS (tl : Nat → Nat) (tc : Nat → Nat → Int32) (nT : Nat) : Nat := sumN (fun t => cS tc t (tl t)) nT
theorem cS_eq {t n : Nat} (hn : nF ≤ 24) (h : ∀ c, c < n → cOk nF (tc t c)) : n = cS tc t n + cX ft nF lk tc t (-1) n + cX ft nF lk tc t (-2) n := by
  induction n with
  | zero => rfl
  | succ n ih =>
    have e := ih (fun c hc => h c (by omega))
    unfold cS cX at e ⊢
    rw [cnt_s, cnt_s, cnt_s]
    obtain ⟨k1, k2, k3⟩ := sgv_neg (ft := ft) (lk := lk) (h n (by omega)) hn
    rcases h n (by omega) with z | z | ⟨f, hf, z⟩
    · rw [if_neg (by rw [z]; decide), if_pos (by simp [k2.mpr z]), if_neg (by rw [k2.mpr z]; decide)]; omega
    · rw [if_neg (by rw [z]; decide), if_neg (by rw [k3.mpr z]; decide), if_pos (by simp [k3.mpr z])]; omega
    · have n1 : ¬ tc t n = -1 := by rw [z]; intro q; clear z e ih h k1 k2 k3; ((try simp (disch := (first | omega | ((try simp (disch := omega) only [i_nI, Int32.reduceToInt, i_l]) <;> omega))) only [i_le, i_lt, i_eq, Int32.reduceToInt, i_nI, i_l, li0, vp_in_iff, i_sub, i_add] at *) <;> omega)
      have n2 : ¬ tc t n = -2 := by rw [z]; intro q; clear z e ih h k1 k2 k3 n1; ((try simp (disch := (first | omega | ((try simp (disch := omega) only [i_nI, Int32.reduceToInt, i_l]) <;> omega))) only [i_le, i_lt, i_eq, Int32.reduceToInt, i_nI, i_l, li0, vp_in_iff, i_sub, i_add] at *) <;> omega)
      rw [if_pos (by rw [z]; exact decide_eq_true (nI_pos' (by omega))), if_neg (by simp only [beq_iff_eq]; exact fun q => n1 (k2.mp q)), if_neg (by simp only [beq_iff_eq]; exact fun q => n2 (k3.mp q))]; omega
theorem C_timesOfAll (hF : RF nF lk ft σ) (hT : RT nF nT tl tc σ) (h : Q (some (.int (nI (tS tl tc nT)))) σ) : EvM (N + 3) mX7_timesOfAll [.ref 5] σ Q := by
  have g2 := hT.2.1
  have g1 := hT.1
  have L : ∀ i, i ≤ nT → KX7_timesOfAll_4 N σ Q (nI (sumN (fun t => cS tc t (tl t)) i)) (nI i) := by
    refine for_up ?_ ?_
    · exact BX7_timesOfAll_4 ⟨fun _ => h, fun q => absurd (by rw [g2]; exact nI_le (Nat.le_refl _) (by omega)) q⟩
    · intro t ht ih
      obtain ⟨a1, a2, a3, a4, a5⟩ := hT.2.2.2.1 t ht
      have e := cS_eq (ft := ft) (lk := lk) hF.1 (fun c hc => (a5 c hc).1)
      refine BX7_timesOfAll_4 ⟨fun q => absurd q (by rw [g2]; exact nI_ge ht (by omega)), fun _ => ⟨nvin (by omega) (by omega), C_cellsLike hF hT ht ⟨_, rfl, C_cellsLike hF hT ht ⟨_, rfl, ?_⟩⟩⟩⟩
      rw [cl (by omega), a3, pk_sub (by omega), pk_sub (by omega), nI_add, nI_1]
      rw [sumN_s, show cS tc t (tl t) = tl t - cX ft nF lk tc t (-1) (tl t) - cX ft nF lk tc t (-2) (tl t) by omega] at ih
      exact ih
  exact EX7_timesOfAll (L 0 (by omega))
theorem sgv_pos {v : Int32} (h : cOk nF v) (hn : nF ≤ 24) : ¬ sgv ft nF lk v < 0 ↔ 0 ≤ v := by
  obtain ⟨k1, k2, k3⟩ := sgv_neg (ft := ft) (lk := lk) h hn
  rw [k1]
  rcases h with z | z | ⟨f, hf, z⟩
  · rw [z]; decide
  · rw [z]; decide
  · refine ⟨fun _ => by rw [z]; exact nI_pos' (by omega), fun _ q => ?_⟩
    rcases q with q | q <;> (rw [z] at q; clear z k1 k2 k3; ((try simp (disch := (first | omega | ((try simp (disch := omega) only [i_nI, Int32.reduceToInt, i_l]) <;> omega))) only [i_le, i_lt, i_eq, Int32.reduceToInt, i_nI, i_l, li0, vp_in_iff, i_sub, i_add] at *) <;> omega))
theorem M_allSigns (hF : RF nF lk ft σ) (hT : RT nF nT tl tc σ) (hG : SG nF lk ft σ) (h : Q (some (.int (nI (tS tl tc nT)))) σ) : EvM (N + 1) mX10_allSigns [.ref 245] σ Q := by
  have g3 := hT.2.2.1
  have g1 := hT.1
  have L : ∀ i, i ≤ nT → KX10_allSigns_4 N σ Q (nI (sumN (fun t => cS tc t (tl t)) i)) (nI i) := by
    refine for_up ?_ ?_
    · exact BX10_allSigns_4 ⟨fun _ => h, fun q => absurd (by rw [g3]; exact nI_le (Nat.le_refl _) (by omega)) q⟩
    · intro t ht ih
      obtain ⟨a1, a2, a3, a4, a5⟩ := hT.2.2.2.1 t ht
      have J : ∀ i, i ≤ tl t → KX10_allSigns_14 N σ Q (nI (sumN (fun t => cS tc t (tl t)) t + cS tc t i)) (nI t) (nI i) := by
        refine for_up ?_ ?_
        · refine BX10_allSigns_14 ⟨nvin (by omega) (by omega), ?_⟩
          rw [cl (by omega), a4, nI_1]
          exact ⟨fun _ => ih, fun q => absurd (nI_le (Nat.le_refl _) (by omega)) q⟩
        · intro i hi ihi
          have kp := sgv_pos (ft := ft) (lk := lk) (a5 i hi).1 hF.1
          refine BX10_allSigns_14 ⟨nvin (by omega) (by omega), ?_⟩
          rw [cl (by omega), a4, nI_1]
          refine ⟨fun q => absurd q (nI_ge hi (by omega)), fun _ => M_at hF hT hG ht hi ⟨_, rfl, ?_⟩⟩
          rw [nI_1, nI_1, Int32.add_zero]
          unfold cS at ihi
          rw [cnt_s] at ihi
          refine ⟨fun q => ?_, fun q => ?_⟩
          · rw [if_neg (by simp only [decide_eq_true_eq]; exact fun z => kp.mpr z q)] at ihi; exact ihi
          · rw [if_pos (by simp only [decide_eq_true_eq]; exact kp.mp q)] at ihi; exact ihi
      exact BX10_allSigns_4 ⟨fun q => absurd q (by rw [g3]; exact nI_ge ht (by omega)), fun _ => J 0 (by omega)⟩
  exact EX10_allSigns (L 0 (by omega))
/-- isSign, of the class and of the reference -/
theorem C_isSign (hF : RF nF lk ft σ) {x : Int32} (h1 : ∀ k, k < nF → rep ft nF lk k = k → x = nI k → Q (some (.int 1)) σ) (h0 : ¬ (∃ k, k < nF ∧ rep ft nF lk k = k ∧ x = nI k) → Q (some (.int 0)) σ) : EvM (N + 1) mX2_isSign [.ref 1, .int x] σ Q := by
  obtain ⟨g1, g2, g3, g4, g5, g6, g7⟩ := id hF
  refine EX2_isSign ⟨fun q => ?_, fun q => h0 ?_⟩
  · rw [C2_isForm' g3 g1] at q
    obtain ⟨k, hk, rfl⟩ := vin q (by omega)
    have := rep_le (ft := ft) (nF := nF) (lk := lk) (x := k)
    rw [cl (by omega), (g7 k hk).2.2.2]
    refine ⟨nvin (by omega) (by omega), fun z => h1 k hk ((nI_eq (by omega) (by omega)).mp z) rfl, fun z => h0 ?_⟩
    rintro ⟨k', hk', e1, e2⟩
    have := (nI_eq (a := k) (b := k') (by omega) (by omega)).mp e2
    subst this
    exact z (by rw [e1])
  · rintro ⟨k', hk', e1, e2⟩
    rw [C2_isForm' g3 g1] at q
    exact q (by rw [e2]; exact nvin hk' (by omega))
theorem M_isSign (hF : RF nF lk ft σ) {x : Int32} (h1 : ∀ k, k < nF → rep ft nF lk k = k → x = nI k → ∀ σ' : Sg, Rw 247 σ σ' → SG nF lk ft σ' → Q (some (.int 1)) σ') (h0 : ¬ (∃ k, k < nF ∧ rep ft nF lk k = k ∧ x = nI k) → ∀ σ' : Sg, Rw 247 σ σ' → SG nF lk ft σ' → Q (some (.int 0)) σ') : EvM (N + 2) mX10_isSign [.ref 245, .int x] σ Q := by
  obtain ⟨g1, g2, g3, g4, g5, g6, g7⟩ := id hF
  refine EX10_isSign ?_
  rw [g6]
  refine C_findSigns g1 g2 g5 (fun i hi => ⟨(g7 i hi).1, (g7 i hi).2.2.1⟩) fun σ' k1 k2 => ⟨rfl, ?_⟩
  refine C10_isForm (by rw [k1.1 245 (by decide)]; exact g5) g1 (fun p => ⟨_, rfl, fun q => absurd q (by decide), fun _ => ?_⟩) (fun p => ⟨_, rfl, fun _ => h0 ?_ σ' k1 k2, fun q => absurd rfl q⟩)
  · obtain ⟨k, hk, rfl⟩ := vin p (by omega)
    have := rep_le (ft := ft) (nF := nF) (lk := lk) (x := k)
    rw [cl (by omega), k2 k hk]
    refine ⟨nvin (by omega) (by omega), fun z => h1 k hk ((nI_eq (by omega) (by omega)).mp z) rfl σ' k1 k2, fun z => h0 ?_ σ' k1 k2⟩
    rintro ⟨k', hk', e1, e2⟩
    have := (nI_eq (a := k) (b := k') (by omega) (by omega)).mp e2
    subst this
    exact z (by rw [e1])
  · rintro ⟨k', hk', e1, e2⟩
    exact p (by rw [e2]; exact nvin hk' (by omega))
end TX
theorem SG.q {nF lk : Nat} {ft : Nat → Nat} {σ σ' : Sg} (h : SG nF lk ft σ) (e : ∀ x, σ'.1 247 x = σ.1 247 x) : SG nF lk ft σ' := fun x hx => by rw [e]; exact h x hx
theorem O_counted {σ : Sg} (hR : Rel σ) (a : Int32) : OPi mX9_counted mX10_counted [.int a] σ := by
  obtain ⟨nF, lk, ft, nT, tl, tc, hF, hT⟩ := hR.1
  refine EX9_counted (C_isSign hF (fun k hk e1 e2 => ⟨_, rfl, fun q => absurd q (by decide), fun _ => C_timesOf hF hT ⟨_, rfl, _, rfl, ?_⟩⟩) (fun p => ⟨_, rfl, fun _ => ⟨_, rfl, ?_⟩, fun q => absurd rfl q⟩))
  · refine EX10_counted (M_isSign hF (fun k hk e1 e2 σ' c s => ⟨_, rfl, fun q => absurd q (by decide), fun _ => ?_⟩) (fun p => absurd ⟨k, hk, e1, e2⟩ p))
    have hc : Chg [0] σ σ' := c.c0 fun _ => rfl
    exact M_countOf (hF.fr (hc.sm (by decide))) (hT.fr (hc.sm (by decide))) s ⟨_, rfl, rfl, hR.q hc⟩
  · refine EX10_counted (M_isSign hF (fun k hk e1 e2 => absurd ⟨k, hk, e1, e2⟩ p) (fun _ σ' c s => ⟨_, rfl, fun _ => ⟨rfl, hR.q (c.c0 fun _ => rfl)⟩, fun q => absurd rfl q⟩))
section BS
variable {N : Nat} {σ : Sg} {Q : Option Value → Sg → Prop} {nF lk nT : Nat} {ft tl : Nat → Nat} {tc : Nat → Nat → Int32}
/-- how often y comes right behind x among the first n + 1 cells; how often a sign behind a sign -/
def bX (ft : Nat → Nat) (nF lk : Nat) (tc : Nat → Nat → Int32) (t : Nat) (x y : Int32) (n : Nat) : Nat := cnt (fun c => sgv ft nF lk (tc t c) == x && sgv ft nF lk (tc t (c + 1)) == y) n
def bS (tc : Nat → Nat → Int32) (t n : Nat) : Nat := cnt (fun c => decide (0 ≤ tc t c) && decide (0 ≤ tc t (c + 1))) n
def tbX (ft : Nat → Nat) (nF lk : Nat) (tl : Nat → Nat) (tc : Nat → Nat → Int32) (nT : Nat) (x y : Int32) : Nat := sumN (fun t => bX ft nF lk tc t x y (tl t - 1)) nT
def tbS (tl : Nat → Nat) (tc : Nat → Nat → Int32) (nT : Nat) : Nat := sumN (fun t => bS tc t (tl t - 1)) nT
theorem C_timesBeside (hF : RF nF lk ft σ) (hT : RT nF nT tl tc σ) {x y : Int32} (h : Q (some (.int (nI (tbX ft nF lk tl tc nT x y)))) σ) : EvM (N + 2) mX7_timesBeside [.ref 5, .int x, .int y] σ Q := by
  have g2 := hT.2.1
  have g1 := hT.1
  have L : ∀ i, i ≤ nT → KX7_timesBeside_5 N σ Q x y (nI (sumN (fun t => bX ft nF lk tc t x y (tl t - 1)) i)) (nI i) := by
    refine for_up ?_ ?_
    · exact BX7_timesBeside_5 ⟨fun _ => h, fun q => absurd (by rw [g2]; exact nI_le (Nat.le_refl _) (by omega)) q⟩
    · intro t ht ih
      obtain ⟨a1, a2, a3, a4, a5⟩ := hT.2.2.2.1 t ht
      have J : ∀ i, i ≤ tl t - 1 → KX7_timesBeside_17 N σ Q x y (nI (sumN (fun t => bX ft nF lk tc t x y (tl t - 1)) t + bX ft nF lk tc t x y i)) (nI t) (nI (i + 1)) := by
        refine for_up ?_ ?_
        · refine BX7_timesBeside_17 ⟨nvin (by omega) (by omega), ?_⟩
          rw [cl (by omega), a3, nI_1]
          exact ⟨fun _ => ih, fun q => absurd (nI_le (by omega) (by omega)) q⟩
        · intro i hi ihi
          refine BX7_timesBeside_17 ⟨nvin (by omega) (by omega), ?_⟩
          rw [cl (by omega), a3, nI_pred, nI_1]
          refine ⟨fun q => absurd q (nI_ge (by omega) (by omega)), fun _ => C_signAt hF hT ht (by omega) ⟨_, rfl, ?_⟩⟩
          rw [if_pos (show i < tl t by omega)]
          unfold bX at ihi
          rw [cnt_s] at ihi
          refine ⟨fun q => C_signAt hF hT ht (by omega) ⟨_, rfl, ?_⟩, fun q => ?_⟩
          · rw [if_pos (show i + 1 < tl t by omega), nI_1, nI_1]
            refine ⟨fun q2 => ?_, fun q2 => ?_⟩
            · rw [if_pos (by simp [q, q2])] at ihi; exact ihi
            · rw [if_neg (by simp [q2])] at ihi; exact ihi
          · rw [if_neg (by simp [q])] at ihi; rw [nI_1]; exact ihi
      exact BX7_timesBeside_5 ⟨fun q => absurd q (by rw [g2]; exact nI_ge ht (by omega)), fun _ => J 0 (by omega)⟩
  exact EX7_timesBeside (L 0 (by omega))
theorem C_placesBeside (hF : RF nF lk ft σ) (hT : RT nF nT tl tc σ) (h : Q (some (.int (nI (tbS tl tc nT)))) σ) : EvM (N + 2) mX7_placesBeside [.ref 5] σ Q := by
  have g2 := hT.2.1
  have g1 := hT.1
  have L : ∀ i, i ≤ nT → KX7_placesBeside_4 N σ Q (nI (sumN (fun t => bS tc t (tl t - 1)) i)) (nI i) := by
    refine for_up ?_ ?_
    · exact BX7_placesBeside_4 ⟨fun _ => h, fun q => absurd (by rw [g2]; exact nI_le (Nat.le_refl _) (by omega)) q⟩
    · intro t ht ih
      obtain ⟨a1, a2, a3, a4, a5⟩ := hT.2.2.2.1 t ht
      have J : ∀ i, i ≤ tl t - 1 → KX7_placesBeside_14 N σ Q (nI (sumN (fun t => bS tc t (tl t - 1)) t + bS tc t i)) (nI t) (nI (i + 1)) := by
        refine for_up ?_ ?_
        · refine BX7_placesBeside_14 ⟨nvin (by omega) (by omega), ?_⟩
          rw [cl (by omega), a3, nI_1]
          exact ⟨fun _ => ih, fun q => absurd (nI_le (by omega) (by omega)) q⟩
        · intro i hi ihi
          have kp := sgv_pos (ft := ft) (lk := lk) (a5 i (by omega)).1 hF.1
          have kq := sgv_pos (ft := ft) (lk := lk) (a5 (i + 1) (by omega)).1 hF.1
          refine BX7_placesBeside_14 ⟨nvin (by omega) (by omega), ?_⟩
          rw [cl (by omega), a3, nI_pred, nI_1]
          refine ⟨fun q => absurd q (nI_ge (by omega) (by omega)), fun _ => C_signAt hF hT ht (by omega) ⟨_, rfl, ?_⟩⟩
          rw [if_pos (show i < tl t by omega)]
          unfold bS at ihi
          rw [cnt_s] at ihi
          refine ⟨fun q => ?_, fun q => C_signAt hF hT ht (by omega) ⟨_, rfl, ?_⟩⟩
          · rw [if_neg (by simp only [Bool.and_eq_true, decide_eq_true_eq]; exact fun z => kp.mpr z.1 q)] at ihi; rw [nI_1]; exact ihi
          · rw [if_pos (show i + 1 < tl t by omega), nI_1, nI_1]
            refine ⟨fun q2 => ?_, fun q2 => ?_⟩
            · rw [if_neg (by simp only [Bool.and_eq_true, decide_eq_true_eq]; exact fun z => kq.mpr z.2 q2)] at ihi; exact ihi
            · rw [if_pos (by simp only [Bool.and_eq_true, decide_eq_true_eq]; exact ⟨kp.mp q, kq.mp q2⟩)] at ihi; exact ihi
      exact BX7_placesBeside_4 ⟨fun q => absurd q (by rw [g2]; exact nI_ge ht (by omega)), fun _ => J 0 (by omega)⟩
  exact EX7_placesBeside (L 0 (by omega))
theorem M_besides (hF : RF nF lk ft σ) (hT : RT nF nT tl tc σ) (hG : SG nF lk ft σ) {x y : Int32} (hx : 0 ≤ x) (hy : 0 ≤ y) (h : Q (some (.int (nI (tbX ft nF lk tl tc nT x y)))) σ) : EvM (N + 1) mX10_besides [.ref 245, .int x, .int y] σ Q := by
  have g3 := hT.2.2.1
  have g1 := hT.1
  have nx : ¬ x < 0 := fun q => by clear h hF hT hG g3; ((try simp (disch := (first | omega | ((try simp (disch := omega) only [i_nI, Int32.reduceToInt, i_l]) <;> omega))) only [i_le, i_lt, i_eq, Int32.reduceToInt, i_nI, i_l, li0, vp_in_iff, i_sub, i_add] at *) <;> omega)
  have ny : ¬ y < 0 := fun q => by clear h hF hT hG g3; ((try simp (disch := (first | omega | ((try simp (disch := omega) only [i_nI, Int32.reduceToInt, i_l]) <;> omega))) only [i_le, i_lt, i_eq, Int32.reduceToInt, i_nI, i_l, li0, vp_in_iff, i_sub, i_add] at *) <;> omega)
  have L : ∀ i, i ≤ nT → KX10_besides_5 N σ Q x y (nI (sumN (fun t => bX ft nF lk tc t x y (tl t - 1)) i)) (nI i) := by
    refine for_up ?_ ?_
    · exact BX10_besides_5 ⟨fun _ => h, fun q => absurd (by rw [g3]; exact nI_le (Nat.le_refl _) (by omega)) q⟩
    · intro t ht ih
      obtain ⟨a1, a2, a3, a4, a5⟩ := hT.2.2.2.1 t ht
      have J : ∀ i, i ≤ tl t - 1 → KX10_besides_17 N σ Q x y (nI (sumN (fun t => bX ft nF lk tc t x y (tl t - 1)) t + bX ft nF lk tc t x y i)) (nI t) (nI (i + 1)) := by
        refine for_up ?_ ?_
        · refine BX10_besides_17 ⟨nvin (by omega) (by omega), ?_⟩
          rw [cl (by omega), a4, nI_1]
          exact ⟨fun _ => ih, fun q => absurd (nI_le (by omega) (by omega)) q⟩
        · intro i hi ihi
          refine BX10_besides_17 ⟨nvin (by omega) (by omega), ?_⟩
          rw [cl (by omega), a4, nI_pred, nI_1]
          refine ⟨fun q => absurd q (nI_ge (by omega) (by omega)), fun _ => M_at hF hT hG ht (by omega) ⟨_, rfl, M_at hF hT hG ht (by omega) ⟨_, rfl, ?_⟩⟩⟩
          unfold bX at ihi
          rw [cnt_s] at ihi
          rw [nI_1, nI_1, Int32.add_zero]
          refine ⟨fun q => ?_, fun q => ⟨fun q2 => ?_, fun q2 => ⟨fun q3 => absurd q3 nx, fun _ => ⟨fun q4 => ⟨fun q5 => ?_, fun q5 => ?_⟩, fun q4 => ?_⟩⟩⟩⟩
          · rw [if_neg (by simp only [Bool.and_eq_true, beq_iff_eq]; exact fun z => nx (z.1 ▸ q))] at ihi; exact ihi
          · rw [if_neg (by simp only [Bool.and_eq_true, beq_iff_eq]; exact fun z => ny (z.2 ▸ q2))] at ihi; exact ihi
          · rw [if_pos (by simp [q4, q5])] at ihi; exact ihi
          · rw [if_neg (by simp [q5])] at ihi; exact ihi
          · rw [if_neg (by simp [q4])] at ihi; exact ihi
      exact BX10_besides_5 ⟨fun q => absurd q (by rw [g3]; exact nI_ge ht (by omega)), fun _ => J 0 (by omega)⟩
  exact EX10_besides (L 0 (by omega))
theorem M_besidesAll (hF : RF nF lk ft σ) (hT : RT nF nT tl tc σ) (hG : SG nF lk ft σ) (h : Q (some (.int (nI (tbS tl tc nT)))) σ) : EvM (N + 1) mX10_besides [.ref 245, .int (-4), .int (-4)] σ Q := by
  have g3 := hT.2.2.1
  have g1 := hT.1
  have L : ∀ i, i ≤ nT → KX10_besides_5 N σ Q (-4) (-4) (nI (sumN (fun t => bS tc t (tl t - 1)) i)) (nI i) := by
    refine for_up ?_ ?_
    · exact BX10_besides_5 ⟨fun _ => h, fun q => absurd (by rw [g3]; exact nI_le (Nat.le_refl _) (by omega)) q⟩
    · intro t ht ih
      obtain ⟨a1, a2, a3, a4, a5⟩ := hT.2.2.2.1 t ht
      have J : ∀ i, i ≤ tl t - 1 → KX10_besides_17 N σ Q (-4) (-4) (nI (sumN (fun t => bS tc t (tl t - 1)) t + bS tc t i)) (nI t) (nI (i + 1)) := by
        refine for_up ?_ ?_
        · refine BX10_besides_17 ⟨nvin (by omega) (by omega), ?_⟩
          rw [cl (by omega), a4, nI_1]
          exact ⟨fun _ => ih, fun q => absurd (nI_le (by omega) (by omega)) q⟩
        · intro i hi ihi
          have kp := sgv_pos (ft := ft) (lk := lk) (a5 i (by omega)).1 hF.1
          have kq := sgv_pos (ft := ft) (lk := lk) (a5 (i + 1) (by omega)).1 hF.1
          refine BX10_besides_17 ⟨nvin (by omega) (by omega), ?_⟩
          rw [cl (by omega), a4, nI_pred, nI_1]
          refine ⟨fun q => absurd q (nI_ge (by omega) (by omega)), fun _ => M_at hF hT hG ht (by omega) ⟨_, rfl, M_at hF hT hG ht (by omega) ⟨_, rfl, ?_⟩⟩⟩
          unfold bS at ihi
          rw [cnt_s] at ihi
          rw [nI_1, nI_1, Int32.add_zero]
          refine ⟨fun q => ?_, fun q => ⟨fun q2 => ?_, fun q2 => ⟨fun _ => ?_, fun q3 => absurd (by decide) q3⟩⟩⟩
          · rw [if_neg (by simp only [Bool.and_eq_true, decide_eq_true_eq]; exact fun z => kp.mpr z.1 q)] at ihi; exact ihi
          · rw [if_neg (by simp only [Bool.and_eq_true, decide_eq_true_eq]; exact fun z => kq.mpr z.2 q2)] at ihi; exact ihi
          · rw [if_pos (by simp only [Bool.and_eq_true, decide_eq_true_eq]; exact ⟨kp.mp q, kq.mp q2⟩)] at ihi; exact ihi
      exact BX10_besides_5 ⟨fun q => absurd q (by rw [g3]; exact nI_ge ht (by omega)), fun _ => J 0 (by omega)⟩
  exact EX10_besides (L 0 (by omega))
end BS
theorem O_beside {σ : Sg} (hR : Rel σ) (a b : Int32) : OPi mX9_beside mX10_beside [.int a, .int b] σ := by
  obtain ⟨nF, lk, ft, nT, tl, tc, hF, hT⟩ := hR.1
  have hn := hF.1
  have bad : (¬ (∃ k, k < nF ∧ rep ft nF lk k = k ∧ a = nI k) ∨ ¬ (∃ k, k < nF ∧ rep ft nF lk k = k ∧ b = nI k)) → EvM 40 mX10_beside [.ref 245, .int a, .int b] σ (fun r2 σ2 => r2 = some (.int (-1)) ∧ Rel σ2) := by
    intro hb
    refine EX10_beside (M_isSign hF (fun k hk e1 e2 σ' c s => ⟨_, rfl, fun q => absurd q (by decide), fun _ => ?_⟩) (fun p σ' c s => ⟨_, rfl, fun _ => ⟨rfl, hR.q (c.c0 fun _ => rfl)⟩, fun q => absurd rfl q⟩))
    have hc : Chg [0] σ σ' := c.c0 fun _ => rfl
    exact M_isSign (hF.fr (hc.sm (by decide))) (fun k2 hk2 e3 e4 => hb.elim (fun hb => absurd ⟨k, hk, e1, e2⟩ hb) (fun hb => absurd ⟨k2, hk2, e3, e4⟩ hb)) (fun p σ2 c2 s2 => ⟨_, rfl, fun _ => ⟨rfl, (hR.q hc).q (c2.c0 fun _ => rfl)⟩, fun q => absurd rfl q⟩)
  refine EX9_beside (C_isSign hF (fun k hk e1 e2 => ⟨_, rfl, fun q => absurd q (by decide), fun _ => C_isSign hF (fun k2 hk2 e3 e4 => ⟨_, rfl, fun q => absurd q (by decide), fun _ => C_timesBeside hF hT ⟨_, rfl, _, rfl, ?_⟩⟩) (fun p => ⟨_, rfl, fun _ => ⟨_, rfl, bad (Or.inr p)⟩, fun q => absurd rfl q⟩)⟩) (fun p => ⟨_, rfl, fun _ => ⟨_, rfl, bad (Or.inl p)⟩, fun q => absurd rfl q⟩))
  refine EX10_beside (M_isSign hF (fun k' hk' e1' e2' σ' c s => ⟨_, rfl, fun q => absurd q (by decide), fun _ => ?_⟩) (fun p => absurd ⟨k, hk, e1, e2⟩ p))
  have hc : Chg [0] σ σ' := c.c0 fun _ => rfl
  refine M_isSign (hF.fr (hc.sm (by decide))) (fun k2' hk2' e3' e4' σ2 c2 s2 => ⟨_, rfl, fun q => absurd q (by decide), fun _ => ?_⟩) (fun p => absurd ⟨k2, hk2, e3, e4⟩ p)
  have hc2 : Chg [0] σ σ2 := hc.tr (c2.c0 fun _ => rfl)
  exact M_besides (hF.fr (hc2.sm (by decide))) (hT.fr (hc2.sm (by decide))) s2 (by rw [e2]; exact nI_pos' (by omega)) (by rw [e4]; exact nI_pos' (by omega)) ⟨_, rfl, rfl, hR.q hc2⟩
