/-! ===== words of one stem ===== -/
theorem tb_ld {n a : Nat} : n.testBit a = decide (n / 2 ^ a % 2 = 1) := Nat.testBit_eq_decide_div_mod_eq
theorem bit_two {n a b : Nat} (hn : n < 2147483648) (ha : a < 24) (hb : b < 24) : ((((nI n >>> (nI a &&& 31)) &&& (nI n >>> (nI b &&& 31))) &&& 1) = 1) ↔ (n.testBit a && n.testBit b) = true := by
  have sh : ∀ k : Nat, k < 24 → nI n >>> (nI k &&& 31) = nI (n / 2 ^ k) := fun k hk => pk_shrN (by omega) (nI k &&& 31) k (by rw [show ∀ j : Nat, j < 32 → ((nI j &&& 31).toBitVec.smod 32).toNat = j from by decide]; omega)
  have le : ∀ k, n / 2 ^ k ≤ n := fun k => Nat.div_le_self _ _
  rw [sh a ha, sh b hb, nx_and]
  have lt : n / 2 ^ a &&& n / 2 ^ b < 2147483648 := Nat.lt_of_le_of_lt Nat.and_le_left (Nat.lt_of_le_of_lt (le a) hn)
  rw [pk_andN (by omega) 1 (by decide)]
  have t0 : ((n / 2 ^ a &&& n / 2 ^ b).testBit 0) = (n.testBit a && n.testBit b) := by
    rw [Nat.testBit_and, Nat.testBit_div_two_pow, Nat.testBit_div_two_pow, Nat.zero_add, Nat.zero_add]
  rw [← t0, Nat.testBit_zero, decide_eq_true_iff]
  have m2 := Nat.mod_lt (n / 2 ^ a &&& n / 2 ^ b) (show 0 < 2 by decide)
  rw [show (2 : Nat) ^ 1 = 2 from rfl]
  constructor
  · intro h
    exact (nI_eq (b := 1) (by omega) (by omega)).mp h
  · intro h
    rw [h]; rfl
section AK2
variable (ft : Nat → Nat) (nF lk : Nat) (tl : Nat → Nat) (tc : Nat → Nat → Int32) (nT : Nat)
def akP (w : Nat) : Bool := (wAt (wL tl tc nT) w).2.2.2 && decide (2 ≤ (wAt (wL tl tc nT) w).2.2.1)
def akS (v w : Nat) : Bool := akP tl tc nT v && akP tl tc nT w && ((wAt (wL tl tc nT) v).2.2.1 == (wAt (wL tl tc nT) w).2.2.1) && allB (fun i => wS ft nF lk tc (wAt (wL tl tc nT) v) i == wS ft nF lk tc (wAt (wL tl tc nT) w) i) ((wAt (wL tl tc nT) v).2.2.1 - 1)
def akL (w : Nat) : Nat := (wS ft nF lk tc (wAt (wL tl tc nT) w) ((wAt (wL tl tc nT) w).2.2.1 - 1)).toNatClampNeg
variable {ft nF lk tl tc nT}
theorem akP_iff {w : Nat} : akP tl tc nT w = true ↔ (wAt (wL tl tc nT) w).2.2.2 = true ∧ 2 ≤ (wAt (wL tl tc nT) w).2.2.1 := by
  unfold akP
  rw [Bool.and_eq_true, decide_eq_true_iff]
theorem akS_iff {v w : Nat} : akS ft nF lk tl tc nT v w = true ↔ akP tl tc nT v = true ∧ akP tl tc nT w = true ∧ (wAt (wL tl tc nT) v).2.2.1 = (wAt (wL tl tc nT) w).2.2.1 ∧ ∀ i, i < (wAt (wL tl tc nT) v).2.2.1 - 1 → wS ft nF lk tc (wAt (wL tl tc nT) v) i = wS ft nF lk tc (wAt (wL tl tc nT) w) i := by
  unfold akS
  rw [Bool.and_eq_true, Bool.and_eq_true, Bool.and_eq_true, allB_iff, beq_iff_eq]
  constructor
  · rintro ⟨⟨⟨h1, h2⟩, h3⟩, h4⟩
    exact ⟨h1, h2, h3, fun i hi => by simpa using h4 i hi⟩
  · rintro ⟨h1, h2, h3, h4⟩
    exact ⟨⟨⟨h1, h2⟩, h3⟩, fun i hi => by simpa using h4 i hi⟩
theorem akE : Eqv (akS ft nF lk tl tc nT) (akP tl tc nT) := by
  refine ⟨fun v w h => ?_, fun w h => ?_, fun v w h => ?_, fun u v w h g => ?_⟩
  · obtain ⟨a, b, _⟩ := akS_iff.mp h; exact ⟨a, b⟩
  · exact akS_iff.mpr ⟨h, h, rfl, fun _ _ => rfl⟩
  · obtain ⟨a, b, c, d⟩ := akS_iff.mp h
    exact akS_iff.mpr ⟨b, a, c.symm, fun i hi => (d i (by omega)).symm⟩
  · obtain ⟨a, b, c, d⟩ := akS_iff.mp h
    obtain ⟨a', b', c', d'⟩ := akS_iff.mp g
    exact akS_iff.mpr ⟨a, b', c.trans c', fun i hi => (d i hi).trans (d' i (by omega))⟩
end AK2
section AK3
variable {N nF lk nT : Nat} {ft : Nat → Nat} {tl : Nat → Nat} {tc : Nat → Nat → Int32} {σ : Sg} {Q : Option Value → Sg → Prop}
theorem akL_ok (hF : RF nF lk ft σ) (hT : RT nF nT tl tc σ) {w : Nat} (hw : w < (wL tl tc nT).length) (hf : (wAt (wL tl tc nT) w).2.2.2 = true) : akL ft nF lk tl tc nT w < 24 ∧ wS ft nF lk tc (wAt (wL tl tc nT) w) ((wAt (wL tl tc nT) w).2.2.1 - 1) = nI (akL ft nF lk tl tc nT w) := by
  have k2 := (hT.wok hw).1.2.1
  obtain ⟨s, s1, _, s3⟩ := wS_sign (lk := lk) hF hT hw (i := (wAt (wL tl tc nT) w).2.2.1 - 1) (by omega) hf
  have n24 := hF.1
  unfold akL
  rw [s3, cl (by omega)]
  exact ⟨by omega, rfl⟩
theorem C_haveOneStem (hF : RF nF lk ft σ) (hT : RT nF nT tl tc σ) {v w : Nat} (hv : v < (wL tl tc nT).length) (hw : w < (wL tl tc nT).length)
    (h1 : ((wAt (wL tl tc nT) v).2.2.1 = (wAt (wL tl tc nT) w).2.2.1 ∧ ∀ i, i < (wAt (wL tl tc nT) v).2.2.1 - 1 → wS ft nF lk tc (wAt (wL tl tc nT) v) i = wS ft nF lk tc (wAt (wL tl tc nT) w) i) → Q (some (.int 1)) σ)
    (h0 : ¬ ((wAt (wL tl tc nT) v).2.2.1 = (wAt (wL tl tc nT) w).2.2.1 ∧ ∀ i, i < (wAt (wL tl tc nT) v).2.2.1 - 1 → wS ft nF lk tc (wAt (wL tl tc nT) v) i = wS ft nF lk tc (wAt (wL tl tc nT) w) i) → Q (some (.int 0)) σ) : EvM (N + 2) mX7_haveOneStem [.ref 5, .int (nI v), .int (nI w)] σ Q := by
  obtain ⟨g1, g2, g3, g4, g5, g6⟩ := id hT
  obtain ⟨⟨k1, k2, k3, k4, k5⟩, hl, h24⟩ := hT.wok hv
  obtain ⟨⟨j1, j2, j3, j4, j5⟩, _, j24⟩ := hT.wok hw
  have nv : vp_in (nI v) 96 := nvin (by omega) (by omega)
  have nw : vp_in (nI w) 96 := nvin (by omega) (by omega)
  have iv : 0 ≤ (nI v).toInt ∧ (nI v).toInt < (σ.1 5 9).toInt := by rw [g5]; exact in0 hv (by omega)
  have iw : 0 ≤ (nI w).toInt ∧ (nI w).toInt < (σ.1 5 9).toInt := by rw [g5]; exact in0 hw (by omega)
  have cv : (nI v).toNatClampNeg = v := cl (by omega)
  have cw : (nI w).toNatClampNeg = w := cl (by omega)
  refine EX7_haveOneStem ⟨fun _ => ⟨fun _ => ⟨nv, nw, ?_⟩, fun q => absurd iw q⟩, fun q => absurd iv q⟩
  rw [cv, cw, (g6 v hv).2.2.1, (g6 w hw).2.2.1]
  refine ⟨fun q => ?_, fun q => h0 (fun y => q (by rw [y.1]))⟩
  have el : (wAt (wL tl tc nT) v).2.2.1 = (wAt (wL tl tc nT) w).2.2.1 := (nI_eq (by omega) (by omega)).mp q
  have L : ∀ i, i ≤ (wAt (wL tl tc nT) v).2.2.1 - 1 → (∀ j, j < i → wS ft nF lk tc (wAt (wL tl tc nT) v) j = wS ft nF lk tc (wAt (wL tl tc nT) w) j) → KX7_haveOneStem_35 N σ Q (nI v) (nI w) (nI i) := by
    refine for_up ?_ ?_
    · intro a
      refine BX7_haveOneStem_35 ⟨nv, ?_⟩
      rw [cv, (g6 v hv).2.2.1, show nI (wAt (wL tl tc nT) v).2.2.1 - 1 = nI ((wAt (wL tl tc nT) v).2.2.1 - 1) from pk_sub (b := 1) k2]
      exact ⟨fun _ => h1 ⟨el, a⟩, fun z => absurd (nI_le (Nat.le_refl _) (by omega)) z⟩
    · intro i hi ih a
      refine BX7_haveOneStem_35 ⟨nv, ?_⟩
      rw [cv, cw, (g6 v hv).2.2.1, show nI (wAt (wL tl tc nT) v).2.2.1 - 1 = nI ((wAt (wL tl tc nT) v).2.2.1 - 1) from pk_sub (b := 1) k2]
      refine ⟨fun z => absurd z (nI_ge hi (by omega)), fun _ => ⟨nv, nv, ?_⟩⟩
      rw [(g6 v hv).1, (g6 v hv).2.1, nI_add]
      refine C_signW hF hT hv (by omega) ⟨_, rfl, nw, nw, ?_⟩
      rw [(g6 w hw).1, (g6 w hw).2.1, nI_add, nI_1]
      refine C_signW hF hT hw (by omega) ⟨_, rfl, fun z => ih (fun j hj => ?_), fun z => h0 (fun y => z (y.2 i hi).symm)⟩
      by_cases e : j = i
      · rw [e]; exact z.symm
      · exact a j (by omega)
  exact L 0 (by omega) (fun j hj => absurd hj (Nat.not_lt_zero j))
theorem C_firstOfStem (hF : RF nF lk ft σ) (hT : RT nF nT tl tc σ) {w : Nat} (hw : w < (wL tl tc nT).length) (hN : ¬ akP tl tc nT w = true → Q (some (.int (-4))) σ) (hP : akP tl tc nT w = true → Q (some (.int (nI (fs (akS ft nF lk tl tc nT) w)))) σ) : EvM (N + 3) mX3_firstOfStem [.ref 22, .int (nI w)] σ Q := by
  obtain ⟨⟨j1, j2, j3, j4, j5⟩, hl, j24⟩ := hT.wok hw
  refine EX3_firstOfStem (C_isWhole hT hw (fun f => ⟨_, rfl, fun q => absurd q (by decide), fun _ => C_lengthOfWord hT hw ⟨_, rfl, fun q => ?_, fun q => hN ?_⟩⟩) (fun f => ⟨_, rfl, fun _ => hN ?_, fun q => absurd rfl q⟩))
  · have l2 : 2 ≤ (wAt (wL tl tc nT) w).2.2.1 := (nI_leI (a := 2) (by omega) (by omega)).mp q
    have pw : akP tl tc nT w = true := akP_iff.mpr ⟨f, l2⟩
    have L : ∀ i, i ≤ w → (∀ v, v < i → akS ft nF lk tl tc nT v w = false) → KX3_firstOfStem_28 N σ Q (nI w) (nI i) := by
      refine for_up ?_ ?_
      · intro a
        refine BX3_firstOfStem_28 ⟨fun _ => ?_, fun z => absurd (nI_le (Nat.le_refl _) (by omega)) z⟩
        have : fs (akS ft nF lk tl tc nT) w = w := lst_eq (Nat.le_refl _) a (fun z => absurd z (Nat.lt_irrefl _))
        have h := hP pw
        rw [this] at h
        exact h
      · intro i hi ih a
        have go : akS ft nF lk tl tc nT i w = false → KX3_firstOfStem_28 N σ Q (nI w) (nI (i + 1)) := fun z => ih (fun v hv => by
          by_cases e : v = i
          · rw [e]; exact z
          · exact a v (by omega))
        refine BX3_firstOfStem_28 ⟨fun z => absurd z (nI_ge hi (by omega)), fun _ => ?_⟩
        rw [nI_1]
        refine C_isWhole hT (show i < (wL tl tc nT).length by omega) (fun fi => ⟨_, rfl, fun z => absurd z (by decide), fun _ => C_haveOneStem hF hT (show i < (wL tl tc nT).length by omega) hw (fun z => ⟨_, rfl, fun y => absurd y (by decide), fun _ => ?_⟩) (fun z => ⟨_, rfl, fun _ => go ?_, fun y => absurd rfl y⟩)⟩) (fun fi => ⟨_, rfl, fun _ => go ?_, fun z => absurd rfl z⟩)
        · have s : akS ft nF lk tl tc nT i w = true := akS_iff.mpr ⟨akP_iff.mpr ⟨fi, by omega⟩, pw, z⟩
          have : fs (akS ft nF lk tl tc nT) w = i := lst_eq (by omega) a (fun _ => s)
          have h := hP pw
          rw [this] at h
          exact h
        · cases c : akS ft nF lk tl tc nT i w
          · rfl
          · exact absurd (akS_iff.mp c).2.2 z
        · cases c : akS ft nF lk tl tc nT i w
          · rfl
          · have := (akP_iff.mp (akS_iff.mp c).1).1
            rw [fi] at this; cases this
    exact L 0 (by omega) (fun v hv => absurd hv (Nat.not_lt_zero v))
  · intro z
    exact q (nI_le (akP_iff.mp z).2 (by omega))
  · intro z
    have := (akP_iff.mp z).1
    rw [f] at this; cases this
/-- the endings that the class has found, as bits -/
def GE (ft : Nat → Nat) (nF lk : Nat) (tl : Nat → Nat) (tc : Nat → Nat → Int32) (nT n : Nat) (σ : Sg) : Prop := ∃ em : Nat → Nat, ∀ f, f < 96 → em f < 16777216 ∧ σ.1 98 f = nI (em f) ∧ ∀ a, a < 24 → (em f).testBit a = EE (akS ft nF lk tl tc nT) (akP tl tc nT) (akL ft nF lk tl tc nT) n f a
theorem C_gather (hF : RF nF lk ft σ) (hT : RT nF nT tl tc σ) (h : ∀ σ', Rw 98 σ σ' → GE ft nF lk tl tc nT (wL tl tc nT).length σ' → Q none σ') : EvM (N + 4) mX3_gatherEndings [.ref 22] σ Q := by
  have g5 := hT.2.2.2.2.1
  have hl := wL_len (tl := tl) (tc := tc) nT (fun t ht => (hT.2.2.2.1 t ht).2.1)
  have nT8 := hT.1
  have fr : ∀ σ', Rw 98 σ σ' → RF nF lk ft σ' ∧ RT nF nT tl tc σ' ∧ σ'.1 5 9 = nI (wL tl tc nT).length := fun σ' r => by
    have c : Chg [0] σ σ' := r.c0 (fun _ => rfl)
    exact ⟨hF.fr (c.sm (by decide)), hT.fr (c.sm (by decide)), by rw [r.1 5 (by decide)]; exact g5⟩
  have B : ∀ i, i ≤ (wL tl tc nT).length → ∀ σ', Rw 98 σ σ' → GE ft nF lk tl tc nT i σ' → KX3_gatherEndings_23 N σ' Q (nI i) := by
    refine for_up ?_ ?_
    · intro σ' r e
      exact BX3_gatherEndings_23 ⟨fun _ => h σ' r e, fun q => absurd (by rw [(fr σ' r).2.2]; exact nI_le (Nat.le_refl _) (by omega)) q⟩
    · intro i hi ih σ' r e
      obtain ⟨hF', hT', e59⟩ := fr σ' r
      have Es : ∀ f x, EE (akS ft nF lk tl tc nT) (akP tl tc nT) (akL ft nF lk tl tc nT) (i + 1) f x = (EE (akS ft nF lk tl tc nT) (akP tl tc nT) (akL ft nF lk tl tc nT) i f x || (akP tl tc nT i && fs (akS ft nF lk tl tc nT) i == f && akL ft nF lk tl tc nT i == x)) := fun _ _ => rfl
      refine BX3_gatherEndings_23 ⟨fun q => absurd q (by rw [e59]; exact nI_ge hi (by omega)), fun _ => C_firstOfStem hF' hT' hi (fun np => ⟨_, rfl, C_lastSignOfWord hF' hT' hi ⟨_, rfl, fun _ => ?_, fun q => absurd (by decide) q⟩⟩) (fun p => ⟨_, rfl, C_lastSignOfWord hF' hT' hi ⟨_, rfl, ?_⟩⟩)⟩
      · rw [nI_1]
        refine ih σ' r ?_
        obtain ⟨em, e⟩ := e
        refine ⟨em, fun f hf => ⟨(e f hf).1, (e f hf).2.1, fun a ha => ?_⟩⟩
        rw [(e f hf).2.2 a ha, Es, show akP tl tc nT i = false by simpa using np]
        simp
      · have fl := fs_le (sm := akS ft nF lk tl tc nT) i
        obtain ⟨l1, l2⟩ := akL_ok (lk := lk) hF hT hi (akP_iff.mp p).1
        rw [l2]
        refine ⟨fun q => absurd q (nI_pos (by omega)), fun _ => ⟨fun q => absurd q (nI_pos (by omega)), fun _ => ⟨fun q => absurd q (nI_ge (b := 24) l1 (by omega)), fun _ => ⟨nvin (by omega) (by omega), nvin (by omega) (by omega), ?_⟩⟩⟩⟩
        rw [cl (by omega), nI_1, one_shl (by omega)]
        obtain ⟨em, e⟩ := e
        obtain ⟨m1, m2, m3⟩ := e (fs (akS ft nF lk tl tc nT) i) (by omega)
        rw [m2, nx_or]
        refine ih _ r.u1 ⟨fun f => if f = fs (akS ft nF lk tl tc nT) i then em f ||| 2 ^ akL ft nF lk tl tc nT i else em f, fun f hf => ?_⟩
        dsimp only
        by_cases z : f = fs (akS ft nF lk tl tc nT) i
        · subst z
          rw [if_pos rfl, u1_same]
          refine ⟨Nat.or_lt_two_pow (n := 24) m1 (Nat.pow_lt_pow_right (by decide) l1), rfl, fun a ha => ?_⟩
          rw [pow_tb, m3 a ha, Es, p]
          by_cases y : akL ft nF lk tl tc nT i = a
          · simp [y]
          · rw [show (akL ft nF lk tl tc nT i == a) = false by simpa using y, show decide (akL ft nF lk tl tc nT i = a) = false by simpa using y]
            simp
        · rw [if_neg z, u1_slot z]
          refine ⟨(e f hf).1, (e f hf).2.1, fun a ha => ?_⟩
          rw [(e f hf).2.2 a ha, Es]
          have : (fs (akS ft nF lk tl tc nT) i == f) = false := by simpa using fun y : fs (akS ft nF lk tl tc nT) i = f => z y.symm
          rw [this]; simp
  have A : ∀ i, i ≤ 96 → ∀ σ', Rw 98 σ σ' → (∀ s, s < i → σ'.1 98 s = 0) → KX3_gatherEndings_2 N σ' Q (nI i) := by
    refine for_up ?_ ?_
    · intro σ' r e
      exact BX3_gatherEndings_2 ⟨fun _ => B 0 (by omega) σ' r ⟨fun _ => 0, fun f hf => ⟨show (0 : Nat) < 16777216 from by decide, e f hf, fun a _ => by simp [EE]⟩⟩, fun q => absurd (show (96 : Int32) ≤ nI 96 by decide) q⟩
    · intro i hi ih σ' r e
      refine BX3_gatherEndings_2 ⟨fun q => absurd q (nI_ge (b := 96) hi (by omega)), fun _ => ⟨nvin (by omega) (by omega), ?_⟩⟩
      rw [cl (by omega), nI_1]
      refine ih _ r.u1 (fun s hs => ?_)
      by_cases z : s = i
      · rw [z, u1_same]
      · rw [u1_slot z]; exact e s (by omega)
  exact EX3_gatherEndings (A 0 (by omega) σ Rw.rf (fun s hs => absurd hs (Nat.not_lt_zero s)))
theorem C_stems {n a b : Nat} (ha : a < 24) (hb : b < 24) (hG : GE ft nF lk tl tc nT n σ) (h : Q (some (.int (nI (Aa (akS ft nF lk tl tc nT) (akP tl tc nT) (akL ft nF lk tl tc nT) n a b)))) σ) : EvM N mX3_stemsOfBoth [.ref 22, .int (nI a), .int (nI b)] σ Q := by
  obtain ⟨em, e⟩ := hG
  have L : ∀ i, i ≤ 96 → KX3_stemsOfBoth_5 N σ Q (nI a) (nI b) (nI (cnt (fun f => EE (akS ft nF lk tl tc nT) (akP tl tc nT) (akL ft nF lk tl tc nT) n f a && EE (akS ft nF lk tl tc nT) (akP tl tc nT) (akL ft nF lk tl tc nT) n f b) i)) (nI i) := by
    refine for_up ?_ ?_
    · exact BX3_stemsOfBoth_5 ⟨fun _ => h, fun q => absurd (show (96 : Int32) ≤ nI 96 by decide) q⟩
    · intro i hi ih
      obtain ⟨m1, m2, m3⟩ := e i hi
      refine BX3_stemsOfBoth_5 ⟨fun q => absurd q (nI_ge (b := 96) hi (by omega)), fun _ => ⟨nvin (by omega) (by omega), nvin (by omega) (by omega), ?_⟩⟩
      rw [cl (by omega), m2, nI_1, nI_1, bit_two (by omega) ha hb, m3 a ha, m3 b hb]
      rw [cnt_s] at ih
      refine ⟨fun q => ?_, fun q => ?_⟩
      · rw [if_pos q] at ih; exact ih
      · rw [if_neg q] at ih; exact ih
  exact EX3_stemsOfBoth (L 0 (by omega))
end AK3
