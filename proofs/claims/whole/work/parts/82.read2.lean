/-! ===== words that a table can sound, in the reference ===== -/
theorem shr3 {n k : Nat} (hn : n < 2147483648) (hk : k < 10) : (nI n >>> ((3 * nI k) &&& 31)) &&& 7 = nI (n / 8 ^ k % 8) := by
  have e : (3 : Int32) * nI k = nI (3 * k) := by rw [show (3 : Int32) = nI 3 from rfl, pk_mul]
  rw [e, pk_shrN (by omega) (nI (3 * k) &&& 31) (3 * k) (by rw [show ∀ j : Nat, j < 32 → ((nI j &&& 31).toBitVec.smod 32).toNat = j from by decide]; omega), Nat.pow_mul]
  exact pk_andN (Nat.lt_of_le_of_lt (Nat.div_le_self _ _) (by omega)) 3 (by decide)
theorem shr2 {n k : Nat} (hn : n < 2147483648) (hk : k < 15) : (nI n >>> ((2 * nI k) &&& 31)) &&& 3 = nI (n / 4 ^ k % 4) := by
  have e : (2 : Int32) * nI k = nI (2 * k) := by rw [show (2 : Int32) = nI 2 from rfl, pk_mul]
  rw [e, pk_shrN (by omega) (nI (2 * k) &&& 31) (2 * k) (by rw [show ∀ j : Nat, j < 32 → ((nI j &&& 31).toBitVec.smod 32).toNat = j from by decide]; omega), Nat.pow_mul]
  exact pk_andN (Nat.lt_of_le_of_lt (Nat.div_le_self _ _) (by omega)) 2 (by decide)
section RM
variable {N nF lk nT nW : Nat} {ft : Nat → Nat} {tl : Nat → Nat} {tc : Nat → Nat → Int32} {l rl : List Nat} {wn ws : Nat → Nat} {σ : Sg} {Q : Option Value → Sg → Prop}
theorem octW_lt {w : Nat} : ∀ i, (∀ j, j < i → pN ft nF lk tl tc nT l w j < 8) → octW ft nF lk tl tc nT l w i < 8 ^ i := by
  intro i
  induction i with
  | zero => intro _; exact Nat.one_pos
  | succ i ih =>
    intro h
    have := ih (fun j hj => h j (by omega))
    have := h i (by omega)
    unfold octW; rw [Nat.pow_succ]; omega
theorem octW_dig {w : Nat} : ∀ n, (∀ j, j < n → pN ft nF lk tl tc nT l w j < 8) → ∀ j, j < n → octW ft nF lk tl tc nT l w n / 8 ^ (n - 1 - j) % 8 = pN ft nF lk tl tc nT l w j := by
  intro n
  induction n with
  | zero => intro _ j hj; exact absurd hj (Nat.not_lt_zero j)
  | succ n ih =>
    intro h j hj
    have p8 := h n (by omega)
    show (8 * octW ft nF lk tl tc nT l w n + pN ft nF lk tl tc nT l w n) / 8 ^ (n + 1 - 1 - j) % 8 = _
    by_cases e : j = n
    · subst e
      rw [show j + 1 - 1 - j = 0 by omega, Nat.pow_zero, Nat.div_one]
      omega
    · rw [show n + 1 - 1 - j = (n - 1 - j) + 1 by omega, Nat.pow_succ, Nat.mul_comm (8 ^ _) 8, ← Nat.div_div_eq_div_mul, show (8 * octW ft nF lk tl tc nT l w n + pN ft nF lk tl tc nT l w n) / 8 = octW ft nF lk tl tc nT l w n by omega]
      exact ih (fun j hj => h j (by omega)) j (by omega)
theorem M_findTongue (hW : RW nW wn ws σ) (h : ∀ σ', Rw 274 σ σ' → (∀ n, n ≤ 6 → ∀ s, s < 4096 → σ'.1 274 (4096 * n + s) = b2 (iW nW wn ws n s)) → Q none σ') : EvM N mX10_findTongue [.ref 245] σ Q := by
  obtain ⟨g1, g2, g3, g4, g5⟩ := hW
  have p4 : ∀ n, n ≤ 6 → 4 ^ n ≤ 4096 := fun n hn => by
    have : 4 ^ n ≤ 4 ^ 6 := Nat.pow_le_pow_right (by decide) hn
    have e46 : (4 : Nat) ^ 6 = 4096 := by decide
    omega
  have B : ∀ w, w ≤ nW → ∀ σ', Rw 274 σ σ' → (∀ n, n ≤ 6 → ∀ s, s < 4096 → σ'.1 274 (4096 * n + s) = b2 (iW w wn ws n s)) → KX10_findTongue_24 N σ' Q (nI w) := by
    refine for_up ?_ ?_
    · intro σ' r e
      exact BX10_findTongue_24 ⟨fun _ => h σ' r e, fun q => absurd (by rw [r.1 245 (by decide), g3]; exact nI_le (Nat.le_refl _) (by omega)) q⟩
    · intro w hw ih σ' r e
      obtain ⟨w1, w2, w3, w4, w5⟩ := g4 w hw
      have p6 := p4 (wn w) w2
      refine BX10_findTongue_24 ⟨fun q => absurd q (by rw [r.1 245 (by decide), g3]; exact nI_ge hw (by omega)), fun _ => ⟨nvin (by omega) (by omega), nvin (by omega) (by omega), ?_⟩⟩
      rw [cl (show w < 2147483648 by omega), r.1 268 (by decide), r.1 269 (by decide), w4, w5, show (4096 : Int32) = nI 4096 from rfl, pk_mul, nI_add, cl (by omega), nI_1, show vp_nar .boolean 1 = b2 true from nar_b2 true]
      refine ⟨nvin (by omega) (by omega), ih _ r.u1 (fun n hn s hs => ?_)⟩
      have st : iW (w + 1) wn ws n s = (iW w wn ws n s || (wn w == n && ws w == s)) := by
        unfold iW
        show (!(allB (fun w => !(wn w == n && ws w == s)) w && !(wn w == n && ws w == s))) = _
        cases allB (fun w => !(wn w == n && ws w == s)) w <;> cases (wn w == n && ws w == s) <;> rfl
      rw [st]
      by_cases z : n = wn w ∧ s = ws w
      · obtain ⟨rfl, rfl⟩ := z
        rw [u1_same]
        simp
      · rw [u1_slot (by omega), e n hn s hs]
        have : (wn w == n && ws w == s) = false := by
          cases y : (wn w == n && ws w == s)
          · rfl
          · simp only [Bool.and_eq_true, beq_iff_eq] at y
            exact absurd ⟨y.1.symm, y.2.symm⟩ z
        rw [this, Bool.or_false]
  have A : ∀ i, i ≤ 28672 → ∀ σ', Rw 274 σ σ' → (∀ s, s < i → σ'.1 274 s = 0) → KX10_findTongue_2 N σ' Q (nI i) := by
    refine for_up ?_ ?_
    · intro σ' r e
      exact BX10_findTongue_2 ⟨fun _ => B 0 (by omega) σ' r (fun n hn s hs => by rw [e _ (by omega)]; rfl), fun q => absurd (show (28672 : Int32) ≤ nI 28672 by decide) q⟩
    · intro i hi ih σ' r e
      refine BX10_findTongue_2 ⟨fun q => absurd q (nI_ge (b := 28672) hi (by omega)), fun _ => ⟨nvin (by omega) (by omega), ?_⟩⟩
      rw [cl (by omega), nI_1, show vp_nar .boolean 0 = b2 false from nar_b2 false]
      refine ih _ r.u1 (fun s hs => ?_)
      by_cases z : s = i
      · rw [z, u1_same]; rfl
      · rw [u1_slot z]; exact e s (by omega)
  exact EX10_findTongue (A 0 (by omega) σ Rw.rf (fun s hs => absurd hs (Nat.not_lt_zero s)))
/-- the reference's rows -/
def RWm (ft : Nat → Nat) (nF lk : Nat) (tl : Nat → Nat) (tc : Nat → Nat → Int32) (nT : Nat) (l rl : List Nat) (σ : Sg) : Prop := σ.1 245 36 = nI rl.length ∧ ∀ r, r < rl.length → σ.1 272 r = nI (wAt (wL tl tc nT) (rl.getD r 0)).2.2.1 ∧ σ.1 273 r = nI (octW ft nF lk tl tc nT l (rl.getD r 0) (wAt (wL tl tc nT) (rl.getD r 0)).2.2.1)
def Mk (σ σ' : Sg) : Prop := (∀ a, a ≠ 245 → a ≠ 272 → a ≠ 273 → ∀ j, σ'.1 a j = σ.1 a j) ∧ (∀ j, j ≠ 36 → σ'.1 245 j = σ.1 245 j) ∧ σ'.2 = σ.2
theorem Mk.rf : Mk σ σ := ⟨fun _ _ _ _ _ => rfl, fun _ _ => rfl, rfl⟩
theorem Mk.u {σ' : Sg} {k j : Nat} {x : Int32} (h : Mk σ σ') (hk : (k = 245 ∧ j = 36) ∨ k = 272 ∨ k = 273) : Mk σ (u1 σ' k j x) := by
  refine ⟨fun a h1 h2 h3 b => ?_, fun b hb => ?_, h.2.2⟩
  · rw [u1_cell (by omega)]; exact h.1 a h1 h2 h3 b
  · rw [u1_other (by omega)]; exact h.2.1 b hb
theorem Mk.chg {σ' : Sg} (h : Mk σ σ') : Chg [0] σ σ' := by
  refine ⟨fun a j e => ?_, fun a j _ => by rw [h.2.2]⟩
  by_cases z : a = 245
  · subst z
    refine h.2.1 j (fun y => e ?_)
    subst y; exact List.mem_cons_self
  · refine h.1 a z (fun y => e ?_) (fun y => e ?_) j <;> (subst y; exact List.mem_cons_self)
theorem M_findReadable (hF : RF nF lk ft σ) (hT : RT nF nT tl tc σ) (hG : SG nF lk ft σ) (hWS : WS (wL tl tc nT) σ) (hl : l.length ≤ 6) (h6 : ∀ s, s < 24 → σ.1 271 s = plc l s) {B : Nat} (hB : B < 256) (h : ∀ σ', Mk σ σ' → RWm ft nF lk tl tc nT l (rdL (rdw ft nF lk tl tc nT l B) (wL tl tc nT).length) σ' → Q none σ') : EvM (N + 2) mX10_findReadable [.ref 245, .int (nI B)] σ Q := by
  have nT8 := hT.1
  have hl9 := wL_len (tl := tl) (tc := tc) nT (fun t ht => (hT.2.2.2.1 t ht).2.1)
  have fr : ∀ σ', Mk σ σ' → RF nF lk ft σ' ∧ RT nF nT tl tc σ' ∧ SG nF lk ft σ' ∧ WS (wL tl tc nT) σ' ∧ (∀ s, s < 24 → σ'.1 271 s = plc l s) := fun σ' m => by
    refine ⟨hF.fr (m.chg.sm (by decide)), hT.fr (m.chg.sm (by decide)), fun x hx => by rw [m.1 247 (by decide) (by decide) (by decide)]; exact hG x hx, ⟨by rw [m.2.1 7 (by decide)]; exact hWS.1, fun w hw => ?_⟩, fun s hs => by rw [m.1 271 (by decide) (by decide) (by decide)]; exact h6 s hs⟩
    rw [m.1 250 (by decide) (by decide) (by decide), m.1 251 (by decide) (by decide) (by decide), m.1 252 (by decide) (by decide) (by decide), m.1 253 (by decide) (by decide) (by decide)]
    exact hWS.2 w hw
  have L : ∀ w, w ≤ (wL tl tc nT).length → ∀ σ', Mk σ σ' → RWm ft nF lk tl tc nT l (rdL (rdw ft nF lk tl tc nT l B) w) σ' → KX10_findReadable_7 N σ' Q (nI B) (nI w) := by
    refine for_up ?_ ?_
    · intro σ' c e
      refine BX10_findReadable_7 ⟨fun _ => h σ' c e, fun q => absurd ?_ q⟩
      rw [(fr σ' c).2.2.2.1.1]; exact nI_le (Nat.le_refl _) (by omega)
    · intro w hw ih σ' m e
      obtain ⟨hF', hT', hG', hW', h6'⟩ := fr σ' m
      obtain ⟨⟨k1, k2, k3, k4, k5⟩, _, h24⟩ := hT.wok hw
      obtain ⟨w1, w2, w3, w4⟩ := hW'.2 w hw
      have rl9 := (rdL_len (p := rdw ft nF lk tl tc nT l B) w).1
      have un : rdL (rdw ft nF lk tl tc nT l B) (w + 1) = if rdw ft nF lk tl tc nT l B w = true then rdL (rdw ft nF lk tl tc nT l B) w ++ [w] else rdL (rdw ft nF lk tl tc nT l B) w := rfl
      have nw : vp_in (nI w) 104 := nvin (by omega) (by omega)
      have cw : (nI w).toNatClampNeg = w := cl (by omega)
      have no : ∀ i, i ≤ (wAt (wL tl tc nT) w).2.2.1 → ∀ y : Int32, ¬ rdw ft nF lk tl tc nT l B w = true → KX10_findReadable_61 N σ' Q (nI B) (nI w) 0 y (nI i) := by
        intro i hi y z
        rw [un, if_neg z] at ih
        have g := ih σ' m e
        refine BX10_findReadable_61 ⟨nw, fun _ => ⟨fun _ => ?_, fun q => absurd rfl q⟩, fun _ => ⟨fun _ => ⟨fun _ => ?_, fun q => absurd rfl q⟩, fun q => absurd rfl q⟩⟩
        · rw [nI_1]; exact g
        · rw [nI_1]; exact g
      have nb : (wAt (wL tl tc nT) w).2.2.2 = false → ¬ rdw ft nF lk tl tc nT l B w = true := fun f z => by
        obtain ⟨_, _, z3⟩ := rdw_ok.mp z
        rw [f] at k4
        have : ¬ noGap (tc (wAt (wL tl tc nT) w).1) (wAt (wL tl tc nT) w).2.1 (wAt (wL tl tc nT) w).2.2.1 = true := fun y => by rw [← k4] at y; cases y
        rw [noGap_iff] at this
        apply this
        intro i hi y
        apply z3 i hi
        unfold wS
        rw [y]
        rfl
      refine BX10_findReadable_7 ⟨fun q => absurd q (by rw [hW'.1]; exact nI_ge hw (by omega)), fun _ => ⟨nw, ?_⟩⟩
      rw [cw, w4, w3, w1, bit_y (by omega) (by omega)]
      refine ⟨fun q => no 0 (by omega) 0 (nb (b2_0.1.mp q)), fun q => ⟨nw, fun q2 => no 0 (by omega) 0 (fun z => ?_), fun q2 => ⟨nw, fun q3 => ?_, fun q3 => no 0 (by omega) 0 (fun z => q3 (rdw_ok.mp z).2.1)⟩⟩⟩
      · have := (rdw_ok.mp z).1
        have := (nI_ltI (a := 6) (by omega) (by omega)).mp q2
        omega
      · have fl : (wAt (wL tl tc nT) w).2.2.2 = true := b2_0.2.mp q
        have l6 : (wAt (wL tl tc nT) w).2.2.1 ≤ 6 := by
          by_cases z : (wAt (wL tl tc nT) w).2.2.1 ≤ 6
          · exact z
          · exact absurd (nI_lt (a := 6) (by omega) (by omega)) q2
        have J : ∀ i, i ≤ (wAt (wL tl tc nT) w).2.2.1 → (∀ j, j < i → ¬ plS l (wS ft nF lk tc (wAt (wL tl tc nT) w) j) = -4) → KX10_findReadable_61 N σ' Q (nI B) (nI w) 1 (nI (octW ft nF lk tl tc nT l w i)) (nI i) := by
          refine for_up ?_ ?_
          · intro a
            rw [un, if_pos (rdw_ok.mpr ⟨l6, q3, a⟩)] at ih
            refine BX10_findReadable_61 ⟨nw, fun _ => ⟨fun z => absurd z (by decide), fun _ => ⟨nw, ?_⟩⟩, fun z => absurd (by rw [cw, w3]; exact nI_le (Nat.le_refl _) (by omega)) z⟩
            rw [e.1, cw, w3, cl (by omega), u1_cell (show 245 ≠ 272 by decide), e.1, u1_cell (show 245 ≠ 273 by decide), u1_cell (show 245 ≠ 272 by decide), e.1, cl (by omega), nI_1, nI_1]
            refine ⟨nvin (by omega) (by omega), nvin (by omega) (by omega), ih _ (((m.u (by omega)).u (by omega)).u (by omega)) ⟨by rw [u1_same, List.length_append]; rfl, fun r hr0 => ?_⟩⟩
            rw [List.length_append] at hr0
            have hr2 : r < (rdL (rdw ft nF lk tl tc nT l B) w).length + 1 := hr0
            rw [u1_cell (show 272 ≠ 245 by decide), u1_cell (show 272 ≠ 273 by decide), u1_cell (show 273 ≠ 245 by decide)]
            by_cases z : r = (rdL (rdw ft nF lk tl tc nT l B) w).length
            · rw [z, u1_same, u1_same, gd_r]; exact ⟨rfl, rfl⟩
            · rw [u1_slot z, u1_slot z, u1_cell (by decide), gd_l (by omega)]; exact e.2 r (by omega)
          · intro i hi ihi a
            obtain ⟨s, s1, _, s3⟩ := wS_sign (lk := lk) hF hT hw hi fl
            have n24 := hF.1
            have pe : plS l (wS ft nF lk tc (wAt (wL tl tc nT) w) i) = plc l s := by rw [s3]; exact plS_nI (by omega)
            refine BX10_findReadable_61 ⟨nw, fun z => absurd z (by rw [cw, w3]; exact nI_ge hi (by omega)), fun _ => ⟨fun z => absurd z (by decide), fun _ => M_wordAt hF' hT' hG' hW' hw hi ⟨_, rfl, ?_⟩⟩⟩
            rw [s3, cl (by omega), h6' s (by omega), ← pe]
            refine ⟨nvin (by omega) (by omega), fun z => ?_, fun z => ?_⟩
            · rw [nI_1]; exact no (i + 1) (by omega) _ (fun y => (rdw_ok.mp y).2.2 i hi z)
            · obtain ⟨p1, p2⟩ := pN_ok (ft := ft) (nF := nF) (lk := lk) (tl := tl) (tc := tc) (nT := nT) (w := w) hl z
              rw [p2, show (8 : Int32) = nI 8 from rfl, pk_mul, nI_add, nI_1]
              refine ihi (fun j hj => ?_)
              by_cases y : j = i
              · rw [y]; exact z
              · exact a j (by omega)
        exact J 0 (by omega) (fun j hj => absurd hj (Nat.not_lt_zero j))
  exact EX10_findReadable (L 0 (by omega) _ (Mk.rf.u (by omega)) ⟨u1_same, fun r hr => absurd hr (Nat.not_lt_zero r)⟩)
theorem M_readBy (hrl : rl.length ≤ 96) (hl : l.length ≤ 6) (hR : RWm ft nF lk tl tc nT l rl σ) (hok : ∀ r, r < rl.length → (wAt (wL tl tc nT) (rl.getD r 0)).2.2.1 ≤ 6 ∧ ∀ i, i < (wAt (wL tl tc nT) (rl.getD r 0)).2.2.1 → pN ft nF lk tl tc nT l (rl.getD r 0) i < l.length) (hI : ∀ n, n ≤ 6 → ∀ s, s < 4096 → σ.1 274 (4096 * n + s) = b2 (iW nW wn ws n s)) {sd : Nat → Nat} (hs4 : ∀ p, sd p < 4) {S : Nat} (hS : S < 4096) (hs : ∀ p, p < l.length → S / 4 ^ p % 4 = sd p) (h : Q (some (.int (nI (rdC ft nF lk tl tc nT l nW wn ws rl sd)))) σ) : EvM N mX10_readBy [.ref 245, .int (nI S)] σ Q := by
  have L : ∀ r, r ≤ rl.length → KX10_readBy_4 N σ Q (nI S) (nI (cnt (fun r => iW nW wn ws (wAt (wL tl tc nT) (rl.getD r 0)).2.2.1 (pkW ft nF lk tl tc nT l sd (rl.getD r 0) (wAt (wL tl tc nT) (rl.getD r 0)).2.2.1)) r)) (nI r) := by
    refine for_up ?_ ?_
    · exact BX10_readBy_4 ⟨fun _ => h, fun q => absurd (by rw [hR.1]; exact nI_le (Nat.le_refl _) (by omega)) q⟩
    · intro r hr ih
      obtain ⟨r1, r2⟩ := hR.2 r hr
      obtain ⟨o1, o2⟩ := hok r hr
      have nr : vp_in (nI r) 104 := nvin (by omega) (by omega)
      have cr : (nI r).toNatClampNeg = r := cl (by omega)
      have e46 : (4 : Nat) ^ 6 = 4096 := by decide
      have e86 : (8 : Nat) ^ 6 = 262144 := by decide
      have p8 : ∀ j, j < (wAt (wL tl tc nT) (rl.getD r 0)).2.2.1 → pN ft nF lk tl tc nT l (rl.getD r 0) j < 8 := fun j hj => by have := o2 j hj; omega
      have ol := octW_lt (ft := ft) (nF := nF) (lk := lk) (tl := tl) (tc := tc) (nT := nT) (l := l) (w := rl.getD r 0) _ p8
      have od := octW_dig (ft := ft) (nF := nF) (lk := lk) (tl := tl) (tc := tc) (nT := nT) (l := l) (w := rl.getD r 0) _ p8
      have o8 : 8 ^ (wAt (wL tl tc nT) (rl.getD r 0)).2.2.1 ≤ 8 ^ 6 := Nat.pow_le_pow_right (by decide) o1
      refine BX10_readBy_4 ⟨fun q => absurd q (by rw [hR.1]; exact nI_ge hr (by omega)), fun _ => ⟨nr, ?_⟩⟩
      rw [cr, r1, xk_sub]
      have J : ∀ k, k ≤ (wAt (wL tl tc nT) (rl.getD r 0)).2.2.1 → KX10_readBy_25 N σ Q (nI S) (nI (cnt (fun r => iW nW wn ws (wAt (wL tl tc nT) (rl.getD r 0)).2.2.1 (pkW ft nF lk tl tc nT l sd (rl.getD r 0) (wAt (wL tl tc nT) (rl.getD r 0)).2.2.1)) r)) (nI r) (nI (pkW ft nF lk tl tc nT l sd (rl.getD r 0) ((wAt (wL tl tc nT) (rl.getD r 0)).2.2.1 - k))) (xk k) := by
        intro k
        induction k with
        | zero =>
          intro _
          rw [Nat.sub_zero]
          have pl := pkW_lt (ft := ft) (nF := nF) (lk := lk) (tl := tl) (tc := tc) (nT := nT) (l := l) (w := rl.getD r 0) hs4 (wAt (wL tl tc nT) (rl.getD r 0)).2.2.1
          have p6 : 4 ^ (wAt (wL tl tc nT) (rl.getD r 0)).2.2.1 ≤ 4 ^ 6 := Nat.pow_le_pow_right (by decide) o1
          refine BX10_readBy_25 ⟨fun _ => ⟨nr, ?_⟩, fun q => absurd (show (-1 : Int32) < 0 by decide) q⟩
          rw [cr, r1, show (4096 : Int32) = nI 4096 from rfl, pk_mul, nI_add, cl (by omega), hI _ o1 _ (by omega)]
          rw [cnt_s] at ih
          refine ⟨nvin (by omega) (by omega), fun q => ?_, fun q => ?_⟩
          · rw [if_neg (by rw [b2_0.1.mp q]; simp)] at ih
            rw [Int32.add_zero, nI_1]; exact ih
          · rw [if_pos (b2_0.2.mp q)] at ih
            rw [nI_1, nI_1]; exact ih
        | succ k ihk =>
          intro hk
          have dg := od ((wAt (wL tl tc nT) (rl.getD r 0)).2.2.1 - (k + 1)) (by omega)
          rw [show (wAt (wL tl tc nT) (rl.getD r 0)).2.2.1 - 1 - ((wAt (wL tl tc nT) (rl.getD r 0)).2.2.1 - (k + 1)) = k by omega] at dg
          have p6 := o2 ((wAt (wL tl tc nT) (rl.getD r 0)).2.2.1 - (k + 1)) (by omega)
          show KX10_readBy_25 N σ Q (nI S) _ (nI r) _ (nI k)
          refine BX10_readBy_25 ⟨fun q => absurd q (nI_pos (by omega)), fun _ => ⟨nr, ?_⟩⟩
          rw [cr, r2, shr3 (by omega) (by omega), dg, shr2 (by omega) (by omega), hs _ p6, show (4 : Int32) = nI 4 from rfl, pk_mul, nI_add, xk_add]
          have := ihk (by omega)
          rw [show (wAt (wL tl tc nT) (rl.getD r 0)).2.2.1 - k = (wAt (wL tl tc nT) (rl.getD r 0)).2.2.1 - (k + 1) + 1 by omega] at this
          exact this
      have := J _ (Nat.le_refl _)
      rw [Nat.sub_self] at this
      exact this
  exact EX10_readBy (L 0 (by omega))
theorem C_areTexts (hT : RT nF nT tl tc σ) {x : Int32} (h1 : ∀ B, B < 2 ^ nT → x = nI B → Q (some (.int 1)) σ) (h0 : ¬ (∃ B, B < 2 ^ nT ∧ x = nI B) → Q (some (.int 0)) σ) : EvM N mX7_areTexts [.ref 5, .int x] σ Q := by
  have nT8 := hT.1
  have p8 : 2 ^ nT ≤ 2 ^ 8 := Nat.pow_le_pow_right (by decide) nT8
  have e28 : (2 : Nat) ^ 8 = 256 := by decide
  refine EX7_areTexts ⟨fun q => h0 ?_, fun q => ?_⟩
  · rintro ⟨B, hB, rfl⟩; exact nI_pos (by omega) q
  · rw [hT.2.1, one_shl (by omega)]
    rw [i_lt, li0'] at q
    refine ⟨fun z => h0 ?_, fun z => ?_⟩
    · rintro ⟨B, hB, rfl⟩; exact nI_ge hB (by omega) z
    · rw [i_le, i_nI (by omega)] at z
      exact h1 x.toInt.toNat (by omega) (i_of (by omega) (by omega))
theorem M_areTexts (hT : RT nF nT tl tc σ) {x : Int32} (h1 : ∀ B, B < 2 ^ nT → x = nI B → Q (some (.int 1)) σ) (h0 : ¬ (∃ B, B < 2 ^ nT ∧ x = nI B) → Q (some (.int 0)) σ) : EvM (N + 1) mX10_areTexts [.ref 245, .int x] σ Q := by
  have nT8 := hT.1
  have p8 : 2 ^ nT ≤ 2 ^ 8 := Nat.pow_le_pow_right (by decide) nT8
  have p0 := Nat.two_pow_pos nT
  have e28 : (2 : Nat) ^ 8 = 256 := by decide
  have lim : ((nI (2 ^ nT) - 1 : Int32)).toInt = (2 ^ nT - 1 : Nat) := by rw [show nI (2 ^ nT) - 1 = nI (2 ^ nT - 1) from pk_sub (b := 1) p0, i_nI (by omega)]
  refine EX10_areTexts ⟨fun q => ?_, fun q => h0 ?_⟩
  · rw [hT.2.2.1, one_shl (by omega), i_l, i_l, lim] at q
    exact h1 x.toInt.toNat (by omega) (i_of (by omega) (by omega))
  · rintro ⟨B, hB, rfl⟩
    apply q
    rw [hT.2.2.1, one_shl (by omega), i_l, i_l, lim, i_nI (by omega)]
    exact ⟨Int.natCast_nonneg _, Int.ofNat_le.mpr (Nat.le_sub_one_of_lt hB)⟩
theorem C_spread {S : Nat} (hS : S < 4096) (hl : l.length ≤ 6) (h4 : σ.1 122 4 = nI l.length) (h : ∀ σ', Rw 225 σ σ' → (∀ p, p < l.length → σ'.1 225 p = nI (S / 4 ^ p % 4)) → Q none σ') : EvM N mX8_spread [.ref 122, .int (nI S)] σ Q := by
  have L : ∀ i, i ≤ l.length → ∀ σ', Rw 225 σ σ' → (∀ p, p < i → σ'.1 225 p = nI (S / 4 ^ p % 4)) → KX8_spread_2 N σ' Q (nI S) (nI i) := by
    refine for_up ?_ ?_
    · intro σ' r e
      exact BX8_spread_2 ⟨fun _ => h σ' r e, fun q => absurd (by rw [r.1 122 (by decide), h4]; exact nI_le (Nat.le_refl _) (by omega)) q⟩
    · intro i hi ih σ' r e
      refine BX8_spread_2 ⟨fun q => absurd q (by rw [r.1 122 (by decide), h4]; exact nI_ge hi (by omega)), fun _ => ⟨nvin (by omega) (by omega), ?_⟩⟩
      rw [cl (by omega), shr2 (by omega) (by omega), nI_1]
      refine ih _ r.u1 (fun p hp => ?_)
      by_cases z : p = i
      · rw [z, u1_same]
      · rw [u1_slot z]; exact e p (by omega)
  exact EX8_spread (L 0 (by omega) σ Rw.rf (fun p hp => absurd hp (Nat.not_lt_zero p)))
theorem rd_ok (hl : l.length ≤ 6) {B n : Nat} : ∀ r, r < (rdL (rdw ft nF lk tl tc nT l B) n).length → (wAt (wL tl tc nT) ((rdL (rdw ft nF lk tl tc nT l B) n).getD r 0)).2.2.1 ≤ 6 ∧ ∀ i, i < (wAt (wL tl tc nT) ((rdL (rdw ft nF lk tl tc nT l B) n).getD r 0)).2.2.1 → pN ft nF lk tl tc nT l ((rdL (rdw ft nF lk tl tc nT l B) n).getD r 0) i < l.length := fun r hr => by
  obtain ⟨a, _, c⟩ := rdw_ok.mp ((rdL_len n).2 r hr).2
  exact ⟨a, fun i hi => (pN_ok hl (c i hi)).1⟩
end RM
theorem O_read {σ : Sg} (hR : Rel σ) (a b : Int32) : OPi mX9_read mX10_read [.int a, .int b] σ := by
  obtain ⟨nF, lk, ft, nT, tl, tc, hF, hT⟩ := hR.1
  obtain ⟨nW, wn, ws, hW⟩ := hR.2.2.2.2.1
  have nT8 := hT.1
  have hl9 := wL_len (tl := tl) (tc := tc) nT (fun t ht => (hT.2.2.2.1 t ht).2.1)
  have p8 : 2 ^ nT ≤ 2 ^ 8 := Nat.pow_le_pow_right (by decide) nT8
  have e28 : (2 : Nat) ^ 8 = 256 := by decide
  generalize hl : tbl (tT ft nF lk tl tc nT) 6 = l
  have l6 : l.length ≤ 6 := by rw [← hl]; exact tbl_len 6
  have p4 : 4 ^ l.length ≤ 4 ^ 6 := Nat.pow_le_pow_right (by decide) l6
  have e46 : (4 : Nat) ^ 6 = 4096 := by decide
  have q4 := Nat.pow_pos (n := l.length) (show 0 < 4 by decide)
  have lim : ((nI (4 ^ l.length) - 1 : Int32)).toInt = (4 ^ l.length - 1 : Nat) := by rw [show nI (4 ^ l.length) - 1 = nI (4 ^ l.length - 1) from pk_sub (b := 1) q4, i_nI (by omega)]
  have bad : ∀ σ1, Chg [0] σ σ1 → ¬ ((∃ B, B < 2 ^ nT ∧ a = nI B) ∧ 0 ≤ b.toInt ∧ b.toInt < (4 ^ l.length : Nat)) → ∃ v, some (Value.int (-1)) = some (.int v) ∧ ∃ v2, some (Value.int v) = some (.int v2) ∧ EvM 40 mX10_read [.ref 245, .int a, .int b] σ1 (fun r2 σ2 => r2 = some (.int v2) ∧ Rel σ2) := by
    intro σ1 c hb
    refine ⟨_, rfl, _, rfl, EX10_read (M_findTable (hF.fr (c.sm (by decide))) (hT.fr (c.sm (by decide))) (fun σ2 c2 g2 w2 t2 => ⟨rfl, ?_⟩))⟩
    rw [hl] at t2
    have cc := c.tr c2
    refine M_areTexts (hT.fr (cc.sm (by decide))) (fun B hB e => ⟨_, rfl, fun z => absurd z (by decide), fun _ => ⟨fun z => ?_, fun z => ⟨rfl, hR.q cc⟩⟩⟩) (fun n => ⟨_, rfl, fun _ => ⟨rfl, hR.q cc⟩, fun z => absurd rfl z⟩)
    exfalso
    rw [t2.1, shl4 (by omega), i_l, i_l, lim] at z
    exact hb ⟨⟨B, hB, e⟩, by omega, by omega⟩
  refine EX9_read (EX8_readWith (C_rank hF hT (fun σ1 c1 t1 => ⟨rfl, ?_⟩)))
  rw [hl] at t1
  have d1 := c1.chg
  have hF1 := hF.fr (d1.sm (by decide))
  have hT1 := hT.fr (d1.sm (by decide))
  refine C_areTexts hT1 (fun B hB e => ⟨_, rfl, fun z => absurd z (by decide), fun _ => ⟨fun q => bad σ1 d1 (fun z => ?_), fun q => ?_⟩⟩) (fun n => ⟨_, rfl, fun _ => bad σ1 d1 (fun z => n z.1), fun z => absurd rfl z⟩)
  · rw [i_lt, li0'] at q; omega
  · rw [t1.1, shl4 (by omega)]
    rw [i_lt, li0'] at q
    refine ⟨fun q2 => ?_, fun q2 => bad σ1 d1 (fun z => q2 ?_)⟩
    · subst e
      rw [i_lt, i_nI (by omega)] at q2
      obtain ⟨S, hS, rfl⟩ : ∃ S : Nat, S < 4 ^ l.length ∧ b = nI S := ⟨b.toInt.toNat, by omega, i_of (by omega) (by omega)⟩
      refine C_collect (l := l) hF1 hT1 l6 t1.2.2 (by omega) (fun σ2 c2 r2 => ⟨rfl, C_spread (l := l) (by omega) l6 (by rw [c2.2.1 4 (by decide)]; exact t1.1) (fun σ3 r3 s3 => ⟨rfl, ?_⟩)⟩)
      have d3 : Chg [0] σ σ3 := (d1.tr c2.chg).tr (r3.c0 (fun _ => rfl))
      have rl9 := (rdL_len (p := rdw ft nF lk tl tc nT l B) (wL tl tc nT).length).1
      have ok := rd_ok (ft := ft) (nF := nF) (lk := lk) (tl := tl) (tc := tc) (nT := nT) l6 (B := B) (n := (wL tl tc nT).length)
      refine C_readNow (hW.fr (d3.sm (by decide))) l6 (by omega) (rl := rdL (rdw ft nF lk tl tc nT l B) (wL tl tc nT).length) (ft := ft) (nF := nF) (lk := lk) (tl := tl) (tc := tc) (nT := nT) ⟨by rw [r3.1 122 (by decide)]; exact r2.1, fun r hr => ?_⟩ ok (sd := fun p => S / 4 ^ p % 4) (fun p => Nat.mod_lt _ (by decide)) s3 ⟨_, rfl, _, rfl, _, rfl, ?_⟩
      · have r9 := rdL_len (p := rdw ft nF lk tl tc nT l B) (wL tl tc nT).length
        rw [r3.1 224 (by decide)]
        exact ⟨(r2.2 r hr).1, fun i hi => by rw [r3.1 (128 + r) (by omega)]; exact (r2.2 r hr).2 i hi⟩
      · have hF3 := hF.fr (d3.sm (by decide))
        have hT3 := hT.fr (d3.sm (by decide))
        refine EX10_read (M_findTable hF3 hT3 (fun σ4 c4 g4 w4 t4 => ⟨rfl, ?_⟩))
        rw [hl] at t4
        have d4 := d3.tr c4
        have hF4 := hF.fr (d4.sm (by decide))
        have hT4 := hT.fr (d4.sm (by decide))
        refine M_areTexts hT4 (fun B' hB' e' => ⟨_, rfl, fun z => absurd z (by decide), fun _ => ?_⟩) (fun n => absurd ⟨B, hB, rfl⟩ n)
        rw [t4.1, shl4 (by omega), i_l, i_l, lim, i_nI (by omega)]
        refine ⟨fun _ => M_findTongue (hW.fr (d4.sm (by decide))) (fun σ5 r5 i5 => ⟨rfl, ?_⟩), fun z => absurd (by omega) z⟩
        have d5 := r5.c0 (fun _ => rfl)
        have hF5 := hF4.fr (d5.sm (by decide))
        have hT5 := hT4.fr (d5.sm (by decide))
        refine M_findReadable (l := l) hF5 hT5 (fun x hx => by rw [r5.1 247 (by decide)]; exact g4 x hx) ⟨by rw [r5.1 245 (by decide)]; exact w4.1, fun w hw => by rw [r5.1 250 (by decide), r5.1 251 (by decide), r5.1 252 (by decide), r5.1 253 (by decide)]; exact w4.2 w hw⟩ l6 (fun s hs => by rw [r5.1 271 (by decide)]; exact t4.2.2 s hs) (by omega) (fun σ6 m6 r6 => ⟨rfl, ?_⟩)
        refine M_readBy (l := l) (by omega) l6 r6 ok (nW := nW) (wn := wn) (ws := ws) (fun n hn s hs => by rw [m6.1 274 (by decide) (by decide) (by decide)]; exact i5 n hn s hs) (sd := fun p => S / 4 ^ p % 4) (fun p => Nat.mod_lt _ (by decide)) (by omega) (fun p _ => rfl) ⟨_, rfl, rfl, hR.q (d4.tr (d5.tr m6.chg))⟩
    · rw [i_lt, i_nI (by omega)]; exact z.2.2
