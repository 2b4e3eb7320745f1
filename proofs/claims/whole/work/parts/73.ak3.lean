/-! ===== words of one stem, as the reference counts them ===== -/
section AK4
variable {N nF lk nT : Nat} {ft : Nat → Nat} {tl : Nat → Nat} {tc : Nat → Nat → Int32} {σ : Sg} {Q : Option Value → Sg → Prop}
/-- one row of signs -/
def rowE (ft : Nat → Nat) (nF lk : Nat) (tl : Nat → Nat) (tc : Nat → Nat → Int32) (nT w v : Nat) : Prop := (wAt (wL tl tc nT) v).2.2.2 = true ∧ (wAt (wL tl tc nT) v).2.2.1 = (wAt (wL tl tc nT) w).2.2.1 ∧ ∀ i, i < (wAt (wL tl tc nT) w).2.2.1 → wS ft nF lk tc (wAt (wL tl tc nT) w) i = wS ft nF lk tc (wAt (wL tl tc nT) v) i
def alk (ft : Nat → Nat) (nF lk : Nat) (tl : Nat → Nat) (tc : Nat → Nat → Int32) (nT w v : Nat) : Nat := lst (fun i => !(wS ft nF lk tc (wAt (wL tl tc nT) w) i == wS ft nF lk tc (wAt (wL tl tc nT) v) i)) (wAt (wL tl tc nT) w).2.2.1
theorem alk_ok {w v : Nat} : alk ft nF lk tl tc nT w v ≤ (wAt (wL tl tc nT) w).2.2.1 ∧ (∀ i, i < alk ft nF lk tl tc nT w v → wS ft nF lk tc (wAt (wL tl tc nT) w) i = wS ft nF lk tc (wAt (wL tl tc nT) v) i) ∧ (alk ft nF lk tl tc nT w v < (wAt (wL tl tc nT) w).2.2.1 → ¬ wS ft nF lk tc (wAt (wL tl tc nT) w) (alk ft nF lk tl tc nT w v) = wS ft nF lk tc (wAt (wL tl tc nT) v) (alk ft nF lk tl tc nT w v)) := by
  obtain ⟨a1, a2, a3⟩ := lst_ok (fun i => !(wS ft nF lk tc (wAt (wL tl tc nT) w) i == wS ft nF lk tc (wAt (wL tl tc nT) v) i)) (wAt (wL tl tc nT) w).2.2.1
  refine ⟨a1, fun i hi => by simpa using a2 i hi, fun h => (by unfold alk; simpa using a3 h)⟩
theorem M_alikeTo (hF : RF nF lk ft σ) (hT : RT nF nT tl tc σ) (hG : SG nF lk ft σ) (hW : WS (wL tl tc nT) σ) {w v : Nat} (hw : w < (wL tl tc nT).length) (hv : v < (wL tl tc nT).length) (hl : (wAt (wL tl tc nT) v).2.2.1 = (wAt (wL tl tc nT) w).2.2.1) (h : Q (some (.int (nI (alk ft nF lk tl tc nT w v)))) σ) : EvM (N + 2) mX10_alikeTo [.ref 245, .int (nI w), .int (nI v)] σ Q := by
  obtain ⟨⟨k1, k2, k3, k4, k5⟩, hl9, h24⟩ := hT.wok hw
  obtain ⟨w1, w2, w3, w4⟩ := hW.2 w hw
  obtain ⟨a1, a2, a3⟩ := alk_ok (ft := ft) (nF := nF) (lk := lk) (tl := tl) (tc := tc) (nT := nT) (w := w) (v := v)
  have L : ∀ i, i ≤ alk ft nF lk tl tc nT w v → KX10_alikeTo_2 N σ Q (nI w) (nI v) (nI i) := by
    refine for_up ?_ ?_
    · refine BX10_alikeTo_2 ⟨nvin (by omega) (by omega), fun _ => h, fun q => ?_⟩
      rw [cl (by omega), w3] at q
      have lt : alk ft nF lk tl tc nT w v < (wAt (wL tl tc nT) w).2.2.1 := by
        by_cases y : alk ft nF lk tl tc nT w v < (wAt (wL tl tc nT) w).2.2.1
        · exact y
        · exact absurd (nI_le (by omega) (by omega)) q
      exact M_wordAt hF hT hG hW hw lt ⟨_, rfl, M_wordAt hF hT hG hW hv (by omega) ⟨_, rfl, fun z => absurd z (a3 lt), fun _ => h⟩⟩
    · intro i hi ih
      refine BX10_alikeTo_2 ⟨nvin (by omega) (by omega), fun q => ?_, fun q => ?_⟩
      · rw [cl (by omega), w3] at q
        exact absurd q (nI_ge (by omega) (by omega))
      · rw [nI_1]
        exact M_wordAt hF hT hG hW hw (by omega) ⟨_, rfl, M_wordAt hF hT hG hW hv (by omega) ⟨_, rfl, fun _ => ih, fun z => absurd (a2 i hi) z⟩⟩
  exact EX10_alikeTo (L 0 (by omega))
theorem M_isFirst (hF : RF nF lk ft σ) (hT : RT nF nT tl tc σ) (hG : SG nF lk ft σ) (hW : WS (wL tl tc nT) σ) {w : Nat} (hw : w < (wL tl tc nT).length) (h1 : (∀ v, v < w → ¬ rowE ft nF lk tl tc nT w v) → Q (some (.int 1)) σ) (h0 : (∃ v, v < w ∧ rowE ft nF lk tl tc nT w v) → Q (some (.int 0)) σ) : EvM (N + 3) mX10_isFirstOfItsRow [.ref 245, .int (nI w)] σ Q := by
  obtain ⟨⟨k1, k2, k3, k4, k5⟩, hl9, h24⟩ := hT.wok hw
  have nb : ∀ b : Bool, narrow .boolean (.int (b2 b)) = .int (b2 b) := fun b => by cases b <;> rfl
  have z0 : ∀ i, i ≤ w → (∃ v, v < w ∧ rowE ft nF lk tl tc nT w v) → KX10_isFirstOfItsRow_4 N σ Q (nI w) 0 (nI i) := fun i hi e => by
    refine BX10_isFirstOfItsRow_4 ⟨fun _ => ⟨nb false, h0 e⟩, fun _ => ⟨fun _ => ⟨nb false, h0 e⟩, fun q => absurd rfl q⟩⟩
  have L : ∀ i, i ≤ w → (∀ v, v < i → ¬ rowE ft nF lk tl tc nT w v) → KX10_isFirstOfItsRow_4 N σ Q (nI w) 1 (nI i) := by
    refine for_up ?_ ?_
    · intro a
      exact BX10_isFirstOfItsRow_4 ⟨fun _ => ⟨nb true, h1 a⟩, fun q => absurd (nI_le (Nat.le_refl _) (by omega)) q⟩
    · intro i hi ih a
      have hi' : i < (wL tl tc nT).length := by omega
      obtain ⟨i1, i2, i3, i4⟩ := hW.2 i hi'
      obtain ⟨w1, w2, w3, w4⟩ := hW.2 w hw
      have wi := (hT.wok hi').1
      have ti := (hT.wok hi').2.2
      have go : ¬ rowE ft nF lk tl tc nT w i → KX10_isFirstOfItsRow_4 N σ Q (nI w) 1 (nI (i + 1)) := fun z => ih (fun v hv => by
        by_cases e : v = i
        · rw [e]; exact z
        · exact a v (by omega))
      refine BX10_isFirstOfItsRow_4 ⟨fun q => absurd q (nI_ge hi (by omega)), fun _ => ⟨fun q => absurd q (by decide), fun _ => ⟨nvin (by omega) (by omega), ?_⟩⟩⟩
      rw [cl (show i < 2147483648 by omega), i4, i3, nI_1, cl (show w < 2147483648 by omega), w3]
      refine ⟨fun q => go (fun e => ?_), fun q => ⟨nvin (by omega) (by omega), nvin (by omega) (by omega), fun z => ?_, fun z => go (fun e => z (by rw [e.2.1]))⟩⟩
      · rw [e.1] at q; exact absurd q (by decide)
      · have el : (wAt (wL tl tc nT) i).2.2.1 = (wAt (wL tl tc nT) w).2.2.1 := by
          obtain ⟨_, x2, x3, _, _⟩ := wi
          exact (nI_eq (by omega) (by omega)).mp z
        obtain ⟨a1, a2, a3⟩ := alk_ok (ft := ft) (nF := nF) (lk := lk) (tl := tl) (tc := tc) (nT := nT) (w := w) (v := i)
        refine M_alikeTo hF hT hG hW hw hi' el ⟨_, rfl, nvin (by omega) (by omega), ?_⟩
        rw [w3]
        refine ⟨fun y => ?_, fun y => go (fun e => y ?_)⟩
        · have y1 := (nI_leI (by omega) (by omega)).mp y
          exact z0 (i + 1) (by omega) ⟨i, hi, b2_0.2.mp q, el, fun j hj => a2 j (by omega)⟩
        · by_cases u : alk ft nF lk tl tc nT w i < (wAt (wL tl tc nT) w).2.2.1
          · exact absurd (e.2.2 _ u) (a3 u)
          · exact nI_le (by omega) (by omega)
  exact EX10_isFirstOfItsRow (L 0 (by omega) (fun v hv => absurd hv (Nat.not_lt_zero v)))
/-- first words, in both ways -/
theorem Fb_row (hF : RF nF lk ft σ) (hT : RT nF nT tl tc σ) {w : Nat} (hw : w < (wL tl tc nT).length) (hp : akP tl tc nT w = true) : Fb (akS ft nF lk tl tc nT) (akL ft nF lk tl tc nT) w = true ↔ ∀ v, v < w → ¬ rowE ft nF lk tl tc nT w v := by
  rw [Fb_iff]
  have k := (hT.wok hw).1.2.1
  constructor
  · intro h v hv e
    have pv : akP tl tc nT v = true := akP_iff.mpr ⟨e.1, by rw [e.2.1]; exact (akP_iff.mp hp).2⟩
    refine h v hv (akS_iff.mpr ⟨hp, pv, e.2.1.symm, fun i hi => e.2.2 i (by omega)⟩) ?_
    unfold akL
    rw [e.2.1, e.2.2 _ (by omega)]
  · intro h v hv s e
    obtain ⟨s1, s2, s3, s4⟩ := akS_iff.mp s
    refine h v hv ⟨(akP_iff.mp s2).1, s3.symm, fun i hi => ?_⟩
    by_cases z : i < (wAt (wL tl tc nT) w).2.2.1 - 1
    · exact s4 i z
    · have l1 := (akL_ok (lk := lk) hF hT hw (akP_iff.mp hp).1).2
      have l2 := (akL_ok (lk := lk) hF hT (show v < (wL tl tc nT).length by omega) (akP_iff.mp s2).1).2
      rw [← s3, ← e, ← l1] at l2
      rw [show i = (wAt (wL tl tc nT) w).2.2.1 - 1 by omega]
      exact l2.symm
/-- what the reference has counted: whole words w, and v more of the next -/
def IA (ft : Nat → Nat) (nF lk : Nat) (tl : Nat → Nat) (tc : Nat → Nat → Int32) (nT w v : Nat) (σ : Sg) : Prop := ∀ a, a < 24 → ∀ b, b < 24 → σ.1 256 (24 * a + b) = nI (Bb (akS ft nF lk tl tc nT) (akL ft nF lk tl tc nT) w a b + cnt (fun u => inc (akS ft nF lk tl tc nT) (akL ft nF lk tl tc nT) w u a b) v)
theorem IA.stay {w v : Nat} (h : IA ft nF lk tl tc nT w v σ) (hg : ¬ gB (akS ft nF lk tl tc nT) (akL ft nF lk tl tc nT) w v = true) : IA ft nF lk tl tc nT w (v + 1) σ := by
  intro a ha b hb
  rw [h a ha b hb, cnt_s, if_neg]
  · rfl
  · intro q
    unfold inc at q
    rw [Bool.and_eq_true] at q
    exact hg q.1
theorem IA.step {w v x y : Nat} (h : IA ft nF lk tl tc nT w v σ) (hg : gB (akS ft nF lk tl tc nT) (akL ft nF lk tl tc nT) w v = true) (hx : akL ft nF lk tl tc nT w = x) (hy : akL ft nF lk tl tc nT v = y) (x24 : x < 24) (y24 : y < 24) (hne : ¬ x = y) : IA ft nF lk tl tc nT w (v + 1) (u1 (u1 σ 256 (24 * x + y) (σ.1 256 (24 * x + y) + 1)) 256 (24 * y + x) ((u1 σ 256 (24 * x + y) (σ.1 256 (24 * x + y) + 1)).1 256 (24 * y + x) + 1)) := by
  intro a ha b hb
  have ei : inc (akS ft nF lk tl tc nT) (akL ft nF lk tl tc nT) w v a b = ((x == a && y == b) || (x == b && y == a)) := by
    unfold inc; rw [hg, hx, hy]; rfl
  rw [cnt_s, ei]
  by_cases e1 : a = x ∧ b = y
  · obtain ⟨rfl, rfl⟩ := e1
    rw [u1_slot (by omega), u1_same, h a ha b hb, nI_1, if_pos (by simp)]
    rfl
  · by_cases e2 : a = y ∧ b = x
    · obtain ⟨rfl, rfl⟩ := e2
      rw [u1_same, u1_slot (by omega), h a ha b hb, nI_1, if_pos (by simp)]
      rfl
    · rw [u1_slot (by omega), u1_slot (by omega), h a ha b hb, if_neg]
      · rfl
      · simp only [Bool.or_eq_true, Bool.and_eq_true, beq_iff_eq]
        omega
theorem IA.next {w : Nat} (h : IA ft nF lk tl tc nT w w σ) : IA ft nF lk tl tc nT (w + 1) 0 σ := fun a ha b hb => h a ha b hb
theorem M_findAkins (hF : RF nF lk ft σ) (hT : RT nF nT tl tc σ) (h : ∀ σ', Chg [0] σ σ' → SG nF lk ft σ' → WS (wL tl tc nT) σ' → (∀ a, a < 24 → ∀ b, b < 24 → σ'.1 256 (24 * a + b) = nI (Bb (akS ft nF lk tl tc nT) (akL ft nF lk tl tc nT) (wL tl tc nT).length a b)) → Q none σ') : EvM (N + 4) mX10_findAkins [.ref 245] σ Q := by
  have hl := wL_len (tl := tl) (tc := tc) nT (fun t ht => (hT.2.2.2.1 t ht).2.1)
  have nT8 := hT.1
  refine EX10_findAkins (M_findWords hF hT (fun σ1 c1 hG hW => ⟨rfl, ?_⟩))
  have fr : ∀ σ', Rw 256 σ1 σ' → Chg [0] σ σ' ∧ RF nF lk ft σ' ∧ RT nF nT tl tc σ' ∧ SG nF lk ft σ' ∧ WS (wL tl tc nT) σ' := fun σ' r => by
    have c : Chg [0] σ σ' := r.chg (fun j => by rw [show modOf 256 j = 0 from rfl]; decide) c1
    refine ⟨c, hF.fr (c.sm (by decide)), hT.fr (c.sm (by decide)), fun x hx => by rw [r.1 247 (by decide)]; exact hG x hx, by rw [r.1 245 (by decide)]; exact hW.1, fun w hw => ?_⟩
    rw [r.1 250 (by decide), r.1 251 (by decide), r.1 252 (by decide), r.1 253 (by decide)]
    exact hW.2 w hw
  have B : ∀ w, w ≤ (wL tl tc nT).length → ∀ σ', Rw 256 σ1 σ' → IA ft nF lk tl tc nT w 0 σ' → KX10_findAkins_28 N σ' Q (nI w) := by
    refine for_up ?_ ?_
    · intro σ' r e
      obtain ⟨c', hF', hT', hG', hW'⟩ := fr σ' r
      exact BX10_findAkins_28 ⟨fun _ => h σ' c' hG' hW' (fun a ha b hb => by rw [e a ha b hb]; rfl), fun q => absurd (by rw [hW'.1]; exact nI_le (Nat.le_refl _) (by omega)) q⟩
    · intro w hw ihw σ' r e
      obtain ⟨c', hF', hT', hG', hW'⟩ := fr σ' r
      refine BX10_findAkins_28 ⟨fun q => absurd q (by rw [hW'.1]; exact nI_ge hw (by omega)), fun _ => ?_⟩
      have J : ∀ v, v ≤ w → ∀ σ2, Rw 256 σ1 σ2 → IA ft nF lk tl tc nT w v σ2 → KX10_findAkins_38 N σ2 Q (nI w) (nI v) := by
        refine for_up ?_ ?_
        · intro σ2 r2 e2
          refine BX10_findAkins_38 ⟨fun _ => ?_, fun q => absurd (nI_le (Nat.le_refl _) (by omega)) q⟩
          rw [nI_1]
          exact ihw σ2 r2 e2.next
        · intro v hv ih σ2 r2 e2
          obtain ⟨c2, hF2, hT2, hG2, hW2⟩ := fr σ2 r2
          have hv' : v < (wL tl tc nT).length := by omega
          obtain ⟨v1, v2, v3, v4⟩ := hW2.2 v hv'
          obtain ⟨w1, w2, w3, w4⟩ := hW2.2 w hw
          obtain ⟨⟨_, x2, x3, _, _⟩, _, x24⟩ := hT.wok hw
          obtain ⟨⟨_, y2, y3, _, _⟩, _, y24⟩ := hT.wok hv'
          have nw : vp_in (nI w) 104 := nvin (by omega) (by omega)
          have nv : vp_in (nI v) 104 := nvin (by omega) (by omega)
          have cw : (nI w).toNatClampNeg = w := cl (by omega)
          have cv : (nI v).toNatClampNeg = v := cl (by omega)
          have no : ¬ gB (akS ft nF lk tl tc nT) (akL ft nF lk tl tc nT) w v = true → KX10_findAkins_38 N σ2 Q (nI w) (nI (v + 1)) := fun z => ih σ2 r2 (e2.stay z)
          have gs : gB (akS ft nF lk tl tc nT) (akL ft nF lk tl tc nT) w v = true → akS ft nF lk tl tc nT w v = true ∧ ¬ akL ft nF lk tl tc nT w = akL ft nF lk tl tc nT v ∧ Fb (akS ft nF lk tl tc nT) (akL ft nF lk tl tc nT) w = true ∧ Fb (akS ft nF lk tl tc nT) (akL ft nF lk tl tc nT) v = true := by
            intro g
            unfold gB at g
            simp only [Bool.and_eq_true, Bool.not_eq_true', beq_eq_false_iff_ne] at g
            exact ⟨g.1.1.1, g.1.1.2, g.1.2, g.2⟩
          refine BX10_findAkins_38 ⟨fun q => absurd q (nI_ge hv (by omega)), fun _ => ⟨nw, nw, ?_⟩⟩
          simp only [cw, cv, w3, w4, v3, v4, nI_1]
          refine ⟨fun q => no (fun g => ?_), fun q => ⟨nv, fun q2 => no (fun g => ?_), fun q2 => ⟨nv, fun q3 => ⟨fun q4 => no (fun g => ?_), fun q4 => ?_⟩, fun q3 => no (fun g => ?_)⟩⟩⟩
          · have := (akP_iff.mp (akS_iff.mp (gs g).1).1).1
            rw [this] at q; exact absurd q (by decide)
          · have := (akP_iff.mp (akS_iff.mp (gs g).1).2.1).1
            rw [this] at q2; exact absurd q2 (by decide)
          · have := (akP_iff.mp (akS_iff.mp (gs g).1).1).2
            have := (nI_leI (b := 1) (by omega) (by omega)).mp q4
            omega
          · have fw : (wAt (wL tl tc nT) w).2.2.2 = true := b2_0.2.mp q
            have fv : (wAt (wL tl tc nT) v).2.2.2 = true := b2_0.2.mp q2
            have el : (wAt (wL tl tc nT) v).2.2.1 = (wAt (wL tl tc nT) w).2.2.1 := (nI_eq (by omega) (by omega)).mp q3
            have l2 : 2 ≤ (wAt (wL tl tc nT) w).2.2.1 := by
              by_cases y : 2 ≤ (wAt (wL tl tc nT) w).2.2.1
              · exact y
              · exact absurd (nI_le (b := 1) (by omega) (by omega)) q4
            have pw : akP tl tc nT w = true := akP_iff.mpr ⟨fw, l2⟩
            have pv : akP tl tc nT v = true := akP_iff.mpr ⟨fv, by omega⟩
            obtain ⟨a1, a2, a3⟩ := alk_ok (ft := ft) (nF := nF) (lk := lk) (tl := tl) (tc := tc) (nT := nT) (w := w) (v := v)
            obtain ⟨lw1, lw2⟩ := akL_ok (lk := lk) hF hT hw fw
            obtain ⟨lv1, lv2⟩ := akL_ok (lk := lk) hF hT hv' fv
            rw [show nI (wAt (wL tl tc nT) w).2.2.1 - 1 = nI ((wAt (wL tl tc nT) w).2.2.1 - 1) from pk_sub (b := 1) (by omega)]
            refine M_alikeTo hF2 hT2 hG2 hW2 hw hv' el ⟨_, rfl, fun q5 => ?_, fun q5 => no (fun g => q5 ?_)⟩
            · have q6 : alk ft nF lk tl tc nT w v = (wAt (wL tl tc nT) w).2.2.1 - 1 := (nI_eq (by omega) (by omega)).mp q5
              have st : akS ft nF lk tl tc nT w v = true := akS_iff.mpr ⟨pw, pv, el.symm, fun i hi => a2 i (by omega)⟩
              have nl : ¬ akL ft nF lk tl tc nT w = akL ft nF lk tl tc nT v := fun y => by
                have := a3 (by omega)
                rw [q6] at this
                apply this
                rw [lw2, y, ← lv2, el]
              refine M_isFirst hF2 hT2 hG2 hW2 hw (fun fi => ⟨_, rfl, fun y => absurd y (by decide), fun _ => ?_⟩) (fun nf => ⟨_, rfl, fun _ => no (fun g => ?_), fun y => absurd rfl y⟩)
              · refine M_isFirst hF2 hT2 hG2 hW2 hv' (fun fi2 => ⟨_, rfl, fun y => absurd y (by decide), fun _ => ?_⟩) (fun nf => ⟨_, rfl, fun _ => no (fun g => ?_), fun y => absurd rfl y⟩)
                · have g : gB (akS ft nF lk tl tc nT) (akL ft nF lk tl tc nT) w v = true := by
                    unfold gB
                    rw [st, (Fb_row hF hT hw pw).mpr fi, (Fb_row hF hT hv' pv).mpr fi2]
                    simpa using nl
                  refine M_wordAt hF2 hT2 hG2 hW2 hw (by omega) ⟨_, rfl, M_wordAt hF2 hT2 hG2 hW2 hv' (by omega) ⟨_, rfl, ?_⟩⟩
                  rw [lw2, show (wAt (wL tl tc nT) w).2.2.1 - 1 = (wAt (wL tl tc nT) v).2.2.1 - 1 by rw [el], lv2]
                  have k1 : (24 : Int32) * nI (akL ft nF lk tl tc nT w) + nI (akL ft nF lk tl tc nT v) = nI (24 * akL ft nF lk tl tc nT w + akL ft nF lk tl tc nT v) := by rw [show (24 : Int32) = nI 24 from rfl, pk_mul, nI_add]
                  have k2 : (24 : Int32) * nI (akL ft nF lk tl tc nT v) + nI (akL ft nF lk tl tc nT w) = nI (24 * akL ft nF lk tl tc nT v + akL ft nF lk tl tc nT w) := by rw [show (24 : Int32) = nI 24 from rfl, pk_mul, nI_add]
                  rw [k1, k2, cl (by omega), cl (by omega)]
                  exact ⟨nvin (by omega) (by omega), nvin (by omega) (by omega), nvin (by omega) (by omega), nvin (by omega) (by omega), ih _ r2.u1.u1 (e2.step g rfl rfl lw1 lv1 nl)⟩
                · obtain ⟨u, hu, ru⟩ := nf
                  exact (Fb_row hF hT hv' pv).mp (gs g).2.2.2 u hu ru
              · obtain ⟨u, hu, ru⟩ := nf
                exact (Fb_row hF hT hw pw).mp (gs g).2.2.1 u hu ru
            · obtain ⟨s1, s2, s3, s4⟩ := akS_iff.mp (gs g).1
              have : alk ft nF lk tl tc nT w v = (wAt (wL tl tc nT) w).2.2.1 - 1 := by
                rcases Nat.lt_trichotomy (alk ft nF lk tl tc nT w v) ((wAt (wL tl tc nT) w).2.2.1 - 1) with z | z | z
                · exact absurd (s4 _ z) (a3 (by omega))
                · exact z
                · exfalso
                  have := a2 ((wAt (wL tl tc nT) w).2.2.1 - 1) z
                  rw [lw2, show (wAt (wL tl tc nT) w).2.2.1 - 1 = (wAt (wL tl tc nT) v).2.2.1 - 1 by rw [el], lv2] at this
                  exact (gs g).2.1 ((nI_eq (by omega) (by omega)).mp this)
              rw [this]
          · have := (akS_iff.mp (gs g).1).2.2.1
            exact q3 (by rw [this])
      exact J 0 (by omega) σ' r e
  have A : ∀ i, i ≤ 576 → ∀ σ', Rw 256 σ1 σ' → (∀ s, s < i → σ'.1 256 s = 0) → KX10_findAkins_6 N σ' Q (nI i) := by
    refine for_up ?_ ?_
    · intro σ' r e
      exact BX10_findAkins_6 ⟨fun _ => B 0 (by omega) σ' r (fun a ha b hb => by rw [e _ (by omega)]; rfl), fun q => absurd (show (576 : Int32) ≤ nI 576 by decide) q⟩
    · intro i hi ih σ' r e
      refine BX10_findAkins_6 ⟨fun q => absurd q (nI_ge (b := 576) hi (by omega)), fun _ => ⟨nvin (by omega) (by omega), ?_⟩⟩
      rw [cl (by omega), nI_1]
      refine ih _ r.u1 (fun s hs => ?_)
      by_cases z : s = i
      · rw [z, u1_same]
      · rw [u1_slot z]; exact e s (by omega)
  exact A 0 (by omega) σ1 Rw.rf (fun s hs => absurd hs (Nat.not_lt_zero s))
end AK4
theorem O_akin {σ : Sg} (hR : Rel σ) (a b : Int32) : OPi mX9_akin mX10_akin [.int a, .int b] σ := by
  obtain ⟨nF, lk, ft, nT, tl, tc, hF, hT⟩ := hR.1
  have n24 := hF.1
  have nT8 := hT.1
  have hl := wL_len (tl := tl) (tc := tc) nT (fun t ht => (hT.2.2.2.1 t ht).2.1)
  have c247 : ∀ σ σ' : Sg, Rw 247 σ σ' → Chg [0] σ σ' := fun σ σ' r => r.c0 (fun _ => rfl)
  have bad : ¬ ((∃ k, k < nF ∧ rep ft nF lk k = k ∧ a = nI k) ∧ (∃ k, k < nF ∧ rep ft nF lk k = k ∧ b = nI k) ∧ ¬ a = b) → ∃ v, some (Value.int (-1)) = some (.int v) ∧ EvM 40 mX10_akin [.ref 245, .int a, .int b] σ (fun r2 σ2 => r2 = some (.int v) ∧ Rel σ2) := by
    intro hb
    refine ⟨_, rfl, EX10_akin (M_isSign hF (fun k k1 k2 k3 σ1 r1 s1 => ⟨_, rfl, fun z => absurd z (by decide), fun _ => ?_⟩) (fun n σ1 r1 s1 => ⟨_, rfl, fun _ => ⟨rfl, hR.q (c247 _ _ r1)⟩, fun z => absurd rfl z⟩))⟩
    refine M_isSign (hF.fr ((c247 _ _ r1).sm (by decide))) (fun j j1 j2 j3 σ2 r2 s2 => ⟨_, rfl, fun z => absurd z (by decide), fun _ => ⟨fun z => ⟨rfl, hR.q ((c247 _ _ r1).tr (c247 _ _ r2))⟩, fun z => absurd ⟨⟨k, k1, k2, k3⟩, ⟨j, j1, j2, j3⟩, z⟩ hb⟩⟩) (fun n σ2 r2 s2 => ⟨_, rfl, fun _ => ⟨rfl, hR.q ((c247 _ _ r1).tr (c247 _ _ r2))⟩, fun z => absurd rfl z⟩)
  refine EX9_akin (C_isSign hF (fun k k1 k2 k3 => ⟨_, rfl, fun z => absurd z (by decide), fun _ => C_isSign hF (fun j j1 j2 j3 => ⟨_, rfl, fun z => absurd z (by decide), fun _ => ⟨fun z => bad (fun y => y.2.2 z), fun z => ?_⟩⟩) (fun n => ⟨_, rfl, fun _ => bad (fun y => n y.2.1), fun z => absurd rfl z⟩)⟩) (fun n => ⟨_, rfl, fun _ => bad (fun y => n y.1), fun z => absurd rfl z⟩))
  subst k3; subst j3
  have kj : ¬ k = j := fun y => z (by rw [y])
  refine EX3_akinOf (C_gather hF hT (fun σ1 r1 g1 => ⟨rfl, C_stems (by omega) (by omega) g1 ⟨_, rfl, _, rfl, _, rfl, ?_⟩⟩))
  have cc : Chg [0] σ σ1 := r1.c0 (fun _ => rfl)
  have hF1 := hF.fr (cc.sm (by decide))
  have hT1 := hT.fr (cc.sm (by decide))
  refine EX10_akin (M_isSign hF1 (fun k' k1 k2 k3 σ2 r2 s2 => ⟨_, rfl, fun z => absurd z (by decide), fun _ => ?_⟩) (fun n σ2 r2 s2 => absurd ⟨k, k1, k2, rfl⟩ n))
  have c2 := c247 _ _ r2
  refine M_isSign (hF1.fr (c2.sm (by decide))) (fun j' j1 j2 j3 σ3 r3 s3 => ⟨_, rfl, fun z => absurd z (by decide), fun _ => ⟨fun y => absurd y z, fun _ => ?_⟩⟩) (fun n σ3 r3 s3 => absurd ⟨j, j1, j2, rfl⟩ n)
  have c3 := c2.tr (c247 _ _ r3)
  refine M_findAkins (hF1.fr (c3.sm (by decide))) (hT1.fr (c3.sm (by decide))) (fun σ4 c4 g4 w4 a4 => ⟨rfl, ?_⟩)
  have e : (24 : Int32) * nI k + nI j = nI (24 * k + j) := by rw [show (24 : Int32) = nI 24 from rfl, pk_mul, nI_add]
  rw [e, cl (by omega), a4 k (by omega) j (by omega), AB akE kj _ (by omega)]
  exact ⟨nvin (by omega) (by omega), rfl, hR.q (cc.tr (c3.tr c4))⟩
