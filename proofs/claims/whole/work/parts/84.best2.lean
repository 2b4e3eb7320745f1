/-! ===== the best table of the reference ===== -/
section BM
variable {N nF lk nT nW : Nat} {ft : Nat → Nat} {tl : Nat → Nat} {tc : Nat → Nat → Int32} {l rl : List Nat} {wn ws : Nat → Nat} {σ : Sg} {Q : Option Value → Sg → Prop}
/-- all that the reference's search reads -/
def Mr (ft : Nat → Nat) (nF lk : Nat) (tl : Nat → Nat) (tc : Nat → Nat → Int32) (nT : Nat) (l : List Nat) (nW : Nat) (wn ws : Nat → Nat) (rl : List Nat) (σ : Sg) : Prop := σ.1 245 33 = nI l.length ∧ RWm ft nF lk tl tc nT l rl σ ∧ (∀ n, n ≤ 6 → ∀ s, s < 4096 → σ.1 274 (4096 * n + s) = b2 (iW nW wn ws n s)) ∧ l.length ≤ 6 ∧ rl.length ≤ 96 ∧ ∀ r, r < rl.length → (wAt (wL tl tc nT) (rl.getD r 0)).2.2.1 ≤ 6 ∧ ∀ i, i < (wAt (wL tl tc nT) (rl.getD r 0)).2.2.1 → pN ft nF lk tl tc nT l (rl.getD r 0) i < l.length
theorem Mr.read (h : Mr ft nF lk tl tc nT l nW wn ws rl σ) {sd : Nat → Nat} (hs4 : ∀ p, sd p < 4) {S : Nat} (hS : S < 4096) (hs : ∀ p, p < l.length → S / 4 ^ p % 4 = sd p) (hq : Q (some (.int (nI (rdC ft nF lk tl tc nT l nW wn ws rl sd)))) σ) : EvM N mX10_readBy [.ref 245, .int (nI S)] σ Q :=
  M_readBy h.2.2.2.2.1 h.2.2.2.1 h.2.1 h.2.2.2.2.2 h.2.2.1 hs4 hS hs hq
theorem M_turned {n : Nat} (l6 : l.length ≤ 6) (h4 : σ.1 245 33 = nI l.length) (hn : n < 4096) (h : Q (some (.int (nI (fo4 (fun i => n / 4 ^ i % 4) l.length)))) σ) : EvM N mX10_turned [.ref 245, .int (nI n)] σ Q := by
  have L : ∀ i, i ≤ l.length → KX10_turned_4 N σ Q (nI n) (nI (fo4 (fun i => n / 4 ^ i % 4) i)) (nI i) := by
    refine for_up ?_ ?_
    · exact BX10_turned_4 ⟨fun _ => h, fun q => absurd (by rw [h4]; exact nI_le (Nat.le_refl _) (by omega)) q⟩
    · intro i hi ih
      refine BX10_turned_4 ⟨fun q => absurd q (by rw [h4]; exact nI_ge hi (by omega)), fun _ => ?_⟩
      rw [shr2 (by omega) (by omega), show (4 : Int32) = nI 4 from rfl, pk_mul, nI_add, nI_1]
      exact ih
  exact EX10_turned (L 0 (by omega))
theorem tn_dig {k n p : Nat} (hp : p < k) : fo4 (fun i => n / 4 ^ i % 4) k / 4 ^ p % 4 = rwD 4 k n p := by
  have := fo4_dig (d := fun i => n / 4 ^ i % 4) k (fun i _ => Nat.mod_lt _ (by decide)) (k - 1 - p) (by omega)
  rw [show k - 1 - (k - 1 - p) = p by omega] at this
  exact this
theorem tn_lt {k n : Nat} : fo4 (fun i => n / 4 ^ i % 4) k < 4 ^ k := fo4_lt k (fun i _ => Nat.mod_lt _ (by decide))
/-- a table as a number, from its sounds -/
theorem tn_nm {k n : Nat} : nm (rwD 4 k n) k = fo4 (fun i => n / 4 ^ i % 4) k := by
  rw [nm_cg k (e := fun p => fo4 (fun i => n / 4 ^ i % 4) k / 4 ^ p % 4) (fun i hi => (tn_dig hi).symm), nm_self, Nat.mod_eq_of_lt tn_lt]
/-- what a search among the reference's tables changes -/
def Ms (σ σ' : Sg) : Prop := (∀ a, a ≠ 245 → ∀ j, σ'.1 a j = σ.1 a j) ∧ (∀ j, j ≠ 40 → j ≠ 41 → j ≠ 42 → σ'.1 245 j = σ.1 245 j) ∧ σ'.2 = σ.2
theorem Ms.rf : Ms σ σ := ⟨fun _ _ _ => rfl, fun _ _ _ _ => rfl, rfl⟩
theorem Ms.u {σ' : Sg} {j : Nat} {x : Int32} (h : Ms σ σ') (hj : j = 40 ∨ j = 41 ∨ j = 42) : Ms σ (u1 σ' 245 j x) := by
  refine ⟨fun a h1 b => ?_, fun b h1 h2 h3 => ?_, h.2.2⟩
  · rw [u1_cell (by omega)]; exact h.1 a h1 b
  · rw [u1_slot (by omega)]; exact h.2.1 b h1 h2 h3
theorem Ms.chg {σ' : Sg} (h : Ms σ σ') : Chg [0] σ σ' := by
  refine ⟨fun a j e => ?_, fun a j _ => by rw [h.2.2]⟩
  by_cases z : a = 245
  · subst z
    refine h.2.1 j (fun y => e ?_) (fun y => e ?_) (fun y => e ?_) <;> (subst y; exact List.mem_cons_self)
  · exact h.1 a z j
theorem Mr.s {σ' : Sg} (h : Mr ft nF lk tl tc nT l nW wn ws rl σ) (c : Ms σ σ') : Mr ft nF lk tl tc nT l nW wn ws rl σ' := by
  obtain ⟨h1, h2, h3, h4, h5, h6⟩ := h
  refine ⟨by rw [c.2.1 33 (by decide) (by decide) (by decide)]; exact h1, ⟨by rw [c.2.1 36 (by decide) (by decide) (by decide)]; exact h2.1, fun r hr => ?_⟩, fun n hn s hs => by rw [c.1 274 (by decide)]; exact h3 n hn s hs, h4, h5, h6⟩
  rw [c.1 272 (by decide), c.1 273 (by decide)]; exact h2.2 r hr
def MB (rd : Nat → Nat) (k n : Nat) (σ : Sg) : Prop := σ.1 245 41 = xk (bb rd n).1 ∧ σ.1 245 42 = nI (bb rd n).2.2 ∧ (0 < n → σ.1 245 40 = nI (nm (rwD 4 k (bb rd n).2.1) k))
theorem M_searchB (hM : Mr ft nF lk tl tc nT l nW wn ws rl σ) (h : ∀ σ', Ms σ σ' → MB (rdN ft nF lk tl tc nT l nW wn ws rl) l.length (4 ^ l.length) σ' → Q none σ') : KX10_findBest_25 N (u1 (u1 σ 245 41 (-1)) 245 42 0) Q 0 := by
  have l6 := hM.2.2.2.1
  have p4 : 4 ^ l.length ≤ 4 ^ 6 := Nat.pow_le_pow_right (by decide) l6
  have e46 : (4 : Nat) ^ 6 = 4096 := by decide
  have r96 : ∀ n, rdN ft nF lk tl tc nT l nW wn ws rl n ≤ 96 := fun n => Nat.le_trans (cnt_le _ _) hM.2.2.2.2.1
  have L : ∀ n, n ≤ 4 ^ l.length → ∀ σ', Ms σ σ' → MB (rdN ft nF lk tl tc nT l nW wn ws rl) l.length n σ' → KX10_findBest_25 N σ' Q (nI n) := by
    refine for_up ?_ ?_
    · intro σ' c e
      have h4 := (hM.s c).1
      refine BX10_findBest_25 ⟨fun _ => h σ' c e, fun q => absurd ?_ q⟩
      rw [h4, shl4 (by omega)]; exact nI_le (Nat.le_refl _) (by omega)
    · intro n hn ih σ' c e
      have hM' := hM.s c
      have tnl := tn_lt (k := l.length) (n := n)
      have rn : rdN ft nF lk tl tc nT l nW wn ws rl n ≤ 96 := r96 n
      have b97 := (bb_ok r96 n).1
      have bs := bb_s (rd := rdN ft nF lk tl tc nT l nW wn ws rl) n
      refine BX10_findBest_25 ⟨fun q => absurd q (by rw [hM'.1, shl4 (by omega)]; exact nI_ge hn (by omega)), fun _ => M_turned l6 hM'.1 (by omega) ⟨_, rfl, hM'.read (sd := rwD 4 l.length n) (fun p => rwD4) (by omega) (fun p hp => tn_dig hp) ⟨_, rfl, ?_⟩⟩⟩
      show (nI (rdN ft nF lk tl tc nT l nW wn ws rl n) ≤ σ'.1 245 41 → (nI (rdN ft nF lk tl tc nT l nW wn ws rl n) = σ'.1 245 41 → _) ∧ (¬ nI (rdN ft nF lk tl tc nT l nW wn ws rl n) = σ'.1 245 41 → _)) ∧ (¬ nI (rdN ft nF lk tl tc nT l nW wn ws rl n) ≤ σ'.1 245 41 → _)
      refine ⟨fun q => ?_, fun q => ?_⟩
      · rw [e.1] at q ⊢
        have q1 := (xk_le (by omega) (by omega)).mp q
        have n0 : 0 < n := by
          by_cases y : n = 0
          · subst y
            have : (bb (rdN ft nF lk tl tc nT l nW wn ws rl) 0).1 = 0 := rfl
            omega
          · omega
        rw [if_neg (by omega)] at bs
        rw [xk_eq (by omega) (by omega), e.2.1]
        refine ⟨fun z => ?_, fun z => ?_⟩
        · rw [if_pos z.symm] at bs
          rw [nI_1, nI_1]
          refine ih _ (c.u (by omega)) ⟨?_, ?_, fun _ => ?_⟩
          · rw [u1_slot (by decide), bs]; exact e.1
          · rw [u1_same, bs]
          · rw [u1_slot (by decide), bs]; exact e.2.2 n0
        · rw [if_neg (fun y => z y.symm)] at bs
          rw [Int32.add_zero, nI_1]
          refine ih _ (c.u (by omega)) ⟨?_, ?_, fun _ => ?_⟩
          · rw [u1_slot (by decide), bs]; exact e.1
          · rw [u1_same, bs]
          · rw [u1_slot (by decide), bs]; exact e.2.2 n0
      · rw [e.1] at q
        have q1 : ¬ rdN ft nF lk tl tc nT l nW wn ws rl n + 1 ≤ (bb (rdN ft nF lk tl tc nT l nW wn ws rl) n).1 := fun z => q ((xk_le (by omega) (by omega)).mpr z)
        rw [if_pos (by omega)] at bs
        have k41 : (u1 (u1 (u1 σ' 245 40 (nI (fo4 (fun i => n / 4 ^ i % 4) l.length))) 245 41 (nI (rdN ft nF lk tl tc nT l nW wn ws rl n))) 245 42 0).1 245 41 = nI (rdN ft nF lk tl tc nT l nW wn ws rl n) := by rw [u1_slot (by decide), u1_same]
        have k42 : (u1 (u1 (u1 σ' 245 40 (nI (fo4 (fun i => n / 4 ^ i % 4) l.length))) 245 41 (nI (rdN ft nF lk tl tc nT l nW wn ws rl n))) 245 42 0).1 245 42 = 0 := u1_same
        show (nI (rdN ft nF lk tl tc nT l nW wn ws rl n) = (u1 (u1 (u1 σ' 245 40 (nI (fo4 (fun i => n / 4 ^ i % 4) l.length))) 245 41 (nI (rdN ft nF lk tl tc nT l nW wn ws rl n))) 245 42 0).1 245 41 → KX10_findBest_25 N (u1 (u1 (u1 (u1 σ' 245 40 (nI (fo4 (fun i => n / 4 ^ i % 4) l.length))) 245 41 (nI (rdN ft nF lk tl tc nT l nW wn ws rl n))) 245 42 0) 245 42 ((u1 (u1 (u1 σ' 245 40 (nI (fo4 (fun i => n / 4 ^ i % 4) l.length))) 245 41 (nI (rdN ft nF lk tl tc nT l nW wn ws rl n))) 245 42 0).1 245 42 + 1)) Q (nI n + 1)) ∧ (¬ nI (rdN ft nF lk tl tc nT l nW wn ws rl n) = (u1 (u1 (u1 σ' 245 40 (nI (fo4 (fun i => n / 4 ^ i % 4) l.length))) 245 41 (nI (rdN ft nF lk tl tc nT l nW wn ws rl n))) 245 42 0).1 245 41 → _)
        rw [k41, k42, nI_1]
        refine ⟨fun _ => ih _ ((((c.u (by omega)).u (by omega)).u (by omega)).u (by omega)) ⟨?_, ?_, fun _ => ?_⟩, fun z => absurd rfl z⟩
        · rw [u1_slot (by decide), k41, bs]; rfl
        · rw [u1_same, bs]; rfl
        · rw [u1_slot (by decide), u1_slot (by decide), u1_slot (by decide), u1_same, bs, tn_nm]
  refine L 0 (Nat.zero_le _) _ ((Ms.rf.u (by omega)).u (by omega)) ⟨?_, u1_same, fun z => absurd z (Nat.lt_irrefl _)⟩
  rw [u1_slot (by decide), u1_same]; rfl
/-- from the texts to the reference's best table -/
theorem M_findBest (hF : RF nF lk ft σ) (hT : RT nF nT tl tc σ) (hW : RW nW wn ws σ) (hl : tbl (tT ft nF lk tl tc nT) 6 = l) {B : Nat} (hB : B < 256) (h : ∀ σ', Chg [0] σ σ' → SG nF lk ft σ' → WS (wL tl tc nT) σ' → (∀ s, s < 24 → σ'.1 271 s = plc l s) → Mr ft nF lk tl tc nT l nW wn ws (rdL (rdw ft nF lk tl tc nT l B) (wL tl tc nT).length) σ' → MB (rdN ft nF lk tl tc nT l nW wn ws (rdL (rdw ft nF lk tl tc nT l B) (wL tl tc nT).length)) l.length (4 ^ l.length) σ' → Q none σ') : EvM (N + 4) mX10_findBest [.ref 245, .int (nI B)] σ Q := by
  have l6 : l.length ≤ 6 := by rw [← hl]; exact tbl_len 6
  have nT8 := hT.1
  have hl9 := wL_len (tl := tl) (tc := tc) nT (fun t ht => (hT.2.2.2.1 t ht).2.1)
  have rl9 := (rdL_len (p := rdw ft nF lk tl tc nT l B) (wL tl tc nT).length).1
  refine EX10_findBest (M_findTable hF hT (fun σ1 c1 g1 w1 t1 => ⟨rfl, ?_⟩))
  rw [hl] at t1
  refine M_findTongue (hW.fr (c1.sm (by decide))) (fun σ2 r2 i2 => ⟨rfl, ?_⟩)
  have c2 := c1.tr (r2.c0 (fun _ => rfl))
  have g2 : SG nF lk ft σ2 := fun x hx => by rw [r2.1 247 (by decide)]; exact g1 x hx
  have w2 : WS (wL tl tc nT) σ2 := ⟨by rw [r2.1 245 (by decide)]; exact w1.1, fun w hw => by rw [r2.1 250 (by decide), r2.1 251 (by decide), r2.1 252 (by decide), r2.1 253 (by decide)]; exact w1.2 w hw⟩
  refine M_findReadable (l := l) (hF.fr (c2.sm (by decide))) (hT.fr (c2.sm (by decide))) g2 w2 l6 (fun s hs => by rw [r2.1 271 (by decide)]; exact t1.2.2 s hs) hB (fun σ3 m3 r3 => ⟨rfl, ?_⟩)
  have c3 := c2.tr m3.chg
  have hM : Mr ft nF lk tl tc nT l nW wn ws (rdL (rdw ft nF lk tl tc nT l B) (wL tl tc nT).length) σ3 := ⟨by rw [m3.2.1 33 (by decide), r2.1 245 (by decide)]; exact t1.1, r3, fun n hn s hs => by rw [m3.1 274 (by decide) (by decide) (by decide)]; exact i2 n hn s hs, l6, by omega, rd_ok l6⟩
  refine M_searchB hM (fun σ4 c4 b4 => h σ4 (c3.tr c4.chg) (fun x hx => by rw [c4.1 247 (by decide), m3.1 247 (by decide) (by decide) (by decide)]; exact g2 x hx) ⟨by rw [c4.2.1 7 (by decide) (by decide) (by decide), m3.2.1 7 (by decide)]; exact w2.1, fun w hw => ?_⟩ (fun s hs => ?_) (hM.s c4) b4)
  · rw [c4.1 250 (by decide), c4.1 251 (by decide), c4.1 252 (by decide), c4.1 253 (by decide), m3.1 250 (by decide) (by decide) (by decide), m3.1 251 (by decide) (by decide) (by decide), m3.1 252 (by decide) (by decide) (by decide), m3.1 253 (by decide) (by decide) (by decide)]
    exact w2.2 w hw
  · rw [c4.1 271 (by decide), m3.1 271 (by decide) (by decide) (by decide), r2.1 271 (by decide)]; exact t1.2.2 s hs
end BM
theorem O_best {σ : Sg} (hR : Rel σ) (a b : Int32) : OPi mX9_best mX10_best [.int a, .int b] σ := by
  obtain ⟨nF, lk, ft, nT, tl, tc, hF, hT⟩ := hR.1
  obtain ⟨nW, wn, ws, hW⟩ := hR.2.2.2.2.1
  have nT8 := hT.1
  have hl9 := wL_len (tl := tl) (tc := tc) nT (fun t ht => (hT.2.2.2.1 t ht).2.1)
  have p8 : 2 ^ nT ≤ 2 ^ 8 := Nat.pow_le_pow_right (by decide) nT8
  have e28 : (2 : Nat) ^ 8 = 256 := by decide
  have e2 : (2 : Int32).toInt = 2 := rfl
  generalize hl : tbl (tT ft nF lk tl tc nT) 6 = l
  have l6 : l.length ≤ 6 := by rw [← hl]; exact tbl_len 6
  have bad : ¬ ((∃ B, B < 2 ^ nT ∧ a = nI B) ∧ 0 ≤ b.toInt ∧ b.toInt ≤ 2) → ∃ v, some (Value.int (-1)) = some (.int v) ∧ ∃ v2, some (Value.int v) = some (.int v2) ∧ EvM 40 mX10_best [.ref 245, .int a, .int b] σ (fun r2 σ2 => r2 = some (.int v2) ∧ Rel σ2) := fun hb =>
    ⟨_, rfl, _, rfl, EX10_best (M_areTexts hT (fun B hB e => ⟨_, rfl, fun z => absurd z (by decide), fun _ => ⟨fun z => absurd ⟨⟨B, hB, e⟩, by rw [i_l] at z; exact z⟩ hb, fun _ => ⟨rfl, hR⟩⟩⟩) (fun n => ⟨_, rfl, fun _ => ⟨rfl, hR⟩, fun z => absurd rfl z⟩))⟩
  refine EX9_best (EX8_tellBest (C_areTexts hT (fun B hB e => ⟨_, rfl, fun z => absurd z (by decide), fun _ => ⟨fun q => bad (fun z => ?_), fun q => ⟨fun q2 => ?_, fun q2 => bad (fun z => ?_)⟩⟩⟩) (fun n => ⟨_, rfl, fun _ => bad (fun z => n z.1), fun z => absurd rfl z⟩)))
  · rw [i_lt, li0'] at q; omega
  · rw [i_lt, li0'] at q
    rw [i_le, e2] at q2
    subst e
    refine C_rank hF hT (fun σ1 c1 t1 => ⟨rfl, ?_⟩)
    rw [hl] at t1
    have d1 := c1.chg
    refine C_collect (l := l) (hF.fr (d1.sm (by decide))) (hT.fr (d1.sm (by decide))) l6 t1.2.2 (by omega) (fun σ2 c2 r2 => ⟨rfl, ?_⟩)
    have d2 := d1.tr c2.chg
    have rl9 := (rdL_len (p := rdw ft nF lk tl tc nT l B) (wL tl tc nT).length).1
    have hC : Cr ft nF lk tl tc nT l nW wn ws (rdL (rdw ft nF lk tl tc nT l B) (wL tl tc nT).length) σ2 := ⟨hW.fr (d2.sm (by decide)), by rw [c2.2.1 4 (by decide)]; exact t1.1, r2, l6, by omega, rd_ok l6⟩
    refine C_searchBest hC (fun σ3 c3 b3 => ⟨rfl, ?_⟩)
    have d3 := d2.tr c3.chg
    have q4 := Nat.pow_pos (n := l.length) (show 0 < 4 by decide)
    have M : ∀ v : Int32, (b = 0 → v = nI (nm (rwD 4 l.length (bb (rdN ft nF lk tl tc nT l nW wn ws (rdL (rdw ft nF lk tl tc nT l B) (wL tl tc nT).length)) (4 ^ l.length)).2.1) l.length)) → (b = 1 → v = xk (bb (rdN ft nF lk tl tc nT l nW wn ws (rdL (rdw ft nF lk tl tc nT l B) (wL tl tc nT).length)) (4 ^ l.length)).1) → (¬ b = 0 → ¬ b = 1 → v = nI (bb (rdN ft nF lk tl tc nT l nW wn ws (rdL (rdw ft nF lk tl tc nT l B) (wL tl tc nT).length)) (4 ^ l.length)).2.2) → ∃ v1, some (Value.int v) = some (.int v1) ∧ ∃ v2, some (Value.int v1) = some (.int v2) ∧ EvM 40 mX10_best [.ref 245, .int (nI B), .int b] σ3 (fun r2 σ2 => r2 = some (.int v2) ∧ Rel σ2) := by
      intro v k0 k1 k2
      refine ⟨_, rfl, _, rfl, EX10_best (M_areTexts (hT.fr (d3.sm (by decide))) (fun B' hB' e' => ⟨_, rfl, fun z => absurd z (by decide), fun _ => ⟨fun _ => M_findBest (hF.fr (d3.sm (by decide))) (hT.fr (d3.sm (by decide))) (hW.fr (d3.sm (by decide))) hl (by omega) (fun σ4 c4 _ _ _ _ b4 => ⟨rfl, ?_⟩), fun z => absurd (by rw [i_l]; omega) z⟩⟩) (fun n => absurd ⟨B, hB, rfl⟩ n))⟩
      have R4 := hR.q (d3.tr c4)
      exact ⟨fun z => ⟨by rw [k0 z, b4.2.2 q4], R4⟩, fun z0 => ⟨fun z => ⟨by rw [k1 z, b4.1], R4⟩, fun z1 => ⟨by rw [k2 z0 z1, b4.2.1], R4⟩⟩⟩
    have b01 : b = 0 → ¬ b = 1 := fun z y => by rw [z] at y; exact absurd y (by decide)
    refine ⟨fun z => C_packBest l6 (hC.s c3).2.1 (fun p => rwD4) (b3.2.2 q4) ⟨_, rfl, M _ (fun _ => rfl) (fun y => absurd y (b01 z)) (fun y _ => absurd z y)⟩, fun z0 => ⟨fun z => M _ (fun y => absurd y z0) (fun _ => b3.1) (fun _ y => absurd z y), fun z1 => M _ (fun y => absurd y z0) (fun y => absurd y z1) (fun _ _ => b3.2.1)⟩⟩
  · rw [i_le, e2] at q2; omega
