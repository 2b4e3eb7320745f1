/-! ===== runs ===== -/
theorem b2_0 {b : Bool} : (b2 b = 0 ↔ b = false) ∧ (¬ b2 b = 0 ↔ b = true) := by cases b <;> decide
section RU
variable {N nF lk nT : Nat} {ft : Nat → Nat} {tl : Nat → Nat} {tc : Nat → Nat → Int32} {σ : Sg} {Q : Option Value → Sg → Prop}
def eJ (last : Bool) (x : Wd) : Nat := if last = true then x.2.2.1 - 1 else 0
def eP (ft : Nat → Nat) (nF lk : Nat) (tl : Nat → Nat) (tc : Nat → Nat → Int32) (nT : Nat) (last : Bool) (s w : Nat) : Bool := (wAt (wL tl tc nT) w).2.2.2 && (wS ft nF lk tc (wAt (wL tl tc nT) w) (eJ last (wAt (wL tl tc nT) w)) == nI s)
def eS (ft : Nat → Nat) (nF lk : Nat) (tl : Nat → Nat) (tc : Nat → Nat → Int32) (nT : Nat) (last : Bool) : Nat := sumN (fun s => cnt (eP ft nF lk tl tc nT last s) (wL tl tc nT).length * cnt (eP ft nF lk tl tc nT last s) (wL tl tc nT).length) 24
def Ed (k : Nat) (p : Nat → Nat → Bool) (n : Nat) (σ : Sg) : Prop := ∀ s, s < 24 → σ.1 k s = nI (cnt (p s) n)
theorem Ed.step {k i s : Nat} {p : Nat → Nat → Bool} (h : Ed k p i σ) (hs : s < 24) (hp : ∀ x, x < 24 → p x i = decide (x = s)) : Ed k p (i + 1) (u1 σ k s (σ.1 k s + 1)) := by
  intro x hx
  rw [cnt_s, hp x hx]
  by_cases e : x = s
  · subst e
    rw [u1_same, h x hx, nI_1, if_pos (by simp)]
  · rw [u1_slot e, h x hx, if_neg (by simp [e])]
    rfl
theorem Ed.stay {k i : Nat} {p : Nat → Nat → Bool} (h : Ed k p i σ) (hp : ∀ x, x < 24 → p x i = false) : Ed k p (i + 1) σ := by
  intro x hx
  rw [cnt_s, hp x hx, h x hx]
  rfl
theorem eP_no {last : Bool} {i : Nat} (f : (wAt (wL tl tc nT) i).2.2.2 = false) : ∀ x, x < 24 → eP ft nF lk tl tc nT last x i = false := fun x _ => by unfold eP; rw [f]; rfl
theorem eP_yes {last : Bool} {i s : Nat} (hs : s < 24) (f : (wAt (wL tl tc nT) i).2.2.2 = true) (e : wS ft nF lk tc (wAt (wL tl tc nT) i) (eJ last (wAt (wL tl tc nT) i)) = nI s) : ∀ x, x < 24 → eP ft nF lk tl tc nT last x i = decide (x = s) := fun x hx => by
  unfold eP
  rw [f, e, Bool.true_and]
  by_cases z : x = s
  · subst z; simp
  · have : ¬ nI s = nI x := fun q => z ((nI_eq (by omega) (by omega)).mp q).symm
    simp [z, this]
theorem C_likeEdges (hF : RF nF lk ft σ) (hT : RT nF nT tl tc σ) (last : Bool) (h : ∀ σ', Rw 21 σ σ' → Q (some (.int (nI (eS ft nF lk tl tc nT last)))) σ') : EvM (N + 4) mX7_likeEdges [.ref 5, .int (b2 last)] σ Q := by
  have n24 := hF.1
  have g5 := hT.2.2.2.2.1
  have hl := wL_len (tl := tl) (tc := tc) nT (fun t ht => (hT.2.2.2.1 t ht).2.1)
  have nT8 := hT.1
  have fr : ∀ σ', Rw 21 σ σ' → RF nF lk ft σ' ∧ RT nF nT tl tc σ' ∧ σ'.1 5 9 = nI (wL tl tc nT).length := fun σ' r => by
    have c : Chg [0] σ σ' := r.c0 (fun _ => rfl)
    exact ⟨hF.fr (c.sm (by decide)), hT.fr (c.sm (by decide)), by rw [r.1 5 (by decide)]; exact g5⟩
  have C : ∀ σ', Rw 21 σ σ' → Ed 21 (eP ft nF lk tl tc nT last) (wL tl tc nT).length σ' → ∀ i, i ≤ 24 → KX7_likeEdges_88 N σ' Q (nI (sumN (fun s => cnt (eP ft nF lk tl tc nT last s) (wL tl tc nT).length * cnt (eP ft nF lk tl tc nT last s) (wL tl tc nT).length) i)) (nI i) := by
    intro σ' r e
    refine for_up ?_ ?_
    · exact BX7_likeEdges_88 ⟨fun _ => h σ' r, fun q => absurd (show (24 : Int32) ≤ nI 24 by decide) q⟩
    · intro i hi ih
      refine BX7_likeEdges_88 ⟨fun q => absurd q (nI_ge (b := 24) hi (by omega)), fun _ => ⟨nvin (by omega) (by omega), nvin (by omega) (by omega), ?_⟩⟩
      rw [cl (by omega), e i hi, pk_mul, nI_add, nI_1]
      exact ih
  have B : ∀ i, i ≤ (wL tl tc nT).length → ∀ σ', Rw 21 σ σ' → Ed 21 (eP ft nF lk tl tc nT last) i σ' → KX7_likeEdges_23 N σ' Q (b2 last) (nI i) := by
    refine for_up ?_ ?_
    · intro σ' r e
      exact BX7_likeEdges_23 ⟨fun _ => C σ' r e 0 (by omega), fun q => absurd (by rw [(fr σ' r).2.2]; exact nI_le (Nat.le_refl _) (by omega)) q⟩
    · intro i hi ih σ' r e
      obtain ⟨hF', hT', e59⟩ := fr σ' r
      have k2 := (hT.wok hi).1.2.1
      have S : ∀ v1, v1 = wS ft nF lk tc (wAt (wL tl tc nT) i) (eJ last (wAt (wL tl tc nT) i)) → EvM (N + 3) mX7_isWhole [.ref 5, .int (nI i)] σ' (fun r9 σ2 => ∃ v2, r9 = some (.int v2) ∧ ((v2 = 0 → KX7_likeEdges_23 N σ2 Q (b2 last) (nI (i + 1))) ∧ (¬ v2 = 0 → (v1 < 0 → KX7_likeEdges_23 N σ2 Q (b2 last) (nI (i + 1))) ∧ (¬ v1 < 0 → (24 ≤ v1 → KX7_likeEdges_23 N σ2 Q (b2 last) (nI (i + 1))) ∧ (¬ 24 ≤ v1 → vp_in v1 24 ∧ (vp_in v1 24 ∧ (KX7_likeEdges_23 N (u1 σ2 21 (v1).toNatClampNeg ((σ2.1 21 (v1).toNatClampNeg) + 1)) Q (b2 last) (nI (i + 1))))))))) := by
        intro v1 hv
        refine C_isWhole hT' hi (fun f => ⟨_, rfl, fun q => absurd q (by decide), fun _ => ?_⟩) (fun f => ⟨_, rfl, fun _ => ih σ' r (e.stay (eP_no f)), fun q => absurd rfl q⟩)
        obtain ⟨s, s1, s2, s3⟩ := wS_sign (lk := lk) hF hT hi (i := eJ last (wAt (wL tl tc nT) i)) (by unfold eJ; cases last <;> simp <;> omega) f
        rw [hv, s3]
        refine ⟨fun q => absurd q (nI_pos (by omega)), fun _ => ⟨fun q => absurd q (nI_ge (b := 24) (by omega) (by omega)), fun _ => ⟨nvin (by omega) (by omega), nvin (by omega) (by omega), ?_⟩⟩⟩
        rw [cl (by omega)]
        exact ih _ r.u1 (e.step (by omega) (eP_yes (by omega) f s3))
      refine BX7_likeEdges_23 ⟨fun q => absurd q (by rw [e59]; exact nI_ge hi (by omega)), fun _ => ?_⟩
      rw [nI_1]
      refine ⟨fun q => C_signOfWord hF' hT' hi (i := 0) (by omega) ⟨_, rfl, S _ ?_⟩, fun q => C_lastSignOfWord hF' hT' hi ⟨_, rfl, S _ ?_⟩⟩
      · rw [b2_0.1.mp q]; rfl
      · rw [b2_0.2.mp q]; rfl
  have A : ∀ i, i ≤ 24 → ∀ σ', Rw 21 σ σ' → (∀ s, s < i → σ'.1 21 s = 0) → KX7_likeEdges_2 N σ' Q (b2 last) (nI i) := by
    refine for_up ?_ ?_
    · intro σ' r e
      exact BX7_likeEdges_2 ⟨fun _ => B 0 (by omega) σ' r (fun s hs => e s hs), fun q => absurd (show (24 : Int32) ≤ nI 24 by decide) q⟩
    · intro i hi ih σ' r e
      refine BX7_likeEdges_2 ⟨fun q => absurd q (nI_ge (b := 24) hi (by omega)), fun _ => ⟨nvin (by omega) (by omega), ?_⟩⟩
      rw [cl (by omega), nI_1]
      refine ih _ r.u1 (fun s hs => ?_)
      by_cases z : s = i
      · rw [z, u1_same]
      · rw [u1_slot z]; exact e s (by omega)
  exact EX7_likeEdges (A 0 (by omega) σ Rw.rf (fun s hs => absurd hs (Nat.not_lt_zero s)))
theorem M_edgeSum (hF : RF nF lk ft σ) (hT : RT nF nT tl tc σ) (last : Bool) (h : ∀ σ', Chg [0] σ σ' → Q (some (.int (nI (eS ft nF lk tl tc nT last)))) σ') : EvM (N + 3) mX10_edgeSum [.ref 245, .int (b2 last)] σ Q := by
  have n24 := hF.1
  have hl := wL_len (tl := tl) (tc := tc) nT (fun t ht => (hT.2.2.2.1 t ht).2.1)
  have nT8 := hT.1
  refine EX10_edgeSum (M_findWords hF hT (fun σ1 c1 hG hW => ⟨rfl, ?_⟩))
  have m254 : ∀ j, modOf 254 j = 0 := fun _ => rfl
  have fr : ∀ σ', Rw 254 σ1 σ' → Chg [0] σ σ' ∧ RF nF lk ft σ' ∧ RT nF nT tl tc σ' ∧ SG nF lk ft σ' ∧ WS (wL tl tc nT) σ' := fun σ' r => by
    have c : Chg [0] σ σ' := r.chg (fun j => by rw [m254 j]; decide) c1
    refine ⟨c, hF.fr (c.sm (by decide)), hT.fr (c.sm (by decide)), fun x hx => by rw [r.1 247 (by decide)]; exact hG x hx, by rw [r.1 245 (by decide)]; exact hW.1, fun w hw => ?_⟩
    rw [r.1 250 (by decide), r.1 251 (by decide), r.1 252 (by decide), r.1 253 (by decide)]
    exact hW.2 w hw
  have C : ∀ σ', Rw 254 σ1 σ' → Ed 254 (eP ft nF lk tl tc nT last) (wL tl tc nT).length σ' → ∀ i, i ≤ 24 → KX10_edgeSum_84 N σ' Q (nI (sumN (fun s => cnt (eP ft nF lk tl tc nT last s) (wL tl tc nT).length * cnt (eP ft nF lk tl tc nT last s) (wL tl tc nT).length) i)) (nI i) := by
    intro σ' r e
    refine for_up ?_ ?_
    · exact BX10_edgeSum_84 ⟨fun _ => h σ' (fr σ' r).1, fun q => absurd (show (24 : Int32) ≤ nI 24 by decide) q⟩
    · intro i hi ih
      refine BX10_edgeSum_84 ⟨fun q => absurd q (nI_ge (b := 24) hi (by omega)), fun _ => ⟨nvin (by omega) (by omega), nvin (by omega) (by omega), ?_⟩⟩
      rw [cl (by omega), e i hi, pk_mul, nI_add, nI_1]
      exact ih
  have B : ∀ i, i ≤ (wL tl tc nT).length → ∀ σ', Rw 254 σ1 σ' → Ed 254 (eP ft nF lk tl tc nT last) i σ' → KX10_edgeSum_27 N σ' Q (b2 last) (nI i) := by
    refine for_up ?_ ?_
    · intro σ' r e
      exact BX10_edgeSum_27 ⟨fun _ => C σ' r e 0 (by omega), fun q => absurd (by rw [(fr σ' r).2.2.2.2.1]; exact nI_le (Nat.le_refl _) (by omega)) q⟩
    · intro i hi ih σ' r e
      obtain ⟨c', hF', hT', hG', hW'⟩ := fr σ' r
      have k2 := (hT.wok hi).1.2.1
      have S : (wAt (wL tl tc nT) i).2.2.2 = true → ∀ v2, v2 = wS ft nF lk tc (wAt (wL tl tc nT) i) (eJ last (wAt (wL tl tc nT) i)) → vp_in v2 24 ∧ (vp_in v2 24 ∧ KX10_edgeSum_27 N (u1 σ' 254 (v2).toNatClampNeg ((σ'.1 254 (v2).toNatClampNeg) + 1)) Q (b2 last) (nI (i + 1))) := by
        intro f v2 hv
        obtain ⟨s, s1, s2, s3⟩ := wS_sign (lk := lk) hF hT hi (i := eJ last (wAt (wL tl tc nT) i)) (by unfold eJ; cases last <;> simp <;> omega) f
        rw [hv, s3]
        refine ⟨nvin (by omega) (by omega), nvin (by omega) (by omega), ?_⟩
        rw [cl (by omega)]
        exact ih _ r.u1 (e.step (by omega) (eP_yes (by omega) f s3))
      refine BX10_edgeSum_27 ⟨fun q => absurd q (by rw [hW'.1]; exact nI_ge hi (by omega)), fun _ => ⟨nvin (by omega) (by omega), ?_⟩⟩
      obtain ⟨w1, w2, w3, w4⟩ := hW'.2 i hi
      rw [cl (by omega), w4, w3, nI_1]
      refine ⟨fun q => ih σ' r (e.stay (eP_no (b2_0.1.mp q))), fun q => ⟨fun z => ?_, fun z => ⟨nvin (by omega) (by omega), ?_⟩⟩⟩
      · refine M_wordAt hF' hT' hG' hW' hi (i := 0) (by omega) ⟨_, rfl, S (b2_0.2.mp q) _ ?_⟩
        rw [b2_0.1.mp z]; rfl
      · rw [show nI (wAt (wL tl tc nT) i).2.2.1 - 1 = nI ((wAt (wL tl tc nT) i).2.2.1 - 1) from pk_sub (b := 1) k2]
        refine M_wordAt hF' hT' hG' hW' hi (by omega) ⟨_, rfl, S (b2_0.2.mp q) _ ?_⟩
        rw [b2_0.2.mp z]; rfl
  have A : ∀ i, i ≤ 24 → ∀ σ', Rw 254 σ1 σ' → (∀ s, s < i → σ'.1 254 s = 0) → KX10_edgeSum_6 N σ' Q (b2 last) (nI i) := by
    refine for_up ?_ ?_
    · intro σ' r e
      exact BX10_edgeSum_6 ⟨fun _ => B 0 (by omega) σ' r (fun s hs => e s hs), fun q => absurd (show (24 : Int32) ≤ nI 24 by decide) q⟩
    · intro i hi ih σ' r e
      refine BX10_edgeSum_6 ⟨fun q => absurd q (nI_ge (b := 24) hi (by omega)), fun _ => ⟨nvin (by omega) (by omega), ?_⟩⟩
      rw [cl (by omega), nI_1]
      refine ih _ r.u1 (fun s hs => ?_)
      by_cases z : s = i
      · rw [z, u1_same]
      · rw [u1_slot z]; exact e s (by omega)
  exact A 0 (by omega) σ1 Rw.rf (fun s hs => absurd hs (Nat.not_lt_zero s))
theorem eS_lt (hT : RT nF nT tl tc σ) (last : Bool) : eS ft nF lk tl tc nT last < 2147483648 := by
  have hl := wL_len (tl := tl) (tc := tc) nT (fun t ht => (hT.2.2.2.1 t ht).2.1)
  have nT8 := hT.1
  have := sumN_le (f := fun s => cnt (eP ft nF lk tl tc nT last s) (wL tl tc nT).length * cnt (eP ft nF lk tl tc nT last s) (wL tl tc nT).length) (B := 96 * 96) 24 (fun s _ => Nat.mul_le_mul (Nat.le_trans (cnt_le _ _) (by omega)) (Nat.le_trans (cnt_le _ _) (by omega)))
  unfold eS
  omega
end RU
theorem O_runs {σ : Sg} (hR : Rel σ) (a : Int32) : OPi mX9_runs mX10_runs [.int a] σ := by
  obtain ⟨nF, lk, ft, nT, tl, tc, hF, hT⟩ := hR.1
  have b0 := eS_lt (ft := ft) (lk := lk) hT false
  have b1 := eS_lt (ft := ft) (lk := lk) hT true
  have M : ∀ (σ1 : Sg), Chg [0] σ σ1 → ∀ v : Int32, (0 ≤ a.toInt ∧ a.toInt ≤ 2) → (a = 1 → v = nI (eS ft nF lk tl tc nT false)) → (a = 2 → v = nI (eS ft nF lk tl tc nT true)) → (a = 0 → v = if eS ft nF lk tl tc nT true = eS ft nF lk tl tc nT false then 0 else if eS ft nF lk tl tc nT true < eS ft nF lk tl tc nT false then -1 else 1) → ∃ v2, some (Value.int v) = some (.int v2) ∧ EvM 40 mX10_runs [.ref 245, .int a] σ1 (fun r2 σ2 => r2 = some (.int v2) ∧ Rel σ2) := by
    intro σ1 c v ha e1 e2 e0
    refine ⟨_, rfl, EX10_runs ⟨fun _ => M_edgeSum (hF.fr (c.sm (by decide))) (hT.fr (c.sm (by decide))) false (fun σ2 c2 => ⟨_, rfl, M_edgeSum ((hF.fr (c.sm (by decide))).fr (c2.sm (by decide))) ((hT.fr (c.sm (by decide))).fr (c2.sm (by decide))) true (fun σ3 c3 => ⟨_, rfl, ?_⟩)⟩), fun q => absurd (by rw [i_l]; exact ha) q⟩⟩
    have R3 := hR.q (c.tr (c2.tr c3))
    refine ⟨fun q => ⟨by rw [e1 q], R3⟩, fun q => ⟨fun z => ⟨by rw [e2 z], R3⟩, fun z => ?_⟩⟩
    have a0 : a = 0 := by
      rcases (show a.toInt = 0 ∨ a.toInt = 1 ∨ a.toInt = 2 by omega) with r | r | r
      · exact Int32.toInt_inj.mp r
      · exact absurd (Int32.toInt_inj.mp r) q
      · exact absurd (Int32.toInt_inj.mp r) z
    have e := e0 a0
    refine ⟨fun y => ⟨fun u => ?_, fun u => ?_⟩, fun y => ?_⟩
    · have y1 := (nI_leI (by omega) (by omega)).mp y
      have u1 := (nI_leI (by omega) (by omega)).mp u
      rw [if_pos (by omega)] at e
      exact ⟨by rw [e], R3⟩
    · have y1 := (nI_leI (by omega) (by omega)).mp y
      have u1 : ¬ eS ft nF lk tl tc nT false ≤ eS ft nF lk tl tc nT true := fun k => u (nI_le k (by omega))
      rw [if_neg (by omega), if_pos (by omega)] at e
      exact ⟨by rw [e], R3⟩
    · have y1 : ¬ eS ft nF lk tl tc nT true ≤ eS ft nF lk tl tc nT false := fun k => y (nI_le k (by omega))
      rw [if_neg (by omega), if_neg (by omega)] at e
      exact ⟨by rw [e], R3⟩
  have cc : ∀ σ', Rw 21 σ σ' → Chg [0] σ σ' := fun σ' r => r.c0 (fun _ => rfl)
  refine EX9_runs ⟨fun q => C_likeEdges hF hT true (fun σ1 r1 => ⟨_, rfl, C_likeEdges (hF.fr ((cc σ1 r1).sm (by decide))) (hT.fr ((cc σ1 r1).sm (by decide))) false (fun σ2 r2 => ⟨_, rfl, EJ6_compare_7cf53 ⟨fun y => ⟨fun u => ?_, fun u => ?_⟩, fun y => ?_⟩⟩)⟩), fun q => C_likeEdges hF hT false (fun σ1 r1 => ⟨_, rfl, M σ1 (cc σ1 r1) _ ?_ (fun _ => rfl) (fun z => ?_) (fun z => ?_)⟩), fun q => C_likeEdges hF hT true (fun σ1 r1 => ⟨_, rfl, M σ1 (cc σ1 r1) _ ?_ (fun z => ?_) (fun _ => rfl) (fun z => ?_)⟩), fun q0 q1 q2 => ⟨_, rfl, EX10_runs ⟨fun z => ?_, fun _ => ⟨rfl, hR⟩⟩⟩⟩
  · have c2 : Chg [0] σ σ2 := (cc σ1 r1).tr (r2.c0 (fun _ => rfl))
    have u1 := (nI_eq (by omega) (by omega)).mp u
    refine ⟨_, rfl, M σ2 c2 _ (by rw [q]; decide) (fun z => ?_) (fun z => ?_) (fun z => ?_)⟩
    · rw [q] at z; exact absurd z (by decide)
    · rw [q] at z; exact absurd z (by decide)
    · rw [if_pos u1]
  · have c2 : Chg [0] σ σ2 := (cc σ1 r1).tr (r2.c0 (fun _ => rfl))
    have y1 := (nI_leI (by omega) (by omega)).mp y
    have u1 : ¬ eS ft nF lk tl tc nT true = eS ft nF lk tl tc nT false := fun k => u (by rw [k])
    refine ⟨_, rfl, M σ2 c2 _ (by rw [q]; decide) (fun z => ?_) (fun z => ?_) (fun z => ?_)⟩
    · rw [q] at z; exact absurd z (by decide)
    · rw [q] at z; exact absurd z (by decide)
    · rw [if_neg u1, if_neg (by omega)]
  · have c2 : Chg [0] σ σ2 := (cc σ1 r1).tr (r2.c0 (fun _ => rfl))
    have y1 : ¬ eS ft nF lk tl tc nT false ≤ eS ft nF lk tl tc nT true := fun k => y (nI_le k (by omega))
    refine ⟨_, rfl, M σ2 c2 _ (by rw [q]; decide) (fun z => ?_) (fun z => ?_) (fun z => ?_)⟩
    · rw [q] at z; exact absurd z (by decide)
    · rw [q] at z; exact absurd z (by decide)
    · rw [if_neg (by omega), if_pos (by omega)]
  · rw [q]; decide
  · rw [q] at z; exact absurd z (by decide)
  · rw [q] at z; exact absurd z (by decide)
  · rw [q]; decide
  · rw [q] at z; exact absurd z (by decide)
  · rw [q] at z; exact absurd z (by decide)
  · exfalso
    rw [i_l] at z
    rcases (show a.toInt = 0 ∨ a.toInt = 1 ∨ a.toInt = 2 by omega) with r | r | r
    · exact q0 (Int32.toInt_inj.mp r)
    · exact q1 (Int32.toInt_inj.mp r)
    · exact q2 (Int32.toInt_inj.mp r)
