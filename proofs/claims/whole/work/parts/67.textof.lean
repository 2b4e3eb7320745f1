/-! ===== textOf ===== -/
def cW (l : List Wd) (t : Nat) (wh : Bool) (n : Nat) : Nat := cnt (fun w => (wAt l w).1 == t && (!wh || (wAt l w).2.2.2)) n
def mW (l : List Wd) (t : Nat) : Nat → Nat
  | 0 => 0
  | w + 1 => if (wAt l w).1 = t ∧ (wAt l w).2.2.2 = true then max (mW l t w) (wAt l w).2.2.1 else mW l t w
theorem mW_le {l : List Wd} {t : Nat} (h : ∀ w, w < l.length → (wAt l w).2.2.1 ≤ 24) : ∀ w, w ≤ l.length → mW l t w ≤ 24 := by
  intro w
  induction w with
  | zero => intro _; exact Nat.zero_le _
  | succ w ih =>
    intro hw
    have := ih (by omega)
    have := h w (by omega)
    unfold mW
    by_cases e : (wAt l w).1 = t ∧ (wAt l w).2.2.2 = true
    · rw [if_pos e]; omega
    · rw [if_neg e]; omega
section TXO
variable {N nF lk nT : Nat} {ft : Nat → Nat} {tl : Nat → Nat} {tc : Nat → Nat → Int32} {σ : Sg} {Q : Option Value → Sg → Prop}
theorem C_wordsIn (hT : RT nF nT tl tc σ) {t : Nat} (ht : t < nT) (wh : Bool) (h : Q (some (.int (nI (cW (wL tl tc nT) t wh (wL tl tc nT).length)))) σ) : EvM (N + 2) mX7_wordsIn [.ref 5, .int (nI t), .int (b2 wh)] σ Q := by
  obtain ⟨g1, g2, g3, g4, g5, g6⟩ := id hT
  have hl := wL_len (tl := tl) (tc := tc) nT (fun t ht => (g4 t ht).2.1)
  have L : ∀ i, i ≤ (wL tl tc nT).length → KX7_wordsIn_5 N σ Q (nI t) (b2 wh) (nI (cW (wL tl tc nT) t wh i)) (nI i) := by
    refine for_up ?_ ?_
    · exact BX7_wordsIn_5 ⟨fun _ => h, fun q => absurd (by rw [g5]; exact nI_le (Nat.le_refl _) (by omega)) q⟩
    · intro i hi ih
      have k1 := (hT.wok hi).1.1
      refine BX7_wordsIn_5 ⟨fun q => absurd q (by rw [g5]; exact nI_ge hi (by omega)), fun _ => ⟨nvin (by omega) (by omega), ?_⟩⟩
      rw [cl (by omega), (g6 i hi).1, nI_1, nI_1]
      unfold cW at ih
      rw [cnt_s] at ih
      refine ⟨fun q => ?_, fun q => ?_⟩
      · have e1 : (wAt (wL tl tc nT) i).1 = t := (nI_eq (by omega) (by omega)).mp q
        refine ⟨fun z => ?_, fun z => C_isWhole hT hi (fun f => ⟨_, rfl, fun y => absurd y (by decide), fun _ => ?_⟩) (fun f => ⟨_, rfl, fun _ => ?_, fun y => absurd rfl y⟩)⟩
        · cases wh with
          | true => exact absurd z (by decide)
          | false => rw [if_pos (by simp [e1])] at ih; exact ih
        · rw [if_pos (by simp [e1, f])] at ih; exact ih
        · cases wh with
          | true => rw [if_neg (by simp [e1, f])] at ih; exact ih
          | false => exact absurd rfl z
      · have e1 : ¬ (wAt (wL tl tc nT) i).1 = t := fun e => q (by rw [e])
        rw [if_neg (by simp [e1])] at ih
        exact ih
  exact EX7_wordsIn (L 0 (by omega))
theorem C_longestWhole (hT : RT nF nT tl tc σ) {t : Nat} (ht : t < nT) (h : Q (some (.int (nI (mW (wL tl tc nT) t (wL tl tc nT).length)))) σ) : EvM (N + 2) mX7_longestWhole [.ref 5, .int (nI t)] σ Q := by
  obtain ⟨g1, g2, g3, g4, g5, g6⟩ := id hT
  have hl := wL_len (tl := tl) (tc := tc) nT (fun t ht => (g4 t ht).2.1)
  have h24 : ∀ w, w < (wL tl tc nT).length → (wAt (wL tl tc nT) w).2.2.1 ≤ 24 := fun w hw => by
    obtain ⟨⟨k1, k2, k3, k4, k5⟩, _, k6⟩ := hT.wok hw
    omega
  have L : ∀ i, i ≤ (wL tl tc nT).length → KX7_longestWhole_4 N σ Q (nI t) (nI (mW (wL tl tc nT) t i)) (nI i) := by
    refine for_up ?_ ?_
    · exact BX7_longestWhole_4 ⟨fun _ => h, fun q => absurd (by rw [g5]; exact nI_le (Nat.le_refl _) (by omega)) q⟩
    · intro i hi ih
      have k1 := (hT.wok hi).1.1
      have k2 := h24 i hi
      have k3 := mW_le (t := t) h24 i (by omega)
      refine BX7_longestWhole_4 ⟨fun q => absurd q (by rw [g5]; exact nI_ge hi (by omega)), fun _ => ⟨nvin (by omega) (by omega), ?_⟩⟩
      rw [cl (by omega), (g6 i hi).1, nI_1]
      unfold mW at ih
      refine ⟨fun q => ?_, fun q => ?_⟩
      · have e1 : (wAt (wL tl tc nT) i).1 = t := (nI_eq (by omega) (by omega)).mp q
        refine C_isWhole hT hi (fun f => ⟨_, rfl, fun y => absurd y (by decide), fun _ => ⟨nvin (by omega) (by omega), ?_⟩⟩) (fun f => ⟨_, rfl, fun _ => ?_, fun y => absurd rfl y⟩)
        · rw [if_pos ⟨e1, f⟩] at ih
          rw [(g6 i hi).2.2.1, i_max (by omega) (by omega)]
          exact ih
        · rw [if_neg (by rw [f]; simp)] at ih
          exact ih
      · have e1 : ¬ (wAt (wL tl tc nT) i).1 = t := fun e => q (by rw [e])
        rw [if_neg (fun y => e1 y.1)] at ih
        exact ih
  exact EX7_longestWhole (L 0 (by omega))
theorem M_textOf (hF : RF nF lk ft σ) (hT : RT nF nT tl tc σ) {t : Nat} (ht : t < nT) {x : Int32} (hx : (0 ≤ x.toInt ∧ x.toInt ≤ 5) ∨ ∃ i, i < tl t ∧ x = nI (10 + i))
    (h : ∀ (σ' : Sg) (v : Int32), Chg [0] σ σ' → (x = 0 → v = nI (tl t)) → (x = 1 → v = nI (cS tc t (tl t))) → (x = 2 → v = nI (cX ft nF lk tc t (-1) (tl t))) → (x = 3 → v = nI (cW (wL tl tc nT) t false (wL tl tc nT).length)) → (x = 4 → v = nI (cW (wL tl tc nT) t true (wL tl tc nT).length)) → (x = 5 → v = nI (mW (wL tl tc nT) t (wL tl tc nT).length)) → (∀ i, i < tl t → x = nI (10 + i) → v = sgv ft nF lk (tc t i)) → Q (some (.int v)) σ') : EvM (N + 3) mX10_textOf [.ref 245, .int (nI t), .int x] σ Q := by
  obtain ⟨g1, g2, g3, g4, g5, g6⟩ := id hT
  obtain ⟨a1, a2, a3, a4, a5⟩ := g4 t ht
  have hl := wL_len (tl := tl) (tc := tc) nT (fun t ht => (g4 t ht).2.1)
  have n24 := hF.1
  have h24 : ∀ w, w < (wL tl tc nT).length → (wAt (wL tl tc nT) w).2.2.1 ≤ 24 := fun w hw => by
    obtain ⟨⟨k1, k2, k3, k4, k5⟩, _, k6⟩ := hT.wok hw
    omega
  have it : (0 ≤ (((nI t : Int32)).toInt64).toInt ∧ (((nI t : Int32)).toInt64).toInt ≤ (((σ.1 245 4) - 1).toInt64).toInt) := by
    rw [g3, show nI nT - 1 = nI (nT - 1) from pk_sub (b := 1) (by omega), i_l, i_l, i_nI (by omega), i_nI (by omega)]; omega
  have F : EvM (N + 2) mX10_findWords [.ref 245] σ (fun r9 σ2 => r9 = none ∧ (KX10_textOf_56 N σ2 Q (nI t) x 0 0 0)) := by
    refine M_findWords hF hT (fun σ' c hG hW => ⟨rfl, ?_⟩)
    have hF' := hF.fr (c.sm (by decide))
    have hT' := hT.fr (c.sm (by decide))
    have e248 : σ'.1 248 t = nI (tl t) := by rw [c.1 248 t (by rw [show modOf 248 t = 2 from rfl]; decide)]; exact a4
    have K : ∀ i, i ≤ (wL tl tc nT).length → KX10_textOf_124 N σ' Q (nI t) x (nI (cS tc t (tl t))) (nI (cX ft nF lk tc t (-1) (tl t))) (nI (cW (wL tl tc nT) t false i)) (nI (cW (wL tl tc nT) t true i)) (nI (mW (wL tl tc nT) t i)) (nI i) := by
      refine for_up ?_ ?_
      · have nv : ∀ (a b i : Nat), a < 10 → x = nI a → x = nI (10 + i) → i < tl t → False := fun a b i h1 h2 h3 h4 => by
          have := (nI_eq (by omega) (by omega)).mp (h2.symm.trans h3)
          omega
        have no : ∀ a b : Nat, a < 10 → b < 10 → ¬ a = b → x = nI a → ¬ x = nI b := fun a b h1 h2 h3 h4 h5 => h3 ((nI_eq (by omega) (by omega)).mp (h4.symm.trans h5))
        have A : ∀ (a : Nat), a < 6 → x = nI a → ∀ v : Int32, (a = 0 → v = nI (tl t)) → (a = 1 → v = nI (cS tc t (tl t))) → (a = 2 → v = nI (cX ft nF lk tc t (-1) (tl t))) → (a = 3 → v = nI (cW (wL tl tc nT) t false (wL tl tc nT).length)) → (a = 4 → v = nI (cW (wL tl tc nT) t true (wL tl tc nT).length)) → (a = 5 → v = nI (mW (wL tl tc nT) t (wL tl tc nT).length)) → Q (some (.int v)) σ' := by
          intro a ha e v k0 k1 k2 k3 k4 k5
          have w : ∀ b : Nat, b < 10 → x = nI b → a = b := fun b hb z => (nI_eq (by omega) (by omega)).mp (e.symm.trans z)
          exact h σ' v c (fun z => k0 (w 0 (by omega) z)) (fun z => k1 (w 1 (by omega) z)) (fun z => k2 (w 2 (by omega) z)) (fun z => k3 (w 3 (by omega) z)) (fun z => k4 (w 4 (by omega) z)) (fun z => k5 (w 5 (by omega) z)) (fun i hi z => absurd (nv a 0 i (by omega) e z hi) id)
        have kz : ∀ {p : Prop}, (p → False) → ∀ {q : Prop}, p → q := fun h1 _ h2 => absurd h2 h1
        refine BX10_textOf_124 ⟨fun _ => ⟨fun z => ⟨nvin (by omega) (by omega), ?_⟩, fun z => ?_, fun z => ?_, fun z => ?_, fun z => ?_, fun z => ?_, fun z0 z1 z2 z3 z4 z5 => ?_⟩, fun q => absurd (by rw [hW.1]; exact nI_le (Nat.le_refl _) (by omega)) q⟩
        · rw [cl (by omega), e248]
          exact A 0 (by omega) z _ (fun _ => rfl) (fun y => by omega) (fun y => by omega) (fun y => by omega) (fun y => by omega) (fun y => by omega)
        · exact A 1 (by omega) z _ (fun y => by omega) (fun _ => rfl) (fun y => by omega) (fun y => by omega) (fun y => by omega) (fun y => by omega)
        · exact A 2 (by omega) z _ (fun y => by omega) (fun y => by omega) (fun _ => rfl) (fun y => by omega) (fun y => by omega) (fun y => by omega)
        · exact A 3 (by omega) z _ (fun y => by omega) (fun y => by omega) (fun y => by omega) (fun _ => rfl) (fun y => by omega) (fun y => by omega)
        · exact A 4 (by omega) z _ (fun y => by omega) (fun y => by omega) (fun y => by omega) (fun y => by omega) (fun _ => rfl) (fun y => by omega)
        · exact A 5 (by omega) z _ (fun y => by omega) (fun y => by omega) (fun y => by omega) (fun y => by omega) (fun y => by omega) (fun _ => rfl)
        · rcases hx with hx | ⟨i, hi, e⟩
          · exfalso
            have : ∃ a : Nat, a < 6 ∧ x = nI a := ⟨x.toInt.toNat, by omega, i_of (by omega) (by omega)⟩
            obtain ⟨a, ha, e⟩ := this
            rcases (show a = 0 ∨ a = 1 ∨ a = 2 ∨ a = 3 ∨ a = 4 ∨ a = 5 by omega) with r | r | r | r | r | r <;> subst r
            · exact z0 e
            · exact z1 e
            · exact z2 e
            · exact z3 e
            · exact z4 e
            · exact z5 e
          · rw [e, show nI (10 + i) - 10 = nI i by rw [show (10 : Int32) = nI 10 from rfl, pk_sub (by omega), show 10 + i - 10 = i by omega]]
            refine M_at hF' hT' hG ht hi ⟨_, rfl, h σ' _ c (fun z => absurd z z0) (fun z => absurd z z1) (fun z => absurd z z2) (fun z => absurd z z3) (fun z => absurd z z4) (fun z => absurd z z5) (fun j hj z => ?_)⟩
            have := (nI_eq (by omega) (by omega)).mp (e.symm.trans z)
            rw [show i = j by omega]
      · intro i hi ih
        have k1 := (hT.wok hi).1.1
        have k2 := h24 i hi
        have k3 := mW_le (t := t) h24 i (by omega)
        have ni : vp_in (nI i) 104 := nvin (by omega) (by omega)
        obtain ⟨w1, w2, w3, w4⟩ := hW.2 i hi
        refine BX10_textOf_124 ⟨fun q => absurd q (by rw [hW.1]; exact nI_ge hi (by omega)), fun _ => ⟨ni, ?_⟩⟩
        rw [cl (by omega), w1, w3, w4]
        simp only [nI_1, Int32.add_zero]
        unfold cW mW at ih
        rw [cnt_s, cnt_s] at ih
        refine ⟨fun q => ⟨ni, ?_⟩, fun q => ?_⟩
        · have e1 : (wAt (wL tl tc nT) i).1 = t := (nI_eq (by omega) (by omega)).mp q
          cases f : (wAt (wL tl tc nT) i).2.2.2
          · rw [if_pos (by simp [e1]), if_neg (by simp [f]), if_neg (by simp [f])] at ih
            exact ⟨fun _ => ⟨ni, fun _ => ih, fun z => absurd rfl z⟩, fun z => absurd rfl z⟩
          · rw [if_pos (by simp [e1]), if_pos (by simp [e1, f]), if_pos ⟨e1, f⟩] at ih
            refine ⟨fun z => absurd z (by decide), fun _ => ⟨ni, fun z => absurd z (by decide), fun _ => ⟨ni, fun z => ?_, fun z => ⟨ni, ?_⟩⟩⟩⟩
            · have := (nI_leI (by omega) (by omega)).mp z
              rw [Nat.max_eq_left this] at ih
              exact ih
            · have : ¬ (wAt (wL tl tc nT) i).2.2.1 ≤ mW (wL tl tc nT) t i := fun y => z (nI_le y (by omega))
              rw [Nat.max_eq_right (by omega)] at ih
              exact ih
        · have e1 : ¬ (wAt (wL tl tc nT) i).1 = t := fun e => q (by rw [e])
          rw [if_neg (by simp [e1]), if_neg (by simp [e1]), if_neg (fun y => e1 y.1)] at ih
          exact ih
    have J : ∀ i, i ≤ tl t → KX10_textOf_56 N σ' Q (nI t) x (nI (cS tc t i)) (nI (cX ft nF lk tc t (-1) i)) (nI i) := by
      refine for_up ?_ ?_
      · refine BX10_textOf_56 ⟨nvin (by omega) (by omega), ?_⟩
        rw [cl (by omega), e248]
        exact ⟨fun _ => K 0 (by omega), fun q => absurd (nI_le (Nat.le_refl _) (by omega)) q⟩
      · intro i hi ih
        refine BX10_textOf_56 ⟨nvin (by omega) (by omega), ?_⟩
        rw [cl (by omega), e248]
        simp only [nI_1, Int32.add_zero]
        unfold cS cX at ih
        rw [cnt_s, cnt_s] at ih
        obtain ⟨s1, s2, s3⟩ := sgv_neg (ft := ft) (lk := lk) (a5 i hi).1 n24
        have s4 := sgv_pos (ft := ft) (lk := lk) (a5 i hi).1 n24
        refine ⟨fun q => absurd q (nI_ge hi (by omega)), fun _ => M_at hF' hT' hG ht hi ⟨_, rfl, fun q => M_at hF' hT' hG ht hi ⟨_, rfl, fun z => ?_, fun z => ?_⟩, fun q => M_at hF' hT' hG ht hi ⟨_, rfl, fun z => ?_, fun z => ?_⟩⟩⟩
        · rw [if_neg (by rw [decide_eq_true_iff, ← s4]; exact fun y => y q), if_pos (by simp [z])] at ih
          exact ih
        · rw [if_neg (by rw [decide_eq_true_iff, ← s4]; exact fun y => y q), if_neg (by simp [z])] at ih
          exact ih
        · rw [z] at q; exact absurd (by decide) q
        · rw [if_pos (by rw [decide_eq_true_iff, ← s4]; exact q), if_neg (by simp [z])] at ih
          exact ih
    exact J 0 (by omega)
  refine EX10_textOf (EX10_isText ⟨fun _ => ⟨_, rfl, fun q => absurd q (by decide), fun _ => ⟨fun _ => F, fun q => ⟨nvin (by omega) (by omega), fun _ => F, fun z => ?_⟩⟩⟩, fun q => absurd it q⟩)
  exfalso
  rw [cl (by omega), a4] at z
  rcases hx with hx | ⟨i, hi, e⟩
  · exact q (by rw [i_l]; exact hx)
  · apply z
    rw [e, show (9 : Int32) = nI 9 from rfl, nI_add, i_l, i_l, i_nI (by omega), i_nI (by omega)]
    omega
end TXO
theorem O_textOf {σ : Sg} (hR : Rel σ) (a b : Int32) : OPi mX9_textOf mX10_textOf [.int a, .int b] σ := by
  obtain ⟨nF, lk, ft, nT, tl, tc, hF, hT⟩ := hR.1
  obtain ⟨g1, g2, g3, g4, g5, g6⟩ := id hT
  have n24 := hF.1
  refine EX9_textOf ?_
  by_cases ha : vp_in a nT
  · obtain ⟨t, ht, rfl⟩ := vin ha (by omega)
    obtain ⟨a1, a2, a3, a4, a5⟩ := g4 t ht
    have nt : vp_in (nI t) 8 := nvin (by omega) (by omega)
    have ce := cS_eq (ft := ft) (lk := lk) n24 (fun c hc => (a5 c hc).1)
    have M : ∀ v : Int32, ((0 ≤ b.toInt ∧ b.toInt ≤ 5) ∨ ∃ i, i < tl t ∧ b = nI (10 + i)) → ((b = 0 → v = nI (tl t)) ∧ (b = 1 → v = nI (cS tc t (tl t))) ∧ (b = 2 → v = nI (cX ft nF lk tc t (-1) (tl t))) ∧ (b = 3 → v = nI (cW (wL tl tc nT) t false (wL tl tc nT).length)) ∧ (b = 4 → v = nI (cW (wL tl tc nT) t true (wL tl tc nT).length)) ∧ (b = 5 → v = nI (mW (wL tl tc nT) t (wL tl tc nT).length)) ∧ (∀ i, i < tl t → b = nI (10 + i) → v = sgv ft nF lk (tc t i))) → ∃ v1, some (Value.int v) = some (.int v1) ∧ ∃ v2, some (Value.int v1) = some (.int v2) ∧ EvM 40 mX10_textOf [.ref 245, .int (nI t), .int b] σ (fun r2 σ2 => r2 = some (.int v2) ∧ Rel σ2) := by
      rintro v hb ⟨e0, e1, e2, e3, e4, e5, e6⟩
      refine ⟨_, rfl, _, rfl, M_textOf hF hT ht hb (fun σ' w c f0 f1 f2 f3 f4 f5 f6 => ⟨?_, hR.q c⟩)⟩
      rcases hb with hb | ⟨i, hi, e⟩
      · obtain ⟨k, hk, e⟩ : ∃ k : Nat, k < 6 ∧ b = nI k := ⟨b.toInt.toNat, by omega, i_of (by omega) (by omega)⟩
        rcases (show k = 0 ∨ k = 1 ∨ k = 2 ∨ k = 3 ∨ k = 4 ∨ k = 5 by omega) with r | r | r | r | r | r <;> subst r
        · rw [e0 e, f0 e]
        · rw [e1 e, f1 e]
        · rw [e2 e, f2 e]
        · rw [e3 e, f3 e]
        · rw [e4 e, f4 e]
        · rw [e5 e, f5 e]
      · rw [e6 i hi e, f6 i hi e]
    have no : ∀ p q : Nat, p < 100 → q < 100 → ¬ p = q → ∀ {P : Prop}, b = nI p → b = nI q → P := fun p q h1 h2 h3 P h4 h5 => absurd ((nI_eq (by omega) (by omega)).mp (h4.symm.trans h5)) h3
    have sm : ∀ k : Nat, k < 6 → b = nI k → (0 ≤ b.toInt ∧ b.toInt ≤ 5) ∨ ∃ i, i < tl t ∧ b = nI (10 + i) := fun k hk e => Or.inl (by rw [e, i_nI (by omega)]; omega)
    have it : (0 ≤ (nI t).toInt ∧ (nI t).toInt < (σ.1 5 4).toInt) := by rw [g2]; exact in0 ht (by omega)
    refine EX7_tell ⟨fun _ => ⟨fun z => ⟨nt, ?_⟩, fun z => ⟨nt, C_cellsLike hF hT ht ⟨_, rfl, C_cellsLike hF hT ht ⟨_, rfl, ?_⟩⟩⟩, fun z => C_cellsLike hF hT ht ⟨_, rfl, ?_⟩, fun z => C_wordsIn hT ht false ⟨_, rfl, ?_⟩, fun z => C_wordsIn hT ht true ⟨_, rfl, ?_⟩, fun z => C_longestWhole hT ht ⟨_, rfl, ?_⟩, fun z0 z1 z2 z3 z4 z5 => ?_⟩, fun q => absurd it q⟩
    · rw [cl (by omega), a3]
      exact M _ (sm 0 (by omega) z) ⟨fun _ => rfl, fun y => no 0 1 (by omega) (by omega) (by omega) z y, fun y => no 0 2 (by omega) (by omega) (by omega) z y, fun y => no 0 3 (by omega) (by omega) (by omega) z y, fun y => no 0 4 (by omega) (by omega) (by omega) z y, fun y => no 0 5 (by omega) (by omega) (by omega) z y, fun i hi y => no 0 (10 + i) (by omega) (by omega) (by omega) z y⟩
    · rw [cl (by omega), a3, pk_sub (by omega), pk_sub (by omega)]
      exact M _ (sm 1 (by omega) z) ⟨fun y => no 1 0 (by omega) (by omega) (by omega) z y, fun y => by congr 1; omega, fun y => no 1 2 (by omega) (by omega) (by omega) z y, fun y => no 1 3 (by omega) (by omega) (by omega) z y, fun y => no 1 4 (by omega) (by omega) (by omega) z y, fun y => no 1 5 (by omega) (by omega) (by omega) z y, fun i hi y => no 1 (10 + i) (by omega) (by omega) (by omega) z y⟩
    · exact M _ (sm 2 (by omega) z) ⟨fun y => no 2 0 (by omega) (by omega) (by omega) z y, fun y => no 2 1 (by omega) (by omega) (by omega) z y, fun _ => rfl, fun y => no 2 3 (by omega) (by omega) (by omega) z y, fun y => no 2 4 (by omega) (by omega) (by omega) z y, fun y => no 2 5 (by omega) (by omega) (by omega) z y, fun i hi y => no 2 (10 + i) (by omega) (by omega) (by omega) z y⟩
    · exact M _ (sm 3 (by omega) z) ⟨fun y => no 3 0 (by omega) (by omega) (by omega) z y, fun y => no 3 1 (by omega) (by omega) (by omega) z y, fun y => no 3 2 (by omega) (by omega) (by omega) z y, fun _ => rfl, fun y => no 3 4 (by omega) (by omega) (by omega) z y, fun y => no 3 5 (by omega) (by omega) (by omega) z y, fun i hi y => no 3 (10 + i) (by omega) (by omega) (by omega) z y⟩
    · exact M _ (sm 4 (by omega) z) ⟨fun y => no 4 0 (by omega) (by omega) (by omega) z y, fun y => no 4 1 (by omega) (by omega) (by omega) z y, fun y => no 4 2 (by omega) (by omega) (by omega) z y, fun y => no 4 3 (by omega) (by omega) (by omega) z y, fun _ => rfl, fun y => no 4 5 (by omega) (by omega) (by omega) z y, fun i hi y => no 4 (10 + i) (by omega) (by omega) (by omega) z y⟩
    · exact M _ (sm 5 (by omega) z) ⟨fun y => no 5 0 (by omega) (by omega) (by omega) z y, fun y => no 5 1 (by omega) (by omega) (by omega) z y, fun y => no 5 2 (by omega) (by omega) (by omega) z y, fun y => no 5 3 (by omega) (by omega) (by omega) z y, fun y => no 5 4 (by omega) (by omega) (by omega) z y, fun _ => rfl, fun i hi y => no 5 (10 + i) (by omega) (by omega) (by omega) z y⟩
    · have nb : ¬ (0 ≤ b.toInt ∧ b.toInt ≤ 5) := fun hb => by
        obtain ⟨k, hk, e⟩ : ∃ k : Nat, k < 6 ∧ b = nI k := ⟨b.toInt.toNat, by omega, i_of (by omega) (by omega)⟩
        rcases (show k = 0 ∨ k = 1 ∨ k = 2 ∨ k = 3 ∨ k = 4 ∨ k = 5 by omega) with r | r | r | r | r | r <;> subst r
        · exact z0 e
        · exact z1 e
        · exact z2 e
        · exact z3 e
        · exact z4 e
        · exact z5 e
      have it2 : (0 ≤ (((nI t : Int32)).toInt64).toInt ∧ (((nI t : Int32)).toInt64).toInt ≤ (((σ.1 245 4) - 1).toInt64).toInt) := by
        rw [g3, show nI nT - 1 = nI (nT - 1) from pk_sub (b := 1) (by omega), i_l, i_l, i_nI (by omega), i_nI (by omega)]; omega
      have bad : ¬ (10 ≤ b.toInt ∧ b.toInt < 10 + tl t) → ∃ v1, some (Value.int (-10)) = some (.int v1) ∧ ∃ v2, some (Value.int v1) = some (.int v2) ∧ EvM 40 mX10_textOf [.ref 245, .int (nI t), .int b] σ (fun r2 σ2 => r2 = some (.int v2) ∧ Rel σ2) := by
        intro hb
        refine ⟨_, rfl, _, rfl, EX10_textOf (EX10_isText ⟨fun _ => ⟨_, rfl, fun q => absurd q (by decide), fun _ => ⟨fun q => absurd (by rw [i_l] at q; exact q) nb, fun q => ⟨nvin (by omega) (by omega), fun z => ?_, fun z => ⟨rfl, hR⟩⟩⟩⟩, fun q => absurd it2 q⟩)⟩
        exfalso
        rw [cl (by omega), a4, show (9 : Int32) = nI 9 from rfl, nI_add, i_l, i_l, i_nI (by omega)] at z
        exact hb (by omega)
      refine ⟨fun z => bad (fun y => ?_), fun z => ⟨nt, ?_⟩⟩
      · rw [i_lt] at z; rw [show ((10 : Int32)).toInt = 10 from rfl] at z; omega
      · rw [i_lt, show ((10 : Int32)).toInt = 10 from rfl] at z
        rw [cl (by omega), a3, show (10 : Int32) = nI 10 from rfl, nI_add]
        refine ⟨fun y => bad (fun u => ?_), fun y => ?_⟩
        · rw [i_le, i_nI (by omega)] at y; omega
        · rw [i_le, i_nI (by omega)] at y
          obtain ⟨i, hi, e⟩ : ∃ i : Nat, i < tl t ∧ b = nI (10 + i) := ⟨b.toInt.toNat - 10, by omega, i_of (by omega) (by omega)⟩
          rw [e, pk_sub (by omega), show 10 + i - 10 = i by omega]
          refine C_signAt hF hT ht (by omega) ⟨_, rfl, ?_⟩
          rw [if_pos hi]
          rw [e] at M no z0 z1 z2 z3 z4 z5
          exact M _ (Or.inr ⟨i, hi, rfl⟩) ⟨fun y => absurd y z0, fun y => absurd y z1, fun y => absurd y z2, fun y => absurd y z3, fun y => absurd y z4, fun y => absurd y z5, fun j hj y => by rw [show i = j by have := (nI_eq (by omega) (by omega)).mp y; omega]⟩
  · have e : EvM 40 mX10_textOf [.ref 245, .int a, .int b] σ (fun r2 σ2 => r2 = some (.int (-10)) ∧ Rel σ2) := by
      refine EX10_textOf (EX10_isText ⟨fun q => ?_, fun q => ⟨_, rfl, fun _ => ⟨rfl, hR⟩, fun z => absurd rfl z⟩⟩)
      exfalso
      apply ha
      by_cases h0 : nT = 0
      · exfalso
        rw [g3, h0, i_l, i_l, show (nI 0 - 1).toInt = -1 from by decide] at q
        omega
      · rw [g3, show nI nT - 1 = nI (nT - 1) from pk_sub (b := 1) (by omega), i_l, i_l, i_nI (by omega)] at q
        rw [vp_in_iff]; omega
    refine EX7_tell ⟨fun q => ?_, fun _ => ⟨_, rfl, _, rfl, e⟩⟩
    exfalso
    rw [g2, i_nI (by omega)] at q
    exact ha (by rw [vp_in_iff]; omega)
