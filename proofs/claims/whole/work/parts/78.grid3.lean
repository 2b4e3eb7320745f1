/-! ===== the reference's grid ===== -/
def ChM (σ σ' : Sg) : Prop := (∀ a, a ≠ 245 → a ≠ 257 → a ≠ 258 → a ≠ 259 → a ≠ 260 → ∀ j, σ'.1 a j = σ.1 a j) ∧ (∀ j, j ≠ 15 → σ'.1 245 j = σ.1 245 j) ∧ σ'.2 = σ.2
theorem ChM.rf {σ : Sg} : ChM σ σ := ⟨fun _ _ _ _ _ _ _ => rfl, fun _ _ => rfl, rfl⟩
theorem ChM.u {σ σ' : Sg} {k j : Nat} {x : Int32} (h : ChM σ σ') (hk : (k = 245 ∧ j = 15) ∨ k = 257 ∨ k = 258 ∨ k = 259 ∨ k = 260) : ChM σ (u1 σ' k j x) := by
  refine ⟨fun a h1 h2 h3 h4 h5 b => ?_, fun b hb => ?_, h.2.2⟩
  · rw [u1_cell (by omega)]; exact h.1 a h1 h2 h3 h4 h5 b
  · rw [u1_other (by omega)]; exact h.2.1 b hb
theorem ChM.chg {σ σ' : Sg} (h : ChM σ σ') : Chg [0] σ σ' := by
  refine ⟨fun a j e => ?_, fun a j _ => by rw [h.2.2]⟩
  by_cases z : a = 245
  · subst z
    refine h.2.1 j (fun y => e ?_)
    subst y; exact List.mem_cons_self
  · by_cases z2 : a = 257 ∨ a = 258 ∨ a = 259 ∨ a = 260
    · exfalso; apply e
      rcases z2 with rfl | rfl | rfl | rfl <;> exact List.mem_cons_self
    · exact h.1 a z (by omega) (by omega) (by omega) (by omega) j
section GM
variable {N nF lk R : Nat} {ft : Nat → Nat} {ap AK : Nat → Nat → Nat} {σ σ0 : Sg} {Q : Option Value → Sg → Prop}
/-- all that the reference's grid reads -/
def MR (nF lk : Nat) (ft : Nat → Nat) (ap AK : Nat → Nat → Nat) (σ : Sg) : Prop := RF nF lk ft σ ∧ SG nF lk ft σ ∧ RK ap σ ∧ ∀ a, a < 24 → ∀ b, b < 24 → AK a b ≤ 96 ∧ (¬ a = b → σ.1 256 (24 * a + b) = nI (AK a b))
theorem MR.m {σ' : Sg} (h : MR nF lk ft ap AK σ) (c : ChM σ σ') : MR nF lk ft ap AK σ' := by
  obtain ⟨h1, h2, h3, h4⟩ := h
  have cc := c.chg
  refine ⟨h1.fr (cc.sm (by decide)), fun x hx => ?_, h3.fr (cc.sm (by decide)), fun a ha b hb => ⟨(h4 a ha b hb).1, fun e => ?_⟩⟩
  · rw [c.1 247 (by decide) (by decide) (by decide) (by decide) (by decide)]; exact h2 x hx
  · rw [c.1 256 (by decide) (by decide) (by decide) (by decide) (by decide)]; exact (h4 a ha b hb).2 e
def apV (ap : Nat → Nat → Nat) (ft : Nat → Nat) (nF lk s u : Nat) : Nat := apO ap (rep ft nF lk) nF s u nF
def SM (l : List Nat) (σ : Sg) : Prop := σ.1 245 15 = nI l.length ∧ ∀ i, i < l.length → σ.1 257 i = nI (l.getD i 0)
theorem apV_le (hn : nF ≤ 24) (hK : RK ap σ) {s u : Nat} : apV ap ft nF lk s u ≤ 9 := apO_le nF (fun i hi j hj => (hK i (by omega) j (by omega)).1)
/-- behind the inner loop -/
def GE1 (N : Nat) (σ : Sg) (Q : Option Value → Sg → Prop) (x1 x2 : Int32) : Prop := (x2 = 0 → KX10_findGridSigns_11 N σ Q (x1 + 1)) ∧ (¬ x2 = 0 → (8 ≤ (σ.1 245 15) → KX10_findGridSigns_11 N σ Q (x1 + 1)) ∧ (¬ 8 ≤ (σ.1 245 15) → vp_in (σ.1 245 15) 8 ∧ (KX10_findGridSigns_11 N (u1 (u1 σ 257 (σ.1 245 15).toNatClampNeg x1) 245 15 (((u1 σ 257 (σ.1 245 15).toNatClampNeg x1).1 245 15) + 1)) Q (x1 + 1))))
theorem M_any (hM : MR nF lk ft ap AK σ) (hsg : ∀ s u, ¬ s = u → (0 < AK s u ∨ 0 < apV ap ft nF lk s u) → rep ft nF lk s = s ∧ rep ft nF lk u = u) {s : Nat} (hs : s < nF) (hE : GE1 N σ Q (nI s) (b2 (bdB AK (apV ap ft nF lk) nF s))) : KX10_findGridSigns_23 N σ Q (nI s) 0 0 := by
  obtain ⟨hF, hG, hK, hA⟩ := id hM
  have n24 := hF.1
  have e0 := hF.2.2.2.2.1
  have rs := rep_le (ft := ft) (nF := nF) (lk := lk) (x := s)
  have cs : (nI s).toNatClampNeg = s := cl (by omega)
  by_cases sg : rep ft nF lk s = s
  · have T : bdB AK (apV ap ft nF lk) nF s = true → ∀ i, i ≤ nF → KX10_findGridSigns_23 N σ Q (nI s) 1 (nI i) := by
      intro hb
      rw [hb] at hE
      refine for_up ?_ ?_
      · exact BX10_findGridSigns_23 ⟨fun _ => hE, fun q => absurd (by rw [e0]; exact nI_le (Nat.le_refl _) (by omega)) q⟩
      · intro i hi ih
        refine BX10_findGridSigns_23 ⟨fun q => absurd q (by rw [e0]; exact nI_ge hi (by omega)), fun _ => ⟨nvin (by omega) (by omega), ?_⟩⟩
        rw [cs, hG s hs, sg, nI_1]
        exact ⟨fun _ => ⟨fun q => absurd q (by decide), fun _ => ih⟩, fun q => absurd rfl q⟩
    have L : ∀ i, i ≤ nF → (∀ u, u < i → ¬ u = s → ¬ (0 < AK s u ∨ 0 < apV ap ft nF lk s u)) → KX10_findGridSigns_23 N σ Q (nI s) 0 (nI i) := by
      refine for_up ?_ ?_
      · intro a
        have hb : bdB AK (apV ap ft nF lk) nF s = false := by
          cases z : bdB AK (apV ap ft nF lk) nF s
          · rfl
          · obtain ⟨u, hu, z1, z2⟩ := bdB_iff.mp z
            exact absurd z2 (a u hu z1)
        rw [hb] at hE
        exact BX10_findGridSigns_23 ⟨fun _ => hE, fun q => absurd (by rw [e0]; exact nI_le (Nat.le_refl _) (by omega)) q⟩
      · intro i hi ih a
        have ri := rep_le (ft := ft) (nF := nF) (lk := lk) (x := i)
        have ci : (nI i).toNatClampNeg = i := cl (by omega)
        have go : (¬ i = s → ¬ (0 < AK s i ∨ 0 < apV ap ft nF lk s i)) → KX10_findGridSigns_23 N σ Q (nI s) 0 (nI (i + 1)) := fun z => ih (fun u hu => by
          by_cases e : u = i
          · rw [e]; exact z
          · exact a u (by omega))
        refine BX10_findGridSigns_23 ⟨fun q => absurd q (by rw [e0]; exact nI_ge hi (by omega)), fun _ => ⟨nvin (by omega) (by omega), ?_⟩⟩
        rw [cs, ci, hG s hs, hG i hi, sg, nI_1]
        refine ⟨fun _ => ⟨fun _ => ⟨nvin (by omega) (by omega), fun q => ⟨fun q2 => ?_, fun q2 => ?_⟩, fun q => go (fun z w => q ?_)⟩, fun q => absurd rfl q⟩, fun q => absurd rfl q⟩
        · have := (nI_eq (by omega) (by omega)).mp q2
          exact go (fun z => absurd this z)
        · have ne : ¬ i = s := fun z => q2 (by rw [z])
          have e24 : (24 : Int32) * nI s + nI i = nI (24 * s + i) := by rw [show (24 : Int32) = nI 24 from rfl, pk_mul, nI_add]
          obtain ⟨k1, k2⟩ := hA s (by omega) i (by omega)
          have k3 := apV_le (ft := ft) (lk := lk) n24 hK (s := s) (u := i)
          rw [e24, cl (by omega), k2 (fun z => ne z.symm)]
          have bt : (0 < AK s i ∨ 0 < apV ap ft nF lk s i) → KX10_findGridSigns_23 N σ Q (nI s) 1 (nI (i + 1)) := fun w => T (bdB_iff.mpr ⟨i, hi, ne, w⟩) (i + 1) (by omega)
          refine ⟨nvin (by omega) (by omega), fun y => bt (Or.inl ((nI_ltI (a := 0) (by omega) (by omega)).mp y)), fun y => M_apartOf hF hG hK (by omega) (by omega) ⟨_, rfl, fun z => go (fun _ w => ?_), fun z => bt (Or.inr ?_)⟩⟩
          · have z1 : apV ap ft nF lk s i ≤ 0 := (nI_leI (b := 0) (by show apV ap ft nF lk s i < _; omega) (by omega)).mp z
            rcases w with w | w
            · exact y (nI_lt (a := 0) w (by omega))
            · omega
          · by_cases w : 0 < apV ap ft nF lk s i
            · exact w
            · exact absurd (nI_le (a := apV ap ft nF lk s i) (b := 0) (by omega) (by omega)) z
        · rw [(hsg s i (fun y => z y.symm) w).2]
    exact L 0 (by omega) (fun u hu => absurd hu (Nat.not_lt_zero u))
  · have hb : bdB AK (apV ap ft nF lk) nF s = false := by
      cases z : bdB AK (apV ap ft nF lk) nF s
      · rfl
      · obtain ⟨u, hu, z1, z2⟩ := bdB_iff.mp z
        exact absurd (hsg s u (fun y => z1 y.symm) z2).1 sg
    rw [hb] at hE
    refine BX10_findGridSigns_23 ⟨fun _ => hE, fun _ => ⟨nvin (by omega) (by omega), ?_⟩⟩
    rw [cs, hG s hs]
    exact ⟨fun q => absurd ((nI_eq (by omega) (by omega)).mp q) sg, fun _ => hE⟩
theorem M_seats (hM : MR nF lk ft ap AK σ) (hsg : ∀ s u, ¬ s = u → (0 < AK s u ∨ 0 < apV ap ft nF lk s u) → rep ft nF lk s = s ∧ rep ft nF lk u = u)
    (h : ∀ σ', ChM σ σ' → SM (stL (bdB AK (apV ap ft nF lk) nF) nF) σ' → (∀ i, i < (stL (bdB AK (apV ap ft nF lk) nF) nF).length → ∀ j, j < (stL (bdB AK (apV ap ft nF lk) nF) nF).length → σ'.1 258 (8 * i + j) = nI (if i = j then 0 else apV ap ft nF lk ((stL (bdB AK (apV ap ft nF lk) nF) nF).getD i 0) ((stL (bdB AK (apV ap ft nF lk) nF) nF).getD j 0))) → Q none σ') : KX10_findGridSigns_11 N (u1 σ 245 15 0) Q 0 := by
  obtain ⟨hF, hG, hK, hA⟩ := id hM
  have n24 := hF.1
  have l8 := stL_le (bd := bdB AK (apV ap ft nF lk) nF) nF
  have ll := (stL_lt (bd := bdB AK (apV ap ft nF lk) nF) nF).1
  have C : ∀ i, i ≤ (stL (bdB AK (apV ap ft nF lk) nF) nF).length → ∀ σ', ChM σ σ' → SM (stL (bdB AK (apV ap ft nF lk) nF) nF) σ' → (∀ k, k < i → ∀ j, j < (stL (bdB AK (apV ap ft nF lk) nF) nF).length → σ'.1 258 (8 * k + j) = nI (if k = j then 0 else apV ap ft nF lk ((stL (bdB AK (apV ap ft nF lk) nF) nF).getD k 0) ((stL (bdB AK (apV ap ft nF lk) nF) nF).getD j 0))) → KX10_findGridSigns_136 N σ' Q (nI i) := by
    refine for_up ?_ ?_
    · intro σ' c s e
      exact BX10_findGridSigns_136 ⟨fun _ => h σ' c s e, fun q => absurd (by rw [s.1]; exact nI_le (Nat.le_refl _) (by omega)) q⟩
    · intro i hi ihi σ' c s e
      refine BX10_findGridSigns_136 ⟨fun q => absurd q (by rw [s.1]; exact nI_ge hi (by omega)), fun _ => ?_⟩
      have J : ∀ j, j ≤ (stL (bdB AK (apV ap ft nF lk) nF) nF).length → ∀ σ2, ChM σ σ2 → SM (stL (bdB AK (apV ap ft nF lk) nF) nF) σ2 → (∀ k, k < i → ∀ j, j < (stL (bdB AK (apV ap ft nF lk) nF) nF).length → σ2.1 258 (8 * k + j) = nI (if k = j then 0 else apV ap ft nF lk ((stL (bdB AK (apV ap ft nF lk) nF) nF).getD k 0) ((stL (bdB AK (apV ap ft nF lk) nF) nF).getD j 0))) → (∀ k, k < j → σ2.1 258 (8 * i + k) = nI (if i = k then 0 else apV ap ft nF lk ((stL (bdB AK (apV ap ft nF lk) nF) nF).getD i 0) ((stL (bdB AK (apV ap ft nF lk) nF) nF).getD k 0))) → KX10_findGridSigns_146 N σ2 Q (nI i) (nI j) := by
        refine for_up ?_ ?_
        · intro σ2 c2 s2 e2 e3
          refine BX10_findGridSigns_146 ⟨fun _ => ?_, fun q => absurd (by rw [s2.1]; exact nI_le (Nat.le_refl _) (by omega)) q⟩
          rw [nI_1]
          refine ihi σ2 c2 s2 (fun k hk j hj => ?_)
          by_cases z : k = i
          · rw [z]; exact e3 j hj
          · exact e2 k (by omega) j hj
        · intro j hj ihj σ2 c2 s2 e2 e3
          obtain ⟨hF2, hG2, hK2, hA2⟩ := hM.m c2
          have li := ll i hi
          have lj := ll j hj
          have e8 : (8 : Int32) * nI i + nI j = nI (8 * i + j) := by rw [show (8 : Int32) = nI 8 from rfl, pk_mul, nI_add]
          refine BX10_findGridSigns_146 ⟨fun q => absurd q (by rw [s2.1]; exact nI_ge hj (by omega)), fun _ => ?_⟩
          rw [e8, cl (show i < 2147483648 by omega), cl (show j < 2147483648 by omega), cl (show 8 * i + j < 2147483648 by omega), nI_1, s2.2 i hi, s2.2 j hj]
          have put : ∀ v : Nat, v = (if i = j then 0 else apV ap ft nF lk ((stL (bdB AK (apV ap ft nF lk) nF) nF).getD i 0) ((stL (bdB AK (apV ap ft nF lk) nF) nF).getD j 0)) → KX10_findGridSigns_146 N (u1 σ2 258 (8 * i + j) (nI v)) Q (nI i) (nI (j + 1)) := by
            intro v hv
            refine ihj _ (c2.u (by omega)) ⟨by rw [u1_cell (by decide)]; exact s2.1, fun k hk => by rw [u1_cell (by decide)]; exact s2.2 k hk⟩ (fun k hk x hx => ?_) (fun k hk => ?_)
            · rw [u1_slot (by omega)]; exact e2 k hk x hx
            · by_cases z : k = j
              · rw [z, u1_same, hv]
              · rw [u1_slot (by omega)]; exact e3 k (by omega)
          refine ⟨fun q => ⟨nvin (by omega) (by omega), put 0 ?_⟩, fun q => ⟨nvin (by omega) (by omega), nvin (by omega) (by omega), M_apartOf hF2 hG2 hK2 (by omega) (by omega) ⟨_, rfl, nvin (by omega) (by omega), put _ ?_⟩⟩⟩
          · have := (nI_eq (by omega) (by omega)).mp q
            rw [if_pos this]
          · rw [if_neg (fun z => q (by rw [z]))]
            rfl
      exact J 0 (by omega) σ' c s e (fun k hk => absurd hk (Nat.not_lt_zero k))
  have A : ∀ s, s ≤ nF → ∀ σ', ChM σ σ' → SM (stL (bdB AK (apV ap ft nF lk) nF) s) σ' → KX10_findGridSigns_11 N σ' Q (nI s) := by
    refine for_up ?_ ?_
    · intro σ' c e
      exact BX10_findGridSigns_11 ⟨fun _ => C 0 (by omega) σ' c e (fun k hk => absurd hk (Nat.not_lt_zero k)), fun q => absurd (by rw [(hM.m c).1.2.2.2.2.1]; exact nI_le (Nat.le_refl _) (by omega)) q⟩
    · intro s hs ih σ' c e
      have hM' := hM.m c
      have ls := stL_le (bd := bdB AK (apV ap ft nF lk) nF) s
      have un : stL (bdB AK (apV ap ft nF lk) nF) (s + 1) = if bdB AK (apV ap ft nF lk) nF s = true ∧ (stL (bdB AK (apV ap ft nF lk) nF) s).length < 8 then stL (bdB AK (apV ap ft nF lk) nF) s ++ [s] else stL (bdB AK (apV ap ft nF lk) nF) s := rfl
      refine BX10_findGridSigns_11 ⟨fun q => absurd q (by rw [hM'.1.2.2.2.2.1]; exact nI_ge hs (by omega)), fun _ => M_any hM' hsg hs ⟨fun q => ?_, fun q => ⟨fun q2 => ?_, fun q2 => ?_⟩⟩⟩
      · rw [un, if_neg (fun z => by rw [z.1] at q; exact absurd q (by decide))] at ih
        rw [nI_1]; exact ih σ' c e
      · rw [e.1] at q2
        have f8 := (nI_leI (a := 8) (by omega) (by omega)).mp q2
        rw [un, if_neg (fun z => by omega)] at ih
        rw [nI_1]; exact ih σ' c e
      · rw [e.1] at q2
        have f8 : (stL (bdB AK (apV ap ft nF lk) nF) s).length < 8 := by
          by_cases z : (stL (bdB AK (apV ap ft nF lk) nF) s).length < 8
          · exact z
          · exact absurd (nI_le (a := 8) (by omega) (by omega)) q2
        rw [un, if_pos ⟨b2_0.2.mp q, f8⟩] at ih
        rw [e.1, cl (by omega), u1_cell (show 245 ≠ 257 by decide), e.1, nI_1, nI_1]
        refine ⟨nvin (by omega) (by omega), ih _ ((c.u (by omega)).u (by omega)) ⟨?_, fun i hi => ?_⟩⟩
        · rw [u1_same, List.length_append]; rfl
        · rw [List.length_append] at hi
          have hi2 : i < (stL (bdB AK (apV ap ft nF lk) nF) s).length + 1 := hi
          rw [u1_cell (by decide)]
          by_cases z : i = (stL (bdB AK (apV ap ft nF lk) nF) s).length
          · rw [z, u1_same, gd_r]
          · rw [u1_slot z, gd_l (by omega)]; exact e.2 i (by omega)
  exact A 0 (by omega) _ (ChM.rf.u (by omega)) ⟨u1_same, fun i hi => absurd hi (Nat.not_lt_zero i)⟩
/-- what the reference's search reads -/
def SQ (AK AP : Nat → Nat → Nat) (l : List Nat) (σ : Sg) : Prop := l.length ≤ 8 ∧ (∀ i j, i < j → j < l.length → l.getD i 0 < l.getD j 0) ∧ (∀ i, i < l.length → l.getD i 0 < 24) ∧ SM l σ ∧ (∀ a, a < 24 → ∀ b, b < 24 → AK a b ≤ 96 ∧ (¬ a = b → σ.1 256 (24 * a + b) = nI (AK a b))) ∧ (∀ a b, AP a b ≤ 9) ∧ ∀ i, i < l.length → ∀ j, j < l.length → σ.1 258 (8 * i + j) = nI (if i = j then 0 else AP (l.getD i 0) (l.getD j 0))
end GM
section GM2
variable {N R : Nat} {AK AP : Nat → Nat → Nat} {l : List Nat} {σ σ0 : Sg} {Q : Option Value → Sg → Prop}
/-- rows alone have changed -/
theorem SQ.r {σ' : Sg} (h : SQ AK AP l σ) (c : Ch2 259 260 σ σ') : SQ AK AP l σ' := by
  obtain ⟨h1, h2, h3, h4, h5, h6, h7⟩ := h
  refine ⟨h1, h2, h3, ⟨?_, fun i hi => ?_⟩, fun a ha b hb => ⟨(h5 a ha b hb).1, fun e => ?_⟩, h6, fun i hi j hj => ?_⟩
  · rw [c.1 245 (by decide) (by decide)]; exact h4.1
  · rw [c.1 257 (by decide) (by decide)]; exact h4.2 i hi
  · rw [c.1 256 (by decide) (by decide)]; exact (h5 a ha b hb).2 e
  · rw [c.1 258 (by decide) (by decide)]; exact h7 i hi j hj
theorem M_quarrel (hS : SQ AK AP l σ) {row : Nat → Nat} (hr : ∀ j, j < l.length → row j < 3 ∧ σ.1 259 j = nI (row j)) (h : Q (some (.int (nI (sumN (qI (qG AK AP l) row) l.length)))) σ) : EvM N mX10_quarrel [.ref 245] σ Q := by
  obtain ⟨h1, h2, h3, h4, h5, h6, h7⟩ := hS
  have A : ∀ i, i ≤ l.length → KX10_quarrel_4 N σ Q (nI (sumN (qI (qG AK AP l) row) i)) (nI i) := by
    refine for_up ?_ ?_
    · exact BX10_quarrel_4 ⟨fun _ => h, fun q => absurd (by rw [h4.1]; exact nI_le (Nat.le_refl _) (by omega)) q⟩
    · intro i hi ihi
      refine BX10_quarrel_4 ⟨fun q => absurd q (by rw [h4.1]; exact nI_ge hi (by omega)), fun _ => ?_⟩
      have J : ∀ j, j ≤ i → KX10_quarrel_14 N σ Q (nI (sumN (qI (qG AK AP l) row) i + sumN (fun j => qG AK AP l i j (row i == row j)) j)) (nI i) (nI j) := by
        refine for_up ?_ ?_
        · refine BX10_quarrel_14 ⟨fun _ => ?_, fun q => absurd (nI_le (Nat.le_refl _) (by omega)) q⟩
          rw [nI_1]; exact ihi
        · intro j hj ihj
          obtain ⟨r1, r2⟩ := hr i hi
          obtain ⟨r3, r4⟩ := hr j (by omega)
          have li := h3 i hi
          have lj := h3 j (by omega)
          have ne := h2 j i hj hi
          have ci : (nI i).toNatClampNeg = i := cl (by omega)
          have cj : (nI j).toNatClampNeg = j := cl (by omega)
          have e8 : (8 : Int32) * nI i + nI j = nI (8 * i + j) := by rw [show (8 : Int32) = nI 8 from rfl, pk_mul, nI_add]
          have e24 : (24 : Int32) * nI (l.getD i 0) + nI (l.getD j 0) = nI (24 * l.getD i 0 + l.getD j 0) := by rw [show (24 : Int32) = nI 24 from rfl, pk_mul, nI_add]
          have p := h6 (l.getD i 0) (l.getD j 0)
          obtain ⟨a1, a2⟩ := h5 _ li _ lj
          rw [sumN_s] at ihj
          refine BX10_quarrel_14 ⟨fun q => absurd q (nI_ge hj (by omega)), fun _ => ⟨nvin (by omega) (by omega), nvin (by omega) (by omega), ?_⟩⟩
          rw [ci, cj, r2, r4, e8, h4.2 i hi, h4.2 j (by omega), e24, cl (show 8 * i + j < 2147483648 by omega), cl (show 24 * l.getD i 0 + l.getD j 0 < 2147483648 by omega), h7 i hi j (by omega), if_neg (by omega), a2 (by omega), nI_1, nI_add, nI_add]
          refine ⟨fun q => ⟨nvin (by omega) (by omega), ?_⟩, fun q => ⟨nvin (by omega) (by omega), nvin (by omega) (by omega), nvin (by omega) (by omega), ?_⟩⟩
          · have e := (nI_eq (by omega) (by omega)).mp q
            rw [show qG AK AP l i j (row i == row j) = AP (l.getD i 0) (l.getD j 0) by unfold qG; rw [if_pos (by simp [e])]; omega] at ihj
            rw [Nat.add_assoc]; exact ihj
          · have e : ¬ row i = row j := fun z => q (by rw [z])
            rw [show qG AK AP l i j (row i == row j) = AK (l.getD i 0) (l.getD j 0) by unfold qG; rw [if_neg (by simp [e])]; omega] at ihj
            rw [Nat.add_assoc]; exact ihj
      exact J 0 (by omega)
  exact EX10_quarrel (A 0 (by omega))
def xk : Nat → Int32
  | 0 => -1
  | k + 1 => nI k
theorem xk_sub (k : Nat) : nI k - 1 = xk k := by
  cases k with
  | zero => decide
  | succ k => exact nI_pred k
theorem xk_add (k : Nat) : nI k + (-1) = xk k := by
  cases k with
  | zero => decide
  | succ k => exact pk_m1 k
/-- the best of the first n codes, as the reference holds it -/
def BM (qv : Nat → Nat → Bool → Nat) (R m n : Nat) (x : Int32) (σ : Sg) : Prop := (n = 0 → x = -1) ∧ (0 < n → x = nI (bst qv R m n).1 ∧ ∀ j, j < m → σ.1 260 j = nI (rwD R m (bst qv R m n).2 j))
theorem M_search' (hS : SQ AK AP l σ0) (hR : 1 ≤ R ∧ R ≤ 3) (h : ∀ σ', Ch2 259 260 σ0 σ' → (∀ j, j < l.length → σ'.1 260 j = nI (rwD R l.length (bst (qG AK AP l) R l.length (R ^ l.length)).2 j)) → Q (some (.int (nI (bst (qG AK AP l) R l.length (R ^ l.length)).1))) σ') : KX10_findGrid_6 N σ0 Q (nI R) 0 := by
  have l8 := hS.1
  have Rp : 0 < R := by omega
  have Rm := Nat.pow_pos (n := l.length) Rp
  have tb : ∀ c, tqp (qG AK AP l) R l.length c ≤ 6144 := tqp_lt l8 qG_le
  have lb := bst_le (qv := qG AK AP l) (R := R) (m := l.length) (fun c => by have := tb c; omega)
  have P : ∀ n, n ≤ R ^ l.length → ∀ (σ : Sg) (x : Int32), Ch2 259 260 σ0 σ → BM (qG AK AP l) R l.length n x σ → (n < R ^ l.length → ∀ j, j < l.length → σ.1 259 j = nI (rwD R l.length n j)) → KX10_findGrid_29 N σ Q (nI R) x (b2 (decide (n < R ^ l.length))) := by
    refine for_up ?_ ?_
    · intro σ x c b _
      rw [show decide (R ^ l.length < R ^ l.length) = false from decide_eq_false (Nat.lt_irrefl _)]
      obtain ⟨b1, b2'⟩ := b.2 Rm
      refine BX10_findGrid_29 ⟨fun _ => ?_, fun q => absurd rfl q⟩
      rw [b1]
      exact h σ c b2'
    · intro n hn ih σ x c b r
      have row := r hn
      have l3 : ∀ j, rwD R l.length n j < 3 := fun j => by have := rwD_lt (R := R) (i := l.length) (p := n) (j := j) Rp; omega
      have bs : bst (qG AK AP l) R l.length (n + 1) = if tqp (qG AK AP l) R l.length n < (bst (qG AK AP l) R l.length n).1 then (tqp (qG AK AP l) R l.length n, n) else bst (qG AK AP l) R l.length n := rfl
      have tn := tb n
      rw [show decide (n < R ^ l.length) = true from decide_eq_true hn]
      -- the next code
      have OD : ∀ (y : Int32) (k : Nat), k ≤ l.length → ∀ σ', Ch2 259 260 σ0 σ' → BM (qG AK AP l) R l.length (n + 1) y σ' → n % R ^ (l.length - k) = R ^ (l.length - k) - 1 → (∀ j, j < k → σ'.1 259 j = nI (rwD R l.length n j)) → (∀ j, k ≤ j → j < l.length → σ'.1 259 j = 0) → KX10_findGrid_90 N σ' Q (nI R) y (xk k) := by
        intro y k
        induction k with
        | zero =>
          intro _ σ' c' b' ht _ _
          refine BX10_findGrid_90 ⟨fun _ => ⟨fun _ => ?_, fun q => absurd (show (-1 : Int32) < 0 by decide) q⟩, fun q => absurd (show (-1 : Int32) < 0 by decide) q⟩
          rw [Nat.sub_zero, Nat.mod_eq_of_lt hn] at ht
          have := ih σ' y c' b' (fun z => by omega)
          rw [show decide (n + 1 < R ^ l.length) = false from decide_eq_false (by omega)] at this
          exact this
        | succ k ihk =>
          intro hk σ' c' b' ht hlo hhi
          have vk : vp_in (nI k) 8 := nvin (by omega) (by omega)
          have ck : (nI k).toNatClampNeg = k := cl (by omega)
          have p0 : ¬ nI k < 0 := nI_pos (by omega)
          have er : nI R - 1 = nI (R - 1) := pk_sub (b := 1) hR.1
          have lk := l3 k
          show KX10_findGrid_90 N σ' Q (nI R) y (nI k)
          refine BX10_findGrid_90 ⟨fun q => absurd q p0, fun _ => ⟨vk, fun q => ⟨vk, ?_⟩, fun q => ⟨fun q2 => absurd q2 p0, fun _ => ⟨vk, vk, ?_⟩⟩⟩⟩
          · rw [ck, hlo k (by omega), er] at q
            have e := (nI_eq (by omega) (by omega)).mp q
            rw [ck, xk_add]
            refine ihk (by omega) _ (c'.u (Or.inl rfl)) ⟨b'.1, fun z => ⟨(b'.2 z).1, fun j hj => by rw [u1_cell (by decide)]; exact (b'.2 z).2 j hj⟩⟩ ?_ (fun j hj => ?_) (fun j hj hj2 => ?_)
            · rw [show l.length - k = l.length - (k + 1) + 1 by omega]
              refine od_top Rp ht ?_
              have := e
              unfold rwD at this
              rw [show l.length - 1 - k = l.length - (k + 1) by omega] at this
              exact this
            · rw [u1_slot (by omega)]; exact hlo j (by omega)
            · by_cases z : j = k
              · rw [z, u1_same]
              · rw [u1_slot z]; exact hhi j (by omega) hj2
          · rw [ck, hlo k (by omega), er] at q
            have e : ¬ rwD R l.length n k = R - 1 := fun z => q (by rw [z])
            rw [ck, hlo k (by omega), nI_1]
            have lt : n + 1 < R ^ l.length := by
              by_cases z : n + 1 = R ^ l.length
              · exfalso
                have o := od_at Rp (by omega) ht e
                rw [z] at o
                unfold rwD at o
                rw [show R ^ l.length = R ^ (l.length - 1 - k) * (R ^ k * R) by rw [← Nat.pow_succ, ← Nat.pow_add]; congr 1; omega, Nat.mul_div_cancel_left _ (Nat.pow_pos Rp), Nat.mul_comm, Nat.mul_mod_right] at o
                omega
              · omega
            have := ih (u1 σ' 259 k (nI (rwD R l.length n k + 1))) y (c'.u (Or.inl rfl)) ⟨b'.1, fun z => ⟨(b'.2 z).1, fun j hj => by rw [u1_cell (by decide)]; exact (b'.2 z).2 j hj⟩⟩ (fun _ j hj => ?_)
            · rw [show decide (n + 1 < R ^ l.length) = true from decide_eq_true lt] at this
              exact this
            · rcases Nat.lt_trichotomy j k with z | z | z
              · rw [u1_slot (by omega), od_hi Rp (by omega) z ht e]; exact hlo j (by omega)
              · rw [z, u1_same, od_at Rp (by omega) ht e]
              · rw [u1_slot (by omega), od_lo Rp z hj ht]; exact hhi j (by omega) hj
      have G9 : ∀ (y : Int32) (σ' : Sg), Ch2 259 260 σ0 σ' → BM (qG AK AP l) R l.length (n + 1) y σ' → (∀ j, j < l.length → σ'.1 259 j = nI (rwD R l.length n j)) → KX10_findGrid_90 N σ' Q (nI R) y (σ'.1 245 15 - 1) := by
        intro y σ' c' b' r'
        rw [(hS.r c').2.2.2.1.1, xk_sub]
        refine OD y l.length (Nat.le_refl _) σ' c' b' ?_ r' (fun j h1 h2 => by omega)
        rw [Nat.sub_self, Nat.pow_zero, Nat.mod_one]
      -- a better one is kept
      have KP : (bst (qG AK AP l) R l.length (n + 1)) = (tqp (qG AK AP l) R l.length n, n) → KX10_findGrid_55 N σ Q (nI R) (nI (tqp (qG AK AP l) R l.length n)) 0 := by
        intro eb
        have L : ∀ i, i ≤ 8 → ∀ σ', Ch2 259 260 σ0 σ' → (∀ j, σ'.1 259 j = σ.1 259 j) → (∀ j, j < i → σ'.1 260 j = σ.1 259 j) → KX10_findGrid_55 N σ' Q (nI R) (nI (tqp (qG AK AP l) R l.length n)) (nI i) := by
          refine for_up ?_ ?_
          · intro σ' c' e1 e2
            refine BX10_findGrid_55 ⟨fun _ => G9 _ σ' c' ⟨fun z => by omega, fun _ => ⟨by rw [eb], fun j hj => ?_⟩⟩ (fun j hj => by rw [e1]; exact row j hj), fun q => absurd (show (8 : Int32) ≤ nI 8 by decide) q⟩
            rw [e2 j (by omega), eb]; exact row j hj
          · intro i hi ihi σ' c' e1 e2
            refine BX10_findGrid_55 ⟨fun q => absurd q (nI_ge (b := 8) hi (by omega)), fun _ => ⟨nvin (by omega) (by omega), nvin (by omega) (by omega), ?_⟩⟩
            rw [cl (by omega), nI_1, e1]
            refine ihi _ (c'.u (Or.inr rfl)) (fun j => by rw [u1_cell (by decide)]; exact e1 j) (fun j hj => ?_)
            by_cases z : j = i
            · rw [z, u1_same]
            · rw [u1_slot z]; exact e2 j (by omega)
        exact L 0 (by omega) σ c (fun _ => rfl) (fun j hj => absurd hj (Nat.not_lt_zero j))
      refine BX10_findGrid_29 ⟨fun q => absurd q (by decide), fun _ => M_quarrel (hS.r c) (fun j hj => ⟨l3 j, row j hj⟩) ⟨_, rfl, fun q => ?_, fun q => ⟨fun q2 => ?_, fun q2 => ?_⟩⟩⟩
      · refine KP ?_
        rw [bs]
        by_cases n0 : n = 0
        · subst n0
          have : (bst (qG AK AP l) R l.length 0).1 = 1073741824 := rfl
          rw [if_pos (by omega)]
        · exfalso
          rw [(b.2 (by omega)).1] at q
          exact nI_pos (by have := lb n (by omega); omega) q
      · have n0 : ¬ n = 0 := fun z => by rw [b.1 z] at q; exact q (by decide)
        obtain ⟨b1, b3⟩ := b.2 (by omega)
        have ln := lb n (by omega)
        rw [b1] at q2
        have le := (nI_leI (by omega) (by show tqp (qG AK AP l) R l.length n < _; omega)).mp q2
        refine G9 x σ c ⟨fun z => by omega, fun _ => ?_⟩ row
        rw [bs, if_neg (by show ¬ tqp (qG AK AP l) R l.length n < _; have : (bst (qG AK AP l) R l.length n).1 ≤ tqp (qG AK AP l) R l.length n := le; omega)]
        exact ⟨b1, b3⟩
      · have n0 : ¬ n = 0 := fun z => by
          rw [b.1 z] at q; exact q (by decide)
        obtain ⟨b1, b3⟩ := b.2 (by omega)
        have ln := lb n (by omega)
        rw [b1] at q2
        have gt : ¬ (bst (qG AK AP l) R l.length n).1 ≤ tqp (qG AK AP l) R l.length n := fun z => q2 (nI_le z (by show tqp (qG AK AP l) R l.length n < _; omega))
        refine KP ?_
        rw [bs, if_pos (by omega)]
  have Z : ∀ i, i ≤ 8 → ∀ σ', Ch2 259 260 σ0 σ' → (∀ j, j < i → σ'.1 259 j = 0) → KX10_findGrid_6 N σ' Q (nI R) (nI i) := by
    refine for_up ?_ ?_
    · intro σ' c e
      refine BX10_findGrid_6 ⟨fun _ => ?_, fun q => absurd (show (8 : Int32) ≤ nI 8 by decide) q⟩
      have := P 0 (by omega) σ' (-1) c ⟨fun _ => rfl, fun z => absurd z (Nat.lt_irrefl _)⟩ (fun _ j hj => by
        rw [e j (by omega)]; unfold rwD; rw [Nat.zero_div, Nat.zero_mod]; rfl)
      rw [show decide (0 < R ^ l.length) = true from decide_eq_true Rm] at this
      exact this
    · intro i hi ih σ' c e
      refine BX10_findGrid_6 ⟨fun q => absurd q (nI_ge (b := 8) hi (by omega)), fun _ => ⟨nvin (by omega) (by omega), ?_⟩⟩
      rw [cl (by omega), nI_1]
      refine ih _ (c.u (Or.inl rfl)) (fun j hj => ?_)
      by_cases z : j = i
      · rw [z, u1_same]
      · rw [u1_slot z]; exact e j (by omega)
  exact Z 0 (by omega) σ0 Ch2.rf (fun j hj => absurd hj (Nat.not_lt_zero j))
end GM2
