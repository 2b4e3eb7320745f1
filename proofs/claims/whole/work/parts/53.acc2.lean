/-! ===== accounts: the reference, the calls ===== -/
section AM
variable {N : Nat} {σ : Sg} {Q : Option Value → Sg → Prop} {nA : Nat} {ex : Nat → Nat → Int32}
def EM (nA : Nat) (ex : Nat → Nat → Int32) (σ : Sg) : Prop := nA ≤ 8 ∧ σ.1 245 20 = nI nA ∧ ∀ a, a < nA → ∀ m, m < 4 → dig (σ.1 261 a) m - dig (σ.1 262 a) m = ex a m
theorem EM.q {σ' : Sg} (h : EM nA ex σ) (c : Sm 4 σ σ') : EM nA ex σ' := ⟨h.1, by rw [c.1 245 20 rfl]; exact h.2.1, fun a ha m hm => by rw [c.1 261 a rfl, c.1 262 a rfl]; exact h.2.2 a ha m hm⟩
theorem M_listed {p : Nat} (hp : p < 8) (h : Q (some (.int (LV p))) σ) : EvM N mX10_listed [.int (nI p)] σ Q := by
  have d : ∀ j, j < 8 → ∀ k, k < 8 → (nI j = nI k ↔ j = k) := fun j hj k hk => nI_eq (by omega) (by omega)
  refine EX10_listed ?_
  rcases (show p = 0 ∨ p = 1 ∨ p = 2 ∨ p = 3 ∨ p = 4 ∨ p = 5 ∨ p = 6 ∨ p = 7 by omega) with e | e | e | e | e | e | e | e <;> subst e
  · exact ⟨fun _ => h, fun q => absurd rfl q⟩
  · exact ⟨fun q => absurd q (by decide), fun _ => ⟨fun _ => h, fun q => absurd rfl q⟩⟩
  · exact ⟨fun q => absurd q (by decide), fun _ => ⟨fun q => absurd q (by decide), fun _ => ⟨fun _ => h, fun q => absurd rfl q⟩⟩⟩
  · exact ⟨fun q => absurd q (by decide), fun _ => ⟨fun q => absurd q (by decide), fun _ => ⟨fun q => absurd q (by decide), fun _ => ⟨fun _ => h, fun q => absurd rfl q⟩⟩⟩⟩
  · exact ⟨fun q => absurd q (by decide), fun _ => ⟨fun q => absurd q (by decide), fun _ => ⟨fun q => absurd q (by decide), fun _ => ⟨fun q => absurd q (by decide), fun _ => ⟨fun _ => h, fun q => absurd rfl q⟩⟩⟩⟩⟩
  · exact ⟨fun q => absurd q (by decide), fun _ => ⟨fun q => absurd q (by decide), fun _ => ⟨fun q => absurd q (by decide), fun _ => ⟨fun q => absurd q (by decide), fun _ => ⟨fun q => absurd q (by decide), fun _ => ⟨fun _ => h, fun q => absurd rfl q⟩⟩⟩⟩⟩⟩
  · exact ⟨fun q => absurd q (by decide), fun _ => ⟨fun q => absurd q (by decide), fun _ => ⟨fun q => absurd q (by decide), fun _ => ⟨fun q => absurd q (by decide), fun _ => ⟨fun q => absurd q (by decide), fun _ => ⟨fun q => absurd q (by decide), fun _ => ⟨fun _ => h, fun q => absurd rfl q⟩⟩⟩⟩⟩⟩⟩
  · exact ⟨fun q => absurd q (by decide), fun _ => ⟨fun q => absurd q (by decide), fun _ => ⟨fun q => absurd q (by decide), fun _ => ⟨fun q => absurd q (by decide), fun _ => ⟨fun q => absurd q (by decide), fun _ => ⟨fun q => absurd q (by decide), fun _ => ⟨fun q => absurd q (by decide), fun _ => h⟩⟩⟩⟩⟩⟩⟩
theorem M_adds {r : Nat} (hA : EM nA ex σ) (hp : ∀ m, m < 4 → σ.1 263 m = nI (pik r m)) (h1 : adds nA ex r → Q (some (.int 1)) σ) (h0 : ¬ adds nA ex r → Q (some (.int 0)) σ) : EvM (N + 1) mX10_doAddUp [.ref 245] σ Q := by
  obtain ⟨a1, a2, a3⟩ := hA
  have L : ∀ a, a ≤ nA → ((∀ b, b < a → sumI (fun m => ex b m * LV (pik r m)) 4 = 0) → KX10_doAddUp_4 N σ Q 1 (nI a)) := by
    refine for_up ?_ ?_
    · intro h; exact BX10_doAddUp_4 ⟨fun _ => ⟨rfl, h1 h⟩, fun q => absurd (by rw [a2]; exact nI_le (Nat.le_refl _) (by omega)) q⟩
    · intro a ha ih h
      have zero : ∀ b, b ≤ nA → ¬ adds nA ex r → KX10_doAddUp_4 N σ Q 0 (nI b) := fun b hb nk => by
        refine BX10_doAddUp_4 ⟨fun _ => ⟨rfl, h0 nk⟩, fun _ => ⟨fun _ => ⟨rfl, h0 nk⟩, fun q => absurd rfl q⟩⟩
      have J : ∀ m, m ≤ 4 → KX10_doAddUp_21 N σ Q (nI a) (sumI (fun m => ex a m * LV (pik r m)) m) (nI m) := by
        refine for_up ?_ ?_
        · refine BX10_doAddUp_21 ⟨fun _ => ⟨fun z => ?_, fun z => ?_⟩, fun q => absurd (nI_le (a := 4) (b := 4) (by decide) (by decide)) q⟩
          · rw [nI_1]
            refine ih (fun b hb => ?_)
            by_cases e : b = a
            · rw [e]; exact z
            · exact h b (by omega)
          · rw [nI_1]; exact zero (a + 1) (by omega) (fun k => z (k a ha))
        · intro m hm ihm
          refine BX10_doAddUp_21 ⟨fun q => absurd q (nI_ge (b := 4) hm (by omega)), fun _ => ⟨nvin hm (by omega), ?_⟩⟩
          rw [cl (by omega), hp m hm, nI_1]
          refine M_listed (pik_lt r m) ⟨_, rfl, nvin (by omega) (by omega), nvin (by omega) (by omega), ?_⟩
          rw [cl (by omega)]
          have e := a3 a ha m hm
          unfold dig at e
          rw [e, Int32.mul_comm]
          exact ihm
      exact BX10_doAddUp_4 ⟨fun q => absurd q (by rw [a2]; exact nI_ge ha (by omega)), fun _ => ⟨fun q => absurd q (by decide), fun _ => J 0 (by omega)⟩⟩
  exact EX10_doAddUp (L 0 (by omega) (fun b hb => absurd hb (by omega)))
/-- what the reference's search has found among the first r rows -/
def FM' (nA : Nat) (ex : Nat → Nat → Int32) (r : Nat) (σ : Sg) : Prop := σ.1 245 24 = nI (cnt (fR nA ex) r) ∧ (∀ m, m < 4 → ∀ p, p < 8 → σ.1 265 (8 * m + p) = b2 ((sn nA ex m r).testBit p)) ∧ (0 < cnt (fR nA ex) r → ∀ m, m < 4 → σ.1 264 m = nI (fi nA ex m r))
theorem pow_tb {a b p : Nat} : (a ||| 2 ^ b).testBit p = (a.testBit p || decide (b = p)) := by
  rw [Nat.testBit_or, Nat.testBit_two_pow]
theorem ult_all {r : Nat} : unl r = true ↔ ∀ a, a < 4 → ∀ b, b < a → pik r a ≠ pik r b := by
  unfold unl ult
  simp only [Bool.and_eq_true, bne_iff_ne, ne_eq]
  constructor
  · rintro ⟨⟨⟨⟨⟨h01, h02⟩, h03⟩, h12⟩, h13⟩, h23⟩ a ha b hb
    rcases (show (a = 1 ∧ b = 0) ∨ (a = 2 ∧ b = 0) ∨ (a = 2 ∧ b = 1) ∨ (a = 3 ∧ b = 0) ∨ (a = 3 ∧ b = 1) ∨ (a = 3 ∧ b = 2) by omega) with ⟨rfl, rfl⟩ | ⟨rfl, rfl⟩ | ⟨rfl, rfl⟩ | ⟨rfl, rfl⟩ | ⟨rfl, rfl⟩ | ⟨rfl, rfl⟩
    · exact fun e => h01 e.symm
    · exact fun e => h02 e.symm
    · exact fun e => h12 e.symm
    · exact fun e => h03 e.symm
    · exact fun e => h13 e.symm
    · exact fun e => h23 e.symm
  · intro h
    exact ⟨⟨⟨⟨⟨fun e => h 1 (by omega) 0 (by omega) e.symm, fun e => h 2 (by omega) 0 (by omega) e.symm⟩, fun e => h 3 (by omega) 0 (by omega) e.symm⟩, fun e => h 2 (by omega) 1 (by omega) e.symm⟩, fun e => h 3 (by omega) 1 (by omega) e.symm⟩, fun e => h 3 (by omega) 2 (by omega) e.symm⟩
theorem M_search (hA : EM nA ex σ) (h : ∀ σ' : Sg, Chg [0] σ σ' → FM' nA ex 4096 σ' → Q none σ') : EvM (N + 2) mX10_findValues [.ref 245] σ Q := by
  have m264 : ∀ j, modOf 264 j ∈ [0] := fun j => by rw [show modOf 264 j = 0 from rfl]; decide
  have m265 : ∀ j, modOf 265 j ∈ [0] := fun j => by rw [show modOf 265 j = 0 from rfl]; decide
  have m263 : ∀ j, modOf 263 j ∈ [0] := fun j => by rw [show modOf 263 j = 0 from rfl]; decide
  have L : ∀ r, r ≤ 4096 → ∀ σ' : Sg, Chg [0] σ σ' → FM' nA ex r σ' → KX10_findValues_28 N σ' Q (nI r) := by
    refine for_up ?_ ?_
    · intro σ' k1 k2
      exact BX10_findValues_28 ⟨fun _ => h σ' k1 k2, fun q => absurd (nI_le (a := 4096) (b := 4096) (by decide) (by decide)) q⟩
    · intro r hr ih σ' k1 k2
      have cn := cnt_le (fR nA ex) r
      have J : ∀ m, m ≤ 4 → ∀ σ2 : Sg, Chg [0] σ σ2 → FM' nA ex r σ2 → (∀ j, j < m → σ2.1 263 j = nI (pik r j)) → KX10_findValues_37 N σ2 Q (nI r) (nI m) := by
        refine for_up ?_ ?_
        · intro σ2 j1 j2 j3
          have A2 := hA.q (j1.sm (by decide))
          have no : ¬ fR nA ex r = true → KX10_findValues_28 N σ2 Q (nI r + 1) := fun nf => by
            rw [nI_1]
            refine ih σ2 j1 ?_
            obtain ⟨i1, i2, i3⟩ := j2
            refine ⟨?_, fun m hm p hp => ?_, fun hc m hm => ?_⟩
            · rw [cnt_s, if_neg nf]; exact i1
            · rw [sn_s, if_neg nf]; exact i2 m hm p hp
            · rw [cnt_s, if_neg nf] at hc
              rw [fi_s, if_neg (fun w => nf w.1)]; exact i3 hc m hm
          -- the keeping
          have K : fR nA ex r = true → KX10_findValues_133 N σ2 Q (nI r) 0 := fun hf => by
            obtain ⟨i1, i2, i3⟩ := j2
            have T : ∀ i, i ≤ 4 → ∀ σ3 : Sg, Chg [0] σ σ3 → (∀ m, m < 4 → σ3.1 263 m = nI (pik r m)) → σ3.1 245 24 = nI (cnt (fR nA ex) r) → (∀ m, m < i → ∀ p, p < 8 → σ3.1 265 (8 * m + p) = b2 ((sn nA ex m (r + 1)).testBit p)) → (∀ m, i ≤ m → m < 4 → ∀ p, p < 8 → σ3.1 265 (8 * m + p) = b2 ((sn nA ex m r).testBit p)) → (∀ m, m < i → σ3.1 264 m = nI (fi nA ex m (r + 1))) → (∀ m, i ≤ m → m < 4 → 0 < cnt (fR nA ex) r → σ3.1 264 m = nI (fi nA ex m r)) → KX10_findValues_133 N σ3 Q (nI r) (nI i) := by
              refine for_up ?_ ?_
              · intro σ3 l1 l2 l3 l4 l5 l6 l7
                refine BX10_findValues_133 ⟨fun _ => ?_, fun q => absurd (nI_le (a := 4) (b := 4) (by decide) (by decide)) q⟩
                rw [l3, nI_1, nI_1]
                refine ih _ (l1.u1 (by decide)) ⟨?_, fun m hm p hp => ?_, fun _ m hm => ?_⟩
                · rw [u1_same, cnt_s, if_pos hf]
                · rw [u1_cell (by decide)]; exact l4 m hm p hp
                · rw [u1_cell (by decide)]; exact l6 m hm
              · intro i hi ihi σ3 l1 l2 l3 l4 l5 l6 l7
                have vi : vp_in (nI i) 4 := nvin hi (by omega)
                have pl := pik_lt r i
                have e8 : (8 : Int32) * nI i + nI (pik r i) = nI (8 * i + pik r i) := by rw [show (8 : Int32) = nI 8 from rfl, pk_mul, nI_add]
                have v8 : vp_in (nI (8 * i + pik r i)) 32 := nvin (by omega) (by omega)
                have had : ∀ σ4 : Sg, (∀ j, σ4.1 265 j = σ3.1 265 j) → ∀ m p, p < 8 → (u1 σ4 265 (8 * i + pik r i) 1).1 265 (8 * m + p) = if m = i ∧ p = pik r i then 1 else σ3.1 265 (8 * m + p) := fun σ4 e m p hp => by
                  by_cases q : m = i ∧ p = pik r i
                  · rw [if_pos q, q.1, q.2, u1_same]
                  · rw [if_neg q, u1_slot (by omega), e]
                have hadI : ∀ p, p < 8 → (if i = i ∧ p = pik r i then (1 : Int32) else σ3.1 265 (8 * i + p)) = b2 ((sn nA ex i (r + 1)).testBit p) := fun p hp => by
                  rw [sn_s, if_pos hf, pow_tb]
                  by_cases q : p = pik r i
                  · rw [if_pos ⟨rfl, q⟩, decide_eq_true q.symm, Bool.or_true]; rfl
                  · rw [if_neg (fun w => q w.2), decide_eq_false (fun w => q w.symm), Bool.or_false]; exact l5 i (Nat.le_refl _) hi p hp
                refine BX10_findValues_133 ⟨fun q => absurd q (nI_ge (b := 4) hi (by omega)), fun _ => ⟨fun z => ⟨vi, vi, vi, ?_⟩, fun z => ⟨vi, vi, vi, ?_⟩⟩⟩
                · have z0 : cnt (fR nA ex) r = 0 := (nI_eq (b := 0) (by omega) (by omega)).mp (by rw [← l3]; exact z)
                  rw [cl (by omega), u1_cell (show 263 ≠ 264 by decide), l2 i hi, e8, cl (by omega), nI_1, show vp_nar .boolean 1 = 1 from rfl]
                  have hd := had (u1 σ3 264 i (nI (pik r i))) (fun j => u1_cell (by decide))
                  refine ⟨v8, ihi _ ((l1.u1 (m264 _)).u1 (m265 _)) (fun m hm => ?_) ?_ (fun m hm p hp => ?_) (fun m hm hm2 p hp => ?_) (fun m hm => ?_) (fun m hm hm2 hc => absurd hc (by omega))⟩
                  · rw [u1_cell (by decide), u1_cell (by decide)]; exact l2 m hm
                  · rw [u1_cell (by decide), u1_cell (by decide)]; exact l3
                  · rw [hd m p hp]
                    by_cases e : m = i
                    · rw [e]; exact hadI p hp
                    · rw [if_neg (fun w => e w.1)]; exact l4 m (by omega) p hp
                  · rw [hd m p hp, if_neg (fun w => by omega)]; exact l5 m (by omega) hm2 p hp
                  · rw [u1_cell (by decide)]
                    by_cases e : m = i
                    · subst e; rw [u1_same, fi_s, if_pos ⟨hf, z0⟩]
                    · rw [u1_slot e]; exact l6 m (by omega)
                · have z0 : ¬ cnt (fR nA ex) r = 0 := fun e => z (by rw [l3, e]; rfl)
                  rw [cl (by omega), u1_cell (show 263 ≠ 264 by decide), l2 i hi, e8, cl (by omega), nI_1, show vp_nar .boolean 1 = 1 from rfl]
                  have hd := had (u1 σ3 264 i (σ3.1 264 i)) (fun j => u1_cell (by decide))
                  have sm : ∀ m, (u1 σ3 264 i (σ3.1 264 i)).1 264 m = σ3.1 264 m := fun m => by
                    by_cases e : m = i
                    · subst e; exact u1_same
                    · exact u1_slot e
                  refine ⟨v8, ihi _ ((l1.u1 (m264 _)).u1 (m265 _)) (fun m hm => ?_) ?_ (fun m hm p hp => ?_) (fun m hm hm2 p hp => ?_) (fun m hm => ?_) (fun m hm hm2 hc => ?_)⟩
                  · rw [u1_cell (by decide), u1_cell (by decide)]; exact l2 m hm
                  · rw [u1_cell (by decide), u1_cell (by decide)]; exact l3
                  · rw [hd m p hp]
                    by_cases e : m = i
                    · rw [e]; exact hadI p hp
                    · rw [if_neg (fun w => e w.1)]; exact l4 m (by omega) p hp
                  · rw [hd m p hp, if_neg (fun w => by omega)]; exact l5 m (by omega) hm2 p hp
                  · rw [u1_cell (by decide), sm]
                    by_cases e : m = i
                    · subst e; rw [fi_s, if_neg (fun w => z0 w.2)]; exact l7 m (Nat.le_refl _) hi (by omega)
                    · exact l6 m (by omega)
                  · rw [u1_cell (by decide), sm]; exact l7 m (by omega) hm2 hc
            exact T 0 (by omega) σ2 j1 j3 i1 (fun m hm => absurd hm (by omega)) (fun m _ hm => i2 m hm) (fun m hm => absurd hm (by omega)) (fun m _ hm hc => i3 hc m hm)
          -- the comparing
          have U : ∀ a, a ≤ 4 → ∀ f : Int32, (f = 1 ∧ ∀ a', a' < a → ∀ b, b < a' → pik r a' ≠ pik r b) ∨ (f = 0 ∧ ¬ unl r = true) → KX10_findValues_68 N σ2 Q (nI r) f (nI a) := by
            refine for_up ?_ ?_
            · intro f hfl
              refine BX10_findValues_68 ⟨fun _ => ⟨fun z => ?_, fun z => ?_⟩, fun q => absurd (nI_le (a := 4) (b := 4) (by decide) (by decide)) q⟩
              · rcases hfl with ⟨e, _⟩ | ⟨_, e⟩
                · rw [e] at z; exact absurd z (by decide)
                · exact no (fun w => e (fR_iff.mp w).1)
              · rcases hfl with ⟨_, e⟩ | ⟨e, _⟩
                · have ul := ult_all.mpr e
                  exact M_adds A2 j3 (fun ad => ⟨_, rfl, fun z => absurd z (by decide), fun _ => K (fR_iff.mpr ⟨ul, ad⟩)⟩) (fun na => ⟨_, rfl, fun _ => no (fun w => na (fR_iff.mp w).2), fun z => absurd rfl z⟩)
                · exact absurd e z
            · intro a ha iha f hfl
              have V : ∀ b, b ≤ a → ∀ f : Int32, (f = 1 ∧ (∀ a', a' < a → ∀ b', b' < a' → pik r a' ≠ pik r b') ∧ ∀ b', b' < b → pik r a ≠ pik r b') ∨ (f = 0 ∧ ¬ unl r = true) → KX10_findValues_76 N σ2 Q (nI r) f (nI a) (nI b) := by
                refine for_up ?_ ?_
                · intro f hf2
                  refine BX10_findValues_76 ⟨fun _ => ?_, fun q => absurd (nI_le (Nat.le_refl _) (by omega)) q⟩
                  rw [nI_1]
                  refine iha f ?_
                  rcases hf2 with ⟨e, e1, e2⟩ | e
                  · refine Or.inl ⟨e, fun a' ha' b hb => ?_⟩
                    by_cases q : a' = a
                    · rw [q]; exact e2 b (by omega)
                    · exact e1 a' (by omega) b hb
                  · exact Or.inr e
                · intro b hb ihb f hf2
                  refine BX10_findValues_76 ⟨fun q => absurd q (nI_ge hb (by omega)), fun _ => ⟨fun z => ?_, fun z => ⟨nvin (by omega) (by omega), nvin (by omega) (by omega), ?_⟩⟩⟩
                  · rw [nI_1]
                    rcases hf2 with ⟨e, _⟩ | e
                    · rw [e] at z; exact absurd z (by decide)
                    · exact ihb 0 (Or.inr ⟨rfl, e.2⟩)
                  · rcases hf2 with ⟨e, e1, e2⟩ | e
                    · have pa := pik_lt r a
                      have pb := pik_lt r b
                      rw [cl (by omega), cl (by omega), j3 a ha, j3 b (by omega), nI_1]
                      refine ⟨fun w => ihb 0 (Or.inr ⟨rfl, fun k => ult_all.mp k a ha b hb ((nI_eq (by omega) (by omega)).mp w)⟩), fun w => ihb 1 (Or.inl ⟨rfl, e1, fun b' hb' => ?_⟩)⟩
                      by_cases q : b' = b
                      · rw [q]; exact fun k => w (by rw [k])
                      · exact e2 b' (by omega)
                    · exact absurd e.1 z
              refine BX10_findValues_68 ⟨fun q => absurd q (nI_ge (b := 4) ha (by omega)), fun _ => V 0 (by omega) f ?_⟩
              rcases hfl with ⟨e, e1⟩ | e
              · exact Or.inl ⟨e, e1, fun b' hb' => absurd hb' (by omega)⟩
              · exact Or.inr e
          exact BX10_findValues_37 ⟨fun _ => U 0 (by omega) 1 (Or.inl ⟨rfl, fun a' ha' => absurd ha' (by omega)⟩), fun q => absurd (nI_le (a := 4) (b := 4) (by decide) (by decide)) q⟩
        · intro m hm ihm σ2 j1 j2 j3
          refine BX10_findValues_37 ⟨fun q => absurd q (nI_ge (b := 4) hm (by omega)), fun _ => ⟨nvin hm (by omega), ?_⟩⟩
          rw [cl (by omega), pik_i hr hm, nI_1]
          refine ihm _ (j1.u1 (m263 _)) ?_ (fun j hj => ?_)
          · obtain ⟨i1, i2, i3⟩ := j2
            exact ⟨by rw [u1_cell (by decide)]; exact i1, fun m hm p hp => by rw [u1_cell (by decide)]; exact i2 m hm p hp, fun hc m hm => by rw [u1_cell (by decide)]; exact i3 hc m hm⟩
          · by_cases e : j = m
            · subst e; exact u1_same
            · rw [u1_slot e]; exact j3 j (by omega)
      exact BX10_findValues_28 ⟨fun q => absurd q (nI_ge (b := 4096) hr (by omega)), fun _ => J 0 (by omega) σ' k1 k2 (fun j hj => absurd hj (by omega))⟩
  have Z : ∀ i, i ≤ 32 → ∀ σ' : Sg, Chg [0] σ σ' → σ'.1 245 24 = 0 → (∀ m, m < i → σ'.1 265 m = 0) → KX10_findValues_7 N σ' Q (nI i) := by
    refine for_up ?_ ?_
    · intro σ' k1 k2 k3
      refine BX10_findValues_7 ⟨fun _ => L 0 (by omega) σ' k1 ⟨k2, fun m hm p hp => ?_, fun hc => absurd hc (by unfold cnt; omega)⟩, fun q => absurd (nI_le (a := 32) (b := 32) (by decide) (by decide)) q⟩
      rw [k3 _ (by omega)]
      show _ = b2 ((0 : Nat).testBit p)
      rw [Nat.zero_testBit]; rfl
    · intro i hi ih σ' k1 k2 k3
      refine BX10_findValues_7 ⟨fun q => absurd q (nI_ge (b := 32) hi (by omega)), fun _ => ⟨nvin hi (by omega), ?_⟩⟩
      rw [cl (by omega), nI_1, show vp_nar .boolean 0 = 0 from rfl]
      refine ih _ (k1.u1 (m265 _)) (by rw [u1_cell (by decide)]; exact k2) (fun m hm => ?_)
      by_cases e : m = i
      · subst e; exact u1_same
      · rw [u1_slot e]; exact k3 m (by omega)
  exact EX10_findValues (Z 0 (by omega) _ (Chg.rf.u1 (by decide)) u1_same (fun m hm => absurd hm (by omega)))
end AM
