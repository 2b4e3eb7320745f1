/-! ===== judge ===== -/
theorem shl_d {s i : Nat} (hs : s < 4) (hi : i < 6) : nI s <<< ((2 * nI i) &&& 31) = nI (s * 4 ^ i) := by
  have p4 : 4 ^ i ≤ 4 ^ 6 := Nat.pow_le_pow_right (by decide) (by omega)
  have e46 : (4 : Nat) ^ 6 = 4096 := by decide
  have m3 : s * 4 ^ i ≤ 3 * 4 ^ i := Nat.mul_le_mul_right _ (by omega)
  rw [show (2 : Int32) * nI i = nI (2 * i) by rw [show (2 : Int32) = nI 2 from rfl, pk_mul], pk_shlN (nI (2 * i) &&& 31) (2 * i) (by rw [show ∀ j : Nat, j < 32 → ((nI j &&& 31).toBitVec.smod 32).toNat = j from by decide]; omega) (by rw [Nat.pow_mul]; show s * 4 ^ i < _; omega), Nat.pow_mul]
theorem or_d {d : Nat → Nat} {i : Nat} (h : ∀ j, j < i → d j < 4) : nm d i ||| d i * 4 ^ i = nm d (i + 1) := by
  have e2 : d i * 4 ^ i = 2 ^ (2 * i) * d i := by rw [Nat.pow_mul, Nat.mul_comm]
  have l2 : nm d i < 2 ^ (2 * i) := by rw [Nat.pow_mul]; exact nm_lt i h
  show _ = nm d i + d i * 4 ^ i
  rw [e2, Nat.or_comm, ← Nat.two_pow_add_eq_or_of_lt l2, Nat.add_comm]
/-- how many orders read as many, and how many there are -/
def shR (rdf : List Nat → Nat) (by' k : Nat) : Nat → List Nat → Nat → Nat → Nat × Nat
  | 0, _, g, s => (g, s)
  | f + 1, o, g, s => match nxt k o with
    | none => (g + (if by' ≤ rdf o then 1 else 0), s + 1)
    | some o' => shR rdf by' k f o' (g + (if by' ≤ rdf o then 1 else 0)) (s + 1)
section JU
variable {N nF lk nT nW : Nat} {ft : Nat → Nat} {tl : Nat → Nat} {tc : Nat → Nat → Int32} {l rl : List Nat} {wn ws : Nat → Nat} {σ : Sg} {Q : Option Value → Sg → Prop}
def rdO (ft : Nat → Nat) (nF lk : Nat) (tl : Nat → Nat) (tc : Nat → Nat → Int32) (nT : Nat) (l : List Nat) (nW : Nat) (wn ws : Nat → Nat) (rl : List Nat) (sd : Nat → Nat) (o : List Nat) : Nat := rdC ft nF lk tl tc nT l nW wn ws rl (fun p => sd (ga o p))
theorem Ch2.chg57 {σ' : Sg} (h : Ch2 225 227 σ σ') : Chg [0] σ σ' := ⟨fun a j e => h.1 a (fun y => e (by subst y; exact List.mem_cons_self)) (fun y => e (by subst y; exact List.mem_cons_self)) j, fun a j _ => by rw [h.2]⟩
theorem Cr.j {σ' : Sg} (h : Cr ft nF lk tl tc nT l nW wn ws rl σ) (c : Ch2 225 227 σ σ') : Cr ft nF lk tl tc nT l nW wn ws rl σ' := by
  obtain ⟨h1, h2, h3, h4, h5, h6⟩ := h
  refine ⟨h1.fr (c.chg57.sm (by decide)), by rw [c.1 122 (by decide) (by decide)]; exact h2, ⟨by rw [c.1 122 (by decide) (by decide)]; exact h3.1, fun r hr => ?_⟩, h4, h5, h6⟩
  rw [c.1 224 (by decide) (by decide)]
  exact ⟨(h3.2 r hr).1, fun i hi => by rw [c.1 (128 + r) (by omega) (by omega)]; exact (h3.2 r hr).2 i hi⟩
theorem C_shuf {sd : Nat → Nat} {rd0 : Nat} {x2 : Int32} (hC : Cr ft nF lk tl tc nT l nW wn ws rl σ) (hs4 : ∀ p, sd p < 4) (h6 : ∀ p, p < l.length → σ.1 226 p = nI (sd p)) (hrd : rd0 ≤ 96) : ∀ (f : Nat) (o : List Nat) (g s : Nat) (σ' : Sg), Ch2 225 227 σ σ' → OL 227 l.length o σ' → tmt l.length f o = true → f ≤ 720 →
    (∀ σ2, Ch2 225 227 σ σ2 → (x2 = 1 → Q (some (.int (nI (shR (rdO ft nF lk tl tc nT l nW wn ws rl sd) rd0 l.length f o g s).1))) σ2) ∧ (¬ x2 = 1 → Q (some (.int (nI (shR (rdO ft nF lk tl tc nT l nW wn ws rl sd) rd0 l.length f o g s).2))) σ2)) → KX8_tellShuffles_35 N σ' Q (nI rd0) x2 (nI s) (nI g) (nI (720 - f)) := by
  have l6 := hC.2.2.2.1
  have r96 : ∀ sd : Nat → Nat, rdC ft nF lk tl tc nT l nW wn ws rl sd ≤ 96 := fun sd => Nat.le_trans (cnt_le _ _) hC.2.2.2.2.1
  intro f
  induction f with
  | zero => intro o g s σ' c hO ht; cases ht
  | succ f ih =>
    intro o g s σ' c hO ht hf hQ
    refine BX8_tellShuffles_35 ⟨fun q => absurd q (nI_ge (b := 720) (by omega) (by omega)), fun _ => ?_⟩
    have J : ∀ i, i ≤ l.length → ∀ σ2, Ch2 225 227 σ σ2 → OL 227 l.length o σ2 → (∀ p, p < i → σ2.1 225 p = nI (sd (ga o p))) → KX8_tellShuffles_46 N σ2 Q (nI rd0) x2 (nI s) (nI g) (nI (720 - (f + 1))) (nI i) := by
      refine for_up ?_ ?_
      · intro σ2 c2 O2 s2
        have hC2 := hC.j c2
        refine BX8_tellShuffles_46 ⟨fun _ => hC2.read (sd := fun p => sd (ga o p)) (fun p => hs4 _) s2 ⟨_, rfl, ?_⟩, fun q => absurd (by rw [hC2.2.1]; exact nI_le (Nat.le_refl _) (by omega)) q⟩
        have b96 := r96 (fun p => sd (ga o p))
        have e5 : nI (720 - (f + 1)) + 1 = nI (720 - f) := by rw [nI_1, show 720 - (f + 1) + 1 = 720 - f by omega]
        have un : ∀ g s, shR (rdO ft nF lk tl tc nT l nW wn ws rl sd) rd0 l.length (f + 1) o g s = (match nxt l.length o with | none => (g + (if rd0 ≤ rdO ft nF lk tl tc nT l nW wn ws rl sd o then 1 else 0), s + 1) | some o' => shR (rdO ft nF lk tl tc nT l nW wn ws rl sd) rd0 l.length f o' (g + (if rd0 ≤ rdO ft nF lk tl tc nT l nW wn ws rl sd o then 1 else 0)) (s + 1)) := fun _ _ => rfl
        have ut : tmt l.length (f + 1) o = (match nxt l.length o with | none => true | some o' => tmt l.length f o') := rfl
        -- one more order, with g' so far
        have G : ∀ g', g' = g + (if rd0 ≤ rdO ft nF lk tl tc nT l nW wn ws rl sd o then 1 else 0) → EvM (N + 1) mX8_nextOrder [.ref 122] σ2 (fun r9 σ3 => ∃ v3, r9 = some (.int v3) ∧ ((v3 = 0 → (x2 = 1 → Q (some (.int (nI g'))) σ3) ∧ (¬ x2 = 1 → Q (some (.int (nI s + 1))) σ3)) ∧ (¬ v3 = 0 → KX8_tellShuffles_35 N σ3 Q (nI rd0) x2 (nI s + 1) (nI g') (nI (720 - (f + 1)) + 1)))) := by
          intro g' hg
          refine C_nextOrder l6 hC2.2.1 O2 (fun o' en σ3 r3 O3 => ⟨_, rfl, fun q => absurd q (by decide), fun _ => ?_⟩) (fun en => ⟨_, rfl, fun _ => ?_, fun q => absurd rfl q⟩)
          · rw [e5, nI_1]
            rw [un, en] at hQ
            rw [ut, en] at ht
            have c3 : Ch2 225 227 σ σ3 := ⟨fun a h1 h2 j => (r3.1 a h2 j).trans (c2.1 a h1 h2 j), r3.2.trans c2.2⟩
            refine ih o' g' (s + 1) σ3 c3 O3 ht (by omega) ?_
            rw [hg]; exact hQ
          · rw [nI_1]
            rw [un, en] at hQ
            rw [hg]
            exact hQ σ2 c2
        refine ⟨fun q => ?_, fun q => ?_⟩
        · have lt : rdC ft nF lk tl tc nT l nW wn ws rl (fun p => sd (ga o p)) < rd0 := (nI_ltI (by omega) (by omega)).mp q
          refine G g ?_
          have : ¬ rd0 ≤ rdO ft nF lk tl tc nT l nW wn ws rl sd o := Nat.not_le.mpr lt
          rw [if_neg this]; rfl
        · have ge : rd0 ≤ rdO ft nF lk tl tc nT l nW wn ws rl sd o := by
            by_cases z : rdC ft nF lk tl tc nT l nW wn ws rl (fun p => sd (ga o p)) < rd0
            · exact absurd (nI_lt z (by omega)) q
            · exact Nat.not_lt.mp z
          rw [nI_1 g]
          refine G (g + 1) ?_
          rw [if_pos ge]
      · intro i hi ihi σ2 c2 O2 s2
        have hC2 := hC.j c2
        have gk := O2.2.1 i hi
        refine BX8_tellShuffles_46 ⟨fun q => absurd q (by rw [hC2.2.1]; exact nI_ge hi (by omega)), fun _ => ?_⟩
        rw [cl (show i < 2147483648 by omega), O2.2.2 i hi, cl (show ga o i < 2147483648 by omega), c2.1 226 (by decide) (by decide), h6 _ gk, nI_1 i]
        refine ⟨nvin (by omega) (by omega), nvin (by omega) (by omega), nvin (by omega) (by omega), ihi (u1 σ2 225 i (nI (sd (ga o i)))) (c2.u (Or.inl rfl)) ⟨O2.1, O2.2.1, fun x hx => by rw [u1_cell (by decide)]; exact O2.2.2 x hx⟩ (fun p hp => ?_)⟩
        by_cases z : p = i
        · rw [z, u1_same]
        · rw [u1_slot z]; exact s2 p (by omega)
    exact J 0 (by omega) σ' c hO (fun p hp => absurd hp (Nat.not_lt_zero p))
theorem Mr.j {σ' : Sg} (h : Mr ft nF lk tl tc nT l nW wn ws rl σ) (c : Rw 275 σ σ') : Mr ft nF lk tl tc nT l nW wn ws rl σ' := by
  obtain ⟨h1, h2, h3, h4, h5, h6⟩ := h
  refine ⟨by rw [c.1 245 (by decide)]; exact h1, ⟨by rw [c.1 245 (by decide)]; exact h2.1, fun r hr => ?_⟩, fun n hn s hs => by rw [c.1 274 (by decide)]; exact h3 n hn s hs, h4, h5, h6⟩
  rw [c.1 272 (by decide), c.1 273 (by decide)]; exact h2.2 r hr
theorem M_shuf {sd : Nat → Nat} {rd0 : Nat} {x3 : Int32} (hM : Mr ft nF lk tl tc nT l nW wn ws rl σ) (hs4 : ∀ p, sd p < 4) (h40 : σ.1 245 40 = nI (nm sd l.length)) (hrd : rd0 ≤ 96) : ∀ (f : Nat) (o : List Nat) (g s : Nat) (σ' : Sg), Rw 275 σ σ' → OL 275 l.length o σ' → tmt l.length f o = true →
    (∀ σ2, Rw 275 σ σ2 → (x3 = 0 → Q (some (.int (nI rd0))) σ2) ∧ (¬ x3 = 0 → (x3 = 1 → Q (some (.int (nI (shR (rdO ft nF lk tl tc nT l nW wn ws rl sd) rd0 l.length f o g s).1))) σ2) ∧ (¬ x3 = 1 → Q (some (.int (nI (shR (rdO ft nF lk tl tc nT l nW wn ws rl sd) rd0 l.length f o g s).2))) σ2))) → KX10_judge_90 N σ' Q x3 (nI rd0) (nI g) (nI s) 1 := by
  have l6 := hM.2.2.2.1
  have r96 : ∀ sd : Nat → Nat, rdC ft nF lk tl tc nT l nW wn ws rl sd ≤ 96 := fun sd => Nat.le_trans (cnt_le _ _) hM.2.2.2.2.1
  have p4 : ∀ i, i ≤ 6 → 4 ^ i ≤ 4 ^ 6 := fun i hi => Nat.pow_le_pow_right (by decide) hi
  have e46 : (4 : Nat) ^ 6 = 4096 := by decide
  have nb : nm sd l.length < 4096 := by have := nm_lt l.length (fun i _ => hs4 i); have := p4 l.length l6; omega
  intro f
  induction f with
  | zero => intro o g s σ' c hO ht; cases ht
  | succ f ih =>
    intro o g s σ' c hO ht hQ
    refine BX10_judge_90 ⟨fun q => absurd q (by decide), fun _ => ?_⟩
    have hM' := hM.j c
    have J : ∀ i, i ≤ l.length → KX10_judge_101 N σ' Q x3 (nI rd0) (nI g) (nI s) (nI (nm (fun p => sd (ga o p)) i)) (nI i) := by
      refine for_up ?_ ?_
      · have nl : nm (fun p => sd (ga o p)) l.length < 4096 := by have := nm_lt (d := fun p => sd (ga o p)) l.length (fun i _ => hs4 _); have := p4 l.length l6; omega
        refine BX10_judge_101 ⟨fun _ => hM'.read (sd := fun p => sd (ga o p)) (fun p => hs4 _) nl (fun p hp => nm_dig l.length (fun i _ => hs4 _) p hp) ⟨_, rfl, ?_⟩, fun q => absurd (by rw [hM'.1]; exact nI_le (Nat.le_refl _) (by omega)) q⟩
        have b96 := r96 (fun p => sd (ga o p))
        have un : ∀ g s, shR (rdO ft nF lk tl tc nT l nW wn ws rl sd) rd0 l.length (f + 1) o g s = (match nxt l.length o with | none => (g + (if rd0 ≤ rdO ft nF lk tl tc nT l nW wn ws rl sd o then 1 else 0), s + 1) | some o' => shR (rdO ft nF lk tl tc nT l nW wn ws rl sd) rd0 l.length f o' (g + (if rd0 ≤ rdO ft nF lk tl tc nT l nW wn ws rl sd o then 1 else 0)) (s + 1)) := fun _ _ => rfl
        have ut : tmt l.length (f + 1) o = (match nxt l.length o with | none => true | some o' => tmt l.length f o') := rfl
        have G : ∀ g', g' = g + (if rd0 ≤ rdO ft nF lk tl tc nT l nW wn ws rl sd o then 1 else 0) → EvM (N + 4) mX10_goesOn [.ref 245] σ' (fun r9 σ7 => ∃ v7, r9 = some (.int v7) ∧ (KX10_judge_90 N σ7 Q x3 (nI rd0) (nI g') (nI s + 1) v7)) := by
          intro g' hg
          refine M_goesOn l6 hM'.1 hO (fun o' en σ3 r3 O3 => ⟨_, rfl, ?_⟩) (fun en => ⟨_, rfl, ?_⟩)
          · rw [nI_1]
            rw [un, en] at hQ
            rw [ut, en] at ht
            refine ih o' g' (s + 1) σ3 ⟨fun a ha j => (r3.1 a ha j).trans (c.1 a ha j), r3.2.trans c.2⟩ O3 ht ?_
            rw [hg]; exact hQ
          · rw [nI_1]
            rw [un, en] at hQ
            refine BX10_judge_90 ⟨fun _ => ?_, fun q => absurd rfl q⟩
            rw [hg]
            exact hQ σ' c
        refine ⟨fun q => ?_, fun q => ?_⟩
        · have lt : rdC ft nF lk tl tc nT l nW wn ws rl (fun p => sd (ga o p)) < rd0 := (nI_ltI (by omega) (by omega)).mp q
          rw [Int32.add_zero]
          refine G g ?_
          have : ¬ rd0 ≤ rdO ft nF lk tl tc nT l nW wn ws rl sd o := Nat.not_le.mpr lt
          rw [if_neg this]; rfl
        · have ge : rd0 ≤ rdO ft nF lk tl tc nT l nW wn ws rl sd o := by
            by_cases z : rdC ft nF lk tl tc nT l nW wn ws rl (fun p => sd (ga o p)) < rd0
            · exact absurd (nI_lt z (by omega)) q
            · exact Nat.not_lt.mp z
          rw [nI_1 g]
          refine G (g + 1) ?_
          rw [if_pos ge]
      · intro i hi ihi
        have gk := hO.2.1 i hi
        refine BX10_judge_101 ⟨fun q => absurd q (by rw [hM'.1]; exact nI_ge hi (by omega)), fun _ => ⟨nvin (by omega) (by omega), ?_⟩⟩
        rw [c.1 245 (by decide), h40, cl (by omega), hO.2.2 i hi, shr2 (by omega) (by omega), nm_dig l.length (fun i _ => hs4 i) _ gk, shl_d (hs4 _) (by omega), nx_or, or_d (d := fun p => sd (ga o p)) (fun j _ => hs4 _), nI_1]
        exact ihi
    exact J 0 (by omega)
end JU
theorem O_judge {σ : Sg} (hR : Rel σ) (a b c : Int32) : OPi mX9_judge mX10_judge [.int a, .int b, .int c] σ := by
  obtain ⟨nF, lk, ft, nT, tl, tc, hF, hT⟩ := hR.1
  obtain ⟨nW, wn, ws, hW⟩ := hR.2.2.2.2.1
  have nT8 := hT.1
  have hl9 := wL_len (tl := tl) (tc := tc) nT (fun t ht => (hT.2.2.2.1 t ht).2.1)
  have p8 : 2 ^ nT ≤ 2 ^ 8 := Nat.pow_le_pow_right (by decide) nT8
  have e28 : (2 : Nat) ^ 8 = 256 := by decide
  have e2 : (2 : Int32).toInt = 2 := rfl
  generalize hl : tbl (tT ft nF lk tl tc nT) 6 = l
  have l6 : l.length ≤ 6 := by rw [← hl]; exact tbl_len 6
  have bad : ¬ ((∃ B, B < 2 ^ nT ∧ a = nI B) ∧ (∃ B, B < 2 ^ nT ∧ b = nI B) ∧ a &&& b = 0 ∧ 0 ≤ c.toInt ∧ c.toInt ≤ 2) → ∃ v, some (Value.int (-1)) = some (.int v) ∧ ∃ v2, some (Value.int v) = some (.int v2) ∧ EvM 40 mX10_judge [.ref 245, .int a, .int b, .int c] σ (fun r2 σ2 => r2 = some (.int v2) ∧ Rel σ2) := fun hb =>
    ⟨_, rfl, _, rfl, EX10_judge (M_areTexts hT (fun B hB e => ⟨_, rfl, fun z => absurd z (by decide), fun _ => M_areTexts hT (fun B' hB' e' => ⟨_, rfl, fun z => absurd z (by decide), fun _ => ⟨fun za => ⟨fun z => absurd ⟨⟨B, hB, e⟩, ⟨B', hB', e'⟩, za, by rw [i_l] at z; exact z⟩ hb, fun _ => ⟨rfl, hR⟩⟩, fun _ => ⟨rfl, hR⟩⟩⟩) (fun n => ⟨_, rfl, fun _ => ⟨rfl, hR⟩, fun z => absurd rfl z⟩)⟩) (fun n => ⟨_, rfl, fun _ => ⟨rfl, hR⟩, fun z => absurd rfl z⟩))⟩
  refine EX9_judge (EX8_holdAgainst (C_areTexts hT (fun B hB e => ⟨_, rfl, fun z => absurd z (by decide), fun _ => C_areTexts hT (fun B' hB' e' => ⟨_, rfl, fun z => absurd z (by decide), fun _ => ⟨fun za => ⟨fun q => bad (fun z => ?_), fun q => ⟨fun q2 => ?_, fun q2 => bad (fun z => ?_)⟩⟩, fun za => bad (fun z => za z.2.2.1)⟩⟩) (fun n => ⟨_, rfl, fun _ => bad (fun z => n z.2.1), fun z => absurd rfl z⟩)⟩) (fun n => ⟨_, rfl, fun _ => bad (fun z => n z.1), fun z => absurd rfl z⟩)))
  · rw [i_lt, li0'] at q; omega
  · rw [i_lt, li0'] at q
    rw [i_le, e2] at q2
    subst e
    subst e'
    generalize hr1 : rdL (rdw ft nF lk tl tc nT l B) (wL tl tc nT).length = r1'
    generalize hr2 : rdL (rdw ft nF lk tl tc nT l B') (wL tl tc nT).length = r2'
    have rl1 : r1'.length ≤ 96 := by have := (rdL_len (p := rdw ft nF lk tl tc nT l B) (wL tl tc nT).length).1; rw [hr1] at this; omega
    have rl2 : r2'.length ≤ 96 := by have := (rdL_len (p := rdw ft nF lk tl tc nT l B') (wL tl tc nT).length).1; rw [hr2] at this; omega
    have ok1 := rd_ok (ft := ft) (nF := nF) (lk := lk) (tl := tl) (tc := tc) (nT := nT) l6 (B := B) (n := (wL tl tc nT).length)
    have ok2 := rd_ok (ft := ft) (nF := nF) (lk := lk) (tl := tl) (tc := tc) (nT := nT) l6 (B := B') (n := (wL tl tc nT).length)
    rw [hr1] at ok1
    rw [hr2] at ok2
    refine C_rank hF hT (fun σ1 c1 t1 => ⟨rfl, ?_⟩)
    rw [hl] at t1
    have d1 := c1.chg
    refine C_collect (l := l) (hF.fr (d1.sm (by decide))) (hT.fr (d1.sm (by decide))) l6 t1.2.2 (by omega) (fun σ2 c2 r2 => ⟨rfl, ?_⟩)
    rw [hr1] at r2
    have d2 := d1.tr c2.chg
    have hC : Cr ft nF lk tl tc nT l nW wn ws r1' σ2 := ⟨hW.fr (d2.sm (by decide)), by rw [c2.2.1 4 (by decide)]; exact t1.1, r2, l6, rl1, ok1⟩
    refine C_searchBest hC (fun σ3 c3 b3 => ⟨rfl, ?_⟩)
    have d3 := d2.tr c3.chg
    have q4 := Nat.pow_pos (n := l.length) (show 0 < 4 by decide)
    generalize hsd : rwD 4 l.length (bb (rdN ft nF lk tl tc nT l nW wn ws r1') (4 ^ l.length)).2.1 = sd
    have hs4 : ∀ p, sd p < 4 := fun p => by rw [← hsd]; exact rwD4
    have s3 := b3.2.2 q4
    rw [hsd] at s3
    refine C_collect (l := l) (hF.fr (d3.sm (by decide))) (hT.fr (d3.sm (by decide))) l6 (fun s hs => by rw [c3.1 126 (by decide) (by decide) (by decide), c2.1 126 (by decide) (by decide)]; exact t1.2.2 s hs) (by omega) (fun σ4 c4 r4 => ⟨rfl, ?_⟩)
    rw [hr2] at r4
    have d4 := d3.tr c4.chg
    have hC4 : Cr ft nF lk tl tc nT l nW wn ws r2' σ4 := ⟨hW.fr (d4.sm (by decide)), by rw [c4.2.1 4 (by decide)]; exact (hC.s c3).2.1, r4, l6, rl2, ok2⟩
    have s4 : ∀ p, p < l.length → σ4.1 226 p = nI (sd p) := fun p hp => by rw [c4.1 226 (by decide) (by decide)]; exact s3 p hp
    generalize hby : rdC ft nF lk tl tc nT l nW wn ws r2' sd = rd0
    have hrd : rd0 ≤ 96 := by rw [← hby]; exact Nat.le_trans (cnt_le _ _) rl2
    have rg : ∀ (cc : Nat) (τ : Sg), (∀ x, x < l.length → τ.1 cc x = nI x) → OL cc l.length (List.range l.length) τ := fun cc τ h => ⟨List.length_range, fun x hx => by rw [ga_range hx]; exact hx, fun x hx => by rw [ga_range hx]; exact h x hx⟩
    have tm := tmt_ok l.length (by omega)
    -- the reference
    have M : ∀ (σ9 : Sg) (v : Int32), Chg [0] σ σ9 → (c = 0 → v = nI rd0) → (¬ c = 0 → c = 1 → v = nI (shR (rdO ft nF lk tl tc nT l nW wn ws r2' sd) rd0 l.length 720 (List.range l.length) 0 0).1) → (¬ c = 0 → ¬ c = 1 → v = nI (shR (rdO ft nF lk tl tc nT l nW wn ws r2' sd) rd0 l.length 720 (List.range l.length) 0 0).2) → ∃ v1, some (Value.int v) = some (.int v1) ∧ ∃ v2, some (Value.int v1) = some (.int v2) ∧ EvM 40 mX10_judge [.ref 245, .int (nI B), .int (nI B'), .int c] σ9 (fun r2 σ2 => r2 = some (.int v2) ∧ Rel σ2) := by
      intro σ9 v c9 k0 k1 k2
      refine ⟨_, rfl, _, rfl, EX10_judge (M_areTexts (hT.fr (c9.sm (by decide))) (fun B1 hB1 e1 => ⟨_, rfl, fun z => absurd z (by decide), fun _ => M_areTexts (hT.fr (c9.sm (by decide))) (fun B2 hB2 e2' => ⟨_, rfl, fun z => absurd z (by decide), fun _ => ⟨fun _ => ⟨fun _ => ?_, fun z => absurd (by rw [i_l]; omega) z⟩, fun z => absurd za z⟩⟩) (fun n => absurd ⟨B', hB', rfl⟩ n)⟩) (fun n => absurd ⟨B, hB, rfl⟩ n))⟩
      refine M_findBest (hF.fr (c9.sm (by decide))) (hT.fr (c9.sm (by decide))) (hW.fr (c9.sm (by decide))) hl (by omega) (fun σA cA gA wA tA mA bA => ⟨rfl, ?_⟩)
      rw [hr1] at mA bA
      have dA := c9.tr cA
      have f40 := bA.2.2 q4
      rw [hsd] at f40
      refine M_findReadable (l := l) (hF.fr (dA.sm (by decide))) (hT.fr (dA.sm (by decide))) gA wA l6 tA (by omega) (fun σB mB rB => ⟨rfl, ?_⟩)
      rw [hr2] at rB
      have dB := dA.tr mB.chg
      have hMB : Mr ft nF lk tl tc nT l nW wn ws r2' σB := ⟨by rw [mB.2.1 33 (by decide)]; exact mA.1, rB, fun n hn s hs => by rw [mB.1 274 (by decide) (by decide) (by decide)]; exact mA.2.2.1 n hn s hs, l6, rl2, ok2⟩
      have g40 : σB.1 245 40 = nI (nm sd l.length) := by rw [mB.2.1 40 (by decide)]; exact f40
      have p46 : 4 ^ l.length ≤ 4 ^ 6 := Nat.pow_le_pow_right (by decide) l6
      have e46 : (4 : Nat) ^ 6 = 4096 := by decide
      have nlt := nm_lt (d := sd) l.length (fun i _ => hs4 i)
      rw [g40]
      refine hMB.read hs4 (by omega) (fun p hp => nm_dig l.length (fun i _ => hs4 i) p hp) ⟨_, rfl, ?_⟩
      rw [hby]
      have Z : ∀ i, i ≤ 6 → ∀ σC, Rw 275 σB σC → (∀ x, x < i → σC.1 275 x = nI x) → KX10_judge_65 35 σC (fun r2 σ2 => r2 = some (.int v) ∧ Rel σ2) c (nI rd0) 0 0 (nI i) := by
        refine for_up ?_ ?_
        · intro σC rC oC
          have h40C : σC.1 245 40 = nI (nm sd l.length) := by rw [rC.1 245 (by decide)]; exact g40
          refine BX10_judge_65 ⟨fun _ => M_shuf (g := 0) (s := 0) (hMB.j rC) hs4 h40C hrd 720 (List.range l.length) σC Rw.rf (rg 275 σC (fun x hx => oC x (by omega))) tm (fun σD rD => ?_), fun z => absurd (show (6 : Int32) ≤ nI 6 by decide) z⟩
          have RD := hR.q (dB.tr ((rC.c0 (fun _ => rfl)).tr (rD.c0 (fun _ => rfl))))
          exact ⟨fun z => ⟨by rw [k0 z], RD⟩, fun z0 => ⟨fun z => ⟨by rw [k1 z0 z], RD⟩, fun z => ⟨by rw [k2 z0 z], RD⟩⟩⟩
        · intro i hi ihi σC rC oC
          refine BX10_judge_65 ⟨fun z => absurd z (nI_ge (b := 6) hi (by omega)), fun _ => ⟨nvin (by omega) (by omega), ?_⟩⟩
          rw [cl (by omega), nI_1]
          refine ihi _ rC.u1 (fun x hx => ?_)
          by_cases y : x = i
          · rw [y, u1_same]
          · rw [u1_slot y]; exact oC x (by omega)
      exact Z 0 (by omega) σB Rw.rf (fun x hx => absurd hx (Nat.not_lt_zero x))
    -- the class: its best sounds once more, then the orders
    have L : ∀ i, i ≤ l.length → ∀ σ5, Ch2 225 227 σ4 σ5 → (∀ p, p < i → σ5.1 225 p = nI (sd p)) → KX8_holdAgainst_62 34 σ5 (fun r9 σ1 => ∃ v1, r9 = some (.int v1) ∧ ∃ v, some (Value.int v1) = some (.int v) ∧ EvM 40 mX10_judge [.ref 245, .int (nI B), .int (nI B'), .int c] σ1 (fun r2 σ2 => r2 = some (.int v) ∧ Rel σ2)) c (nI i) := by
      refine for_up ?_ ?_
      · intro σ5 c5 s5
        have hC5 := hC4.j c5
        have d5 := d4.tr c5.chg57
        refine BX8_holdAgainst_62 ⟨fun _ => hC5.read hs4 s5 ⟨_, rfl, ?_⟩, fun z => absurd (by rw [hC5.2.1]; exact nI_le (Nat.le_refl _) (by omega)) z⟩
        rw [hby]
        refine ⟨fun z => M σ5 _ d5 (fun _ => rfl) (fun y => absurd z y) (fun y => absurd z y), fun z0 => EX8_tellShuffles ?_⟩
        have Z : ∀ i, i ≤ l.length → ∀ σ6, Ch2 225 227 σ4 σ6 → (∀ x, x < i → σ6.1 227 x = nI x) → KX8_tellShuffles_8 36 σ6 (fun r9 σ8 => ∃ v8, r9 = some (.int v8) ∧ ∃ v1, some (Value.int v8) = some (.int v1) ∧ ∃ v, some (Value.int v1) = some (.int v) ∧ EvM 40 mX10_judge [.ref 245, .int (nI B), .int (nI B'), .int c] σ8 (fun r2 σ2 => r2 = some (.int v) ∧ Rel σ2)) (nI rd0) c 0 0 (nI i) := by
          refine for_up ?_ ?_
          · intro σ6 c6 o6
            have hC6 := hC4.j c6
            refine BX8_tellShuffles_8 ⟨fun _ => C_shuf (g := 0) (s := 0) (x2 := c) hC4 hs4 s4 hrd 720 (List.range l.length) σ6 c6 (rg 227 σ6 o6) tm (by omega) (fun σ7 c7 => ?_), fun z => absurd (by rw [hC6.2.1]; exact nI_le (Nat.le_refl _) (by omega)) z⟩
            have d7 := d4.tr c7.chg57
            exact ⟨fun z => ⟨_, rfl, M σ7 _ d7 (fun y => absurd y z0) (fun _ _ => rfl) (fun _ y => absurd z y)⟩, fun z => ⟨_, rfl, M σ7 _ d7 (fun y => absurd y z0) (fun _ y => absurd y z) (fun _ _ => rfl)⟩⟩
          · intro i hi ihi σ6 c6 o6
            have hC6 := hC4.j c6
            refine BX8_tellShuffles_8 ⟨fun z => absurd z (by rw [hC6.2.1]; exact nI_ge hi (by omega)), fun _ => ⟨nvin (by omega) (by omega), ?_⟩⟩
            rw [cl (by omega), nI_1]
            refine ihi _ (c6.u (Or.inr rfl)) (fun x hx => ?_)
            by_cases y : x = i
            · rw [y, u1_same]
            · rw [u1_slot y]; exact o6 x (by omega)
        exact Z 0 (by omega) σ5 c5 (fun x hx => absurd hx (Nat.not_lt_zero x))
      · intro i hi ihi σ5 c5 s5
        have hC5 := hC4.j c5
        refine BX8_holdAgainst_62 ⟨fun z => absurd z (by rw [hC5.2.1]; exact nI_ge hi (by omega)), fun _ => ⟨nvin (by omega) (by omega), nvin (by omega) (by omega), ?_⟩⟩
        rw [cl (by omega), c5.1 226 (by decide) (by decide), s4 i hi, nI_1 i]
        refine ihi _ (c5.u (Or.inl rfl)) (fun p hp => ?_)
        by_cases y : p = i
        · rw [y, u1_same]
        · rw [u1_slot y]; exact s5 p (by omega)
    exact L 0 (by omega) σ4 Ch2.rf (fun p hp => absurd hp (Nat.not_lt_zero p))
  · rw [i_le, e2] at q2; omega
