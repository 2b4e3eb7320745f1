/-! ===== text ===== -/
theorem l_addI {x y : Int64} (h : -9223372036854775808 ≤ x.toInt + y.toInt ∧ x.toInt + y.toInt ≤ 9223372036854775807) : (x + y).toInt = x.toInt + y.toInt := by
  rw [Int64.toInt_add, Int.bmod_eq_of_le (by omega) (by omega)]
theorem cOk_iff {nF : Nat} {v : Int32} (hn : nF ≤ 24) : cOk nF v ↔ (-2 ≤ v.toInt ∧ v.toInt < (nF : Int)) := by
  constructor
  · rintro (h | h | ⟨f, hf, h⟩)
    · rw [h, show (-1 : Int32).toInt = -1 from rfl]; omega
    · rw [h, show (-2 : Int32).toInt = -2 from rfl]; omega
    · rw [h, i_nI (by omega)]; omega
  · intro h
    by_cases h1 : v.toInt = -1
    · left; exact Int32.toInt_inj.mp h1
    · by_cases h2 : v.toInt = -2
      · right; left; exact Int32.toInt_inj.mp h2
      · right; right; exact ⟨v.toInt.toNat, by omega, i_of (by omega) (by omega)⟩
theorem wL_congr {tl tl' : Nat → Nat} {tc tc' : Nat → Nat → Int32} : ∀ n, (∀ t, t < n → tl t = tl' t ∧ tc t = tc' t) → wL tl tc n = wL tl' tc' n := by
  intro n
  induction n with
  | zero => intro _; rfl
  | succ n ih =>
    intro h
    show wL tl tc n ++ wT (tc n) (tl n) n = wL tl' tc' n ++ wT (tc' n) (tl' n) n
    rw [ih (fun t ht => h t (by omega)), (h n (by omega)).1, (h n (by omega)).2]
/-- the cell that stands at f + j of a sheet is there, and may stand in a text -/
def gC (nF L : Nat) (f : Int32) (cv : Nat → Int32) (j : Nat) : Prop := (0 ≤ f.toInt + (j : Int) ∧ f.toInt + (j : Int) < (L : Int)) ∧ cOk nF (cv j)
theorem fi_add {nF L : Nat} {f : Int32} {cv : Nat → Int32} {i : Nat} (hL : L ≤ 60) (hi : i < 24) (h : ∀ j, j < i → gC nF L f cv j) : (f + nI i).toInt = f.toInt + (i : Int) := by
  have r := i_rng f
  by_cases e : i = 0
  · subst e; rw [show nI 0 = 0 from rfl, Int32.add_zero]; omega
  · have := (h 0 (by omega)).1
    rw [i_add (by rw [i_nI (by omega)]; omega), i_nI (by omega)]
section TXT
variable {N nF lk nT k L n : Nat} {ft : Nat → Nat} {tl : Nat → Nat} {tc : Nat → Nat → Int32} {σ : Sg} {Q : Option Value → Sg → Prop} {f : Int32} {cv : Nat → Int32}
theorem C_hasCell {x : Int32} (hk : k < 4) (hl : σ.1 239 k = nI L) (hL : L ≤ 60) (h1 : 0 ≤ x.toInt ∧ x.toInt < (L : Int) → Q (some (.int 1)) σ) (h0 : ¬ (0 ≤ x.toInt ∧ x.toInt < (L : Int)) → Q (some (.int 0)) σ) : EvM (N + 1) mX5_hasCell [.ref 237, .int (nI k), .int x] σ Q := by
  have e0 : (0 : Int32).toInt = 0 := rfl
  have e60 : (60 : Int32).toInt = 60 := rfl
  refine EX5_hasCell ⟨fun _ => ⟨fun q => h0 ?_, fun q => ⟨nvin (by omega) (by omega), ?_⟩⟩, fun q => absurd (nvin (by omega) (by omega)) q⟩
  · rw [i_lt, e0] at q; omega
  · rw [cl (by omega), hl]
    rw [i_lt, e0] at q
    refine ⟨fun z => h0 ?_, fun z => ⟨fun y => ?_, fun y => h1 ?_⟩⟩
    · rw [i_le, i_nI (by omega)] at z; omega
    · exfalso; rw [i_le, i_nI (by omega)] at z; rw [i_le, e60] at y; omega
    · rw [i_le, i_nI (by omega)] at z; omega
theorem C_text54 (hk : k < 4) (hF : RF nF lk ft σ) (hl : σ.1 239 k = nI L) (hL : L ≤ 60) (hn : n ≤ 24) (hcv : ∀ i : Nat, 0 ≤ f.toInt + (i : Int) → f.toInt + (i : Int) < (L : Int) → σ.1 (241 + k) (f.toInt + (i : Int)).toNat = cv i)
    (hx : (∀ j, j < n → gC nF L f cv j) → ∀ σ', Rw 6 σ σ' → (∀ j, j < n → σ'.1 6 j = cv j) → EvM (N + 4) mX7_addDraft [.ref 5, .int (nI n)] σ' (fun r9 σ2 => ∃ v2, r9 = some (.int v2) ∧ Q (some (.int v2)) σ2))
    (hi : ∀ i, i < n → (∀ j, j < i → gC nF L f cv j) → ¬ (0 ≤ f.toInt + (i : Int) ∧ f.toInt + (i : Int) < (L : Int)) → ∀ σ', Rw 6 σ σ' → Q (some (.int (-12))) σ')
    (hc : ∀ i, i < n → (∀ j, j < i → gC nF L f cv j) → (0 ≤ f.toInt + (i : Int) ∧ f.toInt + (i : Int) < (L : Int)) → ¬ cOk nF (cv i) → ∀ σ', Rw 6 σ σ' → Q (some (.int (-20 - nI i))) σ') : KX9_text_54 N σ Q (nI k) f (nI n) 0 := by
  have n24 := hF.1
  have Lp : ∀ i, i ≤ n → ∀ σ', Rw 6 σ σ' → (∀ j, j < i → gC nF L f cv j) → (∀ j, j < i → σ'.1 6 j = cv j) → KX9_text_54 N σ' Q (nI k) f (nI n) (nI i) := by
    refine for_up ?_ ?_
    · intro σ' r g e
      exact BX9_text_54 ⟨fun _ => hx g σ' r e, fun q => absurd (nI_le (Nat.le_refl _) (by omega)) q⟩
    · intro i hi0 ih σ' r g e
      have fi := fi_add hL (by omega) g
      have r239 : σ'.1 239 k = nI L := by rw [r.1 239 (by decide)]; exact hl
      refine BX9_text_54 ⟨fun q => absurd q (nI_ge hi0 (by omega)), fun _ => C_hasCell hk r239 hL (fun q => ⟨_, rfl, fun z => absurd z (by decide), fun _ => EX5_cellOf (C_hasCell hk r239 hL (fun _ => ⟨_, rfl, fun z => absurd z (by decide), fun _ => ⟨nvin (by omega) (by omega), ?_, ?_⟩⟩) (fun z => absurd q z))⟩) (fun q => ⟨_, rfl, fun _ => hi i hi0 g (by rw [← fi]; exact q) σ' r, fun z => absurd rfl z⟩)⟩
      · rw [vp_in_iff]; omega
      · rw [fi] at q
        have c1 : (f + nI i).toNatClampNeg = (f.toInt + (i : Int)).toNat := by rw [i_cl, fi]
        rw [c1, cl (by omega), r.1 (241 + k) (by omega), hcv i q.1 q.2]
        have hF3 : σ'.1 1 3 = nI nF := by rw [r.1 1 (by decide)]; exact hF.2.2.1
        have go : cOk nF (cv i) → vp_in (nI i) 24 ∧ (∃ v5, some (Value.int 1) = some (.int v5) ∧ ((v5 = 0 → Q (some (.int (-20 - nI i))) (u1 σ' 6 (nI i).toNatClampNeg (cv i))) ∧ (¬ v5 = 0 → KX9_text_54 N (u1 σ' 6 (nI i).toNatClampNeg (cv i)) Q (nI k) f (nI n) (nI i + 1)))) := by
          intro ok
          refine ⟨nvin (by omega) (by omega), _, rfl, fun z => absurd z (by decide), fun _ => ?_⟩
          rw [nI_1, cl (by omega)]
          refine ih _ r.u1 (fun j hj => ?_) (fun j hj => ?_)
          · by_cases e1 : j = i
            · rw [e1]; exact ⟨q, ok⟩
            · exact g j (by omega)
          · by_cases e1 : j = i
            · rw [e1, u1_same]
            · rw [u1_slot e1]; exact e j (by omega)
        refine ⟨_, rfl, EX7_draftCell ⟨fun z => absurd z (nI_pos (by omega)), fun _ => ⟨fun _ => ⟨fun z => go ?_, fun z => ⟨fun y => go (Or.inl y), fun y => ⟨fun u => go (Or.inr (Or.inl u)), fun u => ⟨_, rfl, fun _ => hc i hi0 g q (fun ok => ?_) σ' r, fun v => absurd rfl v⟩⟩⟩⟩, fun z => absurd (nI_lt (b := 24) (by omega) (by omega)) z⟩⟩⟩
        · rw [hF3, i_nI (by omega)] at z
          exact (cOk_iff n24).mpr (by omega)
        · rcases ok with o | o | ⟨fo, h1, o⟩
          · exact y o
          · exact u o
          · exact z (by rw [hF3, o]; exact in0 h1 (by omega))
  exact Lp 0 (by omega) σ Rw.rf (fun j hj => absurd hj (Nat.not_lt_zero j)) (fun j hj => absurd hj (Nat.not_lt_zero j))
theorem M_text55 (hk : k < 4) (hF : RF nF lk ft σ) (hl : σ.1 284 k = nI L) (hL : L ≤ 60) (hn : n ≤ 24) (hcv : ∀ i : Nat, 0 ≤ f.toInt + (i : Int) → f.toInt + (i : Int) < (L : Int) → σ.1 285 (60 * k + (f.toInt + (i : Int)).toNat) = cv i)
    (hx : (∀ j, j < n → gC nF L f cv j) → (σ.1 245 4 = 8 → Q (some (.int (-3))) σ) ∧ (¬ σ.1 245 4 = 8 → KX10_text_150 N σ Q (nI k) f (nI n) 0))
    (hi : ∀ i, i < n → (∀ j, j < i → gC nF L f cv j) → ¬ (0 ≤ f.toInt + (i : Int) ∧ f.toInt + (i : Int) < (L : Int)) → Q (some (.int (-12))) σ)
    (hc : ∀ i, i < n → (∀ j, j < i → gC nF L f cv j) → (0 ≤ f.toInt + (i : Int) ∧ f.toInt + (i : Int) < (L : Int)) → ¬ cOk nF (cv i) → Q (some (.int (-20 - nI i))) σ) : KX10_text_55 N σ Q (nI k) f (nI n) 0 := by
  have n24 := hF.1
  have rf := i_rng f
  have Lp : ∀ i, i ≤ n → (∀ j, j < i → gC nF L f cv j) → KX10_text_55 N σ Q (nI k) f (nI n) (nI i) := by
    refine for_up ?_ ?_
    · intro g
      exact BX10_text_55 ⟨fun _ => hx g, fun q => absurd (nI_le (Nat.le_refl _) (by omega)) q⟩
    · intro i hi0 ih g
      have fi := fi_add hL (by omega) g
      have fl : ((f).toInt64 + (nI i).toInt64).toInt = f.toInt + (i : Int) := by
        rw [l_addI (by rw [i_l, i_l, i_nI (by omega)]; omega), i_l, i_l, i_nI (by omega)]
      have f3 : ((f).toInt64 + (nI i).toInt64).toInt32 = f + nI i := by rw [Int64.toInt32_add, Int32.toInt32_toInt64, Int32.toInt32_toInt64]
      refine BX10_text_55 ⟨fun q => absurd q (nI_ge hi0 (by omega)), fun _ => ⟨fun q => hi i hi0 g (fun z => ?_), fun q => ⟨nvin (by omega) (by omega), ?_⟩⟩⟩
      · rw [lg_lt, fl, li0] at q; omega
      · rw [lg_lt, fl, li0] at q
        rw [f3, cl (by omega), hl]
        refine ⟨fun z => ?_, fun z => hi i hi0 g (fun y => z ?_)⟩
        · rw [lg_lt, fl, i_l, i_nI (by omega)] at z
          obtain ⟨m, hm, em⟩ : ∃ m : Nat, m < L ∧ f + nI i = nI m := ⟨(f.toInt + (i : Int)).toNat, by omega, i_of (by omega) (by omega)⟩
          have em2 : (f.toInt + (i : Int)).toNat = m := by rw [← fi, em, i_nI (by omega)]; omega
          have cvm := hcv i (by omega) z
          rw [em2] at cvm
          rw [em, show (60 : Int32) = nI 60 from rfl, pk_mul, nI_add, cl (by omega), cvm, hF.2.2.2.2.1]
          have lim : ((-2 ≤ ((cv i).toInt64).toInt ∧ ((cv i).toInt64).toInt ≤ ((nI nF - 1).toInt64).toInt) ↔ cOk nF (cv i)) := by
            rw [cOk_iff n24, i_l, i_l]
            by_cases e0 : nF = 0
            · rw [e0, show (nI 0 - 1).toInt = -1 from by decide]; omega
            · rw [show nI nF - 1 = nI (nF - 1) from pk_sub (b := 1) (by omega), i_nI (by omega)]; omega
          rw [nI_1]
          refine ⟨nvin (by omega) (by omega), fun y => ih (fun j hj => ?_), fun y => hc i hi0 g (by omega) (fun u => y (lim.mpr u))⟩
          by_cases e1 : j = i
          · rw [e1]; exact ⟨by omega, lim.mp y⟩
          · exact g j (by omega)
        · rw [lg_lt, fl, i_l, i_nI (by omega)]; omega
  exact Lp 0 (by omega) (fun j hj => absurd hj (Nat.not_lt_zero j))
theorem M_text150 (hk : k < 4) (hn1 : 1 ≤ n) (hn : n ≤ 24) (hL : L ≤ 60) (h8 : nT < 8) (ht : σ.1 245 4 = nI nT) (hg : ∀ j, j < n → gC nF L f cv j) (hcv : ∀ i : Nat, 0 ≤ f.toInt + (i : Int) → f.toInt + (i : Int) < (L : Int) → σ.1 285 (60 * k + (f.toInt + (i : Int)).toNat) = cv i)
    (h : ∀ σ', Rw 249 σ σ' → (∀ j, j < 24 * nT → σ'.1 249 j = σ.1 249 j) → (∀ j, j < n → σ'.1 249 (24 * nT + j) = cv j) → Q (some (.int (nI nT))) (u1 (u1 σ' 248 nT (nI n)) 245 4 (nI (nT + 1)))) : KX10_text_150 N σ Q (nI k) f (nI n) 0 := by
  have g0 := (hg 0 (by omega)).1
  obtain ⟨m, hm, rfl⟩ : ∃ m : Nat, m < L ∧ f = nI m := ⟨f.toInt.toNat, by omega, i_of (by omega) (by omega)⟩
  have fm : (nI m).toInt = m := i_nI (by omega)
  have Lp : ∀ i, i ≤ n → ∀ σ', Rw 249 σ σ' → (∀ j, j < 24 * nT → σ'.1 249 j = σ.1 249 j) → (∀ j, j < i → σ'.1 249 (24 * nT + j) = cv j) → KX10_text_150 N σ' Q (nI k) (nI m) (nI n) (nI i) := by
    refine for_up ?_ ?_
    · intro σ' r o e
      have e4 : σ'.1 245 4 = nI nT := by rw [r.1 245 (by decide)]; exact ht
      refine BX10_text_150 ⟨fun _ => ⟨by rw [e4]; exact nvin (by omega) (by omega), ?_⟩, fun q => absurd (nI_le (Nat.le_refl _) (by omega)) q⟩
      rw [e4, cl (by omega), u1_same, u1_cell (by decide), e4, nI_1, nI_pred]
      exact h σ' r o e
    · intro i hi ih σ' r o e
      have e4 : σ'.1 245 4 = nI nT := by rw [r.1 245 (by decide)]; exact ht
      have gi := (hg i hi).1
      rw [fm] at gi
      refine BX10_text_150 ⟨fun q => absurd q (nI_ge hi (by omega)), fun _ => ?_⟩
      rw [e4, show (60 : Int32) = nI 60 from rfl, show (24 : Int32) = nI 24 from rfl, pk_mul, pk_mul, nI_add, nI_add, nI_add, nI_1, cl (by omega), cl (by omega)]
      have c1 := hcv i (by rw [fm]; omega) (by rw [fm]; omega)
      rw [fm, show ((m : Int) + (i : Int)).toNat = m + i by omega] at c1
      rw [r.1 285 (by decide), show 60 * k + m + i = 60 * k + (m + i) by omega, c1]
      refine ⟨nvin (by omega) (by omega), nvin (by omega) (by omega), ih _ r.u1 (fun j hj => ?_) (fun j hj => ?_)⟩
      · rw [u1_slot (by omega)]; exact o j hj
      · by_cases e1 : j = i
        · rw [e1, u1_same]
        · rw [u1_slot (by omega)]; exact e j (by omega)
  exact Lp 0 (by omega) σ Rw.rf (fun j _ => rfl) (fun j hj => absurd hj (Nat.not_lt_zero j))
theorem C_addDraft (hF : RF nF lk ft σ) (hT : RT nF nT tl tc σ) (hn1 : 1 ≤ n) (hn : n ≤ 24) (hok : ∀ j, j < n → cOk nF (cv j)) (hd : ∀ j, j < n → σ.1 6 j = cv j)
    (hful : nT = 8 → Q (some (.int (-3))) σ)
    (h : nT < 8 → ∀ σ1 σ', Rw (8 + nT) σ σ1 → (∀ j, j < n → σ1.1 (8 + nT) j = cv j) → FC (u1 (u1 σ1 16 nT (nI n)) 5 4 (nI (nT + 1))) σ' → WC (wL tl tc nT ++ wT cv n nT) σ' → Q (some (.int (nI nT))) σ') : EvM (N + 4) mX7_addDraft [.ref 5, .int (nI n)] σ Q := by
  obtain ⟨g1, g2, g3, g4, g5, g6⟩ := id hT
  have hl := wL_len (tl := tl) (tc := tc) nT (fun t ht => (g4 t ht).2.1)
  refine EX7_addDraft ⟨fun q => ?_, fun _ => ⟨fun _ => ⟨fun q => ?_, fun q => hful ?_⟩, fun q => absurd (nI_le (b := 24) (by omega) (by omega)) q⟩⟩
  · exact absurd q (nI_nlt (b := 1) (by omega) (by omega))
  · have h8 : nT < 8 := by rw [g2] at q; exact (nI_ltI (b := 8) (by omega) (by omega)).mp q
    have Lp : ∀ i, i ≤ n → ∀ σ', Rw (8 + nT) σ σ' → (∀ j, j < i → σ'.1 (8 + nT) j = cv j) → KX7_addDraft_27 N σ' Q (nI n) (nI i) := by
      refine for_up ?_ ?_
      · intro σ1 r e
        have e4 : σ1.1 5 4 = nI nT := by rw [r.1 5 (by omega)]; exact g2
        refine BX7_addDraft_27 ⟨fun _ => ⟨by rw [e4]; exact nvin (by omega) (by omega), ?_⟩, fun q => absurd (nI_le (Nat.le_refl _) (by omega)) q⟩
        rw [e4, cl (by omega), u1_same, u1_cell (by decide), e4, nI_1, nI_pred]
        have cc : Chg [0, 2] σ (u1 (u1 σ1 16 nT (nI n)) 5 4 (nI (nT + 1))) := ((r.chg (fun j => by rw [modr_8 (by omega)]; decide) Chg.rf).u1 (by rw [show ∀ j, modOf 16 j = 2 from fun _ => rfl]; decide)).u1 (by decide)
        refine C_findWords (hF.fr (cc.sm (by decide))) (l := wL tl tc nT) (n := n) (cell := cv) (nT := nT + 1) ⟨by omega, by omega, by omega, u1_same, ?_, fun c hc => ⟨hok c hc, ?_⟩⟩ ⟨?_, fun w hw => ?_⟩ (by omega) (fun σ' f w => ⟨rfl, ?_⟩)
        · rw [u1_cell (by decide), u1_same]
        · rw [u1_cell (by omega), u1_cell (by omega)]; exact e c hc
        · rw [u1_slot (by decide), u1_cell (by decide), r.1 5 (by omega)]; exact g5
        · rw [u1_cell (by decide), u1_cell (by decide), u1_cell (by decide), u1_cell (by decide), u1_cell (by decide), u1_cell (by decide), u1_cell (by decide), u1_cell (by decide), r.1 17 (by omega), r.1 18 (by omega), r.1 19 (by omega), r.1 20 (by omega)]
          exact g6 w hw
        · have e5 : σ'.1 5 4 = nI (nT + 1) := by rw [f.1 5 4 (by decide), u1_same]
          rw [e5, nI_pred]
          exact h h8 σ1 σ' r e f w
      · intro i hi ih σ' r e
        have e4 : σ'.1 5 4 = nI nT := by rw [r.1 5 (by omega)]; exact g2
        refine BX7_addDraft_27 ⟨fun q => absurd q (nI_ge hi (by omega)), fun _ => ?_⟩
        rw [e4, cl (by omega), cl (by omega), nI_1, r.1 6 (by omega), hd i hi]
        refine ⟨nvin (by omega) (by omega), nvin (by omega) (by omega), nvin (by omega) (by omega), ih _ r.u1 (fun j hj => ?_)⟩
        by_cases e1 : j = i
        · rw [e1, u1_same]
        · rw [u1_slot e1]; exact e j (by omega)
    exact Lp 0 (by omega) σ Rw.rf (fun j hj => absurd hj (Nat.not_lt_zero j))
  · rw [g2] at q
    have : ¬ nT < 8 := fun z => q (nI_lt (b := 8) z (by omega))
    omega
end TXT
theorem O_text {σ : Sg} (hR : Rel σ) (a b c d : Int32) : OPi mX9_text mX10_text [.int a, .int b, .int c, .int d] σ := by
  obtain ⟨nF, lk, ft, nT, tl, tc, hF, hT⟩ := hR.1
  have hS := hR.2.2.2.2.2.2.2
  have n24 := hF.1
  obtain ⟨g1, g2, g3, g4, g5, g6⟩ := id hT
  have hl := wL_len (tl := tl) (tc := tc) nT (fun t ht => (g4 t ht).2.1)
  have bad : (¬ vp_in a 4 ∨ ¬ vp_in b 3 ∨ ¬ (1 ≤ d.toInt ∧ d.toInt ≤ 24)) → ∃ v, some (Value.int (-1)) = some (.int v) ∧ EvM 40 mX10_text [.ref 245, .int a, .int b, .int c, .int d] σ (fun r2 σ2 => r2 = some (.int v) ∧ Rel σ2) := by
    intro hb
    refine ⟨_, rfl, EX10_text (C10_isSheet ⟨fun q => ⟨_, rfl, fun z => absurd z (by decide), fun _ => ⟨fun z => ?_, fun _ => ⟨rfl, hR⟩⟩⟩, fun q => ⟨_, rfl, fun _ => ⟨rfl, hR⟩, fun z => absurd rfl z⟩⟩)⟩
    exfalso
    rw [i_l] at z
    rcases hb with h | h | h
    · exact h q.1
    · exact h q.2
    · exact h z
  have e1 : (1 : Int32).toInt = 1 := rfl
  have e24 : (24 : Int32).toInt = 24 := rfl
  refine EX9_text ⟨fun ha => ⟨fun hb => ⟨fun q => bad (Or.inr (Or.inr ?_)), fun q => ⟨fun q2 => ?_, fun q2 => bad (Or.inr (Or.inr ?_))⟩⟩, fun hb => bad (Or.inr (Or.inl hb))⟩, fun ha => bad (Or.inl ha)⟩
  · rw [i_lt, e1] at q; omega
  · rw [i_lt, e1] at q
    rw [i_le, e24] at q2
    obtain ⟨k, hk, rfl⟩ := vin ha (by omega)
    obtain ⟨la, hla, rfl⟩ := vin hb (by omega)
    obtain ⟨n, hn, rfl⟩ : ∃ n : Nat, (1 ≤ n ∧ n ≤ 24) ∧ d = nI n := ⟨d.toInt.toNat, by omega, i_of (by omega) (by omega)⟩
    have M : ∀ (σ1 : Sg) (v : Int32), (σ1.1 283 k = nI la → KX10_text_55 38 σ1 (fun r2 σ2 => r2 = some (.int v) ∧ Rel σ2) (nI k) c (nI n) 0) → (¬ σ1.1 283 k = nI la → σ1.1 283 k = -4 → v = -11 ∧ Rel σ1) → (¬ σ1.1 283 k = nI la → ¬ σ1.1 283 k = -4 → v = -13 ∧ Rel σ1) → ∃ v2, some (Value.int v) = some (.int v2) ∧ EvM 40 mX10_text [.ref 245, .int (nI k), .int (nI la), .int c, .int (nI n)] σ1 (fun r2 σ2 => r2 = some (.int v2) ∧ Rel σ2) := by
      intro σ1 v h1 h2 h3
      refine ⟨_, rfl, EX10_text (C10_isSheet ⟨fun q => ⟨_, rfl, fun z => absurd z (by decide), fun _ => ⟨fun z => ⟨nvin (by omega) (by omega), ?_⟩, fun z => absurd (by rw [i_l, i_nI (by omega)]; omega) z⟩⟩, fun z => absurd ⟨ha, hb⟩ z⟩)⟩
      rw [cl (by omega)]
      refine ⟨h1, fun u => ⟨nvin (by omega) (by omega), fun y => ?_, fun y => ?_⟩⟩
      · have := h2 u y; exact ⟨by rw [this.1], this.2⟩
      · have := h3 u y; exact ⟨by rw [this.1], this.2⟩
    refine EX5_faultAs (EX5_lengthOf ⟨fun _ => ⟨nvin (by omega) (by omega), _, rfl, ?_⟩, fun z => absurd ha z⟩)
    rw [cl (by omega)]
    rcases hS k hk with ⟨s1, s2⟩ | ⟨l2, L, s1, s2, s3, s4, s5, s6, s7⟩
    · rw [s1]
      refine ⟨fun _ => ⟨_, rfl, fun z => absurd z (by decide), fun _ => M σ _ (fun z => absurd z (by rw [s2]; exact fun y => n4 (by omega) y.symm)) (fun _ _ => ⟨by decide, hR⟩) (fun _ z => absurd s2 z)⟩, fun z => absurd rfl z⟩
    · rw [s4, s3]
      refine ⟨fun z => absurd z (n4 (by omega)), fun _ => ⟨nvin (by omega) (by omega), fun z => ⟨_, rfl, fun _ => ?_, fun y => absurd rfl y⟩, fun z => ⟨_, rfl, fun y => absurd y (by decide), fun _ => M σ _ (fun y => absurd (by rw [← y, s5]) z) (fun _ y => absurd y (by rw [s5]; exact n4 (by omega))) (fun _ _ => ⟨by decide, hR⟩)⟩⟩⟩
      have zl : l2 = la := (nI_eq (by omega) (by omega)).mp z
      subst zl
      have cvC : ∀ i : Nat, 0 ≤ c.toInt + (i : Int) → c.toInt + (i : Int) < (L : Int) → σ.1 (241 + k) (c.toInt + (i : Int)).toNat = (fun i : Nat => σ.1 285 (60 * k + (c.toInt + (i : Int)).toNat)) i := fun i h1 h2 => s7 _ (by omega)
      have c6 : ∀ σ', Rw 6 σ σ' → Chg [0] σ σ' := fun σ' r => r.c0 (fun _ => rfl)
      refine C_text54 (cv := fun i : Nat => σ.1 285 (60 * k + (c.toInt + (i : Int)).toNat)) hk hF s4 s2 hn.2 cvC (fun g σ1 r e => ?_) (fun i hi g bi σ1 r => ?_) (fun i hi g gi bi σ1 r => ?_)
      · have cc := c6 σ1 r
        have hF1 := hF.fr (cc.sm (by decide))
        have hT1 := hT.fr (cc.sm (by decide))
        have mk : ∀ σ3 : Sg, (∀ a, a = 245 ∨ a = 284 ∨ a = 285 → ∀ j, (a = 245 → j = 0 ∨ j = 4) → σ3.1 a j = σ.1 a j) → ∀ i : Nat, 0 ≤ c.toInt + (i : Int) → c.toInt + (i : Int) < (L : Int) → σ3.1 285 (60 * k + (c.toInt + (i : Int)).toNat) = (fun i : Nat => σ.1 285 (60 * k + (c.toInt + (i : Int)).toNat)) i := fun σ3 h i _ _ => h 285 (by decide) _ (fun y => absurd y (by decide))
        refine C_addDraft hF1 hT1 hn.1 hn.2 (fun j hj => (g j hj).2) e (fun h8 => ⟨_, rfl, ?_⟩) (fun h8 σ2 σ3 r2 e2 f3 w3 => ⟨_, rfl, ?_⟩)
        · refine M σ1 _ (fun _ => ?_) (fun y => absurd (by rw [cc.1 283 k (by rw [show modOf 283 k = 9 from rfl]; decide)]; exact s5) y) (fun y => absurd (by rw [cc.1 283 k (by rw [show modOf 283 k = 9 from rfl]; decide)]; exact s5) y)
          have m284 : σ1.1 284 k = nI L := by rw [cc.1 284 k (by rw [show modOf 284 k = 9 from rfl]; decide)]; exact s6
          refine M_text55 (cv := fun i : Nat => σ.1 285 (60 * k + (c.toInt + (i : Int)).toNat)) hk hF1 m284 s2 hn.2 (fun i _ _ => by rw [r.1 285 (by decide)]) (fun _ => ⟨fun _ => ⟨rfl, hR.q cc⟩, fun y => absurd (by rw [hT1.2.2.1, h8]; rfl) y⟩) (fun i hi g' bi => absurd (g i hi).1 bi) (fun i hi g' gi bi => absurd (g i hi).2 bi)
        · have c2 : Chg [0, 2] σ (u1 (u1 σ2 16 nT (nI n)) 5 4 (nI (nT + 1))) := ((r2.chg (fun j => by rw [modr_8 (by omega)]; decide) (cc.le (by decide))).u1 (by rw [show ∀ j, modOf 16 j = 2 from fun _ => rfl]; decide)).u1 (by decide)
          have c3 : Chg [0, 2] σ σ3 := f3.chg (by decide) c2
          have same : ∀ a, (a = 245 ∨ a = 246 ∨ a = 248 ∨ a = 249 ∨ a = 284 ∨ a = 285 ∨ a = 283) → ∀ j, σ3.1 a j = σ.1 a j := fun a ha j => by
            rw [f3.1 a j (by omega), u1_cell (by omega), u1_cell (by omega), r2.1 a (by omega), r.1 a (by omega)]
          have hF3 := hF.fr (c3.sm (by decide))
          refine M σ3 _ (fun _ => ?_) (fun y => absurd (by rw [same 283 (by decide)]; exact s5) y) (fun y => absurd (by rw [same 283 (by decide)]; exact s5) y)
          have cvM : ∀ i : Nat, 0 ≤ c.toInt + (i : Int) → c.toInt + (i : Int) < (L : Int) → σ3.1 285 (60 * k + (c.toInt + (i : Int)).toNat) = (fun i : Nat => σ.1 285 (60 * k + (c.toInt + (i : Int)).toNat)) i := fun i _ _ => by rw [same 285 (by decide)]
          refine M_text55 (cv := fun i : Nat => σ.1 285 (60 * k + (c.toInt + (i : Int)).toNat)) hk hF3 (by rw [same 284 (by decide)]; exact s6) s2 hn.2 cvM (fun _ => ⟨fun y => ?_, fun _ => ?_⟩) (fun i hi g' bi => absurd (g i hi).1 bi) (fun i hi g' gi bi => absurd (g i hi).2 bi)
          · exfalso
            rw [same 245 (by decide), g3] at y
            have := (nI_eq (b := 8) (by omega) (by omega)).mp y
            omega
          · refine M_text150 (nF := nF) (cv := fun i : Nat => σ.1 285 (60 * k + (c.toInt + (i : Int)).toNat)) hk hn.1 hn.2 s2 h8 (by rw [same 245 (by decide)]; exact g3) g cvM (fun σ4 r4 o4 n4 => ⟨rfl, ?_⟩)
            have c5 : Chg [0, 2] σ (u1 (u1 σ4 248 nT (nI n)) 245 4 (nI (nT + 1))) := ((r4.chg (fun j => by rw [show modOf 249 j = 2 from rfl]; decide) c3).u1 (by rw [show ∀ j, modOf 248 j = 2 from fun _ => rfl]; decide)).u1 (by decide)
            have z5 : ∀ a, a ≠ 245 → a ≠ 248 → a ≠ 249 → ∀ j, (u1 (u1 σ4 248 nT (nI n)) 245 4 (nI (nT + 1))).1 a j = σ3.1 a j := fun a h1 h2 h3 j => by rw [u1_cell h1, u1_cell h2, r4.1 a h3]
            have z3 : ∀ a j, ¬ (a = 17 ∨ a = 18 ∨ a = 19 ∨ a = 20 ∨ (a = 5 ∧ j = 9)) → a ≠ 6 → a ≠ 8 + nT → ¬ (a = 16 ∧ j = nT) → ¬ (a = 5 ∧ j = 4) → σ3.1 a j = σ.1 a j := fun a j h1 h2 h3 h4 h5 => by rw [f3.1 a j h1, u1_other h5, u1_other h4, r2.1 a h3, r.1 a h2]
            have wl := w3.1
            refine hR.m12 (c5.le (by decide)) ⟨nF, lk, ft, nT + 1, fun t => if t = nT then n else tl t, fun t => if t = nT then (fun i : Nat => σ.1 285 (60 * k + (c.toInt + (i : Int)).toNat)) else tc t, hF.fr (c5.sm (by decide)), by omega, ?_, u1_same, fun t ht => ?_, ?_, ?_⟩
            · rw [z5 5 (by decide) (by decide) (by decide), f3.1 5 4 (by decide), u1_same]
            · dsimp only
              by_cases et : t = nT
              · subst et
                rw [if_pos rfl, if_pos rfl]
                refine ⟨hn.1, hn.2, ?_, ?_, fun x hx => ⟨(g x hx).2, ?_, ?_⟩⟩
                · rw [z5 16 (by decide) (by decide) (by decide), f3.1 16 t (by omega), u1_cell (by decide), u1_same]
                · rw [u1_cell (by decide), u1_same]
                · rw [z5 (8 + t) (by omega) (by omega) (by omega), f3.1 (8 + t) x (by omega), u1_cell (by omega), u1_cell (by omega)]; exact e2 x hx
                · rw [u1_cell (by decide), u1_cell (by decide)]; exact n4 x hx
              · rw [if_neg et, if_neg et]
                obtain ⟨a1, a2, a3, a4, a5⟩ := g4 t (by omega)
                refine ⟨a1, a2, ?_, ?_, fun x hx => ⟨(a5 x hx).1, ?_, ?_⟩⟩
                · rw [z5 16 (by decide) (by decide) (by decide), z3 16 t (by omega) (by decide) (by omega) (by omega) (by omega)]; exact a3
                · rw [u1_cell (by decide), u1_slot et, r4.1 248 (by decide), same 248 (by decide)]; exact a4
                · rw [z5 (8 + t) (by omega) (by omega) (by omega), z3 (8 + t) x (by omega) (by omega) (by omega) (by omega) (by omega)]; exact (a5 x hx).2.1
                · rw [u1_cell (by decide), u1_cell (by decide), o4 _ (by omega), same 249 (by decide)]; exact (a5 x hx).2.2
            · have ew : wL (fun t => if t = nT then n else tl t) (fun t => if t = nT then (fun i : Nat => σ.1 285 (60 * k + (c.toInt + (i : Int)).toNat)) else tc t) (nT + 1) = wL tl tc nT ++ wT (fun i : Nat => σ.1 285 (60 * k + (c.toInt + (i : Int)).toNat)) n nT := by
                show wL _ _ nT ++ wT (if nT = nT then _ else _) (if nT = nT then n else tl nT) nT = _
                rw [if_pos rfl, if_pos rfl, wL_congr nT (tl' := tl) (tc' := tc) (fun t ht => ⟨if_neg (by omega), if_neg (by omega)⟩)]
              rw [ew, z5 5 (by decide) (by decide) (by decide)]
              exact w3.1
            · have ew : wL (fun t => if t = nT then n else tl t) (fun t => if t = nT then (fun i : Nat => σ.1 285 (60 * k + (c.toInt + (i : Int)).toNat)) else tc t) (nT + 1) = wL tl tc nT ++ wT (fun i : Nat => σ.1 285 (60 * k + (c.toInt + (i : Int)).toNat)) n nT := by
                show wL _ _ nT ++ wT (if nT = nT then _ else _) (if nT = nT then n else tl nT) nT = _
                rw [if_pos rfl, if_pos rfl, wL_congr nT (tl' := tl) (tc' := tc) (fun t ht => ⟨if_neg (by omega), if_neg (by omega)⟩)]
              rw [ew]
              intro w hw
              rw [z5 17 (by decide) (by decide) (by decide), z5 18 (by decide) (by decide) (by decide), z5 19 (by decide) (by decide) (by decide), z5 20 (by decide) (by decide) (by decide)]
              exact w3.2 w hw
      · have cc := c6 σ1 r
        have hF1 := hF.fr (cc.sm (by decide))
        refine M σ1 _ (fun _ => ?_) (fun y => absurd (by rw [r.1 283 (by decide)]; exact s5) y) (fun y => absurd (by rw [r.1 283 (by decide)]; exact s5) y)
        refine M_text55 (cv := fun i : Nat => σ.1 285 (60 * k + (c.toInt + (i : Int)).toNat)) hk hF1 (by rw [r.1 284 (by decide)]; exact s6) s2 hn.2 (fun i _ _ => by rw [r.1 285 (by decide)]) (fun g' => absurd (g' i hi).1 bi) (fun i' hi' g' bi' => ⟨rfl, hR.q cc⟩) (fun i' hi' g' gi' bi' => ?_)
        exfalso
        rcases Nat.lt_trichotomy i i' with h | h | h
        · exact bi (g' i h).1
        · subst h; exact bi gi'
        · exact bi' (g i' h).2
      · have cc := c6 σ1 r
        have hF1 := hF.fr (cc.sm (by decide))
        refine M σ1 _ (fun _ => ?_) (fun y => absurd (by rw [r.1 283 (by decide)]; exact s5) y) (fun y => absurd (by rw [r.1 283 (by decide)]; exact s5) y)
        refine M_text55 (cv := fun i : Nat => σ.1 285 (60 * k + (c.toInt + (i : Int)).toNat)) hk hF1 (by rw [r.1 284 (by decide)]; exact s6) s2 hn.2 (fun i _ _ => by rw [r.1 285 (by decide)]) (fun g' => absurd (g' i hi).2 bi) (fun i' hi' g' bi' => ?_) (fun i' hi' g' gi' bi' => ?_)
        · exfalso
          rcases Nat.lt_trichotomy i i' with h | h | h
          · exact bi (g' i h).2
          · subst h; exact bi' gi
          · exact bi' (g i' h).1
        · rcases Nat.lt_trichotomy i i' with h | h | h
          · exact absurd (g' i h).2 bi
          · subst h; exact ⟨rfl, hR.q cc⟩
          · exact absurd (g i' h).2 bi'
  · rw [i_le, e24] at q2; omega
