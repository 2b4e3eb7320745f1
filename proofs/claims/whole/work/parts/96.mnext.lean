/-! ===== claims: next of the reference ===== -/
section MNX
variable {N len p : Nat} {by' : Nat → Nat} {σ : Sg} {Q : Option Value → Sg → Prop}
def soR (c : Nat) : Nat := [0, 0, 1, 1, 2, 4, 3].getD c 0
/-- next has read the token at p -/
def NX (by' : Nat → Nat) (len p : Nat) (σ' : Sg) : Prop := σ'.1 245 46 = nI (tok by' len p).2.2.2 ∧ σ'.1 245 47 = nI (tok by' len p).2.2.1 ∧ ((tok by' len p).1 = 0 → σ'.1 245 50 = 1 ∧ σ'.1 245 51 = nI (tok by' len p).2.2.1) ∧ ((tok by' len p).1 ≠ 0 → σ'.1 245 50 = 0 ∧ σ'.1 245 48 = nI (soR (tok by' len p).1)) ∧ ((tok by' len p).1 = 2 ∨ (tok by' len p).1 = 4 → σ'.1 245 49 = nI (tok by' len p).2.1) ∧ ((tok by' len p).1 = 3 → σ'.1 245 49 = 5)
theorem M_nextF (h5 : ¬ σ.1 245 50 ≤ 0) (h : Q none σ) : EvM (N + 3) mX10_next [.ref 245] σ Q := EX10_next ⟨fun q => absurd q h5, fun _ => h⟩
theorem M_next (hP : TQ by' len σ) (h5 : σ.1 245 50 = 0) (h6 : σ.1 245 46 = nI p) (hp : p ≤ len) (h : ∀ σ', JQ σ σ' → NX by' len p σ' → Q none σ') : EvM (N + 3) mX10_next [.ref 245] σ Q := by
  have l160 := hP.1
  obtain ⟨a1, a2, a3, a4⟩ := runT_ok (P := isB) (by' := by') (len := len) (p := p) hp
  unfold NX tok at h
  generalize hst : runT isB by' len p = st at *
  -- names
  have A : isL (by' st) = true → st < len → ∀ i, i ≤ runT isL by' len st → st ≤ i → ∀ σ', JQ σ σ' → σ'.1 245 46 = nI i → σ'.1 245 47 = nI st → σ'.1 245 48 = 1 → σ'.1 245 50 = 0 → KX10_next_82 N σ' Q := by
    intro l lt
    obtain ⟨r1, r2, r3, r4⟩ := runT_ok (P := isL) (by' := by') (len := len) (p := st) a2
    refine for_up ?_ ?_
    · intro _ σ' c e6 e7 e8 e5
      have hP' := hP.j c
      refine BX10_next_82 ?_
      rw [e6]
      refine M_look hP' (by omega) ⟨_, rfl, fun z => ?_, fun _ => ?_⟩
      · by_cases y : runT isL by' len st < len
        · rw [lk_y y, (nI_tok _ (hP'.2.2 _ y).1).2.1] at z
          exact absurd z (r4 y)
        · rw [lk_n y] at z
          exact absurd z (by decide)
      · refine M_nameNow hP' e6 e7 r1 r2 ⟨_, rfl, ?_⟩
        rw [u1_same]
        unfold tokA at h
        rw [if_neg (show ¬ len ≤ st by omega), if_pos l] at h
        generalize nameK by' st (runT isL by' len st) = nk at *
        have c2 := c.u (j := 49) (y := nmV nk) (by omega) (by omega)
        have f6 : (u1 σ' 245 49 (nmV nk)).1 245 46 = nI (runT isL by' len st) := by rw [u1_slot (by decide)]; exact e6
        have f7 : (u1 σ' 245 49 (nmV nk)).1 245 47 = nI st := by rw [u1_slot (by decide)]; exact e7
        have f8 : (u1 σ' 245 49 (nmV nk)).1 245 48 = 1 := by rw [u1_slot (by decide)]; exact e8
        have f5 : (u1 σ' 245 49 (nmV nk)).1 245 50 = 0 := by rw [u1_slot (by decide)]; exact e5
        have f9 : (u1 σ' 245 49 (nmV nk)).1 245 49 = nmV nk := u1_same
        generalize u1 σ' 245 49 (nmV nk) = τ at *
        by_cases k1 : nk < 5
        · rw [if_pos k1] at h
          have e : nmV nk = nI nk := if_pos k1
          rw [e] at f9 ⊢
          refine ⟨fun q => absurd q (n4 (by omega)), fun _ => M_w1 ⟨rfl, h τ c2 ⟨f6, f7, fun q => absurd (show (2 : Nat) = 0 from q) (by decide), fun _ => ⟨f5, f8⟩, fun _ => f9, fun q => absurd (show (2 : Nat) = 3 from q) (by decide)⟩⟩⟩
        · rw [if_neg k1] at h
          by_cases k2 : nk = 5
          · rw [if_pos k2] at h
            have e : nmV nk = 5 := by unfold nmV; rw [if_neg k1, if_pos k2]
            rw [e] at f9 ⊢
            refine ⟨fun q => absurd q (by decide), fun _ => M_w1 ⟨rfl, h τ c2 ⟨f6, f7, fun q => absurd (show (3 : Nat) = 0 from q) (by decide), fun _ => ⟨f5, f8⟩, fun q => ?_, fun _ => f9⟩⟩⟩
            rcases q with q | q
            · exact absurd (show (3 : Nat) = 2 from q) (by decide)
            · exact absurd (show (3 : Nat) = 4 from q) (by decide)
          · rw [if_neg k2] at h
            have e : nmV nk = -4 := by unfold nmV; rw [if_neg k1, if_neg k2]
            rw [e] at f9 ⊢
            refine ⟨fun _ => M_w0 f5 ⟨rfl, h _ ((c2.u (by omega) (by omega)).u (by omega) (by omega)) ⟨?_, ?_, fun _ => ⟨?_, ?_⟩, fun q => absurd (show (0 : Nat) = 0 from rfl) q, fun q => ?_, fun q => absurd (show (0 : Nat) = 3 from q) (by decide)⟩⟩, fun q => absurd rfl q⟩
            · rw [u1_slot (by decide), u1_slot (by decide)]; exact f6
            · rw [u1_slot (by decide), u1_slot (by decide)]; exact f7
            · rw [u1_slot (by decide)]; exact u1_same
            · rw [u1_same]; exact f7
            · rcases q with q | q
              · exact absurd (show (0 : Nat) = 2 from q) (by decide)
              · exact absurd (show (0 : Nat) = 4 from q) (by decide)
    · intro i hi ih hs σ' c e6 e7 e8 e5
      have hP' := hP.j c
      refine BX10_next_82 ?_
      rw [e6]
      have y : i < len := by omega
      refine M_look hP' (by omega) ⟨_, rfl, fun _ => ?_, fun z => ?_⟩
      · rw [e6, nI_1]
        refine ih (by omega) _ (c.u (by omega) (by omega)) u1_same ?_ ?_ ?_
        · rw [u1_slot (by decide)]; exact e7
        · rw [u1_slot (by decide)]; exact e8
        · rw [u1_slot (by decide)]; exact e5
      · rw [lk_y y, (nI_tok _ (hP'.2.2 _ y).1).2.1] at z
        exact absurd (r3 i hs hi) z
  -- numbers
  have B : isL (by' st) ≠ true → isD (by' st) = true → st < len → ∀ i, i ≤ runT isD by' len st → st ≤ i → ∀ σ', JQ σ σ' → σ'.1 245 46 = nI i → σ'.1 245 47 = nI st → σ'.1 245 48 = 2 → σ'.1 245 50 = 0 → σ'.1 245 49 = nI (numP by' st (min (i - st) 2)) → KX10_next_170 N σ' Q := by
    intro nl l lt
    obtain ⟨r1, r2, r3, r4⟩ := runT_ok (P := isD) (by' := by') (len := len) (p := st) a2
    refine for_up ?_ ?_
    · intro _ σ' c e6 e7 e8 e5 e9
      have hP' := hP.j c
      refine BX10_next_170 ?_
      rw [e6]
      refine M_look hP' (by omega) ⟨_, rfl, fun z => ?_, fun _ => ?_⟩
      · by_cases y : runT isD by' len st < len
        · rw [lk_y y, (nI_tok _ (hP'.2.2 _ y).1).2.2.1] at z
          exact absurd z (r4 y)
        · rw [lk_n y] at z
          exact absurd z (by decide)
      · rw [e6, e7, pk_sub r1]
        unfold tokA at h
        rw [if_neg (show ¬ len ≤ st by omega), if_neg nl, if_pos l] at h
        generalize runT isD by' len st = en at *
        refine ⟨fun q => ?_, fun q => ?_⟩
        · have k := (nI_ltI (a := 2) (by decide) (by omega)).mp q
          rw [if_neg (show ¬ en - st ≤ 2 by omega)] at h
          refine M_w0 e5 ⟨rfl, h _ ((c.u (by omega) (by omega)).u (by omega) (by omega)) ⟨?_, ?_, fun _ => ⟨?_, ?_⟩, fun q => absurd (show (0 : Nat) = 0 from rfl) q, fun q => ?_, fun q => absurd (show (0 : Nat) = 3 from q) (by decide)⟩⟩
          · rw [u1_slot (by decide), u1_slot (by decide)]; exact e6
          · rw [u1_slot (by decide), u1_slot (by decide)]; exact e7
          · rw [u1_slot (by decide)]; exact u1_same
          · rw [u1_same]; exact e7
          · rcases q with q | q
            · exact absurd (show (0 : Nat) = 2 from q) (by decide)
            · exact absurd (show (0 : Nat) = 4 from q) (by decide)
        · have k : en - st ≤ 2 := by
            by_cases y : en - st ≤ 2
            · exact y
            · exact absurd (nI_lt (a := 2) (by omega) (by omega)) q
          rw [if_pos k] at h
          rw [show min (en - st) 2 = en - st by omega] at e9
          exact M_w1 ⟨rfl, h σ' c ⟨e6, e7, fun q => absurd (show (4 : Nat) = 0 from q) (by decide), fun _ => ⟨e5, e8⟩, fun _ => e9, fun q => absurd (show (4 : Nat) = 3 from q) (by decide)⟩⟩
    · intro i hi ih hs σ' c e6 e7 e8 e5 e9
      have hP' := hP.j c
      refine BX10_next_170 ?_
      rw [e6]
      have y : i < len := by omega
      have dg : ∀ x, st ≤ x → x < runT isD by' len st → 48 ≤ by' x ∧ by' x ≤ 57 := fun x h1 h2 => by
        have := r3 x h1 h2
        unfold isD at this
        exact of_decide_eq_true this
      refine M_look hP' (by omega) ⟨_, rfl, fun _ => ?_, fun z => ?_⟩
      · rw [e6, e7, pk_sub hs]
        refine ⟨fun q => ?_, fun q => ?_⟩
        · have k := (nI_leI (a := 2) (by decide) (by omega)).mp q
          rw [u1_slot (show (46 : Nat) ≠ 49 by decide), e6, nI_1]
          refine ih (by omega) _ ((c.u (by omega) (by omega)).u (by omega) (by omega)) u1_same ?_ ?_ ?_ ?_
          · rw [u1_slot (by decide), u1_slot (by decide)]; exact e7
          · rw [u1_slot (by decide), u1_slot (by decide)]; exact e8
          · rw [u1_slot (by decide), u1_slot (by decide)]; exact e5
          · rw [u1_slot (by decide), u1_same, e9, show min (i + 1 - st) 2 = min (i - st) 2 by omega]
        · have k : i - st < 2 := by
            by_cases y : i - st < 2
            · exact y
            · exact absurd (nI_le (a := 2) (by omega) (by omega)) q
          refine M_look hP' (by omega) ⟨_, rfl, ?_⟩
          have d := dg i hs hi
          have ev : ((10 : Int32) * (σ'.1 245 49) + lk by' len i) - 48 = nI (numP by' st (min (i + 1 - st) 2)) := by
            rw [e9, lk_y y, show (10 : Int32) = nI 10 from rfl, pk_mul, nI_add, show (48 : Int32) = nI 48 from rfl, pk_sub (by omega), show min (i + 1 - st) 2 = i - st + 1 by omega, show min (i - st) 2 = i - st by omega]
            congr 1
            show _ = 10 * numP by' st (i - st) + (by' (st + (i - st)) - 48)
            rw [show st + (i - st) = i by omega]
            omega
          rw [ev, u1_slot (show (46 : Nat) ≠ 49 by decide), e6, nI_1]
          refine ih (by omega) _ ((c.u (by omega) (by omega)).u (by omega) (by omega)) u1_same ?_ ?_ ?_ ?_
          · rw [u1_slot (by decide), u1_slot (by decide)]; exact e7
          · rw [u1_slot (by decide), u1_slot (by decide)]; exact e8
          · rw [u1_slot (by decide), u1_slot (by decide)]; exact e5
          · rw [u1_slot (by decide), u1_same]
      · rw [lk_y y, (nI_tok _ (hP'.2.2 _ y).1).2.2.1] at z
        exact absurd (r3 i hs hi) z
  -- blanks
  have L : ∀ i, i ≤ st → p ≤ i → ∀ σ', JQ σ σ' → σ'.1 245 46 = nI i → σ'.1 245 50 = 0 → KX10_next_8 N σ' Q := by
    refine for_up ?_ ?_
    · intro _ σ' c e6 e5
      have hP' := hP.j c
      refine BX10_next_8 ?_
      rw [e6]
      refine M_look hP' (by omega) ⟨_, rfl, fun z => ?_, fun _ => ?_⟩
      · by_cases y : st < len
        · rw [lk_y y, (nI_tok _ (hP'.2.2 _ y).1).1] at z
          exact absurd z (a4 y)
        · rw [lk_n y] at z
          exact absurd z (by decide)
      rw [e6]
      have c' := c.u (j := 47) (y := nI st) (by omega) (by omega)
      have hP2 := hP.j c'
      have f6 : (u1 σ' 245 47 (nI st)).1 245 46 = nI st := by rw [u1_slot (by decide)]; exact e6
      have f7 : (u1 σ' 245 47 (nI st)).1 245 47 = nI st := u1_same
      have f5 : (u1 σ' 245 47 (nI st)).1 245 50 = 0 := by rw [u1_slot (by decide)]; exact e5
      rw [f6]
      generalize u1 σ' 245 47 (nI st) = τ at *
      refine M_look hP2 (by omega) ⟨_, rfl, fun z => ?_, fun z => ?_⟩
      · have y : st < len := by
          by_cases y : st < len
          · exact y
          · rw [lk_n y] at z; exact absurd z (by decide)
        obtain ⟨k1, k2, k3, k4, k5, k6⟩ := nI_tok _ (hP2.2.2 _ y).1
        rw [lk_y y, k2, k3, k5, k6]
        have G : ∀ (x : Int32) (j : Nat) (s : Nat), JQ σ (u1 (u1 τ 245 48 x) 245 46 (nI (st + 1))) := fun x j s => (c'.u (by omega) (by omega)).u (by omega) (by omega)
        refine ⟨fun l => A l y st (runT_ok (P := isL) a2).1 (Nat.le_refl _) _ (c'.u (by omega) (by omega)) (by rw [u1_slot (by decide)]; exact f6) (by rw [u1_slot (by decide)]; exact f7) u1_same (by rw [u1_slot (by decide)]; exact f5), fun nl => ⟨fun d => B nl d y st (runT_ok (P := isD) a2).1 (Nat.le_refl _) _ ((c'.u (by omega) (by omega)).u (by omega) (by omega)) (by rw [u1_slot (by decide), u1_slot (by decide)]; exact f6) (by rw [u1_slot (by decide), u1_slot (by decide)]; exact f7) (by rw [u1_slot (by decide)]; exact u1_same) (by rw [u1_slot (by decide), u1_slot (by decide)]; exact f5) (by rw [u1_same, Nat.sub_self]; rfl), fun nd => ?_⟩⟩
        unfold tokA at h
        rw [if_neg (show ¬ len ≤ st by omega), if_neg nl, if_neg nd] at h
        have W : ∀ x : Int32, (u1 τ 245 48 x).1 245 46 + 1 = nI (st + 1) := fun x => by rw [u1_slot (by decide), f6, nI_1]
        refine ⟨fun q => ⟨fun _ => M_w1 ⟨rfl, ?_⟩, fun q2 => absurd q q2⟩, fun q => ⟨fun q2 => absurd q2 q, fun _ => ⟨fun q3 => M_w1 ⟨rfl, ?_⟩, fun q3 => M_w0 (by rw [u1_slot (by decide)]; exact f5) ⟨rfl, ?_⟩⟩⟩⟩
        · rw [if_neg (show ¬ by' st = 44 by omega), if_pos q] at h
          rw [W]
          refine h _ (G 3 0 0) ⟨u1_same, ?_, fun q => absurd (show (6 : Nat) = 0 from q) (by decide), fun _ => ⟨?_, ?_⟩, fun q => ?_, fun q => absurd (show (6 : Nat) = 3 from q) (by decide)⟩
          · rw [u1_slot (by decide), u1_slot (by decide)]; exact f7
          · rw [u1_slot (by decide), u1_slot (by decide)]; exact f5
          · rw [u1_slot (by decide)]; exact u1_same
          · rcases q with q | q
            · exact absurd (show (6 : Nat) = 2 from q) (by decide)
            · exact absurd (show (6 : Nat) = 4 from q) (by decide)
        · rw [if_pos q3] at h
          rw [W]
          refine h _ (G 4 0 0) ⟨u1_same, ?_, fun q => absurd (show (5 : Nat) = 0 from q) (by decide), fun _ => ⟨?_, ?_⟩, fun q => ?_, fun q => absurd (show (5 : Nat) = 3 from q) (by decide)⟩
          · rw [u1_slot (by decide), u1_slot (by decide)]; exact f7
          · rw [u1_slot (by decide), u1_slot (by decide)]; exact f5
          · rw [u1_slot (by decide)]; exact u1_same
          · rcases q with q | q
            · exact absurd (show (5 : Nat) = 2 from q) (by decide)
            · exact absurd (show (5 : Nat) = 4 from q) (by decide)
        · rw [if_neg q3, if_neg q] at h
          rw [show (u1 (u1 (u1 τ 245 48 4) 245 50 1) 245 51 ((u1 τ 245 48 4).1 245 47)).1 245 46 + 1 = nI (st + 1) from by rw [u1_slot (by decide), u1_slot (by decide)]; exact W 4]
          refine h _ ((((c'.u (by omega) (by omega)).u (by omega) (by omega)).u (by omega) (by omega)).u (by omega) (by omega)) ⟨u1_same, ?_, fun _ => ⟨?_, ?_⟩, fun q => absurd (show (0 : Nat) = 0 from rfl) q, fun q => ?_, fun q => absurd (show (0 : Nat) = 3 from q) (by decide)⟩
          · rw [u1_slot (by decide), u1_slot (by decide), u1_slot (by decide), u1_slot (by decide)]; exact f7
          · rw [u1_slot (by decide), u1_slot (by decide)]; exact u1_same
          · rw [u1_slot (by decide), u1_same, u1_slot (by decide)]; exact f7
          · rcases q with q | q
            · exact absurd (show (0 : Nat) = 2 from q) (by decide)
            · exact absurd (show (0 : Nat) = 4 from q) (by decide)
      · have y : len ≤ st := by
          by_cases y : st < len
          · rw [lk_y y] at z
            exact absurd (nI_tok _ (hP2.2.2 _ y).1).2.2.2.1 z
          · omega
        unfold tokA at h
        rw [if_pos y] at h
        refine h _ (c'.u (by omega) (by omega)) ⟨?_, ?_, fun q => absurd (show (1 : Nat) = 0 from q) (by decide), fun _ => ⟨?_, u1_same⟩, fun q => ?_, fun q => absurd (show (1 : Nat) = 3 from q) (by decide)⟩
        · rw [u1_slot (by decide)]; exact f6
        · rw [u1_slot (by decide)]; exact f7
        · rw [u1_slot (by decide)]; exact f5
        · rcases q with q | q
          · exact absurd (show (1 : Nat) = 2 from q) (by decide)
          · exact absurd (show (1 : Nat) = 4 from q) (by decide)
    · intro i hi ih hs σ' c e6 e5
      have hP' := hP.j c
      have y : i < len := by omega
      refine BX10_next_8 ?_
      rw [e6]
      refine M_look hP' (by omega) ⟨_, rfl, fun _ => ?_, fun z => ?_⟩
      · rw [e6, nI_1]
        exact ih (by omega) _ (c.u (by omega) (by omega)) u1_same (by rw [u1_slot (by decide)]; exact e5)
      · rw [lk_y y, (nI_tok _ (hP'.2.2 _ y).1).1] at z
        exact absurd (a3 i hs hi) z
  exact EX10_next ⟨fun _ => L p a1 (Nat.le_refl _) σ JQ.rf h6 h5, fun q => absurd (by rw [h5]; decide) q⟩
end MNX
