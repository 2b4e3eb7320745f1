/-! ===== claims: the class ===== -/
theorem nI_lt0 (n : Nat) (h : n < 2147483648) : ¬ nI n < 0 := nI_nlt (a := n) (b := 0) (Nat.zero_le n) h
def FQ (σ σ' : Sg) : Prop := (∀ x, x ≠ 228 → (x < 230 ∨ 236 < x) → ∀ j, σ'.1 x j = σ.1 x j) ∧ (∀ j, (j < 1 ∨ 4 < j) → σ'.1 228 j = σ.1 228 j) ∧ (∀ j, (j < 7 ∨ 10 < j) → σ'.1 230 j = σ.1 230 j) ∧ σ'.2 = σ.2
section FCS
variable {σ σ' σ'' : Sg}
theorem FQ.rf : FQ σ σ := ⟨fun _ _ _ _ => rfl, fun _ _ => rfl, fun _ _ => rfl, rfl⟩
theorem FQ.arr {x j : Nat} {y : Int32} (h : FQ σ σ') (h1 : 231 ≤ x) (h2 : x ≤ 236) : FQ σ (u1 σ' x j y) := by
  obtain ⟨a1, a2, a3, a4⟩ := h
  refine ⟨fun z b1 b2 b => ?_, fun b hb => ?_, fun b hb => ?_, a4⟩
  · rw [u1_cell (by omega)]; exact a1 z b1 b2 b
  · rw [u1_cell (by omega)]; exact a2 b hb
  · rw [u1_cell (by omega)]; exact a3 b hb
theorem FQ.cla {j : Nat} {y : Int32} (h : FQ σ σ') (h1 : 7 ≤ j) (h2 : j ≤ 10) : FQ σ (u1 σ' 230 j y) := by
  obtain ⟨a1, a2, a3, a4⟩ := h
  refine ⟨fun z b1 b2 b => ?_, fun b hb => ?_, fun b hb => ?_, a4⟩
  · rw [u1_cell (by omega)]; exact a1 z b1 b2 b
  · rw [u1_cell (by decide)]; exact a2 b hb
  · rw [u1_slot (by omega)]; exact a3 b hb
theorem FQ.tap {j : Nat} {y : Int32} (h : FQ σ σ') (h1 : 1 ≤ j) (h2 : j ≤ 4) : FQ σ (u1 σ' 228 j y) := by
  obtain ⟨a1, a2, a3, a4⟩ := h
  refine ⟨fun z b1 b2 b => ?_, fun b hb => ?_, fun b hb => ?_, a4⟩
  · rw [u1_cell (by omega)]; exact a1 z b1 b2 b
  · rw [u1_slot (by omega)]; exact a2 b hb
  · rw [u1_cell (by decide)]; exact a3 b hb
theorem FQ.t3 (h : FQ σ σ') (g : T3 σ' σ'') : FQ σ σ'' := by
  obtain ⟨a1, a2, a3, a4⟩ := h
  refine ⟨fun z b1 b2 b => ?_, fun b hb => ?_, fun b hb => ?_, g.2.2.trans a4⟩
  · rw [g.1 z b1]; exact a1 z b1 b2 b
  · rw [g.2.1 b (by omega) (by omega) (by omega)]; exact a2 b hb
  · rw [g.1 230 (by decide)]; exact a3 b hb
end FCS
section CTK
variable {nC day len : Nat} {by' cm gn : Nat → Nat} {G : Nat → Bool} {σ : Sg}
def CA (cm gn : Nat → Nat) (G : Nat → Bool) (a t : Nat) (K N O D : Nat → Nat) (σ' : Sg) : Prop := (∀ k, k < t ∨ (k = t ∧ a ≠ 0) → σ'.1 231 k = nI (K k) ∧ σ'.1 233 k = nI (cm k) ∧ σ'.1 234 k = (if G k = true then nI (gn k) else -4) ∧ σ'.1 235 k = nI (O k) ∧ σ'.1 236 k = nI (D k)) ∧ ∀ k, k < t ∨ (k = t ∧ 2 ≤ a) → σ'.1 232 k = nI (N k)
theorem CA.cg {a t : Nat} {K N O D : Nat → Nat} {σ' σ'' : Sg} (h : CA cm gn G a t K N O D σ') (e : ∀ x, 231 ≤ x → x ≤ 236 → ∀ j, σ''.1 x j = σ'.1 x j) : CA cm gn G a t K N O D σ'' := by
  refine ⟨fun k hk => ?_, fun k hk => ?_⟩
  · rw [e 231 (by decide) (by decide), e 233 (by decide) (by decide), e 234 (by decide) (by decide), e 235 (by decide) (by decide), e 236 (by decide) (by decide)]; exact h.1 k hk
  · rw [e 232 (by decide) (by decide)]; exact h.2 k hk
def CI (nC day len : Nat) (by' cm gn : Nat → Nat) (G : Nat → Bool) (σ : Sg) (a p t : Nat) (K N O D : Nat → Nat) (σ' : Sg) : Prop := FQ σ σ' ∧ TP by' len σ' ∧ p ≤ len ∧ σ'.1 228 2 = nI p ∧ σ'.1 230 7 = nI nC ∧ σ'.1 230 8 = nI t ∧ σ'.1 230 9 = nI a ∧ σ'.1 230 10 = 0 ∧ σ'.1 230 11 = nI day ∧ CA cm gn G a t K N O D σ'
theorem CI.sta {a b p t u : Nat} {K N O D : Nat → Nat} {σ' : Sg} (h : CI nC day len by' cm gn G σ a p t K N O D σ') (hb : σ'.1 230 8 = nI t) (hu : CA cm gn G b t K N O D σ') : CI nC day len by' cm gn G σ b p t K N O D (u1 σ' 230 9 (nI b)) := by
  obtain ⟨c1, c2, c3, c4, c5, c6, c7, c8, c9, c10⟩ := h
  refine ⟨c1.cla (by omega) (by omega), ⟨c2.1, ?_, fun i hi => ?_⟩, c3, ?_, ?_, ?_, u1_same, ?_, ?_, hu.cg fun x h1 h2 j => u1_cell (by omega)⟩
  · rw [u1_cell (by decide)]; exact c2.2.1
  · rw [u1_cell (by decide)]; exact c2.2.2 i hi
  · rw [u1_cell (by decide)]; exact c4
  · rw [u1_slot (by decide)]; exact c5
  · rw [u1_slot (by decide)]; exact hb
  · rw [u1_slot (by decide)]; exact c8
  · rw [u1_slot (by decide)]; exact c9
theorem CI.arr {a p t x j : Nat} {y : Int32} {K N O D K' N' O' D' : Nat → Nat} {σ' : Sg} (h : CI nC day len by' cm gn G σ a p t K N O D σ') (h1 : 231 ≤ x) (h2 : x ≤ 236) (hu : CA cm gn G a t K' N' O' D' (u1 σ' x j y)) : CI nC day len by' cm gn G σ a p t K' N' O' D' (u1 σ' x j y) := by
  obtain ⟨c1, c2, c3, c4, c5, c6, c7, c8, c9, c10⟩ := h
  refine ⟨c1.arr h1 h2, ⟨c2.1, ?_, fun i hi => ?_⟩, c3, ?_, ?_, ?_, ?_, ?_, ?_, hu⟩
  · rw [u1_cell (by omega)]; exact c2.2.1
  · rw [u1_cell (by omega)]; exact c2.2.2 i hi
  · rw [u1_cell (by omega)]; exact c4
  · rw [u1_cell (by omega)]; exact c5
  · rw [u1_cell (by omega)]; exact c6
  · rw [u1_cell (by omega)]; exact c7
  · rw [u1_cell (by omega)]; exact c8
  · rw [u1_cell (by omega)]; exact c9
variable {M a p t : Nat} {K N O D : Nat → Nat} {σ' : Sg} {Q : Option Value → Sg → Prop}
theorem C_open {v : Nat} (hc : ∀ k, nC ≤ k → cm k = day ∧ G k = false) (hI : PI nC G 0 t K N O D) (hC : CI nC day len by' cm gn G σ 0 p t K N O D σ') (h5 : ¬ t < 20 → Q (some (.int 5)) σ') (h0 : t < 20 → ∀ σ'', CI nC day len by' cm gn G σ 1 p t (up K t v) N (up O t 0) (up D t 0) σ'' → Q (some (.int 0)) σ'') : EvM M mX1_open [.ref 230, .int (nI v)] σ' Q := by
  obtain ⟨c1, c2, c3, c4, c5, c6, c7, c8, c9, c10⟩ := id hC
  have t20 := hI.1
  refine EX1_open ?_
  simp only [u1_ne (show (230 : Nat) ≠ 231 by decide), u1_ne (show (230 : Nat) ≠ 233 by decide), u1_ne (show (230 : Nat) ≠ 234 by decide), u1_ne (show (230 : Nat) ≠ 235 by decide), c6, c9, cl (show t < 2147483648 by omega)]
  refine ⟨fun q => ?_, fun q => h5 (fun z => q (nI_lt (b := 20) z (by decide)))⟩
  have lt : t < 20 := (nI_ltI (b := 20) (by omega) (by decide)).mp q
  have vi : vp_in (nI t) 20 := nvin lt (by decide)
  refine ⟨vi, vi, vi, vi, vi, ?_⟩
  obtain ⟨hct, hgt⟩ := hc t hI.2.1
  refine h0 lt _ ?_
  refine ⟨(((((c1.arr (by omega) (by omega)).arr (by omega) (by omega)).arr (by omega) (by omega)).arr (by omega) (by omega)).arr (by omega) (by omega)).cla (by omega) (by omega), ⟨c2.1, ?_, fun i hi => ?_⟩, c3, ?_, ?_, ?_, u1_same, ?_, ?_, fun k hk => ?_, fun k hk => ?_⟩
  · (repeat rw [u1_cell (by decide)]); exact c2.2.1
  · (repeat rw [u1_cell (by decide)]); exact c2.2.2 i hi
  · (repeat rw [u1_cell (by decide)]); exact c4
  · rw [u1_slot (by decide)]; (repeat rw [u1_cell (by decide)]); exact c5
  · rw [u1_slot (by decide)]; (repeat rw [u1_cell (by decide)]); exact c6
  · rw [u1_slot (by decide)]; (repeat rw [u1_cell (by decide)]); exact c8
  · rw [u1_slot (by decide)]; (repeat rw [u1_cell (by decide)]); exact c9
  · by_cases e : k = t
    · subst e
      (repeat rw [u1_cell (by decide)])
      rw [u1_same, up_s, up_s, up_s, hct, hgt]
      refine ⟨rfl, ?_, ?_, ?_, ?_⟩
      · (repeat rw [u1_cell (by decide)]); exact u1_same
      · (repeat rw [u1_cell (by decide)]); exact u1_same
      · (repeat rw [u1_cell (by decide)]); exact u1_same
      · (repeat rw [u1_cell (by decide)]); exact u1_same
    · obtain ⟨d1, d2, d3, d4, d5⟩ := c10.1 k (by omega)
      rw [up_o e, up_o e, up_o e, ← d1, ← d2, ← d3, ← d4, ← d5]
      refine ⟨?_, ?_, ?_, ?_, ?_⟩
      · (repeat rw [u1_cell (by decide)]); exact u1_slot e
      · (repeat rw [u1_cell (by decide)]); rw [u1_slot e]; (repeat rw [u1_cell (by decide)])
      · (repeat rw [u1_cell (by decide)]); rw [u1_slot e]; (repeat rw [u1_cell (by decide)])
      · (repeat rw [u1_cell (by decide)]); rw [u1_slot e]; (repeat rw [u1_cell (by decide)])
      · (repeat rw [u1_cell (by decide)]); rw [u1_slot e]; (repeat rw [u1_cell (by decide)])
  · (repeat rw [u1_cell (by decide)]); exact c10.2 k (by omega)
theorem C_tell {v : Nat} (hv : v < 100) (hI : PI nC G 1 t K N O D) (gl : ∀ k, gn k ≤ day) (dl : day ≤ 99) (hC : CI nC day len by' cm gn G σ 1 p t K N O D σ') (h4 : lst (twP G K N t v) t < t → Q (some (.int 4)) σ') (h0 : ¬ lst (twP G K N t v) t < t → ∀ σ'', CI nC day len by' cm gn G σ 2 p t K (up N t v) O D σ'' → Q (some (.int 0)) σ'') : EvM M mX1_tellAbout [.ref 230, .int (nI v)] σ' Q := by
  obtain ⟨c1, c2, c3, c4, c5, c6, c7, c8, c9, c10⟩ := id hC
  have t20 := hI.2.2.1 (by decide)
  obtain ⟨l1, l2, l3⟩ := lst_ok (twP G K N t v) t
  have L : ∀ k, k ≤ t → (∀ i, i < k → ¬ twP G K N t v i = true) → KX1_tellAbout_2 M σ' Q (nI v) (nI k) := by
    refine for_up ?_ ?_
    · intro b
      refine BX1_tellAbout_2 ⟨fun _ => ?_, fun q => absurd (by rw [c6]; exact nI_le (Nat.le_refl _) (by omega)) q⟩
      rw [c6, cl (by omega)]
      refine ⟨nvin t20 (by decide), h0 (fun q => b _ q (l3 q)) _ ?_⟩
      have s1 : CI nC day len by' cm gn G σ 1 p t K (up N t v) O D (u1 σ' 232 t (nI v)) := hC.arr (by omega) (by omega) ⟨fun k hk => by (repeat rw [u1_cell (by decide)]); exact c10.1 k hk, fun k hk => by rw [u1_slot (by omega), up_o (by omega)]; exact c10.2 k hk⟩
      refine s1.sta (u := 0) (by rw [u1_cell (by decide)]; exact c6) ⟨fun k hk => s1.2.2.2.2.2.2.2.2.2.1 k (by omega), fun k hk => ?_⟩
      by_cases e : k = t
      · subst e; rw [u1_same, up_s]
      · rw [u1_slot e, up_o e]; exact c10.2 k (by omega)
    · intro k hk ih b
      have nx : ¬ twP G K N t v k = true → KX1_tellAbout_2 M σ' Q (nI v) (nI k + 1) := fun w => by
        rw [nI_1]
        refine ih fun i hi => ?_
        by_cases z : i = k
        · rw [z]; exact w
        · exact b i (by omega)
      have vi : vp_in (nI k) 20 := nvin (by omega) (by decide)
      refine BX1_tellAbout_2 ⟨fun q => absurd q (by rw [c6]; exact nI_ge hk (by omega)), fun _ => ⟨vi, ?_⟩⟩
      obtain ⟨d1, d2, d3, d4, d5⟩ := c10.1 k (by omega)
      obtain ⟨b1, b2, b3, b4, b5⟩ := c10.1 t (by omega)
      have p1 := (hI.2.2.2.1 k (by omega)).1
      have p2 := (hI.2.2.2.1 t (by omega)).1
      have p3 := hI.2.2.2.2 k (by omega)
      have gk := gl k
      rw [c6, cl (by omega), cl (by omega), d3, d1, b1, c10.2 k (by omega)]
      refine ⟨fun q => ⟨vi, nvin t20 (by decide), fun y => ⟨vi, fun x => h4 ?_, fun x => nx fun w => x ?_⟩, fun y => nx fun w => y ?_⟩, fun q => nx fun w => q ?_⟩
      · have g0 : G k = false := by
          by_cases z : G k = true
          · rw [if_pos z] at q; exact absurd q (n4 (by omega))
          · simpa using z
        have w := twP_iff.mpr ⟨g0, (nI_eq (by omega) (by omega)).mp y, (nI_eq (by omega) (by omega)).mp x⟩
        by_cases z : lst (twP G K N t v) t ≤ k
        · omega
        · rw [l2 k (by omega)] at w; exact absurd w (by decide)
      · rw [(twP_iff.mp w).2.2]
      · rw [(twP_iff.mp w).2.1]
      · rw [(twP_iff.mp w).1]; rfl
  exact EX1_tellAbout (L 0 (by omega) (fun i hi => absurd hi (by omega)))
theorem C_hang {v : Nat} (hv : v < 100) (hI : PI nC G 3 t K N O D) (gl : ∀ k, gn k ≤ day) (dl : day ≤ 99) (hC : CI nC day len by' cm gn G σ 3 p t K N O D σ') (h3 : ¬ (v < t ∧ G v = false ∧ (O t).testBit v = false) → Q (some (.int 3)) σ') (h0 : v < t ∧ G v = false ∧ (O t).testBit v = false → ∀ σ'', CI nC day len by' cm gn G σ 4 p t K N (up O t (O t ||| 2 ^ v)) (up D t (if D t < D v + 1 then D v + 1 else D t)) σ'' → Q (some (.int 0)) σ'') : EvM (M + 1) mX1_hang [.ref 230, .int (nI v)] σ' Q := by
  obtain ⟨c1, c2, c3, c4, c5, c6, c7, c8, c9, c10⟩ := id hC
  have t20 := hI.2.2.1 (by decide)
  refine EX1_hang ⟨fun q => absurd q (nI_lt0 v (by omega)), fun _ => ⟨fun q => h3 fun z => ?_, fun q => ?_⟩⟩
  · rw [c6] at q
    have := (nI_leI (by omega) (by omega)).mp q
    omega
  have lt : v < t := by
    by_cases z : v < t
    · exact z
    · exact absurd (by rw [c6]; exact nI_le (by omega) (by omega)) q
  obtain ⟨d1, d2, d3, d4, d5⟩ := c10.1 v (by omega)
  obtain ⟨b1, b2, b3, b4, b5⟩ := c10.1 t (by omega)
  obtain ⟨p1, p2, p3, p4, p5⟩ := hI.2.2.2.1 t (by omega)
  have q4 := (hI.2.2.2.1 v (by omega)).2.2.2.1
  have pw := p20 (show t ≤ 20 by omega)
  have vi : vp_in (nI v) 20 := nvin (by omega) (by decide)
  have ti : vp_in (nI t) 20 := nvin t20 (by decide)
  refine ⟨vi, ?_⟩
  rw [cl (by omega), d3]
  have gv := gl v
  refine ⟨fun g => ?_, fun g => h3 fun z => g (by rw [z.2.1]; rfl)⟩
  have g0 : G v = false := by
    by_cases z : G v = true
    · rw [if_pos z] at g; exact absurd g (n4 (by omega))
    · simpa using z
  rw [c6]
  refine EX1_hangs ⟨ti, ?_⟩
  rw [cl (by omega), b4]
  refine ⟨fun z => ⟨1, rfl, fun y => absurd y (by decide), fun _ => h3 fun w => ?_⟩, fun z => ⟨0, rfl, fun _ => ?_, fun y => absurd rfl y⟩⟩
  · have := (bit_y (by omega) (by omega)).mp z
    rw [w.2.2] at this; exact absurd this (by decide)
  have o0 : (O t).testBit v = false := by
    by_cases y : (O t).testBit v = true
    · exact absurd ((bit_y (by omega) (by omega)).mpr y) z
    · simpa using y
  simp only [u1_ne (show (230 : Nat) ≠ 235 by decide), u1_ne (show (236 : Nat) ≠ 235 by decide), c6, cl (show t < 2147483648 by omega), b4, b5, d5, one_shl (show v < 31 by omega), nx_or, nI_1]
  refine ⟨ti, ti, ti, vi, ti, h0 ⟨lt, g0, o0⟩ _ ?_⟩
  have ed : (if nI (D t) < nI (D v + 1) then nI (D v + 1) else nI (D t)) = nI (if D t < D v + 1 then D v + 1 else D t) := by
    by_cases z : D t < D v + 1
    · rw [if_pos z, if_pos (nI_lt z (by omega))]
    · rw [if_neg z, if_neg (nI_nlt (by omega) (by omega))]
  rw [ed]
  have s1 : CI nC day len by' cm gn G σ 3 p t K N (up O t (O t ||| 2 ^ v)) D (u1 σ' 235 t (nI (O t ||| 2 ^ v))) := by
    refine hC.arr (by omega) (by omega) ⟨fun k hk => ?_, fun k hk => by rw [u1_cell (by decide)]; exact c10.2 k hk⟩
    (repeat rw [u1_cell (by decide)])
    obtain ⟨e1, e2, e3, e4, e5⟩ := c10.1 k hk
    refine ⟨e1, e2, e3, ?_, by rw [u1_cell (by decide)]; exact e5⟩
    by_cases e : k = t
    · subst e; rw [u1_same, up_s]
    · rw [u1_slot e, up_o e]; exact e4
  have s2 : CI nC day len by' cm gn G σ 3 p t K N (up O t (O t ||| 2 ^ v)) (up D t (if D t < D v + 1 then D v + 1 else D t)) (u1 (u1 σ' 235 t (nI (O t ||| 2 ^ v))) 236 t (nI (if D t < D v + 1 then D v + 1 else D t))) := by
    refine s1.arr (by omega) (by omega) ⟨fun k hk => ?_, fun k hk => by rw [u1_cell (by decide)]; exact s1.2.2.2.2.2.2.2.2.2.2 k hk⟩
    obtain ⟨e1, e2, e3, e4, e5⟩ := s1.2.2.2.2.2.2.2.2.2.1 k hk
    rw [u1_cell (show (231 : Nat) ≠ 236 by decide), u1_cell (show (233 : Nat) ≠ 236 by decide), u1_cell (show (234 : Nat) ≠ 236 by decide), u1_cell (show (235 : Nat) ≠ 236 by decide)]
    refine ⟨e1, e2, e3, e4, ?_⟩
    by_cases e : k = t
    · subst e; rw [u1_same, up_s]
    · rw [u1_slot e, up_o e]; exact e5
  exact s2.sta (u := 0) s2.2.2.2.2.2.1 ⟨fun k hk => s2.2.2.2.2.2.2.2.2.2.1 k (by omega), fun k hk => s2.2.2.2.2.2.2.2.2.2.2 k (by omega)⟩
end CTK
