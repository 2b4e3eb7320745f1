/-! ===== claims: the reference, from token to token ===== -/
theorem so_1 : ∀ c, c < 7 → c ≠ 0 → (nI (soR c) = 1 ↔ c = 2 ∨ c = 3) := by decide +kernel
theorem so_2 : ∀ c, c < 7 → c ≠ 0 → (nI (soR c) = 2 ↔ c = 4) := by decide +kernel
theorem so_3 : ∀ c, c < 7 → c ≠ 0 → (nI (soR c) = 3 ↔ c = 6) := by decide +kernel
theorem so_4 : ∀ c, c < 7 → c ≠ 0 → (nI (soR c) = 4 ↔ c = 5) := by decide +kernel
theorem so_0 : ∀ c, c < 7 → c ≠ 0 → (nI (soR c) = 0 ↔ c = 1) := by decide +kernel
def KQ (σ σ' : Sg) : Prop := (∀ x, x ≠ 245 → (x < 277 ∨ 281 < x) → ∀ j, σ'.1 x j = σ.1 x j) ∧ (∀ j, (j < 45 ∨ 52 < j) → σ'.1 245 j = σ.1 245 j) ∧ σ'.2 = σ.2
theorem KQ.j {σ σ' σ'' : Sg} (h : KQ σ σ') (g : JQ σ' σ'') : KQ σ σ'' := ⟨fun x h1 h2 j => (g.1 x h1 j).trans (h.1 x h1 h2 j), fun j hj => (g.2.1 j (by omega)).trans (h.2.1 j hj), g.2.2.trans h.2.2⟩
theorem KQ.a {σ σ' : Sg} {x j : Nat} {y : Int32} (h : KQ σ σ') (h1 : 277 ≤ x) (h2 : x ≤ 281) : KQ σ (u1 σ' x j y) := by
  refine ⟨fun z b1 b2 b => ?_, fun b hb => ?_, h.2.2⟩
  · rw [u1_cell (by omega)]; exact h.1 z b1 b2 b
  · rw [u1_cell (by omega)]; exact h.2.1 b hb
theorem KQ.s {σ σ' : Sg} {j : Nat} {y : Int32} (h : KQ σ σ') (h1 : 45 ≤ j) (h2 : j ≤ 52) : KQ σ (u1 σ' 245 j y) := by
  refine ⟨fun z b1 b2 b => ?_, fun b hb => ?_, h.2.2⟩
  · rw [u1_cell b1]; exact h.1 z b1 b2 b
  · rw [u1_slot (by omega)]; exact h.2.1 b hb
def MAc (cm gn : Nat → Nat) (G : Nat → Bool) (m : Nat) (K N O : Nat → Nat) (σ' : Sg) : Prop := ∀ k, k < m → σ'.1 277 k = nI (K k) ∧ σ'.1 278 k = nI (N k) ∧ σ'.1 279 k = nI (cm k) ∧ σ'.1 280 k = (if G k = true then nI (gn k) else -4) ∧ σ'.1 281 k = nI (O k)
def MBc (nC len : Nat) (by' cm gn : Nat → Nat) (G : Nat → Bool) (σ : Sg) (m : Nat) (K N O : Nat → Nat) (σ' : Sg) : Prop := KQ σ σ' ∧ TQ by' len σ' ∧ σ'.1 245 52 = nI nC ∧ MAc cm gn G m K N O σ'
theorem NX.cg {by' : Nat → Nat} {len p : Nat} {σ' σ'' : Sg} (h : NX by' len p σ') (e : ∀ j, σ''.1 245 j = σ'.1 245 j) : NX by' len p σ'' := by
  unfold NX at h ⊢
  rw [e 46, e 47, e 48, e 49, e 50, e 51]; exact h
section MRD
variable {nC day len n0 t0 : Nat} {by' cm gn : Nat → Nat} {G : Nat → Bool} {σ : Sg} {r : PRt} {M t : Nat} {K N O D : Nat → Nat} {τ : Sg} {Q : Option Value → Sg → Prop}
theorem MBc.j {m : Nat} {τ' : Sg} (h : MBc nC len by' cm gn G σ m K N O τ) (g : JQ τ τ') : MBc nC len by' cm gn G σ m K N O τ' := by
  refine ⟨h.1.j g, h.2.1.j g, (g.2.1 52 (by decide)).trans h.2.2.1, fun k hk => ?_⟩
  rw [g.1 277 (by decide), g.1 278 (by decide), g.1 279 (by decide), g.1 280 (by decide), g.1 281 (by decide)]
  exact h.2.2.2 k hk
theorem MBc.w {m m' : Nat} {K' N' O' : Nat → Nat} (h : MBc nC len by' cm gn G σ m K N O τ) (hm : m' ≤ m) (e : ∀ k, k < m' → K' k = K k ∧ N' k = N k ∧ O' k = O k) : MBc nC len by' cm gn G σ m' K' N' O' τ := by
  refine ⟨h.1, h.2.1, h.2.2.1, fun k hk => ?_⟩
  rw [(e k hk).1, (e k hk).2.1, (e k hk).2.2]
  exact h.2.2.2 k (by omega)
/-- what is asked for a text that is wrong -/
def BAD (nC len : Nat) (by' cm gn : Nat → Nat) (G : Nat → Bool) (σ : Sg) (r : PRt) (Q : Option Value → Sg → Prop) : Prop := ∀ (f st t' : Nat) (K' N' O' D' : Nat → Nat) (σ'' : Sg) (x : Int32), f < 6 → f ≠ 0 → r = (f, st, t', K', N', O', D') → nC ≤ t' → MBc nC len by' cm gn G σ nC K' N' O' σ'' → σ''.1 245 50 = nI f → σ''.1 245 51 = nI st → Q (some (.int x)) σ''
def GOOD (nC len : Nat) (by' cm gn : Nat → Nat) (G : Nat → Bool) (σ : Sg) (n0 t : Nat) (r : PRt) (Q : Option Value → Sg → Prop) : Prop := ∀ (n' p' : Nat) (K' N' O' D' : Nat → Nat) (σ'' : Sg), r = PR by' len G n' 0 p' (t + 1) K' N' O' D' → n' < n0 → len < p' + n' → p' ≤ len → PI nC G 0 (t + 1) K' N' O' D' → MBc nC len by' cm gn G σ (t + 1) K' N' O' σ'' → NX by' len p' σ'' → Q (some (.int (nI (t + 1)))) σ''
theorem f5p {f : Nat} (h5 : τ.1 245 50 = nI f) (hf : f < 6) (h0 : f ≠ 0) : ¬ τ.1 245 50 ≤ 0 ∧ ¬ τ.1 245 50 = 0 := by
  rw [h5]
  exact ⟨nI_ge (a := 0) (by omega) (by omega), fun q => h0 ((nI_eq (b := 0) (by omega) (by decide)).mp q)⟩
section FT
variable {x1 x2 x3 x4 : Int32}
theorem F206 (h5 : ¬ τ.1 245 50 ≤ 0 ∧ ¬ τ.1 245 50 = 0) (h : Q (some (.int x1)) τ) : LX10_readClaim_206 M τ Q x1 x2 x3 x4 := DX10_readClaim_206 ⟨fun q => absurd q h5.1, fun _ => h⟩
theorem F202 (h5 : ¬ τ.1 245 50 ≤ 0 ∧ ¬ τ.1 245 50 = 0) (h : Q (some (.int x1)) τ) : LX10_readClaim_202 M τ Q x1 x2 x3 x4 := DX10_readClaim_202 (M_nextF (N := M + 1) h5.1 ⟨rfl, F206 h5 h⟩)
theorem F177 (h5 : ¬ τ.1 245 50 ≤ 0 ∧ ¬ τ.1 245 50 = 0) (h : Q (some (.int x1)) τ) : LX10_readClaim_177 M τ Q x1 x2 x3 x4 := DX10_readClaim_177 ⟨fun q => absurd q h5.2, fun _ => F202 h5 h⟩
theorem F144 (h5 : ¬ τ.1 245 50 ≤ 0 ∧ ¬ τ.1 245 50 = 0) (h : Q (some (.int x1)) τ) : LX10_readClaim_144 M τ Q x1 x2 x3 := DX10_readClaim_144 ⟨fun q => absurd q h5.2, fun _ => F177 h5 h⟩
theorem F140 (h5 : ¬ τ.1 245 50 ≤ 0 ∧ ¬ τ.1 245 50 = 0) (h : Q (some (.int x1)) τ) : LX10_readClaim_140 M τ Q x1 x2 x3 := DX10_readClaim_140 (M_nextF (N := M + 1) h5.1 ⟨rfl, F144 h5 h⟩)
theorem F77 (h5 : ¬ τ.1 245 50 ≤ 0 ∧ ¬ τ.1 245 50 = 0) (h : Q (some (.int x1)) τ) : LX10_readClaim_77 M τ Q x1 x2 x3 x4 := DX10_readClaim_77 ⟨fun _ => F140 h5 h, fun _ => ⟨fun q => absurd q h5.2, fun _ => F140 h5 h⟩⟩
theorem F69 (h5 : ¬ τ.1 245 50 ≤ 0 ∧ ¬ τ.1 245 50 = 0) (h : Q (some (.int x1)) τ) : LX10_readClaim_69 M τ Q x1 x2 := DX10_readClaim_69 (F77 h5 h)
theorem F51 (h5 : ¬ τ.1 245 50 ≤ 0 ∧ ¬ τ.1 245 50 = 0) (h : Q (some (.int x1)) τ) : LX10_readClaim_51 M τ Q x1 x2 := DX10_readClaim_51 ⟨fun _ => M_wf h5.2 ⟨rfl, F69 h5 h⟩, fun _ => M_wf h5.2 ⟨rfl, F69 h5 h⟩⟩
theorem F42 (h5 : ¬ τ.1 245 50 ≤ 0 ∧ ¬ τ.1 245 50 = 0) (h : Q (some (.int x1)) τ) : LX10_readClaim_42 M τ Q x1 := DX10_readClaim_42 (M_nextF (N := M + 1) h5.1 ⟨rfl, F51 h5 h⟩)
theorem F26 (h5 : ¬ τ.1 245 50 ≤ 0 ∧ ¬ τ.1 245 50 = 0) (h : Q (some (.int x1)) τ) : LX10_readClaim_26 M τ Q x1 := DX10_readClaim_26 ⟨fun _ => M_wf h5.2 ⟨rfl, F42 h5 h⟩, fun _ => M_wf h5.2 ⟨rfl, F42 h5 h⟩⟩
theorem Z4 (h5 : ¬ τ.1 245 50 ≤ 0 ∧ ¬ τ.1 245 50 = 0) (h : ∀ y, Q (some (.int y)) τ) : LX10_readOn_4 M τ Q x1 x2 x3 := DX10_readOn_4 ⟨fun _ => h _, fun _ => ⟨fun q => absurd q h5.2, fun _ => h _⟩⟩
theorem Z111 (h5 : ¬ τ.1 245 50 ≤ 0 ∧ ¬ τ.1 245 50 = 0) (h : ∀ y, Q (some (.int y)) τ) : LX10_readOn_111 M τ Q x1 x2 := DX10_readOn_111 ⟨fun _ => Z4 h5 h, fun _ => Z4 h5 h⟩
theorem Z107 (h5 : ¬ τ.1 245 50 ≤ 0 ∧ ¬ τ.1 245 50 = 0) (h : ∀ y, Q (some (.int y)) τ) : LX10_readOn_107 M τ Q x1 x2 := DX10_readOn_107 (M_nextF h5.1 ⟨rfl, Z111 h5 h⟩)
theorem Z87 (h5 : ¬ τ.1 245 50 ≤ 0 ∧ ¬ τ.1 245 50 = 0) (h : ∀ y, Q (some (.int y)) τ) : LX10_readOn_87 M τ Q x1 x2 := DX10_readOn_87 ⟨fun q => absurd q h5.2, fun _ => Z107 h5 h⟩
theorem Z37 (h5 : ¬ τ.1 245 50 ≤ 0 ∧ ¬ τ.1 245 50 = 0) (h : ∀ y, Q (some (.int y)) τ) : LX10_readOn_37 M τ Q x1 x2 := DX10_readOn_37 ⟨fun q => absurd q h5.2, fun _ => Z87 h5 h⟩
theorem Z19 (h5 : ¬ τ.1 245 50 ≤ 0 ∧ ¬ τ.1 245 50 = 0) (h : ∀ y, Q (some (.int y)) τ) : LX10_readOn_19 M τ Q x1 x2 := DX10_readOn_19 ⟨fun _ => M_wf h5.2 ⟨rfl, Z37 h5 h⟩, fun _ => M_wf h5.2 ⟨rfl, Z37 h5 h⟩⟩
end FT
/-- the state in which a fault has just been set -/
theorem bad_at {f st : Nat} (hB : BAD nC len by' cm gn G σ r Q) (hM : MBc nC len by' cm gn G σ t K N O τ) (ht : nC ≤ t) (hf : f < 6) (h0 : f ≠ 0) (hr : r = (f, st, t, K, N, O, D)) (h7 : τ.1 245 47 = nI st) : (¬ (u1 (u1 τ 245 50 (nI f)) 245 51 (τ.1 245 47)).1 245 50 ≤ 0 ∧ ¬ (u1 (u1 τ 245 50 (nI f)) 245 51 (τ.1 245 47)).1 245 50 = 0) ∧ ∀ x, Q (some (.int x)) (u1 (u1 τ 245 50 (nI f)) 245 51 (τ.1 245 47)) := by
  have e5 : (u1 (u1 τ 245 50 (nI f)) 245 51 (τ.1 245 47)).1 245 50 = nI f := by rw [u1_slot (by decide)]; exact u1_same
  exact ⟨f5p e5 hf h0, fun x => hB f st t K N O D _ x hf h0 hr ht ((hM.j ((JQ.rf.u (by omega) (by omega)).u (by omega) (by omega))).w ht (fun _ _ => ⟨rfl, rfl, rfl⟩)) e5 (u1_same.trans h7)⟩
theorem bad_tok {n a p v st en m : Nat} (hB : BAD nC len by' cm gn G σ r Q) (hM : MBc nC len by' cm gn G σ m K N O τ) (hm : nC ≤ m) (ht : nC ≤ t) (hl : len < p + n) (hp : p ≤ len) (hr : r = PR by' len G n a p t K N O D) (hk : tok by' len p = (0, v, st, en)) (hX : NX by' len p τ) : (¬ τ.1 245 50 ≤ 0 ∧ ¬ τ.1 245 50 = 0) ∧ ∀ x, Q (some (.int x)) τ := by
  obtain ⟨n', rfl⟩ : ∃ n', n = n' + 1 := ⟨n - 1, by omega⟩
  rw [pr_str hk] at hr
  unfold NX at hX
  rw [hk] at hX
  have e := hX.2.2.1 rfl
  exact ⟨f5p (f := 1) e.1 (by decide) (by decide), fun x => hB 1 st t K N O D τ x (by decide) (by decide) hr ht (hM.w hm (fun _ _ => ⟨rfl, rfl, rfl⟩)) e.1 e.2⟩
theorem M_stop {n p : Nat} (hB : BAD nC len by' cm gn G σ r Q) (hG : GOOD nC len by' cm gn G σ n0 t r Q) (hc : ∀ k, nC ≤ k → cm k = day ∧ G k = false) (hd : σ.1 245 58 = nI day) (hI : PI nC G 0 (t + 1) K N O D) (hnt : nC ≤ t) (hr : r = PR by' len G n 0 p (t + 1) K N O D) (hn : n < n0) (hl : len < p + n) (hp : p ≤ len) (hM : MBc nC len by' cm gn G σ t K N O τ) (h5 : τ.1 245 50 = 0) (h6 : τ.1 245 46 = nI p) : LX10_readClaim_202 M τ Q (nI t) (nI (K t)) (nI (N t)) (nI (O t)) := by
  have t20 : t < 20 := hI.1
  refine DX10_readClaim_202 (M_next (N := M + 1) hM.2.1 h5 h6 hp fun σ2 j nx => ⟨rfl, ?_⟩)
  have hM2 := hM.j j
  rcases hk : tok by' len p with ⟨c, v, st, en⟩
  by_cases z : c = 0
  · subst z
    have b := bad_tok (t := t + 1) hB hM2 hnt (by omega) hl hp hr hk nx
    exact F206 b.1 (b.2 _)
  have e5 : σ2.1 245 50 = 0 := by
    have := nx
    unfold NX at this
    rw [hk] at this
    exact (this.2.2.2.1 z).1
  refine DX10_readClaim_206 ⟨fun _ => ?_, fun q => absurd (by rw [e5]; decide) q⟩
  have vi : vp_in (nI t) 20 := nvin t20 (by decide)
  rw [cl (by omega), nI_1, u1_cell (show (245 : Nat) ≠ 278 by decide), u1_cell (show (245 : Nat) ≠ 277 by decide), hM2.1.2.1 58 (by decide), hd]
  obtain ⟨hct, hgt⟩ := hc t hnt
  refine ⟨vi, vi, vi, vi, vi, hG n p K N O D _ hr hn hl hp hI ⟨((((hM2.1.a (by omega) (by omega)).a (by omega) (by omega)).a (by omega) (by omega)).a (by omega) (by omega)).a (by omega) (by omega), ⟨hM2.2.1.1, ?_, fun i hi => ?_⟩, ?_, fun k hk => ?_⟩ (nx.cg fun j => by (repeat rw [u1_cell (by decide)]))⟩
  · (repeat rw [u1_cell (by decide)]); exact hM2.2.1.2.1
  · (repeat rw [u1_cell (by decide)]); exact hM2.2.1.2.2 i hi
  · (repeat rw [u1_cell (by decide)]); exact hM2.2.2.1
  · by_cases e : k = t
    · subst e
      rw [hct, hgt, if_neg (by decide)]
      refine ⟨?_, ?_, ?_, ?_, u1_same⟩
      · (repeat rw [u1_cell (by decide)]); exact u1_same
      · (repeat rw [u1_cell (by decide)]); exact u1_same
      · (repeat rw [u1_cell (by decide)]); exact u1_same
      · (repeat rw [u1_cell (by decide)]); exact u1_same
    · obtain ⟨d1, d2, d3, d4, d5⟩ := hM2.2.2.2 k (by omega)
      rw [← d1, ← d2, ← d3, ← d4, ← d5]
      refine ⟨?_, ?_, ?_, ?_, ?_⟩
      · (repeat rw [u1_cell (by decide)]); exact u1_slot e
      · (repeat rw [u1_cell (by decide)]); rw [u1_slot e]; (repeat rw [u1_cell (by decide)])
      · (repeat rw [u1_cell (by decide)]); rw [u1_slot e]; (repeat rw [u1_cell (by decide)])
      · (repeat rw [u1_cell (by decide)]); rw [u1_slot e]; (repeat rw [u1_cell (by decide)])
      · rw [u1_slot e]; (repeat rw [u1_cell (by decide)])
theorem M_177 {n a p c v st en : Nat} (hB : BAD nC len by' cm gn G σ r Q) (hG : GOOD nC len by' cm gn G σ n0 t r Q) (hc : ∀ k, nC ≤ k → cm k = day ∧ G k = false) (hd : σ.1 245 58 = nI day) (ha : a = 2 ∧ c ≠ 3 ∨ a = 4 ∧ c ≠ 5) (hI : PI nC G a t K N O D) (hr : r = PR by' len G n a p t K N O D) (hn : n ≤ n0) (hl : len < p + n) (hp : p ≤ len) (hk : tok by' len p = (c, v, st, en)) (c0 : c ≠ 0) (hX : NX by' len p τ) (hM : MBc nC len by' cm gn G σ t K N O τ) : LX10_readClaim_177 M τ Q (nI t) (nI (K t)) (nI (N t)) (nI (O t)) := by
  obtain ⟨n', rfl⟩ : ∃ n', n = n' + 1 := ⟨n - 1, by omega⟩
  have tk := tok_ok (by' := by') hp
  unfold NX at hX
  rw [hk] at tk hX
  obtain ⟨t1, t2, t3, t4, t5, t6, t7, t8, t9⟩ := tk
  obtain ⟨x1, x2, x3, x4, x5, x6⟩ := hX
  dsimp only at t1 t2 t3 t4 t5 t6 t7 t8 t9 x1 x2 x4
  have hr' : r = if c = 6 then PR by' len G n' 0 en (t + 1) K N O D else (2, st, t, K, N, O, D) := by
    rcases ha with ⟨rfl, h3⟩ | ⟨rfl, h3⟩
    · rw [hr, pr_2 hk c0, if_neg h3]
    · rw [hr, pr_4 hk c0, if_neg h3]
  refine DX10_readClaim_177 ⟨fun _ => ?_, fun q => absurd (x4 c0).1 q⟩
  rw [(x4 c0).2, so_3 c t7 c0]
  refine ⟨fun q => M_w1 ⟨rfl, ?_⟩, fun q => M_w0 (x4 c0).1 ⟨rfl, ?_⟩⟩
  · rw [if_pos q] at hr'
    have := t5 (by omega)
    exact M_stop hB hG hc hd (hI.stop (by omega)) hI.2.1 hr' (by omega) (by omega) t3 hM (x4 c0).1 x1
  · rw [if_neg q] at hr'
    have b := bad_at (f := 2) hB hM hI.2.1 (by decide) (by decide) hr' x2
    exact F202 b.1 (b.2 _)
theorem M_on {Q' : Option Value → Sg → Prop} (hB : BAD nC len by' cm gn G σ r Q') (gl : ∀ k, gn k ≤ day) (dl : day ≤ 99)
    (hG : ∀ (n p c v st en : Nat) (O' D' : Nat → Nat) (τ' : Sg), r = PR by' len G n 4 p t K N O' D' → n ≤ n0 → len < p + n → p ≤ len → PI nC G 4 t K N O' D' → tok by' len p = (c, v, st, en) → c ≠ 0 → c ≠ 5 → NX by' len p τ' → MBc nC len by' cm gn G σ t K N O' τ' → Q' (some (.int (nI (O' t)))) τ') :
    ∀ (n p : Nat) (O D : Nat → Nat) (τ : Sg), r = PR by' len G n 3 p t K N O D → n ≤ n0 → len < p + n → p ≤ len → PI nC G 3 t K N O D → MBc nC len by' cm gn G σ t K N O τ → τ.1 245 50 = 0 → τ.1 245 46 = nI p → LX10_readOn_4 M τ Q' (nI t) (nI (O t)) 1 := by
  intro n
  induction n using Nat.strongRecOn with
  | ind n ih =>
    intro p O D τ hr hn hl hp hI hM h5 h6
    obtain ⟨n', rfl⟩ : ∃ n', n = n' + 1 := ⟨n - 1, by omega⟩
    have t20 := hI.2.2.1 (by decide)
    refine DX10_readOn_4 ⟨fun q => absurd q (by decide), fun _ => ⟨fun _ => M_next hM.2.1 h5 h6 hp fun σ2 j nx => ⟨rfl, ?_⟩, fun q => absurd h5 q⟩⟩
    have hM2 := hM.j j
    have tk := tok_ok (by' := by') hp
    rcases hk : tok by' len p with ⟨c, v, st, en⟩
    by_cases z : c = 0
    · subst z
      have b := bad_tok hB hM2 hI.2.1 hI.2.1 hl hp hr hk nx
      exact Z19 b.1 b.2
    unfold NX at nx
    rw [hk] at nx tk
    obtain ⟨t1, t2, t3, t4, t5, t6, t7, t8, t9⟩ := tk
    obtain ⟨x1, x2, x3, x4, x5, x6⟩ := nx
    dsimp only at t1 t2 t3 t4 t5 t6 t7 t8 t9 x1 x2 x4 x5
    rw [pr_3 hk z] at hr
    refine DX10_readOn_19 ?_
    rw [(x4 z).2, so_2 c t7 z]
    refine ⟨fun q => M_w1 ⟨rfl, ?_⟩, fun q => M_w0 (x4 z).1 ⟨rfl, ?_⟩⟩
    · rw [if_pos q] at hr
      have ev := x5 (Or.inr q)
      have v100 := t9 q
      have lt := t5 (by omega)
      have BD : ¬ (v < t ∧ G v = false ∧ (O t).testBit v = false) → EvM (M + 3) mX10_wants [.ref 245, .int 0, .int 3] σ2 (fun r9 σ4 => r9 = none ∧ LX10_readOn_87 M σ4 Q' (nI t) (nI (O t))) := by
        intro w
        rw [if_neg w] at hr
        have b := bad_at (f := 3) hB hM2 hI.2.1 (by decide) (by decide) hr x2
        exact M_w0 (x4 z).1 ⟨rfl, Z87 b.1 b.2⟩
      refine DX10_readOn_37 ⟨fun _ => ?_, fun y => absurd (x4 z).1 y⟩
      rw [ev]
      refine ⟨fun y => BD fun w => ?_, fun y => ?_⟩
      · have := (nI_leI (by omega) (by omega)).mp y
        omega
      have vt : v < t := by
        by_cases w : v < t
        · exact w
        · exact absurd (nI_le (by omega) (by omega)) y
      refine ⟨nvin (by omega) (by decide), ?_⟩
      rw [cl (by omega), (hM2.2.2.2 v vt).2.2.2.1]
      have gv := gl v
      obtain ⟨p1, p2, p3, p4, p5⟩ := hI.2.2.2.1 t (by omega)
      have pw := p20 (show t ≤ 20 by omega)
      refine ⟨fun g => ?_, fun g => BD fun w => g (by rw [w.2.1]; rfl)⟩
      have g0 : G v = false := by
        by_cases w : G v = true
        · rw [if_pos w] at g; exact absurd g (n4 (by omega))
        · simpa using w
      have bz : (nI (O t) >>> (nI v &&& 31)) &&& 1 = 0 ↔ (O t).testBit v = false := by
        rw [shr_bit (by omega) (by omega), Nat.testBit_eq_decide_div_mod_eq]
        have := Nat.mod_lt (O t / 2 ^ v) (show 0 < 2 by decide)
        constructor
        · intro w
          have := (nI_eq (b := 0) (by omega) (by decide)).mp w
          rw [this]; rfl
        · intro w
          have w := of_decide_eq_false w
          rw [show O t / 2 ^ v % 2 = 0 by omega]; rfl
      rw [bz]
      refine ⟨fun o0 => M_w1 ⟨rfl, ?_⟩, fun o1 => BD fun w => o1 w.2.2⟩
      rw [if_pos ⟨vt, g0, o0⟩] at hr
      have hI4 := hI.hang vt g0 o0
      refine DX10_readOn_87 ⟨fun _ => ?_, fun y => absurd (x4 z).1 y⟩
      rw [ev, one_shl (by omega), nx_or]
      have hM3 : MBc nC len by' cm gn G σ t K N (up O t (O t ||| 2 ^ v)) σ2 := hM2.w (Nat.le_refl _) fun k hk => ⟨rfl, rfl, up_o (by omega)⟩
      have eo : O t ||| 2 ^ v = up O t (O t ||| 2 ^ v) t := up_s.symm
      rw [eo]
      rw [← eo]
      generalize hO : up O t (O t ||| 2 ^ v) = O1 at *
      have eo1 : nI (O t ||| 2 ^ v) = nI (O1 t) := by rw [← hO, up_s]
      rw [eo1]
      generalize up D t (if D t < D v + 1 then D v + 1 else D t) = D1 at *
      refine DX10_readOn_107 (M_next hM3.2.1 (x4 z).1 x1 t3 fun σ3 j3 nx3 => ⟨rfl, ?_⟩)
      have hM4 := hM3.j j3
      have tk := tok_ok (by' := by') t3
      rcases hk2 : tok by' len en with ⟨c2, v2, st2, en2⟩
      by_cases z2 : c2 = 0
      · subst z2
        have b := bad_tok hB hM4 hI4.2.1 hI4.2.1 (by omega) t3 hr hk2 nx3
        exact Z111 b.1 b.2
      have nx3' := nx3
      unfold NX at nx3
      rw [hk2] at nx3 tk
      obtain ⟨s1, s2, s3, s4, s5, s6, s7, s8, s9⟩ := tk
      obtain ⟨y1, y2, y3, y4, y5, y6⟩ := nx3
      dsimp only at s1 s2 s3 s4 s5 s6 s7 s8 s9 y1 y2 y4
      refine DX10_readOn_111 ?_
      rw [(y4 z2).2, so_4 c2 s7 z2]
      obtain ⟨n2, rfl⟩ : ∃ n2, n' = n2 + 1 := ⟨n' - 1, by omega⟩
      refine ⟨fun w => ?_, fun w => DX10_readOn_4 ⟨fun _ => hG (n2 + 1) en c2 v2 st2 en2 O1 D1 σ3 hr (by omega) (by omega) t3 hI4 hk2 z2 w nx3' hM4, fun y => absurd rfl y⟩⟩
      rw [pr_4 hk2 z2, if_pos w] at hr
      have lt2 := s5 (by omega)
      exact ih n2 (by omega) en2 O1 D1 σ3 hr (by omega) (by omega) s3 (hI4.go (by decide) 3 (by decide)) hM4 (y4 z2).1 y1
    · rw [if_neg q] at hr
      have b := bad_at (f := 2) hB hM2 hI.2.1 (by decide) (by decide) hr x2
      exact Z37 b.1 b.2
end MRD
