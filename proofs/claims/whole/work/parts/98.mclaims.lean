/-! ===== claims: the reference, and both ===== -/
section MCL
variable {nC day len n0 : Nat} {by' cm gn : Nat → Nat} {G : Nat → Bool} {σ : Sg} {r : PRt} {M t : Nat} {K N O D : Nat → Nat} {τ : Sg} {Q : Option Value → Sg → Prop}
theorem M_140 {n p : Nat} (hB : BAD nC len by' cm gn G σ r Q) (hG : GOOD nC len by' cm gn G σ n0 t r Q) (hc : ∀ k, nC ≤ k → cm k = day ∧ G k = false) (gl : ∀ k, gn k ≤ day) (dl : day ≤ 99) (hd : σ.1 245 58 = nI day) (hO : O t = 0) (hI : PI nC G 2 t K N O D) (hr : r = PR by' len G n 2 p t K N O D) (hn : n ≤ n0) (hl : len < p + n) (hp : p ≤ len) (hM : MBc nC len by' cm gn G σ t K N O τ) (h5 : τ.1 245 50 = 0) (h6 : τ.1 245 46 = nI p) : LX10_readClaim_140 M τ Q (nI t) (nI (K t)) (nI (N t)) := by
  refine DX10_readClaim_140 (M_next (N := M + 1) hM.2.1 h5 h6 hp fun σ2 j nx => ⟨rfl, ?_⟩)
  have hM2 := hM.j j
  have tk := tok_ok (by' := by') hp
  rcases hk : tok by' len p with ⟨c, v, st, en⟩
  by_cases z : c = 0
  · subst z
    have b := bad_tok hB hM2 hI.2.1 hI.2.1 hl hp hr hk nx
    exact F144 b.1 (b.2 _)
  have nx' := nx
  unfold NX at nx
  rw [hk] at nx tk
  obtain ⟨t1, t2, t3, t4, t5, t6, t7, t8, t9⟩ := tk
  obtain ⟨x1, x2, x3, x4, x5, x6⟩ := nx
  dsimp only at t1 t2 t3 t4 t5 t6 t7 t8 t9 x1 x2 x4 x5 x6
  have e8 := (x4 z).2
  by_cases w : c = 3
  · refine DX10_readClaim_144 ⟨fun _ => ⟨fun _ => ⟨fun _ => ?_, fun y => absurd (x6 w) y⟩, fun y => absurd (by rw [e8]; exact (so_1 c t7 z).mpr (Or.inr w)) y⟩, fun y => absurd (x4 z).1 y⟩
    obtain ⟨n', rfl⟩ : ∃ n', n = n' + 1 := ⟨n - 1, by omega⟩
    rw [pr_2 hk z, if_pos w] at hr
    have lt := t5 (by omega)
    have := M_on (M := M) (Q' := fun r9 σ14 => ∃ v14, r9 = some (.int v14) ∧ LX10_readClaim_177 M σ14 Q (nI t) (nI (K t)) (nI (N t)) v14) (n0 := n0) (r := r) (fun f st t' K' N' O' D' σ'' x hf h0 hr ht hMB h5 h51 => ⟨x, rfl, F177 (f5p h5 hf h0) (hB f st t' K' N' O' D' σ'' (nI t) hf h0 hr ht hMB h5 h51)⟩) gl dl (fun n p c v st en O' D' τ' hr hn hl hp hI hk c0 c5 nx hM => ⟨_, rfl, M_177 hB hG hc hd (Or.inr ⟨rfl, c5⟩) hI hr hn hl hp hk c0 nx hM⟩) n' en O D σ2 hr (by omega) (by omega) t3 (hI.go (by decide) 3 (by decide)) hM2 (x4 z).1 x1
    rw [hO] at this
    exact FX10_readOn this
  · have P := M_177 (M := M) (n0 := n0) hB hG hc hd (Or.inl ⟨rfl, w⟩) hI hr hn hl hp hk z nx' hM2
    rw [hO] at P
    refine DX10_readClaim_144 ⟨fun _ => ⟨fun y => ⟨fun q => ?_, fun _ => P⟩, fun _ => P⟩, fun y => absurd (x4 z).1 y⟩
    rw [e8] at y
    rcases (so_1 c t7 z).mp y with w2 | w2
    · rw [x5 (Or.inl w2)] at q
      have q5 := (nI_eq (b := 5) (by have := t8 w2; omega) (by decide)).mp q
      have := t8 w2
      omega
    · exact absurd w2 w
theorem M_77 {n p st v : Nat} (hB : BAD nC len by' cm gn G σ r Q) (hG : GOOD nC len by' cm gn G σ n0 t r Q) (hc : ∀ k, nC ≤ k → cm k = day ∧ G k = false) (gl : ∀ k, gn k ≤ day) (dl : day ≤ 99) (hd : σ.1 245 58 = nI day) (hO : O t = 0) (hv : v < 100) (hI : PI nC G 1 t K N O D) (hr : r = if lst (twP G K N t v) t < t then (4, st, t, K, N, O, D) else PR by' len G n 2 p t K (up N t v) O D) (hn : n ≤ n0) (hl : len < p + n) (hp : p ≤ len) (hM : MBc nC len by' cm gn G σ t K N O τ) (h5 : τ.1 245 50 = 0) (h6 : τ.1 245 46 = nI p) (h7 : τ.1 245 47 = nI st) : LX10_readClaim_77 M τ Q (nI t) (nI (K t)) (nI v) 0 := by
  have t20 := hI.2.2.1 (by decide)
  obtain ⟨l1, l2, l3⟩ := lst_ok (twP G K N t v) t
  have L : ∀ k, k ≤ t → (∀ i, i < k → ¬ twP G K N t v i = true) → LX10_readClaim_77 M τ Q (nI t) (nI (K t)) (nI v) (nI k) := by
    refine for_up ?_ ?_
    · intro b
      rw [if_neg (fun q => b _ q (l3 q))] at hr
      refine DX10_readClaim_77 ⟨fun _ => ?_, fun q => absurd (nI_le (Nat.le_refl _) (by omega)) q⟩
      have := M_140 (M := M) hB hG hc gl dl hd hO (hI.tell hv) hr hn hl hp (hM.w (Nat.le_refl _) fun k hk => ⟨rfl, up_o (by omega), rfl⟩) h5 h6
      rw [up_s] at this
      exact this
    · intro k hk ih b
      have nx : ¬ twP G K N t v k = true → LX10_readClaim_77 M τ Q (nI t) (nI (K t)) (nI v) (nI k + 1) := fun w => by
        rw [nI_1]
        refine ih fun i hi => ?_
        by_cases z : i = k
        · rw [z]; exact w
        · exact b i (by omega)
      have vi : vp_in (nI k) 20 := nvin (by omega) (by decide)
      obtain ⟨d1, d2, d3, d4, d5⟩ := hM.2.2.2 k hk
      have p1 := (hI.2.2.2.1 k (by omega)).1
      have p2 := (hI.2.2.2.1 t (by omega)).1
      have p3 := hI.2.2.2.2 k (by omega)
      have gk := gl k
      refine DX10_readClaim_77 ⟨fun q => absurd q (nI_ge hk (by omega)), fun _ => ⟨fun _ => ⟨vi, ?_⟩, fun q => absurd h5 q⟩⟩
      rw [cl (by omega), d1, d2, d4]
      refine ⟨fun y => ⟨vi, fun x => ⟨vi, fun q => ?_, fun q => M_w1 ⟨rfl, DX10_readClaim_134 (nx fun w => q ?_)⟩⟩, fun x => M_w1 ⟨rfl, DX10_readClaim_134 (nx fun w => x ?_)⟩⟩, fun y => M_w1 ⟨rfl, DX10_readClaim_134 (nx fun w => y ?_)⟩⟩
      · have g0 : G k = false := by
          by_cases z : G k = true
          · rw [if_pos z] at q; exact absurd q (n4 (by omega))
          · simpa using z
        have w := twP_iff.mpr ⟨g0, (nI_eq (by omega) (by omega)).mp y, (nI_eq (by omega) (by omega)).mp x⟩
        have lt : lst (twP G K N t v) t < t := by
          by_cases z : lst (twP G K N t v) t ≤ k
          · omega
          · rw [l2 k (by omega)] at w; exact absurd w (by decide)
        rw [if_pos lt] at hr
        have bb := bad_at (f := 4) hB hM hI.2.1 (by decide) (by decide) hr h7
        exact M_w0 h5 ⟨rfl, DX10_readClaim_134 (F77 bb.1 (bb.2 _))⟩
      · rw [(twP_iff.mp w).1]; rfl
      · rw [(twP_iff.mp w).2.2]
      · rw [(twP_iff.mp w).2.1]
  exact L 0 (by omega) (fun i hi => absurd hi (by omega))
theorem M_claim {n p c v st en : Nat} (hB : BAD nC len by' cm gn G σ r Q) (hG : GOOD nC len by' cm gn G σ n t r Q) (hc : ∀ k, nC ≤ k → cm k = day ∧ G k = false) (gl : ∀ k, gn k ≤ day) (dl : day ≤ 99) (hd : σ.1 245 58 = nI day) (hI : PI nC G 0 t K N O D) (hr : r = PR by' len G n 0 p t K N O D) (hl : len < p + n) (hp : p ≤ len) (hk : tok by' len p = (c, v, st, en)) (c0 : c ≠ 0) (c1 : c ≠ 1) (hM : MBc nC len by' cm gn G σ t K N O τ) (hX : NX by' len p τ) : EvM (M + 5) mX10_readClaim [.ref 245, .int (nI t)] τ Q := by
  obtain ⟨n', rfl⟩ : ∃ n', n = n' + 1 := ⟨n - 1, by omega⟩
  have tk := tok_ok (by' := by') hp
  unfold NX at hX
  rw [hk] at hX tk
  obtain ⟨t1, t2, t3, t4, t5, t6, t7, t8, t9⟩ := tk
  obtain ⟨x1, x2, x3, x4, x5, x6⟩ := hX
  dsimp only at t1 t2 t3 t4 t5 t6 t7 t8 t9 x1 x2 x4 x5 x6
  have e8 := (x4 c0).2
  have e5 := (x4 c0).1
  rw [pr_0 hk c0 c1] at hr
  refine FX10_readClaim ?_
  rw [e8, so_1 c t7 c0]
  by_cases w : c = 2
  · have ev := x5 (Or.inl w)
    have v5 := t8 w
    have lt := t5 c1
    rw [if_pos w] at hr
    refine ⟨fun _ => ⟨fun y => absurd y (by rw [ev]; exact nI_ge (b := 5) v5 (by decide)), fun _ => M_w1 ⟨rfl, ?_⟩⟩, fun y => absurd (Or.inl w) y⟩
    refine DX10_readClaim_26 ⟨fun y => ?_, fun y => M_w1 ⟨rfl, ?_⟩⟩
    · have h20 := (nI_leI (a := 20) (by decide) (by have := hI.1; omega)).mp y
      rw [if_neg (show ¬ t < 20 by omega)] at hr
      have b := bad_at (f := 5) hB hM hI.2.1 (by decide) (by decide) hr x2
      exact M_w0 e5 ⟨rfl, F42 b.1 (b.2 _)⟩
    have t20 : t < 20 := by
      by_cases q : t < 20
      · exact q
      · exact absurd (nI_le (a := 20) (by omega) (by have := hI.1; omega)) y
    rw [if_pos t20] at hr
    have hI1 := hI.opn t20 v5
    have eK : up K t v t = v := up_s
    have eO : up O t 0 t = 0 := up_s
    have hM1 : MBc nC len by' cm gn G σ t (up K t v) N (up O t 0) τ := hM.w (Nat.le_refl _) fun k hk => ⟨up_o (by omega), rfl, up_o (by omega)⟩
    generalize up K t v = K1 at *
    generalize up O t 0 = O1 at *
    generalize up D t 0 = D1 at *
    refine DX10_readClaim_42 (M_next (N := M + 1) hM1.2.1 e5 x1 t3 fun σ2 j nx => ⟨rfl, ?_⟩)
    have hM2 := hM1.j j
    rw [ev, ← eK]
    have tk2 := tok_ok (by' := by') t3
    rcases hk2 : tok by' len en with ⟨c2, v2, st2, en2⟩
    by_cases z2 : c2 = 0
    · subst z2
      have b := bad_tok hB hM2 hI1.2.1 hI1.2.1 (by omega) t3 hr hk2 nx
      exact F51 b.1 (b.2 _)
    unfold NX at nx
    rw [hk2] at nx tk2
    obtain ⟨s1, s2, s3, s4, s5, s6, s7, s8, s9⟩ := tk2
    obtain ⟨y1, y2, y3, y4, y5, y6⟩ := nx
    dsimp only at s1 s2 s3 s4 s5 s6 s7 s8 s9 y1 y2 y4 y5 y6
    obtain ⟨n2, rfl⟩ : ∃ n2, n' = n2 + 1 := ⟨n' - 1, by omega⟩
    rw [pr_1 hk2 z2] at hr
    refine DX10_readClaim_51 ?_
    rw [(y4 z2).2, so_2 c2 s7 z2]
    refine ⟨fun q => M_w1 ⟨rfl, ?_⟩, fun q => M_w0 (y4 z2).1 ⟨rfl, ?_⟩⟩
    · rw [if_pos q] at hr
      have lt2 := s5 (by omega)
      refine DX10_readClaim_69 ?_
      rw [y5 (Or.inr q)]
      exact M_77 hB hG hc gl dl hd eO (s9 q) hI1 hr (by omega) (by omega) s3 hM2 (y4 z2).1 y1 y2
    · rw [if_neg q] at hr
      have b := bad_at (f := 2) hB hM2 hI1.2.1 (by decide) (by decide) hr y2
      exact F69 b.1 (b.2 _)
  · rw [if_neg w] at hr
    have b := bad_at (f := 2) hB hM hI.2.1 (by decide) (by decide) hr x2
    have W : EvM (M + 4) mX10_wants [.ref 245, .int 0, .int 2] τ (fun r9 σ2 => r9 = none ∧ LX10_readClaim_26 M σ2 Q (nI t)) := M_w0 e5 ⟨rfl, F26 b.1 (b.2 _)⟩
    exact ⟨fun y => ⟨fun _ => W, fun q => absurd (by rw [x6 (by omega)]; decide) q⟩, fun _ => W⟩
/-- what the reference holds in the end -/
def MEc (nC : Nat) (cm gn : Nat → Nat) (G : Nat → Bool) (σ : Sg) (r : PRt) (σ'' : Sg) : Prop := KQ σ σ'' ∧ σ''.1 245 45 = 0 ∧ σ''.1 245 52 = nI (szR nC r) ∧ σ''.1 245 50 = nI r.1 ∧ MAc cm gn G (szR nC r) r.2.2.2.1 r.2.2.2.2.1 r.2.2.2.2.2.1 σ''
theorem M_endB {f st : Nat} {x : Int32} (hr : r = (f, st, t, K, N, O, D)) (hf : f < 6) (h0 : f ≠ 0) (hM : MBc nC len by' cm gn G σ nC K N O τ) (h5 : τ.1 245 50 = nI f) (h51 : τ.1 245 51 = nI st) (h : ∀ σ'', MEc nC cm gn G σ r σ'' → Q (some (.int (rvR nC r))) σ'') : KX10_claims_19 M τ Q x := by
  subst hr
  have b := f5p h5 hf h0
  refine BX10_claims_19 ⟨fun q => absurd q b.2, fun _ => ?_⟩
  rw [u1_slot (show (50 : Nat) ≠ 45 by decide), u1_slot (show (51 : Nat) ≠ 45 by decide), u1_slot (show (52 : Nat) ≠ 45 by decide), h51]
  refine ⟨fun q => absurd q b.1, fun _ => ?_⟩
  have := h (u1 τ 245 45 0) ⟨hM.1.s (by omega) (by omega), u1_same, ?_, ?_, ?_⟩
  · unfold rvR at this
    rw [if_neg h0] at this
    exact this
  · unfold szR
    rw [if_neg h0, u1_slot (by decide)]; exact hM.2.2.1
  · rw [u1_slot (by decide)]; exact h5
  · unfold szR
    rw [if_neg h0]
    intro k hk
    (repeat rw [u1_cell (by decide)])
    exact hM.2.2.2 k hk
theorem M_loop (hc : ∀ k, nC ≤ k → cm k = day ∧ G k = false) (gl : ∀ k, gn k ≤ day) (dl : day ≤ 99) (hd : σ.1 245 58 = nI day) (h : ∀ σ'', MEc nC cm gn G σ r σ'' → Q (some (.int (rvR nC r))) σ'') : ∀ (n p t : Nat) (K N O D : Nat → Nat) (τ : Sg), r = PR by' len G n 0 p t K N O D → len < p + n → p ≤ len → PI nC G 0 t K N O D → MBc nC len by' cm gn G σ t K N O τ → NX by' len p τ → KX10_claims_19 M τ Q (nI t) := by
  intro n
  induction n using Nat.strongRecOn with
  | ind n ih =>
    intro p t K N O D τ hr hl hp hI hM hX
    obtain ⟨n', rfl⟩ : ∃ n', n = n' + 1 := ⟨n - 1, by omega⟩
    rcases hk : tok by' len p with ⟨c, v, st, en⟩
    have tk := tok_ok (by' := by') hp
    have hX' := hX
    unfold NX at hX
    rw [hk] at hX tk
    obtain ⟨t1, t2, t3, t4, t5, t6, t7, t8, t9⟩ := tk
    obtain ⟨x1, x2, x3, x4, x5, x6⟩ := hX
    dsimp only at t1 t2 t3 t4 t5 t6 t7 t8 t9 x1 x2 x3 x4
    by_cases z : c = 0
    · subst z
      rw [pr_str hk] at hr
      exact M_endB (f := 1) hr (by decide) (by decide) (hM.w hI.2.1 (fun _ _ => ⟨rfl, rfl, rfl⟩)) (x3 rfl).1 (x3 rfl).2 h
    by_cases z1 : c = 1
    · subst z1
      rw [pr_end hk] at hr
      subst hr
      refine BX10_claims_19 ⟨fun _ => ⟨fun _ => ?_, fun q => absurd (x4 z).2 q⟩, fun q => absurd (x4 z).1 q⟩
      rw [u1_slot (show (50 : Nat) ≠ 45 by decide), u1_slot (show (51 : Nat) ≠ 45 by decide), u1_slot (show (52 : Nat) ≠ 45 by decide), hM.2.2.1, (x4 z).1]
      refine ⟨fun _ => ?_, fun q => absurd (by decide) q⟩
      refine h (u1 (u1 τ 245 45 0) 245 52 (nI t)) ⟨(hM.1.s (by omega) (by omega)).s (by omega) (by omega), ?_, u1_same, ?_, fun k hk => ?_⟩
      · rw [u1_slot (by decide)]; exact u1_same
      · rw [u1_slot (by decide), u1_slot (by decide)]; exact (x4 z).1
      · (repeat rw [u1_cell (by decide)])
        exact hM.2.2.2 k hk
    refine BX10_claims_19 ⟨fun _ => ⟨fun y => ?_, fun _ => ?_⟩, fun q => absurd (x4 z).1 q⟩
    · rw [(x4 z).2, so_0 c t7 z] at y; exact absurd y z1
    exact M_claim (M := M) (n := n' + 1) (fun f st t' K' N' O' D' σ'' x hf h0 hr' ht hMB h5 h51 => ⟨x, rfl, M_endB hr' hf h0 hMB h5 h51 h⟩) (fun n2 p' K' N' O' D' σ'' hr' hn' hl' hp' hI' hM' hX'' => ⟨_, rfl, ih n2 hn' p' (t + 1) K' N' O' D' σ'' hr' hl' hp' hI' hM' hX''⟩) hc gl dl hd hI hr hl hp hk z z1 hM hX'
theorem M_claims (hc : ∀ k, nC ≤ k → cm k = day ∧ G k = false) (gl : ∀ k, gn k ≤ day) (dl : day ≤ 99) (hd : σ.1 245 58 = nI day) (hP : TQ by' len σ) (h52 : σ.1 245 52 = nI nC) (hA : MAc cm gn G nC K N O σ) (hI : PI nC G 0 nC K N O D) (h : ∀ σ'', MEc nC cm gn G σ (PR by' len G (len + 1) 0 0 nC K N O D) σ'' → Q (some (.int (rvR nC (PR by' len G (len + 1) 0 0 nC K N O D)))) σ'') : EvM (M + 6) mX10_claims [.ref 245] σ Q := by
  have j0 : JQ σ (u1 (u1 σ 245 50 0) 245 46 0) := (JQ.rf.u (by omega) (by omega)).u (by omega) (by omega)
  have m0 : MBc nC len by' cm gn G σ nC K N O σ := ⟨⟨fun _ _ _ _ => rfl, fun _ _ => rfl, rfl⟩, hP, h52, hA⟩
  refine EX10_claims (M_next (N := M + 2) (p := 0) (hP.j j0) (by rw [u1_slot (by decide)]; exact u1_same) u1_same (Nat.zero_le _) fun σ2 j nx => ⟨rfl, ?_⟩)
  rw [h52]
  exact M_loop hc gl dl hd h (len + 1) 0 nC K N O D σ2 rfl (by omega) (Nat.zero_le _) hI ((m0.j j0).j j) nx
end MCL
theorem FQ.chg {σ σ' : Sg} (h : FQ σ σ') : Chg [0, 7, 8] σ σ' := by
  refine ⟨fun a j hm => ?_, fun a j _ => by rw [h.2.2.2]⟩
  by_cases e1 : a = 228
  · subst e1
    by_cases e2 : j < 1 ∨ 4 < j
    · exact h.2.1 j e2
    · rcases (show j = 1 ∨ j = 2 ∨ j = 3 ∨ j = 4 by omega) with r | r | r | r <;> subst r <;> exact absurd (by decide) hm
  by_cases e2 : a < 230 ∨ 236 < a
  · exact h.1 a e1 e2 j
  by_cases e3 : a = 230
  · subst e3
    by_cases e4 : j < 7 ∨ 10 < j
    · exact h.2.2.1 j e4
    · rcases (show j = 7 ∨ j = 8 ∨ j = 9 ∨ j = 10 by omega) with r | r | r | r <;> subst r <;> exact absurd (by decide) hm
  · have : modOf a j = 8 := by
      rcases (show a = 231 ∨ a = 232 ∨ a = 233 ∨ a = 234 ∨ a = 235 ∨ a = 236 by omega) with r | r | r | r | r | r <;> subst r <;> rfl
    rw [this] at hm
    exact absurd (by decide) hm
theorem KQ.chg {σ σ' : Sg} (h : KQ σ σ') : Chg [0, 7, 8] σ σ' := by
  refine ⟨fun a j hm => ?_, fun a j _ => by rw [h.2.2]⟩
  by_cases e1 : a = 245
  · subst e1
    by_cases e2 : j < 45 ∨ 52 < j
    · exact h.2.1 j e2
    · rcases (show j = 45 ∨ j = 46 ∨ j = 47 ∨ j = 48 ∨ j = 49 ∨ j = 50 ∨ j = 51 ∨ j = 52 by omega) with r | r | r | r | r | r | r | r <;> subst r <;> exact absurd (by decide) hm
  by_cases e2 : a < 277 ∨ 281 < a
  · exact h.1 a e1 e2 j
  · have : modOf a j = 8 := by
      rcases (show a = 277 ∨ a = 278 ∨ a = 279 ∨ a = 280 ∨ a = 281 by omega) with r | r | r | r | r <;> subst r <;> rfl
    rw [this] at hm
    exact absurd (by decide) hm
theorem O_claims {σ : Sg} (hR : Rel σ) : OPi mX9_claims mX10_claims [] σ := by
  obtain ⟨nC, day, kd, nr, cm, gn, on, dep, gd, g1, g2, g3, g4, g5, g6, g7, g8, g9⟩ := id hR.2.2.2.2.2.2.1
  obtain ⟨len, by', b1, b2, b3, b4⟩ := id hR.2.2.2.2.2.1
  obtain ⟨cm', hcm⟩ : ∃ f : Nat → Nat, f = fun k => if k < nC then cm k else day := ⟨_, rfl⟩
  obtain ⟨gn', hgn⟩ : ∃ f : Nat → Nat, f = fun k => if k < nC then gn k else 0 := ⟨_, rfl⟩
  obtain ⟨G, hG⟩ : ∃ f : Nat → Bool, f = fun k => if k < nC then gd k else false := ⟨_, rfl⟩
  have cmy : ∀ k, k < nC → cm' k = cm k := fun k hk => by rw [hcm]; exact if_pos hk
  have gny : ∀ k, k < nC → gn' k = gn k := fun k hk => by rw [hgn]; exact if_pos hk
  have Gy : ∀ k, k < nC → G k = gd k := fun k hk => by rw [hG]; exact if_pos hk
  have hc : ∀ k, nC ≤ k → cm' k = day ∧ G k = false := fun k hk => by
    rw [hcm, hG]; exact ⟨if_neg (by omega), if_neg (by omega)⟩
  have gl : ∀ k, gn' k ≤ day := fun k => by
    by_cases hk : k < nC
    · rw [gny k hk]; exact (g8 k hk).2.2.2.1
    · rw [hgn]; show (if k < nC then gn k else 0) ≤ day; rw [if_neg hk]; exact Nat.zero_le _
  have cl' : ∀ k, cm' k ≤ day := fun k => by
    by_cases hk : k < nC
    · rw [cmy k hk]; exact (g8 k hk).2.2.1
    · rw [(hc k (by omega)).1]; exact Nat.le_refl _
  have hI : PI nC G 0 nC kd nr on dep := by
    refine ⟨g1, Nat.le_refl _, fun q => absurd rfl q, fun k hk => ?_, fun k hk => (g8 k (by omega)).2.1⟩
    have hk' : k < nC := by omega
    obtain ⟨a1, a2, a3, a4, a5, a6, a7, _⟩ := g8 k hk'
    refine ⟨a1, a5, a6, a7, fun j hj gj => ?_⟩
    have hj' : j < nC := by
      by_cases z : j < nC
      · exact z
      · rw [(hc j (by omega)).2] at gj; exact absurd gj (by decide)
    rw [Gy j hj'] at gj
    rw [Gy k hk']
    exact g9 j hj' k hk' hj gj
  have hA : CA cm' gn' G 0 nC kd nr on dep σ := by
    refine ⟨fun k hk => ?_, fun k hk => ?_⟩
    · have hk' : k < nC := by omega
      obtain ⟨a1, a2, a3, a4, a5, a6, a7, a8, a9, a10, a11, a12, a13, a14, a15, a16, a17, a18⟩ := g8 k hk'
      rw [cmy k hk', gny k hk', Gy k hk']
      exact ⟨a8, a12, a14, a16, a18⟩
    · exact (g8 k (by omega)).2.2.2.2.2.2.2.2.2.1
  refine EX9_claims (N := 28) (FX1_take (EX6_rewind ⟨rfl, ?_⟩))
  have ci : CI nC day len by' cm' gn' G σ 0 0 nC kd nr on dep (u1 (u1 (u1 (u1 σ 228 2 0) 230 8 ((u1 σ 228 2 0).1 230 7)) 230 9 0) 230 10 0) := by
    refine ⟨(((FQ.rf.tap (by omega) (by omega)).cla (by omega) (by omega)).cla (by omega) (by omega)).cla (by omega) (by omega), ⟨b1, ?_, fun i hi => ⟨(b4 i hi).1, ?_⟩⟩, Nat.zero_le _, ?_, ?_, ?_, ?_, u1_same, ?_, hA.cg fun x h1 h2 j => ?_⟩
    · (repeat rw [u1_cell (by decide)]); rw [u1_slot (by decide)]; exact b2
    · (repeat rw [u1_cell (by decide)]); exact (b4 i hi).2.2
    · (repeat rw [u1_cell (by decide)]); exact u1_same
    · rw [u1_slot (by decide), u1_slot (by decide), u1_slot (by decide), u1_cell (by decide)]; exact g3
    · rw [u1_slot (by decide), u1_slot (by decide), u1_same, u1_cell (by decide)]; exact g3
    · rw [u1_slot (by decide)]; exact u1_same
    · rw [u1_slot (by decide), u1_slot (by decide), u1_slot (by decide), u1_cell (by decide)]; exact g5
    · rw [u1_cell (by omega), u1_cell (by omega), u1_cell (by omega), u1_cell (by omega)]
  refine C_loop hc gl g2 (len + 1) 0 0 0 nC kd nr on dep _ (by omega) (Nat.le_refl _) (by decide) hI ci fun σ1 e => ⟨_, rfl, _, rfl, ?_⟩
  obtain ⟨e1, e2, e3, e4, e5, e6, e7⟩ := e
  have q245 : ∀ j, σ1.1 245 j = σ.1 245 j := e1.1 245 (by decide) (by decide)
  have q276 : ∀ j, σ1.1 276 j = σ.1 276 j := e1.1 276 (by decide) (by decide)
  refine M_claims (M := 34) hc gl g2 (by rw [q245]; exact g6) (by' := by') (len := len) ⟨b1, by rw [q245]; exact b3, fun i hi => ⟨(b4 i hi).1, by rw [q276]; exact (b4 i hi).2.1⟩⟩ (by rw [q245]; exact g4) (K := kd) (N := nr) (O := on) (D := dep) (fun k hk => ?_) hI fun σ2 m => ⟨rfl, ?_⟩
  · obtain ⟨a1, a2, a3, a4, a5, a6, a7, a8, a9, a10, a11, a12, a13, a14, a15, a16, a17, a18⟩ := g8 k hk
    rw [e1.1 277 (by decide) (by decide), e1.1 278 (by decide) (by decide), e1.1 279 (by decide) (by decide), e1.1 280 (by decide) (by decide), e1.1 281 (by decide) (by decide), cmy k hk, gny k hk, Gy k hk]
    exact ⟨a9, a11, a13, a15, a17⟩
  · generalize PR by' len G (len + 1) 0 0 nC kd nr on dep = r at *
    obtain ⟨m1, m2, m3, m4, m5⟩ := m
    have sz : szR nC r ≤ r.2.2.1 := by
      unfold szR
      by_cases z : r.1 = 0
      · rw [if_pos z]; exact Nat.le_refl _
      · rw [if_neg z]; exact e6.2.1
    have up' : ∀ x, x ≠ 245 → (x < 277 ∨ 281 < x) → ∀ j, σ2.1 x j = σ1.1 x j := m1.1
    refine hR.m78 (e1.chg.tr m1.chg) ⟨0, by', Nat.zero_le _, by rw [up' 228 (by decide) (by decide)]; exact e2, m2, fun i hi => absurd hi (by omega)⟩ ⟨szR nC r, day, r.2.2.2.1, r.2.2.2.2.1, cm', gn', r.2.2.2.2.2.1, r.2.2.2.2.2.2, G, by have := e6.1; omega, g2, ?_, m3, ?_, ?_, ?_, fun k hk => ?_, fun k hk j hj bk gk => ?_⟩
    · rw [up' 230 (by decide) (by decide)]; exact e3
    · rw [up' 230 (by decide) (by decide), e1.2.2.1 11 (by decide)]; exact g5
    · rw [m1.2.1 58 (by decide), q245]; exact g6
    · rw [up' 230 (by decide) (by decide), m4]; exact e4
    · obtain ⟨c1, c2, c3, c4, c5⟩ := e5.1 k (by omega)
      have c6 := e5.2 k (by omega)
      obtain ⟨d1, d2, d3, d4, d5⟩ := m5 k hk
      obtain ⟨p1, p2, p3, p4, p5⟩ := e6.2.2.2.1 k (by omega)
      rw [up' 231 (by decide) (by decide), up' 232 (by decide) (by decide), up' 233 (by decide) (by decide), up' 234 (by decide) (by decide), up' 235 (by decide) (by decide), up' 236 (by decide) (by decide)]
      exact ⟨p1, e6.2.2.2.2 k (by omega), cl' k, gl k, p2, p3, p4, c1, d1, c6, d2, c2, d3, c3, d4, c4, d5, c5⟩
    · exact (e6.2.2.2.1 j (by omega)).2.2.2.2 k bk gk
