/-! ===== claims: the class, from token to token ===== -/
section CTF
variable {nC day len : Nat} {by' cm gn : Nat → Nat} {G : Nat → Bool} {σ : Sg} {M a p t : Nat} {K N O D : Nat → Nat} {σ' : Sg} {Q : Option Value → Sg → Prop}
theorem CI.stop (h : CI nC day len by' cm gn G σ a p t K N O D σ') (ha : 2 ≤ a) : CI nC day len by' cm gn G σ 0 p (t + 1) K N O D (u1 (u1 σ' 230 8 (nI (t + 1))) 230 9 0) := by
  obtain ⟨c1, c2, c3, c4, c5, c6, c7, c8, c9, c10⟩ := h
  refine ⟨(c1.cla (by omega) (by omega)).cla (by omega) (by omega), ⟨c2.1, ?_, fun i hi => ?_⟩, c3, ?_, ?_, ?_, u1_same, ?_, ?_, fun k hk => ?_, fun k hk => ?_⟩
  · rw [u1_cell (by decide), u1_cell (by decide)]; exact c2.2.1
  · rw [u1_cell (by decide), u1_cell (by decide)]; exact c2.2.2 i hi
  · rw [u1_cell (by decide), u1_cell (by decide)]; exact c4
  · rw [u1_slot (by decide), u1_slot (by decide)]; exact c5
  · rw [u1_slot (by decide)]; exact u1_same
  · rw [u1_slot (by decide), u1_slot (by decide)]; exact c8
  · rw [u1_slot (by decide), u1_slot (by decide)]; exact c9
  · (repeat rw [u1_cell (by decide)]); exact c10.1 k (by omega)
  · (repeat rw [u1_cell (by decide)]); exact c10.2 k (by omega)
theorem CI.t3 {q : Nat} {σ'' : Sg} (h : CI nC day len by' cm gn G σ a p t K N O D σ') (g : T3 σ' σ'') (hq : q ≤ len) (h2 : σ''.1 228 2 = nI q) : CI nC day len by' cm gn G σ a q t K N O D σ'' := by
  obtain ⟨c1, c2, c3, c4, c5, c6, c7, c8, c9, c10⟩ := h
  refine ⟨c1.t3 g, c2.t g, hq, h2, ?_, ?_, ?_, ?_, ?_, c10.cg fun x h1 h2 j => g.1 x (by omega) j⟩
  · rw [g.1 230 (by decide)]; exact c5
  · rw [g.1 230 (by decide)]; exact c6
  · rw [g.1 230 (by decide)]; exact c7
  · rw [g.1 230 (by decide)]; exact c8
  · rw [g.1 230 (by decide)]; exact c9
theorem C_goOn {b : Nat} (hb : b = 2 ∧ a = 3 ∨ b = 4 ∧ a = 5) {c : Nat} (hc : c < 7) (hC : CI nC day len by' cm gn G σ b p t K N O D σ') (ht : t < 20) (h2 : c ≠ a → c ≠ 6 → Q (some (.int 2)) σ') (h3 : c = a → CI nC day len by' cm gn G σ 3 p t K N O D (u1 σ' 230 9 3) → Q (some (.int 0)) (u1 σ' 230 9 3)) (h0 : c ≠ a → c = 6 → ∀ σ'', CI nC day len by' cm gn G σ 0 p (t + 1) K N O D σ'' → Q (some (.int 0)) σ'') : EvM M mX1_goOnOrStop [.ref 230, .int (nI c)] σ' Q := by
  obtain ⟨c1, c2, c3, c4, c5, c6, c7, c8, c9, c10⟩ := id hC
  have s3 : CI nC day len by' cm gn G σ 3 p t K N O D (u1 σ' 230 9 3) := hC.sta (u := 0) c6 ⟨fun k hk => c10.1 k (by omega), fun k hk => c10.2 k (by omega)⟩
  have R : ∀ x : Int32, x = nI a → (nI c = x → Q (some (.int 0)) (u1 σ' 230 9 3)) ∧ (¬ nI c = x → (nI c = 6 → Q (some (.int 0)) (u1 (u1 σ' 230 8 ((σ'.1 230 8) + 1)) 230 9 0)) ∧ (¬ nI c = 6 → Q (some (.int 2)) σ')) := by
    rintro x rfl
    rw [c6, nI_1]
    refine ⟨fun q => h3 ((nI_eq (by omega) (by omega)).mp q) s3, fun q => ⟨fun y => h0 (fun z => q (by rw [z])) ((nI_eq (b := 6) (by omega) (by decide)).mp y) _ (hC.stop (by omega)), fun y => h2 (fun z => q (by rw [z])) (fun z => y (by rw [z]; rfl))⟩⟩
  refine EX1_goOnOrStop ?_
  rw [c7]
  rcases hb with ⟨rfl, rfl⟩ | ⟨rfl, rfl⟩
  · exact ⟨fun _ => R 3 rfl, fun q => absurd rfl q⟩
  · exact ⟨fun q => absurd q (by decide), fun _ => R 5 rfl⟩
theorem C_follow {n c v st : Nat} {x2 : Int32} {p0 : Nat} (hc : ∀ k, nC ≤ k → cm k = day ∧ G k = false) (gl : ∀ k, gn k ≤ day) (dl : day ≤ 99) (hk : tok by' len p0 = (c, v, st, p)) (hp0 : p0 ≤ len) (ha : a < 5) (hI : PI nC G a t K N O D) (hC : CI nC day len by' cm gn G σ a p t K N O D σ') (hx : c = 2 ∨ c = 4 → x2 = nI v) (hn : ¬ (c = 1 ∧ a = 0))
    (hb : ∀ f, f < 6 → f ≠ 0 → PR by' len G (n + 1) a p0 t K N O D = (f, st, t, K, N, O, D) → Q (some (.int (nI f))) σ')
    (hg : ∀ a' t' K' N' O' D' σ'', c ≠ 1 → a' < 5 → PI nC G a' t' K' N' O' D' → CI nC day len by' cm gn G σ a' p t' K' N' O' D' σ'' → PR by' len G (n + 1) a p0 t K N O D = PR by' len G n a' p t' K' N' O' D' → Q (some (.int 0)) σ'') : EvM (M + 2) mX1_follow [.ref 230, .int (nI c), .int x2] σ' Q := by
  have k7 : c < 7 := by have := (tok_ok (by' := by') hp0).2.2.2.2.2.2.1; rw [hk] at this; exact this
  have kv2 : c = 2 → v < 5 := by have := (tok_ok (by' := by') hp0).2.2.2.2.2.2.2.1; rw [hk] at this; exact this
  have kv4 : c = 4 → v < 100 := by have := (tok_ok (by' := by') hp0).2.2.2.2.2.2.2.2; rw [hk] at this; exact this
  have e9 := hC.2.2.2.2.2.2.1
  refine EX1_follow ⟨fun z => ?_, fun z => ?_⟩
  · have z0 : c = 0 := (nI_eq (b := 0) (by omega) (by decide)).mp z
    subst z0
    exact hb 1 (by decide) (by decide) (pr_str hk)
  have c0 : c ≠ 0 := fun q => z (by rw [q]; rfl)
  rcases (show a = 0 ∨ a = 1 ∨ a = 2 ∨ a = 3 ∨ a = 4 by omega) with r | r | r | r | r <;> subst r
  · rw [e9]
    refine ⟨fun _ => ⟨fun y => ?_, fun y => ?_⟩, fun q => absurd q (by decide), fun q => absurd q (by decide), fun q => absurd q (by decide), fun q => absurd rfl q⟩
    · have y2 : c = 2 := (nI_eq (b := 2) (by omega) (by decide)).mp y
      have hP := pr_0 (G := G) (n := n) (t := t) (K := K) (N := N) (O := O) (D := D) hk c0 (fun q => hn ⟨q, rfl⟩)
      rw [if_pos y2] at hP
      rw [hx (Or.inl y2)]
      refine C_open hc hI hC (fun lt => ⟨5, rfl, hb 5 (by decide) (by decide) (by rw [hP, if_neg lt])⟩) (fun lt σ'' h => ⟨0, rfl, hg 1 t _ _ _ _ σ'' (by omega) (by decide) (hI.opn lt (kv2 y2)) h (by rw [hP, if_pos lt])⟩)
    · refine hb 2 (by decide) (by decide) ?_
      rw [pr_0 hk c0 (fun q => hn ⟨q, rfl⟩), if_neg (fun q => y (by rw [q]; rfl))]
  · rw [e9]
    refine ⟨fun q => absurd q (by decide), fun _ => ⟨fun y => ?_, fun y => ?_⟩, fun q => absurd q (by decide), fun q => absurd q (by decide), fun _ q => absurd rfl q⟩
    · have y2 : c = 4 := (nI_eq (b := 4) (by omega) (by decide)).mp y
      have hP := pr_1 (G := G) (n := n) (t := t) (K := K) (N := N) (O := O) (D := D) hk c0
      rw [if_pos y2] at hP
      rw [hx (Or.inr y2)]
      refine C_tell (kv4 y2) hI gl dl hC (fun w => ⟨4, rfl, hb 4 (by decide) (by decide) (by rw [hP, if_pos w])⟩) (fun w σ'' h => ⟨0, rfl, hg 2 t _ _ _ _ σ'' (by omega) (by decide) (hI.tell (kv4 y2)) h (by rw [hP, if_neg w])⟩)
    · refine hb 2 (by decide) (by decide) ?_
      rw [pr_1 hk c0, if_neg (fun q => y (by rw [q]; rfl))]
  · rw [e9]
    refine ⟨fun q => absurd q (by decide), fun q => absurd q (by decide), fun _ => ?_, fun q => absurd q (by decide), fun _ _ q => absurd rfl q⟩
    have hP := pr_2 (G := G) (n := n) (t := t) (K := K) (N := N) (O := O) (D := D) hk c0
    refine C_goOn (a := 3) (Or.inl ⟨rfl, rfl⟩) k7 hC (hI.2.2.1 (by decide)) (fun w1 w2 => ⟨2, rfl, hb 2 (by decide) (by decide) (by rw [hP, if_neg w1, if_neg w2])⟩) (fun w s => ⟨0, rfl, hg 3 t _ _ _ _ _ (by omega) (by decide) (hI.go (by decide) 3 (by decide)) s (by rw [hP, if_pos w])⟩) (fun w1 w2 σ'' s => ⟨0, rfl, hg 0 (t + 1) _ _ _ _ _ (by omega) (by decide) (hI.stop (by decide)) s (by rw [hP, if_neg w1, if_pos w2])⟩)
  · rw [e9]
    refine ⟨fun q => absurd q (by decide), fun q => absurd q (by decide), fun q => absurd q (by decide), fun _ => ⟨fun y => ?_, fun y => ?_⟩, fun _ _ _ q => absurd rfl q⟩
    · have y2 : c = 4 := (nI_eq (b := 4) (by omega) (by decide)).mp y
      have hP := pr_3 (G := G) (n := n) (t := t) (K := K) (N := N) (O := O) (D := D) hk c0
      rw [if_pos y2] at hP
      rw [hx (Or.inr y2)]
      refine C_hang (kv4 y2) hI gl dl hC (fun w => ⟨3, rfl, hb 3 (by decide) (by decide) (by rw [hP, if_neg w])⟩) (fun w σ'' h => ⟨0, rfl, hg 4 t _ _ _ _ σ'' (by omega) (by decide) (hI.hang w.1 w.2.1 w.2.2) h (by rw [hP, if_pos w])⟩)
    · refine hb 2 (by decide) (by decide) ?_
      rw [pr_3 hk c0, if_neg (fun q => y (by rw [q]; rfl))]
  · rw [e9]
    refine ⟨fun q => absurd q (by decide), fun q => absurd q (by decide), fun q => absurd q (by decide), fun q => absurd q (by decide), fun _ _ _ _ => ?_⟩
    have hP := pr_4 (G := G) (n := n) (t := t) (K := K) (N := N) (O := O) (D := D) hk c0
    refine C_goOn (a := 5) (Or.inr ⟨rfl, rfl⟩) k7 hC (hI.2.2.1 (by decide)) (fun w1 w2 => ⟨2, rfl, hb 2 (by decide) (by decide) (by rw [hP, if_neg w1, if_neg w2])⟩) (fun w s => ⟨0, rfl, hg 3 t _ _ _ _ _ (by omega) (by decide) (hI.go (by decide) 3 (by decide)) s (by rw [hP, if_pos w])⟩) (fun w1 w2 σ'' s => ⟨0, rfl, hg 0 (t + 1) _ _ _ _ _ (by omega) (by decide) (hI.stop (by decide)) s (by rw [hP, if_neg w1, if_pos w2])⟩)
/-- how many there are in the end, and the answer -/
def szR (nC : Nat) (r : PRt) : Nat := if r.1 = 0 then r.2.2.1 else nC
def rvR (nC : Nat) (r : PRt) : Int32 := if r.1 = 0 then nI r.2.2.1 - nI nC else -10 - nI r.2.1
/-- what the class holds in the end -/
def CE (nC : Nat) (cm gn : Nat → Nat) (G : Nat → Bool) (σ : Sg) (r : PRt) (σ' : Sg) : Prop := FQ σ σ' ∧ σ'.1 228 1 = 0 ∧ σ'.1 230 7 = nI (szR nC r) ∧ σ'.1 230 10 = nI r.1 ∧ CA cm gn G 0 r.2.2.1 r.2.2.2.1 r.2.2.2.2.1 r.2.2.2.2.2.1 r.2.2.2.2.2.2 σ' ∧ PI nC G 0 r.2.2.1 r.2.2.2.1 r.2.2.2.2.1 r.2.2.2.2.2.1 r.2.2.2.2.2.2 ∧ r.1 < 6
theorem PI.zero (h : PI nC G a t K N O D) : PI nC G 0 t K N O D := ⟨h.1, h.2.1, fun q => absurd rfl q, fun k hk => h.2.2.2.1 k (by omega), fun k hk => h.2.2.2.2 k (by omega)⟩
theorem C_end {r : PRt} (hI : PI nC G a t K N O D) {f st : Nat} (hr : r = (f, st, t, K, N, O, D)) (hf : f < 6) (hQF : FQ σ σ') (l1 : len ≤ 160) (c1 : σ'.1 228 1 = nI len) (c3 : σ'.1 228 3 = nI st) (c5 : σ'.1 230 7 = nI nC) (c6 : σ'.1 230 8 = nI t) (c8 : σ'.1 230 10 = nI f) (c10 : CA cm gn G a t K N O D σ') (h : ∀ σ'', CE nC cm gn G σ r σ'' → Q (some (.int (rvR nC r))) σ'') : LX1_take_89 M σ' Q := by
  subst hr
  refine DX1_take_89 (EX6_cut ⟨fun q => absurd q (by decide), fun _ => ⟨fun _ => ⟨_, rfl, ?_⟩, fun q => absurd (by rw [c1]; exact nI_le (a := 0) (Nat.zero_le _) (by omega)) q⟩⟩)
  rw [u1_cell (show (230 : Nat) ≠ 228 by decide), u1_cell (show (230 : Nat) ≠ 228 by decide), u1_cell (show (230 : Nat) ≠ 228 by decide), u1_slot (show (3 : Nat) ≠ 1 by decide), c3, c5, c6, c8]
  have cA : ∀ σ'' : Sg, (∀ x, 231 ≤ x → x ≤ 236 → ∀ j, σ''.1 x j = σ'.1 x j) → CA cm gn G 0 t K N O D σ'' := fun σ'' e => by
    have := c10.cg e
    exact ⟨fun k hk => this.1 k (by omega), fun k hk => this.2 k (by omega)⟩
  refine ⟨fun q => ?_, fun q => ?_⟩
  · have f0 : f = 0 := (nI_eq (b := 0) (by omega) (by decide)).mp q
    subst f0
    have := h (u1 (u1 σ' 228 1 0) 230 7 (nI t)) ⟨(hQF.tap (by omega) (by omega)).cla (by omega) (by omega), ?_, u1_same, ?_, cA _ (fun x h1 h2 j => by rw [u1_cell (by omega), u1_cell (by omega)]), hI.zero, hf⟩
    · exact this
    · rw [u1_cell (by decide)]; exact u1_same
    · rw [u1_slot (by decide), u1_cell (by decide)]; exact c8
  · have f0 : f ≠ 0 := fun z => q (by rw [z]; rfl)
    have := h (u1 σ' 228 1 0) ⟨hQF.tap (by omega) (by omega), u1_same, ?_, ?_, cA _ (fun x h1 h2 j => by rw [u1_cell (by omega)]), hI.zero, hf⟩
    · unfold rvR at this
      rw [if_neg f0] at this
      exact this
    · unfold szR
      rw [u1_cell (by decide), if_neg f0]; exact c5
    · rw [u1_cell (by decide)]; exact c8
theorem C_loop (hc : ∀ k, nC ≤ k → cm k = day ∧ G k = false) (gl : ∀ k, gn k ≤ day) (dl : day ≤ 99) : ∀ (n s a p t : Nat) (K N O D : Nat → Nat) (σ' : Sg), len < p + n → s ≤ p → a < 5 → PI nC G a t K N O D → CI nC day len by' cm gn G σ a p t K N O D σ' → (∀ σ'', CE nC cm gn G σ (PR by' len G n a p t K N O D) σ'' → Q (some (.int (rvR nC (PR by' len G n a p t K N O D)))) σ'') → LX1_take_27 M σ' Q (nI s)
  | 0, s, a, p, t, K, N, O, D, σ', hn, hs, ha, hI, hC, h => absurd hC.2.2.1 (by omega)
  | n + 1, s, a, p, t, K, N, O, D, σ', hn, hs, ha, hI, hC, h => by
    have ih := C_loop hc gl dl n
    have l160 := hC.2.1.1
    have pl := hC.2.2.1
    obtain ⟨t1, t2, t3, t4, t5, t6, t7, t8, t9⟩ := tok_ok (by' := by') pl
    refine DX1_take_27 ⟨fun q => absurd q (nI_nlt (a := 160) (by omega) (by decide)), fun _ => ?_⟩
    refine C_nextToken hC.2.1 hC.2.2.2.1 pl fun σ2 g e2 e3 e4 => ⟨_, rfl, ?_⟩
    rcases hk : tok by' len p with ⟨c, v, st, en⟩
    rw [hk] at t1 t2 t3 t4 t5 t6 t7 t8 t9 e2 e3 e4
    dsimp only at t1 t2 t3 t4 t5 t6 t7 t8 t9 e2 e3 e4 ⊢
    have hC2 := hC.t3 g t3 e2
    have F : ¬ (c = 1 ∧ a = 0) → LX1_take_57 M σ2 Q (nI s) (nI c) := by
      intro hn1
      refine DX1_take_57 (C_follow (n := n) (M := M + 8) hc gl dl hk pl ha hI hC2 e4 hn1 (fun f f6 f0 hr => ⟨_, rfl, ?_⟩) (fun a' t' K' N' O' D' σ3 c1' ha' hI' hC' hr => ⟨_, rfl, ?_⟩))
      · rw [u1_same]
        refine ⟨fun q => absurd ((nI_eq (b := 0) (by omega) (by decide)).mp q) f0, fun _ => ?_⟩
        obtain ⟨c1, c2, c3, c4, c5, c6, c7, c8, c9, c10⟩ := hC2
        refine C_end hI hr f6 (c1.cla (by omega) (by omega)) l160 ?_ ?_ ?_ ?_ u1_same (c10.cg fun x h1 h2 j => u1_cell (by omega)) h
        · rw [u1_cell (by decide)]; exact c2.2.1
        · rw [u1_cell (by decide)]; exact e3
        · rw [u1_slot (by decide)]; exact c5
        · rw [u1_slot (by decide)]; exact c6
      · rw [u1_same]
        refine ⟨fun _ => ?_, fun q => absurd rfl q⟩
        rw [nI_1]
        obtain ⟨c1, c2, c3, c4, c5, c6, c7, c8, c9, c10⟩ := hC'
        have lt : st < en := t5 c1'
        refine ih (s + 1) a' en t' K' N' O' D' _ (by omega) (by omega) ha' hI' ⟨c1.cla (by omega) (by omega), ⟨c2.1, ?_, fun i hi => ?_⟩, c3, ?_, ?_, ?_, ?_, u1_same, ?_, c10.cg fun x h1 h2 j => u1_cell (by omega)⟩ ?_
        · rw [u1_cell (by decide)]; exact c2.2.1
        · rw [u1_cell (by decide)]; exact c2.2.2 i hi
        · rw [u1_cell (by decide)]; exact c4
        · rw [u1_slot (by decide)]; exact c5
        · rw [u1_slot (by decide)]; exact c6
        · rw [u1_slot (by decide)]; exact c7
        · rw [u1_slot (by decide)]; exact c9
        · rw [← hr]; exact h
    obtain ⟨c1, c2, c3, c4, c5, c6, c7, c8, c9, c10⟩ := id hC2
    rw [c7]
    refine ⟨fun q => ⟨fun y => ?_, fun y => F fun z => y (by rw [z.2]; rfl)⟩, fun q => F fun z => q (by rw [z.1]; rfl)⟩
    have q1 : c = 1 := (nI_eq (b := 1) (by omega) (by decide)).mp q
    have a0 : a = 0 := (nI_eq (b := 0) (by omega) (by decide)).mp y
    subst q1; subst a0
    exact C_end hI (pr_end hk) (by decide) c1 l160 c2.2.1 e3 c5 c6 c8 c10 h
end CTF
