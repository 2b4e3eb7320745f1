/-! ===== claims: the tokens of the reference ===== -/
def TQ (by' : Nat → Nat) (len : Nat) (σ : Sg) : Prop := len ≤ 160 ∧ σ.1 245 45 = nI len ∧ ∀ i, i < len → by' i < 256 ∧ σ.1 276 i = nI (by' i)
def JQ (σ σ' : Sg) : Prop := (∀ x, x ≠ 245 → ∀ j, σ'.1 x j = σ.1 x j) ∧ (∀ j, (j < 46 ∨ 51 < j) → σ'.1 245 j = σ.1 245 j) ∧ σ'.2 = σ.2
section JQS
variable {σ σ' σ'' : Sg} {by' : Nat → Nat} {len : Nat}
theorem JQ.rf : JQ σ σ := ⟨fun _ _ _ => rfl, fun _ _ => rfl, rfl⟩
theorem JQ.u {j : Nat} {y : Int32} (h : JQ σ σ') (h1 : 46 ≤ j) (h2 : j ≤ 51) : JQ σ (u1 σ' 245 j y) := by
  refine ⟨fun x hx b => ?_, fun b hb => ?_, h.2.2⟩
  · rw [u1_cell hx]; exact h.1 x hx b
  · rw [u1_slot (by omega)]; exact h.2.1 b hb
theorem JQ.tr (h : JQ σ σ') (g : JQ σ' σ'') : JQ σ σ'' := ⟨fun x hx j => (g.1 x hx j).trans (h.1 x hx j), fun j hj => (g.2.1 j hj).trans (h.2.1 j hj), g.2.2.trans h.2.2⟩
theorem TQ.j (h : TQ by' len σ) (g : JQ σ σ') : TQ by' len σ' := ⟨h.1, by rw [g.2.1 45 (by decide)]; exact h.2.1, fun i hi => by rw [g.1 276 (by decide)]; exact h.2.2 i hi⟩
end JQS
def lk (by' : Nat → Nat) (len p : Nat) : Int32 := if p < len then nI (by' p) else -1
theorem nI_tok : ∀ b, b < 256 → (nI b = 32 ↔ isB b = true) ∧ ((97 ≤ ((nI b).toInt64).toInt ∧ ((nI b).toInt64).toInt ≤ 122) ↔ isL b = true) ∧ ((48 ≤ ((nI b).toInt64).toInt ∧ ((nI b).toInt64).toInt ≤ 57) ↔ isD b = true) ∧ 0 ≤ nI b ∧ (nI b = 59 ↔ b = 59) ∧ (nI b = 44 ↔ b = 44) := by decide +kernel
section MTK
variable {N len st en : Nat} {by' : Nat → Nat} {σ : Sg} {Q : Option Value → Sg → Prop}
theorem lk_y {p : Nat} (h : p < len) : lk by' len p = nI (by' p) := if_pos h
theorem lk_n {p : Nat} (h : ¬ p < len) : lk by' len p = -1 := if_neg h
theorem M_look {q : Nat} (hP : TQ by' len σ) (hq : q < 400) (h : Q (some (.int (lk by' len q))) σ) : EvM N mX10_look [.ref 245, .int (nI q)] σ Q := by
  have l160 := hP.1
  refine EX10_look ⟨fun z => ?_, fun z => ?_⟩
  · rw [hP.2.1] at z
    have := (nI_leI (by omega) (by omega)).mp z
    rw [lk_n (by omega)] at h; exact h
  · rw [hP.2.1] at z
    have lt : q < len := by
      by_cases y : q < len
      · exact y
      · exact absurd (nI_le (by omega) (by omega)) z
    rw [cl (by omega), (hP.2.2 q lt).2]
    rw [lk_y lt] at h
    exact ⟨nvin (by omega) (by decide), h⟩
theorem M_w1 {c : Int32} (h : Q none σ) : EvM N mX10_wants [.ref 245, .int 1, .int c] σ Q := EX10_wants ⟨fun q => absurd q (by decide), fun _ => h⟩
theorem M_w0 {c : Int32} (h50 : σ.1 245 50 = 0) (h : Q none (u1 (u1 σ 245 50 c) 245 51 (σ.1 245 47))) : EvM N mX10_wants [.ref 245, .int 0, .int c] σ Q := by
  refine EX10_wants ⟨fun _ => ⟨fun _ => ?_, fun q => absurd h50 q⟩, fun q => absurd rfl q⟩
  rw [u1_slot (by decide)]; exact h
theorem M_wf {c b : Int32} (h50 : ¬ σ.1 245 50 = 0) (h : Q none σ) : EvM N mX10_wants [.ref 245, .int b, .int c] σ Q := EX10_wants ⟨fun _ => ⟨fun q => absurd q h50, fun _ => h⟩, fun _ => h⟩
def isW (by' : Nat → Nat) (st en n a b c d e : Nat) : Prop := en - st = n ∧ by' st = a ∧ by' (st + 1) = b ∧ (3 ≤ n → by' (st + 2) = c ∧ by' (st + 3) = d) ∧ (5 ≤ n → by' (st + 4) = e)
theorem M_is {n a b c d e : Nat} (hP : TQ by' len σ) (h6 : σ.1 245 46 = nI en) (h7 : σ.1 245 47 = nI st) (hse : st ≤ en) (hel : en ≤ len) (n2 : 2 ≤ n) (n3 : n ≠ 3) (n6 : n ≤ 6) (ha : a < 256) (hb : b < 256) (hc : c < 256) (hd : d < 256) (he : e < 256) (h1 : isW by' st en n a b c d e → Q (some (.int 1)) σ) (h0 : ¬ isW by' st en n a b c d e → Q (some (.int 0)) σ) : EvM (N + 1) mX10_is [.ref 245, .int (nI n), .int (nI a), .int (nI b), .int (nI c), .int (nI d), .int (nI e)] σ Q := by
  have l160 := hP.1
  have q : ∀ k x, st + k < len → x < 256 → (lk by' len (st + k) = nI x ↔ by' (st + k) = x) := fun k x hk hx => by
    rw [lk_y hk]
    exact nI_eq (by have := (hP.2.2 _ hk).1; omega) (by omega)
  have n3I : nI n < 3 ↔ n < 3 := nI_ltI (b := 3) (by omega) (by decide)
  have n5I : nI n < 5 ↔ n < 5 := nI_ltI (b := 5) (by omega) (by decide)
  refine EX10_is ?_
  rw [h6, h7, pk_sub hse]
  refine ⟨fun z => ?_, fun z => h0 fun w => z (by rw [w.1])⟩
  have zn : en - st = n := (nI_eq (by omega) (by omega)).mp z
  refine M_look hP (by omega) ⟨_, rfl, fun y1 => ?_, fun y1 => h0 fun w => y1 ((q 0 a (by omega) ha).mpr w.2.1)⟩
  have w1 := (q 0 a (by omega) ha).mp y1
  rw [h7, show nI st + 1 = nI (st + 1) from nI_add st 1]
  refine M_look hP (by omega) ⟨_, rfl, fun y2 => ?_, fun y2 => h0 fun w => y2 ((q 1 b (by omega) hb).mpr w.2.2.1)⟩
  have w2 := (q 1 b (by omega) hb).mp y2
  refine ⟨fun y3 => ⟨fun _ => h1 ⟨zn, w1, w2, fun k => by have := n3I.mp y3; omega, fun k => by have := n3I.mp y3; omega⟩, fun y4 => absurd (n5I.mpr (by have := n3I.mp y3; omega)) y4⟩, fun y3 => ?_⟩
  have g3 : 4 ≤ n := by
    by_cases k : 4 ≤ n
    · exact k
    · exact absurd (n3I.mpr (by omega)) y3
  rw [h7, show nI st + 2 = nI (st + 2) from nI_add st 2]
  refine M_look hP (by omega) ⟨_, rfl, fun y4 => ?_, fun y4 => h0 fun w => y4 ((q 2 c (by omega) hc).mpr (w.2.2.2.1 (by omega)).1)⟩
  have w3 := (q 2 c (by omega) hc).mp y4
  rw [h7, show nI st + 3 = nI (st + 3) from nI_add st 3]
  refine M_look hP (by omega) ⟨_, rfl, fun y5 => ?_, fun y5 => h0 fun w => y5 ((q 3 d (by omega) hd).mpr (w.2.2.2.1 (by omega)).2)⟩
  have w4 := (q 3 d (by omega) hd).mp y5
  refine ⟨fun y6 => h1 ⟨zn, w1, w2, fun _ => ⟨w3, w4⟩, fun k => by have := n5I.mp y6; omega⟩, fun y6 => ?_⟩
  have g5 : 5 ≤ n := by
    by_cases k : 5 ≤ n
    · exact k
    · exact absurd (n5I.mpr (by omega)) y6
  rw [h7, show nI st + 4 = nI (st + 4) from nI_add st 4]
  refine M_look hP (by omega) ⟨_, rfl, fun y7 => ?_, fun y7 => h0 fun w => y7 ((q 4 e (by omega) he).mpr (w.2.2.2.2 g5))⟩
  exact h1 ⟨zn, w1, w2, fun _ => ⟨w3, w4⟩, fun _ => (q 4 e (by omega) he).mp y7⟩
theorem eqW_0 : eqW by' st en 0 ↔ isW by' st en 2 111 110 0 0 0 := by
  constructor
  · rintro ⟨h1, h2⟩
    exact ⟨h1, h2 0 (by decide), h2 1 (by decide), fun k => absurd k (by decide), fun k => absurd k (by decide)⟩
  · rintro ⟨h1, h2, h3, h4, h5⟩
    refine ⟨h1, fun x hx => ?_⟩
    rcases (show x = 0 ∨ x = 1 by have : x < 2 := hx; omega) with r | r <;> subst r
    · exact h2
    · exact h3
theorem eqW_4 {i a b c d : Nat} (hi : s_len.getD i 0 = 4) (h0 : sC i 0 = a) (h1 : sC i 1 = b) (h2 : sC i 2 = c) (h3 : sC i 3 = d) : eqW by' st en i ↔ isW by' st en 4 a b c d 0 := by
  unfold eqW
  rw [hi]
  constructor
  · rintro ⟨g1, g2⟩
    exact ⟨g1, (g2 0 (by decide)).trans h0, (g2 1 (by decide)).trans h1, fun _ => ⟨(g2 2 (by decide)).trans h2, (g2 3 (by decide)).trans h3⟩, fun k => absurd k (by decide)⟩
  · rintro ⟨g1, g2, g3, g4, g5⟩
    refine ⟨g1, fun x hx => ?_⟩
    rcases (show x = 0 ∨ x = 1 ∨ x = 2 ∨ x = 3 by omega) with r | r | r | r <;> subst r
    · exact g2.trans h0.symm
    · exact g3.trans h1.symm
    · exact (g4 (by decide)).1.trans h2.symm
    · exact (g4 (by decide)).2.trans h3.symm
theorem eqW_2 : eqW by' st en 2 ↔ isW by' st en 5 115 111 117 110 100 := by
  constructor
  · rintro ⟨g1, g2⟩
    exact ⟨g1, g2 0 (by decide), g2 1 (by decide), fun _ => ⟨g2 2 (by decide), g2 3 (by decide)⟩, fun _ => g2 4 (by decide)⟩
  · rintro ⟨g1, g2, g3, g4, g5⟩
    refine ⟨g1, fun x hx => ?_⟩
    rcases (show x = 0 ∨ x = 1 ∨ x = 2 ∨ x = 3 ∨ x = 4 by have : x < 5 := hx; omega) with r | r | r | r | r <;> subst r
    · exact g2
    · exact g3
    · exact (g4 (by decide)).1
    · exact (g4 (by decide)).2
    · exact g5 (by decide)
theorem eqW_5 : eqW by' st en 5 ↔ (isW by' st en 6 116 111 110 103 117 ∧ by' (st + 5) = 101) := by
  constructor
  · rintro ⟨g1, g2⟩
    exact ⟨⟨g1, g2 0 (by decide), g2 1 (by decide), fun _ => ⟨g2 2 (by decide), g2 3 (by decide)⟩, fun _ => g2 4 (by decide)⟩, g2 5 (by decide)⟩
  · rintro ⟨⟨g1, g2, g3, g4, g5⟩, g6⟩
    refine ⟨g1, fun x hx => ?_⟩
    rcases (show x = 0 ∨ x = 1 ∨ x = 2 ∨ x = 3 ∨ x = 4 ∨ x = 5 by have : x < 6 := hx; omega) with r | r | r | r | r | r <;> subst r
    · exact g2
    · exact g3
    · exact (g4 (by decide)).1
    · exact (g4 (by decide)).2
    · exact g5 (by decide)
    · exact g6
theorem nameK_on (h : eqW by' st en 0) : nameK by' st en = 5 := by unfold nameK; rw [if_pos (eqB_iff.mpr h)]
theorem nameK_is {k : Nat} (hk : k < 5) (h : eqW by' st en (k + 1)) (hn : ∀ i, i < k → ¬ eqW by' st en (i + 1)) : nameK by' st en = k := by
  obtain ⟨l1, l2, l3⟩ := lst_ok (fun k => eqB by' st en (k + 1)) 5
  have w' : ¬ eqB by' st en 0 = true := fun q => by
    have a := (eqB_iff.mp q).1
    have b := h.1
    rw [b] at a
    rcases (show k = 0 ∨ k = 1 ∨ k = 2 ∨ k = 3 ∨ k = 4 by omega) with r | r | r | r | r <;> subst r <;> exact absurd a (by decide)
  have lk' : lst (fun k => eqB by' st en (k + 1)) 5 = k := by
    rcases Nat.lt_trichotomy (lst (fun k => eqB by' st en (k + 1)) 5) k with z | z | z
    · exact absurd (eqB_iff.mp (l3 (by omega))) (hn _ z)
    · exact z
    · have := l2 k z
      exact absurd (eqB_iff.mpr h) (by simpa using this)
  unfold nameK; rw [if_neg w', lk', if_pos hk]
theorem nameK_no (h : ∀ i, i < 6 → ¬ eqW by' st en i) : nameK by' st en = 6 := by
  obtain ⟨l1, l2, l3⟩ := lst_ok (fun k => eqB by' st en (k + 1)) 5
  unfold nameK
  rw [if_neg (fun q => h 0 (by decide) (eqB_iff.mp q)), if_neg (fun q => h _ (by omega) (eqB_iff.mp (l3 q)))]
def nmV (k : Nat) : Int32 := if k < 5 then nI k else if k = 5 then 5 else -4
theorem M_nameNow (hP : TQ by' len σ) (h6 : σ.1 245 46 = nI en) (h7 : σ.1 245 47 = nI st) (hse : st ≤ en) (hel : en ≤ len) (h : Q (some (.int (nmV (nameK by' st en)))) σ) : EvM (N + 2) mX10_nameNow [.ref 245] σ Q := by
  have l160 := hP.1
  have O : (∀ i, i < 5 → ¬ eqW by' st en (i + 1)) → EvM (N + 1) mX10_is [.ref 245, .int 2, .int 111, .int 110, .int 0, .int 0, .int 0] σ (fun r9 σ6 => ∃ v6, r9 = some (.int v6) ∧ ((v6 = 0 → Q (some (.int (-4))) σ6) ∧ (¬ v6 = 0 → Q (some (.int 5)) σ6))) := by
    intro hn
    refine M_is (n := 2) (a := 111) (b := 110) (c := 0) (d := 0) (e := 0) hP h6 h7 hse hel (by decide) (by decide) (by decide) (by decide) (by decide) (by decide) (by decide) (by decide) (fun w => ⟨1, rfl, fun q => absurd q (by decide), fun _ => ?_⟩) (fun w => ⟨0, rfl, fun _ => ?_, fun q => absurd rfl q⟩)
    · rw [nameK_on (eqW_0.mpr w)] at h; exact h
    · rw [nameK_no (fun i hi => by
        by_cases z : i = 0
        · rw [z]; exact fun q => w (eqW_0.mp q)
        · have := hn (i - 1) (by omega)
          rw [show i - 1 + 1 = i by omega] at this; exact this)] at h
      exact h
  refine EX10_nameNow ?_
  refine M_is (n := 4) (a := 115) (b := 105) (c := 103) (d := 110) (e := 0) hP h6 h7 hse hel (by decide) (by decide) (by decide) (by decide) (by decide) (by decide) (by decide) (by decide) (fun w => ⟨1, rfl, fun q => absurd q (by decide), fun _ => ?_⟩) (fun w1 => ⟨0, rfl, fun _ => ?_, fun q => absurd rfl q⟩)
  · rw [nameK_is (k := 0) (by decide) ((eqW_4 rfl rfl rfl rfl rfl).mpr w) (fun i hi => absurd hi (by omega))] at h; exact h
  have x1 : ¬ eqW by' st en (0 + 1) := fun q => w1 ((eqW_4 rfl rfl rfl rfl rfl).mp q)
  refine M_is (n := 5) (a := 115) (b := 111) (c := 117) (d := 110) (e := 100) hP h6 h7 hse hel (by decide) (by decide) (by decide) (by decide) (by decide) (by decide) (by decide) (by decide) (fun w => ⟨1, rfl, fun q => absurd q (by decide), fun _ => ?_⟩) (fun w2 => ⟨0, rfl, fun _ => ?_, fun q => absurd rfl q⟩)
  · rw [nameK_is (k := 1) (by decide) (eqW_2.mpr w) (fun i hi => by rw [show i = 0 by omega]; exact x1)] at h; exact h
  have x2 : ¬ eqW by' st en (1 + 1) := fun q => w2 (eqW_2.mp q)
  refine M_is (n := 4) (a := 119) (b := 111) (c := 114) (d := 100) (e := 0) hP h6 h7 hse hel (by decide) (by decide) (by decide) (by decide) (by decide) (by decide) (by decide) (by decide) (fun w => ⟨1, rfl, fun q => absurd q (by decide), fun _ => ?_⟩) (fun w3 => ⟨0, rfl, fun _ => ?_, fun q => absurd rfl q⟩)
  · rw [nameK_is (k := 2) (by decide) ((eqW_4 rfl rfl rfl rfl rfl).mpr w) (fun i hi => by
      rcases (show i = 0 ∨ i = 1 by omega) with r | r <;> rw [r]
      · exact x1
      · exact x2)] at h; exact h
  have x3 : ¬ eqW by' st en (2 + 1) := fun q => w3 ((eqW_4 rfl rfl rfl rfl rfl).mp q)
  refine M_is (n := 4) (a := 110) (b := 97) (c := 109) (d := 101) (e := 0) hP h6 h7 hse hel (by decide) (by decide) (by decide) (by decide) (by decide) (by decide) (by decide) (by decide) (fun w => ⟨1, rfl, fun q => absurd q (by decide), fun _ => ?_⟩) (fun w4 => ⟨0, rfl, fun _ => ?_, fun q => absurd rfl q⟩)
  · rw [nameK_is (k := 3) (by decide) ((eqW_4 rfl rfl rfl rfl rfl).mpr w) (fun i hi => by
      rcases (show i = 0 ∨ i = 1 ∨ i = 2 by omega) with r | r | r <;> rw [r]
      · exact x1
      · exact x2
      · exact x3)] at h; exact h
  have x4 : ¬ eqW by' st en (3 + 1) := fun q => w4 ((eqW_4 rfl rfl rfl rfl rfl).mp q)
  have x14 : ∀ i, i < 4 → ¬ eqW by' st en (i + 1) := fun i hi => by
    rcases (show i = 0 ∨ i = 1 ∨ i = 2 ∨ i = 3 by omega) with r | r | r | r <;> rw [r]
    · exact x1
    · exact x2
    · exact x3
    · exact x4
  have x15 : ¬ eqW by' st en 5 → ∀ i, i < 5 → ¬ eqW by' st en (i + 1) := fun x5 i hi => by
    by_cases z : i = 4
    · rw [z]; exact x5
    · exact x14 i (by omega)
  refine M_is (n := 6) (a := 116) (b := 111) (c := 110) (d := 103) (e := 117) hP h6 h7 hse hel (by decide) (by decide) (by decide) (by decide) (by decide) (by decide) (by decide) (by decide) (fun w => ⟨1, rfl, fun q => absurd q (by decide), fun _ => ?_⟩) (fun w5 => ⟨0, rfl, fun _ => O (x15 fun q => w5 (eqW_5.mp q).1), fun q => absurd rfl q⟩)
  rw [h7, show nI st + 5 = nI (st + 5) from nI_add st 5]
  have lt : st + 5 < len := by have := w.1; omega
  refine M_look hP (by omega) ⟨_, rfl, ?_⟩
  rw [lk_y lt]
  have be : nI (by' (st + 5)) = 101 ↔ by' (st + 5) = 101 := nI_eq (b := 101) (by have := (hP.2.2 _ lt).1; omega) (by decide)
  refine ⟨fun y => ?_, fun y => O (x15 fun q => y (be.mpr (eqW_5.mp q).2))⟩
  rw [nameK_is (k := 4) (by decide) (eqW_5.mpr ⟨w, be.mp y⟩) x14] at h; exact h
end MTK
