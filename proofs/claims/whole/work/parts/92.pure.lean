/-! ===== claims: what a text of claims says ===== -/
def up (f : Nat → Nat) (i x : Nat) : Nat → Nat := fun k => if k = i then x else f k
theorem up_s {f : Nat → Nat} {i x : Nat} : up f i x i = x := if_pos rfl
theorem up_o {f : Nat → Nat} {i x k : Nat} (h : k ≠ i) : up f i x k = f k := if_neg h
def twP (G : Nat → Bool) (K N : Nat → Nat) (t v : Nat) : Nat → Bool := fun k => !G k && (K k == K t) && (N k == v)
theorem twP_iff {G : Nat → Bool} {K N : Nat → Nat} {t v k : Nat} : twP G K N t v k = true ↔ (G k = false ∧ K k = K t ∧ N k = v) := by
  unfold twP
  rw [Bool.and_eq_true, Bool.and_eq_true, beq_iff_eq, beq_iff_eq, Bool.not_eq_true', and_assoc]
abbrev PRt : Type := Nat × Nat × Nat × (Nat → Nat) × (Nat → Nat) × (Nat → Nat) × (Nat → Nat)
def PR (by' : Nat → Nat) (len : Nat) (G : Nat → Bool) : Nat → Nat → Nat → Nat → (Nat → Nat) → (Nat → Nat) → (Nat → Nat) → (Nat → Nat) → PRt
  | 0, _, _, t, K, N, O, D => (0, 0, t, K, N, O, D)
  | n + 1, a, p, t, K, N, O, D =>
    if (tok by' len p).1 = 1 ∧ a = 0 then (0, (tok by' len p).2.2.1, t, K, N, O, D)
    else if (tok by' len p).1 = 0 then (1, (tok by' len p).2.2.1, t, K, N, O, D)
    else if a = 0 then
      (if (tok by' len p).1 = 2 then (if t < 20 then PR by' len G n 1 (tok by' len p).2.2.2 t (up K t (tok by' len p).2.1) N (up O t 0) (up D t 0) else (5, (tok by' len p).2.2.1, t, K, N, O, D)) else (2, (tok by' len p).2.2.1, t, K, N, O, D))
    else if a = 1 then
      (if (tok by' len p).1 = 4 then (if lst (twP G K N t (tok by' len p).2.1) t < t then (4, (tok by' len p).2.2.1, t, K, N, O, D) else PR by' len G n 2 (tok by' len p).2.2.2 t K (up N t (tok by' len p).2.1) O D) else (2, (tok by' len p).2.2.1, t, K, N, O, D))
    else if a = 3 then
      (if (tok by' len p).1 = 4 then (if (tok by' len p).2.1 < t ∧ G (tok by' len p).2.1 = false ∧ (O t).testBit (tok by' len p).2.1 = false then PR by' len G n 4 (tok by' len p).2.2.2 t K N (up O t (O t ||| 2 ^ (tok by' len p).2.1)) (up D t (if D t < D (tok by' len p).2.1 + 1 then D (tok by' len p).2.1 + 1 else D t)) else (3, (tok by' len p).2.2.1, t, K, N, O, D)) else (2, (tok by' len p).2.2.1, t, K, N, O, D))
    else if (tok by' len p).1 = (if a = 2 then 3 else 5) then PR by' len G n 3 (tok by' len p).2.2.2 t K N O D
    else if (tok by' len p).1 = 6 then PR by' len G n 0 (tok by' len p).2.2.2 (t + 1) K N O D
    else (2, (tok by' len p).2.2.1, t, K, N, O, D)
section PRS
variable {by' : Nat → Nat} {len : Nat} {G : Nat → Bool} {n a p t c v st en : Nat} {K N O D : Nat → Nat}
theorem pr_end (hk : tok by' len p = (1, v, st, en)) : PR by' len G (n + 1) 0 p t K N O D = (0, st, t, K, N, O, D) := by
  unfold PR; rw [hk]; exact if_pos ⟨rfl, rfl⟩
theorem pr_str (hk : tok by' len p = (0, v, st, en)) : PR by' len G (n + 1) a p t K N O D = (1, st, t, K, N, O, D) := by
  unfold PR; rw [hk, if_neg (fun q => absurd (show (0 : Nat) = 1 from q.1) (by decide))]; exact if_pos rfl
theorem pr_0 (hk : tok by' len p = (c, v, st, en)) (h0 : c ≠ 0) (h1 : c ≠ 1) : PR by' len G (n + 1) 0 p t K N O D = (if c = 2 then (if t < 20 then PR by' len G n 1 en t (up K t v) N (up O t 0) (up D t 0) else (5, st, t, K, N, O, D)) else (2, st, t, K, N, O, D)) := by
  conv => lhs; unfold PR
  rw [hk, if_neg (fun q => h1 q.1), if_neg h0, if_pos rfl]
theorem pr_1 (hk : tok by' len p = (c, v, st, en)) (h0 : c ≠ 0) : PR by' len G (n + 1) 1 p t K N O D = (if c = 4 then (if lst (twP G K N t v) t < t then (4, st, t, K, N, O, D) else PR by' len G n 2 en t K (up N t v) O D) else (2, st, t, K, N, O, D)) := by
  conv => lhs; unfold PR
  rw [hk, if_neg (fun q => absurd q.2 (by decide)), if_neg h0, if_neg (by decide), if_pos rfl]
theorem pr_3 (hk : tok by' len p = (c, v, st, en)) (h0 : c ≠ 0) : PR by' len G (n + 1) 3 p t K N O D = (if c = 4 then (if v < t ∧ G v = false ∧ (O t).testBit v = false then PR by' len G n 4 en t K N (up O t (O t ||| 2 ^ v)) (up D t (if D t < D v + 1 then D v + 1 else D t)) else (3, st, t, K, N, O, D)) else (2, st, t, K, N, O, D)) := by
  conv => lhs; unfold PR
  rw [hk, if_neg (fun q => absurd q.2 (by decide)), if_neg h0, if_neg (by decide), if_neg (by decide), if_pos rfl]
theorem pr_2 (hk : tok by' len p = (c, v, st, en)) (h0 : c ≠ 0) : PR by' len G (n + 1) 2 p t K N O D = (if c = 3 then PR by' len G n 3 en t K N O D else if c = 6 then PR by' len G n 0 en (t + 1) K N O D else (2, st, t, K, N, O, D)) := by
  conv => lhs; unfold PR
  rw [hk, if_neg (fun q => absurd q.2 (by decide)), if_neg h0, if_neg (by decide), if_neg (by decide), if_neg (by decide), if_pos (show (2 : Nat) = 2 from rfl)]
theorem pr_4 (hk : tok by' len p = (c, v, st, en)) (h0 : c ≠ 0) : PR by' len G (n + 1) 4 p t K N O D = (if c = 5 then PR by' len G n 3 en t K N O D else if c = 6 then PR by' len G n 0 en (t + 1) K N O D else (2, st, t, K, N, O, D)) := by
  conv => lhs; unfold PR
  rw [hk, if_neg (fun q => absurd q.2 (by decide)), if_neg h0, if_neg (by decide), if_neg (by decide), if_neg (by decide), if_neg (show ¬ (4 : Nat) = 2 by decide)]
end PRS
theorem dpt_cg {O O' D D' : Nat → Nat} {k : Nat} (ho : O' k = O k) : ∀ n, (∀ j, j < n → D' j = D j) → dpt O' D' k n = dpt O D k n
  | 0, _ => rfl
  | n + 1, h => by
    unfold dpt
    rw [ho, dpt_cg ho n (fun j hj => h j (by omega)), h n (by omega)]
theorem dpt_ad {O O' D D' : Nat → Nat} {k v : Nat} (hO : O' k = O k ||| 2 ^ v) (hv : (O k).testBit v = false) : ∀ n, (∀ j, j < n → D' j = D j) → dpt O' D' k n = if v < n then (if dpt O D k n < D v + 1 then D v + 1 else dpt O D k n) else dpt O D k n
  | 0, _ => (if_neg (Nat.not_lt_zero v)).symm
  | n + 1, h => by
    have ih := dpt_ad hO hv n (fun j hj => h j (by omega))
    conv => lhs; unfold dpt
    conv => rhs; unfold dpt
    rw [hO, Nat.testBit_or, Nat.testBit_two_pow, h n (by omega), ih]
    by_cases e : v = n
    · subst e
      rw [if_neg (Nat.lt_irrefl v), hv, if_pos (Nat.lt_succ_self v)]
      simp
    · rw [show decide (v = n) = false by simpa using e, Bool.or_false]
      by_cases l : v < n
      · rw [if_pos l, if_pos (show v < n + 1 by omega)]
        by_cases b : (O k).testBit n = true
        · simp only [b, true_and]
          split <;> split <;> (try split) <;> (try split) <;> omega
        · simp only [b, false_and, if_false]
          rfl
      · rw [if_neg l, if_neg (show ¬ v < n + 1 by omega)]
theorem dpt_0 {O D : Nat → Nat} {k : Nat} (h : O k = 0) : ∀ n, dpt O D k n = 0
  | 0 => rfl
  | n + 1 => by
    unfold dpt
    rw [h, dpt_0 h n, if_neg (fun q => by rw [Nat.zero_testBit] at q; exact absurd q.1 (by decide))]
/-- what holds of the claims read so far -/
def PI (nC : Nat) (G : Nat → Bool) (a t : Nat) (K N O D : Nat → Nat) : Prop := t ≤ 20 ∧ nC ≤ t ∧ (a ≠ 0 → t < 20) ∧ (∀ k, k < t ∨ (k = t ∧ a ≠ 0) → K k < 5 ∧ O k < 2 ^ k ∧ D k = dpt O D k k ∧ D k ≤ k ∧ ∀ j, (O k).testBit j = true → G j = true → G k = true) ∧ ∀ k, k < t ∨ (k = t ∧ 2 ≤ a) → N k < 100
section PII
variable {nC a t v : Nat} {G : Nat → Bool} {K N O D : Nat → Nat}
theorem PI.opn (h : PI nC G 0 t K N O D) (ht : t < 20) (hv : v < 5) : PI nC G 1 t (up K t v) N (up O t 0) (up D t 0) := by
  obtain ⟨h1, h2, h3, h4, h5⟩ := h
  refine ⟨h1, h2, fun _ => ht, fun k hk => ?_, fun k hk => h5 k (by omega)⟩
  by_cases e : k = t
  · subst e
    rw [up_s, up_s, up_s, dpt_0 up_s]
    refine ⟨hv, Nat.pow_pos (by decide), rfl, Nat.zero_le _, fun j hj => ?_⟩
    rw [Nat.zero_testBit] at hj; exact absurd hj (by decide)
  · obtain ⟨a1, a2, a3, a4, a5⟩ := h4 k (by omega)
    rw [up_o e, up_o e, up_o e, dpt_cg (up_o e) k (fun j hj => up_o (by omega))]
    exact ⟨a1, a2, a3, a4, a5⟩
theorem PI.tell (h : PI nC G 1 t K N O D) (hv : v < 100) : PI nC G 2 t K (up N t v) O D := by
  obtain ⟨h1, h2, h3, h4, h5⟩ := h
  refine ⟨h1, h2, fun _ => h3 (by decide), fun k hk => h4 k (by omega), fun k hk => ?_⟩
  by_cases e : k = t
  · subst e; rw [up_s]; exact hv
  · rw [up_o e]; exact h5 k (by omega)
theorem PI.go (h : PI nC G a t K N O D) (ha : 2 ≤ a) (b : Nat) (hb : 2 ≤ b) : PI nC G b t K N O D := by
  obtain ⟨h1, h2, h3, h4, h5⟩ := h
  exact ⟨h1, h2, fun _ => h3 (by omega), fun k hk => h4 k (by omega), fun k hk => h5 k (by omega)⟩
theorem PI.stop (h : PI nC G a t K N O D) (ha : 2 ≤ a) : PI nC G 0 (t + 1) K N O D := by
  obtain ⟨h1, h2, h3, h4, h5⟩ := h
  have := h3 (by omega)
  exact ⟨by omega, by omega, fun q => absurd rfl q, fun k hk => h4 k (by omega), fun k hk => h5 k (by omega)⟩
theorem PI.hang (h : PI nC G 3 t K N O D) (hv : v < t) (hg : G v = false) (ho : (O t).testBit v = false) : PI nC G 4 t K N (up O t (O t ||| 2 ^ v)) (up D t (if D t < D v + 1 then D v + 1 else D t)) := by
  obtain ⟨h1, h2, h3, h4, h5⟩ := h
  refine ⟨h1, h2, fun _ => h3 (by decide), fun k hk => ?_, fun k hk => h5 k (by omega)⟩
  by_cases e : k = t
  · subst e
    obtain ⟨a1, a2, a3, a4, a5⟩ := h4 k (by omega)
    have b4 := (h4 v (by omega)).2.2.2.1
    rw [up_s, up_s, dpt_ad up_s ho k (fun j hj => up_o (by omega)), if_pos hv, ← a3]
    refine ⟨a1, Nat.or_lt_two_pow a2 (Nat.pow_lt_pow_right (by decide) hv), rfl, ?_, fun j hj gj => ?_⟩
    · split <;> omega
    · rw [Nat.testBit_or, Nat.testBit_two_pow] at hj
      by_cases z : v = j
      · subst z; rw [hg] at gj; exact absurd gj (by decide)
      · rw [show decide (v = j) = false by simpa using z, Bool.or_false] at hj
        exact a5 j hj gj
  · obtain ⟨a1, a2, a3, a4, a5⟩ := h4 k (by omega)
    rw [up_o e, up_o e, dpt_cg (up_o e) k (fun j hj => up_o (by omega))]
    exact ⟨a1, a2, a3, a4, a5⟩
end PII
