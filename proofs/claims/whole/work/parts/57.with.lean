/-! ===== what hangs on a claim ===== -/
/-- bits of what hangs on claim k, when m claims behind it have been looked at -/
def hs (keep : Nat → Bool) (on : Nat → Nat) (k : Nat) : Nat → Nat
  | 0 => 2 ^ k
  | m + 1 => if keep (k + 1 + m) = true ∧ ¬ on (k + 1 + m) &&& hs keep on k m = 0 then hs keep on k m ||| 2 ^ (k + 1 + m) else hs keep on k m
theorem and_ne {a b : Nat} : (¬ a &&& b = 0) ↔ ∃ l, a.testBit l = true ∧ b.testBit l = true := by
  constructor
  · intro h
    obtain ⟨i, hi⟩ := Nat.exists_testBit_of_ne_zero h
    rw [Nat.testBit_and] at hi
    exact ⟨i, by simpa using hi⟩
  · rintro ⟨l, h1, h2⟩ e
    have := congrArg (fun n => Nat.testBit n l) e
    simp [h1, h2] at this
section HS
variable {keep : Nat → Bool} {on : Nat → Nat} {k : Nat}
theorem hs_y {m : Nat} (h : keep (k + 1 + m) = true ∧ ¬ on (k + 1 + m) &&& hs keep on k m = 0) : hs keep on k (m + 1) = hs keep on k m ||| 2 ^ (k + 1 + m) := if_pos h
theorem hs_n {m : Nat} (h : ¬ (keep (k + 1 + m) = true ∧ ¬ on (k + 1 + m) &&& hs keep on k m = 0)) : hs keep on k (m + 1) = hs keep on k m := if_neg h
theorem hs_s {m i : Nat} : (hs keep on k (m + 1)).testBit i = true ↔ (hs keep on k m).testBit i = true ∨ (i = k + 1 + m ∧ keep (k + 1 + m) = true ∧ ¬ on (k + 1 + m) &&& hs keep on k m = 0) := by
  by_cases h : keep (k + 1 + m) = true ∧ ¬ on (k + 1 + m) &&& hs keep on k m = 0
  · rw [hs_y h, Nat.testBit_or, Nat.testBit_two_pow]
    constructor
    · intro q
      by_cases c : (hs keep on k m).testBit i = true
      · exact Or.inl c
      · right
        rw [show (hs keep on k m).testBit i = false by simpa using c] at q
        have : k + 1 + m = i := by simpa using q
        exact ⟨this.symm, h⟩
    · rintro (c | ⟨e, _⟩)
      · rw [c]; rfl
      · rw [e]; simp
  · rw [hs_n h]
    constructor
    · exact Or.inl
    · rintro (c | ⟨_, q⟩)
      · exact c
      · exact absurd q h
theorem hs_off : ∀ m i, (hs keep on k m).testBit i = true → i < k + 1 + m ∧ k ≤ i
  | 0, i, h => by
    unfold hs at h
    rw [Nat.testBit_two_pow] at h
    have := of_decide_eq_true h
    omega
  | m + 1, i, h => by
    rcases hs_s.mp h with c | ⟨e, _⟩
    · have := hs_off m i c; omega
    · omega
theorem hs_lt (m : Nat) : hs keep on k m < 2 ^ (k + 1 + m) := by
  refine Nat.lt_pow_two_of_testBit _ (fun i hi => ?_)
  by_cases c : (hs keep on k m).testBit i = true
  · have := (hs_off m i c).1; omega
  · simpa using c
theorem hs_mono {m i : Nat} (h : (hs keep on k m).testBit i = true) : ∀ d, (hs keep on k (m + d)).testBit i = true
  | 0 => h
  | d + 1 => hs_s.mpr (Or.inl (hs_mono h d))
end HS
section HG
variable {nC : Nat} {on : Nat → Nat} {gd : Nat → Bool} {k : Nat}
theorem hs_eq (cl9 : ∀ k, k < nC → ∀ j, j < nC → (on j).testBit k = true → gd k = true → gd j = true) (hg : gd k = false) : ∀ m, k + 1 + m ≤ nC → ∀ i, (hs (fun j => !gd j) on k m).testBit i = true ↔ ((hs (fun _ => true) on k m).testBit i = true ∧ gd i = false)
  | 0, _, i => by
    unfold hs
    rw [Nat.testBit_two_pow]
    constructor
    · intro h
      exact ⟨h, by rw [← of_decide_eq_true h]; exact hg⟩
    · exact fun h => h.1
  | m + 1, hm, i => by
    have ih := hs_eq cl9 hg m (by omega)
    rw [hs_s, hs_s]
    constructor
    · rintro (c | ⟨e, g, ne⟩)
      · exact ⟨Or.inl ((ih i).mp c).1, ((ih i).mp c).2⟩
      · obtain ⟨l, l1, l2⟩ := and_ne.mp ne
        refine ⟨Or.inr ⟨e, rfl, and_ne.mpr ⟨l, l1, ((ih l).mp l2).1⟩⟩, ?_⟩
        rw [e]
        simpa using g
    · rintro ⟨c | ⟨e, _, ne⟩, g⟩
      · exact Or.inl ((ih i).mpr ⟨c, g⟩)
      · right
        obtain ⟨l, l1, l2⟩ := and_ne.mp ne
        have hl := (hs_off m l l2).1
        rw [e] at g
        refine ⟨e, by simpa using g, and_ne.mpr ⟨l, l1, (ih l).mpr ⟨l2, ?_⟩⟩⟩
        by_cases y : gd l = true
        · have := cl9 l (by omega) (k + 1 + m) (by omega) l1 y
          rw [g] at this
          exact absurd this (by decide)
        · simpa using y
/-- what hangs on one of these is one of these -/
theorem hs_cl {m j i : Nat} (hon : on j < 2 ^ j) (hj : j < k + 1 + m) (hi : (hs (fun j => !gd j) on k m).testBit i = true) (hb : (on j).testBit i = true) (hg : gd j = false) : (hs (fun j => !gd j) on k m).testBit j = true := by
  have ij : i < j := by
    have h1 := Nat.ge_two_pow_of_testBit hb
    by_cases c : i < j
    · exact c
    · have := Nat.pow_le_pow_right (show 0 < 2 by decide) (show j ≤ i by omega)
      omega
  have hk := (hs_off m i hi).2
  obtain ⟨n, rfl⟩ : ∃ n, j = k + 1 + n := ⟨j - (k + 1), by omega⟩
  obtain ⟨d, rfl⟩ : ∃ d, m = n + 1 + d := ⟨m - (n + 1), by omega⟩
  -- the bit of i stands already when n claims have been looked at
  have down : ∀ e, (hs (fun j => !gd j) on k (n + e)).testBit i = true → (hs (fun j => !gd j) on k n).testBit i = true := by
    intro e
    induction e with
    | zero => exact id
    | succ e ih =>
      intro h
      rw [show n + (e + 1) = n + e + 1 from rfl] at h
      rcases hs_s.mp h with c | ⟨q, _⟩
      · exact ih c
      · omega
  have h0 : (hs (fun j => !gd j) on k n).testBit i = true := down (1 + d) (by rw [← Nat.add_assoc]; exact hi)
  exact hs_mono (hs_s.mpr (Or.inr ⟨rfl, by rw [hg]; rfl, and_ne.mpr ⟨i, hb, h0⟩⟩)) d
end HG
theorem pc_cnt (n : Nat) : ∀ k, pc k n = cnt (fun i => n.testBit i) k
  | 0 => rfl
  | k + 1 => by
    rw [cnt_s, ← pc_cnt n k]
    show pc k n + n / 2 ^ k % 2 = _
    rw [Nat.testBit_eq_decide_div_mod_eq]
    have := Nat.mod_lt (n / 2 ^ k) (show 0 < 2 by decide)
    by_cases c : n / 2 ^ k % 2 = 1
    · rw [if_pos (decide_eq_true c), c]
    · rw [if_neg (fun q => c (of_decide_eq_true q))]; omega
theorem cnt_off {p : Nat → Bool} {n : Nat} (h : ∀ i, n ≤ i → ¬ p i = true) : ∀ d, cnt p (n + d) = cnt p n
  | 0 => rfl
  | d + 1 => by
    rw [show n + (d + 1) = n + d + 1 from rfl, cnt_s, if_neg (h _ (by omega)), cnt_off h d, Nat.add_zero]
/-- bit i of a word -/
theorem bit_y {n i : Nat} (hn : n < 2147483648) (hi : i < 31) : ((nI n >>> (nI i &&& 31)) &&& 1 = 1) ↔ n.testBit i = true := by
  rw [shr_bit hn hi, Nat.testBit_eq_decide_div_mod_eq]
  have := Nat.mod_lt (n / 2 ^ i) (show 0 < 2 by decide)
  constructor
  · intro q; exact decide_eq_true ((nI_eq (b := 1) (by omega) (by omega)).mp q)
  · intro q; rw [of_decide_eq_true q]; rfl
theorem p20 {n : Nat} (h : n ≤ 20) : 2 ^ n ≤ 1048576 := by
  have := Nat.pow_le_pow_right (show 0 < 2 by decide) h
  omega
section HW
variable {N nC day : Nat} {kd nr cm gn on dep : Nat → Nat} {gd : Nat → Bool} {σ : Sg} {Q : Option Value → Sg → Prop}
theorem C_hangingOn (hC : RC nC day kd nr cm gn on dep gd σ) {k : Nat} (hk : k < nC) (h : Q (some (.int (nI (hs (fun j => !gd j) on k (nC - 1 - k))))) σ) : EvM N mX1_hangingOn [.ref 230, .int (nI k)] σ Q := by
  obtain ⟨g1, g2, g3, g4, g5, g6, g7, g8, g9⟩ := hC
  have L : ∀ m, m ≤ nC - 1 - k → KX1_hangingOn_8 N σ Q (nI (hs (fun j => !gd j) on k m)) (nI (k + 1 + m)) := by
    refine for_up ?_ ?_
    · exact BX1_hangingOn_8 ⟨fun _ => h, fun q => absurd (by rw [g3]; exact nI_le (by omega) (by omega)) q⟩
    · intro m hm ih
      have hj : k + 1 + m < nC := by omega
      obtain ⟨b1, b2, b3, b4, b5, b6, b7, b8, b9, b10, b11, b12, b13, b14, b15, b16, b17, b18⟩ := g8 (k + 1 + m) hj
      have an : on (k + 1 + m) &&& hs (fun j => !gd j) on k m < 2147483648 := by
        have := p20 (show k + 1 + m ≤ 20 by omega)
        exact Nat.lt_of_le_of_lt Nat.and_le_left (by omega)
      refine BX1_hangingOn_8 ⟨fun q => absurd q (by rw [g3]; exact nI_ge hj (by omega)), fun _ => ⟨nvin (by omega) (by omega), ?_⟩⟩
      rw [cl (by omega), b14, b16, nI_1, nx_and]
      by_cases g : gd (k + 1 + m) = true
      · rw [if_pos g]
        rw [hs_n (fun q => by rw [g] at q; exact absurd q.1 (by decide))] at ih
        exact ⟨fun z => absurd z (n4 (by omega)), fun _ => ih⟩
      · rw [if_neg g]
        refine ⟨fun _ => ⟨nvin (by omega) (by omega), fun z => ?_, fun z => ?_⟩, fun z => absurd rfl z⟩
        · rw [hs_n (fun q => q.2 ((nI_eq (b := 0) an (by omega)).mp z))] at ih
          exact ih
        · rw [hs_y ⟨by simpa using g, fun q => z (by rw [q]; rfl)⟩] at ih
          rw [one_shl (by omega), nx_or]
          exact ih
  refine EX1_hangingOn ?_
  rw [one_shl (by omega), nI_1]
  exact L 0 (by omega)
theorem M_hanging (g1 : nC ≤ 20) (g4 : σ.1 245 52 = nI nC) (g8 : ∀ j, j < nC → on j < 2 ^ j ∧ σ.1 281 j = nI (on j)) {k : Nat} (hk : k < nC) (h : Q (some (.int (nI (hs (fun _ => true) on k (nC - 1 - k))))) σ) : EvM N mX10_hanging [.ref 245, .int (nI k)] σ Q := by
  have L : ∀ m, m ≤ nC - 1 - k → KX10_hanging_8 N σ Q (nI (hs (fun _ => true) on k m)) (nI (k + 1 + m)) := by
    refine for_up ?_ ?_
    · exact BX10_hanging_8 ⟨fun _ => h, fun q => absurd (by rw [g4]; exact nI_le (by omega) (by omega)) q⟩
    · intro m hm ih
      have hj : k + 1 + m < nC := by omega
      obtain ⟨b5, b17⟩ := g8 (k + 1 + m) hj
      have an : on (k + 1 + m) &&& hs (fun _ => true) on k m < 2147483648 := by
        have := p20 (show k + 1 + m ≤ 20 by omega)
        exact Nat.lt_of_le_of_lt Nat.and_le_left (by omega)
      refine BX10_hanging_8 ⟨fun q => absurd q (by rw [g4]; exact nI_ge hj (by omega)), fun _ => ⟨nvin (by omega) (by omega), ?_⟩⟩
      rw [cl (by omega), b17, nI_1, nx_and]
      refine ⟨fun z => ?_, fun z => ?_⟩
      · rw [hs_n (fun q => q.2 ((nI_eq (b := 0) an (by omega)).mp z))] at ih
        rw [show (0 : Int32) = nI 0 from rfl, nx_or, Nat.or_zero]
        exact ih
      · rw [hs_y ⟨rfl, fun q => z (by rw [q]; rfl)⟩] at ih
        rw [one_shl (by omega), nx_or]
        exact ih
  refine EX10_hanging ?_
  rw [one_shl (by omega), nI_1]
  exact L 0 (by omega)
end HW
