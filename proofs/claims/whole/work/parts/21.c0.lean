/-! ===== small methods, by their meaning ===== -/
section C0
variable {N : Nat} {σ : Sg} {Q : Option Value → Sg → Prop} {x y : Int32}
theorem C2_isForm (h : (0 ≤ x.toInt ∧ x.toInt < (σ.1 1 3).toInt → Q (some (.int 1)) σ) ∧ (¬ (0 ≤ x.toInt ∧ x.toInt < (σ.1 1 3).toInt) → Q (some (.int 0)) σ)) : EvM N mX2_isForm [.ref 1, .int x] σ Q := by
  refine EX2_isForm ⟨fun c => h.2 ?_, fun c => ⟨fun c2 => h.2 ?_, fun c2 => h.1 ?_⟩⟩ <;> simp only [i_lt, i_le, Int32.reduceToInt] at * <;> omega
theorem C5_isSheet (h : (vp_in x 4 → Q (some (.int 1)) σ) ∧ (¬ vp_in x 4 → Q (some (.int 0)) σ)) : EvM N mX5_isSheet [.int x] σ Q := by
  refine EX5_isSheet ⟨fun c => h.2 ?_, fun c => ⟨fun c2 => h.2 ?_, fun c2 => h.1 ?_⟩⟩ <;> simp only [vp_in_iff, i_lt, i_le, Int32.reduceToInt] at * <;> omega
theorem C5_isLane (h : (vp_in x 3 → Q (some (.int 1)) σ) ∧ (¬ vp_in x 3 → Q (some (.int 0)) σ)) : EvM N mX5_isLane [.int x] σ Q := by
  refine EX5_isLane ⟨fun c => h.2 ?_, fun c => ⟨fun c2 => h.2 ?_, fun c2 => h.1 ?_⟩⟩ <;> simp only [vp_in_iff, i_lt, i_le, Int32.reduceToInt] at * <;> omega
theorem C7_isText (h : (0 ≤ x.toInt ∧ x.toInt < (σ.1 5 4).toInt → Q (some (.int 1)) σ) ∧ (¬ (0 ≤ x.toInt ∧ x.toInt < (σ.1 5 4).toInt) → Q (some (.int 0)) σ)) : EvM N mX7_isText [.ref 5, .int x] σ Q := by
  refine EX7_isText ⟨fun c => h.2 ?_, fun c => ⟨fun c2 => h.2 ?_, fun c2 => h.1 ?_⟩⟩ <;> simp only [i_lt, i_le, Int32.reduceToInt] at * <;> omega
theorem C7_isWord (h : (0 ≤ x.toInt ∧ x.toInt < (σ.1 5 9).toInt → Q (some (.int 1)) σ) ∧ (¬ (0 ≤ x.toInt ∧ x.toInt < (σ.1 5 9).toInt) → Q (some (.int 0)) σ)) : EvM N mX7_isWord [.ref 5, .int x] σ Q := by
  refine EX7_isWord ⟨fun c => h.2 ?_, fun c => ⟨fun c2 => h.2 ?_, fun c2 => h.1 ?_⟩⟩ <;> simp only [i_lt, i_le, Int32.reduceToInt] at * <;> omega
theorem C4_isName (h : (0 ≤ x.toInt ∧ x.toInt < (σ.1 115 3).toInt → Q (some (.int 1)) σ) ∧ (¬ (0 ≤ x.toInt ∧ x.toInt < (σ.1 115 3).toInt) → Q (some (.int 0)) σ)) : EvM N mX4_isName [.ref 115, .int x] σ Q := by
  refine EX4_isName ⟨fun c => h.2 ?_, fun c => ⟨fun c2 => h.2 ?_, fun c2 => h.1 ?_⟩⟩ <;> simp only [i_lt, i_le, Int32.reduceToInt] at * <;> omega
theorem C1_isClaim (h : (0 ≤ x.toInt ∧ x.toInt < (σ.1 230 7).toInt → Q (some (.int 1)) σ) ∧ (¬ (0 ≤ x.toInt ∧ x.toInt < (σ.1 230 7).toInt) → Q (some (.int 0)) σ)) : EvM N mX1_isClaim [.ref 230, .int x] σ Q := by
  refine EX1_isClaim ⟨fun c => h.2 ?_, fun c => ⟨fun c2 => h.2 ?_, fun c2 => h.1 ?_⟩⟩ <;> simp only [i_lt, i_le, Int32.reduceToInt] at * <;> omega
theorem C6_isLetter (h : (97 ≤ x.toInt ∧ x.toInt ≤ 122 → Q (some (.int 1)) σ) ∧ (¬ (97 ≤ x.toInt ∧ x.toInt ≤ 122) → Q (some (.int 0)) σ)) : EvM N mX6_isLetter [.int x] σ Q := by
  refine EX6_isLetter ⟨fun c => h.2 ?_, fun c => ⟨fun c2 => h.2 ?_, fun c2 => h.1 ?_⟩⟩ <;> simp only [i_lt, i_le, Int32.reduceToInt] at * <;> omega
theorem C6_isFigure (h : (48 ≤ x.toInt ∧ x.toInt ≤ 57 → Q (some (.int 1)) σ) ∧ (¬ (48 ≤ x.toInt ∧ x.toInt ≤ 57) → Q (some (.int 0)) σ)) : EvM N mX6_isFigure [.int x] σ Q := by
  refine EX6_isFigure ⟨fun c => h.2 ?_, fun c => ⟨fun c2 => h.2 ?_, fun c2 => h.1 ?_⟩⟩ <;> simp only [i_lt, i_le, Int32.reduceToInt] at * <;> omega
theorem C10_in {a b c : Int64} {P : Prop} (hP : P ↔ (b.toInt ≤ a.toInt ∧ a.toInt ≤ c.toInt)) (h : (P → Q (some (.int 1)) σ) ∧ (¬ P → Q (some (.int 0)) σ)) : EvM N mX10_in [.long a, .long b, .long c] σ Q := by
  refine EX10_in ⟨fun c => h.2 ?_, fun c => ⟨fun c2 => h.2 ?_, fun c2 => h.1 ?_⟩⟩ <;> rw [hP] <;> simp only [lg_lt, lg_gt] at * <;> omega
theorem li0 : (0 : Int64).toInt = 0 := by decide
end C0
