/-! ===== what words are ===== -/
theorem wScan_ok {cell : Nat → Int32} {n t : Nat} : ∀ c, c ≤ n + 1 → (∀ x ∈ (wScan cell n t c).2, 1 ≤ x.2.2.1 ∧ x.2.1 + x.2.2.1 ≤ n ∧ x.2.2.2 = noGap cell x.2.1 x.2.2.1 ∧ ∀ i, i < x.2.2.1 → ¬ cell (x.2.1 + i) = -2) ∧ ∀ i, (wScan cell n t c).1 ≤ i → i < c → i < n → ¬ cell i = -2 := by
  intro c
  induction c with
  | zero => intro _; exact ⟨fun x hx => (by cases hx), fun i _ hi => absurd hi (Nat.not_lt_zero i)⟩
  | succ c ih =>
    intro hc
    obtain ⟨i1, i2⟩ := ih (by omega)
    unfold wScan
    by_cases e : c < n ∧ ¬ cell c = -2
    · rw [if_pos e]
      refine ⟨i1, fun i h1 h2 h3 => ?_⟩
      by_cases q : i = c
      · rw [q]; exact e.2
      · exact i2 i h1 (by omega) h3
    · rw [if_neg e]
      dsimp only
      refine ⟨fun x hx => ?_, fun i h1 h2 => absurd h2 (by omega)⟩
      by_cases e2 : (wScan cell n t c).1 < c
      · rw [if_pos e2] at hx
        rcases List.mem_append.mp hx with h | h
        · exact i1 x h
        · rw [List.mem_singleton.mp h]
          refine ⟨?_, ?_, rfl, fun i hi => ?_⟩
          · show 1 ≤ c - (wScan cell n t c).1
            omega
          · show (wScan cell n t c).1 + (c - (wScan cell n t c).1) ≤ n
            omega
          · have hi2 : i < c - (wScan cell n t c).1 := hi
            exact i2 ((wScan cell n t c).1 + i) (by omega) (by omega) (by omega)
      · rw [if_neg e2] at hx; exact i1 x hx
/-- a word's place in its text -/
def WOk (tl : Nat → Nat) (tc : Nat → Nat → Int32) (n : Nat) (x : Wd) : Prop := x.1 < n ∧ 1 ≤ x.2.2.1 ∧ x.2.1 + x.2.2.1 ≤ tl x.1 ∧ x.2.2.2 = noGap (tc x.1) x.2.1 x.2.2.1 ∧ ∀ i, i < x.2.2.1 → ¬ tc x.1 (x.2.1 + i) = -2
theorem wL_ok {tl : Nat → Nat} {tc : Nat → Nat → Int32} : ∀ n, ∀ x ∈ wL tl tc n, WOk tl tc n x := by
  intro n
  induction n with
  | zero => intro x hx; cases hx
  | succ n ih =>
    intro x hx
    rcases List.mem_append.mp hx with h | h
    · obtain ⟨a1, a2⟩ := ih x h
      exact ⟨by omega, a2⟩
    · have e := wScan_fst _ x h
      have k := (wScan_ok (tl n + 1) (Nat.le_refl _)).1 x h
      unfold WOk
      rw [e]
      exact ⟨Nat.lt_succ_self n, k⟩
theorem noGap_iff {cell : Nat → Int32} {s : Nat} : ∀ l, noGap cell s l = true ↔ ∀ i, i < l → ¬ cell (s + i) = -1 := by
  intro l
  induction l with
  | zero => exact ⟨fun _ i hi => absurd hi (Nat.not_lt_zero i), fun _ => rfl⟩
  | succ l ih =>
    unfold noGap
    rw [Bool.and_eq_true, ih]
    constructor
    · rintro ⟨h1, h2⟩ i hi
      by_cases e : i = l
      · rw [e]; simpa using h2
      · exact h1 i (by omega)
    · intro h
      exact ⟨fun i hi => h i (by omega), by simpa using h l (Nat.lt_succ_self l)⟩
theorem in0 {w L : Nat} (h : w < L) (hL : L < 2147483648) : 0 ≤ (nI w).toInt ∧ (nI w).toInt < (nI L).toInt := by
  rw [i_nI (by omega), i_nI hL]; omega
/-- the sign at place i of a word -/
def wS (ft : Nat → Nat) (nF lk : Nat) (tc : Nat → Nat → Int32) (x : Wd) (i : Nat) : Int32 := sgv ft nF lk (tc x.1 (x.2.1 + i))
section WDS
variable {N nF lk nT : Nat} {ft : Nat → Nat} {tl : Nat → Nat} {tc : Nat → Nat → Int32} {σ : Sg} {Q : Option Value → Sg → Prop}
theorem RT.wok (hT : RT nF nT tl tc σ) {w : Nat} (hw : w < (wL tl tc nT).length) : WOk tl tc nT (wAt (wL tl tc nT) w) ∧ (wL tl tc nT).length ≤ 96 ∧ tl (wAt (wL tl tc nT) w).1 ≤ 24 := by
  have a := wL_ok nT _ (wAt_mem hw)
  have b := wL_len (tl := tl) (tc := tc) nT (fun t ht => (hT.2.2.2.1 t ht).2.1)
  have c := hT.1
  exact ⟨a, by omega, (hT.2.2.2.1 _ a.1).2.1⟩
theorem C_isWhole (hT : RT nF nT tl tc σ) {w : Nat} (hw : w < (wL tl tc nT).length) (h1 : (wAt (wL tl tc nT) w).2.2.2 = true → Q (some (.int 1)) σ) (h0 : (wAt (wL tl tc nT) w).2.2.2 = false → Q (some (.int 0)) σ) : EvM (N + 1) mX7_isWhole [.ref 5, .int (nI w)] σ Q := by
  obtain ⟨g1, g2, g3, g4, g5, g6⟩ := id hT
  have hl := (hT.wok hw).2.1
  refine EX7_isWhole ⟨fun _ => ⟨nvin (by omega) (by omega), ?_⟩, fun q => absurd (by rw [g5]; exact in0 hw (by omega)) q⟩
  rw [cl (by omega), (g6 w hw).2.2.2]
  cases e : (wAt (wL tl tc nT) w).2.2.2
  · exact ⟨fun _ => h0 e, fun q => absurd rfl q⟩
  · exact ⟨fun q => absurd q (by decide), fun _ => h1 e⟩
theorem C_lengthOfWord (hT : RT nF nT tl tc σ) {w : Nat} (hw : w < (wL tl tc nT).length) (h : Q (some (.int (nI (wAt (wL tl tc nT) w).2.2.1))) σ) : EvM (N + 1) mX7_lengthOfWord [.ref 5, .int (nI w)] σ Q := by
  obtain ⟨g1, g2, g3, g4, g5, g6⟩ := id hT
  have hl := (hT.wok hw).2.1
  refine EX7_lengthOfWord ⟨fun _ => ⟨nvin (by omega) (by omega), ?_⟩, fun q => absurd (by rw [g5]; exact in0 hw (by omega)) q⟩
  rw [cl (by omega), (g6 w hw).2.2.1]
  exact h
theorem C_textOfWord (hT : RT nF nT tl tc σ) {w : Nat} (hw : w < (wL tl tc nT).length) (h : Q (some (.int (nI (wAt (wL tl tc nT) w).1))) σ) : EvM (N + 1) mX7_textOfWord [.ref 5, .int (nI w)] σ Q := by
  obtain ⟨g1, g2, g3, g4, g5, g6⟩ := id hT
  have hl := (hT.wok hw).2.1
  refine EX7_textOfWord ⟨fun _ => ⟨nvin (by omega) (by omega), ?_⟩, fun q => absurd (by rw [g5]; exact in0 hw (by omega)) q⟩
  rw [cl (by omega), (g6 w hw).1]
  exact h
theorem C_signW (hF : RF nF lk ft σ) (hT : RT nF nT tl tc σ) {w i : Nat} (hw : w < (wL tl tc nT).length) (hi : i < (wAt (wL tl tc nT) w).2.2.1) (h : Q (some (.int (wS ft nF lk tc (wAt (wL tl tc nT) w) i))) σ) : EvM (N + 1) mX7_signAt [.ref 5, .int (nI (wAt (wL tl tc nT) w).1), .int (nI ((wAt (wL tl tc nT) w).2.1 + i))] σ Q := by
  obtain ⟨⟨k1, k2, k3, k4, k5⟩, hl, h24⟩ := hT.wok hw
  refine C_signAt hF hT k1 (by omega) ?_
  rw [if_pos (by omega)]
  exact h
theorem C_signOfWord (hF : RF nF lk ft σ) (hT : RT nF nT tl tc σ) {w i : Nat} (hw : w < (wL tl tc nT).length) (hi : i < (wAt (wL tl tc nT) w).2.2.1) (h : Q (some (.int (wS ft nF lk tc (wAt (wL tl tc nT) w) i))) σ) : EvM (N + 2) mX7_signOfWord [.ref 5, .int (nI w), .int (nI i)] σ Q := by
  obtain ⟨g1, g2, g3, g4, g5, g6⟩ := id hT
  have hl := (hT.wok hw).2.1
  refine EX7_signOfWord ⟨fun _ => ⟨nvin (by omega) (by omega), nvin (by omega) (by omega), ?_⟩, fun q => absurd (by rw [g5]; exact in0 hw (by omega)) q⟩
  rw [cl (by omega), (g6 w hw).1, (g6 w hw).2.1, nI_add]
  exact C_signW hF hT hw hi ⟨_, rfl, h⟩
theorem C_lastSignOfWord (hF : RF nF lk ft σ) (hT : RT nF nT tl tc σ) {w : Nat} (hw : w < (wL tl tc nT).length) (h : Q (some (.int (wS ft nF lk tc (wAt (wL tl tc nT) w) ((wAt (wL tl tc nT) w).2.2.1 - 1)))) σ) : EvM (N + 3) mX7_lastSignOfWord [.ref 5, .int (nI w)] σ Q := by
  obtain ⟨⟨k1, k2, k3, k4, k5⟩, hl, h24⟩ := hT.wok hw
  refine EX7_lastSignOfWord (C_lengthOfWord hT hw ⟨_, rfl, ?_⟩)
  rw [show nI (wAt (wL tl tc nT) w).2.2.1 - 1 = nI ((wAt (wL tl tc nT) w).2.2.1 - 1) from pk_sub (b := 1) k2]
  exact C_signOfWord hF hT hw (by omega) ⟨_, rfl, h⟩
theorem M_wordAt (hF : RF nF lk ft σ) (hT : RT nF nT tl tc σ) (hG : SG nF lk ft σ) (hW : WS (wL tl tc nT) σ) {w i : Nat} (hw : w < (wL tl tc nT).length) (hi : i < (wAt (wL tl tc nT) w).2.2.1) (h : Q (some (.int (wS ft nF lk tc (wAt (wL tl tc nT) w) i))) σ) : EvM (N + 1) mX10_wordAt [.ref 245, .int (nI w), .int (nI i)] σ Q := by
  obtain ⟨⟨k1, k2, k3, k4, k5⟩, hl, h24⟩ := hT.wok hw
  refine EX10_wordAt ⟨nvin (by omega) (by omega), nvin (by omega) (by omega), ?_⟩
  rw [cl (by omega), (hW.2 w hw).1, (hW.2 w hw).2.1, nI_add]
  exact M_at hF hT hG k1 (by omega) ⟨_, rfl, h⟩
/-- a whole word's signs are signs -/
theorem wS_sign (hF : RF nF lk ft σ) (hT : RT nF nT tl tc σ) {w i : Nat} (hw : w < (wL tl tc nT).length) (hi : i < (wAt (wL tl tc nT) w).2.2.1) (hwh : (wAt (wL tl tc nT) w).2.2.2 = true) : ∃ s, s < nF ∧ rep ft nF lk s = s ∧ wS ft nF lk tc (wAt (wL tl tc nT) w) i = nI s := by
  obtain ⟨⟨k1, k2, k3, k4, k5⟩, hl, h24⟩ := hT.wok hw
  have n1 := (noGap_iff _).mp (k4 ▸ hwh) i hi
  have n2 := k5 i hi
  rcases sgv_ok (ft := ft) (lk := lk) (((hT.2.2.2.1 _ k1).2.2.2.2 _ (show (wAt (wL tl tc nT) w).2.1 + i < tl (wAt (wL tl tc nT) w).1 by omega)).1) hF.1 with ⟨_, b⟩ | ⟨_, b⟩ | ⟨f, s, _, _, _, s4, s5, s6⟩
  · exact absurd b n1
  · exact absurd b n2
  · exact ⟨s, s4, s5, s6⟩
end WDS
