theorem EX0_size {N : Nat} {σ : Sg} {Q : Option Value → Sg → Prop} (h : Q (some (.int (σ.1 102 1))) σ) : EvM N mX0_size [.ref 102] σ Q := by
  refine ev_entry rfl (Nat.le_of_ble_eq_true rfl) (lv := [(0, .ref 102)]) rfl ?_
  refine ev_aload_n 0 dX0_size_0 rfl ?_
  refine ev_get G0 lay_102 (k := 1) rfl (Nat.le_of_ble_eq_true rfl) dX0_size_1 w_259 ?_
  exact ev_iret rfl dX0_size_4 h
theorem EX0_standing {N : Nat} {σ : Sg} {Q : Option Value → Sg → Prop} {x0 : Int32} {x1 : Int32} (h : Q (some (.int ((x0 >>> ((5 * x1) &&& 31)) &&& 31))) σ) : EvM N mX0_standing [.int x0, .int x1] σ Q := by
  refine ev_entry rfl (Nat.le_of_ble_eq_true rfl) (lv := [(0, .int x0), (1, .int x1)]) rfl ?_
  refine ev_iload_n 0 dX0_standing_0 rfl ?_
  refine ev_iconst 5 dX0_standing_1 (by decide) ?_
  refine ev_iload_n 1 dX0_standing_2 rfl ?_
  refine ev_imul dX0_standing_3 ?_
  refine ev_ishr dX0_standing_4 ?_
  refine ev_bipush 31 dX0_standing_5 (by decide) ?_
  refine ev_iand dX0_standing_7 ?_
  exact ev_iret rfl dX0_standing_8 h
theorem EX1_size {N : Nat} {σ : Sg} {Q : Option Value → Sg → Prop} (h : Q (some (.int (σ.1 230 7))) σ) : EvM N mX1_size [.ref 230] σ Q := by
  refine ev_entry rfl (Nat.le_of_ble_eq_true rfl) (lv := [(0, .ref 230)]) rfl ?_
  refine ev_aload_n 0 dX1_size_0 rfl ?_
  refine ev_get G1 lay_230 (k := 7) rfl (Nat.le_of_ble_eq_true rfl) dX1_size_1 w_364 ?_
  exact ev_iret rfl dX1_size_4 h
theorem EX1_latestFault {N : Nat} {σ : Sg} {Q : Option Value → Sg → Prop} (h : Q (some (.int (σ.1 230 10))) σ) : EvM N mX1_latestFault [.ref 230] σ Q := by
  refine ev_entry rfl (Nat.le_of_ble_eq_true rfl) (lv := [(0, .ref 230)]) rfl ?_
  refine ev_aload_n 0 dX1_latestFault_0 rfl ?_
  refine ev_get G1 lay_230 (k := 10) rfl (Nat.le_of_ble_eq_true rfl) dX1_latestFault_1 w_367 ?_
  exact ev_iret rfl dX1_latestFault_4 h
theorem EX1_today {N : Nat} {σ : Sg} {Q : Option Value → Sg → Prop} (h : Q (some (.int (σ.1 230 11))) σ) : EvM N mX1_today [.ref 230] σ Q := by
  refine ev_entry rfl (Nat.le_of_ble_eq_true rfl) (lv := [(0, .ref 230)]) rfl ?_
  refine ev_aload_n 0 dX1_today_0 rfl ?_
  refine ev_get G1 lay_230 (k := 11) rfl (Nat.le_of_ble_eq_true rfl) dX1_today_1 w_368 ?_
  exact ev_iret rfl dX1_today_4 h
theorem EX1_isClaim {N : Nat} {σ : Sg} {Q : Option Value → Sg → Prop} {x1 : Int32} (h : (x1 < 0 → Q (some (.int 0)) σ) ∧ (¬ x1 < 0 → ((σ.1 230 7) ≤ x1 → Q (some (.int 0)) σ) ∧ (¬ (σ.1 230 7) ≤ x1 → Q (some (.int 1)) σ))) : EvM N mX1_isClaim [.ref 230, .int x1] σ Q := by
  refine ev_entry rfl (Nat.le_of_ble_eq_true rfl) (lv := [(0, .ref 230), (1, .int x1)]) rfl ?_
  refine ev_iload_n 1 dX1_isClaim_0 rfl ?_
  refine ev_if_lt 16 dX1_isClaim_1 (by decide) (fun c9 => ?_) (fun c9 => ?_)
  · replace h := h.1 c9
    refine ev_iconst 0 dX1_isClaim_16 (by decide) ?_
    exact ev_zret (ty := .boolean) rfl (by rfl) dX1_isClaim_17 h
  · replace h := h.2 c9
    refine ev_iload_n 1 dX1_isClaim_4 rfl ?_
    refine ev_aload_n 0 dX1_isClaim_5 rfl ?_
    refine ev_get G1 lay_230 (k := 7) rfl (Nat.le_of_ble_eq_true rfl) dX1_isClaim_6 w_364 ?_
    refine ev_icmp_ge 16 dX1_isClaim_9 (by decide) (fun c9 => ?_) (fun c9 => ?_)
    · replace h := h.1 c9
      refine ev_iconst 0 dX1_isClaim_16 (by decide) ?_
      exact ev_zret (ty := .boolean) rfl (by rfl) dX1_isClaim_17 h
    · replace h := h.2 c9
      refine ev_iconst 1 dX1_isClaim_12 (by decide) ?_
      refine ev_goto 17 dX1_isClaim_13 (by decide) ?_
      exact ev_zret (ty := .boolean) rfl (by rfl) dX1_isClaim_17 h
theorem EX2_size {N : Nat} {σ : Sg} {Q : Option Value → Sg → Prop} (h : Q (some (.int (σ.1 1 3))) σ) : EvM N mX2_size [.ref 1] σ Q := by
  refine ev_entry rfl (Nat.le_of_ble_eq_true rfl) (lv := [(0, .ref 1)]) rfl ?_
  refine ev_aload_n 0 dX2_size_0 rfl ?_
  refine ev_get G2 lay_1 (k := 3) rfl (Nat.le_of_ble_eq_true rfl) dX2_size_1 w_130 ?_
  exact ev_iret rfl dX2_size_4 h
theorem EX2_isForm {N : Nat} {σ : Sg} {Q : Option Value → Sg → Prop} {x1 : Int32} (h : (x1 < 0 → Q (some (.int 0)) σ) ∧ (¬ x1 < 0 → ((σ.1 1 3) ≤ x1 → Q (some (.int 0)) σ) ∧ (¬ (σ.1 1 3) ≤ x1 → Q (some (.int 1)) σ))) : EvM N mX2_isForm [.ref 1, .int x1] σ Q := by
  refine ev_entry rfl (Nat.le_of_ble_eq_true rfl) (lv := [(0, .ref 1), (1, .int x1)]) rfl ?_
  refine ev_iload_n 1 dX2_isForm_0 rfl ?_
  refine ev_if_lt 16 dX2_isForm_1 (by decide) (fun c9 => ?_) (fun c9 => ?_)
  · replace h := h.1 c9
    refine ev_iconst 0 dX2_isForm_16 (by decide) ?_
    exact ev_zret (ty := .boolean) rfl (by rfl) dX2_isForm_17 h
  · replace h := h.2 c9
    refine ev_iload_n 1 dX2_isForm_4 rfl ?_
    refine ev_aload_n 0 dX2_isForm_5 rfl ?_
    refine ev_get G2 lay_1 (k := 3) rfl (Nat.le_of_ble_eq_true rfl) dX2_isForm_6 w_130 ?_
    refine ev_icmp_ge 16 dX2_isForm_9 (by decide) (fun c9 => ?_) (fun c9 => ?_)
    · replace h := h.1 c9
      refine ev_iconst 0 dX2_isForm_16 (by decide) ?_
      exact ev_zret (ty := .boolean) rfl (by rfl) dX2_isForm_17 h
    · replace h := h.2 c9
      refine ev_iconst 1 dX2_isForm_12 (by decide) ?_
      refine ev_goto 17 dX2_isForm_13 (by decide) ?_
      exact ev_zret (ty := .boolean) rfl (by rfl) dX2_isForm_17 h
theorem EX4_size {N : Nat} {σ : Sg} {Q : Option Value → Sg → Prop} (h : Q (some (.int (σ.1 115 3))) σ) : EvM N mX4_size [.ref 115] σ Q := by
  refine ev_entry rfl (Nat.le_of_ble_eq_true rfl) (lv := [(0, .ref 115)]) rfl ?_
  refine ev_aload_n 0 dX4_size_0 rfl ?_
  refine ev_get G4 lay_115 (k := 3) rfl (Nat.le_of_ble_eq_true rfl) dX4_size_1 w_287 ?_
  exact ev_iret rfl dX4_size_4 h
theorem EX4_isName {N : Nat} {σ : Sg} {Q : Option Value → Sg → Prop} {x1 : Int32} (h : (x1 < 0 → Q (some (.int 0)) σ) ∧ (¬ x1 < 0 → ((σ.1 115 3) ≤ x1 → Q (some (.int 0)) σ) ∧ (¬ (σ.1 115 3) ≤ x1 → Q (some (.int 1)) σ))) : EvM N mX4_isName [.ref 115, .int x1] σ Q := by
  refine ev_entry rfl (Nat.le_of_ble_eq_true rfl) (lv := [(0, .ref 115), (1, .int x1)]) rfl ?_
  refine ev_iload_n 1 dX4_isName_0 rfl ?_
  refine ev_if_lt 16 dX4_isName_1 (by decide) (fun c9 => ?_) (fun c9 => ?_)
  · replace h := h.1 c9
    refine ev_iconst 0 dX4_isName_16 (by decide) ?_
    exact ev_zret (ty := .boolean) rfl (by rfl) dX4_isName_17 h
  · replace h := h.2 c9
    refine ev_iload_n 1 dX4_isName_4 rfl ?_
    refine ev_aload_n 0 dX4_isName_5 rfl ?_
    refine ev_get G4 lay_115 (k := 3) rfl (Nat.le_of_ble_eq_true rfl) dX4_isName_6 w_287 ?_
    refine ev_icmp_ge 16 dX4_isName_9 (by decide) (fun c9 => ?_) (fun c9 => ?_)
    · replace h := h.1 c9
      refine ev_iconst 0 dX4_isName_16 (by decide) ?_
      exact ev_zret (ty := .boolean) rfl (by rfl) dX4_isName_17 h
    · replace h := h.2 c9
      refine ev_iconst 1 dX4_isName_12 (by decide) ?_
      refine ev_goto 17 dX4_isName_13 (by decide) ?_
      exact ev_zret (ty := .boolean) rfl (by rfl) dX4_isName_17 h
theorem EX5_isSheet {N : Nat} {σ : Sg} {Q : Option Value → Sg → Prop} {x0 : Int32} (h : (x0 < 0 → Q (some (.int 0)) σ) ∧ (¬ x0 < 0 → (4 ≤ x0 → Q (some (.int 0)) σ) ∧ (¬ 4 ≤ x0 → Q (some (.int 1)) σ))) : EvM N mX5_isSheet [.int x0] σ Q := by
  refine ev_entry rfl (Nat.le_of_ble_eq_true rfl) (lv := [(0, .int x0)]) rfl ?_
  refine ev_iload_n 0 dX5_isSheet_0 rfl ?_
  refine ev_if_lt 13 dX5_isSheet_1 (by decide) (fun c9 => ?_) (fun c9 => ?_)
  · replace h := h.1 c9
    refine ev_iconst 0 dX5_isSheet_13 (by decide) ?_
    exact ev_zret (ty := .boolean) rfl (by rfl) dX5_isSheet_14 h
  · replace h := h.2 c9
    refine ev_iload_n 0 dX5_isSheet_4 rfl ?_
    refine ev_iconst 4 dX5_isSheet_5 (by decide) ?_
    refine ev_icmp_ge 13 dX5_isSheet_6 (by decide) (fun c9 => ?_) (fun c9 => ?_)
    · replace h := h.1 c9
      refine ev_iconst 0 dX5_isSheet_13 (by decide) ?_
      exact ev_zret (ty := .boolean) rfl (by rfl) dX5_isSheet_14 h
    · replace h := h.2 c9
      refine ev_iconst 1 dX5_isSheet_9 (by decide) ?_
      refine ev_goto 14 dX5_isSheet_10 (by decide) ?_
      exact ev_zret (ty := .boolean) rfl (by rfl) dX5_isSheet_14 h
theorem EX5_isLane {N : Nat} {σ : Sg} {Q : Option Value → Sg → Prop} {x0 : Int32} (h : (x0 < 0 → Q (some (.int 0)) σ) ∧ (¬ x0 < 0 → (3 ≤ x0 → Q (some (.int 0)) σ) ∧ (¬ 3 ≤ x0 → Q (some (.int 1)) σ))) : EvM N mX5_isLane [.int x0] σ Q := by
  refine ev_entry rfl (Nat.le_of_ble_eq_true rfl) (lv := [(0, .int x0)]) rfl ?_
  refine ev_iload_n 0 dX5_isLane_0 rfl ?_
  refine ev_if_lt 13 dX5_isLane_1 (by decide) (fun c9 => ?_) (fun c9 => ?_)
  · replace h := h.1 c9
    refine ev_iconst 0 dX5_isLane_13 (by decide) ?_
    exact ev_zret (ty := .boolean) rfl (by rfl) dX5_isLane_14 h
  · replace h := h.2 c9
    refine ev_iload_n 0 dX5_isLane_4 rfl ?_
    refine ev_iconst 3 dX5_isLane_5 (by decide) ?_
    refine ev_icmp_ge 13 dX5_isLane_6 (by decide) (fun c9 => ?_) (fun c9 => ?_)
    · replace h := h.1 c9
      refine ev_iconst 0 dX5_isLane_13 (by decide) ?_
      exact ev_zret (ty := .boolean) rfl (by rfl) dX5_isLane_14 h
    · replace h := h.2 c9
      refine ev_iconst 1 dX5_isLane_9 (by decide) ?_
      refine ev_goto 14 dX5_isLane_10 (by decide) ?_
      exact ev_zret (ty := .boolean) rfl (by rfl) dX5_isLane_14 h
theorem EX6_length {N : Nat} {σ : Sg} {Q : Option Value → Sg → Prop} (h : Q (some (.int (σ.1 228 1))) σ) : EvM N mX6_length [.ref 228] σ Q := by
  refine ev_entry rfl (Nat.le_of_ble_eq_true rfl) (lv := [(0, .ref 228)]) rfl ?_
  refine ev_aload_n 0 dX6_length_0 rfl ?_
  refine ev_get G6 lay_228 (k := 1) rfl (Nat.le_of_ble_eq_true rfl) dX6_length_1 w_194 ?_
  exact ev_iret rfl dX6_length_4 h
theorem EX6_start {N : Nat} {σ : Sg} {Q : Option Value → Sg → Prop} (h : Q (some (.int (σ.1 228 3))) σ) : EvM N mX6_start [.ref 228] σ Q := by
  refine ev_entry rfl (Nat.le_of_ble_eq_true rfl) (lv := [(0, .ref 228)]) rfl ?_
  refine ev_aload_n 0 dX6_start_0 rfl ?_
  refine ev_get G6 lay_228 (k := 3) rfl (Nat.le_of_ble_eq_true rfl) dX6_start_1 w_196 ?_
  exact ev_iret rfl dX6_start_4 h
theorem EX6_value {N : Nat} {σ : Sg} {Q : Option Value → Sg → Prop} (h : Q (some (.int (σ.1 228 4))) σ) : EvM N mX6_value [.ref 228] σ Q := by
  refine ev_entry rfl (Nat.le_of_ble_eq_true rfl) (lv := [(0, .ref 228)]) rfl ?_
  refine ev_aload_n 0 dX6_value_0 rfl ?_
  refine ev_get G6 lay_228 (k := 4) rfl (Nat.le_of_ble_eq_true rfl) dX6_value_1 w_197 ?_
  exact ev_iret rfl dX6_value_4 h
theorem EX6_isLetter {N : Nat} {σ : Sg} {Q : Option Value → Sg → Prop} {x0 : Int32} (h : (x0 < 97 → Q (some (.int 0)) σ) ∧ (¬ x0 < 97 → (122 < x0 → Q (some (.int 0)) σ) ∧ (¬ 122 < x0 → Q (some (.int 1)) σ))) : EvM N mX6_isLetter [.int x0] σ Q := by
  refine ev_entry rfl (Nat.le_of_ble_eq_true rfl) (lv := [(0, .int x0)]) rfl ?_
  refine ev_iload_n 0 dX6_isLetter_0 rfl ?_
  refine ev_bipush 97 dX6_isLetter_1 (by decide) ?_
  refine ev_icmp_lt 16 dX6_isLetter_3 (by decide) (fun c9 => ?_) (fun c9 => ?_)
  · replace h := h.1 c9
    refine ev_iconst 0 dX6_isLetter_16 (by decide) ?_
    exact ev_zret (ty := .boolean) rfl (by rfl) dX6_isLetter_17 h
  · replace h := h.2 c9
    refine ev_iload_n 0 dX6_isLetter_6 rfl ?_
    refine ev_bipush 122 dX6_isLetter_7 (by decide) ?_
    refine ev_icmp_gt 16 dX6_isLetter_9 (by decide) (fun c9 => ?_) (fun c9 => ?_)
    · replace h := h.1 c9
      refine ev_iconst 0 dX6_isLetter_16 (by decide) ?_
      exact ev_zret (ty := .boolean) rfl (by rfl) dX6_isLetter_17 h
    · replace h := h.2 c9
      refine ev_iconst 1 dX6_isLetter_12 (by decide) ?_
      refine ev_goto 17 dX6_isLetter_13 (by decide) ?_
      exact ev_zret (ty := .boolean) rfl (by rfl) dX6_isLetter_17 h
theorem EX6_isFigure {N : Nat} {σ : Sg} {Q : Option Value → Sg → Prop} {x0 : Int32} (h : (x0 < 48 → Q (some (.int 0)) σ) ∧ (¬ x0 < 48 → (57 < x0 → Q (some (.int 0)) σ) ∧ (¬ 57 < x0 → Q (some (.int 1)) σ))) : EvM N mX6_isFigure [.int x0] σ Q := by
  refine ev_entry rfl (Nat.le_of_ble_eq_true rfl) (lv := [(0, .int x0)]) rfl ?_
  refine ev_iload_n 0 dX6_isFigure_0 rfl ?_
  refine ev_bipush 48 dX6_isFigure_1 (by decide) ?_
  refine ev_icmp_lt 16 dX6_isFigure_3 (by decide) (fun c9 => ?_) (fun c9 => ?_)
  · replace h := h.1 c9
    refine ev_iconst 0 dX6_isFigure_16 (by decide) ?_
    exact ev_zret (ty := .boolean) rfl (by rfl) dX6_isFigure_17 h
  · replace h := h.2 c9
    refine ev_iload_n 0 dX6_isFigure_6 rfl ?_
    refine ev_bipush 57 dX6_isFigure_7 (by decide) ?_
    refine ev_icmp_gt 16 dX6_isFigure_9 (by decide) (fun c9 => ?_) (fun c9 => ?_)
    · replace h := h.1 c9
      refine ev_iconst 0 dX6_isFigure_16 (by decide) ?_
      exact ev_zret (ty := .boolean) rfl (by rfl) dX6_isFigure_17 h
    · replace h := h.2 c9
      refine ev_iconst 1 dX6_isFigure_12 (by decide) ?_
      refine ev_goto 17 dX6_isFigure_13 (by decide) ?_
      exact ev_zret (ty := .boolean) rfl (by rfl) dX6_isFigure_17 h
theorem EX7_size {N : Nat} {σ : Sg} {Q : Option Value → Sg → Prop} (h : Q (some (.int (σ.1 5 4))) σ) : EvM N mX7_size [.ref 5] σ Q := by
  refine ev_entry rfl (Nat.le_of_ble_eq_true rfl) (lv := [(0, .ref 5)]) rfl ?_
  refine ev_aload_n 0 dX7_size_0 rfl ?_
  refine ev_get G7 lay_5 (k := 4) rfl (Nat.le_of_ble_eq_true rfl) dX7_size_1 w_156 ?_
  exact ev_iret rfl dX7_size_4 h
theorem EX7_isText {N : Nat} {σ : Sg} {Q : Option Value → Sg → Prop} {x1 : Int32} (h : (x1 < 0 → Q (some (.int 0)) σ) ∧ (¬ x1 < 0 → ((σ.1 5 4) ≤ x1 → Q (some (.int 0)) σ) ∧ (¬ (σ.1 5 4) ≤ x1 → Q (some (.int 1)) σ))) : EvM N mX7_isText [.ref 5, .int x1] σ Q := by
  refine ev_entry rfl (Nat.le_of_ble_eq_true rfl) (lv := [(0, .ref 5), (1, .int x1)]) rfl ?_
  refine ev_iload_n 1 dX7_isText_0 rfl ?_
  refine ev_if_lt 16 dX7_isText_1 (by decide) (fun c9 => ?_) (fun c9 => ?_)
  · replace h := h.1 c9
    refine ev_iconst 0 dX7_isText_16 (by decide) ?_
    exact ev_zret (ty := .boolean) rfl (by rfl) dX7_isText_17 h
  · replace h := h.2 c9
    refine ev_iload_n 1 dX7_isText_4 rfl ?_
    refine ev_aload_n 0 dX7_isText_5 rfl ?_
    refine ev_get G7 lay_5 (k := 4) rfl (Nat.le_of_ble_eq_true rfl) dX7_isText_6 w_156 ?_
    refine ev_icmp_ge 16 dX7_isText_9 (by decide) (fun c9 => ?_) (fun c9 => ?_)
    · replace h := h.1 c9
      refine ev_iconst 0 dX7_isText_16 (by decide) ?_
      exact ev_zret (ty := .boolean) rfl (by rfl) dX7_isText_17 h
    · replace h := h.2 c9
      refine ev_iconst 1 dX7_isText_12 (by decide) ?_
      refine ev_goto 17 dX7_isText_13 (by decide) ?_
      exact ev_zret (ty := .boolean) rfl (by rfl) dX7_isText_17 h
theorem EX7_words {N : Nat} {σ : Sg} {Q : Option Value → Sg → Prop} (h : Q (some (.int (σ.1 5 9))) σ) : EvM N mX7_words [.ref 5] σ Q := by
  refine ev_entry rfl (Nat.le_of_ble_eq_true rfl) (lv := [(0, .ref 5)]) rfl ?_
  refine ev_aload_n 0 dX7_words_0 rfl ?_
  refine ev_get G7 lay_5 (k := 9) rfl (Nat.le_of_ble_eq_true rfl) dX7_words_1 w_161 ?_
  exact ev_iret rfl dX7_words_4 h
theorem EX7_isWord {N : Nat} {σ : Sg} {Q : Option Value → Sg → Prop} {x1 : Int32} (h : (x1 < 0 → Q (some (.int 0)) σ) ∧ (¬ x1 < 0 → ((σ.1 5 9) ≤ x1 → Q (some (.int 0)) σ) ∧ (¬ (σ.1 5 9) ≤ x1 → Q (some (.int 1)) σ))) : EvM N mX7_isWord [.ref 5, .int x1] σ Q := by
  refine ev_entry rfl (Nat.le_of_ble_eq_true rfl) (lv := [(0, .ref 5), (1, .int x1)]) rfl ?_
  refine ev_iload_n 1 dX7_isWord_0 rfl ?_
  refine ev_if_lt 16 dX7_isWord_1 (by decide) (fun c9 => ?_) (fun c9 => ?_)
  · replace h := h.1 c9
    refine ev_iconst 0 dX7_isWord_16 (by decide) ?_
    exact ev_zret (ty := .boolean) rfl (by rfl) dX7_isWord_17 h
  · replace h := h.2 c9
    refine ev_iload_n 1 dX7_isWord_4 rfl ?_
    refine ev_aload_n 0 dX7_isWord_5 rfl ?_
    refine ev_get G7 lay_5 (k := 9) rfl (Nat.le_of_ble_eq_true rfl) dX7_isWord_6 w_161 ?_
    refine ev_icmp_ge 16 dX7_isWord_9 (by decide) (fun c9 => ?_) (fun c9 => ?_)
    · replace h := h.1 c9
      refine ev_iconst 0 dX7_isWord_16 (by decide) ?_
      exact ev_zret (ty := .boolean) rfl (by rfl) dX7_isWord_17 h
    · replace h := h.2 c9
      refine ev_iconst 1 dX7_isWord_12 (by decide) ?_
      refine ev_goto 17 dX7_isWord_13 (by decide) ?_
      exact ev_zret (ty := .boolean) rfl (by rfl) dX7_isWord_17 h
theorem EX8_size {N : Nat} {σ : Sg} {Q : Option Value → Sg → Prop} (h : Q (some (.int (σ.1 122 2))) σ) : EvM N mX8_size [.ref 122] σ Q := by
  refine ev_entry rfl (Nat.le_of_ble_eq_true rfl) (lv := [(0, .ref 122)]) rfl ?_
  refine ev_aload_n 0 dX8_size_0 rfl ?_
  refine ev_get G8 lay_122 (k := 2) rfl (Nat.le_of_ble_eq_true rfl) dX8_size_1 w_306 ?_
  exact ev_iret rfl dX8_size_4 h
theorem EX8_keyOf {N : Nat} {σ : Sg} {Q : Option Value → Sg → Prop} {x0 : Int32} {x1 : Int32} (h : Q (some (.int ((1 <<< ((2 * x0) &&& 31)) ||| x1))) σ) : EvM N mX8_keyOf [.int x0, .int x1] σ Q := by
  refine ev_entry rfl (Nat.le_of_ble_eq_true rfl) (lv := [(0, .int x0), (1, .int x1)]) rfl ?_
  refine ev_iconst 1 dX8_keyOf_0 (by decide) ?_
  refine ev_iconst 2 dX8_keyOf_1 (by decide) ?_
  refine ev_iload_n 0 dX8_keyOf_2 rfl ?_
  refine ev_imul dX8_keyOf_3 ?_
  refine ev_ishl dX8_keyOf_4 ?_
  refine ev_iload_n 1 dX8_keyOf_5 rfl ?_
  refine ev_ior dX8_keyOf_6 ?_
  exact ev_iret rfl dX8_keyOf_7 h
theorem EX8_tables {N : Nat} {σ : Sg} {Q : Option Value → Sg → Prop} (h : Q (some (.int (1 <<< ((2 * (σ.1 122 4)) &&& 31)))) σ) : EvM N mX8_tables [.ref 122] σ Q := by
  refine ev_entry rfl (Nat.le_of_ble_eq_true rfl) (lv := [(0, .ref 122)]) rfl ?_
  refine ev_iconst 1 dX8_tables_0 (by decide) ?_
  refine ev_iconst 2 dX8_tables_1 (by decide) ?_
  refine ev_aload_n 0 dX8_tables_2 rfl ?_
  refine ev_get G8 lay_122 (k := 4) rfl (Nat.le_of_ble_eq_true rfl) dX8_tables_3 w_308 ?_
  refine ev_imul dX8_tables_6 ?_
  refine ev_ishl dX8_tables_7 ?_
  exact ev_iret rfl dX8_tables_8 h
theorem EX10_in {N : Nat} {σ : Sg} {Q : Option Value → Sg → Prop} {y0 : Int64} {y2 : Int64} {y4 : Int64} (h : ((lg_cmp y0 y2) < 0 → Q (some (.int 0)) σ) ∧ (¬ (lg_cmp y0 y2) < 0 → (0 < (lg_cmp y0 y4) → Q (some (.int 0)) σ) ∧ (¬ 0 < (lg_cmp y0 y4) → Q (some (.int 1)) σ))) : EvM N mX10_in [.long y0, .long y2, .long y4] σ Q := by
  refine ev_entry rfl (Nat.le_of_ble_eq_true rfl) (lv := [(0, .long y0), (2, .long y2), (4, .long y4)]) rfl ?_
  refine ev_lload_n 0 dX10_in_0 rfl ?_
  refine ev_lload_n 1 dX10_in_1 rfl ?_
  refine ev_lcmp dX10_in_2 ?_
  refine ev_if_lt 17 dX10_in_3 (by decide) (fun c9 => ?_) (fun c9 => ?_)
  · replace h := h.1 c9
    refine ev_iconst 0 dX10_in_17 (by decide) ?_
    exact ev_zret (ty := .boolean) rfl (by rfl) dX10_in_18 h
  · replace h := h.2 c9
    refine ev_lload_n 0 dX10_in_6 rfl ?_
    refine ev_lload 2 dX10_in_7 rfl ?_
    refine ev_lcmp dX10_in_9 ?_
    refine ev_if_gt 17 dX10_in_10 (by decide) (fun c9 => ?_) (fun c9 => ?_)
    · replace h := h.1 c9
      refine ev_iconst 0 dX10_in_17 (by decide) ?_
      exact ev_zret (ty := .boolean) rfl (by rfl) dX10_in_18 h
    · replace h := h.2 c9
      refine ev_iconst 1 dX10_in_13 (by decide) ?_
      refine ev_goto 18 dX10_in_14 (by decide) ?_
      exact ev_zret (ty := .boolean) rfl (by rfl) dX10_in_18 h
theorem EX10_fault {N : Nat} {σ : Sg} {Q : Option Value → Sg → Prop} (h : Q (some (.int (σ.1 245 50))) σ) : EvM N mX10_fault [.ref 245] σ Q := by
  refine ev_entry rfl (Nat.le_of_ble_eq_true rfl) (lv := [(0, .ref 245)]) rfl ?_
  refine ev_aload_n 0 dX10_fault_0 rfl ?_
  refine ev_get G10 lay_245 (k := 50) rfl (Nat.le_of_ble_eq_true rfl) dX10_fault_1 w_1276 ?_
  exact ev_iret rfl dX10_fault_4 h
