theorem EX8_add {N : Nat} {σ : Sg} {Q : Option Value → Sg → Prop} {x1 : Int32} {x2 : Int32} (h : EvM N mX4_areSounds [.int x1, .int 6, .int x2] σ (fun r9 σ1 => ∃ v1, r9 = some (.int v1) ∧ ((v1 = 0 → Q (some (.int (-1))) σ1) ∧ (¬ v1 = 0 → EvM N mX8_isWord [.ref 122, .int ((1 <<< ((2 * (x1)) &&& 31)) ||| (x2))] σ1 (fun r9 σ2 => ∃ v2, r9 = some (.int v2) ∧ ((v2 = 0 → ((σ2.1 122 2) < 12 → vp_in (((1 <<< ((2 * (x1)) &&& 31)) ||| (x2)) >>> (6 &&& 31)) 128 ∧ (vp_in (((1 <<< ((2 * (x1)) &&& 31)) ||| (x2)) >>> (6 &&& 31)) 128 ∧ (Q (some (.int (((u1 (u2 σ2 123 (((1 <<< ((2 * (x1)) &&& 31)) ||| (x2)) >>> (6 &&& 31)).toNatClampNeg ((σ2.2 123 (((1 <<< ((2 * (x1)) &&& 31)) ||| (x2)) >>> (6 &&& 31)).toNatClampNeg) ||| ((1 : Int64) <<< ((((1 <<< ((2 * (x1)) &&& 31)) ||| (x2)) &&& 63).toInt64 &&& 63)))) 122 2 (((u2 σ2 123 (((1 <<< ((2 * (x1)) &&& 31)) ||| (x2)) >>> (6 &&& 31)).toNatClampNeg ((σ2.2 123 (((1 <<< ((2 * (x1)) &&& 31)) ||| (x2)) >>> (6 &&& 31)).toNatClampNeg) ||| ((1 : Int64) <<< ((((1 <<< ((2 * (x1)) &&& 31)) ||| (x2)) &&& 63).toInt64 &&& 63)))).1 122 2) + 1)).1 122 2) - 1))) (u1 (u2 σ2 123 (((1 <<< ((2 * (x1)) &&& 31)) ||| (x2)) >>> (6 &&& 31)).toNatClampNeg ((σ2.2 123 (((1 <<< ((2 * (x1)) &&& 31)) ||| (x2)) >>> (6 &&& 31)).toNatClampNeg) ||| ((1 : Int64) <<< ((((1 <<< ((2 * (x1)) &&& 31)) ||| (x2)) &&& 63).toInt64 &&& 63)))) 122 2 (((u2 σ2 123 (((1 <<< ((2 * (x1)) &&& 31)) ||| (x2)) >>> (6 &&& 31)).toNatClampNeg ((σ2.2 123 (((1 <<< ((2 * (x1)) &&& 31)) ||| (x2)) >>> (6 &&& 31)).toNatClampNeg) ||| ((1 : Int64) <<< ((((1 <<< ((2 * (x1)) &&& 31)) ||| (x2)) &&& 63).toInt64 &&& 63)))).1 122 2) + 1))))) ∧ (¬ (σ2.1 122 2) < 12 → Q (some (.int (-3))) σ2)) ∧ (¬ v2 = 0 → Q (some (.int (-1))) σ2))))))) : EvM (N + 1) mX8_add [.ref 122, .int x1, .int x2] σ Q := by
  refine ev_entry rfl (Nat.le_of_ble_eq_true rfl) (lv := [(0, .ref 122), (1, .int x1), (2, .int x2)]) rfl ?_
  refine ev_iload_n 1 dX8_add_0 rfl ?_
  refine ev_bipush 6 dX8_add_1 (by decide) ?_
  refine ev_iload_n 2 dX8_add_3 rfl ?_
  refine ev_callS (M' := mX4_areSounds) [.int x1, .int 6, .int x2] vX4_areSounds dX8_add_4 w_859 rfl rfl (Nat.le_of_ble_eq_true rfl) h ?_
  rintro r9 σ1 ⟨v1, rfl, h⟩
  refine ev_if_eq 22 dX8_add_7 (by decide) (fun c9 => ?_) (fun c9 => ?_)
  · replace h := h.1 c9
    refine ev_iconst (-1) dX8_add_22 (by decide) ?_
    exact ev_iret rfl dX8_add_23 h
  · replace h := h.2 c9
    refine ev_aload_n 0 dX8_add_10 rfl ?_
    refine ev_iload_n 1 dX8_add_11 rfl ?_
    refine ev_iload_n 2 dX8_add_12 rfl ?_
    refine ev_callS (M' := mX8_keyOf) [.int x1, .int x2] vX8_keyOf dX8_add_13 w_860 rfl rfl (Nat.le_of_ble_eq_true rfl) (EX8_keyOf (Q := fun r9 s9 => σ1 = s9 ∧ r9 = some (.int ((1 <<< ((2 * (x1)) &&& 31)) ||| (x2)))) ⟨rfl, rfl⟩) ?_
    rintro r9 s9 ⟨rfl, rfl⟩
    refine ev_callV (M' := mX8_isWord) [.int ((1 <<< ((2 * (x1)) &&& 31)) ||| (x2))] vX8_isWord G8 lay_122 dX8_add_16 w_863 rfl rfl (Nat.le_of_ble_eq_true rfl) h ?_
    rintro r9 σ2 ⟨v2, rfl, h⟩
    refine ev_if_eq 24 dX8_add_19 (by decide) (fun c9 => ?_) (fun c9 => ?_)
    · replace h := h.1 c9
      refine ev_aload_n 0 dX8_add_24 rfl ?_
      refine ev_get G8 lay_122 (k := 2) rfl (Nat.le_of_ble_eq_true rfl) dX8_add_25 w_306 ?_
      refine ev_bipush 12 dX8_add_28 (by decide) ?_
      refine ev_icmp_lt 36 dX8_add_30 (by decide) (fun c9 => ?_) (fun c9 => ?_)
      · replace h := h.1 c9
        refine ev_iload_n 1 dX8_add_36 rfl ?_
        refine ev_iload_n 2 dX8_add_37 rfl ?_
        refine ev_callS (M' := mX8_keyOf) [.int x1, .int x2] vX8_keyOf dX8_add_38 w_860 rfl rfl (Nat.le_of_ble_eq_true rfl) (EX8_keyOf (Q := fun r9 s9 => σ2 = s9 ∧ r9 = some (.int ((1 <<< ((2 * (x1)) &&& 31)) ||| (x2)))) ⟨rfl, rfl⟩) ?_
        rintro r9 s9 ⟨rfl, rfl⟩
        refine ev_istore_n (lv' := [(3, .int ((1 <<< ((2 * (x1)) &&& 31)) ||| (x2))), (0, .ref 122), (1, .int x1), (2, .int x2)]) dX8_add_41 (Nat.le_of_ble_eq_true rfl) rfl ?_
        refine ev_aload_n 1 dX8_add_42 rfl ?_
        refine ev_getR (r := 123) G8 lay_122 (k := 1) rfl (Nat.le_of_ble_eq_true rfl) dX8_add_43 w_305 ?_
        refine ev_iload_n 0 dX8_add_46 rfl ?_
        refine ev_bipush 6 dX8_add_47 (by decide) ?_
        refine ev_ishr dX8_add_49 ?_
        refine ev_dup2 dX8_add_50 rfl rfl ?_
        have hb51 := h.1
        replace h := h.2
        refine ev_lald lay_123 (Nat.le_of_ble_eq_true rfl) hb51 dX8_add_51 ?_
        refine ev_lconst 1 dX8_add_52 (by decide) ?_
        refine ev_iload_n 0 dX8_add_53 rfl ?_
        refine ev_bipush 63 dX8_add_54 (by decide) ?_
        refine ev_iand dX8_add_56 ?_
        refine ev_lshl dX8_add_57 ?_
        refine ev_lor dX8_add_58 ?_
        have hb59 := h.1
        replace h := h.2
        refine ev_last lay_123 (Nat.le_of_ble_eq_true rfl) hb59 dX8_add_59 ?_
        refine ev_aload_n 1 dX8_add_60 rfl ?_
        refine ev_dup dX8_add_61 rfl ?_
        refine ev_get G8 lay_122 (k := 2) rfl (Nat.le_of_ble_eq_true rfl) dX8_add_62 w_306 ?_
        refine ev_iconst 1 dX8_add_65 (by decide) ?_
        refine ev_iadd dX8_add_66 ?_
        refine ev_put G8 lay_122 (k := 2) rfl (Nat.le_of_ble_eq_true rfl) rfl (by decide +kernel) dX8_add_67 w_306 ?_
        refine ev_aload_n 1 dX8_add_70 rfl ?_
        refine ev_get G8 lay_122 (k := 2) rfl (Nat.le_of_ble_eq_true rfl) dX8_add_71 w_306 ?_
        refine ev_iconst 1 dX8_add_74 (by decide) ?_
        refine ev_isub dX8_add_75 ?_
        exact ev_iret rfl dX8_add_76 h
      · replace h := h.2 c9
        refine ev_bipush (-3) dX8_add_33 (by decide) ?_
        exact ev_iret rfl dX8_add_35 h
    · replace h := h.2 c9
      refine ev_iconst (-1) dX8_add_22 (by decide) ?_
      exact ev_iret rfl dX8_add_23 h
theorem EX8_isWord {N : Nat} {σ : Sg} {Q : Option Value → Sg → Prop} {x1 : Int32} (h : (x1 < 0 → Q (some (.int 0)) σ) ∧ (¬ x1 < 0 → (8192 ≤ x1 → Q (some (.int 0)) σ) ∧ (¬ 8192 ≤ x1 → vp_in (x1 >>> (6 &&& 31)) 128 ∧ (((lg_cmp (((σ.2 123 (x1 >>> (6 &&& 31)).toNatClampNeg) >>> ((x1 &&& 63).toInt64 &&& 63)) &&& 1) 1) = 0 → Q (some (.int 1)) σ) ∧ (¬ (lg_cmp (((σ.2 123 (x1 >>> (6 &&& 31)).toNatClampNeg) >>> ((x1 &&& 63).toInt64 &&& 63)) &&& 1) 1) = 0 → Q (some (.int 0)) σ))))) : EvM N mX8_isWord [.ref 122, .int x1] σ Q := by
  refine ev_entry rfl (Nat.le_of_ble_eq_true rfl) (lv := [(0, .ref 122), (1, .int x1)]) rfl ?_
  refine ev_iload_n 1 dX8_isWord_0 rfl ?_
  refine ev_if_lt 36 dX8_isWord_1 (by decide) (fun c9 => ?_) (fun c9 => ?_)
  · replace h := h.1 c9
    refine ev_iconst 0 dX8_isWord_36 (by decide) ?_
    exact ev_zret (ty := .boolean) rfl (by rfl) dX8_isWord_37 h
  · replace h := h.2 c9
    refine ev_iload_n 1 dX8_isWord_4 rfl ?_
    refine ev_sipush 8192 dX8_isWord_5 (by decide) ?_
    refine ev_icmp_ge 36 dX8_isWord_8 (by decide) (fun c9 => ?_) (fun c9 => ?_)
    · replace h := h.1 c9
      refine ev_iconst 0 dX8_isWord_36 (by decide) ?_
      exact ev_zret (ty := .boolean) rfl (by rfl) dX8_isWord_37 h
    · replace h := h.2 c9
      refine ev_aload_n 0 dX8_isWord_11 rfl ?_
      refine ev_getR (r := 123) G8 lay_122 (k := 1) rfl (Nat.le_of_ble_eq_true rfl) dX8_isWord_12 w_305 ?_
      refine ev_iload_n 1 dX8_isWord_15 rfl ?_
      refine ev_bipush 6 dX8_isWord_16 (by decide) ?_
      refine ev_ishr dX8_isWord_18 ?_
      have hb19 := h.1
      replace h := h.2
      refine ev_lald lay_123 (Nat.le_of_ble_eq_true rfl) hb19 dX8_isWord_19 ?_
      refine ev_iload_n 1 dX8_isWord_20 rfl ?_
      refine ev_bipush 63 dX8_isWord_21 (by decide) ?_
      refine ev_iand dX8_isWord_23 ?_
      refine ev_lshr dX8_isWord_24 ?_
      refine ev_lconst 1 dX8_isWord_25 (by decide) ?_
      refine ev_land dX8_isWord_26 ?_
      refine ev_lconst 1 dX8_isWord_27 (by decide) ?_
      refine ev_lcmp dX8_isWord_28 ?_
      refine ev_if_ne 36 dX8_isWord_29 (by decide) (fun c9 => ?_) (fun c9 => ?_)
      · replace h := h.2 c9
        refine ev_iconst 0 dX8_isWord_36 (by decide) ?_
        exact ev_zret (ty := .boolean) rfl (by rfl) dX8_isWord_37 h
      · replace h := h.1 c9
        refine ev_iconst 1 dX8_isWord_32 (by decide) ?_
        refine ev_goto 37 dX8_isWord_33 (by decide) ?_
        exact ev_zret (ty := .boolean) rfl (by rfl) dX8_isWord_37 h
theorem EX8_signAt {N : Nat} {σ : Sg} {Q : Option Value → Sg → Prop} {x1 : Int32} (h : (x1 < 0 → Q (some (.int (-1))) σ) ∧ (¬ x1 < 0 → (x1 < 6 → EvM (N + 4) mX8_rank [.ref 122] σ (fun r9 σ1 => r9 = none ∧ (((σ1.1 122 4) ≤ x1 → Q (some (.int (-4))) σ1) ∧ (¬ (σ1.1 122 4) ≤ x1 → vp_in x1 6 ∧ (Q (some (.int (σ1.1 124 (x1).toNatClampNeg))) σ1))))) ∧ (¬ x1 < 6 → Q (some (.int (-1))) σ))) : EvM (N + 5) mX8_signAt [.ref 122, .int x1] σ Q := by
  refine ev_entry rfl (Nat.le_of_ble_eq_true rfl) (lv := [(0, .ref 122), (1, .int x1)]) rfl ?_
  refine ev_iload_n 1 dX8_signAt_0 rfl ?_
  refine ev_if_lt 10 dX8_signAt_1 (by decide) (fun c9 => ?_) (fun c9 => ?_)
  · replace h := h.1 c9
    refine ev_iconst (-1) dX8_signAt_10 (by decide) ?_
    exact ev_iret rfl dX8_signAt_11 h
  · replace h := h.2 c9
    refine ev_iload_n 1 dX8_signAt_4 rfl ?_
    refine ev_bipush 6 dX8_signAt_5 (by decide) ?_
    refine ev_icmp_lt 12 dX8_signAt_7 (by decide) (fun c9 => ?_) (fun c9 => ?_)
    · replace h := h.1 c9
      refine ev_aload_n 0 dX8_signAt_12 rfl ?_
      refine ev_callV (M' := mX8_rank) [] vX8_rank G8 lay_122 dX8_signAt_13 w_875 rfl rfl (Nat.le_of_ble_eq_true rfl) h ?_
      rintro r9 σ1 ⟨rfl, h⟩
      refine ev_iload_n 1 dX8_signAt_16 rfl ?_
      refine ev_aload_n 0 dX8_signAt_17 rfl ?_
      refine ev_get G8 lay_122 (k := 4) rfl (Nat.le_of_ble_eq_true rfl) dX8_signAt_18 w_308 ?_
      refine ev_icmp_ge 33 dX8_signAt_21 (by decide) (fun c9 => ?_) (fun c9 => ?_)
      · replace h := h.1 c9
        refine ev_bipush (-4) dX8_signAt_33 (by decide) ?_
        exact ev_iret rfl dX8_signAt_35 h
      · replace h := h.2 c9
        refine ev_aload_n 0 dX8_signAt_24 rfl ?_
        refine ev_getR (r := 124) G8 lay_122 (k := 3) rfl (Nat.le_of_ble_eq_true rfl) dX8_signAt_25 w_307 ?_
        refine ev_iload_n 1 dX8_signAt_28 rfl ?_
        have hb29 := h.1
        replace h := h.2
        refine ev_iald lay_124 (Nat.le_of_ble_eq_true rfl) hb29 dX8_signAt_29 ?_
        refine ev_goto 35 dX8_signAt_30 (by decide) ?_
        exact ev_iret rfl dX8_signAt_35 h
    · replace h := h.2 c9
      refine ev_iconst (-1) dX8_signAt_10 (by decide) ?_
      exact ev_iret rfl dX8_signAt_11 h
theorem EX8_readWith {N : Nat} {σ : Sg} {Q : Option Value → Sg → Prop} {x1 : Int32} {x2 : Int32} (h : EvM (N + 4) mX8_rank [.ref 122] σ (fun r9 σ1 => r9 = none ∧ (EvM (N + 4) mX7_areTexts [.ref 5, .int x1] σ1 (fun r9 σ2 => ∃ v2, r9 = some (.int v2) ∧ ((v2 = 0 → Q (some (.int (-1))) σ2) ∧ (¬ v2 = 0 → (x2 < 0 → Q (some (.int (-1))) σ2) ∧ (¬ x2 < 0 → (x2 < (1 <<< ((2 * (σ2.1 122 4)) &&& 31)) → EvM (N + 4) mX8_collect [.ref 122, .int x1] σ2 (fun r9 σ3 => r9 = none ∧ (EvM (N + 4) mX8_spread [.ref 122, .int x2] σ3 (fun r9 σ4 => r9 = none ∧ (EvM (N + 4) mX8_readNow [.ref 122] σ4 (fun r9 σ5 => ∃ v5, r9 = some (.int v5) ∧ (Q (some (.int v5)) σ5))))))) ∧ (¬ x2 < (1 <<< ((2 * (σ2.1 122 4)) &&& 31)) → Q (some (.int (-1))) σ2)))))))) : EvM (N + 5) mX8_readWith [.ref 122, .int x1, .int x2] σ Q := by
  refine ev_entry rfl (Nat.le_of_ble_eq_true rfl) (lv := [(0, .ref 122), (1, .int x1), (2, .int x2)]) rfl ?_
  refine ev_aload_n 0 dX8_readWith_0 rfl ?_
  refine ev_callV (M' := mX8_rank) [] vX8_rank G8 lay_122 dX8_readWith_1 w_875 rfl rfl (Nat.le_of_ble_eq_true rfl) h ?_
  rintro r9 σ1 ⟨rfl, h⟩
  refine ev_aload_n 0 dX8_readWith_4 rfl ?_
  refine ev_getR (r := 5) G8 lay_122 (k := 0) rfl (Nat.le_of_ble_eq_true rfl) dX8_readWith_5 w_304 ?_
  refine ev_iload_n 1 dX8_readWith_8 rfl ?_
  refine ev_callV (M' := mX7_areTexts) [.int x1] vX7_areTexts G7 lay_5 dX8_readWith_9 w_892 rfl rfl (Nat.le_of_ble_eq_true rfl) h ?_
  rintro r9 σ2 ⟨v2, rfl, h⟩
  refine ev_if_eq 27 dX8_readWith_12 (by decide) (fun c9 => ?_) (fun c9 => ?_)
  · replace h := h.1 c9
    refine ev_iconst (-1) dX8_readWith_27 (by decide) ?_
    exact ev_iret rfl dX8_readWith_28 h
  · replace h := h.2 c9
    refine ev_iload_n 2 dX8_readWith_15 rfl ?_
    refine ev_if_lt 27 dX8_readWith_16 (by decide) (fun c9 => ?_) (fun c9 => ?_)
    · replace h := h.1 c9
      refine ev_iconst (-1) dX8_readWith_27 (by decide) ?_
      exact ev_iret rfl dX8_readWith_28 h
    · replace h := h.2 c9
      refine ev_iload_n 2 dX8_readWith_19 rfl ?_
      refine ev_aload_n 0 dX8_readWith_20 rfl ?_
      refine ev_callV (M' := mX8_tables) [] vX8_tables G8 lay_122 dX8_readWith_21 w_896 rfl rfl (Nat.le_of_ble_eq_true rfl) (EX8_tables (Q := fun r9 s9 => σ2 = s9 ∧ r9 = some (.int (1 <<< ((2 * (σ2.1 122 4)) &&& 31)))) ⟨rfl, rfl⟩) ?_
      rintro r9 s9 ⟨rfl, rfl⟩
      refine ev_icmp_lt 29 dX8_readWith_24 (by decide) (fun c9 => ?_) (fun c9 => ?_)
      · replace h := h.1 c9
        refine ev_aload_n 0 dX8_readWith_29 rfl ?_
        refine ev_iload_n 1 dX8_readWith_30 rfl ?_
        refine ev_callV (M' := mX8_collect) [.int x1] vX8_collect G8 lay_122 dX8_readWith_31 w_900 rfl rfl (Nat.le_of_ble_eq_true rfl) h ?_
        rintro r9 σ3 ⟨rfl, h⟩
        refine ev_aload_n 0 dX8_readWith_34 rfl ?_
        refine ev_iload_n 2 dX8_readWith_35 rfl ?_
        refine ev_callV (M' := mX8_spread) [.int x2] vX8_spread G8 lay_122 dX8_readWith_36 w_919 rfl rfl (Nat.le_of_ble_eq_true rfl) h ?_
        rintro r9 σ4 ⟨rfl, h⟩
        refine ev_aload_n 0 dX8_readWith_39 rfl ?_
        refine ev_callV (M' := mX8_readNow) [] vX8_readNow G8 lay_122 dX8_readWith_40 w_923 rfl rfl (Nat.le_of_ble_eq_true rfl) h ?_
        rintro r9 σ5 ⟨v5, rfl, h⟩
        exact ev_iret rfl dX8_readWith_43 h
      · replace h := h.2 c9
        refine ev_iconst (-1) dX8_readWith_27 (by decide) ?_
        exact ev_iret rfl dX8_readWith_28 h
theorem EX8_tellBest {N : Nat} {σ : Sg} {Q : Option Value → Sg → Prop} {x1 : Int32} {x2 : Int32} (h : EvM (N + 4) mX7_areTexts [.ref 5, .int x1] σ (fun r9 σ1 => ∃ v1, r9 = some (.int v1) ∧ ((v1 = 0 → Q (some (.int (-1))) σ1) ∧ (¬ v1 = 0 → (x2 < 0 → Q (some (.int (-1))) σ1) ∧ (¬ x2 < 0 → (x2 ≤ 2 → EvM (N + 4) mX8_rank [.ref 122] σ1 (fun r9 σ2 => r9 = none ∧ (EvM (N + 4) mX8_collect [.ref 122, .int x1] σ2 (fun r9 σ3 => r9 = none ∧ (EvM (N + 4) mX8_searchBest [.ref 122] σ3 (fun r9 σ4 => r9 = none ∧ ((x2 = 0 → EvM (N + 4) mX8_packBest [.ref 122] σ4 (fun r9 σ5 => ∃ v5, r9 = some (.int v5) ∧ (Q (some (.int v5)) σ5))) ∧ (¬ x2 = 0 → (x2 = 1 → Q (some (.int (σ4.1 122 12))) σ4) ∧ (¬ x2 = 1 → Q (some (.int (σ4.1 122 13))) σ4))))))))) ∧ (¬ x2 ≤ 2 → Q (some (.int (-1))) σ1)))))) : EvM (N + 5) mX8_tellBest [.ref 122, .int x1, .int x2] σ Q := by
  refine ev_entry rfl (Nat.le_of_ble_eq_true rfl) (lv := [(0, .ref 122), (1, .int x1), (2, .int x2)]) rfl ?_
  refine ev_aload_n 0 dX8_tellBest_0 rfl ?_
  refine ev_getR (r := 5) G8 lay_122 (k := 0) rfl (Nat.le_of_ble_eq_true rfl) dX8_tellBest_1 w_304 ?_
  refine ev_iload_n 1 dX8_tellBest_4 rfl ?_
  refine ev_callV (M' := mX7_areTexts) [.int x1] vX7_areTexts G7 lay_5 dX8_tellBest_5 w_892 rfl rfl (Nat.le_of_ble_eq_true rfl) h ?_
  rintro r9 σ1 ⟨v1, rfl, h⟩
  refine ev_if_eq 20 dX8_tellBest_8 (by decide) (fun c9 => ?_) (fun c9 => ?_)
  · replace h := h.1 c9
    refine ev_iconst (-1) dX8_tellBest_20 (by decide) ?_
    exact ev_iret rfl dX8_tellBest_21 h
  · replace h := h.2 c9
    refine ev_iload_n 2 dX8_tellBest_11 rfl ?_
    refine ev_if_lt 20 dX8_tellBest_12 (by decide) (fun c9 => ?_) (fun c9 => ?_)
    · replace h := h.1 c9
      refine ev_iconst (-1) dX8_tellBest_20 (by decide) ?_
      exact ev_iret rfl dX8_tellBest_21 h
    · replace h := h.2 c9
      refine ev_iload_n 2 dX8_tellBest_15 rfl ?_
      refine ev_iconst 2 dX8_tellBest_16 (by decide) ?_
      refine ev_icmp_le 22 dX8_tellBest_17 (by decide) (fun c9 => ?_) (fun c9 => ?_)
      · replace h := h.1 c9
        refine ev_aload_n 0 dX8_tellBest_22 rfl ?_
        refine ev_callV (M' := mX8_rank) [] vX8_rank G8 lay_122 dX8_tellBest_23 w_875 rfl rfl (Nat.le_of_ble_eq_true rfl) h ?_
        rintro r9 σ2 ⟨rfl, h⟩
        refine ev_aload_n 0 dX8_tellBest_26 rfl ?_
        refine ev_iload_n 1 dX8_tellBest_27 rfl ?_
        refine ev_callV (M' := mX8_collect) [.int x1] vX8_collect G8 lay_122 dX8_tellBest_28 w_900 rfl rfl (Nat.le_of_ble_eq_true rfl) h ?_
        rintro r9 σ3 ⟨rfl, h⟩
        refine ev_aload_n 0 dX8_tellBest_31 rfl ?_
        refine ev_callV (M' := mX8_searchBest) [] vX8_searchBest G8 lay_122 dX8_tellBest_32 w_935 rfl rfl (Nat.le_of_ble_eq_true rfl) h ?_
        rintro r9 σ4 ⟨rfl, h⟩
        refine ev_iload_n 2 dX8_tellBest_35 rfl ?_
        refine ev_if_ne 44 dX8_tellBest_36 (by decide) (fun c9 => ?_) (fun c9 => ?_)
        · replace h := h.2 c9
          refine ev_iload_n 2 dX8_tellBest_44 rfl ?_
          refine ev_iconst 1 dX8_tellBest_45 (by decide) ?_
          refine ev_icmp_ne 56 dX8_tellBest_46 (by decide) (fun c9 => ?_) (fun c9 => ?_)
          · replace h := h.2 c9
            refine ev_aload_n 0 dX8_tellBest_56 rfl ?_
            refine ev_get G8 lay_122 (k := 13) rfl (Nat.le_of_ble_eq_true rfl) dX8_tellBest_57 w_317 ?_
            exact ev_iret rfl dX8_tellBest_60 h
          · replace h := h.1 c9
            refine ev_aload_n 0 dX8_tellBest_49 rfl ?_
            refine ev_get G8 lay_122 (k := 12) rfl (Nat.le_of_ble_eq_true rfl) dX8_tellBest_50 w_316 ?_
            refine ev_goto 60 dX8_tellBest_53 (by decide) ?_
            exact ev_iret rfl dX8_tellBest_60 h
        · replace h := h.1 c9
          refine ev_aload_n 0 dX8_tellBest_39 rfl ?_
          refine ev_callV (M' := mX8_packBest) [] vX8_packBest G8 lay_122 dX8_tellBest_40 w_943 rfl rfl (Nat.le_of_ble_eq_true rfl) h ?_
          rintro r9 σ5 ⟨v5, rfl, h⟩
          exact ev_iret rfl dX8_tellBest_43 h
      · replace h := h.2 c9
        refine ev_iconst (-1) dX8_tellBest_20 (by decide) ?_
        exact ev_iret rfl dX8_tellBest_21 h
abbrev KX8_holdAgainst_62 (N : Nat) (σ : Sg) (Q : Option Value → Sg → Prop) (x3 : Int32) (x4 : Int32) : Prop := Ev (N + 5) mX8_holdAgainst 62 [(0, .ref 122), (3, .int x3), (4, .int x4)] [] σ Q
theorem EX8_holdAgainst {N : Nat} {σ : Sg} {Q : Option Value → Sg → Prop} {x1 : Int32} {x2 : Int32} {x3 : Int32} (h : EvM (N + 4) mX7_areTexts [.ref 5, .int x1] σ (fun r9 σ1 => ∃ v1, r9 = some (.int v1) ∧ ((v1 = 0 → Q (some (.int (-1))) σ1) ∧ (¬ v1 = 0 → EvM (N + 4) mX7_areTexts [.ref 5, .int x2] σ1 (fun r9 σ2 => ∃ v2, r9 = some (.int v2) ∧ ((v2 = 0 → Q (some (.int (-1))) σ2) ∧ (¬ v2 = 0 → ((x1 &&& x2) = 0 → (x3 < 0 → Q (some (.int (-1))) σ2) ∧ (¬ x3 < 0 → (x3 ≤ 2 → EvM (N + 4) mX8_rank [.ref 122] σ2 (fun r9 σ3 => r9 = none ∧ (EvM (N + 4) mX8_collect [.ref 122, .int x1] σ3 (fun r9 σ4 => r9 = none ∧ (EvM (N + 4) mX8_searchBest [.ref 122] σ4 (fun r9 σ5 => r9 = none ∧ (EvM (N + 4) mX8_collect [.ref 122, .int x2] σ5 (fun r9 σ6 => r9 = none ∧ (KX8_holdAgainst_62 N σ6 Q x3 0))))))))) ∧ (¬ x3 ≤ 2 → Q (some (.int (-1))) σ2))) ∧ (¬ (x1 &&& x2) = 0 → Q (some (.int (-1))) σ2)))))))) : EvM (N + 5) mX8_holdAgainst [.ref 122, .int x1, .int x2, .int x3] σ Q := by
  refine ev_entry rfl (Nat.le_of_ble_eq_true rfl) (lv := [(0, .ref 122), (1, .int x1), (2, .int x2), (3, .int x3)]) rfl ?_
  refine ev_aload_n 0 dX8_holdAgainst_0 rfl ?_
  refine ev_getR (r := 5) G8 lay_122 (k := 0) rfl (Nat.le_of_ble_eq_true rfl) dX8_holdAgainst_1 w_304 ?_
  refine ev_iload_n 1 dX8_holdAgainst_4 rfl ?_
  refine ev_callV (M' := mX7_areTexts) [.int x1] vX7_areTexts G7 lay_5 dX8_holdAgainst_5 w_892 rfl rfl (Nat.le_of_ble_eq_true rfl) h ?_
  rintro r9 σ1 ⟨v1, rfl, h⟩
  refine ev_if_eq 28 dX8_holdAgainst_8 (by decide) (fun c9 => ?_) (fun c9 => ?_)
  · replace h := h.1 c9
    refine ev_iconst (-1) dX8_holdAgainst_28 (by decide) ?_
    exact ev_iret rfl dX8_holdAgainst_29 h
  · replace h := h.2 c9
    refine ev_aload_n 0 dX8_holdAgainst_11 rfl ?_
    refine ev_getR (r := 5) G8 lay_122 (k := 0) rfl (Nat.le_of_ble_eq_true rfl) dX8_holdAgainst_12 w_304 ?_
    refine ev_iload_n 2 dX8_holdAgainst_15 rfl ?_
    refine ev_callV (M' := mX7_areTexts) [.int x2] vX7_areTexts G7 lay_5 dX8_holdAgainst_16 w_892 rfl rfl (Nat.le_of_ble_eq_true rfl) h ?_
    rintro r9 σ2 ⟨v2, rfl, h⟩
    refine ev_if_eq 28 dX8_holdAgainst_19 (by decide) (fun c9 => ?_) (fun c9 => ?_)
    · replace h := h.1 c9
      refine ev_iconst (-1) dX8_holdAgainst_28 (by decide) ?_
      exact ev_iret rfl dX8_holdAgainst_29 h
    · replace h := h.2 c9
      refine ev_iload_n 1 dX8_holdAgainst_22 rfl ?_
      refine ev_iload_n 2 dX8_holdAgainst_23 rfl ?_
      refine ev_iand dX8_holdAgainst_24 ?_
      refine ev_if_eq 30 dX8_holdAgainst_25 (by decide) (fun c9 => ?_) (fun c9 => ?_)
      · replace h := h.1 c9
        refine ev_iload_n 3 dX8_holdAgainst_30 rfl ?_
        refine ev_if_lt 39 dX8_holdAgainst_31 (by decide) (fun c9 => ?_) (fun c9 => ?_)
        · replace h := h.1 c9
          refine ev_iconst (-1) dX8_holdAgainst_39 (by decide) ?_
          exact ev_iret rfl dX8_holdAgainst_40 h
        · replace h := h.2 c9
          refine ev_iload_n 3 dX8_holdAgainst_34 rfl ?_
          refine ev_iconst 2 dX8_holdAgainst_35 (by decide) ?_
          refine ev_icmp_le 41 dX8_holdAgainst_36 (by decide) (fun c9 => ?_) (fun c9 => ?_)
          · replace h := h.1 c9
            refine ev_aload_n 0 dX8_holdAgainst_41 rfl ?_
            refine ev_callV (M' := mX8_rank) [] vX8_rank G8 lay_122 dX8_holdAgainst_42 w_875 rfl rfl (Nat.le_of_ble_eq_true rfl) h ?_
            rintro r9 σ3 ⟨rfl, h⟩
            refine ev_aload_n 0 dX8_holdAgainst_45 rfl ?_
            refine ev_iload_n 1 dX8_holdAgainst_46 rfl ?_
            refine ev_callV (M' := mX8_collect) [.int x1] vX8_collect G8 lay_122 dX8_holdAgainst_47 w_900 rfl rfl (Nat.le_of_ble_eq_true rfl) h ?_
            rintro r9 σ4 ⟨rfl, h⟩
            refine ev_aload_n 0 dX8_holdAgainst_50 rfl ?_
            refine ev_callV (M' := mX8_searchBest) [] vX8_searchBest G8 lay_122 dX8_holdAgainst_51 w_935 rfl rfl (Nat.le_of_ble_eq_true rfl) h ?_
            rintro r9 σ5 ⟨rfl, h⟩
            refine ev_aload_n 0 dX8_holdAgainst_54 rfl ?_
            refine ev_iload_n 2 dX8_holdAgainst_55 rfl ?_
            refine ev_callV (M' := mX8_collect) [.int x2] vX8_collect G8 lay_122 dX8_holdAgainst_56 w_900 rfl rfl (Nat.le_of_ble_eq_true rfl) h ?_
            rintro r9 σ6 ⟨rfl, h⟩
            refine ev_iconst 0 dX8_holdAgainst_59 (by decide) ?_
            refine ev_istore (lv' := [(4, .int 0), (0, .ref 122), (1, .int x1), (2, .int x2), (3, .int x3)]) dX8_holdAgainst_60 (Nat.le_of_ble_eq_true rfl) rfl ?_
            refine ev_sub [1, 4, 0] rfl ?_
            exact h
          · replace h := h.2 c9
            refine ev_iconst (-1) dX8_holdAgainst_39 (by decide) ?_
            exact ev_iret rfl dX8_holdAgainst_40 h
      · replace h := h.2 c9
        refine ev_iconst (-1) dX8_holdAgainst_28 (by decide) ?_
        exact ev_iret rfl dX8_holdAgainst_29 h
theorem BX8_holdAgainst_62 {N : Nat} {σ : Sg} {Q : Option Value → Sg → Prop} {x3 : Int32} {x4 : Int32} (h : ((σ.1 122 4) ≤ x4 → EvM (N + 4) mX8_readNow [.ref 122] σ (fun r9 σ7 => ∃ v7, r9 = some (.int v7) ∧ ((x3 = 0 → Q (some (.int v7)) σ7) ∧ (¬ x3 = 0 → EvM (N + 4) mX8_tellShuffles [.ref 122, .int v7, .int x3] σ7 (fun r9 σ8 => ∃ v8, r9 = some (.int v8) ∧ (Q (some (.int v8)) σ8)))))) ∧ (¬ (σ.1 122 4) ≤ x4 → vp_in x4 6 ∧ (vp_in x4 6 ∧ (KX8_holdAgainst_62 N (u1 σ 225 (x4).toNatClampNeg (σ.1 226 (x4).toNatClampNeg)) Q x3 (x4 + 1))))) : KX8_holdAgainst_62 N σ Q x3 x4 := by
  refine ev_iload 2 dX8_holdAgainst_62 rfl ?_
  refine ev_aload_n 0 dX8_holdAgainst_64 rfl ?_
  refine ev_get G8 lay_122 (k := 4) rfl (Nat.le_of_ble_eq_true rfl) dX8_holdAgainst_65 w_308 ?_
  refine ev_icmp_ge 91 dX8_holdAgainst_68 (by decide) (fun c9 => ?_) (fun c9 => ?_)
  · replace h := h.1 c9
    refine ev_aload_n 0 dX8_holdAgainst_91 rfl ?_
    refine ev_callV (M' := mX8_readNow) [] vX8_readNow G8 lay_122 dX8_holdAgainst_92 w_923 rfl rfl (Nat.le_of_ble_eq_true rfl) h ?_
    rintro r9 σ7 ⟨v7, rfl, h⟩
    refine ev_istore (lv' := [(4, .int v7), (0, .ref 122), (3, .int x3)]) dX8_holdAgainst_95 (Nat.le_of_ble_eq_true rfl) rfl ?_
    refine ev_iload_n 2 dX8_holdAgainst_97 rfl ?_
    refine ev_if_ne 104 dX8_holdAgainst_98 (by decide) (fun c9 => ?_) (fun c9 => ?_)
    · replace h := h.2 c9
      refine ev_aload_n 1 dX8_holdAgainst_104 rfl ?_
      refine ev_iload 0 dX8_holdAgainst_105 rfl ?_
      refine ev_iload_n 2 dX8_holdAgainst_107 rfl ?_
      refine ev_callV (M' := mX8_tellShuffles) [.int v7, .int x3] vX8_tellShuffles G8 lay_122 dX8_holdAgainst_108 w_955 rfl rfl (Nat.le_of_ble_eq_true rfl) h ?_
      rintro r9 σ8 ⟨v8, rfl, h⟩
      exact ev_iret rfl dX8_holdAgainst_111 h
    · replace h := h.1 c9
      refine ev_iload 0 dX8_holdAgainst_101 rfl ?_
      exact ev_iret rfl dX8_holdAgainst_103 h
  · replace h := h.2 c9
    refine ev_aload_n 0 dX8_holdAgainst_71 rfl ?_
    refine ev_getR (r := 225) G8 lay_122 (k := 10) rfl (Nat.le_of_ble_eq_true rfl) dX8_holdAgainst_72 w_314 ?_
    refine ev_iload 2 dX8_holdAgainst_75 rfl ?_
    refine ev_aload_n 0 dX8_holdAgainst_77 rfl ?_
    refine ev_getR (r := 226) G8 lay_122 (k := 11) rfl (Nat.le_of_ble_eq_true rfl) dX8_holdAgainst_78 w_315 ?_
    refine ev_iload 2 dX8_holdAgainst_81 rfl ?_
    have hb83 := h.1
    replace h := h.2
    refine ev_iald lay_226 (Nat.le_of_ble_eq_true rfl) hb83 dX8_holdAgainst_83 ?_
    have hb84 := h.1
    replace h := h.2
    refine ev_iast lay_225 (Nat.le_of_ble_eq_true rfl) hb84 dX8_holdAgainst_84 ?_
    refine ev_iinc (lv' := [(4, .int (x4 + 1)), (0, .ref 122), (3, .int x3)]) (x4 + 1) 2 dX8_holdAgainst_85 rfl rfl (Nat.le_of_ble_eq_true rfl) rfl ?_
    refine ev_goto 62 dX8_holdAgainst_88 (by decide) ?_
    refine ev_sub [1, 2, 0] rfl ?_
    exact h
abbrev KX8_rank_7 (N : Nat) (σ : Sg) (Q : Option Value → Sg → Prop) (x1 : Int32) : Prop := Ev (N + 4) mX8_rank 7 [(0, .ref 122), (1, .int x1)] [] σ Q
abbrev KX8_rank_43 (N : Nat) (σ : Sg) (Q : Option Value → Sg → Prop) (x1 : Int32) : Prop := Ev (N + 4) mX8_rank 43 [(0, .ref 122), (1, .int x1)] [] σ Q
theorem EX8_rank {N : Nat} {σ : Sg} {Q : Option Value → Sg → Prop} (h : KX8_rank_7 N (u1 σ 122 4 0) Q 0) : EvM (N + 4) mX8_rank [.ref 122] σ Q := by
  refine ev_entry rfl (Nat.le_of_ble_eq_true rfl) (lv := [(0, .ref 122)]) rfl ?_
  refine ev_aload_n 0 dX8_rank_0 rfl ?_
  refine ev_iconst 0 dX8_rank_1 (by decide) ?_
  refine ev_put G8 lay_122 (k := 4) rfl (Nat.le_of_ble_eq_true rfl) rfl (by decide +kernel) dX8_rank_2 w_308 ?_
  refine ev_iconst 0 dX8_rank_5 (by decide) ?_
  refine ev_istore_n (lv' := [(1, .int 0), (0, .ref 122)]) dX8_rank_6 (Nat.le_of_ble_eq_true rfl) rfl ?_
  refine ev_sub [1, 0] rfl ?_
  exact h
theorem BX8_rank_7 {N : Nat} {σ : Sg} {Q : Option Value → Sg → Prop} {x1 : Int32} (h : (24 ≤ x1 → KX8_rank_43 N σ Q 0) ∧ (¬ 24 ≤ x1 → vp_in x1 24 ∧ (EvM (N + 3) mX7_timesOf [.ref 5, .int x1] (u1 σ 126 (x1).toNatClampNeg (-4)) (fun r9 σ1 => ∃ v1, r9 = some (.int v1) ∧ (vp_in x1 24 ∧ (KX8_rank_7 N (u1 σ1 125 (x1).toNatClampNeg v1) Q (x1 + 1))))))) : KX8_rank_7 N σ Q x1 := by
  refine ev_iload_n 1 dX8_rank_7 rfl ?_
  refine ev_bipush 24 dX8_rank_8 (by decide) ?_
  refine ev_icmp_ge 41 dX8_rank_10 (by decide) (fun c9 => ?_) (fun c9 => ?_)
  · replace h := h.1 c9
    refine ev_iconst 0 dX8_rank_41 (by decide) ?_
    refine ev_istore_n (lv' := [(1, .int 0), (0, .ref 122)]) dX8_rank_42 (Nat.le_of_ble_eq_true rfl) rfl ?_
    refine ev_sub [1, 0] rfl ?_
    exact h
  · replace h := h.2 c9
    refine ev_aload_n 0 dX8_rank_13 rfl ?_
    refine ev_getR (r := 126) G8 lay_122 (k := 6) rfl (Nat.le_of_ble_eq_true rfl) dX8_rank_14 w_310 ?_
    refine ev_iload_n 1 dX8_rank_17 rfl ?_
    refine ev_bipush (-4) dX8_rank_18 (by decide) ?_
    have hb20 := h.1
    replace h := h.2
    refine ev_iast lay_126 (Nat.le_of_ble_eq_true rfl) hb20 dX8_rank_20 ?_
    refine ev_aload_n 0 dX8_rank_21 rfl ?_
    refine ev_getR (r := 125) G8 lay_122 (k := 5) rfl (Nat.le_of_ble_eq_true rfl) dX8_rank_22 w_309 ?_
    refine ev_iload_n 1 dX8_rank_25 rfl ?_
    refine ev_aload_n 0 dX8_rank_26 rfl ?_
    refine ev_getR (r := 5) G8 lay_122 (k := 0) rfl (Nat.le_of_ble_eq_true rfl) dX8_rank_27 w_304 ?_
    refine ev_iload_n 1 dX8_rank_30 rfl ?_
    refine ev_callV (M' := mX7_timesOf) [.int x1] vX7_timesOf G7 lay_5 dX8_rank_31 w_879 rfl rfl (Nat.le_of_ble_eq_true rfl) h ?_
    rintro r9 σ1 ⟨v1, rfl, h⟩
    have hb34 := h.1
    replace h := h.2
    refine ev_iast lay_125 (Nat.le_of_ble_eq_true rfl) hb34 dX8_rank_34 ?_
    refine ev_iinc (lv' := [(1, .int (x1 + 1)), (0, .ref 122)]) (x1 + 1) 1 dX8_rank_35 rfl rfl (Nat.le_of_ble_eq_true rfl) rfl ?_
    refine ev_goto 7 dX8_rank_38 (by decide) ?_
    refine ev_sub [1, 0] rfl ?_
    exact h
theorem BX8_rank_43 {N : Nat} {σ : Sg} {Q : Option Value → Sg → Prop} {x1 : Int32} (h : (6 ≤ x1 → Q none σ) ∧ (¬ 6 ≤ x1 → EvM (N + 3) mX8_mostFrequentLeft [.ref 122] σ (fun r9 σ2 => ∃ v2, r9 = some (.int v2) ∧ ((v2 < 0 → Q none σ2) ∧ (¬ v2 < 0 → (v2 < 24 → vp_in v2 24 ∧ (vp_in x1 6 ∧ (KX8_rank_43 N (u1 (u1 (u1 σ2 126 (v2).toNatClampNeg x1) 124 (x1).toNatClampNeg v2) 122 4 (((u1 (u1 σ2 126 (v2).toNatClampNeg x1) 124 (x1).toNatClampNeg v2).1 122 4) + 1)) Q (x1 + 1)))) ∧ (¬ v2 < 24 → Q none σ2)))))) : KX8_rank_43 N σ Q x1 := by
  refine ev_iload_n 1 dX8_rank_43 rfl ?_
  refine ev_bipush 6 dX8_rank_44 (by decide) ?_
  refine ev_icmp_ge 95 dX8_rank_46 (by decide) (fun c9 => ?_) (fun c9 => ?_)
  · replace h := h.1 c9
    exact ev_vret rfl dX8_rank_95 h
  · replace h := h.2 c9
    refine ev_aload_n 0 dX8_rank_49 rfl ?_
    refine ev_callV (M' := mX8_mostFrequentLeft) [] vX8_mostFrequentLeft G8 lay_122 dX8_rank_50 w_880 rfl rfl (Nat.le_of_ble_eq_true rfl) h ?_
    rintro r9 σ2 ⟨v2, rfl, h⟩
    refine ev_istore_n (lv' := [(2, .int v2), (0, .ref 122), (1, .int x1)]) dX8_rank_53 (Nat.le_of_ble_eq_true rfl) rfl ?_
    refine ev_iload_n 0 dX8_rank_54 rfl ?_
    refine ev_if_lt 64 dX8_rank_55 (by decide) (fun c9 => ?_) (fun c9 => ?_)
    · replace h := h.1 c9
      exact ev_vret rfl dX8_rank_64 h
    · replace h := h.2 c9
      refine ev_iload_n 0 dX8_rank_58 rfl ?_
      refine ev_bipush 24 dX8_rank_59 (by decide) ?_
      refine ev_icmp_lt 65 dX8_rank_61 (by decide) (fun c9 => ?_) (fun c9 => ?_)
      · replace h := h.1 c9
        refine ev_aload_n 1 dX8_rank_65 rfl ?_
        refine ev_getR (r := 126) G8 lay_122 (k := 6) rfl (Nat.le_of_ble_eq_true rfl) dX8_rank_66 w_310 ?_
        refine ev_iload_n 0 dX8_rank_69 rfl ?_
        refine ev_iload_n 2 dX8_rank_70 rfl ?_
        have hb71 := h.1
        replace h := h.2
        refine ev_iast lay_126 (Nat.le_of_ble_eq_true rfl) hb71 dX8_rank_71 ?_
        refine ev_aload_n 1 dX8_rank_72 rfl ?_
        refine ev_getR (r := 124) G8 lay_122 (k := 3) rfl (Nat.le_of_ble_eq_true rfl) dX8_rank_73 w_307 ?_
        refine ev_iload_n 2 dX8_rank_76 rfl ?_
        refine ev_iload_n 0 dX8_rank_77 rfl ?_
        have hb78 := h.1
        replace h := h.2
        refine ev_iast lay_124 (Nat.le_of_ble_eq_true rfl) hb78 dX8_rank_78 ?_
        refine ev_aload_n 1 dX8_rank_79 rfl ?_
        refine ev_dup dX8_rank_80 rfl ?_
        refine ev_get G8 lay_122 (k := 4) rfl (Nat.le_of_ble_eq_true rfl) dX8_rank_81 w_308 ?_
        refine ev_iconst 1 dX8_rank_84 (by decide) ?_
        refine ev_iadd dX8_rank_85 ?_
        refine ev_put G8 lay_122 (k := 4) rfl (Nat.le_of_ble_eq_true rfl) rfl (by decide +kernel) dX8_rank_86 w_308 ?_
        refine ev_iinc (lv' := [(1, .int (x1 + 1)), (2, .int v2), (0, .ref 122)]) (x1 + 1) 2 dX8_rank_89 rfl rfl (Nat.le_of_ble_eq_true rfl) rfl ?_
        refine ev_goto 43 dX8_rank_92 (by decide) ?_
        refine ev_sub [2, 0] rfl ?_
        exact h
      · replace h := h.2 c9
        exact ev_vret rfl dX8_rank_64 h
abbrev KX8_mostFrequentLeft_7 (N : Nat) (σ : Sg) (Q : Option Value → Sg → Prop) (x1 : Int32) (x2 : Int32) (x3 : Int32) : Prop := Ev N mX8_mostFrequentLeft 7 [(0, .ref 122), (1, .int x1), (2, .int x2), (3, .int x3)] [] σ Q
theorem EX8_mostFrequentLeft {N : Nat} {σ : Sg} {Q : Option Value → Sg → Prop} (h : KX8_mostFrequentLeft_7 N σ Q (-4) 0 0) : EvM N mX8_mostFrequentLeft [.ref 122] σ Q := by
  refine ev_entry rfl (Nat.le_of_ble_eq_true rfl) (lv := [(0, .ref 122)]) rfl ?_
  refine ev_bipush (-4) dX8_mostFrequentLeft_0 (by decide) ?_
  refine ev_istore_n (lv' := [(1, .int (-4)), (0, .ref 122)]) dX8_mostFrequentLeft_2 (Nat.le_of_ble_eq_true rfl) rfl ?_
  refine ev_iconst 0 dX8_mostFrequentLeft_3 (by decide) ?_
  refine ev_istore_n (lv' := [(2, .int 0), (1, .int (-4)), (0, .ref 122)]) dX8_mostFrequentLeft_4 (Nat.le_of_ble_eq_true rfl) rfl ?_
  refine ev_iconst 0 dX8_mostFrequentLeft_5 (by decide) ?_
  refine ev_istore_n (lv' := [(3, .int 0), (2, .int 0), (1, .int (-4)), (0, .ref 122)]) dX8_mostFrequentLeft_6 (Nat.le_of_ble_eq_true rfl) rfl ?_
  refine ev_sub [3, 2, 1, 0] rfl ?_
  exact h
theorem BX8_mostFrequentLeft_7 {N : Nat} {σ : Sg} {Q : Option Value → Sg → Prop} {x1 : Int32} {x2 : Int32} {x3 : Int32} (h : (24 ≤ x3 → Q (some (.int x1)) σ) ∧ (¬ 24 ≤ x3 → vp_in x3 24 ∧ (((σ.1 126 (x3).toNatClampNeg) = (-4) → vp_in x3 24 ∧ ((x2 < (σ.1 125 (x3).toNatClampNeg) → vp_in x3 24 ∧ (KX8_mostFrequentLeft_7 N σ Q x3 (σ.1 125 (x3).toNatClampNeg) (x3 + 1))) ∧ (¬ x2 < (σ.1 125 (x3).toNatClampNeg) → KX8_mostFrequentLeft_7 N σ Q x1 x2 (x3 + 1)))) ∧ (¬ (σ.1 126 (x3).toNatClampNeg) = (-4) → KX8_mostFrequentLeft_7 N σ Q x1 x2 (x3 + 1))))) : KX8_mostFrequentLeft_7 N σ Q x1 x2 x3 := by
  refine ev_iload_n 3 dX8_mostFrequentLeft_7 rfl ?_
  refine ev_bipush 24 dX8_mostFrequentLeft_8 (by decide) ?_
  refine ev_icmp_ge 52 dX8_mostFrequentLeft_10 (by decide) (fun c9 => ?_) (fun c9 => ?_)
  · replace h := h.1 c9
    refine ev_iload_n 1 dX8_mostFrequentLeft_52 rfl ?_
    exact ev_iret rfl dX8_mostFrequentLeft_53 h
  · replace h := h.2 c9
    refine ev_aload_n 0 dX8_mostFrequentLeft_13 rfl ?_
    refine ev_getR (r := 126) G8 lay_122 (k := 6) rfl (Nat.le_of_ble_eq_true rfl) dX8_mostFrequentLeft_14 w_310 ?_
    refine ev_iload_n 3 dX8_mostFrequentLeft_17 rfl ?_
    have hb18 := h.1
    replace h := h.2
    refine ev_iald lay_126 (Nat.le_of_ble_eq_true rfl) hb18 dX8_mostFrequentLeft_18 ?_
    refine ev_bipush (-4) dX8_mostFrequentLeft_19 (by decide) ?_
    refine ev_icmp_ne 46 dX8_mostFrequentLeft_21 (by decide) (fun c9 => ?_) (fun c9 => ?_)
    · replace h := h.2 c9
      refine ev_iinc (lv' := [(3, .int (x3 + 1)), (0, .ref 122), (1, .int x1), (2, .int x2)]) (x3 + 1) 3 dX8_mostFrequentLeft_46 rfl rfl (Nat.le_of_ble_eq_true rfl) rfl ?_
      refine ev_goto 7 dX8_mostFrequentLeft_49 (by decide) ?_
      refine ev_sub [1, 2, 3, 0] rfl ?_
      exact h
    · replace h := h.1 c9
      refine ev_aload_n 0 dX8_mostFrequentLeft_24 rfl ?_
      refine ev_getR (r := 125) G8 lay_122 (k := 5) rfl (Nat.le_of_ble_eq_true rfl) dX8_mostFrequentLeft_25 w_309 ?_
      refine ev_iload_n 3 dX8_mostFrequentLeft_28 rfl ?_
      have hb29 := h.1
      replace h := h.2
      refine ev_iald lay_125 (Nat.le_of_ble_eq_true rfl) hb29 dX8_mostFrequentLeft_29 ?_
      refine ev_iload_n 2 dX8_mostFrequentLeft_30 rfl ?_
      refine ev_icmp_gt 37 dX8_mostFrequentLeft_31 (by decide) (fun c9 => ?_) (fun c9 => ?_)
      · replace h := h.1 c9
        refine ev_aload_n 0 dX8_mostFrequentLeft_37 rfl ?_
        refine ev_getR (r := 125) G8 lay_122 (k := 5) rfl (Nat.le_of_ble_eq_true rfl) dX8_mostFrequentLeft_38 w_309 ?_
        refine ev_iload_n 3 dX8_mostFrequentLeft_41 rfl ?_
        have hb42 := h.1
        replace h := h.2
        refine ev_iald lay_125 (Nat.le_of_ble_eq_true rfl) hb42 dX8_mostFrequentLeft_42 ?_
        refine ev_istore_n (lv' := [(2, .int (σ.1 125 (x3).toNatClampNeg)), (0, .ref 122), (1, .int x1), (3, .int x3)]) dX8_mostFrequentLeft_43 (Nat.le_of_ble_eq_true rfl) rfl ?_
        refine ev_iload_n 3 dX8_mostFrequentLeft_44 rfl ?_
        refine ev_istore_n (lv' := [(1, .int x3), (2, .int (σ.1 125 (x3).toNatClampNeg)), (0, .ref 122), (3, .int x3)]) dX8_mostFrequentLeft_45 (Nat.le_of_ble_eq_true rfl) rfl ?_
        refine ev_iinc (lv' := [(3, .int (x3 + 1)), (1, .int x3), (2, .int (σ.1 125 (x3).toNatClampNeg)), (0, .ref 122)]) (x3 + 1) 3 dX8_mostFrequentLeft_46 rfl rfl (Nat.le_of_ble_eq_true rfl) rfl ?_
        refine ev_goto 7 dX8_mostFrequentLeft_49 (by decide) ?_
        refine ev_sub [3, 1, 2, 0] rfl ?_
        exact h
      · replace h := h.2 c9
        refine ev_goto 46 dX8_mostFrequentLeft_34 (by decide) ?_
        refine ev_iinc (lv' := [(3, .int (x3 + 1)), (0, .ref 122), (1, .int x1), (2, .int x2)]) (x3 + 1) 3 dX8_mostFrequentLeft_46 rfl rfl (Nat.le_of_ble_eq_true rfl) rfl ?_
        refine ev_goto 7 dX8_mostFrequentLeft_49 (by decide) ?_
        refine ev_sub [1, 2, 3, 0] rfl ?_
        exact h
abbrev KX8_collect_7 (N : Nat) (σ : Sg) (Q : Option Value → Sg → Prop) (x1 : Int32) (x2 : Int32) : Prop := Ev (N + 4) mX8_collect 7 [(0, .ref 122), (1, .int x1), (2, .int x2)] [] σ Q
theorem EX8_collect {N : Nat} {σ : Sg} {Q : Option Value → Sg → Prop} {x1 : Int32} (h : KX8_collect_7 N (u1 σ 122 9 0) Q x1 0) : EvM (N + 4) mX8_collect [.ref 122, .int x1] σ Q := by
  refine ev_entry rfl (Nat.le_of_ble_eq_true rfl) (lv := [(0, .ref 122), (1, .int x1)]) rfl ?_
  refine ev_aload_n 0 dX8_collect_0 rfl ?_
  refine ev_iconst 0 dX8_collect_1 (by decide) ?_
  refine ev_put G8 lay_122 (k := 9) rfl (Nat.le_of_ble_eq_true rfl) rfl (by decide +kernel) dX8_collect_2 w_313 ?_
  refine ev_iconst 0 dX8_collect_5 (by decide) ?_
  refine ev_istore_n (lv' := [(2, .int 0), (0, .ref 122), (1, .int x1)]) dX8_collect_6 (Nat.le_of_ble_eq_true rfl) rfl ?_
  refine ev_sub [1, 2, 0] rfl ?_
  exact h
theorem BX8_collect_7 {N : Nat} {σ : Sg} {Q : Option Value → Sg → Prop} {x1 : Int32} {x2 : Int32} (h : ((σ.1 5 9) ≤ x2 → Q none σ) ∧ (¬ (σ.1 5 9) ≤ x2 → EvM (N + 3) mX7_textOfWord [.ref 5, .int x2] σ (fun r9 σ1 => ∃ v1, r9 = some (.int v1) ∧ ((((x1 >>> (v1 &&& 31)) &&& 1) = 1 → EvM (N + 3) mX8_collectWord [.ref 122, .int x2] σ1 (fun r9 σ2 => r9 = none ∧ (KX8_collect_7 N σ2 Q x1 (x2 + 1)))) ∧ (¬ ((x1 >>> (v1 &&& 31)) &&& 1) = 1 → KX8_collect_7 N σ1 Q x1 (x2 + 1)))))) : KX8_collect_7 N σ Q x1 x2 := by
  refine ev_iload_n 2 dX8_collect_7 rfl ?_
  refine ev_aload_n 0 dX8_collect_8 rfl ?_
  refine ev_getR (r := 5) G8 lay_122 (k := 0) rfl (Nat.le_of_ble_eq_true rfl) dX8_collect_9 w_304 ?_
  refine ev_callV (M' := mX7_words) [] vX7_words G7 lay_5 dX8_collect_12 w_904 rfl rfl (Nat.le_of_ble_eq_true rfl) (EX7_words (Q := fun r9 s9 => σ = s9 ∧ r9 = some (.int (σ.1 5 9))) ⟨rfl, rfl⟩) ?_
  rintro r9 s9 ⟨rfl, rfl⟩
  refine ev_icmp_ge 45 dX8_collect_15 (by decide) (fun c9 => ?_) (fun c9 => ?_)
  · replace h := h.1 c9
    exact ev_vret rfl dX8_collect_45 h
  · replace h := h.2 c9
    refine ev_iload_n 1 dX8_collect_18 rfl ?_
    refine ev_aload_n 0 dX8_collect_19 rfl ?_
    refine ev_getR (r := 5) G8 lay_122 (k := 0) rfl (Nat.le_of_ble_eq_true rfl) dX8_collect_20 w_304 ?_
    refine ev_iload_n 2 dX8_collect_23 rfl ?_
    refine ev_callV (M' := mX7_textOfWord) [.int x2] vX7_textOfWord G7 lay_5 dX8_collect_24 w_905 rfl rfl (Nat.le_of_ble_eq_true rfl) h ?_
    rintro r9 σ1 ⟨v1, rfl, h⟩
    refine ev_ishr dX8_collect_27 ?_
    refine ev_iconst 1 dX8_collect_28 (by decide) ?_
    refine ev_iand dX8_collect_29 ?_
    refine ev_iconst 1 dX8_collect_30 (by decide) ?_
    refine ev_icmp_ne 39 dX8_collect_31 (by decide) (fun c9 => ?_) (fun c9 => ?_)
    · replace h := h.2 c9
      refine ev_iinc (lv' := [(2, .int (x2 + 1)), (0, .ref 122), (1, .int x1)]) (x2 + 1) 2 dX8_collect_39 rfl rfl (Nat.le_of_ble_eq_true rfl) rfl ?_
      refine ev_goto 7 dX8_collect_42 (by decide) ?_
      refine ev_sub [1, 2, 0] rfl ?_
      exact h
    · replace h := h.1 c9
      refine ev_aload_n 0 dX8_collect_34 rfl ?_
      refine ev_iload_n 2 dX8_collect_35 rfl ?_
      refine ev_callV (M' := mX8_collectWord) [.int x2] vX8_collectWord G8 lay_122 dX8_collect_36 w_909 rfl rfl (Nat.le_of_ble_eq_true rfl) h ?_
      rintro r9 σ2 ⟨rfl, h⟩
      refine ev_iinc (lv' := [(2, .int (x2 + 1)), (0, .ref 122), (1, .int x1)]) (x2 + 1) 2 dX8_collect_39 rfl rfl (Nat.le_of_ble_eq_true rfl) rfl ?_
      refine ev_goto 7 dX8_collect_42 (by decide) ?_
      refine ev_sub [1, 2, 0] rfl ?_
      exact h
abbrev KX8_collectWord_27 (N : Nat) (σ : Sg) (Q : Option Value → Sg → Prop) (x1 : Int32) (x2 : Int32) (x3 : Int32) : Prop := Ev (N + 3) mX8_collectWord 27 [(0, .ref 122), (1, .int x1), (2, .int x2), (3, .int x3)] [] σ Q
theorem EX8_collectWord {N : Nat} {σ : Sg} {Q : Option Value → Sg → Prop} {x1 : Int32} (h : EvM (N + 2) mX7_lengthOfWord [.ref 5, .int x1] σ (fun r9 σ1 => ∃ v1, r9 = some (.int v1) ∧ ((6 < v1 → Q none σ1) ∧ (¬ 6 < v1 → ((σ1.1 122 9) < 96 → KX8_collectWord_27 N σ1 Q x1 v1 0) ∧ (¬ (σ1.1 122 9) < 96 → Q none σ1))))) : EvM (N + 3) mX8_collectWord [.ref 122, .int x1] σ Q := by
  refine ev_entry rfl (Nat.le_of_ble_eq_true rfl) (lv := [(0, .ref 122), (1, .int x1)]) rfl ?_
  refine ev_aload_n 0 dX8_collectWord_0 rfl ?_
  refine ev_getR (r := 5) G8 lay_122 (k := 0) rfl (Nat.le_of_ble_eq_true rfl) dX8_collectWord_1 w_304 ?_
  refine ev_iload_n 1 dX8_collectWord_4 rfl ?_
  refine ev_callV (M' := mX7_lengthOfWord) [.int x1] vX7_lengthOfWord G7 lay_5 dX8_collectWord_5 w_913 rfl rfl (Nat.le_of_ble_eq_true rfl) h ?_
  rintro r9 σ1 ⟨v1, rfl, h⟩
  refine ev_istore_n (lv' := [(2, .int v1), (0, .ref 122), (1, .int x1)]) dX8_collectWord_8 (Nat.le_of_ble_eq_true rfl) rfl ?_
  refine ev_iload_n 0 dX8_collectWord_9 rfl ?_
  refine ev_bipush 6 dX8_collectWord_10 (by decide) ?_
  refine ev_icmp_gt 24 dX8_collectWord_12 (by decide) (fun c9 => ?_) (fun c9 => ?_)
  · replace h := h.1 c9
    exact ev_vret rfl dX8_collectWord_24 h
  · replace h := h.2 c9
    refine ev_aload_n 1 dX8_collectWord_15 rfl ?_
    refine ev_get G8 lay_122 (k := 9) rfl (Nat.le_of_ble_eq_true rfl) dX8_collectWord_16 w_313 ?_
    refine ev_bipush 96 dX8_collectWord_19 (by decide) ?_
    refine ev_icmp_lt 25 dX8_collectWord_21 (by decide) (fun c9 => ?_) (fun c9 => ?_)
    · replace h := h.1 c9
      refine ev_iconst 0 dX8_collectWord_25 (by decide) ?_
      refine ev_istore_n (lv' := [(3, .int 0), (2, .int v1), (0, .ref 122), (1, .int x1)]) dX8_collectWord_26 (Nat.le_of_ble_eq_true rfl) rfl ?_
      refine ev_sub [2, 3, 1, 0] rfl ?_
      exact h
    · replace h := h.2 c9
      exact ev_vret rfl dX8_collectWord_24 h
theorem BX8_collectWord_27 {N : Nat} {σ : Sg} {Q : Option Value → Sg → Prop} {x1 : Int32} {x2 : Int32} {x3 : Int32} (h : (x2 ≤ x3 → vp_in (σ.1 122 9) 96 ∧ (Q none (u1 (u1 σ 224 (σ.1 122 9).toNatClampNeg x2) 122 9 (((u1 σ 224 (σ.1 122 9).toNatClampNeg x2).1 122 9) + 1)))) ∧ (¬ x2 ≤ x3 → EvM (N + 2) mX7_signOfWord [.ref 5, .int x1, .int x3] σ (fun r9 σ2 => ∃ v2, r9 = some (.int v2) ∧ (EvM (N + 2) mX8_placeOf [.ref 122, .int v2] σ2 (fun r9 σ3 => ∃ v3, r9 = some (.int v3) ∧ ((0 ≤ v3 → vp_in (σ3.1 122 9) 96 ∧ (vp_in x3 6 ∧ (KX8_collectWord_27 N (u1 σ3 (128 + (σ3.1 122 9).toNatClampNeg) (x3).toNatClampNeg v3) Q x1 x2 (x3 + 1)))) ∧ (¬ 0 ≤ v3 → Q none σ3))))))) : KX8_collectWord_27 N σ Q x1 x2 x3 := by
  refine ev_iload_n 3 dX8_collectWord_27 rfl ?_
  refine ev_iload_n 2 dX8_collectWord_28 rfl ?_
  refine ev_icmp_ge 72 dX8_collectWord_29 (by decide) (fun c9 => ?_) (fun c9 => ?_)
  · replace h := h.1 c9
    refine ev_aload_n 0 dX8_collectWord_72 rfl ?_
    refine ev_getR (r := 224) G8 lay_122 (k := 8) rfl (Nat.le_of_ble_eq_true rfl) dX8_collectWord_73 w_312 ?_
    refine ev_aload_n 0 dX8_collectWord_76 rfl ?_
    refine ev_get G8 lay_122 (k := 9) rfl (Nat.le_of_ble_eq_true rfl) dX8_collectWord_77 w_313 ?_
    refine ev_iload_n 2 dX8_collectWord_80 rfl ?_
    have hb81 := h.1
    replace h := h.2
    refine ev_iast lay_224 (Nat.le_of_ble_eq_true rfl) hb81 dX8_collectWord_81 ?_
    refine ev_aload_n 0 dX8_collectWord_82 rfl ?_
    refine ev_dup dX8_collectWord_83 rfl ?_
    refine ev_get G8 lay_122 (k := 9) rfl (Nat.le_of_ble_eq_true rfl) dX8_collectWord_84 w_313 ?_
    refine ev_iconst 1 dX8_collectWord_87 (by decide) ?_
    refine ev_iadd dX8_collectWord_88 ?_
    refine ev_put G8 lay_122 (k := 9) rfl (Nat.le_of_ble_eq_true rfl) rfl (by decide +kernel) dX8_collectWord_89 w_313 ?_
    exact ev_vret rfl dX8_collectWord_92 h
  · replace h := h.2 c9
    refine ev_aload_n 0 dX8_collectWord_32 rfl ?_
    refine ev_aload_n 0 dX8_collectWord_33 rfl ?_
    refine ev_getR (r := 5) G8 lay_122 (k := 0) rfl (Nat.le_of_ble_eq_true rfl) dX8_collectWord_34 w_304 ?_
    refine ev_iload_n 1 dX8_collectWord_37 rfl ?_
    refine ev_iload_n 3 dX8_collectWord_38 rfl ?_
    refine ev_callV (M' := mX7_signOfWord) [.int x1, .int x3] vX7_signOfWord G7 lay_5 dX8_collectWord_39 w_914 rfl rfl (Nat.le_of_ble_eq_true rfl) h ?_
    rintro r9 σ2 ⟨v2, rfl, h⟩
    refine ev_callV (M' := mX8_placeOf) [.int v2] vX8_placeOf G8 lay_122 dX8_collectWord_42 w_915 rfl rfl (Nat.le_of_ble_eq_true rfl) h ?_
    rintro r9 σ3 ⟨v3, rfl, h⟩
    refine ev_istore (lv' := [(4, .int v3), (0, .ref 122), (1, .int x1), (2, .int x2), (3, .int x3)]) dX8_collectWord_45 (Nat.le_of_ble_eq_true rfl) rfl ?_
    refine ev_iload 0 dX8_collectWord_47 rfl ?_
    refine ev_if_ge 53 dX8_collectWord_49 (by decide) (fun c9 => ?_) (fun c9 => ?_)
    · replace h := h.1 c9
      refine ev_aload_n 1 dX8_collectWord_53 rfl ?_
      refine ev_getR (r := 127) G8 lay_122 (k := 7) rfl (Nat.le_of_ble_eq_true rfl) dX8_collectWord_54 w_311 ?_
      refine ev_aload_n 1 dX8_collectWord_57 rfl ?_
      refine ev_get G8 lay_122 (k := 9) rfl (Nat.le_of_ble_eq_true rfl) dX8_collectWord_58 w_313 ?_
      have hb61 := h.1
      replace h := h.2
      refine ev_aald (b := 128) lay_127 (Nat.le_of_ble_eq_true rfl) hb61 dX8_collectWord_61 ?_
      refine ev_iload_n 4 dX8_collectWord_62 rfl ?_
      refine ev_iload 0 dX8_collectWord_63 rfl ?_
      have hb65 := h.1
      replace h := h.2
      refine ev_iast (layr_128 _ (Nat.not_le.mp fun q9 => hb61 (Or.inr q9))).1 (layr_128 _ (Nat.not_le.mp fun q9 => hb61 (Or.inr q9))).2 hb65 dX8_collectWord_65 ?_
      refine ev_iinc (lv' := [(3, .int (x3 + 1)), (4, .int v3), (0, .ref 122), (1, .int x1), (2, .int x2)]) (x3 + 1) 4 dX8_collectWord_66 rfl rfl (Nat.le_of_ble_eq_true rfl) rfl ?_
      refine ev_goto 27 dX8_collectWord_69 (by decide) ?_
      refine ev_sub [2, 3, 4, 0] rfl ?_
      exact h
    · replace h := h.2 c9
      exact ev_vret rfl dX8_collectWord_52 h
theorem EX8_placeOf {N : Nat} {σ : Sg} {Q : Option Value → Sg → Prop} {x1 : Int32} (h : (x1 < 0 → Q (some (.int (-4))) σ) ∧ (¬ x1 < 0 → (24 ≤ x1 → Q (some (.int (-4))) σ) ∧ (¬ 24 ≤ x1 → vp_in x1 24 ∧ (Q (some (.int (σ.1 126 (x1).toNatClampNeg))) σ)))) : EvM N mX8_placeOf [.ref 122, .int x1] σ Q := by
  refine ev_entry rfl (Nat.le_of_ble_eq_true rfl) (lv := [(0, .ref 122), (1, .int x1)]) rfl ?_
  refine ev_iload_n 1 dX8_placeOf_0 rfl ?_
  refine ev_if_lt 19 dX8_placeOf_1 (by decide) (fun c9 => ?_) (fun c9 => ?_)
  · replace h := h.1 c9
    refine ev_bipush (-4) dX8_placeOf_19 (by decide) ?_
    exact ev_iret rfl dX8_placeOf_21 h
  · replace h := h.2 c9
    refine ev_iload_n 1 dX8_placeOf_4 rfl ?_
    refine ev_bipush 24 dX8_placeOf_5 (by decide) ?_
    refine ev_icmp_ge 19 dX8_placeOf_7 (by decide) (fun c9 => ?_) (fun c9 => ?_)
    · replace h := h.1 c9
      refine ev_bipush (-4) dX8_placeOf_19 (by decide) ?_
      exact ev_iret rfl dX8_placeOf_21 h
    · replace h := h.2 c9
      refine ev_aload_n 0 dX8_placeOf_10 rfl ?_
      refine ev_getR (r := 126) G8 lay_122 (k := 6) rfl (Nat.le_of_ble_eq_true rfl) dX8_placeOf_11 w_310 ?_
      refine ev_iload_n 1 dX8_placeOf_14 rfl ?_
      have hb15 := h.1
      replace h := h.2
      refine ev_iald lay_126 (Nat.le_of_ble_eq_true rfl) hb15 dX8_placeOf_15 ?_
      refine ev_goto 21 dX8_placeOf_16 (by decide) ?_
      exact ev_iret rfl dX8_placeOf_21 h
abbrev KX8_spread_2 (N : Nat) (σ : Sg) (Q : Option Value → Sg → Prop) (x1 : Int32) (x2 : Int32) : Prop := Ev N mX8_spread 2 [(0, .ref 122), (1, .int x1), (2, .int x2)] [] σ Q
theorem EX8_spread {N : Nat} {σ : Sg} {Q : Option Value → Sg → Prop} {x1 : Int32} (h : KX8_spread_2 N σ Q x1 0) : EvM N mX8_spread [.ref 122, .int x1] σ Q := by
  refine ev_entry rfl (Nat.le_of_ble_eq_true rfl) (lv := [(0, .ref 122), (1, .int x1)]) rfl ?_
  refine ev_iconst 0 dX8_spread_0 (by decide) ?_
  refine ev_istore_n (lv' := [(2, .int 0), (0, .ref 122), (1, .int x1)]) dX8_spread_1 (Nat.le_of_ble_eq_true rfl) rfl ?_
  refine ev_sub [1, 2, 0] rfl ?_
  exact h
theorem BX8_spread_2 {N : Nat} {σ : Sg} {Q : Option Value → Sg → Prop} {x1 : Int32} {x2 : Int32} (h : ((σ.1 122 4) ≤ x2 → Q none σ) ∧ (¬ (σ.1 122 4) ≤ x2 → vp_in x2 6 ∧ (KX8_spread_2 N (u1 σ 225 (x2).toNatClampNeg ((x1 >>> ((2 * x2) &&& 31)) &&& 3)) Q x1 (x2 + 1)))) : KX8_spread_2 N σ Q x1 x2 := by
  refine ev_iload_n 2 dX8_spread_2 rfl ?_
  refine ev_aload_n 0 dX8_spread_3 rfl ?_
  refine ev_get G8 lay_122 (k := 4) rfl (Nat.le_of_ble_eq_true rfl) dX8_spread_4 w_308 ?_
  refine ev_icmp_ge 29 dX8_spread_7 (by decide) (fun c9 => ?_) (fun c9 => ?_)
  · replace h := h.1 c9
    exact ev_vret rfl dX8_spread_29 h
  · replace h := h.2 c9
    refine ev_aload_n 0 dX8_spread_10 rfl ?_
    refine ev_getR (r := 225) G8 lay_122 (k := 10) rfl (Nat.le_of_ble_eq_true rfl) dX8_spread_11 w_314 ?_
    refine ev_iload_n 2 dX8_spread_14 rfl ?_
    refine ev_iload_n 1 dX8_spread_15 rfl ?_
    refine ev_iconst 2 dX8_spread_16 (by decide) ?_
    refine ev_iload_n 2 dX8_spread_17 rfl ?_
    refine ev_imul dX8_spread_18 ?_
    refine ev_ishr dX8_spread_19 ?_
    refine ev_iconst 3 dX8_spread_20 (by decide) ?_
    refine ev_iand dX8_spread_21 ?_
    have hb22 := h.1
    replace h := h.2
    refine ev_iast lay_225 (Nat.le_of_ble_eq_true rfl) hb22 dX8_spread_22 ?_
    refine ev_iinc (lv' := [(2, .int (x2 + 1)), (0, .ref 122), (1, .int x1)]) (x2 + 1) 2 dX8_spread_23 rfl rfl (Nat.le_of_ble_eq_true rfl) rfl ?_
    refine ev_goto 2 dX8_spread_26 (by decide) ?_
    refine ev_sub [1, 2, 0] rfl ?_
    exact h
abbrev KX8_readNow_4 (N : Nat) (σ : Sg) (Q : Option Value → Sg → Prop) (x1 : Int32) (x2 : Int32) : Prop := Ev (N + 1) mX8_readNow 4 [(0, .ref 122), (1, .int x1), (2, .int x2)] [] σ Q
abbrev KX8_readNow_17 (N : Nat) (σ : Sg) (Q : Option Value → Sg → Prop) (x1 : Int32) (x2 : Int32) (x3 : Int32) (x4 : Int32) : Prop := Ev (N + 1) mX8_readNow 17 [(0, .ref 122), (1, .int x1), (2, .int x2), (3, .int x3), (4, .int x4)] [] σ Q
theorem EX8_readNow {N : Nat} {σ : Sg} {Q : Option Value → Sg → Prop} (h : KX8_readNow_4 N σ Q 0 0) : EvM (N + 1) mX8_readNow [.ref 122] σ Q := by
  refine ev_entry rfl (Nat.le_of_ble_eq_true rfl) (lv := [(0, .ref 122)]) rfl ?_
  refine ev_iconst 0 dX8_readNow_0 (by decide) ?_
  refine ev_istore_n (lv' := [(1, .int 0), (0, .ref 122)]) dX8_readNow_1 (Nat.le_of_ble_eq_true rfl) rfl ?_
  refine ev_iconst 0 dX8_readNow_2 (by decide) ?_
  refine ev_istore_n (lv' := [(2, .int 0), (1, .int 0), (0, .ref 122)]) dX8_readNow_3 (Nat.le_of_ble_eq_true rfl) rfl ?_
  refine ev_sub [2, 1, 0] rfl ?_
  exact h
theorem BX8_readNow_4 {N : Nat} {σ : Sg} {Q : Option Value → Sg → Prop} {x1 : Int32} {x2 : Int32} (h : ((σ.1 122 9) ≤ x2 → Q (some (.int x1)) σ) ∧ (¬ (σ.1 122 9) ≤ x2 → KX8_readNow_17 N σ Q x1 x2 0 0)) : KX8_readNow_4 N σ Q x1 x2 := by
  refine ev_iload_n 2 dX8_readNow_4 rfl ?_
  refine ev_aload_n 0 dX8_readNow_5 rfl ?_
  refine ev_get G8 lay_122 (k := 9) rfl (Nat.le_of_ble_eq_true rfl) dX8_readNow_6 w_313 ?_
  refine ev_icmp_ge 79 dX8_readNow_9 (by decide) (fun c9 => ?_) (fun c9 => ?_)
  · replace h := h.1 c9
    refine ev_iload_n 1 dX8_readNow_79 rfl ?_
    exact ev_iret rfl dX8_readNow_80 h
  · replace h := h.2 c9
    refine ev_iconst 0 dX8_readNow_12 (by decide) ?_
    refine ev_istore_n (lv' := [(3, .int 0), (0, .ref 122), (1, .int x1), (2, .int x2)]) dX8_readNow_13 (Nat.le_of_ble_eq_true rfl) rfl ?_
    refine ev_iconst 0 dX8_readNow_14 (by decide) ?_
    refine ev_istore (lv' := [(4, .int 0), (3, .int 0), (0, .ref 122), (1, .int x1), (2, .int x2)]) dX8_readNow_15 (Nat.le_of_ble_eq_true rfl) rfl ?_
    refine ev_sub [2, 3, 4, 1, 0] rfl ?_
    exact h
theorem BX8_readNow_17 {N : Nat} {σ : Sg} {Q : Option Value → Sg → Prop} {x1 : Int32} {x2 : Int32} {x3 : Int32} {x4 : Int32} (h : vp_in x2 96 ∧ (((σ.1 224 (x2).toNatClampNeg) ≤ x4 → vp_in x2 96 ∧ (EvM N mX8_isWord [.ref 122, .int ((1 <<< ((2 * (σ.1 224 (x2).toNatClampNeg)) &&& 31)) ||| (x3))] σ (fun r9 σ1 => ∃ v1, r9 = some (.int v1) ∧ ((v1 = 0 → KX8_readNow_4 N σ1 Q x1 (x2 + 1)) ∧ (¬ v1 = 0 → KX8_readNow_4 N σ1 Q (x1 + 1) (x2 + 1)))))) ∧ (¬ (σ.1 224 (x2).toNatClampNeg) ≤ x4 → vp_in x2 96 ∧ (vp_in x4 6 ∧ (vp_in (σ.1 (128 + (x2).toNatClampNeg) (x4).toNatClampNeg) 6 ∧ (KX8_readNow_17 N σ Q x1 x2 ((x3 <<< (2 &&& 31)) ||| (σ.1 225 (σ.1 (128 + (x2).toNatClampNeg) (x4).toNatClampNeg).toNatClampNeg)) (x4 + 1))))))) : KX8_readNow_17 N σ Q x1 x2 x3 x4 := by
  refine ev_iload 4 dX8_readNow_17 rfl ?_
  refine ev_aload_n 0 dX8_readNow_19 rfl ?_
  refine ev_getR (r := 224) G8 lay_122 (k := 8) rfl (Nat.le_of_ble_eq_true rfl) dX8_readNow_20 w_312 ?_
  refine ev_iload_n 2 dX8_readNow_23 rfl ?_
  have hb24 := h.1
  replace h := h.2
  refine ev_iald lay_224 (Nat.le_of_ble_eq_true rfl) hb24 dX8_readNow_24 ?_
  refine ev_icmp_ge 53 dX8_readNow_25 (by decide) (fun c9 => ?_) (fun c9 => ?_)
  · replace h := h.1 c9
    refine ev_aload_n 0 dX8_readNow_53 rfl ?_
    refine ev_aload_n 0 dX8_readNow_54 rfl ?_
    refine ev_getR (r := 224) G8 lay_122 (k := 8) rfl (Nat.le_of_ble_eq_true rfl) dX8_readNow_55 w_312 ?_
    refine ev_iload_n 2 dX8_readNow_58 rfl ?_
    have hb59 := h.1
    replace h := h.2
    refine ev_iald lay_224 (Nat.le_of_ble_eq_true rfl) hb59 dX8_readNow_59 ?_
    refine ev_iload_n 3 dX8_readNow_60 rfl ?_
    refine ev_callS (M' := mX8_keyOf) [.int (σ.1 224 (x2).toNatClampNeg), .int x3] vX8_keyOf dX8_readNow_61 w_860 rfl rfl (Nat.le_of_ble_eq_true rfl) (EX8_keyOf (Q := fun r9 s9 => σ = s9 ∧ r9 = some (.int ((1 <<< ((2 * (σ.1 224 (x2).toNatClampNeg)) &&& 31)) ||| (x3)))) ⟨rfl, rfl⟩) ?_
    rintro r9 s9 ⟨rfl, rfl⟩
    refine ev_callV (M' := mX8_isWord) [.int ((1 <<< ((2 * (σ.1 224 (x2).toNatClampNeg)) &&& 31)) ||| (x3))] vX8_isWord G8 lay_122 dX8_readNow_64 w_863 rfl rfl (Nat.le_of_ble_eq_true rfl) h ?_
    rintro r9 σ1 ⟨v1, rfl, h⟩
    refine ev_if_eq 73 dX8_readNow_67 (by decide) (fun c9 => ?_) (fun c9 => ?_)
    · replace h := h.1 c9
      refine ev_iinc (lv' := [(2, .int (x2 + 1)), (0, .ref 122), (1, .int x1), (3, .int x3), (4, .int x4)]) (x2 + 1) 2 dX8_readNow_73 rfl rfl (Nat.le_of_ble_eq_true rfl) rfl ?_
      refine ev_goto 4 dX8_readNow_76 (by decide) ?_
      refine ev_sub [1, 2, 0] rfl ?_
      exact h
    · replace h := h.2 c9
      refine ev_iinc (lv' := [(1, .int (x1 + 1)), (0, .ref 122), (2, .int x2), (3, .int x3), (4, .int x4)]) (x1 + 1) 1 dX8_readNow_70 rfl rfl (Nat.le_of_ble_eq_true rfl) rfl ?_
      refine ev_iinc (lv' := [(2, .int (x2 + 1)), (1, .int (x1 + 1)), (0, .ref 122), (3, .int x3), (4, .int x4)]) (x2 + 1) 2 dX8_readNow_73 rfl rfl (Nat.le_of_ble_eq_true rfl) rfl ?_
      refine ev_goto 4 dX8_readNow_76 (by decide) ?_
      refine ev_sub [2, 1, 0] rfl ?_
      exact h
  · replace h := h.2 c9
    refine ev_iload_n 3 dX8_readNow_28 rfl ?_
    refine ev_iconst 2 dX8_readNow_29 (by decide) ?_
    refine ev_ishl dX8_readNow_30 ?_
    refine ev_aload_n 0 dX8_readNow_31 rfl ?_
    refine ev_getR (r := 225) G8 lay_122 (k := 10) rfl (Nat.le_of_ble_eq_true rfl) dX8_readNow_32 w_314 ?_
    refine ev_aload_n 0 dX8_readNow_35 rfl ?_
    refine ev_getR (r := 127) G8 lay_122 (k := 7) rfl (Nat.le_of_ble_eq_true rfl) dX8_readNow_36 w_311 ?_
    refine ev_iload_n 2 dX8_readNow_39 rfl ?_
    have hb40 := h.1
    replace h := h.2
    refine ev_aald (b := 128) lay_127 (Nat.le_of_ble_eq_true rfl) hb40 dX8_readNow_40 ?_
    refine ev_iload 4 dX8_readNow_41 rfl ?_
    have hb43 := h.1
    replace h := h.2
    refine ev_iald (layr_128 _ (Nat.not_le.mp fun q9 => hb40 (Or.inr q9))).1 (layr_128 _ (Nat.not_le.mp fun q9 => hb40 (Or.inr q9))).2 hb43 dX8_readNow_43 ?_
    have hb44 := h.1
    replace h := h.2
    refine ev_iald lay_225 (Nat.le_of_ble_eq_true rfl) hb44 dX8_readNow_44 ?_
    refine ev_ior dX8_readNow_45 ?_
    refine ev_istore_n (lv' := [(3, .int ((x3 <<< (2 &&& 31)) ||| (σ.1 225 (σ.1 (128 + (x2).toNatClampNeg) (x4).toNatClampNeg).toNatClampNeg))), (0, .ref 122), (1, .int x1), (2, .int x2), (4, .int x4)]) dX8_readNow_46 (Nat.le_of_ble_eq_true rfl) rfl ?_
    refine ev_iinc (lv' := [(4, .int (x4 + 1)), (3, .int ((x3 <<< (2 &&& 31)) ||| (σ.1 225 (σ.1 (128 + (x2).toNatClampNeg) (x4).toNatClampNeg).toNatClampNeg))), (0, .ref 122), (1, .int x1), (2, .int x2)]) (x4 + 1) 4 dX8_readNow_47 rfl rfl (Nat.le_of_ble_eq_true rfl) rfl ?_
    refine ev_goto 17 dX8_readNow_50 (by decide) ?_
    refine ev_sub [2, 3, 4, 1, 0] rfl ?_
    exact h
abbrev KX8_searchBest_12 (N : Nat) (σ : Sg) (Q : Option Value → Sg → Prop) (x1 : Int32) : Prop := Ev (N + 2) mX8_searchBest 12 [(0, .ref 122), (1, .int x1)] [] σ Q
abbrev KX8_searchBest_22 (N : Nat) (σ : Sg) (Q : Option Value → Sg → Prop) (x1 : Int32) (x2 : Int32) : Prop := Ev (N + 2) mX8_searchBest 22 [(0, .ref 122), (1, .int x1), (2, .int x2)] [] σ Q
theorem EX8_searchBest {N : Nat} {σ : Sg} {Q : Option Value → Sg → Prop} (h : KX8_searchBest_12 N (u1 (u1 σ 122 12 (-1)) 122 13 0) Q 0) : EvM (N + 2) mX8_searchBest [.ref 122] σ Q := by
  refine ev_entry rfl (Nat.le_of_ble_eq_true rfl) (lv := [(0, .ref 122)]) rfl ?_
  refine ev_aload_n 0 dX8_searchBest_0 rfl ?_
  refine ev_iconst (-1) dX8_searchBest_1 (by decide) ?_
  refine ev_put G8 lay_122 (k := 12) rfl (Nat.le_of_ble_eq_true rfl) rfl (by decide +kernel) dX8_searchBest_2 w_316 ?_
  refine ev_aload_n 0 dX8_searchBest_5 rfl ?_
  refine ev_iconst 0 dX8_searchBest_6 (by decide) ?_
  refine ev_put G8 lay_122 (k := 13) rfl (Nat.le_of_ble_eq_true rfl) rfl (by decide +kernel) dX8_searchBest_7 w_317 ?_
  refine ev_iconst 0 dX8_searchBest_10 (by decide) ?_
  refine ev_istore_n (lv' := [(1, .int 0), (0, .ref 122)]) dX8_searchBest_11 (Nat.le_of_ble_eq_true rfl) rfl ?_
  refine ev_sub [1, 0] rfl ?_
  exact h
theorem BX8_searchBest_12 {N : Nat} {σ : Sg} {Q : Option Value → Sg → Prop} {x1 : Int32} (h : ((1 <<< ((2 * (σ.1 122 4)) &&& 31)) ≤ x1 → Q none σ) ∧ (¬ (1 <<< ((2 * (σ.1 122 4)) &&& 31)) ≤ x1 → KX8_searchBest_22 N σ Q x1 0)) : KX8_searchBest_12 N σ Q x1 := by
  refine ev_iload_n 1 dX8_searchBest_12 rfl ?_
  refine ev_aload_n 0 dX8_searchBest_13 rfl ?_
  refine ev_callV (M' := mX8_tables) [] vX8_tables G8 lay_122 dX8_searchBest_14 w_896 rfl rfl (Nat.le_of_ble_eq_true rfl) (EX8_tables (Q := fun r9 s9 => σ = s9 ∧ r9 = some (.int (1 <<< ((2 * (σ.1 122 4)) &&& 31)))) ⟨rfl, rfl⟩) ?_
  rintro r9 s9 ⟨rfl, rfl⟩
  refine ev_icmp_ge 70 dX8_searchBest_17 (by decide) (fun c9 => ?_) (fun c9 => ?_)
  · replace h := h.1 c9
    exact ev_vret rfl dX8_searchBest_70 h
  · replace h := h.2 c9
    refine ev_iconst 0 dX8_searchBest_20 (by decide) ?_
    refine ev_istore_n (lv' := [(2, .int 0), (0, .ref 122), (1, .int x1)]) dX8_searchBest_21 (Nat.le_of_ble_eq_true rfl) rfl ?_
    refine ev_sub [1, 2, 0] rfl ?_
    exact h
theorem BX8_searchBest_22 {N : Nat} {σ : Sg} {Q : Option Value → Sg → Prop} {x1 : Int32} {x2 : Int32} (h : ((σ.1 122 4) ≤ x2 → EvM (N + 1) mX8_readNow [.ref 122] σ (fun r9 σ1 => ∃ v1, r9 = some (.int v1) ∧ (EvM (N + 1) mX8_weigh [.ref 122, .int v1] σ1 (fun r9 σ2 => r9 = none ∧ (KX8_searchBest_12 N σ2 Q (x1 + 1)))))) ∧ (¬ (σ.1 122 4) ≤ x2 → vp_in x2 6 ∧ (KX8_searchBest_22 N (u1 σ 225 (x2).toNatClampNeg ((x1 >>> ((2 * (((σ.1 122 4) - 1) - x2)) &&& 31)) &&& 3)) Q x1 (x2 + 1)))) : KX8_searchBest_22 N σ Q x1 x2 := by
  refine ev_iload_n 2 dX8_searchBest_22 rfl ?_
  refine ev_aload_n 0 dX8_searchBest_23 rfl ?_
  refine ev_get G8 lay_122 (k := 4) rfl (Nat.le_of_ble_eq_true rfl) dX8_searchBest_24 w_308 ?_
  refine ev_icmp_ge 56 dX8_searchBest_27 (by decide) (fun c9 => ?_) (fun c9 => ?_)
  · replace h := h.1 c9
    refine ev_aload_n 0 dX8_searchBest_56 rfl ?_
    refine ev_aload_n 0 dX8_searchBest_57 rfl ?_
    refine ev_callV (M' := mX8_readNow) [] vX8_readNow G8 lay_122 dX8_searchBest_58 w_923 rfl rfl (Nat.le_of_ble_eq_true rfl) h ?_
    rintro r9 σ1 ⟨v1, rfl, h⟩
    refine ev_callV (M' := mX8_weigh) [.int v1] vX8_weigh G8 lay_122 dX8_searchBest_61 w_939 rfl rfl (Nat.le_of_ble_eq_true rfl) h ?_
    rintro r9 σ2 ⟨rfl, h⟩
    refine ev_iinc (lv' := [(1, .int (x1 + 1)), (0, .ref 122), (2, .int x2)]) (x1 + 1) 1 dX8_searchBest_64 rfl rfl (Nat.le_of_ble_eq_true rfl) rfl ?_
    refine ev_goto 12 dX8_searchBest_67 (by decide) ?_
    refine ev_sub [1, 0] rfl ?_
    exact h
  · replace h := h.2 c9
    refine ev_aload_n 0 dX8_searchBest_30 rfl ?_
    refine ev_getR (r := 225) G8 lay_122 (k := 10) rfl (Nat.le_of_ble_eq_true rfl) dX8_searchBest_31 w_314 ?_
    refine ev_iload_n 2 dX8_searchBest_34 rfl ?_
    refine ev_iload_n 1 dX8_searchBest_35 rfl ?_
    refine ev_iconst 2 dX8_searchBest_36 (by decide) ?_
    refine ev_aload_n 0 dX8_searchBest_37 rfl ?_
    refine ev_get G8 lay_122 (k := 4) rfl (Nat.le_of_ble_eq_true rfl) dX8_searchBest_38 w_308 ?_
    refine ev_iconst 1 dX8_searchBest_41 (by decide) ?_
    refine ev_isub dX8_searchBest_42 ?_
    refine ev_iload_n 2 dX8_searchBest_43 rfl ?_
    refine ev_isub dX8_searchBest_44 ?_
    refine ev_imul dX8_searchBest_45 ?_
    refine ev_ishr dX8_searchBest_46 ?_
    refine ev_iconst 3 dX8_searchBest_47 (by decide) ?_
    refine ev_iand dX8_searchBest_48 ?_
    have hb49 := h.1
    replace h := h.2
    refine ev_iast lay_225 (Nat.le_of_ble_eq_true rfl) hb49 dX8_searchBest_49 ?_
    refine ev_iinc (lv' := [(2, .int (x2 + 1)), (0, .ref 122), (1, .int x1)]) (x2 + 1) 2 dX8_searchBest_50 rfl rfl (Nat.le_of_ble_eq_true rfl) rfl ?_
    refine ev_goto 22 dX8_searchBest_53 (by decide) ?_
    refine ev_sub [1, 2, 0] rfl ?_
    exact h
abbrev KX8_weigh_20 (N : Nat) (σ : Sg) (Q : Option Value → Sg → Prop) (x1 : Int32) (x2 : Int32) : Prop := Ev N mX8_weigh 20 [(0, .ref 122), (1, .int x1), (2, .int x2)] [] σ Q
theorem EX8_weigh {N : Nat} {σ : Sg} {Q : Option Value → Sg → Prop} {x1 : Int32} (h : (x1 ≤ (σ.1 122 12) → (x1 = (σ.1 122 12) → Q none (u1 σ 122 13 ((σ.1 122 13) + 1))) ∧ (¬ x1 = (σ.1 122 12) → Q none σ)) ∧ (¬ x1 ≤ (σ.1 122 12) → KX8_weigh_20 N (u1 (u1 σ 122 12 x1) 122 13 0) Q x1 0)) : EvM N mX8_weigh [.ref 122, .int x1] σ Q := by
  refine ev_entry rfl (Nat.le_of_ble_eq_true rfl) (lv := [(0, .ref 122), (1, .int x1)]) rfl ?_
  refine ev_iload_n 1 dX8_weigh_0 rfl ?_
  refine ev_aload_n 0 dX8_weigh_1 rfl ?_
  refine ev_get G8 lay_122 (k := 12) rfl (Nat.le_of_ble_eq_true rfl) dX8_weigh_2 w_316 ?_
  refine ev_icmp_le 46 dX8_weigh_5 (by decide) (fun c9 => ?_) (fun c9 => ?_)
  · replace h := h.1 c9
    refine ev_iload_n 1 dX8_weigh_46 rfl ?_
    refine ev_aload_n 0 dX8_weigh_47 rfl ?_
    refine ev_get G8 lay_122 (k := 12) rfl (Nat.le_of_ble_eq_true rfl) dX8_weigh_48 w_316 ?_
    refine ev_icmp_ne 64 dX8_weigh_51 (by decide) (fun c9 => ?_) (fun c9 => ?_)
    · replace h := h.2 c9
      exact ev_vret rfl dX8_weigh_64 h
    · replace h := h.1 c9
      refine ev_aload_n 0 dX8_weigh_54 rfl ?_
      refine ev_dup dX8_weigh_55 rfl ?_
      refine ev_get G8 lay_122 (k := 13) rfl (Nat.le_of_ble_eq_true rfl) dX8_weigh_56 w_317 ?_
      refine ev_iconst 1 dX8_weigh_59 (by decide) ?_
      refine ev_iadd dX8_weigh_60 ?_
      refine ev_put G8 lay_122 (k := 13) rfl (Nat.le_of_ble_eq_true rfl) rfl (by decide +kernel) dX8_weigh_61 w_317 ?_
      exact ev_vret rfl dX8_weigh_64 h
  · replace h := h.2 c9
    refine ev_aload_n 0 dX8_weigh_8 rfl ?_
    refine ev_iload_n 1 dX8_weigh_9 rfl ?_
    refine ev_put G8 lay_122 (k := 12) rfl (Nat.le_of_ble_eq_true rfl) rfl (by decide +kernel) dX8_weigh_10 w_316 ?_
    refine ev_aload_n 0 dX8_weigh_13 rfl ?_
    refine ev_iconst 0 dX8_weigh_14 (by decide) ?_
    refine ev_put G8 lay_122 (k := 13) rfl (Nat.le_of_ble_eq_true rfl) rfl (by decide +kernel) dX8_weigh_15 w_317 ?_
    refine ev_iconst 0 dX8_weigh_18 (by decide) ?_
    refine ev_istore_n (lv' := [(2, .int 0), (0, .ref 122), (1, .int x1)]) dX8_weigh_19 (Nat.le_of_ble_eq_true rfl) rfl ?_
    refine ev_sub [1, 2, 0] rfl ?_
    exact h
theorem BX8_weigh_20 {N : Nat} {σ : Sg} {Q : Option Value → Sg → Prop} {x1 : Int32} {x2 : Int32} (h : ((σ.1 122 4) ≤ x2 → (x1 = (σ.1 122 12) → Q none (u1 σ 122 13 ((σ.1 122 13) + 1))) ∧ (¬ x1 = (σ.1 122 12) → Q none σ)) ∧ (¬ (σ.1 122 4) ≤ x2 → vp_in x2 6 ∧ (vp_in x2 6 ∧ (KX8_weigh_20 N (u1 σ 226 (x2).toNatClampNeg (σ.1 225 (x2).toNatClampNeg)) Q x1 (x2 + 1))))) : KX8_weigh_20 N σ Q x1 x2 := by
  refine ev_iload_n 2 dX8_weigh_20 rfl ?_
  refine ev_aload_n 0 dX8_weigh_21 rfl ?_
  refine ev_get G8 lay_122 (k := 4) rfl (Nat.le_of_ble_eq_true rfl) dX8_weigh_22 w_308 ?_
  refine ev_icmp_ge 46 dX8_weigh_25 (by decide) (fun c9 => ?_) (fun c9 => ?_)
  · replace h := h.1 c9
    refine ev_iload_n 1 dX8_weigh_46 rfl ?_
    refine ev_aload_n 0 dX8_weigh_47 rfl ?_
    refine ev_get G8 lay_122 (k := 12) rfl (Nat.le_of_ble_eq_true rfl) dX8_weigh_48 w_316 ?_
    refine ev_icmp_ne 64 dX8_weigh_51 (by decide) (fun c9 => ?_) (fun c9 => ?_)
    · replace h := h.2 c9
      exact ev_vret rfl dX8_weigh_64 h
    · replace h := h.1 c9
      refine ev_aload_n 0 dX8_weigh_54 rfl ?_
      refine ev_dup dX8_weigh_55 rfl ?_
      refine ev_get G8 lay_122 (k := 13) rfl (Nat.le_of_ble_eq_true rfl) dX8_weigh_56 w_317 ?_
      refine ev_iconst 1 dX8_weigh_59 (by decide) ?_
      refine ev_iadd dX8_weigh_60 ?_
      refine ev_put G8 lay_122 (k := 13) rfl (Nat.le_of_ble_eq_true rfl) rfl (by decide +kernel) dX8_weigh_61 w_317 ?_
      exact ev_vret rfl dX8_weigh_64 h
  · replace h := h.2 c9
    refine ev_aload_n 0 dX8_weigh_28 rfl ?_
    refine ev_getR (r := 226) G8 lay_122 (k := 11) rfl (Nat.le_of_ble_eq_true rfl) dX8_weigh_29 w_315 ?_
    refine ev_iload_n 2 dX8_weigh_32 rfl ?_
    refine ev_aload_n 0 dX8_weigh_33 rfl ?_
    refine ev_getR (r := 225) G8 lay_122 (k := 10) rfl (Nat.le_of_ble_eq_true rfl) dX8_weigh_34 w_314 ?_
    refine ev_iload_n 2 dX8_weigh_37 rfl ?_
    have hb38 := h.1
    replace h := h.2
    refine ev_iald lay_225 (Nat.le_of_ble_eq_true rfl) hb38 dX8_weigh_38 ?_
    have hb39 := h.1
    replace h := h.2
    refine ev_iast lay_226 (Nat.le_of_ble_eq_true rfl) hb39 dX8_weigh_39 ?_
    refine ev_iinc (lv' := [(2, .int (x2 + 1)), (0, .ref 122), (1, .int x1)]) (x2 + 1) 2 dX8_weigh_40 rfl rfl (Nat.le_of_ble_eq_true rfl) rfl ?_
    refine ev_goto 20 dX8_weigh_43 (by decide) ?_
    refine ev_sub [1, 2, 0] rfl ?_
    exact h
abbrev KX8_packBest_4 (N : Nat) (σ : Sg) (Q : Option Value → Sg → Prop) (x1 : Int32) (x2 : Int32) : Prop := Ev N mX8_packBest 4 [(0, .ref 122), (1, .int x1), (2, .int x2)] [] σ Q
theorem EX8_packBest {N : Nat} {σ : Sg} {Q : Option Value → Sg → Prop} (h : KX8_packBest_4 N σ Q 0 0) : EvM N mX8_packBest [.ref 122] σ Q := by
  refine ev_entry rfl (Nat.le_of_ble_eq_true rfl) (lv := [(0, .ref 122)]) rfl ?_
  refine ev_iconst 0 dX8_packBest_0 (by decide) ?_
  refine ev_istore_n (lv' := [(1, .int 0), (0, .ref 122)]) dX8_packBest_1 (Nat.le_of_ble_eq_true rfl) rfl ?_
  refine ev_iconst 0 dX8_packBest_2 (by decide) ?_
  refine ev_istore_n (lv' := [(2, .int 0), (1, .int 0), (0, .ref 122)]) dX8_packBest_3 (Nat.le_of_ble_eq_true rfl) rfl ?_
  refine ev_sub [2, 1, 0] rfl ?_
  exact h
theorem BX8_packBest_4 {N : Nat} {σ : Sg} {Q : Option Value → Sg → Prop} {x1 : Int32} {x2 : Int32} (h : ((σ.1 122 4) ≤ x2 → Q (some (.int x1)) σ) ∧ (¬ (σ.1 122 4) ≤ x2 → vp_in x2 6 ∧ (KX8_packBest_4 N σ Q (x1 ||| ((σ.1 226 (x2).toNatClampNeg) <<< ((2 * x2) &&& 31))) (x2 + 1)))) : KX8_packBest_4 N σ Q x1 x2 := by
  refine ev_iload_n 2 dX8_packBest_4 rfl ?_
  refine ev_aload_n 0 dX8_packBest_5 rfl ?_
  refine ev_get G8 lay_122 (k := 4) rfl (Nat.le_of_ble_eq_true rfl) dX8_packBest_6 w_308 ?_
  refine ev_icmp_ge 31 dX8_packBest_9 (by decide) (fun c9 => ?_) (fun c9 => ?_)
  · replace h := h.1 c9
    refine ev_iload_n 1 dX8_packBest_31 rfl ?_
    exact ev_iret rfl dX8_packBest_32 h
  · replace h := h.2 c9
    refine ev_iload_n 1 dX8_packBest_12 rfl ?_
    refine ev_aload_n 0 dX8_packBest_13 rfl ?_
    refine ev_getR (r := 226) G8 lay_122 (k := 11) rfl (Nat.le_of_ble_eq_true rfl) dX8_packBest_14 w_315 ?_
    refine ev_iload_n 2 dX8_packBest_17 rfl ?_
    have hb18 := h.1
    replace h := h.2
    refine ev_iald lay_226 (Nat.le_of_ble_eq_true rfl) hb18 dX8_packBest_18 ?_
    refine ev_iconst 2 dX8_packBest_19 (by decide) ?_
    refine ev_iload_n 2 dX8_packBest_20 rfl ?_
    refine ev_imul dX8_packBest_21 ?_
    refine ev_ishl dX8_packBest_22 ?_
    refine ev_ior dX8_packBest_23 ?_
    refine ev_istore_n (lv' := [(1, .int (x1 ||| ((σ.1 226 (x2).toNatClampNeg) <<< ((2 * x2) &&& 31)))), (0, .ref 122), (2, .int x2)]) dX8_packBest_24 (Nat.le_of_ble_eq_true rfl) rfl ?_
    refine ev_iinc (lv' := [(2, .int (x2 + 1)), (1, .int (x1 ||| ((σ.1 226 (x2).toNatClampNeg) <<< ((2 * x2) &&& 31)))), (0, .ref 122)]) (x2 + 1) 2 dX8_packBest_25 rfl rfl (Nat.le_of_ble_eq_true rfl) rfl ?_
    refine ev_goto 4 dX8_packBest_28 (by decide) ?_
    refine ev_sub [2, 1, 0] rfl ?_
    exact h
abbrev KX8_tellShuffles_8 (N : Nat) (σ : Sg) (Q : Option Value → Sg → Prop) (x1 : Int32) (x2 : Int32) (x3 : Int32) (x4 : Int32) (x5 : Int32) : Prop := Ev (N + 2) mX8_tellShuffles 8 [(0, .ref 122), (1, .int x1), (2, .int x2), (3, .int x3), (4, .int x4), (5, .int x5)] [] σ Q
abbrev KX8_tellShuffles_35 (N : Nat) (σ : Sg) (Q : Option Value → Sg → Prop) (x1 : Int32) (x2 : Int32) (x3 : Int32) (x4 : Int32) (x5 : Int32) : Prop := Ev (N + 2) mX8_tellShuffles 35 [(0, .ref 122), (1, .int x1), (2, .int x2), (3, .int x3), (4, .int x4), (5, .int x5)] [] σ Q
abbrev KX8_tellShuffles_46 (N : Nat) (σ : Sg) (Q : Option Value → Sg → Prop) (x1 : Int32) (x2 : Int32) (x3 : Int32) (x4 : Int32) (x5 : Int32) (x6 : Int32) : Prop := Ev (N + 2) mX8_tellShuffles 46 [(0, .ref 122), (1, .int x1), (2, .int x2), (3, .int x3), (4, .int x4), (5, .int x5), (6, .int x6)] [] σ Q
theorem EX8_tellShuffles {N : Nat} {σ : Sg} {Q : Option Value → Sg → Prop} {x1 : Int32} {x2 : Int32} (h : KX8_tellShuffles_8 N σ Q x1 x2 0 0 0) : EvM (N + 2) mX8_tellShuffles [.ref 122, .int x1, .int x2] σ Q := by
  refine ev_entry rfl (Nat.le_of_ble_eq_true rfl) (lv := [(0, .ref 122), (1, .int x1), (2, .int x2)]) rfl ?_
  refine ev_iconst 0 dX8_tellShuffles_0 (by decide) ?_
  refine ev_istore_n (lv' := [(3, .int 0), (0, .ref 122), (1, .int x1), (2, .int x2)]) dX8_tellShuffles_1 (Nat.le_of_ble_eq_true rfl) rfl ?_
  refine ev_iconst 0 dX8_tellShuffles_2 (by decide) ?_
  refine ev_istore (lv' := [(4, .int 0), (3, .int 0), (0, .ref 122), (1, .int x1), (2, .int x2)]) dX8_tellShuffles_3 (Nat.le_of_ble_eq_true rfl) rfl ?_
  refine ev_iconst 0 dX8_tellShuffles_5 (by decide) ?_
  refine ev_istore (lv' := [(5, .int 0), (4, .int 0), (3, .int 0), (0, .ref 122), (1, .int x1), (2, .int x2)]) dX8_tellShuffles_6 (Nat.le_of_ble_eq_true rfl) rfl ?_
  refine ev_sub [3, 4, 5, 2, 1, 0] rfl ?_
  exact h
theorem BX8_tellShuffles_8 {N : Nat} {σ : Sg} {Q : Option Value → Sg → Prop} {x1 : Int32} {x2 : Int32} {x3 : Int32} {x4 : Int32} {x5 : Int32} (h : ((σ.1 122 4) ≤ x5 → KX8_tellShuffles_35 N σ Q x1 x2 x3 x4 0) ∧ (¬ (σ.1 122 4) ≤ x5 → vp_in x5 6 ∧ (KX8_tellShuffles_8 N (u1 σ 227 (x5).toNatClampNeg x5) Q x1 x2 x3 x4 (x5 + 1)))) : KX8_tellShuffles_8 N σ Q x1 x2 x3 x4 x5 := by
  refine ev_iload 5 dX8_tellShuffles_8 rfl ?_
  refine ev_aload_n 0 dX8_tellShuffles_10 rfl ?_
  refine ev_get G8 lay_122 (k := 4) rfl (Nat.le_of_ble_eq_true rfl) dX8_tellShuffles_11 w_308 ?_
  refine ev_icmp_ge 32 dX8_tellShuffles_14 (by decide) (fun c9 => ?_) (fun c9 => ?_)
  · replace h := h.1 c9
    refine ev_iconst 0 dX8_tellShuffles_32 (by decide) ?_
    refine ev_istore (lv' := [(5, .int 0), (0, .ref 122), (1, .int x1), (2, .int x2), (3, .int x3), (4, .int x4)]) dX8_tellShuffles_33 (Nat.le_of_ble_eq_true rfl) rfl ?_
    refine ev_sub [1, 2, 3, 4, 5, 0] rfl ?_
    exact h
  · replace h := h.2 c9
    refine ev_aload_n 0 dX8_tellShuffles_17 rfl ?_
    refine ev_getR (r := 227) G8 lay_122 (k := 14) rfl (Nat.le_of_ble_eq_true rfl) dX8_tellShuffles_18 w_318 ?_
    refine ev_iload 5 dX8_tellShuffles_21 rfl ?_
    refine ev_iload 5 dX8_tellShuffles_23 rfl ?_
    have hb25 := h.1
    replace h := h.2
    refine ev_iast lay_227 (Nat.le_of_ble_eq_true rfl) hb25 dX8_tellShuffles_25 ?_
    refine ev_iinc (lv' := [(5, .int (x5 + 1)), (0, .ref 122), (1, .int x1), (2, .int x2), (3, .int x3), (4, .int x4)]) (x5 + 1) 5 dX8_tellShuffles_26 rfl rfl (Nat.le_of_ble_eq_true rfl) rfl ?_
    refine ev_goto 8 dX8_tellShuffles_29 (by decide) ?_
    refine ev_sub [1, 2, 3, 4, 5, 0] rfl ?_
    exact h
theorem BX8_tellShuffles_35 {N : Nat} {σ : Sg} {Q : Option Value → Sg → Prop} {x1 : Int32} {x2 : Int32} {x3 : Int32} {x4 : Int32} {x5 : Int32} (h : (720 ≤ x5 → (x2 = 1 → Q (some (.int x4)) σ) ∧ (¬ x2 = 1 → Q (some (.int x3)) σ)) ∧ (¬ 720 ≤ x5 → KX8_tellShuffles_46 N σ Q x1 x2 x3 x4 x5 0)) : KX8_tellShuffles_35 N σ Q x1 x2 x3 x4 x5 := by
  refine ev_iload 5 dX8_tellShuffles_35 rfl ?_
  refine ev_sipush 720 dX8_tellShuffles_37 (by decide) ?_
  refine ev_icmp_ge 110 dX8_tellShuffles_40 (by decide) (fun c9 => ?_) (fun c9 => ?_)
  · replace h := h.1 c9
    refine ev_iload_n 2 dX8_tellShuffles_110 rfl ?_
    refine ev_iconst 1 dX8_tellShuffles_111 (by decide) ?_
    refine ev_icmp_ne 120 dX8_tellShuffles_112 (by decide) (fun c9 => ?_) (fun c9 => ?_)
    · replace h := h.2 c9
      refine ev_iload_n 3 dX8_tellShuffles_120 rfl ?_
      exact ev_iret rfl dX8_tellShuffles_121 h
    · replace h := h.1 c9
      refine ev_iload 4 dX8_tellShuffles_115 rfl ?_
      refine ev_goto 121 dX8_tellShuffles_117 (by decide) ?_
      exact ev_iret rfl dX8_tellShuffles_121 h
  · replace h := h.2 c9
    refine ev_iconst 0 dX8_tellShuffles_43 (by decide) ?_
    refine ev_istore (lv' := [(6, .int 0), (0, .ref 122), (1, .int x1), (2, .int x2), (3, .int x3), (4, .int x4), (5, .int x5)]) dX8_tellShuffles_44 (Nat.le_of_ble_eq_true rfl) rfl ?_
    refine ev_sub [1, 2, 3, 4, 5, 6, 0] rfl ?_
    exact h
theorem BX8_tellShuffles_46 {N : Nat} {σ : Sg} {Q : Option Value → Sg → Prop} {x1 : Int32} {x2 : Int32} {x3 : Int32} {x4 : Int32} {x5 : Int32} {x6 : Int32} (h : ((σ.1 122 4) ≤ x6 → EvM (N + 1) mX8_readNow [.ref 122] σ (fun r9 σ1 => ∃ v1, r9 = some (.int v1) ∧ ((v1 < x1 → EvM (N + 1) mX8_nextOrder [.ref 122] σ1 (fun r9 σ2 => ∃ v2, r9 = some (.int v2) ∧ ((v2 = 0 → (x2 = 1 → Q (some (.int x4)) σ2) ∧ (¬ x2 = 1 → Q (some (.int (x3 + 1))) σ2)) ∧ (¬ v2 = 0 → KX8_tellShuffles_35 N σ2 Q x1 x2 (x3 + 1) x4 (x5 + 1))))) ∧ (¬ v1 < x1 → EvM (N + 1) mX8_nextOrder [.ref 122] σ1 (fun r9 σ3 => ∃ v3, r9 = some (.int v3) ∧ ((v3 = 0 → (x2 = 1 → Q (some (.int (x4 + 1))) σ3) ∧ (¬ x2 = 1 → Q (some (.int (x3 + 1))) σ3)) ∧ (¬ v3 = 0 → KX8_tellShuffles_35 N σ3 Q x1 x2 (x3 + 1) (x4 + 1) (x5 + 1)))))))) ∧ (¬ (σ.1 122 4) ≤ x6 → vp_in x6 6 ∧ (vp_in (σ.1 227 (x6).toNatClampNeg) 6 ∧ (vp_in x6 6 ∧ (KX8_tellShuffles_46 N (u1 σ 225 (x6).toNatClampNeg (σ.1 226 (σ.1 227 (x6).toNatClampNeg).toNatClampNeg)) Q x1 x2 x3 x4 x5 (x6 + 1)))))) : KX8_tellShuffles_46 N σ Q x1 x2 x3 x4 x5 x6 := by
  refine ev_iload 6 dX8_tellShuffles_46 rfl ?_
  refine ev_aload_n 0 dX8_tellShuffles_48 rfl ?_
  refine ev_get G8 lay_122 (k := 4) rfl (Nat.le_of_ble_eq_true rfl) dX8_tellShuffles_49 w_308 ?_
  refine ev_icmp_ge 80 dX8_tellShuffles_52 (by decide) (fun c9 => ?_) (fun c9 => ?_)
  · replace h := h.1 c9
    refine ev_iinc (lv' := [(3, .int (x3 + 1)), (0, .ref 122), (1, .int x1), (2, .int x2), (4, .int x4), (5, .int x5), (6, .int x6)]) (x3 + 1) 3 dX8_tellShuffles_80 rfl rfl (Nat.le_of_ble_eq_true rfl) rfl ?_
    refine ev_aload_n 1 dX8_tellShuffles_83 rfl ?_
    refine ev_callV (M' := mX8_readNow) [] vX8_readNow G8 lay_122 dX8_tellShuffles_84 w_923 rfl rfl (Nat.le_of_ble_eq_true rfl) h ?_
    rintro r9 σ1 ⟨v1, rfl, h⟩
    refine ev_iload_n 2 dX8_tellShuffles_87 rfl ?_
    refine ev_icmp_lt 94 dX8_tellShuffles_88 (by decide) (fun c9 => ?_) (fun c9 => ?_)
    · replace h := h.1 c9
      refine ev_aload_n 1 dX8_tellShuffles_94 rfl ?_
      refine ev_callV (M' := mX8_nextOrder) [] vX8_nextOrder G8 lay_122 dX8_tellShuffles_95 w_959 rfl rfl (Nat.le_of_ble_eq_true rfl) h ?_
      rintro r9 σ2 ⟨v2, rfl, h⟩
      refine ev_if_ne 104 dX8_tellShuffles_98 (by decide) (fun c9 => ?_) (fun c9 => ?_)
      · replace h := h.2 c9
        refine ev_iinc (lv' := [(5, .int (x5 + 1)), (3, .int (x3 + 1)), (0, .ref 122), (1, .int x1), (2, .int x2), (4, .int x4), (6, .int x6)]) (x5 + 1) 5 dX8_tellShuffles_104 rfl rfl (Nat.le_of_ble_eq_true rfl) rfl ?_
        refine ev_goto 35 dX8_tellShuffles_107 (by decide) ?_
        refine ev_sub [2, 3, 4, 1, 5, 0] rfl ?_
        exact h
      · replace h := h.1 c9
        refine ev_goto 110 dX8_tellShuffles_101 (by decide) ?_
        refine ev_iload_n 3 dX8_tellShuffles_110 rfl ?_
        refine ev_iconst 1 dX8_tellShuffles_111 (by decide) ?_
        refine ev_icmp_ne 120 dX8_tellShuffles_112 (by decide) (fun c9 => ?_) (fun c9 => ?_)
        · replace h := h.2 c9
          refine ev_iload_n 0 dX8_tellShuffles_120 rfl ?_
          exact ev_iret rfl dX8_tellShuffles_121 h
        · replace h := h.1 c9
          refine ev_iload 4 dX8_tellShuffles_115 rfl ?_
          refine ev_goto 121 dX8_tellShuffles_117 (by decide) ?_
          exact ev_iret rfl dX8_tellShuffles_121 h
    · replace h := h.2 c9
      refine ev_iinc (lv' := [(4, .int (x4 + 1)), (3, .int (x3 + 1)), (0, .ref 122), (1, .int x1), (2, .int x2), (5, .int x5), (6, .int x6)]) (x4 + 1) 4 dX8_tellShuffles_91 rfl rfl (Nat.le_of_ble_eq_true rfl) rfl ?_
      refine ev_aload_n 2 dX8_tellShuffles_94 rfl ?_
      refine ev_callV (M' := mX8_nextOrder) [] vX8_nextOrder G8 lay_122 dX8_tellShuffles_95 w_959 rfl rfl (Nat.le_of_ble_eq_true rfl) h ?_
      rintro r9 σ3 ⟨v3, rfl, h⟩
      refine ev_if_ne 104 dX8_tellShuffles_98 (by decide) (fun c9 => ?_) (fun c9 => ?_)
      · replace h := h.2 c9
        refine ev_iinc (lv' := [(5, .int (x5 + 1)), (4, .int (x4 + 1)), (3, .int (x3 + 1)), (0, .ref 122), (1, .int x1), (2, .int x2), (6, .int x6)]) (x5 + 1) 5 dX8_tellShuffles_104 rfl rfl (Nat.le_of_ble_eq_true rfl) rfl ?_
        refine ev_goto 35 dX8_tellShuffles_107 (by decide) ?_
        refine ev_sub [3, 4, 5, 2, 1, 0] rfl ?_
        exact h
      · replace h := h.1 c9
        refine ev_goto 110 dX8_tellShuffles_101 (by decide) ?_
        refine ev_iload_n 4 dX8_tellShuffles_110 rfl ?_
        refine ev_iconst 1 dX8_tellShuffles_111 (by decide) ?_
        refine ev_icmp_ne 120 dX8_tellShuffles_112 (by decide) (fun c9 => ?_) (fun c9 => ?_)
        · replace h := h.2 c9
          refine ev_iload_n 1 dX8_tellShuffles_120 rfl ?_
          exact ev_iret rfl dX8_tellShuffles_121 h
        · replace h := h.1 c9
          refine ev_iload 0 dX8_tellShuffles_115 rfl ?_
          refine ev_goto 121 dX8_tellShuffles_117 (by decide) ?_
          exact ev_iret rfl dX8_tellShuffles_121 h
  · replace h := h.2 c9
    refine ev_aload_n 0 dX8_tellShuffles_55 rfl ?_
    refine ev_getR (r := 225) G8 lay_122 (k := 10) rfl (Nat.le_of_ble_eq_true rfl) dX8_tellShuffles_56 w_314 ?_
    refine ev_iload 6 dX8_tellShuffles_59 rfl ?_
    refine ev_aload_n 0 dX8_tellShuffles_61 rfl ?_
    refine ev_getR (r := 226) G8 lay_122 (k := 11) rfl (Nat.le_of_ble_eq_true rfl) dX8_tellShuffles_62 w_315 ?_
    refine ev_aload_n 0 dX8_tellShuffles_65 rfl ?_
    refine ev_getR (r := 227) G8 lay_122 (k := 14) rfl (Nat.le_of_ble_eq_true rfl) dX8_tellShuffles_66 w_318 ?_
    refine ev_iload 6 dX8_tellShuffles_69 rfl ?_
    have hb71 := h.1
    replace h := h.2
    refine ev_iald lay_227 (Nat.le_of_ble_eq_true rfl) hb71 dX8_tellShuffles_71 ?_
    have hb72 := h.1
    replace h := h.2
    refine ev_iald lay_226 (Nat.le_of_ble_eq_true rfl) hb72 dX8_tellShuffles_72 ?_
    have hb73 := h.1
    replace h := h.2
    refine ev_iast lay_225 (Nat.le_of_ble_eq_true rfl) hb73 dX8_tellShuffles_73 ?_
    refine ev_iinc (lv' := [(6, .int (x6 + 1)), (0, .ref 122), (1, .int x1), (2, .int x2), (3, .int x3), (4, .int x4), (5, .int x5)]) (x6 + 1) 6 dX8_tellShuffles_74 rfl rfl (Nat.le_of_ble_eq_true rfl) rfl ?_
    refine ev_goto 46 dX8_tellShuffles_77 (by decide) ?_
    refine ev_sub [1, 2, 3, 4, 5, 6, 0] rfl ?_
    exact h
abbrev KX8_nextOrder_7 (N : Nat) (σ : Sg) (Q : Option Value → Sg → Prop) (x1 : Int32) : Prop := Ev (N + 1) mX8_nextOrder 7 [(0, .ref 122), (1, .int x1)] [] σ Q
abbrev KX8_nextOrder_47 (N : Nat) (σ : Sg) (Q : Option Value → Sg → Prop) (x1 : Int32) (x2 : Int32) : Prop := Ev (N + 1) mX8_nextOrder 47 [(0, .ref 122), (1, .int x1), (2, .int x2)] [] σ Q
abbrev KX8_nextOrder_91 (N : Nat) (σ : Sg) (Q : Option Value → Sg → Prop) (x3 : Int32) (x4 : Int32) : Prop := Ev (N + 1) mX8_nextOrder 91 [(0, .ref 122), (3, .int x3), (4, .int x4)] [] σ Q
theorem EX8_nextOrder {N : Nat} {σ : Sg} {Q : Option Value → Sg → Prop} (h : KX8_nextOrder_7 N σ Q ((σ.1 122 4) - 2)) : EvM (N + 1) mX8_nextOrder [.ref 122] σ Q := by
  refine ev_entry rfl (Nat.le_of_ble_eq_true rfl) (lv := [(0, .ref 122)]) rfl ?_
  refine ev_aload_n 0 dX8_nextOrder_0 rfl ?_
  refine ev_get G8 lay_122 (k := 4) rfl (Nat.le_of_ble_eq_true rfl) dX8_nextOrder_1 w_308 ?_
  refine ev_iconst 2 dX8_nextOrder_4 (by decide) ?_
  refine ev_isub dX8_nextOrder_5 ?_
  refine ev_istore_n (lv' := [(1, .int ((σ.1 122 4) - 2)), (0, .ref 122)]) dX8_nextOrder_6 (Nat.le_of_ble_eq_true rfl) rfl ?_
  refine ev_sub [1, 0] rfl ?_
  exact h
theorem BX8_nextOrder_7 {N : Nat} {σ : Sg} {Q : Option Value → Sg → Prop} {x1 : Int32} (h : (x1 < 0 → (0 ≤ x1 → KX8_nextOrder_47 N σ Q x1 ((σ.1 122 4) - 1)) ∧ (¬ 0 ≤ x1 → Q (some (.int 0)) σ)) ∧ (¬ x1 < 0 → vp_in x1 6 ∧ (vp_in (x1 + 1) 6 ∧ (((σ.1 227 (x1).toNatClampNeg) ≤ (σ.1 227 (x1 + 1).toNatClampNeg) → (0 ≤ x1 → KX8_nextOrder_47 N σ Q x1 ((σ.1 122 4) - 1)) ∧ (¬ 0 ≤ x1 → Q (some (.int 0)) σ)) ∧ (¬ (σ.1 227 (x1).toNatClampNeg) ≤ (σ.1 227 (x1 + 1).toNatClampNeg) → KX8_nextOrder_7 N σ Q (x1 + (-1))))))) : KX8_nextOrder_7 N σ Q x1 := by
  refine ev_iload_n 1 dX8_nextOrder_7 rfl ?_
  refine ev_if_lt 34 dX8_nextOrder_8 (by decide) (fun c9 => ?_) (fun c9 => ?_)
  · replace h := h.1 c9
    refine ev_iload_n 1 dX8_nextOrder_34 rfl ?_
    refine ev_if_ge 40 dX8_nextOrder_35 (by decide) (fun c9 => ?_) (fun c9 => ?_)
    · replace h := h.1 c9
      refine ev_aload_n 0 dX8_nextOrder_40 rfl ?_
      refine ev_get G8 lay_122 (k := 4) rfl (Nat.le_of_ble_eq_true rfl) dX8_nextOrder_41 w_308 ?_
      refine ev_iconst 1 dX8_nextOrder_44 (by decide) ?_
      refine ev_isub dX8_nextOrder_45 ?_
      refine ev_istore_n (lv' := [(2, .int ((σ.1 122 4) - 1)), (0, .ref 122), (1, .int x1)]) dX8_nextOrder_46 (Nat.le_of_ble_eq_true rfl) rfl ?_
      refine ev_sub [1, 2, 0] rfl ?_
      exact h
    · replace h := h.2 c9
      refine ev_iconst 0 dX8_nextOrder_38 (by decide) ?_
      exact ev_zret (ty := .boolean) rfl (by rfl) dX8_nextOrder_39 h
  · replace h := h.2 c9
    refine ev_aload_n 0 dX8_nextOrder_11 rfl ?_
    refine ev_getR (r := 227) G8 lay_122 (k := 14) rfl (Nat.le_of_ble_eq_true rfl) dX8_nextOrder_12 w_318 ?_
    refine ev_iload_n 1 dX8_nextOrder_15 rfl ?_
    have hb16 := h.1
    replace h := h.2
    refine ev_iald lay_227 (Nat.le_of_ble_eq_true rfl) hb16 dX8_nextOrder_16 ?_
    refine ev_aload_n 0 dX8_nextOrder_17 rfl ?_
    refine ev_getR (r := 227) G8 lay_122 (k := 14) rfl (Nat.le_of_ble_eq_true rfl) dX8_nextOrder_18 w_318 ?_
    refine ev_iload_n 1 dX8_nextOrder_21 rfl ?_
    refine ev_iconst 1 dX8_nextOrder_22 (by decide) ?_
    refine ev_iadd dX8_nextOrder_23 ?_
    have hb24 := h.1
    replace h := h.2
    refine ev_iald lay_227 (Nat.le_of_ble_eq_true rfl) hb24 dX8_nextOrder_24 ?_
    refine ev_icmp_le 34 dX8_nextOrder_25 (by decide) (fun c9 => ?_) (fun c9 => ?_)
    · replace h := h.1 c9
      refine ev_iload_n 1 dX8_nextOrder_34 rfl ?_
      refine ev_if_ge 40 dX8_nextOrder_35 (by decide) (fun c9 => ?_) (fun c9 => ?_)
      · replace h := h.1 c9
        refine ev_aload_n 0 dX8_nextOrder_40 rfl ?_
        refine ev_get G8 lay_122 (k := 4) rfl (Nat.le_of_ble_eq_true rfl) dX8_nextOrder_41 w_308 ?_
        refine ev_iconst 1 dX8_nextOrder_44 (by decide) ?_
        refine ev_isub dX8_nextOrder_45 ?_
        refine ev_istore_n (lv' := [(2, .int ((σ.1 122 4) - 1)), (0, .ref 122), (1, .int x1)]) dX8_nextOrder_46 (Nat.le_of_ble_eq_true rfl) rfl ?_
        refine ev_sub [1, 2, 0] rfl ?_
        exact h
      · replace h := h.2 c9
        refine ev_iconst 0 dX8_nextOrder_38 (by decide) ?_
        exact ev_zret (ty := .boolean) rfl (by rfl) dX8_nextOrder_39 h
    · replace h := h.2 c9
      refine ev_iinc (lv' := [(1, .int (x1 + (-1))), (0, .ref 122)]) (x1 + (-1)) 1 dX8_nextOrder_28 rfl rfl (Nat.le_of_ble_eq_true rfl) rfl ?_
      refine ev_goto 7 dX8_nextOrder_31 (by decide) ?_
      refine ev_sub [1, 0] rfl ?_
      exact h
theorem BX8_nextOrder_47 {N : Nat} {σ : Sg} {Q : Option Value → Sg → Prop} {x1 : Int32} {x2 : Int32} (h : (x2 ≤ x1 → EvM N mX8_exchange [.ref 122, .int x1, .int x2] σ (fun r9 σ1 => r9 = none ∧ (KX8_nextOrder_91 N σ1 Q (x1 + 1) ((σ1.1 122 4) - 1)))) ∧ (¬ x2 ≤ x1 → vp_in x2 6 ∧ (vp_in x1 6 ∧ (((σ.1 227 (x1).toNatClampNeg) ≤ (σ.1 227 (x2).toNatClampNeg) → EvM N mX8_exchange [.ref 122, .int x1, .int x2] σ (fun r9 σ2 => r9 = none ∧ (KX8_nextOrder_91 N σ2 Q (x1 + 1) ((σ2.1 122 4) - 1)))) ∧ (¬ (σ.1 227 (x1).toNatClampNeg) ≤ (σ.1 227 (x2).toNatClampNeg) → KX8_nextOrder_47 N σ Q x1 (x2 + (-1))))))) : KX8_nextOrder_47 N σ Q x1 x2 := by
  refine ev_iload_n 2 dX8_nextOrder_47 rfl ?_
  refine ev_iload_n 1 dX8_nextOrder_48 rfl ?_
  refine ev_icmp_le 73 dX8_nextOrder_49 (by decide) (fun c9 => ?_) (fun c9 => ?_)
  · replace h := h.1 c9
    refine ev_aload_n 0 dX8_nextOrder_73 rfl ?_
    refine ev_iload_n 1 dX8_nextOrder_74 rfl ?_
    refine ev_iload_n 2 dX8_nextOrder_75 rfl ?_
    refine ev_callV (M' := mX8_exchange) [.int x1, .int x2] vX8_exchange G8 lay_122 dX8_nextOrder_76 w_963 rfl rfl (Nat.le_of_ble_eq_true rfl) h ?_
    rintro r9 σ1 ⟨rfl, h⟩
    refine ev_iload_n 1 dX8_nextOrder_79 rfl ?_
    refine ev_iconst 1 dX8_nextOrder_80 (by decide) ?_
    refine ev_iadd dX8_nextOrder_81 ?_
    refine ev_istore_n (lv' := [(3, .int (x1 + 1)), (0, .ref 122), (1, .int x1), (2, .int x2)]) dX8_nextOrder_82 (Nat.le_of_ble_eq_true rfl) rfl ?_
    refine ev_aload_n 1 dX8_nextOrder_83 rfl ?_
    refine ev_get G8 lay_122 (k := 4) rfl (Nat.le_of_ble_eq_true rfl) dX8_nextOrder_84 w_308 ?_
    refine ev_iconst 1 dX8_nextOrder_87 (by decide) ?_
    refine ev_isub dX8_nextOrder_88 ?_
    refine ev_istore (lv' := [(4, .int ((σ1.1 122 4) - 1)), (3, .int (x1 + 1)), (0, .ref 122), (1, .int x1), (2, .int x2)]) dX8_nextOrder_89 (Nat.le_of_ble_eq_true rfl) rfl ?_
    refine ev_sub [2, 1, 0] rfl ?_
    exact h
  · replace h := h.2 c9
    refine ev_aload_n 0 dX8_nextOrder_52 rfl ?_
    refine ev_getR (r := 227) G8 lay_122 (k := 14) rfl (Nat.le_of_ble_eq_true rfl) dX8_nextOrder_53 w_318 ?_
    refine ev_iload_n 2 dX8_nextOrder_56 rfl ?_
    have hb57 := h.1
    replace h := h.2
    refine ev_iald lay_227 (Nat.le_of_ble_eq_true rfl) hb57 dX8_nextOrder_57 ?_
    refine ev_aload_n 0 dX8_nextOrder_58 rfl ?_
    refine ev_getR (r := 227) G8 lay_122 (k := 14) rfl (Nat.le_of_ble_eq_true rfl) dX8_nextOrder_59 w_318 ?_
    refine ev_iload_n 1 dX8_nextOrder_62 rfl ?_
    have hb63 := h.1
    replace h := h.2
    refine ev_iald lay_227 (Nat.le_of_ble_eq_true rfl) hb63 dX8_nextOrder_63 ?_
    refine ev_icmp_ge 73 dX8_nextOrder_64 (by decide) (fun c9 => ?_) (fun c9 => ?_)
    · replace h := h.1 c9
      refine ev_aload_n 0 dX8_nextOrder_73 rfl ?_
      refine ev_iload_n 1 dX8_nextOrder_74 rfl ?_
      refine ev_iload_n 2 dX8_nextOrder_75 rfl ?_
      refine ev_callV (M' := mX8_exchange) [.int x1, .int x2] vX8_exchange G8 lay_122 dX8_nextOrder_76 w_963 rfl rfl (Nat.le_of_ble_eq_true rfl) h ?_
      rintro r9 σ2 ⟨rfl, h⟩
      refine ev_iload_n 1 dX8_nextOrder_79 rfl ?_
      refine ev_iconst 1 dX8_nextOrder_80 (by decide) ?_
      refine ev_iadd dX8_nextOrder_81 ?_
      refine ev_istore_n (lv' := [(3, .int (x1 + 1)), (0, .ref 122), (1, .int x1), (2, .int x2)]) dX8_nextOrder_82 (Nat.le_of_ble_eq_true rfl) rfl ?_
      refine ev_aload_n 1 dX8_nextOrder_83 rfl ?_
      refine ev_get G8 lay_122 (k := 4) rfl (Nat.le_of_ble_eq_true rfl) dX8_nextOrder_84 w_308 ?_
      refine ev_iconst 1 dX8_nextOrder_87 (by decide) ?_
      refine ev_isub dX8_nextOrder_88 ?_
      refine ev_istore (lv' := [(4, .int ((σ2.1 122 4) - 1)), (3, .int (x1 + 1)), (0, .ref 122), (1, .int x1), (2, .int x2)]) dX8_nextOrder_89 (Nat.le_of_ble_eq_true rfl) rfl ?_
      refine ev_sub [2, 1, 0] rfl ?_
      exact h
    · replace h := h.2 c9
      refine ev_iinc (lv' := [(2, .int (x2 + (-1))), (0, .ref 122), (1, .int x1)]) (x2 + (-1)) 2 dX8_nextOrder_67 rfl rfl (Nat.le_of_ble_eq_true rfl) rfl ?_
      refine ev_goto 47 dX8_nextOrder_70 (by decide) ?_
      refine ev_sub [1, 2, 0] rfl ?_
      exact h
theorem BX8_nextOrder_91 {N : Nat} {σ : Sg} {Q : Option Value → Sg → Prop} {x3 : Int32} {x4 : Int32} (h : (x4 ≤ x3 → Q (some (.int 1)) σ) ∧ (¬ x4 ≤ x3 → EvM N mX8_exchange [.ref 122, .int x3, .int x4] σ (fun r9 σ3 => r9 = none ∧ (KX8_nextOrder_91 N σ3 Q (x3 + 1) (x4 + (-1)))))) : KX8_nextOrder_91 N σ Q x3 x4 := by
  refine ev_iload_n 1 dX8_nextOrder_91 rfl ?_
  refine ev_iload 2 dX8_nextOrder_92 rfl ?_
  refine ev_icmp_ge 113 dX8_nextOrder_94 (by decide) (fun c9 => ?_) (fun c9 => ?_)
  · replace h := h.1 c9
    refine ev_iconst 1 dX8_nextOrder_113 (by decide) ?_
    exact ev_zret (ty := .boolean) rfl (by rfl) dX8_nextOrder_114 h
  · replace h := h.2 c9
    refine ev_aload_n 0 dX8_nextOrder_97 rfl ?_
    refine ev_iload_n 1 dX8_nextOrder_98 rfl ?_
    refine ev_iload 2 dX8_nextOrder_99 rfl ?_
    refine ev_callV (M' := mX8_exchange) [.int x3, .int x4] vX8_exchange G8 lay_122 dX8_nextOrder_101 w_963 rfl rfl (Nat.le_of_ble_eq_true rfl) h ?_
    rintro r9 σ3 ⟨rfl, h⟩
    refine ev_iinc (lv' := [(3, .int (x3 + 1)), (0, .ref 122), (4, .int x4)]) (x3 + 1) 1 dX8_nextOrder_104 rfl rfl (Nat.le_of_ble_eq_true rfl) rfl ?_
    refine ev_iinc (lv' := [(4, .int (x4 + (-1))), (3, .int (x3 + 1)), (0, .ref 122)]) (x4 + (-1)) 2 dX8_nextOrder_107 rfl rfl (Nat.le_of_ble_eq_true rfl) rfl ?_
    refine ev_goto 91 dX8_nextOrder_110 (by decide) ?_
    refine ev_sub [2, 1, 0] rfl ?_
    exact h
theorem EX8_exchange {N : Nat} {σ : Sg} {Q : Option Value → Sg → Prop} {x1 : Int32} {x2 : Int32} (h : vp_in x1 6 ∧ (vp_in x2 6 ∧ (vp_in x1 6 ∧ (vp_in x2 6 ∧ (Q none (u1 (u1 σ 227 (x1).toNatClampNeg (σ.1 227 (x2).toNatClampNeg)) 227 (x2).toNatClampNeg (σ.1 227 (x1).toNatClampNeg))))))) : EvM N mX8_exchange [.ref 122, .int x1, .int x2] σ Q := by
  refine ev_entry rfl (Nat.le_of_ble_eq_true rfl) (lv := [(0, .ref 122), (1, .int x1), (2, .int x2)]) rfl ?_
  refine ev_aload_n 0 dX8_exchange_0 rfl ?_
  refine ev_getR (r := 227) G8 lay_122 (k := 14) rfl (Nat.le_of_ble_eq_true rfl) dX8_exchange_1 w_318 ?_
  refine ev_iload_n 1 dX8_exchange_4 rfl ?_
  have hb5 := h.1
  replace h := h.2
  refine ev_iald lay_227 (Nat.le_of_ble_eq_true rfl) hb5 dX8_exchange_5 ?_
  refine ev_istore_n (lv' := [(3, .int (σ.1 227 (x1).toNatClampNeg)), (0, .ref 122), (1, .int x1), (2, .int x2)]) dX8_exchange_6 (Nat.le_of_ble_eq_true rfl) rfl ?_
  refine ev_aload_n 1 dX8_exchange_7 rfl ?_
  refine ev_getR (r := 227) G8 lay_122 (k := 14) rfl (Nat.le_of_ble_eq_true rfl) dX8_exchange_8 w_318 ?_
  refine ev_iload_n 2 dX8_exchange_11 rfl ?_
  refine ev_aload_n 1 dX8_exchange_12 rfl ?_
  refine ev_getR (r := 227) G8 lay_122 (k := 14) rfl (Nat.le_of_ble_eq_true rfl) dX8_exchange_13 w_318 ?_
  refine ev_iload_n 3 dX8_exchange_16 rfl ?_
  have hb17 := h.1
  replace h := h.2
  refine ev_iald lay_227 (Nat.le_of_ble_eq_true rfl) hb17 dX8_exchange_17 ?_
  have hb18 := h.1
  replace h := h.2
  refine ev_iast lay_227 (Nat.le_of_ble_eq_true rfl) hb18 dX8_exchange_18 ?_
  refine ev_aload_n 1 dX8_exchange_19 rfl ?_
  refine ev_getR (r := 227) G8 lay_122 (k := 14) rfl (Nat.le_of_ble_eq_true rfl) dX8_exchange_20 w_318 ?_
  refine ev_iload_n 3 dX8_exchange_23 rfl ?_
  refine ev_iload_n 0 dX8_exchange_24 rfl ?_
  have hb25 := h.1
  replace h := h.2
  refine ev_iast lay_227 (Nat.le_of_ble_eq_true rfl) hb25 dX8_exchange_25 ?_
  exact ev_vret rfl dX8_exchange_26 h
theorem EX9_form {N : Nat} {σ : Sg} {Q : Option Value → Sg → Prop} {x1 : Int32} (h : EvM (N + 3) mX2_add [.ref 1, .int x1] σ (fun r9 σ1 => ∃ v1, r9 = some (.int v1) ∧ (Q (some (.int v1)) σ1))) : EvM (N + 4) mX9_form [.ref 0, .int x1] σ Q := by
  refine ev_entry rfl (Nat.le_of_ble_eq_true rfl) (lv := [(0, .ref 0), (1, .int x1)]) rfl ?_
  refine ev_aload_n 0 dX9_form_0 rfl ?_
  refine ev_getR (r := 1) G9 lay_0 (k := 0) rfl (Nat.le_of_ble_eq_true rfl) dX9_form_1 w_411 ?_
  refine ev_iload_n 1 dX9_form_4 rfl ?_
  refine ev_callV (M' := mX2_add) [.int x1] vX2_add G2 lay_1 dX9_form_5 w_443 rfl rfl (Nat.le_of_ble_eq_true rfl) h ?_
  rintro r9 σ1 ⟨v1, rfl, h⟩
  exact ev_iret rfl dX9_form_8 h
theorem EX9_likeness {N : Nat} {σ : Sg} {Q : Option Value → Sg → Prop} {x1 : Int32} (h : EvM (N + 3) mX2_limitTo [.ref 1, .int x1] σ (fun r9 σ1 => ∃ v1, r9 = some (.int v1) ∧ (Q (some (.int v1)) σ1))) : EvM (N + 4) mX9_likeness [.ref 0, .int x1] σ Q := by
  refine ev_entry rfl (Nat.le_of_ble_eq_true rfl) (lv := [(0, .ref 0), (1, .int x1)]) rfl ?_
  refine ev_aload_n 0 dX9_likeness_0 rfl ?_
  refine ev_getR (r := 1) G9 lay_0 (k := 0) rfl (Nat.le_of_ble_eq_true rfl) dX9_likeness_1 w_411 ?_
  refine ev_iload_n 1 dX9_likeness_4 rfl ?_
  refine ev_callV (M' := mX2_limitTo) [.int x1] vX2_limitTo G2 lay_1 dX9_likeness_5 w_470 rfl rfl (Nat.le_of_ble_eq_true rfl) h ?_
  rintro r9 σ1 ⟨v1, rfl, h⟩
  exact ev_iret rfl dX9_likeness_8 h
theorem EX9_sign {N : Nat} {σ : Sg} {Q : Option Value → Sg → Prop} {x1 : Int32} (h : EvM N mX2_signOf [.ref 1, .int x1] σ (fun r9 σ1 => ∃ v1, r9 = some (.int v1) ∧ (Q (some (.int v1)) σ1))) : EvM (N + 1) mX9_sign [.ref 0, .int x1] σ Q := by
  refine ev_entry rfl (Nat.le_of_ble_eq_true rfl) (lv := [(0, .ref 0), (1, .int x1)]) rfl ?_
  refine ev_aload_n 0 dX9_sign_0 rfl ?_
  refine ev_getR (r := 1) G9 lay_0 (k := 0) rfl (Nat.le_of_ble_eq_true rfl) dX9_sign_1 w_411 ?_
  refine ev_iload_n 1 dX9_sign_4 rfl ?_
  refine ev_callV (M' := mX2_signOf) [.int x1] vX2_signOf G2 lay_1 dX9_sign_5 w_478 rfl rfl (Nat.le_of_ble_eq_true rfl) h ?_
  rintro r9 σ1 ⟨v1, rfl, h⟩
  exact ev_iret rfl dX9_sign_8 h
theorem EX9_signs {N : Nat} {σ : Sg} {Q : Option Value → Sg → Prop} {x1 : Int32} (h : (x1 = 0 → EvM (N + 3) mX2_groups [.ref 1] σ (fun r9 σ1 => ∃ v1, r9 = some (.int v1) ∧ (Q (some (.int v1)) σ1))) ∧ (x1 = 1 → EvM (N + 3) mX2_greatest [.ref 1] σ (fun r9 σ2 => ∃ v2, r9 = some (.int v2) ∧ (EvM (N + 3) mX2_membersOf [.ref 1, .int v2] σ2 (fun r9 σ3 => ∃ v3, r9 = some (.int v3) ∧ (Q (some (.int v3)) σ3))))) ∧ (x1 = 2 → EvM (N + 3) mX2_greatest [.ref 1] σ (fun r9 σ4 => ∃ v4, r9 = some (.int v4) ∧ (Q (some (.int v4)) σ4))) ∧ (x1 = 3 → EvM (N + 3) mX2_leastLimit [.ref 1] σ (fun r9 σ5 => ∃ v5, r9 = some (.int v5) ∧ (Q (some (.int v5)) σ5))) ∧ (¬ x1 = 0 → ¬ x1 = 1 → ¬ x1 = 2 → ¬ x1 = 3 → Q (some (.int (-1))) σ)) : EvM (N + 4) mX9_signs [.ref 0, .int x1] σ Q := by
  refine ev_entry rfl (Nat.le_of_ble_eq_true rfl) (lv := [(0, .ref 0), (1, .int x1)]) rfl ?_
  refine ev_iload_n 1 dX9_signs_0 rfl ?_
  by_cases c0 : x1 = 0
  · replace h := h.1 c0
    refine ev_tableIn (off := (31)) 0 32 dX9_signs_1 c0 (by decide) (by decide) rfl (by decide) ?_
    refine ev_aload_n 0 dX9_signs_32 rfl ?_
    refine ev_getR (r := 1) G9 lay_0 (k := 0) rfl (Nat.le_of_ble_eq_true rfl) dX9_signs_33 w_411 ?_
    refine ev_callV (M' := mX2_groups) [] vX2_groups G2 lay_1 dX9_signs_36 w_486 rfl rfl (Nat.le_of_ble_eq_true rfl) h ?_
    rintro r9 σ1 ⟨v1, rfl, h⟩
    exact ev_iret rfl dX9_signs_39 h
  by_cases c1 : x1 = 1
  · replace h := h.2.1 c1
    refine ev_tableIn (off := (39)) 1 40 dX9_signs_1 c1 (by decide) (by decide) rfl (by decide) ?_
    refine ev_aload_n 0 dX9_signs_40 rfl ?_
    refine ev_getR (r := 1) G9 lay_0 (k := 0) rfl (Nat.le_of_ble_eq_true rfl) dX9_signs_41 w_411 ?_
    refine ev_aload_n 0 dX9_signs_44 rfl ?_
    refine ev_getR (r := 1) G9 lay_0 (k := 0) rfl (Nat.le_of_ble_eq_true rfl) dX9_signs_45 w_411 ?_
    refine ev_callV (M' := mX2_greatest) [] vX2_greatest G2 lay_1 dX9_signs_48 w_490 rfl rfl (Nat.le_of_ble_eq_true rfl) h ?_
    rintro r9 σ2 ⟨v2, rfl, h⟩
    refine ev_callV (M' := mX2_membersOf) [.int v2] vX2_membersOf G2 lay_1 dX9_signs_51 w_498 rfl rfl (Nat.le_of_ble_eq_true rfl) h ?_
    rintro r9 σ3 ⟨v3, rfl, h⟩
    exact ev_iret rfl dX9_signs_54 h
  by_cases c2 : x1 = 2
  · replace h := h.2.2.1 c2
    refine ev_tableIn (off := (54)) 2 55 dX9_signs_1 c2 (by decide) (by decide) rfl (by decide) ?_
    refine ev_aload_n 0 dX9_signs_55 rfl ?_
    refine ev_getR (r := 1) G9 lay_0 (k := 0) rfl (Nat.le_of_ble_eq_true rfl) dX9_signs_56 w_411 ?_
    refine ev_callV (M' := mX2_greatest) [] vX2_greatest G2 lay_1 dX9_signs_59 w_490 rfl rfl (Nat.le_of_ble_eq_true rfl) h ?_
    rintro r9 σ4 ⟨v4, rfl, h⟩
    exact ev_iret rfl dX9_signs_62 h
  by_cases c3 : x1 = 3
  · replace h := h.2.2.2.1 c3
    refine ev_tableIn (off := (62)) 3 63 dX9_signs_1 c3 (by decide) (by decide) rfl (by decide) ?_
    refine ev_aload_n 0 dX9_signs_63 rfl ?_
    refine ev_getR (r := 1) G9 lay_0 (k := 0) rfl (Nat.le_of_ble_eq_true rfl) dX9_signs_64 w_411 ?_
    refine ev_callV (M' := mX2_leastLimit) [] vX2_leastLimit G2 lay_1 dX9_signs_67 w_499 rfl rfl (Nat.le_of_ble_eq_true rfl) h ?_
    rintro r9 σ5 ⟨v5, rfl, h⟩
    exact ev_iret rfl dX9_signs_70 h
  replace h := h.2.2.2.2 c0 c1 c2 c3
  refine ev_tableOut 71 dX9_signs_1 ?_ (by decide) ?_
  · have hn : ∀ k : Int32, ¬ x1 = k → ¬ (x1).toInt = k.toInt := fun k q e => q (Int32.toInt_inj.mp e)
    have e0 := hn _ c0
    have e1 := hn _ c1
    have e2 := hn _ c2
    have e3 := hn _ c3
    rw [show (0 : Int32).toInt = 0 from by decide] at e0; rw [show (1 : Int32).toInt = 1 from by decide] at e1; rw [show (2 : Int32).toInt = 2 from by decide] at e2; rw [show (3 : Int32).toInt = 3 from by decide] at e3
    omega
  · refine ev_iconst (-1) dX9_signs_71 (by decide) ?_
    exact ev_iret rfl dX9_signs_72 h
abbrev KX9_text_54 (N : Nat) (σ : Sg) (Q : Option Value → Sg → Prop) (x1 : Int32) (x3 : Int32) (x4 : Int32) (x6 : Int32) : Prop := Ev (N + 5) mX9_text 54 [(0, .ref 0), (1, .int x1), (3, .int x3), (4, .int x4), (6, .int x6)] [] σ Q
theorem EX9_text {N : Nat} {σ : Sg} {Q : Option Value → Sg → Prop} {x1 : Int32} {x2 : Int32} {x3 : Int32} {x4 : Int32} (h : ((vp_in x1 4) → ((vp_in x2 3) → (x4 < 1 → Q (some (.int (-1))) σ) ∧ (¬ x4 < 1 → (x4 ≤ 24 → EvM (N + 4) mX5_faultAs [.ref 237, .int x1, .int x2] σ (fun r9 σ1 => ∃ v1, r9 = some (.int v1) ∧ ((v1 = 0 → KX9_text_54 N σ1 Q x1 x3 x4 0) ∧ (¬ v1 = 0 → Q (some (.int ((-10) - v1))) σ1)))) ∧ (¬ x4 ≤ 24 → Q (some (.int (-1))) σ))) ∧ (¬ (vp_in x2 3) → Q (some (.int (-1))) σ)) ∧ (¬ (vp_in x1 4) → Q (some (.int (-1))) σ)) : EvM (N + 5) mX9_text [.ref 0, .int x1, .int x2, .int x3, .int x4] σ Q := by
  refine ev_entry rfl (Nat.le_of_ble_eq_true rfl) (lv := [(0, .ref 0), (1, .int x1), (2, .int x2), (3, .int x3), (4, .int x4)]) rfl ?_
  refine ev_iload_n 1 dX9_text_0 rfl ?_
  refine ev_callS (M' := mX5_isSheet) [.int x1] vX5_isSheet dX9_text_1 w_511 rfl rfl (Nat.le_of_ble_eq_true rfl) (C5_isSheet (Q := fun r9 s9 => σ = s9 ∧ ((r9 = some (.int 1) ∧ (vp_in x1 4)) ∨ (r9 = some (.int 0) ∧ ¬ (vp_in x1 4)))) ⟨fun c9 => ⟨rfl, Or.inl ⟨rfl, c9⟩⟩, fun c9 => ⟨rfl, Or.inr ⟨rfl, c9⟩⟩⟩) ?_
  rintro r9 s9 ⟨rfl, ⟨rfl, c9⟩ | ⟨rfl, c9⟩⟩
  · replace h := h.1 c9
    refine ev_if_eq 27 dX9_text_4 (by decide) (fun c9 => ?_) (fun c9 => ?_)
    · exact absurd c9 (by decide)
    · refine ev_iload_n 2 dX9_text_7 rfl ?_
      refine ev_callS (M' := mX5_isLane) [.int x2] vX5_isLane dX9_text_8 w_514 rfl rfl (Nat.le_of_ble_eq_true rfl) (C5_isLane (Q := fun r9 s9 => σ = s9 ∧ ((r9 = some (.int 1) ∧ (vp_in x2 3)) ∨ (r9 = some (.int 0) ∧ ¬ (vp_in x2 3)))) ⟨fun c9 => ⟨rfl, Or.inl ⟨rfl, c9⟩⟩, fun c9 => ⟨rfl, Or.inr ⟨rfl, c9⟩⟩⟩) ?_
      rintro r9 s9 ⟨rfl, ⟨rfl, c9⟩ | ⟨rfl, c9⟩⟩
      · replace h := h.1 c9
        refine ev_if_eq 27 dX9_text_11 (by decide) (fun c9 => ?_) (fun c9 => ?_)
        · exact absurd c9 (by decide)
        · refine ev_iload 4 dX9_text_14 rfl ?_
          refine ev_iconst 1 dX9_text_16 (by decide) ?_
          refine ev_icmp_lt 27 dX9_text_17 (by decide) (fun c9 => ?_) (fun c9 => ?_)
          · replace h := h.1 c9
            refine ev_iconst (-1) dX9_text_27 (by decide) ?_
            exact ev_iret rfl dX9_text_28 h
          · replace h := h.2 c9
            refine ev_iload 4 dX9_text_20 rfl ?_
            refine ev_bipush 24 dX9_text_22 (by decide) ?_
            refine ev_icmp_le 29 dX9_text_24 (by decide) (fun c9 => ?_) (fun c9 => ?_)
            · replace h := h.1 c9
              refine ev_aload_n 0 dX9_text_29 rfl ?_
              refine ev_getR (r := 237) G9 lay_0 (k := 8) rfl (Nat.le_of_ble_eq_true rfl) dX9_text_30 w_419 ?_
              refine ev_iload_n 1 dX9_text_33 rfl ?_
              refine ev_iload_n 2 dX9_text_34 rfl ?_
              refine ev_callV (M' := mX5_faultAs) [.int x1, .int x2] vX5_faultAs G5 lay_237 dX9_text_35 w_517 rfl rfl (Nat.le_of_ble_eq_true rfl) h ?_
              rintro r9 σ1 ⟨v1, rfl, h⟩
              refine ev_istore (lv' := [(5, .int v1), (0, .ref 0), (1, .int x1), (2, .int x2), (3, .int x3), (4, .int x4)]) dX9_text_38 (Nat.le_of_ble_eq_true rfl) rfl ?_
              refine ev_iload 0 dX9_text_40 rfl ?_
              refine ev_if_eq 51 dX9_text_42 (by decide) (fun c9 => ?_) (fun c9 => ?_)
              · replace h := h.1 c9
                refine ev_iconst 0 dX9_text_51 (by decide) ?_
                refine ev_istore (lv' := [(6, .int 0), (5, .int v1), (0, .ref 0), (1, .int x1), (2, .int x2), (3, .int x3), (4, .int x4)]) dX9_text_52 (Nat.le_of_ble_eq_true rfl) rfl ?_
                refine ev_sub [2, 3, 5, 6, 0] rfl ?_
                exact h
              · replace h := h.2 c9
                refine ev_bipush (-10) dX9_text_45 (by decide) ?_
                refine ev_iload 0 dX9_text_47 rfl ?_
                refine ev_isub dX9_text_49 ?_
                exact ev_iret rfl dX9_text_50 h
            · replace h := h.2 c9
              refine ev_iconst (-1) dX9_text_27 (by decide) ?_
              exact ev_iret rfl dX9_text_28 h
      · replace h := h.2 c9
        refine ev_if_eq 27 dX9_text_11 (by decide) (fun c9 => ?_) (fun c9 => ?_)
        · refine ev_iconst (-1) dX9_text_27 (by decide) ?_
          exact ev_iret rfl dX9_text_28 h
        · exact absurd c9 (by decide)
  · replace h := h.2 c9
    refine ev_if_eq 27 dX9_text_4 (by decide) (fun c9 => ?_) (fun c9 => ?_)
    · refine ev_iconst (-1) dX9_text_27 (by decide) ?_
      exact ev_iret rfl dX9_text_28 h
    · exact absurd c9 (by decide)
theorem BX9_text_54 {N : Nat} {σ : Sg} {Q : Option Value → Sg → Prop} {x1 : Int32} {x3 : Int32} {x4 : Int32} {x6 : Int32} (h : (x4 ≤ x6 → EvM (N + 4) mX7_addDraft [.ref 5, .int x4] σ (fun r9 σ2 => ∃ v2, r9 = some (.int v2) ∧ (Q (some (.int v2)) σ2))) ∧ (¬ x4 ≤ x6 → EvM (N + 4) mX5_hasCell [.ref 237, .int x1, .int (x3 + x6)] σ (fun r9 σ3 => ∃ v3, r9 = some (.int v3) ∧ ((v3 = 0 → Q (some (.int (-12))) σ3) ∧ (¬ v3 = 0 → EvM (N + 4) mX5_cellOf [.ref 237, .int x1, .int (x3 + x6)] σ3 (fun r9 σ4 => ∃ v4, r9 = some (.int v4) ∧ (EvM (N + 4) mX7_draftCell [.ref 5, .int x6, .int v4] σ4 (fun r9 σ5 => ∃ v5, r9 = some (.int v5) ∧ ((v5 = 0 → Q (some (.int ((-20) - x6))) σ5) ∧ (¬ v5 = 0 → KX9_text_54 N σ5 Q x1 x3 x4 (x6 + 1))))))))))) : KX9_text_54 N σ Q x1 x3 x4 x6 := by
  refine ev_iload 4 dX9_text_54 rfl ?_
  refine ev_iload 3 dX9_text_56 rfl ?_
  refine ev_icmp_ge 115 dX9_text_58 (by decide) (fun c9 => ?_) (fun c9 => ?_)
  · replace h := h.1 c9
    refine ev_aload_n 0 dX9_text_115 rfl ?_
    refine ev_getR (r := 5) G9 lay_0 (k := 1) rfl (Nat.le_of_ble_eq_true rfl) dX9_text_116 w_412 ?_
    refine ev_iload 3 dX9_text_119 rfl ?_
    refine ev_callV (M' := mX7_addDraft) [.int x4] vX7_addDraft G7 lay_5 dX9_text_121 w_543 rfl rfl (Nat.le_of_ble_eq_true rfl) h ?_
    rintro r9 σ2 ⟨v2, rfl, h⟩
    exact ev_iret rfl dX9_text_124 h
  · replace h := h.2 c9
    refine ev_aload_n 0 dX9_text_61 rfl ?_
    refine ev_getR (r := 237) G9 lay_0 (k := 8) rfl (Nat.le_of_ble_eq_true rfl) dX9_text_62 w_419 ?_
    refine ev_iload_n 1 dX9_text_65 rfl ?_
    refine ev_iload_n 2 dX9_text_66 rfl ?_
    refine ev_iload 4 dX9_text_67 rfl ?_
    refine ev_iadd dX9_text_69 ?_
    refine ev_callV (M' := mX5_hasCell) [.int x1, .int (x3 + x6)] vX5_hasCell G5 lay_237 dX9_text_70 w_526 rfl rfl (Nat.le_of_ble_eq_true rfl) h ?_
    rintro r9 σ3 ⟨v3, rfl, h⟩
    refine ev_if_ne 79 dX9_text_73 (by decide) (fun c9 => ?_) (fun c9 => ?_)
    · replace h := h.2 c9
      refine ev_aload_n 0 dX9_text_79 rfl ?_
      refine ev_getR (r := 5) G9 lay_0 (k := 1) rfl (Nat.le_of_ble_eq_true rfl) dX9_text_80 w_412 ?_
      refine ev_iload 4 dX9_text_83 rfl ?_
      refine ev_aload_n 0 dX9_text_85 rfl ?_
      refine ev_getR (r := 237) G9 lay_0 (k := 8) rfl (Nat.le_of_ble_eq_true rfl) dX9_text_86 w_419 ?_
      refine ev_iload_n 1 dX9_text_89 rfl ?_
      refine ev_iload_n 2 dX9_text_90 rfl ?_
      refine ev_iload 4 dX9_text_91 rfl ?_
      refine ev_iadd dX9_text_93 ?_
      refine ev_callV (M' := mX5_cellOf) [.int x1, .int (x3 + x6)] vX5_cellOf G5 lay_237 dX9_text_94 w_530 rfl rfl (Nat.le_of_ble_eq_true rfl) h ?_
      rintro r9 σ4 ⟨v4, rfl, h⟩
      refine ev_callV (M' := mX7_draftCell) [.int x6, .int v4] vX7_draftCell G7 lay_5 dX9_text_97 w_535 rfl rfl (Nat.le_of_ble_eq_true rfl) h ?_
      rintro r9 σ5 ⟨v5, rfl, h⟩
      refine ev_if_ne 109 dX9_text_100 (by decide) (fun c9 => ?_) (fun c9 => ?_)
      · replace h := h.2 c9
        refine ev_iinc (lv' := [(6, .int (x6 + 1)), (0, .ref 0), (1, .int x1), (3, .int x3), (4, .int x4)]) (x6 + 1) 4 dX9_text_109 rfl rfl (Nat.le_of_ble_eq_true rfl) rfl ?_
        refine ev_goto 54 dX9_text_112 (by decide) ?_
        refine ev_sub [1, 2, 3, 4, 0] rfl ?_
        exact h
      · replace h := h.1 c9
        refine ev_bipush (-20) dX9_text_103 (by decide) ?_
        refine ev_iload 4 dX9_text_105 rfl ?_
        refine ev_isub dX9_text_107 ?_
        exact ev_iret rfl dX9_text_108 h
    · replace h := h.1 c9
      refine ev_bipush (-12) dX9_text_76 (by decide) ?_
      exact ev_iret rfl dX9_text_78 h
theorem EX9_drop {N : Nat} {σ : Sg} {Q : Option Value → Sg → Prop} (h : EvM N mX7_dropLatest [.ref 5] σ (fun r9 σ1 => ∃ v1, r9 = some (.int v1) ∧ (Q (some (.int v1)) σ1))) : EvM (N + 1) mX9_drop [.ref 0] σ Q := by
  refine ev_entry rfl (Nat.le_of_ble_eq_true rfl) (lv := [(0, .ref 0)]) rfl ?_
  refine ev_aload_n 0 dX9_drop_0 rfl ?_
  refine ev_getR (r := 5) G9 lay_0 (k := 1) rfl (Nat.le_of_ble_eq_true rfl) dX9_drop_1 w_412 ?_
  refine ev_callV (M' := mX7_dropLatest) [] vX7_dropLatest G7 lay_5 dX9_drop_4 w_564 rfl rfl (Nat.le_of_ble_eq_true rfl) h ?_
  rintro r9 σ1 ⟨v1, rfl, h⟩
  exact ev_iret rfl dX9_drop_7 h
theorem EX9_textOf {N : Nat} {σ : Sg} {Q : Option Value → Sg → Prop} {x1 : Int32} {x2 : Int32} (h : EvM (N + 3) mX7_tell [.ref 5, .int x1, .int x2] σ (fun r9 σ1 => ∃ v1, r9 = some (.int v1) ∧ (Q (some (.int v1)) σ1))) : EvM (N + 4) mX9_textOf [.ref 0, .int x1, .int x2] σ Q := by
  refine ev_entry rfl (Nat.le_of_ble_eq_true rfl) (lv := [(0, .ref 0), (1, .int x1), (2, .int x2)]) rfl ?_
  refine ev_aload_n 0 dX9_textOf_0 rfl ?_
  refine ev_getR (r := 5) G9 lay_0 (k := 1) rfl (Nat.le_of_ble_eq_true rfl) dX9_textOf_1 w_412 ?_
  refine ev_iload_n 1 dX9_textOf_4 rfl ?_
  refine ev_iload_n 2 dX9_textOf_5 rfl ?_
  refine ev_callV (M' := mX7_tell) [.int x1, .int x2] vX7_tell G7 lay_5 dX9_textOf_6 w_572 rfl rfl (Nat.le_of_ble_eq_true rfl) h ?_
  rintro r9 σ1 ⟨v1, rfl, h⟩
  exact ev_iret rfl dX9_textOf_9 h
theorem EX9_counted {N : Nat} {σ : Sg} {Q : Option Value → Sg → Prop} {x1 : Int32} (h : EvM (N + 3) mX2_isSign [.ref 1, .int x1] σ (fun r9 σ1 => ∃ v1, r9 = some (.int v1) ∧ ((v1 = 0 → Q (some (.int (-1))) σ1) ∧ (¬ v1 = 0 → EvM (N + 3) mX7_timesOf [.ref 5, .int x1] σ1 (fun r9 σ2 => ∃ v2, r9 = some (.int v2) ∧ (Q (some (.int v2)) σ2)))))) : EvM (N + 4) mX9_counted [.ref 0, .int x1] σ Q := by
  refine ev_entry rfl (Nat.le_of_ble_eq_true rfl) (lv := [(0, .ref 0), (1, .int x1)]) rfl ?_
  refine ev_aload_n 0 dX9_counted_0 rfl ?_
  refine ev_getR (r := 1) G9 lay_0 (k := 0) rfl (Nat.le_of_ble_eq_true rfl) dX9_counted_1 w_411 ?_
  refine ev_iload_n 1 dX9_counted_4 rfl ?_
  refine ev_callV (M' := mX2_isSign) [.int x1] vX2_isSign G2 lay_1 dX9_counted_5 w_609 rfl rfl (Nat.le_of_ble_eq_true rfl) h ?_
  rintro r9 σ1 ⟨v1, rfl, h⟩
  refine ev_if_eq 22 dX9_counted_8 (by decide) (fun c9 => ?_) (fun c9 => ?_)
  · replace h := h.1 c9
    refine ev_iconst (-1) dX9_counted_22 (by decide) ?_
    exact ev_iret rfl dX9_counted_23 h
  · replace h := h.2 c9
    refine ev_aload_n 0 dX9_counted_11 rfl ?_
    refine ev_getR (r := 5) G9 lay_0 (k := 1) rfl (Nat.le_of_ble_eq_true rfl) dX9_counted_12 w_412 ?_
    refine ev_iload_n 1 dX9_counted_15 rfl ?_
    refine ev_callV (M' := mX7_timesOf) [.int x1] vX7_timesOf G7 lay_5 dX9_counted_16 w_614 rfl rfl (Nat.le_of_ble_eq_true rfl) h ?_
    rintro r9 σ2 ⟨v2, rfl, h⟩
    refine ev_goto 23 dX9_counted_19 (by decide) ?_
    exact ev_iret rfl dX9_counted_23 h
theorem EX9_beside {N : Nat} {σ : Sg} {Q : Option Value → Sg → Prop} {x1 : Int32} {x2 : Int32} (h : EvM (N + 2) mX2_isSign [.ref 1, .int x1] σ (fun r9 σ1 => ∃ v1, r9 = some (.int v1) ∧ ((v1 = 0 → Q (some (.int (-1))) σ1) ∧ (¬ v1 = 0 → EvM (N + 2) mX2_isSign [.ref 1, .int x2] σ1 (fun r9 σ2 => ∃ v2, r9 = some (.int v2) ∧ ((v2 = 0 → Q (some (.int (-1))) σ2) ∧ (¬ v2 = 0 → EvM (N + 2) mX7_timesBeside [.ref 5, .int x1, .int x2] σ2 (fun r9 σ3 => ∃ v3, r9 = some (.int v3) ∧ (Q (some (.int v3)) σ3))))))))) : EvM (N + 3) mX9_beside [.ref 0, .int x1, .int x2] σ Q := by
  refine ev_entry rfl (Nat.le_of_ble_eq_true rfl) (lv := [(0, .ref 0), (1, .int x1), (2, .int x2)]) rfl ?_
  refine ev_aload_n 0 dX9_beside_0 rfl ?_
  refine ev_getR (r := 1) G9 lay_0 (k := 0) rfl (Nat.le_of_ble_eq_true rfl) dX9_beside_1 w_411 ?_
  refine ev_iload_n 1 dX9_beside_4 rfl ?_
  refine ev_callV (M' := mX2_isSign) [.int x1] vX2_isSign G2 lay_1 dX9_beside_5 w_609 rfl rfl (Nat.le_of_ble_eq_true rfl) h ?_
  rintro r9 σ1 ⟨v1, rfl, h⟩
  refine ev_if_eq 34 dX9_beside_8 (by decide) (fun c9 => ?_) (fun c9 => ?_)
  · replace h := h.1 c9
    refine ev_iconst (-1) dX9_beside_34 (by decide) ?_
    exact ev_iret rfl dX9_beside_35 h
  · replace h := h.2 c9
    refine ev_aload_n 0 dX9_beside_11 rfl ?_
    refine ev_getR (r := 1) G9 lay_0 (k := 0) rfl (Nat.le_of_ble_eq_true rfl) dX9_beside_12 w_411 ?_
    refine ev_iload_n 2 dX9_beside_15 rfl ?_
    refine ev_callV (M' := mX2_isSign) [.int x2] vX2_isSign G2 lay_1 dX9_beside_16 w_609 rfl rfl (Nat.le_of_ble_eq_true rfl) h ?_
    rintro r9 σ2 ⟨v2, rfl, h⟩
    refine ev_if_eq 34 dX9_beside_19 (by decide) (fun c9 => ?_) (fun c9 => ?_)
    · replace h := h.1 c9
      refine ev_iconst (-1) dX9_beside_34 (by decide) ?_
      exact ev_iret rfl dX9_beside_35 h
    · replace h := h.2 c9
      refine ev_aload_n 0 dX9_beside_22 rfl ?_
      refine ev_getR (r := 5) G9 lay_0 (k := 1) rfl (Nat.le_of_ble_eq_true rfl) dX9_beside_23 w_412 ?_
      refine ev_iload_n 1 dX9_beside_26 rfl ?_
      refine ev_iload_n 2 dX9_beside_27 rfl ?_
      refine ev_callV (M' := mX7_timesBeside) [.int x1, .int x2] vX7_timesBeside G7 lay_5 dX9_beside_28 w_622 rfl rfl (Nat.le_of_ble_eq_true rfl) h ?_
      rintro r9 σ3 ⟨v3, rfl, h⟩
      refine ev_goto 35 dX9_beside_31 (by decide) ?_
      exact ev_iret rfl dX9_beside_35 h
theorem EX9_chance {N : Nat} {σ : Sg} {Q : Option Value → Sg → Prop} {x1 : Int32} {x2 : Int32} {x3 : Int32} (h : EvM (N + 4) mX2_isSign [.ref 1, .int x1] σ (fun r9 σ1 => ∃ v1, r9 = some (.int v1) ∧ ((v1 = 0 → Q (some (.long (-1))) σ1) ∧ (¬ v1 = 0 → EvM (N + 4) mX2_isSign [.ref 1, .int x2] σ1 (fun r9 σ2 => ∃ v2, r9 = some (.int v2) ∧ ((v2 = 0 → Q (some (.long (-1))) σ2) ∧ (¬ v2 = 0 → (x3 < 0 → Q (some (.long (-1))) σ2) ∧ (¬ x3 < 0 → (x3 ≤ 1 → EvM (N + 4) mX7_chanceAbove [.ref 5, .int x1, .int x2] σ2 (fun r9 σ3 => ∃ v3, r9 = some (.long v3) ∧ (EvM (N + 4) mX7_chanceBelow [.ref 5] σ3 (fun r9 σ4 => ∃ v4, r9 = some (.long v4) ∧ (EvM (N + 4) mX7_greatestShared [.long v3, .long v4] σ4 (fun r9 σ5 => ∃ v5, r9 = some (.long v5) ∧ ((0 ≤ (lg_cmp v5 1) → (x3 = 0 → (¬ v5 = 0) ∧ (Q (some (.long (v3 / v5))) σ5)) ∧ (¬ x3 = 0 → (¬ v5 = 0) ∧ (Q (some (.long (v4 / v5))) σ5))) ∧ (¬ 0 ≤ (lg_cmp v5 1) → Q (some (.long (-1))) σ5)))))))) ∧ (¬ x3 ≤ 1 → Q (some (.long (-1))) σ2))))))))) : EvM (N + 5) mX9_chance [.ref 0, .int x1, .int x2, .int x3] σ Q := by
  refine ev_entry rfl (Nat.le_of_ble_eq_true rfl) (lv := [(0, .ref 0), (1, .int x1), (2, .int x2), (3, .int x3)]) rfl ?_
  refine ev_aload_n 0 dX9_chance_0 rfl ?_
  refine ev_getR (r := 1) G9 lay_0 (k := 0) rfl (Nat.le_of_ble_eq_true rfl) dX9_chance_1 w_411 ?_
  refine ev_iload_n 1 dX9_chance_4 rfl ?_
  refine ev_callV (M' := mX2_isSign) [.int x1] vX2_isSign G2 lay_1 dX9_chance_5 w_609 rfl rfl (Nat.le_of_ble_eq_true rfl) h ?_
  rintro r9 σ1 ⟨v1, rfl, h⟩
  refine ev_if_eq 31 dX9_chance_8 (by decide) (fun c9 => ?_) (fun c9 => ?_)
  · replace h := h.1 c9
    refine ev_ldc2 (-1) dX9_chance_31 w_630 ?_
    exact ev_lret rfl dX9_chance_34 h
  · replace h := h.2 c9
    refine ev_aload_n 0 dX9_chance_11 rfl ?_
    refine ev_getR (r := 1) G9 lay_0 (k := 0) rfl (Nat.le_of_ble_eq_true rfl) dX9_chance_12 w_411 ?_
    refine ev_iload_n 2 dX9_chance_15 rfl ?_
    refine ev_callV (M' := mX2_isSign) [.int x2] vX2_isSign G2 lay_1 dX9_chance_16 w_609 rfl rfl (Nat.le_of_ble_eq_true rfl) h ?_
    rintro r9 σ2 ⟨v2, rfl, h⟩
    refine ev_if_eq 31 dX9_chance_19 (by decide) (fun c9 => ?_) (fun c9 => ?_)
    · replace h := h.1 c9
      refine ev_ldc2 (-1) dX9_chance_31 w_630 ?_
      exact ev_lret rfl dX9_chance_34 h
    · replace h := h.2 c9
      refine ev_iload_n 3 dX9_chance_22 rfl ?_
      refine ev_if_lt 31 dX9_chance_23 (by decide) (fun c9 => ?_) (fun c9 => ?_)
      · replace h := h.1 c9
        refine ev_ldc2 (-1) dX9_chance_31 w_630 ?_
        exact ev_lret rfl dX9_chance_34 h
      · replace h := h.2 c9
        refine ev_iload_n 3 dX9_chance_26 rfl ?_
        refine ev_iconst 1 dX9_chance_27 (by decide) ?_
        refine ev_icmp_le 35 dX9_chance_28 (by decide) (fun c9 => ?_) (fun c9 => ?_)
        · replace h := h.1 c9
          refine ev_aload_n 0 dX9_chance_35 rfl ?_
          refine ev_getR (r := 5) G9 lay_0 (k := 1) rfl (Nat.le_of_ble_eq_true rfl) dX9_chance_36 w_412 ?_
          refine ev_iload_n 1 dX9_chance_39 rfl ?_
          refine ev_iload_n 2 dX9_chance_40 rfl ?_
          refine ev_callV (M' := mX7_chanceAbove) [.int x1, .int x2] vX7_chanceAbove G7 lay_5 dX9_chance_41 w_631 rfl rfl (Nat.le_of_ble_eq_true rfl) h ?_
          rintro r9 σ3 ⟨v3, rfl, h⟩
          refine ev_lstore (lv' := [(4, .long v3), (0, .ref 0), (1, .int x1), (2, .int x2), (3, .int x3)]) dX9_chance_44 (Nat.le_of_ble_eq_true rfl) rfl ?_
          refine ev_aload_n 1 dX9_chance_46 rfl ?_
          refine ev_getR (r := 5) G9 lay_0 (k := 1) rfl (Nat.le_of_ble_eq_true rfl) dX9_chance_47 w_412 ?_
          refine ev_callV (M' := mX7_chanceBelow) [] vX7_chanceBelow G7 lay_5 dX9_chance_50 w_644 rfl rfl (Nat.le_of_ble_eq_true rfl) h ?_
          rintro r9 σ4 ⟨v4, rfl, h⟩
          refine ev_lstore (lv' := [(6, .long v4), (4, .long v3), (0, .ref 0), (1, .int x1), (2, .int x2), (3, .int x3)]) dX9_chance_53 (Nat.le_of_ble_eq_true rfl) rfl ?_
          refine ev_lload 1 dX9_chance_55 rfl ?_
          refine ev_lload 0 dX9_chance_57 rfl ?_
          refine ev_callS (M' := mX7_greatestShared) [.long v3, .long v4] vX7_greatestShared dX9_chance_59 w_649 rfl rfl (Nat.le_of_ble_eq_true rfl) h ?_
          rintro r9 σ5 ⟨v5, rfl, h⟩
          refine ev_lstore (lv' := [(8, .long v5), (6, .long v4), (4, .long v3), (0, .ref 0), (1, .int x1), (2, .int x2), (3, .int x3)]) dX9_chance_62 (Nat.le_of_ble_eq_true rfl) rfl ?_
          refine ev_lload 0 dX9_chance_64 rfl ?_
          refine ev_lconst 1 dX9_chance_66 (by decide) ?_
          refine ev_lcmp dX9_chance_67 ?_
          refine ev_if_ge 75 dX9_chance_68 (by decide) (fun c9 => ?_) (fun c9 => ?_)
          · replace h := h.1 c9
            refine ev_iload_n 6 dX9_chance_75 rfl ?_
            refine ev_if_ne 84 dX9_chance_76 (by decide) (fun c9 => ?_) (fun c9 => ?_)
            · replace h := h.2 c9
              refine ev_lload 1 dX9_chance_84 rfl ?_
              refine ev_lload 0 dX9_chance_86 rfl ?_
              have hz := h.1
              replace h := h.2
              refine ev_ldiv dX9_chance_88 hz ?_
              exact ev_lret rfl dX9_chance_89 h
            · replace h := h.1 c9
              refine ev_lload 2 dX9_chance_79 rfl ?_
              refine ev_goto 86 dX9_chance_81 (by decide) ?_
              refine ev_lload 0 dX9_chance_86 rfl ?_
              have hz := h.1
              replace h := h.2
              refine ev_ldiv dX9_chance_88 hz ?_
              exact ev_lret rfl dX9_chance_89 h
          · replace h := h.2 c9
            refine ev_ldc2 (-1) dX9_chance_71 w_630 ?_
            exact ev_lret rfl dX9_chance_74 h
        · replace h := h.2 c9
          refine ev_ldc2 (-1) dX9_chance_31 w_630 ?_
          exact ev_lret rfl dX9_chance_34 h
theorem EX9_runs {N : Nat} {σ : Sg} {Q : Option Value → Sg → Prop} {x1 : Int32} (h : (x1 = 0 → EvM (N + 4) mX7_likeEdges [.ref 5, .int 1] σ (fun r9 σ1 => ∃ v1, r9 = some (.int v1) ∧ (EvM (N + 4) mX7_likeEdges [.ref 5, .int 0] σ1 (fun r9 σ2 => ∃ v2, r9 = some (.int v2) ∧ (EvM (N + 4) mJ6_compare_7cf53 [.int v1, .int v2] σ2 (fun r9 σ3 => ∃ v3, r9 = some (.int v3) ∧ (Q (some (.int v3)) σ3))))))) ∧ (x1 = 1 → EvM (N + 4) mX7_likeEdges [.ref 5, .int 0] σ (fun r9 σ4 => ∃ v4, r9 = some (.int v4) ∧ (Q (some (.int v4)) σ4))) ∧ (x1 = 2 → EvM (N + 4) mX7_likeEdges [.ref 5, .int 1] σ (fun r9 σ5 => ∃ v5, r9 = some (.int v5) ∧ (Q (some (.int v5)) σ5))) ∧ (¬ x1 = 0 → ¬ x1 = 1 → ¬ x1 = 2 → Q (some (.int (-10))) σ)) : EvM (N + 5) mX9_runs [.ref 0, .int x1] σ Q := by
  refine ev_entry rfl (Nat.le_of_ble_eq_true rfl) (lv := [(0, .ref 0), (1, .int x1)]) rfl ?_
  refine ev_iload_n 1 dX9_runs_0 rfl ?_
  by_cases c0 : x1 = 0
  · replace h := h.1 c0
    refine ev_tableIn (off := (27)) 0 28 dX9_runs_1 c0 (by decide) (by decide) rfl (by decide) ?_
    refine ev_aload_n 0 dX9_runs_28 rfl ?_
    refine ev_getR (r := 5) G9 lay_0 (k := 1) rfl (Nat.le_of_ble_eq_true rfl) dX9_runs_29 w_412 ?_
    refine ev_iconst 1 dX9_runs_32 (by decide) ?_
    refine ev_callV (M' := mX7_likeEdges) [.int 1] vX7_likeEdges G7 lay_5 dX9_runs_33 w_656 rfl rfl (Nat.le_of_ble_eq_true rfl) h ?_
    rintro r9 σ1 ⟨v1, rfl, h⟩
    refine ev_aload_n 0 dX9_runs_36 rfl ?_
    refine ev_getR (r := 5) G9 lay_0 (k := 1) rfl (Nat.le_of_ble_eq_true rfl) dX9_runs_37 w_412 ?_
    refine ev_iconst 0 dX9_runs_40 (by decide) ?_
    refine ev_callV (M' := mX7_likeEdges) [.int 0] vX7_likeEdges G7 lay_5 dX9_runs_41 w_656 rfl rfl (Nat.le_of_ble_eq_true rfl) h ?_
    rintro r9 σ2 ⟨v2, rfl, h⟩
    refine ev_callS (M' := mJ6_compare_7cf53) [.int v1, .int v2] vJ6_compare_7cf53 dX9_runs_44 w_672 rfl rfl (Nat.le_of_ble_eq_true rfl) h ?_
    rintro r9 σ3 ⟨v3, rfl, h⟩
    exact ev_iret rfl dX9_runs_47 h
  by_cases c1 : x1 = 1
  · replace h := h.2.1 c1
    refine ev_tableIn (off := (47)) 1 48 dX9_runs_1 c1 (by decide) (by decide) rfl (by decide) ?_
    refine ev_aload_n 0 dX9_runs_48 rfl ?_
    refine ev_getR (r := 5) G9 lay_0 (k := 1) rfl (Nat.le_of_ble_eq_true rfl) dX9_runs_49 w_412 ?_
    refine ev_iconst 0 dX9_runs_52 (by decide) ?_
    refine ev_callV (M' := mX7_likeEdges) [.int 0] vX7_likeEdges G7 lay_5 dX9_runs_53 w_656 rfl rfl (Nat.le_of_ble_eq_true rfl) h ?_
    rintro r9 σ4 ⟨v4, rfl, h⟩
    exact ev_iret rfl dX9_runs_56 h
  by_cases c2 : x1 = 2
  · replace h := h.2.2.1 c2
    refine ev_tableIn (off := (56)) 2 57 dX9_runs_1 c2 (by decide) (by decide) rfl (by decide) ?_
    refine ev_aload_n 0 dX9_runs_57 rfl ?_
    refine ev_getR (r := 5) G9 lay_0 (k := 1) rfl (Nat.le_of_ble_eq_true rfl) dX9_runs_58 w_412 ?_
    refine ev_iconst 1 dX9_runs_61 (by decide) ?_
    refine ev_callV (M' := mX7_likeEdges) [.int 1] vX7_likeEdges G7 lay_5 dX9_runs_62 w_656 rfl rfl (Nat.le_of_ble_eq_true rfl) h ?_
    rintro r9 σ5 ⟨v5, rfl, h⟩
    exact ev_iret rfl dX9_runs_65 h
  replace h := h.2.2.2 c0 c1 c2
  refine ev_tableOut 66 dX9_runs_1 ?_ (by decide) ?_
  · have hn : ∀ k : Int32, ¬ x1 = k → ¬ (x1).toInt = k.toInt := fun k q e => q (Int32.toInt_inj.mp e)
    have e0 := hn _ c0
    have e1 := hn _ c1
    have e2 := hn _ c2
    rw [show (0 : Int32).toInt = 0 from by decide] at e0; rw [show (1 : Int32).toInt = 1 from by decide] at e1; rw [show (2 : Int32).toInt = 2 from by decide] at e2
    omega
  · refine ev_bipush (-10) dX9_runs_66 (by decide) ?_
    exact ev_iret rfl dX9_runs_68 h
theorem EX9_akin {N : Nat} {σ : Sg} {Q : Option Value → Sg → Prop} {x1 : Int32} {x2 : Int32} (h : EvM (N + 5) mX2_isSign [.ref 1, .int x1] σ (fun r9 σ1 => ∃ v1, r9 = some (.int v1) ∧ ((v1 = 0 → Q (some (.int (-1))) σ1) ∧ (¬ v1 = 0 → EvM (N + 5) mX2_isSign [.ref 1, .int x2] σ1 (fun r9 σ2 => ∃ v2, r9 = some (.int v2) ∧ ((v2 = 0 → Q (some (.int (-1))) σ2) ∧ (¬ v2 = 0 → (x1 = x2 → Q (some (.int (-1))) σ2) ∧ (¬ x1 = x2 → EvM (N + 5) mX3_akinOf [.ref 22, .int x1, .int x2] σ2 (fun r9 σ3 => ∃ v3, r9 = some (.int v3) ∧ (Q (some (.int v3)) σ3)))))))))) : EvM (N + 6) mX9_akin [.ref 0, .int x1, .int x2] σ Q := by
  refine ev_entry rfl (Nat.le_of_ble_eq_true rfl) (lv := [(0, .ref 0), (1, .int x1), (2, .int x2)]) rfl ?_
  refine ev_aload_n 0 dX9_akin_0 rfl ?_
  refine ev_getR (r := 1) G9 lay_0 (k := 0) rfl (Nat.le_of_ble_eq_true rfl) dX9_akin_1 w_411 ?_
  refine ev_iload_n 1 dX9_akin_4 rfl ?_
  refine ev_callV (M' := mX2_isSign) [.int x1] vX2_isSign G2 lay_1 dX9_akin_5 w_609 rfl rfl (Nat.le_of_ble_eq_true rfl) h ?_
  rintro r9 σ1 ⟨v1, rfl, h⟩
  refine ev_if_eq 39 dX9_akin_8 (by decide) (fun c9 => ?_) (fun c9 => ?_)
  · replace h := h.1 c9
    refine ev_iconst (-1) dX9_akin_39 (by decide) ?_
    exact ev_iret rfl dX9_akin_40 h
  · replace h := h.2 c9
    refine ev_aload_n 0 dX9_akin_11 rfl ?_
    refine ev_getR (r := 1) G9 lay_0 (k := 0) rfl (Nat.le_of_ble_eq_true rfl) dX9_akin_12 w_411 ?_
    refine ev_iload_n 2 dX9_akin_15 rfl ?_
    refine ev_callV (M' := mX2_isSign) [.int x2] vX2_isSign G2 lay_1 dX9_akin_16 w_609 rfl rfl (Nat.le_of_ble_eq_true rfl) h ?_
    rintro r9 σ2 ⟨v2, rfl, h⟩
    refine ev_if_eq 39 dX9_akin_19 (by decide) (fun c9 => ?_) (fun c9 => ?_)
    · replace h := h.1 c9
      refine ev_iconst (-1) dX9_akin_39 (by decide) ?_
      exact ev_iret rfl dX9_akin_40 h
    · replace h := h.2 c9
      refine ev_iload_n 1 dX9_akin_22 rfl ?_
      refine ev_iload_n 2 dX9_akin_23 rfl ?_
      refine ev_icmp_eq 39 dX9_akin_24 (by decide) (fun c9 => ?_) (fun c9 => ?_)
      · replace h := h.1 c9
        refine ev_iconst (-1) dX9_akin_39 (by decide) ?_
        exact ev_iret rfl dX9_akin_40 h
      · replace h := h.2 c9
        refine ev_aload_n 0 dX9_akin_27 rfl ?_
        refine ev_getR (r := 22) G9 lay_0 (k := 2) rfl (Nat.le_of_ble_eq_true rfl) dX9_akin_28 w_413 ?_
        refine ev_iload_n 1 dX9_akin_31 rfl ?_
        refine ev_iload_n 2 dX9_akin_32 rfl ?_
        refine ev_callV (M' := mX3_akinOf) [.int x1, .int x2] vX3_akinOf G3 lay_22 dX9_akin_33 w_679 rfl rfl (Nat.le_of_ble_eq_true rfl) h ?_
        rintro r9 σ3 ⟨v3, rfl, h⟩
        refine ev_goto 40 dX9_akin_36 (by decide) ?_
        exact ev_iret rfl dX9_akin_40 h
theorem EX9_apart {N : Nat} {σ : Sg} {Q : Option Value → Sg → Prop} {x1 : Int32} {x2 : Int32} {x3 : Int32} (h : EvM (N + 1) mX3_tellApart [.ref 22, .int x1, .int x2, .int x3] σ (fun r9 σ1 => ∃ v1, r9 = some (.int v1) ∧ (Q (some (.int v1)) σ1))) : EvM (N + 2) mX9_apart [.ref 0, .int x1, .int x2, .int x3] σ Q := by
  refine ev_entry rfl (Nat.le_of_ble_eq_true rfl) (lv := [(0, .ref 0), (1, .int x1), (2, .int x2), (3, .int x3)]) rfl ?_
  refine ev_aload_n 0 dX9_apart_0 rfl ?_
  refine ev_getR (r := 22) G9 lay_0 (k := 2) rfl (Nat.le_of_ble_eq_true rfl) dX9_apart_1 w_413 ?_
  refine ev_iload_n 1 dX9_apart_4 rfl ?_
  refine ev_iload_n 2 dX9_apart_5 rfl ?_
  refine ev_iload_n 3 dX9_apart_6 rfl ?_
  refine ev_callV (M' := mX3_tellApart) [.int x1, .int x2, .int x3] vX3_tellApart G3 lay_22 dX9_apart_7 w_710 rfl rfl (Nat.le_of_ble_eq_true rfl) h ?_
  rintro r9 σ1 ⟨v1, rfl, h⟩
  exact ev_iret rfl dX9_apart_10 h
theorem EX9_grid {N : Nat} {σ : Sg} {Q : Option Value → Sg → Prop} {x1 : Int32} {x2 : Int32} (h : (x1 < 1 → Q (some (.int (-1))) σ) ∧ (¬ x1 < 1 → (3 < x1 → Q (some (.int (-1))) σ) ∧ (¬ 3 < x1 → EvM (N + 5) mX3_tell [.ref 22, .int x1, .int x2] σ (fun r9 σ1 => ∃ v1, r9 = some (.int v1) ∧ (Q (some (.int v1)) σ1))))) : EvM (N + 6) mX9_grid [.ref 0, .int x1, .int x2] σ Q := by
  refine ev_entry rfl (Nat.le_of_ble_eq_true rfl) (lv := [(0, .ref 0), (1, .int x1), (2, .int x2)]) rfl ?_
  refine ev_iload_n 1 dX9_grid_0 rfl ?_
  refine ev_iconst 1 dX9_grid_1 (by decide) ?_
  refine ev_icmp_lt 22 dX9_grid_2 (by decide) (fun c9 => ?_) (fun c9 => ?_)
  · replace h := h.1 c9
    refine ev_iconst (-1) dX9_grid_22 (by decide) ?_
    exact ev_iret rfl dX9_grid_23 h
  · replace h := h.2 c9
    refine ev_iload_n 1 dX9_grid_5 rfl ?_
    refine ev_iconst 3 dX9_grid_6 (by decide) ?_
    refine ev_icmp_gt 22 dX9_grid_7 (by decide) (fun c9 => ?_) (fun c9 => ?_)
    · replace h := h.1 c9
      refine ev_iconst (-1) dX9_grid_22 (by decide) ?_
      exact ev_iret rfl dX9_grid_23 h
    · replace h := h.2 c9
      refine ev_aload_n 0 dX9_grid_10 rfl ?_
      refine ev_getR (r := 22) G9 lay_0 (k := 2) rfl (Nat.le_of_ble_eq_true rfl) dX9_grid_11 w_413 ?_
      refine ev_iload_n 1 dX9_grid_14 rfl ?_
      refine ev_iload_n 2 dX9_grid_15 rfl ?_
      refine ev_callV (M' := mX3_tell) [.int x1, .int x2] vX3_tell G3 lay_22 dX9_grid_16 w_719 rfl rfl (Nat.le_of_ble_eq_true rfl) h ?_
      rintro r9 σ1 ⟨v1, rfl, h⟩
      refine ev_goto 23 dX9_grid_19 (by decide) ?_
      exact ev_iret rfl dX9_grid_23 h
theorem EX9_account {N : Nat} {σ : Sg} {Q : Option Value → Sg → Prop} {x1 : Int32} {x2 : Int32} (h : EvM (N + 2) mX0_add [.ref 102, .int x1, .int x2] σ (fun r9 σ1 => ∃ v1, r9 = some (.int v1) ∧ (Q (some (.int v1)) σ1))) : EvM (N + 3) mX9_account [.ref 0, .int x1, .int x2] σ Q := by
  refine ev_entry rfl (Nat.le_of_ble_eq_true rfl) (lv := [(0, .ref 0), (1, .int x1), (2, .int x2)]) rfl ?_
  refine ev_aload_n 0 dX9_account_0 rfl ?_
  refine ev_getR (r := 102) G9 lay_0 (k := 3) rfl (Nat.le_of_ble_eq_true rfl) dX9_account_1 w_414 ?_
  refine ev_iload_n 1 dX9_account_4 rfl ?_
  refine ev_iload_n 2 dX9_account_5 rfl ?_
  refine ev_callV (M' := mX0_add) [.int x1, .int x2] vX0_add G0 lay_102 dX9_account_6 w_761 rfl rfl (Nat.le_of_ble_eq_true rfl) h ?_
  rintro r9 σ1 ⟨v1, rfl, h⟩
  exact ev_iret rfl dX9_account_9 h
theorem EX9_values {N : Nat} {σ : Sg} {Q : Option Value → Sg → Prop} {x1 : Int32} (h : EvM (N + 3) mX0_tellFits [.ref 102, .int x1] σ (fun r9 σ1 => ∃ v1, r9 = some (.int v1) ∧ (Q (some (.int v1)) σ1))) : EvM (N + 4) mX9_values [.ref 0, .int x1] σ Q := by
  refine ev_entry rfl (Nat.le_of_ble_eq_true rfl) (lv := [(0, .ref 0), (1, .int x1)]) rfl ?_
  refine ev_aload_n 0 dX9_values_0 rfl ?_
  refine ev_getR (r := 102) G9 lay_0 (k := 3) rfl (Nat.le_of_ble_eq_true rfl) dX9_values_1 w_414 ?_
  refine ev_iload_n 1 dX9_values_4 rfl ?_
  refine ev_callV (M' := mX0_tellFits) [.int x1] vX0_tellFits G0 lay_102 dX9_values_5 w_775 rfl rfl (Nat.le_of_ble_eq_true rfl) h ?_
  rintro r9 σ1 ⟨v1, rfl, h⟩
  exact ev_iret rfl dX9_values_8 h
theorem EX9_sure {N : Nat} {σ : Sg} {Q : Option Value → Sg → Prop} {x1 : Int32} (h : EvM (N + 3) mX0_valuesSeen [.ref 102, .int x1] σ (fun r9 σ1 => ∃ v1, r9 = some (.int v1) ∧ (Q (some (.int v1)) σ1))) : EvM (N + 4) mX9_sure [.ref 0, .int x1] σ Q := by
  refine ev_entry rfl (Nat.le_of_ble_eq_true rfl) (lv := [(0, .ref 0), (1, .int x1)]) rfl ?_
  refine ev_aload_n 0 dX9_sure_0 rfl ?_
  refine ev_getR (r := 102) G9 lay_0 (k := 3) rfl (Nat.le_of_ble_eq_true rfl) dX9_sure_1 w_414 ?_
  refine ev_iload_n 1 dX9_sure_4 rfl ?_
  refine ev_callV (M' := mX0_valuesSeen) [.int x1] vX0_valuesSeen G0 lay_102 dX9_sure_5 w_805 rfl rfl (Nat.le_of_ble_eq_true rfl) h ?_
  rintro r9 σ1 ⟨v1, rfl, h⟩
  exact ev_iret rfl dX9_sure_8 h
theorem EX9_name {N : Nat} {σ : Sg} {Q : Option Value → Sg → Prop} {x1 : Int32} {x2 : Int32} (h : EvM (N + 1) mX4_add [.ref 115, .int x1, .int x2] σ (fun r9 σ1 => ∃ v1, r9 = some (.int v1) ∧ (Q (some (.int v1)) σ1))) : EvM (N + 2) mX9_name [.ref 0, .int x1, .int x2] σ Q := by
  refine ev_entry rfl (Nat.le_of_ble_eq_true rfl) (lv := [(0, .ref 0), (1, .int x1), (2, .int x2)]) rfl ?_
  refine ev_aload_n 0 dX9_name_0 rfl ?_
  refine ev_getR (r := 115) G9 lay_0 (k := 4) rfl (Nat.le_of_ble_eq_true rfl) dX9_name_1 w_415 ?_
  refine ev_iload_n 1 dX9_name_4 rfl ?_
  refine ev_iload_n 2 dX9_name_5 rfl ?_
  refine ev_callV (M' := mX4_add) [.int x1, .int x2] vX4_add G4 lay_115 dX9_name_6 w_813 rfl rfl (Nat.le_of_ble_eq_true rfl) h ?_
  rintro r9 σ1 ⟨v1, rfl, h⟩
  exact ev_iret rfl dX9_name_9 h
theorem EX9_dragged {N : Nat} {σ : Sg} {Q : Option Value → Sg → Prop} {x1 : Int32} {x2 : Int32} {x3 : Int32} (h : EvM (N + 4) mX4_drag [.ref 115, .int x1, .int x2, .int x3] σ (fun r9 σ1 => ∃ v1, r9 = some (.int v1) ∧ (Q (some (.int v1)) σ1))) : EvM (N + 5) mX9_dragged [.ref 0, .int x1, .int x2, .int x3] σ Q := by
  refine ev_entry rfl (Nat.le_of_ble_eq_true rfl) (lv := [(0, .ref 0), (1, .int x1), (2, .int x2), (3, .int x3)]) rfl ?_
  refine ev_aload_n 0 dX9_dragged_0 rfl ?_
  refine ev_getR (r := 115) G9 lay_0 (k := 4) rfl (Nat.le_of_ble_eq_true rfl) dX9_dragged_1 w_415 ?_
  refine ev_iload_n 1 dX9_dragged_4 rfl ?_
  refine ev_iload_n 2 dX9_dragged_5 rfl ?_
  refine ev_iload_n 3 dX9_dragged_6 rfl ?_
  refine ev_callV (M' := mX4_drag) [.int x1, .int x2, .int x3] vX4_drag G4 lay_115 dX9_dragged_7 w_824 rfl rfl (Nat.le_of_ble_eq_true rfl) h ?_
  rintro r9 σ1 ⟨v1, rfl, h⟩
  exact ev_iret rfl dX9_dragged_10 h
theorem EX9_together {N : Nat} {σ : Sg} {Q : Option Value → Sg → Prop} {x1 : Int32} {x2 : Int32} {x3 : Int32} {x4 : Int32} (h : EvM (N + 4) mX4_pairs [.ref 115, .int x1, .int x2, .int x3, .int x4] σ (fun r9 σ1 => ∃ v1, r9 = some (.int v1) ∧ (Q (some (.int v1)) σ1))) : EvM (N + 5) mX9_together [.ref 0, .int x1, .int x2, .int x3, .int x4] σ Q := by
  refine ev_entry rfl (Nat.le_of_ble_eq_true rfl) (lv := [(0, .ref 0), (1, .int x1), (2, .int x2), (3, .int x3), (4, .int x4)]) rfl ?_
  refine ev_aload_n 0 dX9_together_0 rfl ?_
  refine ev_getR (r := 115) G9 lay_0 (k := 4) rfl (Nat.le_of_ble_eq_true rfl) dX9_together_1 w_415 ?_
  refine ev_iload_n 1 dX9_together_4 rfl ?_
  refine ev_iload_n 2 dX9_together_5 rfl ?_
  refine ev_iload_n 3 dX9_together_6 rfl ?_
  refine ev_iload 4 dX9_together_7 rfl ?_
  refine ev_callV (M' := mX4_pairs) [.int x1, .int x2, .int x3, .int x4] vX4_pairs G4 lay_115 dX9_together_9 w_847 rfl rfl (Nat.le_of_ble_eq_true rfl) h ?_
  rintro r9 σ1 ⟨v1, rfl, h⟩
  exact ev_iret rfl dX9_together_12 h
theorem EX9_word {N : Nat} {σ : Sg} {Q : Option Value → Sg → Prop} {x1 : Int32} {x2 : Int32} (h : EvM (N + 1) mX8_add [.ref 122, .int x1, .int x2] σ (fun r9 σ1 => ∃ v1, r9 = some (.int v1) ∧ (Q (some (.int v1)) σ1))) : EvM (N + 2) mX9_word [.ref 0, .int x1, .int x2] σ Q := by
  refine ev_entry rfl (Nat.le_of_ble_eq_true rfl) (lv := [(0, .ref 0), (1, .int x1), (2, .int x2)]) rfl ?_
  refine ev_aload_n 0 dX9_word_0 rfl ?_
  refine ev_getR (r := 122) G9 lay_0 (k := 5) rfl (Nat.le_of_ble_eq_true rfl) dX9_word_1 w_416 ?_
  refine ev_iload_n 1 dX9_word_4 rfl ?_
  refine ev_iload_n 2 dX9_word_5 rfl ?_
  refine ev_callV (M' := mX8_add) [.int x1, .int x2] vX8_add G8 lay_122 dX9_word_6 w_855 rfl rfl (Nat.le_of_ble_eq_true rfl) h ?_
  rintro r9 σ1 ⟨v1, rfl, h⟩
  exact ev_iret rfl dX9_word_9 h
theorem EX9_tabled {N : Nat} {σ : Sg} {Q : Option Value → Sg → Prop} {x1 : Int32} (h : EvM (N + 5) mX8_signAt [.ref 122, .int x1] σ (fun r9 σ1 => ∃ v1, r9 = some (.int v1) ∧ (Q (some (.int v1)) σ1))) : EvM (N + 6) mX9_tabled [.ref 0, .int x1] σ Q := by
  refine ev_entry rfl (Nat.le_of_ble_eq_true rfl) (lv := [(0, .ref 0), (1, .int x1)]) rfl ?_
  refine ev_aload_n 0 dX9_tabled_0 rfl ?_
  refine ev_getR (r := 122) G9 lay_0 (k := 5) rfl (Nat.le_of_ble_eq_true rfl) dX9_tabled_1 w_416 ?_
  refine ev_iload_n 1 dX9_tabled_4 rfl ?_
  refine ev_callV (M' := mX8_signAt) [.int x1] vX8_signAt G8 lay_122 dX9_tabled_5 w_871 rfl rfl (Nat.le_of_ble_eq_true rfl) h ?_
  rintro r9 σ1 ⟨v1, rfl, h⟩
  exact ev_iret rfl dX9_tabled_8 h
theorem EX9_read {N : Nat} {σ : Sg} {Q : Option Value → Sg → Prop} {x1 : Int32} {x2 : Int32} (h : EvM (N + 5) mX8_readWith [.ref 122, .int x1, .int x2] σ (fun r9 σ1 => ∃ v1, r9 = some (.int v1) ∧ (Q (some (.int v1)) σ1))) : EvM (N + 6) mX9_read [.ref 0, .int x1, .int x2] σ Q := by
  refine ev_entry rfl (Nat.le_of_ble_eq_true rfl) (lv := [(0, .ref 0), (1, .int x1), (2, .int x2)]) rfl ?_
  refine ev_aload_n 0 dX9_read_0 rfl ?_
  refine ev_getR (r := 122) G9 lay_0 (k := 5) rfl (Nat.le_of_ble_eq_true rfl) dX9_read_1 w_416 ?_
  refine ev_iload_n 1 dX9_read_4 rfl ?_
  refine ev_iload_n 2 dX9_read_5 rfl ?_
  refine ev_callV (M' := mX8_readWith) [.int x1, .int x2] vX8_readWith G8 lay_122 dX9_read_6 w_888 rfl rfl (Nat.le_of_ble_eq_true rfl) h ?_
  rintro r9 σ1 ⟨v1, rfl, h⟩
  exact ev_iret rfl dX9_read_9 h
theorem EX9_best {N : Nat} {σ : Sg} {Q : Option Value → Sg → Prop} {x1 : Int32} {x2 : Int32} (h : EvM (N + 5) mX8_tellBest [.ref 122, .int x1, .int x2] σ (fun r9 σ1 => ∃ v1, r9 = some (.int v1) ∧ (Q (some (.int v1)) σ1))) : EvM (N + 6) mX9_best [.ref 0, .int x1, .int x2] σ Q := by
  refine ev_entry rfl (Nat.le_of_ble_eq_true rfl) (lv := [(0, .ref 0), (1, .int x1), (2, .int x2)]) rfl ?_
  refine ev_aload_n 0 dX9_best_0 rfl ?_
  refine ev_getR (r := 122) G9 lay_0 (k := 5) rfl (Nat.le_of_ble_eq_true rfl) dX9_best_1 w_416 ?_
  refine ev_iload_n 1 dX9_best_4 rfl ?_
  refine ev_iload_n 2 dX9_best_5 rfl ?_
  refine ev_callV (M' := mX8_tellBest) [.int x1, .int x2] vX8_tellBest G8 lay_122 dX9_best_6 w_931 rfl rfl (Nat.le_of_ble_eq_true rfl) h ?_
  rintro r9 σ1 ⟨v1, rfl, h⟩
  exact ev_iret rfl dX9_best_9 h
theorem EX9_judge {N : Nat} {σ : Sg} {Q : Option Value → Sg → Prop} {x1 : Int32} {x2 : Int32} {x3 : Int32} (h : EvM (N + 5) mX8_holdAgainst [.ref 122, .int x1, .int x2, .int x3] σ (fun r9 σ1 => ∃ v1, r9 = some (.int v1) ∧ (Q (some (.int v1)) σ1))) : EvM (N + 6) mX9_judge [.ref 0, .int x1, .int x2, .int x3] σ Q := by
  refine ev_entry rfl (Nat.le_of_ble_eq_true rfl) (lv := [(0, .ref 0), (1, .int x1), (2, .int x2), (3, .int x3)]) rfl ?_
  refine ev_aload_n 0 dX9_judge_0 rfl ?_
  refine ev_getR (r := 122) G9 lay_0 (k := 5) rfl (Nat.le_of_ble_eq_true rfl) dX9_judge_1 w_416 ?_
  refine ev_iload_n 1 dX9_judge_4 rfl ?_
  refine ev_iload_n 2 dX9_judge_5 rfl ?_
  refine ev_iload_n 3 dX9_judge_6 rfl ?_
  refine ev_callV (M' := mX8_holdAgainst) [.int x1, .int x2, .int x3] vX8_holdAgainst G8 lay_122 dX9_judge_7 w_951 rfl rfl (Nat.le_of_ble_eq_true rfl) h ?_
  rintro r9 σ1 ⟨v1, rfl, h⟩
  exact ev_iret rfl dX9_judge_10 h
theorem EX9_feed {N : Nat} {σ : Sg} {Q : Option Value → Sg → Prop} {y1 : Int64} (h : EvM N mX6_append [.ref 228, .long y1] σ (fun r9 σ1 => ∃ v1, r9 = some (.int v1) ∧ (Q (some (.int v1)) σ1))) : EvM (N + 1) mX9_feed [.ref 0, .long y1] σ Q := by
  refine ev_entry rfl (Nat.le_of_ble_eq_true rfl) (lv := [(0, .ref 0), (1, .long y1)]) rfl ?_
  refine ev_aload_n 0 dX9_feed_0 rfl ?_
  refine ev_getR (r := 228) G9 lay_0 (k := 6) rfl (Nat.le_of_ble_eq_true rfl) dX9_feed_1 w_417 ?_
  refine ev_lload_n 1 dX9_feed_4 rfl ?_
  refine ev_callV (M' := mX6_append) [.long y1] vX6_append G6 lay_228 dX9_feed_5 w_971 rfl rfl (Nat.le_of_ble_eq_true rfl) h ?_
  rintro r9 σ1 ⟨v1, rfl, h⟩
  exact ev_iret rfl dX9_feed_8 h
theorem EX9_end {N : Nat} {σ : Sg} {Q : Option Value → Sg → Prop} {x1 : Int32} (h : EvM N mX6_cut [.ref 228, .int x1] σ (fun r9 σ1 => ∃ v1, r9 = some (.int v1) ∧ (Q (some (.int v1)) σ1))) : EvM (N + 1) mX9_end [.ref 0, .int x1] σ Q := by
  refine ev_entry rfl (Nat.le_of_ble_eq_true rfl) (lv := [(0, .ref 0), (1, .int x1)]) rfl ?_
  refine ev_aload_n 0 dX9_end_0 rfl ?_
  refine ev_getR (r := 228) G9 lay_0 (k := 6) rfl (Nat.le_of_ble_eq_true rfl) dX9_end_1 w_417 ?_
  refine ev_iload_n 1 dX9_end_4 rfl ?_
  refine ev_callV (M' := mX6_cut) [.int x1] vX6_cut G6 lay_228 dX9_end_5 w_979 rfl rfl (Nat.le_of_ble_eq_true rfl) h ?_
  rintro r9 σ1 ⟨v1, rfl, h⟩
  exact ev_iret rfl dX9_end_8 h
theorem EX9_claims {N : Nat} {σ : Sg} {Q : Option Value → Sg → Prop} (h : EvM (N + 11) mX1_take [.ref 230] σ (fun r9 σ1 => ∃ v1, r9 = some (.int v1) ∧ (Q (some (.int v1)) σ1))) : EvM (N + 12) mX9_claims [.ref 0] σ Q := by
  refine ev_entry rfl (Nat.le_of_ble_eq_true rfl) (lv := [(0, .ref 0)]) rfl ?_
  refine ev_aload_n 0 dX9_claims_0 rfl ?_
  refine ev_getR (r := 230) G9 lay_0 (k := 7) rfl (Nat.le_of_ble_eq_true rfl) dX9_claims_1 w_418 ?_
  refine ev_callV (M' := mX1_take) [] vX1_take G1 lay_230 dX9_claims_4 w_987 rfl rfl (Nat.le_of_ble_eq_true rfl) h ?_
  rintro r9 σ1 ⟨v1, rfl, h⟩
  exact ev_iret rfl dX9_claims_7 h
theorem EX9_fault {N : Nat} {σ : Sg} {Q : Option Value → Sg → Prop} (h : Q (some (.int (σ.1 230 10))) σ) : EvM (N + 1) mX9_fault [.ref 0] σ Q := by
  refine ev_entry rfl (Nat.le_of_ble_eq_true rfl) (lv := [(0, .ref 0)]) rfl ?_
  refine ev_aload_n 0 dX9_fault_0 rfl ?_
  refine ev_getR (r := 230) G9 lay_0 (k := 7) rfl (Nat.le_of_ble_eq_true rfl) dX9_fault_1 w_418 ?_
  refine ev_callV (M' := mX1_latestFault) [] vX1_latestFault G1 lay_230 dX9_fault_4 w_1112 rfl rfl (Nat.le_of_ble_eq_true rfl) (EX1_latestFault (Q := fun r9 s9 => σ = s9 ∧ r9 = some (.int (σ.1 230 10))) ⟨rfl, rfl⟩) ?_
  rintro r9 s9 ⟨rfl, rfl⟩
  exact ev_iret rfl dX9_fault_7 h
theorem EX9_claim {N : Nat} {σ : Sg} {Q : Option Value → Sg → Prop} {x1 : Int32} {x2 : Int32} (h : EvM (N + 1) mX1_tell [.ref 230, .int x1, .int x2] σ (fun r9 σ1 => ∃ v1, r9 = some (.int v1) ∧ (Q (some (.int v1)) σ1))) : EvM (N + 2) mX9_claim [.ref 0, .int x1, .int x2] σ Q := by
  refine ev_entry rfl (Nat.le_of_ble_eq_true rfl) (lv := [(0, .ref 0), (1, .int x1), (2, .int x2)]) rfl ?_
  refine ev_aload_n 0 dX9_claim_0 rfl ?_
  refine ev_getR (r := 230) G9 lay_0 (k := 7) rfl (Nat.le_of_ble_eq_true rfl) dX9_claim_1 w_418 ?_
  refine ev_iload_n 1 dX9_claim_4 rfl ?_
  refine ev_iload_n 2 dX9_claim_5 rfl ?_
  refine ev_callV (M' := mX1_tell) [.int x1, .int x2] vX1_tell G1 lay_230 dX9_claim_6 w_1120 rfl rfl (Nat.le_of_ble_eq_true rfl) h ?_
  rintro r9 σ1 ⟨v1, rfl, h⟩
  exact ev_iret rfl dX9_claim_9 h
theorem EX9_withdraw {N : Nat} {σ : Sg} {Q : Option Value → Sg → Prop} {x1 : Int32} (h : EvM (N + 1) mX1_takeBack [.ref 230, .int x1] σ (fun r9 σ1 => ∃ v1, r9 = some (.int v1) ∧ (Q (some (.int v1)) σ1))) : EvM (N + 2) mX9_withdraw [.ref 0, .int x1] σ Q := by
  refine ev_entry rfl (Nat.le_of_ble_eq_true rfl) (lv := [(0, .ref 0), (1, .int x1)]) rfl ?_
  refine ev_aload_n 0 dX9_withdraw_0 rfl ?_
  refine ev_getR (r := 230) G9 lay_0 (k := 7) rfl (Nat.le_of_ble_eq_true rfl) dX9_withdraw_1 w_418 ?_
  refine ev_iload_n 1 dX9_withdraw_4 rfl ?_
  refine ev_callV (M' := mX1_takeBack) [.int x1] vX1_takeBack G1 lay_230 dX9_withdraw_5 w_1137 rfl rfl (Nat.le_of_ble_eq_true rfl) h ?_
  rintro r9 σ1 ⟨v1, rfl, h⟩
  exact ev_iret rfl dX9_withdraw_8 h
theorem EX9_day {N : Nat} {σ : Sg} {Q : Option Value → Sg → Prop} {x1 : Int32} (h : EvM N mX1_moveDay [.ref 230, .int x1] σ (fun r9 σ1 => ∃ v1, r9 = some (.int v1) ∧ (Q (some (.int v1)) σ1))) : EvM (N + 1) mX9_day [.ref 0, .int x1] σ Q := by
  refine ev_entry rfl (Nat.le_of_ble_eq_true rfl) (lv := [(0, .ref 0), (1, .int x1)]) rfl ?_
  refine ev_aload_n 0 dX9_day_0 rfl ?_
  refine ev_getR (r := 230) G9 lay_0 (k := 7) rfl (Nat.le_of_ble_eq_true rfl) dX9_day_1 w_418 ?_
  refine ev_iload_n 1 dX9_day_4 rfl ?_
  refine ev_callV (M' := mX1_moveDay) [.int x1] vX1_moveDay G1 lay_230 dX9_day_5 w_1145 rfl rfl (Nat.le_of_ble_eq_true rfl) h ?_
  rintro r9 σ1 ⟨v1, rfl, h⟩
  exact ev_iret rfl dX9_day_8 h
theorem EX9_known {N : Nat} {σ : Sg} {Q : Option Value → Sg → Prop} {x1 : Int32} {x2 : Int32} (h : EvM (N + 1) mX1_knownOn [.ref 230, .int x1, .int x2] σ (fun r9 σ1 => ∃ v1, r9 = some (.int v1) ∧ (Q (some (.int v1)) σ1))) : EvM (N + 2) mX9_known [.ref 0, .int x1, .int x2] σ Q := by
  refine ev_entry rfl (Nat.le_of_ble_eq_true rfl) (lv := [(0, .ref 0), (1, .int x1), (2, .int x2)]) rfl ?_
  refine ev_aload_n 0 dX9_known_0 rfl ?_
  refine ev_getR (r := 230) G9 lay_0 (k := 7) rfl (Nat.le_of_ble_eq_true rfl) dX9_known_1 w_418 ?_
  refine ev_iload_n 1 dX9_known_4 rfl ?_
  refine ev_iload_n 2 dX9_known_5 rfl ?_
  refine ev_callV (M' := mX1_knownOn) [.int x1, .int x2] vX1_knownOn G1 lay_230 dX9_known_6 w_1153 rfl rfl (Nat.le_of_ble_eq_true rfl) h ?_
  rintro r9 σ1 ⟨v1, rfl, h⟩
  exact ev_iret rfl dX9_known_9 h
theorem EX9_sheet {N : Nat} {σ : Sg} {Q : Option Value → Sg → Prop} {x1 : Int32} {x2 : Int32} {x3 : Int32} (h : EvM (N + 1) mX5_renew [.ref 237, .int x1, .int x2, .int x3] σ (fun r9 σ1 => ∃ v1, r9 = some (.int v1) ∧ (Q (some (.int v1)) σ1))) : EvM (N + 2) mX9_sheet [.ref 0, .int x1, .int x2, .int x3] σ Q := by
  refine ev_entry rfl (Nat.le_of_ble_eq_true rfl) (lv := [(0, .ref 0), (1, .int x1), (2, .int x2), (3, .int x3)]) rfl ?_
  refine ev_aload_n 0 dX9_sheet_0 rfl ?_
  refine ev_getR (r := 237) G9 lay_0 (k := 8) rfl (Nat.le_of_ble_eq_true rfl) dX9_sheet_1 w_419 ?_
  refine ev_iload_n 1 dX9_sheet_4 rfl ?_
  refine ev_iload_n 2 dX9_sheet_5 rfl ?_
  refine ev_iload_n 3 dX9_sheet_6 rfl ?_
  refine ev_callV (M' := mX5_renew) [.int x1, .int x2, .int x3] vX5_renew G5 lay_237 dX9_sheet_7 w_1165 rfl rfl (Nat.le_of_ble_eq_true rfl) h ?_
  rintro r9 σ1 ⟨v1, rfl, h⟩
  exact ev_iret rfl dX9_sheet_10 h
theorem EX9_lay {N : Nat} {σ : Sg} {Q : Option Value → Sg → Prop} {x1 : Int32} {x2 : Int32} {x3 : Int32} (h : EvM (N + 2) mX5_put [.ref 237, .int x1, .int x2, .int x3] σ (fun r9 σ1 => ∃ v1, r9 = some (.int v1) ∧ (Q (some (.int v1)) σ1))) : EvM (N + 3) mX9_lay [.ref 0, .int x1, .int x2, .int x3] σ Q := by
  refine ev_entry rfl (Nat.le_of_ble_eq_true rfl) (lv := [(0, .ref 0), (1, .int x1), (2, .int x2), (3, .int x3)]) rfl ?_
  refine ev_aload_n 0 dX9_lay_0 rfl ?_
  refine ev_getR (r := 237) G9 lay_0 (k := 8) rfl (Nat.le_of_ble_eq_true rfl) dX9_lay_1 w_419 ?_
  refine ev_iload_n 1 dX9_lay_4 rfl ?_
  refine ev_iload_n 2 dX9_lay_5 rfl ?_
  refine ev_iload_n 3 dX9_lay_6 rfl ?_
  refine ev_callV (M' := mX5_put) [.int x1, .int x2, .int x3] vX5_put G5 lay_237 dX9_lay_7 w_1174 rfl rfl (Nat.le_of_ble_eq_true rfl) h ?_
  rintro r9 σ1 ⟨v1, rfl, h⟩
  exact ev_iret rfl dX9_lay_10 h
theorem EX9_count {N : Nat} {σ : Sg} {Q : Option Value → Sg → Prop} {x1 : Int32} (h : (x1 = 0 → Q (some (.int (σ.1 1 3))) σ) ∧ (x1 = 1 → Q (some (.int (σ.1 5 4))) σ) ∧ (x1 = 2 → EvM (N + 3) mX7_timesOfAll [.ref 5] σ (fun r9 σ1 => ∃ v1, r9 = some (.int v1) ∧ (Q (some (.int v1)) σ1))) ∧ (x1 = 3 → Q (some (.int (σ.1 102 1))) σ) ∧ (x1 = 4 → Q (some (.int (σ.1 115 3))) σ) ∧ (x1 = 5 → Q (some (.int (σ.1 122 2))) σ) ∧ (x1 = 6 → Q (some (.int (σ.1 230 7))) σ) ∧ (x1 = 7 → EvM (N + 3) mX1_withdrawn [.ref 230] σ (fun r9 σ2 => ∃ v2, r9 = some (.int v2) ∧ (Q (some (.int v2)) σ2))) ∧ (x1 = 8 → Q (some (.int (σ.1 230 11))) σ) ∧ (x1 = 9 → Q (some (.int (σ.1 228 1))) σ) ∧ (x1 = 10 → EvM (N + 3) mX5_lengthOf [.ref 237, .int 0] σ (fun r9 σ3 => ∃ v3, r9 = some (.int v3) ∧ (Q (some (.int v3)) σ3))) ∧ (¬ x1 = 0 → ¬ x1 = 1 → ¬ x1 = 2 → ¬ x1 = 3 → ¬ x1 = 4 → ¬ x1 = 5 → ¬ x1 = 6 → ¬ x1 = 7 → ¬ x1 = 8 → ¬ x1 = 9 → ¬ x1 = 10 → Q (some (.int (-1))) σ)) : EvM (N + 4) mX9_count [.ref 0, .int x1] σ Q := by
  refine ev_entry rfl (Nat.le_of_ble_eq_true rfl) (lv := [(0, .ref 0), (1, .int x1)]) rfl ?_
  refine ev_iload_n 1 dX9_count_0 rfl ?_
  by_cases c0 : x1 = 0
  · replace h := h.1 c0
    refine ev_tableIn (off := (59)) 0 60 dX9_count_1 c0 (by decide) (by decide) rfl (by decide) ?_
    refine ev_aload_n 0 dX9_count_60 rfl ?_
    refine ev_getR (r := 1) G9 lay_0 (k := 0) rfl (Nat.le_of_ble_eq_true rfl) dX9_count_61 w_411 ?_
    refine ev_callV (M' := mX2_size) [] vX2_size G2 lay_1 dX9_count_64 w_1185 rfl rfl (Nat.le_of_ble_eq_true rfl) (EX2_size (Q := fun r9 s9 => σ = s9 ∧ r9 = some (.int (σ.1 1 3))) ⟨rfl, rfl⟩) ?_
    rintro r9 s9 ⟨rfl, rfl⟩
    exact ev_iret rfl dX9_count_67 h
  by_cases c1 : x1 = 1
  · replace h := h.2.1 c1
    refine ev_tableIn (off := (67)) 1 68 dX9_count_1 c1 (by decide) (by decide) rfl (by decide) ?_
    refine ev_aload_n 0 dX9_count_68 rfl ?_
    refine ev_getR (r := 5) G9 lay_0 (k := 1) rfl (Nat.le_of_ble_eq_true rfl) dX9_count_69 w_412 ?_
    refine ev_callV (M' := mX7_size) [] vX7_size G7 lay_5 dX9_count_72 w_1186 rfl rfl (Nat.le_of_ble_eq_true rfl) (EX7_size (Q := fun r9 s9 => σ = s9 ∧ r9 = some (.int (σ.1 5 4))) ⟨rfl, rfl⟩) ?_
    rintro r9 s9 ⟨rfl, rfl⟩
    exact ev_iret rfl dX9_count_75 h
  by_cases c2 : x1 = 2
  · replace h := h.2.2.1 c2
    refine ev_tableIn (off := (75)) 2 76 dX9_count_1 c2 (by decide) (by decide) rfl (by decide) ?_
    refine ev_aload_n 0 dX9_count_76 rfl ?_
    refine ev_getR (r := 5) G9 lay_0 (k := 1) rfl (Nat.le_of_ble_eq_true rfl) dX9_count_77 w_412 ?_
    refine ev_callV (M' := mX7_timesOfAll) [] vX7_timesOfAll G7 lay_5 dX9_count_80 w_1190 rfl rfl (Nat.le_of_ble_eq_true rfl) h ?_
    rintro r9 σ1 ⟨v1, rfl, h⟩
    exact ev_iret rfl dX9_count_83 h
  by_cases c3 : x1 = 3
  · replace h := h.2.2.2.1 c3
    refine ev_tableIn (off := (83)) 3 84 dX9_count_1 c3 (by decide) (by decide) rfl (by decide) ?_
    refine ev_aload_n 0 dX9_count_84 rfl ?_
    refine ev_getR (r := 102) G9 lay_0 (k := 3) rfl (Nat.le_of_ble_eq_true rfl) dX9_count_85 w_414 ?_
    refine ev_callV (M' := mX0_size) [] vX0_size G0 lay_102 dX9_count_88 w_1191 rfl rfl (Nat.le_of_ble_eq_true rfl) (EX0_size (Q := fun r9 s9 => σ = s9 ∧ r9 = some (.int (σ.1 102 1))) ⟨rfl, rfl⟩) ?_
    rintro r9 s9 ⟨rfl, rfl⟩
    exact ev_iret rfl dX9_count_91 h
  by_cases c4 : x1 = 4
  · replace h := h.2.2.2.2.1 c4
    refine ev_tableIn (off := (91)) 4 92 dX9_count_1 c4 (by decide) (by decide) rfl (by decide) ?_
    refine ev_aload_n 0 dX9_count_92 rfl ?_
    refine ev_getR (r := 115) G9 lay_0 (k := 4) rfl (Nat.le_of_ble_eq_true rfl) dX9_count_93 w_415 ?_
    refine ev_callV (M' := mX4_size) [] vX4_size G4 lay_115 dX9_count_96 w_1195 rfl rfl (Nat.le_of_ble_eq_true rfl) (EX4_size (Q := fun r9 s9 => σ = s9 ∧ r9 = some (.int (σ.1 115 3))) ⟨rfl, rfl⟩) ?_
    rintro r9 s9 ⟨rfl, rfl⟩
    exact ev_iret rfl dX9_count_99 h
  by_cases c5 : x1 = 5
  · replace h := h.2.2.2.2.2.1 c5
    refine ev_tableIn (off := (99)) 5 100 dX9_count_1 c5 (by decide) (by decide) rfl (by decide) ?_
    refine ev_aload_n 0 dX9_count_100 rfl ?_
    refine ev_getR (r := 122) G9 lay_0 (k := 5) rfl (Nat.le_of_ble_eq_true rfl) dX9_count_101 w_416 ?_
    refine ev_callV (M' := mX8_size) [] vX8_size G8 lay_122 dX9_count_104 w_1199 rfl rfl (Nat.le_of_ble_eq_true rfl) (EX8_size (Q := fun r9 s9 => σ = s9 ∧ r9 = some (.int (σ.1 122 2))) ⟨rfl, rfl⟩) ?_
    rintro r9 s9 ⟨rfl, rfl⟩
    exact ev_iret rfl dX9_count_107 h
  by_cases c6 : x1 = 6
  · replace h := h.2.2.2.2.2.2.1 c6
    refine ev_tableIn (off := (107)) 6 108 dX9_count_1 c6 (by decide) (by decide) rfl (by decide) ?_
    refine ev_aload_n 0 dX9_count_108 rfl ?_
    refine ev_getR (r := 230) G9 lay_0 (k := 7) rfl (Nat.le_of_ble_eq_true rfl) dX9_count_109 w_418 ?_
    refine ev_callV (M' := mX1_size) [] vX1_size G1 lay_230 dX9_count_112 w_1203 rfl rfl (Nat.le_of_ble_eq_true rfl) (EX1_size (Q := fun r9 s9 => σ = s9 ∧ r9 = some (.int (σ.1 230 7))) ⟨rfl, rfl⟩) ?_
    rintro r9 s9 ⟨rfl, rfl⟩
    exact ev_iret rfl dX9_count_115 h
  by_cases c7 : x1 = 7
  · replace h := h.2.2.2.2.2.2.2.1 c7
    refine ev_tableIn (off := (115)) 7 116 dX9_count_1 c7 (by decide) (by decide) rfl (by decide) ?_
    refine ev_aload_n 0 dX9_count_116 rfl ?_
    refine ev_getR (r := 230) G9 lay_0 (k := 7) rfl (Nat.le_of_ble_eq_true rfl) dX9_count_117 w_418 ?_
    refine ev_callV (M' := mX1_withdrawn) [] vX1_withdrawn G1 lay_230 dX9_count_120 w_1207 rfl rfl (Nat.le_of_ble_eq_true rfl) h ?_
    rintro r9 σ2 ⟨v2, rfl, h⟩
    exact ev_iret rfl dX9_count_123 h
  by_cases c8 : x1 = 8
  · replace h := h.2.2.2.2.2.2.2.2.1 c8
    refine ev_tableIn (off := (123)) 8 124 dX9_count_1 c8 (by decide) (by decide) rfl (by decide) ?_
    refine ev_aload_n 0 dX9_count_124 rfl ?_
    refine ev_getR (r := 230) G9 lay_0 (k := 7) rfl (Nat.le_of_ble_eq_true rfl) dX9_count_125 w_418 ?_
    refine ev_callV (M' := mX1_today) [] vX1_today G1 lay_230 dX9_count_128 w_1211 rfl rfl (Nat.le_of_ble_eq_true rfl) (EX1_today (Q := fun r9 s9 => σ = s9 ∧ r9 = some (.int (σ.1 230 11))) ⟨rfl, rfl⟩) ?_
    rintro r9 s9 ⟨rfl, rfl⟩
    exact ev_iret rfl dX9_count_131 h
  by_cases c9 : x1 = 9
  · replace h := h.2.2.2.2.2.2.2.2.2.1 c9
    refine ev_tableIn (off := (131)) 9 132 dX9_count_1 c9 (by decide) (by decide) rfl (by decide) ?_
    refine ev_aload_n 0 dX9_count_132 rfl ?_
    refine ev_getR (r := 228) G9 lay_0 (k := 6) rfl (Nat.le_of_ble_eq_true rfl) dX9_count_133 w_417 ?_
    refine ev_callV (M' := mX6_length) [] vX6_length G6 lay_228 dX9_count_136 w_1215 rfl rfl (Nat.le_of_ble_eq_true rfl) (EX6_length (Q := fun r9 s9 => σ = s9 ∧ r9 = some (.int (σ.1 228 1))) ⟨rfl, rfl⟩) ?_
    rintro r9 s9 ⟨rfl, rfl⟩
    exact ev_iret rfl dX9_count_139 h
  by_cases c10 : x1 = 10
  · replace h := h.2.2.2.2.2.2.2.2.2.2.1 c10
    refine ev_tableIn (off := (139)) 10 140 dX9_count_1 c10 (by decide) (by decide) rfl (by decide) ?_
    refine ev_aload_n 0 dX9_count_140 rfl ?_
    refine ev_getR (r := 237) G9 lay_0 (k := 8) rfl (Nat.le_of_ble_eq_true rfl) dX9_count_141 w_419 ?_
    refine ev_iconst 0 dX9_count_144 (by decide) ?_
    refine ev_callV (M' := mX5_lengthOf) [.int 0] vX5_lengthOf G5 lay_237 dX9_count_145 w_1219 rfl rfl (Nat.le_of_ble_eq_true rfl) h ?_
    rintro r9 σ3 ⟨v3, rfl, h⟩
    exact ev_iret rfl dX9_count_148 h
  replace h := h.2.2.2.2.2.2.2.2.2.2.2 c0 c1 c2 c3 c4 c5 c6 c7 c8 c9 c10
  refine ev_tableOut 149 dX9_count_1 ?_ (by decide) ?_
  · have hn : ∀ k : Int32, ¬ x1 = k → ¬ (x1).toInt = k.toInt := fun k q e => q (Int32.toInt_inj.mp e)
    have e0 := hn _ c0
    have e1 := hn _ c1
    have e2 := hn _ c2
    have e3 := hn _ c3
    have e4 := hn _ c4
    have e5 := hn _ c5
    have e6 := hn _ c6
    have e7 := hn _ c7
    have e8 := hn _ c8
    have e9 := hn _ c9
    have e10 := hn _ c10
    rw [show (0 : Int32).toInt = 0 from by decide] at e0; rw [show (1 : Int32).toInt = 1 from by decide] at e1; rw [show (2 : Int32).toInt = 2 from by decide] at e2; rw [show (3 : Int32).toInt = 3 from by decide] at e3; rw [show (4 : Int32).toInt = 4 from by decide] at e4; rw [show (5 : Int32).toInt = 5 from by decide] at e5; rw [show (6 : Int32).toInt = 6 from by decide] at e6; rw [show (7 : Int32).toInt = 7 from by decide] at e7; rw [show (8 : Int32).toInt = 8 from by decide] at e8; rw [show (9 : Int32).toInt = 9 from by decide] at e9; rw [show (10 : Int32).toInt = 10 from by decide] at e10
    omega
  · refine ev_iconst (-1) dX9_count_149 (by decide) ?_
    exact ev_iret rfl dX9_count_150 h
